/-! FlatLoader(): the first 54 cells -/
def mods : Nat → List Dscx
  | 0 => []
  | n + 1 => mods n ++ mdD (kM n)
theorem mods_len : ∀ n, (mods n).length = 6 * n
  | 0 => rfl
  | n + 1 => by
    show (mods n ++ mdD (kM n)).length = 6 * (n + 1)
    rw [List.length_append, mods_len n]
    show 6 * n + 6 = 6 * (n + 1)
    omega
def dF1 : Dscx := .inl (2, [some (some 1), none, none, some none, some none, some none])
def dAm (n : Nat) : Dscx := .inr (3, 8, fun i => if i < n then some (kM i) else none)
def layA (n : Nat) : List Dscx := [dF1, dAm n] ++ mods n
theorem layA_len (n : Nat) : (layA n).length = kM n := by
  unfold layA
  rw [List.length_append, mods_len]
  rfl
def gFm : Nat → Mem
  | 0 => fun _ _ => 0
  | n + 1 => fil (gFm n) (kM n + 1) 24
theorem gFm_hi : ∀ (n k : Nat), kM n ≤ k → ∀ i, gFm n k i = 0
  | 0, _, _, _ => rfl
  | n + 1, k, h, i => by
    have h1 : kM n + 6 ≤ k := by
      unfold kM at h ⊢
      omega
    show fil (gFm n) (kM n + 1) 24 k i = 0
    rw [fil_hi (by omega)]
    exact gFm_hi n k (by omega) i
theorem gFm_0 : ∀ (n i : Nat), gFm n 0 i = 0
  | 0, _ => rfl
  | n + 1, i => by
    show fil (gFm n) (kM n + 1) 24 0 i = 0
    rw [fil_lo (by omega)]
    exact gFm_0 n i
theorem layA_up (n : Nat) : (layA n ++ mdD (kM n)).set 1 (.inr (3, 8, va_up (fun i => if i < n then some (kM i) else none) n (some (kM n)))) = layA (n + 1) := by
  have e1 : va_up (fun i => if i < n then some (kM i) else none) n (some (kM n)) = fun i => if i < n + 1 then some (kM i) else none := by
    funext i
    by_cases h : i = n
    · subst h
      simp [va_up]
    · have h2 : i < n ↔ i < n + 1 := by omega
      simp [va_up, h, h2]
  rw [e1]
  unfold layA
  show [dF1, dAm (n + 1)] ++ mods n ++ mdD (kM n) = [dF1, dAm (n + 1)] ++ (mods n ++ mdD (kM n))
  rw [List.append_assoc]
def layF : List Dscx := dF :: dAm 8 :: (mods 8 ++ [dR, ia 8, ia 10, ia 10])
def gF : Mem := gFm 8
def rm_X2_init : Room := { frames := 2, cells := 53, slots := 632, locals := 60 }
set_option maxRecDepth 100000 in
set_option maxHeartbeats 8000000 in
theorem c_X2_init {l : Launch} {D : va_G} {cA : Nat → ClassId} {lo : Nat} : Met l yX2_init wsX2_init rm_X2_init (Pi_ [.ref (adL lo 0)] D cA lo (fun _ _ => 0) [.inl (2, [some none, none, none, some none, some none, some none])]) (Qi D cA lo gF layF) 53 632 (fun q => lo ≤ q) := by
  refine startI (cc := cX2_init) (maxL := 2) (ret := none) (by decide) rfl (Nat.le_of_ble_eq_true rfl) ?_
  intro p e s m args below meth c ls S hr hlocks hi hB hl
  obtain ⟨hH, hP, hK, hN, hO⟩ := hB
  have hS : va_S (fun q => lo ≤ q) s.heap s.heap [] := va_S.rf
  have S : CallFix p m c cX2_init 2 s args wsX2_init RX2 := S
  have hl : lv_has ls 2 [(0, .ref (adL lo 0))] := hl
  have hi : meth.name = "<init>" := hi
  have hn2 : ∀ w ∈ wsX20, w ∈ wsX2_init := by decide +kernel
  have hn0 : ∀ w ∈ wsX00, w ∈ wsX2_init := by decide +kernel
  have hn1 : ∀ w ∈ wsX10, w ∈ wsX2_init := by decide +kernel
  have hH : s.heap.size = lo + 1 := hH
  have hlo : lo ≤ s.heap.size := by omega
  have fc0 : s.vm.findClass ("[" ++ (newarray.typeOf .int).toString) = some (cA 0) := (hK.2 0 _ rfl).2
  have lk11 := S.2.2.2.2 (.fieldLink RX2 11 "FlatLoader" "modules" "[LFlatLoader$OneModule;") (by decide +kernel)
  have lk16 := S.2.2.2.2 (.fieldLink RX2 16 "FlatLoader" "presentSet" "I") (by decide +kernel)
  have lk20 := S.2.2.2.2 (.fieldLink RX2 20 "FlatLoader" "loadedSet" "I") (by decide +kernel)
  have lk26 := S.2.2.2.2 (.fieldLink RX2 26 "FlatLoader" "row" "LFlatLoader$Row;") (by decide +kernel)
  have lk30 := S.2.2.2.2 (.fieldLink RX2 30 "FlatLoader" "chainModules" "[I") (by decide +kernel)
  have lk34 := S.2.2.2.2 (.fieldLink RX2 34 "FlatLoader" "chainNames" "[I") (by decide +kernel)
  have tail : ∀ (G : Mem) (A : Dscx) (Y : List Dscx), Y.length = 48 → (∀ i, G 0 i = 0) → (∀ k, 50 ≤ k → ∀ i, G k i = 0) → ∀ (H : Heap) (locs : List Loc), va_P D vwCl (wld cA (adL lo) G (dF1 :: A :: Y)) H → va_S (fun q => lo ≤ q) s.heap H locs → ∀ (ls : Array Slot), lv_has ls 2 [(0, .ref (adL lo 0))] → W p l e rm_X2_init s m args below meth c H locs 49 600 (MQ below (Qi D cA lo G (dF :: A :: (Y ++ [dR, ia 8, ia 10, ia 10]))) args s 53 632 (fun q => lo ≤ q)) (F0 m 40 ls []) := by
    intro G A Y hY hG0 hGh H locs hP hS ls hl
    have hlen : (dF1 :: A :: Y).length = 50 := by simp only [List.length_cons, hY]
    refine lv_aload_n S.1 S.2.1 dX2_init_40 rfl (lv_at hl 0 rfl) ?_
    refine lv_iconst (v := 0) S.1 S.2.1 dX2_init_41 (by decide) ?_
    refine r_put (C := RX2) (T := TX2) (N := 6) (ci := 2) (k := 0) (j := 1) (fs := [some (some 1), none, none, some none, some none, some none]) (v := 0) tyX2 tyX2_ok nmX2 S (adL_ok lo _) hK hP hS hn2 lk16 rfl (by decide) rfl (by decide +kernel) rfl rfl dX2_init_42 (fun H locs hP hS => ?_)
    rw [mup_self (hG0 1)] at hP
    refine lv_aload_n S.1 S.2.1 dX2_init_45 rfl (lv_at hl 0 rfl) ?_
    refine lv_iconst (v := 0) S.1 S.2.1 dX2_init_46 (by decide) ?_
    refine r_put (C := RX2) (T := TX2) (N := 6) (ci := 2) (k := 0) (j := 2) (fs := [some (some 1), none, none, some none, some none, some none]) (v := 0) tyX2 tyX2_ok nmX2 S (adL_ok lo _) hK hP hS hn2 lk20 rfl (by decide) rfl (by decide +kernel) rfl rfl dX2_init_47 (fun H locs hP hS => ?_)
    rw [mup_self (hG0 2)] at hP
    refine lv_aload_n S.1 S.2.1 dX2_init_50 rfl (lv_at hl 0 rfl) ?_
    refine n_new (C := RX1) (T := TX1) (N := 4) (ci := 1) (fs := [some none, none, none, none]) (lay := dF1 :: A :: Y) tyX1 tyX1_ok S hK hn1 (by decide +kernel) (by decide +kernel) (by decide +kernel) hlo (by rw [hlen, hH]) hP hS (fun i => hGh _ (by rw [hlen]; exact Nat.le_refl _) i) rfl (fun j hj => by rcases (show j = 0 ∨ j = 1 ∨ j = 2 ∨ j = 3 by omega) with rfl | rfl | rfl | rfl <;> rfl) (Nat.le_of_ble_eq_true rfl) (Nat.le_of_ble_eq_true rfl) dX2_init_51 (fun H hP hS => ?_)
    refine lv_dup S.1 S.2.1 dX2_init_54 rfl ?_
    refine n_sz (lay := (dF1 :: A :: Y) ++ [.inl (1, [some none, none, none, none])]) hlo (by rw [List.length_append, hlen, hH]; rfl) hP hS (fun hHz => ?_)
    refine k_I (va_runIN (As := []) (rest := [.ref (adL lo (dF1 :: A :: Y).length), .ref (adL lo 0)]) S (c_X1_init (L := dF1 :: A :: Y) (fun k h i => hGh k (by rw [hlen] at h; exact h) i)) ⟨va_cnB 0 S.2.2.2.2 gX2_init_X1_init_n25 rfl rfl rfl (hN (.methodLinkNest RX2 25 yX1_init "FlatLoader") (by decide +kernel)) (S.2.2.2.2 (.initialized RX1) (by decide +kernel)) (by decide +kernel) ⟨Nat.le_of_ble_eq_true rfl, Nat.le_of_ble_eq_true rfl⟩, rfl, S.2.2.2.2 (.instanceMethod yX1_init) (by decide +kernel)⟩ ⟨Pi_blind, Pi_at hHz hP hK hN hO⟩ rfl rfl hl.1 rfl (lv_room (Nat.le_of_ble_eq_true rfl)) dX2_init_55 ⟨Nat.le_of_ble_eq_true rfl, Nat.le_of_ble_eq_true rfl⟩) hS (fun H locs hP hS => ?_)
    rw [hlen] at hP ⊢
    have hP : va_P D vwCl (wld cA (adL lo) G (dF1 :: A :: (Y ++ [dR, ia 8]))) H := hP
    refine n_putF (C := RX2) (T := TX2) (N := 6) (ci := 2) (k := 0) (j := 3) (q := 50) (fs := [some (some 1), none, none, some none, some none, some none]) (ty1 := .object "FlatLoader$Row") tyX2 tyX2_ok nmX2 S hK hP hS hn2 lk26 rfl (by decide) rfl hi rfl (by decide +kernel) rfl rfl rfl (by decide) dX2_init_58 (fun H locs hP hS => ?_)
    have hP : va_P D vwCl (wld cA (adL lo) G (.inl (2, [some (some 1), none, none, some (some 50), some none, some none]) :: A :: (Y ++ [dR, ia 8]))) H := hP
    have hlen2 : (.inl (2, [some (some 1), none, none, some (some 50), some none, some none]) :: A :: (Y ++ [dR, ia 8]) : List Dscx).length = 52 := by simp only [List.length_cons, List.length_append, List.length_nil, hY]
    refine lv_aload_n S.1 S.2.1 dX2_init_61 rfl (lv_at hl 0 rfl) ?_
    refine lv_bipush (v := 10) S.1 S.2.1 dX2_init_62 (by decide) ?_
    refine n_arr (atype := .int) (cA := cA) (t := 0) (N := 10) S (by decide +kernel) fc0 (cell_i _ _ _) hlo (by rw [hlen2, hH]) hP hS (fun i => hGh _ (by rw [hlen2]; decide) i) (by decide) rfl (by decide) (Nat.le_of_ble_eq_true rfl) (Nat.le_of_ble_eq_true rfl) dX2_init_64 (fun H hP hS => ?_)
    rw [hlen2]
    have hP : va_P D vwCl (wld cA (adL lo) G (.inl (2, [some (some 1), none, none, some (some 50), some none, some none]) :: A :: (Y ++ [dR, ia 8] ++ [ia 10]))) H := hP
    refine n_putF (C := RX2) (T := TX2) (N := 6) (ci := 2) (k := 0) (j := 4) (q := 52) (fs := [some (some 1), none, none, some (some 50), some none, some none]) (ty1 := .array .int) tyX2 tyX2_ok nmX2 S hK hP hS hn2 lk30 rfl (by decide) rfl hi rfl (by decide +kernel) rfl rfl rfl (by decide) dX2_init_66 (fun H locs hP hS => ?_)
    have hP : va_P D vwCl (wld cA (adL lo) G (.inl (2, [some (some 1), none, none, some (some 50), some (some 52), some none]) :: A :: (Y ++ [dR, ia 8] ++ [ia 10]))) H := hP
    have hlen3 : (.inl (2, [some (some 1), none, none, some (some 50), some (some 52), some none]) :: A :: (Y ++ [dR, ia 8] ++ [ia 10]) : List Dscx).length = 53 := by simp only [List.length_cons, List.length_append, List.length_nil, hY]
    refine lv_aload_n S.1 S.2.1 dX2_init_69 rfl (lv_at hl 0 rfl) ?_
    refine lv_bipush (v := 10) S.1 S.2.1 dX2_init_70 (by decide) ?_
    refine n_arr (atype := .int) (cA := cA) (t := 0) (N := 10) S (by decide +kernel) fc0 (cell_i _ _ _) hlo (by rw [hlen3, hH]) hP hS (fun i => hGh _ (by rw [hlen3]; decide) i) (by decide) rfl (by decide) (Nat.le_of_ble_eq_true rfl) (Nat.le_of_ble_eq_true rfl) dX2_init_72 (fun H hP hS => ?_)
    rw [hlen3]
    have hP : va_P D vwCl (wld cA (adL lo) G (.inl (2, [some (some 1), none, none, some (some 50), some (some 52), some none]) :: A :: (Y ++ [dR, ia 8] ++ [ia 10] ++ [ia 10]))) H := hP
    refine n_putF (C := RX2) (T := TX2) (N := 6) (ci := 2) (k := 0) (j := 5) (q := 53) (fs := [some (some 1), none, none, some (some 50), some (some 52), some none]) (ty1 := .array .int) tyX2 tyX2_ok nmX2 S hK hP hS hn2 lk34 rfl (by decide) rfl hi rfl (by decide +kernel) rfl rfl rfl (by decide) dX2_init_74 (fun H locs hP hS => ?_)
    have hP : va_P D vwCl (wld cA (adL lo) G (dF :: A :: (Y ++ [dR, ia 8] ++ [ia 10] ++ [ia 10]))) H := hP
    exact e_I S hr hlocks hP hS rfl (by rw [List.append_assoc, List.append_assoc]; rfl) (Nat.le_of_ble_eq_true rfl) (Nat.le_of_ble_eq_true rfl) dX2_init_77
  have key : ∀ (n i : Nat) (x : Int32), i ≤ 8 → 9 ≤ i + n → x = nI i → ∀ (H : Heap) (locs : List Loc), va_P D vwCl (wld cA (adL lo) (gFm i) (layA i)) H → va_S (fun q => lo ≤ q) s.heap H locs → ∀ (ls : Array Slot), lv_has ls 2 [(0, .ref (adL lo 0)), (1, .int x)] → W p l e rm_X2_init s m args below meth c H locs (1 + 6 * i) (8 + 74 * i) (MQ below (Qi D cA lo gF layF) args s 53 632 (fun q => lo ≤ q)) (F0 m 15 ls []) := by
    intro n
    induction n with
    | zero =>
      intro i x h1 h2
      omega
    | succ n ih =>
      intro i x hi8 hin ex H locs hP hS ls hl
      refine lv_iload_n S.1 S.2.1 dX2_init_15 rfl (lv_at hl 1 rfl) ?_
      refine lv_bipush (v := 8) S.1 S.2.1 dX2_init_16 (by decide) ?_
      refine lv_icmp_ge (tgt := 40) S.1 S.2.1 dX2_init_18 (by decide) (fun hc => ?_) (fun hc => ?_)
      · have hi2 : i = 8 := by
          rcases Nat.lt_or_ge i 8 with h | h
          · exact absurd hc (by rw [ex]; exact nI_ge h (by decide))
          · omega
        subst hi2
        exact tail (gFm 8) (dAm 8) (mods 8) (mods_len 8) (gFm_0 8) (gFm_hi 8) H locs hP hS ls (lv_sub hl [0] rfl)
      · have hlt : i < 8 := by
          rcases Nat.lt_or_ge i 8 with h | h
          · exact h
          · exact absurd (by rw [ex]; exact nI_le h (by omega)) hc
        have hv : vp_in x 8 := by rw [ex]; exact vp_in_nI hlt (by decide)
        have hx : x.toNatClampNeg = i := by rw [ex]; exact nI_clamp (by omega)
        have hlen := layA_len i
        refine lv_aload_n S.1 S.2.1 dX2_init_21 rfl (lv_at hl 0 rfl) ?_
        refine r_get (C := RX2) (T := TX2) (N := 6) (ci := 2) (k := 0) (j := 0) (fs := [some (some 1), none, none, some none, some none, some none]) (d := some (some 1)) (v := .ref (adL lo 1)) S hK hP hn2 lk11 rfl (by decide) rfl rfl rfl dX2_init_22 ?_
        refine lv_iload_n S.1 S.2.1 dX2_init_25 rfl (lv_at hl 1 rfl) ?_
        refine n_new (C := RX0) (T := TX0) (N := 8) (ci := 0) (fs := [some none, some none, some none, some none, some none, none, none, none]) (lay := layA i) tyX0 tyX0_ok S hK hn0 (by decide +kernel) (by decide +kernel) (by decide +kernel) hlo (by rw [hlen, hH]; unfold kM; omega) hP hS (fun j => gFm_hi i _ (by rw [hlen]; exact Nat.le_refl _) j) rfl (fun j hj => by rcases lt8 hj with rfl | rfl | rfl | rfl | rfl | rfl | rfl | rfl <;> rfl) (by show 1 + 6 * i + 1 ≤ 53; omega) (by show 8 + 74 * i + 8 ≤ 632; omega) dX2_init_26 (fun H hP hS => ?_)
        refine lv_dup S.1 S.2.1 dX2_init_29 rfl ?_
        refine n_sz (lay := layA i ++ [.inl (0, [some none, some none, some none, some none, some none, none, none, none])]) hlo (by rw [List.length_append, hlen, hH]; unfold kM; simp only [List.length_cons, List.length_nil]; omega) hP hS (fun hHz => ?_)
        refine k_I (va_runIN (As := []) (rest := [.ref (adL lo (layA i).length), .int x, .ref (adL lo 1)]) S (c_X0_init (L := layA i) (fun k h j => gFm_hi i k (by rw [hlen] at h; exact h) j)) ⟨va_cnB 0 S.2.2.2.2 gX2_init_X0_init_n15 rfl rfl rfl (hN (.methodLinkNest RX2 15 yX0_init "FlatLoader") (by decide +kernel)) (S.2.2.2.2 (.initialized RX0) (by decide +kernel)) (by decide +kernel) ⟨Nat.le_of_ble_eq_true rfl, Nat.le_of_ble_eq_true rfl⟩, rfl, S.2.2.2.2 (.instanceMethod yX0_init) (by decide +kernel)⟩ ⟨Pi_blind, Pi_at hHz hP hK hN hO⟩ rfl rfl hl.1 rfl (lv_room (Nat.le_of_ble_eq_true rfl)) dX2_init_30 ⟨by show 1 + 6 * i + 1 + 5 ≤ 53; omega, by show 8 + 74 * i + 8 + 66 ≤ 632; omega⟩) hS (fun H locs hP hS => ?_)
        rw [hlen] at hP ⊢
        have hq := la_get (layA i) (mdD (kM i)) 0
        rw [hlen] at hq
        refine n_ast (k := 1) (q := kM i) (n := 8) (f := fun z => if z < i then some (kM z) else none) (fs := fsM (kM i)) S hK hP hS rfl hq hv dX2_init_33 (fun H locs hP hS => ?_)
        rw [hx, layA_up] at hP
        refine lv_iinc (v := x + 1) (lv' := [(1, .int (x + 1)), (0, .ref (adL lo 0))]) S.1 S.2.1 dX2_init_34 hl (k := 1) rfl rfl (by decide) rfl (fun ls hl => ?_)
        refine lv_goto (tgt := 15) S.1 S.2.1 dX2_init_37 (by decide) ?_
        refine W.widen (k := 1 + 6 * (i + 1)) (n := 8 + 74 * (i + 1)) (by omega) (by omega) ?_
        exact ih (i + 1) (x + 1) (by omega) (by omega) (by rw [ex]; exact nI_1 i) H locs hP hS ls (lv_sub hl [1, 0] rfl)
  refine lv_aload_n S.1 S.2.1 dX2_init_0 rfl (lv_at hl 0 rfl) ?_
  refine W.objInit S.1 S.2.1 S.2.2.2.1 (S.2.2.2.2 (.methodLink RX2 3 objectInit) (by decide +kernel)) (S.2.2.2.2 (.instanceMethod objectInit) (by decide +kernel)) (S.2.2.2.2 (.code objectInit ⟨#[0xb1]⟩ 1 none) (by decide +kernel)) rfl (by rw [S.2.2.1]; exact hl.1) rfl dX2_init_1 (Nat.le_of_ble_eq_true rfl) (Nat.le_of_ble_eq_true rfl) ?_
  refine W.eq (g2 := F0 m 4 ls []) rfl ?_
  refine lv_aload_n S.1 S.2.1 dX2_init_4 rfl (lv_at hl 0 rfl) ?_
  refine lv_bipush (v := 8) S.1 S.2.1 dX2_init_5 (by decide) ?_
  refine n_newq (N := 8) S hK hO (by decide +kernel) hlo (by rw [hH]; rfl) hP hS (by decide) rfl (by decide) (Nat.le_of_ble_eq_true rfl) (Nat.le_of_ble_eq_true rfl) dX2_init_7 (fun H hP hS => ?_)
  refine n_putF (C := RX2) (T := TX2) (N := 6) (ci := 2) (k := 0) (j := 0) (q := 1) (fs := [some none, none, none, some none, some none, some none]) (ty1 := .array (.object "FlatLoader$OneModule")) tyX2 tyX2_ok nmX2 S hK hP hS hn2 lk11 rfl (by decide) rfl hi rfl (by decide +kernel) rfl rfl rfl (by decide) dX2_init_10 (fun H locs hP hS => ?_)
  refine lv_iconst (v := 0) S.1 S.2.1 dX2_init_13 (by decide) ?_
  refine lv_istore_n (lv' := [(1, .int 0), (0, .ref (adL lo 0))]) S.1 S.2.1 dX2_init_14 rfl hl (by decide) rfl (fun ls hl => ?_)
  have e0 : ([.inl (2, [some none, none, none, some none, some none, some none]), .inr (3, 8, fun _ => none)] : List Dscx).set 0 (.inl (2, [some (some 1), none, none, some none, some none, some none])) = layA 0 := by
    show [dF1, (.inr (3, 8, fun _ => none) : Dscx)] = [dF1, dAm 0]
    have e1 : (fun i => if i < 0 then some (kM i) else none) = (fun _ => none : Nat → Option Nat) := by
      funext i
      simp
    unfold dAm
    rw [e1]
  have hP : va_P D vwCl (wld cA (adL lo) (gFm 0) (layA 0)) H := by
    rw [← e0]
    exact hP
  exact key 9 0 0 (by omega) (by omega) nI_0.symm H locs hP hS ls (lv_sub hl [1, 0] rfl)
