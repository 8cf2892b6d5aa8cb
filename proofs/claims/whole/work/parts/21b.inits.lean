theorem la_get {α : Type} (L X : List α) (j : Nat) : (L ++ X)[L.length + j]? = X[j]? := by
  rw [List.getElem?_append_right (Nat.le_add_right _ _), Nat.add_sub_cancel_left]
theorem la_set {α : Type} (L X : List α) (j : Nat) (d : α) : (L ++ X).set (L.length + j) d = L ++ X.set j d := by
  rw [List.set_append_right _ _ (Nat.le_add_right _ _), Nat.add_sub_cancel_left]
section ML
variable {p : Program} {l : Launch} {e : Env} {R : Room} {s : State} {m : MethodId} {args : Array Value} {below : List Frame} {meth : Method} {c : Code} {H : Heap} {locs : List Loc} {cells slots : Nat} {Q : State → Prop}
variable {cc : ByteArray} {pc nL : Nat} {ls : Array Slot} {rest : List Value} {D : va_G} {cA : Nat → ClassId} {lo : Nat} {g : Mem} {own : String} {Ts : List Cond} {L X : List Dscx}
theorem nL_arr {t x : Nat} {n : Int32} {N : Nat} {atype : ArrayType} (hx : X.length = x) (S : CallFix p m c cc nL s args Ts own) (harr : Cond.arrayClass (newarray.typeOf atype) ∈ Ts) (hfc : s.vm.findClass ("[" ++ (newarray.typeOf atype).toString) = some (cA t)) (hcell : vp_cell (cA t) (N, pcA (adL lo) (fun _ => 0) t (fun _ => none)) = arrV (cA t) N (fun _ => defaultValue (newarray.typeOf atype))) (hlo : lo ≤ s.heap.size) (hsz : s.heap.size + cells = lo + (L.length + x)) (hP : va_P D vwCl (wld cA (adL lo) g (L ++ X)) H) (hS : va_S (fun q => lo ≤ q) s.heap H locs) (hz : ∀ i, g (L.length + x) i = 0)
    (hn : ¬ n < 0) (hN : n.toNatClampNeg = N) (hb : N * componentBytes (newarray.typeOf atype) ≤ 536870912) (hc : cells + 1 ≤ R.cells) (hs : slots + N ≤ R.slots) (hd : decode cc pc = .ok (.newarray atype, 2))
    (kk : ∀ H1 : Heap, va_P D vwCl (wld cA (adL lo) g (L ++ (X ++ [.inr (t, N, fun _ => none)]))) H1 → va_S (fun q => lo ≤ q) s.heap H1 locs → W p l e R s m args below meth c H1 locs (cells + 1) (slots + N) Q (F0 m (pc + 2) ls (.ref (adL lo (L.length + x)) :: rest))) : W p l e R s m args below meth c H locs cells slots Q (F0 m pc ls (.int n :: rest)) := by
  have hlen : (L ++ X).length = L.length + x := by rw [List.length_append, hx]
  refine n_arr (lay := L ++ X) S harr hfc hcell hlo (by rw [hlen]; exact hsz) hP hS (by rw [hlen]; exact hz) hn hN hb hc hs hd (fun H1 h1 h2 => ?_)
  rw [List.append_assoc] at h1
  rw [hlen]
  exact kk H1 h1 h2
theorem nL_putF {C : String} {T : u_T} {N ci index j q : Nat} {fs : List Fdx} {ty1 : FieldType} (ty0 : Nat → FieldType) (hty : ∀ k, k < N → parseFieldDescriptor (T k).2.2.1 = some (ty0 k)) (hnm : ∀ a, a < N → ∀ b, b < N → a ≠ b → (T a).2.1 ≠ (T b).2.1) (S : CallFix p m c cc nL s args Ts own) (hK : va_K D vwCl (tysL cA) s) (hP : va_P D vwCl (wld cA (adL lo) g (L ++ X)) H) (hS : va_S (fun q => lo ≤ q) s.heap H locs) (hin : ∀ w ∈ u_ws C T N, w ∈ Ts) (hlink : (Cond.fieldLink own index (T j).1 (T j).2.1 (T j).2.2.1).before args s = true) (hc : vwCl[ci]? = some (C, T, N)) (hj : j < N) (hfin : (T j).2.2.2 = true) (hi : meth.name = "<init>") (hdecl : (T j).1 = own) (hd2 : parseFieldDescriptor (T j).2.2.1 = some ty1) (hn : narrow ty1 (.ref (adL lo q)) = .ref (adL lo q)) (hft : fits ty1 (.ref (adL lo q)) = true) (hl : X[0]? = some (.inl (ci, fs))) (hf : j < fs.length) (hd : decode cc pc = .ok (.putfield index, 3))
    (kk : ∀ (H1 : Heap) (locs1 : List Loc), va_P D vwCl (wld cA (adL lo) g (L ++ X.set 0 (.inl (ci, fs.set j (some (some q)))))) H1 → va_S (fun q => lo ≤ q) s.heap H1 locs1 → W p l e R s m args below meth c H1 locs1 cells slots Q (F0 m (pc + 3) ls rest)) : W p l e R s m args below meth c H locs cells slots Q (F0 m pc ls (.ref (adL lo q) :: .ref (adL lo L.length) :: rest)) := by
  refine n_putF (lay := L ++ X) (k := L.length) ty0 hty hnm S hK hP hS hin hlink hc hj hfin hi hdecl hd2 hn hft ((la_get L X 0).trans hl) hf hd (fun H1 locs1 h1 h2 => kk H1 locs1 ?_ h2)
  have e1 := la_set L X 0 (.inl (ci, fs.set j (some (some q))))
  rw [← e1]
  exact h1
end ML
def nul (n : Nat) : List Fdx := List.replicate n (some none)
theorem cell_i (c : ClassId) (N : Nat) (lo : Nat) : vp_cell c (N, pcA (adL lo) (fun _ => 0) 0 (fun _ => none)) = arrV c N (fun _ => defaultValue (newarray.typeOf .int)) := rfl
theorem cell_z (c : ClassId) (N : Nat) (lo : Nat) : vp_cell c (N, pcA (adL lo) (fun _ => 0) 1 (fun _ => none)) = arrV c N (fun _ => defaultValue (newarray.typeOf .boolean)) := rfl
theorem cell_l (c : ClassId) (N : Nat) (lo : Nat) : vp_cell c (N, pcA (adL lo) (fun _ => 0) 2 (fun _ => none)) = arrV c N (fun _ => defaultValue (newarray.typeOf .long)) := rfl
/-- two rows k, k + 1 of the memory, filled up to n with -3 and -1 -/
def fil (g : Mem) (k n : Nat) : Mem := fun a b => if a = k ∧ b < n then (-3) else if a = k + 1 ∧ b < n then (-1) else g a b
theorem fil_0 (g : Mem) (k : Nat) : fil g k 0 = g := by
  funext a b
  simp [fil]
theorem fil_step (g : Mem) (k n : Nat) : mup (mup (fil g k n) k n (-3)) (k + 1) n (-1) = fil g k (n + 1) := by
  funext a b
  simp only [mup, fil]
  by_cases h1 : a = k
  · subst h1
    by_cases h2 : b = n
    · subst h2
      simp
    · have h3 : b < n ↔ b < n + 1 := by omega
      simp [h2, h3]
  · by_cases h4 : a = k + 1
    · subst h4
      by_cases h2 : b = n
      · subst h2
        simp
      · have h3 : b < n ↔ b < n + 1 := by omega
        simp [h2, h3]
    · simp [h1, h4]
theorem fil_hi {g : Mem} {k n a b : Nat} (h : k + 1 < a) : fil g k n a b = g a b := by
  have h1 : ¬ a = k := by omega
  have h2 : ¬ a = k + 1 := by omega
  simp [fil, h1, h2]
theorem fil_lo {g : Mem} {k n a b : Nat} (h : a < k) : fil g k n a b = g a b := by
  have h1 : ¬ a = k := by omega
  have h2 : ¬ a = k + 1 := by omega
  simp [fil, h1, h2]
theorem mup_self {g : Mem} {k i : Nat} {v : Int32} (h : g k i = v) : mup g k i v = g := by
  funext a b
  simp only [mup]
  split
  · rename_i h1
    rw [h1.1, h1.2, h]
  · rfl

/-- OneModule(): five rows, the first two filled -/
def rm_X0_init : Room := { frames := 1, cells := 5, slots := 66, locals := 12 }
set_option maxRecDepth 100000 in
set_option maxHeartbeats 4000000 in
theorem c_X0_init {l : Launch} {D : va_G} {cA : Nat → ClassId} {lo : Nat} {g : Mem} {L : List Dscx} (hz : ∀ k, L.length ≤ k → ∀ i, g k i = 0) : Met l yX0_init wsX0_init rm_X0_init (Pi_ [.ref (adL lo L.length)] D cA lo g (L ++ [.inl (0, [some none, some none, some none, some none, some none, none, none, none])])) (Qi D cA lo (fil g (L.length + 1) 24) (L ++ mdD L.length)) 5 66 (fun q => lo ≤ q) := by
  refine startI (cc := cX0_init) (maxL := 2) (ret := none) (by decide) rfl (Nat.le_of_ble_eq_true rfl) ?_
  intro p e s m args below meth c ls S hr hlocks hi hB hl
  obtain ⟨hH, hP, hK, hN, hO⟩ := hB
  have hS : va_S (fun q => lo ≤ q) s.heap s.heap [] := va_S.rf
  have S : CallFix p m c cX0_init 2 s args wsX0_init RX0 := S
  have hl : lv_has ls 2 [(0, .ref (adL lo L.length))] := hl
  have hi : meth.name = "<init>" := hi
  have hn0 : ∀ w ∈ wsX00, w ∈ wsX0_init := by decide +kernel
  rw [List.length_append] at hH
  have hH : s.heap.size = lo + (L.length + 1) := hH
  have hlo : lo ≤ s.heap.size := by omega
  have fc0 : s.vm.findClass ("[" ++ (newarray.typeOf .int).toString) = some (cA 0) := (hK.2 0 _ rfl).2
  have lk9 := S.2.2.2.2 (.fieldLink RX0 9 "FlatLoader$OneModule" "extended" "[I") (by decide +kernel)
  have lk15 := S.2.2.2.2 (.fieldLink RX0 15 "FlatLoader$OneModule" "definedAbove" "[I") (by decide +kernel)
  have lk18 := S.2.2.2.2 (.fieldLink RX0 18 "FlatLoader$OneModule" "on" "[I") (by decide +kernel)
  have lk21 := S.2.2.2.2 (.fieldLink RX0 21 "FlatLoader$OneModule" "imports" "[I") (by decide +kernel)
  have lk24 := S.2.2.2.2 (.fieldLink RX0 24 "FlatLoader$OneModule" "exports" "[I") (by decide +kernel)
  have lk27 := S.2.2.2.2 (.fieldLink RX0 27 "FlatLoader$OneModule" "dependencies" "I") (by decide +kernel)
  have lk31 := S.2.2.2.2 (.fieldLink RX0 31 "FlatLoader$OneModule" "dependedSet" "I") (by decide +kernel)
  have lk34 := S.2.2.2.2 (.fieldLink RX0 34 "FlatLoader$OneModule" "requiredSet" "I") (by decide +kernel)
  have key : ∀ (n i : Nat) (x : Int32), i ≤ 24 → 25 ≤ i + n → x = nI i → ∀ (H : Heap) (locs : List Loc), va_P D vwCl (wld cA (adL lo) (fil g (L.length + 1) i) (L ++ [.inl (0, [some (some (L.length + 1)), some (some (L.length + 2)), some none, some none, some none, none, none, none]), ia 24, ia 24])) H → va_S (fun q => lo ≤ q) s.heap H locs → ∀ (ls : Array Slot), lv_has ls 2 [(0, .ref (adL lo L.length)), (1, .int x)] → W p l e rm_X0_init s m args below meth c H locs 2 48 (MQ below (Qi D cA lo (fil g (L.length + 1) 24) (L ++ mdD L.length)) args s 5 66 (fun q => lo ≤ q)) (F0 m 22 ls []) := by
    intro n
    induction n with
    | zero =>
      intro i x h1 h2
      omega
    | succ n ih =>
      intro i x hi24 hin ex H locs hP hS ls hl
      refine lv_iload_n S.1 S.2.1 dX0_init_22 rfl (lv_at hl 1 rfl) ?_
      refine lv_bipush (v := 24) S.1 S.2.1 dX0_init_23 (by decide) ?_
      refine lv_icmp_ge (tgt := 49) S.1 S.2.1 dX0_init_25 (by decide) (fun hc => ?_) (fun hc => ?_)
      · have hi2 : i = 24 := by
          rcases Nat.lt_or_ge i 24 with h | h
          · exact absurd hc (by rw [ex]; exact nI_ge h (by decide))
          · omega
        subst hi2
        refine lv_aload_n S.1 S.2.1 dX0_init_49 rfl (lv_at hl 0 rfl) ?_
        refine lv_bipush (v := 6) S.1 S.2.1 dX0_init_50 (by decide) ?_
        refine nL_arr (atype := .int) (cA := cA) (t := 0) (N := 6) (x := 3) (L := L) (X := [.inl (0, [some (some (L.length + 1)), some (some (L.length + 2)), some none, some none, some none, none, none, none]), ia 24, ia 24]) rfl S (by decide +kernel) fc0 (cell_i _ _ _) hlo (by omega) hP hS (fun i => (fil_hi (by omega)).trans (hz _ (by omega) i)) (by decide) rfl (by decide) (Nat.le_of_ble_eq_true rfl) (Nat.le_of_ble_eq_true rfl) dX0_init_52 (fun H hP hS => ?_)
        have hP : va_P D vwCl (wld cA (adL lo) (fil g (L.length + 1) 24) (L ++ [.inl (0, [some (some (L.length + 1)), some (some (L.length + 2)), some none, some none, some none, none, none, none]), ia 24, ia 24, ia 6])) H := hP
        refine nL_putF (C := RX0) (T := TX0) (N := 8) (ci := 0) (j := 2) (q := L.length + 3) (ty1 := .array .int) (X := [.inl (0, [some (some (L.length + 1)), some (some (L.length + 2)), some none, some none, some none, none, none, none]), ia 24, ia 24, ia 6]) tyX0 tyX0_ok nmX0 S hK hP hS hn0 lk18 rfl (by decide) rfl hi rfl (by decide +kernel) rfl rfl rfl (Nat.le_of_ble_eq_true rfl) dX0_init_54 (fun H locs hP hS => ?_)
        have hP : va_P D vwCl (wld cA (adL lo) (fil g (L.length + 1) 24) (L ++ [.inl (0, [some (some (L.length + 1)), some (some (L.length + 2)), some (some (L.length + 3)), some none, some none, none, none, none]), ia 24, ia 24, ia 6])) H := hP
        refine lv_aload_n S.1 S.2.1 dX0_init_57 rfl (lv_at hl 0 rfl) ?_
        refine lv_bipush (v := 6) S.1 S.2.1 dX0_init_58 (by decide) ?_
        refine nL_arr (atype := .int) (cA := cA) (t := 0) (N := 6) (x := 4) (L := L) (X := [.inl (0, [some (some (L.length + 1)), some (some (L.length + 2)), some (some (L.length + 3)), some none, some none, none, none, none]), ia 24, ia 24, ia 6]) rfl S (by decide +kernel) fc0 (cell_i _ _ _) hlo (by omega) hP hS (fun i => (fil_hi (by omega)).trans (hz _ (by omega) i)) (by decide) rfl (by decide) (Nat.le_of_ble_eq_true rfl) (Nat.le_of_ble_eq_true rfl) dX0_init_60 (fun H hP hS => ?_)
        have hP : va_P D vwCl (wld cA (adL lo) (fil g (L.length + 1) 24) (L ++ [.inl (0, [some (some (L.length + 1)), some (some (L.length + 2)), some (some (L.length + 3)), some none, some none, none, none, none]), ia 24, ia 24, ia 6, ia 6])) H := hP
        refine nL_putF (C := RX0) (T := TX0) (N := 8) (ci := 0) (j := 3) (q := L.length + 4) (ty1 := .array .int) (X := [.inl (0, [some (some (L.length + 1)), some (some (L.length + 2)), some (some (L.length + 3)), some none, some none, none, none, none]), ia 24, ia 24, ia 6, ia 6]) tyX0 tyX0_ok nmX0 S hK hP hS hn0 lk21 rfl (by decide) rfl hi rfl (by decide +kernel) rfl rfl rfl (Nat.le_of_ble_eq_true rfl) dX0_init_62 (fun H locs hP hS => ?_)
        have hP : va_P D vwCl (wld cA (adL lo) (fil g (L.length + 1) 24) (L ++ [.inl (0, [some (some (L.length + 1)), some (some (L.length + 2)), some (some (L.length + 3)), some (some (L.length + 4)), some none, none, none, none]), ia 24, ia 24, ia 6, ia 6])) H := hP
        refine lv_aload_n S.1 S.2.1 dX0_init_65 rfl (lv_at hl 0 rfl) ?_
        refine lv_bipush (v := 6) S.1 S.2.1 dX0_init_66 (by decide) ?_
        refine nL_arr (atype := .int) (cA := cA) (t := 0) (N := 6) (x := 5) (L := L) (X := [.inl (0, [some (some (L.length + 1)), some (some (L.length + 2)), some (some (L.length + 3)), some (some (L.length + 4)), some none, none, none, none]), ia 24, ia 24, ia 6, ia 6]) rfl S (by decide +kernel) fc0 (cell_i _ _ _) hlo (by omega) hP hS (fun i => (fil_hi (by omega)).trans (hz _ (by omega) i)) (by decide) rfl (by decide) (Nat.le_of_ble_eq_true rfl) (Nat.le_of_ble_eq_true rfl) dX0_init_68 (fun H hP hS => ?_)
        have hP : va_P D vwCl (wld cA (adL lo) (fil g (L.length + 1) 24) (L ++ [.inl (0, [some (some (L.length + 1)), some (some (L.length + 2)), some (some (L.length + 3)), some (some (L.length + 4)), some none, none, none, none]), ia 24, ia 24, ia 6, ia 6, ia 6])) H := hP
        refine nL_putF (C := RX0) (T := TX0) (N := 8) (ci := 0) (j := 4) (q := L.length + 5) (ty1 := .array .int) (X := [.inl (0, [some (some (L.length + 1)), some (some (L.length + 2)), some (some (L.length + 3)), some (some (L.length + 4)), some none, none, none, none]), ia 24, ia 24, ia 6, ia 6, ia 6]) tyX0 tyX0_ok nmX0 S hK hP hS hn0 lk24 rfl (by decide) rfl hi rfl (by decide +kernel) rfl rfl rfl (Nat.le_of_ble_eq_true rfl) dX0_init_70 (fun H locs hP hS => ?_)
        have hP : va_P D vwCl (wld cA (adL lo) (fil g (L.length + 1) 24) (L ++ [.inl (0, [some (some (L.length + 1)), some (some (L.length + 2)), some (some (L.length + 3)), some (some (L.length + 4)), some (some (L.length + 5)), none, none, none]), ia 24, ia 24, ia 6, ia 6, ia 6])) H := hP
        refine lv_aload_n S.1 S.2.1 dX0_init_73 rfl (lv_at hl 0 rfl) ?_
        refine lv_iconst (v := 0) S.1 S.2.1 dX0_init_74 (by decide) ?_
        refine r_put (C := RX0) (T := TX0) (N := 8) (ci := 0) (k := L.length) (j := 5) (fs := [some (some (L.length + 1)), some (some (L.length + 2)), some (some (L.length + 3)), some (some (L.length + 4)), some (some (L.length + 5)), none, none, none]) (v := 0) tyX0 tyX0_ok nmX0 S (adL_ok lo _) hK hP hS hn0 lk27 rfl (by decide) rfl (by decide +kernel) (la_get L _ 0) rfl dX0_init_75 (fun H locs hP hS => ?_)
        rw [mup_self (show fil g (L.length + 1) 24 L.length 5 = 0 from (fil_lo (Nat.lt_succ_self _)).trans (hz L.length (Nat.le_refl _) _))] at hP
        refine lv_aload_n S.1 S.2.1 dX0_init_78 rfl (lv_at hl 0 rfl) ?_
        refine lv_iconst (v := 0) S.1 S.2.1 dX0_init_79 (by decide) ?_
        refine r_put (C := RX0) (T := TX0) (N := 8) (ci := 0) (k := L.length) (j := 6) (fs := [some (some (L.length + 1)), some (some (L.length + 2)), some (some (L.length + 3)), some (some (L.length + 4)), some (some (L.length + 5)), none, none, none]) (v := 0) tyX0 tyX0_ok nmX0 S (adL_ok lo _) hK hP hS hn0 lk31 rfl (by decide) rfl (by decide +kernel) (la_get L _ 0) rfl dX0_init_80 (fun H locs hP hS => ?_)
        rw [mup_self (show fil g (L.length + 1) 24 L.length 6 = 0 from (fil_lo (Nat.lt_succ_self _)).trans (hz L.length (Nat.le_refl _) _))] at hP
        refine lv_aload_n S.1 S.2.1 dX0_init_83 rfl (lv_at hl 0 rfl) ?_
        refine lv_iconst (v := 0) S.1 S.2.1 dX0_init_84 (by decide) ?_
        refine r_put (C := RX0) (T := TX0) (N := 8) (ci := 0) (k := L.length) (j := 7) (fs := [some (some (L.length + 1)), some (some (L.length + 2)), some (some (L.length + 3)), some (some (L.length + 4)), some (some (L.length + 5)), none, none, none]) (v := 0) tyX0 tyX0_ok nmX0 S (adL_ok lo _) hK hP hS hn0 lk34 rfl (by decide) rfl (by decide +kernel) (la_get L _ 0) rfl dX0_init_85 (fun H locs hP hS => ?_)
        rw [mup_self (show fil g (L.length + 1) 24 L.length 7 = 0 from (fil_lo (Nat.lt_succ_self _)).trans (hz L.length (Nat.le_refl _) _))] at hP
        exact e_I S hr hlocks hP hS rfl rfl (Nat.le_refl _) (Nat.le_refl _) dX0_init_88
      · have hlt : i < 24 := by
          rcases Nat.lt_or_ge i 24 with h | h
          · exact h
          · exact absurd (by rw [ex]; exact nI_le h (by omega)) hc
        have hv : vp_in x 24 := by rw [ex]; exact vp_in_nI hlt (by decide)
        have hx : x.toNatClampNeg = i := by rw [ex]; exact nI_clamp (by omega)
        refine lv_aload_n S.1 S.2.1 dX0_init_28 rfl (lv_at hl 0 rfl) ?_
        refine r_get (C := RX0) (T := TX0) (N := 8) (ci := 0) (k := L.length) (j := 0) (fs := [some (some (L.length + 1)), some (some (L.length + 2)), some none, some none, some none, none, none, none]) (d := some (some (L.length + 1))) (v := .ref (adL lo (L.length + 1))) S hK hP hn0 lk9 rfl (by decide) (la_get L _ 0) rfl rfl dX0_init_29 ?_
        refine lv_iload_n S.1 S.2.1 dX0_init_32 rfl (lv_at hl 1 rfl) ?_
        refine lv_bipush (v := (-3)) S.1 S.2.1 dX0_init_33 (by decide) ?_
        refine r_ist (k := L.length + 1) (n := 24) S (adL_ok lo _) hK hP hS (la_get L _ 1) hv dX0_init_35 (fun H locs hP hS => ?_)
        refine lv_aload_n S.1 S.2.1 dX0_init_36 rfl (lv_at hl 0 rfl) ?_
        refine r_get (C := RX0) (T := TX0) (N := 8) (ci := 0) (k := L.length) (j := 1) (fs := [some (some (L.length + 1)), some (some (L.length + 2)), some none, some none, some none, none, none, none]) (d := some (some (L.length + 2))) (v := .ref (adL lo (L.length + 2))) S hK hP hn0 lk15 rfl (by decide) (la_get L _ 0) rfl rfl dX0_init_37 ?_
        refine lv_iload_n S.1 S.2.1 dX0_init_40 rfl (lv_at hl 1 rfl) ?_
        refine lv_iconst (v := (-1)) S.1 S.2.1 dX0_init_41 (by decide) ?_
        refine r_ist (k := L.length + 2) (n := 24) S (adL_ok lo _) hK hP hS (la_get L _ 2) hv dX0_init_42 (fun H locs hP hS => ?_)
        refine lv_iinc (v := x + 1) (lv' := [(1, .int (x + 1)), (0, .ref (adL lo L.length))]) S.1 S.2.1 dX0_init_43 hl (k := 1) rfl rfl (by decide) rfl (fun ls hl => ?_)
        refine lv_goto (tgt := 22) S.1 S.2.1 dX0_init_46 (by decide) ?_
        rw [hx, fil_step g (L.length + 1) i] at hP
        exact ih (i + 1) (x + 1) (by omega) (by omega) (by rw [ex]; exact nI_1 i) H locs hP hS ls (lv_sub hl [1, 0] rfl)
  refine lv_aload_n S.1 S.2.1 dX0_init_0 rfl (lv_at hl 0 rfl) ?_
  refine W.objInit S.1 S.2.1 S.2.2.2.1 (S.2.2.2.2 (.methodLink RX0 3 objectInit) (by decide +kernel)) (S.2.2.2.2 (.instanceMethod objectInit) (by decide +kernel)) (S.2.2.2.2 (.code objectInit ⟨#[0xb1]⟩ 1 none) (by decide +kernel)) rfl (by rw [S.2.2.1]; exact hl.1) rfl dX0_init_1 (Nat.le_of_ble_eq_true rfl) (Nat.le_of_ble_eq_true rfl) ?_
  refine W.eq (g2 := F0 m 4 ls []) rfl ?_
  refine lv_aload_n S.1 S.2.1 dX0_init_4 rfl (lv_at hl 0 rfl) ?_
  refine lv_bipush (v := 24) S.1 S.2.1 dX0_init_5 (by decide) ?_
  refine nL_arr (atype := .int) (cA := cA) (t := 0) (N := 24) (x := 1) (L := L) (X := [.inl (0, [some none, some none, some none, some none, some none, none, none, none])]) rfl S (by decide +kernel) fc0 (cell_i _ _ _) hlo (by omega) hP hS (hz _ (by omega)) (by decide) rfl (by decide) (Nat.le_of_ble_eq_true rfl) (Nat.le_of_ble_eq_true rfl) dX0_init_7 (fun H hP hS => ?_)
  have hP : va_P D vwCl (wld cA (adL lo) (g) (L ++ [.inl (0, [some none, some none, some none, some none, some none, none, none, none]), ia 24])) H := hP
  refine nL_putF (C := RX0) (T := TX0) (N := 8) (ci := 0) (j := 0) (q := L.length + 1) (ty1 := .array .int) (X := [.inl (0, [some none, some none, some none, some none, some none, none, none, none]), ia 24]) tyX0 tyX0_ok nmX0 S hK hP hS hn0 lk9 rfl (by decide) rfl hi rfl (by decide +kernel) rfl rfl rfl (Nat.le_of_ble_eq_true rfl) dX0_init_9 (fun H locs hP hS => ?_)
  have hP : va_P D vwCl (wld cA (adL lo) (g) (L ++ [.inl (0, [some (some (L.length + 1)), some none, some none, some none, some none, none, none, none]), ia 24])) H := hP
  refine lv_aload_n S.1 S.2.1 dX0_init_12 rfl (lv_at hl 0 rfl) ?_
  refine lv_bipush (v := 24) S.1 S.2.1 dX0_init_13 (by decide) ?_
  refine nL_arr (atype := .int) (cA := cA) (t := 0) (N := 24) (x := 2) (L := L) (X := [.inl (0, [some (some (L.length + 1)), some none, some none, some none, some none, none, none, none]), ia 24]) rfl S (by decide +kernel) fc0 (cell_i _ _ _) hlo (by omega) hP hS (hz _ (by omega)) (by decide) rfl (by decide) (Nat.le_of_ble_eq_true rfl) (Nat.le_of_ble_eq_true rfl) dX0_init_15 (fun H hP hS => ?_)
  have hP : va_P D vwCl (wld cA (adL lo) (g) (L ++ [.inl (0, [some (some (L.length + 1)), some none, some none, some none, some none, none, none, none]), ia 24, ia 24])) H := hP
  refine nL_putF (C := RX0) (T := TX0) (N := 8) (ci := 0) (j := 1) (q := L.length + 2) (ty1 := .array .int) (X := [.inl (0, [some (some (L.length + 1)), some none, some none, some none, some none, none, none, none]), ia 24, ia 24]) tyX0 tyX0_ok nmX0 S hK hP hS hn0 lk15 rfl (by decide) rfl hi rfl (by decide +kernel) rfl rfl rfl (Nat.le_of_ble_eq_true rfl) dX0_init_17 (fun H locs hP hS => ?_)
  have hP : va_P D vwCl (wld cA (adL lo) (g) (L ++ [.inl (0, [some (some (L.length + 1)), some (some (L.length + 2)), some none, some none, some none, none, none, none]), ia 24, ia 24])) H := hP
  refine lv_iconst (v := 0) S.1 S.2.1 dX0_init_20 (by decide) ?_
  refine lv_istore_n (lv' := [(1, .int 0), (0, .ref (adL lo L.length))]) S.1 S.2.1 dX0_init_21 rfl hl (by decide) rfl (fun ls hl => ?_)
  rw [← fil_0 g (L.length + 1)] at hP
  exact key 25 0 0 (by omega) (by omega) nI_0.symm H locs hP hS ls (lv_sub hl [1, 0] rfl)
set_option maxRecDepth 100000 in
set_option maxHeartbeats 4000000 in
theorem c_X1_clearI {l : Launch} {D : va_G} {cA : Nat → ClassId} {lo : Nat} {g : Mem} {L : List Dscx} (hz : ∀ k, L.length ≤ k → ∀ i, g k i = 0) : Met l yX1_clear wsX1_clear rm_X1_clear (Pi_ [.ref (adL lo L.length)] D cA lo g (L ++ [.inl (1, [some (some (L.length + 1)), none, none, none]), ia 8])) (Qi D cA lo g (L ++ [.inl (1, [some (some (L.length + 1)), none, none, none]), ia 8])) 0 0 (fun q => lo ≤ q) := by
  refine startI (cc := cX1_clear) (maxL := 1) (ret := none) (by decide) rfl (Nat.le_of_ble_eq_true rfl) ?_
  intro p e s m args below meth c ls S hr hlocks hi hB hl
  obtain ⟨hH, hP, hK, hN, hO⟩ := hB
  have hS : va_S (fun q => lo ≤ q) s.heap s.heap [] := va_S.rf
  have S : CallFix p m c cX1_clear 1 s args wsX1_clear RX1 := S
  have hl : lv_has ls 1 [(0, .ref (adL lo L.length))] := hl
  have hn1 : ∀ w ∈ wsX10, w ∈ wsX1_clear := by decide +kernel
  have lk18 := S.2.2.2.2 (.fieldLink RX1 18 "FlatLoader$Row" "size" "I") (by decide +kernel)
  have lk22 := S.2.2.2.2 (.fieldLink RX1 22 "FlatLoader$Row" "memberSet" "I") (by decide +kernel)
  have lk25 := S.2.2.2.2 (.fieldLink RX1 25 "FlatLoader$Row" "begun" "I") (by decide +kernel)
  refine lv_aload_n S.1 S.2.1 dX1_clear_0 rfl (lv_at hl 0 rfl) ?_
  refine lv_iconst (v := 0) S.1 S.2.1 dX1_clear_1 (by decide) ?_
  refine r_put (C := RX1) (T := TX1) (N := 4) (ci := 1) (k := L.length) (j := 1) (fs := [some (some (L.length + 1)), none, none, none]) (v := 0) tyX1 tyX1_ok nmX1 S (adL_ok lo _) hK hP hS hn1 lk18 rfl (by decide) rfl (by decide +kernel) (la_get L _ 0) rfl dX1_clear_2 (fun H locs hP hS => ?_)
  rw [mup_self (hz L.length (Nat.le_refl _) 1)] at hP
  refine lv_aload_n S.1 S.2.1 dX1_clear_5 rfl (lv_at hl 0 rfl) ?_
  refine lv_iconst (v := 0) S.1 S.2.1 dX1_clear_6 (by decide) ?_
  refine r_put (C := RX1) (T := TX1) (N := 4) (ci := 1) (k := L.length) (j := 2) (fs := [some (some (L.length + 1)), none, none, none]) (v := 0) tyX1 tyX1_ok nmX1 S (adL_ok lo _) hK hP hS hn1 lk22 rfl (by decide) rfl (by decide +kernel) (la_get L _ 0) rfl dX1_clear_7 (fun H locs hP hS => ?_)
  rw [mup_self (hz L.length (Nat.le_refl _) 2)] at hP
  refine lv_aload_n S.1 S.2.1 dX1_clear_10 rfl (lv_at hl 0 rfl) ?_
  refine lv_iconst (v := 0) S.1 S.2.1 dX1_clear_11 (by decide) ?_
  refine r_put (C := RX1) (T := TX1) (N := 4) (ci := 1) (k := L.length) (j := 3) (fs := [some (some (L.length + 1)), none, none, none]) (v := 0) tyX1 tyX1_ok nmX1 S (adL_ok lo _) hK hP hS hn1 lk25 rfl (by decide) rfl (by decide +kernel) (la_get L _ 0) rfl dX1_clear_12 (fun H locs hP hS => ?_)
  rw [mup_self (hz L.length (Nat.le_refl _) 3)] at hP
  exact e_I S hr hlocks hP hS rfl rfl (Nat.le_refl _) (Nat.le_refl _) dX1_clear_15
/-- Row() -/
def rm_X1_init : Room := { frames := 1, cells := 1, slots := 8, locals := 20 }
set_option maxRecDepth 100000 in
set_option maxHeartbeats 4000000 in
theorem c_X1_init {l : Launch} {D : va_G} {cA : Nat → ClassId} {lo : Nat} {g : Mem} {L : List Dscx} (hz : ∀ k, L.length ≤ k → ∀ i, g k i = 0) : Met l yX1_init wsX1_init rm_X1_init (Pi_ [.ref (adL lo L.length)] D cA lo g (L ++ [.inl (1, [some none, none, none, none])])) (Qi D cA lo g (L ++ [.inl (1, [some (some (L.length + 1)), none, none, none]), ia 8])) 1 8 (fun q => lo ≤ q) := by
  refine startI (cc := cX1_init) (maxL := 1) (ret := none) (by decide) rfl (Nat.le_of_ble_eq_true rfl) ?_
  intro p e s m args below meth c ls S hr hlocks hi hB hl
  obtain ⟨hH, hP, hK, hN, hO⟩ := hB
  have hS : va_S (fun q => lo ≤ q) s.heap s.heap [] := va_S.rf
  have S : CallFix p m c cX1_init 1 s args wsX1_init RX1 := S
  have hl : lv_has ls 1 [(0, .ref (adL lo L.length))] := hl
  have hi : meth.name = "<init>" := hi
  have hn1 : ∀ w ∈ wsX10, w ∈ wsX1_init := by decide +kernel
  rw [List.length_append] at hH
  have hH : s.heap.size = lo + (L.length + 1) := hH
  have hlo : lo ≤ s.heap.size := by omega
  have fc0 : s.vm.findClass ("[" ++ (newarray.typeOf .int).toString) = some (cA 0) := (hK.2 0 _ rfl).2
  have lk9 := S.2.2.2.2 (.fieldLink RX1 9 "FlatLoader$Row" "members" "[I") (by decide +kernel)
  refine lv_aload_n S.1 S.2.1 dX1_init_0 rfl (lv_at hl 0 rfl) ?_
  refine W.objInit S.1 S.2.1 S.2.2.2.1 (S.2.2.2.2 (.methodLink RX1 3 objectInit) (by decide +kernel)) (S.2.2.2.2 (.instanceMethod objectInit) (by decide +kernel)) (S.2.2.2.2 (.code objectInit ⟨#[0xb1]⟩ 1 none) (by decide +kernel)) rfl (by rw [S.2.2.1]; exact hl.1) rfl dX1_init_1 (Nat.le_of_ble_eq_true rfl) (Nat.le_of_ble_eq_true rfl) ?_
  refine W.eq (g2 := F0 m 4 ls []) rfl ?_
  refine lv_aload_n S.1 S.2.1 dX1_init_4 rfl (lv_at hl 0 rfl) ?_
  refine lv_bipush (v := 8) S.1 S.2.1 dX1_init_5 (by decide) ?_
  refine nL_arr (atype := .int) (cA := cA) (t := 0) (N := 8) (x := 1) (L := L) (X := [.inl (1, [some none, none, none, none])]) rfl S (by decide +kernel) fc0 (cell_i _ _ _) hlo (by omega) hP hS (hz _ (by omega)) (by decide) rfl (by decide) (Nat.le_of_ble_eq_true rfl) (Nat.le_of_ble_eq_true rfl) dX1_init_7 (fun H hP hS => ?_)
  have hP : va_P D vwCl (wld cA (adL lo) g (L ++ [.inl (1, [some none, none, none, none]), ia 8])) H := hP
  refine nL_putF (C := RX1) (T := TX1) (N := 4) (ci := 1) (j := 0) (q := L.length + 1) (ty1 := .array .int) (X := [.inl (1, [some none, none, none, none]), ia 8]) tyX1 tyX1_ok nmX1 S hK hP hS hn1 lk9 rfl (by decide) rfl hi rfl (by decide +kernel) rfl rfl rfl (Nat.le_of_ble_eq_true rfl) dX1_init_9 (fun H locs hP hS => ?_)
  have hP : va_P D vwCl (wld cA (adL lo) g (L ++ [.inl (1, [some (some (L.length + 1)), none, none, none]), ia 8])) H := hP
  refine lv_aload_n S.1 S.2.1 dX1_init_12 rfl (lv_at hl 0 rfl) ?_
  refine n_sz (lay := L ++ [.inl (1, [some (some (L.length + 1)), none, none, none]), ia 8]) hlo (by rw [List.length_append]; simp only [List.length_cons, List.length_nil]; omega) hP hS (fun hHz => ?_)
  refine k_I (va_runV (As := []) (rest := []) S (c_X1_clearI hz) (cwV 0 S.2.2.2.2 gX1_init_X1_clear rfl rfl rfl (by decide +kernel) ⟨Nat.le_of_ble_eq_true rfl, Nat.le_of_ble_eq_true rfl⟩) ⟨Pi_blind, va_recv hK hP (ci := 1) (q0 := L.length) rfl (wld_at (d := .inl (1, [some (some (L.length + 1)), none, none, none])) (la_get L _ 0)), Pi_at hHz hP hK hN hO⟩ rfl rfl hl.1 rfl (lv_room (Nat.le_of_ble_eq_true rfl)) dX1_init_13 ⟨Nat.le_of_ble_eq_true rfl, Nat.le_of_ble_eq_true rfl⟩) hS (fun H locs hP hS => ?_)
  exact e_I S hr hlocks hP hS rfl rfl (Nat.le_refl _) (Nat.le_refl _) dX1_init_16
def fsXk (k : Nat) : List Fdx := [none, some (some (k + 1)), some (some (k + 2)), some (some (k + 3)), some (some (k + 4)), some (some (k + 5)), some (some (k + 6)), some (some (k + 7)), some (some (k + 8)), some (some (k + 9)), some (some (k + 10)), none, none, some (some (k + 11)), some (some (k + 12)), some (some (k + 13)), some (some (k + 14)), some (some (k + 15)), some (some (k + 16))]
def mdX (k : Nat) : List Dscx := [.inl (3, fsXk k), za 8, za 8, za 8, ia 192, ia 192, ia 8, ia 48, ia 48, ia 48, za 48, ia 8, za 8, za 8, ia 10, ia 10, ia 11]
/-- FlatLoaderModel() -/
def rm_X3_init : Room := { frames := 1, cells := 16, slots := 663, locals := 12 }
set_option maxRecDepth 100000 in
set_option maxHeartbeats 8000000 in
theorem c_X3_init {l : Launch} {D : va_G} {cA : Nat → ClassId} {lo : Nat} {g : Mem} {L : List Dscx} (hz : ∀ k, L.length ≤ k → ∀ i, g k i = 0) : Met l yX3_init wsX3_init rm_X3_init (Pi_ [.ref (adL lo L.length)] D cA lo g (L ++ [.inl (3, [none, some none, some none, some none, some none, some none, some none, some none, some none, some none, some none, none, none, some none, some none, some none, some none, some none, some none])])) (Qi D cA lo (fil g (L.length + 4) 192) (L ++ mdX L.length)) 16 663 (fun q => lo ≤ q) := by
  refine startI (cc := cX3_init) (maxL := 2) (ret := none) (by decide) rfl (Nat.le_of_ble_eq_true rfl) ?_
  intro p e s m args below meth c ls S hr hlocks hi hB hl
  obtain ⟨hH, hP, hK, hN, hO⟩ := hB
  have hS : va_S (fun q => lo ≤ q) s.heap s.heap [] := va_S.rf
  have S : CallFix p m c cX3_init 2 s args wsX3_init RX3 := S
  have hl : lv_has ls 2 [(0, .ref (adL lo L.length))] := hl
  have hi : meth.name = "<init>" := hi
  have hn3 : ∀ w ∈ wsX30, w ∈ wsX3_init := by decide +kernel
  rw [List.length_append] at hH
  have hH : s.heap.size = lo + (L.length + 1) := hH
  have hlo : lo ≤ s.heap.size := by omega
  have fc0 : s.vm.findClass ("[" ++ (newarray.typeOf .int).toString) = some (cA 0) := (hK.2 0 _ rfl).2
  have fc1 : s.vm.findClass ("[" ++ (newarray.typeOf .boolean).toString) = some (cA 1) := (hK.2 1 _ rfl).2
  have lk7 := S.2.2.2.2 (.fieldLink RX3 7 "FlatLoaderModel" "present" "[Z") (by decide +kernel)
  have lk13 := S.2.2.2.2 (.fieldLink RX3 13 "FlatLoaderModel" "loaded" "[Z") (by decide +kernel)
  have lk16 := S.2.2.2.2 (.fieldLink RX3 16 "FlatLoaderModel" "loadable" "[Z") (by decide +kernel)
  have lk19 := S.2.2.2.2 (.fieldLink RX3 19 "FlatLoaderModel" "files" "[I") (by decide +kernel)
  have lk23 := S.2.2.2.2 (.fieldLink RX3 23 "FlatLoaderModel" "extended" "[I") (by decide +kernel)
  have lk26 := S.2.2.2.2 (.fieldLink RX3 26 "FlatLoaderModel" "many" "[I") (by decide +kernel)
  have lk29 := S.2.2.2.2 (.fieldLink RX3 29 "FlatLoaderModel" "on" "[I") (by decide +kernel)
  have lk32 := S.2.2.2.2 (.fieldLink RX3 32 "FlatLoaderModel" "imports" "[I") (by decide +kernel)
  have lk35 := S.2.2.2.2 (.fieldLink RX3 35 "FlatLoaderModel" "exports" "[I") (by decide +kernel)
  have lk38 := S.2.2.2.2 (.fieldLink RX3 38 "FlatLoaderModel" "required" "[Z") (by decide +kernel)
  have lk41 := S.2.2.2.2 (.fieldLink RX3 41 "FlatLoaderModel" "row" "[I") (by decide +kernel)
  have lk44 := S.2.2.2.2 (.fieldLink RX3 44 "FlatLoaderModel" "begun" "[Z") (by decide +kernel)
  have lk47 := S.2.2.2.2 (.fieldLink RX3 47 "FlatLoaderModel" "come" "[Z") (by decide +kernel)
  have lk50 := S.2.2.2.2 (.fieldLink RX3 50 "FlatLoaderModel" "through" "[I") (by decide +kernel)
  have lk53 := S.2.2.2.2 (.fieldLink RX3 53 "FlatLoaderModel" "place" "[I") (by decide +kernel)
  have lk56 := S.2.2.2.2 (.fieldLink RX3 56 "FlatLoaderModel" "chain" "[I") (by decide +kernel)
  have key : ∀ (n i : Nat) (x : Int32), i ≤ 192 → 193 ≤ i + n → x = nI i → ∀ (H : Heap) (locs : List Loc), va_P D vwCl (wld cA (adL lo) (fil g (L.length + 4) i) (L ++ mdX L.length)) H → va_S (fun q => lo ≤ q) s.heap H locs → ∀ (ls : Array Slot), lv_has ls 2 [(0, .ref (adL lo L.length)), (1, .int x)] → W p l e rm_X3_init s m args below meth c H locs 16 663 (MQ below (Qi D cA lo (fil g (L.length + 4) 192) (L ++ mdX L.length)) args s 16 663 (fun q => lo ≤ q)) (F0 m 136 ls []) := by
    intro n
    induction n with
    | zero =>
      intro i x h1 h2
      omega
    | succ n ih =>
      intro i x hi24 hin ex H locs hP hS ls hl
      refine lv_iload_n S.1 S.2.1 dX3_init_136 rfl (lv_at hl 1 rfl) ?_
      refine lv_sipush (v := 192) S.1 S.2.1 dX3_init_137 (by decide) ?_
      refine lv_icmp_ge (tgt := 164) S.1 S.2.1 dX3_init_140 (by decide) (fun hc => ?_) (fun hc => ?_)
      · have hi2 : i = 192 := by
          rcases Nat.lt_or_ge i 192 with h | h
          · exact absurd hc (by rw [ex]; exact nI_ge h (by decide))
          · omega
        subst hi2
        exact e_I S hr hlocks hP hS rfl rfl (Nat.le_refl _) (Nat.le_refl _) dX3_init_164
      · have hlt : i < 192 := by
          rcases Nat.lt_or_ge i 192 with h | h
          · exact h
          · exact absurd (by rw [ex]; exact nI_le h (by omega)) hc
        have hv : vp_in x 192 := by rw [ex]; exact vp_in_nI hlt (by decide)
        have hx : x.toNatClampNeg = i := by rw [ex]; exact nI_clamp (by omega)
        refine lv_aload_n S.1 S.2.1 dX3_init_143 rfl (lv_at hl 0 rfl) ?_
        refine r_get (C := RX3) (T := TX3) (N := 19) (ci := 3) (k := L.length) (j := 4) (fs := fsXk L.length) (d := some (some (L.length + 4))) (v := .ref (adL lo (L.length + 4))) S hK hP hn3 lk19 rfl (by decide) (la_get L _ 0) rfl rfl dX3_init_144 ?_
        refine lv_iload_n S.1 S.2.1 dX3_init_147 rfl (lv_at hl 1 rfl) ?_
        refine lv_bipush (v := (-3)) S.1 S.2.1 dX3_init_148 (by decide) ?_
        refine r_ist (k := L.length + 4) (n := 192) S (adL_ok lo _) hK hP hS (la_get L _ 4) hv dX3_init_150 (fun H locs hP hS => ?_)
        refine lv_aload_n S.1 S.2.1 dX3_init_151 rfl (lv_at hl 0 rfl) ?_
        refine r_get (C := RX3) (T := TX3) (N := 19) (ci := 3) (k := L.length) (j := 5) (fs := fsXk L.length) (d := some (some (L.length + 5))) (v := .ref (adL lo (L.length + 5))) S hK hP hn3 lk23 rfl (by decide) (la_get L _ 0) rfl rfl dX3_init_152 ?_
        refine lv_iload_n S.1 S.2.1 dX3_init_155 rfl (lv_at hl 1 rfl) ?_
        refine lv_iconst (v := (-1)) S.1 S.2.1 dX3_init_156 (by decide) ?_
        refine r_ist (k := L.length + 5) (n := 192) S (adL_ok lo _) hK hP hS (la_get L _ 5) hv dX3_init_157 (fun H locs hP hS => ?_)
        refine lv_iinc (v := x + 1) (lv' := [(1, .int (x + 1)), (0, .ref (adL lo L.length))]) S.1 S.2.1 dX3_init_158 hl (k := 1) rfl rfl (by decide) rfl (fun ls hl => ?_)
        refine lv_goto (tgt := 136) S.1 S.2.1 dX3_init_161 (by decide) ?_
        rw [hx, fil_step g (L.length + 4) i] at hP
        exact ih (i + 1) (x + 1) (by omega) (by omega) (by rw [ex]; exact nI_1 i) H locs hP hS ls (lv_sub hl [1, 0] rfl)
  refine lv_aload_n S.1 S.2.1 dX3_init_0 rfl (lv_at hl 0 rfl) ?_
  refine W.objInit S.1 S.2.1 S.2.2.2.1 (S.2.2.2.2 (.methodLink RX3 1 objectInit) (by decide +kernel)) (S.2.2.2.2 (.instanceMethod objectInit) (by decide +kernel)) (S.2.2.2.2 (.code objectInit ⟨#[0xb1]⟩ 1 none) (by decide +kernel)) rfl (by rw [S.2.2.1]; exact hl.1) rfl dX3_init_1 (Nat.le_of_ble_eq_true rfl) (Nat.le_of_ble_eq_true rfl) ?_
  refine W.eq (g2 := F0 m 4 ls []) rfl ?_
  refine lv_aload_n S.1 S.2.1 dX3_init_4 rfl (lv_at hl 0 rfl) ?_
  refine lv_bipush (v := 8) S.1 S.2.1 dX3_init_5 (by decide) ?_
  refine nL_arr (atype := .boolean) (cA := cA) (t := 1) (N := 8) (x := 1) (L := L) (X := [.inl (3, [none, some none, some none, some none, some none, some none, some none, some none, some none, some none, some none, none, none, some none, some none, some none, some none, some none, some none])]) rfl S (by decide +kernel) fc1 (cell_z _ _ _) hlo (by omega) hP hS (hz _ (by omega)) (by decide) rfl (by decide) (Nat.le_of_ble_eq_true rfl) (Nat.le_of_ble_eq_true rfl) dX3_init_7 (fun H hP hS => ?_)
  have hP : va_P D vwCl (wld cA (adL lo) g (L ++ [.inl (3, [none, some none, some none, some none, some none, some none, some none, some none, some none, some none, some none, none, none, some none, some none, some none, some none, some none, some none]), za 8])) H := hP
  refine nL_putF (C := RX3) (T := TX3) (N := 19) (ci := 3) (j := 1) (q := L.length + 1) (ty1 := .array .boolean) (X := [.inl (3, [none, some none, some none, some none, some none, some none, some none, some none, some none, some none, some none, none, none, some none, some none, some none, some none, some none, some none]), za 8]) tyX3 tyX3_ok nmX3 S hK hP hS hn3 lk7 rfl (by decide) rfl hi rfl (by decide +kernel) rfl rfl rfl (Nat.le_of_ble_eq_true rfl) dX3_init_9 (fun H locs hP hS => ?_)
  have hP : va_P D vwCl (wld cA (adL lo) g (L ++ [.inl (3, [none, some (some (L.length + 1)), some none, some none, some none, some none, some none, some none, some none, some none, some none, none, none, some none, some none, some none, some none, some none, some none]), za 8])) H := hP
  refine lv_aload_n S.1 S.2.1 dX3_init_12 rfl (lv_at hl 0 rfl) ?_
  refine lv_bipush (v := 8) S.1 S.2.1 dX3_init_13 (by decide) ?_
  refine nL_arr (atype := .boolean) (cA := cA) (t := 1) (N := 8) (x := 2) (L := L) (X := [.inl (3, [none, some (some (L.length + 1)), some none, some none, some none, some none, some none, some none, some none, some none, some none, none, none, some none, some none, some none, some none, some none, some none]), za 8]) rfl S (by decide +kernel) fc1 (cell_z _ _ _) hlo (by omega) hP hS (hz _ (by omega)) (by decide) rfl (by decide) (Nat.le_of_ble_eq_true rfl) (Nat.le_of_ble_eq_true rfl) dX3_init_15 (fun H hP hS => ?_)
  have hP : va_P D vwCl (wld cA (adL lo) g (L ++ [.inl (3, [none, some (some (L.length + 1)), some none, some none, some none, some none, some none, some none, some none, some none, some none, none, none, some none, some none, some none, some none, some none, some none]), za 8, za 8])) H := hP
  refine nL_putF (C := RX3) (T := TX3) (N := 19) (ci := 3) (j := 2) (q := L.length + 2) (ty1 := .array .boolean) (X := [.inl (3, [none, some (some (L.length + 1)), some none, some none, some none, some none, some none, some none, some none, some none, some none, none, none, some none, some none, some none, some none, some none, some none]), za 8, za 8]) tyX3 tyX3_ok nmX3 S hK hP hS hn3 lk13 rfl (by decide) rfl hi rfl (by decide +kernel) rfl rfl rfl (Nat.le_of_ble_eq_true rfl) dX3_init_17 (fun H locs hP hS => ?_)
  have hP : va_P D vwCl (wld cA (adL lo) g (L ++ [.inl (3, [none, some (some (L.length + 1)), some (some (L.length + 2)), some none, some none, some none, some none, some none, some none, some none, some none, none, none, some none, some none, some none, some none, some none, some none]), za 8, za 8])) H := hP
  refine lv_aload_n S.1 S.2.1 dX3_init_20 rfl (lv_at hl 0 rfl) ?_
  refine lv_bipush (v := 8) S.1 S.2.1 dX3_init_21 (by decide) ?_
  refine nL_arr (atype := .boolean) (cA := cA) (t := 1) (N := 8) (x := 3) (L := L) (X := [.inl (3, [none, some (some (L.length + 1)), some (some (L.length + 2)), some none, some none, some none, some none, some none, some none, some none, some none, none, none, some none, some none, some none, some none, some none, some none]), za 8, za 8]) rfl S (by decide +kernel) fc1 (cell_z _ _ _) hlo (by omega) hP hS (hz _ (by omega)) (by decide) rfl (by decide) (Nat.le_of_ble_eq_true rfl) (Nat.le_of_ble_eq_true rfl) dX3_init_23 (fun H hP hS => ?_)
  have hP : va_P D vwCl (wld cA (adL lo) g (L ++ [.inl (3, [none, some (some (L.length + 1)), some (some (L.length + 2)), some none, some none, some none, some none, some none, some none, some none, some none, none, none, some none, some none, some none, some none, some none, some none]), za 8, za 8, za 8])) H := hP
  refine nL_putF (C := RX3) (T := TX3) (N := 19) (ci := 3) (j := 3) (q := L.length + 3) (ty1 := .array .boolean) (X := [.inl (3, [none, some (some (L.length + 1)), some (some (L.length + 2)), some none, some none, some none, some none, some none, some none, some none, some none, none, none, some none, some none, some none, some none, some none, some none]), za 8, za 8, za 8]) tyX3 tyX3_ok nmX3 S hK hP hS hn3 lk16 rfl (by decide) rfl hi rfl (by decide +kernel) rfl rfl rfl (Nat.le_of_ble_eq_true rfl) dX3_init_25 (fun H locs hP hS => ?_)
  have hP : va_P D vwCl (wld cA (adL lo) g (L ++ [.inl (3, [none, some (some (L.length + 1)), some (some (L.length + 2)), some (some (L.length + 3)), some none, some none, some none, some none, some none, some none, some none, none, none, some none, some none, some none, some none, some none, some none]), za 8, za 8, za 8])) H := hP
  refine lv_aload_n S.1 S.2.1 dX3_init_28 rfl (lv_at hl 0 rfl) ?_
  refine lv_sipush (v := 192) S.1 S.2.1 dX3_init_29 (by decide) ?_
  refine nL_arr (atype := .int) (cA := cA) (t := 0) (N := 192) (x := 4) (L := L) (X := [.inl (3, [none, some (some (L.length + 1)), some (some (L.length + 2)), some (some (L.length + 3)), some none, some none, some none, some none, some none, some none, some none, none, none, some none, some none, some none, some none, some none, some none]), za 8, za 8, za 8]) rfl S (by decide +kernel) fc0 (cell_i _ _ _) hlo (by omega) hP hS (hz _ (by omega)) (by decide) rfl (by decide) (Nat.le_of_ble_eq_true rfl) (Nat.le_of_ble_eq_true rfl) dX3_init_32 (fun H hP hS => ?_)
  have hP : va_P D vwCl (wld cA (adL lo) g (L ++ [.inl (3, [none, some (some (L.length + 1)), some (some (L.length + 2)), some (some (L.length + 3)), some none, some none, some none, some none, some none, some none, some none, none, none, some none, some none, some none, some none, some none, some none]), za 8, za 8, za 8, ia 192])) H := hP
  refine nL_putF (C := RX3) (T := TX3) (N := 19) (ci := 3) (j := 4) (q := L.length + 4) (ty1 := .array .int) (X := [.inl (3, [none, some (some (L.length + 1)), some (some (L.length + 2)), some (some (L.length + 3)), some none, some none, some none, some none, some none, some none, some none, none, none, some none, some none, some none, some none, some none, some none]), za 8, za 8, za 8, ia 192]) tyX3 tyX3_ok nmX3 S hK hP hS hn3 lk19 rfl (by decide) rfl hi rfl (by decide +kernel) rfl rfl rfl (Nat.le_of_ble_eq_true rfl) dX3_init_34 (fun H locs hP hS => ?_)
  have hP : va_P D vwCl (wld cA (adL lo) g (L ++ [.inl (3, [none, some (some (L.length + 1)), some (some (L.length + 2)), some (some (L.length + 3)), some (some (L.length + 4)), some none, some none, some none, some none, some none, some none, none, none, some none, some none, some none, some none, some none, some none]), za 8, za 8, za 8, ia 192])) H := hP
  refine lv_aload_n S.1 S.2.1 dX3_init_37 rfl (lv_at hl 0 rfl) ?_
  refine lv_sipush (v := 192) S.1 S.2.1 dX3_init_38 (by decide) ?_
  refine nL_arr (atype := .int) (cA := cA) (t := 0) (N := 192) (x := 5) (L := L) (X := [.inl (3, [none, some (some (L.length + 1)), some (some (L.length + 2)), some (some (L.length + 3)), some (some (L.length + 4)), some none, some none, some none, some none, some none, some none, none, none, some none, some none, some none, some none, some none, some none]), za 8, za 8, za 8, ia 192]) rfl S (by decide +kernel) fc0 (cell_i _ _ _) hlo (by omega) hP hS (hz _ (by omega)) (by decide) rfl (by decide) (Nat.le_of_ble_eq_true rfl) (Nat.le_of_ble_eq_true rfl) dX3_init_41 (fun H hP hS => ?_)
  have hP : va_P D vwCl (wld cA (adL lo) g (L ++ [.inl (3, [none, some (some (L.length + 1)), some (some (L.length + 2)), some (some (L.length + 3)), some (some (L.length + 4)), some none, some none, some none, some none, some none, some none, none, none, some none, some none, some none, some none, some none, some none]), za 8, za 8, za 8, ia 192, ia 192])) H := hP
  refine nL_putF (C := RX3) (T := TX3) (N := 19) (ci := 3) (j := 5) (q := L.length + 5) (ty1 := .array .int) (X := [.inl (3, [none, some (some (L.length + 1)), some (some (L.length + 2)), some (some (L.length + 3)), some (some (L.length + 4)), some none, some none, some none, some none, some none, some none, none, none, some none, some none, some none, some none, some none, some none]), za 8, za 8, za 8, ia 192, ia 192]) tyX3 tyX3_ok nmX3 S hK hP hS hn3 lk23 rfl (by decide) rfl hi rfl (by decide +kernel) rfl rfl rfl (Nat.le_of_ble_eq_true rfl) dX3_init_43 (fun H locs hP hS => ?_)
  have hP : va_P D vwCl (wld cA (adL lo) g (L ++ [.inl (3, [none, some (some (L.length + 1)), some (some (L.length + 2)), some (some (L.length + 3)), some (some (L.length + 4)), some (some (L.length + 5)), some none, some none, some none, some none, some none, none, none, some none, some none, some none, some none, some none, some none]), za 8, za 8, za 8, ia 192, ia 192])) H := hP
  refine lv_aload_n S.1 S.2.1 dX3_init_46 rfl (lv_at hl 0 rfl) ?_
  refine lv_bipush (v := 8) S.1 S.2.1 dX3_init_47 (by decide) ?_
  refine nL_arr (atype := .int) (cA := cA) (t := 0) (N := 8) (x := 6) (L := L) (X := [.inl (3, [none, some (some (L.length + 1)), some (some (L.length + 2)), some (some (L.length + 3)), some (some (L.length + 4)), some (some (L.length + 5)), some none, some none, some none, some none, some none, none, none, some none, some none, some none, some none, some none, some none]), za 8, za 8, za 8, ia 192, ia 192]) rfl S (by decide +kernel) fc0 (cell_i _ _ _) hlo (by omega) hP hS (hz _ (by omega)) (by decide) rfl (by decide) (Nat.le_of_ble_eq_true rfl) (Nat.le_of_ble_eq_true rfl) dX3_init_49 (fun H hP hS => ?_)
  have hP : va_P D vwCl (wld cA (adL lo) g (L ++ [.inl (3, [none, some (some (L.length + 1)), some (some (L.length + 2)), some (some (L.length + 3)), some (some (L.length + 4)), some (some (L.length + 5)), some none, some none, some none, some none, some none, none, none, some none, some none, some none, some none, some none, some none]), za 8, za 8, za 8, ia 192, ia 192, ia 8])) H := hP
  refine nL_putF (C := RX3) (T := TX3) (N := 19) (ci := 3) (j := 6) (q := L.length + 6) (ty1 := .array .int) (X := [.inl (3, [none, some (some (L.length + 1)), some (some (L.length + 2)), some (some (L.length + 3)), some (some (L.length + 4)), some (some (L.length + 5)), some none, some none, some none, some none, some none, none, none, some none, some none, some none, some none, some none, some none]), za 8, za 8, za 8, ia 192, ia 192, ia 8]) tyX3 tyX3_ok nmX3 S hK hP hS hn3 lk26 rfl (by decide) rfl hi rfl (by decide +kernel) rfl rfl rfl (Nat.le_of_ble_eq_true rfl) dX3_init_51 (fun H locs hP hS => ?_)
  have hP : va_P D vwCl (wld cA (adL lo) g (L ++ [.inl (3, [none, some (some (L.length + 1)), some (some (L.length + 2)), some (some (L.length + 3)), some (some (L.length + 4)), some (some (L.length + 5)), some (some (L.length + 6)), some none, some none, some none, some none, none, none, some none, some none, some none, some none, some none, some none]), za 8, za 8, za 8, ia 192, ia 192, ia 8])) H := hP
  refine lv_aload_n S.1 S.2.1 dX3_init_54 rfl (lv_at hl 0 rfl) ?_
  refine lv_bipush (v := 48) S.1 S.2.1 dX3_init_55 (by decide) ?_
  refine nL_arr (atype := .int) (cA := cA) (t := 0) (N := 48) (x := 7) (L := L) (X := [.inl (3, [none, some (some (L.length + 1)), some (some (L.length + 2)), some (some (L.length + 3)), some (some (L.length + 4)), some (some (L.length + 5)), some (some (L.length + 6)), some none, some none, some none, some none, none, none, some none, some none, some none, some none, some none, some none]), za 8, za 8, za 8, ia 192, ia 192, ia 8]) rfl S (by decide +kernel) fc0 (cell_i _ _ _) hlo (by omega) hP hS (hz _ (by omega)) (by decide) rfl (by decide) (Nat.le_of_ble_eq_true rfl) (Nat.le_of_ble_eq_true rfl) dX3_init_57 (fun H hP hS => ?_)
  have hP : va_P D vwCl (wld cA (adL lo) g (L ++ [.inl (3, [none, some (some (L.length + 1)), some (some (L.length + 2)), some (some (L.length + 3)), some (some (L.length + 4)), some (some (L.length + 5)), some (some (L.length + 6)), some none, some none, some none, some none, none, none, some none, some none, some none, some none, some none, some none]), za 8, za 8, za 8, ia 192, ia 192, ia 8, ia 48])) H := hP
  refine nL_putF (C := RX3) (T := TX3) (N := 19) (ci := 3) (j := 7) (q := L.length + 7) (ty1 := .array .int) (X := [.inl (3, [none, some (some (L.length + 1)), some (some (L.length + 2)), some (some (L.length + 3)), some (some (L.length + 4)), some (some (L.length + 5)), some (some (L.length + 6)), some none, some none, some none, some none, none, none, some none, some none, some none, some none, some none, some none]), za 8, za 8, za 8, ia 192, ia 192, ia 8, ia 48]) tyX3 tyX3_ok nmX3 S hK hP hS hn3 lk29 rfl (by decide) rfl hi rfl (by decide +kernel) rfl rfl rfl (Nat.le_of_ble_eq_true rfl) dX3_init_59 (fun H locs hP hS => ?_)
  have hP : va_P D vwCl (wld cA (adL lo) g (L ++ [.inl (3, [none, some (some (L.length + 1)), some (some (L.length + 2)), some (some (L.length + 3)), some (some (L.length + 4)), some (some (L.length + 5)), some (some (L.length + 6)), some (some (L.length + 7)), some none, some none, some none, none, none, some none, some none, some none, some none, some none, some none]), za 8, za 8, za 8, ia 192, ia 192, ia 8, ia 48])) H := hP
  refine lv_aload_n S.1 S.2.1 dX3_init_62 rfl (lv_at hl 0 rfl) ?_
  refine lv_bipush (v := 48) S.1 S.2.1 dX3_init_63 (by decide) ?_
  refine nL_arr (atype := .int) (cA := cA) (t := 0) (N := 48) (x := 8) (L := L) (X := [.inl (3, [none, some (some (L.length + 1)), some (some (L.length + 2)), some (some (L.length + 3)), some (some (L.length + 4)), some (some (L.length + 5)), some (some (L.length + 6)), some (some (L.length + 7)), some none, some none, some none, none, none, some none, some none, some none, some none, some none, some none]), za 8, za 8, za 8, ia 192, ia 192, ia 8, ia 48]) rfl S (by decide +kernel) fc0 (cell_i _ _ _) hlo (by omega) hP hS (hz _ (by omega)) (by decide) rfl (by decide) (Nat.le_of_ble_eq_true rfl) (Nat.le_of_ble_eq_true rfl) dX3_init_65 (fun H hP hS => ?_)
  have hP : va_P D vwCl (wld cA (adL lo) g (L ++ [.inl (3, [none, some (some (L.length + 1)), some (some (L.length + 2)), some (some (L.length + 3)), some (some (L.length + 4)), some (some (L.length + 5)), some (some (L.length + 6)), some (some (L.length + 7)), some none, some none, some none, none, none, some none, some none, some none, some none, some none, some none]), za 8, za 8, za 8, ia 192, ia 192, ia 8, ia 48, ia 48])) H := hP
  refine nL_putF (C := RX3) (T := TX3) (N := 19) (ci := 3) (j := 8) (q := L.length + 8) (ty1 := .array .int) (X := [.inl (3, [none, some (some (L.length + 1)), some (some (L.length + 2)), some (some (L.length + 3)), some (some (L.length + 4)), some (some (L.length + 5)), some (some (L.length + 6)), some (some (L.length + 7)), some none, some none, some none, none, none, some none, some none, some none, some none, some none, some none]), za 8, za 8, za 8, ia 192, ia 192, ia 8, ia 48, ia 48]) tyX3 tyX3_ok nmX3 S hK hP hS hn3 lk32 rfl (by decide) rfl hi rfl (by decide +kernel) rfl rfl rfl (Nat.le_of_ble_eq_true rfl) dX3_init_67 (fun H locs hP hS => ?_)
  have hP : va_P D vwCl (wld cA (adL lo) g (L ++ [.inl (3, [none, some (some (L.length + 1)), some (some (L.length + 2)), some (some (L.length + 3)), some (some (L.length + 4)), some (some (L.length + 5)), some (some (L.length + 6)), some (some (L.length + 7)), some (some (L.length + 8)), some none, some none, none, none, some none, some none, some none, some none, some none, some none]), za 8, za 8, za 8, ia 192, ia 192, ia 8, ia 48, ia 48])) H := hP
  refine lv_aload_n S.1 S.2.1 dX3_init_70 rfl (lv_at hl 0 rfl) ?_
  refine lv_bipush (v := 48) S.1 S.2.1 dX3_init_71 (by decide) ?_
  refine nL_arr (atype := .int) (cA := cA) (t := 0) (N := 48) (x := 9) (L := L) (X := [.inl (3, [none, some (some (L.length + 1)), some (some (L.length + 2)), some (some (L.length + 3)), some (some (L.length + 4)), some (some (L.length + 5)), some (some (L.length + 6)), some (some (L.length + 7)), some (some (L.length + 8)), some none, some none, none, none, some none, some none, some none, some none, some none, some none]), za 8, za 8, za 8, ia 192, ia 192, ia 8, ia 48, ia 48]) rfl S (by decide +kernel) fc0 (cell_i _ _ _) hlo (by omega) hP hS (hz _ (by omega)) (by decide) rfl (by decide) (Nat.le_of_ble_eq_true rfl) (Nat.le_of_ble_eq_true rfl) dX3_init_73 (fun H hP hS => ?_)
  have hP : va_P D vwCl (wld cA (adL lo) g (L ++ [.inl (3, [none, some (some (L.length + 1)), some (some (L.length + 2)), some (some (L.length + 3)), some (some (L.length + 4)), some (some (L.length + 5)), some (some (L.length + 6)), some (some (L.length + 7)), some (some (L.length + 8)), some none, some none, none, none, some none, some none, some none, some none, some none, some none]), za 8, za 8, za 8, ia 192, ia 192, ia 8, ia 48, ia 48, ia 48])) H := hP
  refine nL_putF (C := RX3) (T := TX3) (N := 19) (ci := 3) (j := 9) (q := L.length + 9) (ty1 := .array .int) (X := [.inl (3, [none, some (some (L.length + 1)), some (some (L.length + 2)), some (some (L.length + 3)), some (some (L.length + 4)), some (some (L.length + 5)), some (some (L.length + 6)), some (some (L.length + 7)), some (some (L.length + 8)), some none, some none, none, none, some none, some none, some none, some none, some none, some none]), za 8, za 8, za 8, ia 192, ia 192, ia 8, ia 48, ia 48, ia 48]) tyX3 tyX3_ok nmX3 S hK hP hS hn3 lk35 rfl (by decide) rfl hi rfl (by decide +kernel) rfl rfl rfl (Nat.le_of_ble_eq_true rfl) dX3_init_75 (fun H locs hP hS => ?_)
  have hP : va_P D vwCl (wld cA (adL lo) g (L ++ [.inl (3, [none, some (some (L.length + 1)), some (some (L.length + 2)), some (some (L.length + 3)), some (some (L.length + 4)), some (some (L.length + 5)), some (some (L.length + 6)), some (some (L.length + 7)), some (some (L.length + 8)), some (some (L.length + 9)), some none, none, none, some none, some none, some none, some none, some none, some none]), za 8, za 8, za 8, ia 192, ia 192, ia 8, ia 48, ia 48, ia 48])) H := hP
  refine lv_aload_n S.1 S.2.1 dX3_init_78 rfl (lv_at hl 0 rfl) ?_
  refine lv_bipush (v := 48) S.1 S.2.1 dX3_init_79 (by decide) ?_
  refine nL_arr (atype := .boolean) (cA := cA) (t := 1) (N := 48) (x := 10) (L := L) (X := [.inl (3, [none, some (some (L.length + 1)), some (some (L.length + 2)), some (some (L.length + 3)), some (some (L.length + 4)), some (some (L.length + 5)), some (some (L.length + 6)), some (some (L.length + 7)), some (some (L.length + 8)), some (some (L.length + 9)), some none, none, none, some none, some none, some none, some none, some none, some none]), za 8, za 8, za 8, ia 192, ia 192, ia 8, ia 48, ia 48, ia 48]) rfl S (by decide +kernel) fc1 (cell_z _ _ _) hlo (by omega) hP hS (hz _ (by omega)) (by decide) rfl (by decide) (Nat.le_of_ble_eq_true rfl) (Nat.le_of_ble_eq_true rfl) dX3_init_81 (fun H hP hS => ?_)
  have hP : va_P D vwCl (wld cA (adL lo) g (L ++ [.inl (3, [none, some (some (L.length + 1)), some (some (L.length + 2)), some (some (L.length + 3)), some (some (L.length + 4)), some (some (L.length + 5)), some (some (L.length + 6)), some (some (L.length + 7)), some (some (L.length + 8)), some (some (L.length + 9)), some none, none, none, some none, some none, some none, some none, some none, some none]), za 8, za 8, za 8, ia 192, ia 192, ia 8, ia 48, ia 48, ia 48, za 48])) H := hP
  refine nL_putF (C := RX3) (T := TX3) (N := 19) (ci := 3) (j := 10) (q := L.length + 10) (ty1 := .array .boolean) (X := [.inl (3, [none, some (some (L.length + 1)), some (some (L.length + 2)), some (some (L.length + 3)), some (some (L.length + 4)), some (some (L.length + 5)), some (some (L.length + 6)), some (some (L.length + 7)), some (some (L.length + 8)), some (some (L.length + 9)), some none, none, none, some none, some none, some none, some none, some none, some none]), za 8, za 8, za 8, ia 192, ia 192, ia 8, ia 48, ia 48, ia 48, za 48]) tyX3 tyX3_ok nmX3 S hK hP hS hn3 lk38 rfl (by decide) rfl hi rfl (by decide +kernel) rfl rfl rfl (Nat.le_of_ble_eq_true rfl) dX3_init_83 (fun H locs hP hS => ?_)
  have hP : va_P D vwCl (wld cA (adL lo) g (L ++ [.inl (3, [none, some (some (L.length + 1)), some (some (L.length + 2)), some (some (L.length + 3)), some (some (L.length + 4)), some (some (L.length + 5)), some (some (L.length + 6)), some (some (L.length + 7)), some (some (L.length + 8)), some (some (L.length + 9)), some (some (L.length + 10)), none, none, some none, some none, some none, some none, some none, some none]), za 8, za 8, za 8, ia 192, ia 192, ia 8, ia 48, ia 48, ia 48, za 48])) H := hP
  refine lv_aload_n S.1 S.2.1 dX3_init_86 rfl (lv_at hl 0 rfl) ?_
  refine lv_bipush (v := 8) S.1 S.2.1 dX3_init_87 (by decide) ?_
  refine nL_arr (atype := .int) (cA := cA) (t := 0) (N := 8) (x := 11) (L := L) (X := [.inl (3, [none, some (some (L.length + 1)), some (some (L.length + 2)), some (some (L.length + 3)), some (some (L.length + 4)), some (some (L.length + 5)), some (some (L.length + 6)), some (some (L.length + 7)), some (some (L.length + 8)), some (some (L.length + 9)), some (some (L.length + 10)), none, none, some none, some none, some none, some none, some none, some none]), za 8, za 8, za 8, ia 192, ia 192, ia 8, ia 48, ia 48, ia 48, za 48]) rfl S (by decide +kernel) fc0 (cell_i _ _ _) hlo (by omega) hP hS (hz _ (by omega)) (by decide) rfl (by decide) (Nat.le_of_ble_eq_true rfl) (Nat.le_of_ble_eq_true rfl) dX3_init_89 (fun H hP hS => ?_)
  have hP : va_P D vwCl (wld cA (adL lo) g (L ++ [.inl (3, [none, some (some (L.length + 1)), some (some (L.length + 2)), some (some (L.length + 3)), some (some (L.length + 4)), some (some (L.length + 5)), some (some (L.length + 6)), some (some (L.length + 7)), some (some (L.length + 8)), some (some (L.length + 9)), some (some (L.length + 10)), none, none, some none, some none, some none, some none, some none, some none]), za 8, za 8, za 8, ia 192, ia 192, ia 8, ia 48, ia 48, ia 48, za 48, ia 8])) H := hP
  refine nL_putF (C := RX3) (T := TX3) (N := 19) (ci := 3) (j := 13) (q := L.length + 11) (ty1 := .array .int) (X := [.inl (3, [none, some (some (L.length + 1)), some (some (L.length + 2)), some (some (L.length + 3)), some (some (L.length + 4)), some (some (L.length + 5)), some (some (L.length + 6)), some (some (L.length + 7)), some (some (L.length + 8)), some (some (L.length + 9)), some (some (L.length + 10)), none, none, some none, some none, some none, some none, some none, some none]), za 8, za 8, za 8, ia 192, ia 192, ia 8, ia 48, ia 48, ia 48, za 48, ia 8]) tyX3 tyX3_ok nmX3 S hK hP hS hn3 lk41 rfl (by decide) rfl hi rfl (by decide +kernel) rfl rfl rfl (Nat.le_of_ble_eq_true rfl) dX3_init_91 (fun H locs hP hS => ?_)
  have hP : va_P D vwCl (wld cA (adL lo) g (L ++ [.inl (3, [none, some (some (L.length + 1)), some (some (L.length + 2)), some (some (L.length + 3)), some (some (L.length + 4)), some (some (L.length + 5)), some (some (L.length + 6)), some (some (L.length + 7)), some (some (L.length + 8)), some (some (L.length + 9)), some (some (L.length + 10)), none, none, some (some (L.length + 11)), some none, some none, some none, some none, some none]), za 8, za 8, za 8, ia 192, ia 192, ia 8, ia 48, ia 48, ia 48, za 48, ia 8])) H := hP
  refine lv_aload_n S.1 S.2.1 dX3_init_94 rfl (lv_at hl 0 rfl) ?_
  refine lv_bipush (v := 8) S.1 S.2.1 dX3_init_95 (by decide) ?_
  refine nL_arr (atype := .boolean) (cA := cA) (t := 1) (N := 8) (x := 12) (L := L) (X := [.inl (3, [none, some (some (L.length + 1)), some (some (L.length + 2)), some (some (L.length + 3)), some (some (L.length + 4)), some (some (L.length + 5)), some (some (L.length + 6)), some (some (L.length + 7)), some (some (L.length + 8)), some (some (L.length + 9)), some (some (L.length + 10)), none, none, some (some (L.length + 11)), some none, some none, some none, some none, some none]), za 8, za 8, za 8, ia 192, ia 192, ia 8, ia 48, ia 48, ia 48, za 48, ia 8]) rfl S (by decide +kernel) fc1 (cell_z _ _ _) hlo (by omega) hP hS (hz _ (by omega)) (by decide) rfl (by decide) (Nat.le_of_ble_eq_true rfl) (Nat.le_of_ble_eq_true rfl) dX3_init_97 (fun H hP hS => ?_)
  have hP : va_P D vwCl (wld cA (adL lo) g (L ++ [.inl (3, [none, some (some (L.length + 1)), some (some (L.length + 2)), some (some (L.length + 3)), some (some (L.length + 4)), some (some (L.length + 5)), some (some (L.length + 6)), some (some (L.length + 7)), some (some (L.length + 8)), some (some (L.length + 9)), some (some (L.length + 10)), none, none, some (some (L.length + 11)), some none, some none, some none, some none, some none]), za 8, za 8, za 8, ia 192, ia 192, ia 8, ia 48, ia 48, ia 48, za 48, ia 8, za 8])) H := hP
  refine nL_putF (C := RX3) (T := TX3) (N := 19) (ci := 3) (j := 14) (q := L.length + 12) (ty1 := .array .boolean) (X := [.inl (3, [none, some (some (L.length + 1)), some (some (L.length + 2)), some (some (L.length + 3)), some (some (L.length + 4)), some (some (L.length + 5)), some (some (L.length + 6)), some (some (L.length + 7)), some (some (L.length + 8)), some (some (L.length + 9)), some (some (L.length + 10)), none, none, some (some (L.length + 11)), some none, some none, some none, some none, some none]), za 8, za 8, za 8, ia 192, ia 192, ia 8, ia 48, ia 48, ia 48, za 48, ia 8, za 8]) tyX3 tyX3_ok nmX3 S hK hP hS hn3 lk44 rfl (by decide) rfl hi rfl (by decide +kernel) rfl rfl rfl (Nat.le_of_ble_eq_true rfl) dX3_init_99 (fun H locs hP hS => ?_)
  have hP : va_P D vwCl (wld cA (adL lo) g (L ++ [.inl (3, [none, some (some (L.length + 1)), some (some (L.length + 2)), some (some (L.length + 3)), some (some (L.length + 4)), some (some (L.length + 5)), some (some (L.length + 6)), some (some (L.length + 7)), some (some (L.length + 8)), some (some (L.length + 9)), some (some (L.length + 10)), none, none, some (some (L.length + 11)), some (some (L.length + 12)), some none, some none, some none, some none]), za 8, za 8, za 8, ia 192, ia 192, ia 8, ia 48, ia 48, ia 48, za 48, ia 8, za 8])) H := hP
  refine lv_aload_n S.1 S.2.1 dX3_init_102 rfl (lv_at hl 0 rfl) ?_
  refine lv_bipush (v := 8) S.1 S.2.1 dX3_init_103 (by decide) ?_
  refine nL_arr (atype := .boolean) (cA := cA) (t := 1) (N := 8) (x := 13) (L := L) (X := [.inl (3, [none, some (some (L.length + 1)), some (some (L.length + 2)), some (some (L.length + 3)), some (some (L.length + 4)), some (some (L.length + 5)), some (some (L.length + 6)), some (some (L.length + 7)), some (some (L.length + 8)), some (some (L.length + 9)), some (some (L.length + 10)), none, none, some (some (L.length + 11)), some (some (L.length + 12)), some none, some none, some none, some none]), za 8, za 8, za 8, ia 192, ia 192, ia 8, ia 48, ia 48, ia 48, za 48, ia 8, za 8]) rfl S (by decide +kernel) fc1 (cell_z _ _ _) hlo (by omega) hP hS (hz _ (by omega)) (by decide) rfl (by decide) (Nat.le_of_ble_eq_true rfl) (Nat.le_of_ble_eq_true rfl) dX3_init_105 (fun H hP hS => ?_)
  have hP : va_P D vwCl (wld cA (adL lo) g (L ++ [.inl (3, [none, some (some (L.length + 1)), some (some (L.length + 2)), some (some (L.length + 3)), some (some (L.length + 4)), some (some (L.length + 5)), some (some (L.length + 6)), some (some (L.length + 7)), some (some (L.length + 8)), some (some (L.length + 9)), some (some (L.length + 10)), none, none, some (some (L.length + 11)), some (some (L.length + 12)), some none, some none, some none, some none]), za 8, za 8, za 8, ia 192, ia 192, ia 8, ia 48, ia 48, ia 48, za 48, ia 8, za 8, za 8])) H := hP
  refine nL_putF (C := RX3) (T := TX3) (N := 19) (ci := 3) (j := 15) (q := L.length + 13) (ty1 := .array .boolean) (X := [.inl (3, [none, some (some (L.length + 1)), some (some (L.length + 2)), some (some (L.length + 3)), some (some (L.length + 4)), some (some (L.length + 5)), some (some (L.length + 6)), some (some (L.length + 7)), some (some (L.length + 8)), some (some (L.length + 9)), some (some (L.length + 10)), none, none, some (some (L.length + 11)), some (some (L.length + 12)), some none, some none, some none, some none]), za 8, za 8, za 8, ia 192, ia 192, ia 8, ia 48, ia 48, ia 48, za 48, ia 8, za 8, za 8]) tyX3 tyX3_ok nmX3 S hK hP hS hn3 lk47 rfl (by decide) rfl hi rfl (by decide +kernel) rfl rfl rfl (Nat.le_of_ble_eq_true rfl) dX3_init_107 (fun H locs hP hS => ?_)
  have hP : va_P D vwCl (wld cA (adL lo) g (L ++ [.inl (3, [none, some (some (L.length + 1)), some (some (L.length + 2)), some (some (L.length + 3)), some (some (L.length + 4)), some (some (L.length + 5)), some (some (L.length + 6)), some (some (L.length + 7)), some (some (L.length + 8)), some (some (L.length + 9)), some (some (L.length + 10)), none, none, some (some (L.length + 11)), some (some (L.length + 12)), some (some (L.length + 13)), some none, some none, some none]), za 8, za 8, za 8, ia 192, ia 192, ia 8, ia 48, ia 48, ia 48, za 48, ia 8, za 8, za 8])) H := hP
  refine lv_aload_n S.1 S.2.1 dX3_init_110 rfl (lv_at hl 0 rfl) ?_
  refine lv_bipush (v := 10) S.1 S.2.1 dX3_init_111 (by decide) ?_
  refine nL_arr (atype := .int) (cA := cA) (t := 0) (N := 10) (x := 14) (L := L) (X := [.inl (3, [none, some (some (L.length + 1)), some (some (L.length + 2)), some (some (L.length + 3)), some (some (L.length + 4)), some (some (L.length + 5)), some (some (L.length + 6)), some (some (L.length + 7)), some (some (L.length + 8)), some (some (L.length + 9)), some (some (L.length + 10)), none, none, some (some (L.length + 11)), some (some (L.length + 12)), some (some (L.length + 13)), some none, some none, some none]), za 8, za 8, za 8, ia 192, ia 192, ia 8, ia 48, ia 48, ia 48, za 48, ia 8, za 8, za 8]) rfl S (by decide +kernel) fc0 (cell_i _ _ _) hlo (by omega) hP hS (hz _ (by omega)) (by decide) rfl (by decide) (Nat.le_of_ble_eq_true rfl) (Nat.le_of_ble_eq_true rfl) dX3_init_113 (fun H hP hS => ?_)
  have hP : va_P D vwCl (wld cA (adL lo) g (L ++ [.inl (3, [none, some (some (L.length + 1)), some (some (L.length + 2)), some (some (L.length + 3)), some (some (L.length + 4)), some (some (L.length + 5)), some (some (L.length + 6)), some (some (L.length + 7)), some (some (L.length + 8)), some (some (L.length + 9)), some (some (L.length + 10)), none, none, some (some (L.length + 11)), some (some (L.length + 12)), some (some (L.length + 13)), some none, some none, some none]), za 8, za 8, za 8, ia 192, ia 192, ia 8, ia 48, ia 48, ia 48, za 48, ia 8, za 8, za 8, ia 10])) H := hP
  refine nL_putF (C := RX3) (T := TX3) (N := 19) (ci := 3) (j := 16) (q := L.length + 14) (ty1 := .array .int) (X := [.inl (3, [none, some (some (L.length + 1)), some (some (L.length + 2)), some (some (L.length + 3)), some (some (L.length + 4)), some (some (L.length + 5)), some (some (L.length + 6)), some (some (L.length + 7)), some (some (L.length + 8)), some (some (L.length + 9)), some (some (L.length + 10)), none, none, some (some (L.length + 11)), some (some (L.length + 12)), some (some (L.length + 13)), some none, some none, some none]), za 8, za 8, za 8, ia 192, ia 192, ia 8, ia 48, ia 48, ia 48, za 48, ia 8, za 8, za 8, ia 10]) tyX3 tyX3_ok nmX3 S hK hP hS hn3 lk50 rfl (by decide) rfl hi rfl (by decide +kernel) rfl rfl rfl (Nat.le_of_ble_eq_true rfl) dX3_init_115 (fun H locs hP hS => ?_)
  have hP : va_P D vwCl (wld cA (adL lo) g (L ++ [.inl (3, [none, some (some (L.length + 1)), some (some (L.length + 2)), some (some (L.length + 3)), some (some (L.length + 4)), some (some (L.length + 5)), some (some (L.length + 6)), some (some (L.length + 7)), some (some (L.length + 8)), some (some (L.length + 9)), some (some (L.length + 10)), none, none, some (some (L.length + 11)), some (some (L.length + 12)), some (some (L.length + 13)), some (some (L.length + 14)), some none, some none]), za 8, za 8, za 8, ia 192, ia 192, ia 8, ia 48, ia 48, ia 48, za 48, ia 8, za 8, za 8, ia 10])) H := hP
  refine lv_aload_n S.1 S.2.1 dX3_init_118 rfl (lv_at hl 0 rfl) ?_
  refine lv_bipush (v := 10) S.1 S.2.1 dX3_init_119 (by decide) ?_
  refine nL_arr (atype := .int) (cA := cA) (t := 0) (N := 10) (x := 15) (L := L) (X := [.inl (3, [none, some (some (L.length + 1)), some (some (L.length + 2)), some (some (L.length + 3)), some (some (L.length + 4)), some (some (L.length + 5)), some (some (L.length + 6)), some (some (L.length + 7)), some (some (L.length + 8)), some (some (L.length + 9)), some (some (L.length + 10)), none, none, some (some (L.length + 11)), some (some (L.length + 12)), some (some (L.length + 13)), some (some (L.length + 14)), some none, some none]), za 8, za 8, za 8, ia 192, ia 192, ia 8, ia 48, ia 48, ia 48, za 48, ia 8, za 8, za 8, ia 10]) rfl S (by decide +kernel) fc0 (cell_i _ _ _) hlo (by omega) hP hS (hz _ (by omega)) (by decide) rfl (by decide) (Nat.le_of_ble_eq_true rfl) (Nat.le_of_ble_eq_true rfl) dX3_init_121 (fun H hP hS => ?_)
  have hP : va_P D vwCl (wld cA (adL lo) g (L ++ [.inl (3, [none, some (some (L.length + 1)), some (some (L.length + 2)), some (some (L.length + 3)), some (some (L.length + 4)), some (some (L.length + 5)), some (some (L.length + 6)), some (some (L.length + 7)), some (some (L.length + 8)), some (some (L.length + 9)), some (some (L.length + 10)), none, none, some (some (L.length + 11)), some (some (L.length + 12)), some (some (L.length + 13)), some (some (L.length + 14)), some none, some none]), za 8, za 8, za 8, ia 192, ia 192, ia 8, ia 48, ia 48, ia 48, za 48, ia 8, za 8, za 8, ia 10, ia 10])) H := hP
  refine nL_putF (C := RX3) (T := TX3) (N := 19) (ci := 3) (j := 17) (q := L.length + 15) (ty1 := .array .int) (X := [.inl (3, [none, some (some (L.length + 1)), some (some (L.length + 2)), some (some (L.length + 3)), some (some (L.length + 4)), some (some (L.length + 5)), some (some (L.length + 6)), some (some (L.length + 7)), some (some (L.length + 8)), some (some (L.length + 9)), some (some (L.length + 10)), none, none, some (some (L.length + 11)), some (some (L.length + 12)), some (some (L.length + 13)), some (some (L.length + 14)), some none, some none]), za 8, za 8, za 8, ia 192, ia 192, ia 8, ia 48, ia 48, ia 48, za 48, ia 8, za 8, za 8, ia 10, ia 10]) tyX3 tyX3_ok nmX3 S hK hP hS hn3 lk53 rfl (by decide) rfl hi rfl (by decide +kernel) rfl rfl rfl (Nat.le_of_ble_eq_true rfl) dX3_init_123 (fun H locs hP hS => ?_)
  have hP : va_P D vwCl (wld cA (adL lo) g (L ++ [.inl (3, [none, some (some (L.length + 1)), some (some (L.length + 2)), some (some (L.length + 3)), some (some (L.length + 4)), some (some (L.length + 5)), some (some (L.length + 6)), some (some (L.length + 7)), some (some (L.length + 8)), some (some (L.length + 9)), some (some (L.length + 10)), none, none, some (some (L.length + 11)), some (some (L.length + 12)), some (some (L.length + 13)), some (some (L.length + 14)), some (some (L.length + 15)), some none]), za 8, za 8, za 8, ia 192, ia 192, ia 8, ia 48, ia 48, ia 48, za 48, ia 8, za 8, za 8, ia 10, ia 10])) H := hP
  refine lv_aload_n S.1 S.2.1 dX3_init_126 rfl (lv_at hl 0 rfl) ?_
  refine lv_bipush (v := 11) S.1 S.2.1 dX3_init_127 (by decide) ?_
  refine nL_arr (atype := .int) (cA := cA) (t := 0) (N := 11) (x := 16) (L := L) (X := [.inl (3, [none, some (some (L.length + 1)), some (some (L.length + 2)), some (some (L.length + 3)), some (some (L.length + 4)), some (some (L.length + 5)), some (some (L.length + 6)), some (some (L.length + 7)), some (some (L.length + 8)), some (some (L.length + 9)), some (some (L.length + 10)), none, none, some (some (L.length + 11)), some (some (L.length + 12)), some (some (L.length + 13)), some (some (L.length + 14)), some (some (L.length + 15)), some none]), za 8, za 8, za 8, ia 192, ia 192, ia 8, ia 48, ia 48, ia 48, za 48, ia 8, za 8, za 8, ia 10, ia 10]) rfl S (by decide +kernel) fc0 (cell_i _ _ _) hlo (by omega) hP hS (hz _ (by omega)) (by decide) rfl (by decide) (Nat.le_of_ble_eq_true rfl) (Nat.le_of_ble_eq_true rfl) dX3_init_129 (fun H hP hS => ?_)
  have hP : va_P D vwCl (wld cA (adL lo) g (L ++ [.inl (3, [none, some (some (L.length + 1)), some (some (L.length + 2)), some (some (L.length + 3)), some (some (L.length + 4)), some (some (L.length + 5)), some (some (L.length + 6)), some (some (L.length + 7)), some (some (L.length + 8)), some (some (L.length + 9)), some (some (L.length + 10)), none, none, some (some (L.length + 11)), some (some (L.length + 12)), some (some (L.length + 13)), some (some (L.length + 14)), some (some (L.length + 15)), some none]), za 8, za 8, za 8, ia 192, ia 192, ia 8, ia 48, ia 48, ia 48, za 48, ia 8, za 8, za 8, ia 10, ia 10, ia 11])) H := hP
  refine nL_putF (C := RX3) (T := TX3) (N := 19) (ci := 3) (j := 18) (q := L.length + 16) (ty1 := .array .int) (X := [.inl (3, [none, some (some (L.length + 1)), some (some (L.length + 2)), some (some (L.length + 3)), some (some (L.length + 4)), some (some (L.length + 5)), some (some (L.length + 6)), some (some (L.length + 7)), some (some (L.length + 8)), some (some (L.length + 9)), some (some (L.length + 10)), none, none, some (some (L.length + 11)), some (some (L.length + 12)), some (some (L.length + 13)), some (some (L.length + 14)), some (some (L.length + 15)), some none]), za 8, za 8, za 8, ia 192, ia 192, ia 8, ia 48, ia 48, ia 48, za 48, ia 8, za 8, za 8, ia 10, ia 10, ia 11]) tyX3 tyX3_ok nmX3 S hK hP hS hn3 lk56 rfl (by decide) rfl hi rfl (by decide +kernel) rfl rfl rfl (Nat.le_of_ble_eq_true rfl) dX3_init_131 (fun H locs hP hS => ?_)
  have hP : va_P D vwCl (wld cA (adL lo) g (L ++ [.inl (3, [none, some (some (L.length + 1)), some (some (L.length + 2)), some (some (L.length + 3)), some (some (L.length + 4)), some (some (L.length + 5)), some (some (L.length + 6)), some (some (L.length + 7)), some (some (L.length + 8)), some (some (L.length + 9)), some (some (L.length + 10)), none, none, some (some (L.length + 11)), some (some (L.length + 12)), some (some (L.length + 13)), some (some (L.length + 14)), some (some (L.length + 15)), some (some (L.length + 16))]), za 8, za 8, za 8, ia 192, ia 192, ia 8, ia 48, ia 48, ia 48, za 48, ia 8, za 8, za 8, ia 10, ia 10, ia 11])) H := hP
  refine lv_iconst (v := 0) S.1 S.2.1 dX3_init_134 (by decide) ?_
  refine lv_istore_n (lv' := [(1, .int 0), (0, .ref (adL lo L.length))]) S.1 S.2.1 dX3_init_135 rfl hl (by decide) rfl (fun ls hl => ?_)
  rw [← fil_0 g (L.length + 4)] at hP
  exact key 193 0 0 (by omega) (by omega) nI_0.symm H locs hP hS ls (lv_sub hl [1, 0] rfl)
