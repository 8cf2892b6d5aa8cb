def m_X2_isPresent (g : Mem) (p1 : Int32) : Option Int32 := (if (m_X2_isModule p1) = 0 then some 0 else (if (m_X2_isIn (g 0 1) p1) = 0 then some 0 else some 1))
def rm_X2_isPresent : Room := { frames := 1, cells := 0, slots := 0, locals := 21 }
set_option maxRecDepth 100000 in
set_option maxHeartbeats 4000000 in
theorem c_X2_isPresent {l : Launch} {D : va_G} {cA : Nat → ClassId} {ad : Nat → Nat} {lo : Nat} {g : Mem} {p1 : Int32} {r : Int32} (h : m_X2_isPresent g p1 = some r) : Met l yX2_isPresent wsX2_isPresent rm_X2_isPresent (Pw [.ref (ad 0), .int p1] D cA ad lo g) (Qr r) 0 0 (fun _ => False) := by
  refine startW (cc := cX2_isPresent) (maxL := 2) (ret := (some .boolean)) (by decide) rfl (Nat.le_of_ble_eq_true rfl) ?_
  intro p e s m args below meth c ls S hr hlocks hB hl
  obtain ⟨hlo, hP, hK, hN⟩ := hB
  have hS : va_S (fun q => lo ≤ q) s.heap s.heap [] := va_S.rf
  unfold m_X2_isPresent at h
  have S : CallFix p m c cX2_isPresent 2 s args wsX2_isPresent RX2 := S
  have hl : lv_has ls 2 [(0, .ref (ad 0)), (1, .int p1)] := hl
  have hn2 : ∀ w ∈ wsX20, w ∈ wsX2_isPresent := by decide +kernel
  have lk16 := S.2.2.2.2 (.fieldLink RX2 16 "FlatLoader" "presentSet" "I") (by decide +kernel)
  refine lv_iload_n S.1 S.2.1 dX2_isPresent_0 rfl (lv_at hl 1 rfl) ?_
  refine k_R (r := (m_X2_isModule p1)) (va_runS (As := [.int p1]) (rest := []) S c_X2_isModule (va_cwS 1 S.2.2.2.2 gX2_isPresent_X2_isModule rfl rfl rfl (by decide +kernel) ⟨Nat.le_of_ble_eq_true rfl, Nat.le_of_ble_eq_true rfl⟩) ⟨Tr_blind, Tr_at⟩ rfl rfl hl.1 rfl (lv_room (Nat.le_of_ble_eq_true rfl)) dX2_isPresent_1 ⟨Nat.zero_le _, Nat.zero_le _⟩) ?_
  refine lv_if_eq (tgt := 22) S.1 S.2.1 dX2_isPresent_4 (by decide) (fun hc1 => ?_) (fun hc1 => ?_)
  · rw [if_pos hc1] at h
    refine lv_iconst (v := 0) S.1 S.2.1 dX2_isPresent_22 (by decide) ?_
    exact e_Rz S hr hlocks rfl (Option.some.inj h) dX2_isPresent_23
  · rw [if_neg hc1] at h
    refine lv_aload_n S.1 S.2.1 dX2_isPresent_7 rfl (lv_at hl 0 rfl) ?_
    refine r_get (C := RX2) (T := TX2) (N := 6) (ci := 2) (k := 0) (j := 1) (fs := fsF) (d := none) (v := .int (g 0 1)) S hK hP hn2 lk16 rfl (by decide) rfl rfl rfl dX2_isPresent_8 ?_
    refine lv_iload_n S.1 S.2.1 dX2_isPresent_11 rfl (lv_at hl 1 rfl) ?_
    refine k_R (r := (m_X2_isIn (g 0 1) p1)) (va_runS (As := [.int (g 0 1), .int p1]) (rest := []) S c_X2_isIn (va_cwS 2 S.2.2.2.2 gX2_isPresent_X2_isIn rfl rfl rfl (by decide +kernel) ⟨Nat.le_of_ble_eq_true rfl, Nat.le_of_ble_eq_true rfl⟩) ⟨Tr_blind, Tr_at⟩ rfl rfl hl.1 rfl (lv_room (Nat.le_of_ble_eq_true rfl)) dX2_isPresent_12 ⟨Nat.zero_le _, Nat.zero_le _⟩) ?_
    refine lv_if_eq (tgt := 22) S.1 S.2.1 dX2_isPresent_15 (by decide) (fun hc2 => ?_) (fun hc2 => ?_)
    · rw [if_pos hc2] at h
      refine lv_iconst (v := 0) S.1 S.2.1 dX2_isPresent_22 (by decide) ?_
      exact e_Rz S hr hlocks rfl (Option.some.inj h) dX2_isPresent_23
    · rw [if_neg hc2] at h
      refine lv_iconst (v := 1) S.1 S.2.1 dX2_isPresent_18 (by decide) ?_
      refine lv_goto (tgt := 23) S.1 S.2.1 dX2_isPresent_19 (by decide) ?_
      exact e_Rz S hr hlocks rfl (Option.some.inj h) dX2_isPresent_23

def m_X2_isLoaded (g : Mem) (p1 : Int32) : Option Int32 := (if (m_X2_isModule p1) = 0 then some 0 else (if (m_X2_isIn (g 0 2) p1) = 0 then some 0 else some 1))
def rm_X2_isLoaded : Room := { frames := 1, cells := 0, slots := 0, locals := 21 }
set_option maxRecDepth 100000 in
set_option maxHeartbeats 4000000 in
theorem c_X2_isLoaded {l : Launch} {D : va_G} {cA : Nat → ClassId} {ad : Nat → Nat} {lo : Nat} {g : Mem} {p1 : Int32} {r : Int32} (h : m_X2_isLoaded g p1 = some r) : Met l yX2_isLoaded wsX2_isLoaded rm_X2_isLoaded (Pw [.ref (ad 0), .int p1] D cA ad lo g) (Qr r) 0 0 (fun _ => False) := by
  refine startW (cc := cX2_isLoaded) (maxL := 2) (ret := (some .boolean)) (by decide) rfl (Nat.le_of_ble_eq_true rfl) ?_
  intro p e s m args below meth c ls S hr hlocks hB hl
  obtain ⟨hlo, hP, hK, hN⟩ := hB
  have hS : va_S (fun q => lo ≤ q) s.heap s.heap [] := va_S.rf
  unfold m_X2_isLoaded at h
  have S : CallFix p m c cX2_isLoaded 2 s args wsX2_isLoaded RX2 := S
  have hl : lv_has ls 2 [(0, .ref (ad 0)), (1, .int p1)] := hl
  have hn2 : ∀ w ∈ wsX20, w ∈ wsX2_isLoaded := by decide +kernel
  have lk20 := S.2.2.2.2 (.fieldLink RX2 20 "FlatLoader" "loadedSet" "I") (by decide +kernel)
  refine lv_iload_n S.1 S.2.1 dX2_isLoaded_0 rfl (lv_at hl 1 rfl) ?_
  refine k_R (r := (m_X2_isModule p1)) (va_runS (As := [.int p1]) (rest := []) S c_X2_isModule (va_cwS 1 S.2.2.2.2 gX2_isLoaded_X2_isModule rfl rfl rfl (by decide +kernel) ⟨Nat.le_of_ble_eq_true rfl, Nat.le_of_ble_eq_true rfl⟩) ⟨Tr_blind, Tr_at⟩ rfl rfl hl.1 rfl (lv_room (Nat.le_of_ble_eq_true rfl)) dX2_isLoaded_1 ⟨Nat.zero_le _, Nat.zero_le _⟩) ?_
  refine lv_if_eq (tgt := 22) S.1 S.2.1 dX2_isLoaded_4 (by decide) (fun hc1 => ?_) (fun hc1 => ?_)
  · rw [if_pos hc1] at h
    refine lv_iconst (v := 0) S.1 S.2.1 dX2_isLoaded_22 (by decide) ?_
    exact e_Rz S hr hlocks rfl (Option.some.inj h) dX2_isLoaded_23
  · rw [if_neg hc1] at h
    refine lv_aload_n S.1 S.2.1 dX2_isLoaded_7 rfl (lv_at hl 0 rfl) ?_
    refine r_get (C := RX2) (T := TX2) (N := 6) (ci := 2) (k := 0) (j := 2) (fs := fsF) (d := none) (v := .int (g 0 2)) S hK hP hn2 lk20 rfl (by decide) rfl rfl rfl dX2_isLoaded_8 ?_
    refine lv_iload_n S.1 S.2.1 dX2_isLoaded_11 rfl (lv_at hl 1 rfl) ?_
    refine k_R (r := (m_X2_isIn (g 0 2) p1)) (va_runS (As := [.int (g 0 2), .int p1]) (rest := []) S c_X2_isIn (va_cwS 2 S.2.2.2.2 gX2_isLoaded_X2_isIn rfl rfl rfl (by decide +kernel) ⟨Nat.le_of_ble_eq_true rfl, Nat.le_of_ble_eq_true rfl⟩) ⟨Tr_blind, Tr_at⟩ rfl rfl hl.1 rfl (lv_room (Nat.le_of_ble_eq_true rfl)) dX2_isLoaded_12 ⟨Nat.zero_le _, Nat.zero_le _⟩) ?_
    refine lv_if_eq (tgt := 22) S.1 S.2.1 dX2_isLoaded_15 (by decide) (fun hc2 => ?_) (fun hc2 => ?_)
    · rw [if_pos hc2] at h
      refine lv_iconst (v := 0) S.1 S.2.1 dX2_isLoaded_22 (by decide) ?_
      exact e_Rz S hr hlocks rfl (Option.some.inj h) dX2_isLoaded_23
    · rw [if_neg hc2] at h
      refine lv_iconst (v := 1) S.1 S.2.1 dX2_isLoaded_18 (by decide) ?_
      refine lv_goto (tgt := 23) S.1 S.2.1 dX2_isLoaded_19 (by decide) ?_
      exact e_Rz S hr hlocks rfl (Option.some.inj h) dX2_isLoaded_23

def m_X2_withoutLacking_4 (g : Mem) (p1 : Int32) : Nat → Int32 → Int32 → Option Int32
  | 0, _, _ => none
  | n + 1, x2, x3 => (if 8 ≤ x3 then some x2 else gi x3 8 ((if ((g (kM (x3).toNatClampNeg) 7) &&& (p1 ^^^ (-1))) = 0 then m_X2_withoutLacking_4 g p1 n (x2) ((x3 + 1)) else m_X2_withoutLacking_4 g p1 n ((x2 &&& ((m_X2_bit x3) ^^^ (-1)))) ((x3 + 1)))))
def m_X2_withoutLacking (g : Mem) (p1 : Int32) : Option Int32 := m_X2_withoutLacking_4 g p1 200 (p1) (0)
def rm_X2_withoutLacking : Room := { frames := 1, cells := 0, slots := 0, locals := 20 }
set_option maxRecDepth 100000 in
set_option maxHeartbeats 4000000 in
theorem c_X2_withoutLacking {l : Launch} {D : va_G} {cA : Nat → ClassId} {ad : Nat → Nat} {lo : Nat} {g : Mem} {p1 : Int32} {r : Int32} (h : m_X2_withoutLacking g p1 = some r) : Met l yX2_withoutLacking wsX2_withoutLacking rm_X2_withoutLacking (Pw [.ref (ad 0), .int p1] D cA ad lo g) (Qr r) 0 0 (fun _ => False) := by
  refine startW (cc := cX2_withoutLacking) (maxL := 4) (ret := (some .int)) (by decide) rfl (Nat.le_of_ble_eq_true rfl) ?_
  intro p e s m args below meth c ls S hr hlocks hB hl
  obtain ⟨hlo, hP, hK, hN⟩ := hB
  have hS : va_S (fun q => lo ≤ q) s.heap s.heap [] := va_S.rf
  unfold m_X2_withoutLacking at h
  have S : CallFix p m c cX2_withoutLacking 4 s args wsX2_withoutLacking RX2 := S
  have hl : lv_has ls 4 [(0, .ref (ad 0)), (1, .int p1)] := hl
  have hn0 : ∀ w ∈ wsX00, w ∈ wsX2_withoutLacking := by decide +kernel
  have hn2 : ∀ w ∈ wsX20, w ∈ wsX2_withoutLacking := by decide +kernel
  have lk11 := S.2.2.2.2 (.fieldLink RX2 11 "FlatLoader" "modules" "[LFlatLoader$OneModule;") (by decide +kernel)
  have lk169 : va_Nw (.fieldLinkNest RX2 169 "FlatLoader$OneModule" "requiredSet" "I" "FlatLoader") s := hN _ (by decide +kernel)
  have key4 : ∀ (n : Nat), ∀ (x2 x3 : Int32), ∀ (ls : Array Slot), lv_has ls 4 [(0, .ref (ad 0)), (1, .int p1), (2, .int x2), (3, .int x3)] → m_X2_withoutLacking_4 g p1 n x2 x3 = some r → W p l e (rm_X2_withoutLacking) s m args below meth c s.heap [] 0 0 (MQ below (Qr r) args s 0 0 (fun _ => False)) (F0 m 4 ls []) := by
    intro n
    induction n with
    | zero =>
      intro x2 x3 ls hl h
      exact nomatch (show none = some r from h)
    | succ n ih =>
      intro x2 x3 ls hl h
      rw [m_X2_withoutLacking_4] at h
      refine lv_iload_n S.1 S.2.1 dX2_withoutLacking_4 rfl (lv_at hl 3 rfl) ?_
      refine lv_bipush (v := 8) S.1 S.2.1 dX2_withoutLacking_5 (by decide) ?_
      refine lv_icmp_ge (tgt := 41) S.1 S.2.1 dX2_withoutLacking_7 (by decide) (fun hc1 => ?_) (fun hc1 => ?_)
      · rw [if_pos hc1] at h
        refine lv_iload_n S.1 S.2.1 dX2_withoutLacking_41 rfl (lv_at hl 2 rfl) ?_
        exact e_R S hr hlocks (Option.some.inj h) dX2_withoutLacking_42
      · rw [if_neg hc1] at h
        refine lv_aload_n S.1 S.2.1 dX2_withoutLacking_10 rfl (lv_at hl 0 rfl) ?_
        refine r_get (C := RX2) (T := TX2) (N := 6) (ci := 2) (k := 0) (j := 0) (fs := fsF) (d := (some (some 1))) (v := .ref (ad 1)) S hK hP hn2 lk11 rfl (by decide) rfl rfl rfl dX2_withoutLacking_11 ?_
        refine lv_iload_n S.1 S.2.1 dX2_withoutLacking_14 rfl (lv_at hl 3 rfl) ?_
        obtain ⟨hv2, hv2b, h⟩ := gi_some h
        refine r_ald S hK hP hv2 dX2_withoutLacking_15 ?_
        refine r_getN (C := RX0) (T := TX0) (N := 8) (ci := 0) (k := (kM (x3).toNatClampNeg)) (j := 7) (fs := (fsM (kM (x3).toNatClampNeg))) (d := none) (v := .int (g (kM (x3).toNatClampNeg) 7)) S hK hP hn0 lk169 rfl (by decide) (lyM hv2b) rfl rfl dX2_withoutLacking_16 ?_
        refine lv_iload_n S.1 S.2.1 dX2_withoutLacking_19 rfl (lv_at hl 1 rfl) ?_
        refine lv_iconst (v := (-1)) S.1 S.2.1 dX2_withoutLacking_20 (by decide) ?_
        refine lv_ixor S.1 S.2.1 dX2_withoutLacking_21 ?_
        refine lv_iand S.1 S.2.1 dX2_withoutLacking_22 ?_
        refine lv_if_eq (tgt := 35) S.1 S.2.1 dX2_withoutLacking_23 (by decide) (fun hc3 => ?_) (fun hc3 => ?_)
        · rw [if_pos hc3] at h
          refine lv_iinc (v := (x3 + 1)) (lv' := [(3, .int (x3 + 1)), (0, .ref (ad 0)), (1, .int p1), (2, .int x2)]) S.1 S.2.1 dX2_withoutLacking_35 hl (k := 3) rfl rfl (by decide) rfl (fun ls hl => ?_)
          refine lv_goto (tgt := 4) S.1 S.2.1 dX2_withoutLacking_38 (by decide) ?_
          exact ih (x2) ((x3 + 1)) ls (lv_sub hl [1, 2, 3, 0] rfl) h
        · rw [if_neg hc3] at h
          refine lv_iload_n S.1 S.2.1 dX2_withoutLacking_26 rfl (lv_at hl 2 rfl) ?_
          refine lv_iload_n S.1 S.2.1 dX2_withoutLacking_27 rfl (lv_at hl 3 rfl) ?_
          refine k_R (r := (m_X2_bit x3)) (va_runS (As := [.int x3]) (rest := [.int x2]) S c_X2_bit (va_cwS 1 S.2.2.2.2 gX2_withoutLacking_X2_bit rfl rfl rfl (by decide +kernel) ⟨Nat.le_of_ble_eq_true rfl, Nat.le_of_ble_eq_true rfl⟩) ⟨Tr_blind, Tr_at⟩ rfl rfl hl.1 rfl (lv_room (Nat.le_of_ble_eq_true rfl)) dX2_withoutLacking_28 ⟨Nat.zero_le _, Nat.zero_le _⟩) ?_
          refine lv_iconst (v := (-1)) S.1 S.2.1 dX2_withoutLacking_31 (by decide) ?_
          refine lv_ixor S.1 S.2.1 dX2_withoutLacking_32 ?_
          refine lv_iand S.1 S.2.1 dX2_withoutLacking_33 ?_
          refine lv_istore_n (lv' := [(2, .int (x2 &&& ((m_X2_bit x3) ^^^ (-1)))), (0, .ref (ad 0)), (1, .int p1), (3, .int x3)]) S.1 S.2.1 dX2_withoutLacking_34 rfl hl (by decide) rfl (fun ls hl => ?_)
          refine lv_iinc (v := (x3 + 1)) (lv' := [(3, .int (x3 + 1)), (2, .int (x2 &&& ((m_X2_bit x3) ^^^ (-1)))), (0, .ref (ad 0)), (1, .int p1)]) S.1 S.2.1 dX2_withoutLacking_35 hl (k := 3) rfl rfl (by decide) rfl (fun ls hl => ?_)
          refine lv_goto (tgt := 4) S.1 S.2.1 dX2_withoutLacking_38 (by decide) ?_
          exact ih ((x2 &&& ((m_X2_bit x3) ^^^ (-1)))) ((x3 + 1)) ls (lv_sub hl [2, 3, 1, 0] rfl) h
  refine lv_iload_n S.1 S.2.1 dX2_withoutLacking_0 rfl (lv_at hl 1 rfl) ?_
  refine lv_istore_n (lv' := [(2, .int p1), (0, .ref (ad 0)), (1, .int p1)]) S.1 S.2.1 dX2_withoutLacking_1 rfl hl (by decide) rfl (fun ls hl => ?_)
  refine lv_iconst (v := 0) S.1 S.2.1 dX2_withoutLacking_2 (by decide) ?_
  refine lv_istore_n (lv' := [(3, .int 0), (2, .int p1), (0, .ref (ad 0)), (1, .int p1)]) S.1 S.2.1 dX2_withoutLacking_3 rfl hl (by decide) rfl (fun ls hl => ?_)
  exact key4 200 (p1) (0) ls (lv_sub hl [2, 3, 1, 0] rfl) h

def m_X2_loadableSet_7 (g : Mem) : Nat → Int32 → Int32 → Option Int32
  | 0, _, _ => none
  | n + 1, x1, x2 => (if 8 ≤ x2 then some x1 else (m_X2_withoutLacking g x1).bind fun r2 => m_X2_loadableSet_7 g n (r2) ((x2 + 1)))
def m_X2_loadableSet (g : Mem) : Option Int32 := m_X2_loadableSet_7 g 200 ((g 0 1)) (0)
def rm_X2_loadableSet : Room := { frames := 2, cells := 0, slots := 0, locals := 43 }
set_option maxRecDepth 100000 in
set_option maxHeartbeats 4000000 in
theorem c_X2_loadableSet {l : Launch} {D : va_G} {cA : Nat → ClassId} {ad : Nat → Nat} {lo : Nat} {g : Mem} {r : Int32} (h : m_X2_loadableSet g = some r) : Met l yX2_loadableSet wsX2_loadableSet rm_X2_loadableSet (Pw [.ref (ad 0)] D cA ad lo g) (Qr r) 0 0 (fun _ => False) := by
  refine startW (cc := cX2_loadableSet) (maxL := 3) (ret := (some .int)) (by decide) rfl (Nat.le_of_ble_eq_true rfl) ?_
  intro p e s m args below meth c ls S hr hlocks hB hl
  obtain ⟨hlo, hP, hK, hN⟩ := hB
  have hS : va_S (fun q => lo ≤ q) s.heap s.heap [] := va_S.rf
  unfold m_X2_loadableSet at h
  have S : CallFix p m c cX2_loadableSet 3 s args wsX2_loadableSet RX2 := S
  have hl : lv_has ls 3 [(0, .ref (ad 0))] := hl
  have hn2 : ∀ w ∈ wsX20, w ∈ wsX2_loadableSet := by decide +kernel
  have lk16 := S.2.2.2.2 (.fieldLink RX2 16 "FlatLoader" "presentSet" "I") (by decide +kernel)
  have key7 : ∀ (n : Nat), ∀ (x1 x2 : Int32), ∀ (ls : Array Slot), lv_has ls 3 [(0, .ref (ad 0)), (1, .int x1), (2, .int x2)] → m_X2_loadableSet_7 g n x1 x2 = some r → W p l e (rm_X2_loadableSet) s m args below meth c s.heap [] 0 0 (MQ below (Qr r) args s 0 0 (fun _ => False)) (F0 m 7 ls []) := by
    intro n
    induction n with
    | zero =>
      intro x1 x2 ls hl h
      exact nomatch (show none = some r from h)
    | succ n ih =>
      intro x1 x2 ls hl h
      rw [m_X2_loadableSet_7] at h
      refine lv_iload_n S.1 S.2.1 dX2_loadableSet_7 rfl (lv_at hl 2 rfl) ?_
      refine lv_bipush (v := 8) S.1 S.2.1 dX2_loadableSet_8 (by decide) ?_
      refine lv_icmp_ge (tgt := 25) S.1 S.2.1 dX2_loadableSet_10 (by decide) (fun hc1 => ?_) (fun hc1 => ?_)
      · rw [if_pos hc1] at h
        refine lv_iload_n S.1 S.2.1 dX2_loadableSet_25 rfl (lv_at hl 1 rfl) ?_
        exact e_R S hr hlocks (Option.some.inj h) dX2_loadableSet_26
      · rw [if_neg hc1] at h
        refine lv_aload_n S.1 S.2.1 dX2_loadableSet_13 rfl (lv_at hl 0 rfl) ?_
        refine lv_iload_n S.1 S.2.1 dX2_loadableSet_14 rfl (lv_at hl 1 rfl) ?_
        obtain ⟨r2, h_3, h⟩ := bd_some h
        refine k_R (r := r2) (va_runV (As := [.int x1]) (rest := []) S (c_X2_withoutLacking h_3) (cwV 1 S.2.2.2.2 gX2_loadableSet_X2_withoutLacking rfl rfl rfl (by decide +kernel) ⟨Nat.le_of_ble_eq_true rfl, Nat.le_of_ble_eq_true rfl⟩) ⟨Pw_blind, va_recv hK hP (ci := 2) (q0 := 0) rfl (wld_at (d := dF) rfl), Pw_at hlo hS hP hK hN⟩ rfl rfl hl.1 rfl (lv_room (Nat.le_of_ble_eq_true rfl)) dX2_loadableSet_15 ⟨Nat.zero_le _, Nat.zero_le _⟩) ?_
        refine lv_istore_n (lv' := [(1, .int r2), (0, .ref (ad 0)), (2, .int x2)]) S.1 S.2.1 dX2_loadableSet_18 rfl hl (by decide) rfl (fun ls hl => ?_)
        refine lv_iinc (v := (x2 + 1)) (lv' := [(2, .int (x2 + 1)), (1, .int r2), (0, .ref (ad 0))]) S.1 S.2.1 dX2_loadableSet_19 hl (k := 2) rfl rfl (by decide) rfl (fun ls hl => ?_)
        refine lv_goto (tgt := 7) S.1 S.2.1 dX2_loadableSet_22 (by decide) ?_
        exact ih (r2) ((x2 + 1)) ls (lv_sub hl [2, 1, 0] rfl) h
  refine lv_aload_n S.1 S.2.1 dX2_loadableSet_0 rfl (lv_at hl 0 rfl) ?_
  refine r_get (C := RX2) (T := TX2) (N := 6) (ci := 2) (k := 0) (j := 1) (fs := fsF) (d := none) (v := .int (g 0 1)) S hK hP hn2 lk16 rfl (by decide) rfl rfl rfl dX2_loadableSet_1 ?_
  refine lv_istore_n (lv' := [(1, .int (g 0 1)), (0, .ref (ad 0))]) S.1 S.2.1 dX2_loadableSet_4 rfl hl (by decide) rfl (fun ls hl => ?_)
  refine lv_iconst (v := 0) S.1 S.2.1 dX2_loadableSet_5 (by decide) ?_
  refine lv_istore_n (lv' := [(2, .int 0), (1, .int (g 0 1)), (0, .ref (ad 0))]) S.1 S.2.1 dX2_loadableSet_6 rfl hl (by decide) rfl (fun ls hl => ?_)
  exact key7 200 ((g 0 1)) (0) ls (lv_sub hl [2, 1, 0] rfl) h

def m_X2_nextTo_4 (g : Mem) (p1 : Int32) : Nat → Int32 → Int32 → Option Int32
  | 0, _, _ => none
  | n + 1, x2, x3 => (if 8 ≤ x3 then some x2 else (if (m_X2_isIn p1 x3) = 0 then m_X2_nextTo_4 g p1 n (x2) ((x3 + 1)) else gi x3 8 (m_X2_nextTo_4 g p1 n ((x2 ||| (g (kM (x3).toNatClampNeg) 6))) ((x3 + 1)))))
def m_X2_nextTo (g : Mem) (p1 : Int32) : Option Int32 := m_X2_nextTo_4 g p1 200 (0) (0)
def rm_X2_nextTo : Room := { frames := 1, cells := 0, slots := 0, locals := 21 }
set_option maxRecDepth 100000 in
set_option maxHeartbeats 4000000 in
theorem c_X2_nextTo {l : Launch} {D : va_G} {cA : Nat → ClassId} {ad : Nat → Nat} {lo : Nat} {g : Mem} {p1 : Int32} {r : Int32} (h : m_X2_nextTo g p1 = some r) : Met l yX2_nextTo wsX2_nextTo rm_X2_nextTo (Pw [.ref (ad 0), .int p1] D cA ad lo g) (Qr r) 0 0 (fun _ => False) := by
  refine startW (cc := cX2_nextTo) (maxL := 4) (ret := (some .int)) (by decide) rfl (Nat.le_of_ble_eq_true rfl) ?_
  intro p e s m args below meth c ls S hr hlocks hB hl
  obtain ⟨hlo, hP, hK, hN⟩ := hB
  have hS : va_S (fun q => lo ≤ q) s.heap s.heap [] := va_S.rf
  unfold m_X2_nextTo at h
  have S : CallFix p m c cX2_nextTo 4 s args wsX2_nextTo RX2 := S
  have hl : lv_has ls 4 [(0, .ref (ad 0)), (1, .int p1)] := hl
  have hn0 : ∀ w ∈ wsX00, w ∈ wsX2_nextTo := by decide +kernel
  have hn2 : ∀ w ∈ wsX20, w ∈ wsX2_nextTo := by decide +kernel
  have lk11 := S.2.2.2.2 (.fieldLink RX2 11 "FlatLoader" "modules" "[LFlatLoader$OneModule;") (by decide +kernel)
  have lk175 : va_Nw (.fieldLinkNest RX2 175 "FlatLoader$OneModule" "dependedSet" "I" "FlatLoader") s := hN _ (by decide +kernel)
  have key4 : ∀ (n : Nat), ∀ (x2 x3 : Int32), ∀ (ls : Array Slot), lv_has ls 4 [(0, .ref (ad 0)), (1, .int p1), (2, .int x2), (3, .int x3)] → m_X2_nextTo_4 g p1 n x2 x3 = some r → W p l e (rm_X2_nextTo) s m args below meth c s.heap [] 0 0 (MQ below (Qr r) args s 0 0 (fun _ => False)) (F0 m 4 ls []) := by
    intro n
    induction n with
    | zero =>
      intro x2 x3 ls hl h
      exact nomatch (show none = some r from h)
    | succ n ih =>
      intro x2 x3 ls hl h
      rw [m_X2_nextTo_4] at h
      refine lv_iload_n S.1 S.2.1 dX2_nextTo_4 rfl (lv_at hl 3 rfl) ?_
      refine lv_bipush (v := 8) S.1 S.2.1 dX2_nextTo_5 (by decide) ?_
      refine lv_icmp_ge (tgt := 36) S.1 S.2.1 dX2_nextTo_7 (by decide) (fun hc1 => ?_) (fun hc1 => ?_)
      · rw [if_pos hc1] at h
        refine lv_iload_n S.1 S.2.1 dX2_nextTo_36 rfl (lv_at hl 2 rfl) ?_
        exact e_R S hr hlocks (Option.some.inj h) dX2_nextTo_37
      · rw [if_neg hc1] at h
        refine lv_iload_n S.1 S.2.1 dX2_nextTo_10 rfl (lv_at hl 1 rfl) ?_
        refine lv_iload_n S.1 S.2.1 dX2_nextTo_11 rfl (lv_at hl 3 rfl) ?_
        refine k_R (r := (m_X2_isIn p1 x3)) (va_runS (As := [.int p1, .int x3]) (rest := []) S c_X2_isIn (va_cwS 2 S.2.2.2.2 gX2_nextTo_X2_isIn rfl rfl rfl (by decide +kernel) ⟨Nat.le_of_ble_eq_true rfl, Nat.le_of_ble_eq_true rfl⟩) ⟨Tr_blind, Tr_at⟩ rfl rfl hl.1 rfl (lv_room (Nat.le_of_ble_eq_true rfl)) dX2_nextTo_12 ⟨Nat.zero_le _, Nat.zero_le _⟩) ?_
        refine lv_if_eq (tgt := 30) S.1 S.2.1 dX2_nextTo_15 (by decide) (fun hc2 => ?_) (fun hc2 => ?_)
        · rw [if_pos hc2] at h
          refine lv_iinc (v := (x3 + 1)) (lv' := [(3, .int (x3 + 1)), (0, .ref (ad 0)), (1, .int p1), (2, .int x2)]) S.1 S.2.1 dX2_nextTo_30 hl (k := 3) rfl rfl (by decide) rfl (fun ls hl => ?_)
          refine lv_goto (tgt := 4) S.1 S.2.1 dX2_nextTo_33 (by decide) ?_
          exact ih (x2) ((x3 + 1)) ls (lv_sub hl [1, 2, 3, 0] rfl) h
        · rw [if_neg hc2] at h
          refine lv_iload_n S.1 S.2.1 dX2_nextTo_18 rfl (lv_at hl 2 rfl) ?_
          refine lv_aload_n S.1 S.2.1 dX2_nextTo_19 rfl (lv_at hl 0 rfl) ?_
          refine r_get (C := RX2) (T := TX2) (N := 6) (ci := 2) (k := 0) (j := 0) (fs := fsF) (d := (some (some 1))) (v := .ref (ad 1)) S hK hP hn2 lk11 rfl (by decide) rfl rfl rfl dX2_nextTo_20 ?_
          refine lv_iload_n S.1 S.2.1 dX2_nextTo_23 rfl (lv_at hl 3 rfl) ?_
          obtain ⟨hv3, hv3b, h⟩ := gi_some h
          refine r_ald S hK hP hv3 dX2_nextTo_24 ?_
          refine r_getN (C := RX0) (T := TX0) (N := 8) (ci := 0) (k := (kM (x3).toNatClampNeg)) (j := 6) (fs := (fsM (kM (x3).toNatClampNeg))) (d := none) (v := .int (g (kM (x3).toNatClampNeg) 6)) S hK hP hn0 lk175 rfl (by decide) (lyM hv3b) rfl rfl dX2_nextTo_25 ?_
          refine lv_ior S.1 S.2.1 dX2_nextTo_28 ?_
          refine lv_istore_n (lv' := [(2, .int (x2 ||| (g (kM (x3).toNatClampNeg) 6))), (0, .ref (ad 0)), (1, .int p1), (3, .int x3)]) S.1 S.2.1 dX2_nextTo_29 rfl hl (by decide) rfl (fun ls hl => ?_)
          refine lv_iinc (v := (x3 + 1)) (lv' := [(3, .int (x3 + 1)), (2, .int (x2 ||| (g (kM (x3).toNatClampNeg) 6))), (0, .ref (ad 0)), (1, .int p1)]) S.1 S.2.1 dX2_nextTo_30 hl (k := 3) rfl rfl (by decide) rfl (fun ls hl => ?_)
          refine lv_goto (tgt := 4) S.1 S.2.1 dX2_nextTo_33 (by decide) ?_
          exact ih ((x2 ||| (g (kM (x3).toNatClampNeg) 6))) ((x3 + 1)) ls (lv_sub hl [2, 3, 1, 0] rfl) h
  refine lv_iconst (v := 0) S.1 S.2.1 dX2_nextTo_0 (by decide) ?_
  refine lv_istore_n (lv' := [(2, .int 0), (0, .ref (ad 0)), (1, .int p1)]) S.1 S.2.1 dX2_nextTo_1 rfl hl (by decide) rfl (fun ls hl => ?_)
  refine lv_iconst (v := 0) S.1 S.2.1 dX2_nextTo_2 (by decide) ?_
  refine lv_istore_n (lv' := [(3, .int 0), (2, .int 0), (0, .ref (ad 0)), (1, .int p1)]) S.1 S.2.1 dX2_nextTo_3 rfl hl (by decide) rfl (fun ls hl => ?_)
  exact key4 200 (0) (0) ls (lv_sub hl [2, 3, 1, 0] rfl) h

def m_X2_reachedSet_8 (g : Mem) (p1 p2 : Int32) : Nat → Int32 → Int32 → Option Int32
  | 0, _, _ => none
  | n + 1, x3, x4 => (if 8 ≤ x4 then some x3 else (m_X2_nextTo g x3).bind fun r2 => m_X2_reachedSet_8 g p1 p2 n ((x3 ||| (r2 &&& p2))) ((x4 + 1)))
def m_X2_reachedSet (g : Mem) (p1 p2 : Int32) : Option Int32 := m_X2_reachedSet_8 g p1 p2 200 ((m_X2_bit p1)) (0)
def rm_X2_reachedSet : Room := { frames := 2, cells := 0, slots := 0, locals := 44 }
set_option maxRecDepth 100000 in
set_option maxHeartbeats 4000000 in
theorem c_X2_reachedSet {l : Launch} {D : va_G} {cA : Nat → ClassId} {ad : Nat → Nat} {lo : Nat} {g : Mem} {p1 p2 : Int32} {r : Int32} (h : m_X2_reachedSet g p1 p2 = some r) : Met l yX2_reachedSet wsX2_reachedSet rm_X2_reachedSet (Pw [.ref (ad 0), .int p1, .int p2] D cA ad lo g) (Qr r) 0 0 (fun _ => False) := by
  refine startW (cc := cX2_reachedSet) (maxL := 5) (ret := (some .int)) (by decide) rfl (Nat.le_of_ble_eq_true rfl) ?_
  intro p e s m args below meth c ls S hr hlocks hB hl
  obtain ⟨hlo, hP, hK, hN⟩ := hB
  have hS : va_S (fun q => lo ≤ q) s.heap s.heap [] := va_S.rf
  unfold m_X2_reachedSet at h
  have S : CallFix p m c cX2_reachedSet 5 s args wsX2_reachedSet RX2 := S
  have hl : lv_has ls 5 [(0, .ref (ad 0)), (1, .int p1), (2, .int p2)] := hl
  have key8 : ∀ (n : Nat), ∀ (x3 x4 : Int32), ∀ (ls : Array Slot), lv_has ls 5 [(0, .ref (ad 0)), (1, .int p1), (2, .int p2), (3, .int x3), (4, .int x4)] → m_X2_reachedSet_8 g p1 p2 n x3 x4 = some r → W p l e (rm_X2_reachedSet) s m args below meth c s.heap [] 0 0 (MQ below (Qr r) args s 0 0 (fun _ => False)) (F0 m 8 ls []) := by
    intro n
    induction n with
    | zero =>
      intro x3 x4 ls hl h
      exact nomatch (show none = some r from h)
    | succ n ih =>
      intro x3 x4 ls hl h
      rw [m_X2_reachedSet_8] at h
      refine lv_iload S.1 S.2.1 dX2_reachedSet_8 (lv_at hl 4 rfl) ?_
      refine lv_bipush (v := 8) S.1 S.2.1 dX2_reachedSet_10 (by decide) ?_
      refine lv_icmp_ge (tgt := 31) S.1 S.2.1 dX2_reachedSet_12 (by decide) (fun hc1 => ?_) (fun hc1 => ?_)
      · rw [if_pos hc1] at h
        refine lv_iload_n S.1 S.2.1 dX2_reachedSet_31 rfl (lv_at hl 3 rfl) ?_
        exact e_R S hr hlocks (Option.some.inj h) dX2_reachedSet_32
      · rw [if_neg hc1] at h
        refine lv_iload_n S.1 S.2.1 dX2_reachedSet_15 rfl (lv_at hl 3 rfl) ?_
        refine lv_aload_n S.1 S.2.1 dX2_reachedSet_16 rfl (lv_at hl 0 rfl) ?_
        refine lv_iload_n S.1 S.2.1 dX2_reachedSet_17 rfl (lv_at hl 3 rfl) ?_
        obtain ⟨r2, h_3, h⟩ := bd_some h
        refine k_R (r := r2) (va_runV (As := [.int x3]) (rest := [.int x3]) S (c_X2_nextTo h_3) (cwV 1 S.2.2.2.2 gX2_reachedSet_X2_nextTo rfl rfl rfl (by decide +kernel) ⟨Nat.le_of_ble_eq_true rfl, Nat.le_of_ble_eq_true rfl⟩) ⟨Pw_blind, va_recv hK hP (ci := 2) (q0 := 0) rfl (wld_at (d := dF) rfl), Pw_at hlo hS hP hK hN⟩ rfl rfl hl.1 rfl (lv_room (Nat.le_of_ble_eq_true rfl)) dX2_reachedSet_18 ⟨Nat.zero_le _, Nat.zero_le _⟩) ?_
        refine lv_iload_n S.1 S.2.1 dX2_reachedSet_21 rfl (lv_at hl 2 rfl) ?_
        refine lv_iand S.1 S.2.1 dX2_reachedSet_22 ?_
        refine lv_ior S.1 S.2.1 dX2_reachedSet_23 ?_
        refine lv_istore_n (lv' := [(3, .int (x3 ||| (r2 &&& p2))), (0, .ref (ad 0)), (1, .int p1), (2, .int p2), (4, .int x4)]) S.1 S.2.1 dX2_reachedSet_24 rfl hl (by decide) rfl (fun ls hl => ?_)
        refine lv_iinc (v := (x4 + 1)) (lv' := [(4, .int (x4 + 1)), (3, .int (x3 ||| (r2 &&& p2))), (0, .ref (ad 0)), (1, .int p1), (2, .int p2)]) S.1 S.2.1 dX2_reachedSet_25 hl (k := 4) rfl rfl (by decide) rfl (fun ls hl => ?_)
        refine lv_goto (tgt := 8) S.1 S.2.1 dX2_reachedSet_28 (by decide) ?_
        exact ih ((x3 ||| (r2 &&& p2))) ((x4 + 1)) ls (lv_sub hl [2, 3, 4, 1, 0] rfl) h
  refine lv_iload_n S.1 S.2.1 dX2_reachedSet_0 rfl (lv_at hl 1 rfl) ?_
  refine k_R (r := (m_X2_bit p1)) (va_runS (As := [.int p1]) (rest := []) S c_X2_bit (va_cwS 1 S.2.2.2.2 gX2_reachedSet_X2_bit rfl rfl rfl (by decide +kernel) ⟨Nat.le_of_ble_eq_true rfl, Nat.le_of_ble_eq_true rfl⟩) ⟨Tr_blind, Tr_at⟩ rfl rfl hl.1 rfl (lv_room (Nat.le_of_ble_eq_true rfl)) dX2_reachedSet_1 ⟨Nat.zero_le _, Nat.zero_le _⟩) ?_
  refine lv_istore_n (lv' := [(3, .int (m_X2_bit p1)), (0, .ref (ad 0)), (1, .int p1), (2, .int p2)]) S.1 S.2.1 dX2_reachedSet_4 rfl hl (by decide) rfl (fun ls hl => ?_)
  refine lv_iconst (v := 0) S.1 S.2.1 dX2_reachedSet_5 (by decide) ?_
  refine lv_istore (lv' := [(4, .int 0), (3, .int (m_X2_bit p1)), (0, .ref (ad 0)), (1, .int p1), (2, .int p2)]) S.1 S.2.1 dX2_reachedSet_6 hl (by decide) rfl (fun ls hl => ?_)
  exact key8 200 ((m_X2_bit p1)) (0) ls (lv_sub hl [2, 3, 4, 1, 0] rfl) h

def m_X2_isHeldByAnother_2 (g : Mem) (p1 : Int32) : Nat → Int32 → Option Int32
  | 0, _ => none
  | n + 1, x2 => (if 8 ≤ x2 then some 0 else (if x2 = p1 then m_X2_isHeldByAnother_2 g p1 n ((x2 + 1)) else (m_X2_isLoaded g x2).bind fun r3 => (if r3 = 0 then m_X2_isHeldByAnother_2 g p1 n ((x2 + 1)) else gi x2 8 ((if (m_X2_isIn (g (kM (x2).toNatClampNeg) 7) p1) = 0 then gi x2 8 ((m_X0_hasClassBelow g ((x2).toNatClampNeg) p1).bind fun r9 => (if r9 = 0 then m_X2_isHeldByAnother_2 g p1 n ((x2 + 1)) else some 1)) else some 1)))))
def m_X2_isHeldByAnother (g : Mem) (p1 : Int32) : Option Int32 := m_X2_isHeldByAnother_2 g p1 200 (0)
def rm_X2_isHeldByAnother : Room := { frames := 2, cells := 0, slots := 0, locals := 42 }
set_option maxRecDepth 100000 in
set_option maxHeartbeats 4000000 in
theorem c_X2_isHeldByAnother {l : Launch} {D : va_G} {cA : Nat → ClassId} {ad : Nat → Nat} {lo : Nat} {g : Mem} {p1 : Int32} {r : Int32} (h : m_X2_isHeldByAnother g p1 = some r) : Met l yX2_isHeldByAnother wsX2_isHeldByAnother rm_X2_isHeldByAnother (Pw [.ref (ad 0), .int p1] D cA ad lo g) (Qr r) 0 0 (fun _ => False) := by
  refine startW (cc := cX2_isHeldByAnother) (maxL := 3) (ret := (some .boolean)) (by decide) rfl (Nat.le_of_ble_eq_true rfl) ?_
  intro p e s m args below meth c ls S hr hlocks hB hl
  obtain ⟨hlo, hP, hK, hN⟩ := hB
  have hS : va_S (fun q => lo ≤ q) s.heap s.heap [] := va_S.rf
  unfold m_X2_isHeldByAnother at h
  have S : CallFix p m c cX2_isHeldByAnother 3 s args wsX2_isHeldByAnother RX2 := S
  have hl : lv_has ls 3 [(0, .ref (ad 0)), (1, .int p1)] := hl
  have hn0 : ∀ w ∈ wsX00, w ∈ wsX2_isHeldByAnother := by decide +kernel
  have hn2 : ∀ w ∈ wsX20, w ∈ wsX2_isHeldByAnother := by decide +kernel
  have lk11 := S.2.2.2.2 (.fieldLink RX2 11 "FlatLoader" "modules" "[LFlatLoader$OneModule;") (by decide +kernel)
  have lk169 : va_Nw (.fieldLinkNest RX2 169 "FlatLoader$OneModule" "requiredSet" "I" "FlatLoader") s := hN _ (by decide +kernel)
  have key2 : ∀ (n : Nat), ∀ (x2 : Int32), ∀ (ls : Array Slot), lv_has ls 3 [(0, .ref (ad 0)), (1, .int p1), (2, .int x2)] → m_X2_isHeldByAnother_2 g p1 n x2 = some r → W p l e (rm_X2_isHeldByAnother) s m args below meth c s.heap [] 0 0 (MQ below (Qr r) args s 0 0 (fun _ => False)) (F0 m 2 ls []) := by
    intro n
    induction n with
    | zero =>
      intro x2 ls hl h
      exact nomatch (show none = some r from h)
    | succ n ih =>
      intro x2 ls hl h
      rw [m_X2_isHeldByAnother_2] at h
      refine lv_iload_n S.1 S.2.1 dX2_isHeldByAnother_2 rfl (lv_at hl 2 rfl) ?_
      refine lv_bipush (v := 8) S.1 S.2.1 dX2_isHeldByAnother_3 (by decide) ?_
      refine lv_icmp_ge (tgt := 58) S.1 S.2.1 dX2_isHeldByAnother_5 (by decide) (fun hc1 => ?_) (fun hc1 => ?_)
      · rw [if_pos hc1] at h
        refine lv_iconst (v := 0) S.1 S.2.1 dX2_isHeldByAnother_58 (by decide) ?_
        exact e_Rz S hr hlocks rfl (Option.some.inj h) dX2_isHeldByAnother_59
      · rw [if_neg hc1] at h
        refine lv_iload_n S.1 S.2.1 dX2_isHeldByAnother_8 rfl (lv_at hl 2 rfl) ?_
        refine lv_iload_n S.1 S.2.1 dX2_isHeldByAnother_9 rfl (lv_at hl 1 rfl) ?_
        refine lv_icmp_eq (tgt := 52) S.1 S.2.1 dX2_isHeldByAnother_10 (by decide) (fun hc2 => ?_) (fun hc2 => ?_)
        · rw [if_pos hc2] at h
          refine lv_iinc (v := (x2 + 1)) (lv' := [(2, .int (x2 + 1)), (0, .ref (ad 0)), (1, .int p1)]) S.1 S.2.1 dX2_isHeldByAnother_52 hl (k := 2) rfl rfl (by decide) rfl (fun ls hl => ?_)
          refine lv_goto (tgt := 2) S.1 S.2.1 dX2_isHeldByAnother_55 (by decide) ?_
          exact ih ((x2 + 1)) ls (lv_sub hl [1, 2, 0] rfl) h
        · rw [if_neg hc2] at h
          refine lv_aload_n S.1 S.2.1 dX2_isHeldByAnother_13 rfl (lv_at hl 0 rfl) ?_
          refine lv_iload_n S.1 S.2.1 dX2_isHeldByAnother_14 rfl (lv_at hl 2 rfl) ?_
          obtain ⟨r3, h_4, h⟩ := bd_some h
          refine k_R (r := r3) (va_runV (As := [.int x2]) (rest := []) S (c_X2_isLoaded h_4) (cwV 1 S.2.2.2.2 gX2_isHeldByAnother_X2_isLoaded rfl rfl rfl (by decide +kernel) ⟨Nat.le_of_ble_eq_true rfl, Nat.le_of_ble_eq_true rfl⟩) ⟨Pw_blind, va_recv hK hP (ci := 2) (q0 := 0) rfl (wld_at (d := dF) rfl), Pw_at hlo hS hP hK hN⟩ rfl rfl hl.1 rfl (lv_room (Nat.le_of_ble_eq_true rfl)) dX2_isHeldByAnother_15 ⟨Nat.zero_le _, Nat.zero_le _⟩) ?_
          refine lv_if_eq (tgt := 52) S.1 S.2.1 dX2_isHeldByAnother_18 (by decide) (fun hc5 => ?_) (fun hc5 => ?_)
          · rw [if_pos hc5] at h
            refine lv_iinc (v := (x2 + 1)) (lv' := [(2, .int (x2 + 1)), (0, .ref (ad 0)), (1, .int p1)]) S.1 S.2.1 dX2_isHeldByAnother_52 hl (k := 2) rfl rfl (by decide) rfl (fun ls hl => ?_)
            refine lv_goto (tgt := 2) S.1 S.2.1 dX2_isHeldByAnother_55 (by decide) ?_
            exact ih ((x2 + 1)) ls (lv_sub hl [1, 2, 0] rfl) h
          · rw [if_neg hc5] at h
            refine lv_aload_n S.1 S.2.1 dX2_isHeldByAnother_21 rfl (lv_at hl 0 rfl) ?_
            refine r_get (C := RX2) (T := TX2) (N := 6) (ci := 2) (k := 0) (j := 0) (fs := fsF) (d := (some (some 1))) (v := .ref (ad 1)) S hK hP hn2 lk11 rfl (by decide) rfl rfl rfl dX2_isHeldByAnother_22 ?_
            refine lv_iload_n S.1 S.2.1 dX2_isHeldByAnother_25 rfl (lv_at hl 2 rfl) ?_
            obtain ⟨hv6, hv6b, h⟩ := gi_some h
            refine r_ald S hK hP hv6 dX2_isHeldByAnother_26 ?_
            refine r_getN (C := RX0) (T := TX0) (N := 8) (ci := 0) (k := (kM (x2).toNatClampNeg)) (j := 7) (fs := (fsM (kM (x2).toNatClampNeg))) (d := none) (v := .int (g (kM (x2).toNatClampNeg) 7)) S hK hP hn0 lk169 rfl (by decide) (lyM hv6b) rfl rfl dX2_isHeldByAnother_27 ?_
            refine lv_iload_n S.1 S.2.1 dX2_isHeldByAnother_30 rfl (lv_at hl 1 rfl) ?_
            refine k_R (r := (m_X2_isIn (g (kM (x2).toNatClampNeg) 7) p1)) (va_runS (As := [.int (g (kM (x2).toNatClampNeg) 7), .int p1]) (rest := []) S c_X2_isIn (va_cwS 2 S.2.2.2.2 gX2_isHeldByAnother_X2_isIn rfl rfl rfl (by decide +kernel) ⟨Nat.le_of_ble_eq_true rfl, Nat.le_of_ble_eq_true rfl⟩) ⟨Tr_blind, Tr_at⟩ rfl rfl hl.1 rfl (lv_room (Nat.le_of_ble_eq_true rfl)) dX2_isHeldByAnother_31 ⟨Nat.zero_le _, Nat.zero_le _⟩) ?_
            refine lv_if_ne (tgt := 50) S.1 S.2.1 dX2_isHeldByAnother_34 (by decide) (fun hc7 => ?_) (fun hc7 => ?_)
            · rw [if_neg hc7] at h
              refine lv_iconst (v := 1) S.1 S.2.1 dX2_isHeldByAnother_50 (by decide) ?_
              exact e_Rz S hr hlocks rfl (Option.some.inj h) dX2_isHeldByAnother_51
            · rw [if_pos hc7] at h
              refine lv_aload_n S.1 S.2.1 dX2_isHeldByAnother_37 rfl (lv_at hl 0 rfl) ?_
              refine r_get (C := RX2) (T := TX2) (N := 6) (ci := 2) (k := 0) (j := 0) (fs := fsF) (d := (some (some 1))) (v := .ref (ad 1)) S hK hP hn2 lk11 rfl (by decide) rfl rfl rfl dX2_isHeldByAnother_38 ?_
              refine lv_iload_n S.1 S.2.1 dX2_isHeldByAnother_41 rfl (lv_at hl 2 rfl) ?_
              obtain ⟨hv8, hv8b, h⟩ := gi_some h
              refine r_ald S hK hP hv8 dX2_isHeldByAnother_42 ?_
              refine lv_iload_n S.1 S.2.1 dX2_isHeldByAnother_43 rfl (lv_at hl 1 rfl) ?_
              obtain ⟨r9, h_10, h⟩ := bd_some h
              refine k_R (r := r9) (va_runVN (C := RX0) (As := [.int p1]) (rest := []) S (c_X0_hasClassBelow hv8b h_10) ⟨va_cnB 1 S.2.2.2.2 gX2_isHeldByAnother_X0_hasClassBelow_n178 rfl rfl rfl (hN (.methodLinkNest RX2 178 yX0_hasClassBelow "FlatLoader") (by decide +kernel)) (S.2.2.2.2 (.initialized RX0) (by decide +kernel)) (by decide +kernel) ⟨Nat.le_of_ble_eq_true rfl, Nat.le_of_ble_eq_true rfl⟩, S.2.2.2.2 (.instanceMethod yX0_hasClassBelow) (by decide +kernel), S.2.2.2.2 (.selects RX0 yX0_hasClassBelow yX0_hasClassBelow) (by decide +kernel)⟩ ⟨Pw_blind, va_recv hK hP (ci := 0) (q0 := (kM (x2).toNatClampNeg)) rfl (wld_at (d := dM (kM (x2).toNatClampNeg)) (lyM hv8b)), Pw_at hlo hS hP hK hN⟩ rfl rfl hl.1 rfl (lv_room (Nat.le_of_ble_eq_true rfl)) dX2_isHeldByAnother_44 ⟨Nat.zero_le _, Nat.zero_le _⟩) ?_
              refine lv_if_eq (tgt := 52) S.1 S.2.1 dX2_isHeldByAnother_47 (by decide) (fun hc11 => ?_) (fun hc11 => ?_)
              · rw [if_pos hc11] at h
                refine lv_iinc (v := (x2 + 1)) (lv' := [(2, .int (x2 + 1)), (0, .ref (ad 0)), (1, .int p1)]) S.1 S.2.1 dX2_isHeldByAnother_52 hl (k := 2) rfl rfl (by decide) rfl (fun ls hl => ?_)
                refine lv_goto (tgt := 2) S.1 S.2.1 dX2_isHeldByAnother_55 (by decide) ?_
                exact ih ((x2 + 1)) ls (lv_sub hl [1, 2, 0] rfl) h
              · rw [if_neg hc11] at h
                refine lv_iconst (v := 1) S.1 S.2.1 dX2_isHeldByAnother_50 (by decide) ?_
                exact e_Rz S hr hlocks rfl (Option.some.inj h) dX2_isHeldByAnother_51
  refine lv_iconst (v := 0) S.1 S.2.1 dX2_isHeldByAnother_0 (by decide) ?_
  refine lv_istore_n (lv' := [(2, .int 0), (0, .ref (ad 0)), (1, .int p1)]) S.1 S.2.1 dX2_isHeldByAnother_1 rfl hl (by decide) rfl (fun ls hl => ?_)
  exact key2 200 (0) ls (lv_sub hl [1, 2, 0] rfl) h

def m_X2_holderSet_4 (g : Mem) (p1 : Int32) : Nat → Int32 → Int32 → Option Int32
  | 0, _, _ => none
  | n + 1, x2, x3 => (if 8 ≤ x3 then some x2 else gi x3 8 ((m_X0_holds g ((x3).toNatClampNeg) p1).bind fun r3 => (if r3 = 0 then m_X2_holderSet_4 g p1 n (x2) ((x3 + 1)) else m_X2_holderSet_4 g p1 n ((x2 ||| (m_X2_bit x3))) ((x3 + 1)))))
def m_X2_holderSet (g : Mem) (p1 : Int32) : Option Int32 := m_X2_holderSet_4 g p1 200 (0) (0)
def rm_X2_holderSet : Room := { frames := 1, cells := 0, slots := 0, locals := 21 }
set_option maxRecDepth 100000 in
set_option maxHeartbeats 4000000 in
theorem c_X2_holderSet {l : Launch} {D : va_G} {cA : Nat → ClassId} {ad : Nat → Nat} {lo : Nat} {g : Mem} {p1 : Int32} {r : Int32} (h : m_X2_holderSet g p1 = some r) : Met l yX2_holderSet wsX2_holderSet rm_X2_holderSet (Pw [.ref (ad 0), .int p1] D cA ad lo g) (Qr r) 0 0 (fun _ => False) := by
  refine startW (cc := cX2_holderSet) (maxL := 4) (ret := (some .int)) (by decide) rfl (Nat.le_of_ble_eq_true rfl) ?_
  intro p e s m args below meth c ls S hr hlocks hB hl
  obtain ⟨hlo, hP, hK, hN⟩ := hB
  have hS : va_S (fun q => lo ≤ q) s.heap s.heap [] := va_S.rf
  unfold m_X2_holderSet at h
  have S : CallFix p m c cX2_holderSet 4 s args wsX2_holderSet RX2 := S
  have hl : lv_has ls 4 [(0, .ref (ad 0)), (1, .int p1)] := hl
  have hn2 : ∀ w ∈ wsX20, w ∈ wsX2_holderSet := by decide +kernel
  have lk11 := S.2.2.2.2 (.fieldLink RX2 11 "FlatLoader" "modules" "[LFlatLoader$OneModule;") (by decide +kernel)
  have key4 : ∀ (n : Nat), ∀ (x2 x3 : Int32), ∀ (ls : Array Slot), lv_has ls 4 [(0, .ref (ad 0)), (1, .int p1), (2, .int x2), (3, .int x3)] → m_X2_holderSet_4 g p1 n x2 x3 = some r → W p l e (rm_X2_holderSet) s m args below meth c s.heap [] 0 0 (MQ below (Qr r) args s 0 0 (fun _ => False)) (F0 m 4 ls []) := by
    intro n
    induction n with
    | zero =>
      intro x2 x3 ls hl h
      exact nomatch (show none = some r from h)
    | succ n ih =>
      intro x2 x3 ls hl h
      rw [m_X2_holderSet_4] at h
      refine lv_iload_n S.1 S.2.1 dX2_holderSet_4 rfl (lv_at hl 3 rfl) ?_
      refine lv_bipush (v := 8) S.1 S.2.1 dX2_holderSet_5 (by decide) ?_
      refine lv_icmp_ge (tgt := 36) S.1 S.2.1 dX2_holderSet_7 (by decide) (fun hc1 => ?_) (fun hc1 => ?_)
      · rw [if_pos hc1] at h
        refine lv_iload_n S.1 S.2.1 dX2_holderSet_36 rfl (lv_at hl 2 rfl) ?_
        exact e_R S hr hlocks (Option.some.inj h) dX2_holderSet_37
      · rw [if_neg hc1] at h
        refine lv_aload_n S.1 S.2.1 dX2_holderSet_10 rfl (lv_at hl 0 rfl) ?_
        refine r_get (C := RX2) (T := TX2) (N := 6) (ci := 2) (k := 0) (j := 0) (fs := fsF) (d := (some (some 1))) (v := .ref (ad 1)) S hK hP hn2 lk11 rfl (by decide) rfl rfl rfl dX2_holderSet_11 ?_
        refine lv_iload_n S.1 S.2.1 dX2_holderSet_14 rfl (lv_at hl 3 rfl) ?_
        obtain ⟨hv2, hv2b, h⟩ := gi_some h
        refine r_ald S hK hP hv2 dX2_holderSet_15 ?_
        refine lv_iload_n S.1 S.2.1 dX2_holderSet_16 rfl (lv_at hl 1 rfl) ?_
        obtain ⟨r3, h_4, h⟩ := bd_some h
        refine k_R (r := r3) (va_runVN (C := RX0) (As := [.int p1]) (rest := []) S (c_X0_holds hv2b h_4) ⟨va_cnB 1 S.2.2.2.2 gX2_holderSet_X0_holds_n71 rfl rfl rfl (hN (.methodLinkNest RX2 71 yX0_holds "FlatLoader") (by decide +kernel)) (S.2.2.2.2 (.initialized RX0) (by decide +kernel)) (by decide +kernel) ⟨Nat.le_of_ble_eq_true rfl, Nat.le_of_ble_eq_true rfl⟩, S.2.2.2.2 (.instanceMethod yX0_holds) (by decide +kernel), S.2.2.2.2 (.selects RX0 yX0_holds yX0_holds) (by decide +kernel)⟩ ⟨Pw_blind, va_recv hK hP (ci := 0) (q0 := (kM (x3).toNatClampNeg)) rfl (wld_at (d := dM (kM (x3).toNatClampNeg)) (lyM hv2b)), Pw_at hlo hS hP hK hN⟩ rfl rfl hl.1 rfl (lv_room (Nat.le_of_ble_eq_true rfl)) dX2_holderSet_17 ⟨Nat.zero_le _, Nat.zero_le _⟩) ?_
        refine lv_if_eq (tgt := 30) S.1 S.2.1 dX2_holderSet_20 (by decide) (fun hc5 => ?_) (fun hc5 => ?_)
        · rw [if_pos hc5] at h
          refine lv_iinc (v := (x3 + 1)) (lv' := [(3, .int (x3 + 1)), (0, .ref (ad 0)), (1, .int p1), (2, .int x2)]) S.1 S.2.1 dX2_holderSet_30 hl (k := 3) rfl rfl (by decide) rfl (fun ls hl => ?_)
          refine lv_goto (tgt := 4) S.1 S.2.1 dX2_holderSet_33 (by decide) ?_
          exact ih (x2) ((x3 + 1)) ls (lv_sub hl [1, 2, 3, 0] rfl) h
        · rw [if_neg hc5] at h
          refine lv_iload_n S.1 S.2.1 dX2_holderSet_23 rfl (lv_at hl 2 rfl) ?_
          refine lv_iload_n S.1 S.2.1 dX2_holderSet_24 rfl (lv_at hl 3 rfl) ?_
          refine k_R (r := (m_X2_bit x3)) (va_runS (As := [.int x3]) (rest := [.int x2]) S c_X2_bit (va_cwS 1 S.2.2.2.2 gX2_holderSet_X2_bit rfl rfl rfl (by decide +kernel) ⟨Nat.le_of_ble_eq_true rfl, Nat.le_of_ble_eq_true rfl⟩) ⟨Tr_blind, Tr_at⟩ rfl rfl hl.1 rfl (lv_room (Nat.le_of_ble_eq_true rfl)) dX2_holderSet_25 ⟨Nat.zero_le _, Nat.zero_le _⟩) ?_
          refine lv_ior S.1 S.2.1 dX2_holderSet_28 ?_
          refine lv_istore_n (lv' := [(2, .int (x2 ||| (m_X2_bit x3))), (0, .ref (ad 0)), (1, .int p1), (3, .int x3)]) S.1 S.2.1 dX2_holderSet_29 rfl hl (by decide) rfl (fun ls hl => ?_)
          refine lv_iinc (v := (x3 + 1)) (lv' := [(3, .int (x3 + 1)), (2, .int (x2 ||| (m_X2_bit x3))), (0, .ref (ad 0)), (1, .int p1)]) S.1 S.2.1 dX2_holderSet_30 hl (k := 3) rfl rfl (by decide) rfl (fun ls hl => ?_)
          refine lv_goto (tgt := 4) S.1 S.2.1 dX2_holderSet_33 (by decide) ?_
          exact ih ((x2 ||| (m_X2_bit x3))) ((x3 + 1)) ls (lv_sub hl [2, 3, 1, 0] rfl) h
  refine lv_iconst (v := 0) S.1 S.2.1 dX2_holderSet_0 (by decide) ?_
  refine lv_istore_n (lv' := [(2, .int 0), (0, .ref (ad 0)), (1, .int p1)]) S.1 S.2.1 dX2_holderSet_1 rfl hl (by decide) rfl (fun ls hl => ?_)
  refine lv_iconst (v := 0) S.1 S.2.1 dX2_holderSet_2 (by decide) ?_
  refine lv_istore_n (lv' := [(3, .int 0), (2, .int 0), (0, .ref (ad 0)), (1, .int p1)]) S.1 S.2.1 dX2_holderSet_3 rfl hl (by decide) rfl (fun ls hl => ?_)
  exact key4 200 (0) (0) ls (lv_sub hl [2, 3, 1, 0] rfl) h

def m_X2_needsNoDefining (g : Mem) (p1 p2 : Int32) : Option Int32 := (if p1 = 8 then some 1 else (if p1 = 9 then some 1 else gi p1 8 ((m_X0_hasDefined g ((p1).toNatClampNeg) p2).bind fun r4 => (if r4 = 0 then some 0 else some 1))))
def rm_X2_needsNoDefining : Room := { frames := 1, cells := 0, slots := 0, locals := 21 }
set_option maxRecDepth 100000 in
set_option maxHeartbeats 4000000 in
theorem c_X2_needsNoDefining {l : Launch} {D : va_G} {cA : Nat → ClassId} {ad : Nat → Nat} {lo : Nat} {g : Mem} {p1 p2 : Int32} {r : Int32} (h : m_X2_needsNoDefining g p1 p2 = some r) : Met l yX2_needsNoDefining wsX2_needsNoDefining rm_X2_needsNoDefining (Pw [.ref (ad 0), .int p1, .int p2] D cA ad lo g) (Qr r) 0 0 (fun _ => False) := by
  refine startW (cc := cX2_needsNoDefining) (maxL := 3) (ret := (some .boolean)) (by decide) rfl (Nat.le_of_ble_eq_true rfl) ?_
  intro p e s m args below meth c ls S hr hlocks hB hl
  obtain ⟨hlo, hP, hK, hN⟩ := hB
  have hS : va_S (fun q => lo ≤ q) s.heap s.heap [] := va_S.rf
  unfold m_X2_needsNoDefining at h
  have S : CallFix p m c cX2_needsNoDefining 3 s args wsX2_needsNoDefining RX2 := S
  have hl : lv_has ls 3 [(0, .ref (ad 0)), (1, .int p1), (2, .int p2)] := hl
  have hn2 : ∀ w ∈ wsX20, w ∈ wsX2_needsNoDefining := by decide +kernel
  have lk11 := S.2.2.2.2 (.fieldLink RX2 11 "FlatLoader" "modules" "[LFlatLoader$OneModule;") (by decide +kernel)
  refine lv_iload_n S.1 S.2.1 dX2_needsNoDefining_0 rfl (lv_at hl 1 rfl) ?_
  refine lv_bipush (v := 8) S.1 S.2.1 dX2_needsNoDefining_1 (by decide) ?_
  refine lv_icmp_eq (tgt := 25) S.1 S.2.1 dX2_needsNoDefining_3 (by decide) (fun hc1 => ?_) (fun hc1 => ?_)
  · rw [if_pos hc1] at h
    refine lv_iconst (v := 1) S.1 S.2.1 dX2_needsNoDefining_25 (by decide) ?_
    refine lv_goto (tgt := 30) S.1 S.2.1 dX2_needsNoDefining_26 (by decide) ?_
    exact e_Rz S hr hlocks rfl (Option.some.inj h) dX2_needsNoDefining_30
  · rw [if_neg hc1] at h
    refine lv_iload_n S.1 S.2.1 dX2_needsNoDefining_6 rfl (lv_at hl 1 rfl) ?_
    refine lv_bipush (v := 9) S.1 S.2.1 dX2_needsNoDefining_7 (by decide) ?_
    refine lv_icmp_eq (tgt := 25) S.1 S.2.1 dX2_needsNoDefining_9 (by decide) (fun hc2 => ?_) (fun hc2 => ?_)
    · rw [if_pos hc2] at h
      refine lv_iconst (v := 1) S.1 S.2.1 dX2_needsNoDefining_25 (by decide) ?_
      refine lv_goto (tgt := 30) S.1 S.2.1 dX2_needsNoDefining_26 (by decide) ?_
      exact e_Rz S hr hlocks rfl (Option.some.inj h) dX2_needsNoDefining_30
    · rw [if_neg hc2] at h
      refine lv_aload_n S.1 S.2.1 dX2_needsNoDefining_12 rfl (lv_at hl 0 rfl) ?_
      refine r_get (C := RX2) (T := TX2) (N := 6) (ci := 2) (k := 0) (j := 0) (fs := fsF) (d := (some (some 1))) (v := .ref (ad 1)) S hK hP hn2 lk11 rfl (by decide) rfl rfl rfl dX2_needsNoDefining_13 ?_
      refine lv_iload_n S.1 S.2.1 dX2_needsNoDefining_16 rfl (lv_at hl 1 rfl) ?_
      obtain ⟨hv3, hv3b, h⟩ := gi_some h
      refine r_ald S hK hP hv3 dX2_needsNoDefining_17 ?_
      refine lv_iload_n S.1 S.2.1 dX2_needsNoDefining_18 rfl (lv_at hl 2 rfl) ?_
      obtain ⟨r4, h_5, h⟩ := bd_some h
      refine k_R (r := r4) (va_runVN (C := RX0) (As := [.int p2]) (rest := []) S (c_X0_hasDefined hv3b h_5) ⟨va_cnB 1 S.2.2.2.2 gX2_needsNoDefining_X0_hasDefined_n213 rfl rfl rfl (hN (.methodLinkNest RX2 213 yX0_hasDefined "FlatLoader") (by decide +kernel)) (S.2.2.2.2 (.initialized RX0) (by decide +kernel)) (by decide +kernel) ⟨Nat.le_of_ble_eq_true rfl, Nat.le_of_ble_eq_true rfl⟩, S.2.2.2.2 (.instanceMethod yX0_hasDefined) (by decide +kernel), S.2.2.2.2 (.selects RX0 yX0_hasDefined yX0_hasDefined) (by decide +kernel)⟩ ⟨Pw_blind, va_recv hK hP (ci := 0) (q0 := (kM (p1).toNatClampNeg)) rfl (wld_at (d := dM (kM (p1).toNatClampNeg)) (lyM hv3b)), Pw_at hlo hS hP hK hN⟩ rfl rfl hl.1 rfl (lv_room (Nat.le_of_ble_eq_true rfl)) dX2_needsNoDefining_19 ⟨Nat.zero_le _, Nat.zero_le _⟩) ?_
      refine lv_if_eq (tgt := 29) S.1 S.2.1 dX2_needsNoDefining_22 (by decide) (fun hc6 => ?_) (fun hc6 => ?_)
      · rw [if_pos hc6] at h
        refine lv_iconst (v := 0) S.1 S.2.1 dX2_needsNoDefining_29 (by decide) ?_
        exact e_Rz S hr hlocks rfl (Option.some.inj h) dX2_needsNoDefining_30
      · rw [if_neg hc6] at h
        refine lv_iconst (v := 1) S.1 S.2.1 dX2_needsNoDefining_25 (by decide) ?_
        refine lv_goto (tgt := 30) S.1 S.2.1 dX2_needsNoDefining_26 (by decide) ?_
        exact e_Rz S hr hlocks rfl (Option.some.inj h) dX2_needsNoDefining_30

def m_X2_defineChain_7 (p1 p2 : Int32) : Nat → Mem → Int32 → Int32 → Option Mem
  | 0, _, _, _ => none
  | n + 1, g, x3, x4 => (if x4 < 0 then some g else gi x4 10 (gi (g 52 (x4).toNatClampNeg) 8 (gi x4 10 (gi (g 53 (x4).toNatClampNeg) 24 (gi x4 10 (m_X2_defineChain_7 p1 p2 n ((mup g ((kM ((g 52 (x4).toNatClampNeg)).toNatClampNeg) + 2) ((g 53 (x4).toNatClampNeg)).toNatClampNeg x3)) (((mup g ((kM ((g 52 (x4).toNatClampNeg)).toNatClampNeg) + 2) ((g 53 (x4).toNatClampNeg)).toNatClampNeg x3) 52 (x4).toNatClampNeg)) ((x4 + (-1)))))))))
def m_X2_defineChain (g : Mem) (p1 p2 : Int32) : Option Mem := m_X2_defineChain_7 p1 p2 200 (g) (p2) ((p1 - 1))
def rm_X2_defineChain : Room := { frames := 0, cells := 0, slots := 0, locals := 0 }
set_option maxRecDepth 100000 in
set_option maxHeartbeats 4000000 in
theorem c_X2_defineChain {l : Launch} {D : va_G} {cA : Nat → ClassId} {ad : Nat → Nat} {lo : Nat} (hA : AdOk lo ad lay0.length) {g : Mem} {p1 p2 : Int32} {g1 : Mem} (h : m_X2_defineChain g p1 p2 = some g1) : Met l yX2_defineChain wsX2_defineChain rm_X2_defineChain (Pw [.ref (ad 0), .int p1, .int p2] D cA ad lo g) (Qw D cA ad lo g1 none) 0 0 (fun q => lo ≤ q) := by
  refine startW (cc := cX2_defineChain) (maxL := 5) (ret := none) (by decide) rfl (Nat.le_of_ble_eq_true rfl) ?_
  intro p e s m args below meth c ls S hr hlocks hB hl
  obtain ⟨hlo, hP, hK, hN⟩ := hB
  have hS : va_S (fun q => lo ≤ q) s.heap s.heap [] := va_S.rf
  unfold m_X2_defineChain at h
  have S : CallFix p m c cX2_defineChain 5 s args wsX2_defineChain RX2 := S
  have hl : lv_has ls 5 [(0, .ref (ad 0)), (1, .int p1), (2, .int p2)] := hl
  have hn0 : ∀ w ∈ wsX00, w ∈ wsX2_defineChain := by decide +kernel
  have hn2 : ∀ w ∈ wsX20, w ∈ wsX2_defineChain := by decide +kernel
  have lk11 := S.2.2.2.2 (.fieldLink RX2 11 "FlatLoader" "modules" "[LFlatLoader$OneModule;") (by decide +kernel)
  have lk30 := S.2.2.2.2 (.fieldLink RX2 30 "FlatLoader" "chainModules" "[I") (by decide +kernel)
  have lk34 := S.2.2.2.2 (.fieldLink RX2 34 "FlatLoader" "chainNames" "[I") (by decide +kernel)
  have lk163 : va_Nw (.fieldLinkNest RX2 163 "FlatLoader$OneModule" "definedAbove" "[I" "FlatLoader") s := hN _ (by decide +kernel)
  obtain ⟨H, hH⟩ : ∃ H, H = s.heap := ⟨_, rfl⟩
  obtain ⟨locs, hlocs⟩ : ∃ z : List Loc, z = [] := ⟨_, rfl⟩
  have key7 : ∀ (n : Nat), ∀ (g : Mem) (H : Heap) (locs : List Loc), va_P D vwCl (wld cA ad g lay0) H → va_S (fun q => lo ≤ q) s.heap H locs → ∀ (x3 x4 : Int32), ∀ (ls : Array Slot), lv_has ls 5 [(0, .ref (ad 0)), (1, .int p1), (2, .int p2), (3, .int x3), (4, .int x4)] → m_X2_defineChain_7 p1 p2 n g x3 x4 = some g1 → W p l e (rm_X2_defineChain) s m args below meth c H locs 0 0 (MQ below (Qw D cA ad lo g1 none) args s 0 0 (fun q => lo ≤ q)) (F0 m 7 ls []) := by
    intro n
    induction n with
    | zero =>
      intro g H locs hP hS x3 x4 ls hl h
      exact nomatch (show none = some g1 from h)
    | succ n ih =>
      intro g H locs hP hS x3 x4 ls hl h
      rw [m_X2_defineChain_7] at h
      refine lv_iload S.1 S.2.1 dX2_defineChain_7 (lv_at hl 4 rfl) ?_
      refine lv_if_lt (tgt := 50) S.1 S.2.1 dX2_defineChain_9 (by decide) (fun hc1 => ?_) (fun hc1 => ?_)
      · rw [if_pos hc1] at h
        exact e_Wv S hr hlocks hP hS (Option.some.inj h) dX2_defineChain_50
      · rw [if_neg hc1] at h
        refine lv_aload_n S.1 S.2.1 dX2_defineChain_12 rfl (lv_at hl 0 rfl) ?_
        refine r_get (C := RX2) (T := TX2) (N := 6) (ci := 2) (k := 0) (j := 0) (fs := fsF) (d := (some (some 1))) (v := .ref (ad 1)) S hK hP hn2 lk11 rfl (by decide) rfl rfl rfl dX2_defineChain_13 ?_
        refine lv_aload_n S.1 S.2.1 dX2_defineChain_16 rfl (lv_at hl 0 rfl) ?_
        refine r_get (C := RX2) (T := TX2) (N := 6) (ci := 2) (k := 0) (j := 4) (fs := fsF) (d := (some (some 52))) (v := .ref (ad 52)) S hK hP hn2 lk30 rfl (by decide) rfl rfl rfl dX2_defineChain_17 ?_
        refine lv_iload S.1 S.2.1 dX2_defineChain_20 (lv_at hl 4 rfl) ?_
        obtain ⟨hv2, hv2b, h⟩ := gi_some h
        refine r_ild (k := 52) (n := 10) S hK hP rfl hv2 dX2_defineChain_22 ?_
        obtain ⟨hv3, hv3b, h⟩ := gi_some h
        refine r_ald S hK hP hv3 dX2_defineChain_23 ?_
        refine r_getN (C := RX0) (T := TX0) (N := 8) (ci := 0) (k := (kM ((g 52 (x4).toNatClampNeg)).toNatClampNeg)) (j := 1) (fs := (fsM (kM ((g 52 (x4).toNatClampNeg)).toNatClampNeg))) (d := (some (some ((kM ((g 52 (x4).toNatClampNeg)).toNatClampNeg) + 2)))) (v := .ref (ad ((kM ((g 52 (x4).toNatClampNeg)).toNatClampNeg) + 2))) S hK hP hn0 lk163 rfl (by decide) (lyM hv3b) rfl rfl dX2_defineChain_24 ?_
        refine lv_aload_n S.1 S.2.1 dX2_defineChain_27 rfl (lv_at hl 0 rfl) ?_
        refine r_get (C := RX2) (T := TX2) (N := 6) (ci := 2) (k := 0) (j := 5) (fs := fsF) (d := (some (some 53))) (v := .ref (ad 53)) S hK hP hn2 lk34 rfl (by decide) rfl rfl rfl dX2_defineChain_28 ?_
        refine lv_iload S.1 S.2.1 dX2_defineChain_31 (lv_at hl 4 rfl) ?_
        obtain ⟨hv4, hv4b, h⟩ := gi_some h
        refine r_ild (k := 53) (n := 10) S hK hP rfl hv4 dX2_defineChain_33 ?_
        refine lv_iload_n S.1 S.2.1 dX2_defineChain_34 rfl (lv_at hl 3 rfl) ?_
        obtain ⟨hv5, hv5b, h⟩ := gi_some h
        refine r_ist (k := ((kM ((g 52 (x4).toNatClampNeg)).toNatClampNeg) + 2)) (n := 24) S hA hK hP hS (lyM2 hv3b) hv5 dX2_defineChain_35 (fun H locs hP hS => ?_)
        refine lv_aload_n S.1 S.2.1 dX2_defineChain_36 rfl (lv_at hl 0 rfl) ?_
        refine r_get (C := RX2) (T := TX2) (N := 6) (ci := 2) (k := 0) (j := 4) (fs := fsF) (d := (some (some 52))) (v := .ref (ad 52)) S hK hP hn2 lk30 rfl (by decide) rfl rfl rfl dX2_defineChain_37 ?_
        refine lv_iload S.1 S.2.1 dX2_defineChain_40 (lv_at hl 4 rfl) ?_
        obtain ⟨hv6, hv6b, h⟩ := gi_some h
        refine r_ild (k := 52) (n := 10) S hK hP rfl hv6 dX2_defineChain_42 ?_
        refine lv_istore_n (lv' := [(3, .int ((mup g ((kM ((g 52 (x4).toNatClampNeg)).toNatClampNeg) + 2) ((g 53 (x4).toNatClampNeg)).toNatClampNeg x3) 52 (x4).toNatClampNeg)), (0, .ref (ad 0)), (1, .int p1), (2, .int p2), (4, .int x4)]) S.1 S.2.1 dX2_defineChain_43 rfl hl (by decide) rfl (fun ls hl => ?_)
        refine lv_iinc (v := (x4 + (-1))) (lv' := [(4, .int (x4 + (-1))), (3, .int ((mup g ((kM ((g 52 (x4).toNatClampNeg)).toNatClampNeg) + 2) ((g 53 (x4).toNatClampNeg)).toNatClampNeg x3) 52 (x4).toNatClampNeg)), (0, .ref (ad 0)), (1, .int p1), (2, .int p2)]) S.1 S.2.1 dX2_defineChain_44 hl (k := 4) rfl rfl (by decide) rfl (fun ls hl => ?_)
        refine lv_goto (tgt := 7) S.1 S.2.1 dX2_defineChain_47 (by decide) ?_
        exact ih ((mup g ((kM ((g 52 (x4).toNatClampNeg)).toNatClampNeg) + 2) ((g 53 (x4).toNatClampNeg)).toNatClampNeg x3)) H locs hP hS (((mup g ((kM ((g 52 (x4).toNatClampNeg)).toNatClampNeg) + 2) ((g 53 (x4).toNatClampNeg)).toNatClampNeg x3) 52 (x4).toNatClampNeg)) ((x4 + (-1))) ls (lv_sub hl [2, 3, 4, 1, 0] rfl) h
  rw [← hH] at hP
  have hS : va_S (fun q => lo ≤ q) s.heap H locs := by rw [hH, hlocs]; exact hS
  have goal0 : W p l e (rm_X2_defineChain) s m args below meth c H locs 0 0 (MQ below (Qw D cA ad lo g1 none) args s 0 0 (fun q => lo ≤ q)) (F0 m 0 ls []) := by
    refine lv_iload_n S.1 S.2.1 dX2_defineChain_0 rfl (lv_at hl 2 rfl) ?_
    refine lv_istore_n (lv' := [(3, .int p2), (0, .ref (ad 0)), (1, .int p1), (2, .int p2)]) S.1 S.2.1 dX2_defineChain_1 rfl hl (by decide) rfl (fun ls hl => ?_)
    refine lv_iload_n S.1 S.2.1 dX2_defineChain_2 rfl (lv_at hl 2 rfl) ?_
    refine lv_iconst (v := 1) S.1 S.2.1 dX2_defineChain_3 (by decide) ?_
    refine lv_isub S.1 S.2.1 dX2_defineChain_4 ?_
    refine lv_istore (lv' := [(4, .int (p1 - 1)), (3, .int p2), (0, .ref (ad 0)), (1, .int p1), (2, .int p2)]) S.1 S.2.1 dX2_defineChain_5 hl (by decide) rfl (fun ls hl => ?_)
    exact key7 200 (g) H locs hP hS (p2) ((p1 - 1)) ls (lv_sub hl [2, 3, 4, 1, 0] rfl) h
  rw [hH, hlocs] at goal0
  exact goal0

def m_X2_state (g : Mem) (p1 : Int32) : Option Int32 := (if (m_X2_isModule p1) = 0 then some (-1) else (m_X2_isPresent g p1).bind fun r2 => (if r2 = 0 then some 0 else (m_X2_isLoaded g p1).bind fun r5 => (if r5 = 0 then (m_X2_loadableSet g).bind fun r8 => (if (m_X2_isIn r8 p1) = 0 then some 1 else some 2) else some 3)))
def rm_X2_state : Room := { frames := 3, cells := 0, slots := 0, locals := 65 }
set_option maxRecDepth 100000 in
set_option maxHeartbeats 4000000 in
theorem c_X2_state {l : Launch} {D : va_G} {cA : Nat → ClassId} {ad : Nat → Nat} {lo : Nat} {g : Mem} {p1 : Int32} {r : Int32} (h : m_X2_state g p1 = some r) : Met l yX2_state wsX2_state rm_X2_state (Pw [.ref (ad 0), .int p1] D cA ad lo g) (Qr r) 0 0 (fun _ => False) := by
  refine startW (cc := cX2_state) (maxL := 2) (ret := (some .int)) (by decide) rfl (Nat.le_of_ble_eq_true rfl) ?_
  intro p e s m args below meth c ls S hr hlocks hB hl
  obtain ⟨hlo, hP, hK, hN⟩ := hB
  have hS : va_S (fun q => lo ≤ q) s.heap s.heap [] := va_S.rf
  unfold m_X2_state at h
  have S : CallFix p m c cX2_state 2 s args wsX2_state RX2 := S
  have hl : lv_has ls 2 [(0, .ref (ad 0)), (1, .int p1)] := hl
  refine lv_iload_n S.1 S.2.1 dX2_state_0 rfl (lv_at hl 1 rfl) ?_
  refine k_R (r := (m_X2_isModule p1)) (va_runS (As := [.int p1]) (rest := []) S c_X2_isModule (va_cwS 1 S.2.2.2.2 gX2_state_X2_isModule rfl rfl rfl (by decide +kernel) ⟨Nat.le_of_ble_eq_true rfl, Nat.le_of_ble_eq_true rfl⟩) ⟨Tr_blind, Tr_at⟩ rfl rfl hl.1 rfl (lv_room (Nat.le_of_ble_eq_true rfl)) dX2_state_1 ⟨Nat.zero_le _, Nat.zero_le _⟩) ?_
  refine lv_if_ne (tgt := 9) S.1 S.2.1 dX2_state_4 (by decide) (fun hc1 => ?_) (fun hc1 => ?_)
  · rw [if_neg hc1] at h
    refine lv_aload_n S.1 S.2.1 dX2_state_9 rfl (lv_at hl 0 rfl) ?_
    refine lv_iload_n S.1 S.2.1 dX2_state_10 rfl (lv_at hl 1 rfl) ?_
    obtain ⟨r2, h_3, h⟩ := bd_some h
    refine k_R (r := r2) (va_runV (As := [.int p1]) (rest := []) S (c_X2_isPresent h_3) (cwV 1 S.2.2.2.2 gX2_state_X2_isPresent rfl rfl rfl (by decide +kernel) ⟨Nat.le_of_ble_eq_true rfl, Nat.le_of_ble_eq_true rfl⟩) ⟨Pw_blind, va_recv hK hP (ci := 2) (q0 := 0) rfl (wld_at (d := dF) rfl), Pw_at hlo hS hP hK hN⟩ rfl rfl hl.1 rfl (lv_room (Nat.le_of_ble_eq_true rfl)) dX2_state_11 ⟨Nat.zero_le _, Nat.zero_le _⟩) ?_
    refine lv_if_ne (tgt := 19) S.1 S.2.1 dX2_state_14 (by decide) (fun hc4 => ?_) (fun hc4 => ?_)
    · rw [if_neg hc4] at h
      refine lv_aload_n S.1 S.2.1 dX2_state_19 rfl (lv_at hl 0 rfl) ?_
      refine lv_iload_n S.1 S.2.1 dX2_state_20 rfl (lv_at hl 1 rfl) ?_
      obtain ⟨r5, h_6, h⟩ := bd_some h
      refine k_R (r := r5) (va_runV (As := [.int p1]) (rest := []) S (c_X2_isLoaded h_6) (cwV 1 S.2.2.2.2 gX2_state_X2_isLoaded rfl rfl rfl (by decide +kernel) ⟨Nat.le_of_ble_eq_true rfl, Nat.le_of_ble_eq_true rfl⟩) ⟨Pw_blind, va_recv hK hP (ci := 2) (q0 := 0) rfl (wld_at (d := dF) rfl), Pw_at hlo hS hP hK hN⟩ rfl rfl hl.1 rfl (lv_room (Nat.le_of_ble_eq_true rfl)) dX2_state_21 ⟨Nat.zero_le _, Nat.zero_le _⟩) ?_
      refine lv_if_eq (tgt := 29) S.1 S.2.1 dX2_state_24 (by decide) (fun hc7 => ?_) (fun hc7 => ?_)
      · rw [if_pos hc7] at h
        refine lv_aload_n S.1 S.2.1 dX2_state_29 rfl (lv_at hl 0 rfl) ?_
        obtain ⟨r8, h_9, h⟩ := bd_some h
        refine k_R (r := r8) (va_runV (As := []) (rest := []) S (c_X2_loadableSet h_9) (cwV 0 S.2.2.2.2 gX2_state_X2_loadableSet rfl rfl rfl (by decide +kernel) ⟨Nat.le_of_ble_eq_true rfl, Nat.le_of_ble_eq_true rfl⟩) ⟨Pw_blind, va_recv hK hP (ci := 2) (q0 := 0) rfl (wld_at (d := dF) rfl), Pw_at hlo hS hP hK hN⟩ rfl rfl hl.1 rfl (lv_room (Nat.le_of_ble_eq_true rfl)) dX2_state_30 ⟨Nat.zero_le _, Nat.zero_le _⟩) ?_
        refine lv_iload_n S.1 S.2.1 dX2_state_33 rfl (lv_at hl 1 rfl) ?_
        refine k_R (r := (m_X2_isIn r8 p1)) (va_runS (As := [.int r8, .int p1]) (rest := []) S c_X2_isIn (va_cwS 2 S.2.2.2.2 gX2_state_X2_isIn rfl rfl rfl (by decide +kernel) ⟨Nat.le_of_ble_eq_true rfl, Nat.le_of_ble_eq_true rfl⟩) ⟨Tr_blind, Tr_at⟩ rfl rfl hl.1 rfl (lv_room (Nat.le_of_ble_eq_true rfl)) dX2_state_34 ⟨Nat.zero_le _, Nat.zero_le _⟩) ?_
        refine lv_if_eq (tgt := 44) S.1 S.2.1 dX2_state_37 (by decide) (fun hc10 => ?_) (fun hc10 => ?_)
        · rw [if_pos hc10] at h
          refine lv_iconst (v := 1) S.1 S.2.1 dX2_state_44 (by decide) ?_
          exact e_R S hr hlocks (Option.some.inj h) dX2_state_45
        · rw [if_neg hc10] at h
          refine lv_iconst (v := 2) S.1 S.2.1 dX2_state_40 (by decide) ?_
          refine lv_goto (tgt := 45) S.1 S.2.1 dX2_state_41 (by decide) ?_
          exact e_R S hr hlocks (Option.some.inj h) dX2_state_45
      · rw [if_neg hc7] at h
        refine lv_iconst (v := 3) S.1 S.2.1 dX2_state_27 (by decide) ?_
        exact e_R S hr hlocks (Option.some.inj h) dX2_state_28
    · rw [if_pos hc4] at h
      refine lv_iconst (v := 0) S.1 S.2.1 dX2_state_17 (by decide) ?_
      exact e_R S hr hlocks (Option.some.inj h) dX2_state_18
  · rw [if_pos hc1] at h
    refine lv_iconst (v := (-1)) S.1 S.2.1 dX2_state_7 (by decide) ?_
    exact e_R S hr hlocks (Option.some.inj h) dX2_state_8

def m_X2_above (g : Mem) (p1 p2 : Int32) : Option Int32 := (if (m_X2_isModule p1) = 0 then some (-1) else (if (m_X2_isName p2) = 0 then some (-1) else gi p1 8 (gi p2 24 (some (g ((kM (p1).toNatClampNeg) + 2) (p2).toNatClampNeg)))))
def rm_X2_above : Room := { frames := 1, cells := 0, slots := 0, locals := 20 }
set_option maxRecDepth 100000 in
set_option maxHeartbeats 4000000 in
theorem c_X2_above {l : Launch} {D : va_G} {cA : Nat → ClassId} {ad : Nat → Nat} {lo : Nat} {g : Mem} {p1 p2 : Int32} {r : Int32} (h : m_X2_above g p1 p2 = some r) : Met l yX2_above wsX2_above rm_X2_above (Pw [.ref (ad 0), .int p1, .int p2] D cA ad lo g) (Qr r) 0 0 (fun _ => False) := by
  refine startW (cc := cX2_above) (maxL := 3) (ret := (some .int)) (by decide) rfl (Nat.le_of_ble_eq_true rfl) ?_
  intro p e s m args below meth c ls S hr hlocks hB hl
  obtain ⟨hlo, hP, hK, hN⟩ := hB
  have hS : va_S (fun q => lo ≤ q) s.heap s.heap [] := va_S.rf
  unfold m_X2_above at h
  have S : CallFix p m c cX2_above 3 s args wsX2_above RX2 := S
  have hl : lv_has ls 3 [(0, .ref (ad 0)), (1, .int p1), (2, .int p2)] := hl
  have hn0 : ∀ w ∈ wsX00, w ∈ wsX2_above := by decide +kernel
  have hn2 : ∀ w ∈ wsX20, w ∈ wsX2_above := by decide +kernel
  have lk11 := S.2.2.2.2 (.fieldLink RX2 11 "FlatLoader" "modules" "[LFlatLoader$OneModule;") (by decide +kernel)
  have lk163 : va_Nw (.fieldLinkNest RX2 163 "FlatLoader$OneModule" "definedAbove" "[I" "FlatLoader") s := hN _ (by decide +kernel)
  refine lv_iload_n S.1 S.2.1 dX2_above_0 rfl (lv_at hl 1 rfl) ?_
  refine k_R (r := (m_X2_isModule p1)) (va_runS (As := [.int p1]) (rest := []) S c_X2_isModule (va_cwS 1 S.2.2.2.2 gX2_above_X2_isModule rfl rfl rfl (by decide +kernel) ⟨Nat.le_of_ble_eq_true rfl, Nat.le_of_ble_eq_true rfl⟩) ⟨Tr_blind, Tr_at⟩ rfl rfl hl.1 rfl (lv_room (Nat.le_of_ble_eq_true rfl)) dX2_above_1 ⟨Nat.zero_le _, Nat.zero_le _⟩) ?_
  refine lv_if_eq (tgt := 28) S.1 S.2.1 dX2_above_4 (by decide) (fun hc1 => ?_) (fun hc1 => ?_)
  · rw [if_pos hc1] at h
    refine lv_iconst (v := (-1)) S.1 S.2.1 dX2_above_28 (by decide) ?_
    exact e_R S hr hlocks (Option.some.inj h) dX2_above_29
  · rw [if_neg hc1] at h
    refine lv_iload_n S.1 S.2.1 dX2_above_7 rfl (lv_at hl 2 rfl) ?_
    refine k_R (r := (m_X2_isName p2)) (va_runS (As := [.int p2]) (rest := []) S c_X2_isName (va_cwS 1 S.2.2.2.2 gX2_above_X2_isName rfl rfl rfl (by decide +kernel) ⟨Nat.le_of_ble_eq_true rfl, Nat.le_of_ble_eq_true rfl⟩) ⟨Tr_blind, Tr_at⟩ rfl rfl hl.1 rfl (lv_room (Nat.le_of_ble_eq_true rfl)) dX2_above_8 ⟨Nat.zero_le _, Nat.zero_le _⟩) ?_
    refine lv_if_eq (tgt := 28) S.1 S.2.1 dX2_above_11 (by decide) (fun hc2 => ?_) (fun hc2 => ?_)
    · rw [if_pos hc2] at h
      refine lv_iconst (v := (-1)) S.1 S.2.1 dX2_above_28 (by decide) ?_
      exact e_R S hr hlocks (Option.some.inj h) dX2_above_29
    · rw [if_neg hc2] at h
      refine lv_aload_n S.1 S.2.1 dX2_above_14 rfl (lv_at hl 0 rfl) ?_
      refine r_get (C := RX2) (T := TX2) (N := 6) (ci := 2) (k := 0) (j := 0) (fs := fsF) (d := (some (some 1))) (v := .ref (ad 1)) S hK hP hn2 lk11 rfl (by decide) rfl rfl rfl dX2_above_15 ?_
      refine lv_iload_n S.1 S.2.1 dX2_above_18 rfl (lv_at hl 1 rfl) ?_
      obtain ⟨hv3, hv3b, h⟩ := gi_some h
      refine r_ald S hK hP hv3 dX2_above_19 ?_
      refine r_getN (C := RX0) (T := TX0) (N := 8) (ci := 0) (k := (kM (p1).toNatClampNeg)) (j := 1) (fs := (fsM (kM (p1).toNatClampNeg))) (d := (some (some ((kM (p1).toNatClampNeg) + 2)))) (v := .ref (ad ((kM (p1).toNatClampNeg) + 2))) S hK hP hn0 lk163 rfl (by decide) (lyM hv3b) rfl rfl dX2_above_20 ?_
      refine lv_iload_n S.1 S.2.1 dX2_above_23 rfl (lv_at hl 2 rfl) ?_
      obtain ⟨hv4, hv4b, h⟩ := gi_some h
      refine r_ild (k := ((kM (p1).toNatClampNeg) + 2)) (n := 24) S hK hP (lyM2 hv3b) hv4 dX2_above_24 ?_
      refine lv_goto (tgt := 29) S.1 S.2.1 dX2_above_25 (by decide) ?_
      exact e_R S hr hlocks (Option.some.inj h) dX2_above_29

def m_X2_defined_4 (g : Mem) : Nat → Int32 → Int32 → Option Int32
  | 0, _, _ => none
  | n + 1, x1, x2 => (if 8 ≤ x2 then some x1 else gi x2 8 ((m_X0_countClasses g ((x2).toNatClampNeg)).bind fun r3 => m_X2_defined_4 g n ((x1 + r3)) ((x2 + 1))))
def m_X2_defined (g : Mem) : Option Int32 := m_X2_defined_4 g 200 (0) (0)
def rm_X2_defined : Room := { frames := 2, cells := 0, slots := 0, locals := 43 }
set_option maxRecDepth 100000 in
set_option maxHeartbeats 4000000 in
theorem c_X2_defined {l : Launch} {D : va_G} {cA : Nat → ClassId} {ad : Nat → Nat} {lo : Nat} {g : Mem} {r : Int32} (h : m_X2_defined g = some r) : Met l yX2_defined wsX2_defined rm_X2_defined (Pw [.ref (ad 0)] D cA ad lo g) (Qr r) 0 0 (fun _ => False) := by
  refine startW (cc := cX2_defined) (maxL := 3) (ret := (some .int)) (by decide) rfl (Nat.le_of_ble_eq_true rfl) ?_
  intro p e s m args below meth c ls S hr hlocks hB hl
  obtain ⟨hlo, hP, hK, hN⟩ := hB
  have hS : va_S (fun q => lo ≤ q) s.heap s.heap [] := va_S.rf
  unfold m_X2_defined at h
  have S : CallFix p m c cX2_defined 3 s args wsX2_defined RX2 := S
  have hl : lv_has ls 3 [(0, .ref (ad 0))] := hl
  have hn2 : ∀ w ∈ wsX20, w ∈ wsX2_defined := by decide +kernel
  have lk11 := S.2.2.2.2 (.fieldLink RX2 11 "FlatLoader" "modules" "[LFlatLoader$OneModule;") (by decide +kernel)
  have key4 : ∀ (n : Nat), ∀ (x1 x2 : Int32), ∀ (ls : Array Slot), lv_has ls 3 [(0, .ref (ad 0)), (1, .int x1), (2, .int x2)] → m_X2_defined_4 g n x1 x2 = some r → W p l e (rm_X2_defined) s m args below meth c s.heap [] 0 0 (MQ below (Qr r) args s 0 0 (fun _ => False)) (F0 m 4 ls []) := by
    intro n
    induction n with
    | zero =>
      intro x1 x2 ls hl h
      exact nomatch (show none = some r from h)
    | succ n ih =>
      intro x1 x2 ls hl h
      rw [m_X2_defined_4] at h
      refine lv_iload_n S.1 S.2.1 dX2_defined_4 rfl (lv_at hl 2 rfl) ?_
      refine lv_bipush (v := 8) S.1 S.2.1 dX2_defined_5 (by decide) ?_
      refine lv_icmp_ge (tgt := 28) S.1 S.2.1 dX2_defined_7 (by decide) (fun hc1 => ?_) (fun hc1 => ?_)
      · rw [if_pos hc1] at h
        refine lv_iload_n S.1 S.2.1 dX2_defined_28 rfl (lv_at hl 1 rfl) ?_
        exact e_R S hr hlocks (Option.some.inj h) dX2_defined_29
      · rw [if_neg hc1] at h
        refine lv_iload_n S.1 S.2.1 dX2_defined_10 rfl (lv_at hl 1 rfl) ?_
        refine lv_aload_n S.1 S.2.1 dX2_defined_11 rfl (lv_at hl 0 rfl) ?_
        refine r_get (C := RX2) (T := TX2) (N := 6) (ci := 2) (k := 0) (j := 0) (fs := fsF) (d := (some (some 1))) (v := .ref (ad 1)) S hK hP hn2 lk11 rfl (by decide) rfl rfl rfl dX2_defined_12 ?_
        refine lv_iload_n S.1 S.2.1 dX2_defined_15 rfl (lv_at hl 2 rfl) ?_
        obtain ⟨hv2, hv2b, h⟩ := gi_some h
        refine r_ald S hK hP hv2 dX2_defined_16 ?_
        obtain ⟨r3, h_4, h⟩ := bd_some h
        refine k_R (r := r3) (va_runVN (C := RX0) (As := []) (rest := [.int x1]) S (c_X0_countClasses hv2b h_4) ⟨va_cnB 0 S.2.2.2.2 gX2_defined_X0_countClasses_n132 rfl rfl rfl (hN (.methodLinkNest RX2 132 yX0_countClasses "FlatLoader") (by decide +kernel)) (S.2.2.2.2 (.initialized RX0) (by decide +kernel)) (by decide +kernel) ⟨Nat.le_of_ble_eq_true rfl, Nat.le_of_ble_eq_true rfl⟩, S.2.2.2.2 (.instanceMethod yX0_countClasses) (by decide +kernel), S.2.2.2.2 (.selects RX0 yX0_countClasses yX0_countClasses) (by decide +kernel)⟩ ⟨Pw_blind, va_recv hK hP (ci := 0) (q0 := (kM (x2).toNatClampNeg)) rfl (wld_at (d := dM (kM (x2).toNatClampNeg)) (lyM hv2b)), Pw_at hlo hS hP hK hN⟩ rfl rfl hl.1 rfl (lv_room (Nat.le_of_ble_eq_true rfl)) dX2_defined_17 ⟨Nat.zero_le _, Nat.zero_le _⟩) ?_
        refine lv_iadd S.1 S.2.1 dX2_defined_20 ?_
        refine lv_istore_n (lv' := [(1, .int (x1 + r3)), (0, .ref (ad 0)), (2, .int x2)]) S.1 S.2.1 dX2_defined_21 rfl hl (by decide) rfl (fun ls hl => ?_)
        refine lv_iinc (v := (x2 + 1)) (lv' := [(2, .int (x2 + 1)), (1, .int (x1 + r3)), (0, .ref (ad 0))]) S.1 S.2.1 dX2_defined_22 hl (k := 2) rfl rfl (by decide) rfl (fun ls hl => ?_)
        refine lv_goto (tgt := 4) S.1 S.2.1 dX2_defined_25 (by decide) ?_
        exact ih ((x1 + r3)) ((x2 + 1)) ls (lv_sub hl [2, 1, 0] rfl) h
  refine lv_iconst (v := 0) S.1 S.2.1 dX2_defined_0 (by decide) ?_
  refine lv_istore_n (lv' := [(1, .int 0), (0, .ref (ad 0))]) S.1 S.2.1 dX2_defined_1 rfl hl (by decide) rfl (fun ls hl => ?_)
  refine lv_iconst (v := 0) S.1 S.2.1 dX2_defined_2 (by decide) ?_
  refine lv_istore_n (lv' := [(2, .int 0), (1, .int 0), (0, .ref (ad 0))]) S.1 S.2.1 dX2_defined_3 rfl hl (by decide) rfl (fun ls hl => ?_)
  exact key4 200 (0) (0) ls (lv_sub hl [2, 1, 0] rfl) h
