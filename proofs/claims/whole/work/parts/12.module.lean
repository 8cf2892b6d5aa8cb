def m_X0_holds (g : Mem) (i : Nat) (p1 : Int32) : Option Int32 := gi p1 24 ((if (g ((kM i) + 1) (p1).toNatClampNeg) = (-3) then some 0 else some 1))
def rm_X0_holds : Room := { frames := 0, cells := 0, slots := 0, locals := 0 }
set_option maxRecDepth 100000 in
set_option maxHeartbeats 4000000 in
theorem c_X0_holds {l : Launch} {D : va_G} {cA : Nat → ClassId} {ad : Nat → Nat} {lo : Nat} {i : Nat} (hi : i < 8) {g : Mem} {p1 : Int32} {r : Int32} (h : m_X0_holds g i p1 = some r) : Met l yX0_holds wsX0_holds rm_X0_holds (Pw [.ref (ad (kM i)), .int p1] D cA ad lo g) (Qr r) 0 0 (fun _ => False) := by
  refine startW (cc := cX0_holds) (maxL := 2) (ret := (some .boolean)) (by decide) rfl (Nat.le_of_ble_eq_true rfl) ?_
  intro p e s m args below meth c ls S hr hlocks hB hl
  obtain ⟨hlo, hP, hK, hN⟩ := hB
  have hS : va_S (fun q => lo ≤ q) s.heap s.heap [] := va_S.rf
  unfold m_X0_holds at h
  have S : CallFix p m c cX0_holds 2 s args wsX0_holds RX0 := S
  have hl : lv_has ls 2 [(0, .ref (ad (kM i))), (1, .int p1)] := hl
  have hn0 : ∀ w ∈ wsX00, w ∈ wsX0_holds := by decide +kernel
  have lk9 := S.2.2.2.2 (.fieldLink RX0 9 "FlatLoader$OneModule" "extended" "[I") (by decide +kernel)
  refine lv_aload_n S.1 S.2.1 dX0_holds_0 rfl (lv_at hl 0 rfl) ?_
  refine r_get (C := RX0) (T := TX0) (N := 8) (ci := 0) (k := (kM i)) (j := 0) (fs := (fsM (kM i))) (d := (some (some ((kM i) + 1)))) (v := .ref (ad ((kM i) + 1))) S hK hP hn0 lk9 rfl (by decide) (lyM hi) rfl rfl dX0_holds_1 ?_
  refine lv_iload_n S.1 S.2.1 dX0_holds_4 rfl (lv_at hl 1 rfl) ?_
  obtain ⟨hv1, hv1b, h⟩ := gi_some h
  refine r_ild (k := ((kM i) + 1)) (n := 24) S hK hP (lyM1 hi) hv1 dX0_holds_5 ?_
  refine lv_bipush (v := (-3)) S.1 S.2.1 dX0_holds_6 (by decide) ?_
  refine lv_icmp_eq (tgt := 15) S.1 S.2.1 dX0_holds_8 (by decide) (fun hc2 => ?_) (fun hc2 => ?_)
  · rw [if_pos hc2] at h
    refine lv_iconst (v := 0) S.1 S.2.1 dX0_holds_15 (by decide) ?_
    exact e_Rz S hr hlocks rfl (Option.some.inj h) dX0_holds_16
  · rw [if_neg hc2] at h
    refine lv_iconst (v := 1) S.1 S.2.1 dX0_holds_11 (by decide) ?_
    refine lv_goto (tgt := 16) S.1 S.2.1 dX0_holds_12 (by decide) ?_
    exact e_Rz S hr hlocks rfl (Option.some.inj h) dX0_holds_16

def m_X0_hasPath_2 (g : Mem) (i : Nat) (p1 : Int32) : Nat → Int32 → Option Int32
  | 0, _ => none
  | n + 1, x2 => (if 4 ≤ x2 then some 0 else (m_X0_holds g i ((p1 * 4) + x2)).bind fun r2 => (if r2 = 0 then m_X0_hasPath_2 g i p1 n ((x2 + 1)) else some 1))
def m_X0_hasPath (g : Mem) (i : Nat) (p1 : Int32) : Option Int32 := m_X0_hasPath_2 g i p1 200 (0)
def rm_X0_hasPath : Room := { frames := 1, cells := 0, slots := 0, locals := 21 }
set_option maxRecDepth 100000 in
set_option maxHeartbeats 4000000 in
theorem c_X0_hasPath {l : Launch} {D : va_G} {cA : Nat → ClassId} {ad : Nat → Nat} {lo : Nat} {i : Nat} (hi : i < 8) {g : Mem} {p1 : Int32} {r : Int32} (h : m_X0_hasPath g i p1 = some r) : Met l yX0_hasPath wsX0_hasPath rm_X0_hasPath (Pw [.ref (ad (kM i)), .int p1] D cA ad lo g) (Qr r) 0 0 (fun _ => False) := by
  refine startW (cc := cX0_hasPath) (maxL := 3) (ret := (some .boolean)) (by decide) rfl (Nat.le_of_ble_eq_true rfl) ?_
  intro p e s m args below meth c ls S hr hlocks hB hl
  obtain ⟨hlo, hP, hK, hN⟩ := hB
  have hS : va_S (fun q => lo ≤ q) s.heap s.heap [] := va_S.rf
  unfold m_X0_hasPath at h
  have S : CallFix p m c cX0_hasPath 3 s args wsX0_hasPath RX0 := S
  have hl : lv_has ls 3 [(0, .ref (ad (kM i))), (1, .int p1)] := hl
  have key2 : ∀ (n : Nat), ∀ (x2 : Int32), ∀ (ls : Array Slot), lv_has ls 3 [(0, .ref (ad (kM i))), (1, .int p1), (2, .int x2)] → m_X0_hasPath_2 g i p1 n x2 = some r → W p l e (rm_X0_hasPath) s m args below meth c s.heap [] 0 0 (MQ below (Qr r) args s 0 0 (fun _ => False)) (F0 m 2 ls []) := by
    intro n
    induction n with
    | zero =>
      intro x2 ls hl h
      exact nomatch (show none = some r from h)
    | succ n ih =>
      intro x2 ls hl h
      rw [m_X0_hasPath_2] at h
      refine lv_iload_n S.1 S.2.1 dX0_hasPath_2 rfl (lv_at hl 2 rfl) ?_
      refine lv_iconst (v := 4) S.1 S.2.1 dX0_hasPath_3 (by decide) ?_
      refine lv_icmp_ge (tgt := 27) S.1 S.2.1 dX0_hasPath_4 (by decide) (fun hc1 => ?_) (fun hc1 => ?_)
      · rw [if_pos hc1] at h
        refine lv_iconst (v := 0) S.1 S.2.1 dX0_hasPath_27 (by decide) ?_
        exact e_Rz S hr hlocks rfl (Option.some.inj h) dX0_hasPath_28
      · rw [if_neg hc1] at h
        refine lv_aload_n S.1 S.2.1 dX0_hasPath_7 rfl (lv_at hl 0 rfl) ?_
        refine lv_iload_n S.1 S.2.1 dX0_hasPath_8 rfl (lv_at hl 1 rfl) ?_
        refine lv_iconst (v := 4) S.1 S.2.1 dX0_hasPath_9 (by decide) ?_
        refine lv_imul S.1 S.2.1 dX0_hasPath_10 ?_
        refine lv_iload_n S.1 S.2.1 dX0_hasPath_11 rfl (lv_at hl 2 rfl) ?_
        refine lv_iadd S.1 S.2.1 dX0_hasPath_12 ?_
        obtain ⟨r2, h_3, h⟩ := bd_some h
        refine k_R (r := r2) (va_runV (As := [.int ((p1 * 4) + x2)]) (rest := []) S (c_X0_holds hi h_3) (cwV 1 S.2.2.2.2 gX0_hasPath_X0_holds rfl rfl rfl (by decide +kernel) ⟨Nat.le_of_ble_eq_true rfl, Nat.le_of_ble_eq_true rfl⟩) ⟨Pw_blind, va_recv hK hP (ci := 0) (q0 := (kM i)) rfl (wld_at (d := dM (kM i)) (lyM hi)), Pw_at hlo hS hP hK hN⟩ rfl rfl hl.1 rfl (lv_room (Nat.le_of_ble_eq_true rfl)) dX0_hasPath_13 ⟨Nat.zero_le _, Nat.zero_le _⟩) ?_
        refine lv_if_eq (tgt := 21) S.1 S.2.1 dX0_hasPath_16 (by decide) (fun hc4 => ?_) (fun hc4 => ?_)
        · rw [if_pos hc4] at h
          refine lv_iinc (v := (x2 + 1)) (lv' := [(2, .int (x2 + 1)), (0, .ref (ad (kM i))), (1, .int p1)]) S.1 S.2.1 dX0_hasPath_21 hl (k := 2) rfl rfl (by decide) rfl (fun ls hl => ?_)
          refine lv_goto (tgt := 2) S.1 S.2.1 dX0_hasPath_24 (by decide) ?_
          exact ih ((x2 + 1)) ls (lv_sub hl [1, 2, 0] rfl) h
        · rw [if_neg hc4] at h
          refine lv_iconst (v := 1) S.1 S.2.1 dX0_hasPath_19 (by decide) ?_
          exact e_Rz S hr hlocks rfl (Option.some.inj h) dX0_hasPath_20
  refine lv_iconst (v := 0) S.1 S.2.1 dX0_hasPath_0 (by decide) ?_
  refine lv_istore_n (lv' := [(2, .int 0), (0, .ref (ad (kM i))), (1, .int p1)]) S.1 S.2.1 dX0_hasPath_1 rfl hl (by decide) rfl (fun ls hl => ?_)
  exact key2 200 (0) ls (lv_sub hl [1, 2, 0] rfl) h

def m_X0_addDependency (g : Mem) (i : Nat) (p1 p2 p3 p4 : Int32) : Option Mem := gi (g (kM i) 5) 6 (gi ((mup g ((kM i) + 3) ((g (kM i) 5)).toNatClampNeg p1) (kM i) 5) 6 (gi ((mup (mup g ((kM i) + 3) ((g (kM i) 5)).toNatClampNeg p1) ((kM i) + 4) (((mup g ((kM i) + 3) ((g (kM i) 5)).toNatClampNeg p1) (kM i) 5)).toNatClampNeg p2) (kM i) 5) 6 ((if p1 = (-1) then some (mup (mup (mup (mup g ((kM i) + 3) ((g (kM i) 5)).toNatClampNeg p1) ((kM i) + 4) (((mup g ((kM i) + 3) ((g (kM i) 5)).toNatClampNeg p1) (kM i) 5)).toNatClampNeg p2) ((kM i) + 5) (((mup (mup g ((kM i) + 3) ((g (kM i) 5)).toNatClampNeg p1) ((kM i) + 4) (((mup g ((kM i) + 3) ((g (kM i) 5)).toNatClampNeg p1) (kM i) 5)).toNatClampNeg p2) (kM i) 5)).toNatClampNeg p3) (kM i) 5 (((mup (mup (mup g ((kM i) + 3) ((g (kM i) 5)).toNatClampNeg p1) ((kM i) + 4) (((mup g ((kM i) + 3) ((g (kM i) 5)).toNatClampNeg p1) (kM i) 5)).toNatClampNeg p2) ((kM i) + 5) (((mup (mup g ((kM i) + 3) ((g (kM i) 5)).toNatClampNeg p1) ((kM i) + 4) (((mup g ((kM i) + 3) ((g (kM i) 5)).toNatClampNeg p1) (kM i) 5)).toNatClampNeg p2) (kM i) 5)).toNatClampNeg p3) (kM i) 5) + 1)) else (if p4 = 0 then some (mup (mup (mup (mup (mup (mup g ((kM i) + 3) ((g (kM i) 5)).toNatClampNeg p1) ((kM i) + 4) (((mup g ((kM i) + 3) ((g (kM i) 5)).toNatClampNeg p1) (kM i) 5)).toNatClampNeg p2) ((kM i) + 5) (((mup (mup g ((kM i) + 3) ((g (kM i) 5)).toNatClampNeg p1) ((kM i) + 4) (((mup g ((kM i) + 3) ((g (kM i) 5)).toNatClampNeg p1) (kM i) 5)).toNatClampNeg p2) (kM i) 5)).toNatClampNeg p3) (kM i) 5 (((mup (mup (mup g ((kM i) + 3) ((g (kM i) 5)).toNatClampNeg p1) ((kM i) + 4) (((mup g ((kM i) + 3) ((g (kM i) 5)).toNatClampNeg p1) (kM i) 5)).toNatClampNeg p2) ((kM i) + 5) (((mup (mup g ((kM i) + 3) ((g (kM i) 5)).toNatClampNeg p1) ((kM i) + 4) (((mup g ((kM i) + 3) ((g (kM i) 5)).toNatClampNeg p1) (kM i) 5)).toNatClampNeg p2) (kM i) 5)).toNatClampNeg p3) (kM i) 5) + 1)) (kM i) 6 (((mup (mup (mup (mup g ((kM i) + 3) ((g (kM i) 5)).toNatClampNeg p1) ((kM i) + 4) (((mup g ((kM i) + 3) ((g (kM i) 5)).toNatClampNeg p1) (kM i) 5)).toNatClampNeg p2) ((kM i) + 5) (((mup (mup g ((kM i) + 3) ((g (kM i) 5)).toNatClampNeg p1) ((kM i) + 4) (((mup g ((kM i) + 3) ((g (kM i) 5)).toNatClampNeg p1) (kM i) 5)).toNatClampNeg p2) (kM i) 5)).toNatClampNeg p3) (kM i) 5 (((mup (mup (mup g ((kM i) + 3) ((g (kM i) 5)).toNatClampNeg p1) ((kM i) + 4) (((mup g ((kM i) + 3) ((g (kM i) 5)).toNatClampNeg p1) (kM i) 5)).toNatClampNeg p2) ((kM i) + 5) (((mup (mup g ((kM i) + 3) ((g (kM i) 5)).toNatClampNeg p1) ((kM i) + 4) (((mup g ((kM i) + 3) ((g (kM i) 5)).toNatClampNeg p1) (kM i) 5)).toNatClampNeg p2) (kM i) 5)).toNatClampNeg p3) (kM i) 5) + 1)) (kM i) 6) ||| (m_X2_bit p1))) (kM i) 7 (((mup (mup (mup (mup (mup g ((kM i) + 3) ((g (kM i) 5)).toNatClampNeg p1) ((kM i) + 4) (((mup g ((kM i) + 3) ((g (kM i) 5)).toNatClampNeg p1) (kM i) 5)).toNatClampNeg p2) ((kM i) + 5) (((mup (mup g ((kM i) + 3) ((g (kM i) 5)).toNatClampNeg p1) ((kM i) + 4) (((mup g ((kM i) + 3) ((g (kM i) 5)).toNatClampNeg p1) (kM i) 5)).toNatClampNeg p2) (kM i) 5)).toNatClampNeg p3) (kM i) 5 (((mup (mup (mup g ((kM i) + 3) ((g (kM i) 5)).toNatClampNeg p1) ((kM i) + 4) (((mup g ((kM i) + 3) ((g (kM i) 5)).toNatClampNeg p1) (kM i) 5)).toNatClampNeg p2) ((kM i) + 5) (((mup (mup g ((kM i) + 3) ((g (kM i) 5)).toNatClampNeg p1) ((kM i) + 4) (((mup g ((kM i) + 3) ((g (kM i) 5)).toNatClampNeg p1) (kM i) 5)).toNatClampNeg p2) (kM i) 5)).toNatClampNeg p3) (kM i) 5) + 1)) (kM i) 6 (((mup (mup (mup (mup g ((kM i) + 3) ((g (kM i) 5)).toNatClampNeg p1) ((kM i) + 4) (((mup g ((kM i) + 3) ((g (kM i) 5)).toNatClampNeg p1) (kM i) 5)).toNatClampNeg p2) ((kM i) + 5) (((mup (mup g ((kM i) + 3) ((g (kM i) 5)).toNatClampNeg p1) ((kM i) + 4) (((mup g ((kM i) + 3) ((g (kM i) 5)).toNatClampNeg p1) (kM i) 5)).toNatClampNeg p2) (kM i) 5)).toNatClampNeg p3) (kM i) 5 (((mup (mup (mup g ((kM i) + 3) ((g (kM i) 5)).toNatClampNeg p1) ((kM i) + 4) (((mup g ((kM i) + 3) ((g (kM i) 5)).toNatClampNeg p1) (kM i) 5)).toNatClampNeg p2) ((kM i) + 5) (((mup (mup g ((kM i) + 3) ((g (kM i) 5)).toNatClampNeg p1) ((kM i) + 4) (((mup g ((kM i) + 3) ((g (kM i) 5)).toNatClampNeg p1) (kM i) 5)).toNatClampNeg p2) (kM i) 5)).toNatClampNeg p3) (kM i) 5) + 1)) (kM i) 6) ||| (m_X2_bit p1))) (kM i) 7) ||| 0)) else some (mup (mup (mup (mup (mup (mup g ((kM i) + 3) ((g (kM i) 5)).toNatClampNeg p1) ((kM i) + 4) (((mup g ((kM i) + 3) ((g (kM i) 5)).toNatClampNeg p1) (kM i) 5)).toNatClampNeg p2) ((kM i) + 5) (((mup (mup g ((kM i) + 3) ((g (kM i) 5)).toNatClampNeg p1) ((kM i) + 4) (((mup g ((kM i) + 3) ((g (kM i) 5)).toNatClampNeg p1) (kM i) 5)).toNatClampNeg p2) (kM i) 5)).toNatClampNeg p3) (kM i) 5 (((mup (mup (mup g ((kM i) + 3) ((g (kM i) 5)).toNatClampNeg p1) ((kM i) + 4) (((mup g ((kM i) + 3) ((g (kM i) 5)).toNatClampNeg p1) (kM i) 5)).toNatClampNeg p2) ((kM i) + 5) (((mup (mup g ((kM i) + 3) ((g (kM i) 5)).toNatClampNeg p1) ((kM i) + 4) (((mup g ((kM i) + 3) ((g (kM i) 5)).toNatClampNeg p1) (kM i) 5)).toNatClampNeg p2) (kM i) 5)).toNatClampNeg p3) (kM i) 5) + 1)) (kM i) 6 (((mup (mup (mup (mup g ((kM i) + 3) ((g (kM i) 5)).toNatClampNeg p1) ((kM i) + 4) (((mup g ((kM i) + 3) ((g (kM i) 5)).toNatClampNeg p1) (kM i) 5)).toNatClampNeg p2) ((kM i) + 5) (((mup (mup g ((kM i) + 3) ((g (kM i) 5)).toNatClampNeg p1) ((kM i) + 4) (((mup g ((kM i) + 3) ((g (kM i) 5)).toNatClampNeg p1) (kM i) 5)).toNatClampNeg p2) (kM i) 5)).toNatClampNeg p3) (kM i) 5 (((mup (mup (mup g ((kM i) + 3) ((g (kM i) 5)).toNatClampNeg p1) ((kM i) + 4) (((mup g ((kM i) + 3) ((g (kM i) 5)).toNatClampNeg p1) (kM i) 5)).toNatClampNeg p2) ((kM i) + 5) (((mup (mup g ((kM i) + 3) ((g (kM i) 5)).toNatClampNeg p1) ((kM i) + 4) (((mup g ((kM i) + 3) ((g (kM i) 5)).toNatClampNeg p1) (kM i) 5)).toNatClampNeg p2) (kM i) 5)).toNatClampNeg p3) (kM i) 5) + 1)) (kM i) 6) ||| (m_X2_bit p1))) (kM i) 7 (((mup (mup (mup (mup (mup g ((kM i) + 3) ((g (kM i) 5)).toNatClampNeg p1) ((kM i) + 4) (((mup g ((kM i) + 3) ((g (kM i) 5)).toNatClampNeg p1) (kM i) 5)).toNatClampNeg p2) ((kM i) + 5) (((mup (mup g ((kM i) + 3) ((g (kM i) 5)).toNatClampNeg p1) ((kM i) + 4) (((mup g ((kM i) + 3) ((g (kM i) 5)).toNatClampNeg p1) (kM i) 5)).toNatClampNeg p2) (kM i) 5)).toNatClampNeg p3) (kM i) 5 (((mup (mup (mup g ((kM i) + 3) ((g (kM i) 5)).toNatClampNeg p1) ((kM i) + 4) (((mup g ((kM i) + 3) ((g (kM i) 5)).toNatClampNeg p1) (kM i) 5)).toNatClampNeg p2) ((kM i) + 5) (((mup (mup g ((kM i) + 3) ((g (kM i) 5)).toNatClampNeg p1) ((kM i) + 4) (((mup g ((kM i) + 3) ((g (kM i) 5)).toNatClampNeg p1) (kM i) 5)).toNatClampNeg p2) (kM i) 5)).toNatClampNeg p3) (kM i) 5) + 1)) (kM i) 6 (((mup (mup (mup (mup g ((kM i) + 3) ((g (kM i) 5)).toNatClampNeg p1) ((kM i) + 4) (((mup g ((kM i) + 3) ((g (kM i) 5)).toNatClampNeg p1) (kM i) 5)).toNatClampNeg p2) ((kM i) + 5) (((mup (mup g ((kM i) + 3) ((g (kM i) 5)).toNatClampNeg p1) ((kM i) + 4) (((mup g ((kM i) + 3) ((g (kM i) 5)).toNatClampNeg p1) (kM i) 5)).toNatClampNeg p2) (kM i) 5)).toNatClampNeg p3) (kM i) 5 (((mup (mup (mup g ((kM i) + 3) ((g (kM i) 5)).toNatClampNeg p1) ((kM i) + 4) (((mup g ((kM i) + 3) ((g (kM i) 5)).toNatClampNeg p1) (kM i) 5)).toNatClampNeg p2) ((kM i) + 5) (((mup (mup g ((kM i) + 3) ((g (kM i) 5)).toNatClampNeg p1) ((kM i) + 4) (((mup g ((kM i) + 3) ((g (kM i) 5)).toNatClampNeg p1) (kM i) 5)).toNatClampNeg p2) (kM i) 5)).toNatClampNeg p3) (kM i) 5) + 1)) (kM i) 6) ||| (m_X2_bit p1))) (kM i) 7) ||| (m_X2_bit p1))))))))
def rm_X0_addDependency : Room := { frames := 1, cells := 0, slots := 0, locals := 20 }
set_option maxRecDepth 100000 in
set_option maxHeartbeats 4000000 in
theorem c_X0_addDependency {l : Launch} {D : va_G} {cA : Nat → ClassId} {ad : Nat → Nat} {lo : Nat} (hA : AdOk lo ad lay0.length) {i : Nat} (hi : i < 8) {g : Mem} {p1 p2 p3 p4 : Int32} {g1 : Mem} (h : m_X0_addDependency g i p1 p2 p3 p4 = some g1) : Met l yX0_addDependency wsX0_addDependency rm_X0_addDependency (Pw [.ref (ad (kM i)), .int p1, .int p2, .int p3, .int p4] D cA ad lo g) (Qw D cA ad lo g1 none) 0 0 (fun q => lo ≤ q) := by
  refine startW (cc := cX0_addDependency) (maxL := 5) (ret := none) (by decide) rfl (Nat.le_of_ble_eq_true rfl) ?_
  intro p e s m args below meth c ls S hr hlocks hB hl
  obtain ⟨hlo, hP, hK, hN⟩ := hB
  have hS : va_S (fun q => lo ≤ q) s.heap s.heap [] := va_S.rf
  unfold m_X0_addDependency at h
  have S : CallFix p m c cX0_addDependency 5 s args wsX0_addDependency RX0 := S
  have hl : lv_has ls 5 [(0, .ref (ad (kM i))), (1, .int p1), (2, .int p2), (3, .int p3), (4, .int p4)] := hl
  have hn0 : ∀ w ∈ wsX00, w ∈ wsX0_addDependency := by decide +kernel
  have lk18 := S.2.2.2.2 (.fieldLink RX0 18 "FlatLoader$OneModule" "on" "[I") (by decide +kernel)
  have lk21 := S.2.2.2.2 (.fieldLink RX0 21 "FlatLoader$OneModule" "imports" "[I") (by decide +kernel)
  have lk24 := S.2.2.2.2 (.fieldLink RX0 24 "FlatLoader$OneModule" "exports" "[I") (by decide +kernel)
  have lk27 := S.2.2.2.2 (.fieldLink RX0 27 "FlatLoader$OneModule" "dependencies" "I") (by decide +kernel)
  have lk31 := S.2.2.2.2 (.fieldLink RX0 31 "FlatLoader$OneModule" "dependedSet" "I") (by decide +kernel)
  have lk34 := S.2.2.2.2 (.fieldLink RX0 34 "FlatLoader$OneModule" "requiredSet" "I") (by decide +kernel)
  obtain ⟨H, hH⟩ : ∃ H, H = s.heap := ⟨_, rfl⟩
  obtain ⟨locs, hlocs⟩ : ∃ z : List Loc, z = [] := ⟨_, rfl⟩
  rw [← hH] at hP
  have hS : va_S (fun q => lo ≤ q) s.heap H locs := by rw [hH, hlocs]; exact hS
  have goal0 : W p l e (rm_X0_addDependency) s m args below meth c H locs 0 0 (MQ below (Qw D cA ad lo g1 none) args s 0 0 (fun q => lo ≤ q)) (F0 m 0 ls []) := by
    refine lv_aload_n S.1 S.2.1 dX0_addDependency_0 rfl (lv_at hl 0 rfl) ?_
    refine r_get (C := RX0) (T := TX0) (N := 8) (ci := 0) (k := (kM i)) (j := 2) (fs := (fsM (kM i))) (d := (some (some ((kM i) + 3)))) (v := .ref (ad ((kM i) + 3))) S hK hP hn0 lk18 rfl (by decide) (lyM hi) rfl rfl dX0_addDependency_1 ?_
    refine lv_aload_n S.1 S.2.1 dX0_addDependency_4 rfl (lv_at hl 0 rfl) ?_
    refine r_get (C := RX0) (T := TX0) (N := 8) (ci := 0) (k := (kM i)) (j := 5) (fs := (fsM (kM i))) (d := none) (v := .int (g (kM i) 5)) S hK hP hn0 lk27 rfl (by decide) (lyM hi) rfl rfl dX0_addDependency_5 ?_
    refine lv_iload_n S.1 S.2.1 dX0_addDependency_8 rfl (lv_at hl 1 rfl) ?_
    obtain ⟨hv1, hv1b, h⟩ := gi_some h
    refine r_ist (k := ((kM i) + 3)) (n := 6) S hA hK hP hS (lyM3 hi) hv1 dX0_addDependency_9 (fun H locs hP hS => ?_)
    refine lv_aload_n S.1 S.2.1 dX0_addDependency_10 rfl (lv_at hl 0 rfl) ?_
    refine r_get (C := RX0) (T := TX0) (N := 8) (ci := 0) (k := (kM i)) (j := 3) (fs := (fsM (kM i))) (d := (some (some ((kM i) + 4)))) (v := .ref (ad ((kM i) + 4))) S hK hP hn0 lk21 rfl (by decide) (lyM hi) rfl rfl dX0_addDependency_11 ?_
    refine lv_aload_n S.1 S.2.1 dX0_addDependency_14 rfl (lv_at hl 0 rfl) ?_
    refine r_get (C := RX0) (T := TX0) (N := 8) (ci := 0) (k := (kM i)) (j := 5) (fs := (fsM (kM i))) (d := none) (v := .int ((mup g ((kM i) + 3) ((g (kM i) 5)).toNatClampNeg p1) (kM i) 5)) S hK hP hn0 lk27 rfl (by decide) (lyM hi) rfl rfl dX0_addDependency_15 ?_
    refine lv_iload_n S.1 S.2.1 dX0_addDependency_18 rfl (lv_at hl 2 rfl) ?_
    obtain ⟨hv2, hv2b, h⟩ := gi_some h
    refine r_ist (k := ((kM i) + 4)) (n := 6) S hA hK hP hS (lyM4 hi) hv2 dX0_addDependency_19 (fun H locs hP hS => ?_)
    refine lv_aload_n S.1 S.2.1 dX0_addDependency_20 rfl (lv_at hl 0 rfl) ?_
    refine r_get (C := RX0) (T := TX0) (N := 8) (ci := 0) (k := (kM i)) (j := 4) (fs := (fsM (kM i))) (d := (some (some ((kM i) + 5)))) (v := .ref (ad ((kM i) + 5))) S hK hP hn0 lk24 rfl (by decide) (lyM hi) rfl rfl dX0_addDependency_21 ?_
    refine lv_aload_n S.1 S.2.1 dX0_addDependency_24 rfl (lv_at hl 0 rfl) ?_
    refine r_get (C := RX0) (T := TX0) (N := 8) (ci := 0) (k := (kM i)) (j := 5) (fs := (fsM (kM i))) (d := none) (v := .int ((mup (mup g ((kM i) + 3) ((g (kM i) 5)).toNatClampNeg p1) ((kM i) + 4) (((mup g ((kM i) + 3) ((g (kM i) 5)).toNatClampNeg p1) (kM i) 5)).toNatClampNeg p2) (kM i) 5)) S hK hP hn0 lk27 rfl (by decide) (lyM hi) rfl rfl dX0_addDependency_25 ?_
    refine lv_iload_n S.1 S.2.1 dX0_addDependency_28 rfl (lv_at hl 3 rfl) ?_
    obtain ⟨hv3, hv3b, h⟩ := gi_some h
    refine r_ist (k := ((kM i) + 5)) (n := 6) S hA hK hP hS (lyM5 hi) hv3 dX0_addDependency_29 (fun H locs hP hS => ?_)
    refine lv_aload_n S.1 S.2.1 dX0_addDependency_30 rfl (lv_at hl 0 rfl) ?_
    refine lv_dup S.1 S.2.1 dX0_addDependency_31 rfl ?_
    refine r_get (C := RX0) (T := TX0) (N := 8) (ci := 0) (k := (kM i)) (j := 5) (fs := (fsM (kM i))) (d := none) (v := .int ((mup (mup (mup g ((kM i) + 3) ((g (kM i) 5)).toNatClampNeg p1) ((kM i) + 4) (((mup g ((kM i) + 3) ((g (kM i) 5)).toNatClampNeg p1) (kM i) 5)).toNatClampNeg p2) ((kM i) + 5) (((mup (mup g ((kM i) + 3) ((g (kM i) 5)).toNatClampNeg p1) ((kM i) + 4) (((mup g ((kM i) + 3) ((g (kM i) 5)).toNatClampNeg p1) (kM i) 5)).toNatClampNeg p2) (kM i) 5)).toNatClampNeg p3) (kM i) 5)) S hK hP hn0 lk27 rfl (by decide) (lyM hi) rfl rfl dX0_addDependency_32 ?_
    refine lv_iconst (v := 1) S.1 S.2.1 dX0_addDependency_35 (by decide) ?_
    refine lv_iadd S.1 S.2.1 dX0_addDependency_36 ?_
    refine r_put (C := RX0) (T := TX0) (N := 8) (ci := 0) (k := (kM i)) (j := 5) (fs := (fsM (kM i))) (v := (((mup (mup (mup g ((kM i) + 3) ((g (kM i) 5)).toNatClampNeg p1) ((kM i) + 4) (((mup g ((kM i) + 3) ((g (kM i) 5)).toNatClampNeg p1) (kM i) 5)).toNatClampNeg p2) ((kM i) + 5) (((mup (mup g ((kM i) + 3) ((g (kM i) 5)).toNatClampNeg p1) ((kM i) + 4) (((mup g ((kM i) + 3) ((g (kM i) 5)).toNatClampNeg p1) (kM i) 5)).toNatClampNeg p2) (kM i) 5)).toNatClampNeg p3) (kM i) 5) + 1)) tyX0 tyX0_ok nmX0 S hA hK hP hS hn0 lk27 rfl (by decide) rfl (by decide +kernel) (lyM hi) rfl dX0_addDependency_37 (fun H locs hP hS => ?_)
    refine lv_iload_n S.1 S.2.1 dX0_addDependency_40 rfl (lv_at hl 1 rfl) ?_
    refine lv_iconst (v := (-1)) S.1 S.2.1 dX0_addDependency_41 (by decide) ?_
    refine lv_icmp_eq (tgt := 80) S.1 S.2.1 dX0_addDependency_42 (by decide) (fun hc4 => ?_) (fun hc4 => ?_)
    · rw [if_pos hc4] at h
      exact e_Wv S hr hlocks hP hS (Option.some.inj h) dX0_addDependency_80
    · rw [if_neg hc4] at h
      refine lv_aload_n S.1 S.2.1 dX0_addDependency_45 rfl (lv_at hl 0 rfl) ?_
      refine lv_dup S.1 S.2.1 dX0_addDependency_46 rfl ?_
      refine r_get (C := RX0) (T := TX0) (N := 8) (ci := 0) (k := (kM i)) (j := 6) (fs := (fsM (kM i))) (d := none) (v := .int ((mup (mup (mup (mup g ((kM i) + 3) ((g (kM i) 5)).toNatClampNeg p1) ((kM i) + 4) (((mup g ((kM i) + 3) ((g (kM i) 5)).toNatClampNeg p1) (kM i) 5)).toNatClampNeg p2) ((kM i) + 5) (((mup (mup g ((kM i) + 3) ((g (kM i) 5)).toNatClampNeg p1) ((kM i) + 4) (((mup g ((kM i) + 3) ((g (kM i) 5)).toNatClampNeg p1) (kM i) 5)).toNatClampNeg p2) (kM i) 5)).toNatClampNeg p3) (kM i) 5 (((mup (mup (mup g ((kM i) + 3) ((g (kM i) 5)).toNatClampNeg p1) ((kM i) + 4) (((mup g ((kM i) + 3) ((g (kM i) 5)).toNatClampNeg p1) (kM i) 5)).toNatClampNeg p2) ((kM i) + 5) (((mup (mup g ((kM i) + 3) ((g (kM i) 5)).toNatClampNeg p1) ((kM i) + 4) (((mup g ((kM i) + 3) ((g (kM i) 5)).toNatClampNeg p1) (kM i) 5)).toNatClampNeg p2) (kM i) 5)).toNatClampNeg p3) (kM i) 5) + 1)) (kM i) 6)) S hK hP hn0 lk31 rfl (by decide) (lyM hi) rfl rfl dX0_addDependency_47 ?_
      refine lv_iload_n S.1 S.2.1 dX0_addDependency_50 rfl (lv_at hl 1 rfl) ?_
      refine k_R (r := (m_X2_bit p1)) (va_runSN (As := [.int p1]) (rest := [.int ((mup (mup (mup (mup g ((kM i) + 3) ((g (kM i) 5)).toNatClampNeg p1) ((kM i) + 4) (((mup g ((kM i) + 3) ((g (kM i) 5)).toNatClampNeg p1) (kM i) 5)).toNatClampNeg p2) ((kM i) + 5) (((mup (mup g ((kM i) + 3) ((g (kM i) 5)).toNatClampNeg p1) ((kM i) + 4) (((mup g ((kM i) + 3) ((g (kM i) 5)).toNatClampNeg p1) (kM i) 5)).toNatClampNeg p2) (kM i) 5)).toNatClampNeg p3) (kM i) 5 (((mup (mup (mup g ((kM i) + 3) ((g (kM i) 5)).toNatClampNeg p1) ((kM i) + 4) (((mup g ((kM i) + 3) ((g (kM i) 5)).toNatClampNeg p1) (kM i) 5)).toNatClampNeg p2) ((kM i) + 5) (((mup (mup g ((kM i) + 3) ((g (kM i) 5)).toNatClampNeg p1) ((kM i) + 4) (((mup g ((kM i) + 3) ((g (kM i) 5)).toNatClampNeg p1) (kM i) 5)).toNatClampNeg p2) (kM i) 5)).toNatClampNeg p3) (kM i) 5) + 1)) (kM i) 6), .ref (ad (kM i))]) S c_X2_bit ⟨va_cnB 1 S.2.2.2.2 gX0_addDependency_X2_bit_n41 rfl rfl rfl (hN (.methodLinkNest RX0 41 yX2_bit "FlatLoader") (by decide +kernel)) (S.2.2.2.2 (.initialized RX2) (by decide +kernel)) (by decide +kernel) ⟨Nat.le_of_ble_eq_true rfl, Nat.le_of_ble_eq_true rfl⟩, S.2.2.2.2 (.static yX2_bit) (by decide +kernel), trivial⟩ ⟨Tr_blind, Tr_at⟩ rfl rfl hl.1 rfl (lv_room (Nat.le_of_ble_eq_true rfl)) dX0_addDependency_51 ⟨Nat.zero_le _, Nat.zero_le _⟩) ?_
      refine lv_ior S.1 S.2.1 dX0_addDependency_54 ?_
      refine r_put (C := RX0) (T := TX0) (N := 8) (ci := 0) (k := (kM i)) (j := 6) (fs := (fsM (kM i))) (v := (((mup (mup (mup (mup g ((kM i) + 3) ((g (kM i) 5)).toNatClampNeg p1) ((kM i) + 4) (((mup g ((kM i) + 3) ((g (kM i) 5)).toNatClampNeg p1) (kM i) 5)).toNatClampNeg p2) ((kM i) + 5) (((mup (mup g ((kM i) + 3) ((g (kM i) 5)).toNatClampNeg p1) ((kM i) + 4) (((mup g ((kM i) + 3) ((g (kM i) 5)).toNatClampNeg p1) (kM i) 5)).toNatClampNeg p2) (kM i) 5)).toNatClampNeg p3) (kM i) 5 (((mup (mup (mup g ((kM i) + 3) ((g (kM i) 5)).toNatClampNeg p1) ((kM i) + 4) (((mup g ((kM i) + 3) ((g (kM i) 5)).toNatClampNeg p1) (kM i) 5)).toNatClampNeg p2) ((kM i) + 5) (((mup (mup g ((kM i) + 3) ((g (kM i) 5)).toNatClampNeg p1) ((kM i) + 4) (((mup g ((kM i) + 3) ((g (kM i) 5)).toNatClampNeg p1) (kM i) 5)).toNatClampNeg p2) (kM i) 5)).toNatClampNeg p3) (kM i) 5) + 1)) (kM i) 6) ||| (m_X2_bit p1))) tyX0 tyX0_ok nmX0 S hA hK hP hS hn0 lk31 rfl (by decide) rfl (by decide +kernel) (lyM hi) rfl dX0_addDependency_55 (fun H locs hP hS => ?_)
      refine lv_aload_n S.1 S.2.1 dX0_addDependency_58 rfl (lv_at hl 0 rfl) ?_
      refine lv_dup S.1 S.2.1 dX0_addDependency_59 rfl ?_
      refine r_get (C := RX0) (T := TX0) (N := 8) (ci := 0) (k := (kM i)) (j := 7) (fs := (fsM (kM i))) (d := none) (v := .int ((mup (mup (mup (mup (mup g ((kM i) + 3) ((g (kM i) 5)).toNatClampNeg p1) ((kM i) + 4) (((mup g ((kM i) + 3) ((g (kM i) 5)).toNatClampNeg p1) (kM i) 5)).toNatClampNeg p2) ((kM i) + 5) (((mup (mup g ((kM i) + 3) ((g (kM i) 5)).toNatClampNeg p1) ((kM i) + 4) (((mup g ((kM i) + 3) ((g (kM i) 5)).toNatClampNeg p1) (kM i) 5)).toNatClampNeg p2) (kM i) 5)).toNatClampNeg p3) (kM i) 5 (((mup (mup (mup g ((kM i) + 3) ((g (kM i) 5)).toNatClampNeg p1) ((kM i) + 4) (((mup g ((kM i) + 3) ((g (kM i) 5)).toNatClampNeg p1) (kM i) 5)).toNatClampNeg p2) ((kM i) + 5) (((mup (mup g ((kM i) + 3) ((g (kM i) 5)).toNatClampNeg p1) ((kM i) + 4) (((mup g ((kM i) + 3) ((g (kM i) 5)).toNatClampNeg p1) (kM i) 5)).toNatClampNeg p2) (kM i) 5)).toNatClampNeg p3) (kM i) 5) + 1)) (kM i) 6 (((mup (mup (mup (mup g ((kM i) + 3) ((g (kM i) 5)).toNatClampNeg p1) ((kM i) + 4) (((mup g ((kM i) + 3) ((g (kM i) 5)).toNatClampNeg p1) (kM i) 5)).toNatClampNeg p2) ((kM i) + 5) (((mup (mup g ((kM i) + 3) ((g (kM i) 5)).toNatClampNeg p1) ((kM i) + 4) (((mup g ((kM i) + 3) ((g (kM i) 5)).toNatClampNeg p1) (kM i) 5)).toNatClampNeg p2) (kM i) 5)).toNatClampNeg p3) (kM i) 5 (((mup (mup (mup g ((kM i) + 3) ((g (kM i) 5)).toNatClampNeg p1) ((kM i) + 4) (((mup g ((kM i) + 3) ((g (kM i) 5)).toNatClampNeg p1) (kM i) 5)).toNatClampNeg p2) ((kM i) + 5) (((mup (mup g ((kM i) + 3) ((g (kM i) 5)).toNatClampNeg p1) ((kM i) + 4) (((mup g ((kM i) + 3) ((g (kM i) 5)).toNatClampNeg p1) (kM i) 5)).toNatClampNeg p2) (kM i) 5)).toNatClampNeg p3) (kM i) 5) + 1)) (kM i) 6) ||| (m_X2_bit p1))) (kM i) 7)) S hK hP hn0 lk34 rfl (by decide) (lyM hi) rfl rfl dX0_addDependency_60 ?_
      refine lv_iload S.1 S.2.1 dX0_addDependency_63 (lv_at hl 4 rfl) ?_
      refine lv_if_eq (tgt := 75) S.1 S.2.1 dX0_addDependency_65 (by decide) (fun hc5 => ?_) (fun hc5 => ?_)
      · rw [if_pos hc5] at h
        refine lv_iconst (v := 0) S.1 S.2.1 dX0_addDependency_75 (by decide) ?_
        refine lv_ior S.1 S.2.1 dX0_addDependency_76 ?_
        refine r_put (C := RX0) (T := TX0) (N := 8) (ci := 0) (k := (kM i)) (j := 7) (fs := (fsM (kM i))) (v := (((mup (mup (mup (mup (mup g ((kM i) + 3) ((g (kM i) 5)).toNatClampNeg p1) ((kM i) + 4) (((mup g ((kM i) + 3) ((g (kM i) 5)).toNatClampNeg p1) (kM i) 5)).toNatClampNeg p2) ((kM i) + 5) (((mup (mup g ((kM i) + 3) ((g (kM i) 5)).toNatClampNeg p1) ((kM i) + 4) (((mup g ((kM i) + 3) ((g (kM i) 5)).toNatClampNeg p1) (kM i) 5)).toNatClampNeg p2) (kM i) 5)).toNatClampNeg p3) (kM i) 5 (((mup (mup (mup g ((kM i) + 3) ((g (kM i) 5)).toNatClampNeg p1) ((kM i) + 4) (((mup g ((kM i) + 3) ((g (kM i) 5)).toNatClampNeg p1) (kM i) 5)).toNatClampNeg p2) ((kM i) + 5) (((mup (mup g ((kM i) + 3) ((g (kM i) 5)).toNatClampNeg p1) ((kM i) + 4) (((mup g ((kM i) + 3) ((g (kM i) 5)).toNatClampNeg p1) (kM i) 5)).toNatClampNeg p2) (kM i) 5)).toNatClampNeg p3) (kM i) 5) + 1)) (kM i) 6 (((mup (mup (mup (mup g ((kM i) + 3) ((g (kM i) 5)).toNatClampNeg p1) ((kM i) + 4) (((mup g ((kM i) + 3) ((g (kM i) 5)).toNatClampNeg p1) (kM i) 5)).toNatClampNeg p2) ((kM i) + 5) (((mup (mup g ((kM i) + 3) ((g (kM i) 5)).toNatClampNeg p1) ((kM i) + 4) (((mup g ((kM i) + 3) ((g (kM i) 5)).toNatClampNeg p1) (kM i) 5)).toNatClampNeg p2) (kM i) 5)).toNatClampNeg p3) (kM i) 5 (((mup (mup (mup g ((kM i) + 3) ((g (kM i) 5)).toNatClampNeg p1) ((kM i) + 4) (((mup g ((kM i) + 3) ((g (kM i) 5)).toNatClampNeg p1) (kM i) 5)).toNatClampNeg p2) ((kM i) + 5) (((mup (mup g ((kM i) + 3) ((g (kM i) 5)).toNatClampNeg p1) ((kM i) + 4) (((mup g ((kM i) + 3) ((g (kM i) 5)).toNatClampNeg p1) (kM i) 5)).toNatClampNeg p2) (kM i) 5)).toNatClampNeg p3) (kM i) 5) + 1)) (kM i) 6) ||| (m_X2_bit p1))) (kM i) 7) ||| 0)) tyX0 tyX0_ok nmX0 S hA hK hP hS hn0 lk34 rfl (by decide) rfl (by decide +kernel) (lyM hi) rfl dX0_addDependency_77 (fun H locs hP hS => ?_)
        exact e_Wv S hr hlocks hP hS (Option.some.inj h) dX0_addDependency_80
      · rw [if_neg hc5] at h
        refine lv_iload_n S.1 S.2.1 dX0_addDependency_68 rfl (lv_at hl 1 rfl) ?_
        refine k_R (r := (m_X2_bit p1)) (va_runSN (As := [.int p1]) (rest := [.int ((mup (mup (mup (mup (mup g ((kM i) + 3) ((g (kM i) 5)).toNatClampNeg p1) ((kM i) + 4) (((mup g ((kM i) + 3) ((g (kM i) 5)).toNatClampNeg p1) (kM i) 5)).toNatClampNeg p2) ((kM i) + 5) (((mup (mup g ((kM i) + 3) ((g (kM i) 5)).toNatClampNeg p1) ((kM i) + 4) (((mup g ((kM i) + 3) ((g (kM i) 5)).toNatClampNeg p1) (kM i) 5)).toNatClampNeg p2) (kM i) 5)).toNatClampNeg p3) (kM i) 5 (((mup (mup (mup g ((kM i) + 3) ((g (kM i) 5)).toNatClampNeg p1) ((kM i) + 4) (((mup g ((kM i) + 3) ((g (kM i) 5)).toNatClampNeg p1) (kM i) 5)).toNatClampNeg p2) ((kM i) + 5) (((mup (mup g ((kM i) + 3) ((g (kM i) 5)).toNatClampNeg p1) ((kM i) + 4) (((mup g ((kM i) + 3) ((g (kM i) 5)).toNatClampNeg p1) (kM i) 5)).toNatClampNeg p2) (kM i) 5)).toNatClampNeg p3) (kM i) 5) + 1)) (kM i) 6 (((mup (mup (mup (mup g ((kM i) + 3) ((g (kM i) 5)).toNatClampNeg p1) ((kM i) + 4) (((mup g ((kM i) + 3) ((g (kM i) 5)).toNatClampNeg p1) (kM i) 5)).toNatClampNeg p2) ((kM i) + 5) (((mup (mup g ((kM i) + 3) ((g (kM i) 5)).toNatClampNeg p1) ((kM i) + 4) (((mup g ((kM i) + 3) ((g (kM i) 5)).toNatClampNeg p1) (kM i) 5)).toNatClampNeg p2) (kM i) 5)).toNatClampNeg p3) (kM i) 5 (((mup (mup (mup g ((kM i) + 3) ((g (kM i) 5)).toNatClampNeg p1) ((kM i) + 4) (((mup g ((kM i) + 3) ((g (kM i) 5)).toNatClampNeg p1) (kM i) 5)).toNatClampNeg p2) ((kM i) + 5) (((mup (mup g ((kM i) + 3) ((g (kM i) 5)).toNatClampNeg p1) ((kM i) + 4) (((mup g ((kM i) + 3) ((g (kM i) 5)).toNatClampNeg p1) (kM i) 5)).toNatClampNeg p2) (kM i) 5)).toNatClampNeg p3) (kM i) 5) + 1)) (kM i) 6) ||| (m_X2_bit p1))) (kM i) 7), .ref (ad (kM i))]) S c_X2_bit ⟨va_cnB 1 S.2.2.2.2 gX0_addDependency_X2_bit_n41 rfl rfl rfl (hN (.methodLinkNest RX0 41 yX2_bit "FlatLoader") (by decide +kernel)) (S.2.2.2.2 (.initialized RX2) (by decide +kernel)) (by decide +kernel) ⟨Nat.le_of_ble_eq_true rfl, Nat.le_of_ble_eq_true rfl⟩, S.2.2.2.2 (.static yX2_bit) (by decide +kernel), trivial⟩ ⟨Tr_blind, Tr_at⟩ rfl rfl hl.1 rfl (lv_room (Nat.le_of_ble_eq_true rfl)) dX0_addDependency_69 ⟨Nat.zero_le _, Nat.zero_le _⟩) ?_
        refine lv_goto (tgt := 76) S.1 S.2.1 dX0_addDependency_72 (by decide) ?_
        refine lv_ior S.1 S.2.1 dX0_addDependency_76 ?_
        refine r_put (C := RX0) (T := TX0) (N := 8) (ci := 0) (k := (kM i)) (j := 7) (fs := (fsM (kM i))) (v := (((mup (mup (mup (mup (mup g ((kM i) + 3) ((g (kM i) 5)).toNatClampNeg p1) ((kM i) + 4) (((mup g ((kM i) + 3) ((g (kM i) 5)).toNatClampNeg p1) (kM i) 5)).toNatClampNeg p2) ((kM i) + 5) (((mup (mup g ((kM i) + 3) ((g (kM i) 5)).toNatClampNeg p1) ((kM i) + 4) (((mup g ((kM i) + 3) ((g (kM i) 5)).toNatClampNeg p1) (kM i) 5)).toNatClampNeg p2) (kM i) 5)).toNatClampNeg p3) (kM i) 5 (((mup (mup (mup g ((kM i) + 3) ((g (kM i) 5)).toNatClampNeg p1) ((kM i) + 4) (((mup g ((kM i) + 3) ((g (kM i) 5)).toNatClampNeg p1) (kM i) 5)).toNatClampNeg p2) ((kM i) + 5) (((mup (mup g ((kM i) + 3) ((g (kM i) 5)).toNatClampNeg p1) ((kM i) + 4) (((mup g ((kM i) + 3) ((g (kM i) 5)).toNatClampNeg p1) (kM i) 5)).toNatClampNeg p2) (kM i) 5)).toNatClampNeg p3) (kM i) 5) + 1)) (kM i) 6 (((mup (mup (mup (mup g ((kM i) + 3) ((g (kM i) 5)).toNatClampNeg p1) ((kM i) + 4) (((mup g ((kM i) + 3) ((g (kM i) 5)).toNatClampNeg p1) (kM i) 5)).toNatClampNeg p2) ((kM i) + 5) (((mup (mup g ((kM i) + 3) ((g (kM i) 5)).toNatClampNeg p1) ((kM i) + 4) (((mup g ((kM i) + 3) ((g (kM i) 5)).toNatClampNeg p1) (kM i) 5)).toNatClampNeg p2) (kM i) 5)).toNatClampNeg p3) (kM i) 5 (((mup (mup (mup g ((kM i) + 3) ((g (kM i) 5)).toNatClampNeg p1) ((kM i) + 4) (((mup g ((kM i) + 3) ((g (kM i) 5)).toNatClampNeg p1) (kM i) 5)).toNatClampNeg p2) ((kM i) + 5) (((mup (mup g ((kM i) + 3) ((g (kM i) 5)).toNatClampNeg p1) ((kM i) + 4) (((mup g ((kM i) + 3) ((g (kM i) 5)).toNatClampNeg p1) (kM i) 5)).toNatClampNeg p2) (kM i) 5)).toNatClampNeg p3) (kM i) 5) + 1)) (kM i) 6) ||| (m_X2_bit p1))) (kM i) 7) ||| (m_X2_bit p1))) tyX0 tyX0_ok nmX0 S hA hK hP hS hn0 lk34 rfl (by decide) rfl (by decide +kernel) (lyM hi) rfl dX0_addDependency_77 (fun H locs hP hS => ?_)
        exact e_Wv S hr hlocks hP hS (Option.some.inj h) dX0_addDependency_80
  rw [hH, hlocs] at goal0
  exact goal0

def m_X0_dropDependencies (g : Mem) (i : Nat) : Option Mem := some (mup (mup (mup g (kM i) 5 0) (kM i) 6 0) (kM i) 7 0)
def rm_X0_dropDependencies : Room := { frames := 0, cells := 0, slots := 0, locals := 0 }
set_option maxRecDepth 100000 in
set_option maxHeartbeats 4000000 in
theorem c_X0_dropDependencies {l : Launch} {D : va_G} {cA : Nat → ClassId} {ad : Nat → Nat} {lo : Nat} (hA : AdOk lo ad lay0.length) {i : Nat} (hi : i < 8) {g : Mem} {g1 : Mem} (h : m_X0_dropDependencies g i = some g1) : Met l yX0_dropDependencies wsX0_dropDependencies rm_X0_dropDependencies (Pw [.ref (ad (kM i))] D cA ad lo g) (Qw D cA ad lo g1 none) 0 0 (fun q => lo ≤ q) := by
  refine startW (cc := cX0_dropDependencies) (maxL := 1) (ret := none) (by decide) rfl (Nat.le_of_ble_eq_true rfl) ?_
  intro p e s m args below meth c ls S hr hlocks hB hl
  obtain ⟨hlo, hP, hK, hN⟩ := hB
  have hS : va_S (fun q => lo ≤ q) s.heap s.heap [] := va_S.rf
  unfold m_X0_dropDependencies at h
  have S : CallFix p m c cX0_dropDependencies 1 s args wsX0_dropDependencies RX0 := S
  have hl : lv_has ls 1 [(0, .ref (ad (kM i)))] := hl
  have hn0 : ∀ w ∈ wsX00, w ∈ wsX0_dropDependencies := by decide +kernel
  have lk27 := S.2.2.2.2 (.fieldLink RX0 27 "FlatLoader$OneModule" "dependencies" "I") (by decide +kernel)
  have lk31 := S.2.2.2.2 (.fieldLink RX0 31 "FlatLoader$OneModule" "dependedSet" "I") (by decide +kernel)
  have lk34 := S.2.2.2.2 (.fieldLink RX0 34 "FlatLoader$OneModule" "requiredSet" "I") (by decide +kernel)
  obtain ⟨H, hH⟩ : ∃ H, H = s.heap := ⟨_, rfl⟩
  obtain ⟨locs, hlocs⟩ : ∃ z : List Loc, z = [] := ⟨_, rfl⟩
  rw [← hH] at hP
  have hS : va_S (fun q => lo ≤ q) s.heap H locs := by rw [hH, hlocs]; exact hS
  have goal0 : W p l e (rm_X0_dropDependencies) s m args below meth c H locs 0 0 (MQ below (Qw D cA ad lo g1 none) args s 0 0 (fun q => lo ≤ q)) (F0 m 0 ls []) := by
    refine lv_aload_n S.1 S.2.1 dX0_dropDependencies_0 rfl (lv_at hl 0 rfl) ?_
    refine lv_iconst (v := 0) S.1 S.2.1 dX0_dropDependencies_1 (by decide) ?_
    refine r_put (C := RX0) (T := TX0) (N := 8) (ci := 0) (k := (kM i)) (j := 5) (fs := (fsM (kM i))) (v := 0) tyX0 tyX0_ok nmX0 S hA hK hP hS hn0 lk27 rfl (by decide) rfl (by decide +kernel) (lyM hi) rfl dX0_dropDependencies_2 (fun H locs hP hS => ?_)
    refine lv_aload_n S.1 S.2.1 dX0_dropDependencies_5 rfl (lv_at hl 0 rfl) ?_
    refine lv_iconst (v := 0) S.1 S.2.1 dX0_dropDependencies_6 (by decide) ?_
    refine r_put (C := RX0) (T := TX0) (N := 8) (ci := 0) (k := (kM i)) (j := 6) (fs := (fsM (kM i))) (v := 0) tyX0 tyX0_ok nmX0 S hA hK hP hS hn0 lk31 rfl (by decide) rfl (by decide +kernel) (lyM hi) rfl dX0_dropDependencies_7 (fun H locs hP hS => ?_)
    refine lv_aload_n S.1 S.2.1 dX0_dropDependencies_10 rfl (lv_at hl 0 rfl) ?_
    refine lv_iconst (v := 0) S.1 S.2.1 dX0_dropDependencies_11 (by decide) ?_
    refine r_put (C := RX0) (T := TX0) (N := 8) (ci := 0) (k := (kM i)) (j := 7) (fs := (fsM (kM i))) (v := 0) tyX0 tyX0_ok nmX0 S hA hK hP hS hn0 lk34 rfl (by decide) rfl (by decide +kernel) (lyM hi) rfl dX0_dropDependencies_12 (fun H locs hP hS => ?_)
    exact e_Wv S hr hlocks hP hS (Option.some.inj h) dX0_dropDependencies_15
  rw [hH, hlocs] at goal0
  exact goal0

def m_X0_hasDefined (g : Mem) (i : Nat) (p1 : Int32) : Option Int32 := gi p1 24 ((if (g ((kM i) + 2) (p1).toNatClampNeg) = (-1) then some 0 else some 1))
def rm_X0_hasDefined : Room := { frames := 0, cells := 0, slots := 0, locals := 0 }
set_option maxRecDepth 100000 in
set_option maxHeartbeats 4000000 in
theorem c_X0_hasDefined {l : Launch} {D : va_G} {cA : Nat → ClassId} {ad : Nat → Nat} {lo : Nat} {i : Nat} (hi : i < 8) {g : Mem} {p1 : Int32} {r : Int32} (h : m_X0_hasDefined g i p1 = some r) : Met l yX0_hasDefined wsX0_hasDefined rm_X0_hasDefined (Pw [.ref (ad (kM i)), .int p1] D cA ad lo g) (Qr r) 0 0 (fun _ => False) := by
  refine startW (cc := cX0_hasDefined) (maxL := 2) (ret := (some .boolean)) (by decide) rfl (Nat.le_of_ble_eq_true rfl) ?_
  intro p e s m args below meth c ls S hr hlocks hB hl
  obtain ⟨hlo, hP, hK, hN⟩ := hB
  have hS : va_S (fun q => lo ≤ q) s.heap s.heap [] := va_S.rf
  unfold m_X0_hasDefined at h
  have S : CallFix p m c cX0_hasDefined 2 s args wsX0_hasDefined RX0 := S
  have hl : lv_has ls 2 [(0, .ref (ad (kM i))), (1, .int p1)] := hl
  have hn0 : ∀ w ∈ wsX00, w ∈ wsX0_hasDefined := by decide +kernel
  have lk15 := S.2.2.2.2 (.fieldLink RX0 15 "FlatLoader$OneModule" "definedAbove" "[I") (by decide +kernel)
  refine lv_aload_n S.1 S.2.1 dX0_hasDefined_0 rfl (lv_at hl 0 rfl) ?_
  refine r_get (C := RX0) (T := TX0) (N := 8) (ci := 0) (k := (kM i)) (j := 1) (fs := (fsM (kM i))) (d := (some (some ((kM i) + 2)))) (v := .ref (ad ((kM i) + 2))) S hK hP hn0 lk15 rfl (by decide) (lyM hi) rfl rfl dX0_hasDefined_1 ?_
  refine lv_iload_n S.1 S.2.1 dX0_hasDefined_4 rfl (lv_at hl 1 rfl) ?_
  obtain ⟨hv1, hv1b, h⟩ := gi_some h
  refine r_ild (k := ((kM i) + 2)) (n := 24) S hK hP (lyM2 hi) hv1 dX0_hasDefined_5 ?_
  refine lv_iconst (v := (-1)) S.1 S.2.1 dX0_hasDefined_6 (by decide) ?_
  refine lv_icmp_eq (tgt := 14) S.1 S.2.1 dX0_hasDefined_7 (by decide) (fun hc2 => ?_) (fun hc2 => ?_)
  · rw [if_pos hc2] at h
    refine lv_iconst (v := 0) S.1 S.2.1 dX0_hasDefined_14 (by decide) ?_
    exact e_Rz S hr hlocks rfl (Option.some.inj h) dX0_hasDefined_15
  · rw [if_neg hc2] at h
    refine lv_iconst (v := 1) S.1 S.2.1 dX0_hasDefined_10 (by decide) ?_
    refine lv_goto (tgt := 15) S.1 S.2.1 dX0_hasDefined_11 (by decide) ?_
    exact e_Rz S hr hlocks rfl (Option.some.inj h) dX0_hasDefined_15

def m_X0_countClasses_4 (g : Mem) (i : Nat) : Nat → Int32 → Int32 → Option Int32
  | 0, _, _ => none
  | n + 1, x1, x2 => (if 24 ≤ x2 then some x1 else (m_X0_hasDefined g i x2).bind fun r2 => (if r2 = 0 then m_X0_countClasses_4 g i n (x1) ((x2 + 1)) else m_X0_countClasses_4 g i n ((x1 + 1)) ((x2 + 1))))
def m_X0_countClasses (g : Mem) (i : Nat) : Option Int32 := m_X0_countClasses_4 g i 200 (0) (0)
def rm_X0_countClasses : Room := { frames := 1, cells := 0, slots := 0, locals := 21 }
set_option maxRecDepth 100000 in
set_option maxHeartbeats 4000000 in
theorem c_X0_countClasses {l : Launch} {D : va_G} {cA : Nat → ClassId} {ad : Nat → Nat} {lo : Nat} {i : Nat} (hi : i < 8) {g : Mem} {r : Int32} (h : m_X0_countClasses g i = some r) : Met l yX0_countClasses wsX0_countClasses rm_X0_countClasses (Pw [.ref (ad (kM i))] D cA ad lo g) (Qr r) 0 0 (fun _ => False) := by
  refine startW (cc := cX0_countClasses) (maxL := 3) (ret := (some .int)) (by decide) rfl (Nat.le_of_ble_eq_true rfl) ?_
  intro p e s m args below meth c ls S hr hlocks hB hl
  obtain ⟨hlo, hP, hK, hN⟩ := hB
  have hS : va_S (fun q => lo ≤ q) s.heap s.heap [] := va_S.rf
  unfold m_X0_countClasses at h
  have S : CallFix p m c cX0_countClasses 3 s args wsX0_countClasses RX0 := S
  have hl : lv_has ls 3 [(0, .ref (ad (kM i)))] := hl
  have key4 : ∀ (n : Nat), ∀ (x1 x2 : Int32), ∀ (ls : Array Slot), lv_has ls 3 [(0, .ref (ad (kM i))), (1, .int x1), (2, .int x2)] → m_X0_countClasses_4 g i n x1 x2 = some r → W p l e (rm_X0_countClasses) s m args below meth c s.heap [] 0 0 (MQ below (Qr r) args s 0 0 (fun _ => False)) (F0 m 4 ls []) := by
    intro n
    induction n with
    | zero =>
      intro x1 x2 ls hl h
      exact nomatch (show none = some r from h)
    | succ n ih =>
      intro x1 x2 ls hl h
      rw [m_X0_countClasses_4] at h
      refine lv_iload_n S.1 S.2.1 dX0_countClasses_4 rfl (lv_at hl 2 rfl) ?_
      refine lv_bipush (v := 24) S.1 S.2.1 dX0_countClasses_5 (by decide) ?_
      refine lv_icmp_ge (tgt := 27) S.1 S.2.1 dX0_countClasses_7 (by decide) (fun hc1 => ?_) (fun hc1 => ?_)
      · rw [if_pos hc1] at h
        refine lv_iload_n S.1 S.2.1 dX0_countClasses_27 rfl (lv_at hl 1 rfl) ?_
        exact e_R S hr hlocks (Option.some.inj h) dX0_countClasses_28
      · rw [if_neg hc1] at h
        refine lv_aload_n S.1 S.2.1 dX0_countClasses_10 rfl (lv_at hl 0 rfl) ?_
        refine lv_iload_n S.1 S.2.1 dX0_countClasses_11 rfl (lv_at hl 2 rfl) ?_
        obtain ⟨r2, h_3, h⟩ := bd_some h
        refine k_R (r := r2) (va_runV (As := [.int x2]) (rest := []) S (c_X0_hasDefined hi h_3) (cwV 1 S.2.2.2.2 gX0_countClasses_X0_hasDefined rfl rfl rfl (by decide +kernel) ⟨Nat.le_of_ble_eq_true rfl, Nat.le_of_ble_eq_true rfl⟩) ⟨Pw_blind, va_recv hK hP (ci := 0) (q0 := (kM i)) rfl (wld_at (d := dM (kM i)) (lyM hi)), Pw_at hlo hS hP hK hN⟩ rfl rfl hl.1 rfl (lv_room (Nat.le_of_ble_eq_true rfl)) dX0_countClasses_12 ⟨Nat.zero_le _, Nat.zero_le _⟩) ?_
        refine lv_if_eq (tgt := 21) S.1 S.2.1 dX0_countClasses_15 (by decide) (fun hc4 => ?_) (fun hc4 => ?_)
        · rw [if_pos hc4] at h
          refine lv_iinc (v := (x2 + 1)) (lv' := [(2, .int (x2 + 1)), (0, .ref (ad (kM i))), (1, .int x1)]) S.1 S.2.1 dX0_countClasses_21 hl (k := 2) rfl rfl (by decide) rfl (fun ls hl => ?_)
          refine lv_goto (tgt := 4) S.1 S.2.1 dX0_countClasses_24 (by decide) ?_
          exact ih (x1) ((x2 + 1)) ls (lv_sub hl [1, 2, 0] rfl) h
        · rw [if_neg hc4] at h
          refine lv_iinc (v := (x1 + 1)) (lv' := [(1, .int (x1 + 1)), (0, .ref (ad (kM i))), (2, .int x2)]) S.1 S.2.1 dX0_countClasses_18 hl (k := 1) rfl rfl (by decide) rfl (fun ls hl => ?_)
          refine lv_iinc (v := (x2 + 1)) (lv' := [(2, .int (x2 + 1)), (1, .int (x1 + 1)), (0, .ref (ad (kM i)))]) S.1 S.2.1 dX0_countClasses_21 hl (k := 2) rfl rfl (by decide) rfl (fun ls hl => ?_)
          refine lv_goto (tgt := 4) S.1 S.2.1 dX0_countClasses_24 (by decide) ?_
          exact ih ((x1 + 1)) ((x2 + 1)) ls (lv_sub hl [2, 1, 0] rfl) h
  refine lv_iconst (v := 0) S.1 S.2.1 dX0_countClasses_0 (by decide) ?_
  refine lv_istore_n (lv' := [(1, .int 0), (0, .ref (ad (kM i)))]) S.1 S.2.1 dX0_countClasses_1 rfl hl (by decide) rfl (fun ls hl => ?_)
  refine lv_iconst (v := 0) S.1 S.2.1 dX0_countClasses_2 (by decide) ?_
  refine lv_istore_n (lv' := [(2, .int 0), (1, .int 0), (0, .ref (ad (kM i)))]) S.1 S.2.1 dX0_countClasses_3 rfl hl (by decide) rfl (fun ls hl => ?_)
  exact key4 200 (0) (0) ls (lv_sub hl [2, 1, 0] rfl) h

def m_X0_dropClasses_2 (i : Nat) : Nat → Mem → Int32 → Option Mem
  | 0, _, _ => none
  | n + 1, g, x1 => (if 24 ≤ x1 then some g else gi x1 24 (m_X0_dropClasses_2 i n ((mup g ((kM i) + 2) (x1).toNatClampNeg (-1))) ((x1 + 1))))
def m_X0_dropClasses (g : Mem) (i : Nat) : Option Mem := m_X0_dropClasses_2 i 200 (g) (0)
def rm_X0_dropClasses : Room := { frames := 0, cells := 0, slots := 0, locals := 0 }
set_option maxRecDepth 100000 in
set_option maxHeartbeats 4000000 in
theorem c_X0_dropClasses {l : Launch} {D : va_G} {cA : Nat → ClassId} {ad : Nat → Nat} {lo : Nat} (hA : AdOk lo ad lay0.length) {i : Nat} (hi : i < 8) {g : Mem} {g1 : Mem} (h : m_X0_dropClasses g i = some g1) : Met l yX0_dropClasses wsX0_dropClasses rm_X0_dropClasses (Pw [.ref (ad (kM i))] D cA ad lo g) (Qw D cA ad lo g1 none) 0 0 (fun q => lo ≤ q) := by
  refine startW (cc := cX0_dropClasses) (maxL := 2) (ret := none) (by decide) rfl (Nat.le_of_ble_eq_true rfl) ?_
  intro p e s m args below meth c ls S hr hlocks hB hl
  obtain ⟨hlo, hP, hK, hN⟩ := hB
  have hS : va_S (fun q => lo ≤ q) s.heap s.heap [] := va_S.rf
  unfold m_X0_dropClasses at h
  have S : CallFix p m c cX0_dropClasses 2 s args wsX0_dropClasses RX0 := S
  have hl : lv_has ls 2 [(0, .ref (ad (kM i)))] := hl
  have hn0 : ∀ w ∈ wsX00, w ∈ wsX0_dropClasses := by decide +kernel
  have lk15 := S.2.2.2.2 (.fieldLink RX0 15 "FlatLoader$OneModule" "definedAbove" "[I") (by decide +kernel)
  obtain ⟨H, hH⟩ : ∃ H, H = s.heap := ⟨_, rfl⟩
  obtain ⟨locs, hlocs⟩ : ∃ z : List Loc, z = [] := ⟨_, rfl⟩
  have key2 : ∀ (n : Nat), ∀ (g : Mem) (H : Heap) (locs : List Loc), va_P D vwCl (wld cA ad g lay0) H → va_S (fun q => lo ≤ q) s.heap H locs → ∀ (x1 : Int32), ∀ (ls : Array Slot), lv_has ls 2 [(0, .ref (ad (kM i))), (1, .int x1)] → m_X0_dropClasses_2 i n g x1 = some g1 → W p l e (rm_X0_dropClasses) s m args below meth c H locs 0 0 (MQ below (Qw D cA ad lo g1 none) args s 0 0 (fun q => lo ≤ q)) (F0 m 2 ls []) := by
    intro n
    induction n with
    | zero =>
      intro g H locs hP hS x1 ls hl h
      exact nomatch (show none = some g1 from h)
    | succ n ih =>
      intro g H locs hP hS x1 ls hl h
      rw [m_X0_dropClasses_2] at h
      refine lv_iload_n S.1 S.2.1 dX0_dropClasses_2 rfl (lv_at hl 1 rfl) ?_
      refine lv_bipush (v := 24) S.1 S.2.1 dX0_dropClasses_3 (by decide) ?_
      refine lv_icmp_ge (tgt := 21) S.1 S.2.1 dX0_dropClasses_5 (by decide) (fun hc1 => ?_) (fun hc1 => ?_)
      · rw [if_pos hc1] at h
        exact e_Wv S hr hlocks hP hS (Option.some.inj h) dX0_dropClasses_21
      · rw [if_neg hc1] at h
        refine lv_aload_n S.1 S.2.1 dX0_dropClasses_8 rfl (lv_at hl 0 rfl) ?_
        refine r_get (C := RX0) (T := TX0) (N := 8) (ci := 0) (k := (kM i)) (j := 1) (fs := (fsM (kM i))) (d := (some (some ((kM i) + 2)))) (v := .ref (ad ((kM i) + 2))) S hK hP hn0 lk15 rfl (by decide) (lyM hi) rfl rfl dX0_dropClasses_9 ?_
        refine lv_iload_n S.1 S.2.1 dX0_dropClasses_12 rfl (lv_at hl 1 rfl) ?_
        refine lv_iconst (v := (-1)) S.1 S.2.1 dX0_dropClasses_13 (by decide) ?_
        obtain ⟨hv2, hv2b, h⟩ := gi_some h
        refine r_ist (k := ((kM i) + 2)) (n := 24) S hA hK hP hS (lyM2 hi) hv2 dX0_dropClasses_14 (fun H locs hP hS => ?_)
        refine lv_iinc (v := (x1 + 1)) (lv' := [(1, .int (x1 + 1)), (0, .ref (ad (kM i)))]) S.1 S.2.1 dX0_dropClasses_15 hl (k := 1) rfl rfl (by decide) rfl (fun ls hl => ?_)
        refine lv_goto (tgt := 2) S.1 S.2.1 dX0_dropClasses_18 (by decide) ?_
        exact ih ((mup g ((kM i) + 2) (x1).toNatClampNeg (-1))) H locs hP hS ((x1 + 1)) ls (lv_sub hl [1, 0] rfl) h
  rw [← hH] at hP
  have hS : va_S (fun q => lo ≤ q) s.heap H locs := by rw [hH, hlocs]; exact hS
  have goal0 : W p l e (rm_X0_dropClasses) s m args below meth c H locs 0 0 (MQ below (Qw D cA ad lo g1 none) args s 0 0 (fun q => lo ≤ q)) (F0 m 0 ls []) := by
    refine lv_iconst (v := 0) S.1 S.2.1 dX0_dropClasses_0 (by decide) ?_
    refine lv_istore_n (lv' := [(1, .int 0), (0, .ref (ad (kM i)))]) S.1 S.2.1 dX0_dropClasses_1 rfl hl (by decide) rfl (fun ls hl => ?_)
    exact key2 200 (g) H locs hP hS (0) ls (lv_sub hl [1, 0] rfl) h
  rw [hH, hlocs] at goal0
  exact goal0

def m_X0_hasClassBelow_2 (g : Mem) (i : Nat) (p1 : Int32) : Nat → Int32 → Option Int32
  | 0, _ => none
  | n + 1, x2 => (if 24 ≤ x2 then some 0 else gi x2 24 ((if (g ((kM i) + 2) (x2).toNatClampNeg) = p1 then some 1 else m_X0_hasClassBelow_2 g i p1 n ((x2 + 1)))))
def m_X0_hasClassBelow (g : Mem) (i : Nat) (p1 : Int32) : Option Int32 := m_X0_hasClassBelow_2 g i p1 200 (0)
def rm_X0_hasClassBelow : Room := { frames := 0, cells := 0, slots := 0, locals := 0 }
set_option maxRecDepth 100000 in
set_option maxHeartbeats 4000000 in
theorem c_X0_hasClassBelow {l : Launch} {D : va_G} {cA : Nat → ClassId} {ad : Nat → Nat} {lo : Nat} {i : Nat} (hi : i < 8) {g : Mem} {p1 : Int32} {r : Int32} (h : m_X0_hasClassBelow g i p1 = some r) : Met l yX0_hasClassBelow wsX0_hasClassBelow rm_X0_hasClassBelow (Pw [.ref (ad (kM i)), .int p1] D cA ad lo g) (Qr r) 0 0 (fun _ => False) := by
  refine startW (cc := cX0_hasClassBelow) (maxL := 3) (ret := (some .boolean)) (by decide) rfl (Nat.le_of_ble_eq_true rfl) ?_
  intro p e s m args below meth c ls S hr hlocks hB hl
  obtain ⟨hlo, hP, hK, hN⟩ := hB
  have hS : va_S (fun q => lo ≤ q) s.heap s.heap [] := va_S.rf
  unfold m_X0_hasClassBelow at h
  have S : CallFix p m c cX0_hasClassBelow 3 s args wsX0_hasClassBelow RX0 := S
  have hl : lv_has ls 3 [(0, .ref (ad (kM i))), (1, .int p1)] := hl
  have hn0 : ∀ w ∈ wsX00, w ∈ wsX0_hasClassBelow := by decide +kernel
  have lk15 := S.2.2.2.2 (.fieldLink RX0 15 "FlatLoader$OneModule" "definedAbove" "[I") (by decide +kernel)
  have key2 : ∀ (n : Nat), ∀ (x2 : Int32), ∀ (ls : Array Slot), lv_has ls 3 [(0, .ref (ad (kM i))), (1, .int p1), (2, .int x2)] → m_X0_hasClassBelow_2 g i p1 n x2 = some r → W p l e (rm_X0_hasClassBelow) s m args below meth c s.heap [] 0 0 (MQ below (Qr r) args s 0 0 (fun _ => False)) (F0 m 2 ls []) := by
    intro n
    induction n with
    | zero =>
      intro x2 ls hl h
      exact nomatch (show none = some r from h)
    | succ n ih =>
      intro x2 ls hl h
      rw [m_X0_hasClassBelow_2] at h
      refine lv_iload_n S.1 S.2.1 dX0_hasClassBelow_2 rfl (lv_at hl 2 rfl) ?_
      refine lv_bipush (v := 24) S.1 S.2.1 dX0_hasClassBelow_3 (by decide) ?_
      refine lv_icmp_ge (tgt := 26) S.1 S.2.1 dX0_hasClassBelow_5 (by decide) (fun hc1 => ?_) (fun hc1 => ?_)
      · rw [if_pos hc1] at h
        refine lv_iconst (v := 0) S.1 S.2.1 dX0_hasClassBelow_26 (by decide) ?_
        exact e_Rz S hr hlocks rfl (Option.some.inj h) dX0_hasClassBelow_27
      · rw [if_neg hc1] at h
        refine lv_aload_n S.1 S.2.1 dX0_hasClassBelow_8 rfl (lv_at hl 0 rfl) ?_
        refine r_get (C := RX0) (T := TX0) (N := 8) (ci := 0) (k := (kM i)) (j := 1) (fs := (fsM (kM i))) (d := (some (some ((kM i) + 2)))) (v := .ref (ad ((kM i) + 2))) S hK hP hn0 lk15 rfl (by decide) (lyM hi) rfl rfl dX0_hasClassBelow_9 ?_
        refine lv_iload_n S.1 S.2.1 dX0_hasClassBelow_12 rfl (lv_at hl 2 rfl) ?_
        obtain ⟨hv2, hv2b, h⟩ := gi_some h
        refine r_ild (k := ((kM i) + 2)) (n := 24) S hK hP (lyM2 hi) hv2 dX0_hasClassBelow_13 ?_
        refine lv_iload_n S.1 S.2.1 dX0_hasClassBelow_14 rfl (lv_at hl 1 rfl) ?_
        refine lv_icmp_ne (tgt := 20) S.1 S.2.1 dX0_hasClassBelow_15 (by decide) (fun hc3 => ?_) (fun hc3 => ?_)
        · rw [if_neg hc3] at h
          refine lv_iinc (v := (x2 + 1)) (lv' := [(2, .int (x2 + 1)), (0, .ref (ad (kM i))), (1, .int p1)]) S.1 S.2.1 dX0_hasClassBelow_20 hl (k := 2) rfl rfl (by decide) rfl (fun ls hl => ?_)
          refine lv_goto (tgt := 2) S.1 S.2.1 dX0_hasClassBelow_23 (by decide) ?_
          exact ih ((x2 + 1)) ls (lv_sub hl [1, 2, 0] rfl) h
        · rw [if_pos hc3] at h
          refine lv_iconst (v := 1) S.1 S.2.1 dX0_hasClassBelow_18 (by decide) ?_
          exact e_Rz S hr hlocks rfl (Option.some.inj h) dX0_hasClassBelow_19
  refine lv_iconst (v := 0) S.1 S.2.1 dX0_hasClassBelow_0 (by decide) ?_
  refine lv_istore_n (lv' := [(2, .int 0), (0, .ref (ad (kM i))), (1, .int p1)]) S.1 S.2.1 dX0_hasClassBelow_1 rfl hl (by decide) rfl (fun ls hl => ?_)
  exact key2 200 (0) ls (lv_sub hl [1, 2, 0] rfl) h

def m_X1_clear (g : Mem) : Option Mem := some (mup (mup (mup g 50 1 0) 50 2 0) 50 3 0)
def rm_X1_clear : Room := { frames := 0, cells := 0, slots := 0, locals := 0 }
set_option maxRecDepth 100000 in
set_option maxHeartbeats 4000000 in
theorem c_X1_clear {l : Launch} {D : va_G} {cA : Nat → ClassId} {ad : Nat → Nat} {lo : Nat} (hA : AdOk lo ad lay0.length) {g : Mem} {g1 : Mem} (h : m_X1_clear g = some g1) : Met l yX1_clear wsX1_clear rm_X1_clear (Pw [.ref (ad 50)] D cA ad lo g) (Qw D cA ad lo g1 none) 0 0 (fun q => lo ≤ q) := by
  refine startW (cc := cX1_clear) (maxL := 1) (ret := none) (by decide) rfl (Nat.le_of_ble_eq_true rfl) ?_
  intro p e s m args below meth c ls S hr hlocks hB hl
  obtain ⟨hlo, hP, hK, hN⟩ := hB
  have hS : va_S (fun q => lo ≤ q) s.heap s.heap [] := va_S.rf
  unfold m_X1_clear at h
  have S : CallFix p m c cX1_clear 1 s args wsX1_clear RX1 := S
  have hl : lv_has ls 1 [(0, .ref (ad 50))] := hl
  have hn1 : ∀ w ∈ wsX10, w ∈ wsX1_clear := by decide +kernel
  have lk18 := S.2.2.2.2 (.fieldLink RX1 18 "FlatLoader$Row" "size" "I") (by decide +kernel)
  have lk22 := S.2.2.2.2 (.fieldLink RX1 22 "FlatLoader$Row" "memberSet" "I") (by decide +kernel)
  have lk25 := S.2.2.2.2 (.fieldLink RX1 25 "FlatLoader$Row" "begun" "I") (by decide +kernel)
  obtain ⟨H, hH⟩ : ∃ H, H = s.heap := ⟨_, rfl⟩
  obtain ⟨locs, hlocs⟩ : ∃ z : List Loc, z = [] := ⟨_, rfl⟩
  rw [← hH] at hP
  have hS : va_S (fun q => lo ≤ q) s.heap H locs := by rw [hH, hlocs]; exact hS
  have goal0 : W p l e (rm_X1_clear) s m args below meth c H locs 0 0 (MQ below (Qw D cA ad lo g1 none) args s 0 0 (fun q => lo ≤ q)) (F0 m 0 ls []) := by
    refine lv_aload_n S.1 S.2.1 dX1_clear_0 rfl (lv_at hl 0 rfl) ?_
    refine lv_iconst (v := 0) S.1 S.2.1 dX1_clear_1 (by decide) ?_
    refine r_put (C := RX1) (T := TX1) (N := 4) (ci := 1) (k := 50) (j := 1) (fs := fsR) (v := 0) tyX1 tyX1_ok nmX1 S hA hK hP hS hn1 lk18 rfl (by decide) rfl (by decide +kernel) rfl rfl dX1_clear_2 (fun H locs hP hS => ?_)
    refine lv_aload_n S.1 S.2.1 dX1_clear_5 rfl (lv_at hl 0 rfl) ?_
    refine lv_iconst (v := 0) S.1 S.2.1 dX1_clear_6 (by decide) ?_
    refine r_put (C := RX1) (T := TX1) (N := 4) (ci := 1) (k := 50) (j := 2) (fs := fsR) (v := 0) tyX1 tyX1_ok nmX1 S hA hK hP hS hn1 lk22 rfl (by decide) rfl (by decide +kernel) rfl rfl dX1_clear_7 (fun H locs hP hS => ?_)
    refine lv_aload_n S.1 S.2.1 dX1_clear_10 rfl (lv_at hl 0 rfl) ?_
    refine lv_iconst (v := 0) S.1 S.2.1 dX1_clear_11 (by decide) ?_
    refine r_put (C := RX1) (T := TX1) (N := 4) (ci := 1) (k := 50) (j := 3) (fs := fsR) (v := 0) tyX1 tyX1_ok nmX1 S hA hK hP hS hn1 lk25 rfl (by decide) rfl (by decide +kernel) rfl rfl dX1_clear_12 (fun H locs hP hS => ?_)
    exact e_Wv S hr hlocks hP hS (Option.some.inj h) dX1_clear_15
  rw [hH, hlocs] at goal0
  exact goal0

def m_X1_addOnceIf (g : Mem) (p1 p2 : Int32) : Option Mem := (if p1 = 0 then some g else (if 8 ≤ (g 50 1) then some g else (if (m_X2_isIn (g 50 2) p2) = 0 then gi (g 50 1) 8 (some (mup (mup (mup g 51 ((g 50 1)).toNatClampNeg p2) 50 1 (((mup g 51 ((g 50 1)).toNatClampNeg p2) 50 1) + 1)) 50 2 (((mup (mup g 51 ((g 50 1)).toNatClampNeg p2) 50 1 (((mup g 51 ((g 50 1)).toNatClampNeg p2) 50 1) + 1)) 50 2) ||| (m_X2_bit p2)))) else some g)))
def rm_X1_addOnceIf : Room := { frames := 1, cells := 0, slots := 0, locals := 21 }
set_option maxRecDepth 100000 in
set_option maxHeartbeats 4000000 in
theorem c_X1_addOnceIf {l : Launch} {D : va_G} {cA : Nat → ClassId} {ad : Nat → Nat} {lo : Nat} (hA : AdOk lo ad lay0.length) {g : Mem} {p1 p2 : Int32} {g1 : Mem} (h : m_X1_addOnceIf g p1 p2 = some g1) : Met l yX1_addOnceIf wsX1_addOnceIf rm_X1_addOnceIf (Pw [.ref (ad 50), .int p1, .int p2] D cA ad lo g) (Qw D cA ad lo g1 none) 0 0 (fun q => lo ≤ q) := by
  refine startW (cc := cX1_addOnceIf) (maxL := 3) (ret := none) (by decide) rfl (Nat.le_of_ble_eq_true rfl) ?_
  intro p e s m args below meth c ls S hr hlocks hB hl
  obtain ⟨hlo, hP, hK, hN⟩ := hB
  have hS : va_S (fun q => lo ≤ q) s.heap s.heap [] := va_S.rf
  unfold m_X1_addOnceIf at h
  have S : CallFix p m c cX1_addOnceIf 3 s args wsX1_addOnceIf RX1 := S
  have hl : lv_has ls 3 [(0, .ref (ad 50)), (1, .int p1), (2, .int p2)] := hl
  have hn1 : ∀ w ∈ wsX10, w ∈ wsX1_addOnceIf := by decide +kernel
  have lk9 := S.2.2.2.2 (.fieldLink RX1 9 "FlatLoader$Row" "members" "[I") (by decide +kernel)
  have lk18 := S.2.2.2.2 (.fieldLink RX1 18 "FlatLoader$Row" "size" "I") (by decide +kernel)
  have lk22 := S.2.2.2.2 (.fieldLink RX1 22 "FlatLoader$Row" "memberSet" "I") (by decide +kernel)
  obtain ⟨H, hH⟩ : ∃ H, H = s.heap := ⟨_, rfl⟩
  obtain ⟨locs, hlocs⟩ : ∃ z : List Loc, z = [] := ⟨_, rfl⟩
  rw [← hH] at hP
  have hS : va_S (fun q => lo ≤ q) s.heap H locs := by rw [hH, hlocs]; exact hS
  have goal0 : W p l e (rm_X1_addOnceIf) s m args below meth c H locs 0 0 (MQ below (Qw D cA ad lo g1 none) args s 0 0 (fun q => lo ≤ q)) (F0 m 0 ls []) := by
    refine lv_iload_n S.1 S.2.1 dX1_addOnceIf_0 rfl (lv_at hl 1 rfl) ?_
    refine lv_if_eq (tgt := 57) S.1 S.2.1 dX1_addOnceIf_1 (by decide) (fun hc1 => ?_) (fun hc1 => ?_)
    · rw [if_pos hc1] at h
      exact e_Wv S hr hlocks hP hS (Option.some.inj h) dX1_addOnceIf_57
    · rw [if_neg hc1] at h
      refine lv_aload_n S.1 S.2.1 dX1_addOnceIf_4 rfl (lv_at hl 0 rfl) ?_
      refine r_get (C := RX1) (T := TX1) (N := 4) (ci := 1) (k := 50) (j := 1) (fs := fsR) (d := none) (v := .int (g 50 1)) S hK hP hn1 lk18 rfl (by decide) rfl rfl rfl dX1_addOnceIf_5 ?_
      refine lv_bipush (v := 8) S.1 S.2.1 dX1_addOnceIf_8 (by decide) ?_
      refine lv_icmp_ge (tgt := 57) S.1 S.2.1 dX1_addOnceIf_10 (by decide) (fun hc2 => ?_) (fun hc2 => ?_)
      · rw [if_pos hc2] at h
        exact e_Wv S hr hlocks hP hS (Option.some.inj h) dX1_addOnceIf_57
      · rw [if_neg hc2] at h
        refine lv_aload_n S.1 S.2.1 dX1_addOnceIf_13 rfl (lv_at hl 0 rfl) ?_
        refine r_get (C := RX1) (T := TX1) (N := 4) (ci := 1) (k := 50) (j := 2) (fs := fsR) (d := none) (v := .int (g 50 2)) S hK hP hn1 lk22 rfl (by decide) rfl rfl rfl dX1_addOnceIf_14 ?_
        refine lv_iload_n S.1 S.2.1 dX1_addOnceIf_17 rfl (lv_at hl 2 rfl) ?_
        refine k_R (r := (m_X2_isIn (g 50 2) p2)) (va_runSN (As := [.int (g 50 2), .int p2]) (rest := []) S c_X2_isIn ⟨va_cnB 2 S.2.2.2.2 gX1_addOnceIf_X2_isIn_n28 rfl rfl rfl (hN (.methodLinkNest RX1 28 yX2_isIn "FlatLoader") (by decide +kernel)) (S.2.2.2.2 (.initialized RX2) (by decide +kernel)) (by decide +kernel) ⟨Nat.le_of_ble_eq_true rfl, Nat.le_of_ble_eq_true rfl⟩, S.2.2.2.2 (.static yX2_isIn) (by decide +kernel), trivial⟩ ⟨Tr_blind, Tr_at⟩ rfl rfl hl.1 rfl (lv_room (Nat.le_of_ble_eq_true rfl)) dX1_addOnceIf_18 ⟨Nat.zero_le _, Nat.zero_le _⟩) ?_
        refine lv_if_ne (tgt := 57) S.1 S.2.1 dX1_addOnceIf_21 (by decide) (fun hc3 => ?_) (fun hc3 => ?_)
        · rw [if_neg hc3] at h
          exact e_Wv S hr hlocks hP hS (Option.some.inj h) dX1_addOnceIf_57
        · rw [if_pos hc3] at h
          refine lv_aload_n S.1 S.2.1 dX1_addOnceIf_24 rfl (lv_at hl 0 rfl) ?_
          refine r_get (C := RX1) (T := TX1) (N := 4) (ci := 1) (k := 50) (j := 0) (fs := fsR) (d := (some (some 51))) (v := .ref (ad 51)) S hK hP hn1 lk9 rfl (by decide) rfl rfl rfl dX1_addOnceIf_25 ?_
          refine lv_aload_n S.1 S.2.1 dX1_addOnceIf_28 rfl (lv_at hl 0 rfl) ?_
          refine r_get (C := RX1) (T := TX1) (N := 4) (ci := 1) (k := 50) (j := 1) (fs := fsR) (d := none) (v := .int (g 50 1)) S hK hP hn1 lk18 rfl (by decide) rfl rfl rfl dX1_addOnceIf_29 ?_
          refine lv_iload_n S.1 S.2.1 dX1_addOnceIf_32 rfl (lv_at hl 2 rfl) ?_
          obtain ⟨hv4, hv4b, h⟩ := gi_some h
          refine r_ist (k := 51) (n := 8) S hA hK hP hS rfl hv4 dX1_addOnceIf_33 (fun H locs hP hS => ?_)
          refine lv_aload_n S.1 S.2.1 dX1_addOnceIf_34 rfl (lv_at hl 0 rfl) ?_
          refine lv_dup S.1 S.2.1 dX1_addOnceIf_35 rfl ?_
          refine r_get (C := RX1) (T := TX1) (N := 4) (ci := 1) (k := 50) (j := 1) (fs := fsR) (d := none) (v := .int ((mup g 51 ((g 50 1)).toNatClampNeg p2) 50 1)) S hK hP hn1 lk18 rfl (by decide) rfl rfl rfl dX1_addOnceIf_36 ?_
          refine lv_iconst (v := 1) S.1 S.2.1 dX1_addOnceIf_39 (by decide) ?_
          refine lv_iadd S.1 S.2.1 dX1_addOnceIf_40 ?_
          refine r_put (C := RX1) (T := TX1) (N := 4) (ci := 1) (k := 50) (j := 1) (fs := fsR) (v := (((mup g 51 ((g 50 1)).toNatClampNeg p2) 50 1) + 1)) tyX1 tyX1_ok nmX1 S hA hK hP hS hn1 lk18 rfl (by decide) rfl (by decide +kernel) rfl rfl dX1_addOnceIf_41 (fun H locs hP hS => ?_)
          refine lv_aload_n S.1 S.2.1 dX1_addOnceIf_44 rfl (lv_at hl 0 rfl) ?_
          refine lv_dup S.1 S.2.1 dX1_addOnceIf_45 rfl ?_
          refine r_get (C := RX1) (T := TX1) (N := 4) (ci := 1) (k := 50) (j := 2) (fs := fsR) (d := none) (v := .int ((mup (mup g 51 ((g 50 1)).toNatClampNeg p2) 50 1 (((mup g 51 ((g 50 1)).toNatClampNeg p2) 50 1) + 1)) 50 2)) S hK hP hn1 lk22 rfl (by decide) rfl rfl rfl dX1_addOnceIf_46 ?_
          refine lv_iload_n S.1 S.2.1 dX1_addOnceIf_49 rfl (lv_at hl 2 rfl) ?_
          refine k_R (r := (m_X2_bit p2)) (va_runSN (As := [.int p2]) (rest := [.int ((mup (mup g 51 ((g 50 1)).toNatClampNeg p2) 50 1 (((mup g 51 ((g 50 1)).toNatClampNeg p2) 50 1) + 1)) 50 2), .ref (ad 50)]) S c_X2_bit ⟨va_cnB 1 S.2.2.2.2 gX1_addOnceIf_X2_bit_n32 rfl rfl rfl (hN (.methodLinkNest RX1 32 yX2_bit "FlatLoader") (by decide +kernel)) (S.2.2.2.2 (.initialized RX2) (by decide +kernel)) (by decide +kernel) ⟨Nat.le_of_ble_eq_true rfl, Nat.le_of_ble_eq_true rfl⟩, S.2.2.2.2 (.static yX2_bit) (by decide +kernel), trivial⟩ ⟨Tr_blind, Tr_at⟩ rfl rfl hl.1 rfl (lv_room (Nat.le_of_ble_eq_true rfl)) dX1_addOnceIf_50 ⟨Nat.zero_le _, Nat.zero_le _⟩) ?_
          refine lv_ior S.1 S.2.1 dX1_addOnceIf_53 ?_
          refine r_put (C := RX1) (T := TX1) (N := 4) (ci := 1) (k := 50) (j := 2) (fs := fsR) (v := (((mup (mup g 51 ((g 50 1)).toNatClampNeg p2) 50 1 (((mup g 51 ((g 50 1)).toNatClampNeg p2) 50 1) + 1)) 50 2) ||| (m_X2_bit p2))) tyX1 tyX1_ok nmX1 S hA hK hP hS hn1 lk22 rfl (by decide) rfl (by decide +kernel) rfl rfl dX1_addOnceIf_54 (fun H locs hP hS => ?_)
          exact e_Wv S hr hlocks hP hS (Option.some.inj h) dX1_addOnceIf_57
  rw [hH, hlocs] at goal0
  exact goal0
