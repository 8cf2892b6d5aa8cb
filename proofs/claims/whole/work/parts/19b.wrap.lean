def m_L_present (g : Mem) (p1 : Int32) : Option (Mem × Int32) := (m_X2_present g p1).bind fun q1 => (if q1.2.1 = 0 then some (q1.1, 0) else (if q1.2.1 = 1 then some (q1.1, 1) else (if q1.2.1 = 2 then some (q1.1, 2) else none)))
def rm_L_present : Room := { frames := 7, cells := 1, slots := 6, locals := 103 }
set_option maxRecDepth 100000 in
set_option maxHeartbeats 4000000 in
theorem c_L_present {l : Launch} {D : va_G} {cA : Nat → ClassId} {ad : Nat → Nat} {lo : Nat} (hA : AdOk lo ad lay0.length) (hst : l.stackTraces = false) {g : Mem} {p1 : Int32} {g1 : Mem} {r : Int32} (h : m_L_present g p1 = some (g1, r)) : Met l yL_present wsL_present rm_L_present (Pz [.ref (ad 0), .int p1] D cA ad lo g) (Qw D cA ad lo g1 (some r)) 1 6 (fun q => lo ≤ q) := by
  refine startL (cc := cL_present) (maxL := 3) (ret := (some .int)) (by decide) rfl (Nat.le_of_ble_eq_true rfl) ?_
  intro p e s m args below meth c ls S hr hlocks htab hB hl
  obtain ⟨⟨⟨hlo, hP, hK, hN⟩, hX⟩, hC⟩ := hB
  have hS : va_S (fun q => lo ≤ q) s.heap s.heap [] := va_S.rf
  unfold m_L_present at h
  have S : CallFix p m c cL_present 3 s args wsL_present RL := S
  have hl : lv_has ls 3 [(0, .ref (ad 0)), (1, .int p1)] := hl
  obtain ⟨H, hH⟩ : ∃ H, H = s.heap := ⟨_, rfl⟩
  obtain ⟨locs, hlocs⟩ : ∃ z : List Loc, z = [] := ⟨_, rfl⟩
  rw [← hH] at hP
  have hS : va_S (fun q => lo ≤ q) s.heap H locs := by rw [hH, hlocs]; exact hS
  have goal0 : W p l e (rm_L_present) s m args below meth c H locs 0 0 (MQ below (Qw D cA ad lo g1 (some r)) args s 1 6 (fun q => lo ≤ q)) (F0 m 0 ls []) := by
    refine lv_aload_n S.1 S.2.1 dL_present_0 rfl (lv_at hl 0 rfl) ?_
    refine lv_iload_n S.1 S.2.1 dL_present_1 rfl (lv_at hl 1 rfl) ?_
    obtain ⟨⟨g_2, o3, r4⟩, h_5, h⟩ := bd_some h
    dsimp only at h
    refine k_T (vx_runV (As := [.int p1]) (rest := []) S (c_X2_present hA hst h_5) (cwV 1 S.2.2.2.2 gL_present_X2_present rfl rfl rfl (by decide +kernel) ⟨Nat.le_of_ble_eq_true rfl, Nat.le_of_ble_eq_true rfl⟩) ⟨Px_blind, va_recv hK hP (ci := 2) (q0 := 0) rfl (wld_at (d := dF) rfl), Px_at hlo hS hP hK hN hX⟩ rfl rfl hl.1 rfl (lv_room (Nat.le_of_ble_eq_true rfl)) dL_present_2 ⟨Nat.le_of_ble_eq_true rfl, Nat.le_of_ble_eq_true rfl⟩) hS (fun ho6 H locs hP hS => ?_) (fun ho6 ex7 ce8 H locs hq9 hv10 hc11 hP hS => ?_)
    · rw [if_pos ho6] at h
      refine lv_goto (tgt := 14) S.1 S.2.1 dL_present_5 (by decide) ?_
      refine lv_iconst (v := 0) S.1 S.2.1 dL_present_14 (by decide) ?_
      exact e_Wk S hr hlocks hP hS (Option.some.inj h) dL_present_15
    · rw [if_neg ho6] at h
      by_cases hk12 : o3 = 1
      · rw [if_pos hk12] at h
        subst hk12
        have hc11 : s.vm.findClass "java/lang/IllegalArgumentException" = some ce8.cls := hc11
        refine cx_catch (tgt := 8) (fun pl hpl => by rw [htab]; exact hxR_take hpl S.2.2.2.1 rfl (by decide) (S.2.2.2.2 (.classLink RL 13 "java/lang/IllegalArgumentException") (by decide +kernel)) hc11 (hX.2.2.1 (.castable "java/lang/IllegalArgumentException" "java/lang/IllegalArgumentException") (by decide +kernel)) rfl) hq9 hv10 (Vm.classAt_of_findClass hc11) ?_
        refine lv_astore_n (lv' := [(2, .ref ex7), (0, .ref (ad 0)), (1, .int p1)]) S.1 S.2.1 dL_present_8 rfl hl (by decide) rfl (fun ls hl => ?_)
        refine lv_iconst (v := 1) S.1 S.2.1 dL_present_9 (by decide) ?_
        exact e_Wk S hr hlocks hP hS (Option.some.inj h) dL_present_10
      · rw [if_neg hk12] at h
        by_cases hk13 : o3 = 2
        · rw [if_pos hk13] at h
          subst hk13
          have hc11 : s.vm.findClass "java/lang/IllegalStateException" = some ce8.cls := hc11
          refine cx_catch (tgt := 11) (fun pl hpl => by rw [htab]; exact hxR_pass hpl S.2.2.2.1 rfl (by decide) (S.2.2.2.2 (.classLink RL 13 "java/lang/IllegalArgumentException") (by decide +kernel)) hc11 (hC ("java/lang/IllegalStateException", "java/lang/IllegalArgumentException") (by decide +kernel)) (hxR_take hpl S.2.2.2.1 rfl (by decide) (S.2.2.2.2 (.classLink RL 15 "java/lang/IllegalStateException") (by decide +kernel)) hc11 (hX.2.2.1 (.castable "java/lang/IllegalStateException" "java/lang/IllegalStateException") (by decide +kernel)) rfl)) hq9 hv10 (Vm.classAt_of_findClass hc11) ?_
          refine lv_astore_n (lv' := [(2, .ref ex7), (0, .ref (ad 0)), (1, .int p1)]) S.1 S.2.1 dL_present_11 rfl hl (by decide) rfl (fun ls hl => ?_)
          refine lv_iconst (v := 2) S.1 S.2.1 dL_present_12 (by decide) ?_
          exact e_Wk S hr hlocks hP hS (Option.some.inj h) dL_present_13
        · rw [if_neg hk13] at h
          exact nomatch h
  rw [hH, hlocs] at goal0
  exact goal0

def m_L_file (g : Mem) (p1 p2 p3 : Int32) : Option (Mem × Int32) := (m_X2_file g p1 p2 p3).bind fun q1 => (if q1.2.1 = 0 then some (q1.1, 0) else (if q1.2.1 = 1 then some (q1.1, 1) else (if q1.2.1 = 2 then some (q1.1, 2) else none)))
def rm_L_file : Room := { frames := 7, cells := 1, slots := 6, locals := 105 }
set_option maxRecDepth 100000 in
set_option maxHeartbeats 4000000 in
theorem c_L_file {l : Launch} {D : va_G} {cA : Nat → ClassId} {ad : Nat → Nat} {lo : Nat} (hA : AdOk lo ad lay0.length) (hst : l.stackTraces = false) {g : Mem} {p1 p2 p3 : Int32} {g1 : Mem} {r : Int32} (h : m_L_file g p1 p2 p3 = some (g1, r)) : Met l yL_file wsL_file rm_L_file (Pz [.ref (ad 0), .int p1, .int p2, .int p3] D cA ad lo g) (Qw D cA ad lo g1 (some r)) 1 6 (fun q => lo ≤ q) := by
  refine startL (cc := cL_file) (maxL := 5) (ret := (some .int)) (by decide) rfl (Nat.le_of_ble_eq_true rfl) ?_
  intro p e s m args below meth c ls S hr hlocks htab hB hl
  obtain ⟨⟨⟨hlo, hP, hK, hN⟩, hX⟩, hC⟩ := hB
  have hS : va_S (fun q => lo ≤ q) s.heap s.heap [] := va_S.rf
  unfold m_L_file at h
  have S : CallFix p m c cL_file 5 s args wsL_file RL := S
  have hl : lv_has ls 5 [(0, .ref (ad 0)), (1, .int p1), (2, .int p2), (3, .int p3)] := hl
  obtain ⟨H, hH⟩ : ∃ H, H = s.heap := ⟨_, rfl⟩
  obtain ⟨locs, hlocs⟩ : ∃ z : List Loc, z = [] := ⟨_, rfl⟩
  rw [← hH] at hP
  have hS : va_S (fun q => lo ≤ q) s.heap H locs := by rw [hH, hlocs]; exact hS
  have goal0 : W p l e (rm_L_file) s m args below meth c H locs 0 0 (MQ below (Qw D cA ad lo g1 (some r)) args s 1 6 (fun q => lo ≤ q)) (F0 m 0 ls []) := by
    refine lv_aload_n S.1 S.2.1 dL_file_0 rfl (lv_at hl 0 rfl) ?_
    refine lv_iload_n S.1 S.2.1 dL_file_1 rfl (lv_at hl 1 rfl) ?_
    refine lv_iload_n S.1 S.2.1 dL_file_2 rfl (lv_at hl 2 rfl) ?_
    refine lv_iload_n S.1 S.2.1 dL_file_3 rfl (lv_at hl 3 rfl) ?_
    obtain ⟨⟨g_2, o3, r4⟩, h_5, h⟩ := bd_some h
    dsimp only at h
    refine k_T (vx_runV (As := [.int p1, .int p2, .int p3]) (rest := []) S (c_X2_file hA hst h_5) (cwV 3 S.2.2.2.2 gL_file_X2_file rfl rfl rfl (by decide +kernel) ⟨Nat.le_of_ble_eq_true rfl, Nat.le_of_ble_eq_true rfl⟩) ⟨Px_blind, va_recv hK hP (ci := 2) (q0 := 0) rfl (wld_at (d := dF) rfl), Px_at hlo hS hP hK hN hX⟩ rfl rfl hl.1 rfl (lv_room (Nat.le_of_ble_eq_true rfl)) dL_file_4 ⟨Nat.le_of_ble_eq_true rfl, Nat.le_of_ble_eq_true rfl⟩) hS (fun ho6 H locs hP hS => ?_) (fun ho6 ex7 ce8 H locs hq9 hv10 hc11 hP hS => ?_)
    · rw [if_pos ho6] at h
      refine lv_goto (tgt := 18) S.1 S.2.1 dL_file_7 (by decide) ?_
      refine lv_iconst (v := 0) S.1 S.2.1 dL_file_18 (by decide) ?_
      exact e_Wk S hr hlocks hP hS (Option.some.inj h) dL_file_19
    · rw [if_neg ho6] at h
      by_cases hk12 : o3 = 1
      · rw [if_pos hk12] at h
        subst hk12
        have hc11 : s.vm.findClass "java/lang/IllegalArgumentException" = some ce8.cls := hc11
        refine cx_catch (tgt := 10) (fun pl hpl => by rw [htab]; exact hxR_take hpl S.2.2.2.1 rfl (by decide) (S.2.2.2.2 (.classLink RL 13 "java/lang/IllegalArgumentException") (by decide +kernel)) hc11 (hX.2.2.1 (.castable "java/lang/IllegalArgumentException" "java/lang/IllegalArgumentException") (by decide +kernel)) rfl) hq9 hv10 (Vm.classAt_of_findClass hc11) ?_
        refine lv_astore (lv' := [(4, .ref ex7), (0, .ref (ad 0)), (1, .int p1), (2, .int p2), (3, .int p3)]) S.1 S.2.1 dL_file_10 hl (by decide) rfl (fun ls hl => ?_)
        refine lv_iconst (v := 1) S.1 S.2.1 dL_file_12 (by decide) ?_
        exact e_Wk S hr hlocks hP hS (Option.some.inj h) dL_file_13
      · rw [if_neg hk12] at h
        by_cases hk13 : o3 = 2
        · rw [if_pos hk13] at h
          subst hk13
          have hc11 : s.vm.findClass "java/lang/IllegalStateException" = some ce8.cls := hc11
          refine cx_catch (tgt := 14) (fun pl hpl => by rw [htab]; exact hxR_pass hpl S.2.2.2.1 rfl (by decide) (S.2.2.2.2 (.classLink RL 13 "java/lang/IllegalArgumentException") (by decide +kernel)) hc11 (hC ("java/lang/IllegalStateException", "java/lang/IllegalArgumentException") (by decide +kernel)) (hxR_take hpl S.2.2.2.1 rfl (by decide) (S.2.2.2.2 (.classLink RL 15 "java/lang/IllegalStateException") (by decide +kernel)) hc11 (hX.2.2.1 (.castable "java/lang/IllegalStateException" "java/lang/IllegalStateException") (by decide +kernel)) rfl)) hq9 hv10 (Vm.classAt_of_findClass hc11) ?_
          refine lv_astore (lv' := [(4, .ref ex7), (0, .ref (ad 0)), (1, .int p1), (2, .int p2), (3, .int p3)]) S.1 S.2.1 dL_file_14 hl (by decide) rfl (fun ls hl => ?_)
          refine lv_iconst (v := 2) S.1 S.2.1 dL_file_16 (by decide) ?_
          exact e_Wk S hr hlocks hP hS (Option.some.inj h) dL_file_17
        · rw [if_neg hk13] at h
          exact nomatch h
  rw [hH, hlocs] at goal0
  exact goal0

def m_L_depend (g : Mem) (p1 p2 p3 p4 p5 : Int32) : Option (Mem × Int32) := (m_X2_depend g p1 p2 p3 p4 p5).bind fun q1 => (if q1.2.1 = 0 then some ((mup q1.1 71 0 q1.2.2), 0) else (if q1.2.1 = 1 then some (q1.1, 1) else (if q1.2.1 = 2 then some (q1.1, 2) else none)))
def rm_L_depend : Room := { frames := 7, cells := 1, slots := 6, locals := 107 }
set_option maxRecDepth 100000 in
set_option maxHeartbeats 4000000 in
theorem c_L_depend {l : Launch} {D : va_G} {cA : Nat → ClassId} {ad : Nat → Nat} {lo : Nat} (hA : AdOk lo ad lay0.length) (hst : l.stackTraces = false) {g : Mem} {p1 p2 p3 p4 p5 : Int32} {g1 : Mem} {r : Int32} (h : m_L_depend g p1 p2 p3 p4 p5 = some (g1, r)) : Met l yL_depend wsL_depend rm_L_depend (Pz [.ref (ad 0), .int p1, .int p2, .int p3, .int p4, .int p5, .ref (ad 71)] D cA ad lo g) (Qw D cA ad lo g1 (some r)) 1 6 (fun q => lo ≤ q) := by
  refine startL (cc := cL_depend) (maxL := 8) (ret := (some .int)) (by decide) rfl (Nat.le_of_ble_eq_true rfl) ?_
  intro p e s m args below meth c ls S hr hlocks htab hB hl
  obtain ⟨⟨⟨hlo, hP, hK, hN⟩, hX⟩, hC⟩ := hB
  have hS : va_S (fun q => lo ≤ q) s.heap s.heap [] := va_S.rf
  unfold m_L_depend at h
  have S : CallFix p m c cL_depend 8 s args wsL_depend RL := S
  have hl : lv_has ls 8 [(0, .ref (ad 0)), (1, .int p1), (2, .int p2), (3, .int p3), (4, .int p4), (5, .int p5), (6, .ref (ad 71))] := hl
  obtain ⟨H, hH⟩ : ∃ H, H = s.heap := ⟨_, rfl⟩
  obtain ⟨locs, hlocs⟩ : ∃ z : List Loc, z = [] := ⟨_, rfl⟩
  rw [← hH] at hP
  have hS : va_S (fun q => lo ≤ q) s.heap H locs := by rw [hH, hlocs]; exact hS
  have goal0 : W p l e (rm_L_depend) s m args below meth c H locs 0 0 (MQ below (Qw D cA ad lo g1 (some r)) args s 1 6 (fun q => lo ≤ q)) (F0 m 0 ls []) := by
    refine lv_aload S.1 S.2.1 dL_depend_0 (lv_at hl 6 rfl) ?_
    refine lv_iconst (v := 0) S.1 S.2.1 dL_depend_2 (by decide) ?_
    refine lv_aload_n S.1 S.2.1 dL_depend_3 rfl (lv_at hl 0 rfl) ?_
    refine lv_iload_n S.1 S.2.1 dL_depend_4 rfl (lv_at hl 1 rfl) ?_
    refine lv_iload_n S.1 S.2.1 dL_depend_5 rfl (lv_at hl 2 rfl) ?_
    refine lv_iload_n S.1 S.2.1 dL_depend_6 rfl (lv_at hl 3 rfl) ?_
    refine lv_iload S.1 S.2.1 dL_depend_7 (lv_at hl 4 rfl) ?_
    refine lv_iload S.1 S.2.1 dL_depend_9 (lv_at hl 5 rfl) ?_
    obtain ⟨⟨g_2, o3, r4⟩, h_5, h⟩ := bd_some h
    dsimp only at h
    refine k_T (vx_runV (As := [.int p1, .int p2, .int p3, .int p4, .int p5]) (rest := [.int 0, .ref (ad 71)]) S (c_X2_depend hA hst h_5) (cwV 5 S.2.2.2.2 gL_depend_X2_depend rfl rfl rfl (by decide +kernel) ⟨Nat.le_of_ble_eq_true rfl, Nat.le_of_ble_eq_true rfl⟩) ⟨Px_blind, va_recv hK hP (ci := 2) (q0 := 0) rfl (wld_at (d := dF) rfl), Px_at hlo hS hP hK hN hX⟩ rfl rfl hl.1 rfl (lv_room (Nat.le_of_ble_eq_true rfl)) dL_depend_11 ⟨Nat.le_of_ble_eq_true rfl, Nat.le_of_ble_eq_true rfl⟩) hS (fun ho6 H locs hP hS => ?_) (fun ho6 ex7 ce8 H locs hq9 hv10 hc11 hP hS => ?_)
    · rw [if_pos ho6] at h
      refine lv_i2l (v := (r4).toInt64) S.1 S.2.1 dL_depend_14 rfl ?_
      refine r_lst (x := r4) S hA hK hP hS dL_depend_15 (fun H locs hP hS => ?_)
      refine lv_goto (tgt := 27) S.1 S.2.1 dL_depend_16 (by decide) ?_
      refine lv_iconst (v := 0) S.1 S.2.1 dL_depend_27 (by decide) ?_
      exact e_Wk S hr hlocks hP hS (Option.some.inj h) dL_depend_28
    · rw [if_neg ho6] at h
      by_cases hk12 : o3 = 1
      · rw [if_pos hk12] at h
        subst hk12
        have hc11 : s.vm.findClass "java/lang/IllegalArgumentException" = some ce8.cls := hc11
        refine cx_catch (tgt := 19) (fun pl hpl => by rw [htab]; exact hxR_take hpl S.2.2.2.1 rfl (by decide) (S.2.2.2.2 (.classLink RL 13 "java/lang/IllegalArgumentException") (by decide +kernel)) hc11 (hX.2.2.1 (.castable "java/lang/IllegalArgumentException" "java/lang/IllegalArgumentException") (by decide +kernel)) rfl) hq9 hv10 (Vm.classAt_of_findClass hc11) ?_
        refine lv_astore (lv' := [(7, .ref ex7), (0, .ref (ad 0)), (1, .int p1), (2, .int p2), (3, .int p3), (4, .int p4), (5, .int p5), (6, .ref (ad 71))]) S.1 S.2.1 dL_depend_19 hl (by decide) rfl (fun ls hl => ?_)
        refine lv_iconst (v := 1) S.1 S.2.1 dL_depend_21 (by decide) ?_
        exact e_Wk S hr hlocks hP hS (Option.some.inj h) dL_depend_22
      · rw [if_neg hk12] at h
        by_cases hk13 : o3 = 2
        · rw [if_pos hk13] at h
          subst hk13
          have hc11 : s.vm.findClass "java/lang/IllegalStateException" = some ce8.cls := hc11
          refine cx_catch (tgt := 23) (fun pl hpl => by rw [htab]; exact hxR_pass hpl S.2.2.2.1 rfl (by decide) (S.2.2.2.2 (.classLink RL 13 "java/lang/IllegalArgumentException") (by decide +kernel)) hc11 (hC ("java/lang/IllegalStateException", "java/lang/IllegalArgumentException") (by decide +kernel)) (hxR_take hpl S.2.2.2.1 rfl (by decide) (S.2.2.2.2 (.classLink RL 15 "java/lang/IllegalStateException") (by decide +kernel)) hc11 (hX.2.2.1 (.castable "java/lang/IllegalStateException" "java/lang/IllegalStateException") (by decide +kernel)) rfl)) hq9 hv10 (Vm.classAt_of_findClass hc11) ?_
          refine lv_astore (lv' := [(7, .ref ex7), (0, .ref (ad 0)), (1, .int p1), (2, .int p2), (3, .int p3), (4, .int p4), (5, .int p5), (6, .ref (ad 71))]) S.1 S.2.1 dL_depend_23 hl (by decide) rfl (fun ls hl => ?_)
          refine lv_iconst (v := 2) S.1 S.2.1 dL_depend_25 (by decide) ?_
          exact e_Wk S hr hlocks hP hS (Option.some.inj h) dL_depend_26
        · rw [if_neg hk13] at h
          exact nomatch h
  rw [hH, hlocs] at goal0
  exact goal0

def m_L_relink (g : Mem) (p1 : Int32) : Option (Mem × Int32) := (m_X2_relink g p1).bind fun q1 => (if q1.2.1 = 0 then some ((mup q1.1 71 0 q1.2.2), 0) else (if q1.2.1 = 1 then some (q1.1, 1) else none))
def rm_L_relink : Room := { frames := 7, cells := 1, slots := 6, locals := 104 }
set_option maxRecDepth 100000 in
set_option maxHeartbeats 4000000 in
theorem c_L_relink {l : Launch} {D : va_G} {cA : Nat → ClassId} {ad : Nat → Nat} {lo : Nat} (hA : AdOk lo ad lay0.length) (hst : l.stackTraces = false) {g : Mem} {p1 : Int32} {g1 : Mem} {r : Int32} (h : m_L_relink g p1 = some (g1, r)) : Met l yL_relink wsL_relink rm_L_relink (Pz [.ref (ad 0), .int p1, .ref (ad 71)] D cA ad lo g) (Qw D cA ad lo g1 (some r)) 1 6 (fun q => lo ≤ q) := by
  refine startL (cc := cL_relink) (maxL := 4) (ret := (some .int)) (by decide) rfl (Nat.le_of_ble_eq_true rfl) ?_
  intro p e s m args below meth c ls S hr hlocks htab hB hl
  obtain ⟨⟨⟨hlo, hP, hK, hN⟩, hX⟩, hC⟩ := hB
  have hS : va_S (fun q => lo ≤ q) s.heap s.heap [] := va_S.rf
  unfold m_L_relink at h
  have S : CallFix p m c cL_relink 4 s args wsL_relink RL := S
  have hl : lv_has ls 4 [(0, .ref (ad 0)), (1, .int p1), (2, .ref (ad 71))] := hl
  obtain ⟨H, hH⟩ : ∃ H, H = s.heap := ⟨_, rfl⟩
  obtain ⟨locs, hlocs⟩ : ∃ z : List Loc, z = [] := ⟨_, rfl⟩
  rw [← hH] at hP
  have hS : va_S (fun q => lo ≤ q) s.heap H locs := by rw [hH, hlocs]; exact hS
  have goal0 : W p l e (rm_L_relink) s m args below meth c H locs 0 0 (MQ below (Qw D cA ad lo g1 (some r)) args s 1 6 (fun q => lo ≤ q)) (F0 m 0 ls []) := by
    refine lv_aload_n S.1 S.2.1 dL_relink_0 rfl (lv_at hl 2 rfl) ?_
    refine lv_iconst (v := 0) S.1 S.2.1 dL_relink_1 (by decide) ?_
    refine lv_aload_n S.1 S.2.1 dL_relink_2 rfl (lv_at hl 0 rfl) ?_
    refine lv_iload_n S.1 S.2.1 dL_relink_3 rfl (lv_at hl 1 rfl) ?_
    obtain ⟨⟨g_2, o3, r4⟩, h_5, h⟩ := bd_some h
    dsimp only at h
    refine k_T (vx_runV (As := [.int p1]) (rest := [.int 0, .ref (ad 71)]) S (c_X2_relink hA hst h_5) (cwV 1 S.2.2.2.2 gL_relink_X2_relink rfl rfl rfl (by decide +kernel) ⟨Nat.le_of_ble_eq_true rfl, Nat.le_of_ble_eq_true rfl⟩) ⟨Px_blind, va_recv hK hP (ci := 2) (q0 := 0) rfl (wld_at (d := dF) rfl), Px_at hlo hS hP hK hN hX⟩ rfl rfl hl.1 rfl (lv_room (Nat.le_of_ble_eq_true rfl)) dL_relink_4 ⟨Nat.le_of_ble_eq_true rfl, Nat.le_of_ble_eq_true rfl⟩) hS (fun ho6 H locs hP hS => ?_) (fun ho6 ex7 ce8 H locs hq9 hv10 hc11 hP hS => ?_)
    · rw [if_pos ho6] at h
      refine lv_i2l (v := (r4).toInt64) S.1 S.2.1 dL_relink_7 rfl ?_
      refine r_lst (x := r4) S hA hK hP hS dL_relink_8 (fun H locs hP hS => ?_)
      refine lv_goto (tgt := 15) S.1 S.2.1 dL_relink_9 (by decide) ?_
      refine lv_iconst (v := 0) S.1 S.2.1 dL_relink_15 (by decide) ?_
      exact e_Wk S hr hlocks hP hS (Option.some.inj h) dL_relink_16
    · rw [if_neg ho6] at h
      by_cases hk12 : o3 = 1
      · rw [if_pos hk12] at h
        subst hk12
        have hc11 : s.vm.findClass "java/lang/IllegalArgumentException" = some ce8.cls := hc11
        refine cx_catch (tgt := 12) (fun pl hpl => by rw [htab]; exact hxR_take hpl S.2.2.2.1 rfl (by decide) (S.2.2.2.2 (.classLink RL 13 "java/lang/IllegalArgumentException") (by decide +kernel)) hc11 (hX.2.2.1 (.castable "java/lang/IllegalArgumentException" "java/lang/IllegalArgumentException") (by decide +kernel)) rfl) hq9 hv10 (Vm.classAt_of_findClass hc11) ?_
        refine lv_astore_n (lv' := [(3, .ref ex7), (0, .ref (ad 0)), (1, .int p1), (2, .ref (ad 71))]) S.1 S.2.1 dL_relink_12 rfl hl (by decide) rfl (fun ls hl => ?_)
        refine lv_iconst (v := 1) S.1 S.2.1 dL_relink_13 (by decide) ?_
        exact e_Wk S hr hlocks hP hS (Option.some.inj h) dL_relink_14
      · rw [if_neg hk12] at h
        exact nomatch h
  rw [hH, hlocs] at goal0
  exact goal0

def m_L_load (g : Mem) (p1 : Int32) : Option (Mem × Int32) := (m_X2_load g p1).bind fun q1 => (if q1.2.1 = 0 then some ((mup q1.1 71 0 q1.2.2), 0) else (if q1.2.1 = 1 then some (q1.1, 1) else (if q1.2.1 = 3 then some (q1.1, 2) else none)))
def rm_L_load : Room := { frames := 7, cells := 1, slots := 6, locals := 105 }
set_option maxRecDepth 100000 in
set_option maxHeartbeats 4000000 in
theorem c_L_load {l : Launch} {D : va_G} {cA : Nat → ClassId} {ad : Nat → Nat} {lo : Nat} (hA : AdOk lo ad lay0.length) (hst : l.stackTraces = false) {g : Mem} {p1 : Int32} {g1 : Mem} {r : Int32} (h : m_L_load g p1 = some (g1, r)) : Met l yL_load wvL_load rm_L_load (Pz [.ref (ad 0), .int p1, .ref (ad 71)] D cA ad lo g) (Qw D cA ad lo g1 (some r)) 1 6 (fun q => lo ≤ q) := by
  refine startL (cc := cL_load) (maxL := 4) (ret := (some .int)) (by decide) rfl (Nat.le_of_ble_eq_true rfl) ?_
  intro p e s m args below meth c ls S hr hlocks htab hB hl
  obtain ⟨⟨⟨hlo, hP, hK, hN⟩, hX⟩, hC⟩ := hB
  have hS : va_S (fun q => lo ≤ q) s.heap s.heap [] := va_S.rf
  unfold m_L_load at h
  have S : CallFix p m c cL_load 4 s args wvL_load RL := S
  have hl : lv_has ls 4 [(0, .ref (ad 0)), (1, .int p1), (2, .ref (ad 71))] := hl
  obtain ⟨H, hH⟩ : ∃ H, H = s.heap := ⟨_, rfl⟩
  obtain ⟨locs, hlocs⟩ : ∃ z : List Loc, z = [] := ⟨_, rfl⟩
  rw [← hH] at hP
  have hS : va_S (fun q => lo ≤ q) s.heap H locs := by rw [hH, hlocs]; exact hS
  have goal0 : W p l e (rm_L_load) s m args below meth c H locs 0 0 (MQ below (Qw D cA ad lo g1 (some r)) args s 1 6 (fun q => lo ≤ q)) (F0 m 0 ls []) := by
    refine lv_aload_n S.1 S.2.1 dL_load_0 rfl (lv_at hl 2 rfl) ?_
    refine lv_iconst (v := 0) S.1 S.2.1 dL_load_1 (by decide) ?_
    refine lv_aload_n S.1 S.2.1 dL_load_2 rfl (lv_at hl 0 rfl) ?_
    refine lv_iload_n S.1 S.2.1 dL_load_3 rfl (lv_at hl 1 rfl) ?_
    obtain ⟨⟨g_2, o3, r4⟩, h_5, h⟩ := bd_some h
    dsimp only at h
    refine k_T (vx_runV (As := [.int p1]) (rest := [.int 0, .ref (ad 71)]) S (c_X2_load hA hst h_5) (cwV 1 S.2.2.2.2 vgL_load_X2_load rfl rfl rfl (by decide +kernel) ⟨Nat.le_of_ble_eq_true rfl, Nat.le_of_ble_eq_true rfl⟩) ⟨Px_blind, va_recv hK hP (ci := 2) (q0 := 0) rfl (wld_at (d := dF) rfl), Px_at hlo hS hP hK hN hX⟩ rfl rfl hl.1 rfl (lv_room (Nat.le_of_ble_eq_true rfl)) dL_load_4 ⟨Nat.le_of_ble_eq_true rfl, Nat.le_of_ble_eq_true rfl⟩) hS (fun ho6 H locs hP hS => ?_) (fun ho6 ex7 ce8 H locs hq9 hv10 hc11 hP hS => ?_)
    · rw [if_pos ho6] at h
      refine lv_i2l (v := (r4).toInt64) S.1 S.2.1 dL_load_7 rfl ?_
      refine r_lst (x := r4) S hA hK hP hS dL_load_8 (fun H locs hP hS => ?_)
      refine lv_goto (tgt := 18) S.1 S.2.1 dL_load_9 (by decide) ?_
      refine lv_iconst (v := 0) S.1 S.2.1 dL_load_18 (by decide) ?_
      exact e_Wk S hr hlocks hP hS (Option.some.inj h) dL_load_19
    · rw [if_neg ho6] at h
      by_cases hk12 : o3 = 1
      · rw [if_pos hk12] at h
        subst hk12
        have hc11 : s.vm.findClass "java/lang/IllegalArgumentException" = some ce8.cls := hc11
        refine cx_catch (tgt := 12) (fun pl hpl => by rw [htab]; exact hxR_take hpl S.2.2.2.1 rfl (by decide) (S.2.2.2.2 (.classLink RL 13 "java/lang/IllegalArgumentException") (by decide +kernel)) hc11 (hX.2.2.1 (.castable "java/lang/IllegalArgumentException" "java/lang/IllegalArgumentException") (by decide +kernel)) rfl) hq9 hv10 (Vm.classAt_of_findClass hc11) ?_
        refine lv_astore_n (lv' := [(3, .ref ex7), (0, .ref (ad 0)), (1, .int p1), (2, .ref (ad 71))]) S.1 S.2.1 dL_load_12 rfl hl (by decide) rfl (fun ls hl => ?_)
        refine lv_iconst (v := 1) S.1 S.2.1 dL_load_13 (by decide) ?_
        exact e_Wk S hr hlocks hP hS (Option.some.inj h) dL_load_14
      · rw [if_neg hk12] at h
        by_cases hk13 : o3 = 3
        · rw [if_pos hk13] at h
          subst hk13
          have hc11 : s.vm.findClass "java/util/NoSuchElementException" = some ce8.cls := hc11
          refine cx_catch (tgt := 15) (fun pl hpl => by rw [htab]; exact hxR_pass hpl S.2.2.2.1 rfl (by decide) (S.2.2.2.2 (.classLink RL 13 "java/lang/IllegalArgumentException") (by decide +kernel)) hc11 (hC ("java/util/NoSuchElementException", "java/lang/IllegalArgumentException") (by decide +kernel)) (hxR_take hpl S.2.2.2.1 rfl (by decide) (S.2.2.2.2 (.classLink RL 32 "java/util/NoSuchElementException") (by decide +kernel)) hc11 (hX.2.2.1 (.castable "java/util/NoSuchElementException" "java/util/NoSuchElementException") (by decide +kernel)) rfl)) hq9 hv10 (Vm.classAt_of_findClass hc11) ?_
          refine lv_astore_n (lv' := [(3, .ref ex7), (0, .ref (ad 0)), (1, .int p1), (2, .ref (ad 71))]) S.1 S.2.1 dL_load_15 rfl hl (by decide) rfl (fun ls hl => ?_)
          refine lv_iconst (v := 2) S.1 S.2.1 dL_load_16 (by decide) ?_
          exact e_Wk S hr hlocks hP hS (Option.some.inj h) dL_load_17
        · rw [if_neg hk13] at h
          exact nomatch h
  rw [hH, hlocs] at goal0
  exact goal0

def m_L_unload (g : Mem) (p1 : Int32) : Option (Mem × Int32) := (m_X2_unload g p1).bind fun q1 => (if q1.2.1 = 0 then some ((mup q1.1 71 0 q1.2.2), 0) else (if q1.2.1 = 1 then some (q1.1, 1) else (if q1.2.1 = 2 then some (q1.1, 2) else none)))
def rm_L_unload : Room := { frames := 7, cells := 1, slots := 6, locals := 104 }
set_option maxRecDepth 100000 in
set_option maxHeartbeats 4000000 in
theorem c_L_unload {l : Launch} {D : va_G} {cA : Nat → ClassId} {ad : Nat → Nat} {lo : Nat} (hA : AdOk lo ad lay0.length) (hst : l.stackTraces = false) {g : Mem} {p1 : Int32} {g1 : Mem} {r : Int32} (h : m_L_unload g p1 = some (g1, r)) : Met l yL_unload wsL_unload rm_L_unload (Pz [.ref (ad 0), .int p1, .ref (ad 71)] D cA ad lo g) (Qw D cA ad lo g1 (some r)) 1 6 (fun q => lo ≤ q) := by
  refine startL (cc := cL_unload) (maxL := 4) (ret := (some .int)) (by decide) rfl (Nat.le_of_ble_eq_true rfl) ?_
  intro p e s m args below meth c ls S hr hlocks htab hB hl
  obtain ⟨⟨⟨hlo, hP, hK, hN⟩, hX⟩, hC⟩ := hB
  have hS : va_S (fun q => lo ≤ q) s.heap s.heap [] := va_S.rf
  unfold m_L_unload at h
  have S : CallFix p m c cL_unload 4 s args wsL_unload RL := S
  have hl : lv_has ls 4 [(0, .ref (ad 0)), (1, .int p1), (2, .ref (ad 71))] := hl
  obtain ⟨H, hH⟩ : ∃ H, H = s.heap := ⟨_, rfl⟩
  obtain ⟨locs, hlocs⟩ : ∃ z : List Loc, z = [] := ⟨_, rfl⟩
  rw [← hH] at hP
  have hS : va_S (fun q => lo ≤ q) s.heap H locs := by rw [hH, hlocs]; exact hS
  have goal0 : W p l e (rm_L_unload) s m args below meth c H locs 0 0 (MQ below (Qw D cA ad lo g1 (some r)) args s 1 6 (fun q => lo ≤ q)) (F0 m 0 ls []) := by
    refine lv_aload_n S.1 S.2.1 dL_unload_0 rfl (lv_at hl 2 rfl) ?_
    refine lv_iconst (v := 0) S.1 S.2.1 dL_unload_1 (by decide) ?_
    refine lv_aload_n S.1 S.2.1 dL_unload_2 rfl (lv_at hl 0 rfl) ?_
    refine lv_iload_n S.1 S.2.1 dL_unload_3 rfl (lv_at hl 1 rfl) ?_
    obtain ⟨⟨g_2, o3, r4⟩, h_5, h⟩ := bd_some h
    dsimp only at h
    refine k_T (vx_runV (As := [.int p1]) (rest := [.int 0, .ref (ad 71)]) S (c_X2_unload hA hst h_5) (cwV 1 S.2.2.2.2 gL_unload_X2_unload rfl rfl rfl (by decide +kernel) ⟨Nat.le_of_ble_eq_true rfl, Nat.le_of_ble_eq_true rfl⟩) ⟨Px_blind, va_recv hK hP (ci := 2) (q0 := 0) rfl (wld_at (d := dF) rfl), Px_at hlo hS hP hK hN hX⟩ rfl rfl hl.1 rfl (lv_room (Nat.le_of_ble_eq_true rfl)) dL_unload_4 ⟨Nat.le_of_ble_eq_true rfl, Nat.le_of_ble_eq_true rfl⟩) hS (fun ho6 H locs hP hS => ?_) (fun ho6 ex7 ce8 H locs hq9 hv10 hc11 hP hS => ?_)
    · rw [if_pos ho6] at h
      refine lv_i2l (v := (r4).toInt64) S.1 S.2.1 dL_unload_7 rfl ?_
      refine r_lst (x := r4) S hA hK hP hS dL_unload_8 (fun H locs hP hS => ?_)
      refine lv_goto (tgt := 18) S.1 S.2.1 dL_unload_9 (by decide) ?_
      refine lv_iconst (v := 0) S.1 S.2.1 dL_unload_18 (by decide) ?_
      exact e_Wk S hr hlocks hP hS (Option.some.inj h) dL_unload_19
    · rw [if_neg ho6] at h
      by_cases hk12 : o3 = 1
      · rw [if_pos hk12] at h
        subst hk12
        have hc11 : s.vm.findClass "java/lang/IllegalArgumentException" = some ce8.cls := hc11
        refine cx_catch (tgt := 12) (fun pl hpl => by rw [htab]; exact hxR_take hpl S.2.2.2.1 rfl (by decide) (S.2.2.2.2 (.classLink RL 13 "java/lang/IllegalArgumentException") (by decide +kernel)) hc11 (hX.2.2.1 (.castable "java/lang/IllegalArgumentException" "java/lang/IllegalArgumentException") (by decide +kernel)) rfl) hq9 hv10 (Vm.classAt_of_findClass hc11) ?_
        refine lv_astore_n (lv' := [(3, .ref ex7), (0, .ref (ad 0)), (1, .int p1), (2, .ref (ad 71))]) S.1 S.2.1 dL_unload_12 rfl hl (by decide) rfl (fun ls hl => ?_)
        refine lv_iconst (v := 1) S.1 S.2.1 dL_unload_13 (by decide) ?_
        exact e_Wk S hr hlocks hP hS (Option.some.inj h) dL_unload_14
      · rw [if_neg hk12] at h
        by_cases hk13 : o3 = 2
        · rw [if_pos hk13] at h
          subst hk13
          have hc11 : s.vm.findClass "java/lang/IllegalStateException" = some ce8.cls := hc11
          refine cx_catch (tgt := 15) (fun pl hpl => by rw [htab]; exact hxR_pass hpl S.2.2.2.1 rfl (by decide) (S.2.2.2.2 (.classLink RL 13 "java/lang/IllegalArgumentException") (by decide +kernel)) hc11 (hC ("java/lang/IllegalStateException", "java/lang/IllegalArgumentException") (by decide +kernel)) (hxR_take hpl S.2.2.2.1 rfl (by decide) (S.2.2.2.2 (.classLink RL 15 "java/lang/IllegalStateException") (by decide +kernel)) hc11 (hX.2.2.1 (.castable "java/lang/IllegalStateException" "java/lang/IllegalStateException") (by decide +kernel)) rfl)) hq9 hv10 (Vm.classAt_of_findClass hc11) ?_
          refine lv_astore_n (lv' := [(3, .ref ex7), (0, .ref (ad 0)), (1, .int p1), (2, .ref (ad 71))]) S.1 S.2.1 dL_unload_15 rfl hl (by decide) rfl (fun ls hl => ?_)
          refine lv_iconst (v := 2) S.1 S.2.1 dL_unload_16 (by decide) ?_
          exact e_Wk S hr hlocks hP hS (Option.some.inj h) dL_unload_17
        · rw [if_neg hk13] at h
          exact nomatch h
  rw [hH, hlocs] at goal0
  exact goal0

def m_L_find (g : Mem) (p1 p2 : Int32) : Option (Mem × Int32) := (m_X2_find g p1 p2).bind fun q1 => (if q1.2.1 = 0 then some ((mup q1.1 71 0 q1.2.2), 0) else (if q1.2.1 = 1 then some (q1.1, 1) else (if q1.2.1 = 2 then some (q1.1, 3) else (if q1.2.1 = 3 then some (q1.1, 2) else none))))
def rm_L_find : Room := { frames := 19, cells := 1, slots := 6, locals := 463 }
set_option maxRecDepth 100000 in
set_option maxHeartbeats 4000000 in
theorem c_L_find {l : Launch} {D : va_G} {cA : Nat → ClassId} {ad : Nat → Nat} {lo : Nat} (hA : AdOk lo ad lay0.length) (hst : l.stackTraces = false) {g : Mem} {p1 p2 : Int32} {g1 : Mem} {r : Int32} (h : m_L_find g p1 p2 = some (g1, r)) : Met l yL_find wvL_find rm_L_find (Pz [.ref (ad 0), .int p1, .int p2, .ref (ad 71)] D cA ad lo g) (Qw D cA ad lo g1 (some r)) 1 6 (fun q => lo ≤ q) := by
  refine startL (cc := cL_find) (maxL := 5) (ret := (some .int)) (by decide) rfl (Nat.le_of_ble_eq_true rfl) ?_
  intro p e s m args below meth c ls S hr hlocks htab hB hl
  obtain ⟨⟨⟨hlo, hP, hK, hN⟩, hX⟩, hC⟩ := hB
  have hS : va_S (fun q => lo ≤ q) s.heap s.heap [] := va_S.rf
  unfold m_L_find at h
  have S : CallFix p m c cL_find 5 s args wvL_find RL := S
  have hl : lv_has ls 5 [(0, .ref (ad 0)), (1, .int p1), (2, .int p2), (3, .ref (ad 71))] := hl
  obtain ⟨H, hH⟩ : ∃ H, H = s.heap := ⟨_, rfl⟩
  obtain ⟨locs, hlocs⟩ : ∃ z : List Loc, z = [] := ⟨_, rfl⟩
  rw [← hH] at hP
  have hS : va_S (fun q => lo ≤ q) s.heap H locs := by rw [hH, hlocs]; exact hS
  have goal0 : W p l e (rm_L_find) s m args below meth c H locs 0 0 (MQ below (Qw D cA ad lo g1 (some r)) args s 1 6 (fun q => lo ≤ q)) (F0 m 0 ls []) := by
    refine lv_aload_n S.1 S.2.1 dL_find_0 rfl (lv_at hl 3 rfl) ?_
    refine lv_iconst (v := 0) S.1 S.2.1 dL_find_1 (by decide) ?_
    refine lv_aload_n S.1 S.2.1 dL_find_2 rfl (lv_at hl 0 rfl) ?_
    refine lv_iload_n S.1 S.2.1 dL_find_3 rfl (lv_at hl 1 rfl) ?_
    refine lv_iload_n S.1 S.2.1 dL_find_4 rfl (lv_at hl 2 rfl) ?_
    obtain ⟨⟨g_2, o3, r4⟩, h_5, h⟩ := bd_some h
    dsimp only at h
    refine k_T (vx_runV (As := [.int p1, .int p2]) (rest := [.int 0, .ref (ad 71)]) S (c_X2_find hA hst h_5) (cwV 2 S.2.2.2.2 vgL_find_X2_find rfl rfl rfl (by decide +kernel) ⟨Nat.le_of_ble_eq_true rfl, Nat.le_of_ble_eq_true rfl⟩) ⟨Px_blind, va_recv hK hP (ci := 2) (q0 := 0) rfl (wld_at (d := dF) rfl), Px_at hlo hS hP hK hN hX⟩ rfl rfl hl.1 rfl (lv_room (Nat.le_of_ble_eq_true rfl)) dL_find_5 ⟨Nat.le_of_ble_eq_true rfl, Nat.le_of_ble_eq_true rfl⟩) hS (fun ho6 H locs hP hS => ?_) (fun ho6 ex7 ce8 H locs hq9 hv10 hc11 hP hS => ?_)
    · rw [if_pos ho6] at h
      refine lv_i2l (v := (r4).toInt64) S.1 S.2.1 dL_find_8 rfl ?_
      refine r_lst (x := r4) S hA hK hP hS dL_find_9 (fun H locs hP hS => ?_)
      refine lv_goto (tgt := 25) S.1 S.2.1 dL_find_10 (by decide) ?_
      refine lv_iconst (v := 0) S.1 S.2.1 dL_find_25 (by decide) ?_
      exact e_Wk S hr hlocks hP hS (Option.some.inj h) dL_find_26
    · rw [if_neg ho6] at h
      by_cases hk12 : o3 = 1
      · rw [if_pos hk12] at h
        subst hk12
        have hc11 : s.vm.findClass "java/lang/IllegalArgumentException" = some ce8.cls := hc11
        refine cx_catch (tgt := 13) (fun pl hpl => by rw [htab]; exact hxR_take hpl S.2.2.2.1 rfl (by decide) (S.2.2.2.2 (.classLink RL 13 "java/lang/IllegalArgumentException") (by decide +kernel)) hc11 (hX.2.2.1 (.castable "java/lang/IllegalArgumentException" "java/lang/IllegalArgumentException") (by decide +kernel)) rfl) hq9 hv10 (Vm.classAt_of_findClass hc11) ?_
        refine lv_astore (lv' := [(4, .ref ex7), (0, .ref (ad 0)), (1, .int p1), (2, .int p2), (3, .ref (ad 71))]) S.1 S.2.1 dL_find_13 hl (by decide) rfl (fun ls hl => ?_)
        refine lv_iconst (v := 1) S.1 S.2.1 dL_find_15 (by decide) ?_
        exact e_Wk S hr hlocks hP hS (Option.some.inj h) dL_find_16
      · rw [if_neg hk12] at h
        by_cases hk13 : o3 = 2
        · rw [if_pos hk13] at h
          subst hk13
          have hc11 : s.vm.findClass "java/lang/IllegalStateException" = some ce8.cls := hc11
          refine cx_catch (tgt := 21) (fun pl hpl => by rw [htab]; exact hxR_pass hpl S.2.2.2.1 rfl (by decide) (S.2.2.2.2 (.classLink RL 13 "java/lang/IllegalArgumentException") (by decide +kernel)) hc11 (hC ("java/lang/IllegalStateException", "java/lang/IllegalArgumentException") (by decide +kernel)) (hxR_pass hpl S.2.2.2.1 rfl (by decide) (S.2.2.2.2 (.classLink RL 32 "java/util/NoSuchElementException") (by decide +kernel)) hc11 (hC ("java/lang/IllegalStateException", "java/util/NoSuchElementException") (by decide +kernel)) (hxR_take hpl S.2.2.2.1 rfl (by decide) (S.2.2.2.2 (.classLink RL 15 "java/lang/IllegalStateException") (by decide +kernel)) hc11 (hX.2.2.1 (.castable "java/lang/IllegalStateException" "java/lang/IllegalStateException") (by decide +kernel)) rfl))) hq9 hv10 (Vm.classAt_of_findClass hc11) ?_
          refine lv_astore (lv' := [(4, .ref ex7), (0, .ref (ad 0)), (1, .int p1), (2, .int p2), (3, .ref (ad 71))]) S.1 S.2.1 dL_find_21 hl (by decide) rfl (fun ls hl => ?_)
          refine lv_iconst (v := 3) S.1 S.2.1 dL_find_23 (by decide) ?_
          exact e_Wk S hr hlocks hP hS (Option.some.inj h) dL_find_24
        · rw [if_neg hk13] at h
          by_cases hk14 : o3 = 3
          · rw [if_pos hk14] at h
            subst hk14
            have hc11 : s.vm.findClass "java/util/NoSuchElementException" = some ce8.cls := hc11
            refine cx_catch (tgt := 17) (fun pl hpl => by rw [htab]; exact hxR_pass hpl S.2.2.2.1 rfl (by decide) (S.2.2.2.2 (.classLink RL 13 "java/lang/IllegalArgumentException") (by decide +kernel)) hc11 (hC ("java/util/NoSuchElementException", "java/lang/IllegalArgumentException") (by decide +kernel)) (hxR_take hpl S.2.2.2.1 rfl (by decide) (S.2.2.2.2 (.classLink RL 32 "java/util/NoSuchElementException") (by decide +kernel)) hc11 (hX.2.2.1 (.castable "java/util/NoSuchElementException" "java/util/NoSuchElementException") (by decide +kernel)) rfl)) hq9 hv10 (Vm.classAt_of_findClass hc11) ?_
            refine lv_astore (lv' := [(4, .ref ex7), (0, .ref (ad 0)), (1, .int p1), (2, .int p2), (3, .ref (ad 71))]) S.1 S.2.1 dL_find_17 hl (by decide) rfl (fun ls hl => ?_)
            refine lv_iconst (v := 2) S.1 S.2.1 dL_find_19 (by decide) ?_
            exact e_Wk S hr hlocks hP hS (Option.some.inj h) dL_find_20
          · rw [if_neg hk14] at h
            exact nomatch h
  rw [hH, hlocs] at goal0
  exact goal0
