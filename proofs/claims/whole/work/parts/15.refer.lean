def m_X3_thrown (g : Mem) : Option Int32 := some (g 54 0)
def rm_X3_thrown : Room := { frames := 0, cells := 0, slots := 0, locals := 0 }
set_option maxRecDepth 100000 in
set_option maxHeartbeats 4000000 in
theorem c_X3_thrown {l : Launch} {D : va_G} {cA : Nat → ClassId} {ad : Nat → Nat} {lo : Nat} {g : Mem} {r : Int32} (h : m_X3_thrown g = some r) : Met l yX3_thrown wsX3_thrown rm_X3_thrown (Pw [.ref (ad 54)] D cA ad lo g) (Qr r) 0 0 (fun _ => False) := by
  refine startW (cc := cX3_thrown) (maxL := 1) (ret := (some .int)) (by decide) rfl (Nat.le_of_ble_eq_true rfl) ?_
  intro p e s m args below meth c ls S hr hlocks hB hl
  obtain ⟨hlo, hP, hK, hN⟩ := hB
  have hS : va_S (fun q => lo ≤ q) s.heap s.heap [] := va_S.rf
  unfold m_X3_thrown at h
  have S : CallFix p m c cX3_thrown 1 s args wsX3_thrown RX3 := S
  have hl : lv_has ls 1 [(0, .ref (ad 54))] := hl
  have hn3 : ∀ w ∈ wsX30, w ∈ wsX3_thrown := by decide +kernel
  have lk59 := S.2.2.2.2 (.fieldLink RX3 59 "FlatLoaderModel" "thrown" "I") (by decide +kernel)
  refine lv_aload_n S.1 S.2.1 dX3_thrown_0 rfl (lv_at hl 0 rfl) ?_
  refine r_get (C := RX3) (T := TX3) (N := 19) (ci := 3) (k := 54) (j := 0) (fs := fsX) (d := none) (v := .int (g 54 0)) S hK hP hn3 lk59 rfl (by decide) rfl rfl rfl dX3_thrown_1 ?_
  exact e_R S hr hlocks (Option.some.inj h) dX3_thrown_4

def m_X3_throwsBy (g : Mem) (p1 : Int32) : Option (Mem × Int32) := (if p1 ≤ 0 then some ((mup g 54 0 p1), 0) else some ((mup g 54 0 p1), 1))
def rm_X3_throwsBy : Room := { frames := 0, cells := 0, slots := 0, locals := 0 }
set_option maxRecDepth 100000 in
set_option maxHeartbeats 4000000 in
theorem c_X3_throwsBy {l : Launch} {D : va_G} {cA : Nat → ClassId} {ad : Nat → Nat} {lo : Nat} (hA : AdOk lo ad lay0.length) {g : Mem} {p1 : Int32} {g1 : Mem} {r : Int32} (h : m_X3_throwsBy g p1 = some (g1, r)) : Met l yX3_throwsBy wsX3_throwsBy rm_X3_throwsBy (Pw [.ref (ad 54), .int p1] D cA ad lo g) (Qw D cA ad lo g1 (some r)) 0 0 (fun q => lo ≤ q) := by
  refine startW (cc := cX3_throwsBy) (maxL := 2) (ret := (some .boolean)) (by decide) rfl (Nat.le_of_ble_eq_true rfl) ?_
  intro p e s m args below meth c ls S hr hlocks hB hl
  obtain ⟨hlo, hP, hK, hN⟩ := hB
  have hS : va_S (fun q => lo ≤ q) s.heap s.heap [] := va_S.rf
  unfold m_X3_throwsBy at h
  have S : CallFix p m c cX3_throwsBy 2 s args wsX3_throwsBy RX3 := S
  have hl : lv_has ls 2 [(0, .ref (ad 54)), (1, .int p1)] := hl
  have hn3 : ∀ w ∈ wsX30, w ∈ wsX3_throwsBy := by decide +kernel
  have lk59 := S.2.2.2.2 (.fieldLink RX3 59 "FlatLoaderModel" "thrown" "I") (by decide +kernel)
  obtain ⟨H, hH⟩ : ∃ H, H = s.heap := ⟨_, rfl⟩
  obtain ⟨locs, hlocs⟩ : ∃ z : List Loc, z = [] := ⟨_, rfl⟩
  rw [← hH] at hP
  have hS : va_S (fun q => lo ≤ q) s.heap H locs := by rw [hH, hlocs]; exact hS
  have goal0 : W p l e (rm_X3_throwsBy) s m args below meth c H locs 0 0 (MQ below (Qw D cA ad lo g1 (some r)) args s 0 0 (fun q => lo ≤ q)) (F0 m 0 ls []) := by
    refine lv_aload_n S.1 S.2.1 dX3_throwsBy_0 rfl (lv_at hl 0 rfl) ?_
    refine lv_iload_n S.1 S.2.1 dX3_throwsBy_1 rfl (lv_at hl 1 rfl) ?_
    refine r_put (C := RX3) (T := TX3) (N := 19) (ci := 3) (k := 54) (j := 0) (fs := fsX) (v := p1) tyX3 tyX3_ok nmX3 S hA hK hP hS hn3 lk59 rfl (by decide) rfl (by decide +kernel) rfl rfl dX3_throwsBy_2 (fun H locs hP hS => ?_)
    refine lv_iload_n S.1 S.2.1 dX3_throwsBy_5 rfl (lv_at hl 1 rfl) ?_
    refine lv_if_le (tgt := 13) S.1 S.2.1 dX3_throwsBy_6 (by decide) (fun hc1 => ?_) (fun hc1 => ?_)
    · rw [if_pos hc1] at h
      refine lv_iconst (v := 0) S.1 S.2.1 dX3_throwsBy_13 (by decide) ?_
      exact e_Wz S hr hlocks rfl hP hS (Option.some.inj h) dX3_throwsBy_14
    · rw [if_neg hc1] at h
      refine lv_iconst (v := 1) S.1 S.2.1 dX3_throwsBy_9 (by decide) ?_
      refine lv_goto (tgt := 14) S.1 S.2.1 dX3_throwsBy_10 (by decide) ?_
      exact e_Wz S hr hlocks rfl hP hS (Option.some.inj h) dX3_throwsBy_14
  rw [hH, hlocs] at goal0
  exact goal0

def m_X3_isPresent (g : Mem) (p1 : Int32) : Option Int32 := (if (m_X3_isModule p1) = 0 then some 0 else gi p1 8 ((if (g 55 (p1).toNatClampNeg) = 0 then some 0 else some 1)))
def rm_X3_isPresent : Room := { frames := 2, cells := 0, slots := 0, locals := 42 }
set_option maxRecDepth 100000 in
set_option maxHeartbeats 4000000 in
theorem c_X3_isPresent {l : Launch} {D : va_G} {cA : Nat → ClassId} {ad : Nat → Nat} {lo : Nat} {g : Mem} {p1 : Int32} {r : Int32} (h : m_X3_isPresent g p1 = some r) : Met l yX3_isPresent wsX3_isPresent rm_X3_isPresent (Pw [.ref (ad 54), .int p1] D cA ad lo g) (Qr r) 0 0 (fun _ => False) := by
  refine startW (cc := cX3_isPresent) (maxL := 2) (ret := (some .boolean)) (by decide) rfl (Nat.le_of_ble_eq_true rfl) ?_
  intro p e s m args below meth c ls S hr hlocks hB hl
  obtain ⟨hlo, hP, hK, hN⟩ := hB
  have hS : va_S (fun q => lo ≤ q) s.heap s.heap [] := va_S.rf
  unfold m_X3_isPresent at h
  have S : CallFix p m c cX3_isPresent 2 s args wsX3_isPresent RX3 := S
  have hl : lv_has ls 2 [(0, .ref (ad 54)), (1, .int p1)] := hl
  have hn3 : ∀ w ∈ wsX30, w ∈ wsX3_isPresent := by decide +kernel
  have lk7 := S.2.2.2.2 (.fieldLink RX3 7 "FlatLoaderModel" "present" "[Z") (by decide +kernel)
  refine lv_iload_n S.1 S.2.1 dX3_isPresent_0 rfl (lv_at hl 1 rfl) ?_
  refine k_R (r := (m_X3_isModule p1)) (va_runS (As := [.int p1]) (rest := []) S c_X3_isModule (va_cwS 1 S.2.2.2.2 gX3_isPresent_X3_isModule rfl rfl rfl (by decide +kernel) ⟨Nat.le_of_ble_eq_true rfl, Nat.le_of_ble_eq_true rfl⟩) ⟨Tr_blind, Tr_at⟩ rfl rfl hl.1 rfl (lv_room (Nat.le_of_ble_eq_true rfl)) dX3_isPresent_1 ⟨Nat.zero_le _, Nat.zero_le _⟩) ?_
  refine lv_if_eq (tgt := 20) S.1 S.2.1 dX3_isPresent_4 (by decide) (fun hc1 => ?_) (fun hc1 => ?_)
  · rw [if_pos hc1] at h
    refine lv_iconst (v := 0) S.1 S.2.1 dX3_isPresent_20 (by decide) ?_
    exact e_Rz S hr hlocks rfl (Option.some.inj h) dX3_isPresent_21
  · rw [if_neg hc1] at h
    refine lv_aload_n S.1 S.2.1 dX3_isPresent_7 rfl (lv_at hl 0 rfl) ?_
    refine r_get (C := RX3) (T := TX3) (N := 19) (ci := 3) (k := 54) (j := 1) (fs := fsX) (d := (some (some 55))) (v := .ref (ad 55)) S hK hP hn3 lk7 rfl (by decide) rfl rfl rfl dX3_isPresent_8 ?_
    refine lv_iload_n S.1 S.2.1 dX3_isPresent_11 rfl (lv_at hl 1 rfl) ?_
    obtain ⟨hv2, hv2b, h⟩ := gi_some h
    refine r_zld (k := 55) (n := 8) S hK hP rfl hv2 dX3_isPresent_12 ?_
    refine lv_if_eq (tgt := 20) S.1 S.2.1 dX3_isPresent_13 (by decide) (fun hc3 => ?_) (fun hc3 => ?_)
    · rw [if_pos hc3] at h
      refine lv_iconst (v := 0) S.1 S.2.1 dX3_isPresent_20 (by decide) ?_
      exact e_Rz S hr hlocks rfl (Option.some.inj h) dX3_isPresent_21
    · rw [if_neg hc3] at h
      refine lv_iconst (v := 1) S.1 S.2.1 dX3_isPresent_16 (by decide) ?_
      refine lv_goto (tgt := 21) S.1 S.2.1 dX3_isPresent_17 (by decide) ?_
      exact e_Rz S hr hlocks rfl (Option.some.inj h) dX3_isPresent_21

def m_X3_isLoaded (g : Mem) (p1 : Int32) : Option Int32 := (if (m_X3_isModule p1) = 0 then some 0 else gi p1 8 ((if (g 56 (p1).toNatClampNeg) = 0 then some 0 else some 1)))
def rm_X3_isLoaded : Room := { frames := 2, cells := 0, slots := 0, locals := 42 }
set_option maxRecDepth 100000 in
set_option maxHeartbeats 4000000 in
theorem c_X3_isLoaded {l : Launch} {D : va_G} {cA : Nat → ClassId} {ad : Nat → Nat} {lo : Nat} {g : Mem} {p1 : Int32} {r : Int32} (h : m_X3_isLoaded g p1 = some r) : Met l yX3_isLoaded wsX3_isLoaded rm_X3_isLoaded (Pw [.ref (ad 54), .int p1] D cA ad lo g) (Qr r) 0 0 (fun _ => False) := by
  refine startW (cc := cX3_isLoaded) (maxL := 2) (ret := (some .boolean)) (by decide) rfl (Nat.le_of_ble_eq_true rfl) ?_
  intro p e s m args below meth c ls S hr hlocks hB hl
  obtain ⟨hlo, hP, hK, hN⟩ := hB
  have hS : va_S (fun q => lo ≤ q) s.heap s.heap [] := va_S.rf
  unfold m_X3_isLoaded at h
  have S : CallFix p m c cX3_isLoaded 2 s args wsX3_isLoaded RX3 := S
  have hl : lv_has ls 2 [(0, .ref (ad 54)), (1, .int p1)] := hl
  have hn3 : ∀ w ∈ wsX30, w ∈ wsX3_isLoaded := by decide +kernel
  have lk13 := S.2.2.2.2 (.fieldLink RX3 13 "FlatLoaderModel" "loaded" "[Z") (by decide +kernel)
  refine lv_iload_n S.1 S.2.1 dX3_isLoaded_0 rfl (lv_at hl 1 rfl) ?_
  refine k_R (r := (m_X3_isModule p1)) (va_runS (As := [.int p1]) (rest := []) S c_X3_isModule (va_cwS 1 S.2.2.2.2 gX3_isLoaded_X3_isModule rfl rfl rfl (by decide +kernel) ⟨Nat.le_of_ble_eq_true rfl, Nat.le_of_ble_eq_true rfl⟩) ⟨Tr_blind, Tr_at⟩ rfl rfl hl.1 rfl (lv_room (Nat.le_of_ble_eq_true rfl)) dX3_isLoaded_1 ⟨Nat.zero_le _, Nat.zero_le _⟩) ?_
  refine lv_if_eq (tgt := 20) S.1 S.2.1 dX3_isLoaded_4 (by decide) (fun hc1 => ?_) (fun hc1 => ?_)
  · rw [if_pos hc1] at h
    refine lv_iconst (v := 0) S.1 S.2.1 dX3_isLoaded_20 (by decide) ?_
    exact e_Rz S hr hlocks rfl (Option.some.inj h) dX3_isLoaded_21
  · rw [if_neg hc1] at h
    refine lv_aload_n S.1 S.2.1 dX3_isLoaded_7 rfl (lv_at hl 0 rfl) ?_
    refine r_get (C := RX3) (T := TX3) (N := 19) (ci := 3) (k := 54) (j := 2) (fs := fsX) (d := (some (some 56))) (v := .ref (ad 56)) S hK hP hn3 lk13 rfl (by decide) rfl rfl rfl dX3_isLoaded_8 ?_
    refine lv_iload_n S.1 S.2.1 dX3_isLoaded_11 rfl (lv_at hl 1 rfl) ?_
    obtain ⟨hv2, hv2b, h⟩ := gi_some h
    refine r_zld (k := 56) (n := 8) S hK hP rfl hv2 dX3_isLoaded_12 ?_
    refine lv_if_eq (tgt := 20) S.1 S.2.1 dX3_isLoaded_13 (by decide) (fun hc3 => ?_) (fun hc3 => ?_)
    · rw [if_pos hc3] at h
      refine lv_iconst (v := 0) S.1 S.2.1 dX3_isLoaded_20 (by decide) ?_
      exact e_Rz S hr hlocks rfl (Option.some.inj h) dX3_isLoaded_21
    · rw [if_neg hc3] at h
      refine lv_iconst (v := 1) S.1 S.2.1 dX3_isLoaded_16 (by decide) ?_
      refine lv_goto (tgt := 21) S.1 S.2.1 dX3_isLoaded_17 (by decide) ?_
      exact e_Rz S hr hlocks rfl (Option.some.inj h) dX3_isLoaded_21

def m_X3_present_26 (p1 : Int32) (g : Mem) (s0 : Int32) : Option Mem := (m_X3_throwsBy g s0).bind fun qr1 => (if qr1.2 = 0 then gi p1 8 (some (mup qr1.1 55 (p1).toNatClampNeg (vp_nar .boolean 1))) else some qr1.1)
def m_X3_present (g : Mem) (p1 : Int32) : Option Mem := (if (m_X3_isModule p1) = 0 then m_X3_present_26 p1 (g) (1) else gi p1 8 ((if (g 55 (p1).toNatClampNeg) = 0 then m_X3_present_26 p1 (g) (0) else m_X3_present_26 p1 (g) (2))))
def rm_X3_present : Room := { frames := 2, cells := 0, slots := 0, locals := 42 }
set_option maxRecDepth 100000 in
set_option maxHeartbeats 4000000 in
theorem c_X3_present {l : Launch} {D : va_G} {cA : Nat → ClassId} {ad : Nat → Nat} {lo : Nat} (hA : AdOk lo ad lay0.length) {g : Mem} {p1 : Int32} {g1 : Mem} (h : m_X3_present g p1 = some g1) : Met l yX3_present wsX3_present rm_X3_present (Pw [.ref (ad 54), .int p1] D cA ad lo g) (Qw D cA ad lo g1 none) 0 0 (fun q => lo ≤ q) := by
  refine startW (cc := cX3_present) (maxL := 2) (ret := none) (by decide) rfl (Nat.le_of_ble_eq_true rfl) ?_
  intro p e s m args below meth c ls S hr hlocks hB hl
  obtain ⟨hlo, hP, hK, hN⟩ := hB
  have hS : va_S (fun q => lo ≤ q) s.heap s.heap [] := va_S.rf
  unfold m_X3_present at h
  have S : CallFix p m c cX3_present 2 s args wsX3_present RX3 := S
  have hl : lv_has ls 2 [(0, .ref (ad 54)), (1, .int p1)] := hl
  have hn3 : ∀ w ∈ wsX30, w ∈ wsX3_present := by decide +kernel
  have lk7 := S.2.2.2.2 (.fieldLink RX3 7 "FlatLoaderModel" "present" "[Z") (by decide +kernel)
  obtain ⟨H, hH⟩ : ∃ H, H = s.heap := ⟨_, rfl⟩
  obtain ⟨locs, hlocs⟩ : ∃ z : List Loc, z = [] := ⟨_, rfl⟩
  have key26 : ∀ (g : Mem) (H : Heap) (locs : List Loc), va_P D vwCl (wld cA ad g lay0) H → va_S (fun q => lo ≤ q) s.heap H locs → ∀ (s0 : Int32), ∀ (ls : Array Slot), lv_has ls 2 [(0, .ref (ad 54)), (1, .int p1)] → m_X3_present_26 p1 g s0 = some g1 → W p l e (rm_X3_present) s m args below meth c H locs 0 0 (MQ below (Qw D cA ad lo g1 none) args s 0 0 (fun q => lo ≤ q)) (F0 m 26 ls [.int s0, .ref (ad 54)]) := by
    intro g H locs hP hS s0 ls hl h
    unfold m_X3_present_26 at h
    obtain ⟨⟨g_3, r1⟩, h_2, h⟩ := bd_some h
    dsimp only at h
    refine k_Wi (va_runV (As := [.int s0]) (rest := []) S (c_X3_throwsBy hA h_2) (cwV 1 S.2.2.2.2 gX3_present_X3_throwsBy rfl rfl rfl (by decide +kernel) ⟨Nat.le_of_ble_eq_true rfl, Nat.le_of_ble_eq_true rfl⟩) ⟨Pw_blind, va_recv hK hP (ci := 3) (q0 := 54) rfl (wld_at (d := dX) rfl), Pw_at hlo hS hP hK hN⟩ rfl rfl hl.1 rfl (lv_room (Nat.le_of_ble_eq_true rfl)) dX3_present_26 ⟨Nat.zero_le _, Nat.zero_le _⟩) hS (fun H locs hP hS => ?_)
    refine lv_if_eq (tgt := 33) S.1 S.2.1 dX3_present_29 (by decide) (fun hc4 => ?_) (fun hc4 => ?_)
    · rw [if_pos hc4] at h
      refine lv_aload_n S.1 S.2.1 dX3_present_33 rfl (lv_at hl 0 rfl) ?_
      refine r_get (C := RX3) (T := TX3) (N := 19) (ci := 3) (k := 54) (j := 1) (fs := fsX) (d := (some (some 55))) (v := .ref (ad 55)) S hK hP hn3 lk7 rfl (by decide) rfl rfl rfl dX3_present_34 ?_
      refine lv_iload_n S.1 S.2.1 dX3_present_37 rfl (lv_at hl 1 rfl) ?_
      refine lv_iconst (v := 1) S.1 S.2.1 dX3_present_38 (by decide) ?_
      obtain ⟨hv5, hv5b, h⟩ := gi_some h
      refine r_zst (k := 55) (n := 8) S hA hK hP hS rfl hv5 dX3_present_39 (fun H locs hP hS => ?_)
      exact e_Wv S hr hlocks hP hS (Option.some.inj h) dX3_present_40
    · rw [if_neg hc4] at h
      exact e_Wv S hr hlocks hP hS (Option.some.inj h) dX3_present_32
  rw [← hH] at hP
  have hS : va_S (fun q => lo ≤ q) s.heap H locs := by rw [hH, hlocs]; exact hS
  have goal0 : W p l e (rm_X3_present) s m args below meth c H locs 0 0 (MQ below (Qw D cA ad lo g1 none) args s 0 0 (fun q => lo ≤ q)) (F0 m 0 ls []) := by
    refine lv_aload_n S.1 S.2.1 dX3_present_0 rfl (lv_at hl 0 rfl) ?_
    refine lv_iload_n S.1 S.2.1 dX3_present_1 rfl (lv_at hl 1 rfl) ?_
    refine k_R (r := (m_X3_isModule p1)) (va_runS (As := [.int p1]) (rest := [.ref (ad 54)]) S c_X3_isModule (va_cwS 1 S.2.2.2.2 gX3_present_X3_isModule rfl rfl rfl (by decide +kernel) ⟨Nat.le_of_ble_eq_true rfl, Nat.le_of_ble_eq_true rfl⟩) ⟨Tr_blind, Tr_at⟩ rfl rfl hl.1 rfl (lv_room (Nat.le_of_ble_eq_true rfl)) dX3_present_2 ⟨Nat.zero_le _, Nat.zero_le _⟩) ?_
    refine lv_if_ne (tgt := 12) S.1 S.2.1 dX3_present_5 (by decide) (fun hc6 => ?_) (fun hc6 => ?_)
    · rw [if_neg hc6] at h
      refine lv_aload_n S.1 S.2.1 dX3_present_12 rfl (lv_at hl 0 rfl) ?_
      refine r_get (C := RX3) (T := TX3) (N := 19) (ci := 3) (k := 54) (j := 1) (fs := fsX) (d := (some (some 55))) (v := .ref (ad 55)) S hK hP hn3 lk7 rfl (by decide) rfl rfl rfl dX3_present_13 ?_
      refine lv_iload_n S.1 S.2.1 dX3_present_16 rfl (lv_at hl 1 rfl) ?_
      obtain ⟨hv7, hv7b, h⟩ := gi_some h
      refine r_zld (k := 55) (n := 8) S hK hP rfl hv7 dX3_present_17 ?_
      refine lv_if_eq (tgt := 25) S.1 S.2.1 dX3_present_18 (by decide) (fun hc8 => ?_) (fun hc8 => ?_)
      · rw [if_pos hc8] at h
        refine lv_iconst (v := 0) S.1 S.2.1 dX3_present_25 (by decide) ?_
        exact key26 (g) H locs hP hS (0) ls (lv_sub hl [0, 1] rfl) h
      · rw [if_neg hc8] at h
        refine lv_iconst (v := 2) S.1 S.2.1 dX3_present_21 (by decide) ?_
        refine lv_goto (tgt := 26) S.1 S.2.1 dX3_present_22 (by decide) ?_
        exact key26 (g) H locs hP hS (2) ls (lv_sub hl [0, 1] rfl) h
    · rw [if_pos hc6] at h
      refine lv_iconst (v := 1) S.1 S.2.1 dX3_present_8 (by decide) ?_
      refine lv_goto (tgt := 26) S.1 S.2.1 dX3_present_9 (by decide) ?_
      exact key26 (g) H locs hP hS (1) ls (lv_sub hl [0, 1] rfl) h
  rw [hH, hlocs] at goal0
  exact goal0

def m_X3_file_76 (p1 p2 p3 : Int32) (g : Mem) (x4 s0 : Int32) : Option Mem := (m_X3_throwsBy g s0).bind fun qr1 => (if qr1.2 = 0 then gi ((24 * p1) + p2) 192 (some (mup qr1.1 58 (((24 * p1) + p2)).toNatClampNeg p3)) else some qr1.1)
def m_X3_file_34 (p1 p2 p3 : Int32) (g : Mem) (s0 : Int32) : Option Mem := (if s0 = 0 then m_X3_file_76 p1 p2 p3 (g) (s0) (1) else gi p1 8 ((if (g 56 (p1).toNatClampNeg) = 0 then gi ((24 * p1) + p2) 192 ((if (g 58 (((24 * p1) + p2)).toNatClampNeg) = (-3) then m_X3_file_76 p1 p2 p3 (g) (s0) (0) else m_X3_file_76 p1 p2 p3 (g) (s0) (2))) else m_X3_file_76 p1 p2 p3 (g) (s0) (2))))
def m_X3_file (g : Mem) (p1 p2 p3 : Int32) : Option Mem := (m_X3_isPresent g p1).bind fun r11 => (if r11 = 0 then m_X3_file_34 p1 p2 p3 (g) (0) else (if (m_X3_in p2 0 23) = 0 then m_X3_file_34 p1 p2 p3 (g) (0) else (if (m_X3_in p3 (-2) 23) = 0 then m_X3_file_34 p1 p2 p3 (g) (0) else m_X3_file_34 p1 p2 p3 (g) (1))))
def rm_X3_file : Room := { frames := 3, cells := 0, slots := 0, locals := 63 }
set_option maxRecDepth 100000 in
set_option maxHeartbeats 4000000 in
theorem c_X3_file {l : Launch} {D : va_G} {cA : Nat → ClassId} {ad : Nat → Nat} {lo : Nat} (hA : AdOk lo ad lay0.length) {g : Mem} {p1 p2 p3 : Int32} {g1 : Mem} (h : m_X3_file g p1 p2 p3 = some g1) : Met l yX3_file wsX3_file rm_X3_file (Pw [.ref (ad 54), .int p1, .int p2, .int p3] D cA ad lo g) (Qw D cA ad lo g1 none) 0 0 (fun q => lo ≤ q) := by
  refine startW (cc := cX3_file) (maxL := 5) (ret := none) (by decide) rfl (Nat.le_of_ble_eq_true rfl) ?_
  intro p e s m args below meth c ls S hr hlocks hB hl
  obtain ⟨hlo, hP, hK, hN⟩ := hB
  have hS : va_S (fun q => lo ≤ q) s.heap s.heap [] := va_S.rf
  unfold m_X3_file at h
  have S : CallFix p m c cX3_file 5 s args wsX3_file RX3 := S
  have hl : lv_has ls 5 [(0, .ref (ad 54)), (1, .int p1), (2, .int p2), (3, .int p3)] := hl
  have hn3 : ∀ w ∈ wsX30, w ∈ wsX3_file := by decide +kernel
  have lk13 := S.2.2.2.2 (.fieldLink RX3 13 "FlatLoaderModel" "loaded" "[Z") (by decide +kernel)
  have lk19 := S.2.2.2.2 (.fieldLink RX3 19 "FlatLoaderModel" "files" "[I") (by decide +kernel)
  obtain ⟨H, hH⟩ : ∃ H, H = s.heap := ⟨_, rfl⟩
  obtain ⟨locs, hlocs⟩ : ∃ z : List Loc, z = [] := ⟨_, rfl⟩
  have key76 : ∀ (g : Mem) (H : Heap) (locs : List Loc), va_P D vwCl (wld cA ad g lay0) H → va_S (fun q => lo ≤ q) s.heap H locs → ∀ (x4 s0 : Int32), ∀ (ls : Array Slot), lv_has ls 5 [(0, .ref (ad 54)), (1, .int p1), (2, .int p2), (3, .int p3), (4, .int x4)] → m_X3_file_76 p1 p2 p3 g x4 s0 = some g1 → W p l e (rm_X3_file) s m args below meth c H locs 0 0 (MQ below (Qw D cA ad lo g1 none) args s 0 0 (fun q => lo ≤ q)) (F0 m 76 ls [.int s0, .ref (ad 54)]) := by
    intro g H locs hP hS x4 s0 ls hl h
    unfold m_X3_file_76 at h
    obtain ⟨⟨g_3, r1⟩, h_2, h⟩ := bd_some h
    dsimp only at h
    refine k_Wi (va_runV (As := [.int s0]) (rest := []) S (c_X3_throwsBy hA h_2) (cwV 1 S.2.2.2.2 gX3_file_X3_throwsBy rfl rfl rfl (by decide +kernel) ⟨Nat.le_of_ble_eq_true rfl, Nat.le_of_ble_eq_true rfl⟩) ⟨Pw_blind, va_recv hK hP (ci := 3) (q0 := 54) rfl (wld_at (d := dX) rfl), Pw_at hlo hS hP hK hN⟩ rfl rfl hl.1 rfl (lv_room (Nat.le_of_ble_eq_true rfl)) dX3_file_76 ⟨Nat.zero_le _, Nat.zero_le _⟩) hS (fun H locs hP hS => ?_)
    refine lv_if_eq (tgt := 83) S.1 S.2.1 dX3_file_79 (by decide) (fun hc4 => ?_) (fun hc4 => ?_)
    · rw [if_pos hc4] at h
      refine lv_aload_n S.1 S.2.1 dX3_file_83 rfl (lv_at hl 0 rfl) ?_
      refine r_get (C := RX3) (T := TX3) (N := 19) (ci := 3) (k := 54) (j := 4) (fs := fsX) (d := (some (some 58))) (v := .ref (ad 58)) S hK hP hn3 lk19 rfl (by decide) rfl rfl rfl dX3_file_84 ?_
      refine lv_bipush (v := 24) S.1 S.2.1 dX3_file_87 (by decide) ?_
      refine lv_iload_n S.1 S.2.1 dX3_file_89 rfl (lv_at hl 1 rfl) ?_
      refine lv_imul S.1 S.2.1 dX3_file_90 ?_
      refine lv_iload_n S.1 S.2.1 dX3_file_91 rfl (lv_at hl 2 rfl) ?_
      refine lv_iadd S.1 S.2.1 dX3_file_92 ?_
      refine lv_iload_n S.1 S.2.1 dX3_file_93 rfl (lv_at hl 3 rfl) ?_
      obtain ⟨hv5, hv5b, h⟩ := gi_some h
      refine r_ist (k := 58) (n := 192) S hA hK hP hS rfl hv5 dX3_file_94 (fun H locs hP hS => ?_)
      exact e_Wv S hr hlocks hP hS (Option.some.inj h) dX3_file_95
    · rw [if_neg hc4] at h
      exact e_Wv S hr hlocks hP hS (Option.some.inj h) dX3_file_82
  have key34 : ∀ (g : Mem) (H : Heap) (locs : List Loc), va_P D vwCl (wld cA ad g lay0) H → va_S (fun q => lo ≤ q) s.heap H locs → ∀ (s0 : Int32), ∀ (ls : Array Slot), lv_has ls 5 [(0, .ref (ad 54)), (1, .int p1), (2, .int p2), (3, .int p3)] → m_X3_file_34 p1 p2 p3 g s0 = some g1 → W p l e (rm_X3_file) s m args below meth c H locs 0 0 (MQ below (Qw D cA ad lo g1 none) args s 0 0 (fun q => lo ≤ q)) (F0 m 34 ls [.int s0]) := by
    intro g H locs hP hS s0 ls hl h
    unfold m_X3_file_34 at h
    refine lv_istore (lv' := [(4, .int s0), (0, .ref (ad 54)), (1, .int p1), (2, .int p2), (3, .int p3)]) S.1 S.2.1 dX3_file_34 hl (by decide) rfl (fun ls hl => ?_)
    refine lv_aload_n S.1 S.2.1 dX3_file_36 rfl (lv_at hl 1 rfl) ?_
    refine lv_iload S.1 S.2.1 dX3_file_37 (lv_at hl 0 rfl) ?_
    refine lv_if_ne (tgt := 46) S.1 S.2.1 dX3_file_39 (by decide) (fun hc6 => ?_) (fun hc6 => ?_)
    · rw [if_neg hc6] at h
      refine lv_aload_n S.1 S.2.1 dX3_file_46 rfl (lv_at hl 1 rfl) ?_
      refine r_get (C := RX3) (T := TX3) (N := 19) (ci := 3) (k := 54) (j := 2) (fs := fsX) (d := (some (some 56))) (v := .ref (ad 56)) S hK hP hn3 lk13 rfl (by decide) rfl rfl rfl dX3_file_47 ?_
      refine lv_iload_n S.1 S.2.1 dX3_file_50 rfl (lv_at hl 2 rfl) ?_
      obtain ⟨hv7, hv7b, h⟩ := gi_some h
      refine r_zld (k := 56) (n := 8) S hK hP rfl hv7 dX3_file_51 ?_
      refine lv_if_ne (tgt := 71) S.1 S.2.1 dX3_file_52 (by decide) (fun hc8 => ?_) (fun hc8 => ?_)
      · rw [if_neg hc8] at h
        refine lv_iconst (v := 2) S.1 S.2.1 dX3_file_71 (by decide) ?_
        refine lv_goto (tgt := 76) S.1 S.2.1 dX3_file_72 (by decide) ?_
        exact key76 (g) H locs hP hS (s0) (2) ls (lv_sub hl [1, 2, 3, 4, 0] rfl) h
      · rw [if_pos hc8] at h
        refine lv_aload_n S.1 S.2.1 dX3_file_55 rfl (lv_at hl 1 rfl) ?_
        refine r_get (C := RX3) (T := TX3) (N := 19) (ci := 3) (k := 54) (j := 4) (fs := fsX) (d := (some (some 58))) (v := .ref (ad 58)) S hK hP hn3 lk19 rfl (by decide) rfl rfl rfl dX3_file_56 ?_
        refine lv_bipush (v := 24) S.1 S.2.1 dX3_file_59 (by decide) ?_
        refine lv_iload_n S.1 S.2.1 dX3_file_61 rfl (lv_at hl 2 rfl) ?_
        refine lv_imul S.1 S.2.1 dX3_file_62 ?_
        refine lv_iload_n S.1 S.2.1 dX3_file_63 rfl (lv_at hl 3 rfl) ?_
        refine lv_iadd S.1 S.2.1 dX3_file_64 ?_
        obtain ⟨hv9, hv9b, h⟩ := gi_some h
        refine r_ild (k := 58) (n := 192) S hK hP rfl hv9 dX3_file_65 ?_
        refine lv_bipush (v := (-3)) S.1 S.2.1 dX3_file_66 (by decide) ?_
        refine lv_icmp_eq (tgt := 75) S.1 S.2.1 dX3_file_68 (by decide) (fun hc10 => ?_) (fun hc10 => ?_)
        · rw [if_pos hc10] at h
          refine lv_iconst (v := 0) S.1 S.2.1 dX3_file_75 (by decide) ?_
          exact key76 (g) H locs hP hS (s0) (0) ls (lv_sub hl [1, 2, 3, 4, 0] rfl) h
        · rw [if_neg hc10] at h
          refine lv_iconst (v := 2) S.1 S.2.1 dX3_file_71 (by decide) ?_
          refine lv_goto (tgt := 76) S.1 S.2.1 dX3_file_72 (by decide) ?_
          exact key76 (g) H locs hP hS (s0) (2) ls (lv_sub hl [1, 2, 3, 4, 0] rfl) h
    · rw [if_pos hc6] at h
      refine lv_iconst (v := 1) S.1 S.2.1 dX3_file_42 (by decide) ?_
      refine lv_goto (tgt := 76) S.1 S.2.1 dX3_file_43 (by decide) ?_
      exact key76 (g) H locs hP hS (s0) (1) ls (lv_sub hl [1, 2, 3, 4, 0] rfl) h
  rw [← hH] at hP
  have hS : va_S (fun q => lo ≤ q) s.heap H locs := by rw [hH, hlocs]; exact hS
  have goal0 : W p l e (rm_X3_file) s m args below meth c H locs 0 0 (MQ below (Qw D cA ad lo g1 none) args s 0 0 (fun q => lo ≤ q)) (F0 m 0 ls []) := by
    refine lv_aload_n S.1 S.2.1 dX3_file_0 rfl (lv_at hl 0 rfl) ?_
    refine lv_iload_n S.1 S.2.1 dX3_file_1 rfl (lv_at hl 1 rfl) ?_
    obtain ⟨r11, h_12, h⟩ := bd_some h
    refine k_R (r := r11) (va_runV (As := [.int p1]) (rest := []) S (c_X3_isPresent h_12) (cwV 1 S.2.2.2.2 gX3_file_X3_isPresent rfl rfl rfl (by decide +kernel) ⟨Nat.le_of_ble_eq_true rfl, Nat.le_of_ble_eq_true rfl⟩) ⟨Pw_blind, va_recv hK hP (ci := 3) (q0 := 54) rfl (wld_at (d := dX) rfl), Pw_at hlo hS hP hK hN⟩ rfl rfl hl.1 rfl (lv_room (Nat.le_of_ble_eq_true rfl)) dX3_file_2 ⟨Nat.zero_le _, Nat.zero_le _⟩) ?_
    refine lv_if_eq (tgt := 33) S.1 S.2.1 dX3_file_5 (by decide) (fun hc13 => ?_) (fun hc13 => ?_)
    · rw [if_pos hc13] at h
      refine lv_iconst (v := 0) S.1 S.2.1 dX3_file_33 (by decide) ?_
      exact key34 (g) H locs hP hS (0) ls (lv_sub hl [0, 1, 2, 3] rfl) h
    · rw [if_neg hc13] at h
      refine lv_iload_n S.1 S.2.1 dX3_file_8 rfl (lv_at hl 2 rfl) ?_
      refine lv_iconst (v := 0) S.1 S.2.1 dX3_file_9 (by decide) ?_
      refine lv_bipush (v := 23) S.1 S.2.1 dX3_file_10 (by decide) ?_
      refine k_R (r := (m_X3_in p2 0 23)) (va_runS (As := [.int p2, .int 0, .int 23]) (rest := []) S c_X3_in (va_cwS 3 S.2.2.2.2 gX3_file_X3_in rfl rfl rfl (by decide +kernel) ⟨Nat.le_of_ble_eq_true rfl, Nat.le_of_ble_eq_true rfl⟩) ⟨Tr_blind, Tr_at⟩ rfl rfl hl.1 rfl (lv_room (Nat.le_of_ble_eq_true rfl)) dX3_file_12 ⟨Nat.zero_le _, Nat.zero_le _⟩) ?_
      refine lv_if_eq (tgt := 33) S.1 S.2.1 dX3_file_15 (by decide) (fun hc14 => ?_) (fun hc14 => ?_)
      · rw [if_pos hc14] at h
        refine lv_iconst (v := 0) S.1 S.2.1 dX3_file_33 (by decide) ?_
        exact key34 (g) H locs hP hS (0) ls (lv_sub hl [0, 1, 2, 3] rfl) h
      · rw [if_neg hc14] at h
        refine lv_iload_n S.1 S.2.1 dX3_file_18 rfl (lv_at hl 3 rfl) ?_
        refine lv_bipush (v := (-2)) S.1 S.2.1 dX3_file_19 (by decide) ?_
        refine lv_bipush (v := 23) S.1 S.2.1 dX3_file_21 (by decide) ?_
        refine k_R (r := (m_X3_in p3 (-2) 23)) (va_runS (As := [.int p3, .int (-2), .int 23]) (rest := []) S c_X3_in (va_cwS 3 S.2.2.2.2 gX3_file_X3_in rfl rfl rfl (by decide +kernel) ⟨Nat.le_of_ble_eq_true rfl, Nat.le_of_ble_eq_true rfl⟩) ⟨Tr_blind, Tr_at⟩ rfl rfl hl.1 rfl (lv_room (Nat.le_of_ble_eq_true rfl)) dX3_file_23 ⟨Nat.zero_le _, Nat.zero_le _⟩) ?_
        refine lv_if_eq (tgt := 33) S.1 S.2.1 dX3_file_26 (by decide) (fun hc15 => ?_) (fun hc15 => ?_)
        · rw [if_pos hc15] at h
          refine lv_iconst (v := 0) S.1 S.2.1 dX3_file_33 (by decide) ?_
          exact key34 (g) H locs hP hS (0) ls (lv_sub hl [0, 1, 2, 3] rfl) h
        · rw [if_neg hc15] at h
          refine lv_iconst (v := 1) S.1 S.2.1 dX3_file_29 (by decide) ?_
          refine lv_goto (tgt := 34) S.1 S.2.1 dX3_file_30 (by decide) ?_
          exact key34 (g) H locs hP hS (1) ls (lv_sub hl [0, 1, 2, 3] rfl) h
  rw [hH, hlocs] at goal0
  exact goal0

def m_X3_depend_157 (p1 p2 p3 p4 p5 : Int32) (g : Mem) (x6 x7 x8 s0 s1 : Int32) : Option (Mem × Int32) := gi s1 48 (gi x8 48 (gi x8 48 (gi x8 48 (gi p1 8 (gi p1 8 (gi p1 8 (some ((mup (mup (mup (mup (mup g 61 (s1).toNatClampNeg s0) 62 (x8).toNatClampNeg p3) 63 (x8).toNatClampNeg p4) 64 (x8).toNatClampNeg (vp_nar .boolean p5)) 60 (p1).toNatClampNeg (((mup (mup (mup (mup g 61 (s1).toNatClampNeg s0) 62 (x8).toNatClampNeg p3) 63 (x8).toNatClampNeg p4) 64 (x8).toNatClampNeg (vp_nar .boolean p5)) 60 (p1).toNatClampNeg) + 1)), ((mup (mup (mup (mup (mup g 61 (s1).toNatClampNeg s0) 62 (x8).toNatClampNeg p3) 63 (x8).toNatClampNeg p4) 64 (x8).toNatClampNeg (vp_nar .boolean p5)) 60 (p1).toNatClampNeg (((mup (mup (mup (mup g 61 (s1).toNatClampNeg s0) 62 (x8).toNatClampNeg p3) 63 (x8).toNatClampNeg p4) 64 (x8).toNatClampNeg (vp_nar .boolean p5)) 60 (p1).toNatClampNeg) + 1)) 60 (p1).toNatClampNeg)))))))))
def m_X3_depend_121 (p1 p2 p3 p4 p5 : Int32) (g : Mem) (x6 x7 s0 : Int32) : Option (Mem × Int32) := (m_X3_throwsBy g s0).bind fun qr8 => (if qr8.2 = 0 then gi p1 8 ((if 0 ≤ p2 then m_X3_depend_157 p1 p2 p3 p4 p5 (qr8.1) (x6) (x7) (((6 * p1) + (qr8.1 60 (p1).toNatClampNeg))) (p2) (((6 * p1) + (qr8.1 60 (p1).toNatClampNeg))) else m_X3_depend_157 p1 p2 p3 p4 p5 (qr8.1) (x6) (x7) (((6 * p1) + (qr8.1 60 (p1).toNatClampNeg))) (p1) (((6 * p1) + (qr8.1 60 (p1).toNatClampNeg))))) else some (qr8.1, 0))
def m_X3_depend_88 (p1 p2 p3 p4 p5 : Int32) (g : Mem) (x6 s0 : Int32) : Option (Mem × Int32) := (if x6 = 0 then m_X3_depend_121 p1 p2 p3 p4 p5 (g) (x6) (s0) (1) else gi p1 8 ((if 6 ≤ (g 60 (p1).toNatClampNeg) then m_X3_depend_121 p1 p2 p3 p4 p5 (g) (x6) (s0) (2) else (if s0 = 0 then m_X3_depend_121 p1 p2 p3 p4 p5 (g) (x6) (s0) (0) else m_X3_depend_121 p1 p2 p3 p4 p5 (g) (x6) (s0) (2)))))
def m_X3_depend_49 (p1 p2 p3 p4 p5 : Int32) (g : Mem) (s0 : Int32) : Option (Mem × Int32) := (if s0 = 0 then m_X3_depend_88 p1 p2 p3 p4 p5 (g) (s0) (0) else gi p1 8 ((if (g 56 (p1).toNatClampNeg) = 0 then m_X3_depend_88 p1 p2 p3 p4 p5 (g) (s0) (0) else (if p5 = 0 then m_X3_depend_88 p1 p2 p3 p4 p5 (g) (s0) (0) else (if p2 < 0 then m_X3_depend_88 p1 p2 p3 p4 p5 (g) (s0) (0) else gi p2 8 ((if (g 56 (p2).toNatClampNeg) = 0 then m_X3_depend_88 p1 p2 p3 p4 p5 (g) (s0) (1) else m_X3_depend_88 p1 p2 p3 p4 p5 (g) (s0) (0))))))))
def m_X3_depend (g : Mem) (p1 p2 p3 p4 p5 : Int32) : Option (Mem × Int32) := (m_X3_isPresent g p1).bind fun r25 => (if r25 = 0 then m_X3_depend_49 p1 p2 p3 p4 p5 (g) (0) else (if (m_X3_in p2 (-1) 7) = 0 then m_X3_depend_49 p1 p2 p3 p4 p5 (g) (0) else (if p2 = p1 then m_X3_depend_49 p1 p2 p3 p4 p5 (g) (0) else (if (m_X3_in p3 0 63) = 0 then m_X3_depend_49 p1 p2 p3 p4 p5 (g) (0) else (if (m_X3_in p4 0 63) = 0 then m_X3_depend_49 p1 p2 p3 p4 p5 (g) (0) else m_X3_depend_49 p1 p2 p3 p4 p5 (g) (1))))))
def rm_X3_depend : Room := { frames := 3, cells := 0, slots := 0, locals := 63 }
set_option maxRecDepth 100000 in
set_option maxHeartbeats 4000000 in
theorem c_X3_depend {l : Launch} {D : va_G} {cA : Nat → ClassId} {ad : Nat → Nat} {lo : Nat} (hA : AdOk lo ad lay0.length) {g : Mem} {p1 p2 p3 p4 p5 : Int32} {g1 : Mem} {r : Int32} (h : m_X3_depend g p1 p2 p3 p4 p5 = some (g1, r)) : Met l yX3_depend wsX3_depend rm_X3_depend (Pw [.ref (ad 54), .int p1, .int p2, .int p3, .int p4, .int p5] D cA ad lo g) (Qw D cA ad lo g1 (some r)) 0 0 (fun q => lo ≤ q) := by
  refine startW (cc := cX3_depend) (maxL := 9) (ret := (some .int)) (by decide) rfl (Nat.le_of_ble_eq_true rfl) ?_
  intro p e s m args below meth c ls S hr hlocks hB hl
  obtain ⟨hlo, hP, hK, hN⟩ := hB
  have hS : va_S (fun q => lo ≤ q) s.heap s.heap [] := va_S.rf
  unfold m_X3_depend at h
  have S : CallFix p m c cX3_depend 9 s args wsX3_depend RX3 := S
  have hl : lv_has ls 9 [(0, .ref (ad 54)), (1, .int p1), (2, .int p2), (3, .int p3), (4, .int p4), (5, .int p5)] := hl
  have hn3 : ∀ w ∈ wsX30, w ∈ wsX3_depend := by decide +kernel
  have lk13 := S.2.2.2.2 (.fieldLink RX3 13 "FlatLoaderModel" "loaded" "[Z") (by decide +kernel)
  have lk26 := S.2.2.2.2 (.fieldLink RX3 26 "FlatLoaderModel" "many" "[I") (by decide +kernel)
  have lk29 := S.2.2.2.2 (.fieldLink RX3 29 "FlatLoaderModel" "on" "[I") (by decide +kernel)
  have lk32 := S.2.2.2.2 (.fieldLink RX3 32 "FlatLoaderModel" "imports" "[I") (by decide +kernel)
  have lk35 := S.2.2.2.2 (.fieldLink RX3 35 "FlatLoaderModel" "exports" "[I") (by decide +kernel)
  have lk38 := S.2.2.2.2 (.fieldLink RX3 38 "FlatLoaderModel" "required" "[Z") (by decide +kernel)
  obtain ⟨H, hH⟩ : ∃ H, H = s.heap := ⟨_, rfl⟩
  obtain ⟨locs, hlocs⟩ : ∃ z : List Loc, z = [] := ⟨_, rfl⟩
  have key157 : ∀ (g : Mem) (H : Heap) (locs : List Loc), va_P D vwCl (wld cA ad g lay0) H → va_S (fun q => lo ≤ q) s.heap H locs → ∀ (x6 x7 x8 s0 s1 : Int32), ∀ (ls : Array Slot), lv_has ls 9 [(0, .ref (ad 54)), (1, .int p1), (2, .int p2), (3, .int p3), (4, .int p4), (5, .int p5), (6, .int x6), (7, .int x7), (8, .int x8)] → m_X3_depend_157 p1 p2 p3 p4 p5 g x6 x7 x8 s0 s1 = some (g1, r) → W p l e (rm_X3_depend) s m args below meth c H locs 0 0 (MQ below (Qw D cA ad lo g1 (some r)) args s 0 0 (fun q => lo ≤ q)) (F0 m 157 ls [.int s0, .int s1, .ref (ad 61)]) := by
    intro g H locs hP hS x6 x7 x8 s0 s1 ls hl h
    unfold m_X3_depend_157 at h
    obtain ⟨hv1, hv1b, h⟩ := gi_some h
    refine r_ist (k := 61) (n := 48) S hA hK hP hS rfl hv1 dX3_depend_157 (fun H locs hP hS => ?_)
    refine lv_aload_n S.1 S.2.1 dX3_depend_158 rfl (lv_at hl 0 rfl) ?_
    refine r_get (C := RX3) (T := TX3) (N := 19) (ci := 3) (k := 54) (j := 8) (fs := fsX) (d := (some (some 62))) (v := .ref (ad 62)) S hK hP hn3 lk32 rfl (by decide) rfl rfl rfl dX3_depend_159 ?_
    refine lv_iload S.1 S.2.1 dX3_depend_162 (lv_at hl 8 rfl) ?_
    refine lv_iload_n S.1 S.2.1 dX3_depend_164 rfl (lv_at hl 3 rfl) ?_
    obtain ⟨hv2, hv2b, h⟩ := gi_some h
    refine r_ist (k := 62) (n := 48) S hA hK hP hS rfl hv2 dX3_depend_165 (fun H locs hP hS => ?_)
    refine lv_aload_n S.1 S.2.1 dX3_depend_166 rfl (lv_at hl 0 rfl) ?_
    refine r_get (C := RX3) (T := TX3) (N := 19) (ci := 3) (k := 54) (j := 9) (fs := fsX) (d := (some (some 63))) (v := .ref (ad 63)) S hK hP hn3 lk35 rfl (by decide) rfl rfl rfl dX3_depend_167 ?_
    refine lv_iload S.1 S.2.1 dX3_depend_170 (lv_at hl 8 rfl) ?_
    refine lv_iload S.1 S.2.1 dX3_depend_172 (lv_at hl 4 rfl) ?_
    obtain ⟨hv3, hv3b, h⟩ := gi_some h
    refine r_ist (k := 63) (n := 48) S hA hK hP hS rfl hv3 dX3_depend_174 (fun H locs hP hS => ?_)
    refine lv_aload_n S.1 S.2.1 dX3_depend_175 rfl (lv_at hl 0 rfl) ?_
    refine r_get (C := RX3) (T := TX3) (N := 19) (ci := 3) (k := 54) (j := 10) (fs := fsX) (d := (some (some 64))) (v := .ref (ad 64)) S hK hP hn3 lk38 rfl (by decide) rfl rfl rfl dX3_depend_176 ?_
    refine lv_iload S.1 S.2.1 dX3_depend_179 (lv_at hl 8 rfl) ?_
    refine lv_iload S.1 S.2.1 dX3_depend_181 (lv_at hl 5 rfl) ?_
    obtain ⟨hv4, hv4b, h⟩ := gi_some h
    refine r_zst (k := 64) (n := 48) S hA hK hP hS rfl hv4 dX3_depend_183 (fun H locs hP hS => ?_)
    refine lv_aload_n S.1 S.2.1 dX3_depend_184 rfl (lv_at hl 0 rfl) ?_
    refine r_get (C := RX3) (T := TX3) (N := 19) (ci := 3) (k := 54) (j := 6) (fs := fsX) (d := (some (some 60))) (v := .ref (ad 60)) S hK hP hn3 lk26 rfl (by decide) rfl rfl rfl dX3_depend_185 ?_
    refine lv_iload_n S.1 S.2.1 dX3_depend_188 rfl (lv_at hl 1 rfl) ?_
    refine lv_aload_n S.1 S.2.1 dX3_depend_189 rfl (lv_at hl 0 rfl) ?_
    refine r_get (C := RX3) (T := TX3) (N := 19) (ci := 3) (k := 54) (j := 6) (fs := fsX) (d := (some (some 60))) (v := .ref (ad 60)) S hK hP hn3 lk26 rfl (by decide) rfl rfl rfl dX3_depend_190 ?_
    refine lv_iload_n S.1 S.2.1 dX3_depend_193 rfl (lv_at hl 1 rfl) ?_
    obtain ⟨hv5, hv5b, h⟩ := gi_some h
    refine r_ild (k := 60) (n := 8) S hK hP rfl hv5 dX3_depend_194 ?_
    refine lv_iconst (v := 1) S.1 S.2.1 dX3_depend_195 (by decide) ?_
    refine lv_iadd S.1 S.2.1 dX3_depend_196 ?_
    obtain ⟨hv6, hv6b, h⟩ := gi_some h
    refine r_ist (k := 60) (n := 8) S hA hK hP hS rfl hv6 dX3_depend_197 (fun H locs hP hS => ?_)
    refine lv_aload_n S.1 S.2.1 dX3_depend_198 rfl (lv_at hl 0 rfl) ?_
    refine r_get (C := RX3) (T := TX3) (N := 19) (ci := 3) (k := 54) (j := 6) (fs := fsX) (d := (some (some 60))) (v := .ref (ad 60)) S hK hP hn3 lk26 rfl (by decide) rfl rfl rfl dX3_depend_199 ?_
    refine lv_iload_n S.1 S.2.1 dX3_depend_202 rfl (lv_at hl 1 rfl) ?_
    obtain ⟨hv7, hv7b, h⟩ := gi_some h
    refine r_ild (k := 60) (n := 8) S hK hP rfl hv7 dX3_depend_203 ?_
    exact e_W S hr hlocks hP hS (Option.some.inj h) dX3_depend_204
  have key121 : ∀ (g : Mem) (H : Heap) (locs : List Loc), va_P D vwCl (wld cA ad g lay0) H → va_S (fun q => lo ≤ q) s.heap H locs → ∀ (x6 x7 s0 : Int32), ∀ (ls : Array Slot), lv_has ls 9 [(0, .ref (ad 54)), (1, .int p1), (2, .int p2), (3, .int p3), (4, .int p4), (5, .int p5), (6, .int x6), (7, .int x7)] → m_X3_depend_121 p1 p2 p3 p4 p5 g x6 x7 s0 = some (g1, r) → W p l e (rm_X3_depend) s m args below meth c H locs 0 0 (MQ below (Qw D cA ad lo g1 (some r)) args s 0 0 (fun q => lo ≤ q)) (F0 m 121 ls [.int s0, .ref (ad 54)]) := by
    intro g H locs hP hS x6 x7 s0 ls hl h
    unfold m_X3_depend_121 at h
    obtain ⟨⟨g_10, r8⟩, h_9, h⟩ := bd_some h
    dsimp only at h
    refine k_Wi (va_runV (As := [.int s0]) (rest := []) S (c_X3_throwsBy hA h_9) (cwV 1 S.2.2.2.2 gX3_depend_X3_throwsBy rfl rfl rfl (by decide +kernel) ⟨Nat.le_of_ble_eq_true rfl, Nat.le_of_ble_eq_true rfl⟩) ⟨Pw_blind, va_recv hK hP (ci := 3) (q0 := 54) rfl (wld_at (d := dX) rfl), Pw_at hlo hS hP hK hN⟩ rfl rfl hl.1 rfl (lv_room (Nat.le_of_ble_eq_true rfl)) dX3_depend_121 ⟨Nat.zero_le _, Nat.zero_le _⟩) hS (fun H locs hP hS => ?_)
    refine lv_if_eq (tgt := 129) S.1 S.2.1 dX3_depend_124 (by decide) (fun hc11 => ?_) (fun hc11 => ?_)
    · rw [if_pos hc11] at h
      refine lv_bipush (v := 6) S.1 S.2.1 dX3_depend_129 (by decide) ?_
      refine lv_iload_n S.1 S.2.1 dX3_depend_131 rfl (lv_at hl 1 rfl) ?_
      refine lv_imul S.1 S.2.1 dX3_depend_132 ?_
      refine lv_aload_n S.1 S.2.1 dX3_depend_133 rfl (lv_at hl 0 rfl) ?_
      refine r_get (C := RX3) (T := TX3) (N := 19) (ci := 3) (k := 54) (j := 6) (fs := fsX) (d := (some (some 60))) (v := .ref (ad 60)) S hK hP hn3 lk26 rfl (by decide) rfl rfl rfl dX3_depend_134 ?_
      refine lv_iload_n S.1 S.2.1 dX3_depend_137 rfl (lv_at hl 1 rfl) ?_
      obtain ⟨hv12, hv12b, h⟩ := gi_some h
      refine r_ild (k := 60) (n := 8) S hK hP rfl hv12 dX3_depend_138 ?_
      refine lv_iadd S.1 S.2.1 dX3_depend_139 ?_
      refine lv_istore (lv' := [(8, .int ((6 * p1) + (g_10 60 (p1).toNatClampNeg))), (0, .ref (ad 54)), (1, .int p1), (2, .int p2), (3, .int p3), (4, .int p4), (5, .int p5), (6, .int x6), (7, .int x7)]) S.1 S.2.1 dX3_depend_140 hl (by decide) rfl (fun ls hl => ?_)
      refine lv_aload_n S.1 S.2.1 dX3_depend_142 rfl (lv_at hl 1 rfl) ?_
      refine r_get (C := RX3) (T := TX3) (N := 19) (ci := 3) (k := 54) (j := 7) (fs := fsX) (d := (some (some 61))) (v := .ref (ad 61)) S hK hP hn3 lk29 rfl (by decide) rfl rfl rfl dX3_depend_143 ?_
      refine lv_iload S.1 S.2.1 dX3_depend_146 (lv_at hl 0 rfl) ?_
      refine lv_iload_n S.1 S.2.1 dX3_depend_148 rfl (lv_at hl 3 rfl) ?_
      refine lv_if_ge (tgt := 156) S.1 S.2.1 dX3_depend_149 (by decide) (fun hc13 => ?_) (fun hc13 => ?_)
      · rw [if_pos hc13] at h
        refine lv_iload_n S.1 S.2.1 dX3_depend_156 rfl (lv_at hl 3 rfl) ?_
        exact key157 (g_10) H locs hP hS (x6) (x7) (((6 * p1) + (g_10 60 (p1).toNatClampNeg))) (p2) (((6 * p1) + (g_10 60 (p1).toNatClampNeg))) ls (lv_sub hl [1, 2, 3, 4, 5, 6, 7, 8, 0] rfl) h
      · rw [if_neg hc13] at h
        refine lv_iload_n S.1 S.2.1 dX3_depend_152 rfl (lv_at hl 2 rfl) ?_
        refine lv_goto (tgt := 157) S.1 S.2.1 dX3_depend_153 (by decide) ?_
        exact key157 (g_10) H locs hP hS (x6) (x7) (((6 * p1) + (g_10 60 (p1).toNatClampNeg))) (p1) (((6 * p1) + (g_10 60 (p1).toNatClampNeg))) ls (lv_sub hl [1, 2, 3, 4, 5, 6, 7, 8, 0] rfl) h
    · rw [if_neg hc11] at h
      refine lv_iconst (v := 0) S.1 S.2.1 dX3_depend_127 (by decide) ?_
      exact e_W S hr hlocks hP hS (Option.some.inj h) dX3_depend_128
  have key88 : ∀ (g : Mem) (H : Heap) (locs : List Loc), va_P D vwCl (wld cA ad g lay0) H → va_S (fun q => lo ≤ q) s.heap H locs → ∀ (x6 s0 : Int32), ∀ (ls : Array Slot), lv_has ls 9 [(0, .ref (ad 54)), (1, .int p1), (2, .int p2), (3, .int p3), (4, .int p4), (5, .int p5), (6, .int x6)] → m_X3_depend_88 p1 p2 p3 p4 p5 g x6 s0 = some (g1, r) → W p l e (rm_X3_depend) s m args below meth c H locs 0 0 (MQ below (Qw D cA ad lo g1 (some r)) args s 0 0 (fun q => lo ≤ q)) (F0 m 88 ls [.int s0]) := by
    intro g H locs hP hS x6 s0 ls hl h
    unfold m_X3_depend_88 at h
    refine lv_istore (lv' := [(7, .int s0), (0, .ref (ad 54)), (1, .int p1), (2, .int p2), (3, .int p3), (4, .int p4), (5, .int p5), (6, .int x6)]) S.1 S.2.1 dX3_depend_88 hl (by decide) rfl (fun ls hl => ?_)
    refine lv_aload_n S.1 S.2.1 dX3_depend_90 rfl (lv_at hl 1 rfl) ?_
    refine lv_iload S.1 S.2.1 dX3_depend_91 (lv_at hl 7 rfl) ?_
    refine lv_if_ne (tgt := 100) S.1 S.2.1 dX3_depend_93 (by decide) (fun hc14 => ?_) (fun hc14 => ?_)
    · rw [if_neg hc14] at h
      refine lv_aload_n S.1 S.2.1 dX3_depend_100 rfl (lv_at hl 1 rfl) ?_
      refine r_get (C := RX3) (T := TX3) (N := 19) (ci := 3) (k := 54) (j := 6) (fs := fsX) (d := (some (some 60))) (v := .ref (ad 60)) S hK hP hn3 lk26 rfl (by decide) rfl rfl rfl dX3_depend_101 ?_
      refine lv_iload_n S.1 S.2.1 dX3_depend_104 rfl (lv_at hl 2 rfl) ?_
      obtain ⟨hv15, hv15b, h⟩ := gi_some h
      refine r_ild (k := 60) (n := 8) S hK hP rfl hv15 dX3_depend_105 ?_
      refine lv_bipush (v := 6) S.1 S.2.1 dX3_depend_106 (by decide) ?_
      refine lv_icmp_ge (tgt := 116) S.1 S.2.1 dX3_depend_108 (by decide) (fun hc16 => ?_) (fun hc16 => ?_)
      · rw [if_pos hc16] at h
        refine lv_iconst (v := 2) S.1 S.2.1 dX3_depend_116 (by decide) ?_
        refine lv_goto (tgt := 121) S.1 S.2.1 dX3_depend_117 (by decide) ?_
        exact key121 (g) H locs hP hS (x6) (s0) (2) ls (lv_sub hl [1, 2, 3, 4, 5, 6, 7, 0] rfl) h
      · rw [if_neg hc16] at h
        refine lv_iload S.1 S.2.1 dX3_depend_111 (lv_at hl 0 rfl) ?_
        refine lv_if_eq (tgt := 120) S.1 S.2.1 dX3_depend_113 (by decide) (fun hc17 => ?_) (fun hc17 => ?_)
        · rw [if_pos hc17] at h
          refine lv_iconst (v := 0) S.1 S.2.1 dX3_depend_120 (by decide) ?_
          exact key121 (g) H locs hP hS (x6) (s0) (0) ls (lv_sub hl [1, 2, 3, 4, 5, 6, 7, 0] rfl) h
        · rw [if_neg hc17] at h
          refine lv_iconst (v := 2) S.1 S.2.1 dX3_depend_116 (by decide) ?_
          refine lv_goto (tgt := 121) S.1 S.2.1 dX3_depend_117 (by decide) ?_
          exact key121 (g) H locs hP hS (x6) (s0) (2) ls (lv_sub hl [1, 2, 3, 4, 5, 6, 7, 0] rfl) h
    · rw [if_pos hc14] at h
      refine lv_iconst (v := 1) S.1 S.2.1 dX3_depend_96 (by decide) ?_
      refine lv_goto (tgt := 121) S.1 S.2.1 dX3_depend_97 (by decide) ?_
      exact key121 (g) H locs hP hS (x6) (s0) (1) ls (lv_sub hl [1, 2, 3, 4, 5, 6, 7, 0] rfl) h
  have key49 : ∀ (g : Mem) (H : Heap) (locs : List Loc), va_P D vwCl (wld cA ad g lay0) H → va_S (fun q => lo ≤ q) s.heap H locs → ∀ (s0 : Int32), ∀ (ls : Array Slot), lv_has ls 9 [(0, .ref (ad 54)), (1, .int p1), (2, .int p2), (3, .int p3), (4, .int p4), (5, .int p5)] → m_X3_depend_49 p1 p2 p3 p4 p5 g s0 = some (g1, r) → W p l e (rm_X3_depend) s m args below meth c H locs 0 0 (MQ below (Qw D cA ad lo g1 (some r)) args s 0 0 (fun q => lo ≤ q)) (F0 m 49 ls [.int s0]) := by
    intro g H locs hP hS s0 ls hl h
    unfold m_X3_depend_49 at h
    refine lv_istore (lv' := [(6, .int s0), (0, .ref (ad 54)), (1, .int p1), (2, .int p2), (3, .int p3), (4, .int p4), (5, .int p5)]) S.1 S.2.1 dX3_depend_49 hl (by decide) rfl (fun ls hl => ?_)
    refine lv_iload S.1 S.2.1 dX3_depend_51 (lv_at hl 0 rfl) ?_
    refine lv_if_eq (tgt := 87) S.1 S.2.1 dX3_depend_53 (by decide) (fun hc18 => ?_) (fun hc18 => ?_)
    · rw [if_pos hc18] at h
      refine lv_iconst (v := 0) S.1 S.2.1 dX3_depend_87 (by decide) ?_
      exact key88 (g) H locs hP hS (s0) (0) ls (lv_sub hl [1, 2, 3, 4, 5, 6, 0] rfl) h
    · rw [if_neg hc18] at h
      refine lv_aload_n S.1 S.2.1 dX3_depend_56 rfl (lv_at hl 1 rfl) ?_
      refine r_get (C := RX3) (T := TX3) (N := 19) (ci := 3) (k := 54) (j := 2) (fs := fsX) (d := (some (some 56))) (v := .ref (ad 56)) S hK hP hn3 lk13 rfl (by decide) rfl rfl rfl dX3_depend_57 ?_
      refine lv_iload_n S.1 S.2.1 dX3_depend_60 rfl (lv_at hl 2 rfl) ?_
      obtain ⟨hv19, hv19b, h⟩ := gi_some h
      refine r_zld (k := 56) (n := 8) S hK hP rfl hv19 dX3_depend_61 ?_
      refine lv_if_eq (tgt := 87) S.1 S.2.1 dX3_depend_62 (by decide) (fun hc20 => ?_) (fun hc20 => ?_)
      · rw [if_pos hc20] at h
        refine lv_iconst (v := 0) S.1 S.2.1 dX3_depend_87 (by decide) ?_
        exact key88 (g) H locs hP hS (s0) (0) ls (lv_sub hl [1, 2, 3, 4, 5, 6, 0] rfl) h
      · rw [if_neg hc20] at h
        refine lv_iload S.1 S.2.1 dX3_depend_65 (lv_at hl 6 rfl) ?_
        refine lv_if_eq (tgt := 87) S.1 S.2.1 dX3_depend_67 (by decide) (fun hc21 => ?_) (fun hc21 => ?_)
        · rw [if_pos hc21] at h
          refine lv_iconst (v := 0) S.1 S.2.1 dX3_depend_87 (by decide) ?_
          exact key88 (g) H locs hP hS (s0) (0) ls (lv_sub hl [1, 2, 3, 4, 5, 6, 0] rfl) h
        · rw [if_neg hc21] at h
          refine lv_iload_n S.1 S.2.1 dX3_depend_70 rfl (lv_at hl 3 rfl) ?_
          refine lv_if_lt (tgt := 87) S.1 S.2.1 dX3_depend_71 (by decide) (fun hc22 => ?_) (fun hc22 => ?_)
          · rw [if_pos hc22] at h
            refine lv_iconst (v := 0) S.1 S.2.1 dX3_depend_87 (by decide) ?_
            exact key88 (g) H locs hP hS (s0) (0) ls (lv_sub hl [1, 2, 3, 4, 5, 6, 0] rfl) h
          · rw [if_neg hc22] at h
            refine lv_aload_n S.1 S.2.1 dX3_depend_74 rfl (lv_at hl 1 rfl) ?_
            refine r_get (C := RX3) (T := TX3) (N := 19) (ci := 3) (k := 54) (j := 2) (fs := fsX) (d := (some (some 56))) (v := .ref (ad 56)) S hK hP hn3 lk13 rfl (by decide) rfl rfl rfl dX3_depend_75 ?_
            refine lv_iload_n S.1 S.2.1 dX3_depend_78 rfl (lv_at hl 3 rfl) ?_
            obtain ⟨hv23, hv23b, h⟩ := gi_some h
            refine r_zld (k := 56) (n := 8) S hK hP rfl hv23 dX3_depend_79 ?_
            refine lv_if_ne (tgt := 87) S.1 S.2.1 dX3_depend_80 (by decide) (fun hc24 => ?_) (fun hc24 => ?_)
            · rw [if_neg hc24] at h
              refine lv_iconst (v := 0) S.1 S.2.1 dX3_depend_87 (by decide) ?_
              exact key88 (g) H locs hP hS (s0) (0) ls (lv_sub hl [1, 2, 3, 4, 5, 6, 0] rfl) h
            · rw [if_pos hc24] at h
              refine lv_iconst (v := 1) S.1 S.2.1 dX3_depend_83 (by decide) ?_
              refine lv_goto (tgt := 88) S.1 S.2.1 dX3_depend_84 (by decide) ?_
              exact key88 (g) H locs hP hS (s0) (1) ls (lv_sub hl [1, 2, 3, 4, 5, 6, 0] rfl) h
  rw [← hH] at hP
  have hS : va_S (fun q => lo ≤ q) s.heap H locs := by rw [hH, hlocs]; exact hS
  have goal0 : W p l e (rm_X3_depend) s m args below meth c H locs 0 0 (MQ below (Qw D cA ad lo g1 (some r)) args s 0 0 (fun q => lo ≤ q)) (F0 m 0 ls []) := by
    refine lv_aload_n S.1 S.2.1 dX3_depend_0 rfl (lv_at hl 0 rfl) ?_
    refine lv_iload_n S.1 S.2.1 dX3_depend_1 rfl (lv_at hl 1 rfl) ?_
    obtain ⟨r25, h_26, h⟩ := bd_some h
    refine k_R (r := r25) (va_runV (As := [.int p1]) (rest := []) S (c_X3_isPresent h_26) (cwV 1 S.2.2.2.2 gX3_depend_X3_isPresent rfl rfl rfl (by decide +kernel) ⟨Nat.le_of_ble_eq_true rfl, Nat.le_of_ble_eq_true rfl⟩) ⟨Pw_blind, va_recv hK hP (ci := 3) (q0 := 54) rfl (wld_at (d := dX) rfl), Pw_at hlo hS hP hK hN⟩ rfl rfl hl.1 rfl (lv_room (Nat.le_of_ble_eq_true rfl)) dX3_depend_2 ⟨Nat.zero_le _, Nat.zero_le _⟩) ?_
    refine lv_if_eq (tgt := 48) S.1 S.2.1 dX3_depend_5 (by decide) (fun hc27 => ?_) (fun hc27 => ?_)
    · rw [if_pos hc27] at h
      refine lv_iconst (v := 0) S.1 S.2.1 dX3_depend_48 (by decide) ?_
      exact key49 (g) H locs hP hS (0) ls (lv_sub hl [0, 1, 2, 3, 4, 5] rfl) h
    · rw [if_neg hc27] at h
      refine lv_iload_n S.1 S.2.1 dX3_depend_8 rfl (lv_at hl 2 rfl) ?_
      refine lv_iconst (v := (-1)) S.1 S.2.1 dX3_depend_9 (by decide) ?_
      refine lv_bipush (v := 7) S.1 S.2.1 dX3_depend_10 (by decide) ?_
      refine k_R (r := (m_X3_in p2 (-1) 7)) (va_runS (As := [.int p2, .int (-1), .int 7]) (rest := []) S c_X3_in (va_cwS 3 S.2.2.2.2 gX3_depend_X3_in rfl rfl rfl (by decide +kernel) ⟨Nat.le_of_ble_eq_true rfl, Nat.le_of_ble_eq_true rfl⟩) ⟨Tr_blind, Tr_at⟩ rfl rfl hl.1 rfl (lv_room (Nat.le_of_ble_eq_true rfl)) dX3_depend_12 ⟨Nat.zero_le _, Nat.zero_le _⟩) ?_
      refine lv_if_eq (tgt := 48) S.1 S.2.1 dX3_depend_15 (by decide) (fun hc28 => ?_) (fun hc28 => ?_)
      · rw [if_pos hc28] at h
        refine lv_iconst (v := 0) S.1 S.2.1 dX3_depend_48 (by decide) ?_
        exact key49 (g) H locs hP hS (0) ls (lv_sub hl [0, 1, 2, 3, 4, 5] rfl) h
      · rw [if_neg hc28] at h
        refine lv_iload_n S.1 S.2.1 dX3_depend_18 rfl (lv_at hl 2 rfl) ?_
        refine lv_iload_n S.1 S.2.1 dX3_depend_19 rfl (lv_at hl 1 rfl) ?_
        refine lv_icmp_eq (tgt := 48) S.1 S.2.1 dX3_depend_20 (by decide) (fun hc29 => ?_) (fun hc29 => ?_)
        · rw [if_pos hc29] at h
          refine lv_iconst (v := 0) S.1 S.2.1 dX3_depend_48 (by decide) ?_
          exact key49 (g) H locs hP hS (0) ls (lv_sub hl [0, 1, 2, 3, 4, 5] rfl) h
        · rw [if_neg hc29] at h
          refine lv_iload_n S.1 S.2.1 dX3_depend_23 rfl (lv_at hl 3 rfl) ?_
          refine lv_iconst (v := 0) S.1 S.2.1 dX3_depend_24 (by decide) ?_
          refine lv_bipush (v := 63) S.1 S.2.1 dX3_depend_25 (by decide) ?_
          refine k_R (r := (m_X3_in p3 0 63)) (va_runS (As := [.int p3, .int 0, .int 63]) (rest := []) S c_X3_in (va_cwS 3 S.2.2.2.2 gX3_depend_X3_in rfl rfl rfl (by decide +kernel) ⟨Nat.le_of_ble_eq_true rfl, Nat.le_of_ble_eq_true rfl⟩) ⟨Tr_blind, Tr_at⟩ rfl rfl hl.1 rfl (lv_room (Nat.le_of_ble_eq_true rfl)) dX3_depend_27 ⟨Nat.zero_le _, Nat.zero_le _⟩) ?_
          refine lv_if_eq (tgt := 48) S.1 S.2.1 dX3_depend_30 (by decide) (fun hc30 => ?_) (fun hc30 => ?_)
          · rw [if_pos hc30] at h
            refine lv_iconst (v := 0) S.1 S.2.1 dX3_depend_48 (by decide) ?_
            exact key49 (g) H locs hP hS (0) ls (lv_sub hl [0, 1, 2, 3, 4, 5] rfl) h
          · rw [if_neg hc30] at h
            refine lv_iload S.1 S.2.1 dX3_depend_33 (lv_at hl 4 rfl) ?_
            refine lv_iconst (v := 0) S.1 S.2.1 dX3_depend_35 (by decide) ?_
            refine lv_bipush (v := 63) S.1 S.2.1 dX3_depend_36 (by decide) ?_
            refine k_R (r := (m_X3_in p4 0 63)) (va_runS (As := [.int p4, .int 0, .int 63]) (rest := []) S c_X3_in (va_cwS 3 S.2.2.2.2 gX3_depend_X3_in rfl rfl rfl (by decide +kernel) ⟨Nat.le_of_ble_eq_true rfl, Nat.le_of_ble_eq_true rfl⟩) ⟨Tr_blind, Tr_at⟩ rfl rfl hl.1 rfl (lv_room (Nat.le_of_ble_eq_true rfl)) dX3_depend_38 ⟨Nat.zero_le _, Nat.zero_le _⟩) ?_
            refine lv_if_eq (tgt := 48) S.1 S.2.1 dX3_depend_41 (by decide) (fun hc31 => ?_) (fun hc31 => ?_)
            · rw [if_pos hc31] at h
              refine lv_iconst (v := 0) S.1 S.2.1 dX3_depend_48 (by decide) ?_
              exact key49 (g) H locs hP hS (0) ls (lv_sub hl [0, 1, 2, 3, 4, 5] rfl) h
            · rw [if_neg hc31] at h
              refine lv_iconst (v := 1) S.1 S.2.1 dX3_depend_44 (by decide) ?_
              refine lv_goto (tgt := 49) S.1 S.2.1 dX3_depend_45 (by decide) ?_
              exact key49 (g) H locs hP hS (1) ls (lv_sub hl [0, 1, 2, 3, 4, 5] rfl) h
  rw [hH, hlocs] at goal0
  exact goal0

def m_X3_relink_14 (p1 : Int32) (g : Mem) (s0 : Int32) : Option (Mem × Int32) := (m_X3_throwsBy g s0).bind fun qr1 => (if qr1.2 = 0 then gi p1 8 (gi p1 8 (some ((mup qr1.1 60 (p1).toNatClampNeg 0), (qr1.1 60 (p1).toNatClampNeg)))) else some (qr1.1, 0))
def m_X3_relink (g : Mem) (p1 : Int32) : Option (Mem × Int32) := (m_X3_isPresent g p1).bind fun r7 => (if r7 = 0 then m_X3_relink_14 p1 (g) (1) else m_X3_relink_14 p1 (g) (0))
def rm_X3_relink : Room := { frames := 3, cells := 0, slots := 0, locals := 63 }
set_option maxRecDepth 100000 in
set_option maxHeartbeats 4000000 in
theorem c_X3_relink {l : Launch} {D : va_G} {cA : Nat → ClassId} {ad : Nat → Nat} {lo : Nat} (hA : AdOk lo ad lay0.length) {g : Mem} {p1 : Int32} {g1 : Mem} {r : Int32} (h : m_X3_relink g p1 = some (g1, r)) : Met l yX3_relink wsX3_relink rm_X3_relink (Pw [.ref (ad 54), .int p1] D cA ad lo g) (Qw D cA ad lo g1 (some r)) 0 0 (fun q => lo ≤ q) := by
  refine startW (cc := cX3_relink) (maxL := 3) (ret := (some .int)) (by decide) rfl (Nat.le_of_ble_eq_true rfl) ?_
  intro p e s m args below meth c ls S hr hlocks hB hl
  obtain ⟨hlo, hP, hK, hN⟩ := hB
  have hS : va_S (fun q => lo ≤ q) s.heap s.heap [] := va_S.rf
  unfold m_X3_relink at h
  have S : CallFix p m c cX3_relink 3 s args wsX3_relink RX3 := S
  have hl : lv_has ls 3 [(0, .ref (ad 54)), (1, .int p1)] := hl
  have hn3 : ∀ w ∈ wsX30, w ∈ wsX3_relink := by decide +kernel
  have lk26 := S.2.2.2.2 (.fieldLink RX3 26 "FlatLoaderModel" "many" "[I") (by decide +kernel)
  obtain ⟨H, hH⟩ : ∃ H, H = s.heap := ⟨_, rfl⟩
  obtain ⟨locs, hlocs⟩ : ∃ z : List Loc, z = [] := ⟨_, rfl⟩
  have key14 : ∀ (g : Mem) (H : Heap) (locs : List Loc), va_P D vwCl (wld cA ad g lay0) H → va_S (fun q => lo ≤ q) s.heap H locs → ∀ (s0 : Int32), ∀ (ls : Array Slot), lv_has ls 3 [(0, .ref (ad 54)), (1, .int p1)] → m_X3_relink_14 p1 g s0 = some (g1, r) → W p l e (rm_X3_relink) s m args below meth c H locs 0 0 (MQ below (Qw D cA ad lo g1 (some r)) args s 0 0 (fun q => lo ≤ q)) (F0 m 14 ls [.int s0, .ref (ad 54)]) := by
    intro g H locs hP hS s0 ls hl h
    unfold m_X3_relink_14 at h
    obtain ⟨⟨g_3, r1⟩, h_2, h⟩ := bd_some h
    dsimp only at h
    refine k_Wi (va_runV (As := [.int s0]) (rest := []) S (c_X3_throwsBy hA h_2) (cwV 1 S.2.2.2.2 gX3_relink_X3_throwsBy rfl rfl rfl (by decide +kernel) ⟨Nat.le_of_ble_eq_true rfl, Nat.le_of_ble_eq_true rfl⟩) ⟨Pw_blind, va_recv hK hP (ci := 3) (q0 := 54) rfl (wld_at (d := dX) rfl), Pw_at hlo hS hP hK hN⟩ rfl rfl hl.1 rfl (lv_room (Nat.le_of_ble_eq_true rfl)) dX3_relink_14 ⟨Nat.zero_le _, Nat.zero_le _⟩) hS (fun H locs hP hS => ?_)
    refine lv_if_eq (tgt := 22) S.1 S.2.1 dX3_relink_17 (by decide) (fun hc4 => ?_) (fun hc4 => ?_)
    · rw [if_pos hc4] at h
      refine lv_aload_n S.1 S.2.1 dX3_relink_22 rfl (lv_at hl 0 rfl) ?_
      refine r_get (C := RX3) (T := TX3) (N := 19) (ci := 3) (k := 54) (j := 6) (fs := fsX) (d := (some (some 60))) (v := .ref (ad 60)) S hK hP hn3 lk26 rfl (by decide) rfl rfl rfl dX3_relink_23 ?_
      refine lv_iload_n S.1 S.2.1 dX3_relink_26 rfl (lv_at hl 1 rfl) ?_
      obtain ⟨hv5, hv5b, h⟩ := gi_some h
      refine r_ild (k := 60) (n := 8) S hK hP rfl hv5 dX3_relink_27 ?_
      refine lv_istore_n (lv' := [(2, .int (g_3 60 (p1).toNatClampNeg)), (0, .ref (ad 54)), (1, .int p1)]) S.1 S.2.1 dX3_relink_28 rfl hl (by decide) rfl (fun ls hl => ?_)
      refine lv_aload_n S.1 S.2.1 dX3_relink_29 rfl (lv_at hl 1 rfl) ?_
      refine r_get (C := RX3) (T := TX3) (N := 19) (ci := 3) (k := 54) (j := 6) (fs := fsX) (d := (some (some 60))) (v := .ref (ad 60)) S hK hP hn3 lk26 rfl (by decide) rfl rfl rfl dX3_relink_30 ?_
      refine lv_iload_n S.1 S.2.1 dX3_relink_33 rfl (lv_at hl 2 rfl) ?_
      refine lv_iconst (v := 0) S.1 S.2.1 dX3_relink_34 (by decide) ?_
      obtain ⟨hv6, hv6b, h⟩ := gi_some h
      refine r_ist (k := 60) (n := 8) S hA hK hP hS rfl hv6 dX3_relink_35 (fun H locs hP hS => ?_)
      refine lv_iload_n S.1 S.2.1 dX3_relink_36 rfl (lv_at hl 0 rfl) ?_
      exact e_W S hr hlocks hP hS (Option.some.inj h) dX3_relink_37
    · rw [if_neg hc4] at h
      refine lv_iconst (v := 0) S.1 S.2.1 dX3_relink_20 (by decide) ?_
      exact e_W S hr hlocks hP hS (Option.some.inj h) dX3_relink_21
  rw [← hH] at hP
  have hS : va_S (fun q => lo ≤ q) s.heap H locs := by rw [hH, hlocs]; exact hS
  have goal0 : W p l e (rm_X3_relink) s m args below meth c H locs 0 0 (MQ below (Qw D cA ad lo g1 (some r)) args s 0 0 (fun q => lo ≤ q)) (F0 m 0 ls []) := by
    refine lv_aload_n S.1 S.2.1 dX3_relink_0 rfl (lv_at hl 0 rfl) ?_
    refine lv_aload_n S.1 S.2.1 dX3_relink_1 rfl (lv_at hl 0 rfl) ?_
    refine lv_iload_n S.1 S.2.1 dX3_relink_2 rfl (lv_at hl 1 rfl) ?_
    obtain ⟨r7, h_8, h⟩ := bd_some h
    refine k_R (r := r7) (va_runV (As := [.int p1]) (rest := [.ref (ad 54)]) S (c_X3_isPresent h_8) (cwV 1 S.2.2.2.2 gX3_relink_X3_isPresent rfl rfl rfl (by decide +kernel) ⟨Nat.le_of_ble_eq_true rfl, Nat.le_of_ble_eq_true rfl⟩) ⟨Pw_blind, va_recv hK hP (ci := 3) (q0 := 54) rfl (wld_at (d := dX) rfl), Pw_at hlo hS hP hK hN⟩ rfl rfl hl.1 rfl (lv_room (Nat.le_of_ble_eq_true rfl)) dX3_relink_3 ⟨Nat.zero_le _, Nat.zero_le _⟩) ?_
    refine lv_if_eq (tgt := 13) S.1 S.2.1 dX3_relink_6 (by decide) (fun hc9 => ?_) (fun hc9 => ?_)
    · rw [if_pos hc9] at h
      refine lv_iconst (v := 1) S.1 S.2.1 dX3_relink_13 (by decide) ?_
      exact key14 (g) H locs hP hS (1) ls (lv_sub hl [0, 1] rfl) h
    · rw [if_neg hc9] at h
      refine lv_iconst (v := 0) S.1 S.2.1 dX3_relink_9 (by decide) ?_
      refine lv_goto (tgt := 14) S.1 S.2.1 dX3_relink_10 (by decide) ?_
      exact key14 (g) H locs hP hS (0) ls (lv_sub hl [0, 1] rfl) h
  rw [hH, hlocs] at goal0
  exact goal0

def m_X3_judge_36 (k28 : Mem → Int32 → Option Mem) : Nat → Mem → Int32 → Int32 → Option Mem
  | 0, _, _, _ => none
  | n + 1, g, x1, x2 => (if 48 ≤ x2 then k28 (g) ((x1 + 1)) else gi (x2 / 6) 8 ((if (g 60 ((x2 / 6)).toNatClampNeg) ≤ (x2 - x2 / 6 * 6) then m_X3_judge_36 k28 n (g) (x1) ((x2 + 1)) else gi x2 48 ((if (g 64 (x2).toNatClampNeg) = 0 then m_X3_judge_36 k28 n (g) (x1) ((x2 + 1)) else gi x2 48 (gi (g 61 (x2).toNatClampNeg) 8 ((if (g 57 ((g 61 (x2).toNatClampNeg)).toNatClampNeg) = 0 then gi (x2 / 6) 8 (m_X3_judge_36 k28 n ((mup g 57 ((x2 / 6)).toNatClampNeg (vp_nar .boolean 0))) (x1) ((x2 + 1))) else m_X3_judge_36 k28 n (g) (x1) ((x2 + 1))))))))))
def m_X3_judge_28 : Nat → Mem → Int32 → Option Mem
  | 0, _, _ => none
  | n + 1, g, x1 => (if 8 ≤ x1 then some g else m_X3_judge_36 (fun gy yx1 => m_X3_judge_28  n gy yx1) 200 (g) (x1) (0))
def m_X3_judge_2 : Nat → Mem → Int32 → Option Mem
  | 0, _, _ => none
  | n + 1, g, x1 => (if 8 ≤ x1 then m_X3_judge_28  200 (g) (0) else gi x1 8 (gi x1 8 (m_X3_judge_2  n ((mup g 57 (x1).toNatClampNeg (vp_nar .boolean (g 55 (x1).toNatClampNeg)))) ((x1 + 1)))))
def m_X3_judge (g : Mem) : Option Mem := m_X3_judge_2  200 (g) (0)
def rm_X3_judge : Room := { frames := 0, cells := 0, slots := 0, locals := 0 }
set_option maxRecDepth 100000 in
set_option maxHeartbeats 4000000 in
theorem c_X3_judge {l : Launch} {D : va_G} {cA : Nat → ClassId} {ad : Nat → Nat} {lo : Nat} (hA : AdOk lo ad lay0.length) {g : Mem} {g1 : Mem} (h : m_X3_judge g = some g1) : Met l yX3_judge wsX3_judge rm_X3_judge (Pw [.ref (ad 54)] D cA ad lo g) (Qw D cA ad lo g1 none) 0 0 (fun q => lo ≤ q) := by
  refine startW (cc := cX3_judge) (maxL := 4) (ret := none) (by decide) rfl (Nat.le_of_ble_eq_true rfl) ?_
  intro p e s m args below meth c ls S hr hlocks hB hl
  obtain ⟨hlo, hP, hK, hN⟩ := hB
  have hS : va_S (fun q => lo ≤ q) s.heap s.heap [] := va_S.rf
  unfold m_X3_judge at h
  have S : CallFix p m c cX3_judge 4 s args wsX3_judge RX3 := S
  have hl : lv_has ls 4 [(0, .ref (ad 54))] := hl
  have hn3 : ∀ w ∈ wsX30, w ∈ wsX3_judge := by decide +kernel
  have lk7 := S.2.2.2.2 (.fieldLink RX3 7 "FlatLoaderModel" "present" "[Z") (by decide +kernel)
  have lk16 := S.2.2.2.2 (.fieldLink RX3 16 "FlatLoaderModel" "loadable" "[Z") (by decide +kernel)
  have lk26 := S.2.2.2.2 (.fieldLink RX3 26 "FlatLoaderModel" "many" "[I") (by decide +kernel)
  have lk29 := S.2.2.2.2 (.fieldLink RX3 29 "FlatLoaderModel" "on" "[I") (by decide +kernel)
  have lk38 := S.2.2.2.2 (.fieldLink RX3 38 "FlatLoaderModel" "required" "[Z") (by decide +kernel)
  obtain ⟨H, hH⟩ : ∃ H, H = s.heap := ⟨_, rfl⟩
  obtain ⟨locs, hlocs⟩ : ∃ z : List Loc, z = [] := ⟨_, rfl⟩
  have key36 : ∀ (k28 : Mem → Int32 → Option Mem), (∀ (g : Mem) (H : Heap) (locs : List Loc), va_P D vwCl (wld cA ad g lay0) H → va_S (fun q => lo ≤ q) s.heap H locs → ∀ (x1 : Int32), ∀ (ls : Array Slot), lv_has ls 4 [(0, .ref (ad 54)), (1, .int x1)] → k28 g x1 = some g1 → W p l e (rm_X3_judge) s m args below meth c H locs 0 0 (MQ below (Qw D cA ad lo g1 none) args s 0 0 (fun q => lo ≤ q)) (F0 m 28 ls [])) → ∀ (n : Nat), ∀ (g : Mem) (H : Heap) (locs : List Loc), va_P D vwCl (wld cA ad g lay0) H → va_S (fun q => lo ≤ q) s.heap H locs → ∀ (x1 x2 : Int32), ∀ (ls : Array Slot), lv_has ls 4 [(0, .ref (ad 54)), (1, .int x1), (2, .int x2)] → m_X3_judge_36 k28 n g x1 x2 = some g1 → W p l e (rm_X3_judge) s m args below meth c H locs 0 0 (MQ below (Qw D cA ad lo g1 none) args s 0 0 (fun q => lo ≤ q)) (F0 m 36 ls []) := by
    intro k28 hk28 n
    induction n with
    | zero =>
      intro g H locs hP hS x1 x2 ls hl h
      exact nomatch (show none = some g1 from h)
    | succ n ih =>
      intro g H locs hP hS x1 x2 ls hl h
      rw [m_X3_judge_36] at h
      refine lv_iload_n S.1 S.2.1 dX3_judge_36 rfl (lv_at hl 2 rfl) ?_
      refine lv_bipush (v := 48) S.1 S.2.1 dX3_judge_37 (by decide) ?_
      refine lv_icmp_ge (tgt := 96) S.1 S.2.1 dX3_judge_39 (by decide) (fun hc1 => ?_) (fun hc1 => ?_)
      · rw [if_pos hc1] at h
        refine lv_iinc (v := (x1 + 1)) (lv' := [(1, .int (x1 + 1)), (0, .ref (ad 54)), (2, .int x2)]) S.1 S.2.1 dX3_judge_96 hl (k := 1) rfl rfl (by decide) rfl (fun ls hl => ?_)
        refine lv_goto (tgt := 28) S.1 S.2.1 dX3_judge_99 (by decide) ?_
        exact hk28 (g) H locs hP hS ((x1 + 1)) ls (lv_sub hl [1, 0] rfl) h
      · rw [if_neg hc1] at h
        refine lv_iload_n S.1 S.2.1 dX3_judge_42 rfl (lv_at hl 2 rfl) ?_
        refine lv_bipush (v := 6) S.1 S.2.1 dX3_judge_43 (by decide) ?_
        refine lv_idiv S.1 S.2.1 dX3_judge_45 (by decide) ?_
        refine lv_istore_n (lv' := [(3, .int (x2 / 6)), (0, .ref (ad 54)), (1, .int x1), (2, .int x2)]) S.1 S.2.1 dX3_judge_46 rfl hl (by decide) rfl (fun ls hl => ?_)
        refine lv_iload_n S.1 S.2.1 dX3_judge_47 rfl (lv_at hl 3 rfl) ?_
        refine lv_bipush (v := 6) S.1 S.2.1 dX3_judge_48 (by decide) ?_
        refine lv_irem S.1 S.2.1 dX3_judge_50 (by decide) ?_
        refine lv_aload_n S.1 S.2.1 dX3_judge_51 rfl (lv_at hl 1 rfl) ?_
        refine r_get (C := RX3) (T := TX3) (N := 19) (ci := 3) (k := 54) (j := 6) (fs := fsX) (d := (some (some 60))) (v := .ref (ad 60)) S hK hP hn3 lk26 rfl (by decide) rfl rfl rfl dX3_judge_52 ?_
        refine lv_iload_n S.1 S.2.1 dX3_judge_55 rfl (lv_at hl 0 rfl) ?_
        obtain ⟨hv2, hv2b, h⟩ := gi_some h
        refine r_ild (k := 60) (n := 8) S hK hP rfl hv2 dX3_judge_56 ?_
        refine lv_icmp_ge (tgt := 90) S.1 S.2.1 dX3_judge_57 (by decide) (fun hc3 => ?_) (fun hc3 => ?_)
        · rw [if_pos hc3] at h
          refine lv_iinc (v := (x2 + 1)) (lv' := [(2, .int (x2 + 1)), (3, .int (x2 / 6)), (0, .ref (ad 54)), (1, .int x1)]) S.1 S.2.1 dX3_judge_90 hl (k := 3) rfl rfl (by decide) rfl (fun ls hl => ?_)
          refine lv_goto (tgt := 36) S.1 S.2.1 dX3_judge_93 (by decide) ?_
          exact ih (g) H locs hP hS (x1) ((x2 + 1)) ls (lv_sub hl [2, 3, 0] rfl) h
        · rw [if_neg hc3] at h
          refine lv_aload_n S.1 S.2.1 dX3_judge_60 rfl (lv_at hl 1 rfl) ?_
          refine r_get (C := RX3) (T := TX3) (N := 19) (ci := 3) (k := 54) (j := 10) (fs := fsX) (d := (some (some 64))) (v := .ref (ad 64)) S hK hP hn3 lk38 rfl (by decide) rfl rfl rfl dX3_judge_61 ?_
          refine lv_iload_n S.1 S.2.1 dX3_judge_64 rfl (lv_at hl 3 rfl) ?_
          obtain ⟨hv4, hv4b, h⟩ := gi_some h
          refine r_zld (k := 64) (n := 48) S hK hP rfl hv4 dX3_judge_65 ?_
          refine lv_if_eq (tgt := 90) S.1 S.2.1 dX3_judge_66 (by decide) (fun hc5 => ?_) (fun hc5 => ?_)
          · rw [if_pos hc5] at h
            refine lv_iinc (v := (x2 + 1)) (lv' := [(2, .int (x2 + 1)), (3, .int (x2 / 6)), (0, .ref (ad 54)), (1, .int x1)]) S.1 S.2.1 dX3_judge_90 hl (k := 3) rfl rfl (by decide) rfl (fun ls hl => ?_)
            refine lv_goto (tgt := 36) S.1 S.2.1 dX3_judge_93 (by decide) ?_
            exact ih (g) H locs hP hS (x1) ((x2 + 1)) ls (lv_sub hl [2, 3, 0] rfl) h
          · rw [if_neg hc5] at h
            refine lv_aload_n S.1 S.2.1 dX3_judge_69 rfl (lv_at hl 1 rfl) ?_
            refine r_get (C := RX3) (T := TX3) (N := 19) (ci := 3) (k := 54) (j := 3) (fs := fsX) (d := (some (some 57))) (v := .ref (ad 57)) S hK hP hn3 lk16 rfl (by decide) rfl rfl rfl dX3_judge_70 ?_
            refine lv_aload_n S.1 S.2.1 dX3_judge_73 rfl (lv_at hl 1 rfl) ?_
            refine r_get (C := RX3) (T := TX3) (N := 19) (ci := 3) (k := 54) (j := 7) (fs := fsX) (d := (some (some 61))) (v := .ref (ad 61)) S hK hP hn3 lk29 rfl (by decide) rfl rfl rfl dX3_judge_74 ?_
            refine lv_iload_n S.1 S.2.1 dX3_judge_77 rfl (lv_at hl 3 rfl) ?_
            obtain ⟨hv6, hv6b, h⟩ := gi_some h
            refine r_ild (k := 61) (n := 48) S hK hP rfl hv6 dX3_judge_78 ?_
            obtain ⟨hv7, hv7b, h⟩ := gi_some h
            refine r_zld (k := 57) (n := 8) S hK hP rfl hv7 dX3_judge_79 ?_
            refine lv_if_ne (tgt := 90) S.1 S.2.1 dX3_judge_80 (by decide) (fun hc8 => ?_) (fun hc8 => ?_)
            · rw [if_neg hc8] at h
              refine lv_iinc (v := (x2 + 1)) (lv' := [(2, .int (x2 + 1)), (3, .int (x2 / 6)), (0, .ref (ad 54)), (1, .int x1)]) S.1 S.2.1 dX3_judge_90 hl (k := 3) rfl rfl (by decide) rfl (fun ls hl => ?_)
              refine lv_goto (tgt := 36) S.1 S.2.1 dX3_judge_93 (by decide) ?_
              exact ih (g) H locs hP hS (x1) ((x2 + 1)) ls (lv_sub hl [2, 3, 0] rfl) h
            · rw [if_pos hc8] at h
              refine lv_aload_n S.1 S.2.1 dX3_judge_83 rfl (lv_at hl 1 rfl) ?_
              refine r_get (C := RX3) (T := TX3) (N := 19) (ci := 3) (k := 54) (j := 3) (fs := fsX) (d := (some (some 57))) (v := .ref (ad 57)) S hK hP hn3 lk16 rfl (by decide) rfl rfl rfl dX3_judge_84 ?_
              refine lv_iload_n S.1 S.2.1 dX3_judge_87 rfl (lv_at hl 0 rfl) ?_
              refine lv_iconst (v := 0) S.1 S.2.1 dX3_judge_88 (by decide) ?_
              obtain ⟨hv9, hv9b, h⟩ := gi_some h
              refine r_zst (k := 57) (n := 8) S hA hK hP hS rfl hv9 dX3_judge_89 (fun H locs hP hS => ?_)
              refine lv_iinc (v := (x2 + 1)) (lv' := [(2, .int (x2 + 1)), (3, .int (x2 / 6)), (0, .ref (ad 54)), (1, .int x1)]) S.1 S.2.1 dX3_judge_90 hl (k := 3) rfl rfl (by decide) rfl (fun ls hl => ?_)
              refine lv_goto (tgt := 36) S.1 S.2.1 dX3_judge_93 (by decide) ?_
              exact ih ((mup g 57 ((x2 / 6)).toNatClampNeg (vp_nar .boolean 0))) H locs hP hS (x1) ((x2 + 1)) ls (lv_sub hl [2, 3, 0] rfl) h
  have key28 : ∀ (n : Nat), ∀ (g : Mem) (H : Heap) (locs : List Loc), va_P D vwCl (wld cA ad g lay0) H → va_S (fun q => lo ≤ q) s.heap H locs → ∀ (x1 : Int32), ∀ (ls : Array Slot), lv_has ls 4 [(0, .ref (ad 54)), (1, .int x1)] → m_X3_judge_28  n g x1 = some g1 → W p l e (rm_X3_judge) s m args below meth c H locs 0 0 (MQ below (Qw D cA ad lo g1 none) args s 0 0 (fun q => lo ≤ q)) (F0 m 28 ls []) := by
    intro n
    induction n with
    | zero =>
      intro g H locs hP hS x1 ls hl h
      exact nomatch (show none = some g1 from h)
    | succ n ih =>
      intro g H locs hP hS x1 ls hl h
      rw [m_X3_judge_28] at h
      refine lv_iload_n S.1 S.2.1 dX3_judge_28 rfl (lv_at hl 1 rfl) ?_
      refine lv_bipush (v := 8) S.1 S.2.1 dX3_judge_29 (by decide) ?_
      refine lv_icmp_ge (tgt := 102) S.1 S.2.1 dX3_judge_31 (by decide) (fun hc10 => ?_) (fun hc10 => ?_)
      · rw [if_pos hc10] at h
        exact e_Wv S hr hlocks hP hS (Option.some.inj h) dX3_judge_102
      · rw [if_neg hc10] at h
        refine lv_iconst (v := 0) S.1 S.2.1 dX3_judge_34 (by decide) ?_
        refine lv_istore_n (lv' := [(2, .int 0), (0, .ref (ad 54)), (1, .int x1)]) S.1 S.2.1 dX3_judge_35 rfl hl (by decide) rfl (fun ls hl => ?_)
        exact key36 _ ih 200 (g) H locs hP hS (x1) (0) ls (lv_sub hl [1, 2, 0] rfl) h
  have key2 : ∀ (n : Nat), ∀ (g : Mem) (H : Heap) (locs : List Loc), va_P D vwCl (wld cA ad g lay0) H → va_S (fun q => lo ≤ q) s.heap H locs → ∀ (x1 : Int32), ∀ (ls : Array Slot), lv_has ls 4 [(0, .ref (ad 54)), (1, .int x1)] → m_X3_judge_2  n g x1 = some g1 → W p l e (rm_X3_judge) s m args below meth c H locs 0 0 (MQ below (Qw D cA ad lo g1 none) args s 0 0 (fun q => lo ≤ q)) (F0 m 2 ls []) := by
    intro n
    induction n with
    | zero =>
      intro g H locs hP hS x1 ls hl h
      exact nomatch (show none = some g1 from h)
    | succ n ih =>
      intro g H locs hP hS x1 ls hl h
      rw [m_X3_judge_2] at h
      refine lv_iload_n S.1 S.2.1 dX3_judge_2 rfl (lv_at hl 1 rfl) ?_
      refine lv_bipush (v := 8) S.1 S.2.1 dX3_judge_3 (by decide) ?_
      refine lv_icmp_ge (tgt := 26) S.1 S.2.1 dX3_judge_5 (by decide) (fun hc11 => ?_) (fun hc11 => ?_)
      · rw [if_pos hc11] at h
        refine lv_iconst (v := 0) S.1 S.2.1 dX3_judge_26 (by decide) ?_
        refine lv_istore_n (lv' := [(1, .int 0), (0, .ref (ad 54))]) S.1 S.2.1 dX3_judge_27 rfl hl (by decide) rfl (fun ls hl => ?_)
        exact key28 200 (g) H locs hP hS (0) ls (lv_sub hl [1, 0] rfl) h
      · rw [if_neg hc11] at h
        refine lv_aload_n S.1 S.2.1 dX3_judge_8 rfl (lv_at hl 0 rfl) ?_
        refine r_get (C := RX3) (T := TX3) (N := 19) (ci := 3) (k := 54) (j := 3) (fs := fsX) (d := (some (some 57))) (v := .ref (ad 57)) S hK hP hn3 lk16 rfl (by decide) rfl rfl rfl dX3_judge_9 ?_
        refine lv_iload_n S.1 S.2.1 dX3_judge_12 rfl (lv_at hl 1 rfl) ?_
        refine lv_aload_n S.1 S.2.1 dX3_judge_13 rfl (lv_at hl 0 rfl) ?_
        refine r_get (C := RX3) (T := TX3) (N := 19) (ci := 3) (k := 54) (j := 1) (fs := fsX) (d := (some (some 55))) (v := .ref (ad 55)) S hK hP hn3 lk7 rfl (by decide) rfl rfl rfl dX3_judge_14 ?_
        refine lv_iload_n S.1 S.2.1 dX3_judge_17 rfl (lv_at hl 1 rfl) ?_
        obtain ⟨hv12, hv12b, h⟩ := gi_some h
        refine r_zld (k := 55) (n := 8) S hK hP rfl hv12 dX3_judge_18 ?_
        obtain ⟨hv13, hv13b, h⟩ := gi_some h
        refine r_zst (k := 57) (n := 8) S hA hK hP hS rfl hv13 dX3_judge_19 (fun H locs hP hS => ?_)
        refine lv_iinc (v := (x1 + 1)) (lv' := [(1, .int (x1 + 1)), (0, .ref (ad 54))]) S.1 S.2.1 dX3_judge_20 hl (k := 1) rfl rfl (by decide) rfl (fun ls hl => ?_)
        refine lv_goto (tgt := 2) S.1 S.2.1 dX3_judge_23 (by decide) ?_
        exact ih ((mup g 57 (x1).toNatClampNeg (vp_nar .boolean (g 55 (x1).toNatClampNeg)))) H locs hP hS ((x1 + 1)) ls (lv_sub hl [1, 0] rfl) h
  rw [← hH] at hP
  have hS : va_S (fun q => lo ≤ q) s.heap H locs := by rw [hH, hlocs]; exact hS
  have goal0 : W p l e (rm_X3_judge) s m args below meth c H locs 0 0 (MQ below (Qw D cA ad lo g1 none) args s 0 0 (fun q => lo ≤ q)) (F0 m 0 ls []) := by
    refine lv_iconst (v := 0) S.1 S.2.1 dX3_judge_0 (by decide) ?_
    refine lv_istore_n (lv' := [(1, .int 0), (0, .ref (ad 54))]) S.1 S.2.1 dX3_judge_1 rfl hl (by decide) rfl (fun ls hl => ?_)
    exact key2 200 (g) H locs hP hS (0) ls (lv_sub hl [1, 0] rfl) h
  rw [hH, hlocs] at goal0
  exact goal0
