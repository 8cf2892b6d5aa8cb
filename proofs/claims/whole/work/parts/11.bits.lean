def m_X2_bit (p0 : Int32) : Int32 := (1 <<< (p0 &&& 31))
def rm_X2_bit : Room := { frames := 0, cells := 0, slots := 0, locals := 0 }
set_option maxRecDepth 100000 in
set_option maxHeartbeats 4000000 in
theorem c_X2_bit {l : Launch} {p0 : Int32} : Met l yX2_bit wsX2_bit rm_X2_bit (va_Pc [.int p0] Tr) (Qr (m_X2_bit p0)) 0 0 (fun _ => False) := by
  refine startW (cc := cX2_bit) (maxL := 1) (ret := (some .int)) (by decide) rfl (Nat.le_of_ble_eq_true rfl) ?_
  intro p e s m args below meth c ls S hr hlocks _ hl
  obtain ⟨r, h⟩ : ∃ r, m_X2_bit p0 = r := ⟨_, rfl⟩
  rw [h]
  unfold m_X2_bit at h
  have S : CallFix p m c cX2_bit 1 s args wsX2_bit RX2 := S
  have hl : lv_has ls 1 [(0, .int p0)] := hl
  refine lv_iconst (v := 1) S.1 S.2.1 dX2_bit_0 (by decide) ?_
  refine lv_iload_n S.1 S.2.1 dX2_bit_1 rfl (lv_at hl 0 rfl) ?_
  refine lv_ishl S.1 S.2.1 dX2_bit_2 ?_
  exact e_R S hr hlocks h dX2_bit_3

def m_X2_isIn (p0 p1 : Int32) : Int32 := (if ((p0 >>> (p1 &&& 31)) &&& 1) = 0 then 0 else 1)
def rm_X2_isIn : Room := { frames := 0, cells := 0, slots := 0, locals := 0 }
set_option maxRecDepth 100000 in
set_option maxHeartbeats 4000000 in
theorem c_X2_isIn {l : Launch} {p0 p1 : Int32} : Met l yX2_isIn wsX2_isIn rm_X2_isIn (va_Pc [.int p0, .int p1] Tr) (Qr (m_X2_isIn p0 p1)) 0 0 (fun _ => False) := by
  refine startW (cc := cX2_isIn) (maxL := 2) (ret := (some .boolean)) (by decide) rfl (Nat.le_of_ble_eq_true rfl) ?_
  intro p e s m args below meth c ls S hr hlocks _ hl
  obtain ⟨r, h⟩ : ∃ r, m_X2_isIn p0 p1 = r := ⟨_, rfl⟩
  rw [h]
  unfold m_X2_isIn at h
  have S : CallFix p m c cX2_isIn 2 s args wsX2_isIn RX2 := S
  have hl : lv_has ls 2 [(0, .int p0), (1, .int p1)] := hl
  refine lv_iload_n S.1 S.2.1 dX2_isIn_0 rfl (lv_at hl 0 rfl) ?_
  refine lv_iload_n S.1 S.2.1 dX2_isIn_1 rfl (lv_at hl 1 rfl) ?_
  refine lv_ishr S.1 S.2.1 dX2_isIn_2 ?_
  refine lv_iconst (v := 1) S.1 S.2.1 dX2_isIn_3 (by decide) ?_
  refine lv_iand S.1 S.2.1 dX2_isIn_4 ?_
  refine lv_if_eq (tgt := 12) S.1 S.2.1 dX2_isIn_5 (by decide) (fun hc1 => ?_) (fun hc1 => ?_)
  · rw [if_pos hc1] at h
    refine lv_iconst (v := 0) S.1 S.2.1 dX2_isIn_12 (by decide) ?_
    exact e_Rz S hr hlocks rfl h dX2_isIn_13
  · rw [if_neg hc1] at h
    refine lv_iconst (v := 1) S.1 S.2.1 dX2_isIn_8 (by decide) ?_
    refine lv_goto (tgt := 13) S.1 S.2.1 dX2_isIn_9 (by decide) ?_
    exact e_Rz S hr hlocks rfl h dX2_isIn_13
theorem nz_X2_isIn {p0 p1 : Int32} : narrow .boolean (.int (m_X2_isIn p0 p1)) = .int (m_X2_isIn p0 p1) := by
  unfold m_X2_isIn
  (repeat' split) <;> first | rfl

def m_X2_isModule (p0 : Int32) : Int32 := (if p0 < 0 then 0 else (if 8 ≤ p0 then 0 else 1))
def rm_X2_isModule : Room := { frames := 0, cells := 0, slots := 0, locals := 0 }
set_option maxRecDepth 100000 in
set_option maxHeartbeats 4000000 in
theorem c_X2_isModule {l : Launch} {p0 : Int32} : Met l yX2_isModule wsX2_isModule rm_X2_isModule (va_Pc [.int p0] Tr) (Qr (m_X2_isModule p0)) 0 0 (fun _ => False) := by
  refine startW (cc := cX2_isModule) (maxL := 1) (ret := (some .boolean)) (by decide) rfl (Nat.le_of_ble_eq_true rfl) ?_
  intro p e s m args below meth c ls S hr hlocks _ hl
  obtain ⟨r, h⟩ : ∃ r, m_X2_isModule p0 = r := ⟨_, rfl⟩
  rw [h]
  unfold m_X2_isModule at h
  have S : CallFix p m c cX2_isModule 1 s args wsX2_isModule RX2 := S
  have hl : lv_has ls 1 [(0, .int p0)] := hl
  refine lv_iload_n S.1 S.2.1 dX2_isModule_0 rfl (lv_at hl 0 rfl) ?_
  refine lv_if_lt (tgt := 14) S.1 S.2.1 dX2_isModule_1 (by decide) (fun hc1 => ?_) (fun hc1 => ?_)
  · rw [if_pos hc1] at h
    refine lv_iconst (v := 0) S.1 S.2.1 dX2_isModule_14 (by decide) ?_
    exact e_Rz S hr hlocks rfl h dX2_isModule_15
  · rw [if_neg hc1] at h
    refine lv_iload_n S.1 S.2.1 dX2_isModule_4 rfl (lv_at hl 0 rfl) ?_
    refine lv_bipush (v := 8) S.1 S.2.1 dX2_isModule_5 (by decide) ?_
    refine lv_icmp_ge (tgt := 14) S.1 S.2.1 dX2_isModule_7 (by decide) (fun hc2 => ?_) (fun hc2 => ?_)
    · rw [if_pos hc2] at h
      refine lv_iconst (v := 0) S.1 S.2.1 dX2_isModule_14 (by decide) ?_
      exact e_Rz S hr hlocks rfl h dX2_isModule_15
    · rw [if_neg hc2] at h
      refine lv_iconst (v := 1) S.1 S.2.1 dX2_isModule_10 (by decide) ?_
      refine lv_goto (tgt := 15) S.1 S.2.1 dX2_isModule_11 (by decide) ?_
      exact e_Rz S hr hlocks rfl h dX2_isModule_15
theorem nz_X2_isModule {p0 : Int32} : narrow .boolean (.int (m_X2_isModule p0)) = .int (m_X2_isModule p0) := by
  unfold m_X2_isModule
  (repeat' split) <;> first | rfl

def m_X2_isName (p0 : Int32) : Int32 := (if p0 < 0 then 0 else (if 24 ≤ p0 then 0 else 1))
def rm_X2_isName : Room := { frames := 0, cells := 0, slots := 0, locals := 0 }
set_option maxRecDepth 100000 in
set_option maxHeartbeats 4000000 in
theorem c_X2_isName {l : Launch} {p0 : Int32} : Met l yX2_isName wsX2_isName rm_X2_isName (va_Pc [.int p0] Tr) (Qr (m_X2_isName p0)) 0 0 (fun _ => False) := by
  refine startW (cc := cX2_isName) (maxL := 1) (ret := (some .boolean)) (by decide) rfl (Nat.le_of_ble_eq_true rfl) ?_
  intro p e s m args below meth c ls S hr hlocks _ hl
  obtain ⟨r, h⟩ : ∃ r, m_X2_isName p0 = r := ⟨_, rfl⟩
  rw [h]
  unfold m_X2_isName at h
  have S : CallFix p m c cX2_isName 1 s args wsX2_isName RX2 := S
  have hl : lv_has ls 1 [(0, .int p0)] := hl
  refine lv_iload_n S.1 S.2.1 dX2_isName_0 rfl (lv_at hl 0 rfl) ?_
  refine lv_if_lt (tgt := 14) S.1 S.2.1 dX2_isName_1 (by decide) (fun hc1 => ?_) (fun hc1 => ?_)
  · rw [if_pos hc1] at h
    refine lv_iconst (v := 0) S.1 S.2.1 dX2_isName_14 (by decide) ?_
    exact e_Rz S hr hlocks rfl h dX2_isName_15
  · rw [if_neg hc1] at h
    refine lv_iload_n S.1 S.2.1 dX2_isName_4 rfl (lv_at hl 0 rfl) ?_
    refine lv_bipush (v := 24) S.1 S.2.1 dX2_isName_5 (by decide) ?_
    refine lv_icmp_ge (tgt := 14) S.1 S.2.1 dX2_isName_7 (by decide) (fun hc2 => ?_) (fun hc2 => ?_)
    · rw [if_pos hc2] at h
      refine lv_iconst (v := 0) S.1 S.2.1 dX2_isName_14 (by decide) ?_
      exact e_Rz S hr hlocks rfl h dX2_isName_15
    · rw [if_neg hc2] at h
      refine lv_iconst (v := 1) S.1 S.2.1 dX2_isName_10 (by decide) ?_
      refine lv_goto (tgt := 15) S.1 S.2.1 dX2_isName_11 (by decide) ?_
      exact e_Rz S hr hlocks rfl h dX2_isName_15
theorem nz_X2_isName {p0 : Int32} : narrow .boolean (.int (m_X2_isName p0)) = .int (m_X2_isName p0) := by
  unfold m_X2_isName
  (repeat' split) <;> first | rfl

def m_X2_isExtended (p0 : Int32) : Int32 := (if (m_X2_isName p0) = 0 then (if p0 = (-1) then 1 else (if p0 = (-2) then 1 else 0)) else 1)
def rm_X2_isExtended : Room := { frames := 1, cells := 0, slots := 0, locals := 20 }
set_option maxRecDepth 100000 in
set_option maxHeartbeats 4000000 in
theorem c_X2_isExtended {l : Launch} {p0 : Int32} : Met l yX2_isExtended wsX2_isExtended rm_X2_isExtended (va_Pc [.int p0] Tr) (Qr (m_X2_isExtended p0)) 0 0 (fun _ => False) := by
  refine startW (cc := cX2_isExtended) (maxL := 1) (ret := (some .boolean)) (by decide) rfl (Nat.le_of_ble_eq_true rfl) ?_
  intro p e s m args below meth c ls S hr hlocks _ hl
  obtain ⟨r, h⟩ : ∃ r, m_X2_isExtended p0 = r := ⟨_, rfl⟩
  rw [h]
  unfold m_X2_isExtended at h
  have S : CallFix p m c cX2_isExtended 1 s args wsX2_isExtended RX2 := S
  have hl : lv_has ls 1 [(0, .int p0)] := hl
  refine lv_iload_n S.1 S.2.1 dX2_isExtended_0 rfl (lv_at hl 0 rfl) ?_
  refine k_R (r := (m_X2_isName p0)) (va_runS (As := [.int p0]) (rest := []) S c_X2_isName (va_cwS 1 S.2.2.2.2 gX2_isExtended_X2_isName rfl rfl rfl (by decide +kernel) ⟨Nat.le_of_ble_eq_true rfl, Nat.le_of_ble_eq_true rfl⟩) ⟨Tr_blind, Tr_at⟩ rfl rfl hl.1 rfl (lv_room (Nat.le_of_ble_eq_true rfl)) dX2_isExtended_1 ⟨Nat.zero_le _, Nat.zero_le _⟩) ?_
  refine lv_if_ne (tgt := 18) S.1 S.2.1 dX2_isExtended_4 (by decide) (fun hc1 => ?_) (fun hc1 => ?_)
  · rw [if_neg hc1] at h
    refine lv_iconst (v := 1) S.1 S.2.1 dX2_isExtended_18 (by decide) ?_
    refine lv_goto (tgt := 23) S.1 S.2.1 dX2_isExtended_19 (by decide) ?_
    exact e_Rz S hr hlocks rfl h dX2_isExtended_23
  · rw [if_pos hc1] at h
    refine lv_iload_n S.1 S.2.1 dX2_isExtended_7 rfl (lv_at hl 0 rfl) ?_
    refine lv_iconst (v := (-1)) S.1 S.2.1 dX2_isExtended_8 (by decide) ?_
    refine lv_icmp_eq (tgt := 18) S.1 S.2.1 dX2_isExtended_9 (by decide) (fun hc2 => ?_) (fun hc2 => ?_)
    · rw [if_pos hc2] at h
      refine lv_iconst (v := 1) S.1 S.2.1 dX2_isExtended_18 (by decide) ?_
      refine lv_goto (tgt := 23) S.1 S.2.1 dX2_isExtended_19 (by decide) ?_
      exact e_Rz S hr hlocks rfl h dX2_isExtended_23
    · rw [if_neg hc2] at h
      refine lv_iload_n S.1 S.2.1 dX2_isExtended_12 rfl (lv_at hl 0 rfl) ?_
      refine lv_bipush (v := (-2)) S.1 S.2.1 dX2_isExtended_13 (by decide) ?_
      refine lv_icmp_ne (tgt := 22) S.1 S.2.1 dX2_isExtended_15 (by decide) (fun hc3 => ?_) (fun hc3 => ?_)
      · rw [if_neg hc3] at h
        refine lv_iconst (v := 0) S.1 S.2.1 dX2_isExtended_22 (by decide) ?_
        exact e_Rz S hr hlocks rfl h dX2_isExtended_23
      · rw [if_pos hc3] at h
        refine lv_iconst (v := 1) S.1 S.2.1 dX2_isExtended_18 (by decide) ?_
        refine lv_goto (tgt := 23) S.1 S.2.1 dX2_isExtended_19 (by decide) ?_
        exact e_Rz S hr hlocks rfl h dX2_isExtended_23
theorem nz_X2_isExtended {p0 : Int32} : narrow .boolean (.int (m_X2_isExtended p0)) = .int (m_X2_isExtended p0) := by
  unfold m_X2_isExtended
  (repeat' split) <;> first | rfl | exact nz_X2_isName

def m_X2_isPathSet (p0 : Int32) : Int32 := (if p0 < 0 then 0 else (if 63 < p0 then 0 else 1))
def rm_X2_isPathSet : Room := { frames := 0, cells := 0, slots := 0, locals := 0 }
set_option maxRecDepth 100000 in
set_option maxHeartbeats 4000000 in
theorem c_X2_isPathSet {l : Launch} {p0 : Int32} : Met l yX2_isPathSet wsX2_isPathSet rm_X2_isPathSet (va_Pc [.int p0] Tr) (Qr (m_X2_isPathSet p0)) 0 0 (fun _ => False) := by
  refine startW (cc := cX2_isPathSet) (maxL := 1) (ret := (some .boolean)) (by decide) rfl (Nat.le_of_ble_eq_true rfl) ?_
  intro p e s m args below meth c ls S hr hlocks _ hl
  obtain ⟨r, h⟩ : ∃ r, m_X2_isPathSet p0 = r := ⟨_, rfl⟩
  rw [h]
  unfold m_X2_isPathSet at h
  have S : CallFix p m c cX2_isPathSet 1 s args wsX2_isPathSet RX2 := S
  have hl : lv_has ls 1 [(0, .int p0)] := hl
  refine lv_iload_n S.1 S.2.1 dX2_isPathSet_0 rfl (lv_at hl 0 rfl) ?_
  refine lv_if_lt (tgt := 14) S.1 S.2.1 dX2_isPathSet_1 (by decide) (fun hc1 => ?_) (fun hc1 => ?_)
  · rw [if_pos hc1] at h
    refine lv_iconst (v := 0) S.1 S.2.1 dX2_isPathSet_14 (by decide) ?_
    exact e_Rz S hr hlocks rfl h dX2_isPathSet_15
  · rw [if_neg hc1] at h
    refine lv_iload_n S.1 S.2.1 dX2_isPathSet_4 rfl (lv_at hl 0 rfl) ?_
    refine lv_bipush (v := 63) S.1 S.2.1 dX2_isPathSet_5 (by decide) ?_
    refine lv_icmp_gt (tgt := 14) S.1 S.2.1 dX2_isPathSet_7 (by decide) (fun hc2 => ?_) (fun hc2 => ?_)
    · rw [if_pos hc2] at h
      refine lv_iconst (v := 0) S.1 S.2.1 dX2_isPathSet_14 (by decide) ?_
      exact e_Rz S hr hlocks rfl h dX2_isPathSet_15
    · rw [if_neg hc2] at h
      refine lv_iconst (v := 1) S.1 S.2.1 dX2_isPathSet_10 (by decide) ?_
      refine lv_goto (tgt := 15) S.1 S.2.1 dX2_isPathSet_11 (by decide) ?_
      exact e_Rz S hr hlocks rfl h dX2_isPathSet_15
theorem nz_X2_isPathSet {p0 : Int32} : narrow .boolean (.int (m_X2_isPathSet p0)) = .int (m_X2_isPathSet p0) := by
  unfold m_X2_isPathSet
  (repeat' split) <;> first | rfl

def m_X2_canDependOn (p0 p1 : Int32) : Int32 := (if p1 = (-1) then 1 else (if (m_X2_isModule p1) = 0 then 0 else (if p1 = p0 then 0 else 1)))
def rm_X2_canDependOn : Room := { frames := 1, cells := 0, slots := 0, locals := 20 }
set_option maxRecDepth 100000 in
set_option maxHeartbeats 4000000 in
theorem c_X2_canDependOn {l : Launch} {p0 p1 : Int32} : Met l yX2_canDependOn wsX2_canDependOn rm_X2_canDependOn (va_Pc [.int p0, .int p1] Tr) (Qr (m_X2_canDependOn p0 p1)) 0 0 (fun _ => False) := by
  refine startW (cc := cX2_canDependOn) (maxL := 2) (ret := (some .boolean)) (by decide) rfl (Nat.le_of_ble_eq_true rfl) ?_
  intro p e s m args below meth c ls S hr hlocks _ hl
  obtain ⟨r, h⟩ : ∃ r, m_X2_canDependOn p0 p1 = r := ⟨_, rfl⟩
  rw [h]
  unfold m_X2_canDependOn at h
  have S : CallFix p m c cX2_canDependOn 2 s args wsX2_canDependOn RX2 := S
  have hl : lv_has ls 2 [(0, .int p0), (1, .int p1)] := hl
  refine lv_iload_n S.1 S.2.1 dX2_canDependOn_0 rfl (lv_at hl 1 rfl) ?_
  refine lv_iconst (v := (-1)) S.1 S.2.1 dX2_canDependOn_1 (by decide) ?_
  refine lv_icmp_eq (tgt := 17) S.1 S.2.1 dX2_canDependOn_2 (by decide) (fun hc1 => ?_) (fun hc1 => ?_)
  · rw [if_pos hc1] at h
    refine lv_iconst (v := 1) S.1 S.2.1 dX2_canDependOn_17 (by decide) ?_
    refine lv_goto (tgt := 22) S.1 S.2.1 dX2_canDependOn_18 (by decide) ?_
    exact e_Rz S hr hlocks rfl h dX2_canDependOn_22
  · rw [if_neg hc1] at h
    refine lv_iload_n S.1 S.2.1 dX2_canDependOn_5 rfl (lv_at hl 1 rfl) ?_
    refine k_R (r := (m_X2_isModule p1)) (va_runS (As := [.int p1]) (rest := []) S c_X2_isModule (va_cwS 1 S.2.2.2.2 gX2_canDependOn_X2_isModule rfl rfl rfl (by decide +kernel) ⟨Nat.le_of_ble_eq_true rfl, Nat.le_of_ble_eq_true rfl⟩) ⟨Tr_blind, Tr_at⟩ rfl rfl hl.1 rfl (lv_room (Nat.le_of_ble_eq_true rfl)) dX2_canDependOn_6 ⟨Nat.zero_le _, Nat.zero_le _⟩) ?_
    refine lv_if_eq (tgt := 21) S.1 S.2.1 dX2_canDependOn_9 (by decide) (fun hc2 => ?_) (fun hc2 => ?_)
    · rw [if_pos hc2] at h
      refine lv_iconst (v := 0) S.1 S.2.1 dX2_canDependOn_21 (by decide) ?_
      exact e_Rz S hr hlocks rfl h dX2_canDependOn_22
    · rw [if_neg hc2] at h
      refine lv_iload_n S.1 S.2.1 dX2_canDependOn_12 rfl (lv_at hl 1 rfl) ?_
      refine lv_iload_n S.1 S.2.1 dX2_canDependOn_13 rfl (lv_at hl 0 rfl) ?_
      refine lv_icmp_eq (tgt := 21) S.1 S.2.1 dX2_canDependOn_14 (by decide) (fun hc3 => ?_) (fun hc3 => ?_)
      · rw [if_pos hc3] at h
        refine lv_iconst (v := 0) S.1 S.2.1 dX2_canDependOn_21 (by decide) ?_
        exact e_Rz S hr hlocks rfl h dX2_canDependOn_22
      · rw [if_neg hc3] at h
        refine lv_iconst (v := 1) S.1 S.2.1 dX2_canDependOn_17 (by decide) ?_
        refine lv_goto (tgt := 22) S.1 S.2.1 dX2_canDependOn_18 (by decide) ?_
        exact e_Rz S hr hlocks rfl h dX2_canDependOn_22
theorem nz_X2_canDependOn {p0 p1 : Int32} : narrow .boolean (.int (m_X2_canDependOn p0 p1)) = .int (m_X2_canDependOn p0 p1) := by
  unfold m_X2_canDependOn
  (repeat' split) <;> first | rfl | exact nz_X2_isModule

def m_J6_bitCount_0f7a4 (p0 : Int32) : Int32 := ((((((((p0 - (((p0).toUInt32 >>> ((1 : Int32).toUInt32 &&& Int32.toUInt32 31)).toInt32 &&& 1431655765)) &&& 858993459) + ((((p0 - (((p0).toUInt32 >>> ((1 : Int32).toUInt32 &&& Int32.toUInt32 31)).toInt32 &&& 1431655765))).toUInt32 >>> ((2 : Int32).toUInt32 &&& Int32.toUInt32 31)).toInt32 &&& 858993459)) + (((((p0 - (((p0).toUInt32 >>> ((1 : Int32).toUInt32 &&& Int32.toUInt32 31)).toInt32 &&& 1431655765)) &&& 858993459) + ((((p0 - (((p0).toUInt32 >>> ((1 : Int32).toUInt32 &&& Int32.toUInt32 31)).toInt32 &&& 1431655765))).toUInt32 >>> ((2 : Int32).toUInt32 &&& Int32.toUInt32 31)).toInt32 &&& 858993459))).toUInt32 >>> ((4 : Int32).toUInt32 &&& Int32.toUInt32 31)).toInt32) &&& 252645135) + (((((((p0 - (((p0).toUInt32 >>> ((1 : Int32).toUInt32 &&& Int32.toUInt32 31)).toInt32 &&& 1431655765)) &&& 858993459) + ((((p0 - (((p0).toUInt32 >>> ((1 : Int32).toUInt32 &&& Int32.toUInt32 31)).toInt32 &&& 1431655765))).toUInt32 >>> ((2 : Int32).toUInt32 &&& Int32.toUInt32 31)).toInt32 &&& 858993459)) + (((((p0 - (((p0).toUInt32 >>> ((1 : Int32).toUInt32 &&& Int32.toUInt32 31)).toInt32 &&& 1431655765)) &&& 858993459) + ((((p0 - (((p0).toUInt32 >>> ((1 : Int32).toUInt32 &&& Int32.toUInt32 31)).toInt32 &&& 1431655765))).toUInt32 >>> ((2 : Int32).toUInt32 &&& Int32.toUInt32 31)).toInt32 &&& 858993459))).toUInt32 >>> ((4 : Int32).toUInt32 &&& Int32.toUInt32 31)).toInt32) &&& 252645135)).toUInt32 >>> ((8 : Int32).toUInt32 &&& Int32.toUInt32 31)).toInt32) + ((((((((p0 - (((p0).toUInt32 >>> ((1 : Int32).toUInt32 &&& Int32.toUInt32 31)).toInt32 &&& 1431655765)) &&& 858993459) + ((((p0 - (((p0).toUInt32 >>> ((1 : Int32).toUInt32 &&& Int32.toUInt32 31)).toInt32 &&& 1431655765))).toUInt32 >>> ((2 : Int32).toUInt32 &&& Int32.toUInt32 31)).toInt32 &&& 858993459)) + (((((p0 - (((p0).toUInt32 >>> ((1 : Int32).toUInt32 &&& Int32.toUInt32 31)).toInt32 &&& 1431655765)) &&& 858993459) + ((((p0 - (((p0).toUInt32 >>> ((1 : Int32).toUInt32 &&& Int32.toUInt32 31)).toInt32 &&& 1431655765))).toUInt32 >>> ((2 : Int32).toUInt32 &&& Int32.toUInt32 31)).toInt32 &&& 858993459))).toUInt32 >>> ((4 : Int32).toUInt32 &&& Int32.toUInt32 31)).toInt32) &&& 252645135) + (((((((p0 - (((p0).toUInt32 >>> ((1 : Int32).toUInt32 &&& Int32.toUInt32 31)).toInt32 &&& 1431655765)) &&& 858993459) + ((((p0 - (((p0).toUInt32 >>> ((1 : Int32).toUInt32 &&& Int32.toUInt32 31)).toInt32 &&& 1431655765))).toUInt32 >>> ((2 : Int32).toUInt32 &&& Int32.toUInt32 31)).toInt32 &&& 858993459)) + (((((p0 - (((p0).toUInt32 >>> ((1 : Int32).toUInt32 &&& Int32.toUInt32 31)).toInt32 &&& 1431655765)) &&& 858993459) + ((((p0 - (((p0).toUInt32 >>> ((1 : Int32).toUInt32 &&& Int32.toUInt32 31)).toInt32 &&& 1431655765))).toUInt32 >>> ((2 : Int32).toUInt32 &&& Int32.toUInt32 31)).toInt32 &&& 858993459))).toUInt32 >>> ((4 : Int32).toUInt32 &&& Int32.toUInt32 31)).toInt32) &&& 252645135)).toUInt32 >>> ((8 : Int32).toUInt32 &&& Int32.toUInt32 31)).toInt32)).toUInt32 >>> ((16 : Int32).toUInt32 &&& Int32.toUInt32 31)).toInt32) &&& 63)
def rm_J6_bitCount_0f7a4 : Room := { frames := 0, cells := 0, slots := 0, locals := 0 }
set_option maxRecDepth 100000 in
set_option maxHeartbeats 4000000 in
theorem c_J6_bitCount_0f7a4 {l : Launch} {p0 : Int32} : Met l yJ6_bitCount_0f7a4 wsJ6_bitCount_0f7a4 rm_J6_bitCount_0f7a4 (va_Pc [.int p0] Tr) (Qr (m_J6_bitCount_0f7a4 p0)) 0 0 (fun _ => False) := by
  refine startW (cc := cJ6_bitCount_0f7a4) (maxL := 1) (ret := (some .int)) (by decide) rfl (Nat.le_of_ble_eq_true rfl) ?_
  intro p e s m args below meth c ls S hr hlocks _ hl
  obtain ⟨r, h⟩ : ∃ r, m_J6_bitCount_0f7a4 p0 = r := ⟨_, rfl⟩
  rw [h]
  unfold m_J6_bitCount_0f7a4 at h
  have S : CallFix p m c cJ6_bitCount_0f7a4 1 s args wsJ6_bitCount_0f7a4 RJ6 := S
  have hl : lv_has ls 1 [(0, .int p0)] := hl
  refine lv_iload_n S.1 S.2.1 dJ6_bitCount_0f7a4_0 rfl (lv_at hl 0 rfl) ?_
  refine lv_iload_n S.1 S.2.1 dJ6_bitCount_0f7a4_1 rfl (lv_at hl 0 rfl) ?_
  refine lv_iconst (v := 1) S.1 S.2.1 dJ6_bitCount_0f7a4_2 (by decide) ?_
  refine lv_iushr (v := ((p0).toUInt32 >>> ((1 : Int32).toUInt32 &&& Int32.toUInt32 31)).toInt32) S.1 S.2.1 dJ6_bitCount_0f7a4_3 rfl ?_
  refine lv_ldcw (v := 1431655765) S.1 S.2.1 S.2.2.2.1 (S.2.2.2.2 (.constant RJ6 265 1431655765) (by decide +kernel)) dJ6_bitCount_0f7a4_4 ?_
  refine lv_iand S.1 S.2.1 dJ6_bitCount_0f7a4_7 ?_
  refine lv_isub S.1 S.2.1 dJ6_bitCount_0f7a4_8 ?_
  refine lv_istore_n (lv' := [(0, .int (p0 - (((p0).toUInt32 >>> ((1 : Int32).toUInt32 &&& Int32.toUInt32 31)).toInt32 &&& 1431655765)))]) S.1 S.2.1 dJ6_bitCount_0f7a4_9 rfl hl (by decide) rfl (fun ls hl => ?_)
  refine lv_iload_n S.1 S.2.1 dJ6_bitCount_0f7a4_10 rfl (lv_at hl 0 rfl) ?_
  refine lv_ldcw (v := 858993459) S.1 S.2.1 S.2.2.2.1 (S.2.2.2.2 (.constant RJ6 266 858993459) (by decide +kernel)) dJ6_bitCount_0f7a4_11 ?_
  refine lv_iand S.1 S.2.1 dJ6_bitCount_0f7a4_14 ?_
  refine lv_iload_n S.1 S.2.1 dJ6_bitCount_0f7a4_15 rfl (lv_at hl 0 rfl) ?_
  refine lv_iconst (v := 2) S.1 S.2.1 dJ6_bitCount_0f7a4_16 (by decide) ?_
  refine lv_iushr (v := (((p0 - (((p0).toUInt32 >>> ((1 : Int32).toUInt32 &&& Int32.toUInt32 31)).toInt32 &&& 1431655765))).toUInt32 >>> ((2 : Int32).toUInt32 &&& Int32.toUInt32 31)).toInt32) S.1 S.2.1 dJ6_bitCount_0f7a4_17 rfl ?_
  refine lv_ldcw (v := 858993459) S.1 S.2.1 S.2.2.2.1 (S.2.2.2.2 (.constant RJ6 266 858993459) (by decide +kernel)) dJ6_bitCount_0f7a4_18 ?_
  refine lv_iand S.1 S.2.1 dJ6_bitCount_0f7a4_21 ?_
  refine lv_iadd S.1 S.2.1 dJ6_bitCount_0f7a4_22 ?_
  refine lv_istore_n (lv' := [(0, .int (((p0 - (((p0).toUInt32 >>> ((1 : Int32).toUInt32 &&& Int32.toUInt32 31)).toInt32 &&& 1431655765)) &&& 858993459) + ((((p0 - (((p0).toUInt32 >>> ((1 : Int32).toUInt32 &&& Int32.toUInt32 31)).toInt32 &&& 1431655765))).toUInt32 >>> ((2 : Int32).toUInt32 &&& Int32.toUInt32 31)).toInt32 &&& 858993459)))]) S.1 S.2.1 dJ6_bitCount_0f7a4_23 rfl hl (by decide) rfl (fun ls hl => ?_)
  refine lv_iload_n S.1 S.2.1 dJ6_bitCount_0f7a4_24 rfl (lv_at hl 0 rfl) ?_
  refine lv_iload_n S.1 S.2.1 dJ6_bitCount_0f7a4_25 rfl (lv_at hl 0 rfl) ?_
  refine lv_iconst (v := 4) S.1 S.2.1 dJ6_bitCount_0f7a4_26 (by decide) ?_
  refine lv_iushr (v := (((((p0 - (((p0).toUInt32 >>> ((1 : Int32).toUInt32 &&& Int32.toUInt32 31)).toInt32 &&& 1431655765)) &&& 858993459) + ((((p0 - (((p0).toUInt32 >>> ((1 : Int32).toUInt32 &&& Int32.toUInt32 31)).toInt32 &&& 1431655765))).toUInt32 >>> ((2 : Int32).toUInt32 &&& Int32.toUInt32 31)).toInt32 &&& 858993459))).toUInt32 >>> ((4 : Int32).toUInt32 &&& Int32.toUInt32 31)).toInt32) S.1 S.2.1 dJ6_bitCount_0f7a4_27 rfl ?_
  refine lv_iadd S.1 S.2.1 dJ6_bitCount_0f7a4_28 ?_
  refine lv_ldcw (v := 252645135) S.1 S.2.1 S.2.2.2.1 (S.2.2.2.2 (.constant RJ6 267 252645135) (by decide +kernel)) dJ6_bitCount_0f7a4_29 ?_
  refine lv_iand S.1 S.2.1 dJ6_bitCount_0f7a4_32 ?_
  refine lv_istore_n (lv' := [(0, .int (((((p0 - (((p0).toUInt32 >>> ((1 : Int32).toUInt32 &&& Int32.toUInt32 31)).toInt32 &&& 1431655765)) &&& 858993459) + ((((p0 - (((p0).toUInt32 >>> ((1 : Int32).toUInt32 &&& Int32.toUInt32 31)).toInt32 &&& 1431655765))).toUInt32 >>> ((2 : Int32).toUInt32 &&& Int32.toUInt32 31)).toInt32 &&& 858993459)) + (((((p0 - (((p0).toUInt32 >>> ((1 : Int32).toUInt32 &&& Int32.toUInt32 31)).toInt32 &&& 1431655765)) &&& 858993459) + ((((p0 - (((p0).toUInt32 >>> ((1 : Int32).toUInt32 &&& Int32.toUInt32 31)).toInt32 &&& 1431655765))).toUInt32 >>> ((2 : Int32).toUInt32 &&& Int32.toUInt32 31)).toInt32 &&& 858993459))).toUInt32 >>> ((4 : Int32).toUInt32 &&& Int32.toUInt32 31)).toInt32) &&& 252645135))]) S.1 S.2.1 dJ6_bitCount_0f7a4_33 rfl hl (by decide) rfl (fun ls hl => ?_)
  refine lv_iload_n S.1 S.2.1 dJ6_bitCount_0f7a4_34 rfl (lv_at hl 0 rfl) ?_
  refine lv_iload_n S.1 S.2.1 dJ6_bitCount_0f7a4_35 rfl (lv_at hl 0 rfl) ?_
  refine lv_bipush (v := 8) S.1 S.2.1 dJ6_bitCount_0f7a4_36 (by decide) ?_
  refine lv_iushr (v := (((((((p0 - (((p0).toUInt32 >>> ((1 : Int32).toUInt32 &&& Int32.toUInt32 31)).toInt32 &&& 1431655765)) &&& 858993459) + ((((p0 - (((p0).toUInt32 >>> ((1 : Int32).toUInt32 &&& Int32.toUInt32 31)).toInt32 &&& 1431655765))).toUInt32 >>> ((2 : Int32).toUInt32 &&& Int32.toUInt32 31)).toInt32 &&& 858993459)) + (((((p0 - (((p0).toUInt32 >>> ((1 : Int32).toUInt32 &&& Int32.toUInt32 31)).toInt32 &&& 1431655765)) &&& 858993459) + ((((p0 - (((p0).toUInt32 >>> ((1 : Int32).toUInt32 &&& Int32.toUInt32 31)).toInt32 &&& 1431655765))).toUInt32 >>> ((2 : Int32).toUInt32 &&& Int32.toUInt32 31)).toInt32 &&& 858993459))).toUInt32 >>> ((4 : Int32).toUInt32 &&& Int32.toUInt32 31)).toInt32) &&& 252645135)).toUInt32 >>> ((8 : Int32).toUInt32 &&& Int32.toUInt32 31)).toInt32) S.1 S.2.1 dJ6_bitCount_0f7a4_38 rfl ?_
  refine lv_iadd S.1 S.2.1 dJ6_bitCount_0f7a4_39 ?_
  refine lv_istore_n (lv' := [(0, .int ((((((p0 - (((p0).toUInt32 >>> ((1 : Int32).toUInt32 &&& Int32.toUInt32 31)).toInt32 &&& 1431655765)) &&& 858993459) + ((((p0 - (((p0).toUInt32 >>> ((1 : Int32).toUInt32 &&& Int32.toUInt32 31)).toInt32 &&& 1431655765))).toUInt32 >>> ((2 : Int32).toUInt32 &&& Int32.toUInt32 31)).toInt32 &&& 858993459)) + (((((p0 - (((p0).toUInt32 >>> ((1 : Int32).toUInt32 &&& Int32.toUInt32 31)).toInt32 &&& 1431655765)) &&& 858993459) + ((((p0 - (((p0).toUInt32 >>> ((1 : Int32).toUInt32 &&& Int32.toUInt32 31)).toInt32 &&& 1431655765))).toUInt32 >>> ((2 : Int32).toUInt32 &&& Int32.toUInt32 31)).toInt32 &&& 858993459))).toUInt32 >>> ((4 : Int32).toUInt32 &&& Int32.toUInt32 31)).toInt32) &&& 252645135) + (((((((p0 - (((p0).toUInt32 >>> ((1 : Int32).toUInt32 &&& Int32.toUInt32 31)).toInt32 &&& 1431655765)) &&& 858993459) + ((((p0 - (((p0).toUInt32 >>> ((1 : Int32).toUInt32 &&& Int32.toUInt32 31)).toInt32 &&& 1431655765))).toUInt32 >>> ((2 : Int32).toUInt32 &&& Int32.toUInt32 31)).toInt32 &&& 858993459)) + (((((p0 - (((p0).toUInt32 >>> ((1 : Int32).toUInt32 &&& Int32.toUInt32 31)).toInt32 &&& 1431655765)) &&& 858993459) + ((((p0 - (((p0).toUInt32 >>> ((1 : Int32).toUInt32 &&& Int32.toUInt32 31)).toInt32 &&& 1431655765))).toUInt32 >>> ((2 : Int32).toUInt32 &&& Int32.toUInt32 31)).toInt32 &&& 858993459))).toUInt32 >>> ((4 : Int32).toUInt32 &&& Int32.toUInt32 31)).toInt32) &&& 252645135)).toUInt32 >>> ((8 : Int32).toUInt32 &&& Int32.toUInt32 31)).toInt32))]) S.1 S.2.1 dJ6_bitCount_0f7a4_40 rfl hl (by decide) rfl (fun ls hl => ?_)
  refine lv_iload_n S.1 S.2.1 dJ6_bitCount_0f7a4_41 rfl (lv_at hl 0 rfl) ?_
  refine lv_iload_n S.1 S.2.1 dJ6_bitCount_0f7a4_42 rfl (lv_at hl 0 rfl) ?_
  refine lv_bipush (v := 16) S.1 S.2.1 dJ6_bitCount_0f7a4_43 (by decide) ?_
  refine lv_iushr (v := ((((((((p0 - (((p0).toUInt32 >>> ((1 : Int32).toUInt32 &&& Int32.toUInt32 31)).toInt32 &&& 1431655765)) &&& 858993459) + ((((p0 - (((p0).toUInt32 >>> ((1 : Int32).toUInt32 &&& Int32.toUInt32 31)).toInt32 &&& 1431655765))).toUInt32 >>> ((2 : Int32).toUInt32 &&& Int32.toUInt32 31)).toInt32 &&& 858993459)) + (((((p0 - (((p0).toUInt32 >>> ((1 : Int32).toUInt32 &&& Int32.toUInt32 31)).toInt32 &&& 1431655765)) &&& 858993459) + ((((p0 - (((p0).toUInt32 >>> ((1 : Int32).toUInt32 &&& Int32.toUInt32 31)).toInt32 &&& 1431655765))).toUInt32 >>> ((2 : Int32).toUInt32 &&& Int32.toUInt32 31)).toInt32 &&& 858993459))).toUInt32 >>> ((4 : Int32).toUInt32 &&& Int32.toUInt32 31)).toInt32) &&& 252645135) + (((((((p0 - (((p0).toUInt32 >>> ((1 : Int32).toUInt32 &&& Int32.toUInt32 31)).toInt32 &&& 1431655765)) &&& 858993459) + ((((p0 - (((p0).toUInt32 >>> ((1 : Int32).toUInt32 &&& Int32.toUInt32 31)).toInt32 &&& 1431655765))).toUInt32 >>> ((2 : Int32).toUInt32 &&& Int32.toUInt32 31)).toInt32 &&& 858993459)) + (((((p0 - (((p0).toUInt32 >>> ((1 : Int32).toUInt32 &&& Int32.toUInt32 31)).toInt32 &&& 1431655765)) &&& 858993459) + ((((p0 - (((p0).toUInt32 >>> ((1 : Int32).toUInt32 &&& Int32.toUInt32 31)).toInt32 &&& 1431655765))).toUInt32 >>> ((2 : Int32).toUInt32 &&& Int32.toUInt32 31)).toInt32 &&& 858993459))).toUInt32 >>> ((4 : Int32).toUInt32 &&& Int32.toUInt32 31)).toInt32) &&& 252645135)).toUInt32 >>> ((8 : Int32).toUInt32 &&& Int32.toUInt32 31)).toInt32)).toUInt32 >>> ((16 : Int32).toUInt32 &&& Int32.toUInt32 31)).toInt32) S.1 S.2.1 dJ6_bitCount_0f7a4_45 rfl ?_
  refine lv_iadd S.1 S.2.1 dJ6_bitCount_0f7a4_46 ?_
  refine lv_istore_n (lv' := [(0, .int (((((((p0 - (((p0).toUInt32 >>> ((1 : Int32).toUInt32 &&& Int32.toUInt32 31)).toInt32 &&& 1431655765)) &&& 858993459) + ((((p0 - (((p0).toUInt32 >>> ((1 : Int32).toUInt32 &&& Int32.toUInt32 31)).toInt32 &&& 1431655765))).toUInt32 >>> ((2 : Int32).toUInt32 &&& Int32.toUInt32 31)).toInt32 &&& 858993459)) + (((((p0 - (((p0).toUInt32 >>> ((1 : Int32).toUInt32 &&& Int32.toUInt32 31)).toInt32 &&& 1431655765)) &&& 858993459) + ((((p0 - (((p0).toUInt32 >>> ((1 : Int32).toUInt32 &&& Int32.toUInt32 31)).toInt32 &&& 1431655765))).toUInt32 >>> ((2 : Int32).toUInt32 &&& Int32.toUInt32 31)).toInt32 &&& 858993459))).toUInt32 >>> ((4 : Int32).toUInt32 &&& Int32.toUInt32 31)).toInt32) &&& 252645135) + (((((((p0 - (((p0).toUInt32 >>> ((1 : Int32).toUInt32 &&& Int32.toUInt32 31)).toInt32 &&& 1431655765)) &&& 858993459) + ((((p0 - (((p0).toUInt32 >>> ((1 : Int32).toUInt32 &&& Int32.toUInt32 31)).toInt32 &&& 1431655765))).toUInt32 >>> ((2 : Int32).toUInt32 &&& Int32.toUInt32 31)).toInt32 &&& 858993459)) + (((((p0 - (((p0).toUInt32 >>> ((1 : Int32).toUInt32 &&& Int32.toUInt32 31)).toInt32 &&& 1431655765)) &&& 858993459) + ((((p0 - (((p0).toUInt32 >>> ((1 : Int32).toUInt32 &&& Int32.toUInt32 31)).toInt32 &&& 1431655765))).toUInt32 >>> ((2 : Int32).toUInt32 &&& Int32.toUInt32 31)).toInt32 &&& 858993459))).toUInt32 >>> ((4 : Int32).toUInt32 &&& Int32.toUInt32 31)).toInt32) &&& 252645135)).toUInt32 >>> ((8 : Int32).toUInt32 &&& Int32.toUInt32 31)).toInt32) + ((((((((p0 - (((p0).toUInt32 >>> ((1 : Int32).toUInt32 &&& Int32.toUInt32 31)).toInt32 &&& 1431655765)) &&& 858993459) + ((((p0 - (((p0).toUInt32 >>> ((1 : Int32).toUInt32 &&& Int32.toUInt32 31)).toInt32 &&& 1431655765))).toUInt32 >>> ((2 : Int32).toUInt32 &&& Int32.toUInt32 31)).toInt32 &&& 858993459)) + (((((p0 - (((p0).toUInt32 >>> ((1 : Int32).toUInt32 &&& Int32.toUInt32 31)).toInt32 &&& 1431655765)) &&& 858993459) + ((((p0 - (((p0).toUInt32 >>> ((1 : Int32).toUInt32 &&& Int32.toUInt32 31)).toInt32 &&& 1431655765))).toUInt32 >>> ((2 : Int32).toUInt32 &&& Int32.toUInt32 31)).toInt32 &&& 858993459))).toUInt32 >>> ((4 : Int32).toUInt32 &&& Int32.toUInt32 31)).toInt32) &&& 252645135) + (((((((p0 - (((p0).toUInt32 >>> ((1 : Int32).toUInt32 &&& Int32.toUInt32 31)).toInt32 &&& 1431655765)) &&& 858993459) + ((((p0 - (((p0).toUInt32 >>> ((1 : Int32).toUInt32 &&& Int32.toUInt32 31)).toInt32 &&& 1431655765))).toUInt32 >>> ((2 : Int32).toUInt32 &&& Int32.toUInt32 31)).toInt32 &&& 858993459)) + (((((p0 - (((p0).toUInt32 >>> ((1 : Int32).toUInt32 &&& Int32.toUInt32 31)).toInt32 &&& 1431655765)) &&& 858993459) + ((((p0 - (((p0).toUInt32 >>> ((1 : Int32).toUInt32 &&& Int32.toUInt32 31)).toInt32 &&& 1431655765))).toUInt32 >>> ((2 : Int32).toUInt32 &&& Int32.toUInt32 31)).toInt32 &&& 858993459))).toUInt32 >>> ((4 : Int32).toUInt32 &&& Int32.toUInt32 31)).toInt32) &&& 252645135)).toUInt32 >>> ((8 : Int32).toUInt32 &&& Int32.toUInt32 31)).toInt32)).toUInt32 >>> ((16 : Int32).toUInt32 &&& Int32.toUInt32 31)).toInt32))]) S.1 S.2.1 dJ6_bitCount_0f7a4_47 rfl hl (by decide) rfl (fun ls hl => ?_)
  refine lv_iload_n S.1 S.2.1 dJ6_bitCount_0f7a4_48 rfl (lv_at hl 0 rfl) ?_
  refine lv_bipush (v := 63) S.1 S.2.1 dJ6_bitCount_0f7a4_49 (by decide) ?_
  refine lv_iand S.1 S.2.1 dJ6_bitCount_0f7a4_51 ?_
  exact e_R S hr hlocks h dJ6_bitCount_0f7a4_52

def m_X3_in (p0 p1 p2 : Int32) : Int32 := (if p0 < p1 then 0 else (if p2 < p0 then 0 else 1))
def rm_X3_in : Room := { frames := 0, cells := 0, slots := 0, locals := 0 }
set_option maxRecDepth 100000 in
set_option maxHeartbeats 4000000 in
theorem c_X3_in {l : Launch} {p0 p1 p2 : Int32} : Met l yX3_in wsX3_in rm_X3_in (va_Pc [.int p0, .int p1, .int p2] Tr) (Qr (m_X3_in p0 p1 p2)) 0 0 (fun _ => False) := by
  refine startW (cc := cX3_in) (maxL := 3) (ret := (some .boolean)) (by decide) rfl (Nat.le_of_ble_eq_true rfl) ?_
  intro p e s m args below meth c ls S hr hlocks _ hl
  obtain ⟨r, h⟩ : ∃ r, m_X3_in p0 p1 p2 = r := ⟨_, rfl⟩
  rw [h]
  unfold m_X3_in at h
  have S : CallFix p m c cX3_in 3 s args wsX3_in RX3 := S
  have hl : lv_has ls 3 [(0, .int p0), (1, .int p1), (2, .int p2)] := hl
  refine lv_iload_n S.1 S.2.1 dX3_in_0 rfl (lv_at hl 0 rfl) ?_
  refine lv_iload_n S.1 S.2.1 dX3_in_1 rfl (lv_at hl 1 rfl) ?_
  refine lv_icmp_lt (tgt := 14) S.1 S.2.1 dX3_in_2 (by decide) (fun hc1 => ?_) (fun hc1 => ?_)
  · rw [if_pos hc1] at h
    refine lv_iconst (v := 0) S.1 S.2.1 dX3_in_14 (by decide) ?_
    exact e_Rz S hr hlocks rfl h dX3_in_15
  · rw [if_neg hc1] at h
    refine lv_iload_n S.1 S.2.1 dX3_in_5 rfl (lv_at hl 0 rfl) ?_
    refine lv_iload_n S.1 S.2.1 dX3_in_6 rfl (lv_at hl 2 rfl) ?_
    refine lv_icmp_gt (tgt := 14) S.1 S.2.1 dX3_in_7 (by decide) (fun hc2 => ?_) (fun hc2 => ?_)
    · rw [if_pos hc2] at h
      refine lv_iconst (v := 0) S.1 S.2.1 dX3_in_14 (by decide) ?_
      exact e_Rz S hr hlocks rfl h dX3_in_15
    · rw [if_neg hc2] at h
      refine lv_iconst (v := 1) S.1 S.2.1 dX3_in_10 (by decide) ?_
      refine lv_goto (tgt := 15) S.1 S.2.1 dX3_in_11 (by decide) ?_
      exact e_Rz S hr hlocks rfl h dX3_in_15
theorem nz_X3_in {p0 p1 p2 : Int32} : narrow .boolean (.int (m_X3_in p0 p1 p2)) = .int (m_X3_in p0 p1 p2) := by
  unfold m_X3_in
  (repeat' split) <;> first | rfl

def m_X3_isModule (p0 : Int32) : Int32 := (m_X3_in p0 0 7)
def rm_X3_isModule : Room := { frames := 1, cells := 0, slots := 0, locals := 22 }
set_option maxRecDepth 100000 in
set_option maxHeartbeats 4000000 in
theorem c_X3_isModule {l : Launch} {p0 : Int32} : Met l yX3_isModule wsX3_isModule rm_X3_isModule (va_Pc [.int p0] Tr) (Qr (m_X3_isModule p0)) 0 0 (fun _ => False) := by
  refine startW (cc := cX3_isModule) (maxL := 1) (ret := (some .boolean)) (by decide) rfl (Nat.le_of_ble_eq_true rfl) ?_
  intro p e s m args below meth c ls S hr hlocks _ hl
  obtain ⟨r, h⟩ : ∃ r, m_X3_isModule p0 = r := ⟨_, rfl⟩
  rw [h]
  unfold m_X3_isModule at h
  have S : CallFix p m c cX3_isModule 1 s args wsX3_isModule RX3 := S
  have hl : lv_has ls 1 [(0, .int p0)] := hl
  refine lv_iload_n S.1 S.2.1 dX3_isModule_0 rfl (lv_at hl 0 rfl) ?_
  refine lv_iconst (v := 0) S.1 S.2.1 dX3_isModule_1 (by decide) ?_
  refine lv_bipush (v := 7) S.1 S.2.1 dX3_isModule_2 (by decide) ?_
  refine k_R (r := (m_X3_in p0 0 7)) (va_runS (As := [.int p0, .int 0, .int 7]) (rest := []) S c_X3_in (va_cwS 3 S.2.2.2.2 gX3_isModule_X3_in rfl rfl rfl (by decide +kernel) ⟨Nat.le_of_ble_eq_true rfl, Nat.le_of_ble_eq_true rfl⟩) ⟨Tr_blind, Tr_at⟩ rfl rfl hl.1 rfl (lv_room (Nat.le_of_ble_eq_true rfl)) dX3_isModule_4 ⟨Nat.zero_le _, Nat.zero_le _⟩) ?_
  exact e_Rz S hr hlocks (nz_X3_in) h dX3_isModule_7
theorem nz_X3_isModule {p0 : Int32} : narrow .boolean (.int (m_X3_isModule p0)) = .int (m_X3_isModule p0) := by
  unfold m_X3_isModule
  (repeat' split) <;> first | rfl | exact nz_X3_in
