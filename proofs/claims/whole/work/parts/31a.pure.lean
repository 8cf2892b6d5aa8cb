/-! PURE: small numbers and bits -/
theorem zI_nat {k : Nat} (h : k < 2 ^ 31) : (nI k).toNatClampNeg = k := by
  have := nI_toInt h
  rw [Int32.toNatClampNeg, this]
  rfl
theorem zI_le {a b : Nat} (ha : a < 2 ^ 31) (hb : b < 2 ^ 31) : nI a ≤ nI b ↔ a ≤ b := by
  rw [Int32.le_iff_toInt_le, nI_toInt ha, nI_toInt hb]
  omega
theorem zI_lt {a b : Nat} (ha : a < 2 ^ 31) (hb : b < 2 ^ 31) : nI a < nI b ↔ a < b := by
  rw [Int32.lt_iff_toInt_lt, nI_toInt ha, nI_toInt hb]
  omega
theorem zI_inj {a b : Nat} (ha : a < 2 ^ 31) (hb : b < 2 ^ 31) (h : nI a = nI b) : a = b := by
  have := congrArg Int32.toInt h
  rw [nI_toInt ha, nI_toInt hb] at this
  omega
theorem lp_no {n k : Nat} (h : k < n) (hn : n < 2 ^ 31) : ¬ ((OfNat.ofNat n : Int32) ≤ nI k) := fun hc => by
  have := (zI_le hn (Nat.lt_trans h hn)).mp hc
  omega
theorem lp_yes {n k : Nat} (h : n ≤ k) (hk : k < 2 ^ 31) : (OfNat.ofNat n : Int32) ≤ nI k := (zI_le (Nat.lt_of_le_of_lt h hk) hk).mpr h
theorem zI_pos {k : Nat} (h : k < 2 ^ 31) : ¬ (nI k < 0) := fun hc => by
  have := (zI_lt (b := 0) h (by decide)).mp hc
  omega
theorem gi_nI {α : Type} {k n : Nat} {x : Option α} (h : k < n) (hn : n < 2 ^ 31) : gi (nI k) n x = x := by
  unfold gi
  rw [if_neg (zI_pos (Nat.lt_trans h hn)), zI_nat (Nat.lt_trans h hn), if_neg (Nat.not_le.mpr h)]
theorem zI_one (k : Nat) : nI k + 1 = nI (k + 1) := nI_add k 1
theorem exI {x : Int32} (h : 0 ≤ x) : ∃ k : Nat, k < 2 ^ 31 ∧ x = nI k := by
  have h0 : (0 : Int) ≤ x.toInt := Int32.le_iff_toInt_le.mp h
  have h1 : x.toInt < 2 ^ 31 := x.toInt_lt
  refine ⟨x.toInt.toNat, by omega, ?_⟩
  apply Int32.toInt_inj.mp
  rw [nI_toInt (by omega)]
  omega
theorem exI_lt {x : Int32} {n : Nat} (hn : n < 2 ^ 31) (h : 0 ≤ x) (h1 : x < nI n) : ∃ k : Nat, k < n ∧ x = nI k := by
  obtain ⟨k, hk, rfl⟩ := exI h
  exact ⟨k, (zI_lt hk hn).mp h1, rfl⟩
theorem i_lt {x y : Int32} : ¬ (x < y) ↔ y ≤ x := Int32.not_lt
theorem i_le {x y : Int32} : ¬ (x ≤ y) ↔ y < x := Int32.not_le
def bI (b : Bool) : Int32 := if b then 1 else 0
theorem bI_0 (b : Bool) : (bI b = 0) ↔ b = false := by cases b <;> decide
theorem bI_inj {a b : Bool} (h : bI a = bI b) : a = b := by revert h; cases a <;> cases b <;> decide
def bt (s : Int32) (k : Nat) : Bool := s.toBitVec.getLsbD k
theorem bt_ext {a b : Int32} (h : ∀ k, k < 32 → bt a k = bt b k) : a = b := by
  apply Int32.toBitVec_inj.mp
  apply BitVec.eq_of_getLsbD_eq
  exact fun i hi => h i hi
theorem bt_zero (k : Nat) : bt 0 k = false := by simp [bt]
theorem bt_and (a b : Int32) (k : Nat) : bt (a &&& b) k = (bt a k && bt b k) := by simp [bt]
theorem bt_or (a b : Int32) (k : Nat) : bt (a ||| b) k = (bt a k || bt b k) := by simp [bt]
theorem bt_not (a : Int32) {k : Nat} (h : k < 32) : bt (a ^^^ (-1)) k = !bt a k := by
  have e : (-1 : Int32).toBitVec = BitVec.allOnes 32 := by decide
  simp [bt, e, h]
theorem and31 : ∀ k, k < 32 → nI k &&& 31 = nI k := by decide
theorem smod32 : ∀ k, k < 32 → ((nI k).toBitVec.smod 32).toNat = k := by decide
theorem bt_bit0 : ∀ j, j < 32 → ∀ k, k < 32 → bt (m_X2_bit (nI j)) k = decide (j = k) := by decide +kernel
theorem bt_bit {j k : Nat} (hj : j < 32) (hk : k < 32) : bt (m_X2_bit (nI j)) k = decide (j = k) := bt_bit0 j hj k hk
theorem bt_one : ∀ i, i < 32 → bt 1 i = decide (i = 0) := by decide
theorem bt_sh (s : Int32) {k : Nat} (h : k < 32) : ((s >>> (nI k &&& 31)) &&& 1) = bI (bt s k) := by
  rw [and31 k h]
  apply bt_ext
  intro i hi
  have e1 : bt (bI (bt s k)) i = (bt s k && decide (i = 0)) := by
    cases bt s k
    · simp [bI, bt]
    · show bt 1 i = decide (i = 0)
      exact bt_one i hi
  rw [e1, bt_and]
  have e2 : bt 1 i = decide (i = 0) := bt_one i hi
  rw [e2]
  by_cases h0 : i = 0
  · subst h0
    simp only [decide_true, Bool.and_true]
    show (s >>> nI k).toBitVec.getLsbD 0 = s.toBitVec.getLsbD k
    rw [Int32.toBitVec_shiftRight, BitVec.sshiftRight_eq', smod32 k h, BitVec.getLsbD_sshiftRight]
    simp [h]
  · simp [h0]
theorem isIn_nI (s : Int32) {k : Nat} (h : k < 32) : m_X2_isIn s (nI k) = bI (bt s k) := by
  unfold m_X2_isIn
  rw [bt_sh s h]
  cases bt s k <;> rfl
/-- no bit above 7 -/
def sm8 (s : Int32) : Prop := ∀ k, 8 ≤ k → k < 32 → bt s k = false
theorem sm8_and {a b : Int32} (h : sm8 a) : sm8 (a &&& b) := fun k h1 h2 => by rw [bt_and, h k h1 h2]; rfl
theorem sm8_or {a b : Int32} (h : sm8 a) (h' : sm8 b) : sm8 (a ||| b) := fun k h1 h2 => by rw [bt_or, h k h1 h2, h' k h1 h2]; rfl
theorem sm8_bit {j : Nat} (h : j < 8) : sm8 (m_X2_bit (nI j)) := fun k h1 h2 => by
  rw [bt_bit (by omega) h2]
  exact decide_eq_false (by omega)
theorem sm8_zero : sm8 0 := fun k _ _ => bt_zero k
theorem sm8_eq0 {s : Int32} (h : sm8 s) : s = 0 ↔ ∀ k, k < 8 → bt s k = false := by
  constructor
  · intro e k _
    rw [e]
    exact bt_zero k
  · intro e
    apply bt_ext
    intro k hk
    rw [bt_zero]
    by_cases h8 : k < 8
    · exact e k h8
    · exact h k (by omega) hk
/-- how many of 0 .. n-1 -/
def cnt (f : Nat → Bool) : Nat → Nat
  | 0 => 0
  | n + 1 => cnt f n + (if f n then 1 else 0)
theorem cnt_congr {f g : Nat → Bool} : ∀ {n : Nat}, (∀ k, k < n → f k = g k) → cnt f n = cnt g n
  | 0, _ => rfl
  | n + 1, h => by rw [cnt, cnt, cnt_congr (fun k hk => h k (by omega)), h n (by omega)]
theorem cnt_le (f : Nat → Bool) : ∀ n, cnt f n ≤ n
  | 0 => Nat.le_refl _
  | n + 1 => by
    have := cnt_le f n
    rw [cnt]
    split <;> omega
theorem bitCount_all : ∀ x, x < 256 → m_J6_bitCount_0f7a4 (nI x) = nI (cnt (bt (nI x)) 8) := by decide +kernel
theorem sm8_nI {s : Int32} (h : sm8 s) : ∃ x, x < 256 ∧ s = nI x := by
  refine ⟨s.toBitVec.toNat, ?_, ?_⟩
  · apply Nat.lt_of_not_le
    intro hc
    have hlt := s.toBitVec.isLt
    obtain ⟨i, h1, h2⟩ := Nat.exists_ge_and_testBit_of_ge_two_pow (n := 8) hc
    have h3 : i < 32 := by
      apply Nat.lt_of_not_le
      intro h4
      have := Nat.testBit_lt_two_pow (Nat.lt_of_lt_of_le hlt (Nat.pow_le_pow_right (by decide) h4))
      rw [this] at h2
      cases h2
    have := h i h1 h3
    rw [bt, BitVec.getLsbD, h2] at this
    cases this
  · apply Int32.toBitVec_inj.mp
    apply BitVec.eq_of_toNat_eq
    show _ = (BitVec.ofNat 32 s.toBitVec.toNat).toNat
    rw [BitVec.toNat_ofNat]
    exact (Nat.mod_eq_of_lt s.toBitVec.isLt).symm
theorem bitCount_sm {s : Int32} (h : sm8 s) : m_J6_bitCount_0f7a4 s = nI (cnt (bt s) 8) := by
  obtain ⟨x, hx, rfl⟩ := sm8_nI h
  exact bitCount_all x hx
