/-! PURE: a module's files and classes, on both sides -/
theorem zI_mul (a b : Nat) : nI a * nI b = nI (a * b) := (Int32.ofNat_mul a b).symm
theorem x24 (m n : Nat) : (24 : Int32) * nI m + nI n = nI (24 * m + n) := by
  rw [show (24 : Int32) = nI 24 from rfl, zI_mul, nI_add]
theorem x6 (m n : Nat) : (6 : Int32) * nI m + nI n = nI (6 * m + n) := by
  rw [show (6 : Int32) = nI 6 from rfl, zI_mul, nI_add]
def sh (A : Mem) (m n : Nat) : Bool := decide (sF A m n ≠ -3)
theorem c_holds {h A : Mem} (H : RC h A) {m n : Nat} (hm : m < 8) (hn : n < 24) : m_X0_holds h m (nI n) = some (bI (sh A m n)) := by
  unfold m_X0_holds
  rw [gi_nI hn (by decide), zI_nat (by omega), (H.2.2.2.2 m hm).1 n hn]
  unfold sh
  by_cases h0 : sF A m n = -3 <;> simp [h0, bI]
def hp (A : Mem) (m p : Nat) : Bool := (List.range' (4 * p) 4).any (sh A m)
theorem any_succ {k r : Nat} {f : Nat → Bool} : (List.range' k (r + 1)).any f = (f k || (List.range' (k + 1) r).any f) := rfl
theorem c_hp_loop {h A : Mem} (H : RC h A) {m p : Nat} (hm : m < 8) (hp6 : p < 6) : ∀ n k r, r < n → k + r = 4 → m_X0_hasPath_2 h m (nI p) n (nI k) = some (bI ((List.range' (4 * p + k) r).any (sh A m))) := by
  intro n
  induction n with
  | zero => intro k r h1; omega
  | succ n ih =>
    intro k r h1 h2
    rw [m_X0_hasPath_2]
    cases r with
    | zero =>
      rw [if_pos (lp_yes (n := 4) (by omega) (by omega))]
      rfl
    | succ r =>
      rw [if_neg (lp_no (n := 4) (by omega) (by decide)), show (4 : Int32) = nI 4 from rfl, zI_mul, nI_add, Nat.mul_comm p 4, c_holds H hm (by omega), Option.bind_some, bI_if, zI_one, ih (k + 1) r (by omega) (by omega), any_succ, Nat.add_assoc]
      cases sh A m (4 * p + k) <;> rfl
theorem c_hp {h A : Mem} (H : RC h A) {m p : Nat} (hm : m < 8) (hp6 : p < 6) : m_X0_hasPath h m (nI p) = some (bI (hp A m p)) := c_hp_loop H hm hp6 200 0 4 (by decide) rfl
theorem gz_bI {α : Type} (b : Bool) (x : Option α) : gz (bI b) x = x := by cases b <;> rfl
theorem r_hp_loop {h A : Mem} (H : RR h A) {m p : Nat} (hm : m < 8) (hp6 : p < 6) : ∀ n k r b, r < n → k + r = 4 * p + 4 → m_X3_hasPath_12 h (nI m) (nI p) n (bI b) (nI (24 * m + k)) = some (bI (b || (List.range' k r).any (sh A m))) := by
  intro n
  induction n with
  | zero => intro k r b h1; omega
  | succ n ih =>
    intro k r b h1 h2
    rw [m_X3_hasPath_12, show (4 : Int32) = nI 4 from rfl, zI_mul, x24, nI_add]
    cases r with
    | zero =>
      rw [if_pos ((zI_le (by omega) (by omega)).mpr (by omega)), gz_bI]
      cases b <;> rfl
    | succ r =>
      rw [if_neg (fun hc => by have := (zI_le (by omega) (by omega)).mp hc; omega), bI_if]
      cases b with
      | true =>
        rw [if_pos rfl, zI_one, show (1 : Int32) = bI true from rfl, Nat.add_assoc, ih (k + 1) r true (by omega) (by omega)]
        rfl
      | false =>
        rw [if_neg (by decide), gi_nI (by omega) (by decide), zI_nat (by omega), H.2.2.1, zI_one, show (1 : Int32) = bI true from rfl, show (0 : Int32) = bI false from rfl, Nat.add_assoc, ih (k + 1) r true (by omega) (by omega), ih (k + 1) r false (by omega) (by omega), any_succ]
        show (if sF A m k = -3 then _ else _) = _
        unfold sh
        by_cases h0 : sF A m k = -3 <;> simp [h0]
theorem r_hp {h A : Mem} (H : RR h A) {m p : Nat} (hm : m < 8) (hp6 : p < 6) : m_X3_hasPath h (nI m) (nI p) = some (bI (hp A m p)) := by
  unfold m_X3_hasPath
  rw [show (4 : Int32) = nI 4 from rfl, zI_mul, x24, show (0 : Int32) = bI false from rfl, r_hp_loop H hm hp6 200 (4 * p) 4 false (by decide) rfl]
  rfl
theorem c_def {h A : Mem} (H : RC h A) {m n : Nat} (hm : m < 8) (hn : n < 24) : m_X0_hasDefined h m (nI n) = some (bI (decide (sE A m n ≠ -1))) := by
  unfold m_X0_hasDefined
  rw [gi_nI hn (by decide), zI_nat (by omega), (H.2.2.2.2 m hm).2.1 n hn]
  by_cases h0 : sE A m n = -1 <;> simp [h0, bI]
theorem c_cnt_loop {h A : Mem} (H : RC h A) {m : Nat} (hm : m < 8) : ∀ n k, k ≤ 24 → 24 - k < n → m_X0_countClasses_4 h m n (nI (cnt (fun n => decide (sE A m n ≠ -1)) k)) (nI k) = some (nI (cnE A m)) := by
  intro n
  induction n with
  | zero => intro k h1 h2; omega
  | succ n ih =>
    intro k h1 h2
    rw [m_X0_countClasses_4]
    by_cases hk : k = 24
    · subst hk
      rw [if_pos (by decide)]
      rfl
    · rw [if_neg (lp_no (n := 24) (by omega) (by decide)), c_def H hm (by omega), Option.bind_some, bI_if, zI_one, zI_one]
      have e := ih (k + 1) (by omega) (by omega)
      rw [cnt] at e
      by_cases h0 : decide (sE A m k ≠ -1) = true
      · rw [if_pos h0] at e ⊢
        exact e
      · rw [if_neg h0] at e ⊢
        exact e
theorem c_cnt {h A : Mem} (H : RC h A) {m : Nat} (hm : m < 8) : m_X0_countClasses h m = some (nI (cnE A m)) := c_cnt_loop H hm 200 0 (by decide) (by decide)
/-- the places k .. e-1 of the cell c made v -/
def fl (h : Mem) (c k e : Nat) (v : Int32) : Mem := fun a b => if a = c ∧ k ≤ b ∧ b < e then v else h a b
theorem fl_end {h : Mem} {c e : Nat} {v : Int32} : fl h c e e v = h := by
  funext a b
  unfold fl
  rw [if_neg (by omega)]
theorem fl_step {h : Mem} {c k e : Nat} {v : Int32} (hk : k < e) : fl (mup h c k v) c (k + 1) e v = fl h c k e v := by
  funext a b
  unfold fl mup
  by_cases h1 : a = c ∧ k + 1 ≤ b ∧ b < e
  · rw [if_pos h1, if_pos (by omega)]
  · rw [if_neg h1]
    by_cases h2 : a = c ∧ b = k
    · rw [if_pos h2, if_pos (by omega)]
    · rw [if_neg h2, if_neg (by omega)]
theorem fl_nk {h : Mem} {c k e a : Nat} {v : Int32} (ha : a ≠ c) : fl h c k e v a = h a := by
  funext b
  unfold fl
  rw [if_neg (by omega)]
theorem fl_in {h : Mem} {c k e b : Nat} {v : Int32} (h1 : k ≤ b) (h2 : b < e) : fl h c k e v c b = v := by
  unfold fl
  rw [if_pos ⟨rfl, h1, h2⟩]
theorem fl_out {h : Mem} {c k e b : Nat} {v : Int32} (h1 : b < k ∨ e ≤ b) : fl h c k e v c b = h c b := by
  unfold fl
  rw [if_neg (by omega)]
theorem c_drop_loop {m : Nat} : ∀ n k (h : Mem), k ≤ 24 → 24 - k < n → m_X0_dropClasses_2 m n h (nI k) = some (fl h (kM m + 2) k 24 (-1)) := by
  intro n
  induction n with
  | zero => intro k h h1 h2; omega
  | succ n ih =>
    intro k h h1 h2
    rw [m_X0_dropClasses_2]
    by_cases hk : k = 24
    · subst hk
      rw [if_pos (by decide), fl_end]
    · rw [if_neg (lp_no (n := 24) (by omega) (by decide)), gi_nI (by omega) (by decide), zI_one, zI_nat (by omega), ih (k + 1) _ (by omega) (by omega), fl_step (by omega)]
theorem c_drop (h : Mem) (m : Nat) : m_X0_dropClasses h m = some (fl h (kM m + 2) 0 24 (-1)) := c_drop_loop 200 0 h (by decide) (by decide)
theorem c_below_loop {h A : Mem} (H : RC h A) {m : Nat} (hm : m < 8) (x : Int32) : ∀ n k r, r < n → k + r = 24 → m_X0_hasClassBelow_2 h m x n (nI k) = some (bI ((List.range' k r).any (fun j => decide (sE A m j = x)))) := by
  intro n
  induction n with
  | zero => intro k r h1; omega
  | succ n ih =>
    intro k r h1 h2
    rw [m_X0_hasClassBelow_2]
    cases r with
    | zero =>
      rw [if_pos (lp_yes (n := 24) (by omega) (by omega))]
      rfl
    | succ r =>
      rw [if_neg (lp_no (n := 24) (by omega) (by decide)), gi_nI (by omega) (by decide), zI_nat (by omega), zI_one, ih (k + 1) r (by omega) (by omega), any_succ, (H.2.2.2.2 m hm).2.1 k (by omega)]
      show _ = some (bI (decide (sE A m k = x) || _))
      by_cases h0 : sE A m k = x
      · rw [if_pos h0, decide_eq_true h0]
        rfl
      · rw [if_neg h0, decide_eq_false h0]
        rfl
theorem c_below {h A : Mem} (H : RC h A) {m : Nat} (hm : m < 8) (x : Int32) : m_X0_hasClassBelow h m x = some (bI ((List.range' 0 24).any (fun j => decide (sE A m j = x)))) := c_below_loop H hm x 200 0 24 (by decide) rfl
