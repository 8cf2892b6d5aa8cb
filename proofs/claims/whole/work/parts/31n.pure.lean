/-! PURE: depend -/
theorem c_can (x y : Int32) : m_X2_canDependOn x y = bI (decide (y = -1 ∨ ((0 ≤ y ∧ y < 8) ∧ y ≠ x))) := by
  unfold m_X2_canDependOn
  by_cases h : y = -1
  · rw [if_pos h, decide_eq_true (.inl h)]
    rfl
  · rw [if_neg h, c_mod, bI_if]
    by_cases h2 : 0 ≤ y ∧ y < 8
    · rw [decide_eq_true h2, if_pos rfl]
      by_cases h3 : y = x
      · rw [if_pos h3, decide_eq_false (fun hc => (hc.resolve_left h).2 h3)]
        rfl
      · rw [if_neg h3, decide_eq_true (.inr ⟨h2, h3⟩)]
        rfl
    · rw [decide_eq_false h2, decide_eq_false (fun hc => h2 (hc.resolve_left h).1)]
      rfl
theorem i7 : (7 : Int32).toInt = 7 := by decide
theorem i8 : (8 : Int32).toInt = 8 := by decide
theorem can_iff {m : Nat} (hm : m < 8) (y : Int32) : (y = -1 ∨ ((0 ≤ y ∧ y < 8) ∧ y ≠ nI m)) ↔ ((-1 ≤ y ∧ y ≤ 7) ∧ y ≠ nI m) := by
  constructor
  · rintro (rfl | ⟨h1, h2⟩)
    · exact ⟨by decide, fun e => neg1_ne (by omega) e.symm⟩
    · refine ⟨?_, h2⟩
      simp only [Int32.le_iff_toInt_le, Int32.lt_iff_toInt_lt, m1_int, i7, i8, i0] at h1 ⊢
      omega
  · rintro ⟨h1, h2⟩
    by_cases h : y = -1
    · exact .inl h
    · refine .inr ⟨?_, h2⟩
      have a1 : ¬ y.toInt = -1 := fun e => h (Int32.toInt_inj.mp (by rw [e, m1_int]))
      simp only [Int32.le_iff_toInt_le, Int32.lt_iff_toInt_lt, m1_int, i7, i8, i0] at h1 ⊢
      omega
/-- the class's module with one dependency more -/
def adH (g : Mem) (m c : Nat) (x p q : Int32) (b : Bool) : Mem :=
  let G := mup (mup (mup (mup g (kM m + 3) c x) (kM m + 4) c p) (kM m + 5) c q) (kM m) 5 (nI (c + 1))
  if x = -1 then G else mup (mup G (kM m) 6 (g (kM m) 6 ||| m_X2_bit x)) (kM m) 7 (g (kM m) 7 ||| (if b then m_X2_bit x else 0))
theorem c_add {g : Mem} {m c : Nat} (hc : c < 6) (h5 : g (kM m) 5 = nI c) (x p q : Int32) (b : Bool) : m_X0_addDependency g m x p q (bI b) = some (adH g m c x p q b) := by
  unfold m_X0_addDependency adH
  have e3 : ∀ (g : Mem) i v, mup g (kM m + 3) i v (kM m) = g (kM m) := fun g i v => axR (by omega)
  have e4 : ∀ (g : Mem) i v, mup g (kM m + 4) i v (kM m) = g (kM m) := fun g i v => axR (by omega)
  have e5 : ∀ (g : Mem) i v, mup g (kM m + 5) i v (kM m) = g (kM m) := fun g i v => axR (by omega)
  simp only [e3, e4, e5, h5, gi_nI hc (show 6 < 2 ^ 31 by decide), zI_nat (show c < 2 ^ 31 by omega), zI_one, mup_ni (show (6 : Nat) ≠ 5 by decide), mup_ni (show (7 : Nat) ≠ 5 by decide), mup_ni (show (7 : Nat) ≠ 6 by decide), bI_if]
  by_cases hx : x = -1
  · rw [if_pos hx, if_pos hx]
  · rw [if_neg hx, if_neg hx]
    cases b <;> rfl
/-- the state with one dependency more -/
def adA (A : Mem) (m c o : Nat) (p q : Int32) (b : Bool) : Mem := mup (mup (mup (mup (mup A 61 (6 * m + c) (nI o)) 62 (6 * m + c) p) 63 (6 * m + c) q) 64 (6 * m + c) (bI b)) 60 m (nI (c + 1))
theorem adA_c {A : Mem} {m c o : Nat} {p q : Int32} {b : Bool} (hc : c < 6) (m' : Nat) : sc (adA A m c o p q b) m' = if m' = m then c + 1 else sc A m' := by
  unfold adA
  rw [sc_at (by omega), axc (by decide), axc (by decide), axc (by decide), axc (by decide)]
theorem adA_o {A : Mem} {m c o : Nat} {p q : Int32} {b : Bool} (hc : c < 6) (ho : o < 8) (m' j : Nat) (hj : j < 6) : so (adA A m c o p q b) m' j = if m' = m ∧ j = c then o else so A m' j := by
  unfold adA
  rw [axo (by decide), axo (by decide), axo (by decide), axo (by decide)]
  unfold so
  by_cases h : m' = m ∧ j = c
  · rw [if_pos h, h.1, h.2, mup_eq, zI_nat (by omega)]
  · rw [if_neg h, mup_ni (by omega)]
theorem adA_i {A : Mem} {m c o : Nat} {p q : Int32} {b : Bool} (hc : c < 6) (m' j : Nat) (hj : j < 6) : si (adA A m c o p q b) m' j = if m' = m ∧ j = c then p else si A m' j := by
  unfold adA
  rw [axi (by decide), axi (by decide), axi (by decide)]
  unfold si
  by_cases h : m' = m ∧ j = c
  · rw [if_pos h, h.1, h.2, mup_eq]
  · rw [if_neg h, mup_ni (by omega), mup_nk (by decide)]
theorem adA_e {A : Mem} {m c o : Nat} {p q : Int32} {b : Bool} (hc : c < 6) (m' j : Nat) (hj : j < 6) : se (adA A m c o p q b) m' j = if m' = m ∧ j = c then q else se A m' j := by
  unfold adA
  rw [axe (by decide), axe (by decide)]
  unfold se
  by_cases h : m' = m ∧ j = c
  · rw [if_pos h, h.1, h.2, mup_eq]
  · rw [if_neg h, mup_ni (by omega), mup_nk (by decide), mup_nk (by decide)]
theorem adA_q {A : Mem} {m c o : Nat} {p q : Int32} {b : Bool} (hc : c < 6) (m' j : Nat) (hj : j < 6) : sq (adA A m c o p q b) m' j = if m' = m ∧ j = c then b else sq A m' j := by
  unfold adA
  rw [axq (by decide)]
  unfold sq
  by_cases h : m' = m ∧ j = c
  · rw [if_pos h, h.1, h.2, mup_eq]
    cases b <;> rfl
  · rw [if_neg h, mup_ni (by omega), mup_nk (by decide), mup_nk (by decide), mup_nk (by decide)]
theorem adA_k {A : Mem} {m c o : Nat} {p q : Int32} {b : Bool} (k : Nat) (h : k < 60) : adA A m c o p q b k = A k := by
  unfold adA
  rw [axR (by omega), axR (by omega), axR (by omega), axR (by omega), axR (by omega)]
theorem WF_ad {A : Mem} (hA : WF A) {m c o : Nat} (hm : m < 8) (hc : c < 6) (hcA : sc A m = c) (ho : o < 8) {p q : Int32} {b : Bool} : WF (adA A m c o p q b) := by
  have e := adA_k (A := A) (m := m) (c := c) (o := o) (p := p) (q := q) (b := b)
  have eP : sP (adA A m c o p q b) = sP A := by funext x; unfold sP; rw [e 55 (by decide)]
  have eL : sL (adA A m c o p q b) = sL A := by funext x; unfold sL; rw [e 56 (by decide)]
  have eF : sF (adA A m c o p q b) = sF A := by funext x y; unfold sF; rw [e 58 (by decide)]
  have eE : sE (adA A m c o p q b) = sE A := by funext x y; unfold sE; rw [e 59 (by decide)]
  obtain ⟨w1, w2, w3, w4, w5, w6, w7, w8⟩ := hA
  unfold WF
  rw [eP, eL, eF, eE, e 55 (by decide), e 56 (by decide), e 54 (by decide), tot_same 8 (fun x _ => by unfold cnE; rw [eE])]
  refine ⟨w1, w2, w3, w4, w5, fun m' hm' => ?_, fun m' hm' j hj => ?_, w8⟩
  · rw [adA_c hc]
    by_cases h : m' = m
    · subst h
      rw [if_pos rfl]
      refine ⟨by omega, ?_⟩
      unfold adA
      rw [mup_eq]
    · rw [if_neg h]
      refine ⟨(w6 m' hm').1, ?_⟩
      unfold adA
      rw [mup_ni h, axR (by decide), axR (by decide), axR (by decide), axR (by decide)]
      exact (w6 m' hm').2
  · rw [adA_c hc] at hj
    have hj6 : j < 6 := by
      by_cases h : m' = m
      · rw [if_pos h] at hj
        omega
      · rw [if_neg h] at hj
        have := (w6 m' hm').1
        omega
    rw [adA_o hc ho m' j hj6, adA_q hc m' j hj6]
    by_cases h : m' = m ∧ j = c
    · rw [if_pos h, if_pos h]
      refine ⟨ho, ?_, ?_⟩
      · unfold adA
        rw [h.1, h.2, mup_nk (by decide), mup_nk (by decide), mup_nk (by decide), mup_nk (by decide), mup_eq]
      · unfold adA
        rw [h.1, h.2, mup_nk (by decide), mup_eq]
    · rw [if_neg h, if_neg h]
      have hj' : j < sc A m' := by
        by_cases h2 : m' = m
        · subst h2
          rw [if_pos rfl] at hj
          omega
        · rw [if_neg h2] at hj
          exact hj
      obtain ⟨v1, v2, v3⟩ := w7 m' hm' j hj'
      refine ⟨v1, ?_, ?_⟩
      · unfold adA
        rw [mup_nk (by decide), mup_nk (by decide), mup_nk (by decide), mup_nk (by decide), mup_ni (by omega)]
        exact v2
      · unfold adA
        rw [mup_nk (by decide), mup_ni (by omega), mup_nk (by decide), mup_nk (by decide), mup_nk (by decide)]
        exact v3
theorem adH_k {g : Mem} {m c : Nat} {x p q : Int32} {b : Bool} {k : Nat} (h : k < kM m ∨ kM m + 5 < k ∨ k = kM m + 1 ∨ k = kM m + 2) : adH g m c x p q b k = g k := by
  unfold adH
  split
  · rw [axR (by omega), axR (by omega), axR (by omega), axR (by omega)]
  · rw [axR (by omega), axR (by omega), axR (by omega), axR (by omega), axR (by omega), axR (by omega)]
theorem RC_ad {g A : Mem} (hA : WF A) (hC : RC g A) {m c o : Nat} (hm : m < 8) (hc : c < 6) (hcA : sc A m = c) (ho : o < 8) {x p q : Int32} {b : Bool} (hx : x = if o = m then -1 else nI o) : RC (adH g m c x p q b) (adA A m c o p q b) := by
  have e := adA_k (A := A) (m := m) (c := c) (o := o) (p := p) (q := q) (b := b)
  have eP : sP (adA A m c o p q b) = sP A := by funext x; unfold sP; rw [e 55 (by decide)]
  have eL : sL (adA A m c o p q b) = sL A := by funext x; unfold sL; rw [e 56 (by decide)]
  have eF : sF (adA A m c o p q b) = sF A := by funext x y; unfold sF; rw [e 58 (by decide)]
  have eE : sE (adA A m c o p q b) = sE A := by funext x y; unfold sE; rw [e 59 (by decide)]
  obtain ⟨h1, h2, h3, h4, h5⟩ := hC
  unfold RC
  rw [adH_k (k := 0) (by unfold kM; omega), eP, eL]
  refine ⟨h1, h2, h3, h4, fun m' hm' => ?_⟩
  by_cases hmm : m' = m
  · subst hmm
    obtain ⟨q1, q2, q3, q4, q5, q6, q7, q8⟩ := h5 m' hm'
    have ed : ∀ t, sdp (adA A m' c o p q b) m' t = (sdp A m' t || (decide (o = t) && decide (t ≠ m'))) := fun t => by
      apply bool_iff
      rw [sdp_iff, Bool.or_eq_true, sdp_iff, adA_c hc, if_pos rfl]
      simp only [Bool.and_eq_true, decide_eq_true_eq]
      constructor
      · rintro ⟨j, j1, j2, j3⟩
        rw [adA_o hc ho m' j (by omega)] at j2
        by_cases hj : j = c
        · rw [if_pos ⟨rfl, hj⟩] at j2
          exact .inr ⟨j2, j3⟩
        · rw [if_neg (fun h => hj h.2)] at j2
          exact .inl ⟨j, by omega, j2, j3⟩
      · rintro (⟨j, j1, j2, j3⟩ | ⟨j2, j3⟩)
        · exact ⟨j, by omega, by rw [adA_o hc ho m' j (by omega), if_neg (by omega)]; exact j2, j3⟩
        · exact ⟨c, by omega, by rw [adA_o hc ho m' c hc, if_pos ⟨rfl, rfl⟩]; exact j2, j3⟩
    have er : ∀ t, srq (adA A m' c o p q b) m' t = (srq A m' t || (b && (decide (o = t) && decide (t ≠ m')))) := fun t => by
      apply bool_iff
      rw [srq_iff, Bool.or_eq_true, srq_iff, adA_c hc, if_pos rfl]
      simp only [Bool.and_eq_true, decide_eq_true_eq]
      constructor
      · rintro ⟨j, j1, j0, j2, j3⟩
        rw [adA_o hc ho m' j (by omega)] at j2
        rw [adA_q hc m' j (by omega)] at j0
        by_cases hj : j = c
        · rw [if_pos ⟨rfl, hj⟩] at j2 j0
          exact .inr ⟨j0, j2, j3⟩
        · rw [if_neg (fun h => hj h.2)] at j2 j0
          exact .inl ⟨j, by omega, j0, j2, j3⟩
      · rintro (⟨j, j1, j0, j2, j3⟩ | ⟨j0, j2, j3⟩)
        · exact ⟨j, by omega, by rw [adA_q hc m' j (by omega), if_neg (by omega)]; exact j0, by rw [adA_o hc ho m' j (by omega), if_neg (by omega)]; exact j2, j3⟩
        · exact ⟨c, by omega, by rw [adA_q hc m' c hc, if_pos ⟨rfl, rfl⟩]; exact j0, by rw [adA_o hc ho m' c hc, if_pos ⟨rfl, rfl⟩]; exact j2, j3⟩
    -- what the class's memory holds
    have k3 : ∀ j, adH g m' c x p q b (kM m' + 3) j = if j = c then x else g (kM m' + 3) j := fun j => by
      unfold adH
      have : (mup (mup (mup (mup g (kM m' + 3) c x) (kM m' + 4) c p) (kM m' + 5) c q) (kM m') 5 (nI (c + 1))) (kM m' + 3) j = if j = c then x else g (kM m' + 3) j := by
        rw [mup_nk (by omega), mup_nk (by omega), mup_nk (by omega)]
        by_cases h : j = c
        · rw [h, mup_eq, if_pos rfl]
        · rw [mup_ni h, if_neg h]
      split
      · exact this
      · rw [mup_nk (by omega), mup_nk (by omega)]
        exact this
    have k4 : ∀ j, adH g m' c x p q b (kM m' + 4) j = if j = c then p else g (kM m' + 4) j := fun j => by
      unfold adH
      have : (mup (mup (mup (mup g (kM m' + 3) c x) (kM m' + 4) c p) (kM m' + 5) c q) (kM m') 5 (nI (c + 1))) (kM m' + 4) j = if j = c then p else g (kM m' + 4) j := by
        rw [mup_nk (by omega), mup_nk (by omega)]
        by_cases h : j = c
        · rw [h, mup_eq, if_pos rfl]
        · rw [mup_ni h, if_neg h, mup_nk (by omega)]
      split
      · exact this
      · rw [mup_nk (by omega), mup_nk (by omega)]
        exact this
    have k5 : ∀ j, adH g m' c x p q b (kM m' + 5) j = if j = c then q else g (kM m' + 5) j := fun j => by
      unfold adH
      have : (mup (mup (mup (mup g (kM m' + 3) c x) (kM m' + 4) c p) (kM m' + 5) c q) (kM m') 5 (nI (c + 1))) (kM m' + 5) j = if j = c then q else g (kM m' + 5) j := by
        rw [mup_nk (by omega)]
        by_cases h : j = c
        · rw [h, mup_eq, if_pos rfl]
        · rw [mup_ni h, if_neg h, mup_nk (by omega), mup_nk (by omega)]
      split
      · exact this
      · rw [mup_nk (by omega), mup_nk (by omega)]
        exact this
    have g5 : adH g m' c x p q b (kM m') 5 = nI (c + 1) := by
      unfold adH
      split
      · rw [mup_eq]
      · rw [mup_ni (by decide), mup_ni (by decide), mup_eq]
    have g6 : adH g m' c x p q b (kM m') 6 = if o = m' then g (kM m') 6 else g (kM m') 6 ||| m_X2_bit (nI o) := by
      unfold adH
      by_cases h : o = m'
      · rw [if_pos h] at hx
        rw [if_pos hx, if_pos h, mup_ni (by decide), axR (by omega), axR (by omega), axR (by omega)]
      · rw [if_neg h] at hx
        rw [if_neg (by rw [hx]; exact neg1_ne (by omega)), if_neg h, mup_ni (by decide), mup_eq, hx]
    have g7 : adH g m' c x p q b (kM m') 7 = if o = m' then g (kM m') 7 else g (kM m') 7 ||| (if b then m_X2_bit (nI o) else 0) := by
      unfold adH
      by_cases h : o = m'
      · rw [if_pos h] at hx
        rw [if_pos hx, if_pos h, mup_ni (by decide), axR (by omega), axR (by omega), axR (by omega)]
      · rw [if_neg h] at hx
        rw [if_neg (by rw [hx]; exact neg1_ne (by omega)), if_neg h, mup_eq, hx]
    unfold RCm
    rw [adH_k (by omega), adH_k (by omega), eF, eE, g5, g6, g7, adA_c hc, if_pos rfl]
    refine ⟨q1, q2, rfl, fun j hj => ?_, ?_, fun t ht => ?_, ?_, fun t ht => ?_⟩
    · rw [k3, k4, k5, adA_o hc ho m' j (by omega), adA_i hc m' j (by omega), adA_e hc m' j (by omega)]
      by_cases h : j = c
      · have h' : m' = m' ∧ j = c := ⟨rfl, h⟩
        simp only [h, and_self, if_true]
        exact ⟨hx, trivial⟩
      · have h' : ¬ (m' = m' ∧ j = c) := fun hc => h hc.2
        simp only [h, and_false, if_false]
        exact q4 j (by omega)
    · split
      · exact q5
      · exact sm8_or q5 (sm8_bit ho)
    · rw [ed]
      by_cases h : o = m'
      · rw [if_pos h, q6 t ht]
        have : (decide (o = t) && decide (t ≠ m')) = false := by
          rw [h]
          by_cases h2 : m' = t <;> simp [h2]
        rw [this, Bool.or_false]
      · rw [if_neg h, bt_or, q6 t ht, bt_bit (by omega) (by omega)]
        congr 1
        by_cases h2 : o = t
        · subst h2
          simp [h]
        · simp [h2]
    · split
      · exact q7
      · cases b
        · exact sm8_or q7 sm8_zero
        · exact sm8_or q7 (sm8_bit ho)
    · rw [er]
      by_cases h : o = m'
      · rw [if_pos h, q8 t ht]
        have : (decide (o = t) && decide (t ≠ m')) = false := by
          rw [h]
          by_cases h2 : m' = t <;> simp [h2]
        rw [this, Bool.and_false, Bool.or_false]
      · rw [if_neg h, bt_or, q8 t ht]
        congr 1
        cases b
        · exact bt_zero t
        · rw [if_pos rfl, bt_bit (by omega) (by omega)]
          by_cases h2 : o = t
          · subst h2
            simp [h]
          · simp [h2]
  · have hc6 := (hA.2.2.2.2.2.1 m' hm').1
    exact (h5 m' hm').keep hc6 (fun d hd => adH_k (by unfold kM; omega)) (fun n' hn' => by rw [eF]) (fun n' _ => by rw [eE]) (by rw [adA_c hc, if_neg hmm]) (fun j hj => by rw [adA_o hc ho m' j hj, if_neg (fun h => hmm h.1)]) (fun j hj => by rw [adA_i hc m' j hj, if_neg (fun h => hmm h.1)]) (fun j hj => by rw [adA_e hc m' j hj, if_neg (fun h => hmm h.1)]) (fun j hj => by rw [adA_q hc m' j hj, if_neg (fun h => hmm h.1)])
