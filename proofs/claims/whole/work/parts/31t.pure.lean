/-! PURE: a step of the law -/
theorem lg_refl (a : Int64) : lg_cmp a a = 0 := by
  unfold lg_cmp
  rw [if_neg (show ¬ a > a from Int64.lt_irrefl), if_pos rfl]
theorem nI_off (i k : Nat) : nI i + nI k = nI (i + k) := nI_add i k
theorem giL {α : Type} {i k L : Nat} {x : Option α} (h : i + k < L) (hL : L < 2 ^ 31) : gi (nI i + nI k) L x = x := by
  rw [nI_add, gi_nI h hL]
theorem inv_of {g A : Mem} (h : WF A ∧ RC g A ∧ RR g A) : Inv g := ⟨A, h⟩
theorem lwV {cl : Option (Mem × Int32)} {rf : Mem → Option Mem} (h : StV cl rf) : ∃ g1, (cl.bind fun q => (rf q.1).bind fun g2 => (m_X3_thrown g2).bind fun r => (if r = q.2 then some g2 else none)) = some g1 ∧ Inv g1 := by
  obtain ⟨g1, k, g2, A', e1, e2, e3, h1, h2, h3⟩ := h
  refine ⟨g2, ?_, A', h1, h2, h3⟩
  rw [e1, Option.bind_some]
  show ((rf g1).bind fun g2 => (m_X3_thrown g2).bind fun r => (if r = k then some g2 else none)) = some g2
  rw [e2, Option.bind_some]
  unfold m_X3_thrown
  rw [Option.bind_some, e3, if_pos rfl]
theorem lwT {cl : Option (Mem × Int32)} {rf : Mem → Option (Mem × Int32)} (h : StT cl rf) : ∃ g1, (cl.bind fun q => (rf q.1).bind fun q2 => (m_X3_thrown q2.1).bind fun r => (if r = q.2 then (if q.2 = 0 then (if (lg_cmp ((q2.1 71 0)).toInt64 (q2.2).toInt64) = 0 then some q2.1 else none) else some q2.1) else none)) = some g1 ∧ Inv g1 := by
  obtain ⟨g1, k, g2, b, A', e1, e2, e3, e4, h1, h2, h3⟩ := h
  refine ⟨g2, ?_, A', h1, h2, h3⟩
  rw [e1, Option.bind_some]
  show ((rf g1).bind fun q2 => (m_X3_thrown q2.1).bind fun r => (if r = k then (if k = 0 then (if (lg_cmp ((q2.1 71 0)).toInt64 (q2.2).toInt64) = 0 then some q2.1 else none) else some q2.1) else none)) = some g2
  rw [e2, Option.bind_some]
  unfold m_X3_thrown
  rw [Option.bind_some]
  show (if g2 54 0 = k then (if k = 0 then (if (lg_cmp ((g2 71 0)).toInt64 b.toInt64) = 0 then some g2 else none) else some g2) else none) = some g2
  rw [e3, if_pos rfl]
  by_cases hk : k = 0
  · rw [if_pos hk, e4 hk, if_pos (lg_refl _)]
  · rw [if_neg hk]
theorem lwQ {cl : Option (Mem × Int32)} {rf : Mem → Option (Mem × Int32)} (h : StQ cl rf) : ∃ g1, (cl.bind fun q => (rf q.1).bind fun q2 => (if q.2 = q2.2 then some q2.1 else none)) = some g1 ∧ Inv g1 := by
  obtain ⟨g1, k, g2, A', e1, e2, h1, h2, h3⟩ := h
  refine ⟨g2, ?_, A', h1, h2, h3⟩
  rw [e1, Option.bind_some]
  show ((rf g1).bind fun q2 => (if k = q2.2 then some q2.1 else none)) = some g2
  rw [e2, Option.bind_some, if_pos rfl]
theorem law_step (xs : Nat → Int32) (L : Nat) (hL : L ≤ 3072) : ∀ (g : Mem) (i : Nat), Inv g → i + 6 ≤ L → ∃ g1, m_law xs L g (nI i) = some g1 ∧ Inv g1 := by
  rintro g i ⟨A, hA, hC, hR⟩ hi
  have k1 : ∀ {α : Type} (x : Option α), gi (nI i + 1) L x = x := fun x => giL (k := 1) (by omega) (by omega)
  have k2 : ∀ {α : Type} (x : Option α), gi (nI i + 2) L x = x := fun x => giL (k := 2) (by omega) (by omega)
  have k3 : ∀ {α : Type} (x : Option α), gi (nI i + 3) L x = x := fun x => giL (k := 3) (by omega) (by omega)
  have k4 : ∀ {α : Type} (x : Option α), gi (nI i + 4) L x = x := fun x => giL (k := 4) (by omega) (by omega)
  have k5 : ∀ {α : Type} (x : Option α), gi (nI i + 5) L x = x := fun x => giL (k := 5) (by omega) (by omega)
  unfold m_law
  rw [gi_nI (by omega) (by omega)]
  generalize xs (nI i).toNatClampNeg &&& 15 = w
  generalize hx1 : xs (nI i + 1).toNatClampNeg = x1
  generalize hx2 : xs (nI i + 2).toNatClampNeg = x2
  generalize hx3 : xs (nI i + 3).toNatClampNeg = x3
  by_cases h0 : w = 0
  · rw [if_pos h0]
    unfold m_law_0
    simp only [k1, hx1]
    exact lwV (st_present hA hC hR x1)
  rw [if_neg h0]
  by_cases h1 : w = 1
  · rw [if_pos h1]
    unfold m_law_1
    simp only [k1, k2, k3, hx1, hx2, hx3]
    exact lwV (st_file hA hC hR x1 x2 x3)
  rw [if_neg h1]
  by_cases h2 : w = 2
  · rw [if_pos h2]
    unfold m_law_2
    simp only [k1, k2, k3, k4, k5, hx1, hx2, hx3]
    by_cases hb : xs (nI i + 5).toNatClampNeg = 0
    · simp only [hb, if_true]
      exact lwT (st_depend hA hC hR x1 x2 x3 _ false)
    · simp only [hb, if_false]
      exact lwT (st_depend hA hC hR x1 x2 x3 _ true)
  rw [if_neg h2]
  by_cases h3 : w = 3
  · rw [if_pos h3]
    unfold m_law_3
    simp only [k1, hx1]
    exact lwT (st_relink hA hC hR x1)
  rw [if_neg h3]
  by_cases h4 : w = 4
  · rw [if_pos h4]
    unfold m_law_4
    simp only [k1, hx1]
    exact lwT (st_load hA hC hR x1)
  rw [if_neg h4]
  by_cases h5 : w = 5
  · rw [if_pos h5]
    unfold m_law_5
    simp only [k1, hx1]
    exact lwT (st_unload hA hC hR x1)
  rw [if_neg h5]
  by_cases h6 : w = 6
  · rw [if_pos h6]
    unfold m_law_6
    simp only [k1, k2, hx1, hx2]
    exact lwT (st_find hA hC hR x1 x2)
  rw [if_neg h6]
  by_cases h7 : w = 7
  · rw [if_pos h7]
    unfold m_law_7
    simp only [k1, k2, k3, hx1, hx2, hx3]
    exact lwQ (st_visible hA hC hR x1 x2 x3)
  rw [if_neg h7]
  by_cases h8 : w = 8
  · rw [if_pos h8]
    unfold m_law_8
    simp only [k1, k2, hx1, hx2]
    exact lwQ (st_why hA hC hR x1 x2)
  rw [if_neg h8]
  by_cases h9 : w = 9
  · rw [if_pos h9]
    unfold m_law_9
    simp only [k1, hx1]
    obtain ⟨k, g2, A', e1, e2, q⟩ := st_state hA hC hR x1
    rw [e1, Option.bind_some, e2, Option.bind_some, if_pos rfl]
    exact ⟨g2, rfl, A', q⟩
  rw [if_neg h9]
  by_cases h10 : w = 10
  · rw [if_pos h10]
    unfold m_law_10
    simp only [k1, k2, hx1, hx2]
    obtain ⟨k, g2, A', e1, e2, q⟩ := st_above hA hC hR x1 x2
    rw [e1, Option.bind_some, e2, Option.bind_some, if_pos rfl]
    exact ⟨g2, rfl, A', q⟩
  rw [if_neg h10]
  by_cases h11 : w = 11
  · rw [if_pos h11]
    unfold m_law_11
    obtain ⟨k, g2, A', e1, e2, q⟩ := st_defined hA hC hR
    rw [e1, Option.bind_some, e2, Option.bind_some, if_pos rfl]
    exact ⟨g2, rfl, A', q⟩
  rw [if_neg h11]
  exact ⟨g, rfl, A, hA, hC, hR⟩
