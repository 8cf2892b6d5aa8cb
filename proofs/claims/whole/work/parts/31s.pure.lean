/-! PURE: visible, why, above, defined -/
theorem i5 : (5 : Int32).toInt = 5 := by decide
theorem i6 : (6 : Int32).toInt = 6 := by decide
theorem subn {k : Nat} (h : 0 < k) : nI k - 1 = nI (k - 1) := by
  obtain ⟨j, rfl⟩ : ∃ j, k = j + 1 := ⟨k - 1, by omega⟩
  exact sub1 j
theorem st_visible {g A : Mem} (hA : WF A) (hC : RC g A) (hR : RR g A) (x y z : Int32) : StQ (m_X2_visible g x y z) (fun g1 => m_X3_visible g1 x y z) := by
  have bad : m_X2_visible g x y z = some (g, -1) → m_X3_visible g x y z = some (mup g 54 0 0, -1) → StQ (m_X2_visible g x y z) (fun g1 => m_X3_visible g1 x y z) :=
    fun e1 e2 => ⟨g, -1, mup g 54 0 0, A, e1, e2, hA, hC.rf f54, hR.f54⟩
  have hR0 : RR (mup g 54 0 0) A := hR.f54
  by_cases hx : 0 ≤ x ∧ x < 8
  · obtain ⟨m, hm, rfl⟩ := ex_mod hx
    have rL : ∀ h, RR h A → m_X3_isLoaded h (nI m) = some (bI (sL A m)) := fun h hR => by
      rw [r_isL hR, decide_eq_true hx, zI_nat (by omega)]
      rfl
    cases eL : sL A m with
    | false =>
      apply bad
      · unfold m_X2_visible
        rw [c_isLn hC hm, eL, Option.bind_some, if_pos (show bI false = 0 from rfl)]
      · unfold m_X3_visible
        rw [rL _ hR0, eL, Option.bind_some, if_pos (show bI false = 0 from rfl)]
    | true =>
      by_cases hy : 0 ≤ y ∧ y < 6
      · obtain ⟨p, hp6, rfl⟩ := exI_lt (n := 6) (by decide) hy.1 hy.2
        obtain ⟨h1, a1, a2, a3, a4⟩ := c_fill hA hC hp6 hm eL
        have f1 : Fq 50 54 g h1 := a2.mono (by decide) (by decide)
        have hR1 : RR h1 A := hR.fd0 f1
        obtain ⟨h2, b1, b2, b3, b4⟩ := r_see hA (hR1.f54 (v := 0)) hp6 hm eL
        have gd := sV_good hA (p := p) hm eL
        have l8 := nd_len 8 _ gd.1 (fun x hx => (gd.2 x hx).1)
        have fin : ∀ k : Int32, m_X2_visible g (nI m) (nI p) z = some (h1, k) → m_X3_visible h1 (nI m) (nI p) z = some (h2, k) → StQ (m_X2_visible g (nI m) (nI p) z) (fun g1 => m_X3_visible g1 (nI m) (nI p) z) :=
          fun k e1 e2 => ⟨h1, k, h2, A, e1, e2, hA, (hC.row a2).rf ((Fq.up1 (by decide) (by decide) : Fq 54 71 h1 (mup h1 54 0 0)).trans b2.fq), (hR1.f54).fs b2⟩
        have c0 : m_X2_visible g (nI m) (nI p) z = (if z < 0 then some (h1, -1) else (if nI (sV A p m).length ≤ z then some (h1, -1) else gi z 8 (some (h1, h1 51 z.toNatClampNeg)))) := by
          unfold m_X2_visible
          rw [c_isLn hC hm, eL, Option.bind_some, if_neg (by decide), if_neg (i_lt.mpr hy.1), if_pos hy.2, a1, Option.bind_some, a3]
        have r0 : m_X3_visible h1 (nI m) (nI p) z = (if m_X3_in z 0 (nI (sV A p m).length - 1) = 0 then some (h2, -1) else gi z 8 (some (h2, h2 65 z.toNatClampNeg))) := by
          unfold m_X3_visible
          rw [rL _ hR1.f54, eL, Option.bind_some, if_neg (by decide), r_in, decide_eq_true (⟨hy.1, (lt_succ (n := 5) (by decide)).mpr hy.2⟩ : (0 : Int32) ≤ nI p ∧ nI p ≤ 5), if_neg (by decide), b1, Option.bind_some, b3]
        by_cases hz : z < 0
        · apply fin (-1)
          · rw [c0, if_pos hz]
          · rw [r0, r_in, decide_eq_false (fun hc => (i_lt.mpr hc.1) hz), if_pos (by decide)]
        · obtain ⟨i, hi, rfl⟩ := exI (i_lt.mp hz)
          by_cases hl : i < (sV A p m).length
          · obtain ⟨v, hv⟩ : ∃ v, (sV A p m)[i]? = some v := ⟨(sV A p m)[i]'hl, List.getElem?_eq_getElem hl⟩
            apply fin (nI v)
            · rw [c0, if_neg hz, if_neg (fun hc => by have := (zI_le (by omega) (by omega)).mp hc; omega), gi_nI (by omega) (by decide), zI_nat hi, a4 i v hv]
            · rw [r0, r_in, subn (show 0 < (sV A p m).length by omega), decide_eq_true (⟨zI_ge0 hi, (zI_le (by omega) (by omega)).mpr (by omega)⟩ : (0 : Int32) ≤ nI i ∧ nI i ≤ nI ((sV A p m).length - 1)), if_neg (by decide), gi_nI (by omega) (by decide), zI_nat hi, b4 i v hv]
          · apply fin (-1)
            · rw [c0, if_neg hz, if_pos ((zI_le (by omega) (by omega)).mpr (by omega))]
            · rw [r0, r_in]
              have : ¬ ((0 : Int32) ≤ nI i ∧ nI i ≤ nI (sV A p m).length - 1) := by
                rintro ⟨-, hc⟩
                by_cases h0 : (sV A p m).length = 0
                · rw [h0] at hc
                  have h1 : nI i ≤ -1 := hc
                  rw [Int32.le_iff_toInt_le, nI_toInt hi, m1_int] at h1
                  omega
                · rw [subn (show 0 < (sV A p m).length by omega)] at hc
                  have := (zI_le hi (by omega)).mp hc
                  omega
              rw [decide_eq_false this, if_pos (by decide)]
      · apply bad
        · unfold m_X2_visible
          rw [c_isLn hC hm, eL, Option.bind_some, if_neg (by decide)]
          by_cases h0 : y < 0
          · rw [if_pos h0]
          · rw [if_neg h0, if_neg (fun h6 => hy ⟨i_lt.mp h0, h6⟩)]
        · unfold m_X3_visible
          rw [rL _ hR0, eL, Option.bind_some, if_neg (by decide), r_in, decide_eq_false (fun h => hy ⟨h.1, (lt_succ (n := 5) (by decide)).mp h.2⟩), if_pos (by decide)]
  · apply bad
    · unfold m_X2_visible
      rw [c_isL hC, decide_eq_false hx, Bool.false_and, Option.bind_some, if_pos (show bI false = 0 from rfl)]
    · unfold m_X3_visible
      rw [r_isL hR0, decide_eq_false hx, Bool.false_and, Option.bind_some, if_pos (show bI false = 0 from rfl)]
/-! why -/
theorem c_hset_loop {h A : Mem} (H : RC h A) {n : Nat} (hn : n < 24) : ∀ f k r (x : Int32), r < f → k + r = 8 → sm8 x → ∃ s', m_X2_holderSet_4 h (nI n) f x (nI k) = some s' ∧ sm8 s' ∧ ∀ t, t < 8 → bt s' t = (bt x t || (decide (k ≤ t) && sh A t n)) := by
  intro f
  induction f with
  | zero => intro k r x h1; omega
  | succ f ih =>
    intro k r x h1 h2 hx
    rw [m_X2_holderSet_4]
    cases r with
    | zero =>
      rw [if_pos (lp_yes (n := 8) (by omega) (by omega))]
      exact ⟨x, rfl, hx, fun t ht => by rw [decide_eq_false (by omega)]; simp⟩
    | succ r =>
      have hk : k < 8 := by omega
      rw [if_neg (lp_no (n := 8) (by omega) (by decide)), gi_nI hk (by decide), zI_nat (by omega), c_holds H hk hn, Option.bind_some, bI_if, zI_one]
      cases e : sh A k n with
      | false =>
        rw [if_neg (by decide)]
        obtain ⟨s', a, b, c⟩ := ih (k + 1) r x (by omega) (by omega) hx
        refine ⟨s', a, b, fun t ht => ?_⟩
        rw [c t ht]
        congr 1
        by_cases h : t = k
        · subst h
          rw [e]
          simp
        · have : (k + 1 ≤ t) ↔ (k ≤ t) := by omega
          simp [this]
      | true =>
        rw [if_pos rfl]
        obtain ⟨s', a, b, c⟩ := ih (k + 1) r (x ||| m_X2_bit (nI k)) (by omega) (by omega) (sm8_or hx (sm8_bit hk))
        refine ⟨s', a, b, fun t ht => ?_⟩
        rw [c t ht, bt_or, bt_bit (by omega) (by omega), Bool.or_assoc]
        congr 1
        by_cases h : t = k
        · subst h
          rw [e]
          simp
        · have h2 : ¬ k = t := fun e => h e.symm
          have : (k + 1 ≤ t) ↔ (k ≤ t) := by omega
          simp [this, h2]
theorem c_hset {h A : Mem} (H : RC h A) {n : Nat} (hn : n < 24) : ∃ s', m_X2_holderSet h (nI n) = some s' ∧ sm8 s' ∧ ∀ t, t < 8 → bt s' t = sh A t n := by
  obtain ⟨s', a, b, c⟩ := c_hset_loop H hn 200 0 8 0 (by decide) rfl sm8_zero
  exact ⟨s', a, b, fun t ht => by rw [c t ht, bt_zero]; simp⟩
def whC (a b : Bool) : Int32 := if a then 2 else if b then 3 else 4
theorem r_why_loop {h A : Mem} (hA : WF A) (hR : RR h A) {n : Nat} (hn : n < 24) (p1 : Int32) : ∀ f k r a b, r < f → k + r = 8 → m_X3_why_44 p1 (nI n) f h (bI a) (bI b) (nI k) = some (h, whC (a || (List.range' k r).any (fun t => sh A t n && sL A t)) (b || (List.range' k r).any (fun t => sh A t n && !sL A t))) := by
  intro f
  induction f with
  | zero => intro k r a b h1; omega
  | succ f ih =>
    intro k r a b h1 h2
    rw [m_X3_why_44]
    cases r with
    | zero =>
      rw [if_pos (lp_yes (n := 8) (by omega) (by omega)), bI_if, bI_if]
      cases a <;> cases b <;> rfl
    | succ r =>
      have hk : k < 8 := by omega
      have e87 : ∀ s0 : Bool, m_X3_why_87 (fun gy yx3 yx4 yx5 => m_X3_why_44 p1 (nI n) f gy yx3 yx4 yx5) p1 (nI n) h (bI a) (bI b) (nI k) (bI s0) = m_X3_why_44 p1 (nI n) f h (bI s0) (bI (b || (sh A k n && !sL A k))) (nI (k + 1)) := by
        intro s0
        unfold m_X3_why_87
        rw [bI_if, x24, gi_nI (by omega) (by decide), gi_nI hk (by decide), zI_nat (by omega), zI_nat (by omega), hR.2.2.1, hR.2.1, hA.2.1 k hk, bI_if, zI_one, show A 58 (24 * k + n) = sF A k n from rfl]
        cases b with
        | true => rfl
        | false =>
          rw [if_neg (by decide)]
          unfold sh
          by_cases e : sF A k n = -3
          · rw [if_pos e, decide_eq_false (fun h => h e)]
            rfl
          · rw [if_neg e, decide_eq_true e]
            cases sL A k <;> rfl
      rw [if_neg (lp_no (n := 8) (by omega) (by decide)), bI_if, x24, gi_nI (by omega) (by decide), gi_nI hk (by decide), zI_nat (by omega), zI_nat (by omega), hR.2.2.1, hR.2.1, hA.2.1 k hk, bI_if, show A 58 (24 * k + n) = sF A k n from rfl, show (1 : Int32) = bI true from rfl, show (0 : Int32) = bI false from rfl, e87 true, e87 false, ih (k + 1) r true _ (by omega) (by omega), ih (k + 1) r false _ (by omega) (by omega), any_succ, any_succ]
      cases a with
      | true => simp [Bool.or_assoc]
      | false =>
        rw [if_neg (by decide)]
        by_cases e : sF A k n = -3
        · have es : sh A k n = false := by
            unfold sh
            rw [decide_eq_false (fun h => h e)]
          rw [if_pos e, es]
          simp
        · have es : sh A k n = true := by
            unfold sh
            rw [decide_eq_true e]
          rw [if_neg e, es]
          cases sL A k <;> simp [Bool.or_assoc]
theorem st_why {g A : Mem} (hA : WF A) (hC : RC g A) (hR : RR g A) (x y : Int32) : StQ (m_X2_why g x y) (fun g1 => m_X3_why g1 x y) := by
  have bad : m_X2_why g x y = some (g, 1) → m_X3_why g x y = some (mup g 54 0 0, 1) → StQ (m_X2_why g x y) (fun g1 => m_X3_why g1 x y) :=
    fun e1 e2 => ⟨g, 1, mup g 54 0 0, A, e1, e2, hA, hC.rf f54, hR.f54⟩
  have hR0 : RR (mup g 54 0 0) A := hR.f54
  by_cases hx : 0 ≤ x ∧ x < 8
  · obtain ⟨m, hm, rfl⟩ := ex_mod hx
    have rL : ∀ h, RR h A → m_X3_isLoaded h (nI m) = some (bI (sL A m)) := fun h hR => by
      rw [r_isL hR, decide_eq_true hx, zI_nat (by omega)]
      rfl
    cases eL : sL A m with
    | false =>
      apply bad
      · unfold m_X2_why
        rw [c_isLn hC hm, eL, Option.bind_some, if_pos (show bI false = 0 from rfl)]
      · unfold m_X3_why
        rw [rL _ hR0, eL, Option.bind_some, if_pos (show bI false = 0 from rfl)]
    | true =>
      by_cases hy : 0 ≤ y ∧ y < 24
      · obtain ⟨n, hn, rfl⟩ := ex_name hy
        obtain ⟨h1, a1, a2⟩ := c_hs hA hC hm eL hn
        have f1 : Fq 50 54 g h1 := a2.mono (by decide) (by decide)
        have hR1 : RR h1 A := hR.fd0 f1
        have hC1 : RC h1 A := hC.row a2
        obtain ⟨h2, b1, b2⟩ := r_hs hA (hR1.f54 (v := 0)) hm eL hn
        have hR2 : RR h2 A := (hR1.f54 (v := 0)).fs b2
        obtain ⟨s', c1, c2, c3⟩ := c_hset hC1 hn
        have fin : ∀ k : Int32, m_X2_why g (nI m) (nI n) = some (h1, k) → m_X3_why h1 (nI m) (nI n) = some (h2, k) → StQ (m_X2_why g (nI m) (nI n)) (fun g1 => m_X3_why g1 (nI m) (nI n)) :=
          fun k e1 e2 => ⟨h1, k, h2, A, e1, e2, hA, hC1.rf ((Fq.up1 (by decide) (by decide) : Fq 54 71 h1 (mup h1 54 0 0)).trans b2.fq), hR2⟩
        have c0 : m_X2_why g (nI m) (nI n) = (if oI (shd A m n) = -1 then (if (s' &&& (h1 0 2)) = 0 then (if s' = 0 then some (h1, 4) else some (h1, 3)) else some (h1, 2)) else some (h1, 0)) := by
          unfold m_X2_why
          rw [c_isLn hC hm, eL, Option.bind_some, if_neg (by decide), c_name, decide_eq_true hy, if_neg (by decide), a1, Option.bind_some, c1, Option.bind_some]
        have r0 : m_X3_why h1 (nI m) (nI n) = (if oI (shd A m n) < 0 then m_X3_why_44 (nI m) (nI n) 200 h2 0 0 0 else some (h2, 0)) := by
          unfold m_X3_why
          rw [rL _ hR1.f54, eL, Option.bind_some, if_neg (by decide), r_in, decide_eq_true ((in23 _).mpr hy), if_neg (by decide), b1, Option.bind_some]
        cases es : shd A m n with
        | some z =>
          have hz10 : z < 10 := by
            rcases shd_spec hA hm eL es with h | h <;> omega
          apply fin 0
          · rw [c0, es, if_neg (show ¬ oI (some z) = -1 from neg1_ne (by omega))]
          · rw [r0, es, if_neg (show ¬ oI (some z) < 0 from zI_pos (by omega))]
        | none =>
          have e1 : (s' &&& (h1 0 2)) = 0 ↔ (List.range' 0 8).any (fun t => sh A t n && sL A t) = false := by
            rw [sm8_eq0 (sm8_and c2)]
            constructor
            · intro h
              rw [List.any_eq_false]
              intro t ht
              rw [List.mem_range'] at ht
              obtain ⟨i, hi, rfl⟩ := ht
              have := h (0 + 1 * i) (by omega)
              rw [bt_and, c3 _ (by omega), hC1.2.2.2.1 _ (by omega)] at this
              rw [this]
              decide
            · intro h t ht
              rw [List.any_eq_false] at h
              rw [bt_and, c3 t ht, hC1.2.2.2.1 t ht]
              have := h t (List.mem_range'.mpr ⟨t, ht, by omega⟩)
              simpa using this
          have e2 : s' = 0 ↔ (List.range' 0 8).any (sh A · n) = false := by
            rw [sm8_eq0 c2]
            constructor
            · intro h
              rw [List.any_eq_false]
              intro t ht
              rw [List.mem_range'] at ht
              obtain ⟨i, hi, rfl⟩ := ht
              have := h (0 + 1 * i) (by omega)
              rw [c3 _ (by omega)] at this
              rw [this]
              decide
            · intro h t ht
              rw [List.any_eq_false] at h
              rw [c3 t ht]
              have := h t (List.mem_range'.mpr ⟨t, ht, by omega⟩)
              simpa using this
          have hw := r_why_loop hA hR2 hn (nI m) 200 0 8 false false (by decide) rfl
          rw [Bool.false_or, Bool.false_or] at hw
          have e3 : (List.range' 0 8).any (sh A · n) = ((List.range' 0 8).any (fun t => sh A t n && sL A t) || (List.range' 0 8).any (fun t => sh A t n && !sL A t)) := by
            apply bool_iff
            simp only [Bool.or_eq_true, List.any_eq_true, Bool.and_eq_true, Bool.not_eq_true']
            constructor
            · rintro ⟨t, ht, h⟩
              cases eq : sL A t
              · exact .inr ⟨t, ht, h, eq⟩
              · exact .inl ⟨t, ht, h, eq⟩
            · rintro (⟨t, ht, h, -⟩ | ⟨t, ht, h, -⟩)
              · exact ⟨t, ht, h⟩
              · exact ⟨t, ht, h⟩
          apply fin (whC ((List.range' 0 8).any (fun t => sh A t n && sL A t)) ((List.range' 0 8).any (fun t => sh A t n && !sL A t)))
          · rw [c0, es, if_pos (show oI none = -1 from rfl)]
            rw [e3] at e2
            cases q1 : (List.range' 0 8).any (fun t => sh A t n && sL A t) with
            | true =>
              rw [if_neg (fun h => by rw [e1.mp h] at q1; cases q1)]
              rfl
            | false =>
              rw [if_pos (e1.mpr q1)]
              rw [q1, Bool.false_or] at e2
              cases q2 : (List.range' 0 8).any (fun t => sh A t n && !sL A t) with
              | true =>
                rw [if_neg (fun h => by rw [e2.mp h] at q2; cases q2)]
                rfl
              | false =>
                rw [if_pos (e2.mpr q2)]
                rfl
          · rw [r0, es, if_pos (show oI none < 0 by decide)]
            exact hw
      · apply bad
        · unfold m_X2_why
          rw [c_isLn hC hm, eL, Option.bind_some, if_neg (by decide), c_name, decide_eq_false hy, if_pos (show bI false = 0 from rfl)]
        · unfold m_X3_why
          rw [rL _ hR0, eL, Option.bind_some, if_neg (by decide), r_in, decide_eq_false (fun h => hy ((in23 _).mp h)), if_pos (show bI false = 0 from rfl)]
  · apply bad
    · unfold m_X2_why
      rw [c_isL hC, decide_eq_false hx, Bool.false_and, Option.bind_some, if_pos (show bI false = 0 from rfl)]
    · unfold m_X3_why
      rw [r_isL hR0, decide_eq_false hx, Bool.false_and, Option.bind_some, if_pos (show bI false = 0 from rfl)]
/-! above, defined -/
theorem st_above {g A : Mem} (hA : WF A) (hC : RC g A) (hR : RR g A) (x y : Int32) : ∃ k g2 A', m_X2_above g x y = some k ∧ m_X3_above g x y = some (g2, k) ∧ WF A' ∧ RC g2 A' ∧ RR g2 A' := by
  have bad : m_X2_above g x y = some (-1) → m_X3_above g x y = some (mup g 54 0 0, -1) → ∃ k g2 A', m_X2_above g x y = some k ∧ m_X3_above g x y = some (g2, k) ∧ WF A' ∧ RC g2 A' ∧ RR g2 A' :=
    fun e1 e2 => ⟨-1, mup g 54 0 0, A, e1, e2, hA, hC.rf f54, hR.f54⟩
  by_cases hx : 0 ≤ x ∧ x < 8
  · obtain ⟨m, hm, rfl⟩ := ex_mod hx
    by_cases hy : 0 ≤ y ∧ y < 24
    · obtain ⟨n, hn, rfl⟩ := ex_name hy
      refine ⟨sE A m n, mup g 54 0 0, A, ?_, ?_, hA, hC.rf f54, hR.f54⟩
      · unfold m_X2_above
        rw [c_mod, decide_eq_true hx, if_neg (by decide), c_name, decide_eq_true hy, if_neg (by decide), gi_nI hm (by decide), gi_nI hn (by decide), zI_nat (by omega), zI_nat (by omega), (hC.2.2.2.2 m hm).2.1 n hn]
      · unfold m_X3_above
        rw [if_neg (r_mod hx), r_in, decide_eq_true ((in23 _).mpr hy), if_neg (by decide), x24, gi_nI (by omega) (by decide), zI_nat (by omega), mup_nk (by decide), hR.2.2.2.1]
        rfl
    · apply bad
      · unfold m_X2_above
        rw [c_mod, decide_eq_true hx, if_neg (by decide), c_name, decide_eq_false hy, if_pos (show bI false = 0 from rfl)]
      · unfold m_X3_above
        rw [if_neg (r_mod hx), r_in, decide_eq_false (fun h => hy ((in23 _).mp h)), if_pos (show bI false = 0 from rfl)]
  · apply bad
    · unfold m_X2_above
      rw [c_mod, decide_eq_false hx, if_pos (show bI false = 0 from rfl)]
    · unfold m_X3_above
      rw [if_pos (r_mod_no hx)]
theorem c_dfd_loop {h A : Mem} (H : RC h A) : ∀ n k, k ≤ 8 → 8 - k < n → m_X2_defined_4 h n (nI (tot A k)) (nI k) = some (nI (tot A 8)) := by
  intro n
  induction n with
  | zero => intro k h1 h2; omega
  | succ n ih =>
    intro k h1 h2
    rw [m_X2_defined_4]
    by_cases hk : k = 8
    · subst hk
      rw [if_pos (by decide)]
    · rw [if_neg (lp_no (n := 8) (by omega) (by decide)), gi_nI (by omega) (by decide), zI_nat (by omega), c_cnt H (by omega), Option.bind_some, zI_one, nI_add]
      exact ih (k + 1) (by omega) (by omega)
theorem st_defined {g A : Mem} (hA : WF A) (hC : RC g A) (hR : RR g A) : ∃ k g2 A', m_X2_defined g = some k ∧ m_X3_defined g = some (g2, k) ∧ WF A' ∧ RC g2 A' ∧ RR g2 A' := by
  refine ⟨nI (tot A 8), mup g 54 0 0, A, c_dfd_loop hC 200 0 (by decide) (by decide), ?_, hA, hC.rf f54, hR.f54⟩
  unfold m_X3_defined
  rw [mup_ni (by decide), hR.2.2.2.2.2.2.2.2.2, hA.2.2.2.2.2.2.2]
