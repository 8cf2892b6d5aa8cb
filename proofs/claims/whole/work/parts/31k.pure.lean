/-! PURE: the reference goes up, and defines -/
def FN (h h' : Mem) : Prop := (∀ k, k ≠ 54 → k ≠ 65 → k ≠ 66 → k ≠ 68 → k ≠ 69 → k ≠ 70 → h' k = h k) ∧ ∀ i, i ≠ 12 → h' 54 i = h 54 i
theorem FN.rf (h : Mem) : FN h h := ⟨fun _ _ _ _ _ _ _ => rfl, fun _ _ => rfl⟩
theorem FN.trans {a b c : Mem} (h1 : FN a b) (h2 : FN b c) : FN a c := ⟨fun k a1 a2 a3 a4 a5 a6 => (h2.1 k a1 a2 a3 a4 a5 a6).trans (h1.1 k a1 a2 a3 a4 a5 a6), fun i hi => (h2.2 i hi).trans (h1.2 i hi)⟩
theorem FS.fn {a b : Mem} (h : FS a b) : FN a b := ⟨fun k a1 a2 a3 a4 a5 _ => h.1 k a1 a2 a3 a4 a5, h.2⟩
theorem FN.up70 {a : Mem} {i : Nat} {v : Int32} : FN a (mup a 70 i v) := by
  refine ⟨fun x a1 a2 a3 a4 a5 a6 => ?_, fun y hy => ?_⟩
  · funext y
    rw [mup_nk a6]
  · rw [mup_nk (by decide)]
theorem RR.fn {h h' A : Mem} (H : RR h A) (f : FN h h') : RR h' A := by
  have e : ∀ k, 54 < k → k < 65 → h' k = h k := fun k _ _ => f.1 k (by omega) (by omega) (by omega) (by omega) (by omega) (by omega)
  unfold RR
  rw [f.2 11 (by decide), e 55 (by omega) (by omega), e 56 (by omega) (by omega), e 58 (by omega) (by omega), e 59 (by omega) (by omega), e 60 (by omega) (by omega), e 61 (by omega) (by omega), e 62 (by omega) (by omega), e 63 (by omega) (by omega), e 64 (by omega) (by omega)]
  exact H
theorem r_back {h : Mem} (k8 : Mem → Int32 → Int32 → Int32 → Option (Mem × Int32)) (p1 p2 x4 x5 : Int32) {c k : Nat} (hk : k ≤ 10) : ∀ r fu i b, i + r = k → r < fu → m_X3_needs_47 k8 p1 p2 fu h (nI k) x4 x5 (nI c) (bI b) (nI i) = m_X3_needs_47 k8 p1 p2 1 h (nI k) x4 x5 (nI c) (bI (b || (List.range' i r).any (fun j => decide (h 70 j = nI c)))) (nI k) := by
  intro r
  induction r with
  | zero =>
    intro fu i b hi hf
    obtain ⟨fu, rfl⟩ : ∃ z, fu = z + 1 := ⟨fu - 1, by omega⟩
    have : i = k := by omega
    subst this
    have e : (b || (List.range' i 0).any (fun j => decide (h 70 j = nI c))) = b := by simp
    rw [e, m_X3_needs_47, m_X3_needs_47, if_pos ((zI_le (by omega) (by omega)).mpr (Nat.le_refl _)), if_pos ((zI_le (by omega) (by omega)).mpr (Nat.le_refl _))]
  | succ r ih =>
    intro fu i b hi hf
    obtain ⟨fu, rfl⟩ : ∃ z, fu = z + 1 := ⟨fu - 1, by omega⟩
    rw [m_X3_needs_47, if_neg (fun hc => by have := (zI_le (by omega) (by omega)).mp hc; omega), bI_if, gi_nI (by omega) (by decide), zI_nat (by omega), zI_one, any_succ]
    cases b with
    | true =>
      rw [if_pos rfl, show (1 : Int32) = bI true from rfl, ih fu (i + 1) true (by omega) (by omega)]
      simp
    | false =>
      rw [if_neg (by decide), show (1 : Int32) = bI true from rfl, show (0 : Int32) = bI false from rfl, ih fu (i + 1) true (by omega) (by omega), ih fu (i + 1) false (by omega) (by omega)]
      by_cases e : h 70 i = nI c
      · rw [if_pos e, decide_eq_true e]
        simp
      · rw [if_neg e, decide_eq_false e]
        simp
theorem r_needs {A : Mem} (hA : WF A) (p1 p2 : Int32) : ∀ (f fu k m n : Nat) (w : Int32) (h : Mem), k + f = 10 → f < fu → RR h A → okN A m n → (m < 8 → w = nI n) →
    (∀ i, i < k → ∃ mi ni, mi < 8 ∧ ni < 24 ∧ h 70 i = nI (24 * mi + ni) ∧ ∀ l, sU A f m n = some l → ∃ l', sU A (f + (k - i)) mi ni = some l' ∧ l'.length = l.length + (k - i)) →
    match sU A f m n with
    | none => ∃ h', m_X3_needs_8 p1 p2 fu h (nI k) (nI m) w = some (h', -1) ∧ FN h h'
    | some l => ∃ h', m_X3_needs_8 p1 p2 fu h (nI k) (nI m) w = some (h', nI (k + l.length)) ∧ FN h h' ∧ (∀ i, i < k → h' 70 i = h 70 i) ∧ ∀ i e, l[i]? = some e → h' 70 (k + i) = nI (24 * e.1 + e.2.1) := by
  intro f
  induction f with
  | zero =>
    intro fu k m n w h hk hf hR hn hw hist
    obtain ⟨fu, rfl⟩ : ∃ z, fu = z + 1 := ⟨fu - 1, by omega⟩
    have hk10 : k = 10 := by omega
    rw [m_X3_needs_8, sU]
    by_cases e : 8 ≤ m
    · rw [if_pos e, if_pos (lp_yes (n := 8) e (by rcases hn with h | h | h <;> omega))]
      exact ⟨h, rfl, FN.rf h, fun _ _ => rfl, fun i e hi => by simp at hi⟩
    · obtain ⟨hm, hn24, hl, hs⟩ := (hn.resolve_left (by omega)).resolve_left (by omega)
      have hw := hw hm
      subst hw
      rw [if_neg e, if_neg (lp_no (n := 8) hm (by decide)), x24, gi_nI (by omega) (by decide), zI_nat (by omega), hR.2.2.2.1]
      rw [show A 59 (24 * m + n) = sE A m n from rfl]
      by_cases e2 : sE A m n = -1
      · rw [if_pos e2, if_neg (by rw [e2]; decide), show (0 : Int32) = bI false from rfl, show bI false = nI 0 from rfl, show m_X3_needs_47 _ p1 p2 200 h (nI k) (nI m) (nI n) (nI (24 * m + n)) (nI 0) (nI 0) = _ from r_back _ p1 p2 (nI m) (nI n) (by omega) k 200 0 false (by omega) (by omega), m_X3_needs_47, if_pos ((zI_le (by omega) (by omega)).mpr (Nat.le_refl _)), gi_nI (by omega) (by decide), bI_if]
        refine ⟨h, ?_, FN.rf h⟩
        split
        · rfl
        · split
          · rfl
          · rw [if_neg (show ¬ nI k < 10 from fun hc => by have := (zI_lt (b := 10) (by omega) (by decide)).mp hc; omega)]
      · rw [if_neg e2]
        obtain ⟨z, hz, ez⟩ := ((hA.2.2.2.2.1 m hm n hn24).resolve_left e2).1
        rw [if_pos (by rw [ez]; exact (zI_le (a := 0) (by decide) (by omega)).mpr (by omega))]
        exact ⟨h, rfl, FN.rf h, fun _ _ => rfl, fun i e hi => by simp at hi⟩
  | succ f ih =>
    intro fu k m n w h hk hf hR hn hw hist
    obtain ⟨fu, rfl⟩ : ∃ z, fu = z + 1 := ⟨fu - 1, by omega⟩
    rw [m_X3_needs_8]
    by_cases e : 8 ≤ m
    · rw [sU, if_pos e, if_pos (lp_yes (n := 8) e (by rcases hn with h | h | h <;> omega))]
      exact ⟨h, rfl, FN.rf h, fun _ _ => rfl, fun i e hi => by simp at hi⟩
    · obtain ⟨hm, hn24, hl, hs⟩ := (hn.resolve_left (by omega)).resolve_left (by omega)
      have hw := hw hm
      subst hw
      rw [if_neg (lp_no (n := 8) hm (by decide)), x24, gi_nI (by omega) (by decide), zI_nat (by omega), hR.2.2.2.1]
      rw [show A 59 (24 * m + n) = sE A m n from rfl]
      by_cases e2 : sE A m n = -1
      · rw [if_neg (by rw [e2]; decide), show (0 : Int32) = bI false from rfl, show bI false = nI 0 from rfl, show m_X3_needs_47 _ p1 p2 200 h (nI k) (nI m) (nI n) (nI (24 * m + n)) (nI 0) (nI 0) = _ from r_back _ p1 p2 (nI m) (nI n) (by omega) k 200 0 false (by omega) (by omega), m_X3_needs_47, if_pos ((zI_le (by omega) (by omega)).mpr (Nat.le_refl _)), gi_nI (by omega) (by decide), bI_if, Bool.false_or, zI_nat (by omega), hR.2.2.1, show A 58 (24 * m + n) = sF A m n from rfl]
        cases eb : (List.range' 0 k).any (fun j => decide (h 70 j = nI (24 * m + n))) with
        | true =>
          obtain ⟨i, hi, ei⟩ : ∃ i, i < k ∧ h 70 i = nI (24 * m + n) := by
            simp only [List.any_eq_true, List.mem_range', decide_eq_true_eq] at eb
            obtain ⟨i, ⟨z, hz, hiz⟩, ei⟩ := eb
            exact ⟨i, by omega, ei⟩
          obtain ⟨mi, ni, b1, b2, b3, b4⟩ := hist i hi
          have hc : 24 * mi + ni = 24 * m + n := zI_inj (by omega) (by omega) (by rw [← b3, ei])
          have hm' : mi = m := by omega
          have hn' : ni = n := by omega
          subst hm' hn'
          cases eu : sU A (f + 1) mi ni with
          | some l =>
            obtain ⟨l', c1, c2⟩ := b4 l eu
            have := sU_det eu c1
            subst this
            omega
          | none =>
            refine ⟨h, ?_, FN.rf h⟩
            split <;> rfl
        | false =>
          by_cases e3 : sF A m n = -2
          · rw [if_pos e3, sU, if_neg e, if_pos e2, if_pos e3]
            exact ⟨h, rfl, FN.rf h⟩
          · rw [if_neg e3, if_neg (show ¬ (false = true) by decide), if_pos (show nI k < 10 from (zI_lt (b := 10) (by omega) (by decide)).mpr (by omega)), gi_nI (by omega) (by decide), gi_nI (by omega) (by decide), zI_nat (by omega), zI_one]
            obtain ⟨h1, e1⟩ : ∃ z, z = mup h 70 k (nI (24 * m + n)) := ⟨_, rfl⟩
            rw [← e1]
            have f1 : FN h h1 := by rw [e1]; exact FN.up70
            have hR1 := hR.fn f1
            have g1 : ∀ i, i < k → h1 70 i = h 70 i := fun i hi => by
              rw [e1, mup_ni (by omega)]
            have g2 : h1 70 k = nI (24 * m + n) := by rw [e1, mup_eq]
            rw [hR1.2.2.1, show A 58 (24 * m + n) = sF A m n from rfl]
            -- what the chain so far says of the next
            have nxt : ∀ (h2 : Mem) z y (w2 : Int32) (c9 : Nat), h2 70 = h1 70 → okN A z y → (∀ l, sU A f z y = some l → sU A (f + 1) m n = some ((m, n, c9) :: l)) → (∀ i, i < k + 1 → ∃ mi ni, mi < 8 ∧ ni < 24 ∧ h2 70 i = nI (24 * mi + ni) ∧ ∀ l, sU A f z y = some l → ∃ l', sU A (f + (k + 1 - i)) mi ni = some l' ∧ l'.length = l.length + (k + 1 - i)) := by
              intro h2 z y w2 c9 h70 _ hU i hi
              rw [h70]
              by_cases ei : i = k
              · subst ei
                refine ⟨m, n, hm, hn24, g2, fun l hl => ⟨(m, n, c9) :: l, ?_, ?_⟩⟩
                · rw [show f + (i + 1 - i) = f + 1 by omega]
                  exact hU l hl
                · rw [List.length_cons]
                  omega
              · obtain ⟨mi, ni, b1, b2, b3, b4⟩ := hist i (by omega)
                refine ⟨mi, ni, b1, b2, by rw [g1 i (by omega)]; exact b3, fun l hl => ?_⟩
                obtain ⟨l', c1, c2⟩ := b4 _ (hU l hl)
                refine ⟨l', ?_, ?_⟩
                · rw [show f + (k + 1 - i) = f + 1 + (k - i) by omega]
                  exact c1
                · rw [c2, List.length_cons]
                  omega
            by_cases e4 : sF A m n = -1
            · have hU : sU A (f + 1) m n = some [(m, n, 9)] := by rw [sU, if_neg e, if_pos e2, if_neg e3, if_pos e4]
              have h8 : sU A f 8 n = some [] := by cases f <;> rw [sU, if_pos (by decide)]
              rw [if_neg (by rw [e4]; decide), hU]
              unfold m_X3_needs_147
              rw [if_pos (by decide)]
              have := ih fu (k + 1) 8 n (sF A m n) h1 (by omega) (by omega) hR1 (.inl rfl) (fun h => by omega) (nxt h1 8 n (sF A m n) 9 rfl (.inl rfl) (fun l hl => by rw [h8] at hl; cases hl; exact hU))
              rw [h8] at this
              obtain ⟨h', a1, a2, a3, a4⟩ := this
              refine ⟨h', a1, f1.trans a2, fun i hi => ?_, fun i e hi => ?_⟩
              · rw [a3 i (by omega)]
                exact g1 i hi
              · cases i with
                | zero =>
                  simp at hi
                  subst hi
                  rw [Nat.add_zero, a3 k (by omega)]
                  exact g2
                | succ i => simp at hi
            · obtain ⟨y, hy, ek⟩ : ∃ k, k < 24 ∧ sF A m n = nI k := by
                rcases hA.2.2.2.1 m hm n hn24 with h | h | h | h
                · rw [sh, h] at hs
                  simp at hs
                · exact absurd h e3
                · exact absurd h e4
                · exact h
              rw [if_pos (by rw [ek]; exact (zI_le (a := 0) (by decide) (by omega)).mpr (by omega))]
              obtain ⟨h2, b1, b2⟩ := r_hs hA hR1 hm hl hy
              rw [ek, b1, Option.bind_some]
              unfold m_X3_needs_147
              have k70 : h2 70 = h1 70 := b2.1 70 (by decide) (by decide) (by decide) (by decide) (by decide)
              cases ez : shd A m y with
              | none =>
                have hU : sU A (f + 1) m n = none := by rw [sU, if_neg e, if_pos e2, if_neg e3, if_neg e4, ek, zI_nat (by omega), ez]
                rw [hU]
                exact ⟨h2, rfl, f1.trans b2.fn⟩
              | some z =>
                have hz : okN A z y := by
                  rcases shd_spec hA hm hl ez with h | h
                  · exact .inl h
                  · exact .inr (.inr ⟨h.1, hy, h.2.1, h.2.2⟩)
                have hz10 : z < 10 := by rcases hz with h | h | h <;> omega
                have hU : sU A (f + 1) m n = (sU A f z y).map (fun l => (m, n, z) :: l) := by rw [sU, if_neg e, if_pos e2, if_neg e3, if_neg e4, ek, zI_nat (by omega), ez]
                have := ih fu (k + 1) z y (nI y) h2 (by omega) (by omega) (hR1.fs b2) hz (fun _ => rfl) (nxt h2 z y (nI y) z k70 hz (fun l hl => by rw [hU, hl]; rfl))
                rw [if_pos (show (0 : Int32) ≤ (h2, oI (some z)).2 from (zI_le (a := 0) (by decide) (by omega)).mpr (by omega)), hU]
                cases eu : sU A f z y with
                | none =>
                  rw [eu] at this
                  obtain ⟨h', a1, a2⟩ := this
                  exact ⟨h', a1, (f1.trans b2.fn).trans a2⟩
                | some l =>
                  rw [eu] at this
                  obtain ⟨h', a1, a2, a3, a4⟩ := this
                  refine ⟨h', ?_, (f1.trans b2.fn).trans a2, fun i hi => ?_, fun i e hi => ?_⟩
                  · show m_X3_needs_8 p1 p2 fu h2 (nI (k + 1)) (nI z) (nI y) = _
                    rw [a1, List.length_cons, show k + 1 + l.length = k + (l.length + 1) by omega]
                  · rw [a3 i (by omega), k70]
                    exact g1 i hi
                  · cases i with
                    | zero =>
                      simp at hi
                      subst hi
                      rw [Nat.add_zero, a3 k (by omega), k70]
                      exact g2
                    | succ i =>
                      rw [show k + (i + 1) = k + 1 + i by omega]
                      exact a4 i e hi
      · rw [sU, if_neg e, if_neg e2]
        obtain ⟨z, hz, ez⟩ := ((hA.2.2.2.2.1 m hm n hn24).resolve_left e2).1
        rw [if_pos (by rw [ez]; exact (zI_le (a := 0) (by decide) (by omega)).mpr (by omega))]
        exact ⟨h, rfl, FN.rf h, fun _ _ => rfl, fun i e hi => by simp at hi⟩
/-! the reference defines -/
def FD (h h' : Mem) : Prop := (∀ k, k ≠ 54 → k ≠ 59 → k ≠ 65 → k ≠ 66 → k ≠ 68 → k ≠ 69 → h' k = h k) ∧ h' 54 0 = h 54 0
theorem dv24 : ∀ c, c < 192 → nI c / 24 = nI (c / 24) := by decide +kernel
theorem r_def1 {h B : Mem} (hB : WF B) (hR : RR h B) {m n y : Nat} (hm : m < 8) (hn : n < 24) (hl : sL B m = true) (ho : (sF B m n = -1 ∧ y = 9) ∨ ∃ k, k < 24 ∧ sF B m n = nI k ∧ shd B m k = some y) :
    ∃ h', m_X3_define h (nI (24 * m + n)) = some h' ∧ RR h' (dA1 B m n y) ∧ FD h h' := by
  have fin : ∀ h2, RR h2 B → FS h h2 → RR (mup (mup h2 59 (24 * m + n) (nI y)) 54 11 (((mup h2 59 (24 * m + n) (nI y)) 54 11) + 1)) (dA1 B m n y) ∧ FD h (mup (mup h2 59 (24 * m + n) (nI y)) 54 11 (((mup h2 59 (24 * m + n) (nI y)) 54 11) + 1)) := by
    intro h2 hR2 f2
    obtain ⟨r1, r2, r3, r4, r5, r6, r7, r8, r9, r10⟩ := hR2
    have ek : ∀ k, k ≠ 54 → k ≠ 59 → mup (mup h2 59 (24 * m + n) (nI y)) 54 11 (((mup h2 59 (24 * m + n) (nI y)) 54 11) + 1) k = h2 k := fun k a b => by
      funext z
      rw [mup_nk a, mup_nk b]
    refine ⟨?_, fun k a1 a2 a3 a4 a5 a6 => ?_, ?_⟩
    · unfold RR
      rw [ek 55 (by decide) (by decide), ek 56 (by decide) (by decide), ek 58 (by decide) (by decide), ek 60 (by decide) (by decide), ek 61 (by decide) (by decide), ek 62 (by decide) (by decide), ek 63 (by decide) (by decide), ek 64 (by decide) (by decide),
        dA1_k 55 (by decide) (by decide), dA1_k 56 (by decide) (by decide), dA1_k 58 (by decide) (by decide), dA1_k 60 (by decide) (by decide), dA1_k 61 (by decide) (by decide), dA1_k 62 (by decide) (by decide), dA1_k 63 (by decide) (by decide), dA1_k 64 (by decide) (by decide)]
      refine ⟨r1, r2, r3, ?_, r5, r6, r7, r8, r9, ?_⟩
      · funext z
        unfold dA1
        rw [mup_nk (show (59 : Nat) ≠ 54 by decide), mup_nk (show (59 : Nat) ≠ 54 by decide)]
        unfold mup
        rw [r4]
      · unfold dA1
        rw [mup_eq, mup_eq, mup_nk (by decide), r10]
    · rw [ek k a1 a2, f2.1 k a1 a3 a4 a5 a6]
    · rw [mup_ni (by decide), mup_nk (by decide), f2.2 0 (by decide)]
  unfold m_X3_define
  rw [gi_nI (by omega) (by decide), zI_nat (by omega), hR.2.2.1, show B 58 (24 * m + n) = sF B m n from rfl, dv24 _ (by omega), show (24 * m + n) / 24 = m by omega]
  unfold m_X3_define_30
  rcases ho with ⟨e, rfl⟩ | ⟨k, hk, e, es⟩
  · rw [if_neg (by rw [e]; decide), gi_nI (by omega) (by decide), zI_nat (by omega)]
    exact ⟨_, rfl, fin h hR (FS.rf h)⟩
  · rw [if_pos (by rw [e]; exact (zI_le (a := 0) (by decide) (by omega)).mpr (by omega))]
    obtain ⟨h2, b1, b2⟩ := r_hs hB hR hm hl hk
    rw [e, b1, Option.bind_some, gi_nI (by omega) (by decide), zI_nat (by omega), es]
    exact ⟨_, rfl, fin h2 (hR.fs b2) b2⟩
theorem r_df_loop {A : Mem} (hA : WF A) {l : List (Nat × Nat × Nat)} (ho : ∀ e ∈ l, okE A e) (hnd : ndE l) (h10 : l.length ≤ 10) (p1 p2 x3 x4 x5 : Int32) : ∀ (j f : Nat) (h : Mem), j ≤ l.length → j < f → RR h (dfA A (l.drop j)) → (∀ i e, l[i]? = some e → h 70 i = nI (24 * e.1 + e.2.1)) →
    ∃ h', m_X3_find_110 p1 p2 f h x3 x4 x5 (nI j - 1) = some (h', x4) ∧ RR h' (dfA A l) ∧ FD h h' := by
  intro j
  induction j with
  | zero =>
    intro f h _ hf hR hc
    obtain ⟨f, rfl⟩ : ∃ z, f = z + 1 := ⟨f - 1, by omega⟩
    rw [m_X3_find_110, if_pos sub0]
    exact ⟨h, rfl, hR, fun _ _ _ _ _ _ _ => rfl, rfl⟩
  | succ j ih =>
    intro f h hj hf hR hc
    obtain ⟨f, rfl⟩ : ∃ z, f = z + 1 := ⟨f - 1, by omega⟩
    obtain ⟨e, he⟩ : ∃ e, l[j]? = some e := ⟨l[j]'(by omega), List.getElem?_eq_getElem (by omega)⟩
    have hd : l.drop j = e :: l.drop (j + 1) := by
      rw [List.drop_eq_getElem_cons (by omega)]
      congr 1
      have := List.getElem?_eq_getElem (l := l) (i := j) (by omega)
      rw [he] at this
      exact (Option.some.inj this).symm
    have ndd : ∀ (l : List (Nat × Nat × Nat)) j, ndE l → ndE (l.drop j) := by
      intro l
      induction l with
      | nil => intro j h; simp; trivial
      | cons a l ih =>
        intro j h
        cases j with
        | zero => exact h
        | succ j => exact ih j h.2
    obtain ⟨o1, o2, o3, o4, o5⟩ := ho e (List.mem_of_getElem? he)
    obtain ⟨w1, w2, w3⟩ := dfA_all hA (l := l.drop (j + 1)) (fun x hx => ho x (List.mem_of_mem_drop hx)) (ndd l (j + 1) hnd)
    have eL : sL (dfA A (l.drop (j + 1))) = sL A := by funext x; unfold sL; rw [w2 56 (by decide) (by decide)]
    have eF : sF (dfA A (l.drop (j + 1))) = sF A := by funext x z; unfold sF; rw [w2 58 (by decide) (by decide)]
    obtain ⟨h2, b1, b2, b3⟩ := r_def1 w1 hR o1 o2 (y := e.2.2) (by rw [eL]; exact o3) (by
      rw [eF]
      rcases o5 with o | ⟨k, hk, k1, k2⟩
      · exact .inl o
      · exact .inr ⟨k, hk, k1, by rw [shd_congr w2]; exact k2⟩)
    rw [m_X3_find_110, sub1, if_neg (zI_pos (by omega)), gi_nI (by omega) (by decide), zI_nat (by omega), hc j e he, b1, Option.bind_some, add_m1]
    obtain ⟨h', a1, a2, a3⟩ := ih f h2 (by omega) (by omega) (by rw [hd]; exact b2) (fun i e hi => by rw [b3.1 70 (by decide) (by decide) (by decide) (by decide) (by decide) (by decide)]; exact hc i e hi)
    exact ⟨h', a1, a2, fun k c1 c2 c3 c4 c5 c6 => by rw [a3.1 k c1 c2 c3 c4 c5 c6, b3.1 k c1 c2 c3 c4 c5 c6], by rw [a3.2, b3.2]⟩
