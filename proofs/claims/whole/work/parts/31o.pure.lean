/-! PURE: depend, the call -/
theorem dep_bad (g : Mem) (x y p q b : Int32) : m_X3_depend_49 x y p q b g 0 = some (mup g 54 0 1, 0) := rfl
theorem dep_121_2 (g : Mem) (x y p q b x6 x7 : Int32) : m_X3_depend_121 x y p q b g x6 x7 2 = some (mup g 54 0 2, 0) := rfl
theorem x6a (m c : Nat) : (6 : Int32) * nI m + nI c = nI (6 * m + c) := x6 m c
theorem dep_157 {h A : Mem} (hR : RR h A) {m c o : Nat} (hm : m < 8) (hc : c < 6) (hcA : A 60 m = nI c) (y p q : Int32) (b : Bool) (x6 x7 : Int32) : ∃ h', m_X3_depend_157 (nI m) y p q (bI b) h x6 x7 (nI (6 * m + c)) (nI o) (nI (6 * m + c)) = some (h', nI (c + 1)) ∧ RR h' (adA A m c o p q b) ∧ Fq 54 71 h h' ∧ h' 54 = h 54 := by
  unfold m_X3_depend_157
  simp only [gi_nI (show 6 * m + c < 48 by omega) (show 48 < 2 ^ 31 by decide), gi_nI hm (show 8 < 2 ^ 31 by decide), zI_nat (show 6 * m + c < 2 ^ 31 by omega), zI_nat (show m < 2 ^ 31 by omega), nar_bI]
  obtain ⟨h4, e4⟩ : ∃ z, z = mup (mup (mup (mup h 61 (6 * m + c) (nI o)) 62 (6 * m + c) p) 63 (6 * m + c) q) 64 (6 * m + c) (bI b) := ⟨_, rfl⟩
  have e60 : h4 60 m = nI c := by
    rw [e4, mup_nk (by decide), mup_nk (by decide), mup_nk (by decide), mup_nk (by decide), hR.2.2.2.2.1, hcA]
  rw [← e4, e60, zI_one, mup_eq]
  refine ⟨_, rfl, ?_, ?_, ?_⟩
  · rw [e4]
    exact ((((hR.up 61 _ _).up 62 _ _).up 63 _ _).up 64 _ _).up 60 _ _
  · rw [e4]
    exact ((((Fq.up1 (by decide) (by decide)).up (by decide) (by decide)).up (by decide) (by decide)).up (by decide) (by decide)).up (by decide) (by decide)
  · rw [axR (by decide), e4, axR (by decide), axR (by decide), axR (by decide), axR (by decide)]
theorem st_depend {g A : Mem} (hA : WF A) (hC : RC g A) (hR : RR g A) (x y p q : Int32) (b : Bool) : StT (m_L_depend g x y p q (bI b)) (fun g1 => m_X3_depend g1 x y p q (bI b)) := by
  have bad : m_X2_depend g x y p q (bI b) = some (g, 1, 0) → m_X3_depend g x y p q (bI b) = m_X3_depend_49 x y p q (bI b) g 0 → StT (m_L_depend g x y p q (bI b)) (fun g1 => m_X3_depend g1 x y p q (bI b)) := by
    intro e1 e2
    unfold m_L_depend
    rw [e1]
    refine ⟨g, 1, mup g 54 0 1, 0, A, rfl, ?_, mup_eq _ _ _ _, fun h => absurd h (by decide), hA, hC.rf f54, hR.f54⟩
    show m_X3_depend g x y p q (bI b) = _
    rw [e2, dep_bad]
  by_cases hx : 0 ≤ x ∧ x < 8
  · obtain ⟨m, hm, rfl⟩ := ex_mod hx
    have cP := c_isP hC (nI m)
    have rP : ∀ h, RR h A → m_X3_isPresent h (nI m) = some (bI (sP A m)) := fun h hR => by
      rw [r_isP hR, decide_eq_true hx, zI_nat (by omega)]
      rfl
    rw [decide_eq_true hx, zI_nat (by omega), Bool.true_and] at cP
    cases eP : sP A m with
    | false =>
      apply bad
      · unfold m_X2_depend
        rw [cP, eP, Option.bind_some, if_pos (show bI false = 0 from rfl)]
      · unfold m_X3_depend
        rw [rP g hR, eP, Option.bind_some, if_pos (show bI false = 0 from rfl)]
    | true =>
      by_cases hy : y = -1 ∨ ((0 ≤ y ∧ y < 8) ∧ y ≠ nI m)
      · have hy2 := (can_iff hm y).mp hy
        by_cases hp : 0 ≤ p ∧ p ≤ 63
        · by_cases hq : 0 ≤ q ∧ q ≤ 63
          · obtain ⟨c6, cA⟩ := hA.2.2.2.2.2.1 m hm
            obtain ⟨o, ho, ey, eo⟩ : ∃ o, o < 8 ∧ (y = if o = m then -1 else nI o) ∧ (y < 0 ↔ o = m) := by
              rcases hy with rfl | ⟨h1, h2⟩
              · exact ⟨m, hm, by rw [if_pos rfl], by simp⟩
              · obtain ⟨o, ho, rfl⟩ := ex_mod h1
                refine ⟨o, ho, by rw [if_neg (fun e => h2 (by rw [e]))], ⟨fun h => absurd h (zI_pos (by omega)), fun h => absurd (by rw [h]) h2⟩⟩
            have yI : ∀ hne : ¬ o = m, y = nI o := fun hne => by rw [ey, if_neg hne]
            -- what is missing
            have c1 : m_X2_depend g (nI m) y p q (bI b) = (if sc A m < 6 then (if sL A m && (b && (!decide (o = m) && !sL A o)) then some (g, 2, 0) else some (adH g m (sc A m) y p q b, 0, nI (sc A m + 1))) else some (g, 2, 0)) := by
              have c101 : sc A m < 6 → m_X2_depend_101 (nI m) y p q (bI b) g = some (adH g m (sc A m) y p q b, 0, nI (sc A m + 1)) := fun h6 => by
                unfold m_X2_depend_101
                rw [gi_nI hm (by decide), zI_nat (by omega), c_add h6 (hC.2.2.2.2 m hm).2.2.1, Option.bind_some, gi_nI hm (by decide)]
                have := (RC_ad hA hC hm h6 rfl ho (x := y) (p := p) (q := q) (b := b) ey).2.2.2.2 m hm
                rw [this.2.2.1, adA_c h6, if_pos rfl]
              unfold m_X2_depend
              rw [cP, eP, Option.bind_some, if_neg (by decide), c_can, decide_eq_true hy, if_neg (by decide), c_paths, decide_eq_true hp, if_neg (by decide), c_paths, decide_eq_true hq, if_neg (by decide), gi_nI hm (by decide), zI_nat (by omega), (hC.2.2.2.2 m hm).2.2.1, c_isLn hC hm, Option.bind_some, bI_if, bI_if]
              by_cases h6 : sc A m < 6
              · rw [if_pos (show nI (sc A m) < 6 from (zI_lt (b := 6) (by omega) (by decide)).mpr h6), if_pos h6, c101 h6]
                cases sL A m with
                | false => rw [if_neg (by decide), Bool.false_and, if_neg (by decide)]
                | true =>
                  rw [if_pos rfl]
                  cases b with
                  | false => rw [if_neg (by decide), Bool.false_and, Bool.and_false, if_neg (by decide)]
                  | true =>
                    rw [if_pos rfl]
                    by_cases hom : o = m
                    · rw [if_pos (by rw [ey, if_pos hom])]
                      simp [hom]
                    · rw [if_neg (by rw [yI hom]; exact neg1_ne (by omega)), yI hom, c_isLn hC ho, Option.bind_some, bI_if]
                      cases sL A o <;> simp [hom]
              · rw [if_neg (show ¬ nI (sc A m) < 6 from fun h => h6 ((zI_lt (b := 6) (by omega) (by decide)).mp h)), if_neg h6]
            have r1 : ∀ h, RR h A → (if sc A m < 6 then (if sL A m && (b && (!decide (o = m) && !sL A o)) then m_X3_depend h (nI m) y p q (bI b) = some (mup h 54 0 2, 0) else ∃ h', m_X3_depend h (nI m) y p q (bI b) = some (h', nI (sc A m + 1)) ∧ RR h' (adA A m (sc A m) o p q b) ∧ Fq 54 71 h h' ∧ h' 54 0 = 0) else m_X3_depend h (nI m) y p q (bI b) = some (mup h 54 0 2, 0)) := by
              intro h hR
              have e88 : ∀ mi : Bool, m_X3_depend_88 (nI m) y p q (bI b) h 1 (bI mi) = (if sc A m < 6 then (if mi then some (mup h 54 0 2, 0) else m_X3_depend_121 (nI m) y p q (bI b) h 1 (bI mi) 0) else some (mup h 54 0 2, 0)) := fun mi => by
                unfold m_X3_depend_88
                rw [if_neg (by decide), gi_nI hm (by decide), zI_nat (by omega), hR.2.2.2.2.1, cA, dep_121_2, bI_if]
                by_cases h6 : sc A m < 6
                · rw [if_neg (lp_no (n := 6) h6 (by decide)), if_pos h6]
                · rw [if_pos (lp_yes (n := 6) (by omega) (by omega)), if_neg h6]
              have e49 : m_X3_depend h (nI m) y p q (bI b) = m_X3_depend_88 (nI m) y p q (bI b) h 1 (bI (sL A m && (b && (!decide (o = m) && !sL A o)))) := by
                unfold m_X3_depend
                rw [rP h hR, eP, Option.bind_some, if_neg (by decide), r_in, decide_eq_true hy2.1, if_neg (by decide), if_neg hy2.2, r_in, decide_eq_true hp, if_neg (by decide), r_in, decide_eq_true hq, if_neg (by decide)]
                unfold m_X3_depend_49
                rw [if_neg (by decide), gi_nI hm (by decide), zI_nat (by omega), hR.2.1, hA.2.1 m hm, bI_if, bI_if]
                cases sL A m with
                | false => rw [if_neg (by decide), Bool.false_and, show bI false = 0 from rfl]
                | true =>
                  rw [if_pos rfl]
                  cases b with
                  | false => rw [if_neg (by decide), Bool.false_and, Bool.and_false, show bI false = 0 from rfl]
                  | true =>
                    rw [if_pos rfl]
                    by_cases hom : o = m
                    · rw [if_pos (eo.mpr hom), decide_eq_true hom, show bI (true && (true && (!true && !sL A o))) = 0 from rfl]
                    · rw [if_neg (fun h => hom (eo.mp h)), yI hom, gi_nI ho (by decide), zI_nat (by omega), hA.2.1 o ho, bI_if]
                      cases sL A o with
                      | true => rw [if_pos rfl, decide_eq_false hom, show bI (true && (true && (!false && !true))) = 0 from rfl]
                      | false => rw [if_neg (by decide), decide_eq_false hom, show bI (true && (true && (!false && !false))) = 1 from rfl]
              have e121 : sc A m < 6 → ∀ x7, ∃ h', m_X3_depend_121 (nI m) y p q (bI b) h 1 x7 0 = some (h', nI (sc A m + 1)) ∧ RR h' (adA A m (sc A m) o p q b) ∧ Fq 54 71 h h' ∧ h' 54 0 = 0 := by
                intro h6 x7
                unfold m_X3_depend_121
                rw [thr0, Option.bind_some, if_pos rfl, gi_nI hm (by decide), zI_nat (by omega)]
                show ∃ h', (if 0 ≤ y then m_X3_depend_157 (nI m) y p q (bI b) (mup h 54 0 0) 1 x7 (6 * nI m + (mup h 54 0 0) 60 m) y (6 * nI m + (mup h 54 0 0) 60 m) else m_X3_depend_157 (nI m) y p q (bI b) (mup h 54 0 0) 1 x7 (6 * nI m + (mup h 54 0 0) 60 m) (nI m) (6 * nI m + (mup h 54 0 0) 60 m)) = some (h', nI (sc A m + 1)) ∧ _
                rw [mup_nk (show (60 : Nat) ≠ 54 by decide), hR.2.2.2.2.1, cA, x6]
                obtain ⟨h', a1, a2, a3, a4⟩ := dep_157 (hR.f54 (v := 0)) (o := o) hm h6 cA y p q b 1 x7
                refine ⟨h', ?_, a2, (Fq.up1 (by decide) (by decide)).trans a3, by rw [a4, mup_eq]⟩
                by_cases hom : o = m
                · rw [if_neg (i_le.mpr (eo.mpr hom)), ← a1, hom]
                · rw [if_pos (i_lt.mp (fun h => hom (eo.mp h))), ← a1]
                  congr 1
                  exact yI hom
              rw [e49, e88]
              by_cases h6 : sc A m < 6
              · rw [if_pos h6, if_pos h6]
                cases sL A m && (b && (!decide (o = m) && !sL A o)) with
                | true => rfl
                | false =>
                  rw [if_neg (by decide)]
                  exact e121 h6 _
              · rw [if_neg h6, if_neg h6]
            by_cases h6 : sc A m < 6
            · cases em : sL A m && (b && (!decide (o = m) && !sL A o)) with
              | true =>
                have := r1 g hR
                rw [if_pos h6, em, if_pos rfl] at this
                unfold m_L_depend
                rw [c1, if_pos h6, em, if_pos rfl]
                exact ⟨g, 2, mup g 54 0 2, 0, A, rfl, this, mup_eq _ _ _ _, fun h => absurd h (by decide), hA, hC.rf f54, hR.f54⟩
              | false =>
                have f1 : Fq 0 54 g (adH g m (sc A m) y p q b) := fun k hk => adH_k (by unfold kM; omega)
                have hR1 : RR (mup (adH g m (sc A m) y p q b) 71 0 (nI (sc A m + 1))) A := (hR.fd f1).f71
                have := r1 _ hR1
                rw [if_pos h6, em, if_neg (by decide)] at this
                obtain ⟨h', a1, a2, a3, a4⟩ := this
                unfold m_L_depend
                rw [c1, if_pos h6, em, if_neg (by decide)]
                refine ⟨mup (adH g m (sc A m) y p q b) 71 0 (nI (sc A m + 1)), 0, h', nI (sc A m + 1), adA A m (sc A m) o p q b, rfl, a1, a4, fun _ => by rw [a3 71 (.inr (Nat.le_refl _)), mup_eq], WF_ad hA hm h6 rfl ho, ?_, a2⟩
                exact ((RC_ad hA hC hm h6 rfl ho ey).f71).rf a3
            · have := r1 g hR
              rw [if_neg h6] at this
              unfold m_L_depend
              rw [c1, if_neg h6]
              exact ⟨g, 2, mup g 54 0 2, 0, A, rfl, this, mup_eq _ _ _ _, fun h => absurd h (by decide), hA, hC.rf f54, hR.f54⟩
          · apply bad
            · unfold m_X2_depend
              rw [cP, eP, Option.bind_some, if_neg (by decide), c_can, decide_eq_true hy, if_neg (by decide), c_paths, decide_eq_true hp, if_neg (by decide), c_paths, decide_eq_false hq, if_pos (show bI false = 0 from rfl)]
            · unfold m_X3_depend
              rw [rP g hR, eP, Option.bind_some, if_neg (by decide), r_in, decide_eq_true hy2.1, if_neg (by decide), if_neg hy2.2, r_in, decide_eq_true hp, if_neg (by decide), r_in, decide_eq_false hq, if_pos (show bI false = 0 from rfl)]
        · apply bad
          · unfold m_X2_depend
            rw [cP, eP, Option.bind_some, if_neg (by decide), c_can, decide_eq_true hy, if_neg (by decide), c_paths, decide_eq_false hp, if_pos (show bI false = 0 from rfl)]
          · unfold m_X3_depend
            rw [rP g hR, eP, Option.bind_some, if_neg (by decide), r_in, decide_eq_true hy2.1, if_neg (by decide), if_neg hy2.2, r_in, decide_eq_false hp, if_pos (show bI false = 0 from rfl)]
      · apply bad
        · unfold m_X2_depend
          rw [cP, eP, Option.bind_some, if_neg (by decide), c_can, decide_eq_false hy, if_pos (show bI false = 0 from rfl)]
        · unfold m_X3_depend
          rw [rP g hR, eP, Option.bind_some, if_neg (by decide), r_in]
          by_cases h1 : -1 ≤ y ∧ y ≤ 7
          · rw [decide_eq_true h1, if_neg (by decide), if_pos (Classical.byContradiction fun h => hy ((can_iff hm y).mpr ⟨h1, h⟩))]
          · rw [decide_eq_false h1, if_pos (show bI false = 0 from rfl)]
  · apply bad
    · unfold m_X2_depend
      rw [c_isP hC, decide_eq_false hx, Bool.false_and, Option.bind_some, if_pos (show bI false = 0 from rfl)]
    · unfold m_X3_depend
      rw [r_isP hR, decide_eq_false hx, Bool.false_and, Option.bind_some, if_pos (show bI false = 0 from rfl)]
