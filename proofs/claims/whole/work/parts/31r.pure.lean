/-! PURE: find -/
theorem RR.fd0 {h h' A : Mem} (H : RR h A) (f : Fq 50 54 h h') : RR h' A := H.fd (f.mono (by decide) (by decide))
theorem FS.fq {h h' : Mem} (f : FS h h') : Fq 54 71 h h' := fun k hk => f.1 k (by omega) (by omega) (by omega) (by omega) (by omega)
theorem FN.fq {h h' : Mem} (f : FN h h') : Fq 54 71 h h' := fun k hk => f.1 k (by omega) (by omega) (by omega) (by omega) (by omega) (by omega)
theorem FD.fq {h h' : Mem} (f : FD h h') : Fq 54 71 h h' := fun k hk => f.1 k (by omega) (by omega) (by omega) (by omega) (by omega) (by omega)
theorem f96_1 (g : Mem) (x y a b c : Int32) : m_X3_find_96 x y g a b c 1 = some (mup g 54 0 1, 0) := by
  unfold m_X3_find_96
  rw [thr1, Option.bind_some, if_neg (show ¬ (mup g 54 0 1, (1 : Int32)).2 = 0 from (by decide : ¬ (1 : Int32) = 0))]
theorem f96_2 (g : Mem) (x y a b c : Int32) : m_X3_find_96 x y g a b c 2 = some (mup g 54 0 2, 0) := by
  unfold m_X3_find_96
  rw [thr2, Option.bind_some, if_neg (show ¬ (mup g 54 0 2, (1 : Int32)).2 = 0 from (by decide : ¬ (1 : Int32) = 0))]
theorem f96_3 (g : Mem) (x y a b c : Int32) : m_X3_find_96 x y g a b c 3 = some (mup g 54 0 3, 0) := by
  unfold m_X3_find_96
  rw [thr3, Option.bind_some, if_neg (show ¬ (mup g 54 0 3, (1 : Int32)).2 = 0 from (by decide : ¬ (1 : Int32) = 0))]
theorem f96_0 (g : Mem) (x y a b c : Int32) : m_X3_find_96 x y g a b c 0 = m_X3_find_110 x y 200 (mup g 54 0 0) a b c (c - 1) := by
  unfold m_X3_find_96
  rw [thr0, Option.bind_some, if_pos (show (mup g 54 0 0, (0 : Int32)).2 = 0 from rfl)]
theorem zI_ge0 {k : Nat} (h : k < 2 ^ 31) : (0 : Int32) ≤ nI k := (zI_le (a := 0) (by decide) h).mpr (by omega)
theorem f23_bad (g : Mem) (x y : Int32) : m_X3_find_23 x y g 0 = some (mup g 54 0 1, 0) := by
  unfold m_X3_find_23 m_X3_find_38 m_X3_find_66
  rw [if_pos rfl, if_pos rfl, if_pos rfl, f96_1]
theorem st_find {g A : Mem} (hA : WF A) (hC : RC g A) (hR : RR g A) (x y : Int32) : StT (m_L_find g x y) (fun g1 => m_X3_find g1 x y) := by
  have bad : m_X2_find g x y = some (g, 1, 0) → m_X3_find g x y = m_X3_find_23 x y g 0 → StT (m_L_find g x y) (fun g1 => m_X3_find g1 x y) := by
    intro e1 e2
    unfold m_L_find
    rw [e1]
    refine ⟨g, 1, mup g 54 0 1, 0, A, rfl, ?_, mup_eq _ _ _ _, fun h => absurd h (by decide), hA, hC.rf f54, hR.f54⟩
    show m_X3_find g x y = _
    rw [e2, f23_bad]
  by_cases hx : 0 ≤ x ∧ x < 8
  · obtain ⟨m, hm, rfl⟩ := ex_mod hx
    have rL : ∀ h, RR h A → m_X3_isLoaded h (nI m) = some (bI (sL A m)) := fun h hR => by
      rw [r_isL hR, decide_eq_true hx, zI_nat (by omega)]
      rfl
    cases eL : sL A m with
    | false =>
      apply bad
      · unfold m_X2_find
        rw [c_isLn hC hm, eL, Option.bind_some, if_pos (show bI false = 0 from rfl)]
      · unfold m_X3_find
        rw [rL g hR, eL, Option.bind_some, if_pos (show bI false = 0 from rfl)]
    | true =>
      by_cases hy : 0 ≤ y ∧ y < 24
      · obtain ⟨n, hn, rfl⟩ := ex_name hy
        obtain ⟨h1, a1, a2⟩ := c_hs hA hC hm eL hn
        have f1 : Fq 50 54 g h1 := a2.mono (by decide) (by decide)
        have hC1 : RC h1 A := hC.row a2
        have c0 : m_X2_find g (nI m) (nI n) = (if oI (shd A m n) = -1 then some (h1, 3, 0) else (m_X2_defineWithAllAbove h1 (oI (shd A m n)) (nI n)).bind fun qr9 => (if qr9.2 = 0 then some (qr9.1, 2, 0) else some (qr9.1, 0, oI (shd A m n)))) := by
          unfold m_X2_find
          rw [c_isLn hC hm, eL, Option.bind_some, if_neg (by decide), c_name, decide_eq_true hy, if_neg (by decide), a1, Option.bind_some]
        have r0 : ∀ h, RR h A → ∃ h2, FS h h2 ∧ m_X3_find h (nI m) (nI n) = m_X3_find_38 (nI m) (nI n) h2 1 (oI (shd A m n)) := by
          intro h hR
          obtain ⟨h2, b1, b2⟩ := r_hs hA hR hm eL hn
          refine ⟨h2, b2, ?_⟩
          unfold m_X3_find
          rw [rL h hR, eL, Option.bind_some, if_neg (by decide), r_in, decide_eq_true ((in23 _).mpr hy), if_neg (by decide)]
          unfold m_X3_find_23
          rw [if_neg (by decide), b1, Option.bind_some]
        cases es : shd A m n with
        | none =>
          rw [es] at c0
          have hR1 : RR h1 A := hR.fd0 f1
          obtain ⟨h2, b2, b3⟩ := r0 h1 hR1
          rw [es] at b3
          unfold m_L_find
          rw [c0, if_pos (show oI none = -1 from rfl)]
          refine ⟨h1, 2, mup h2 54 0 2, 0, A, rfl, ?_, mup_eq _ _ _ _, fun h => absurd h (by decide), hA, hC1.rf (b2.fq.up (by decide) (by decide)), (hR1.fs b2).f54⟩
          show m_X3_find h1 (nI m) (nI n) = _
          rw [b3]
          unfold m_X3_find_38 m_X3_find_66
          rw [if_neg (by decide), if_pos (show m_X3_in (oI none) 0 7 = 0 by decide), if_neg (by decide), if_neg (show ¬ (0 : Int32) ≤ oI none by decide), f96_2]
        | some z =>
          rw [es] at c0
          have hz : okN A z n := by
            rcases shd_spec hA hm eL es with h | h
            · exact .inl h
            · exact .inr (.inr ⟨h.1, hn, h.2.1, h.2.2⟩)
          have hz10 : z < 10 := by rcases hz with h | h | h <;> omega
          have cu := c_up hA (nI z) (nI n) 10 200 0 z n (nI n) h1 rfl (by decide) hC1 hz (fun _ => rfl)
          rw [show oI (some z) = nI z from rfl, if_neg (neg1_ne (by omega))] at c0
          have r8 : ∀ h2, RR h2 A → match sU A 10 z n with
              | none => ∃ h3, m_X3_find_38 (nI m) (nI n) h2 1 (nI z) = some (mup h3 54 0 3, 0) ∧ FN h2 h3
              | some l => ∃ h3, m_X3_find_38 (nI m) (nI n) h2 1 (nI z) = m_X3_find_110 (nI m) (nI n) 200 (mup h3 54 0 0) 1 (nI z) (nI l.length) (nI l.length - 1) ∧ FN h2 h3 ∧ ∀ i e, l[i]? = some e → h3 70 i = nI (24 * e.1 + e.2.1) := by
            intro h2 hR2
            unfold m_X3_find_38 m_X3_find_66
            rw [if_neg (show ¬ (1 : Int32) = 0 by decide), r_in]
            by_cases h8 : z < 8
            · rw [decide_eq_true (⟨zI_ge0 (by omega), (lt_succ (n := 7) (by decide)).mpr (in_mod h8).2⟩ : (0 : Int32) ≤ nI z ∧ nI z ≤ 7), if_neg (by decide)]
              have rn := r_needs hA (nI z) (nI n) 10 200 0 z n (nI n) h2 rfl (by decide) hR2 hz (fun _ => rfl) (fun i hi => by omega)
              unfold m_X3_needs
              cases eu : sU A 10 z n with
              | none =>
                rw [eu] at rn
                obtain ⟨h3, c1, c2⟩ := rn
                refine ⟨h3, ?_, c2⟩
                rw [show m_X3_needs_8 (nI z) (nI n) 200 h2 0 (nI z) (nI n) = _ from c1, Option.bind_some, if_neg (by decide), if_pos (zI_ge0 (by omega)), if_neg (show ¬ (0 : Int32) ≤ (h3, (-1 : Int32)).2 from (by decide : ¬ (0 : Int32) ≤ -1)), f96_3]
              | some l =>
                rw [eu] at rn
                obtain ⟨h3, c1, c2, c3, c4⟩ := rn
                have l10 := (sU_ok hA hz eu).2
                rw [Nat.zero_add] at c1
                refine ⟨h3, ?_, c2, fun i e hi => by rw [← Nat.zero_add i]; exact c4 i e hi⟩
                rw [show m_X3_needs_8 (nI z) (nI n) 200 h2 0 (nI z) (nI n) = _ from c1, Option.bind_some, if_neg (by decide), if_pos (zI_ge0 (by omega)), if_pos (show (0 : Int32) ≤ (h3, nI l.length).2 from zI_ge0 (by omega)), f96_0]
            · have h8' : z = 8 ∨ z = 9 := by omega
              have hu : sU A 10 z n = some [] := by rw [sU, if_pos (by omega)]
              rw [hu]
              rw [decide_eq_false (fun hc => by
                have h1 := (lt_succ (n := 7) (by decide)).mp hc.2
                have h2 := (zI_lt (b := 8) (by omega) (by decide)).mp h1
                omega), if_pos (by decide), if_neg (by decide), if_pos (zI_ge0 (by omega)), if_pos (by decide), f96_0]
              exact ⟨h2, rfl, FN.rf h2, fun i e hi => by simp at hi⟩
          cases eu : sU A 10 z n with
          | none =>
            rw [eu] at cu
            obtain ⟨h3, d1, d2⟩ := cu
            have c2 : m_X2_find g (nI m) (nI n) = some (h3, 2, 0) := by
              rw [c0]
              unfold m_X2_defineWithAllAbove
              rw [show m_X2_defineWithAllAbove_8 (nI z) (nI n) 200 h1 (nI z) (nI n) 0 = _ from d1, Option.bind_some, if_pos (show (h3, (0 : Int32)).2 = 0 from rfl)]
            have hR3 : RR h3 A := (hR.fd0 f1).fd0 d2
            obtain ⟨h4, b2, b3⟩ := r0 h3 hR3
            have r9 := r8 h4 (hR3.fs b2)
            rw [eu] at r9
            obtain ⟨h5, k1, k2⟩ := r9
            unfold m_L_find
            rw [c2]
            refine ⟨h3, 3, mup h5 54 0 3, 0, A, rfl, ?_, mup_eq _ _ _ _, fun h => absurd h (by decide), hA, (hC1.ch d2).rf ((b2.fq.trans k2.fq).up (by decide) (by decide)), ((hR3.fs b2).fn k2).f54⟩
            show m_X3_find h3 (nI m) (nI n) = _
            rw [b3, es]
            exact k1
          | some l =>
            rw [eu] at cu
            obtain ⟨h3, top, d1, d2, d3, d4, d5, d6⟩ := cu
            obtain ⟨o1, o2⟩ := sU_ok hA hz eu
            have ond := sU_nd hA hz eu
            have oE : ∀ e ∈ l, okE A e := fun e he => (o1 e he).1
            have dc := c_dc (h := h3) (l := l) (top := top) d4 d5 (fun e he => ⟨(oE e he).1, (oE e he).2.1⟩) o2
            rw [Nat.zero_add, dc, Option.bind_some] at d1
            have c2 : m_X2_find g (nI m) (nI n) = some (dfH h3 l, 0, nI z) := by
              rw [c0]
              unfold m_X2_defineWithAllAbove
              rw [show m_X2_defineWithAllAbove_8 (nI z) (nI n) 200 h1 (nI z) (nI n) 0 = _ from d1, Option.bind_some, if_neg (show ¬ (dfH h3 l, (1 : Int32)).2 = 0 from (by decide : ¬ (1 : Int32) = 0))]
            have hC3 : RC (dfH h3 l) (dfA A l) := RC_df hA (hC1.ch d2) oE ond
            have hR3 : RR (mup (dfH h3 l) 71 0 (nI z)) A := by
              have : RR (dfH h3 l) A := ((hR.fd0 f1).fd0 d2).fd (fun k hk => dfH_hi (fun e he => (oE e he).1) k (by omega))
              exact this.f71
            obtain ⟨h4, b2, b3⟩ := r0 _ hR3
            have r9 := r8 h4 (hR3.fs b2)
            rw [eu] at r9
            obtain ⟨h5, k1, k2, k3⟩ := r9
            obtain ⟨h6, p1, p2, p3⟩ := r_df_loop hA oE ond o2 (nI m) (nI n) 1 (nI z) (nI l.length) l.length 200 (mup h5 54 0 0) (Nat.le_refl _) (by omega) (by rw [List.drop_length]; exact ((hR3.fs b2).fn k2).f54) (fun i e hi => by rw [mup_nk (by decide)]; exact k3 i e hi)
            have f6 : Fq 54 71 (mup (dfH h3 l) 71 0 (nI z)) h6 := (((b2.fq.trans k2.fq).up (by decide) (by decide))).trans p3.fq
            unfold m_L_find
            rw [c2]
            refine ⟨mup (dfH h3 l) 71 0 (nI z), 0, h6, nI z, dfA A l, rfl, ?_, by rw [p3.2, mup_eq], fun _ => by rw [f6 71 (.inr (Nat.le_refl _)), mup_eq], (dfA_all hA oE ond).1, (hC3.f71).rf f6, p2⟩
            show m_X3_find (mup (dfH h3 l) 71 0 (nI z)) (nI m) (nI n) = _
            rw [b3, es]
            exact k1.trans p1
      · apply bad
        · unfold m_X2_find
          rw [c_isLn hC hm, eL, Option.bind_some, if_neg (by decide), c_name, decide_eq_false hy, if_pos (show bI false = 0 from rfl)]
        · unfold m_X3_find
          rw [rL g hR, eL, Option.bind_some, if_neg (by decide), r_in, decide_eq_false (fun h => hy ((in23 _).mp h)), if_pos (show bI false = 0 from rfl)]
  · apply bad
    · unfold m_X2_find
      rw [c_isL hC, decide_eq_false hx, Bool.false_and, Option.bind_some, if_pos (show bI false = 0 from rfl)]
    · unfold m_X3_find
      rw [r_isL hR, decide_eq_false hx, Bool.false_and, Option.bind_some, if_pos (show bI false = 0 from rfl)]
