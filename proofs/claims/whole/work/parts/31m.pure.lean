/-! PURE: file, relink, depend -/
theorem m1_int : (-1 : Int32).toInt = -1 := by decide
theorem m2_int : (-2 : Int32).toInt = -2 := by decide
theorem m3_int : (-3 : Int32).toInt = -3 := by decide
theorem i23 : (23 : Int32).toInt = 23 := by decide
theorem i24 : (24 : Int32).toInt = 24 := by decide
theorem i0 : (0 : Int32).toInt = 0 := by decide
theorem c_ext (x : Int32) : m_X2_isExtended x = bI (decide (-2 ≤ x ∧ x ≤ 23)) := by
  unfold m_X2_isExtended
  rw [c_name, bI_if]
  by_cases h : 0 ≤ x ∧ x < 24
  · have : -2 ≤ x ∧ x ≤ 23 := by
      simp only [Int32.le_iff_toInt_le, Int32.lt_iff_toInt_lt, m2_int, i23, i24, i0] at h ⊢
      omega
    rw [decide_eq_true h, decide_eq_true this]
    rfl
  · rw [decide_eq_false h, if_neg (by decide)]
    by_cases h1 : x = -1
    · subst h1
      decide
    · rw [if_neg h1]
      by_cases h2 : x = -2
      · subst h2
        decide
      · rw [if_neg h2, decide_eq_false]
        · rfl
        · intro hc
          have a1 : ¬ x.toInt = -1 := fun e => h1 (Int32.toInt_inj.mp (by rw [e, m1_int]))
          have a2 : ¬ x.toInt = -2 := fun e => h2 (Int32.toInt_inj.mp (by rw [e, m2_int]))
          simp only [Int32.le_iff_toInt_le, Int32.lt_iff_toInt_lt, m2_int, i23, i24, i0] at h hc
          omega
theorem ext_ok {x : Int32} (h : -2 ≤ x ∧ x ≤ 23) : okF x := by
  by_cases h0 : 0 ≤ x
  · obtain ⟨k, hk, e⟩ := exI_lt (n := 24) (by decide) h0 ((lt_succ (n := 23) (by decide)).mp h.2)
    exact .inr (.inr (.inr ⟨k, hk, e⟩))
  · simp only [Int32.le_iff_toInt_le, m2_int, i23, i0] at h h0
    by_cases h1 : x.toInt = -1
    · exact .inr (.inr (.inl (Int32.toInt_inj.mp (by rw [h1, m1_int]))))
    · exact .inr (.inl (Int32.toInt_inj.mp (by rw [m2_int]; omega)))
theorem in23 (x : Int32) : (0 ≤ x ∧ x ≤ 23) ↔ (0 ≤ x ∧ x < 24) := ⟨fun h => ⟨h.1, (lt_succ (n := 23) (by decide)).mp h.2⟩, fun h => ⟨h.1, (lt_succ (n := 23) (by decide)).mpr h.2⟩⟩
theorem ex_name {x : Int32} (h : 0 ≤ x ∧ x < 24) : ∃ n, n < 24 ∧ x = nI n := exI_lt (n := 24) (by decide) h.1 h.2
theorem sF_at {A : Mem} {m n m' n' : Nat} {v : Int32} (hn : n < 24) (hn' : n' < 24) : sF (mup A 58 (24 * m + n) v) m' n' = if m' = m ∧ n' = n then v else sF A m' n' := by
  unfold sF mup
  by_cases h : m' = m ∧ n' = n
  · rw [if_pos h, if_pos (by omega)]
  · rw [if_neg h, if_neg (by omega)]
theorem file_34_0 (g : Mem) (x y z : Int32) : m_X3_file_34 x y z g 0 = some (mup g 54 0 1) := rfl
theorem st_file {g A : Mem} (hA : WF A) (hC : RC g A) (hR : RR g A) (x y z : Int32) : StV (m_L_file g x y z) (fun g1 => m_X3_file g1 x y z) := by
  have bad : m_X2_file g x y z = some (g, 1, 0) → m_X3_file g x y z = m_X3_file_34 x y z g 0 → StV (m_L_file g x y z) (fun g1 => m_X3_file g1 x y z) := by
    intro e1 e2
    unfold m_L_file
    rw [e1]
    refine ⟨g, 1, mup g 54 0 1, A, rfl, ?_, mup_eq _ _ _ _, hA, hC.rf f54, hR.f54⟩
    show m_X3_file g x y z = _
    rw [e2, file_34_0]
  by_cases hx : 0 ≤ x ∧ x < 8
  · obtain ⟨m, hm, rfl⟩ := ex_mod hx
    have cP := c_isP hC (nI m)
    have rP : ∀ h, RR h A → m_X3_isPresent h (nI m) = some (bI (sP A m)) := fun h hR => by
      rw [r_isP hR, decide_eq_true hx, zI_nat (by omega)]
      rfl
    rw [decide_eq_true hx, zI_nat (by omega), Bool.true_and] at cP
    cases eP : sP A m with
    | false =>
      apply bad
      · unfold m_X2_file
        rw [cP, eP]
        rfl
      · unfold m_X3_file
        rw [rP g hR, eP]
        rfl
    | true =>
      by_cases hy : 0 ≤ y ∧ y < 24
      · obtain ⟨n, hn, rfl⟩ := ex_name hy
        by_cases hz : -2 ≤ z ∧ z ≤ 23
        · have c1 : m_X2_file g (nI m) (nI n) z = (if sL A m then some (g, 2, 0) else if sh A m n then some (g, 2, 0) else some (mup g (kM m + 1) n z, 0, 0)) := by
            unfold m_X2_file
            rw [cP, eP, Option.bind_some, if_neg (by decide), c_name, decide_eq_true hy, if_neg (by decide), c_ext, decide_eq_true hz, if_neg (by decide), c_isLn hC hm, Option.bind_some, bI_if, gi_nI hm (by decide), gi_nI hm (by decide), gi_nI hn (by decide), zI_nat (by omega), zI_nat (by omega), c_holds hC hm hn, Option.bind_some, bI_if]
          have r1 : ∀ h, RR h A → m_X3_file h (nI m) (nI n) z = (if sL A m then some (mup h 54 0 2) else if sh A m n then some (mup h 54 0 2) else some (mup (mup h 54 0 0) 58 (24 * m + n) z)) := by
            intro h hR
            unfold m_X3_file
            rw [rP h hR, eP, Option.bind_some, if_neg (by decide), r_in, decide_eq_true ((in23 _).mpr hy), if_neg (by decide), r_in, decide_eq_true hz, if_neg (by decide)]
            unfold m_X3_file_34
            rw [if_neg (by decide), gi_nI hm (by decide), zI_nat (by omega), hR.2.1, hA.2.1 m hm, bI_if, x24, gi_nI (by omega) (by decide), zI_nat (by omega), hR.2.2.1, show A 58 (24 * m + n) = sF A m n from rfl]
            unfold m_X3_file_76
            rw [thr0, thr2, Option.bind_some, Option.bind_some, x24, gi_nI (by omega) (by decide), zI_nat (by omega)]
            unfold sh
            by_cases e : sF A m n = -3 <;> simp [e, gi_nI (show 24 * m + n < 192 by omega) (show 192 < 2 ^ 31 by decide)]
          unfold m_L_file
          rw [c1]
          cases eL : sL A m with
          | true => exact ⟨g, 2, mup g 54 0 2, A, rfl, (r1 g hR).trans (by rw [eL]; rfl), mup_eq _ _ _ _, hA, hC.rf f54, hR.f54⟩
          | false =>
            cases eh : sh A m n with
            | true => exact ⟨g, 2, mup g 54 0 2, A, rfl, (r1 g hR).trans (by rw [eL, eh]; rfl), mup_eq _ _ _ _, hA, hC.rf f54, hR.f54⟩
            | false =>
              have hR1 : RR (mup g (kM m + 1) n z) A := hR.fd (Fq.up1 (by omega) (by unfold kM; omega))
              refine ⟨mup g (kM m + 1) n z, 0, mup (mup (mup g (kM m + 1) n z) 54 0 0) 58 (24 * m + n) z, mup A 58 (24 * m + n) z, rfl, (r1 _ hR1).trans (by rw [eL, eh]; rfl), by rw [mup_nk (by decide), mup_eq], ?_, ?_, hR1.f54.up 58 _ _⟩
              · obtain ⟨w1, w2, w3, w4, w5, w6, w7, w8⟩ := hA
                unfold WF
                rw [axP (by decide), axL (by decide), axE (by decide), axc (by decide), axo (by decide), axq (by decide), axt (by decide), axR (show (55 : Nat) ≠ 58 by decide), axR (show (56 : Nat) ≠ 58 by decide), axR (show (60 : Nat) ≠ 58 by decide), axR (show (61 : Nat) ≠ 58 by decide), axR (show (64 : Nat) ≠ 58 by decide), axR (show (54 : Nat) ≠ 58 by decide)]
                refine ⟨w1, w2, w3, fun m' hm' n' hn' => ?_, w5, w6, w7, w8⟩
                rw [sF_at hn hn']
                split
                · exact ext_ok hz
                · exact w4 m' hm' n' hn'
              · refine RC.rf ?_ (((Fq.up1 (by decide) (by decide)).up (by decide) (by decide)) : Fq 54 71 (mup g (kM m + 1) n z) _)
                obtain ⟨h1, h2, h3, h4, h5⟩ := hC
                have e0 : mup g (kM m + 1) n z 0 = g 0 := axR (by omega)
                unfold RC
                rw [e0, axP (by decide), axL (by decide)]
                refine ⟨h1, h2, h3, h4, fun m' hm' => ?_⟩
                by_cases hmm : m' = m
                · subst hmm
                  obtain ⟨q1, q2, q3, q4, q5, q6, q7, q8⟩ := h5 m' hm'
                  have ed : ∀ d, d ≠ 1 → mup g (kM m' + 1) n z (kM m' + d) = g (kM m' + d) := fun d hd => axR (by omega)
                  have ek : mup g (kM m' + 1) n z (kM m') = g (kM m') := ed 0 (by omega)
                  unfold RCm
                  rw [ek, ed 2 (by omega), ed 3 (by omega), ed 4 (by omega), ed 5 (by omega), axE (by decide), axc (by decide), axo (by decide), axi (by decide), axe (by decide), axd (by decide) (by decide), axr (by decide) (by decide) (by decide)]
                  refine ⟨fun n' hn' => ?_, q2, q3, q4, q5, q6, q7, q8⟩
                  rw [sF_at hn hn']
                  by_cases hx : n' = n
                  · subst hx
                    rw [mup_eq, if_pos ⟨rfl, rfl⟩]
                  · rw [mup_ni hx, if_neg (fun hc => hx hc.2)]
                    exact q1 n' hn'
                · have hc6 := (hA.2.2.2.2.2.1 m' hm').1
                  exact (h5 m' hm').keep hc6 (fun d hd => axR (by unfold kM; omega)) (fun n' hn' => by rw [sF_at hn hn', if_neg (fun hc => hmm hc.1)]) (fun n' _ => by rw [axE (by decide)]) (by rw [axc (by decide)]) (fun j _ => by rw [axo (by decide)]) (fun j _ => by rw [axi (by decide)]) (fun j _ => by rw [axe (by decide)]) (fun j _ => by rw [axq (by decide)])
        · apply bad
          · unfold m_X2_file
            rw [cP, eP, Option.bind_some, if_neg (by decide), c_name, decide_eq_true hy, if_neg (by decide), c_ext, decide_eq_false hz]
            rfl
          · unfold m_X3_file
            rw [rP g hR, eP, Option.bind_some, if_neg (by decide), r_in, decide_eq_true ((in23 _).mpr hy), if_neg (by decide), r_in, decide_eq_false hz]
            rfl
      · apply bad
        · unfold m_X2_file
          rw [cP, eP, Option.bind_some, if_neg (by decide), c_name, decide_eq_false hy]
          rfl
        · unfold m_X3_file
          rw [rP g hR, eP, Option.bind_some, if_neg (by decide), r_in, decide_eq_false (fun h => hy ((in23 _).mp h))]
          rfl
  · apply bad
    · unfold m_X2_file
      rw [c_isP hC, decide_eq_false hx]
      rfl
    · unfold m_X3_file
      rw [r_isP hR, decide_eq_false hx]
      rfl
/-! relink -/
theorem sc_at {A : Mem} {m c : Nat} (hc : c < 2 ^ 31) (m' : Nat) : sc (mup A 60 m (nI c)) m' = if m' = m then c else sc A m' := by
  unfold sc
  by_cases h : m' = m
  · subst h
    rw [mup_eq, if_pos rfl, zI_nat hc]
  · rw [mup_ni h, if_neg h]
theorem st_relink {g A : Mem} (hA : WF A) (hC : RC g A) (hR : RR g A) (x : Int32) : StT (m_L_relink g x) (fun g1 => m_X3_relink g1 x) := by
  have bad : m_X2_relink g x = some (g, 1, 0) → m_X3_relink g x = m_X3_relink_14 x g 1 → StT (m_L_relink g x) (fun g1 => m_X3_relink g1 x) := by
    intro e1 e2
    unfold m_L_relink
    rw [e1]
    refine ⟨g, 1, mup g 54 0 1, 0, A, rfl, ?_, mup_eq _ _ _ _, fun h => absurd h (by decide), hA, hC.rf f54, hR.f54⟩
    show m_X3_relink g x = _
    rw [e2]
    rfl
  by_cases hx : 0 ≤ x ∧ x < 8
  · obtain ⟨m, hm, rfl⟩ := ex_mod hx
    have cP := c_isP hC (nI m)
    have rP : ∀ h, RR h A → m_X3_isPresent h (nI m) = some (bI (sP A m)) := fun h hR => by
      rw [r_isP hR, decide_eq_true hx, zI_nat (by omega)]
      rfl
    rw [decide_eq_true hx, zI_nat (by omega), Bool.true_and] at cP
    cases eP : sP A m with
    | false =>
      apply bad
      · unfold m_X2_relink
        rw [cP, eP]
        rfl
      · unfold m_X3_relink
        rw [rP g hR, eP]
        rfl
    | true =>
      obtain ⟨g1, e1⟩ : ∃ z, z = mup (mup (mup g (kM m) 5 0) (kM m) 6 0) (kM m) 7 0 := ⟨_, rfl⟩
      have c1 : m_X2_relink g (nI m) = some (g1, 0, nI (sc A m)) := by
        unfold m_X2_relink m_X0_dropDependencies
        rw [cP, eP, Option.bind_some, if_neg (by decide), gi_nI hm (by decide), gi_nI hm (by decide), zI_nat (by omega), Option.bind_some, (hC.2.2.2.2 m hm).2.2.1, e1]
      have f1 : Fq 0 54 g g1 := by
        rw [e1]
        exact ((Fq.up1 (by omega) (by unfold kM; omega)).up (by omega) (by unfold kM; omega)).up (by omega) (by unfold kM; omega)
      have hR1 : RR (mup g1 71 0 (nI (sc A m))) A := (hR.fd f1).f71
      have r1 : m_X3_relink (mup g1 71 0 (nI (sc A m))) (nI m) = some (mup (mup (mup g1 71 0 (nI (sc A m))) 54 0 0) 60 m 0, nI (sc A m)) := by
        unfold m_X3_relink m_X3_relink_14
        rw [rP _ hR1, eP, Option.bind_some, if_neg (by decide), thr0, Option.bind_some, if_pos rfl, gi_nI hm (by decide), gi_nI hm (by decide), zI_nat (by omega)]
        show some (mup (mup (mup g1 71 0 (nI (sc A m))) 54 0 0) 60 m 0, (mup (mup g1 71 0 (nI (sc A m))) 54 0 0) 60 m) = _
        rw [hR1.f54.2.2.2.2.1, (hA.2.2.2.2.2.1 m hm).2]
      have hC1 : RC g1 (mup A 60 m (nI 0)) := by
        obtain ⟨h1, h2, h3, h4, h5⟩ := hC
        have e0 : g1 0 = g 0 := by
          rw [e1, axR (by unfold kM; omega), axR (by unfold kM; omega), axR (by unfold kM; omega)]
        unfold RC
        rw [e0, axP (by decide), axL (by decide)]
        refine ⟨h1, h2, h3, h4, fun m' hm' => ?_⟩
        by_cases hmm : m' = m
        · subst hmm
          obtain ⟨q1, q2, q3, q4, q5, q6, q7, q8⟩ := h5 m' hm'
          have ed : ∀ d, d ≠ 0 → g1 (kM m' + d) = g (kM m' + d) := fun d hd => by
            rw [e1, axR (by omega), axR (by omega), axR (by omega)]
          have ec : sc (mup A 60 m' (nI 0)) m' = 0 := by rw [sc_at (by decide), if_pos rfl]
          unfold RCm
          rw [ed 1 (by omega), ed 2 (by omega), axF (by decide), axE (by decide), ec]
          refine ⟨q1, q2, ?_, fun j hj => by omega, ?_, fun t ht => ?_, ?_, fun t ht => ?_⟩
          · rw [e1, mup_ni (by decide), mup_ni (by decide), mup_eq]
            rfl
          · rw [e1, mup_ni (by decide), mup_eq]
            exact sm8_zero
          · rw [e1, mup_ni (by decide), mup_eq, bt_zero]
            unfold sdp
            rw [ec]
            rfl
          · rw [e1, mup_eq]
            exact sm8_zero
          · rw [e1, mup_eq, bt_zero]
            unfold srq
            rw [ec]
            rfl
        · have hc6 := (hA.2.2.2.2.2.1 m' hm').1
          exact (h5 m' hm').keep hc6 (fun d hd => by rw [e1, axR (by unfold kM; omega), axR (by unfold kM; omega), axR (by unfold kM; omega)]) (fun n' hn' => by rw [axF (by decide)]) (fun n' _ => by rw [axE (by decide)]) (by rw [sc_at (by decide), if_neg hmm]) (fun j _ => by rw [axo (by decide)]) (fun j _ => by rw [axi (by decide)]) (fun j _ => by rw [axe (by decide)]) (fun j _ => by rw [axq (by decide)])
      unfold m_L_relink
      rw [c1, Option.bind_some]
      refine ⟨mup g1 71 0 (nI (sc A m)), 0, _, nI (sc A m), mup A 60 m (nI 0), rfl, r1, by rw [mup_nk (by decide), mup_eq], fun _ => by rw [mup_nk (by decide), mup_nk (by decide), mup_eq], ?_, ?_, hR1.f54.up 60 _ _⟩
      · obtain ⟨w1, w2, w3, w4, w5, w6, w7, w8⟩ := hA
        unfold WF
        rw [axP (by decide), axL (by decide), axF (by decide), axE (by decide), axo (by decide), axq (by decide), axt (by decide), axR (show (55 : Nat) ≠ 60 by decide), axR (show (56 : Nat) ≠ 60 by decide), axR (show (61 : Nat) ≠ 60 by decide), axR (show (64 : Nat) ≠ 60 by decide), axR (show (54 : Nat) ≠ 60 by decide)]
        refine ⟨w1, w2, w3, w4, w5, fun m' hm' => ?_, fun m' hm' j hj => ?_, w8⟩
        · rw [sc_at (by decide)]
          by_cases h : m' = m
          · subst h
            rw [if_pos rfl, mup_eq]
            exact ⟨by decide, rfl⟩
          · rw [if_neg h, mup_ni h]
            exact w6 m' hm'
        · rw [sc_at (by decide)] at hj
          by_cases h : m' = m
          · rw [if_pos h] at hj
            omega
          · rw [if_neg h] at hj
            exact w7 m' hm' j hj
      · exact (hC1.f71).rf ((Fq.up1 (by decide) (by decide)).up (by decide) (by decide))
  · apply bad
    · unfold m_X2_relink
      rw [c_isP hC, decide_eq_false hx]
      rfl
    · unfold m_X3_relink
      rw [r_isP hR, decide_eq_false hx]
      rfl
