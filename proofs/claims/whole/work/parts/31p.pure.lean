/-! PURE: load -/
def ldA (A : Mem) (R : Nat → Bool) : Mem := fun k i => if k = 56 ∧ i < 8 then bI (sL A i || R i) else A k i
theorem ldA_k {A : Mem} {R : Nat → Bool} {k : Nat} (h : k ≠ 56) : ldA A R k = A k := by
  funext i
  unfold ldA
  rw [if_neg (fun hc => h hc.1)]
theorem ldA_L {A : Mem} {R : Nat → Bool} {m : Nat} (hm : m < 8) : sL (ldA A R) m = (sL A m || R m) := by
  show decide (ldA A R 56 m ≠ 0) = _
  unfold ldA
  rw [if_pos ⟨rfl, hm⟩]
  cases sL A m || R m <;> rfl
theorem isC_P {A : Mem} {S R : Nat → Bool} {m : Nat} (hm : m < 8) (hG : isG A S) (hC : isC A S m R) (hS : S m = true) : ∀ x, x < 8 → R x = true → sP A x = true := by
  intro x hx hr
  have := hC.2.2 (fun x => decide (x = m) || S x) (by simp) (fun y hy _ t ht _ hs => by simp [hs]) x hx hr
  simp only [Bool.or_eq_true, decide_eq_true_eq] at this
  rcases this with rfl | h
  · exact (hG.1 x hm hS).1
  · exact (hG.1 x hx h).1
theorem WF_ld {A : Mem} (hA : WF A) {R : Nat → Bool} (hR : ∀ x, x < 8 → R x = true → sP A x = true) : WF (ldA A R) := by
  have e := fun k => ldA_k (A := A) (R := R) (k := k)
  have eP : sP (ldA A R) = sP A := by funext x; unfold sP; rw [e 55 (by decide)]
  have eF : sF (ldA A R) = sF A := by funext x y; unfold sF; rw [e 58 (by decide)]
  have eE : sE (ldA A R) = sE A := by funext x y; unfold sE; rw [e 59 (by decide)]
  have ec : sc (ldA A R) = sc A := by funext x; unfold sc; rw [e 60 (by decide)]
  have eo : so (ldA A R) = so A := by funext x y; unfold so; rw [e 61 (by decide)]
  have eq : sq (ldA A R) = sq A := by funext x y; unfold sq; rw [e 64 (by decide)]
  obtain ⟨w1, w2, w3, w4, w5, w6, w7, w8⟩ := hA
  unfold WF
  rw [eP, eF, eE, ec, eo, eq, e 55 (by decide), e 60 (by decide), e 61 (by decide), e 64 (by decide), e 54 (by decide), tot_same 8 (fun x _ => by unfold cnE; rw [eE])]
  refine ⟨w1, fun m hm => ?_, fun m hm hl => ?_, w4, fun m hm n hn => ?_, w6, w7, w8⟩
  · rw [ldA_L hm]
    unfold ldA
    rw [if_pos ⟨rfl, hm⟩]
  · rw [ldA_L hm, Bool.or_eq_true] at hl
    rcases hl with h | h
    · exact w3 m hm h
    · exact hR m hm h
  · rw [ldA_L hm]
    rcases w5 m hm n hn with h | ⟨h1, h2⟩
    · exact .inl h
    · exact .inr ⟨h1, by rw [h2]; rfl⟩
theorem RC_ld {g A : Mem} (hC : RC g A) {R : Nat → Bool} {r : Int32} (hr : sm8 r) (hb : ∀ x, x < 8 → bt r x = R x) : RC (mup g 0 2 ((g 0 2) ||| (r &&& ((g 0 2) ^^^ (-1))))) (ldA A R) := by
  have e := fun k => ldA_k (A := A) (R := R) (k := k)
  have eP : sP (ldA A R) = sP A := by funext x; unfold sP; rw [e 55 (by decide)]
  have eF : sF (ldA A R) = sF A := by funext x y; unfold sF; rw [e 58 (by decide)]
  have eE : sE (ldA A R) = sE A := by funext x y; unfold sE; rw [e 59 (by decide)]
  have ec : sc (ldA A R) = sc A := by funext x; unfold sc; rw [e 60 (by decide)]
  have eo : so (ldA A R) = so A := by funext x y; unfold so; rw [e 61 (by decide)]
  have ei : si (ldA A R) = si A := by funext x y; unfold si; rw [e 62 (by decide)]
  have ee : se (ldA A R) = se A := by funext x y; unfold se; rw [e 63 (by decide)]
  have eq : sq (ldA A R) = sq A := by funext x y; unfold sq; rw [e 64 (by decide)]
  have ed : sdp (ldA A R) = sdp A := by funext x y; unfold sdp; rw [ec, eo]
  have er : srq (ldA A R) = srq A := by funext x y; unfold srq; rw [ec, eo, eq]
  obtain ⟨h1, h2, h3, h4, h5⟩ := hC
  unfold RC
  rw [mup_ni (show (1 : Nat) ≠ 2 by decide), mup_eq, eP]
  refine ⟨h1, h2, sm8_or h3 (sm8_and hr), fun m hm => ?_, fun m hm => ?_⟩
  · rw [bt_or, bt_and, bt_not _ (by omega), h4 m hm, hb m hm, ldA_L hm]
    cases sL A m <;> cases R m <;> rfl
  · have := (h5 m hm).h (h' := mup g 0 2 ((g 0 2) ||| (r &&& ((g 0 2) ^^^ (-1))))) (fun d hd => axR (by unfold kM; omega))
    unfold RCm at this ⊢
    rw [eF, eE, ec, eo, ei, ee, ed, er]
    exact this
theorem st_load {g A : Mem} (hA : WF A) (hC : RC g A) (hR : RR g A) (x : Int32) : StT (m_L_load g x) (fun g1 => m_X3_load g1 x) := by
  by_cases hx : 0 ≤ x ∧ x < 8
  · obtain ⟨m, hm, rfl⟩ := ex_mod hx
    obtain ⟨al, a1, a2, a3⟩ := c_ldb hC
    obtain ⟨s', b1, b2, b3⟩ := c_rch hC hm al
    have c1 : m_X2_load g (nI m) = if bt al m then some (mup g 0 2 ((g 0 2) ||| (s' &&& ((g 0 2) ^^^ (-1)))), 0, m_J6_bitCount_0f7a4 (s' &&& ((g 0 2) ^^^ (-1)))) else some (g, 3, 0) := by
      unfold m_X2_load
      rw [c_mod, decide_eq_true hx, if_neg (by decide), a1, Option.bind_some, isIn_nI _ (by omega), bI_if, b1, Option.bind_some]
    have r1 : ∀ h, RR h A → ∃ h' S, Fq 57 58 h h' ∧ bA h' 57 8 S ∧ isG A S ∧ m_X3_load h (nI m) = if S m then m_X3_load_40 (nI m) 200 (mup h' 54 0 0) 0 else some (mup h' 54 0 2, 0) := by
      intro h hR
      obtain ⟨h', S, j1, j2, j3, j4⟩ := r_jdg hA hR
      refine ⟨h', S, j2, j3, j4, ?_⟩
      unfold m_X3_load
      rw [j1, Option.bind_some, if_neg (r_mod hx), gi_nI hm (by decide), zI_nat (by omega), j3 m hm, bI_if, thr0, thr2, Option.bind_some, Option.bind_some, if_pos (show (mup h' 54 0 0, (0 : Int32)).2 = 0 from rfl), if_neg (show ¬ (mup h' 54 0 2, (1 : Int32)).2 = 0 from (by decide : ¬ (1 : Int32) = 0))]
    cases ea : bt al m with
    | false =>
      obtain ⟨h', S, j1, j2, j3, j4⟩ := r1 g hR
      rw [isG.uniq j3 a3 m hm, ea, if_neg (by decide)] at j4
      unfold m_L_load
      rw [c1, ea, if_neg (by decide)]
      exact ⟨g, 2, mup h' 54 0 2, 0, A, rfl, j4, mup_eq _ _ _ _, fun h => absurd h (by decide), hA, hC.rf ((j1.mono (by decide) (by decide)).up (by decide) (by decide)), (hR.fd57 j1).f54⟩
    | true =>
      obtain ⟨g1, e1⟩ : ∃ z, z = mup (mup g 0 2 ((g 0 2) ||| (s' &&& ((g 0 2) ^^^ (-1))))) 71 0 (m_J6_bitCount_0f7a4 (s' &&& ((g 0 2) ^^^ (-1)))) := ⟨_, rfl⟩
      have hR1 : RR g1 A := by
        rw [e1]
        exact (hR.fd (Fq.up1 (by decide) (by decide))).f71
      obtain ⟨h', S, j1, j2, j3, j4⟩ := r1 g1 hR1
      have hS : S m = true := by rw [isG.uniq j3 a3 m hm, ea]
      rw [hS, if_pos rfl] at j4
      have hR2 : RR (mup h' 54 0 0) A := (hR1.fd57 j1).f54
      obtain ⟨h2, R, k1, k2, k3, k4, k5⟩ := r_cm_cp hA (S := S) hm 200 0 (mup h' 54 0 0) (by decide) (by decide) hR2 (fun x hx => by rw [mup_nk (by decide)]; exact j2 x hx) (fun x hx => by omega)
      have eR : ∀ x, x < 8 → bt s' x = R x := isC.uniq (fun x hx => (isG.uniq j3 a3 x hx).symm) b3 k3
      have hcnt : m_J6_bitCount_0f7a4 (s' &&& ((g 0 2) ^^^ (-1))) = nI (cnt (fun x => R x && !sL A x) 8) := by
        rw [bitCount_sm (sm8_and b2)]
        congr 1
        exact cnt_congr (fun k hk => by rw [bt_and, bt_not _ (by omega), hC.2.2.2.1 k hk, eR k hk])
      have f2 : Fq 54 71 g1 h2 := fun k hk => by
        rw [k2 k (by omega) (by omega), axR (by omega), j1 k (by omega)]
      unfold m_L_load
      rw [c1, ea, if_pos rfl]
      refine ⟨g1, 0, h2, nI (cnt (fun x => R x && !sL A x) 8), ldA A R, by rw [e1]; rfl, ?_, ?_, fun _ => ?_, WF_ld hA (isC_P hm j3 k3 hS), ?_, ?_⟩
      · show m_X3_load g1 (nI m) = _
        rw [j4]
        exact k1
      · rw [k2 54 (by decide) (by decide), mup_eq]
      · rw [f2 71 (.inr (Nat.le_refl _)), e1, mup_eq, hcnt]
      · refine RC.rf ?_ f2
        rw [e1]
        exact (RC_ld hC b2 eR).f71
      · obtain ⟨r1, r2, r3, r4, r5, r6, r7, r8, r9, r10⟩ := hR2
        unfold RR
        rw [k2 55 (by decide) (by decide), k2 58 (by decide) (by decide), k2 59 (by decide) (by decide), k2 60 (by decide) (by decide), k2 61 (by decide) (by decide), k2 62 (by decide) (by decide), k2 63 (by decide) (by decide), k2 64 (by decide) (by decide), k2 54 (by decide) (by decide), ldA_k (k := 55) (by decide), ldA_k (k := 58) (by decide), ldA_k (k := 59) (by decide), ldA_k (k := 60) (by decide), ldA_k (k := 61) (by decide), ldA_k (k := 62) (by decide), ldA_k (k := 63) (by decide), ldA_k (k := 64) (by decide), ldA_k (k := 54) (by decide)]
        refine ⟨r1, ?_, r3, r4, r5, r6, r7, r8, r9, r10⟩
        funext i
        unfold ldA
        by_cases hi : i < 8
        · rw [if_pos ⟨rfl, hi⟩, k4 i hi]
        · rw [if_neg (fun hc => hi hc.2), k5 i (by omega), r2]
  · obtain ⟨h', S, j1, j2, j3, j4⟩ := r_jdg hA hR
    unfold m_L_load m_X2_load
    rw [c_mod, decide_eq_false hx, if_pos (by decide)]
    refine ⟨g, 1, mup h' 54 0 1, 0, A, rfl, ?_, mup_eq _ _ _ _, fun h => absurd h (by decide), hA, hC.rf ((j2.mono (by decide) (by decide)).up (by decide) (by decide)), (hR.fd57 j2).f54⟩
    show m_X3_load g x = _
    unfold m_X3_load
    rw [j1, Option.bind_some, if_pos (r_mod_no hx), thr1, Option.bind_some, if_neg (show ¬ (mup h' 54 0 1, (1 : Int32)).2 = 0 from (by decide : ¬ (1 : Int32) = 0))]
/-! state -/
theorem st_state {g A : Mem} (hA : WF A) (hC : RC g A) (hR : RR g A) (x : Int32) : ∃ k g2 A', m_X2_state g x = some k ∧ m_X3_state g x = some (g2, k) ∧ WF A' ∧ RC g2 A' ∧ RR g2 A' := by
  by_cases hx : 0 ≤ x ∧ x < 8
  · obtain ⟨m, hm, rfl⟩ := ex_mod hx
    obtain ⟨al, a1, a2, a3⟩ := c_ldb hC
    obtain ⟨h', S, j1, j2, j3, j4⟩ := r_jdg hA (hR.f54 (v := 0))
    have hR' : RR h' A := (hR.f54 (v := 0)).fd57 j2
    have c1 : m_X2_state g (nI m) = some (if sP A m then (if sL A m then 3 else if bt al m then 2 else 1) else 0) := by
      unfold m_X2_state
      rw [c_mod, decide_eq_true hx, if_neg (by decide), c_isP hC, decide_eq_true hx, zI_nat (by omega), Bool.true_and, Option.bind_some, bI_if, c_isLn hC hm, Option.bind_some, bI_if, a1, Option.bind_some, isIn_nI _ (by omega), bI_if]
      cases sP A m <;> cases sL A m <;> cases bt al m <;> rfl
    have r1 : m_X3_state g (nI m) = some (h', if sL A m then 3 else if S m then 2 else if sP A m then 1 else 0) := by
      unfold m_X3_state
      rw [if_neg (r_mod hx), j1, Option.bind_some, gi_nI hm (by decide), gi_nI hm (by decide), gi_nI hm (by decide), zI_nat (by omega), hR'.2.1, hA.2.1 m hm, bI_if, j3 m hm, bI_if, hR'.1, hA.1 m hm, bI_if]
      cases sP A m <;> cases sL A m <;> cases S m <;> rfl
    refine ⟨_, h', A, c1, ?_, hA, hC.rf ((Fq.up1 (by decide) (by decide) : Fq 54 71 g (mup g 54 0 0)).trans (j2.mono (by decide) (by decide))), hR'⟩
    rw [r1, isG.uniq j4 a3 m hm]
    have h1 := hA.2.2.1 m hm
    have h2 : bt al m = true → sP A m = true := fun h => (a3.1 m hm h).1
    cases e1 : sP A m <;> cases e2 : sL A m <;> cases e3 : bt al m <;> simp_all
  · refine ⟨-1, mup g 54 0 0, A, ?_, ?_, hA, hC.rf f54, hR.f54⟩
    · unfold m_X2_state
      rw [c_mod, decide_eq_false hx, if_pos (by decide)]
    · unfold m_X3_state
      rw [if_pos (r_mod_no hx)]
