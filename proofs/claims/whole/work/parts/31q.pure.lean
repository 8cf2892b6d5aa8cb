/-! PURE: unload -/
def hld (A : Mem) (m k : Nat) : Bool := decide (k ≠ m) && (sL A k && (srq A k m || (List.range' 0 24).any (fun j => decide (sE A k j = nI m))))
theorem c_held_loop {h A : Mem} (H : RC h A) {m : Nat} (hm : m < 8) : ∀ n k r, r < n → k + r = 8 → m_X2_isHeldByAnother_2 h (nI m) n (nI k) = some (bI ((List.range' k r).any (hld A m))) := by
  intro n
  induction n with
  | zero => intro k r h1; omega
  | succ n ih =>
    intro k r h1 h2
    rw [m_X2_isHeldByAnother_2]
    cases r with
    | zero =>
      rw [if_pos (lp_yes (n := 8) (by omega) (by omega))]
      rfl
    | succ r =>
      have hk : k < 8 := by omega
      have e7 := (H.2.2.2.2 k hk).2.2.2.2.2.2.2 m hm
      rw [if_neg (lp_no (n := 8) (by omega) (by decide)), zI_one, ih (k + 1) r (by omega) (by omega), any_succ]
      unfold hld
      by_cases e : k = m
      · rw [if_pos (by rw [e])]
        simp [e]
      · rw [if_neg (fun hc => e (zI_inj (by omega) (by omega) hc)), c_isLn H hk, Option.bind_some, bI_if, gi_nI hk (by decide), gi_nI hk (by decide), zI_nat (by omega), isIn_nI _ (by omega), e7, bI_if, c_below H hk, Option.bind_some, bI_if, decide_eq_true e]
        cases sL A k with
        | false => rfl
        | true =>
          rw [if_pos rfl]
          cases srq A k m with
          | true => rfl
          | false =>
            rw [if_neg (by decide)]
            cases (List.range' 0 24).any (fun j => decide (sE A k j = nI m)) <;> rfl
theorem c_held {h A : Mem} (H : RC h A) {m : Nat} (hm : m < 8) : m_X2_isHeldByAnother h (nI m) = some (bI ((List.range' 0 8).any (hld A m))) := c_held_loop H hm 200 0 8 (by decide) rfl
def nd4 (A : Mem) (m k : Nat) : Bool := decide (k / 6 ≠ m) && (sL A (k / 6) && (decide (k % 6 < sc A (k / 6)) && (sq A (k / 6) (k % 6) && decide (so A (k / 6) (k % 6) = m))))
def nd8 (A : Mem) (m k : Nat) : Bool := decide (k / 24 ≠ m) && decide (A 59 k = nI m)
theorem r_nd8_loop {h A : Mem} (hR : RR h A) {m : Nat} (hm : m < 8) : ∀ n k r b, r < n → k + r = 192 → m_X3_isNeeded_83 h (nI m) n (bI b) (nI k) = some (bI (b || (List.range' k r).any (nd8 A m))) := by
  intro n
  induction n with
  | zero => intro k r b h1; omega
  | succ n ih =>
    intro k r b h1 h2
    rw [m_X3_isNeeded_83]
    cases r with
    | zero =>
      rw [if_pos (lp_yes (n := 192) (by omega) (by omega)), gz_bI]
      simp
    | succ r =>
      rw [if_neg (lp_no (n := 192) (by omega) (by decide)), bI_if, zI_one, any_succ, show (1 : Int32) = bI true from rfl, show (0 : Int32) = bI false from rfl, ih (k + 1) r true (by omega) (by omega), ih (k + 1) r false (by omega) (by omega), gi_nI (by omega) (by decide), zI_nat (by omega), hR.2.2.2.1, dv24 k (by omega)]
      unfold nd8
      cases b with
      | true => simp
      | false =>
        rw [if_neg (by decide)]
        by_cases e : k / 24 = m
        · rw [if_pos (by rw [e])]
          simp [e]
        · rw [if_neg (fun hc => e (zI_inj (by omega) (by omega) hc)), decide_eq_true e]
          by_cases e2 : A 59 k = nI m
          · rw [if_pos e2, decide_eq_true e2]
            simp
          · rw [if_neg e2, decide_eq_false e2]
            simp
theorem r_nd4_loop {h A : Mem} (hA : WF A) (hR : RR h A) {m : Nat} (hm : m < 8) : ∀ n k r b, r < n → k + r = 48 → m_X3_isNeeded_4 h (nI m) n (bI b) (nI k) = some (bI ((b || (List.range' k r).any (nd4 A m)) || (List.range' 0 192).any (nd8 A m))) := by
  intro n
  induction n with
  | zero => intro k r b h1; omega
  | succ n ih =>
    intro k r b h1 h2
    rw [m_X3_isNeeded_4]
    cases r with
    | zero =>
      rw [if_pos (lp_yes (n := 48) (by omega) (by omega)), show (0 : Int32) = nI 0 from rfl, r_nd8_loop hR hm 200 0 192 b (by decide) rfl]
      simp
    | succ r =>
      have hk : k < 48 := by omega
      have hk6 : k / 6 < 8 := by omega
      obtain ⟨c6, cA⟩ := hA.2.2.2.2.2.1 (k / 6) hk6
      rw [if_neg (lp_no (n := 48) (by omega) (by decide)), bI_if, zI_one, any_succ, show (1 : Int32) = bI true from rfl, show (0 : Int32) = bI false from rfl, ih (k + 1) r true (by omega) (by omega), ih (k + 1) r false (by omega) (by omega), md6 k hk, dv6 k hk, gi_nI hk6 (by decide), gi_nI hk6 (by decide), gi_nI hk (by decide), gi_nI hk (by decide), zI_nat (by omega), zI_nat (by omega), hR.2.1, hA.2.1 _ hk6, show bI false = 0 from rfl, bI_if, hR.2.2.2.2.1, cA, hR.2.2.2.2.2.2.2.2.1, hR.2.2.2.2.2.1]
      cases b with
      | true => simp
      | false =>
        rw [if_neg (by decide)]
        by_cases e : k / 6 = m
        · have en : nd4 A m k = false := by
            unfold nd4
            rw [decide_eq_false (fun h => h e)]
            rfl
          rw [if_pos (by rw [e]), en, Bool.false_or, Bool.false_or]
        · rw [if_neg (fun hc => e (zI_inj (by omega) (by omega) hc))]
          cases eL : sL A (k / 6) with
          | false =>
            have en : nd4 A m k = false := by
              unfold nd4
              rw [eL, Bool.false_and, Bool.and_false]
            rw [if_neg (by decide), en, Bool.false_or, Bool.false_or]
          | true =>
            rw [if_pos rfl]
            by_cases hj : sc A (k / 6) ≤ k % 6
            · have en : nd4 A m k = false := by
                unfold nd4
                rw [decide_eq_false (show ¬ k % 6 < sc A (k / 6) by omega), Bool.false_and, Bool.and_false, Bool.and_false]
              rw [if_pos ((zI_le (by omega) (by omega)).mpr hj), en, Bool.false_or, Bool.false_or]
            · obtain ⟨v1, v2, v3⟩ := hA.2.2.2.2.2.2.1 (k / 6) hk6 (k % 6) (by omega)
              rw [k6] at v2 v3
              rw [if_neg (fun hc => hj ((zI_le (by omega) (by omega)).mp hc)), v3, bI_if, v2]
              cases eq : sq A (k / 6) (k % 6) with
              | false =>
                have en : nd4 A m k = false := by
                  unfold nd4
                  rw [eq, Bool.false_and, Bool.and_false, Bool.and_false, Bool.and_false]
                rw [if_neg (by decide), en, Bool.false_or, Bool.false_or]
              | true =>
                rw [if_pos rfl]
                by_cases e2 : so A (k / 6) (k % 6) = m
                · have en : nd4 A m k = true := by
                    unfold nd4
                    rw [decide_eq_true e, eL, decide_eq_true (show k % 6 < sc A (k / 6) by omega), eq, decide_eq_true e2]
                    rfl
                  rw [if_pos (by rw [e2]), en]
                  simp
                · have en : nd4 A m k = false := by
                    unfold nd4
                    rw [decide_eq_false e2, Bool.and_false, Bool.and_false, Bool.and_false, Bool.and_false]
                  rw [if_neg (fun hc => e2 (zI_inj (by omega) (by omega) hc)), en, Bool.false_or, Bool.false_or]
theorem r_need {h A : Mem} (hA : WF A) (hR : RR h A) {m : Nat} (hm : m < 8) : m_X3_isNeeded h (nI m) = some (bI ((List.range' 0 8).any (hld A m))) := by
  have e := r_nd4_loop hA hR hm 200 0 48 false (by decide) rfl
  unfold m_X3_isNeeded
  rw [show m_X3_isNeeded_4 h (nI m) 200 0 0 = _ from e]
  congr 2
  apply bool_iff
  simp only [Bool.false_or, Bool.or_eq_true, List.any_eq_true, List.mem_range']
  constructor
  · rintro (⟨k, ⟨z, hz, hk⟩, h⟩ | ⟨k, ⟨z, hz, hk⟩, h⟩)
    · unfold nd4 at h
      simp only [Bool.and_eq_true, decide_eq_true_eq] at h
      obtain ⟨h1, h2, h3, h4, h5⟩ := h
      refine ⟨k / 6, ⟨k / 6, by omega, by omega⟩, ?_⟩
      unfold hld
      simp only [Bool.and_eq_true, decide_eq_true_eq, Bool.or_eq_true]
      exact ⟨h1, h2, .inl (srq_iff.mpr ⟨k % 6, h3, h4, h5, fun e => h1 e.symm⟩)⟩
    · unfold nd8 at h
      simp only [Bool.and_eq_true, decide_eq_true_eq] at h
      obtain ⟨h1, h2⟩ := h
      have e3 : sE A (k / 24) (k % 24) = nI m := by
        unfold sE
        rw [show 24 * (k / 24) + k % 24 = k by omega]
        exact h2
      refine ⟨k / 24, ⟨k / 24, by omega, by omega⟩, ?_⟩
      unfold hld
      simp only [Bool.and_eq_true, decide_eq_true_eq, Bool.or_eq_true, List.any_eq_true, List.mem_range']
      refine ⟨h1, ?_, .inr ⟨k % 24, ⟨k % 24, by omega, by omega⟩, e3⟩⟩
      rcases hA.2.2.2.2.1 (k / 24) (by omega) (k % 24) (by omega) with h | h
      · rw [e3] at h
        exact absurd h (neg1_ne (by omega))
      · exact h.2
  · rintro ⟨k, ⟨z, hz, hk⟩, h⟩
    unfold hld at h
    simp only [Bool.and_eq_true, decide_eq_true_eq, Bool.or_eq_true, List.any_eq_true, List.mem_range'] at h
    obtain ⟨h1, h2, h3⟩ := h
    have hk8 : k < 8 := by omega
    rcases h3 with h3 | ⟨j, ⟨y, hy, hj⟩, h3⟩
    · obtain ⟨j, j1, j2, j3, j4⟩ := srq_iff.mp h3
      have c6 := (hA.2.2.2.2.2.1 k hk8).1
      have e1 : (6 * k + j) / 6 = k := by omega
      have e2 : (6 * k + j) % 6 = j := by omega
      refine .inl ⟨6 * k + j, ⟨6 * k + j, by omega, by omega⟩, ?_⟩
      unfold nd4
      rw [e1, e2]
      simp only [Bool.and_eq_true, decide_eq_true_eq]
      exact ⟨h1, h2, j1, j2, j3⟩
    · have e1 : (24 * k + j) / 24 = k := by omega
      refine .inr ⟨24 * k + j, ⟨24 * k + j, by omega, by omega⟩, ?_⟩
      unfold nd8
      rw [e1]
      simp only [Bool.and_eq_true, decide_eq_true_eq]
      exact ⟨h1, h3⟩
def unA (A : Mem) (m : Nat) : Mem := mup (mup (fl A 59 (24 * m) (24 * m + 24) (-1)) 54 11 (A 54 11 - nI (cnE A m))) 56 m (bI false)
theorem unA_k {A : Mem} {m k : Nat} (h1 : k ≠ 59) (h2 : k ≠ 54) (h3 : k ≠ 56) : unA A m k = A k := by
  unfold unA
  rw [axR h3, axR h2, fl_nk h1]
theorem unA_L {A : Mem} {m x : Nat} : sL (unA A m) x = if x = m then false else sL A x := by
  unfold unA sL
  by_cases h : x = m
  · subst h
    rw [mup_eq, if_pos rfl]
    rfl
  · rw [mup_ni h, if_neg h, mup_nk (by decide), fl_nk (by decide)]
theorem unA_E {A : Mem} {m x n : Nat} (hn : n < 24) : sE (unA A m) x n = if x = m then -1 else sE A x n := by
  unfold unA sE
  rw [mup_nk (by decide), mup_nk (by decide)]
  by_cases h : x = m
  · subst h
    rw [fl_in (by omega) (by omega), if_pos rfl]
  · rw [fl_out (by omega), if_neg h]
theorem cnt_none {f : Nat → Bool} : ∀ {n : Nat}, (∀ k, k < n → f k = false) → cnt f n = 0
  | 0, _ => rfl
  | n + 1, h => by rw [cnt, cnt_none (fun k hk => h k (by omega)), h n (by omega)]; rfl
theorem tot_un {A B : Mem} {m : Nat} (h1 : cnE B m = 0) (h2 : ∀ x, x ≠ m → cnE B x = cnE A x) : ∀ M, tot A M = tot B M + (if m < M then cnE A m else 0)
  | 0 => rfl
  | M + 1 => by
    rw [tot, tot, tot_un h1 h2 M]
    by_cases h : M = m
    · subst h
      rw [h1, if_neg (by omega), if_pos (by omega)]
    · rw [h2 M h]
      by_cases h3 : m < M
      · rw [if_pos h3, if_pos (by omega)]
        omega
      · rw [if_neg h3, if_neg (by omega)]
        omega
theorem zI_sub (a b : Nat) : nI (a + b) - nI b = nI a := by
  rw [← nI_add, Int32.add_sub_cancel]
theorem WF_un {A : Mem} (hA : WF A) {m : Nat} (hm : m < 8) : WF (unA A m) := by
  have e := fun k => unA_k (A := A) (m := m) (k := k)
  have eP : sP (unA A m) = sP A := by funext x; unfold sP; rw [e 55 (by decide) (by decide) (by decide)]
  have eF : sF (unA A m) = sF A := by funext x y; unfold sF; rw [e 58 (by decide) (by decide) (by decide)]
  have ec : sc (unA A m) = sc A := by funext x; unfold sc; rw [e 60 (by decide) (by decide) (by decide)]
  have eo : so (unA A m) = so A := by funext x y; unfold so; rw [e 61 (by decide) (by decide) (by decide)]
  have eq : sq (unA A m) = sq A := by funext x y; unfold sq; rw [e 64 (by decide) (by decide) (by decide)]
  obtain ⟨w1, w2, w3, w4, w5, w6, w7, w8⟩ := hA
  unfold WF
  rw [eP, eF, ec, eo, eq, e 55 (by decide) (by decide) (by decide), e 60 (by decide) (by decide) (by decide), e 61 (by decide) (by decide) (by decide), e 64 (by decide) (by decide) (by decide)]
  refine ⟨w1, fun x hx => ?_, fun x hx hl => ?_, w4, fun x hx n hn => ?_, w6, w7, ?_⟩
  · rw [unA_L]
    unfold unA
    by_cases h : x = m
    · rw [h, mup_eq, if_pos rfl]
    · rw [mup_ni h, if_neg h, mup_nk (by decide), fl_nk (by decide)]
      exact w2 x hx
  · rw [unA_L] at hl
    by_cases h : x = m
    · rw [if_pos h] at hl
      cases hl
    · rw [if_neg h] at hl
      exact w3 x hx hl
  · rw [unA_E hn, unA_L]
    by_cases h : x = m
    · rw [if_pos h]
      exact .inl rfl
    · rw [if_neg h, if_neg h]
      exact w5 x hx n hn
  · have h1 : cnE (unA A m) m = 0 := cnt_none (fun k hk => by
      rw [unA_E hk, if_pos rfl]
      decide)
    have h2 : ∀ x, x ≠ m → cnE (unA A m) x = cnE A x := fun x hx => cnt_eq (fun k hk => by rw [unA_E hk, if_neg hx])
    have h3 := tot_un h1 h2 8
    rw [if_pos hm] at h3
    show mup (mup (fl A 59 (24 * m) (24 * m + 24) (-1)) 54 11 (A 54 11 - nI (cnE A m))) 56 m (bI false) 54 11 = _
    rw [mup_nk (by decide), mup_eq, w8, h3, zI_sub]
theorem RC_un {g A : Mem} (hA : WF A) (hC : RC g A) {m : Nat} (hm : m < 8) : RC (mup (fl g (kM m + 2) 0 24 (-1)) 0 2 ((fl g (kM m + 2) 0 24 (-1) 0 2) &&& ((m_X2_bit (nI m)) ^^^ (-1)))) (unA A m) := by
  have e := fun k => unA_k (A := A) (m := m) (k := k)
  have eP : sP (unA A m) = sP A := by funext x; unfold sP; rw [e 55 (by decide) (by decide) (by decide)]
  have eF : sF (unA A m) = sF A := by funext x y; unfold sF; rw [e 58 (by decide) (by decide) (by decide)]
  have ec : sc (unA A m) = sc A := by funext x; unfold sc; rw [e 60 (by decide) (by decide) (by decide)]
  have eo : so (unA A m) = so A := by funext x y; unfold so; rw [e 61 (by decide) (by decide) (by decide)]
  have ei : si (unA A m) = si A := by funext x y; unfold si; rw [e 62 (by decide) (by decide) (by decide)]
  have ee : se (unA A m) = se A := by funext x y; unfold se; rw [e 63 (by decide) (by decide) (by decide)]
  have eq : sq (unA A m) = sq A := by funext x y; unfold sq; rw [e 64 (by decide) (by decide) (by decide)]
  have ed : sdp (unA A m) = sdp A := by funext x y; unfold sdp; rw [ec, eo]
  have er : srq (unA A m) = srq A := by funext x y; unfold srq; rw [ec, eo, eq]
  obtain ⟨h1, h2, h3, h4, h5⟩ := hC
  obtain ⟨g1, e1⟩ : ∃ z, z = fl g (kM m + 2) 0 24 (-1) := ⟨_, rfl⟩
  rw [← e1]
  have e0 : g1 0 = g 0 := by rw [e1, fl_nk (by omega)]
  unfold RC
  rw [mup_ni (show (1 : Nat) ≠ 2 by decide), mup_eq, e0, eP]
  refine ⟨h1, h2, sm8_and h3, fun x hx => ?_, fun x hx => ?_⟩
  · rw [bt_and, bt_not _ (by omega), h4 x hx, bt_bit (by omega) (by omega), unA_L]
    by_cases h : x = m
    · subst h
      rw [if_pos rfl]
      simp
    · have : ¬ m = x := fun e => h e.symm
      rw [if_neg h]
      simp [this]
  · have ek : ∀ d, d < 6 → mup g1 0 2 (g 0 2 &&& (m_X2_bit (nI m) ^^^ (-1))) (kM x + d) = g1 (kM x + d) := fun d hd => axR (by unfold kM; omega)
    by_cases h : x = m
    · subst h
      obtain ⟨q1, q2, q3, q4, q5, q6, q7, q8⟩ := h5 x hx
      have k2 : ∀ d, d ≠ 2 → g1 (kM x + d) = g (kM x + d) := fun d hd => by rw [e1, fl_nk (by omega)]
      unfold RCm
      rw [show mup g1 0 2 (g 0 2 &&& (m_X2_bit (nI x) ^^^ (-1))) (kM x) = g1 (kM x) from ek 0 (by omega), ek 1 (by omega), ek 2 (by omega), ek 3 (by omega), ek 4 (by omega), ek 5 (by omega), show g1 (kM x) = g (kM x) from k2 0 (by omega), k2 1 (by omega), k2 3 (by omega), k2 4 (by omega), k2 5 (by omega), eF, ec, eo, ei, ee, ed, er]
      refine ⟨q1, fun n hn => ?_, q3, q4, q5, q6, q7, q8⟩
      rw [unA_E hn, if_pos rfl, e1, fl_in (by omega) hn]
    · have hc6 := (hA.2.2.2.2.2.1 x hx).1
      exact (h5 x hx).keep hc6 (fun d hd => by rw [ek d hd, e1, fl_nk (by unfold kM; omega)]) (fun n' hn' => by rw [eF]) (fun n' hn' => by rw [unA_E hn', if_neg h]) (by rw [ec]) (fun j hj => by rw [eo]) (fun j hj => by rw [ei]) (fun j hj => by rw [ee]) (fun j hj => by rw [eq])
theorem r_un_loop {A : Mem} (hA : WF A) {m : Nat} (hm : m < 8) : ∀ n k (h : Mem), k ≤ 24 → 24 - k < n → (∀ i, k ≤ i → i < 24 → h 59 (24 * m + i) = sE A m i) → m_X3_unload_41 (nI m) n h (nI (cnt (fun n => decide (sE A m n ≠ -1)) k)) (nI (24 * m + k)) = some (mup (mup (fl h 59 (24 * m + k) (24 * m + 24) (-1)) 54 11 (h 54 11 - nI (cnE A m))) 56 m (bI false), nI (cnE A m)) := by
  intro n
  induction n with
  | zero => intro k h h1 h2; omega
  | succ n ih =>
    intro k h h1 h2 hE
    rw [m_X3_unload_41, show (24 : Int32) * nI m + 24 = nI (24 * m + 24) from x24 m 24]
    by_cases hk : k = 24
    · subst hk
      rw [if_pos ((zI_le (by omega) (by omega)).mpr (Nat.le_refl _)), gi_nI hm (by decide), zI_nat (by omega), fl_end, nar_0]
      rfl
    · have e := ih (k + 1) (mup h 59 (24 * m + k) (-1)) (by omega) (by omega) (fun i a b => by rw [mup_ni (by omega)]; exact hE i (by omega) b)
      rw [mup_nk (show (54 : Nat) ≠ 59 by decide), ← Nat.add_assoc, fl_step (by omega), cnt] at e
      rw [if_neg (fun hc => by have := (zI_le (by omega) (by omega)).mp hc; omega), gi_nI (by omega) (by decide), zI_nat (by omega), hE k (Nat.le_refl _) (by omega)]
      unfold m_X3_unload_68
      rw [gi_nI (by omega) (by decide), gi_nI (by omega) (by decide), zI_nat (by omega), zI_one, zI_one]
      rcases hA.2.2.2.2.1 m hm k (by omega) with h0 | ⟨⟨z, hz, h0⟩, -⟩
      · rw [if_pos (by rw [h0]; decide)]
        rw [decide_eq_false (fun hc => hc h0)] at e
        exact e
      · rw [if_neg (by rw [h0]; exact zI_pos (by omega))]
        rw [decide_eq_true (show sE A m k ≠ -1 by rw [h0]; exact neg1_ne (by omega))] at e
        exact e
theorem st_unload {g A : Mem} (hA : WF A) (hC : RC g A) (hR : RR g A) (x : Int32) : StT (m_L_unload g x) (fun g1 => m_X3_unload g1 x) := by
  have u1 : ∀ h, m_X3_unload_26 x h 1 = some (mup h 54 0 1, 0) := fun h => by
    unfold m_X3_unload_26
    rw [thr1, Option.bind_some, if_neg (show ¬ (mup h 54 0 1, (1 : Int32)).2 = 0 from (by decide : ¬ (1 : Int32) = 0))]
  have u2 : ∀ h, m_X3_unload_26 x h 2 = some (mup h 54 0 2, 0) := fun h => by
    unfold m_X3_unload_26
    rw [thr2, Option.bind_some, if_neg (show ¬ (mup h 54 0 2, (1 : Int32)).2 = 0 from (by decide : ¬ (1 : Int32) = 0))]
  have bad : m_X2_unload g x = some (g, 1, 0) → m_X3_unload g x = m_X3_unload_26 x g 1 → StT (m_L_unload g x) (fun g1 => m_X3_unload g1 x) := by
    intro e1 e2
    unfold m_L_unload
    rw [e1]
    refine ⟨g, 1, mup g 54 0 1, 0, A, rfl, ?_, mup_eq _ _ _ _, fun h => absurd h (by decide), hA, hC.rf f54, hR.f54⟩
    show m_X3_unload g x = _
    rw [e2, u1]
  by_cases hx : 0 ≤ x ∧ x < 8
  · obtain ⟨m, hm, rfl⟩ := ex_mod hx
    have rL : ∀ h, RR h A → m_X3_isLoaded h (nI m) = some (bI (sL A m)) := fun h hR => by
      rw [r_isL hR, decide_eq_true hx, zI_nat (by omega)]
      rfl
    cases eL : sL A m with
    | false =>
      apply bad
      · unfold m_X2_unload
        rw [c_isLn hC hm, eL, Option.bind_some, if_pos (show bI false = 0 from rfl)]
      · unfold m_X3_unload
        rw [rL g hR, eL, Option.bind_some, if_pos (show bI false = 0 from rfl)]
    | true =>
      cases eh : (List.range' 0 8).any (hld A m) with
      | true =>
        have c1 : m_X2_unload g (nI m) = some (g, 2, 0) := by
          unfold m_X2_unload
          rw [c_isLn hC hm, eL, Option.bind_some, if_neg (by decide), c_held hC hm, eh, Option.bind_some, if_neg (by decide)]
        unfold m_L_unload
        rw [c1]
        refine ⟨g, 2, mup g 54 0 2, 0, A, rfl, ?_, mup_eq _ _ _ _, fun h => absurd h (by decide), hA, hC.rf f54, hR.f54⟩
        show m_X3_unload g (nI m) = _
        unfold m_X3_unload
        rw [rL g hR, eL, Option.bind_some, if_neg (by decide), r_need hA hR hm, eh, Option.bind_some, if_neg (by decide), u2]
      | false =>
        obtain ⟨g1, e1⟩ : ∃ z, z = mup (fl g (kM m + 2) 0 24 (-1)) 0 2 ((fl g (kM m + 2) 0 24 (-1) 0 2) &&& ((m_X2_bit (nI m)) ^^^ (-1))) := ⟨_, rfl⟩
        have c1 : m_X2_unload g (nI m) = some (g1, 0, nI (cnE A m)) := by
          unfold m_X2_unload
          rw [c_isLn hC hm, eL, Option.bind_some, if_neg (by decide), c_held hC hm, eh, Option.bind_some, if_pos (show bI false = 0 from rfl), gi_nI hm (by decide), zI_nat (by omega), c_cnt hC hm, Option.bind_some, gi_nI hm (by decide), c_drop, Option.bind_some, e1]
        have f1 : Fq 0 54 g g1 := fun k hk => by
          rw [e1, axR (by omega), fl_nk (by unfold kM; omega)]
        have hC1 : RC g1 (unA A m) := by rw [e1]; exact RC_un hA hC hm
        have hR1 : RR (mup g1 71 0 (nI (cnE A m))) A := (hR.fd f1).f71
        have hR2 := hR1.f54 (v := 0)
        obtain ⟨h2, e2⟩ : ∃ z, z = mup (mup g1 71 0 (nI (cnE A m))) 54 0 0 := ⟨_, rfl⟩
        rw [← e2] at hR2
        have r1 : m_X3_unload (mup g1 71 0 (nI (cnE A m))) (nI m) = some (mup (mup (fl h2 59 (24 * m) (24 * m + 24) (-1)) 54 11 (h2 54 11 - nI (cnE A m))) 56 m (bI false), nI (cnE A m)) := by
          unfold m_X3_unload
          rw [rL _ hR1, eL, Option.bind_some, if_neg (by decide), r_need hA hR1 hm, eh, Option.bind_some, if_pos (show bI false = 0 from rfl)]
          unfold m_X3_unload_26
          rw [thr0, Option.bind_some, if_pos (show (mup (mup g1 71 0 (nI (cnE A m))) 54 0 0, (0 : Int32)).2 = 0 from rfl), show (24 : Int32) * nI m = nI (24 * m + 0) by rw [← x24]; exact (Int32.add_zero _).symm]
          show m_X3_unload_41 (nI m) 200 (mup (mup g1 71 0 (nI (cnE A m))) 54 0 0) (nI (cnt (fun n => decide (sE A m n ≠ -1)) 0)) (nI (24 * m + 0)) = _
          rw [← e2, r_un_loop hA hm 200 0 h2 (by decide) (by decide) (fun i _ _ => by rw [hR2.2.2.2.1]; rfl)]
          rfl
        have f2 : Fq 54 71 (mup g1 71 0 (nI (cnE A m))) (mup (mup (fl h2 59 (24 * m) (24 * m + 24) (-1)) 54 11 (h2 54 11 - nI (cnE A m))) 56 m (bI false)) := fun k hk => by
          rw [axR (by omega), axR (by omega), fl_nk (by omega), e2, axR (by omega)]
        unfold m_L_unload
        rw [c1]
        refine ⟨mup g1 71 0 (nI (cnE A m)), 0, _, nI (cnE A m), unA A m, rfl, r1, ?_, fun _ => ?_, WF_un hA hm, (hC1.f71).rf f2, ?_⟩
        · rw [mup_nk (by decide), mup_ni (by decide), fl_nk (by decide), e2, mup_eq]
        · rw [f2 71 (.inr (Nat.le_refl _)), mup_eq]
        · have := hR2
          obtain ⟨r1, r2, r3, r4, r5, r6, r7, r8, r9, r10⟩ := hR2
          have hfl : RR (fl h2 59 (24 * m) (24 * m + 24) (-1)) (fl A 59 (24 * m) (24 * m + 24) (-1)) := by
            unfold RR
            rw [fl_nk (show (55 : Nat) ≠ 59 by decide), fl_nk (show (55 : Nat) ≠ 59 by decide), fl_nk (show (56 : Nat) ≠ 59 by decide), fl_nk (show (56 : Nat) ≠ 59 by decide), fl_nk (show (58 : Nat) ≠ 59 by decide), fl_nk (show (58 : Nat) ≠ 59 by decide), fl_nk (show (60 : Nat) ≠ 59 by decide), fl_nk (show (60 : Nat) ≠ 59 by decide), fl_nk (show (61 : Nat) ≠ 59 by decide), fl_nk (show (61 : Nat) ≠ 59 by decide), fl_nk (show (62 : Nat) ≠ 59 by decide), fl_nk (show (62 : Nat) ≠ 59 by decide), fl_nk (show (63 : Nat) ≠ 59 by decide), fl_nk (show (63 : Nat) ≠ 59 by decide), fl_nk (show (64 : Nat) ≠ 59 by decide), fl_nk (show (64 : Nat) ≠ 59 by decide), fl_nk (show (54 : Nat) ≠ 59 by decide), fl_nk (show (54 : Nat) ≠ 59 by decide)]
            refine ⟨r1, r2, r3, ?_, r5, r6, r7, r8, r9, r10⟩
            funext z
            unfold fl
            rw [r4]
          rw [r10]
          exact (hfl.up 54 11 _).up 56 m _
  · apply bad
    · unfold m_X2_unload
      rw [c_isL hC, decide_eq_false hx, Bool.false_and, Option.bind_some, if_pos (show bI false = 0 from rfl)]
    · unfold m_X3_unload
      rw [r_isL hR, decide_eq_false hx, Bool.false_and, Option.bind_some, if_pos (show bI false = 0 from rfl)]
