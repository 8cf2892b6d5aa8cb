/-! PURE: what a step changes -/
theorem bool_iff {a b : Bool} (h : a = true ↔ b = true) : a = b := by cases a <;> cases b <;> simp_all
theorem sE_at {A : Mem} {m n m' n' : Nat} {v : Int32} (hn : n < 24) (hn' : n' < 24) : sE (mup A 59 (24 * m + n) v) m' n' = if m' = m ∧ n' = n then v else sE A m' n' := by
  unfold sE mup
  by_cases h : m' = m ∧ n' = n
  · rw [if_pos h, if_pos (by omega)]
  · rw [if_neg h, if_neg (by omega)]
theorem sdp_congr {A B : Mem} {m : Nat} (ec : sc B m = sc A m) (eo : ∀ j, j < sc A m → so B m j = so A m j) (t : Nat) : sdp B m t = sdp A m t := by
  apply bool_iff
  rw [sdp_iff, sdp_iff, ec]
  constructor
  · rintro ⟨j, a, b, c⟩
    exact ⟨j, a, by rw [← eo j a]; exact b, c⟩
  · rintro ⟨j, a, b, c⟩
    exact ⟨j, a, by rw [eo j a]; exact b, c⟩
theorem srq_congr {A B : Mem} {m : Nat} (ec : sc B m = sc A m) (eo : ∀ j, j < sc A m → so B m j = so A m j) (eq : ∀ j, j < sc A m → sq B m j = sq A m j) (t : Nat) : srq B m t = srq A m t := by
  apply bool_iff
  rw [srq_iff, srq_iff, ec]
  constructor
  · rintro ⟨j, a, d, b, c⟩
    exact ⟨j, a, by rw [← eq j a]; exact d, by rw [← eo j a]; exact b, c⟩
  · rintro ⟨j, a, d, b, c⟩
    exact ⟨j, a, by rw [eq j a]; exact d, by rw [eo j a]; exact b, c⟩
/-- a module that neither side has touched -/
theorem RCm.keep {h h' A B : Mem} {m : Nat} (H : RCm h A m) (hc : sc A m ≤ 6) (e : ∀ d, d < 6 → h' (kM m + d) = h (kM m + d)) (eF : ∀ n, n < 24 → sF B m n = sF A m n) (eE : ∀ n, n < 24 → sE B m n = sE A m n) (ec : sc B m = sc A m)
    (eo : ∀ j, j < 6 → so B m j = so A m j) (ei : ∀ j, j < 6 → si B m j = si A m j) (ee : ∀ j, j < 6 → se B m j = se A m j) (eq : ∀ j, j < 6 → sq B m j = sq A m j) : RCm h' B m := by
  obtain ⟨h1, h2, h3, h4, h5, h6, h7, h8⟩ := H
  have ek : h' (kM m) = h (kM m) := e 0 (by omega)
  unfold RCm
  rw [ek, e 1 (by omega), e 2 (by omega), e 3 (by omega), e 4 (by omega), e 5 (by omega), ec]
  refine ⟨fun n hn => by rw [eF n hn]; exact h1 n hn, fun n hn => by rw [eE n hn]; exact h2 n hn, h3, fun j hj => ?_, h5, fun t ht => ?_, h7, fun t ht => ?_⟩
  · rw [eo j (by omega), ei j (by omega), ee j (by omega)]
    exact h4 j hj
  · rw [sdp_congr ec (fun j hj => eo j (by omega))]
    exact h6 t ht
  · rw [srq_congr ec (fun j hj => eo j (by omega)) (fun j hj => eq j (by omega))]
    exact h8 t ht
theorem cnt_up {f g : Nat → Bool} {k : Nat} (hf : f k = false) (hg : g k = true) (he : ∀ x, x ≠ k → g x = f x) : ∀ n, cnt g n = cnt f n + (if k < n then 1 else 0)
  | 0 => rfl
  | n + 1 => by
    rw [cnt, cnt, cnt_up hf hg he n]
    by_cases h : n = k
    · subst h
      rw [hf, hg, if_neg (show ¬ n < n by omega), if_pos (show n < n + 1 by omega)]
      simp
    · rw [he n h]
      by_cases h2 : k < n
      · rw [if_pos h2, if_pos (show k < n + 1 by omega)]
        omega
      · rw [if_neg h2, if_neg (show ¬ k < n + 1 by omega)]
        omega
theorem cnt_eq {f g : Nat → Bool} {n : Nat} (h : ∀ k, k < n → f k = g k) : cnt f n = cnt g n := cnt_congr h
theorem tot_same {A B : Mem} : ∀ M, (∀ m, m < M → cnE B m = cnE A m) → tot B M = tot A M
  | 0, _ => rfl
  | M + 1, h => by rw [tot, tot, tot_same M (fun m hm => h m (by omega)), h M (by omega)]
theorem tot_up {A B : Mem} {m : Nat} (h1 : cnE B m = cnE A m + 1) (h2 : ∀ x, x ≠ m → cnE B x = cnE A x) : ∀ M, tot B M = tot A M + (if m < M then 1 else 0)
  | 0 => rfl
  | M + 1 => by
    rw [tot, tot, tot_up h1 h2 M]
    by_cases h : M = m
    · subst h
      rw [h1, if_neg (by omega), if_pos (by omega)]
      omega
    · rw [h2 M h]
      by_cases h3 : m < M
      · rw [if_pos h3, if_pos (by omega)]
        omega
      · rw [if_neg h3, if_neg (by omega)]
        omega
/-- one class more -/
def dA1 (A : Mem) (m n y : Nat) : Mem := mup (mup A 59 (24 * m + n) (nI y)) 54 11 (A 54 11 + 1)
theorem dA1_k {A : Mem} {m n y : Nat} : ∀ k, k ≠ 59 → k ≠ 54 → dA1 A m n y k = A k := fun k h1 h2 => by
  funext i
  unfold dA1
  rw [mup_nk h2, mup_nk h1]
theorem dA1_E {A : Mem} {m n y m' n' : Nat} (hn : n < 24) (hn' : n' < 24) : sE (dA1 A m n y) m' n' = if m' = m ∧ n' = n then nI y else sE A m' n' := by
  rw [← sE_at hn hn']
  unfold dA1 sE
  rw [mup_nk (by decide)]
theorem WF_E {A : Mem} (hA : WF A) {m n y : Nat} (hm : m < 8) (hn : n < 24) (hl : sL A m = true) (hE : sE A m n = -1) (hy : y < 10) : WF (dA1 A m n y) := by
  have e := dA1_k (A := A) (m := m) (n := n) (y := y)
  have eP : sP (dA1 A m n y) = sP A := by funext x; unfold sP; rw [e 55 (by decide) (by decide)]
  have eL : sL (dA1 A m n y) = sL A := by funext x; unfold sL; rw [e 56 (by decide) (by decide)]
  have eF : sF (dA1 A m n y) = sF A := by funext x z; unfold sF; rw [e 58 (by decide) (by decide)]
  have ec : sc (dA1 A m n y) = sc A := by funext x; unfold sc; rw [e 60 (by decide) (by decide)]
  have eo : so (dA1 A m n y) = so A := by funext x z; unfold so; rw [e 61 (by decide) (by decide)]
  have eq : sq (dA1 A m n y) = sq A := by funext x z; unfold sq; rw [e 64 (by decide) (by decide)]
  obtain ⟨w1, w2, w3, w4, w5, w6, w7, w8⟩ := hA
  unfold WF
  rw [eP, eL, eF, ec, eo, eq, e 55 (by decide) (by decide), e 56 (by decide) (by decide), e 60 (by decide) (by decide), e 61 (by decide) (by decide), e 64 (by decide) (by decide)]
  refine ⟨w1, w2, w3, w4, fun m' hm' n' hn' => ?_, w6, w7, ?_⟩
  · rw [dA1_E hn hn']
    by_cases h : m' = m ∧ n' = n
    · rw [if_pos h, h.1]
      exact .inr ⟨⟨y, hy, rfl⟩, hl⟩
    · rw [if_neg h]
      exact w5 m' hm' n' hn'
  · have h1 : cnE (dA1 A m n y) m = cnE A m + 1 := by
      have := cnt_up (f := fun x => decide (x < 24) && decide (sE A m x ≠ -1)) (g := fun x => decide (x < 24) && decide (sE (dA1 A m n y) m x ≠ -1)) (k := n) (by simp [hE]) (by
        rw [dA1_E hn hn, if_pos ⟨rfl, rfl⟩]
        simp [hn, neg1_ne (show y < 2 ^ 31 by omega)]) (fun x hx => by
          by_cases h24 : x < 24
          · rw [dA1_E hn h24, if_neg (by omega)]
          · simp [h24]) 24
      rw [if_pos hn] at this
      unfold cnE
      rw [cnt_eq (f := fun x => decide (sE (dA1 A m n y) m x ≠ -1)) (g := fun x => decide (x < 24) && decide (sE (dA1 A m n y) m x ≠ -1)) (fun k hk => by simp [hk]), this]
      rw [cnt_eq (f := fun x => decide (x < 24) && decide (sE A m x ≠ -1)) (g := fun x => decide (sE A m x ≠ -1)) (fun k hk => by simp [hk])]
    have h2 : ∀ x, x ≠ m → cnE (dA1 A m n y) x = cnE A x := fun x hx => by
      unfold cnE
      exact cnt_eq (fun k hk => by rw [dA1_E hn hk, if_neg (by omega)])
    rw [tot_up h1 h2 8, if_pos hm, ← nI_add, ← w8]
    unfold dA1
    rw [mup_eq]
    rfl
theorem RC_E {h A : Mem} (H : RC h A) (hc : ∀ x, x < 8 → sc A x ≤ 6) {m n y : Nat} (hm : m < 8) (hn : n < 24) : RC (mup h (kM m + 2) n (nI y)) (dA1 A m n y) := by
  have e := dA1_k (A := A) (m := m) (n := n) (y := y)
  have eP : sP (dA1 A m n y) = sP A := by funext x; unfold sP; rw [e 55 (by decide) (by decide)]
  have eL : sL (dA1 A m n y) = sL A := by funext x; unfold sL; rw [e 56 (by decide) (by decide)]
  have eF : sF (dA1 A m n y) = sF A := by funext x z; unfold sF; rw [e 58 (by decide) (by decide)]
  have ec : sc (dA1 A m n y) = sc A := by funext x; unfold sc; rw [e 60 (by decide) (by decide)]
  have eo : so (dA1 A m n y) = so A := by funext x z; unfold so; rw [e 61 (by decide) (by decide)]
  have ei : si (dA1 A m n y) = si A := by funext x z; unfold si; rw [e 62 (by decide) (by decide)]
  have ee : se (dA1 A m n y) = se A := by funext x z; unfold se; rw [e 63 (by decide) (by decide)]
  have eq : sq (dA1 A m n y) = sq A := by funext x z; unfold sq; rw [e 64 (by decide) (by decide)]
  obtain ⟨h1, h2, h3, h4, h5⟩ := H
  have e0 : mup h (kM m + 2) n (nI y) 0 = h 0 := by
    funext z
    rw [mup_nk (by omega)]
  unfold RC
  rw [e0, eP, eL]
  refine ⟨h1, h2, h3, h4, fun m' hm' => ?_⟩
  by_cases hmm : m' = m
  · subst hmm
    obtain ⟨q1, q2, q3, q4, q5, q6, q7, q8⟩ := h5 m' hm'
    have ed : ∀ d, d ≠ 2 → mup h (kM m' + 2) n (nI y) (kM m' + d) = h (kM m' + d) := fun d hd => by
      funext z
      rw [mup_nk (by omega)]
    have ek : mup h (kM m' + 2) n (nI y) (kM m') = h (kM m') := ed 0 (by omega)
    unfold RCm
    rw [ek, ed 1 (by omega), ed 3 (by omega), ed 4 (by omega), ed 5 (by omega), eF, ec, eo, ei, ee]
    refine ⟨q1, fun n' hn' => ?_, q3, q4, q5, fun t ht => ?_, q7, fun t ht => ?_⟩
    · rw [dA1_E hn hn']
      by_cases hx : n' = n
      · subst hx
        rw [mup_eq, if_pos ⟨rfl, rfl⟩]
      · rw [mup_ni hx, if_neg (fun hc => hx hc.2)]
        exact q2 n' hn'
    · rw [sdp_congr (by rw [ec]) (fun j _ => by rw [eo])]
      exact q6 t ht
    · rw [srq_congr (by rw [ec]) (fun j _ => by rw [eo]) (fun j _ => by rw [eq])]
      exact q8 t ht
  · exact (h5 m' hm').keep (hc m' hm') (fun d hd => by
      funext z
      rw [mup_nk (by unfold kM; omega)]) (fun n' _ => by rw [eF]) (fun n' hn' => by rw [dA1_E hn hn', if_neg (fun hc => hmm hc.1)]) (by rw [ec]) (fun j _ => by rw [eo]) (fun j _ => by rw [ei]) (fun j _ => by rw [ee]) (fun j _ => by rw [eq])
def dfA (A : Mem) : List (Nat × Nat × Nat) → Mem
  | [] => A
  | e :: r => dA1 (dfA A r) e.1 e.2.1 e.2.2
def ndE : List (Nat × Nat × Nat) → Prop
  | [] => True
  | e :: r => (∀ x ∈ r, ¬ (x.1 = e.1 ∧ x.2.1 = e.2.1)) ∧ ndE r
theorem sU_nd {A : Mem} (hA : WF A) : ∀ {f m n : Nat} {l : List (Nat × Nat × Nat)}, okN A m n → sU A f m n = some l → ndE l := by
  intro f
  induction f with
  | zero =>
    intro m n l hn h
    rw [sU] at h
    split at h
    · cases h
      trivial
    · split at h
      · cases h
      · cases h
        trivial
  | succ f ih =>
    intro m n l hn h0
    have h := h0
    rw [sU] at h
    split at h
    · cases h
      trivial
    · rename_i e
      obtain ⟨hm, hn24, hl, hs⟩ := (hn.resolve_left (by omega)).resolve_left (by omega)
      split at h
      · rename_i e2
        split at h
        · cases h
        · rename_i e3
          split at h
          · cases h
            exact ⟨fun x hx => (List.not_mem_nil hx).elim, trivial⟩
          · rename_i e4
            obtain ⟨k, hk, ek⟩ : ∃ k, k < 24 ∧ sF A m n = nI k := by
              rcases hA.2.2.2.1 m hm n hn24 with h | h | h | h
              · rw [sh, h] at hs
                simp at hs
              · exact absurd h e3
              · exact absurd h e4
              · exact h
            have ekn : (sF A m n).toNatClampNeg = k := by rw [ek, zI_nat (by omega)]
            rw [ekn] at h
            split at h
            · cases h
            · rename_i y ey
              cases eu : sU A f y k with
              | none => rw [eu] at h; cases h
              | some l2 =>
                rw [eu] at h
                cases h
                have hy : okN A y k := by
                  rcases shd_spec hA hm hl ey with h | h
                  · exact .inl h
                  · exact .inr (.inr ⟨h.1, hk, h.2.1, h.2.2⟩)
                exact ⟨sU_new hA hy h0 eu, ih hy eu⟩
      · cases h
        trivial
theorem okE_y {A : Mem} (hA : WF A) {e : Nat × Nat × Nat} (h : okE A e) : e.2.2 < 10 := by
  obtain ⟨h1, h2, h3, h4, h5⟩ := h
  rcases h5 with h | ⟨k, hk, -, hs⟩
  · omega
  · rcases shd_spec hA h1 h3 hs with h | h <;> omega
theorem dfA_all {A : Mem} (hA : WF A) : ∀ {l : List (Nat × Nat × Nat)}, (∀ e ∈ l, okE A e) → ndE l → WF (dfA A l) ∧ (∀ k, k ≠ 59 → k ≠ 54 → dfA A l k = A k) ∧ ∀ m n, n < 24 → (∀ e ∈ l, ¬ (e.1 = m ∧ e.2.1 = n)) → sE (dfA A l) m n = sE A m n
  | [], _, _ => ⟨hA, fun _ _ _ => rfl, fun _ _ _ _ => rfl⟩
  | e :: r, ho, hd => by
    obtain ⟨i1, i2, i3⟩ := dfA_all hA (l := r) (fun x hx => ho x (List.mem_cons_of_mem _ hx)) hd.2
    have he := ho e List.mem_cons_self
    have eL : sL (dfA A r) = sL A := by funext x; unfold sL; rw [i2 56 (by decide) (by decide)]
    refine ⟨WF_E i1 he.1 he.2.1 (by rw [eL]; exact he.2.2.1) (by rw [i3 _ _ he.2.1 hd.1]; exact he.2.2.2.1) (okE_y hA he), fun k h1 h2 => ?_, fun m n hn hne => ?_⟩
    · rw [dfA, dA1_k k h1 h2, i2 k h1 h2]
    · rw [dfA, dA1_E he.2.1 hn, if_neg (fun hc => hne e List.mem_cons_self ⟨hc.1.symm, hc.2.symm⟩)]
      exact i3 m n hn (fun x hx => hne x (List.mem_cons_of_mem _ hx))
theorem RC_df {h A : Mem} (hA : WF A) (H : RC h A) : ∀ {l : List (Nat × Nat × Nat)}, (∀ e ∈ l, okE A e) → ndE l → RC (dfH h l) (dfA A l)
  | [], _, _ => H
  | e :: r, ho, hd => by
    have he := ho e List.mem_cons_self
    have hw := (dfA_all hA (l := r) (fun x hx => ho x (List.mem_cons_of_mem _ hx)) hd.2).1
    exact RC_E (RC_df hA H (l := r) (fun x hx => ho x (List.mem_cons_of_mem _ hx)) hd.2) (fun x hx => (hw.2.2.2.2.2.1 x hx).1) he.1 he.2.1
