/-! PURE: what can be loaded, what comes with it -/
def cG (A : Mem) (S : Nat → Bool) : Prop := ∀ m, m < 8 → S m = true → sP A m = true ∧ ∀ t, t < 8 → srq A m t = true → S t = true
def isG (A : Mem) (S : Nat → Bool) : Prop := cG A S ∧ ∀ T, cG A T → ∀ m, m < 8 → T m = true → S m = true
theorem isG.uniq {A : Mem} {S S' : Nat → Bool} (h : isG A S) (h' : isG A S') : ∀ m, m < 8 → S m = S' m := by
  intro m hm
  have h1 := h'.2 S h.1 m hm
  have h2 := h.2 S' h'.1 m hm
  cases e : S m <;> cases e' : S' m <;> simp_all
theorem cnt_le_cnt {f g : Nat → Bool} : ∀ {n : Nat}, (∀ k, k < n → f k = true → g k = true) → cnt f n ≤ cnt g n
  | 0, _ => Nat.le_refl _
  | n + 1, h => by
    have := cnt_le_cnt (f := f) (g := g) (n := n) (fun k hk => h k (by omega))
    have h2 := h n (by omega)
    rw [cnt, cnt]
    cases e : f n <;> cases e' : g n <;> simp_all <;> omega
theorem cnt_lt_cnt {f g : Nat → Bool} : ∀ {n : Nat} {m : Nat}, m < n → f m = false → g m = true → (∀ k, k < n → f k = true → g k = true) → cnt f n < cnt g n
  | 0, _, hm, _, _, _ => absurd hm (Nat.not_lt_zero _)
  | n + 1, m, hm, h1, h2, h => by
    rw [cnt, cnt]
    by_cases e : m = n
    · subst e
      have := cnt_le_cnt (f := f) (g := g) (n := m) (fun k hk => h k (by omega))
      rw [h1, h2]
      simp
      omega
    · have := cnt_lt_cnt (f := f) (g := g) (n := n) (m := m) (by omega) h1 h2 (fun k hk => h k (by omega))
      have h3 := h n (by omega)
      cases e : f n <;> cases e' : g n <;> simp_all <;> omega
theorem cnt_zero {f : Nat → Bool} : ∀ {n : Nat}, cnt f n = 0 → ∀ k, k < n → f k = false
  | 0, _, _, hk => absurd hk (Nat.not_lt_zero _)
  | n + 1, h, k, hk => by
    rw [cnt] at h
    by_cases e : k = n
    · subst e
      cases e' : f k
      · rfl
      · rw [e'] at h
        simp at h
    · exact cnt_zero (n := n) (by omega) k (by omega)
def rG (A : Mem) (S S' : Nat → Bool) : Prop := (∀ m, m < 8 → S' m = true → S m = true ∧ ∀ t, t < 8 → srq A m t = true → S t = true) ∧ (∀ T, cG A T → (∀ m, m < 8 → T m = true → S m = true) → ∀ m, m < 8 → T m = true → S' m = true)
def gG (A : Mem) (i : Nat) (S : Nat → Bool) : Prop := (∀ m, m < 8 → S m = true → sP A m = true) ∧ (∀ T, cG A T → ∀ m, m < 8 → T m = true → S m = true) ∧ (cG A S ∨ cnt S 8 + i ≤ 8)
theorem gG.start {A : Mem} {S : Nat → Bool} (h : ∀ m, m < 8 → S m = sP A m) : gG A 0 S :=
  ⟨fun m hm hs => by rw [← h m hm]; exact hs, fun T hT m hm ht => by rw [h m hm]; exact (hT m hm ht).1, .inr (cnt_le S 8)⟩
theorem gG.step {A : Mem} {i : Nat} {S S' : Nat → Bool} (h : gG A i S) (r : rG A S S') : gG A (i + 1) S' := by
  obtain ⟨h1, h2, h3⟩ := h
  obtain ⟨r1, r2⟩ := r
  refine ⟨fun m hm hs => h1 m hm (r1 m hm hs).1, fun T hT m hm ht => r2 T hT (h2 T hT) m hm ht, ?_⟩
  by_cases hc : cG A S
  · left
    intro m hm hs
    obtain ⟨a, b⟩ := r1 m hm hs
    exact ⟨h1 m hm a, fun t ht hq => r2 S hc (fun _ _ h => h) t ht (b t ht hq)⟩
  · right
    have h4 := h3.resolve_left hc
    have : ∃ m, m < 8 ∧ S' m = false ∧ S m = true := by
      refine Classical.byContradiction fun hn => hc ?_
      have e : ∀ m, m < 8 → S m = true → S' m = true := fun m hm hs => by
        cases e : S' m
        · exact absurd ⟨m, hm, e, hs⟩ hn
        · rfl
      exact fun m hm hs => ⟨h1 m hm hs, fun t ht hq => (r1 m hm (e m hm hs)).2 t ht hq⟩
    obtain ⟨m, hm, a, b⟩ := this
    have := cnt_lt_cnt hm a b (fun k hk hs => (r1 k hk hs).1)
    omega
theorem gG.done {A : Mem} {S : Nat → Bool} (h : gG A 8 S) : isG A S := by
  obtain ⟨h1, h2, h3⟩ := h
  refine ⟨?_, h2⟩
  rcases h3 with h | h
  · exact h
  · intro m hm hs
    have := cnt_zero (f := S) (n := 8) (by omega) m hm
    rw [this] at hs
    cases hs
/-! the class's -/
theorem lack_iff {h A : Mem} (H : RC h A) {m : Nat} (hm : m < 8) (s : Int32) : ((h (kM m) 7) &&& (s ^^^ (-1))) = 0 ↔ ∀ t, t < 8 → srq A m t = true → bt s t = true := by
  have h7 := (H.2.2.2.2 m hm).2.2.2.2.2.2
  rw [sm8_eq0 (sm8_and h7.1)]
  constructor
  · intro e t ht hq
    have := e t ht
    rw [bt_and, bt_not s (by omega), h7.2 t ht, hq] at this
    cases e' : bt s t
    · rw [e'] at this; cases this
    · rfl
  · intro e t ht
    rw [bt_and, bt_not s (by omega), h7.2 t ht]
    cases hq : srq A m t
    · rfl
    · rw [e t ht hq]; rfl
theorem c_lack_loop {h A : Mem} (H : RC h A) (s : Int32) : ∀ n k (x : Int32), k ≤ 8 → 8 - k < n → sm8 x → ∃ s', m_X2_withoutLacking_4 h s n x (nI k) = some s' ∧ sm8 s' ∧ ∀ m, m < 8 → bt s' m = (bt x m && (decide (m < k) || decide (((h (kM m) 7) &&& (s ^^^ (-1))) = 0))) := by
  intro n
  induction n with
  | zero => intro k x h1 h2; omega
  | succ n ih =>
    intro k x h1 h2 hx
    rw [m_X2_withoutLacking_4]
    by_cases hk : k = 8
    · subst hk
      rw [if_pos (by decide)]
      exact ⟨x, rfl, hx, fun m hm => by simp [hm]⟩
    · rw [if_neg (lp_no (n := 8) (by omega) (by decide)), gi_nI (by omega) (by decide), zI_nat (by omega), zI_one]
      by_cases h0 : ((h (kM k) 7) &&& (s ^^^ (-1))) = 0
      · rw [if_pos h0]
        obtain ⟨s', a, b, c⟩ := ih (k + 1) x (by omega) (by omega) hx
        refine ⟨s', a, b, fun m hm => ?_⟩
        rw [c m hm]
        by_cases e : m = k
        · subst e
          rw [decide_eq_true h0]
          simp
        · have : (m < k + 1) ↔ (m < k) := by omega
          simp [this]
      · rw [if_neg h0]
        obtain ⟨s', a, b, c⟩ := ih (k + 1) (x &&& ((m_X2_bit (nI k)) ^^^ (-1))) (by omega) (by omega) (sm8_and hx)
        refine ⟨s', a, b, fun m hm => ?_⟩
        rw [c m hm, bt_and, bt_not _ (by omega), bt_bit (by omega) (by omega)]
        by_cases e : m = k
        · subst e
          rw [decide_eq_false h0]
          simp
        · have : (m < k + 1) ↔ (m < k) := by omega
          have e2 : ¬ (k = m) := fun h => e h.symm
          simp [this, e2]
theorem c_lack {h A : Mem} (H : RC h A) {s : Int32} (hs : sm8 s) : ∃ s', m_X2_withoutLacking h s = some s' ∧ sm8 s' ∧ rG A (bt s) (bt s') := by
  obtain ⟨s', a, b, c⟩ := c_lack_loop H s 200 0 s (by decide) (by decide) hs
  refine ⟨s', a, b, fun m hm hq => ?_, fun T hT hi m hm ht => ?_⟩
  · rw [c m hm] at hq
    simp only [Bool.and_eq_true, Bool.or_eq_true, decide_eq_true_eq] at hq
    exact ⟨hq.1, (lack_iff H hm s).mp (hq.2.resolve_left (by omega))⟩
  · rw [c m hm, hi m hm ht, decide_eq_true ((lack_iff H hm s).mpr (fun t ht' hq => hi t ht' ((hT m hm ht).2 t ht' hq)))]
    simp
theorem c_ldb_loop {h A : Mem} (H : RC h A) : ∀ n k (x : Int32), k ≤ 8 → 8 - k < n → sm8 x → gG A k (bt x) → ∃ s', m_X2_loadableSet_7 h n x (nI k) = some s' ∧ sm8 s' ∧ isG A (bt s') := by
  intro n
  induction n with
  | zero => intro k x h1 h2; omega
  | succ n ih =>
    intro k x h1 h2 hx hg
    rw [m_X2_loadableSet_7]
    by_cases hk : k = 8
    · subst hk
      rw [if_pos (by decide)]
      exact ⟨x, rfl, hx, hg.done⟩
    · rw [if_neg (lp_no (n := 8) (by omega) (by decide))]
      obtain ⟨s', a, b, c⟩ := c_lack H hx
      rw [a, Option.bind_some, zI_one]
      exact ih (k + 1) s' (by omega) (by omega) b (hg.step c)
theorem c_ldb {h A : Mem} (H : RC h A) : ∃ s', m_X2_loadableSet h = some s' ∧ sm8 s' ∧ isG A (bt s') := c_ldb_loop H 200 0 _ (by decide) (by decide) H.1 (gG.start H.2.1)
/-! the reference's -/
theorem dv6 : ∀ k, k < 48 → nI k / 6 = nI (k / 6) := by decide
theorem md6 : ∀ k, k < 48 → nI k - nI k / 6 * 6 = nI (k % 6) := by decide
theorem nar_bI (b : Bool) : vp_nar .boolean (bI b) = bI b := by cases b <;> rfl
theorem nar_1 : vp_nar .boolean 1 = bI true := rfl
theorem nar_0 : vp_nar .boolean 0 = bI false := rfl
def bup (S : Nat → Bool) (m : Nat) (b : Bool) : Nat → Bool := fun x => if x = m then b else S x
/-- the cell c holds the truths S at 0 .. n-1 -/
def bA (h : Mem) (c n : Nat) (S : Nat → Bool) : Prop := ∀ m, m < n → h c m = bI (S m)
theorem bA.up {h : Mem} {c n : Nat} {S : Nat → Bool} (H : bA h c n S) (m : Nat) (b : Bool) : bA (mup h c m (bI b)) c n (bup S m b) := by
  intro x hx
  by_cases e : x = m
  · subst e
    rw [mup_eq]
    simp [bup]
  · rw [mup_ni e, H x hx]
    simp [bup, e]
theorem srq_iff {A : Mem} {m t : Nat} : srq A m t = true ↔ ∃ j, j < sc A m ∧ sq A m j = true ∧ so A m j = t ∧ t ≠ m := by
  unfold srq
  simp [List.any_eq_true]
theorem sdp_iff {A : Mem} {m t : Nat} : sdp A m t = true ↔ ∃ j, j < sc A m ∧ so A m j = t ∧ t ≠ m := by
  unfold sdp
  simp [List.any_eq_true]
theorem RR.fd2 {h h' A : Mem} (H : RR h A) (f : Fq 65 71 h h') : RR h' A := by
  have e : ∀ k, k < 65 → h' k = h k := fun k hk => f k (.inl hk)
  unfold RR
  rw [e 54 (by omega), e 55 (by omega), e 56 (by omega), e 58 (by omega), e 59 (by omega), e 60 (by omega), e 61 (by omega), e 62 (by omega), e 63 (by omega), e 64 (by omega)]
  exact H
theorem RR.fd57 {h h' A : Mem} (H : RR h A) (f : Fq 57 58 h h') : RR h' A := by
  have e : ∀ k, k ≠ 57 → h' k = h k := fun k hk => f k (by omega)
  unfold RR
  rw [e 54 (by omega), e 55 (by omega), e 56 (by omega), e 58 (by omega), e 59 (by omega), e 60 (by omega), e 61 (by omega), e 62 (by omega), e 63 (by omega), e 64 (by omega)]
  exact H
theorem k6 (k : Nat) : 6 * (k / 6) + k % 6 = k := by omega
theorem r_jdg_in {A : Mem} (hA : WF A) (k28 : Mem → Int32 → Option Mem) (x1 : Int32) : ∀ n k r (h : Mem) (S : Nat → Bool), r < n → k + r = 48 → RR h A → bA h 57 8 S →
    ∃ h' S', m_X3_judge_36 k28 n h x1 (nI k) = k28 h' (x1 + 1) ∧ Fq 57 58 h h' ∧ bA h' 57 8 S' ∧ (∀ m, m < 8 → S' m = true → S m = true) ∧ (∀ T, cG A T → (∀ m, m < 8 → T m = true → S m = true) → ∀ m, m < 8 → T m = true → S' m = true) ∧
      (∀ i, k ≤ i → i < 48 → i % 6 < sc A (i / 6) → sq A (i / 6) (i % 6) = true → S (so A (i / 6) (i % 6)) = false → S' (i / 6) = false) := by
  intro n
  induction n with
  | zero => intro k r h S h1; omega
  | succ n ih =>
    intro k r h S h1 h2 hR hS
    rw [m_X3_judge_36]
    cases r with
    | zero =>
      rw [if_pos (lp_yes (n := 48) (by omega) (by omega))]
      exact ⟨h, S, rfl, Fq.rf h, hS, fun _ _ h => h, fun _ _ h => h, fun i a b => by omega⟩
    | succ r =>
      have hk : k < 48 := by omega
      have hm : k / 6 < 8 := by omega
      obtain ⟨w1, w2⟩ := hA.2.2.2.2.2.1 (k / 6) hm
      rw [if_neg (lp_no (n := 48) (by omega) (by decide)), dv6 k hk, ← dv6 k hk, md6 k hk, dv6 k hk, gi_nI hm (by decide), zI_nat (by omega), hR.2.2.2.2.1, w2, zI_one]
      have skip : (k % 6 < sc A (k / 6) → sq A (k / 6) (k % 6) = true → S (so A (k / 6) (k % 6)) = false → S (k / 6) = false) → ∃ h' S', m_X3_judge_36 k28 n h x1 (nI (k + 1)) = k28 h' (x1 + 1) ∧ Fq 57 58 h h' ∧ bA h' 57 8 S' ∧ (∀ m, m < 8 → S' m = true → S m = true) ∧ (∀ T, cG A T → (∀ m, m < 8 → T m = true → S m = true) → ∀ m, m < 8 → T m = true → S' m = true) ∧
      (∀ i, k ≤ i → i < 48 → i % 6 < sc A (i / 6) → sq A (i / 6) (i % 6) = true → S (so A (i / 6) (i % 6)) = false → S' (i / 6) = false) := by
        intro hh
        obtain ⟨h', S', a1, a2, a3, a4, a5, a6⟩ := ih (k + 1) r h S (by omega) (by omega) hR hS
        refine ⟨h', S', a1, a2, a3, a4, a5, fun i b1 b2 b3 b4 b5 => ?_⟩
        by_cases e : i = k
        · subst e
          have := hh b3 b4 b5
          cases e2 : S' (i / 6)
          · rfl
          · rw [a4 _ hm e2] at this; cases this
        · exact a6 i (by omega) b2 b3 b4 b5
      by_cases hj : sc A (k / 6) ≤ k % 6
      · rw [if_pos ((zI_le (by omega) (by omega)).mpr hj)]
        exact skip (fun a => by omega)
      · rw [if_neg (fun hc => hj ((zI_le (by omega) (by omega)).mp hc)), gi_nI hk (by decide), zI_nat (by omega), hR.2.2.2.2.2.2.2.2.1]
        obtain ⟨v1, v2, v3⟩ := hA.2.2.2.2.2.2.1 (k / 6) hm (k % 6) (by omega)
        rw [k6] at v2 v3
        rw [v3, bI_if]
        cases eq : sq A (k / 6) (k % 6) with
        | false =>
          rw [if_neg (by decide)]
          exact skip (fun _ b => by rw [eq] at b; cases b)
        | true =>
          rw [if_pos rfl, gi_nI hk (by decide), hR.2.2.2.2.2.1, v2, gi_nI v1 (by decide), zI_nat (by omega), hS _ v1, bI_if]
          cases es : S (so A (k / 6) (k % 6)) with
          | true =>
            rw [if_pos rfl]
            exact skip (fun _ _ c => by rw [es] at c; cases c)
          | false =>
            rw [if_neg (by decide), gi_nI hm (by decide), nar_0]
            obtain ⟨h', S', a1, a2, a3, a4, a5, a6⟩ := ih (k + 1) r (mup h 57 (k / 6) (bI false)) (bup S (k / 6) false) (by omega) (by omega) (hR.fd57 (Fq.up1 (by decide) (by decide))) (hS.up _ _)
            refine ⟨h', S', a1, (Fq.up1 (by decide) (by decide)).trans a2, a3, fun m hm' hs => ?_, fun T hT hi => a5 T hT (fun m hm' ht => ?_), fun i b1 b2 b3 b4 b5 => ?_⟩
            · have := a4 m hm' hs
              unfold bup at this
              split at this
              · cases this
              · exact this
            · have hne : m ≠ k / 6 := by
                rintro rfl
                by_cases e : so A (k / 6) (k % 6) = k / 6
                · rw [e] at es
                  rw [hi _ hm' ht] at es
                  cases es
                · have := (hT _ hm' ht).2 _ v1 (srq_iff.mpr ⟨k % 6, by omega, eq, rfl, e⟩)
                  rw [hi _ v1 this] at es
                  cases es
              simp [bup, hne, hi m hm' ht]
            · by_cases e : i / 6 = k / 6
              · rw [e]
                cases e2 : S' (k / 6)
                · rfl
                · have := a4 _ hm e2
                  simp [bup] at this
              · refine a6 i (by omega) b2 b3 b4 ?_
                unfold bup
                split
                · rfl
                · exact b5
theorem r_jdg_rnd {A : Mem} (hA : WF A) : ∀ n k (h : Mem) (S : Nat → Bool), k ≤ 8 → 8 - k < n → RR h A → bA h 57 8 S → gG A k S → ∃ h' S', m_X3_judge_28 n h (nI k) = some h' ∧ Fq 57 58 h h' ∧ bA h' 57 8 S' ∧ isG A S' := by
  intro n
  induction n with
  | zero => intro k h S h1 h2; omega
  | succ n ih =>
    intro k h S h1 h2 hR hS hg
    rw [m_X3_judge_28]
    by_cases hk : k = 8
    · subst hk
      rw [if_pos (by decide)]
      exact ⟨h, S, rfl, Fq.rf h, hS, hg.done⟩
    · rw [if_neg (lp_no (n := 8) (by omega) (by decide))]
      obtain ⟨h', S', a1, a2, a3, a4, a5, a6⟩ := r_jdg_in hA (fun gy yx1 => m_X3_judge_28 n gy yx1) (nI k) 200 0 48 h S (by decide) rfl hR hS
      rw [show (0 : Int32) = nI 0 from rfl, a1, zI_one]
      have hr : rG A S S' := by
        refine ⟨fun m hm hs => ⟨a4 m hm hs, fun t ht hq => ?_⟩, a5⟩
        obtain ⟨j, j1, j2, j3, j4⟩ := srq_iff.mp hq
        have hj6 := (hA.2.2.2.2.2.1 m hm).1
        have e1 : (6 * m + j) / 6 = m := by omega
        have e2 : (6 * m + j) % 6 = j := by omega
        cases es : S t
        · have := a6 (6 * m + j) (by omega) (by omega) (by rw [e1, e2]; exact j1) (by rw [e1, e2]; exact j2) (by rw [e1, e2, j3]; exact es)
          rw [e1, hs] at this
          cases this
        · rfl
      obtain ⟨h2', S2, b1, b2, b3, b4⟩ := ih (k + 1) h' S' (by omega) (by omega) (hR.fd57 a2) a3 (hg.step hr)
      exact ⟨h2', S2, b1, a2.trans b2, b3, b4⟩
theorem r_jdg_cp {A : Mem} (hA : WF A) : ∀ n k (h : Mem), k ≤ 8 → 8 - k < n → RR h A → (∀ m, m < k → h 57 m = bI (sP A m)) → ∃ h' S', m_X3_judge_2 n h (nI k) = some h' ∧ Fq 57 58 h h' ∧ bA h' 57 8 S' ∧ isG A S' := by
  intro n
  induction n with
  | zero => intro k h h1 h2; omega
  | succ n ih =>
    intro k h h1 h2 hR hS
    rw [m_X3_judge_2]
    by_cases hk : k = 8
    · subst hk
      rw [if_pos (by decide)]
      exact r_jdg_rnd hA 200 0 h (sP A) (by decide) (by decide) hR hS (gG.start (fun _ _ => rfl))
    · rw [if_neg (lp_no (n := 8) (by omega) (by decide)), gi_nI (by omega) (by decide), gi_nI (by omega) (by decide), zI_one, zI_nat (by omega), hR.1, hA.1 k (by omega), nar_bI]
      obtain ⟨h', S', a1, a2, a3, a4⟩ := ih (k + 1) (mup h 57 k (bI (sP A k))) (by omega) (by omega) (hR.fd57 (Fq.up1 (by decide) (by decide))) (fun m hm => by
        by_cases e : m = k
        · subst e
          rw [mup_eq]
        · rw [mup_ni e, hS m (by omega)])
      exact ⟨h', S', a1, (Fq.up1 (by decide) (by decide)).trans a2, a3, a4⟩
theorem r_jdg {h A : Mem} (hA : WF A) (hR : RR h A) : ∃ h' S', m_X3_judge h = some h' ∧ Fq 57 58 h h' ∧ bA h' 57 8 S' ∧ isG A S' := r_jdg_cp hA 200 0 h (by decide) (by decide) hR (fun m hm => by omega)
