/-! PURE: what comes with a load -/
def cC (A : Mem) (S R : Nat → Bool) : Prop := ∀ x, x < 8 → R x = true → ∀ t, t < 8 → sdp A x t = true → S t = true → R t = true
def isC (A : Mem) (S : Nat → Bool) (m : Nat) (R : Nat → Bool) : Prop := R m = true ∧ cC A S R ∧ ∀ T, T m = true → cC A S T → ∀ x, x < 8 → R x = true → T x = true
theorem isC.uniq {A : Mem} {S S' R R' : Nat → Bool} {m : Nat} (hs : ∀ m, m < 8 → S m = S' m) (h : isC A S m R) (h' : isC A S' m R') : ∀ x, x < 8 → R x = R' x := by
  intro x hx
  have c1 : cC A S R' := fun y hy h1 t ht h2 h3 => h'.2.1 y hy h1 t ht h2 (by rw [← hs t ht]; exact h3)
  have c2 : cC A S' R := fun y hy h1 t ht h2 h3 => h.2.1 y hy h1 t ht h2 (by rw [hs t ht]; exact h3)
  have h1 := h.2.2 R' h'.1 c1 x hx
  have h2 := h'.2.2 R h.1 c2 x hx
  cases e : R x <;> cases e' : R' x <;> simp_all
def rC (A : Mem) (S R R' : Nat → Bool) : Prop := (∀ x, x < 8 → R x = true → R' x = true) ∧ (∀ x, x < 8 → R x = true → ∀ t, t < 8 → sdp A x t = true → S t = true → R' t = true) ∧ ∀ T, cC A S T → (∀ x, x < 8 → R x = true → T x = true) → ∀ x, x < 8 → R' x = true → T x = true
def gC (A : Mem) (S : Nat → Bool) (m i : Nat) (R : Nat → Bool) : Prop := R m = true ∧ (∀ T, T m = true → cC A S T → ∀ x, x < 8 → R x = true → T x = true) ∧ (cC A S R ∨ i + 1 ≤ cnt R 8)
theorem gC.start {A : Mem} {S R : Nat → Bool} {m : Nat} (hm : m < 8) (h : ∀ x, x < 8 → R x = decide (m = x)) : gC A S m 0 R := by
  have hr : R m = true := by rw [h m hm]; simp
  refine ⟨hr, fun T hT _ x hx hr => ?_, .inr ?_⟩
  · rw [h x hx] at hr
    simp at hr
    rw [← hr]
    exact hT
  · have := cnt_lt_cnt (f := fun _ => false) (g := R) (n := 8) hm rfl hr (fun _ _ h => by cases h)
    omega
theorem gC.step {A : Mem} {S R R' : Nat → Bool} {m i : Nat} (hm : m < 8) (h : gC A S m i R) (r : rC A S R R') : gC A S m (i + 1) R' := by
  obtain ⟨h1, h2, h3⟩ := h
  obtain ⟨r1, r2, r3⟩ := r
  refine ⟨r1 m hm h1, fun T hT hc x hx hr => r3 T hc (h2 T hT hc) x hx hr, ?_⟩
  by_cases hc : cC A S R
  · left
    intro x hx hr t ht hd hs
    exact r1 t ht (hc x hx (r3 R hc (fun _ _ h => h) x hx hr) t ht hd hs)
  · right
    have h4 := h3.resolve_left hc
    have : ∃ x, x < 8 ∧ R x = false ∧ R' x = true := by
      refine Classical.byContradiction fun hn => hc ?_
      intro x hx hr t ht hd hs
      have := r2 x hx hr t ht hd hs
      cases e : R t
      · exact absurd ⟨t, ht, e, this⟩ hn
      · rfl
    obtain ⟨x, hx, a, b⟩ := this
    have := cnt_lt_cnt hx a b r1
    omega
theorem gC.done {A : Mem} {S R : Nat → Bool} {m : Nat} (h : gC A S m 8 R) : isC A S m R := by
  obtain ⟨h1, h2, h3⟩ := h
  refine ⟨h1, ?_, h2⟩
  rcases h3 with h | h
  · exact h
  · have := cnt_le R 8
    omega
/-! the class's -/
theorem c_next_loop {h A : Mem} (H : RC h A) (s : Int32) : ∀ n k r (x : Int32), r < n → k + r = 8 → sm8 x → ∃ s', m_X2_nextTo_4 h s n x (nI k) = some s' ∧ sm8 s' ∧ ∀ t, t < 8 → bt s' t = (bt x t || (List.range' k r).any (fun m => bt s m && sdp A m t)) := by
  intro n
  induction n with
  | zero => intro k r x h1; omega
  | succ n ih =>
    intro k r x h1 h2 hx
    rw [m_X2_nextTo_4]
    cases r with
    | zero =>
      rw [if_pos (lp_yes (n := 8) (by omega) (by omega))]
      exact ⟨x, rfl, hx, fun t _ => by simp⟩
    | succ r =>
      rw [if_neg (lp_no (n := 8) (by omega) (by decide)), isIn_nI s (by omega), bI_if, gi_nI (by omega) (by decide), zI_nat (by omega), zI_one]
      have h6 := (H.2.2.2.2 k (by omega)).2.2.2.2
      cases e : bt s k with
      | false =>
        rw [if_neg (by decide)]
        obtain ⟨s', a, b, c⟩ := ih (k + 1) r x (by omega) (by omega) hx
        refine ⟨s', a, b, fun t ht => ?_⟩
        rw [c t ht, any_succ, e]
        simp
      | true =>
        rw [if_pos rfl]
        obtain ⟨s', a, b, c⟩ := ih (k + 1) r (x ||| h (kM k) 6) (by omega) (by omega) (sm8_or hx h6.1)
        refine ⟨s', a, b, fun t ht => ?_⟩
        rw [c t ht, any_succ, e, bt_or, h6.2.1 t ht]
        simp [Bool.or_assoc]
theorem c_next {h A : Mem} (H : RC h A) (s : Int32) : ∃ s', m_X2_nextTo h s = some s' ∧ sm8 s' ∧ ∀ t, t < 8 → bt s' t = (List.range' 0 8).any (fun m => bt s m && sdp A m t) := by
  obtain ⟨s', a, b, c⟩ := c_next_loop H s 200 0 8 0 (by decide) rfl sm8_zero
  refine ⟨s', a, b, fun t ht => ?_⟩
  rw [c t ht, bt_zero]
  rfl
theorem c_rch_loop {h A : Mem} (H : RC h A) {m : Nat} (hm : m < 8) (x1 al : Int32) : ∀ n k (x : Int32), k ≤ 8 → 8 - k < n → sm8 x → gC A (bt al) m k (bt x) → ∃ s', m_X2_reachedSet_8 h x1 al n x (nI k) = some s' ∧ sm8 s' ∧ isC A (bt al) m (bt s') := by
  intro n
  induction n with
  | zero => intro k x h1 h2; omega
  | succ n ih =>
    intro k x h1 h2 hx hg
    rw [m_X2_reachedSet_8]
    by_cases hk : k = 8
    · subst hk
      rw [if_pos (by decide)]
      exact ⟨x, rfl, hx, hg.done⟩
    · rw [if_neg (lp_no (n := 8) (by omega) (by decide))]
      obtain ⟨s', a, b, c⟩ := c_next H x
      rw [a, Option.bind_some, zI_one]
      refine ih (k + 1) _ (by omega) (by omega) (sm8_or hx (sm8_and b)) (hg.step hm ⟨fun y hy hr => ?_, fun y hy hr t ht hd hs => ?_, fun T hT hi t ht hr => ?_⟩)
      · rw [bt_or, hr]
        rfl
      · rw [bt_or, bt_and, c t ht, hs]
        have : (List.range' 0 8).any (fun m => bt x m && sdp A m t) = true := by
          simp only [List.any_eq_true, List.mem_range', Bool.and_eq_true]
          exact ⟨y, ⟨y, by omega, by omega⟩, hr, hd⟩
        rw [this]
        simp
      · rw [bt_or, bt_and, c t ht] at hr
        simp only [Bool.or_eq_true, Bool.and_eq_true, List.any_eq_true, List.mem_range'] at hr
        rcases hr with hr | ⟨⟨y, ⟨z, hz, hyz⟩, hr, hd⟩, hs⟩
        · exact hi t ht hr
        · have hy : y < 8 := by omega
          exact hT y hy (hi y hy hr) t ht hd hs
theorem c_rch {h A : Mem} (H : RC h A) {m : Nat} (hm : m < 8) (al : Int32) : ∃ s', m_X2_reachedSet h (nI m) al = some s' ∧ sm8 s' ∧ isC A (bt al) m (bt s') :=
  c_rch_loop H hm _ al 200 0 _ (by decide) (by decide) (sm8_bit hm) (gC.start hm (fun x hx => bt_bit (by omega) (by omega)))
/-! the reference's -/
theorem r_cm_in {A : Mem} (hA : WF A) {S : Nat → Bool} (k70 : Mem → Int32 → Option (Mem × Int32)) (p1 x2 : Int32) : ∀ n k r (h : Mem) (R : Nat → Bool), r < n → k + r = 48 → RR h A → bA h 57 8 S → bA h 67 8 R →
    ∃ h' R', m_X3_load_78 k70 p1 n h x2 (nI k) = k70 h' (x2 + 1) ∧ Fq 67 68 h h' ∧ bA h' 67 8 R' ∧ (∀ x, x < 8 → R x = true → R' x = true) ∧
      (∀ i, k ≤ i → i < 48 → i % 6 < sc A (i / 6) → R (i / 6) = true → S (so A (i / 6) (i % 6)) = true → R' (so A (i / 6) (i % 6)) = true) ∧
      (∀ T, cC A S T → (∀ x, x < 8 → R x = true → T x = true) → ∀ x, x < 8 → R' x = true → T x = true) := by
  intro n
  induction n with
  | zero => intro k r h R h1; omega
  | succ n ih =>
    intro k r h R h1 h2 hR hS hB
    rw [m_X3_load_78]
    cases r with
    | zero =>
      rw [if_pos (lp_yes (n := 48) (by omega) (by omega))]
      exact ⟨h, R, rfl, Fq.rf h, hB, fun _ _ h => h, fun i a b => by omega, fun _ _ h => h⟩
    | succ r =>
      have hk : k < 48 := by omega
      have hm : k / 6 < 8 := by omega
      obtain ⟨w1, w2⟩ := hA.2.2.2.2.2.1 (k / 6) hm
      have skip : (k % 6 < sc A (k / 6) → R (k / 6) = true → S (so A (k / 6) (k % 6)) = true → False) → ∃ h' R', m_X3_load_78 k70 p1 n h x2 (nI (k + 1)) = k70 h' (x2 + 1) ∧ Fq 67 68 h h' ∧ bA h' 67 8 R' ∧ (∀ x, x < 8 → R x = true → R' x = true) ∧
      (∀ i, k ≤ i → i < 48 → i % 6 < sc A (i / 6) → R (i / 6) = true → S (so A (i / 6) (i % 6)) = true → R' (so A (i / 6) (i % 6)) = true) ∧
      (∀ T, cC A S T → (∀ x, x < 8 → R x = true → T x = true) → ∀ x, x < 8 → R' x = true → T x = true) := by
        intro hh
        obtain ⟨h', R', a1, a2, a3, a4, a5, a6⟩ := ih (k + 1) r h R (by omega) (by omega) hR hS hB
        refine ⟨h', R', a1, a2, a3, a4, fun i b1 b2 b3 b4 b5 => ?_, a6⟩
        by_cases e : i = k
        · subst e
          exact (hh b3 b4 b5).elim
        · exact a5 i (by omega) b2 b3 b4 b5
      rw [if_neg (lp_no (n := 48) (by omega) (by decide)), md6 k hk, dv6 k hk, gi_nI hm (by decide), gi_nI hm (by decide), zI_nat (by omega), hB _ hm, bI_if, hR.2.2.2.2.1, w2, zI_one]
      cases er : R (k / 6) with
      | false =>
        rw [if_neg (by decide)]
        exact skip (fun _ b => by rw [er] at b; cases b)
      | true =>
        rw [if_pos rfl]
        by_cases hj : sc A (k / 6) ≤ k % 6
        · rw [if_pos ((zI_le (by omega) (by omega)).mpr hj)]
          exact skip (fun a => by omega)
        · obtain ⟨v1, v2, v3⟩ := hA.2.2.2.2.2.2.1 (k / 6) hm (k % 6) (by omega)
          rw [k6] at v2
          rw [if_neg (fun hc => hj ((zI_le (by omega) (by omega)).mp hc)), gi_nI hk (by decide), gi_nI hk (by decide), zI_nat (by omega), hR.2.2.2.2.2.1, v2, gi_nI v1 (by decide), gi_nI v1 (by decide), zI_nat (by omega), hS _ v1, bI_if]
          cases es : S (so A (k / 6) (k % 6)) with
          | false =>
            rw [if_neg (by decide)]
            exact skip (fun _ _ c => by rw [es] at c; cases c)
          | true =>
            rw [if_pos rfl, nar_1]
            have f1 : Fq 67 68 h (mup h 67 (so A (k / 6) (k % 6)) (bI true)) := Fq.up1 (by decide) (by decide)
            obtain ⟨h', R', a1, a2, a3, a4, a5, a6⟩ := ih (k + 1) r (mup h 67 (so A (k / 6) (k % 6)) (bI true)) (bup R (so A (k / 6) (k % 6)) true) (by omega) (by omega) (hR.fd2 (f1.mono (by decide) (by decide))) (fun m hm => by rw [f1 57 (by omega)]; exact hS m hm) (hB.up _ _)
            have hup : ∀ x, R x = true → bup R (so A (k / 6) (k % 6)) true x = true := fun x hx => by
              unfold bup
              split
              · rfl
              · exact hx
            refine ⟨h', R', a1, f1.trans a2, a3, fun x hx hr => a4 x hx (hup x hr), fun i b1 b2 b3 b4 b5 => ?_, fun T hT hi => a6 T hT (fun x hx hr => ?_)⟩
            · by_cases e : i = k
              · subst e
                exact a4 _ v1 (by simp [bup])
              · exact a5 i (by omega) b2 b3 (hup _ b4) b5
            · unfold bup at hr
              split at hr
              · rename_i e
                subst e
                by_cases e : so A (k / 6) (k % 6) = k / 6
                · rw [e]
                  exact hi _ hm er
                · exact hT _ hm (hi _ hm er) _ v1 (sdp_iff.mpr ⟨k % 6, by omega, rfl, e⟩) es
              · exact hi x hx hr
/-- loaded with what has come: the places below k are done -/
def ld (L R : Nat → Bool) (k : Nat) : Nat → Bool := fun x => if x < k then L x || R x else L x
theorem r_ld_loop (p1 : Int32) {L R : Nat → Bool} : ∀ n k (h : Mem), k ≤ 8 → 8 - k < n → bA h 67 8 R → bA h 56 8 (ld L R k) →
    ∃ h', m_X3_load_154 p1 n h (nI (cnt (fun x => R x && !L x) k)) (nI k) = some (h', nI (cnt (fun x => R x && !L x) 8)) ∧ Fq 56 57 h h' ∧ bA h' 56 8 (ld L R 8) ∧ ∀ i, 8 ≤ i → h' 56 i = h 56 i := by
  intro n
  induction n with
  | zero => intro k h h1 h2; omega
  | succ n ih =>
    intro k h h1 h2 hR hL
    rw [m_X3_load_154]
    by_cases hk : k = 8
    · subst hk
      rw [if_pos (by decide)]
      exact ⟨h, rfl, Fq.rf h, hL, fun _ _ => rfl⟩
    · have hk8 : k < 8 := by omega
      have e0 : ld L R k k = L k := by simp [ld]
      have key : ∀ v : Bool, v = (L k || R k) → ∃ h', m_X3_load_154 p1 n (mup h 56 k (bI v)) (nI (cnt (fun x => R x && !L x) (k + 1))) (nI (k + 1)) = some (h', nI (cnt (fun x => R x && !L x) 8)) ∧ Fq 56 57 h h' ∧ bA h' 56 8 (ld L R 8) ∧ ∀ i, 8 ≤ i → h' 56 i = h 56 i := by
        intro v hv
        have f1 : Fq 56 57 h (mup h 56 k (bI v)) := Fq.up1 (by decide) (by decide)
        obtain ⟨h', a1, a2, a3, a4⟩ := ih (k + 1) (mup h 56 k (bI v)) (by omega) (by omega) (fun m hm => by rw [f1 67 (by omega)]; exact hR m hm) (fun x hx => by
          by_cases e : x = k
          · subst e
            rw [mup_eq, hv]
            simp [ld]
          · rw [mup_ni e, hL x hx]
            have : (x < k) ↔ (x < k + 1) := by omega
            simp [ld, this])
        exact ⟨h', a1, f1.trans a2, a3, fun i hi => by rw [a4 i hi, mup_ni (by omega)]⟩
      have hc : cnt (fun x => R x && !L x) (k + 1) = cnt (fun x => R x && !L x) k + (if (R k && !L k) then 1 else 0) := rfl
      rw [if_neg (lp_no (n := 8) (by omega) (by decide)), gi_nI hk8 (by decide), gi_nI hk8 (by decide)]
      unfold m_X3_load_185
      rw [gi_nI hk8 (by decide), gi_nI hk8 (by decide), gi_nI hk8 (by decide), zI_nat (by omega), hR k hk8, hL k hk8, e0]
      simp only [gi_nI hk8 (show 8 < 2 ^ 31 by decide), bI_if, zI_one, nar_0, nar_1]
      cases e1 : R k <;> cases e2 : L k <;> rw [e1, e2] at hc key <;> simp only [Bool.false_eq_true, if_false, if_true]
      · exact (by rw [show cnt (fun x => R x && !L x) (k + 1) = cnt (fun x => R x && !L x) k from hc] at key; exact key false rfl)
      · exact (by rw [show cnt (fun x => R x && !L x) (k + 1) = cnt (fun x => R x && !L x) k from hc] at key; exact key true rfl)
      · exact (by rw [show cnt (fun x => R x && !L x) (k + 1) = cnt (fun x => R x && !L x) k + 1 from hc] at key; exact key true rfl)
      · exact (by rw [show cnt (fun x => R x && !L x) (k + 1) = cnt (fun x => R x && !L x) k from hc] at key; exact key true rfl)
theorem r_cm_rnd {A : Mem} (hA : WF A) {S : Nat → Bool} {m : Nat} (hm : m < 8) (p1 : Int32) : ∀ n k (h : Mem) (R : Nat → Bool), k ≤ 8 → 8 - k < n → RR h A → bA h 57 8 S → bA h 67 8 R → gC A S m k R →
    ∃ h' R', m_X3_load_70 p1 n h (nI k) = some (h', nI (cnt (fun x => R' x && !sL A x) 8)) ∧ Fq 56 68 h h' ∧ (∀ i, i ≠ 56 → i ≠ 67 → h' i = h i) ∧ isC A S m R' ∧ bA h' 56 8 (fun x => sL A x || R' x) ∧ ∀ i, 8 ≤ i → h' 56 i = h 56 i := by
  intro n
  induction n with
  | zero => intro k h R h1 h2; omega
  | succ n ih =>
    intro k h R h1 h2 hR hS hB hg
    rw [m_X3_load_70]
    by_cases hk : k = 8
    · subst hk
      rw [if_pos (by decide)]
      obtain ⟨h', a1, a2, a3, a4⟩ := r_ld_loop p1 (L := sL A) (R := R) 200 0 h (by decide) (by decide) hB (fun x hx => by
        rw [hR.2.1, hA.2.1 x hx]
        simp [ld])
      refine ⟨h', R, a1, a2.mono (by decide) (by decide), fun i b1 _ => a2 i (by omega), hg.done, fun x hx => ?_, a4⟩
      rw [a3 x hx]
      simp [ld, hx]
    · rw [if_neg (lp_no (n := 8) (by omega) (by decide))]
      obtain ⟨h', R', a1, a2, a3, a4, a5, a6⟩ := r_cm_in hA (S := S) (fun gy yx2 => m_X3_load_70 p1 n gy yx2) p1 (nI k) 200 0 48 h R (by decide) rfl hR hS hB
      rw [show (0 : Int32) = nI 0 from rfl, a1, zI_one]
      have hr : rC A S R R' := by
        refine ⟨a4, fun x hx hr t ht hd hs => ?_, a6⟩
        obtain ⟨j, j1, j3, j4⟩ := sdp_iff.mp hd
        have hj6 := (hA.2.2.2.2.2.1 x hx).1
        have e1 : (6 * x + j) / 6 = x := by omega
        have e2 : (6 * x + j) % 6 = j := by omega
        have := a5 (6 * x + j) (by omega) (by omega) (by rw [e1, e2]; exact j1) (by rw [e1]; exact hr) (by rw [e1, e2, j3]; exact hs)
        rw [e1, e2, j3] at this
        exact this
      obtain ⟨h2', R2, b1, b2, b3, b4, b5, b6⟩ := ih (k + 1) h' R' (by omega) (by omega) (hR.fd2 (a2.mono (by decide) (by decide))) (fun m hm => by rw [a2 57 (by omega)]; exact hS m hm) a3 (hg.step hm hr)
      exact ⟨h2', R2, b1, (a2.mono (by decide) (by decide)).trans b2, fun i c1 c2 => by rw [b3 i c1 c2, a2 i (by omega)], b4, b5, fun i hi => by rw [b6 i hi, a2 56 (by omega)]⟩
theorem r_cm_cp {A : Mem} (hA : WF A) {S : Nat → Bool} {m : Nat} (hm : m < 8) : ∀ n k (h : Mem), k ≤ 8 → 8 - k < n → RR h A → bA h 57 8 S → (∀ x, x < k → h 67 x = bI (decide (m = x))) →
    ∃ h' R', m_X3_load_40 (nI m) n h (nI k) = some (h', nI (cnt (fun x => R' x && !sL A x) 8)) ∧ (∀ i, i ≠ 56 → i ≠ 67 → h' i = h i) ∧ isC A S m R' ∧ bA h' 56 8 (fun x => sL A x || R' x) ∧ ∀ i, 8 ≤ i → h' 56 i = h 56 i := by
  intro n
  induction n with
  | zero => intro k h h1 h2; omega
  | succ n ih =>
    intro k h h1 h2 hR hS hB
    rw [m_X3_load_40]
    by_cases hk : k = 8
    · subst hk
      rw [if_pos (by decide)]
      obtain ⟨h', R', a1, a2, a3, a4⟩ := r_cm_rnd hA (S := S) hm (nI m) 200 0 h (fun x => decide (m = x)) (by decide) (by decide) hR hS hB (gC.start hm (fun _ _ => rfl))
      exact ⟨h', R', a1, a3, a4⟩
    · have key : ∀ b : Bool, b = decide (m = k) → ∃ h' R', m_X3_load_40 (nI m) n (mup h 67 k (bI b)) (nI (k + 1)) = some (h', nI (cnt (fun x => R' x && !sL A x) 8)) ∧ (∀ i, i ≠ 56 → i ≠ 67 → h' i = h i) ∧ isC A S m R' ∧ bA h' 56 8 (fun x => sL A x || R' x) ∧ ∀ i, 8 ≤ i → h' 56 i = h 56 i := by
        intro b hb
        have f1 : Fq 67 68 h (mup h 67 k (bI b)) := Fq.up1 (by decide) (by decide)
        obtain ⟨h', R', a1, a2, a3, a4, a5⟩ := ih (k + 1) (mup h 67 k (bI b)) (by omega) (by omega) (hR.fd2 (f1.mono (by decide) (by decide))) (fun m hm => by rw [f1 57 (by omega)]; exact hS m hm) (fun x hx => by
          by_cases e : x = k
          · subst e
            rw [mup_eq, hb]
          · rw [mup_ni e, hB x (by omega)])
        exact ⟨h', R', a1, fun i c1 c2 => by rw [a2 i c1 c2, f1 i (by omega)], a3, a4, fun i hi => by rw [a5 i hi, f1 56 (by omega)]⟩
      rw [if_neg (lp_no (n := 8) (by omega) (by decide)), gi_nI (by omega) (by decide), gi_nI (by omega) (by decide), zI_one, zI_nat (by omega), nar_0, nar_1]
      by_cases e : k = m
      · subst e
        rw [if_pos rfl]
        exact key true (by simp)
      · rw [if_neg (fun hc => e (zI_inj (by omega) (by omega) hc))]
        exact key false (by simp; omega)
