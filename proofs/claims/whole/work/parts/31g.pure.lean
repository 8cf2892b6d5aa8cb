/-! PURE: the reference's row -/
def FS (h h' : Mem) : Prop := (∀ k, k ≠ 54 → k ≠ 65 → k ≠ 66 → k ≠ 68 → k ≠ 69 → h' k = h k) ∧ ∀ i, i ≠ 12 → h' 54 i = h 54 i
theorem FS.rf (h : Mem) : FS h h := ⟨fun _ _ _ _ _ _ => rfl, fun _ _ => rfl⟩
theorem FS.trans {a b c : Mem} (h1 : FS a b) (h2 : FS b c) : FS a c := ⟨fun k a1 a2 a3 a4 a5 => (h2.1 k a1 a2 a3 a4 a5).trans (h1.1 k a1 a2 a3 a4 a5), fun i hi => (h2.2 i hi).trans (h1.2 i hi)⟩
theorem FS.up {a b : Mem} {k i : Nat} {v : Int32} (h : FS a b) (hk : (k = 65 ∨ k = 66 ∨ k = 68 ∨ k = 69) ∨ (k = 54 ∧ i = 12)) : FS a (mup b k i v) := by
  refine ⟨fun x a1 a2 a3 a4 a5 => ?_, fun y hy => ?_⟩
  · funext y
    rw [mup_nk (by omega), h.1 x a1 a2 a3 a4 a5]
  · rw [mup_ne (by omega), h.2 y hy]
theorem RR.fs {h h' A : Mem} (H : RR h A) (f : FS h h') : RR h' A := by
  have e : ∀ k, 54 < k → k < 65 → h' k = h k := fun k _ _ => f.1 k (by omega) (by omega) (by omega) (by omega) (by omega)
  unfold RR
  rw [f.2 11 (by decide), e 55 (by omega) (by omega), e 56 (by omega) (by omega), e 58 (by omega) (by omega), e 59 (by omega) (by omega), e 60 (by omega) (by omega), e 61 (by omega) (by omega), e 62 (by omega) (by omega), e 63 (by omega) (by omega), e 64 (by omega) (by omega)]
  exact H
def Rr (h : Mem) (s : List Nat × List Nat) : Prop := h 54 12 = nI s.1.length ∧ (∀ i x, s.1[i]? = some x → h 65 i = nI x) ∧ ∀ t, t < 8 → h 66 t = bI (s.2.contains t)
theorem Rr.keep {h h' : Mem} {s : List Nat × List Nat} (H : Rr h s) (f : ∀ k, k = 54 ∨ k = 65 ∨ k = 66 → h' k = h k) : Rr h' s := by
  unfold Rr
  rw [f 54 (by omega), f 65 (by omega), f 66 (by omega)]
  exact H
theorem Rr.k69 {h : Mem} {s : List Nat × List Nat} {i : Nat} {v : Int32} (H : Rr h s) : Rr (mup h 69 i v) s := H.keep (fun k hk => by funext y; exact mup_nk (by omega))
theorem bI_if1 {α : Type} (b : Bool) (x y : α) : (if bI b = 1 then x else y) = (if b then x else y) := by cases b <;> rfl
theorem r_app_loop {h : Mem} {s : List Nat × List Nat} (hw : Rr h s) (h8 : s.1.length ≤ 8) (hall : ∀ x ∈ s.1, x < 8) {m : Nat} (hm : m < 8) : ∀ n k, k ≤ s.1.length → s.1.length - k < n → m_X3_append_4 (nI m) n h (bI ((s.1.take k).contains m)) (nI k) = (if s.1.contains m then some h else gi (nI s.1.length) 8 (some (mup (mup h 65 s.1.length (nI m)) 54 12 (nI (s.1.length + 1))))) := by
  intro n
  induction n with
  | zero => intro k h1 h2; omega
  | succ n ih =>
    intro k h1 h2
    rw [m_X3_append_4, hw.1]
    by_cases hk : k = s.1.length
    · subst hk
      rw [if_pos ((zI_le (by omega) (by omega)).mpr (Nat.le_refl _)), List.take_length, bI_if, zI_nat (by omega), mup_nk (by decide), hw.1, zI_one]
    · rw [if_neg (fun hc => by have := (zI_le (by omega) (by omega)).mp hc; omega), bI_if, gi_nI (by omega) (by decide), zI_nat (by omega), zI_one]
      have hx : ∃ x, s.1[k]? = some x := ⟨s.1[k]'(by omega), List.getElem?_eq_getElem (by omega)⟩
      obtain ⟨x, hx⟩ := hx
      have e := ih (k + 1) (by omega) (by omega)
      rw [List.take_add_one, hx, List.contains_append] at e
      have hx8 : x < 8 := hall x (List.mem_of_getElem? hx)
      cases ec : (s.1.take k).contains m with
      | true =>
        rw [ec] at e
        rw [if_pos rfl]
        exact e
      | false =>
        rw [ec] at e
        rw [if_neg (by decide), hw.2.1 k x hx]
        by_cases em : x = m
        · subst em
          rw [if_pos rfl, show (1 : Int32) = bI true from rfl]
          simpa using e
        · rw [if_neg (fun hc => em (zI_inj (by omega) (by omega) hc))]
          have em' : ¬ m = x := fun h => em h.symm
          rw [show (0 : Int32) = bI false from rfl]
          simpa [em'] using e
theorem r_app {h A : Mem} {s : List Nat × List Nat} (hs : gS A s) (hw : Rr h s) {m : Nat} (hm : m < 8) : ∃ h', m_X3_append h (nI m) = some h' ∧ FS h h' ∧ (∀ k, k = 68 ∨ k = 69 → h' k = h k) ∧ Rr h' (app true m s) := by
  have l8 := nd_len 8 s.1 hs.1 (fun x hx => (hs.2.2.1 x hx).1)
  have e := r_app_loop hw l8 (fun x hx => (hs.2.2.1 x hx).1) hm 200 0 (by omega) (by omega)
  unfold m_X3_append
  rw [show (0 : Int32) = bI ((s.1.take 0).contains m) from rfl, show bI ((s.1.take 0).contains m) = nI 0 from rfl]
  rw [show bI ((s.1.take 0).contains m) = nI 0 from rfl] at e
  rw [e]
  unfold app
  cases hc : s.1.contains m with
  | true => exact ⟨h, rfl, FS.rf h, fun _ _ => rfl, hw⟩
  | false =>
    have hlt := nd_lt hs.1 (fun x hx => (hs.2.2.1 x hx).1) hm hc
    rw [if_neg (by decide), gi_nI hlt (by decide)]
    refine ⟨_, rfl, ((FS.rf h).up (by omega)).up (by omega), fun k hk => ?_, ?_, fun i x hi => ?_, fun t ht => ?_⟩
    · funext y
      rw [mup_nk (by omega), mup_nk (by omega)]
    · rw [mup_eq]
      simp
    · rw [mup_nk (by decide)]
      simp only [Bool.not_false, Bool.and_self, if_true] at hi
      rw [List.getElem?_append] at hi
      split at hi
      · rename_i hl
        rw [mup_ni (by omega)]
        exact hw.2.1 i x hi
      · by_cases e0 : i = s.1.length
        · subst e0
          simp at hi
          rw [mup_eq, hi]
        · rw [show i - s.1.length = (i - s.1.length - 1) + 1 by omega] at hi
          simp at hi
    · rw [mup_nk (by decide), mup_nk (by decide)]
      exact hw.2.2 t ht
theorem sub1 (n : Nat) : nI (n + 1) - 1 = nI n := by
  rw [← zI_one n, Int32.add_sub_cancel]
/-- the top of the stack, n, is gone through from its place k on, with what is put upon it -/
def seeP (A : Mem) (p : Nat) (p1 : Int32) (d : Nat) : Prop := ∀ r k N n h s x t, k + r = sc A x → x < 8 → sL A x = true → RR h A → Rr h s → gS A s → n ≤ s.2.length → 8 ≤ s.2.length + d → h 68 n = nI x → h 69 n = nI k → t + 7 * (8 - s.2.length) + r + 1 ≤ N →
  ∃ h' N', m_X3_see_42 p1 (nI p) N h (nI (n + 1)) = m_X3_see_42 p1 (nI p) N' h' (nI n) ∧ Rr h' (sLp A p (decide (n = 0)) (sX A p d) x k r s) ∧ FS h h' ∧ (∀ i, i < n → h' 68 i = h 68 i ∧ h' 69 i = h 69 i) ∧ t + 7 * (8 - (sLp A p (decide (n = 0)) (sX A p d) x k r s).2.length) ≤ N'
theorem see_step {A : Mem} (hA : WF A) {p : Nat} (hp6 : p < 6) {p1 : Int32} {d : Nat} (ihd : ∀ d', d = d' + 1 → seeP A p p1 d') : seeP A p p1 d := by
  intro r
  induction r with
  | zero =>
    intro k N n h s x t hk hx hl hR hw hs hn hd h68 h69 hN
    have b8 := nd_len 8 s.2 hs.2.1 (fun x hx => (hs.2.2.2 x hx).1)
    have hc6 := hA.2.2.2.2.2.1 x hx
    obtain ⟨N, rfl⟩ : ∃ N', N = N' + 1 := ⟨N - 1, by omega⟩
    rw [m_X3_see_42, if_neg (fun hc => by have := (zI_le (b := 0) (by omega) (by decide)).mp hc; omega), sub1, gi_nI (by omega) (by decide), gi_nI (by omega) (by decide), gi_nI (by omega) (by decide), zI_nat (by omega), h68, gi_nI hx (by decide), zI_nat (by omega), hR.2.2.2.2.1, hc6.2, h69, if_pos ((zI_le (by omega) (by omega)).mpr (by omega))]
    unfold m_X3_see_95
    rw [sub1, gi_nI (by omega) (by decide), gi_nI (by omega) (by decide), if_pos rfl, zI_nat (by omega)]
    refine ⟨_, N, rfl, hw.k69, (FS.rf h).up (by omega), fun i hi => ⟨mup_nk (by decide), mup_ni (by omega)⟩, ?_⟩
    show t + 7 * (8 - s.2.length) ≤ N
    omega
  | succ r ih =>
    intro k N n h s x t hk hx hl hR hw hs hn hd h68 h69 hN
    have b8 := nd_len 8 s.2 hs.2.1 (fun x hx => (hs.2.2.2 x hx).1)
    have hc6 := hA.2.2.2.2.2.1 x hx
    have hkc : k < sc A x := by omega
    obtain ⟨v1, v2, v3⟩ := hA.2.2.2.2.2.2.1 x hx k hkc
    obtain ⟨N, rfl⟩ : ∃ N', N = N' + 1 := ⟨N - 1, by omega⟩
    rw [m_X3_see_42, if_neg (fun hc => by have := (zI_le (b := 0) (by omega) (by decide)).mp hc; omega), sub1, gi_nI (by omega) (by decide), gi_nI (by omega) (by decide), gi_nI (by omega) (by decide), zI_nat (by omega), h68, gi_nI hx (by decide), zI_nat (by omega), hR.2.2.2.2.1, hc6.2, h69, if_neg (fun hc => by have := (zI_le (by omega) (by omega)).mp hc; omega), x6]
    unfold m_X3_see_95
    rw [sub1, gi_nI (by omega) (by decide), gi_nI (by omega) (by decide), if_neg (by decide), zI_nat (by omega), h69, zI_one, gi_nI (by omega) (by decide), zI_nat (by omega)]
    obtain ⟨h1, e1⟩ : ∃ h1, h1 = mup h 69 n (nI (k + 1)) := ⟨_, rfl⟩
    rw [← e1]
    have f1 : FS h h1 := by rw [e1]; exact (FS.rf h).up (by omega)
    have hR1 : RR h1 A := hR.fs f1
    have hw1 : Rr h1 s := by rw [e1]; exact hw.k69
    have g68 : ∀ i, h1 68 i = h 68 i := fun i => by rw [e1]; exact mup_nk (by decide)
    have g69 : ∀ i, i ≠ n → h1 69 i = h 69 i := fun i hi => by rw [e1]; exact mup_ni hi
    have gn : h1 69 n = nI (k + 1) := by rw [e1, mup_eq]
    -- all that leaves the stack as it is
    have go : ∀ h2 s2, stp A p (decide (n = 0)) (sX A p d) x k s = s2 → Rr h2 s2 → FS h1 h2 → (∀ k, k = 68 ∨ k = 69 → h2 k = h1 k) → gS A s2 → s2.2.length = s.2.length →
        ∃ h' N', m_X3_see_42 p1 (nI p) N h2 (nI (n + 1)) = m_X3_see_42 p1 (nI p) N' h' (nI n) ∧ Rr h' (sLp A p (decide (n = 0)) (sX A p d) x k (r + 1) s) ∧ FS h h' ∧ (∀ i, i < n → h' 68 i = h 68 i ∧ h' 69 i = h 69 i) ∧ t + 7 * (8 - (sLp A p (decide (n = 0)) (sX A p d) x k (r + 1) s).2.length) ≤ N' := by
      intro h2 s2 es hw2 f2 g2 hs2 hl2
      obtain ⟨h', N', a1, a2, a3, a4, a5⟩ := ih (k + 1) N n h2 s2 x t (by omega) hx hl (hR1.fs f2) hw2 hs2 (by omega) (by omega) (by rw [g2 68 (.inl rfl), g68]; exact h68) (by rw [g2 69 (.inr rfl)]; exact gn) (by rw [hl2]; omega)
      rw [sLp, es]
      refine ⟨h', N', a1, a2, (f1.trans f2).trans a3, fun i hi => ?_, a5⟩
      have := a4 i hi
      rw [g2 68 (.inl rfl), g2 69 (.inr rfl), g68, g69 i (by omega)] at this
      exact this
    rw [hR1.2.2.2.2.2.1, v2]
    by_cases e : so A x k = x
    · rw [e, if_pos rfl, r_hp hR1 hx hp6, Option.bind_some, bI_if]
      have es : stp A p (decide (n = 0)) (sX A p d) x k s = app (hp A x p) x s := by
        unfold stp
        rw [if_pos e]
      cases eh : hp A x p with
      | false =>
        rw [if_neg (by decide)]
        exact go h1 s (by rw [es, eh]; rfl) hw1 (FS.rf h1) (fun _ _ => rfl) hs rfl
      | true =>
        rw [if_pos rfl]
        obtain ⟨h2, b1, b2, b3, b4⟩ := r_app hs hw1 hx
        rw [b1, Option.bind_some]
        have := app_good (b := true) hx hl hs
        exact go h2 _ (by rw [es, eh]) b4 b2 b3 this.1 (by rw [this.2])
    · rw [if_neg (fun hc => e (zI_inj (by omega) (by omega) hc))]
      simp only [gi_nI (show 6 * x + k < 48 by omega) (show 48 < 2 ^ 31 by decide), gi_nI v1 (show 8 < 2 ^ 31 by decide), zI_nat (show so A x k < 2 ^ 31 by omega), hR1.2.1, hA.2.1 _ v1, hw1.2.2 _ v1, bI_if, bI_if1, hR1.2.2.2.2.2.2.1, hR1.2.2.2.2.2.2.2.1, bt_sh _ (show p < 32 by omega)]
      have es : stp A p (decide (n = 0)) (sX A p d) x k s = if bt (si A x k) p && (decide (n = 0) || bt (se A x k) p) then sX A p d (so A x k) s else s := by
        unfold stp
        rw [if_neg e]
      rw [show A 62 (6 * x + k) = si A x k from rfl, show A 63 (6 * x + k) = se A x k from rfl]
      have stay : stp A p (decide (n = 0)) (sX A p d) x k s = s → ∃ h' N', m_X3_see_42 p1 (nI p) N h1 (nI (n + 1)) = m_X3_see_42 p1 (nI p) N' h' (nI n) ∧ Rr h' (sLp A p (decide (n = 0)) (sX A p d) x k (r + 1) s) ∧ FS h h' ∧ (∀ i, i < n → h' 68 i = h 68 i ∧ h' 69 i = h 69 i) ∧ t + 7 * (8 - (sLp A p (decide (n = 0)) (sX A p d) x k (r + 1) s).2.length) ≤ N' := fun es2 => go h1 s es2 hw1 (FS.rf h1) (fun _ _ => rfl) hs rfl
      cases el : sL A (so A x k) with
      | false =>
        rw [if_neg (by decide)]
        refine stay ?_
        rw [es]
        split
        · cases d with
          | zero => rfl
          | succ d => rw [sX, if_neg (by rw [el]; simp)]
        · rfl
      | true =>
        rw [if_pos rfl]
        cases eb : s.2.contains (so A x k) with
        | true =>
          rw [if_pos rfl]
          refine stay ?_
          rw [es]
          split
          · cases d with
            | zero => rfl
            | succ d => rw [sX, if_neg (by rw [eb]; simp)]
          · rfl
        | false =>
          rw [if_neg (by decide)]
          have push : bt (si A x k) p = true → (decide (n = 0) || bt (se A x k) p) = true → ∃ h' N', m_X3_see_223 (fun gy yx3 => m_X3_see_42 p1 (nI p) N gy yx3) p1 (nI p) h1 (nI (n + 1)) (nI x) (nI (6 * x + k)) 1 = m_X3_see_42 p1 (nI p) N' h' (nI n) ∧ Rr h' (sLp A p (decide (n = 0)) (sX A p d) x k (r + 1) s) ∧ FS h h' ∧ (∀ i, i < n → h' 68 i = h 68 i ∧ h' 69 i = h 69 i) ∧ t + 7 * (8 - (sLp A p (decide (n = 0)) (sX A p d) x k (r + 1) s).2.length) ≤ N' := by
            intro q1 q2
            have hlt := nd_lt hs.2.1 (fun x hx => (hs.2.2.2 x hx).1) v1 eb
            obtain ⟨d', rfl⟩ : ∃ d', d = d' + 1 := ⟨d - 1, by omega⟩
            unfold m_X3_see_223
            rw [gi_nI (by omega) (by decide), gi_nI (by omega) (by decide), gi_nI (by omega) (by decide), gi_nI (by omega) (by decide), zI_nat (by omega), zI_nat (by omega), hR1.2.2.2.2.2.1, v2, gi_nI v1 (by decide), zI_nat (by omega), mup_nk (by decide), hR1.2.2.2.2.2.1, v2, nar_1, zI_one]
            obtain ⟨h3, e3⟩ : ∃ h3, h3 = mup (mup (mup h1 66 (so A x k) (bI true)) 68 (n + 1) (nI (so A x k))) 69 (n + 1) 0 := ⟨_, rfl⟩
            rw [← e3]
            have f3 : FS h1 h3 := by rw [e3]; exact (((FS.rf h1).up (by omega)).up (by omega)).up (by omega)
            have hw3 : Rr h3 (s.1, so A x k :: s.2) := by
              rw [e3]
              refine ⟨?_, fun i y hi => ?_, fun y hy => ?_⟩
              · rw [mup_nk (by decide), mup_nk (by decide), mup_nk (by decide)]
                exact hw1.1
              · rw [mup_nk (by decide), mup_nk (by decide), mup_nk (by decide)]
                exact hw1.2.1 i y hi
              · rw [mup_nk (by decide), mup_nk (by decide), List.contains_cons]
                by_cases ey : y = so A x k
                · subst ey
                  rw [mup_eq]
                  simp
                · rw [mup_ni ey, hw1.2.2 y hy, show (y == so A x k) = false from beq_eq_false_iff_ne.mpr ey, Bool.false_or]
            have hs3 := gS_cons v1 el eb hs
            have hcy := (hA.2.2.2.2.2.1 _ v1).1
            obtain ⟨h4, N4, a1, a2, a3, a4, a5⟩ := ihd d' rfl (sc A (so A x k)) 0 N (n + 1) h3 (s.1, so A x k :: s.2) (so A x k) (t + r + 1) (by omega) v1 el (hR1.fs f3) hw3 hs3 (by simp; omega) (by simp; omega) (by rw [e3, mup_nk (by decide), mup_eq]) (by rw [e3, mup_eq]; rfl) (by simp; omega)
            rw [show decide (n + 1 = 0) = false by simp] at a2 a5
            have es2 : stp A p (decide (n = 0)) (sX A p (d' + 1)) x k s = sLp A p false (sX A p d') (so A x k) 0 (sc A (so A x k)) (s.1, so A x k :: s.2) := by
              rw [es, q1, q2]
              show sX A p (d' + 1) (so A x k) s = _
              rw [sX, el, eb]
              rfl
            have hg := sLp_good hA (p := p) (root := false) (rec := sX A p d') v1 el (fun t s ht h => sX_good hA d' t s ht h) (sc A (so A x k)) 0 _ (by omega) hs3
            have hlen : s.2.length + 1 ≤ (sLp A p false (sX A p d') (so A x k) 0 (sc A (so A x k)) (s.1, so A x k :: s.2)).2.length := hg.2
            show ∃ h' N', m_X3_see_42 p1 (nI p) N h3 (nI (n + 1 + 1)) = m_X3_see_42 p1 (nI p) N' h' (nI n) ∧ _
            rw [a1]
            obtain ⟨h', N', b1, b2, b3, b4, b5⟩ := ih (k + 1) N4 n h4 _ x t (by omega) hx hl ((hR1.fs f3).fs a3) a2 hg.1 (by omega) (by omega) (by rw [(a4 n (by omega)).1, e3, mup_nk (by decide), mup_ni (by omega), mup_nk (by decide), g68]; exact h68) (by rw [(a4 n (by omega)).2, e3, mup_ni (by omega), mup_nk (by decide), mup_nk (by decide)]; exact gn) (by omega)
            rw [sLp, es2]
            refine ⟨h', N', b1, b2, ((f1.trans f3).trans a3).trans b3, fun i hi => ?_, b5⟩
            have c1 := b4 i hi
            rw [(a4 i (by omega)).1, (a4 i (by omega)).2, e3] at c1
            rw [mup_nk (by decide), mup_ni (by omega), mup_nk (by decide), g68, mup_ni (by omega), mup_nk (by decide), mup_nk (by decide), g69 i (by omega)] at c1
            exact c1
          cases q1 : bt (si A x k) p with
          | false =>
            rw [if_neg (by decide)]
            exact stay (by rw [es, q1]; rfl)
          | true =>
            rw [if_pos rfl]
            by_cases hn0 : n = 0
            · rw [if_pos (by rw [hn0]; rfl)]
              exact push q1 (by simp [hn0])
            · rw [if_neg (fun hc => hn0 (by have := zI_inj (b := 1) (by omega) (by decide) hc; omega))]
              cases q2 : bt (se A x k) p with
              | false =>
                rw [if_neg (by decide)]
                exact stay (by rw [es, q2]; simp [hn0])
              | true =>
                rw [if_pos rfl]
                exact push q1 (by rw [q2]; simp)
theorem see_all {A : Mem} (hA : WF A) {p : Nat} (hp6 : p < 6) {p1 : Int32} : ∀ d, seeP A p p1 d
  | 0 => see_step hA hp6 (fun d' h => by omega)
  | d + 1 => see_step hA hp6 (fun d' h => by cases h; exact see_all hA hp6 d)
theorem r_see_clr {A : Mem} (hA : WF A) {p m : Nat} (hp6 : p < 6) (hm : m < 8) (hl : sL A m = true) : ∀ n k h, k ≤ 8 → 8 - k < n → RR h A → h 54 12 = 0 → (∀ x, x < k → h 66 x = 0) → ∃ h', m_X3_see_7 (nI m) (nI p) n h (nI k) = some h' ∧ FS h h' ∧ h' 54 12 = nI (sV A p m).length ∧ ∀ i x, (sV A p m)[i]? = some x → h' 65 i = nI x := by
  intro n
  induction n with
  | zero => intro k h h1 h2; omega
  | succ n ih =>
    intro k h h1 h2 hR h0 h6
    rw [m_X3_see_7]
    by_cases hk : k = 8
    · subst hk
      have hc6 := (hA.2.2.2.2.2.1 m hm).1
      rw [if_pos (by decide), show (0 : Int32) = nI 0 from rfl, gi_nI (by decide) (by decide), gi_nI (by decide) (by decide), zI_nat (by decide)]
      obtain ⟨h1', e1⟩ : ∃ z, z = mup (mup h 68 0 (nI m)) 69 0 (nI 0) := ⟨_, rfl⟩
      rw [← e1]
      have f1 : FS h h1' := by rw [e1]; exact ((FS.rf h).up (by omega)).up (by omega)
      obtain ⟨h', N', a1, a2, a3, a4, a5⟩ := see_all hA hp6 (p1 := nI m) 8 (sc A m) 0 200 0 h1' ([], []) m 1 (by omega) hm hl (hR.fs f1) ⟨by rw [e1, mup_nk (by decide), mup_nk (by decide), h0]; rfl, fun i x hi => by simp at hi, fun t ht => by rw [e1, mup_nk (by decide), mup_nk (by decide), h6 t ht]; rfl⟩ gS_nil (by simp) (by simp) (by rw [e1, mup_nk (by decide), mup_eq]) (by rw [e1, mup_eq]) (by simp; omega)
      rw [show (1 : Int32) = nI (0 + 1) from rfl, a1]
      obtain ⟨N', rfl⟩ : ∃ z, N' = z + 1 := ⟨N' - 1, by omega⟩
      rw [m_X3_see_42, if_pos (by decide)]
      exact ⟨h', rfl, f1.trans a3, a2.1, a2.2.1⟩
    · rw [if_neg (lp_no (n := 8) (by omega) (by decide)), gi_nI (by omega) (by decide), zI_one, zI_nat (by omega), nar_0]
      have f1 : FS h (mup h 66 k (bI false)) := (FS.rf h).up (by omega)
      obtain ⟨h', a1, a2, a3⟩ := ih (k + 1) (mup h 66 k (bI false)) (by omega) (by omega) (hR.fs f1) (by rw [mup_nk (by decide)]; exact h0) (fun x hx => by
        by_cases e : x = k
        · subst e
          rw [mup_eq]
          rfl
        · rw [mup_ni e, h6 x (by omega)])
      exact ⟨h', a1, f1.trans a2, a3⟩
theorem r_see {h A : Mem} (hA : WF A) (hR : RR h A) {p m : Nat} (hp6 : p < 6) (hm : m < 8) (hl : sL A m = true) : ∃ h', m_X3_see h (nI m) (nI p) = some h' ∧ FS h h' ∧ h' 54 12 = nI (sV A p m).length ∧ ∀ i x, (sV A p m)[i]? = some x → h' 65 i = nI x := by
  have f1 : FS h (mup h 54 12 0) := (FS.rf h).up (by omega)
  obtain ⟨h', a1, a2, a3⟩ := r_see_clr hA hp6 hm hl 200 0 (mup h 54 12 0) (by decide) (by decide) (hR.fs f1) (mup_eq _ _ _ _) (fun x hx => by omega)
  exact ⟨h', a1, f1.trans a2, a3⟩
