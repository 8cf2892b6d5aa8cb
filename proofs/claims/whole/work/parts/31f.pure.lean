/-! PURE: the rows: what both sides go through -/
def app (b : Bool) (m : Nat) (s : List Nat × List Nat) : List Nat × List Nat := if b && !s.1.contains m then (s.1 ++ [m], s.2) else s
def stp (A : Mem) (p : Nat) (root : Bool) (rec : Nat → List Nat × List Nat → List Nat × List Nat) (m j : Nat) (s : List Nat × List Nat) : List Nat × List Nat :=
  if so A m j = m then app (hp A m p) m s else if bt (si A m j) p && (root || bt (se A m j) p) then rec (so A m j) s else s
def sLp (A : Mem) (p : Nat) (root : Bool) (rec : Nat → List Nat × List Nat → List Nat × List Nat) (m : Nat) : Nat → Nat → List Nat × List Nat → List Nat × List Nat
  | _, 0, s => s
  | k, r + 1, s => sLp A p root rec m (k + 1) r (stp A p root rec m k s)
def sX (A : Mem) (p : Nat) : Nat → Nat → List Nat × List Nat → List Nat × List Nat
  | 0, _, s => s
  | d + 1, m, s => if sL A m && !s.2.contains m then sLp A p false (sX A p d) m 0 (sc A m) (s.1, m :: s.2) else s
def sV (A : Mem) (p m : Nat) : List Nat := (sLp A p true (sX A p 8) m 0 (sc A m) ([], [])).1
def gS (A : Mem) (s : List Nat × List Nat) : Prop := s.1.Nodup ∧ s.2.Nodup ∧ (∀ x ∈ s.1, x < 8 ∧ sL A x = true) ∧ (∀ x ∈ s.2, x < 8 ∧ sL A x = true)
theorem nd_len : ∀ (n : Nat) (l : List Nat), l.Nodup → (∀ x ∈ l, x < n) → l.length ≤ n
  | 0, l, _, h => by
    cases l with
    | nil => exact Nat.le_refl _
    | cons a l => exact absurd (h a List.mem_cons_self) (Nat.not_lt_zero _)
  | n + 1, l, hn, h => by
    by_cases hm : n ∈ l
    · have h1 := nd_len n (l.erase n) (hn.erase n) (fun x hx => by
        have := (hn.mem_erase_iff).mp hx
        have := h x this.2
        omega)
      rw [List.length_erase_of_mem hm] at h1
      omega
    · have := nd_len n l hn (fun x hx => by
        have h1 := h x hx
        have h2 : x ≠ n := fun e => hm (e ▸ hx)
        omega)
      omega
theorem nd_lt {l : List Nat} {m : Nat} (hn : l.Nodup) (h : ∀ x ∈ l, x < 8) (hm : m < 8) (hc : l.contains m = false) : l.length < 8 := by
  have hnm : m ∉ l := fun hx => by
    rw [List.contains_iff_mem.mpr hx] at hc
    cases hc
  have := nd_len 8 (m :: l) (List.nodup_cons.mpr ⟨hnm, hn⟩) (fun x hx => by
    rcases List.mem_cons.mp hx with rfl | hx
    · exact hm
    · exact h x hx)
  exact this
theorem app_good {A : Mem} {b : Bool} {m : Nat} {s : List Nat × List Nat} (hm : m < 8) (hl : sL A m = true) (h : gS A s) : gS A (app b m s) ∧ (app b m s).2 = s.2 := by
  unfold app
  split
  · rename_i e
    simp only [Bool.and_eq_true, Bool.not_eq_true'] at e
    refine ⟨⟨?_, h.2.1, fun x hx => ?_, h.2.2.2⟩, rfl⟩
    · have hnm : m ∉ s.1 := fun hx => by
        rw [List.contains_iff_mem.mpr hx] at e
        cases e.2
      rw [List.nodup_append]
      refine ⟨h.1, by simp, fun a ha b hb => ?_⟩
      rintro rfl
      simp at hb
      exact hnm (hb ▸ ha)
    · rcases List.mem_append.mp hx with hx | hx
      · exact h.2.2.1 x hx
      · simp at hx
        subst hx
        exact ⟨hm, hl⟩
  · exact ⟨h, rfl⟩
theorem sLp_good {A : Mem} (hA : WF A) {p : Nat} {root : Bool} {rec : Nat → List Nat × List Nat → List Nat × List Nat} {m : Nat} (hm : m < 8) (hl : sL A m = true) (hr : ∀ t s, t < 8 → gS A s → gS A (rec t s) ∧ s.2.length ≤ (rec t s).2.length) :
    ∀ r k s, k + r = sc A m → gS A s → gS A (sLp A p root rec m k r s) ∧ s.2.length ≤ (sLp A p root rec m k r s).2.length
  | 0, _, s, _, h => ⟨h, Nat.le_refl _⟩
  | r + 1, k, s, hk, h => by
    have hv := hA.2.2.2.2.2.2.1 m hm k (by omega)
    have h1 : gS A (stp A p root rec m k s) ∧ s.2.length ≤ (stp A p root rec m k s).2.length := by
      unfold stp
      split
      · have := app_good (b := hp A m p) hm hl h
        exact ⟨this.1, by rw [this.2]; exact Nat.le_refl _⟩
      · split
        · exact hr _ s hv.1 h
        · exact ⟨h, Nat.le_refl _⟩
    have h2 := sLp_good hA (p := p) (root := root) (rec := rec) hm hl hr r (k + 1) _ (by omega) h1.1
    exact ⟨h2.1, Nat.le_trans h1.2 h2.2⟩
theorem gS_cons {A : Mem} {m : Nat} {s : List Nat × List Nat} (hm : m < 8) (hl : sL A m = true) (hc : s.2.contains m = false) (h : gS A s) : gS A (s.1, m :: s.2) := by
  have hnm : m ∉ s.2 := fun hx => by
    rw [List.contains_iff_mem.mpr hx] at hc
    cases hc
  refine ⟨h.1, List.nodup_cons.mpr ⟨hnm, h.2.1⟩, h.2.2.1, fun x hx => ?_⟩
  rcases List.mem_cons.mp hx with rfl | hx
  · exact ⟨hm, hl⟩
  · exact h.2.2.2 x hx
theorem sX_good {A : Mem} (hA : WF A) {p : Nat} : ∀ d t s, t < 8 → gS A s → gS A (sX A p d t s) ∧ s.2.length ≤ (sX A p d t s).2.length
  | 0, _, s, _, h => ⟨h, Nat.le_refl _⟩
  | d + 1, t, s, ht, h => by
    rw [sX]
    split
    · rename_i e
      simp only [Bool.and_eq_true, Bool.not_eq_true'] at e
      have := sLp_good hA (p := p) (root := false) (rec := sX A p d) ht e.1 (fun t s ht h => sX_good hA d t s ht h) (sc A t) 0 (s.1, t :: s.2) (by omega) (gS_cons ht e.1 e.2 h)
      refine ⟨this.1, Nat.le_trans ?_ this.2⟩
      simp
    · exact ⟨h, Nat.le_refl _⟩
theorem gS_nil {A : Mem} : gS A ([], []) := ⟨List.nodup_nil, List.nodup_nil, fun _ h => (List.not_mem_nil h).elim, fun _ h => (List.not_mem_nil h).elim⟩
theorem sV_good {A : Mem} (hA : WF A) {p m : Nat} (hm : m < 8) (hl : sL A m = true) : (sV A p m).Nodup ∧ ∀ x ∈ sV A p m, x < 8 ∧ sL A x = true := by
  have := (sLp_good hA (p := p) (root := true) (rec := sX A p 8) hm hl (fun t s ht h => sX_good hA 8 t s ht h) (sc A m) 0 ([], []) (by omega) gS_nil).1
  exact ⟨this.1, this.2.2.1⟩
/-! the class's row -/
def Rw (h : Mem) (s : List Nat × List Nat) : Prop := h 50 1 = nI s.1.length ∧ (∀ i x, s.1[i]? = some x → h 51 i = nI x) ∧ sm8 (h 50 2) ∧ (∀ t, t < 8 → bt (h 50 2) t = s.1.contains t) ∧ sm8 (h 50 3) ∧ ∀ t, t < 8 → bt (h 50 3) t = s.2.contains t
theorem RC.row {h h' A : Mem} (H : RC h A) (f : Fq 50 52 h h') : RC h' A := H.fd (f.mono (by decide) (by decide))
theorem c_app {h A : Mem} {s : List Nat × List Nat} (hs : gS A s) (hw : Rw h s) {m : Nat} (hm : m < 8) (b : Bool) : ∃ h', m_X1_addOnceIf h (bI b) (nI m) = some h' ∧ Fq 50 52 h h' ∧ Rw h' (app b m s) := by
  obtain ⟨w1, w2, w3, w4, w5, w6⟩ := hw
  unfold m_X1_addOnceIf
  rw [bI_if]
  cases b with
  | false => exact ⟨h, rfl, Fq.rf h, w1, w2, w3, w4, w5, w6⟩
  | true =>
    rw [if_pos rfl, isIn_nI _ (by omega), w4 m hm, bI_if]
    have l8 := nd_len 8 s.1 hs.1 (fun x hx => (hs.2.2.1 x hx).1)
    cases hc : s.1.contains m with
    | true =>
      have e : app true m s = s := by
        unfold app
        rw [hc]
        rfl
      rw [e, if_pos rfl]
      refine ⟨h, ?_, Fq.rf h, w1, w2, w3, w4, w5, w6⟩
      split <;> rfl
    | false =>
      have e : app true m s = (s.1 ++ [m], s.2) := by
        unfold app
        rw [hc]
        rfl
      have hlt := nd_lt hs.1 (fun x hx => (hs.2.2.1 x hx).1) hm hc
      rw [e, w1, if_neg (lp_no (n := 8) hlt (by decide)), if_neg (by decide), gi_nI hlt (by decide), zI_nat (by omega)]
      refine ⟨_, rfl, ((Fq.up1 (by decide) (by decide)).up (by decide) (by decide)).up (by decide) (by decide), ?_, fun i x hi => ?_, ?_, fun t ht => ?_, ?_, fun t ht => ?_⟩
      · rw [mup_ni (by decide), mup_eq, mup_nk (by decide), w1, zI_one]
        simp
      · rw [mup_nk (by decide), mup_nk (by decide)]
        rw [List.getElem?_append] at hi
        split at hi
        · rename_i hl
          rw [mup_ni (by omega)]
          exact w2 i x hi
        · rename_i hl
          by_cases e0 : i = s.1.length
          · subst e0
            simp at hi
            rw [mup_eq, hi]
          · rw [show i - s.1.length = (i - s.1.length - 1) + 1 by omega] at hi
            simp at hi
      · rw [mup_eq, mup_ni (by decide), mup_nk (by decide)]
        exact sm8_or w3 (sm8_bit hm)
      · rw [mup_eq, mup_ni (by decide), mup_nk (by decide), bt_or, w4 t ht, bt_bit (by omega) (by omega), List.contains_append]
        congr 1
        simp [eq_comm]
      · rw [mup_ni (by decide), mup_ni (by decide), mup_nk (by decide)]
        exact w5
      · rw [mup_ni (by decide), mup_ni (by decide), mup_nk (by decide)]
        exact w6 t ht
theorem neg1_ne {k : Nat} (h : k < 2 ^ 31) : ¬ (nI k = -1) := fun e => by
  have := congrArg Int32.toInt e
  rw [nI_toInt h] at this
  have h2 : (-1 : Int32).toInt = -1 := by decide
  omega
theorem c_xl {A : Mem} (hA : WF A) {p m : Nat} (hp6 : p < 6) (hm : m < 8) (hl : sL A m = true) {x3 : Int32} {rc : Mem → Int32 → Int32 → Int32 → Option Mem} {R : Nat → List Nat × List Nat → List Nat × List Nat}
    (hg : ∀ t s, t < 8 → gS A s → gS A (R t s)) (hr : ∀ h s t, t < 8 → RC h A → Rw h s → gS A s → ∃ h', rc h (nI t) (nI p) (x3 + 1) = some h' ∧ Fq 50 52 h h' ∧ Rw h' (R t s)) :
    ∀ n k r h s, r < n → k + r = sc A m → RC h A → Rw h s → gS A s → ∃ h', m_X2_addExportedRow_56 rc (nI m) (nI p) x3 n h (nI k) = some h' ∧ Fq 50 52 h h' ∧ Rw h' (sLp A p false R m k r s) := by
  intro n
  induction n with
  | zero => intro k r h s h1; omega
  | succ n ih =>
    intro k r h s h1 h2 hC hw hs
    have hc6 := (hA.2.2.2.2.2.1 m hm).1
    have hM := hC.2.2.2.2 m hm
    rw [m_X2_addExportedRow_56, zI_nat (by omega), hM.2.2.1]
    cases r with
    | zero =>
      rw [if_pos ((zI_le (by omega) (by omega)).mpr (by omega))]
      exact ⟨h, rfl, Fq.rf h, hw⟩
    | succ r =>
      have hk : k < sc A m := by omega
      have hv := hA.2.2.2.2.2.2.1 m hm k hk
      obtain ⟨m3, m4, m5⟩ := hM.2.2.2.1 k hk
      rw [if_neg (fun hc => by have := (zI_le (by omega) (by omega)).mp hc; omega), gi_nI (by omega) (by decide), gi_nI (by omega) (by decide), gi_nI (by omega) (by decide), gi_nI (by omega) (by decide), zI_nat (by omega), m3, m4, m5, zI_one, sLp, stp]
      by_cases e : so A m k = m
      · rw [if_pos e, if_pos rfl, if_pos e, c_hp hC hm hp6, Option.bind_some]
        obtain ⟨h', a1, a2, a3⟩ := c_app hs hw hm (hp A m p)
        rw [a1, Option.bind_some]
        obtain ⟨h2', b1, b2, b3⟩ := ih (k + 1) r h' _ (by omega) (by omega) (hC.row a2) a3 (app_good hm hl hs).1
        exact ⟨h2', b1, a2.trans b2, b3⟩
      · rw [if_neg e, if_neg (neg1_ne (by omega)), if_neg e, isIn_nI _ (by omega), bt_and, bI_if]
        simp only [Bool.false_or]
        split
        · obtain ⟨h', a1, a2, a3⟩ := hr h s _ hv.1 hC hw hs
          rw [a1, Option.bind_some]
          obtain ⟨h2', b1, b2, b3⟩ := ih (k + 1) r h' _ (by omega) (by omega) (hC.row a2) a3 (hg _ s hv.1 hs)
          exact ⟨h2', b1, a2.trans b2, b3⟩
        · exact ih (k + 1) r h s (by omega) (by omega) hC hw hs
theorem c_x {A : Mem} (hA : WF A) {p : Nat} (hp6 : p < 6) : ∀ d f, d < f → d ≤ 8 → ∀ h s t, t < 8 → RC h A → Rw h s → gS A s → ∃ h', m_X2_addExportedRow f h (nI t) (nI p) (nI (9 - d)) = some h' ∧ Fq 50 52 h h' ∧ Rw h' (sX A p d t s) := by
  intro d
  induction d with
  | zero =>
    intro f hf _ h s t ht hC hw hs
    obtain ⟨f, rfl⟩ : ∃ f', f = f' + 1 := ⟨f - 1, by omega⟩
    rw [m_X2_addExportedRow, if_pos (by decide)]
    exact ⟨h, rfl, Fq.rf h, hw⟩
  | succ d ih =>
    intro f hf hd h s t ht hC hw hs
    obtain ⟨f, rfl⟩ : ∃ f', f = f' + 1 := ⟨f - 1, by omega⟩
    rw [m_X2_addExportedRow, if_neg (fun hc => by have := (zI_lt (a := 8) (by decide) (by omega)).mp hc; omega), c_isLn hC ht, Option.bind_some, bI_if, isIn_nI _ (by omega), hw.2.2.2.2.2 t ht, bI_if, gi_nI ht (by decide), sX]
    cases el : sL A t with
    | false =>
      rw [if_neg (by decide), if_neg (by simp)]
      exact ⟨h, rfl, Fq.rf h, hw⟩
    | true =>
      rw [if_pos rfl]
      cases ec : s.2.contains t with
      | true =>
        rw [if_pos rfl, if_neg (by simp)]
        exact ⟨h, rfl, Fq.rf h, hw⟩
      | false =>
        rw [if_neg (by decide), if_pos (by simp)]
        obtain ⟨w1, w2, w3, w4, w5, w6⟩ := hw
        have f1 : Fq 50 52 h (mup h 50 3 ((h 50 3) ||| (m_X2_bit (nI t)))) := Fq.up1 (by decide) (by decide)
        have hc6 := (hA.2.2.2.2.2.1 t ht).1
        obtain ⟨h', a1, a2, a3⟩ := c_xl hA hp6 ht el (x3 := nI (9 - (d + 1))) (rc := m_X2_addExportedRow f) (R := sX A p d) (fun t s ht hs => (sX_good hA d t s ht hs).1)
          (fun h s t ht hC hw hs => by
            rw [zI_one, show 9 - (d + 1) + 1 = 9 - d by omega]
            exact ih f (by omega) (by omega) h s t ht hC hw hs) 200 0 (sc A t) (mup h 50 3 ((h 50 3) ||| (m_X2_bit (nI t)))) (s.1, t :: s.2) (by omega) (by omega) (hC.row f1) ⟨by rw [mup_ni (by decide)]; exact w1, fun i x hi => by rw [mup_nk (by decide)]; exact w2 i x hi, by rw [mup_ni (by decide)]; exact w3, fun y hy => by rw [mup_ni (by decide)]; exact w4 y hy, by rw [mup_eq]; exact sm8_or w5 (sm8_bit ht), fun y hy => by
              rw [mup_eq, bt_or, w6 y hy, bt_bit (by omega) (by omega), List.contains_cons, Bool.or_comm]
              congr 1
              by_cases e : t = y
              · subst e
                simp
              · have e' : ¬ y = t := fun h => e h.symm
                simp [e, e']⟩ (gS_cons ht el ec hs)
        exact ⟨h', a1, f1.trans a2, a3⟩
theorem c_vl {A : Mem} (hA : WF A) {p m : Nat} (hp6 : p < 6) (hm : m < 8) (hl : sL A m = true) :
    ∀ n k r h s, r < n → k + r = sc A m → RC h A → Rw h s → gS A s → ∃ h', m_X2_fillVisibleRow_17 (nI m) (nI p) n h (nI k) = some h' ∧ Fq 50 52 h h' ∧ Rw h' (sLp A p true (sX A p 8) m k r s) := by
  intro n
  induction n with
  | zero => intro k r h s h1; omega
  | succ n ih =>
    intro k r h s h1 h2 hC hw hs
    have hc6 := (hA.2.2.2.2.2.1 m hm).1
    have hM := hC.2.2.2.2 m hm
    rw [m_X2_fillVisibleRow_17, zI_nat (by omega), hM.2.2.1]
    cases r with
    | zero =>
      rw [if_pos ((zI_le (by omega) (by omega)).mpr (by omega))]
      exact ⟨h, rfl, Fq.rf h, hw⟩
    | succ r =>
      have hk : k < sc A m := by omega
      have hv := hA.2.2.2.2.2.2.1 m hm k hk
      obtain ⟨m3, m4, m5⟩ := hM.2.2.2.1 k hk
      rw [if_neg (fun hc => by have := (zI_le (by omega) (by omega)).mp hc; omega), gi_nI (by omega) (by decide), gi_nI (by omega) (by decide), gi_nI (by omega) (by decide), zI_nat (by omega), m3, m4, zI_one, sLp, stp]
      by_cases e : so A m k = m
      · rw [if_pos e, if_pos rfl, if_pos e, c_hp hC hm hp6, Option.bind_some]
        obtain ⟨h', a1, a2, a3⟩ := c_app hs hw hm (hp A m p)
        rw [a1, Option.bind_some]
        obtain ⟨h2', b1, b2, b3⟩ := ih (k + 1) r h' _ (by omega) (by omega) (hC.row a2) a3 (app_good hm hl hs).1
        exact ⟨h2', b1, a2.trans b2, b3⟩
      · rw [if_neg e, if_neg (neg1_ne (by omega)), if_neg e, isIn_nI _ (by omega), bI_if]
        simp only [Bool.true_or, Bool.and_true]
        split
        · obtain ⟨h', a1, a2, a3⟩ := c_x hA hp6 8 12 (by decide) (by decide) h s _ hv.1 hC hw hs
          rw [show (1 : Int32) = nI (9 - 8) from rfl, a1, Option.bind_some]
          obtain ⟨h2', b1, b2, b3⟩ := ih (k + 1) r h' _ (by omega) (by omega) (hC.row a2) a3 (sX_good hA 8 _ s hv.1 hs).1
          exact ⟨h2', b1, a2.trans b2, b3⟩
        · exact ih (k + 1) r h s (by omega) (by omega) hC hw hs
theorem c_fill {h A : Mem} (hA : WF A) (hC : RC h A) {p m : Nat} (hp6 : p < 6) (hm : m < 8) (hl : sL A m = true) : ∃ h', m_X2_fillVisibleRow h (nI m) (nI p) = some h' ∧ Fq 50 52 h h' ∧ h' 50 1 = nI (sV A p m).length ∧ ∀ i x, (sV A p m)[i]? = some x → h' 51 i = nI x := by
  have hc6 := (hA.2.2.2.2.2.1 m hm).1
  unfold m_X2_fillVisibleRow m_X1_clear
  rw [Option.bind_some, gi_nI hm (by decide)]
  have f1 : Fq 50 52 h (mup (mup (mup h 50 1 0) 50 2 0) 50 3 0) := ((Fq.up1 (by decide) (by decide)).up (by decide) (by decide)).up (by decide) (by decide)
  obtain ⟨h', a1, a2, a3⟩ := c_vl hA hp6 hm hl 200 0 (sc A m) _ ([], []) (by omega) (by omega) (hC.row f1) ⟨by simp [mup]; rfl, fun i x hi => by simp at hi, by simp only [mup]; exact sm8_zero, fun t ht => by simp [mup, bt_zero], by simp only [mup]; exact sm8_zero, fun t ht => by simp [mup, bt_zero]⟩ gS_nil
  exact ⟨h', a1, f1.trans a2, a3.1, a3.2.1⟩
