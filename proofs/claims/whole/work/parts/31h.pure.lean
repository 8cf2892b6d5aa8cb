/-! PURE: whose class a name means -/
def oI (o : Option Nat) : Int32 := match o with
  | none => -1
  | some x => nI x
def shd (A : Mem) (m n : Nat) : Option Nat := if n < 2 then some 8 else (sV A (n / 4) m).find? (fun x => sh A x n)
theorem shd_spec {A : Mem} (hA : WF A) {m n x : Nat} (hm : m < 8) (hl : sL A m = true) (h : shd A m n = some x) : x = 8 ∨ (x < 8 ∧ sL A x = true ∧ sh A x n = true) := by
  unfold shd at h
  split at h
  · cases h
    exact .inl rfl
  · have h1 := List.find?_some h
    have h2 := (sV_good hA (p := n / 4) hm hl).2 x (List.mem_of_find?_eq_some h)
    exact .inr ⟨h2.1, h2.2, h1⟩
theorem dv4 : ∀ n, n < 24 → nI n / 4 = nI (n / 4) := by decide
theorem c_hs_loop {h A : Mem} (hC : RC h A) {n : Nat} (hn : n < 24) (p1 : Int32) : ∀ (l : List Nat) (f k : Nat), (∀ i x, l[i]? = some x → h 51 (k + i) = nI x) → (∀ x ∈ l, x < 8) → h 50 1 = nI (k + l.length) → l.length < f → k + l.length ≤ 8 → m_X2_holderSeenFrom_18 p1 (nI n) f h (nI k) = some (h, oI (l.find? (fun x => sh A x n))) := by
  intro l
  induction l with
  | nil =>
    intro f k h1 h2 h3 h4 h5
    obtain ⟨f, rfl⟩ : ∃ z, f = z + 1 := ⟨f - 1, by simp at h4; omega⟩
    rw [m_X2_holderSeenFrom_18, h3, if_pos ((zI_le (by simp at h5 ⊢; omega) (by simp at h5 ⊢; omega)).mpr (by simp))]
    rfl
  | cons a l ih =>
    intro f k h1 h2 h3 h4 h5
    simp only [List.length_cons] at h3 h4 h5
    obtain ⟨f, rfl⟩ : ∃ z, f = z + 1 := ⟨f - 1, by omega⟩
    have ha : a < 8 := h2 a List.mem_cons_self
    have e0 : h 51 k = nI a := h1 0 a rfl
    rw [m_X2_holderSeenFrom_18, h3, if_neg (fun hc => by have := (zI_le (by omega) (by omega)).mp hc; omega), gi_nI (by omega) (by decide), gi_nI (by omega) (by decide), zI_nat (by omega), e0, gi_nI ha (by decide), zI_nat (by omega), c_holds hC ha hn, Option.bind_some, bI_if, zI_one, List.find?_cons]
    cases sh A a n with
    | true => rfl
    | false =>
      rw [if_neg (by decide)]
      exact ih f (k + 1) (fun i x hi => by rw [show k + 1 + i = k + (i + 1) by omega]; exact h1 (i + 1) x hi) (fun x hx => h2 x (List.mem_cons_of_mem _ hx)) (by rw [h3]; congr 1; omega) (by omega) (by omega)
theorem c_hs {h A : Mem} (hA : WF A) (hC : RC h A) {m n : Nat} (hm : m < 8) (hl : sL A m = true) (hn : n < 24) : ∃ h', m_X2_holderSeenFrom h (nI m) (nI n) = some (h', oI (shd A m n)) ∧ Fq 50 52 h h' := by
  unfold m_X2_holderSeenFrom shd
  by_cases h2 : n < 2
  · rw [if_neg (lp_no (n := 2) h2 (by decide)), if_pos h2]
    exact ⟨h, rfl, Fq.rf h⟩
  · rw [if_pos (lp_yes (n := 2) (by omega) (by omega)), if_neg h2, dv4 n hn]
    obtain ⟨h', a1, a2, a3, a4⟩ := c_fill hA hC (p := n / 4) (by omega) hm hl
    rw [a1, Option.bind_some]
    have g := sV_good hA (p := n / 4) hm hl
    have l8 := nd_len 8 _ g.1 (fun x hx => (g.2 x hx).1)
    have := c_hs_loop (hC.row a2) hn (nI m) (sV A (n / 4) m) 200 0 (fun i x hi => by rw [Nat.zero_add]; exact a4 i x hi) (fun x hx => (g.2 x hx).1) (by rw [Nat.zero_add]; exact a3) (by omega) (by omega)
    exact ⟨h', this, a2⟩
theorem sub0 : nI 0 - 1 < 0 := by decide
theorem add_m1 (x : Int32) : x + (-1) = x - 1 := by
  rw [Int32.sub_eq_add_neg]
theorem r_hs_loop {h A : Mem} (hR : RR h A) {n : Nat} (hn : n < 24) (p1 : Int32) {l : List Nat} (h1 : ∀ i x, l[i]? = some x → h 65 i = nI x) (h2 : ∀ x ∈ l, x < 8) (h8 : l.length ≤ 8) : ∀ (i f : Nat) (v : Int32), i ≤ l.length → i < f → m_X3_holder_26 p1 (nI n) f h v (nI i - 1) = some (h, match (l.take i).find? (fun x => sh A x n) with | none => v | some x => nI x) := by
  intro i
  induction i with
  | zero =>
    intro f v _ hf
    obtain ⟨f, rfl⟩ : ∃ z, f = z + 1 := ⟨f - 1, by omega⟩
    rw [m_X3_holder_26, if_pos sub0]
    simp
  | succ i ih =>
    intro f v hi hf
    obtain ⟨f, rfl⟩ : ∃ z, f = z + 1 := ⟨f - 1, by omega⟩
    obtain ⟨x, hx⟩ : ∃ x, l[i]? = some x := ⟨l[i]'(by omega), List.getElem?_eq_getElem (by omega)⟩
    have hx8 : x < 8 := h2 x (List.mem_of_getElem? hx)
    rw [m_X3_holder_26, sub1, if_neg (zI_pos (by omega)), gi_nI (by omega) (by decide), gi_nI (by omega) (by decide), zI_nat (by omega), h1 i x hx, x24, gi_nI (by omega) (by decide), zI_nat (by omega), hR.2.2.1, add_m1, ih f v (by omega) (by omega), ih f (nI x) (by omega) (by omega), List.take_add_one, hx, List.find?_append]
    show (if sF A x n = -3 then _ else _) = _
    by_cases e : sF A x n = -3
    · have es : sh A x n = false := by simp [sh, e]
      rw [if_pos e]
      cases (l.take i).find? (fun x => sh A x n) <;> simp [es]
    · have es : sh A x n = true := by simp [sh, e]
      rw [if_neg e]
      cases (l.take i).find? (fun x => sh A x n) <;> simp [es]
theorem r_hs {h A : Mem} (hA : WF A) (hR : RR h A) {m n : Nat} (hm : m < 8) (hl : sL A m = true) (hn : n < 24) : ∃ h', m_X3_holder h (nI m) (nI n) = some (h', oI (shd A m n)) ∧ FS h h' := by
  unfold m_X3_holder shd
  by_cases h2 : n < 2
  · rw [if_neg (lp_no (n := 2) h2 (by decide)), if_pos h2]
    exact ⟨h, rfl, FS.rf h⟩
  · rw [if_pos (lp_yes (n := 2) (by omega) (by omega)), if_neg h2, dv4 n hn]
    obtain ⟨h', a1, a2, a3, a4⟩ := r_see hA hR (p := n / 4) (by omega) hm hl
    rw [a1, Option.bind_some, a3]
    have g := sV_good hA (p := n / 4) hm hl
    have l8 := nd_len 8 _ g.1 (fun x hx => (g.2 x hx).1)
    have := r_hs_loop (hR.fs a2) hn (nI m) a4 (fun x hx => (g.2 x hx).1) l8 (sV A (n / 4) m).length 200 (-1) (Nat.le_refl _) (by omega)
    rw [List.take_length] at this
    refine ⟨h', ?_, a2⟩
    rw [this]
    cases (sV A (n / 4) m).find? (fun x => sh A x n) <;> rfl
/-! what a row looks at -/
theorem sV_congr {A B : Mem} (e : ∀ k, k ≠ 59 → k ≠ 54 → B k = A k) (p m : Nat) : sV B p m = sV A p m := by
  have eL : sL B = sL A := by
    funext x
    unfold sL
    rw [e 56 (by decide) (by decide)]
  have eF : sF B = sF A := by
    funext x y
    unfold sF
    rw [e 58 (by decide) (by decide)]
  have ec : sc B = sc A := by
    funext x
    unfold sc
    rw [e 60 (by decide) (by decide)]
  have eo : so B = so A := by
    funext x y
    unfold so
    rw [e 61 (by decide) (by decide)]
  have ei : si B = si A := by
    funext x y
    unfold si
    rw [e 62 (by decide) (by decide)]
  have ee : se B = se A := by
    funext x y
    unfold se
    rw [e 63 (by decide) (by decide)]
  have eh : sh B = sh A := by
    funext x y
    unfold sh
    rw [eF]
  have ep : hp B = hp A := by
    funext x y
    unfold hp
    rw [eh]
  have es : ∀ root rec, stp B p root rec = stp A p root rec := by
    intro root rec
    funext x y z
    unfold stp
    rw [eo, ep, ei, ee]
  have el : ∀ root rec m r k s, sLp B p root rec m k r s = sLp A p root rec m k r s := by
    intro root rec m r
    induction r with
    | zero => intro k s; rfl
    | succ r ih =>
      intro k s
      rw [sLp, sLp, es, ih]
  have ex : ∀ d, sX B p d = sX A p d := by
    intro d
    induction d with
    | zero => rfl
    | succ d ih =>
      funext x s
      rw [sX, sX, eL, ec, ih, el]
  unfold sV
  rw [ex, el, ec]
theorem shd_congr {A B : Mem} (e : ∀ k, k ≠ 59 → k ≠ 54 → B k = A k) (m n : Nat) : shd B m n = shd A m n := by
  have eh : sh B = sh A := by
    funext x y
    unfold sh sF
    rw [e 58 (by decide) (by decide)]
  unfold shd
  rw [sV_congr e, eh]
