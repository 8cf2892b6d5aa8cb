/-! PURE: the classes that are defined with one -/
def sU (A : Mem) : Nat → Nat → Nat → Option (List (Nat × Nat × Nat))
  | 0, m, n => if 8 ≤ m then some [] else if sE A m n = -1 then none else some []
  | f + 1, m, n => if 8 ≤ m then some [] else if sE A m n = -1 then
      (if sF A m n = -2 then none else if sF A m n = -1 then some [(m, n, 9)] else
        match shd A m (sF A m n).toNatClampNeg with
        | none => none
        | some y => (sU A f y (sF A m n).toNatClampNeg).map (fun l => (m, n, y) :: l))
    else some []
theorem sU_mono {A : Mem} : ∀ {f m n : Nat} {l : List (Nat × Nat × Nat)} (j : Nat), sU A f m n = some l → sU A (f + j) m n = some l := by
  intro f
  induction f with
  | zero =>
    intro m n l j h
    cases j with
    | zero => exact h
    | succ j =>
      rw [sU] at h
      rw [Nat.zero_add, sU]
      split at h
      · rename_i e
        rw [if_pos e]
        exact h
      · rename_i e
        rw [if_neg e]
        split at h
        · cases h
        · rename_i e2
          rw [if_neg e2]
          exact h
  | succ f ih =>
    intro m n l j h
    rw [sU] at h
    rw [show f + 1 + j = (f + j) + 1 by omega, sU]
    split at h
    · rename_i e
      rw [if_pos e]
      exact h
    · rename_i e
      rw [if_neg e]
      split at h
      · rename_i e2
        rw [if_pos e2]
        split at h
        · cases h
        · rename_i e3
          rw [if_neg e3]
          split at h
          · rename_i e4
            rw [if_pos e4]
            exact h
          · rename_i e4
            rw [if_neg e4]
            split at h
            · cases h
            · rename_i y ey
              cases eu : sU A f y (sF A m n).toNatClampNeg with
              | none => rw [eu] at h; cases h
              | some l2 =>
                rw [ih j eu]
                rw [eu] at h
                exact h
      · rename_i e2
        rw [if_neg e2]
        exact h
theorem sU_det {A : Mem} {f f' m n : Nat} {l l' : List (Nat × Nat × Nat)} (h : sU A f m n = some l) (h' : sU A f' m n = some l') : l = l' := by
  have h1 := sU_mono f' h
  have h2 := sU_mono f h'
  rw [Nat.add_comm f' f, h1] at h2
  exact Option.some.inj h2
/-- one class of the chain -/
def okE (A : Mem) (e : Nat × Nat × Nat) : Prop := e.1 < 8 ∧ e.2.1 < 24 ∧ sL A e.1 = true ∧ sE A e.1 e.2.1 = -1 ∧ ((sF A e.1 e.2.1 = -1 ∧ e.2.2 = 9) ∨ ∃ k, k < 24 ∧ sF A e.1 e.2.1 = nI k ∧ shd A e.1 k = some e.2.2)
def okN (A : Mem) (m n : Nat) : Prop := m = 8 ∨ m = 9 ∨ (m < 8 ∧ n < 24 ∧ sL A m = true ∧ sh A m n = true)
def hdC (l : List (Nat × Nat × Nat)) (top : Nat) : Nat := match l with
  | [] => top
  | e :: _ => e.1
def lnk : List (Nat × Nat × Nat) → Nat → Prop
  | [], _ => True
  | e :: r, top => e.2.2 = hdC r top ∧ lnk r top
theorem sU_ok {A : Mem} (hA : WF A) : ∀ {f m n : Nat} {l : List (Nat × Nat × Nat)}, okN A m n → sU A f m n = some l → (∀ e ∈ l, okE A e ∧ ∃ f' l', sU A f' e.1 e.2.1 = some l' ∧ l'.length ≤ l.length) ∧ l.length ≤ f := by
  intro f
  induction f with
  | zero =>
    intro m n l hn h
    rw [sU] at h
    split at h
    · cases h
      exact ⟨fun e he => (List.not_mem_nil he).elim, Nat.le_refl _⟩
    · split at h
      · cases h
      · cases h
        exact ⟨fun e he => (List.not_mem_nil he).elim, Nat.le_refl _⟩
  | succ f ih =>
    intro m n l hn h0
    have h := h0
    rw [sU] at h
    split at h
    · cases h
      exact ⟨fun e he => (List.not_mem_nil he).elim, by simp⟩
    · rename_i e
      obtain ⟨hm, hn24, hl, hs⟩ := (hn.resolve_left (by omega)).resolve_left (by omega)
      split at h
      · rename_i e2
        split at h
        · cases h
        · rename_i e3
          split at h
          · rename_i e4
            cases h
            refine ⟨fun e he => ?_, by simp⟩
            simp only [List.mem_singleton] at he
            subst he
            exact ⟨⟨hm, hn24, hl, e2, .inl ⟨e4, rfl⟩⟩, f + 1, _, h0, Nat.le_refl _⟩
          · rename_i e4
            obtain ⟨k, hk, ek⟩ : ∃ k, k < 24 ∧ sF A m n = nI k := by
              rcases hA.2.2.2.1 m hm n hn24 with h | h | h | h
              · rw [sh, h] at hs
                simp at hs
              · exact absurd h e3
              · exact absurd h e4
              · exact h
            have ekn : (sF A m n).toNatClampNeg = k := by rw [ek, zI_nat (by omega)]
            rw [ekn] at h
            split at h
            · cases h
            · rename_i y ey
              cases eu : sU A f y k with
              | none => rw [eu] at h; cases h
              | some l2 =>
                rw [eu] at h
                cases h
                have hy : okN A y k := by
                  rcases shd_spec hA hm hl ey with h | h
                  · exact .inl h
                  · exact .inr (.inr ⟨h.1, hk, h.2.1, h.2.2⟩)
                obtain ⟨i1, i2⟩ := ih hy eu
                refine ⟨fun e he => ?_, by simp; exact i2⟩
                rcases List.mem_cons.mp he with rfl | he
                · exact ⟨⟨hm, hn24, hl, e2, .inr ⟨k, hk, ek, ey⟩⟩, f + 1, _, h0, Nat.le_refl _⟩
                · obtain ⟨j1, f', l', j2, j3⟩ := i1 e he
                  exact ⟨j1, f', l', j2, by simp; omega⟩
      · cases h
        exact ⟨fun e he => (List.not_mem_nil he).elim, by simp⟩
/-- the first of a chain isn't in it again -/
theorem sU_new {A : Mem} (hA : WF A) {f m n y : Nat} {l : List (Nat × Nat × Nat)} {f2 m2 n2 : Nat} (hn : okN A m2 n2) (h : sU A f m n = some ((m, n, y) :: l)) (h2 : sU A f2 m2 n2 = some l) : ∀ e ∈ l, ¬ (e.1 = m ∧ e.2.1 = n) := by
  rintro e he ⟨e1, e2⟩
  obtain ⟨-, f', l', j2, j3⟩ := (sU_ok hA hn h2).1 e he
  rw [e1, e2] at j2
  have := sU_det h j2
  rw [← this] at j3
  simp at j3
  omega
/-! the class goes up -/
theorem c_nnd_hi {h : Mem} {m : Nat} (w : Int32) (hm : m = 8 ∨ m = 9) : m_X2_needsNoDefining h (nI m) w = some 1 := by
  rcases hm with rfl | rfl <;> rfl
theorem c_nnd {h A : Mem} (hC : RC h A) {m n : Nat} (hm : m < 8) (hn : n < 24) : m_X2_needsNoDefining h (nI m) (nI n) = some (bI (decide (sE A m n ≠ -1))) := by
  unfold m_X2_needsNoDefining
  rw [if_neg (fun hc => by have := zI_inj (b := 8) (by omega) (by decide) hc; omega), if_neg (fun hc => by have := zI_inj (b := 9) (by omega) (by decide) hc; omega), gi_nI hm (by decide), zI_nat (by omega), c_def hC hm hn, Option.bind_some, bI_if]
  cases decide (sE A m n ≠ -1) <;> rfl
theorem RC.ch {h h' A : Mem} (H : RC h A) (f : Fq 50 54 h h') : RC h' A := H.fd (f.mono (by decide) (by decide))
def chOk (h : Mem) (k : Nat) (l : List (Nat × Nat × Nat)) : Prop := ∀ i e, l[i]? = some e → h 52 (k + i) = nI e.1 ∧ h 53 (k + i) = nI e.2.1
theorem c_up {A : Mem} (hA : WF A) (p1 p2 : Int32) : ∀ (f fu k m n : Nat) (w : Int32) (h : Mem), k + f = 10 → f < fu → RC h A → okN A m n → (m < 8 → w = nI n) →
    match sU A f m n with
    | none => ∃ h', m_X2_defineWithAllAbove_8 p1 p2 fu h (nI m) w (nI k) = some (h', 0) ∧ Fq 50 54 h h'
    | some l => ∃ h' top, m_X2_defineWithAllAbove_8 p1 p2 fu h (nI m) w (nI k) = ((m_X2_defineChain h' (nI (k + l.length)) (nI top)).bind fun g => some (g, 1)) ∧ Fq 50 54 h h' ∧ (∀ i, i < k → h' 52 i = h 52 i ∧ h' 53 i = h 53 i) ∧ chOk h' k l ∧ lnk l top ∧ hdC l top = m := by
  intro f
  induction f with
  | zero =>
    intro fu k m n w h hk hf hC hn hw
    obtain ⟨fu, rfl⟩ : ∃ z, fu = z + 1 := ⟨fu - 1, by omega⟩
    have hk10 : k = 10 := by omega
    subst hk10
    rw [m_X2_defineWithAllAbove_8, if_pos (by decide), sU]
    unfold m_X2_defineWithAllAbove_94
    by_cases e : 8 ≤ m
    · rw [if_pos e, c_nnd_hi w (by rcases hn with h | h | h <;> omega)]
      exact ⟨h, m, rfl, Fq.rf h, fun _ _ => ⟨rfl, rfl⟩, fun i e hi => by simp at hi, trivial, rfl⟩
    · obtain ⟨hm, hn24, hl, hs⟩ := (hn.resolve_left (by omega)).resolve_left (by omega)
      rw [if_neg e, hw hm, c_nnd hC hm hn24, Option.bind_some, bI_if]
      by_cases e2 : sE A m n = -1
      · rw [if_pos e2, decide_eq_false (fun h => h e2)]
        exact ⟨h, rfl, Fq.rf h⟩
      · rw [if_neg e2, decide_eq_true e2]
        exact ⟨h, m, rfl, Fq.rf h, fun _ _ => ⟨rfl, rfl⟩, fun i e hi => by simp at hi, trivial, rfl⟩
  | succ f ih =>
    intro fu k m n w h hk hf hC hn hw
    obtain ⟨fu, rfl⟩ : ∃ z, fu = z + 1 := ⟨fu - 1, by omega⟩
    rw [m_X2_defineWithAllAbove_8, if_neg (lp_no (n := 10) (by omega) (by decide)), sU]
    by_cases e : 8 ≤ m
    · rw [if_pos e]
      unfold m_X2_defineWithAllAbove_94
      rw [c_nnd_hi w (by rcases hn with h | h | h <;> omega)]
      exact ⟨h, m, rfl, Fq.rf h, fun _ _ => ⟨rfl, rfl⟩, fun i e hi => by simp at hi, trivial, rfl⟩
    · obtain ⟨hm, hn24, hl, hs⟩ := (hn.resolve_left (by omega)).resolve_left (by omega)
      have hw := hw hm
      subst hw
      rw [if_neg e]
      by_cases e2 : sE A m n = -1
      · rw [if_pos e2, c_nnd hC hm hn24, Option.bind_some, decide_eq_false (fun h => h e2), show bI false = 0 from rfl, if_pos rfl, gi_nI (by omega) (by decide), gi_nI (by omega) (by decide), gi_nI hm (by decide), gi_nI hn24 (by decide), zI_nat (by omega), zI_nat (by omega), zI_nat (by omega), zI_one]
        obtain ⟨h1, e1⟩ : ∃ z, z = mup (mup h 52 k (nI m)) 53 k (nI n) := ⟨_, rfl⟩
        rw [← e1]
        have f1 : Fq 50 54 h h1 := by rw [e1]; exact (Fq.up1 (by decide) (by decide)).up (by decide) (by decide)
        have hC1 := hC.ch f1
        have g1 : ∀ i, i < k → h1 52 i = h 52 i ∧ h1 53 i = h 53 i := fun i hi => by
          rw [e1, mup_nk (by decide), mup_ni (by omega), mup_ni (by omega), mup_nk (by decide)]
          exact ⟨rfl, rfl⟩
        have g2 : h1 52 k = nI m ∧ h1 53 k = nI n := by
          rw [e1, mup_nk (by decide), mup_eq, mup_eq]
          exact ⟨rfl, rfl⟩
        rw [(hC1.2.2.2.2 m hm).1 n hn24]
        by_cases e3 : sF A m n = -2
        · rw [if_pos e3, if_pos e3]
          exact ⟨h1, rfl, f1⟩
        · rw [if_neg e3, if_neg e3]
          by_cases e4 : sF A m n = -1
          · rw [if_pos e4, if_pos e4, if_neg (by decide)]
            have := ih fu (k + 1) 9 n (sF A m n) h1 (by omega) (by omega) hC1 (.inr (.inl rfl)) (fun h => by omega)
            rw [show sU A f 9 n = some [] by cases f <;> rw [sU, if_pos (by decide)]] at this
            obtain ⟨h', top, a1, a2, a3, a4, a5, a6⟩ := this
            have et : top = 9 := a6
            subst et
            refine ⟨h', 9, ?_, f1.trans a2, fun i hi => ?_, fun i e hi => ?_, ⟨rfl, trivial⟩, rfl⟩
            · exact a1
            · rw [(a3 i (by omega)).1, (a3 i (by omega)).2]
              exact g1 i hi
            · cases i with
              | zero =>
                simp at hi
                subst hi
                rw [Nat.add_zero, (a3 k (by omega)).1, (a3 k (by omega)).2]
                exact g2
              | succ i => simp at hi
          · rw [if_neg e4, if_neg e4]
            obtain ⟨y, hy, ek⟩ : ∃ k, k < 24 ∧ sF A m n = nI k := by
              rcases hA.2.2.2.1 m hm n hn24 with h | h | h | h
              · rw [sh, h] at hs
                simp at hs
              · exact absurd h e3
              · exact absurd h e4
              · exact h
            rw [ek, zI_nat (by omega)]
            obtain ⟨h2, b1, b2⟩ := c_hs hA hC1 hm hl hy
            rw [b1, Option.bind_some]
            have f2 : Fq 50 54 h1 h2 := b2.mono (by decide) (by decide)
            have k52 : h2 52 = h1 52 := b2 52 (by omega)
            have k53 : h2 53 = h1 53 := b2 53 (by omega)
            cases ez : shd A m y with
            | none => exact ⟨h2, rfl, f1.trans f2⟩
            | some z =>
              have hz : okN A z y := by
                rcases shd_spec hA hm hl ez with h | h
                · exact .inl h
                · exact .inr (.inr ⟨h.1, hy, h.2.1, h.2.2⟩)
              have hz10 : z < 10 := by rcases hz with h | h | h <;> omega
              have := ih fu (k + 1) z y (nI y) h2 (by omega) (by omega) (hC1.ch f2) hz (fun _ => rfl)
              show match (sU A f z y).map (fun l => (m, n, z) :: l) with
                | none => ∃ h', (if nI z = -1 then some (h2, 0) else m_X2_defineWithAllAbove_8 p1 p2 fu h2 (nI z) (nI y) (nI (k + 1))) = some (h', 0) ∧ Fq 50 54 h h'
                | some l => ∃ h' top, (if nI z = -1 then some (h2, 0) else m_X2_defineWithAllAbove_8 p1 p2 fu h2 (nI z) (nI y) (nI (k + 1))) = ((m_X2_defineChain h' (nI (k + l.length)) (nI top)).bind fun g => some (g, 1)) ∧ Fq 50 54 h h' ∧ (∀ i, i < k → h' 52 i = h 52 i ∧ h' 53 i = h 53 i) ∧ chOk h' k l ∧ lnk l top ∧ hdC l top = m
              rw [if_neg (neg1_ne (by omega))]
              cases eu : sU A f z y with
              | none =>
                rw [eu] at this
                obtain ⟨h', a1, a2⟩ := this
                exact ⟨h', a1, (f1.trans f2).trans a2⟩
              | some l =>
                rw [eu] at this
                obtain ⟨h', top, a1, a2, a3, a4, a5, a6⟩ := this
                refine ⟨h', top, ?_, (f1.trans f2).trans a2, fun i hi => ?_, fun i e hi => ?_, ⟨a6.symm, a5⟩, rfl⟩
                · rw [a1, List.length_cons, show k + 1 + l.length = k + (l.length + 1) by omega]
                · rw [(a3 i (by omega)).1, (a3 i (by omega)).2, k52, k53]
                  exact g1 i hi
                · cases i with
                  | zero =>
                    simp at hi
                    subst hi
                    rw [Nat.add_zero, (a3 k (by omega)).1, (a3 k (by omega)).2, k52, k53]
                    exact g2
                  | succ i =>
                    rw [show k + (i + 1) = k + 1 + i by omega]
                    exact a4 i e hi
      · rw [if_neg e2, c_nnd hC hm hn24, Option.bind_some, decide_eq_true e2, show bI true = 1 from rfl, if_neg (by decide)]
        unfold m_X2_defineWithAllAbove_94
        rw [c_nnd hC hm hn24, Option.bind_some, decide_eq_true e2]
        exact ⟨h, m, rfl, Fq.rf h, fun _ _ => ⟨rfl, rfl⟩, fun i e hi => by simp at hi, trivial, rfl⟩
/-! the class defines -/
def dfH (h : Mem) : List (Nat × Nat × Nat) → Mem
  | [] => h
  | e :: r => mup (dfH h r) (kM e.1 + 2) e.2.1 (nI e.2.2)
theorem dfH_hi {h : Mem} : ∀ {l : List (Nat × Nat × Nat)}, (∀ e ∈ l, e.1 < 8) → ∀ k, 50 ≤ k → dfH h l k = h k
  | [], _, _, _ => rfl
  | e :: r, hl, k, hk => by
    have := hl e List.mem_cons_self
    funext y
    rw [dfH, mup_nk (by unfold kM; omega), dfH_hi (fun e he => hl e (List.mem_cons_of_mem _ he)) k hk]
theorem lnk_drop {top : Nat} : ∀ {l : List (Nat × Nat × Nat)} (j : Nat), lnk l top → lnk (l.drop j) top
  | _, 0, h => h
  | [], j + 1, h => trivial
  | e :: r, j + 1, h => lnk_drop (l := r) j h.2
theorem c_dc_loop {h : Mem} {l : List (Nat × Nat × Nat)} {top : Nat} (p1 p2 : Int32) (hc : chOk h 0 l) (hk : lnk l top) (hl : ∀ e ∈ l, e.1 < 8 ∧ e.2.1 < 24) (h10 : l.length ≤ 10) : ∀ (j f : Nat), j ≤ l.length → j < f → m_X2_defineChain_7 p1 p2 f (dfH h (l.drop j)) (nI (hdC (l.drop j) top)) (nI j - 1) = some (dfH h l) := by
  intro j
  induction j with
  | zero =>
    intro f _ hf
    obtain ⟨f, rfl⟩ : ∃ z, f = z + 1 := ⟨f - 1, by omega⟩
    rw [m_X2_defineChain_7, if_pos sub0]
    rfl
  | succ j ih =>
    intro f hj hf
    obtain ⟨f, rfl⟩ : ∃ z, f = z + 1 := ⟨f - 1, by omega⟩
    obtain ⟨e, he⟩ : ∃ e, l[j]? = some e := ⟨l[j]'(by omega), List.getElem?_eq_getElem (by omega)⟩
    have hd : l.drop j = e :: l.drop (j + 1) := by
      rw [List.drop_eq_getElem_cons (by omega)]
      congr 1
      have := List.getElem?_eq_getElem (l := l) (i := j) (by omega)
      rw [he] at this
      exact (Option.some.inj this).symm
    have hem := List.mem_of_getElem? he
    obtain ⟨h8, h24⟩ := hl e hem
    obtain ⟨c1, c2⟩ := hc j e he
    rw [Nat.zero_add] at c1 c2
    have hhi := dfH_hi (h := h) (l := l.drop (j + 1)) (fun e he => (hl e (List.mem_of_mem_drop he)).1)
    rw [m_X2_defineChain_7, sub1, if_neg (zI_pos (by omega)), gi_nI (by omega) (by decide), gi_nI (by omega) (by decide), gi_nI (by omega) (by decide), zI_nat (by omega), hhi 52 (by decide), hhi 53 (by decide), c1, c2, gi_nI h8 (by decide), gi_nI h24 (by decide), zI_nat (by omega), zI_nat (by omega), add_m1]
    have hlk := lnk_drop j hk
    rw [hd] at hlk
    have e1 : mup (dfH h (l.drop (j + 1))) (kM e.1 + 2) e.2.1 (nI (hdC (l.drop (j + 1)) top)) = dfH h (l.drop j) := by
      rw [hd, dfH, hlk.1]
    rw [e1]
    have e2 : dfH h (l.drop j) 52 j = nI (hdC (l.drop j) top) := by
      rw [dfH_hi (fun e he => (hl e (List.mem_of_mem_drop he)).1) 52 (by decide), c1, hd]
      rfl
    rw [e2]
    exact ih f (by omega) (by omega)
theorem c_dc {h : Mem} {l : List (Nat × Nat × Nat)} {top : Nat} (hc : chOk h 0 l) (hk : lnk l top) (hl : ∀ e ∈ l, e.1 < 8 ∧ e.2.1 < 24) (h10 : l.length ≤ 10) : m_X2_defineChain h (nI l.length) (nI top) = some (dfH h l) := by
  have := c_dc_loop (nI l.length) (nI top) hc hk hl h10 l.length 200 (Nat.le_refl _) (by omega)
  rw [List.drop_length] at this
  exact this
