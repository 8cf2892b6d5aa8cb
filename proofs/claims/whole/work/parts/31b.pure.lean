/-! PURE: the state that both sides stand for (A, in the reference's layout), and the two relations -/
theorem mup_eq (g : Mem) (k i : Nat) (v : Int32) : mup g k i v k i = v := by simp [mup]
theorem mup_ne {g : Mem} {k i a b : Nat} {v : Int32} (h : a ≠ k ∨ b ≠ i) : mup g k i v a b = g a b := by
  unfold mup
  rw [if_neg (by omega)]
theorem mup_nk {g : Mem} {k i a b : Nat} {v : Int32} (h : a ≠ k) : mup g k i v a b = g a b := mup_ne (.inl h)
theorem mup_ni {g : Mem} {k i b : Nat} {v : Int32} (h : b ≠ i) : mup g k i v k b = g k b := mup_ne (.inr h)
def sP (A : Mem) (m : Nat) : Bool := decide (A 55 m ≠ 0)
def sL (A : Mem) (m : Nat) : Bool := decide (A 56 m ≠ 0)
def sF (A : Mem) (m n : Nat) : Int32 := A 58 (24 * m + n)
def sE (A : Mem) (m n : Nat) : Int32 := A 59 (24 * m + n)
def sc (A : Mem) (m : Nat) : Nat := (A 60 m).toNatClampNeg
def so (A : Mem) (m j : Nat) : Nat := (A 61 (6 * m + j)).toNatClampNeg
def si (A : Mem) (m j : Nat) : Int32 := A 62 (6 * m + j)
def se (A : Mem) (m j : Nat) : Int32 := A 63 (6 * m + j)
def sq (A : Mem) (m j : Nat) : Bool := decide (A 64 (6 * m + j) ≠ 0)
/-- some dependency of m is on t, another module -/
def sdp (A : Mem) (m t : Nat) : Bool := (List.range' 0 (sc A m)).any (fun j => decide (so A m j = t) && decide (t ≠ m))
def srq (A : Mem) (m t : Nat) : Bool := (List.range' 0 (sc A m)).any (fun j => sq A m j && (decide (so A m j = t) && decide (t ≠ m)))
/-- the classes of m, and all -/
def cnE (A : Mem) (m : Nat) : Nat := cnt (fun n => decide (sE A m n ≠ -1)) 24
def tot (A : Mem) : Nat → Nat
  | 0 => 0
  | m + 1 => tot A m + cnE A m
def okF (v : Int32) : Prop := v = -3 ∨ v = -2 ∨ v = -1 ∨ ∃ k, k < 24 ∧ v = nI k
def WF (A : Mem) : Prop :=
  (∀ m, m < 8 → A 55 m = bI (sP A m)) ∧ (∀ m, m < 8 → A 56 m = bI (sL A m)) ∧ (∀ m, m < 8 → sL A m = true → sP A m = true) ∧
  (∀ m, m < 8 → ∀ n, n < 24 → okF (sF A m n)) ∧
  (∀ m, m < 8 → ∀ n, n < 24 → sE A m n = -1 ∨ ((∃ k, k < 10 ∧ sE A m n = nI k) ∧ sL A m = true)) ∧
  (∀ m, m < 8 → sc A m ≤ 6 ∧ A 60 m = nI (sc A m)) ∧
  (∀ m, m < 8 → ∀ j, j < sc A m → so A m j < 8 ∧ A 61 (6 * m + j) = nI (so A m j) ∧ A 64 (6 * m + j) = bI (sq A m j)) ∧
  A 54 11 = nI (tot A 8)
/-- module m of the class -/
def RCm (h A : Mem) (m : Nat) : Prop :=
  (∀ n, n < 24 → h (kM m + 1) n = sF A m n) ∧ (∀ n, n < 24 → h (kM m + 2) n = sE A m n) ∧ h (kM m) 5 = nI (sc A m) ∧
  (∀ j, j < sc A m → h (kM m + 3) j = (if so A m j = m then -1 else nI (so A m j)) ∧ h (kM m + 4) j = si A m j ∧ h (kM m + 5) j = se A m j) ∧
  sm8 (h (kM m) 6) ∧ (∀ t, t < 8 → bt (h (kM m) 6) t = sdp A m t) ∧ sm8 (h (kM m) 7) ∧ (∀ t, t < 8 → bt (h (kM m) 7) t = srq A m t)
def RC (h A : Mem) : Prop :=
  sm8 (h 0 1) ∧ (∀ m, m < 8 → bt (h 0 1) m = sP A m) ∧ sm8 (h 0 2) ∧ (∀ m, m < 8 → bt (h 0 2) m = sL A m) ∧ ∀ m, m < 8 → RCm h A m
def RR (h A : Mem) : Prop := h 55 = A 55 ∧ h 56 = A 56 ∧ h 58 = A 58 ∧ h 59 = A 59 ∧ h 60 = A 60 ∧ h 61 = A 61 ∧ h 62 = A 62 ∧ h 63 = A 63 ∧ h 64 = A 64 ∧ h 54 11 = A 54 11
def Inv (g : Mem) : Prop := ∃ A, WF A ∧ RC g A ∧ RR g A
/-- all is the same, but in the cells lo .. hi-1 -/
def Fq (lo hi : Nat) (h h' : Mem) : Prop := ∀ k, (k < lo ∨ hi ≤ k) → h' k = h k
theorem Fq.rf {lo hi : Nat} (h : Mem) : Fq lo hi h h := fun _ _ => rfl
theorem Fq.trans {lo hi : Nat} {a b c : Mem} (h1 : Fq lo hi a b) (h2 : Fq lo hi b c) : Fq lo hi a c := fun k hk => (h2 k hk).trans (h1 k hk)
theorem Fq.mono {lo hi lo' hi' : Nat} {a b : Mem} (h1 : Fq lo hi a b) (hl : lo' ≤ lo) (hh : hi ≤ hi') : Fq lo' hi' a b := fun k hk => h1 k (by omega)
theorem Fq.up {lo hi : Nat} {a b : Mem} {k i : Nat} {v : Int32} (h1 : Fq lo hi a b) (hl : lo ≤ k) (hh : k < hi) : Fq lo hi a (mup b k i v) := fun x hx => by
  funext y
  rw [mup_nk (by omega), h1 x hx]
theorem Fq.up1 {lo hi : Nat} {a : Mem} {k i : Nat} {v : Int32} (hl : lo ≤ k) (hh : k < hi) : Fq lo hi a (mup a k i v) := (Fq.rf a).up hl hh
theorem RC.fd {h h' A : Mem} (H : RC h A) (f : Fq 50 71 h h') : RC h' A := by
  obtain ⟨h1, h2, h3, h4, h5⟩ := H
  have e0 : h' 0 = h 0 := f 0 (by omega)
  refine ⟨by rw [e0]; exact h1, fun m hm => by rw [e0]; exact h2 m hm, by rw [e0]; exact h3, fun m hm => by rw [e0]; exact h4 m hm, fun m hm => ?_⟩
  have e : ∀ d, d < 6 → h' (kM m + d) = h (kM m + d) := fun d hd => f _ (by unfold kM; omega)
  have ek : h' (kM m) = h (kM m) := e 0 (by omega)
  unfold RCm
  rw [ek, e 1 (by omega), e 2 (by omega), e 3 (by omega), e 4 (by omega), e 5 (by omega)]
  exact h5 m hm
theorem RC.fd72 {h h' A : Mem} (H : RC h A) (f : Fq 50 72 h h') : RC h' A := by
  obtain ⟨h1, h2, h3, h4, h5⟩ := H
  have e0 : h' 0 = h 0 := f 0 (by omega)
  refine ⟨by rw [e0]; exact h1, fun m hm => by rw [e0]; exact h2 m hm, by rw [e0]; exact h3, fun m hm => by rw [e0]; exact h4 m hm, fun m hm => ?_⟩
  have e : ∀ d, d < 6 → h' (kM m + d) = h (kM m + d) := fun d hd => f _ (by unfold kM; omega)
  have ek : h' (kM m) = h (kM m) := e 0 (by omega)
  unfold RCm
  rw [ek, e 1 (by omega), e 2 (by omega), e 3 (by omega), e 4 (by omega), e 5 (by omega)]
  exact h5 m hm
theorem RR.fd {h h' A : Mem} (H : RR h A) (f : Fq 0 54 h h') : RR h' A := by
  have e : ∀ k, 54 ≤ k → h' k = h k := fun k hk => f k (.inr hk)
  unfold RR
  rw [e 54 (by omega), e 55 (by omega), e 56 (by omega), e 58 (by omega), e 59 (by omega), e 60 (by omega), e 61 (by omega), e 62 (by omega), e 63 (by omega), e 64 (by omega)]
  exact H
theorem RR.f71 {h A : Mem} {i : Nat} {v : Int32} (H : RR h A) : RR (mup h 71 i v) A := by
  have e : ∀ k, k ≠ 71 → mup h 71 i v k = h k := fun k hk => by funext x; exact mup_nk hk
  unfold RR
  rw [e 54 (by omega), e 55 (by omega), e 56 (by omega), e 58 (by omega), e 59 (by omega), e 60 (by omega), e 61 (by omega), e 62 (by omega), e 63 (by omega), e 64 (by omega)]
  exact H
theorem RC.f71 {h A : Mem} {i : Nat} {v : Int32} (H : RC h A) : RC (mup h 71 i v) A := H.fd72 ((Fq.rf h).up (by decide) (by decide))
/-! the class's checks -/
theorem c_mod (x : Int32) : m_X2_isModule x = bI (decide (0 ≤ x ∧ x < 8)) := by
  unfold m_X2_isModule
  by_cases h : x < 0
  · rw [if_pos h, decide_eq_false (fun h2 => (i_lt.mpr h2.1) h)]
    rfl
  · rw [if_neg h]
    by_cases h8 : (8 : Int32) ≤ x
    · rw [if_pos h8, decide_eq_false (fun h2 => (i_lt.mpr h8) h2.2)]
      rfl
    · rw [if_neg h8, decide_eq_true ⟨i_lt.mp h, i_le.mp h8⟩]
      rfl
theorem c_name (x : Int32) : m_X2_isName x = bI (decide (0 ≤ x ∧ x < 24)) := by
  unfold m_X2_isName
  by_cases h : x < 0
  · rw [if_pos h, decide_eq_false (fun h2 => (i_lt.mpr h2.1) h)]
    rfl
  · rw [if_neg h]
    by_cases h8 : (24 : Int32) ≤ x
    · rw [if_pos h8, decide_eq_false (fun h2 => (i_lt.mpr h8) h2.2)]
      rfl
    · rw [if_neg h8, decide_eq_true ⟨i_lt.mp h, i_le.mp h8⟩]
      rfl
theorem c_paths (x : Int32) : m_X2_isPathSet x = bI (decide (0 ≤ x ∧ x ≤ 63)) := by
  unfold m_X2_isPathSet
  by_cases h : x < 0
  · rw [if_pos h, decide_eq_false (fun h2 => (i_lt.mpr h2.1) h)]
    rfl
  · rw [if_neg h]
    by_cases h8 : (63 : Int32) < x
    · rw [if_pos h8, decide_eq_false (fun h2 => (i_le.mpr h8) h2.2)]
      rfl
    · rw [if_neg h8, decide_eq_true ⟨i_lt.mp h, i_lt.mp h8⟩]
      rfl
theorem r_in (x a b : Int32) : m_X3_in x a b = bI (decide (a ≤ x ∧ x ≤ b)) := by
  unfold m_X3_in
  by_cases h : x < a
  · rw [if_pos h, decide_eq_false (fun h2 => (i_lt.mpr h2.1) h)]
    rfl
  · rw [if_neg h]
    by_cases h8 : b < x
    · rw [if_pos h8, decide_eq_false (fun h2 => (i_le.mpr h8) h2.2)]
      rfl
    · rw [if_neg h8, decide_eq_true ⟨i_lt.mp h, i_lt.mp h8⟩]
      rfl
theorem lt_succ {x : Int32} {n : Nat} (hn : n + 1 < 2 ^ 31) : x ≤ nI n ↔ x < nI (n + 1) := by
  rw [Int32.le_iff_toInt_le, Int32.lt_iff_toInt_lt, nI_toInt hn, nI_toInt (by omega)]
  omega
theorem ex_mod {x : Int32} (h : 0 ≤ x ∧ x < 8) : ∃ m, m < 8 ∧ x = nI m := exI_lt (n := 8) (by decide) h.1 h.2
theorem in_mod {m : Nat} (h : m < 8) : (0 : Int32) ≤ nI m ∧ nI m < 8 := ⟨(zI_le (a := 0) (by decide) (by omega)).mpr (by omega), (zI_lt (b := 8) (by omega) (by decide)).mpr h⟩
theorem in_name {m : Nat} (h : m < 24) : (0 : Int32) ≤ nI m ∧ nI m < 24 := ⟨(zI_le (a := 0) (by decide) (by omega)).mpr (by omega), (zI_lt (b := 24) (by omega) (by decide)).mpr h⟩
theorem bI_if {α : Type} (b : Bool) (x y : α) : (if bI b = 0 then x else y) = (if b then y else x) := by cases b <;> rfl
theorem c_isP {h A : Mem} (H : RC h A) (x : Int32) : m_X2_isPresent h x = some (bI (decide (0 ≤ x ∧ x < 8) && sP A x.toNatClampNeg)) := by
  unfold m_X2_isPresent
  rw [c_mod, bI_if]
  by_cases hx : 0 ≤ x ∧ x < 8
  · obtain ⟨m, hm, rfl⟩ := ex_mod hx
    rw [decide_eq_true hx, if_pos rfl, isIn_nI _ (by omega), H.2.1 m hm, bI_if, zI_nat (by omega)]
    cases sP A m <;> rfl
  · rw [decide_eq_false hx]
    rfl
theorem c_isL {h A : Mem} (H : RC h A) (x : Int32) : m_X2_isLoaded h x = some (bI (decide (0 ≤ x ∧ x < 8) && sL A x.toNatClampNeg)) := by
  unfold m_X2_isLoaded
  rw [c_mod, bI_if]
  by_cases hx : 0 ≤ x ∧ x < 8
  · obtain ⟨m, hm, rfl⟩ := ex_mod hx
    rw [decide_eq_true hx, if_pos rfl, isIn_nI _ (by omega), H.2.2.2.1 m hm, bI_if, zI_nat (by omega)]
    cases sL A m <;> rfl
  · rw [decide_eq_false hx]
    rfl
theorem c_isLn {h A : Mem} (H : RC h A) {m : Nat} (hm : m < 8) : m_X2_isLoaded h (nI m) = some (bI (sL A m)) := by
  rw [c_isL H, decide_eq_true (in_mod hm), zI_nat (by omega)]
  rfl
theorem r_isP {h A : Mem} (H : RR h A) (x : Int32) : m_X3_isPresent h x = some (bI (decide (0 ≤ x ∧ x < 8) && sP A x.toNatClampNeg)) := by
  unfold m_X3_isPresent m_X3_isModule
  rw [r_in, bI_if]
  by_cases hx : 0 ≤ x ∧ x < 8
  · obtain ⟨m, hm, rfl⟩ := ex_mod hx
    rw [decide_eq_true (⟨hx.1, (lt_succ (n := 7) (by decide)).mpr hx.2⟩ : (0 : Int32) ≤ nI m ∧ nI m ≤ 7), if_pos rfl, gi_nI hm (by decide), zI_nat (by omega), decide_eq_true hx, H.1]
    unfold sP
    by_cases h0 : A 55 m = 0 <;> simp [h0, bI]
  · rw [decide_eq_false hx, decide_eq_false (fun h2 => hx ⟨h2.1, (lt_succ (n := 7) (by decide)).mp h2.2⟩)]
    rfl
theorem r_isL {h A : Mem} (H : RR h A) (x : Int32) : m_X3_isLoaded h x = some (bI (decide (0 ≤ x ∧ x < 8) && sL A x.toNatClampNeg)) := by
  unfold m_X3_isLoaded m_X3_isModule
  rw [r_in, bI_if]
  by_cases hx : 0 ≤ x ∧ x < 8
  · obtain ⟨m, hm, rfl⟩ := ex_mod hx
    rw [decide_eq_true (⟨hx.1, (lt_succ (n := 7) (by decide)).mpr hx.2⟩ : (0 : Int32) ≤ nI m ∧ nI m ≤ 7), if_pos rfl, gi_nI hm (by decide), zI_nat (by omega), decide_eq_true hx, H.2.1]
    unfold sL
    by_cases h0 : A 56 m = 0 <;> simp [h0, bI]
  · rw [decide_eq_false hx, decide_eq_false (fun h2 => hx ⟨h2.1, (lt_succ (n := 7) (by decide)).mp h2.2⟩)]
    rfl
