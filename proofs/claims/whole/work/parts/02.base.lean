/-! THE FLAT MEMORY: every int of the world, by the number of its cell and its place there; the world's shape beside it -/
abbrev Mem : Type := Nat → Nat → Int32
def mup (g : Mem) (k i : Nat) (v : Int32) : Mem := fun a b => if a = k ∧ b = i then v else g a b
theorem mup_row (g : Mem) (k i : Nat) (v : Int32) : mup g k i v k = upd (g k) i v := by
  funext b
  simp [mup, upd]
theorem mup_row_ne {g : Mem} {k i a : Nat} {v : Int32} (h : a ≠ k) : mup g k i v a = g a := by
  funext b
  simp [mup, h]
/-- a field: none: an int; some r: a reference, to the cell of that number, or null -/
abbrev Fdx : Type := Option (Option Nat)
/-- a cell: an object (its class's number, its fields), or an array (its kind, its length, what it refers to) -/
abbrev Dscx : Type := (Nat × List Fdx) ⊕ (Nat × Nat × (Nat → Option Nat))
def pcV (ad : Nat → Nat) (r : Nat → Int32) (j : Nat) (d : Fdx) : Value := match d with
  | none => .int (r j)
  | some q => va_rf (q.map ad)
def pcA (ad : Nat → Nat) (r : Nat → Int32) (t : Nat) (g : Nat → Option Nat) : (Nat → Int32) ⊕ (Nat → Int64) ⊕ (Nat → UInt32) ⊕ (Nat → UInt64) ⊕ (Nat → Option Nat) := match t with
  | 0 => .inl r
  | 1 => .inl r
  | 2 => .inr (.inl (fun i => (r i).toInt64))
  | _ => .inr (.inr (.inr (.inr (fun i => (g i).map ad))))
def pcE (cA : Nat → ClassId) (ad : Nat → Nat) (r : Nat → Int32) (d : Dscx) : va_E := match d with
  | .inl (ci, fs) => .inr (ci, fs.mapIdx (fun j d => pcV ad r j d))
  | .inr (t, n, g) => .inl (cA t, n, pcA ad r t g)
def wld (cA : Nat → ClassId) (ad : Nat → Nat) (g : Mem) (lay : List Dscx) : va_W := lay.mapIdx (fun k d => (ad k, pcE cA ad (g k) d))
theorem wld_at {cA : Nat → ClassId} {ad : Nat → Nat} {g : Mem} {lay : List Dscx} {k : Nat} {d : Dscx} (h : lay[k]? = some d) : (wld cA ad g lay)[k]? = some (ad k, pcE cA ad (g k) d) := by
  simp [wld, h]
theorem wld_set {cA : Nat → ClassId} {ad : Nat → Nat} {g : Mem} {lay : List Dscx} {k i : Nat} {v : Int32} {d : Dscx} {e : va_E} (h : lay[k]? = some d) (he : e = pcE cA ad (upd (g k) i v) d) : (wld cA ad g lay).set k (ad k, e) = wld cA ad (mup g k i v) lay := by
  have hk : k < lay.length := (List.getElem?_eq_some_iff.mp h).1
  apply List.ext_getElem?
  intro j
  by_cases hj : j = k
  · subst hj
    rw [List.getElem?_set_self (by simpa [wld] using hk), wld_at h, mup_row, he]
  · rw [List.getElem?_set_ne (Ne.symm hj)]
    simp only [wld, List.getElem?_mapIdx]
    rw [mup_row_ne hj]
theorem fld_set {ad : Nat → Nat} {r : Nat → Int32} {fs : List Fdx} {j : Nat} {v : Int32} (h : fs[j]? = some none) : (fs.mapIdx (fun i d => pcV ad r i d)).set j (.int v) = fs.mapIdx (fun i d => pcV ad (upd r j v) i d) := by
  have hk : j < fs.length := (List.getElem?_eq_some_iff.mp h).1
  apply List.ext_getElem?
  intro i
  by_cases hi : i = j
  · subst hi
    rw [List.getElem?_set_self (by simpa using hk)]
    simp [h, pcV, upd]
  · rw [List.getElem?_set_ne (Ne.symm hi)]
    simp only [List.getElem?_mapIdx]
    cases fs[i]? with
    | none => rfl
    | some d =>
      cases d with
      | none => simp [pcV, upd, hi]
      | some q => simp [pcV]
def gd {α : Type} (p : Prop) [Decidable p] (x : Option α) : Option α := if p then x else none
theorem gd_some {α : Type} {p : Prop} [Decidable p] {x : Option α} {y : α} (h : gd p x = some y) : p ∧ x = some y := by
  unfold gd at h
  split at h
  · exact ⟨by assumption, h⟩
  · cases h
theorem bd_some {α β : Type} {x : Option α} {f : α → Option β} {y : β} (h : x.bind f = some y) : ∃ a, x = some a ∧ f a = some y := by
  cases x with
  | none => cases h
  | some a => exact ⟨a, rfl, h⟩
/-- the addresses are apart, and none lies below lo -/
def AdOk (lo : Nat) (ad : Nat → Nat) (n : Nat) : Prop := (∀ i j, i < n → j < n → ad i = ad j → i = j) ∧ ∀ k, k < n → lo ≤ ad k
theorem AdOk.D {lo : Nat} {ad : Nat → Nat} {lay : List Dscx} (h : AdOk lo ad lay.length) (cA : Nat → ClassId) (g : Mem) : va_D (fun q => lo ≤ q) (wld cA ad g lay) := by
  refine ⟨fun i j p q hi hj hpq => ?_, fun k q hk => ?_⟩
  · simp only [wld, List.getElem?_mapIdx, Option.map_eq_some_iff] at hi hj
    obtain ⟨d1, h1, rfl⟩ := hi
    obtain ⟨d2, h2, rfl⟩ := hj
    exact h.1 i j (List.getElem?_eq_some_iff.mp h1).1 (List.getElem?_eq_some_iff.mp h2).1 hpq
  · simp only [wld, List.getElem?_mapIdx, Option.map_eq_some_iff] at hk
    obtain ⟨d1, h1, rfl⟩ := hk
    exact h.2 k (List.getElem?_eq_some_iff.mp h1).1
