/-! THE CLAIM'S OWN WORLD: FlatLoader 0; its array of modules 1; module m at 2 + 6 m, its five rows behind it; Row 50, its members 51; the chain 52, 53; the reference 54, its rows 55 .. 70; the law's long[1] 71 -/
def ia (n : Nat) : Dscx := .inr (0, n, fun _ => none)
def za (n : Nat) : Dscx := .inr (1, n, fun _ => none)
def kM (m : Nat) : Nat := 2 + 6 * m
def fsM (k : Nat) : List Fdx := [some (some (k + 1)), some (some (k + 2)), some (some (k + 3)), some (some (k + 4)), some (some (k + 5)), none, none, none]
def dM (k : Nat) : Dscx := .inl (0, fsM k)
def mdD (k : Nat) : List Dscx := [dM k, ia 24, ia 24, ia 6, ia 6, ia 6]
def fsF : List Fdx := [some (some 1), none, none, some (some 50), some (some 52), some (some 53)]
def dF : Dscx := .inl (2, fsF)
def dA : Dscx := .inr (3, 8, fun i => if i < 8 then some (kM i) else none)
def fsR : List Fdx := [some (some 51), none, none, none]
def dR : Dscx := .inl (1, fsR)
def fsX : List Fdx := [none, some (some 55), some (some 56), some (some 57), some (some 58), some (some 59), some (some 60), some (some 61), some (some 62), some (some 63), some (some 64), none, none, some (some 65), some (some 66), some (some 67), some (some 68), some (some 69), some (some 70)]
def dX : Dscx := .inl (3, fsX)
def lay0 : List Dscx := [dF, dA] ++ (mdD 2 ++ (mdD 8 ++ (mdD 14 ++ (mdD 20 ++ (mdD 26 ++ (mdD 32 ++ (mdD 38 ++ (mdD 44 ++ ([dR, ia 8, ia 10, ia 10] ++ ([dX, za 8, za 8, za 8, ia 192, ia 192, ia 8, ia 48, ia 48, ia 48, za 48, ia 8, za 8, za 8, ia 10, ia 10, ia 11] ++ [.inr (2, 1, fun _ => none)]))))))))))
theorem lay0_len : lay0.length = 72 := rfl
theorem lt8 {m : Nat} (h : m < 8) : m = 0 ∨ m = 1 ∨ m = 2 ∨ m = 3 ∨ m = 4 ∨ m = 5 ∨ m = 6 ∨ m = 7 := by omega
theorem lyM {m : Nat} (h : m < 8) : lay0[kM m]? = some (dM (kM m)) := by
  rcases lt8 h with rfl | rfl | rfl | rfl | rfl | rfl | rfl | rfl <;> rfl
theorem lyM1 {m : Nat} (h : m < 8) : lay0[kM m + 1]? = some (ia 24) := by
  rcases lt8 h with rfl | rfl | rfl | rfl | rfl | rfl | rfl | rfl <;> rfl
theorem lyM2 {m : Nat} (h : m < 8) : lay0[kM m + 2]? = some (ia 24) := by
  rcases lt8 h with rfl | rfl | rfl | rfl | rfl | rfl | rfl | rfl <;> rfl
theorem lyM3 {m : Nat} (h : m < 8) : lay0[kM m + 3]? = some (ia 6) := by
  rcases lt8 h with rfl | rfl | rfl | rfl | rfl | rfl | rfl | rfl <;> rfl
theorem lyM4 {m : Nat} (h : m < 8) : lay0[kM m + 4]? = some (ia 6) := by
  rcases lt8 h with rfl | rfl | rfl | rfl | rfl | rfl | rfl | rfl <;> rfl
theorem lyM5 {m : Nat} (h : m < 8) : lay0[kM m + 5]? = some (ia 6) := by
  rcases lt8 h with rfl | rfl | rfl | rfl | rfl | rfl | rfl | rfl <;> rfl
def tysL (cA : Nat → ClassId) : List (ClassId × FieldType) := [(cA 0, .int), (cA 1, .boolean), (cA 2, .long), (cA 3, .object RX0)]
/-- the words on nest mates -/
def nestW : List Cond := [.fieldLinkNest "FlatLoader" 76 "FlatLoader$OneModule" "extended" "[I" "FlatLoader", .fieldLinkNest "FlatLoader" 163 "FlatLoader$OneModule" "definedAbove" "[I" "FlatLoader", .fieldLinkNest "FlatLoader" 184 "FlatLoader$OneModule" "on" "[I" "FlatLoader", .fieldLinkNest "FlatLoader" 194 "FlatLoader$OneModule" "imports" "[I" "FlatLoader", .fieldLinkNest "FlatLoader" 204 "FlatLoader$OneModule" "exports" "[I" "FlatLoader", .fieldLinkNest "FlatLoader" 88 "FlatLoader$OneModule" "dependencies" "I" "FlatLoader", .fieldLinkNest "FlatLoader" 175 "FlatLoader$OneModule" "dependedSet" "I" "FlatLoader", .fieldLinkNest "FlatLoader" 169 "FlatLoader$OneModule" "requiredSet" "I" "FlatLoader", .fieldLinkNest "FlatLoader" 157 "FlatLoader$Row" "members" "[I" "FlatLoader", .fieldLinkNest "FlatLoader" 154 "FlatLoader$Row" "size" "I" "FlatLoader", .fieldLinkNest "FlatLoader" 201 "FlatLoader$Row" "begun" "I" "FlatLoader", .methodLinkNest "FlatLoader" 15 ⟨"FlatLoader$OneModule", "<init>", "()V"⟩ "FlatLoader", .methodLinkNest "FlatLoader" 25 ⟨"FlatLoader$Row", "<init>", "()V"⟩ "FlatLoader", .methodLinkNest "FlatLoader" 181 ⟨"FlatLoader$Row", "clear", "()V"⟩ "FlatLoader", .methodLinkNest "FlatLoader" 187 ⟨"FlatLoader$OneModule", "hasPath", "(I)Z"⟩ "FlatLoader", .methodLinkNest "FlatLoader" 190 ⟨"FlatLoader$Row", "addOnceIf", "(ZI)V"⟩ "FlatLoader", .methodLinkNest "FlatLoader$Row" 28 ⟨"FlatLoader", "isIn", "(II)Z"⟩ "FlatLoader", .methodLinkNest "FlatLoader$Row" 32 ⟨"FlatLoader", "bit", "(I)I"⟩ "FlatLoader", .methodLinkNest "FlatLoader" 71 ⟨"FlatLoader$OneModule", "holds", "(I)Z"⟩ "FlatLoader", .methodLinkNest "FlatLoader" 132 ⟨"FlatLoader$OneModule", "countClasses", "()I"⟩ "FlatLoader", .methodLinkNest "FlatLoader" 95 ⟨"FlatLoader$OneModule", "addDependency", "(IIIZ)V"⟩ "FlatLoader", .methodLinkNest "FlatLoader$OneModule" 41 ⟨"FlatLoader", "bit", "(I)I"⟩ "FlatLoader", .methodLinkNest "FlatLoader" 101 ⟨"FlatLoader$OneModule", "dropDependencies", "()V"⟩ "FlatLoader", .methodLinkNest "FlatLoader" 178 ⟨"FlatLoader$OneModule", "hasClassBelow", "(I)Z"⟩ "FlatLoader", .methodLinkNest "FlatLoader" 135 ⟨"FlatLoader$OneModule", "dropClasses", "()V"⟩ "FlatLoader", .methodLinkNest "FlatLoader" 213 ⟨"FlatLoader$OneModule", "hasDefined", "(I)Z"⟩ "FlatLoader"]
def NWd (U : State) : Prop := ∀ w ∈ nestW, va_Nw w U
def nestOk (w : Cond) : Bool := match w with
  | .fieldLinkNest _ _ _ _ _ _ => true
  | .methodLinkNest _ _ _ _ => true
  | _ => false
theorem nestW_ok : ∀ w ∈ nestW, nestOk w = true := by decide +kernel
theorem NWd.warm {s U : State} (hW : s.WarmedH U.vm) (h : NWd s) : NWd U := by
  intro w hw
  have h1 := h w hw
  have h2 := nestW_ok w hw
  cases w <;> first | exact va_Nw.warmF hW h1 | exact va_Nw.warmM hW h1 | cases h2
theorem NWd.same {u U : State} (hvm : u.vm = U.vm) (h : NWd u) : NWd U := by
  intro w hw
  have h1 := h w hw
  have h2 := nestW_ok w hw
  cases w <;> first | exact va_Nw.same rfl hvm h1 | cases h2
/-- guards of a mirror -/
def gi {α : Type} (i : Int32) (n : Nat) (x : Option α) : Option α := if i < 0 then none else if n ≤ i.toNatClampNeg then none else x
theorem gi_some {α : Type} {i : Int32} {n : Nat} {x : Option α} {y : α} (h : gi i n x = some y) : vp_in i n ∧ i.toNatClampNeg < n ∧ x = some y := by
  unfold gi at h
  split at h
  · cases h
  · split at h
    · cases h
    · rename_i h1 h2
      exact ⟨fun q => q.elim h1 h2, Nat.not_le.mp h2, h⟩
def gz {α : Type} (v : Int32) (x : Option α) : Option α := if v = 0 then x else if v = 1 then x else none
theorem gz_some {α : Type} {v : Int32} {x : Option α} {y : α} (h : gz v x = some y) : narrow .boolean (.int v) = .int v ∧ x = some y := by
  unfold gz at h
  split at h
  · rename_i h1
    subst h1
    exact ⟨rfl, h⟩
  · split at h
    · rename_i h1 h2
      subst h2
      exact ⟨rfl, h⟩
    · cases h
/-- what a method's start holds -/
def Bw (D : va_G) (cA : Nat → ClassId) (ad : Nat → Nat) (lo : Nat) (g : Mem) (U : State) : Prop := lo ≤ U.heap.size ∧ va_P D vwCl (wld cA ad g lay0) U.heap ∧ va_K D vwCl (tysL cA) U ∧ NWd U
def Pw (av : List Value) (D : va_G) (cA : Nat → ClassId) (ad : Nat → Nat) (lo : Nat) (g : Mem) : Array Value → State → Prop := va_Pc av (Bw D cA ad lo g)
theorem Pw_blind {av : List Value} {D : va_G} {cA : Nat → ClassId} {ad : Nat → Nat} {lo : Nat} {g : Mem} : FrameBlind (Pw av D cA ad lo g) := by
  intro a U gg mk h
  obtain ⟨h0, h1, h2, h3, h4⟩ := h
  exact ⟨h0, h1, h2, va_K.moved (u := U) (U := U.calling gg mk a) (Vm.Alike.refl U.vm) h3, NWd.same (u := U) (U := U.calling gg mk a) rfl h4⟩
theorem Pw_at {av : List Value} {D : va_G} {cA : Nat → ClassId} {ad : Nat → Nat} {lo : Nat} {g : Mem} {s : State} {H : Heap} {locs : List Loc} (hlo : lo ≤ s.heap.size) (hS : va_S (fun q => lo ≤ q) s.heap H locs) (hP : va_P D vwCl (wld cA ad g lay0) H) (hK : va_K D vwCl (tysL cA) s) (hN : NWd s) : ∀ U : State, U.heap = H → s.WarmedH U.vm → Pw av D cA ad lo g av.toArray U := by
  intro U hU hW
  exact ⟨rfl, by rw [hU]; exact Nat.le_trans hlo hS.1, by rw [hU]; exact hP, va_K.moved hW.alike hK, hN.warm hW⟩
def Tr (_ : State) : Prop := True
theorem Tr_blind {av : List Value} : FrameBlind (va_Pc av Tr) := by
  intro a U gg mk h
  exact ⟨h.1, trivial⟩
theorem Tr_at {av : List Value} {s : State} {H : Heap} : ∀ U : State, U.heap = H → s.WarmedH U.vm → va_Pc av Tr av.toArray U := fun _ _ _ => ⟨rfl, trivial⟩
/-- what a method's end holds: a reader's, a writer's -/
def Qr (r : Int32) : Array Value → State → Outcome → State → Prop := fun _ st o t => o = .returned (some (.int r)) ∧ t.heap = st.heap
def Qw (D : va_G) (cA : Nat → ClassId) (ad : Nat → Nat) (lo : Nat) (g : Mem) (r : Option Int32) : Array Value → State → Outcome → State → Prop := fun _ st o t => o = .returned (r.map Value.int) ∧ va_P D vwCl (wld cA ad g lay0) t.heap ∧ va_F (fun q => lo ≤ q) st t
/-- a method's start -/
theorem startW {l : Launch} {y : MethodName} {ws ws' : List Cond} {rm : Room} {av : List Value} {B0 : State → Prop} {Qc : Array Value → State → Outcome → State → Prop} {mc ms : Nat} {free : Addr → Prop} {cc : ByteArray} {maxL : Nat} {ret : Option FieldType}
    (hy : plainName y.cls = true) (hw : ws = Cond.code y cc maxL ret :: ws') (hn : (lg_sl av).length ≤ maxL)
    (body : ∀ (p : Program) (e : Env) (s : State) (m : MethodId) (args : Array Value) (below : List Frame) (meth : Method) (c : Code) (ls : Array Slot), CallFix p m c cc maxL s args ws y.cls → meth.sig.returnType = ret → meth.locks = false → B0 s → lv_has ls maxL (lv_args 0 av) →
      W p l e rm s m args below meth c s.heap [] 0 0 (MQ below Qc args s mc ms free) (F0 m 0 ls [])) : Met l y ws rm (va_Pc av B0) Qc mc ms free := by
  refine Met.ofW (cc := cc) (maxL := maxL) (ret := ret) hy hw ?_
  intro p e s m args below meth c s₁ B hml hv
  obtain ⟨rfl, hB⟩ := hv
  have hl := lv_entry av (n := maxL) hn
  rw [lg_entry_eq]
  exact body p e s m _ below meth c _ ⟨B.exec, B.bytes, hml, findClass_of_methodNamed B.named, atoms_spec (ws := ws) B.pre⟩ B.returns B.notSynchronized hB hl
section FR
variable {p : Program} {l : Launch} {e : Env} {R : Room} {s : State} {m : MethodId} {args : Array Value} {below : List Frame} {meth : Method} {c : Code} {H : Heap} {locs : List Loc} {cells slots : Nat} {Q : State → Prop}
variable {cc : ByteArray} {pc nL : Nat} {ls : Array Slot} {rest : List Value} {D : va_G} {cA : Nat → ClassId} {ad : Nat → Nat} {lo : Nat} {g : Mem} {own : String} {Ts : List Cond} {H0 : Heap} {lay : List Dscx}
theorem r_get {C : String} {T : u_T} {N ci index k j : Nat} {fs : List Fdx} {d : Fdx} {v : Value} (S : CallFix p m c cc nL s args Ts own) (hK : va_K D vwCl (tysL cA) s) (hP : va_P D vwCl (wld cA ad g lay) H) (hin : ∀ w ∈ u_ws C T N, w ∈ Ts) (hlink : (Cond.fieldLink own index (T j).1 (T j).2.1 (T j).2.2.1).before args s = true) (hc : vwCl[ci]? = some (C, T, N)) (hj : j < N) (hl : lay[k]? = some (.inl (ci, fs))) (hf : fs[j]? = some d) (hv : pcV ad (g k) j d = v) (hd : decode cc pc = .ok (.getfield index, 3))
    (kk : W p l e R s m args below meth c H locs cells slots Q (F0 m (pc + 3) ls (v :: rest))) : W p l e R s m args below meth c H locs cells slots Q (F0 m pc ls (.ref (ad k) :: rest)) :=
  va_get (fs := fs.mapIdx (fun j d => pcV ad (g k) j d)) S.1 S.2.1 S.2.2.2.2 hin S.2.2.2.1 hK hP k (wld_at hl) hc j hj hlink (fun _ h => h) (by rw [List.getElem?_mapIdx, hf, Option.map_some, hv]) hd kk
theorem r_getN {C host : String} {T : u_T} {N ci index k j : Nat} {fs : List Fdx} {d : Fdx} {v : Value} (S : CallFix p m c cc nL s args Ts own) (hK : va_K D vwCl (tysL cA) s) (hP : va_P D vwCl (wld cA ad g lay) H) (hin : ∀ w ∈ u_ws C T N, w ∈ Ts) (hlink : va_Nw (.fieldLinkNest own index (T j).1 (T j).2.1 (T j).2.2.1 host) s) (hc : vwCl[ci]? = some (C, T, N)) (hj : j < N) (hl : lay[k]? = some (.inl (ci, fs))) (hf : fs[j]? = some d) (hv : pcV ad (g k) j d = v) (hd : decode cc pc = .ok (.getfield index, 3))
    (kk : W p l e R s m args below meth c H locs cells slots Q (F0 m (pc + 3) ls (v :: rest))) : W p l e R s m args below meth c H locs cells slots Q (F0 m pc ls (.ref (ad k) :: rest)) :=
  va_getN (fs := fs.mapIdx (fun j d => pcV ad (g k) j d)) S.1 S.2.1 S.2.2.2.2 hin S.2.2.2.1 hK hP k (wld_at hl) hc j hj (va_Nw.use rfl hlink) (fun _ h => h) (by rw [List.getElem?_mapIdx, hf, Option.map_some, hv]) hd kk
theorem r_put {C : String} {T : u_T} {N ci index k j : Nat} {fs : List Fdx} {v : Int32} (ty0 : Nat → FieldType) (hty : ∀ k, k < N → parseFieldDescriptor (T k).2.2.1 = some (ty0 k)) (hnm : ∀ a, a < N → ∀ b, b < N → a ≠ b → (T a).2.1 ≠ (T b).2.1) (S : CallFix p m c cc nL s args Ts own) (hA : AdOk lo ad lay.length) (hK : va_K D vwCl (tysL cA) s) (hP : va_P D vwCl (wld cA ad g lay) H) (hS : va_S (fun q => lo ≤ q) H0 H locs) (hin : ∀ w ∈ u_ws C T N, w ∈ Ts) (hlink : (Cond.fieldLink own index (T j).1 (T j).2.1 (T j).2.2.1).before args s = true) (hc : vwCl[ci]? = some (C, T, N)) (hj : j < N) (hfin : (T j).2.2.2 = false) (hd2 : parseFieldDescriptor (T j).2.2.1 = some .int) (hl : lay[k]? = some (.inl (ci, fs))) (hf : fs[j]? = some none) (hd : decode cc pc = .ok (.putfield index, 3))
    (kk : ∀ (H1 : Heap) (locs1 : List Loc), va_P D vwCl (wld cA ad (mup g k j v) lay) H1 → va_S (fun q => lo ≤ q) H0 H1 locs1 → W p l e R s m args below meth c H1 locs1 cells slots Q (F0 m (pc + 3) ls rest)) : W p l e R s m args below meth c H locs cells slots Q (F0 m pc ls (.int v :: .ref (ad k) :: rest)) := by
  refine va_put (fs := fs.mapIdx (fun j d => pcV ad (g k) j d)) S.1 S.2.1 S.2.2.2.2 hin ty0 hty hnm S.2.2.2.1 hK hP (hA.D cA g) hS k (wld_at hl) hc j hj hlink (fun _ h => h) hfin hd2 (vp_nar_int v) rfl (by rw [List.length_mapIdx]; exact (List.getElem?_eq_some_iff.mp hf).1) hd (fun H1 locs1 h1 _ h3 => kk H1 locs1 ?_ h3)
  rw [wld_set (i := j) (v := v) hl (by rw [fld_set hf]; rfl)] at h1
  exact h1
theorem r_putN {C host : String} {T : u_T} {N ci index k j : Nat} {fs : List Fdx} {v : Int32} (ty0 : Nat → FieldType) (hty : ∀ k, k < N → parseFieldDescriptor (T k).2.2.1 = some (ty0 k)) (hnm : ∀ a, a < N → ∀ b, b < N → a ≠ b → (T a).2.1 ≠ (T b).2.1) (S : CallFix p m c cc nL s args Ts own) (hA : AdOk lo ad lay.length) (hK : va_K D vwCl (tysL cA) s) (hP : va_P D vwCl (wld cA ad g lay) H) (hS : va_S (fun q => lo ≤ q) H0 H locs) (hin : ∀ w ∈ u_ws C T N, w ∈ Ts) (hlink : va_Nw (.fieldLinkNest own index (T j).1 (T j).2.1 (T j).2.2.1 host) s) (hc : vwCl[ci]? = some (C, T, N)) (hj : j < N) (hfin : (T j).2.2.2 = false) (hd2 : parseFieldDescriptor (T j).2.2.1 = some .int) (hl : lay[k]? = some (.inl (ci, fs))) (hf : fs[j]? = some none) (hd : decode cc pc = .ok (.putfield index, 3))
    (kk : ∀ (H1 : Heap) (locs1 : List Loc), va_P D vwCl (wld cA ad (mup g k j v) lay) H1 → va_S (fun q => lo ≤ q) H0 H1 locs1 → W p l e R s m args below meth c H1 locs1 cells slots Q (F0 m (pc + 3) ls rest)) : W p l e R s m args below meth c H locs cells slots Q (F0 m pc ls (.int v :: .ref (ad k) :: rest)) := by
  refine va_putN (fs := fs.mapIdx (fun j d => pcV ad (g k) j d)) S.1 S.2.1 S.2.2.2.2 hin ty0 hty hnm S.2.2.2.1 hK hP (hA.D cA g) hS k (wld_at hl) hc j hj (va_Nw.use rfl hlink) (fun _ h => h) hfin hd2 (vp_nar_int v) rfl (by rw [List.length_mapIdx]; exact (List.getElem?_eq_some_iff.mp hf).1) hd (fun H1 locs1 h1 _ h3 => kk H1 locs1 ?_ h3)
  rw [wld_set (i := j) (v := v) hl (by rw [fld_set hf]; rfl)] at h1
  exact h1
theorem r_ild {k n : Nat} {f : Nat → Option Nat} {i : Int32} (S : CallFix p m c cc nL s args Ts own) (hK : va_K D vwCl (tysL cA) s) (hP : va_P D vwCl (wld cA ad g lay) H) (hl : lay[k]? = some (.inr (0, n, f))) (hin : vp_in i n) (hd : decode cc pc = .ok (.iaload, 1))
    (kk : W p l e R s m args below meth c H locs cells slots Q (F0 m (pc + 1) ls (.int (g k i.toNatClampNeg) :: rest))) : W p l e R s m args below meth c H locs cells slots Q (F0 m pc ls (.int i :: .ref (ad k) :: rest)) :=
  va_iald (cA := cA 0) (n := n) (f := g k) S.1 S.2.1 hK hP k 0 (wld_at hl) rfl hin hd kk
theorem r_zld {k n : Nat} {f : Nat → Option Nat} {i : Int32} (S : CallFix p m c cc nL s args Ts own) (hK : va_K D vwCl (tysL cA) s) (hP : va_P D vwCl (wld cA ad g lay) H) (hl : lay[k]? = some (.inr (1, n, f))) (hin : vp_in i n) (hd : decode cc pc = .ok (.baload, 1))
    (kk : W p l e R s m args below meth c H locs cells slots Q (F0 m (pc + 1) ls (.int (g k i.toNatClampNeg) :: rest))) : W p l e R s m args below meth c H locs cells slots Q (F0 m pc ls (.int i :: .ref (ad k) :: rest)) :=
  va_zald (cA := cA 1) (n := n) (f := g k) S.1 S.2.1 hK hP k 1 (wld_at hl) rfl hin hd kk
theorem r_ist {k n : Nat} {f : Nat → Option Nat} {i x : Int32} (S : CallFix p m c cc nL s args Ts own) (hA : AdOk lo ad lay.length) (hK : va_K D vwCl (tysL cA) s) (hP : va_P D vwCl (wld cA ad g lay) H) (hS : va_S (fun q => lo ≤ q) H0 H locs) (hl : lay[k]? = some (.inr (0, n, f))) (hin : vp_in i n) (hd : decode cc pc = .ok (.iastore, 1))
    (kk : ∀ (H1 : Heap) (locs1 : List Loc), va_P D vwCl (wld cA ad (mup g k i.toNatClampNeg x) lay) H1 → va_S (fun q => lo ≤ q) H0 H1 locs1 → W p l e R s m args below meth c H1 locs1 cells slots Q (F0 m (pc + 1) ls rest)) : W p l e R s m args below meth c H locs cells slots Q (F0 m pc ls (.int x :: .int i :: .ref (ad k) :: rest)) := by
  refine va_iast (cA := cA 0) (n := n) (f := g k) S.1 S.2.1 hK hP (hA.D cA g) hS k 0 (wld_at hl) rfl hin hd (fun H1 locs1 h1 _ h3 => kk H1 locs1 ?_ h3)
  rw [wld_set (cA := cA) (ad := ad) (g := g) (i := i.toNatClampNeg) (v := x) (e := .inl (cA 0, n, .inl (upd (g k) i.toNatClampNeg x))) hl rfl] at h1
  exact h1
theorem r_zst {k n : Nat} {f : Nat → Option Nat} {i x : Int32} (S : CallFix p m c cc nL s args Ts own) (hA : AdOk lo ad lay.length) (hK : va_K D vwCl (tysL cA) s) (hP : va_P D vwCl (wld cA ad g lay) H) (hS : va_S (fun q => lo ≤ q) H0 H locs) (hl : lay[k]? = some (.inr (1, n, f))) (hin : vp_in i n) (hd : decode cc pc = .ok (.bastore, 1))
    (kk : ∀ (H1 : Heap) (locs1 : List Loc), va_P D vwCl (wld cA ad (mup g k i.toNatClampNeg (vp_nar .boolean x)) lay) H1 → va_S (fun q => lo ≤ q) H0 H1 locs1 → W p l e R s m args below meth c H1 locs1 cells slots Q (F0 m (pc + 1) ls rest)) : W p l e R s m args below meth c H locs cells slots Q (F0 m pc ls (.int x :: .int i :: .ref (ad k) :: rest)) := by
  refine va_zast (cA := cA 1) (n := n) (f := g k) S.1 S.2.1 hK hP (hA.D cA g) hS k 1 (wld_at hl) rfl hin hd (fun H1 locs1 h1 _ h3 => kk H1 locs1 ?_ h3)
  rw [wld_set (cA := cA) (ad := ad) (g := g) (i := i.toNatClampNeg) (v := vp_nar .boolean x) (e := .inl (cA 1, n, .inl (upd (g k) i.toNatClampNeg (vp_nar .boolean x)))) hl rfl] at h1
  exact h1
theorem r_ald {i : Int32} (S : CallFix p m c cc nL s args Ts own) (hK : va_K D vwCl (tysL cA) s) (hP : va_P D vwCl (wld cA ad g lay0) H) (hin : vp_in i 8) (hd : decode cc pc = .ok (.aaload, 1))
    (kk : W p l e R s m args below meth c H locs cells slots Q (F0 m (pc + 1) ls (.ref (ad (kM i.toNatClampNeg)) :: rest))) : W p l e R s m args below meth c H locs cells slots Q (F0 m pc ls (.int i :: .ref (ad 1) :: rest)) :=
  va_aldq (cA := cA 3) (C := RX0) (n := 8) (f := fun i => (if i < 8 then some (kM i) else none).map ad) S.1 S.2.1 hK hP 1 3 (wld_at (d := dA) rfl) rfl hin hd (by
    have h8 : i.toNatClampNeg < 8 := Nat.not_le.mp fun q => hin (Or.inr q)
    rw [if_pos h8]
    exact kk)
/-- a call that leaves the heap as it is -/
theorem k_R {r : Int32} {a : Array Value} {st0 : List Value} (hr : va_Run p l e R s m args below meth c H locs cells slots 0 0 (F0 m pc ls st0) rest (Qr r a) (fun _ => False))
    (kk : W p l e R s m args below meth c H locs cells slots Q (F0 m (pc + 3) ls (.int r :: rest))) : W p l e R s m args below meth c H locs cells slots Q (F0 m pc ls st0) := by
  intro T hT X
  obtain ⟨v, st₀, t, T', L, h0, X', hL, e1, -, ⟨hv, hh⟩, st⟩ := hr T hT X
  cases hv
  obtain ⟨t2, a1, b1⟩ := kk T' (by rw [e1, hh, h0]) (Stand.forget X' (fun q h => (hL q h).elim))
  exact ⟨t2, st t2 a1, b1⟩
theorem k_W {g1 : Mem} {r : Option Int32} {a : Array Value} {st0 : List Value} (hr : va_Run p l e R s m args below meth c H locs cells slots 0 0 (F0 m pc ls st0) rest (Qw D cA ad lo g1 r a) (fun q => lo ≤ q)) (hS : va_S (fun q => lo ≤ q) H0 H locs)
    (kk : ∀ (H1 : Heap) (locs1 : List Loc), va_P D vwCl (wld cA ad g1 lay0) H1 → va_S (fun q => lo ≤ q) H0 H1 locs1 → W p l e R s m args below meth c H1 locs1 cells slots Q (F0 m (pc + 3) ls ((r.map Value.int).toList ++ rest))) : W p l e R s m args below meth c H locs cells slots Q (F0 m pc ls st0) := by
  intro T hT X
  obtain ⟨v, st₀, t, T', L, h0, X', hL, e1, -, ⟨hv, hP, hF⟩, st⟩ := hr T hT X
  cases hv
  refine (fun (q : ∃ t2, Steps p.tables e below (T'.setTop (F0 m (pc + 3) ls ((r.map Value.int).toList ++ rest))) t2 ∧ Q t2) => ?_) (kk t.heap (locs ++ L) hP ?_ T' e1 X')
  · obtain ⟨t2, a1, b1⟩ := q
    exact ⟨t2, st t2 a1, b1⟩
  · obtain ⟨f1, f2⟩ := hF
    rw [h0] at f1 f2
    refine ⟨Nat.le_trans hS.1 f1, fun q hq hn => ?_, fun q hq => ?_⟩
    · rw [f2 q (Nat.lt_of_lt_of_le hq hS.1) hn]
      exact hS.2.1 q hq hn
    · rcases List.mem_append.mp hq with h | h
      · exact hS.2.2 q h
      · exact hL q h
theorem k_Wi {g1 : Mem} {r : Int32} {a : Array Value} {st0 : List Value} (hr : va_Run p l e R s m args below meth c H locs cells slots 0 0 (F0 m pc ls st0) rest (Qw D cA ad lo g1 (some r) a) (fun q => lo ≤ q)) (hS : va_S (fun q => lo ≤ q) H0 H locs)
    (kk : ∀ (H1 : Heap) (locs1 : List Loc), va_P D vwCl (wld cA ad g1 lay0) H1 → va_S (fun q => lo ≤ q) H0 H1 locs1 → W p l e R s m args below meth c H1 locs1 cells slots Q (F0 m (pc + 3) ls (.int r :: rest))) : W p l e R s m args below meth c H locs cells slots Q (F0 m pc ls st0) := k_W hr hS kk
theorem k_Wv {g1 : Mem} {a : Array Value} {st0 : List Value} (hr : va_Run p l e R s m args below meth c H locs cells slots 0 0 (F0 m pc ls st0) rest (Qw D cA ad lo g1 none a) (fun q => lo ≤ q)) (hS : va_S (fun q => lo ≤ q) H0 H locs)
    (kk : ∀ (H1 : Heap) (locs1 : List Loc), va_P D vwCl (wld cA ad g1 lay0) H1 → va_S (fun q => lo ≤ q) H0 H1 locs1 → W p l e R s m args below meth c H1 locs1 cells slots Q (F0 m (pc + 3) ls rest)) : W p l e R s m args below meth c H locs cells slots Q (F0 m pc ls st0) := k_W hr hS kk
/-- ends -/
theorem e_R {v r : Int32} (S : CallFix p m c cc nL s args Ts own) (hr : meth.sig.returnType = some .int) (hlocks : meth.locks = false) (he : v = r) (hd : decode cc pc = .ok (.ireturn, 1)) : W p l e R s m args below meth c s.heap [] 0 0 (MQ below (Qr r) args s 0 0 (fun _ => False)) (F0 m pc ls [.int v]) :=
  W.iret (v := v) S.1 S.2.1 hr (fun t ht _ => ⟨by rw [he], ht⟩) (fun q h => by cases h) hd
theorem e_Rz {v r : Int32} (S : CallFix p m c cc nL s args Ts own) (hr : meth.sig.returnType = some .boolean) (hlocks : meth.locks = false) (hz : narrow .boolean (.int v) = .int v) (he : v = r) (hd : decode cc pc = .ok (.ireturn, 1)) : W p l e R s m args below meth c s.heap [] 0 0 (MQ below (Qr r) args s 0 0 (fun _ => False)) (F0 m pc ls [.int v]) :=
  W.zret (v := v) S.1 S.2.1 hr hz (fun t ht _ => ⟨by rw [he], ht⟩) (fun q h => by cases h) hd
theorem e_W {g1 : Mem} {v r : Int32} (S : CallFix p m c cc nL s args Ts own) (hr : meth.sig.returnType = some .int) (hlocks : meth.locks = false) (hP : va_P D vwCl (wld cA ad g lay0) H) (hS : va_S (fun q => lo ≤ q) s.heap H locs) (he : (g, v) = (g1, r)) (hd : decode cc pc = .ok (.ireturn, 1)) : W p l e R s m args below meth c H locs 0 0 (MQ below (Qw D cA ad lo g1 (some r)) args s 0 0 (fun q => lo ≤ q)) (F0 m pc ls [.int v]) := by
  cases he
  exact W.iret (v := v) S.1 S.2.1 hr (fun t ht _ => ⟨rfl, by rw [ht]; exact hP, hS.F ht⟩) hS.2.2 hd
theorem e_Wz {g1 : Mem} {v r : Int32} (S : CallFix p m c cc nL s args Ts own) (hr : meth.sig.returnType = some .boolean) (hlocks : meth.locks = false) (hz : narrow .boolean (.int v) = .int v) (hP : va_P D vwCl (wld cA ad g lay0) H) (hS : va_S (fun q => lo ≤ q) s.heap H locs) (he : (g, v) = (g1, r)) (hd : decode cc pc = .ok (.ireturn, 1)) : W p l e R s m args below meth c H locs 0 0 (MQ below (Qw D cA ad lo g1 (some r)) args s 0 0 (fun q => lo ≤ q)) (F0 m pc ls [.int v]) := by
  cases he
  exact W.zret (v := v) S.1 S.2.1 hr hz (fun t ht _ => ⟨rfl, by rw [ht]; exact hP, hS.F ht⟩) hS.2.2 hd
theorem e_Wv {g1 : Mem} (S : CallFix p m c cc nL s args Ts own) (hr : meth.sig.returnType = none) (hlocks : meth.locks = false) (hP : va_P D vwCl (wld cA ad g lay0) H) (hS : va_S (fun q => lo ≤ q) s.heap H locs) (he : g = g1) (hd : decode cc pc = .ok (.return_, 1)) : W p l e R s m args below meth c H locs 0 0 (MQ below (Qw D cA ad lo g1 none) args s 0 0 (fun q => lo ≤ q)) (F0 m pc ls []) := by
  cases he
  exact W.vret S.1 S.2.1 hr (fun t ht _ => ⟨rfl, by rw [ht]; exact hP, hS.F ht⟩) hS.2.2 hd
end FR
