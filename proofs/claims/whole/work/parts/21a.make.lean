/-! MAKING THE WORLD: cell k of it lies at lo + k -/
abbrev adL (lo : Nat) : Nat → Nat := fun k => lo + k
theorem adL_ok (lo n : Nat) : AdOk lo (adL lo) n := ⟨fun i j _ _ h => Nat.add_left_cancel h, fun k _ => Nat.le_add_right lo k⟩
theorem wld_push (cA : Nat → ClassId) (ad : Nat → Nat) (g : Mem) (lay : List Dscx) (d : Dscx) : wld cA ad g (lay ++ [d]) = wld cA ad g lay ++ [(ad lay.length, pcE cA ad (g lay.length) d)] := by
  simp [wld, List.mapIdx_append]
theorem wld_lset {cA : Nat → ClassId} {ad : Nat → Nat} {g : Mem} {lay : List Dscx} {k : Nat} {d d' : Dscx} (h : lay[k]? = some d) : (wld cA ad g lay).set k (ad k, pcE cA ad (g k) d') = wld cA ad g (lay.set k d') := by
  have hk : k < lay.length := (List.getElem?_eq_some_iff.mp h).1
  apply List.ext_getElem?
  intro j
  by_cases hj : j = k
  · subst hj
    rw [List.getElem?_set_self (by simpa [wld] using hk), wld_at (List.getElem?_set_self hk)]
  · rw [List.getElem?_set_ne (Ne.symm hj)]
    simp only [wld, List.getElem?_mapIdx]
    rw [List.getElem?_set_ne (Ne.symm hj)]
theorem fld_ref {ad : Nat → Nat} {r : Nat → Int32} {fs : List Fdx} {j q : Nat} (h : j < fs.length) : (fs.mapIdx (fun i d => pcV ad r i d)).set j (.ref (ad q)) = (fs.set j (some (some q))).mapIdx (fun i d => pcV ad r i d) := by
  apply List.ext_getElem?
  intro i
  by_cases hi : i = j
  · subst hi
    rw [List.getElem?_set_self (by simpa using h), List.getElem?_mapIdx, List.getElem?_set_self h]
    rfl
  · rw [List.getElem?_set_ne (Ne.symm hi)]
    simp only [List.getElem?_mapIdx]
    rw [List.getElem?_set_ne (Ne.symm hi)]
/-- what a constructor's start holds -/
def Bi (D : va_G) (cA : Nat → ClassId) (lo : Nat) (g : Mem) (lay : List Dscx) (U : State) : Prop := U.heap.size = lo + lay.length ∧ va_P D vwCl (wld cA (adL lo) g lay) U.heap ∧ va_K D vwCl (tysL cA) U ∧ NWd U ∧ va_AO RX0 U
def Pi_ (av : List Value) (D : va_G) (cA : Nat → ClassId) (lo : Nat) (g : Mem) (lay : List Dscx) : Array Value → State → Prop := va_Pc av (Bi D cA lo g lay)
theorem Pi_blind {av : List Value} {D : va_G} {cA : Nat → ClassId} {lo : Nat} {g : Mem} {lay : List Dscx} : FrameBlind (Pi_ av D cA lo g lay) := by
  intro a U gg mk h
  obtain ⟨h0, h1, h2, h3, h4, h5⟩ := h
  exact ⟨h0, h1, h2, va_K.moved (u := U) (U := U.calling gg mk a) (Vm.Alike.refl U.vm) h3, NWd.same (u := U) (U := U.calling gg mk a) rfl h4, va_AO.moved (u := U) (U := U.calling gg mk a) (Vm.Alike.refl U.vm) h5⟩
theorem Pi_at {av : List Value} {D : va_G} {cA : Nat → ClassId} {lo : Nat} {g : Mem} {lay : List Dscx} {s : State} {H : Heap} (hz : H.size = lo + lay.length) (hP : va_P D vwCl (wld cA (adL lo) g lay) H) (hK : va_K D vwCl (tysL cA) s) (hN : NWd s) (hO : va_AO RX0 s) : ∀ U : State, U.heap = H → s.WarmedH U.vm → Pi_ av D cA lo g lay av.toArray U := by
  intro U hU hW
  exact ⟨rfl, by rw [hU]; exact hz, by rw [hU]; exact hP, va_K.moved hW.alike hK, hN.warm hW, va_AO.moved hW.alike hO⟩
def Qi (D : va_G) (cA : Nat → ClassId) (lo : Nat) (g : Mem) (lay : List Dscx) : Array Value → State → Outcome → State → Prop := fun _ st o t => o = .returned none ∧ va_P D vwCl (wld cA (adL lo) g lay) t.heap ∧ va_F (fun q => lo ≤ q) st t
theorem startI {l : Launch} {y : MethodName} {ws ws' : List Cond} {rm : Room} {av : List Value} {B0 : State → Prop} {Qc : Array Value → State → Outcome → State → Prop} {mc ms : Nat} {free : Addr → Prop} {cc : ByteArray} {maxL : Nat} {ret : Option FieldType}
    (hy : plainName y.cls = true) (hw : ws = Cond.code y cc maxL ret :: ws') (hn : (lg_sl av).length ≤ maxL)
    (body : ∀ (p : Program) (e : Env) (s : State) (m : MethodId) (args : Array Value) (below : List Frame) (meth : Method) (c : Code) (ls : Array Slot), CallFix p m c cc maxL s args ws y.cls → meth.sig.returnType = ret → meth.locks = false → meth.name = y.name → B0 s → lv_has ls maxL (lv_args 0 av) →
      W p l e rm s m args below meth c s.heap [] 0 0 (MQ below Qc args s mc ms free) (F0 m 0 ls [])) : Met l y ws rm (va_Pc av B0) Qc mc ms free := by
  refine Met.ofW (cc := cc) (maxL := maxL) (ret := ret) hy hw ?_
  intro p e s m args below meth c s₁ B hml hv
  obtain ⟨rfl, hB⟩ := hv
  have hl := lv_entry av (n := maxL) hn
  rw [lg_entry_eq]
  exact body p e s m _ below meth c _ ⟨B.exec, B.bytes, hml, findClass_of_methodNamed B.named, atoms_spec (ws := ws) B.pre⟩ B.returns B.notSynchronized (name_of_methodNamed B.named B.method).1 hB hl
section MK
variable {p : Program} {l : Launch} {e : Env} {R : Room} {s : State} {m : MethodId} {args : Array Value} {below : List Frame} {meth : Method} {c : Code} {H : Heap} {locs : List Loc} {cells slots : Nat} {Q : State → Prop}
variable {cc : ByteArray} {pc nL : Nat} {ls : Array Slot} {rest : List Value} {D : va_G} {cA : Nat → ClassId} {lo : Nat} {g : Mem} {own : String} {Ts : List Cond} {lay : List Dscx} {gf : JFrame}
/-- how large the heap is, while nothing but the world's cells has been made -/
theorem n_sz (hlo : lo ≤ s.heap.size) (hsz : s.heap.size + cells = lo + lay.length) (hP : va_P D vwCl (wld cA (adL lo) g lay) H) (hS : va_S (fun q => lo ≤ q) s.heap H locs) (kk : H.size = lo + lay.length → W p l e R s m args below meth c H locs cells slots Q gf) : W p l e R s m args below meth c H locs cells slots Q gf := by
  intro T hT X
  have h1 := X.heapSize
  rw [hT, hsz] at h1
  refine kk (Nat.le_antisymm h1 ?_) T hT X
  cases hn : lay.length with
  | zero => exact Nat.le_trans hlo hS.1
  | succ n =>
    have hk : n < lay.length := by omega
    have h2 := (hP n _ (wld_at (List.getElem?_eq_getElem hk))).lt
    have h3 : lo + n < H.size := h2
    omega
theorem n_arr {t : Nat} {n : Int32} {N : Nat} {atype : ArrayType} (S : CallFix p m c cc nL s args Ts own) (harr : Cond.arrayClass (newarray.typeOf atype) ∈ Ts) (hfc : s.vm.findClass ("[" ++ (newarray.typeOf atype).toString) = some (cA t)) (hcell : vp_cell (cA t) (N, pcA (adL lo) (fun _ => 0) t (fun _ => none)) = arrV (cA t) N (fun _ => defaultValue (newarray.typeOf atype))) (hlo : lo ≤ s.heap.size) (hsz : s.heap.size + cells = lo + lay.length) (hP : va_P D vwCl (wld cA (adL lo) g lay) H) (hS : va_S (fun q => lo ≤ q) s.heap H locs) (hz : ∀ i, g lay.length i = 0)
    (hn : ¬ n < 0) (hN : n.toNatClampNeg = N) (hb : N * componentBytes (newarray.typeOf atype) ≤ 536870912) (hc : cells + 1 ≤ R.cells) (hs : slots + N ≤ R.slots) (hd : decode cc pc = .ok (.newarray atype, 2))
    (kk : ∀ H1 : Heap, va_P D vwCl (wld cA (adL lo) g (lay ++ [.inr (t, N, fun _ => none)])) H1 → va_S (fun q => lo ≤ q) s.heap H1 locs → W p l e R s m args below meth c H1 locs (cells + 1) (slots + N) Q (F0 m (pc + 2) ls (.ref (adL lo lay.length) :: rest))) : W p l e R s m args below meth c H locs cells slots Q (F0 m pc ls (.int n :: rest)) := by
  refine n_sz hlo hsz hP hS (fun hH => ?_)
  refine va_newaK S.1 S.2.1 (S.2.2.2.2 _ harr) rfl hd rfl hn hN hb hc hs hH fun H1 c1 e1 z1 o1 _ hNm => ?_
  have hcA : c1 = cA t := Option.some.inj (hNm.symm.trans hfc)
  subst hcA
  have hk : ∀ (k : Nat) (x : Nat × va_E), (wld cA (adL lo) g lay)[k]? = some x → H1[x.1]? = H[x.1]? := fun k x hx => o1 x.1 (by rw [← hH]; exact (hP k x hx).lt)
  refine kk H1 ?_ ⟨by have := hS.1; omega, fun x h1 h2 => (o1 x (by have := hS.1; omega)).trans (hS.2.1 x h1 h2), hS.2.2⟩
  rw [wld_push]
  refine (hP.kept hk).app (fun k x hx => ?_)
  have hz1 : k < 1 := (List.getElem?_eq_some_iff.mp hx).1
  rw [show k = 0 by omega] at hx
  cases hx
  show H1[lo + lay.length]? = some (vp_cell (cA t) (N, pcA (adL lo) (g lay.length) t (fun _ => none)))
  rw [show g lay.length = (fun _ => 0) from funext hz, hcell]
  exact e1
theorem n_new {C : String} {T : u_T} {N ci index : Nat} {fs : List Fdx} (ty0 : Nat → FieldType) (hty : ∀ k, k < N → parseFieldDescriptor (T k).2.2.1 = some (ty0 k)) (S : CallFix p m c cc nL s args Ts own) (hK : va_K D vwCl (tysL cA) s) (hin : ∀ w ∈ u_ws C T N, w ∈ Ts) (hcl : Cond.classLink own index C ∈ Ts) (hinst : Cond.instantiable C N ∈ Ts) (hini : Cond.initialized C ∈ Ts) (hlo : lo ≤ s.heap.size) (hsz : s.heap.size + cells = lo + lay.length) (hP : va_P D vwCl (wld cA (adL lo) g lay) H) (hS : va_S (fun q => lo ≤ q) s.heap H locs) (hz : ∀ i, g lay.length i = 0) (hc : vwCl[ci]? = some (C, T, N))
    (hfs : ∀ j, j < N → defaultValue (ty0 j) = vp_V (fs.mapIdx (fun j d => pcV (adL lo) (fun _ => 0) j d)) j) (hcs : cells + 1 ≤ R.cells) (hss : slots + N ≤ R.slots) (hd : decode cc pc = .ok (.new index, 3))
    (kk : ∀ H1 : Heap, va_P D vwCl (wld cA (adL lo) g (lay ++ [.inl (ci, fs)])) H1 → va_S (fun q => lo ≤ q) s.heap H1 locs → W p l e R s m args below meth c H1 locs (cells + 1) (slots + N) Q (F0 m (pc + 3) ls (.ref (adL lo lay.length) :: rest))) : W p l e R s m args below meth c H locs cells slots Q (F0 m pc ls rest) := by
  refine n_sz hlo hsz hP hS (fun hH => ?_)
  have hKn := hK.1 ci _ hc
  refine W.newcK S.1 S.2.1 S.2.2.2.1 (S.2.2.2.2 _ hcl) (S.2.2.2.2 _ hinst) (S.2.2.2.2 _ hini) rfl hd hcs hss hKn.2.1 hH fun H1 kC hkC e1 z1 o1 => ?_
  have hk : ∀ (k : Nat) (x : Nat × va_E), (wld cA (adL lo) g lay)[k]? = some x → H1[x.1]? = H[x.1]? := fun k x hx => o1 x.1 (by rw [← hH]; exact (hP k x hx).lt)
  refine kk H1 ?_ ⟨by have := hS.1; omega, fun x h1 h2 => (o1 x (by have := hS.1; omega)).trans (hS.2.1 x h1 h2), hS.2.2⟩
  rw [wld_push]
  refine (hP.kept hk).app (fun k x hx => ?_)
  have hz1 : k < 1 := (List.getElem?_eq_some_iff.mp hx).1
  rw [show k = 0 by omega] at hx
  cases hx
  rw [show g lay.length = (fun _ => 0) from funext hz]
  exact ⟨_, hc, (u_born ty0 S.2.2.2.2 hin hKn hkC e1 hty).to hfs⟩
theorem n_newq {n : Int32} {N index : Nat} (S : CallFix p m c cc nL s args Ts own) (hK : va_K D vwCl (tysL cA) s) (hO : va_AO RX0 s) (hcl : Cond.classLink own index RX0 ∈ Ts) (hlo : lo ≤ s.heap.size) (hsz : s.heap.size + cells = lo + lay.length) (hP : va_P D vwCl (wld cA (adL lo) g lay) H) (hS : va_S (fun q => lo ≤ q) s.heap H locs)
    (hn : ¬ n < 0) (hN : n.toNatClampNeg = N) (hb : N * 4 ≤ 536870912) (hc : cells + 1 ≤ R.cells) (hs : slots + N ≤ R.slots) (hd : decode cc pc = .ok (.anewarray index, 3))
    (kk : ∀ H1 : Heap, va_P D vwCl (wld cA (adL lo) g (lay ++ [.inr (3, N, fun _ => none)])) H1 → va_S (fun q => lo ≤ q) s.heap H1 locs → W p l e R s m args below meth c H1 locs (cells + 1) (slots + N) Q (F0 m (pc + 3) ls (.ref (adL lo lay.length) :: rest))) : W p l e R s m args below meth c H locs cells slots Q (F0 m pc ls (.int n :: rest)) := by
  refine n_sz hlo hsz hP hS (fun hH => ?_)
  subst hN
  refine W.anew S.1 S.2.1 S.2.2.2.1 (S.2.2.2.2 _ hcl) (va_AO.use hO) rfl hd rfl hn hb hc hs fun c1 kA comp f1 f2 f3 f4 => ?_
  have hcA : c1 = cA 3 := by
    obtain ⟨kA', comp', -, -, -, h4⟩ := (hK.2 3 _ rfl).2
    exact Option.some.inj (f1.symm.trans h4)
  subst hcA
  generalize hH1 : H.push ({ cls := cA 3, slots := Array.replicate n.toNatClampNeg .null, vm := .none } : Cell) = H1
  have z1 : H1.size = H.size + 1 := by rw [← hH1, Array.size_push]
  have e1 : H1[H.size]? = some (arrV (cA 3) n.toNatClampNeg (fun _ => .null)) := by rw [← hH1, Array.getElem?_push_size, ← arrV_new]
  have o1 : ∀ q : Nat, q < H.size → H1[q]? = H[q]? := fun q hq => by rw [← hH1, Array.getElem?_push, if_neg (Nat.ne_of_lt hq)]
  have hk : ∀ (k : Nat) (x : Nat × va_E), (wld cA (adL lo) g lay)[k]? = some x → H1[x.1]? = H[x.1]? := fun k x hx => o1 x.1 ((hP k x hx).lt)
  rw [hH]
  refine kk H1 ?_ ⟨by have := hS.1; omega, fun x h1 h2 => (o1 x (by have := hS.1; omega)).trans (hS.2.1 x h1 h2), hS.2.2⟩
  rw [wld_push]
  refine (hP.kept hk).app (fun k x hx => ?_)
  have hz1 : k < 1 := (List.getElem?_eq_some_iff.mp hx).1
  rw [show k = 0 by omega] at hx
  cases hx
  show H1[lo + lay.length]? = some (vp_cell _ _)
  rw [← hH]
  exact e1
/-- a final field of a reference, in its class's constructor -/
theorem n_putF {C : String} {T : u_T} {N ci index k j q : Nat} {fs : List Fdx} {ty1 : FieldType} (ty0 : Nat → FieldType) (hty : ∀ k, k < N → parseFieldDescriptor (T k).2.2.1 = some (ty0 k)) (hnm : ∀ a, a < N → ∀ b, b < N → a ≠ b → (T a).2.1 ≠ (T b).2.1) (S : CallFix p m c cc nL s args Ts own) (hK : va_K D vwCl (tysL cA) s) (hP : va_P D vwCl (wld cA (adL lo) g lay) H) (hS : va_S (fun q => lo ≤ q) s.heap H locs) (hin : ∀ w ∈ u_ws C T N, w ∈ Ts) (hlink : (Cond.fieldLink own index (T j).1 (T j).2.1 (T j).2.2.1).before args s = true) (hc : vwCl[ci]? = some (C, T, N)) (hj : j < N) (hfin : (T j).2.2.2 = true) (hi : meth.name = "<init>") (hdecl : (T j).1 = own) (hd2 : parseFieldDescriptor (T j).2.2.1 = some ty1) (hn : narrow ty1 (.ref (adL lo q)) = .ref (adL lo q)) (hft : fits ty1 (.ref (adL lo q)) = true) (hl : lay[k]? = some (.inl (ci, fs))) (hf : j < fs.length) (hd : decode cc pc = .ok (.putfield index, 3))
    (kk : ∀ (H1 : Heap) (locs1 : List Loc), va_P D vwCl (wld cA (adL lo) g (lay.set k (.inl (ci, fs.set j (some (some q)))))) H1 → va_S (fun q => lo ≤ q) s.heap H1 locs1 → W p l e R s m args below meth c H1 locs1 cells slots Q (F0 m (pc + 3) ls rest)) : W p l e R s m args below meth c H locs cells slots Q (F0 m pc ls (.ref (adL lo q) :: .ref (adL lo k) :: rest)) := by
  refine va_putF (fs := fs.mapIdx (fun j d => pcV (adL lo) (g k) j d)) S.1 S.2.1 S.2.2.2.2 hin ty0 hty hnm S.2.2.2.1 hK hP ((adL_ok lo lay.length).D cA g) hS k (wld_at hl) hc j hj hlink (fun _ h => h) hfin hi hdecl hd2 hn hft (by rw [List.length_mapIdx]; exact hf) hd (fun H1 locs1 h1 _ h3 => kk H1 locs1 ?_ h3)
  rw [fld_ref hf] at h1
  rw [← wld_lset (d' := .inl (ci, fs.set j (some (some q)))) hl]
  exact h1
theorem n_ast {k q n : Nat} {i : Int32} {f : Nat → Option Nat} {fs : List Fdx} (S : CallFix p m c cc nL s args Ts own) (hK : va_K D vwCl (tysL cA) s) (hP : va_P D vwCl (wld cA (adL lo) g lay) H) (hS : va_S (fun q => lo ≤ q) s.heap H locs) (hl : lay[k]? = some (.inr (3, n, f))) (hq : lay[q]? = some (.inl (0, fs))) (hin : vp_in i n) (hd : decode cc pc = .ok (.aastore, 1))
    (kk : ∀ (H1 : Heap) (locs1 : List Loc), va_P D vwCl (wld cA (adL lo) g (lay.set k (.inr (3, n, va_up f i.toNatClampNeg (some q))))) H1 → va_S (fun q => lo ≤ q) s.heap H1 locs1 → W p l e R s m args below meth c H1 locs1 cells slots Q (F0 m (pc + 1) ls rest)) : W p l e R s m args below meth c H locs cells slots Q (F0 m pc ls (.ref (adL lo q) :: .int i :: .ref (adL lo k) :: rest)) := by
  refine va_astq (cA := cA 3) (n := n) (f := fun i => (f i).map (adL lo)) (r := (RX0, TX0, 8)) S.1 S.2.1 hK hP ((adL_ok lo lay.length).D cA g) hS k 3 q 0 (wld_at hl) rfl (wld_at hq) rfl hin hd (fun H1 locs1 h1 _ h3 => kk H1 locs1 ?_ h3)
  have e1 : va_up (fun i => (f i).map (adL lo)) i.toNatClampNeg (some (adL lo q)) = fun z => (va_up f i.toNatClampNeg (some q) z).map (adL lo) := by
    funext z
    by_cases hz : z = i.toNatClampNeg
    · simp [va_up, hz]
    · simp [va_up, hz]
  rw [e1] at h1
  rw [← wld_lset (d' := .inr (3, n, va_up f i.toNatClampNeg (some q))) hl]
  exact h1
theorem k_I {g1 : Mem} {lay1 : List Dscx} {mc ms : Nat} {a : Array Value} {st0 : List Value} (hr : va_Run p l e R s m args below meth c H locs cells slots mc ms (F0 m pc ls st0) rest (Qi D cA lo g1 lay1 a) (fun q => lo ≤ q)) (hS : va_S (fun q => lo ≤ q) s.heap H locs)
    (kk : ∀ (H1 : Heap) (locs1 : List Loc), va_P D vwCl (wld cA (adL lo) g1 lay1) H1 → va_S (fun q => lo ≤ q) s.heap H1 locs1 → W p l e R s m args below meth c H1 locs1 (cells + mc) (slots + ms) Q (F0 m (pc + 3) ls rest)) : W p l e R s m args below meth c H locs cells slots Q (F0 m pc ls st0) := by
  intro T hT X
  obtain ⟨v, st₀, t, T', L, h0, X', hL, e1, -, ⟨hv, hP, hF⟩, st⟩ := hr T hT X
  cases hv
  refine (fun (q : ∃ t2, Steps p.tables e below (T'.setTop (F0 m (pc + 3) ls rest)) t2 ∧ Q t2) => ?_) (kk t.heap (locs ++ L) hP ?_ T' e1 X')
  · obtain ⟨t2, a1, b1⟩ := q
    exact ⟨t2, st t2 a1, b1⟩
  · obtain ⟨f1, f2⟩ := hF
    rw [h0] at f1 f2
    refine ⟨Nat.le_trans hS.1 f1, fun q hq hn => ?_, fun q hq => ?_⟩
    · rw [f2 q (Nat.lt_of_lt_of_le hq hS.1) hn]
      exact hS.2.1 q hq hn
    · rcases List.mem_append.mp hq with h | h
      · exact hS.2.2 q h
      · exact hL q h
theorem e_I {g1 : Mem} {lay1 : List Dscx} {mc ms : Nat} (S : CallFix p m c cc nL s args Ts own) (hr : meth.sig.returnType = none) (hlocks : meth.locks = false) (hP : va_P D vwCl (wld cA (adL lo) g lay) H) (hS : va_S (fun q => lo ≤ q) s.heap H locs) (hg : g = g1) (hy : lay = lay1) (hc : cells ≤ mc) (hs : slots ≤ ms) (hd : decode cc pc = .ok (.return_, 1)) : W p l e R s m args below meth c H locs cells slots (MQ below (Qi D cA lo g1 lay1) args s mc ms (fun q => lo ≤ q)) (F0 m pc ls []) := by
  subst hg
  subst hy
  refine W.widen hc hs ?_
  exact W.vret S.1 S.2.1 hr (fun t ht _ => ⟨rfl, by rw [ht]; exact hP, hS.F ht⟩) hS.2.2 hd
end MK
