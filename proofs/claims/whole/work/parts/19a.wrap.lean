/-! THE LAW'S WRAPPERS: a call that may throw, its handlers by name -/
def ncL : List (String × String) := [("java/lang/IllegalStateException", "java/lang/IllegalArgumentException"), ("java/util/NoSuchElementException", "java/lang/IllegalArgumentException"), ("java/lang/IllegalStateException", "java/util/NoSuchElementException")]
def NCd (U : State) : Prop := ∀ q ∈ ncL, va_Nc q.1 q.2 U
theorem NCd.moved {u U : State} (hvm : u.vm.Alike U.vm) (h : NCd u) : NCd U := by
  intro q hq
  obtain ⟨c, t, h1, h2, h3⟩ := h q hq
  exact ⟨c, t, by rw [hvm.findClass]; exact h1, by rw [hvm.findClass]; exact h2, by rw [hvm.assignable]; exact h3⟩
def Bz (D : va_G) (cA : Nat → ClassId) (ad : Nat → Nat) (lo : Nat) (g : Mem) (U : State) : Prop := Bx D cA ad lo g U ∧ NCd U
def Pz (av : List Value) (D : va_G) (cA : Nat → ClassId) (ad : Nat → Nat) (lo : Nat) (g : Mem) : Array Value → State → Prop := va_Pc av (Bz D cA ad lo g)
theorem Pz_blind {av : List Value} {D : va_G} {cA : Nat → ClassId} {ad : Nat → Nat} {lo : Nat} {g : Mem} : FrameBlind (Pz av D cA ad lo g) := by
  intro a U gg mk h
  obtain ⟨h0, h1, h2⟩ := h
  exact ⟨h0, (Px_blind (av := av) a U gg mk ⟨h0, h1⟩).2, NCd.moved (u := U) (U := U.calling gg mk a) (Vm.Alike.refl U.vm) h2⟩
theorem Pz_at {av : List Value} {D : va_G} {cA : Nat → ClassId} {ad : Nat → Nat} {lo : Nat} {g : Mem} {s : State} {H : Heap} {locs : List Loc} (hlo : lo ≤ s.heap.size) (hS : va_S (fun q => lo ≤ q) s.heap H locs) (hP : va_P D vwCl (wld cA ad g lay0) H) (hK : va_K D vwCl (tysL cA) s) (hN : NWd s) (hX : ZX lo s) (hC : NCd s) : ∀ U : State, U.heap = H → s.WarmedH U.vm → Pz av D cA ad lo g av.toArray U := by
  intro U hU hW
  exact ⟨rfl, (Px_at (av := av) hlo hS hP hK hN hX U hU hW).2, hC.moved hW.alike⟩
theorem startL {l : Launch} {y : MethodName} {ws ws' : List Cond} {rm : Room} {av : List Value} {B0 : State → Prop} {Qc : Array Value → State → Outcome → State → Prop} {mc ms : Nat} {free : Addr → Prop} {cc : ByteArray} {maxL : Nat} {ret : Option FieldType} {hh : List (Nat × Nat × Nat × Nat)}
    (hy : plainName y.cls = true) (hw : ws = Cond.codeWith y cc maxL ret hh :: ws') (hn : (lg_sl av).length ≤ maxL)
    (body : ∀ (p : Program) (e : Env) (s : State) (m : MethodId) (args : Array Value) (below : List Frame) (meth : Method) (c : Code) (ls : Array Slot), CallFix p m c cc maxL s args ws y.cls → meth.sig.returnType = ret → meth.locks = false → c.exceptionTable.toList = tableOf hh → B0 s → lv_has ls maxL (lv_args 0 av) →
      W p l e rm s m args below meth c s.heap [] 0 0 (MQ below Qc args s mc ms free) (F0 m 0 ls [])) : Met l y ws rm (va_Pc av B0) Qc mc ms free := by
  refine va_MetW (cc := cc) (maxL := maxL) (ret := ret) (hh := hh) hy hw ?_
  intro p e s m args below meth c s₁ B hml hv
  obtain ⟨rfl, hB⟩ := hv
  have hl := lv_entry av (n := maxL) hn
  have htab := vx_table (x := y) B (atoms_spec (ws := ws) B.pre (Cond.codeWith y cc maxL ret hh) (by rw [hw]; exact List.mem_cons_self))
  rw [lg_entry_eq]
  exact body p e s m _ below meth c _ ⟨B.exec, B.bytes, hml, findClass_of_methodNamed B.named, atoms_spec (ws := ws) B.pre⟩ B.returns B.notSynchronized htab hB hl
theorem hxR_pass {pl : Platform} {s : State} {own E nm : String} {d th : ClassId} {pc tgt : Nat} {x : ExceptionTableEntry} {t : List ExceptionTableEntry} {args : Array Value} (hpl : pl.magicAccessors = ({} : Platform).magicAccessors) (hown : s.vm.findClass own = some d) (hc : covers x pc = true) (h0 : x.catchType ≠ 0) (hl : (Cond.classLink own x.catchType nm).before args s = true) (hE : s.vm.findClass E = some th) (hn : va_Nc E nm s) (ht : hxR pl s d pc th tgt t) : hxR pl s d pc th tgt (x :: t) := by
  obtain ⟨c6, hc6, hcl6⟩ := Cond.classLink_spec hown hl pl hpl
  obtain ⟨a8, b8, h1, h2, h3⟩ := hn
  cases Option.some.inj (h1.symm.trans hE)
  cases Option.some.inj (h2.symm.trans hc6)
  exact Or.inr ⟨hc, h0, _, hcl6, Or.inr ⟨h3, ht⟩⟩
theorem hxR_take {pl : Platform} {s : State} {own E nm : String} {d th : ClassId} {pc tgt : Nat} {x : ExceptionTableEntry} {t : List ExceptionTableEntry} {args : Array Value} (hpl : pl.magicAccessors = ({} : Platform).magicAccessors) (hown : s.vm.findClass own = some d) (hc : covers x pc = true) (h0 : x.catchType ≠ 0) (hl : (Cond.classLink own x.catchType nm).before args s = true) (hE : s.vm.findClass E = some th) (hn : va_Nw (.castable E nm) s) (ht : tgt = x.handlerPc) : hxR pl s d pc th tgt (x :: t) := by
  obtain ⟨c6, hc6, hcl6⟩ := Cond.classLink_spec hown hl pl hpl
  obtain ⟨c3, c4, hc3, hc4, hasg⟩ := Cond.castable_spec (va_Nw.use (A := args) rfl hn)
  cases Option.some.inj (hc3.symm.trans hE)
  cases Option.some.inj (hc4.symm.trans hc6)
  exact Or.inr ⟨hc, h0, _, hcl6, Or.inl ⟨hasg, ht⟩⟩
section WR
variable {p : Program} {l : Launch} {e : Env} {R : Room} {s : State} {m : MethodId} {args : Array Value} {below : List Frame} {meth : Method} {c : Code} {H : Heap} {locs : List Loc} {cells slots : Nat} {Q : State → Prop}
variable {cc : ByteArray} {pc nL : Nat} {ls : Array Slot} {rest : List Value} {D : va_G} {cA : Nat → ClassId} {ad : Nat → Nat} {lo : Nat} {g : Mem} {own : String} {Ts : List Cond} {H0 : Heap}
theorem k_T {g1 : Mem} {o : Nat} {r : Option Int32} {a : Array Value} {st0 : List Value} (hr : vx_Run p l e R s m args below meth c H locs cells slots 1 6 (F0 m pc ls st0) rest (Qt D cA ad lo g1 o r a) (Qx D cA ad lo g1 o) (fun q => lo ≤ q)) (hS : va_S (fun q => lo ≤ q) H0 H locs)
    (kn : o = 0 → ∀ (H1 : Heap) (locs1 : List Loc), va_P D vwCl (wld cA ad g1 lay0) H1 → va_S (fun q => lo ≤ q) H0 H1 locs1 → W p l e R s m args below meth c H1 locs1 (cells + 1) (slots + 6) Q (F0 m (pc + 3) ls ((r.map Value.int).toList ++ rest)))
    (kx : o ≠ 0 → ∀ (q : Addr) (ce : Cell) (H1 : Heap) (locs1 : List Loc), H1[q]? = some ce → ce.vm = .none → s.vm.findClass (exN o) = some ce.cls → va_P D vwCl (wld cA ad g1 lay0) H1 → va_S (fun q => lo ≤ q) H0 H1 locs1 → vx_W p l e R s m args below meth c H1 locs1 (cells + 1) (slots + 6) Q (F0 m pc ls rest) q) : W p l e R s m args below meth c H locs cells slots Q (F0 m pc ls st0) := by
  have join : ∀ {st₀ t : State} {L : List Loc}, st₀.heap = H → (∀ q ∈ L, lo ≤ q.base) → va_F (fun q => lo ≤ q) st₀ t → va_S (fun q => lo ≤ q) H0 t.heap (locs ++ L) := by
    intro st₀ t L h0 hL hF
    obtain ⟨f1, f2⟩ := hF
    rw [h0] at f1 f2
    refine ⟨Nat.le_trans hS.1 f1, fun q hq hn => ?_, fun q hq => ?_⟩
    · rw [f2 q (Nat.lt_of_lt_of_le hq hS.1) hn]
      exact hS.2.1 q hq hn
    · rcases List.mem_append.mp hq with h | h
      · exact hS.2.2 q h
      · exact hL q h
  intro T hT X
  rcases hr T hT X with ⟨v, st₀, t, T', L, h0, X', hL, e1, -, ⟨ho, hv, hP, hF⟩, st⟩ | ⟨q, st₀, t, T', L, E, ce, h0, X', hL, e1, -, ⟨ho, hE, hP, hF⟩, hce, hcv, hcl, st⟩
  · cases hv
    obtain ⟨t2, a1, b1⟩ := kn ho t.heap (locs ++ L) hP (join h0 hL hF) T' e1 X'
    exact ⟨t2, st t2 a1, b1⟩
  · subst hE
    obtain ⟨t2, a1, b1⟩ := kx ho q ce t.heap (locs ++ L) hce hcv hcl hP (join h0 hL hF) T' e1 X'
    exact ⟨t2, st.trans a1, b1⟩
theorem e_Wk {g1 : Mem} {v r : Int32} {k n : Nat} (S : CallFix p m c cc nL s args Ts own) (hr : meth.sig.returnType = some .int) (hlocks : meth.locks = false) (hP : va_P D vwCl (wld cA ad g lay0) H) (hS : va_S (fun q => lo ≤ q) s.heap H locs) (he : (g, v) = (g1, r)) (hd : decode cc pc = .ok (.ireturn, 1)) : W p l e R s m args below meth c H locs k n (MQ below (Qw D cA ad lo g1 (some r)) args s k n (fun q => lo ≤ q)) (F0 m pc ls [.int v]) := by
  cases he
  exact W.iret (v := v) S.1 S.2.1 hr (fun t ht _ => ⟨rfl, by rw [ht]; exact hP, hS.F ht⟩) hS.2.2 hd
theorem r_lst {x : Int32} (S : CallFix p m c cc nL s args Ts own) (hA : AdOk lo ad lay0.length) (hK : va_K D vwCl (tysL cA) s) (hP : va_P D vwCl (wld cA ad g lay0) H) (hS : va_S (fun q => lo ≤ q) H0 H locs) (hd : decode cc pc = .ok (.lastore, 1))
    (kk : ∀ (H1 : Heap) (locs1 : List Loc), va_P D vwCl (wld cA ad (mup g 71 0 x) lay0) H1 → va_S (fun q => lo ≤ q) H0 H1 locs1 → W p l e R s m args below meth c H1 locs1 cells slots Q (F0 m (pc + 1) ls rest)) : W p l e R s m args below meth c H locs cells slots Q (F0 m pc ls (.long x.toInt64 :: .int 0 :: .ref (ad 71) :: rest)) := by
  have hl : lay0[71]? = some (.inr (2, 1, fun _ => none)) := rfl
  refine va_last (cA := cA 2) (n := 1) (f := fun i => (g 71 i).toInt64) S.1 S.2.1 hK hP (hA.D cA g) hS 71 2 (wld_at hl) rfl (by unfold vp_in; decide) hd (fun H1 locs1 h1 _ h3 => kk H1 locs1 ?_ h3)
  have e1 : vp_updL (fun i => (g 71 i).toInt64) (0 : Int32).toNatClampNeg x.toInt64 = fun i => (upd (g 71) 0 x i).toInt64 := by
    funext i
    by_cases hi : i = 0
    · subst hi
      simp [vp_updL, upd]
    · simp [vp_updL, upd, hi]
  rw [e1, wld_set (cA := cA) (ad := ad) (g := g) (i := 0) (v := x) (e := .inl (cA 2, 1, .inr (.inl (fun i => (upd (g 71) 0 x i).toInt64)))) hl rfl] at h1
  exact h1
theorem r_lld (S : CallFix p m c cc nL s args Ts own) (hK : va_K D vwCl (tysL cA) s) (hP : va_P D vwCl (wld cA ad g lay0) H) (hd : decode cc pc = .ok (.laload, 1))
    (kk : W p l e R s m args below meth c H locs cells slots Q (F0 m (pc + 1) ls (.long (g 71 0).toInt64 :: rest))) : W p l e R s m args below meth c H locs cells slots Q (F0 m pc ls (.int 0 :: .ref (ad 71) :: rest)) := by
  have hl : lay0[71]? = some (.inr (2, 1, fun _ => none)) := rfl
  exact va_lald (cA := cA 2) (n := 1) (f := fun i => (g 71 i).toInt64) S.1 S.2.1 hK hP 71 2 (wld_at hl) rfl (by unfold vp_in; decide) hd kk
end WR
