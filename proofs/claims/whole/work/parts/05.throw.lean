/-! METHODS THAT THROW: o = 0: it returns; else it throws exN o -/
def exN (o : Nat) : String := if o = 1 then "java/lang/IllegalArgumentException" else if o = 2 then "java/lang/IllegalStateException" else "java/util/NoSuchElementException"
def exUp : List String := ["java/lang/RuntimeException", "java/lang/Exception"]
def xW : List Cond := [.castable "java/lang/IllegalArgumentException" "java/lang/IllegalArgumentException", .castable "java/lang/IllegalStateException" "java/lang/IllegalStateException", .castable "java/util/NoSuchElementException" "java/util/NoSuchElementException", .declares (Bundle.initS "java/lang/RuntimeException"), .declares (Bundle.initS "java/lang/Exception"), .declares (Bundle.initS "java/lang/Throwable")]
def xOk (w : Cond) : Bool := match w with
  | .castable _ _ => true
  | .declares _ => true
  | _ => false
theorem xW_ok : ∀ w ∈ xW, xOk w = true := by decide +kernel
theorem xw_cast {a b : String} {s U : State} (hW : s.WarmedH U.vm) (hZ : va_Nw (.castable a b) s) : va_Nw (.castable a b) U := va_tabs rfl (rfl : (s.setVm U.vm).vm = U.vm) (by rw [Cond.castable_setVm hW.alike]; exact hZ)
def XWd (U : State) : Prop := ∀ w ∈ xW, va_Nw w U
theorem XWd.warm {s U : State} (hW : s.WarmedH U.vm) (h : XWd s) : XWd U := by
  intro w hw
  have h1 := h w hw
  have h2 := xW_ok w hw
  cases w <;> first | exact xw_cast hW h1 | exact va_Nw.warmD hW h1 | cases h2
theorem XWd.same {u U : State} (hvm : u.vm = U.vm) (h : XWd u) : XWd U := by
  intro w hw
  have h1 := h w hw
  have h2 := xW_ok w hw
  cases w <;> first | exact va_Nw.same rfl hvm h1 | cases h2
def strL : List (Nat × String) := [(43, "no such module"), (53, "the module is present"), (66, "no present module or no such name"), (74, "the module is loaded or holds the name"), (86, "no present module, nothing to depend on, or no set of paths"), (91, "the module has all the dependencies that it can have"), (93, "a loaded module cannot require one that is not loaded"), (99, "no present module"), (113, "the module is not loadable"), (125, "no loaded module"), (130, "another module needs the module or extends a class of it"), (138, "no loaded module or no such name"), (143, "the name is not found"), (148, "the class cannot be defined")]
def SWd (U : State) : Prop := ∀ q ∈ strL, ∃ sa, vk_R RX2 q.1 q.2 sa U
def ZX (lo : Nat) (U : State) : Prop := vx_Zq Bundle.tN "UNASSIGNED_STACK" Bundle.steD (fun q => lo ≤ q) U U.heap ∧ vx_Zq Bundle.tN "SUPPRESSED_SENTINEL" Bundle.listD (fun q => lo ≤ q) U U.heap ∧ XWd U ∧ SWd U
theorem ZX.at {lo : Nat} {s U : State} {H : Heap} {locs : List Loc} (hS : va_S (fun q => lo ≤ q) s.heap H locs) (hU : U.heap = H) (hW : s.WarmedH U.vm) (h : ZX lo s) : ZX lo U := by
  obtain ⟨h1, h2, h3, h4⟩ := h
  refine ⟨?_, ?_, h3.warm hW, fun q hq => ?_⟩
  · rw [hU]
    exact vx_Zq.moved hW.alike (h1.kept hS.2.1)
  · rw [hU]
    exact vx_Zq.moved hW.alike (h2.kept hS.2.1)
  · obtain ⟨sa, h5⟩ := h4 q hq
    exact ⟨sa, h5.warm hW⟩
theorem ZX.calling {lo : Nat} {U : State} {gg : JFrame} {mk : MethodId} {a : Array Value} (h : ZX lo U) : ZX lo (U.calling gg mk a) := by
  obtain ⟨h1, h2, h3, h4⟩ := h
  refine ⟨vx_Zq.moved (Vm.Alike.refl U.vm) h1, vx_Zq.moved (Vm.Alike.refl U.vm) h2, XWd.same (u := U) (U := U.calling gg mk a) rfl h3, fun q hq => ?_⟩
  obtain ⟨sa, h5⟩ := h4 q hq
  exact ⟨sa, vk_R.same (u := U) (U := U.calling gg mk a) rfl h5⟩
def Bx (D : va_G) (cA : Nat → ClassId) (ad : Nat → Nat) (lo : Nat) (g : Mem) (U : State) : Prop := Bw D cA ad lo g U ∧ ZX lo U
def Px (av : List Value) (D : va_G) (cA : Nat → ClassId) (ad : Nat → Nat) (lo : Nat) (g : Mem) : Array Value → State → Prop := va_Pc av (Bx D cA ad lo g)
theorem Px_blind {av : List Value} {D : va_G} {cA : Nat → ClassId} {ad : Nat → Nat} {lo : Nat} {g : Mem} : FrameBlind (Px av D cA ad lo g) := by
  intro a U gg mk h
  obtain ⟨h0, h1, h2⟩ := h
  exact ⟨h0, (Pw_blind (av := av) a U gg mk ⟨h0, h1⟩).2, h2.calling⟩
theorem Px_at {av : List Value} {D : va_G} {cA : Nat → ClassId} {ad : Nat → Nat} {lo : Nat} {g : Mem} {s : State} {H : Heap} {locs : List Loc} (hlo : lo ≤ s.heap.size) (hS : va_S (fun q => lo ≤ q) s.heap H locs) (hP : va_P D vwCl (wld cA ad g lay0) H) (hK : va_K D vwCl (tysL cA) s) (hN : NWd s) (hX : ZX lo s) : ∀ U : State, U.heap = H → s.WarmedH U.vm → Px av D cA ad lo g av.toArray U := by
  intro U hU hW
  exact ⟨rfl, (Pw_at (av := av) hlo hS hP hK hN U hU hW).2, hX.at hS hU hW⟩
def Qt (D : va_G) (cA : Nat → ClassId) (ad : Nat → Nat) (lo : Nat) (g : Mem) (o : Nat) (r : Option Int32) : Array Value → State → Outcome → State → Prop := fun _ st oc t => o = 0 ∧ oc = .returned (r.map Value.int) ∧ va_P D vwCl (wld cA ad g lay0) t.heap ∧ va_F (fun q => lo ≤ q) st t
def Qx (D : va_G) (cA : Nat → ClassId) (ad : Nat → Nat) (lo : Nat) (g : Mem) (o : Nat) : String → State → State → Prop := fun E st t => o ≠ 0 ∧ E = exN o ∧ va_P D vwCl (wld cA ad g lay0) t.heap ∧ va_F (fun q => lo ≤ q) st t
theorem startT {l : Launch} {y : MethodName} {ws ws' : List Cond} {rm : Room} {av : List Value} {B0 : State → Prop} {Qc : Array Value → State → Outcome → State → Prop} {XC : String → State → State → Prop} {mc ms : Nat} {free : Addr → Prop} {cc : ByteArray} {maxL : Nat} {ret : Option FieldType}
    (hy : plainName y.cls = true) (hw : ws = Cond.code y cc maxL ret :: ws') (hn : (lg_sl av).length ≤ maxL)
    (body : ∀ (p : Program) (e : Env) (s : State) (m : MethodId) (args : Array Value) (below : List Frame) (meth : Method) (c : Code) (ls : Array Slot), CallFix p m c cc maxL s args ws y.cls → meth.sig.returnType = ret → meth.locks = false → (∀ x ∈ c.exceptionTable.toList, False) → B0 s → lv_has ls maxL (lv_args 0 av) →
      W p l e rm s m args below meth c s.heap [] 0 0 (vx_MQ below Qc XC args s mc ms free) (F0 m 0 ls [])) : vx_Met l y ws rm (va_Pc av B0) Qc XC mc ms free := by
  refine vx_ofW (cc := cc) (maxL := maxL) (ret := ret) hy hw ?_
  intro p e s m args below meth c s₁ B hml hT hv
  obtain ⟨rfl, hB⟩ := hv
  have hl := lv_entry av (n := maxL) hn
  rw [lg_entry_eq]
  exact body p e s m _ below meth c _ ⟨B.exec, B.bytes, hml, findClass_of_methodNamed B.named, atoms_spec (ws := ws) B.pre⟩ B.returns B.notSynchronized hT hB hl
section TR
variable {p : Program} {l : Launch} {e : Env} {R : Room} {s : State} {m : MethodId} {args : Array Value} {below : List Frame} {meth : Method} {c : Code} {H : Heap} {locs : List Loc} {cells slots : Nat} {Q : State → Prop}
variable {cc : ByteArray} {pc nL : Nat} {ls : Array Slot} {rest : List Value} {D : va_G} {cA : Nat → ClassId} {ad : Nat → Nat} {lo : Nat} {g : Mem} {own : String} {Ts : List Cond} {H0 : Heap}
theorem t_W {g1 : Mem} {o : Nat} {v r : Int32} (S : CallFix p m c cc nL s args Ts own) (hr : meth.sig.returnType = some .int) (hlocks : meth.locks = false) (hP : va_P D vwCl (wld cA ad g lay0) H) (hS : va_S (fun q => lo ≤ q) s.heap H locs) (he : (g, 0, v) = (g1, o, r)) (hd : decode cc pc = .ok (.ireturn, 1)) : W p l e R s m args below meth c H locs 0 0 (vx_MQ below (Qt D cA ad lo g1 o (some r)) (Qx D cA ad lo g1 o) args s 1 6 (fun q => lo ≤ q)) (F0 m pc ls [.int v]) := by
  cases he
  refine vx_ret (W.widen (k := 1) (n := 6) (Nat.zero_le _) (Nat.zero_le _) ?_)
  exact W.iret (v := v) S.1 S.2.1 hr (fun t ht _ => ⟨rfl, rfl, by rw [ht]; exact hP, hS.F ht⟩) hS.2.2 hd
theorem t_Wv {g1 : Mem} {o : Nat} {r : Int32} (S : CallFix p m c cc nL s args Ts own) (hr : meth.sig.returnType = none) (hlocks : meth.locks = false) (hP : va_P D vwCl (wld cA ad g lay0) H) (hS : va_S (fun q => lo ≤ q) s.heap H locs) (he : (g, 0, (0 : Int32)) = (g1, o, r)) (hd : decode cc pc = .ok (.return_, 1)) : W p l e R s m args below meth c H locs 0 0 (vx_MQ below (Qt D cA ad lo g1 o none) (Qx D cA ad lo g1 o) args s 1 6 (fun q => lo ≤ q)) (F0 m pc ls []) := by
  cases he
  refine vx_ret (W.widen (k := 1) (n := 6) (Nat.zero_le _) (Nat.zero_le _) ?_)
  exact W.vret S.1 S.2.1 hr (fun t ht _ => ⟨rfl, rfl, by rw [ht]; exact hP, hS.F ht⟩) hS.2.2 hd
theorem t_X {Qc : Array Value → State → Outcome → State → Prop} {g1 : Mem} {o n : Nat} {r : Int32} {cls text : String} {ik is ic : Nat} (S : CallFix p m c cc nL s args Ts RX2) (hsz : ls.size = nL) (hlocks : meth.locks = false) (hT : ∀ x ∈ c.exceptionTable.toList, False) (hst : l.stackTraces = false) (hX : ZX lo s) (hP : va_P D vwCl (wld cA ad g lay0) H) (hS : va_S (fun q => lo ≤ q) s.heap H locs)
    (he : (g, n, (0 : Int32)) = (g1, o, r)) (hn : n ≠ 0) (hcls : cls = exN n) (hstr : (is, text) ∈ strL) (hk : Cond.classLink RX2 ik cls ∈ Ts) (hini : Cond.initialized cls ∈ Ts) (hat : ∀ w ∈ (vx_atS RX2 ic cls exUp).filter goodWord, w ∈ Ts) (hxw : ∀ w ∈ (vx_atS RX2 ic cls exUp).filter (fun w => !goodWord w), w ∈ xW) (hgood : ∀ w ∈ Cond.classLink RX2 ik cls :: Cond.initialized cls :: vx_atS RX2 ic cls exUp, vx_ot w = true) (hfit : Bundle.fit cls = true) (hRf : 5 < R.frames) (hRl : 82 ≤ R.locals) (hRc : 1 ≤ R.cells) (hRs : 6 ≤ R.slots)
    (d0 : decode cc pc = .ok (.new ik, 3)) (d3 : decode cc (pc + 3) = .ok (.dup, 1)) (d4 : decode cc (pc + 4) = .ok (.ldc is, 2)) (d6 : decode cc (pc + 6) = .ok (.invokespecial ic, 3)) (d9 : decode cc (pc + 9) = .ok (.athrow, 1)) :
    W p l e R s m args below meth c H locs 0 0 (vx_MQ below Qc (Qx D cA ad lo g1 o) args s 1 6 (fun q => lo ≤ q)) (F0 m pc ls []) := by
  cases he
  obtain ⟨hx, hb, hml, hown, hts⟩ := S
  obtain ⟨hU, hZ, hXW, hSW⟩ := hX
  obtain ⟨sa, hsa⟩ := hSW (is, text) hstr
  refine vx_throwS (names := exUp) (text := text) (sa := sa) hx hb hst hown hfit (by decide +kernel) (hts _ hk) (hts _ hini) hsa (vx_hat (fun w h => hts w (hat w h)) hxw (fun w h => va_Nw.use ?_ (hXW w h))) hgood hU hZ hS (by rw [hml]; exact hsz) d0 d3 d4 d6 d9 (fun x h => (hT x h).elim) hRf hRl (by omega) (by omega) hlocks ?_ hS.2.2 (Nat.le_refl _) (Nat.le_refl _)
  · have h2 := xW_ok w h
    cases w <;> first | rfl | cases h2
  · intro t _ hz hk
    refine ⟨hn, hcls, hP.kept (fun k q hq => hk q.1 ((hP k q hq).lt)), Nat.le_trans hS.1 hz, fun q hq hnq => ?_⟩
    rw [hk q (Nat.lt_of_lt_of_le hq hS.1)]
    exact hS.2.1 q hq hnq
end TR
