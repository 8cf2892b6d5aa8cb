/-! A THROW THAT IS CAUGHT BY NAME: the search through the method's own table, the classes of its rows linked or not yet -/
def hxR (pl : Platform) (s0 : State) (d : ClassId) (pc : Nat) (th : ClassId) (tgt : Nat) : List ExceptionTableEntry → Prop
  | [] => False
  | x :: t => (covers x pc = false ∧ hxR pl s0 d pc th tgt t) ∨ (covers x pc = true ∧ x.catchType ≠ 0 ∧ ∃ c, s0.vm.ClassLinks pl d x.catchType c ∧ ((s0.vm.assignable th c = true ∧ tgt = x.handlerPc) ∨ (s0.vm.assignable th c = false ∧ hxR pl s0 d pc th tgt t)))
theorem hx_go {e : Env} {s0 : State} {f : JFrame} {a : Addr} {ce : Cell} {tgt : Nat} (hob : ∀ k, ce.vm ≠ .statics k) (hk : ∃ k, s0.vm.classes[ce.cls]? = some k) :
    ∀ (tb : List ExceptionTableEntry) (S : State), s0.WarmedH S.vm → S.heap[a]? = some ce → hxR e.platform s0 f.method.cls f.pc ce.cls tgt tb →
      ∃ vm', s0.WarmedH vm' ∧ ∀ (Q : Handler → Pre) (E : CtlPost) (d : Bool) (acts : List Action), Sem.wp (findHandler.go f a tb) Q E e d acts S ↔ Q (.found tgt) d acts (S.setVm vm') := by
  intro tb
  induction tb with
  | nil =>
    intro S _ _ h
    exact h.elim
  | cons x t ih =>
    intro S hW hc h
    rcases h with ⟨h1, h2⟩ | ⟨h1, h0, c, hl, h2⟩
    · obtain ⟨vm', w1, w2⟩ := ih S hW hc h2
      exact ⟨vm', w1, fun Q E d acts => by rw [Jvm.W.findHandler_go_skip h1]; exact w2 Q E d acts⟩
    · have hl' := hW.classLinks hl
      obtain ⟨ga, gt⟩ := (resolveClass_links e.toSetting hl').op (op := VmOp.resolveClass f.method.cls x.catchType) rfl
      obtain ⟨dk, _, _, kt, hd, _, _, _, _, hkt, _, hopen⟩ := hl.here
      have hW' : s0.WarmedH (S.vm.noted f.method.cls x.catchType (.cls c)) := hW.noted hd hopen (State.rightAt_cls hl)
      obtain ⟨k0, hk0⟩ := hk
      obtain ⟨k1, hk1, -⟩ := hW'.alike.2.2 _ _ hk0
      obtain ⟨k2, hk2, -⟩ := hW'.alike.2.2 _ _ hkt
      have hasg : ∀ b, s0.vm.assignable ce.cls c = b → (S.vm.noted f.method.cls x.catchType (.cls c)).assignable ce.cls c = b := fun b hb => by rw [hW'.alike.assignable]; exact hb
      simp only [covers] at h1
      rcases h2 with ⟨h3, rfl⟩ | ⟨h3, h4⟩
      · refine ⟨_, hW', fun Q E d acts => ?_⟩
        have h5 := hasg _ h3
        simp [findHandler.go, h1, h0, ga, gt, hc, hob, hk1, hk2, h5, VmOp.dirties, VmOp.acts]
      · obtain ⟨vm', w1, w2⟩ := ih (S.setVm (S.vm.noted f.method.cls x.catchType (.cls c))) hW' hc h4
        refine ⟨vm', w1, fun Q E d acts => ?_⟩
        have h5 := hasg _ h3
        have h6 := w2 Q E d acts
        simp [findHandler.go, h1, h0, ga, gt, hc, hob, hk1, hk2, h5, VmOp.dirties, VmOp.acts]
        exact h6
section CX
variable {p : Program} {l : Launch} {e : Env} {R : Room} {s : State} {m : MethodId} {args : Array Value} {below : List Frame} {meth : Method} {c : Code} {H : Heap} {locs : List Loc} {cells slots : Nat} {Q : State → Prop} {pc : Nat} {ls : Array Slot} {rest : List Value}
theorem cx_catch {ce : Cell} {q : Addr} {tgt : Nat} (hR : ∀ pl : Platform, pl.magicAccessors = ({} : Platform).magicAccessors → hxR pl s m.cls pc ce.cls tgt c.exceptionTable.toList) (hcell : H[q]? = some ce) (hv : ce.vm = .none) (hk : ∃ k, s.vm.classes[ce.cls]? = some k)
    (kk : W p l e R s m args below meth c H locs cells slots Q (F0 m tgt ls [.ref q])) : vx_W p l e R s m args below meth c H locs cells slots Q (F0 m pc ls rest) q := by
  intro T hT X
  have hpl : e.platform.magicAccessors = ({} : Platform).magicAccessors := by rw [X.admits.platform]
  have hm : ((T.setTop (F0 m pc ls rest)).pushFrame (.throwing q)).vm.method? (F0 m pc ls rest).method = some meth := X.method'
  obtain ⟨vm', hW', hf⟩ := hx_go (e := e) (s0 := s) (f := F0 m pc ls rest) (a := q) (ce := ce) (tgt := tgt) (fun k h => by rw [hv] at h; cases h) hk c.exceptionTable.toList ((T.setTop (F0 m pc ls rest)).pushFrame (.throwing q)) X.warmed (by rw [Stand.throwing_heap, hT]; exact hcell) (hR e.platform hpl)
  obtain ⟨t, a1, b1⟩ := kk (T.setVm vm') hT (X.noted hW')
  refine ⟨t, ?_, b1⟩
  have h : At T (F0 m pc ls rest).method c below := X.here
  obtain ⟨hgo, hw⟩ := h.throwing q
  refine Steps.head hgo hw ?_
  have hs : ∀ r : List Frame, (stepThrowing e ((T.setTop (F0 m pc ls rest)).pushFrame (.throwing q)) q (.java (F0 m pc ls rest) :: r)).Is ((((T.setTop (F0 m pc ls rest)).pushFrame (.throwing q)).setVm vm').setFrames (.java { (F0 m pc ls rest) with pc := tgt, stack := [.ref q] } :: r)) [] := by
    intro r
    simp only [stepThrowing, searchFrame, vmDo]
    generalize hr : Sem.go _ e false [] _ = res
    obtain ⟨as, rfl, ha⟩ := Sem.eq_ok_of hr (a := Handler.found tgt) (s' := ((T.setTop (F0 m pc ls rest)).pushFrame (.throwing q)).setVm vm') (acts' := []) (by simp [Jvm.W.findHandler_eq hm X.code, hf _ _ _ _])
    exact ⟨rfl, ha⟩
  rw [stepThread_throwing (frames_entered h.top _), (hs _).1]
  obtain ⟨g₀, hg⟩ := Option.isSome_iff_exists.mp h.top
  obtain ⟨r, hr⟩ := State.topJava?_eq_some.mp hg
  have hr' : (T.setVm vm').frames = .java g₀ :: r := hr
  rw [State.setTop_of_frames _ hr'] at a1
  have e1 : ∀ (u : State) (F G : List Frame), ((u.setFrames F).setVm vm').setFrames G = (u.setVm vm').setFrames G := fun u F G => by
    rw [show (u.setFrames F).setVm vm' = (u.setVm vm').setFrames F from rfl, State.setFrames_setFrames]
  rw [hr, List.tail_cons, State.pushFrame, e1, State.setTop_of_frames _ hr, e1]
  exact a1
end CX
