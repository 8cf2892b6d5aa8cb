section
-- ===== PART A: goes FIRST, ahead of the names: the tables' words, and 'selects' of the private methods out of them =====
/-- a private method of a class that the tables say can be made, by its rows of tables_1 -/
def lw_okq (q : MethodName × Nat) : Prop := (q.1.cls ≠ "java/lang/invoke/MethodHandle" ∧ q.1.cls ≠ "java/lang/invoke/VarHandle") ∧ Cond.instantiable q.1.cls q.2 ∈ tables_1 ∧ Cond.privateMethod q.1 ∈ tables_1 ∧ Cond.instanceMethod q.1 ∈ tables_1
theorem lw_p0 : lw_okq (⟨"FlatLoader$Row", "clear", "()V"⟩, 4) := ⟨⟨by decide +kernel, by decide +kernel⟩, List.mem_of_getElem? (i := 62) (by decide +kernel), List.mem_of_getElem? (i := 68) (by decide +kernel), List.mem_of_getElem? (i := 69) (by decide +kernel)⟩
theorem lw_p1 : lw_okq (⟨"FlatLoader", "isLoaded", "(I)Z"⟩, 6) := ⟨⟨by decide +kernel, by decide +kernel⟩, List.mem_of_getElem? (i := 13) (by decide +kernel), List.mem_of_getElem? (i := 111) (by decide +kernel), List.mem_of_getElem? (i := 112) (by decide +kernel)⟩
theorem lw_p2 : lw_okq (⟨"FlatLoader", "fillVisibleRow", "(II)V"⟩, 6) := ⟨⟨by decide +kernel, by decide +kernel⟩, List.mem_of_getElem? (i := 13) (by decide +kernel), List.mem_of_getElem? (i := 121) (by decide +kernel), List.mem_of_getElem? (i := 122) (by decide +kernel)⟩
theorem lw_p3 : lw_okq (⟨"FlatLoader$OneModule", "hasPath", "(I)Z"⟩, 8) := ⟨⟨by decide +kernel, by decide +kernel⟩, List.mem_of_getElem? (i := 22) (by decide +kernel), List.mem_of_getElem? (i := 126) (by decide +kernel), List.mem_of_getElem? (i := 127) (by decide +kernel)⟩
theorem lw_p4 : lw_okq (⟨"FlatLoader$OneModule", "holds", "(I)Z"⟩, 8) := ⟨⟨by decide +kernel, by decide +kernel⟩, List.mem_of_getElem? (i := 22) (by decide +kernel), List.mem_of_getElem? (i := 130) (by decide +kernel), List.mem_of_getElem? (i := 131) (by decide +kernel)⟩
theorem lw_p5 : lw_okq (⟨"FlatLoader$Row", "addOnceIf", "(ZI)V"⟩, 4) := ⟨⟨by decide +kernel, by decide +kernel⟩, List.mem_of_getElem? (i := 62) (by decide +kernel), List.mem_of_getElem? (i := 134) (by decide +kernel), List.mem_of_getElem? (i := 135) (by decide +kernel)⟩
theorem lw_p6 : lw_okq (⟨"FlatLoader", "addExportedRow", "(III)V"⟩, 6) := ⟨⟨by decide +kernel, by decide +kernel⟩, List.mem_of_getElem? (i := 13) (by decide +kernel), List.mem_of_getElem? (i := 142) (by decide +kernel), List.mem_of_getElem? (i := 143) (by decide +kernel)⟩
theorem lw_p7 : lw_okq (⟨"FlatLoader", "holderSeenFrom", "(II)I"⟩, 6) := ⟨⟨by decide +kernel, by decide +kernel⟩, List.mem_of_getElem? (i := 13) (by decide +kernel), List.mem_of_getElem? (i := 154) (by decide +kernel), List.mem_of_getElem? (i := 155) (by decide +kernel)⟩
theorem lw_p8 : lw_okq (⟨"FlatLoader", "holderSet", "(I)I"⟩, 6) := ⟨⟨by decide +kernel, by decide +kernel⟩, List.mem_of_getElem? (i := 13) (by decide +kernel), List.mem_of_getElem? (i := 159) (by decide +kernel), List.mem_of_getElem? (i := 160) (by decide +kernel)⟩
theorem lw_p9 : lw_okq (⟨"FlatLoader", "isPresent", "(I)Z"⟩, 6) := ⟨⟨by decide +kernel, by decide +kernel⟩, List.mem_of_getElem? (i := 13) (by decide +kernel), List.mem_of_getElem? (i := 167) (by decide +kernel), List.mem_of_getElem? (i := 168) (by decide +kernel)⟩
theorem lw_p10 : lw_okq (⟨"FlatLoader", "loadableSet", "()I"⟩, 6) := ⟨⟨by decide +kernel, by decide +kernel⟩, List.mem_of_getElem? (i := 13) (by decide +kernel), List.mem_of_getElem? (i := 171) (by decide +kernel), List.mem_of_getElem? (i := 172) (by decide +kernel)⟩
theorem lw_p11 : lw_okq (⟨"FlatLoader", "withoutLacking", "(I)I"⟩, 6) := ⟨⟨by decide +kernel, by decide +kernel⟩, List.mem_of_getElem? (i := 13) (by decide +kernel), List.mem_of_getElem? (i := 175) (by decide +kernel), List.mem_of_getElem? (i := 176) (by decide +kernel)⟩
theorem lw_p12 : lw_okq (⟨"FlatLoader$OneModule", "countClasses", "()I"⟩, 8) := ⟨⟨by decide +kernel, by decide +kernel⟩, List.mem_of_getElem? (i := 22) (by decide +kernel), List.mem_of_getElem? (i := 187) (by decide +kernel), List.mem_of_getElem? (i := 188) (by decide +kernel)⟩
theorem lw_p13 : lw_okq (⟨"FlatLoader$OneModule", "hasDefined", "(I)Z"⟩, 8) := ⟨⟨by decide +kernel, by decide +kernel⟩, List.mem_of_getElem? (i := 22) (by decide +kernel), List.mem_of_getElem? (i := 191) (by decide +kernel), List.mem_of_getElem? (i := 192) (by decide +kernel)⟩
theorem lw_p14 : lw_okq (⟨"java/lang/Throwable", "fillInStackTrace", "(I)Ljava/lang/Throwable;"⟩, 6) := ⟨⟨by decide +kernel, by decide +kernel⟩, List.mem_of_getElem? (i := 242) (by decide +kernel), List.mem_of_getElem? (i := 240) (by decide +kernel), List.mem_of_getElem? (i := 241) (by decide +kernel)⟩
theorem lw_p15 : lw_okq (⟨"FlatLoader$OneModule", "addDependency", "(IIIZ)V"⟩, 8) := ⟨⟨by decide +kernel, by decide +kernel⟩, List.mem_of_getElem? (i := 22) (by decide +kernel), List.mem_of_getElem? (i := 316) (by decide +kernel), List.mem_of_getElem? (i := 317) (by decide +kernel)⟩
def lw_privs_1 : List (MethodName × Nat) := [(⟨"FlatLoader$Row", "clear", "()V"⟩, 4), (⟨"FlatLoader", "isLoaded", "(I)Z"⟩, 6), (⟨"FlatLoader", "fillVisibleRow", "(II)V"⟩, 6), (⟨"FlatLoader$OneModule", "hasPath", "(I)Z"⟩, 8), (⟨"FlatLoader$OneModule", "holds", "(I)Z"⟩, 8), (⟨"FlatLoader$Row", "addOnceIf", "(ZI)V"⟩, 4), (⟨"FlatLoader", "addExportedRow", "(III)V"⟩, 6), (⟨"FlatLoader", "holderSeenFrom", "(II)I"⟩, 6), (⟨"FlatLoader", "holderSet", "(I)I"⟩, 6), (⟨"FlatLoader", "isPresent", "(I)Z"⟩, 6), (⟨"FlatLoader", "loadableSet", "()I"⟩, 6), (⟨"FlatLoader", "withoutLacking", "(I)I"⟩, 6), (⟨"FlatLoader$OneModule", "countClasses", "()I"⟩, 8), (⟨"FlatLoader$OneModule", "hasDefined", "(I)Z"⟩, 8), (⟨"java/lang/Throwable", "fillInStackTrace", "(I)Ljava/lang/Throwable;"⟩, 6), (⟨"FlatLoader$OneModule", "addDependency", "(IIIZ)V"⟩, 8)]
theorem lw_r1 : ∀ q ∈ lw_privs_1, lw_okq q := List.forall_mem_cons.mpr ⟨lw_p0, List.forall_mem_cons.mpr ⟨lw_p1, List.forall_mem_cons.mpr ⟨lw_p2, List.forall_mem_cons.mpr ⟨lw_p3, List.forall_mem_cons.mpr ⟨lw_p4, List.forall_mem_cons.mpr ⟨lw_p5, List.forall_mem_cons.mpr ⟨lw_p6, List.forall_mem_cons.mpr ⟨lw_p7, List.forall_mem_cons.mpr ⟨lw_p8, List.forall_mem_cons.mpr ⟨lw_p9, List.forall_mem_cons.mpr ⟨lw_p10, List.forall_mem_cons.mpr ⟨lw_p11, List.forall_mem_cons.mpr ⟨lw_p12, List.forall_mem_cons.mpr ⟨lw_p13, List.forall_mem_cons.mpr ⟨lw_p14, List.forall_mem_cons.mpr ⟨lw_p15, fun _ h => absurd h List.not_mem_nil⟩⟩⟩⟩⟩⟩⟩⟩⟩⟩⟩⟩⟩⟩⟩⟩
theorem lw_p16 : lw_okq (⟨"FlatLoader$OneModule", "dropDependencies", "()V"⟩, 8) := ⟨⟨by decide +kernel, by decide +kernel⟩, List.mem_of_getElem? (i := 22) (by decide +kernel), List.mem_of_getElem? (i := 329) (by decide +kernel), List.mem_of_getElem? (i := 330) (by decide +kernel)⟩
theorem lw_p17 : lw_okq (⟨"FlatLoader", "reachedSet", "(II)I"⟩, 6) := ⟨⟨by decide +kernel, by decide +kernel⟩, List.mem_of_getElem? (i := 13) (by decide +kernel), List.mem_of_getElem? (i := 357) (by decide +kernel), List.mem_of_getElem? (i := 358) (by decide +kernel)⟩
theorem lw_p18 : lw_okq (⟨"FlatLoader", "nextTo", "(I)I"⟩, 6) := ⟨⟨by decide +kernel, by decide +kernel⟩, List.mem_of_getElem? (i := 13) (by decide +kernel), List.mem_of_getElem? (i := 361) (by decide +kernel), List.mem_of_getElem? (i := 362) (by decide +kernel)⟩
theorem lw_p19 : lw_okq (⟨"FlatLoader", "isHeldByAnother", "(I)Z"⟩, 6) := ⟨⟨by decide +kernel, by decide +kernel⟩, List.mem_of_getElem? (i := 13) (by decide +kernel), List.mem_of_getElem? (i := 379) (by decide +kernel), List.mem_of_getElem? (i := 380) (by decide +kernel)⟩
theorem lw_p20 : lw_okq (⟨"FlatLoader$OneModule", "hasClassBelow", "(I)Z"⟩, 8) := ⟨⟨by decide +kernel, by decide +kernel⟩, List.mem_of_getElem? (i := 22) (by decide +kernel), List.mem_of_getElem? (i := 383) (by decide +kernel), List.mem_of_getElem? (i := 384) (by decide +kernel)⟩
theorem lw_p21 : lw_okq (⟨"FlatLoader$OneModule", "dropClasses", "()V"⟩, 8) := ⟨⟨by decide +kernel, by decide +kernel⟩, List.mem_of_getElem? (i := 22) (by decide +kernel), List.mem_of_getElem? (i := 388) (by decide +kernel), List.mem_of_getElem? (i := 389) (by decide +kernel)⟩
theorem lw_p22 : lw_okq (⟨"FlatLoader", "defineWithAllAbove", "(II)Z"⟩, 6) := ⟨⟨by decide +kernel, by decide +kernel⟩, List.mem_of_getElem? (i := 13) (by decide +kernel), List.mem_of_getElem? (i := 401) (by decide +kernel), List.mem_of_getElem? (i := 402) (by decide +kernel)⟩
theorem lw_p23 : lw_okq (⟨"FlatLoader", "needsNoDefining", "(II)Z"⟩, 6) := ⟨⟨by decide +kernel, by decide +kernel⟩, List.mem_of_getElem? (i := 13) (by decide +kernel), List.mem_of_getElem? (i := 405) (by decide +kernel), List.mem_of_getElem? (i := 406) (by decide +kernel)⟩
theorem lw_p24 : lw_okq (⟨"FlatLoader", "defineChain", "(II)V"⟩, 6) := ⟨⟨by decide +kernel, by decide +kernel⟩, List.mem_of_getElem? (i := 13) (by decide +kernel), List.mem_of_getElem? (i := 410) (by decide +kernel), List.mem_of_getElem? (i := 411) (by decide +kernel)⟩
theorem lw_p25 : lw_okq (⟨"FlatLoaderModel", "throwsBy", "(I)Z"⟩, 19) := ⟨⟨by decide +kernel, by decide +kernel⟩, List.mem_of_getElem? (i := 415) (by decide +kernel), List.mem_of_getElem? (i := 494) (by decide +kernel), List.mem_of_getElem? (i := 495) (by decide +kernel)⟩
theorem lw_p26 : lw_okq (⟨"FlatLoaderModel", "isPresent", "(I)Z"⟩, 19) := ⟨⟨by decide +kernel, by decide +kernel⟩, List.mem_of_getElem? (i := 415) (by decide +kernel), List.mem_of_getElem? (i := 502) (by decide +kernel), List.mem_of_getElem? (i := 503) (by decide +kernel)⟩
theorem lw_p27 : lw_okq (⟨"FlatLoaderModel", "judge", "()V"⟩, 19) := ⟨⟨by decide +kernel, by decide +kernel⟩, List.mem_of_getElem? (i := 415) (by decide +kernel), List.mem_of_getElem? (i := 518) (by decide +kernel), List.mem_of_getElem? (i := 519) (by decide +kernel)⟩
theorem lw_p28 : lw_okq (⟨"FlatLoaderModel", "isLoaded", "(I)Z"⟩, 19) := ⟨⟨by decide +kernel, by decide +kernel⟩, List.mem_of_getElem? (i := 415) (by decide +kernel), List.mem_of_getElem? (i := 526) (by decide +kernel), List.mem_of_getElem? (i := 527) (by decide +kernel)⟩
theorem lw_p29 : lw_okq (⟨"FlatLoaderModel", "isNeeded", "(I)Z"⟩, 19) := ⟨⟨by decide +kernel, by decide +kernel⟩, List.mem_of_getElem? (i := 415) (by decide +kernel), List.mem_of_getElem? (i := 530) (by decide +kernel), List.mem_of_getElem? (i := 531) (by decide +kernel)⟩
theorem lw_p30 : lw_okq (⟨"FlatLoaderModel", "holder", "(II)I"⟩, 19) := ⟨⟨by decide +kernel, by decide +kernel⟩, List.mem_of_getElem? (i := 415) (by decide +kernel), List.mem_of_getElem? (i := 538) (by decide +kernel), List.mem_of_getElem? (i := 539) (by decide +kernel)⟩
theorem lw_p31 : lw_okq (⟨"FlatLoaderModel", "see", "(II)V"⟩, 19) := ⟨⟨by decide +kernel, by decide +kernel⟩, List.mem_of_getElem? (i := 415) (by decide +kernel), List.mem_of_getElem? (i := 542) (by decide +kernel), List.mem_of_getElem? (i := 543) (by decide +kernel)⟩
def lw_privs_2 : List (MethodName × Nat) := [(⟨"FlatLoader$OneModule", "dropDependencies", "()V"⟩, 8), (⟨"FlatLoader", "reachedSet", "(II)I"⟩, 6), (⟨"FlatLoader", "nextTo", "(I)I"⟩, 6), (⟨"FlatLoader", "isHeldByAnother", "(I)Z"⟩, 6), (⟨"FlatLoader$OneModule", "hasClassBelow", "(I)Z"⟩, 8), (⟨"FlatLoader$OneModule", "dropClasses", "()V"⟩, 8), (⟨"FlatLoader", "defineWithAllAbove", "(II)Z"⟩, 6), (⟨"FlatLoader", "needsNoDefining", "(II)Z"⟩, 6), (⟨"FlatLoader", "defineChain", "(II)V"⟩, 6), (⟨"FlatLoaderModel", "throwsBy", "(I)Z"⟩, 19), (⟨"FlatLoaderModel", "isPresent", "(I)Z"⟩, 19), (⟨"FlatLoaderModel", "judge", "()V"⟩, 19), (⟨"FlatLoaderModel", "isLoaded", "(I)Z"⟩, 19), (⟨"FlatLoaderModel", "isNeeded", "(I)Z"⟩, 19), (⟨"FlatLoaderModel", "holder", "(II)I"⟩, 19), (⟨"FlatLoaderModel", "see", "(II)V"⟩, 19)]
theorem lw_r2 : ∀ q ∈ lw_privs_2, lw_okq q := List.forall_mem_cons.mpr ⟨lw_p16, List.forall_mem_cons.mpr ⟨lw_p17, List.forall_mem_cons.mpr ⟨lw_p18, List.forall_mem_cons.mpr ⟨lw_p19, List.forall_mem_cons.mpr ⟨lw_p20, List.forall_mem_cons.mpr ⟨lw_p21, List.forall_mem_cons.mpr ⟨lw_p22, List.forall_mem_cons.mpr ⟨lw_p23, List.forall_mem_cons.mpr ⟨lw_p24, List.forall_mem_cons.mpr ⟨lw_p25, List.forall_mem_cons.mpr ⟨lw_p26, List.forall_mem_cons.mpr ⟨lw_p27, List.forall_mem_cons.mpr ⟨lw_p28, List.forall_mem_cons.mpr ⟨lw_p29, List.forall_mem_cons.mpr ⟨lw_p30, List.forall_mem_cons.mpr ⟨lw_p31, fun _ h => absurd h List.not_mem_nil⟩⟩⟩⟩⟩⟩⟩⟩⟩⟩⟩⟩⟩⟩⟩⟩
theorem lw_p32 : lw_okq (⟨"FlatLoaderModel", "hasPath", "(II)Z"⟩, 19) := ⟨⟨by decide +kernel, by decide +kernel⟩, List.mem_of_getElem? (i := 415) (by decide +kernel), List.mem_of_getElem? (i := 546) (by decide +kernel), List.mem_of_getElem? (i := 547) (by decide +kernel)⟩
theorem lw_p33 : lw_okq (⟨"FlatLoaderModel", "append", "(I)V"⟩, 19) := ⟨⟨by decide +kernel, by decide +kernel⟩, List.mem_of_getElem? (i := 415) (by decide +kernel), List.mem_of_getElem? (i := 550) (by decide +kernel), List.mem_of_getElem? (i := 551) (by decide +kernel)⟩
theorem lw_p34 : lw_okq (⟨"FlatLoaderModel", "needs", "(II)I"⟩, 19) := ⟨⟨by decide +kernel, by decide +kernel⟩, List.mem_of_getElem? (i := 415) (by decide +kernel), List.mem_of_getElem? (i := 554) (by decide +kernel), List.mem_of_getElem? (i := 555) (by decide +kernel)⟩
theorem lw_p35 : lw_okq (⟨"FlatLoaderModel", "define", "(I)V"⟩, 19) := ⟨⟨by decide +kernel, by decide +kernel⟩, List.mem_of_getElem? (i := 415) (by decide +kernel), List.mem_of_getElem? (i := 558) (by decide +kernel), List.mem_of_getElem? (i := 559) (by decide +kernel)⟩
def lw_privs_3 : List (MethodName × Nat) := [(⟨"FlatLoaderModel", "hasPath", "(II)Z"⟩, 19), (⟨"FlatLoaderModel", "append", "(I)V"⟩, 19), (⟨"FlatLoaderModel", "needs", "(II)I"⟩, 19), (⟨"FlatLoaderModel", "define", "(I)V"⟩, 19)]
theorem lw_r3 : ∀ q ∈ lw_privs_3, lw_okq q := List.forall_mem_cons.mpr ⟨lw_p32, List.forall_mem_cons.mpr ⟨lw_p33, List.forall_mem_cons.mpr ⟨lw_p34, List.forall_mem_cons.mpr ⟨lw_p35, fun _ h => absurd h List.not_mem_nil⟩⟩⟩⟩
def lw_privs : List (MethodName × Nat) := lw_privs_1 ++ (lw_privs_2 ++ (lw_privs_3))
def lw_tbl : List Cond := k2_sels lw_privs ++ tables_1
theorem lw_privs_ok : ∀ q ∈ lw_privs, lw_okq q := by
  show ∀ q ∈ lw_privs_1 ++ (lw_privs_2 ++ (lw_privs_3)), lw_okq q
  exact List.forall_mem_append.mpr ⟨lw_r1, List.forall_mem_append.mpr ⟨lw_r2, lw_r3⟩⟩
/-! ===== BEGIN words of one list among another's, by their places ===== -/
theorem goodIn_r {big : List Cond} (ws : List Cond) (ps : List Nat) (hp : ws = ps.filterMap (fun i => big[i]?)) (h : ws.all goodWord = true) : GoodIn big ws := by
  intro w hw
  have h1 := List.all_eq_true.mp h w hw
  rw [hp] at hw
  obtain ⟨i, -, hi⟩ := List.mem_filterMap.mp hw
  have hm : w ∈ big := by first | exact List.mem_of_getElem? hi | exact List.getElem?_mem hi
  exact ⟨hm, good_of_word h1⟩
theorem goodIn_app {big a b : List Cond} (ha : GoodIn big a) (hb : GoodIn big b) : GoodIn big (a ++ b) := fun w h => (List.mem_append.mp h).elim (ha w) (hb w)
theorem goodIn_ca {big a b : List Cond} {c : Cond} (ha : GoodIn big (c :: a)) (hb : GoodIn big b) : GoodIn big (c :: (a ++ b)) := fun w h => (List.mem_cons.mp h).elim (fun e => ha w (List.mem_cons.mpr (Or.inl e))) (fun h => (List.mem_append.mp h).elim (fun h => ha w (List.mem_cons.mpr (Or.inr h))) (hb w))
theorem goodIn_sub {big ws : List Cond} (hm : ∀ w ∈ ws, w ∈ big) (h : ws.all goodWord = true) : GoodIn big ws := fun w hw => ⟨hm w hw, good_of_word (List.all_eq_true.mp h w hw)⟩
/-! ===== END ===== -/

/-! ===== BEGIN exceptions that leave a method, and their catching by the caller (launches without stack traces) ===== -/
section VXA
/-! The laws vx_back, vx_callV, vx_callS, vx_callSW, vx_throw0, vx_throwS follow proofs of the library, with one case more: JvmDerived/Free/Laws.lean (Back.of_free), Shelf42/LK1.lean (callV, callS), Shelf/KitTraced.lean (throwNew0V, throwNewS). -/
/-- where a method has thrown q: the class by its name, the cell, what was written, the world -/
def vx_T (XC : String → State → State → Prop) (st : State) (q : Addr) (t : State) (mc ms : Nat) (free : Addr → Prop) : Prop :=
  ∃ (E : String) (ce : Cell) (L : List Loc), XC E st t ∧ t.heap[q]? = some ce ∧ ce.vm = .none ∧ st.vm.findClass E = some ce.cls ∧ st.WarmedH t.vm ∧ st.sameButNew ({ t with vm := st.vm } : State) L mc ms ∧ ∀ z ∈ L, free z.base
def vx_Q (Qc : Array Value → State → Outcome → State → Prop) (XC : String → State → State → Prop) (mc ms : Nat) (free : Addr → Prop) : Array Value → State → Outcome → State → Prop := fun a st o t =>
  (Qc a st o t ∧ ∃ L, FrameEnd st o t L mc ms ∧ ∀ q ∈ L, free q.base) ∨ ∃ q, o = .threw q ∧ vx_T XC st q t mc ms free
/-- a callee that returns or throws -/
def vx_Met (l : Launch) (y : MethodName) (ws : List Cond) (rm : Room) (Pc : Array Value → State → Prop) (Qc : Array Value → State → Outcome → State → Prop) (XC : String → State → State → Prop) (mc ms : Nat) (free : Addr → Prop) : Prop :=
  MetFree l y (headSpec ws rm) Pc (fun _ _ _ _ _ => True) (vx_Q Qc XC mc ms free)
def vx_Post (XC : String → State → State → Prop) (mc ms : Nat) (free : Addr → Prop) : Pt → Array Value → Addr → Pt → Prop := fun A a q B =>
  ∃ (g : JFrame) (mk : MethodId) (t : State) (L : List Loc) (E : String) (ce : Cell), B.U.heap = t.heap ∧ B.U.vm = t.vm ∧ XC E (A.U.calling g mk a) t ∧ t.heap[q]? = some ce ∧ ce.vm = .none ∧ A.U.vm.findClass E = some ce.cls ∧ B.locs = A.locs ++ L ∧ (∀ z ∈ L, free z.base) ∧ B.cells = A.cells + mc ∧ B.slots = A.slots + ms
def vx_Back (l : Launch) (R : Room) (p : Program) (e : Env) (below : List Frame) (s : State) (sargs : Array Value) (y : MethodName) (len W9 : Nat)
    (Pre : Pt → Array Value → Prop) (Post : Pt → Array Value → Option Value → Pt → Prop) (PostX : Pt → Array Value → Addr → Pt → Prop) : Prop :=
  ∀ (m : MethodId) (meth : Method) (c : Code) (A : Pt) (g : JFrame) (ig : Instr) (mk : MethodId) (a : Array Value),
    Stand p l e R s m sargs below meth c A.U A.locs A.cells A.slots → g.method = m → g.locals.size = c.maxLocals → decode c.code g.pc = .ok (ig, len) →
    2 * g.monitorRoom + (g.stack.map fun v => v.category).sum ≤ W9 → A.U.methodNamed? y = some mk → Pre A a →
    (∃ (v : Option Value) (B : Pt), Stand p l e R s m sargs below meth c B.U B.locs B.cells B.slots ∧ Post A a v B ∧
      Steps p.tables e below (doInvoke e (A.U.setTop g) [] mk a).1 (B.U.setTop { g with pc := g.pc + len, stack := v.toList ++ g.stack })) ∨
    (∃ (q : Addr) (B : Pt), Stand p l e R s m sargs below meth c B.U B.locs B.cells B.slots ∧ PostX A a q B ∧
      Steps p.tables e below (doInvoke e (A.U.setTop g) [] mk a).1 ((B.U.setTop g).pushFrame (.throwing q)))
section Payer
variable {l : Launch} {R : Room} {p : Program} {e : Env} {below : List Frame} {s : State} {sargs : Array Value} {y : MethodName} {len W9 : Nat}
theorem vx_back {ws : List Cond} {rm : Room} {Pc : Array Value → State → Prop} {Qc : Array Value → State → Outcome → State → Prop} {XC : String → State → State → Prop} {mc ms : Nat} {free : Addr → Prop} {bytes : ByteArray} {maxL : Nat} {ret : Option FieldType}
    (hM : vx_Met l y ws rm Pc Qc XC mc ms free) (hblind : FrameBlind Pc) (hrc : rm.cells = mc) (hrs : rm.slots = ms)
    (hframes : rm.frames + 1 ≤ R.frames) (hlocals : W9 + (maxL + 11) + rm.locals ≤ R.locals)
    (hws : ∀ w ∈ ws, ∀ a' U, s.WarmedH U.vm → w.before a' U = true) (hcode : Cond.code y bytes maxL ret ∈ ws) (hinit : ∀ a' U, s.WarmedH U.vm → (Cond.initialized y.cls).before a' U = true) :
    vx_Back l R p e below s sargs y len W9 (PreOf R mc ms Pc) (PostOf Qc mc ms free) (vx_Post XC mc ms free) := by
  intro m meth c A g ig mk a X hg hsize hdg hW hn hp
  have h1 : (headSpec ws rm).pre.before a A.U = true := atoms_intro fun w hw => hws w hw _ _ X.warmed
  have h2 : (Cond.code y bytes maxL ret).before a A.U = true := hws _ hcode _ _ X.warmed
  have h3 : (Cond.initialized y.cls).before a A.U = true := hinit _ _ X.warmed
  have h4 : A.cells + (headSpec ws rm).room.cells ≤ R.cells := by rw [show (headSpec ws rm).room.cells = mc from hrc]; exact hp.1
  have h5 : A.slots + (headSpec ws rm).room.slots ≤ R.slots := by rw [show (headSpec ws rm).room.slots = ms from hrs]; exact hp.2.1
  have hPc : Pc a (A.U.calling g mk a) := hblind _ _ _ _ hp.2.2
  obtain ⟨U, Ls, c0, s0⟩ := A
  dsimp only [Pt.U, Pt.locs, Pt.cells, Pt.slots] at h1 h2 h3 h4 h5 X hn hPc ⊢
  obtain ⟨methY, cY, hmY, hcY, -, hlY, -, -, -, -⟩ := Cond.code_spec hn h2
  obtain ⟨kY, hkY, -⟩ := className_of_methodNamed hn
  have hinitY : kY.init = .initialized := Cond.initialized_spec (findClass_of_methodNamed hn) hkY h3
  have h : At U g.method c below := by rw [hg]; exact X.here
  have hlocals9 : W9 + (maxL + 11) + (headSpec ws rm).room.locals ≤ R.locals := hlocals
  have happ : (headSpec ws rm).appliesLoose y e.platform (U.calling g mk a) = true :=
    Spec.appliesLoose_calling (g := g) h hdg hn hkY hinitY
      (X.room_calling (g := g) (R' := (headSpec ws rm).room) hsize hmY hcY hframes (by rw [hlY]; omega) h4 h5) h1
  obtain ⟨mid, hmid⟩ := h.above
  have hfr : (U.setTop g).frames = (.java g :: mid) ++ below := by rw [State.frames_setTop' g h.top, hmid]; rfl
  obtain ⟨o, s₂, hsteps, -, hend, hq⟩ := Steps.callFree hM p X.admits X.cas X.clock (acts := []) hfr happ hPc trivial
  have hq' : vx_Q Qc XC mc ms free a (U.calling g mk a) o s₂ := hq
  rw [State.frames_setTop' g h.top] at hend
  obtain ⟨g₀, hg0⟩ := Option.isSome_iff_exists.mp h.top
  obtain ⟨r, hr⟩ := State.topJava?_eq_some.mp hg0
  have hr' : (({ U with heap := s₂.heap, slotsUsed := s₂.slotsUsed } : State).setVm s₂.vm).frames = .java g₀ :: r := hr
  rcases hq' with ⟨hqc, L, hfe, hL⟩ | ⟨q, rfl, E, ce, L, hx, hce, hcv, hcl, hW₂, hsm, hL⟩
  · obtain ⟨⟨v, rfl⟩, hW₂, e2, q2, q3, q4, q5, q6⟩ := id hfe
    have e3 : s₂ = ({ (U.calling g mk a).setFrames s₂.frames with heap := s₂.heap, slotsUsed := s₂.slotsUsed } : State).setVm s₂.vm := by
      have : s₂ = ({ s₂ with vm := (U.calling g mk a).vm } : State).setVm s₂.vm := rfl
      rw [e2] at this
      exact this
    obtain ⟨c₂, i₂, len₂, hc₂, hd₂, hf₂⟩ := hend
    have hW' : U.WarmedH s₂.vm := hW₂
    have hcc : c₂ = c := by
      have h1 : s₂.code? g.method = U.code? g.method := by
        rw [State.code?_eq, State.code?_eq, hW'.alike.method?]
      exact Option.some.inj (hc₂.symm.trans (h1.trans h.code))
    subst hcc
    have hlen : len₂ = len := by rw [hdg] at hd₂; cases hd₂; rfl
    subst hlen
    have hs₂ : s₂ = (({ U with heap := s₂.heap, slotsUsed := s₂.slotsUsed } : State).setVm s₂.vm).setTop { g with pc := g.pc + len₂, stack := v.toList ++ g.stack } := by
      refine e3.trans ?_
      rw [hf₂, State.calling_eq h.top, State.setFrames_setFrames, State.setTop_of_frames _ hr', hr]
      rfl
    have hsame : U.sameButNew ({ U with heap := s₂.heap, slotsUsed := s₂.slotsUsed } : State) L mc ms := by
      refine ⟨?_, q2, q3, q4, q5, q6⟩
      obtain ⟨t, ht, -⟩ := State.frames_cons hr
      show ({ U with heap := s₂.heap, slotsUsed := s₂.slotsUsed } : State) = { U.setFrames U.frames with heap := s₂.heap, slotsUsed := s₂.slotsUsed }
      rw [State.setFrames_self ht]
    subst hg
    refine Or.inl ⟨v, ⟨(({ U with heap := s₂.heap, slotsUsed := s₂.slotsUsed } : State).setVm s₂.vm), Ls ++ L, c0 + mc, s0 + ms⟩,
      ⟨X.admits, X.cas, X.clock, X.frames, X.room, X.hears, X.method, X.code, (X.here.setHeapUsed s₂.heap s₂.slotsUsed).setVm hW'.alike, X.tail, State.WarmedH.trans X.warmed hW', X.limits, X.bytes, X.same.trans (hsame.setVm s.vm)⟩,
      ⟨g, mk, s₂, L, rfl, rfl, hqc, rfl, hL, rfl, rfl⟩, ?_⟩
    show Steps p.tables e below _ ((({ U with heap := s₂.heap, slotsUsed := s₂.slotsUsed } : State).setVm s₂.vm).setTop { g with pc := g.pc + len₂, stack := v.toList ++ g.stack })
    rw [← hs₂]
    exact hsteps
  · obtain ⟨e2, q2, q3, q4, q5, q6⟩ := id hsm
    have e3 : s₂ = ({ (U.calling g mk a).setFrames s₂.frames with heap := s₂.heap, slotsUsed := s₂.slotsUsed } : State).setVm s₂.vm := by
      have : s₂ = ({ s₂ with vm := (U.calling g mk a).vm } : State).setVm s₂.vm := rfl
      rw [e2] at this
      exact this
    have hf₂ : s₂.frames = .throwing q :: .java g :: U.frames.tail := hend
    have hW' : U.WarmedH s₂.vm := hW₂
    have hs₂ : s₂ = ((({ U with heap := s₂.heap, slotsUsed := s₂.slotsUsed } : State).setVm s₂.vm).setTop g).pushFrame (.throwing q) := by
      refine e3.trans ?_
      rw [hf₂, State.calling_eq h.top, State.setFrames_setFrames, State.pushFrame, State.frames_setTop _ hr', State.setTop_of_frames _ hr', State.setFrames_setFrames, hr]
      rfl
    have hsame : U.sameButNew ({ U with heap := s₂.heap, slotsUsed := s₂.slotsUsed } : State) L mc ms := by
      refine ⟨?_, q2, q3, q4, q5, q6⟩
      obtain ⟨t, ht, -⟩ := State.frames_cons hr
      show ({ U with heap := s₂.heap, slotsUsed := s₂.slotsUsed } : State) = { U.setFrames U.frames with heap := s₂.heap, slotsUsed := s₂.slotsUsed }
      rw [State.setFrames_self ht]
    subst hg
    refine Or.inr ⟨q, ⟨(({ U with heap := s₂.heap, slotsUsed := s₂.slotsUsed } : State).setVm s₂.vm), Ls ++ L, c0 + mc, s0 + ms⟩,
      ⟨X.admits, X.cas, X.clock, X.frames, X.room, X.hears, X.method, X.code, (X.here.setHeapUsed s₂.heap s₂.slotsUsed).setVm hW'.alike, X.tail, State.WarmedH.trans X.warmed hW', X.limits, X.bytes, X.same.trans (hsame.setVm s.vm)⟩,
      ⟨g, mk, s₂, L, E, ce, rfl, rfl, hx, hce, hcv, hcl, rfl, hL, rfl, rfl⟩, ?_⟩
    show Steps p.tables e below _ (((({ U with heap := s₂.heap, slotsUsed := s₂.slotsUsed } : State).setVm s₂.vm).setTop g).pushFrame (.throwing q))
    rw [← hs₂]
    exact hsteps
end Payer
section Calls
variable {p : Program} {l : Launch} {e : Env} {R : Room} {s : State} {m : MethodId} {args : Array Value} {below : List Frame} {meth : Method} {c : Code} {T : State} {locs : List Loc} {cells slots : Nat}
theorem vx_callV (X : Stand p l e R s m args below meth c T locs cells slots) (hexec : p.tables.exec = Jvm.exec) {own C : String} {index : Nat} {y : MethodName} {bytes : ByteArray} {maxL : Nat} {ret : Option FieldType}
    (hown : s.vm.findClass own = some m.cls) (hlink : (Cond.methodLink own index y).before args s = true) (hinst : (Cond.instanceMethod y).before args s = true) (hsel : (Cond.selects C y y).before args s = true)
    (hcode : (Cond.code y bytes maxL ret).before args s = true) (hy : y.cls ≠ "java/lang/invoke/MethodHandle" ∧ y.cls ≠ "java/lang/invoke/VarHandle")
    {W9 : Nat} {Pre : Pt → Array Value → Prop} {Post : Pt → Array Value → Option Value → Pt → Prop} {PostX : Pt → Array Value → Addr → Pt → Prop} (hK : vx_Back l R p e below s args y 3 W9 Pre Post PostX)
    {b : Addr} {cellB : Cell} (hcell : T.heap[b]? = some cellB) (hobj : cellB.vm.isStatics = false) (hcls : s.vm.findClass C = some cellB.cls)
    {g : JFrame} (hg : g.method = m) (hsize : g.locals.size = c.maxLocals) {argsL rest : List Value} (hlen : ∀ sig, parseMethodDescriptor y.desc = some sig → argsL.length = sig.parameters.length)
    (hstack : g.stack = argsL.reverse ++ .ref b :: rest) (hW : 2 * g.monitorRoom + (rest.map fun v => v.category).sum ≤ W9) (hdg : decode c.code g.pc = .ok (.invokevirtual index, 3))
    (hpre : ∀ vm₁, s.WarmedH vm₁ → Pre ⟨T.setVm vm₁, locs, cells, slots⟩ (Value.ref b :: argsL).toArray) :
    (∃ (v : Option Value) (vm₁ : Vm) (B : Pt), s.WarmedH vm₁ ∧ Stand p l e R s m args below meth c B.U B.locs B.cells B.slots ∧ Post ⟨T.setVm vm₁, locs, cells, slots⟩ (Value.ref b :: argsL).toArray v B ∧
      ∀ target, Steps p.tables e below (B.U.setTop { g with pc := g.pc + 3, stack := v.toList ++ rest }) target → Steps p.tables e below (T.setTop g) target) ∨
    (∃ (q : Addr) (vm₁ : Vm) (B : Pt), s.WarmedH vm₁ ∧ Stand p l e R s m args below meth c B.U B.locs B.cells B.slots ∧ PostX ⟨T.setVm vm₁, locs, cells, slots⟩ (Value.ref b :: argsL).toArray q B ∧
      Steps p.tables e below (T.setTop g) ((B.U.setTop { g with stack := rest }).pushFrame (.throwing q))) := by
  obtain ⟨mk, methM, hnamed, hmethM, hstM, habM⟩ := Cond.instanceMethod_spec hinst
  obtain ⟨methM', cM, hmethM', -, -, -, -, -, -, hsigM⟩ := Cond.code_spec hnamed hcode
  cases hmethM.symm.trans hmethM'
  obtain ⟨c2, r2, m2, q1, q2, q3, q4, kP, hkP, hkPi⟩ := Cond.selects_spec hsel
  cases hcls.symm.trans q1
  cases (State.methodFound?_of_named hnamed hy).symm.trans q2
  cases hnamed.symm.trans q3
  have hselP : selectMethod e.platform s.vm cellB.cls mk = .method mk := by rw [Launch.admits_selectMethod X.admits]; exact q4
  obtain ⟨vm₁, X₁, hstep₁⟩ := X.invokevirtual hexec hown hlink hnamed hmethM hstM hkP hkPi hy (a := b) (cell := cellB) hcell
    (fun z h => by rw [h] at hobj; cases hobj) hselP hmethM habM hkP hkPi (g := g) hg (argsL := argsL) (rest := rest) (hlen _ hsigM) hstack hdg
  rcases hK m meth c ⟨T.setVm vm₁, locs, cells, slots⟩ { g with stack := rest } (.invokevirtual index) mk (Value.ref b :: argsL).toArray X₁ hg hsize hdg hW (X₁.named hnamed) (hpre vm₁ X₁.warmed) with ⟨v, B, X', hpost, hsteps⟩ | ⟨q, B, X', hpost, hsteps⟩
  · exact Or.inl ⟨v, vm₁, B, X₁.warmed, X', hpost, fun target h => hstep₁ _ fun acts => by rw [doInvoke_state]; exact hsteps.trans h⟩
  · exact Or.inr ⟨q, vm₁, B, X₁.warmed, X', hpost, hstep₁ _ fun acts => by rw [doInvoke_state]; exact hsteps⟩
theorem vx_callS (X : Stand p l e R s m args below meth c T locs cells slots) (hexec : p.tables.exec = Jvm.exec) {own : String} {index : Nat} {y : MethodName} {bytes : ByteArray} {maxL : Nat} {ret : Option FieldType}
    (hown : s.vm.findClass own = some m.cls) (hlink : (Cond.methodLink own index y).before args s = true) (hstat : (Cond.static y).before args s = true) (hinit : (Cond.initialized y.cls).before args s = true)
    (hcode : (Cond.code y bytes maxL ret).before args s = true) (hy : y.cls ≠ "java/lang/invoke/MethodHandle" ∧ y.cls ≠ "java/lang/invoke/VarHandle")
    {W9 : Nat} {Pre : Pt → Array Value → Prop} {Post : Pt → Array Value → Option Value → Pt → Prop} {PostX : Pt → Array Value → Addr → Pt → Prop} (hK : vx_Back l R p e below s args y 3 W9 Pre Post PostX)
    {g : JFrame} (hg : g.method = m) (hsize : g.locals.size = c.maxLocals) {argsL rest : List Value} (hlen : ∀ sig, parseMethodDescriptor y.desc = some sig → argsL.length = sig.parameters.length)
    (hstack : g.stack = argsL.reverse ++ rest) (hW : 2 * g.monitorRoom + (rest.map fun v => v.category).sum ≤ W9) (hdg : decode c.code g.pc = .ok (.invokestatic index, 3))
    (hpre : ∀ vm₁, s.WarmedH vm₁ → Pre ⟨T.setVm vm₁, locs, cells, slots⟩ argsL.toArray) :
    (∃ (v : Option Value) (vm₁ : Vm) (B : Pt), s.WarmedH vm₁ ∧ Stand p l e R s m args below meth c B.U B.locs B.cells B.slots ∧ Post ⟨T.setVm vm₁, locs, cells, slots⟩ argsL.toArray v B ∧
      ∀ target, Steps p.tables e below (B.U.setTop { g with pc := g.pc + 3, stack := v.toList ++ rest }) target → Steps p.tables e below (T.setTop g) target) ∨
    (∃ (q : Addr) (vm₁ : Vm) (B : Pt), s.WarmedH vm₁ ∧ Stand p l e R s m args below meth c B.U B.locs B.cells B.slots ∧ PostX ⟨T.setVm vm₁, locs, cells, slots⟩ argsL.toArray q B ∧
      Steps p.tables e below (T.setTop g) ((B.U.setTop { g with stack := rest }).pushFrame (.throwing q))) := by
  obtain ⟨mk, hnamed⟩ := Cond.code_named hcode
  obtain ⟨methM, cM, hmethM, -, -, -, -, -, -, hsigM⟩ := Cond.code_spec hnamed hcode
  have hstatic : methM.isStatic = true := Cond.static_spec hnamed hmethM hstat
  obtain ⟨kP, hkP, -⟩ := className_of_methodNamed hnamed
  have hinitP : kP.init = .initialized := Cond.initialized_spec (findClass_of_methodNamed hnamed) hkP hinit
  obtain ⟨vm₁, X₁, hstep₁⟩ := X.invokestatic hexec hown hlink hnamed hmethM hstatic hkP hinitP hy (g := g) hg (argsL := argsL) (rest := rest) (hlen _ hsigM) hstack hdg
  rcases hK m meth c ⟨T.setVm vm₁, locs, cells, slots⟩ { g with stack := rest } (.invokestatic index) mk argsL.toArray X₁ hg hsize hdg hW (X₁.named hnamed) (hpre vm₁ X₁.warmed) with ⟨v, B, X', hpost, hsteps⟩ | ⟨q, B, X', hpost, hsteps⟩
  · exact Or.inl ⟨v, vm₁, B, X₁.warmed, X', hpost, fun target h => hstep₁ _ fun acts => by rw [doInvoke_state]; exact hsteps.trans h⟩
  · exact Or.inr ⟨q, vm₁, B, X₁.warmed, X', hpost, hstep₁ _ fun acts => by rw [doInvoke_state]; exact hsteps⟩
end Calls
theorem vx_cls {s : State} {T : State} {vm₁ : Vm} {E : String} {k : ClassId} (hW : s.WarmedH vm₁) (h : (T.setVm vm₁).vm.findClass E = some k) : s.vm.findClass E = some k := by
  have h1 : vm₁.findClass E = some k := h
  rw [hW.alike.findClass] at h1
  exact h1
/-- the method's frame g, with q thrown over it -/
def vx_W (p : Program) (l : Launch) (e : Env) (R : Room) (s : State) (m : MethodId) (args : Array Value) (below : List Frame) (meth : Method) (c : Code) (H : Heap) (locs : List Loc) (cells slots : Nat) (Q : State → Prop) (g : JFrame) (q : Addr) : Prop :=
  ∀ T : State, T.heap = H → Stand p l e R s m args below meth c T locs cells slots → ∃ t, Steps p.tables e below ((T.setTop g).pushFrame (.throwing q)) t ∧ Q t
def vx_Run (p : Program) (l : Launch) (e : Env) (R : Room) (s : State) (m : MethodId) (args : Array Value) (below : List Frame) (meth : Method) (c : Code) (H : Heap) (locs : List Loc) (cells slots mc ms : Nat) (g : JFrame) (rest : List Value) (Qa : State → Outcome → State → Prop) (XC : String → State → State → Prop) (free : Addr → Prop) : Prop :=
  ∀ T : State, T.heap = H → Stand p l e R s m args below meth c T locs cells slots →
    (∃ (v : Option Value) (st₀ t T' : State) (L : List Loc), st₀.heap = H ∧ Stand p l e R s m args below meth c T' (locs ++ L) (cells + mc) (slots + ms) ∧ (∀ q ∈ L, free q.base) ∧ T'.heap = t.heap ∧ T'.vm = t.vm ∧ Qa st₀ (.returned v) t ∧
      Goes p e below T g T' { g with pc := g.pc + 3, stack := v.toList ++ rest }) ∨
    (∃ (q : Addr) (st₀ t T' : State) (L : List Loc) (E : String) (ce : Cell), st₀.heap = H ∧ Stand p l e R s m args below meth c T' (locs ++ L) (cells + mc) (slots + ms) ∧ (∀ z ∈ L, free z.base) ∧ T'.heap = t.heap ∧ T'.vm = t.vm ∧ XC E st₀ t ∧ t.heap[q]? = some ce ∧ ce.vm = .none ∧ s.vm.findClass E = some ce.cls ∧
      Steps p.tables e below (T.setTop g) ((T'.setTop { g with stack := rest }).pushFrame (.throwing q)))
def vx_X {S : Type} (px : S → Prop) (B : String → S → State → Prop) (A : Nat → Prop) : String → State → State → Prop := fun E st t => ∃ u : S, px u ∧ B E u t ∧ va_F A st t
section Runs
variable {p : Program} {l : Launch} {e : Env} {R : Room} {s : State} {m : MethodId} {args : Array Value} {below : List Frame} {meth : Method} {c : Code} {H : Heap} {locs : List Loc} {cells slots : Nat}
variable {y : MethodName} {bytes cc : ByteArray} {maxL nL mc ms n index : Nat} {ret : Option FieldType} {ws : List Cond} {rm : Room} {Pc : Array Value → State → Prop} {Qc : Array Value → State → Outcome → State → Prop} {XC : String → State → State → Prop} {free : Addr → Prop} {Ts : List Cond} {own C : String} {b : Addr} {As rest : List Value} {g : JFrame}
theorem vx_callBack (cb : CallB R s args own index y bytes maxL ret ws rm mc ms n) (hM : vx_Met l y ws rm Pc Qc XC mc ms free) (hbl : FrameBlind Pc) : vx_Back l R p e below s args y 3 8 (PreOf R mc ms Pc) (PostOf Qc mc ms free) (vx_Post XC mc ms free) := by
  obtain ⟨hrc, hrs, hfr, hlo, hws, hcw, -, hini, -⟩ := cb
  exact vx_back (bytes := bytes) (maxL := maxL) (ret := ret) hM hbl hrc hrs hfr hlo hws hcw (fun a' U hW => word_at hW (Or.inl (by first | rfl | simp [Cond.onTables, Cond.keeps, Cond.steady])) hini)
theorem vx_runV (S : CallFix p m c cc nL s args Ts own) (hM : vx_Met l y ws rm Pc Qc XC mc ms free) (cw : CallW R s args own C index y bytes maxL ret ws rm mc ms n) (hp : PreV s H C b Pc As)
    (hg : g.method = m) (hn : As.length = n) (hsize : g.locals.size = nL) (hstack : g.stack = As.reverse ++ .ref b :: rest) (hW : 2 * g.monitorRoom + (rest.map fun v => v.category).sum ≤ 8) (hdg : decode cc g.pc = .ok (.invokevirtual index, 3)) (hf : cells + mc ≤ R.cells ∧ slots + ms ≤ R.slots) :
    vx_Run p l e R s m args below meth c H locs cells slots mc ms g rest (Qc (Value.ref b :: As).toArray) XC free := by
  have hK : vx_Back l R p e below s args y 3 8 (PreOf R mc ms Pc) (PostOf Qc mc ms free) (vx_Post XC mc ms free) := vx_callBack cw.1 hM hp.1
  obtain ⟨⟨-, -, -, -, -, -, hcode, -, hy, hlen, hl⟩, hin, hse⟩ := cw
  obtain ⟨hx, hb, hml, ho, -⟩ := S
  obtain ⟨-, ⟨cellB, hcB, hoB, hclB⟩, hPc⟩ := hp
  intro T hT X
  rcases vx_callV X hx (C := C) (bytes := bytes) (maxL := maxL) (ret := ret) ho hl hin hse hcode hy hK (by rw [hT]; exact hcB) hoB hclB hg (hsize.trans hml.symm) (argsL := As) (rest := rest) (fun sig h => hn.trans (hlen sig h)) hstack hW (by rw [hb]; exact hdg)
    (fun vm₁ hW₁ => ⟨hf.1, hf.2, hPc (T.setVm vm₁) hT hW₁⟩) with ⟨v, vm₁, ⟨U', l2, c2, s2⟩, hW₁, X', ⟨g', mk, t, L, e1, e2, hq, h1, hL, h2, h3⟩, st⟩ | ⟨q, vm₁, ⟨U', l2, c2, s2⟩, hW₁, X', ⟨g', mk, t, L, E, ce, e1, e2, hq, hce, hcv, hcl, h1, hL, h2, h3⟩, st⟩
  · dsimp only [Pt.U, Pt.locs, Pt.cells, Pt.slots] at X' e1 e2 h1 h2 h3 st
    subst h1; subst h2; subst h3
    exact Or.inl ⟨v, (T.setVm vm₁).calling g' mk (Value.ref b :: As).toArray, t, U', L, hT, X', hL, e1, e2, hq, st⟩
  · dsimp only [Pt.U, Pt.locs, Pt.cells, Pt.slots] at X' e1 e2 h1 h2 h3 st hcl
    subst h1; subst h2; subst h3
    exact Or.inr ⟨q, (T.setVm vm₁).calling g' mk (Value.ref b :: As).toArray, t, U', L, E, ce, hT, X', hL, e1, e2, hq, hce, hcv, vx_cls hW₁ hcl, st⟩
theorem vx_runS (S : CallFix p m c cc nL s args Ts own) (hM : vx_Met l y ws rm Pc Qc XC mc ms free) (cw : CallB R s args own index y bytes maxL ret ws rm mc ms n ∧ (Cond.static y).before args s = true) (hp : PreS s H Pc As)
    (hg : g.method = m) (hn : As.length = n) (hsize : g.locals.size = nL) (hstack : g.stack = As.reverse ++ rest) (hW : 2 * g.monitorRoom + (rest.map fun v => v.category).sum ≤ 8) (hdg : decode cc g.pc = .ok (.invokestatic index, 3)) (hf : cells + mc ≤ R.cells ∧ slots + ms ≤ R.slots) :
    vx_Run p l e R s m args below meth c H locs cells slots mc ms g rest (Qc As.toArray) XC free := by
  have hK : vx_Back l R p e below s args y 3 8 (PreOf R mc ms Pc) (PostOf Qc mc ms free) (vx_Post XC mc ms free) := vx_callBack cw.1 hM hp.1
  obtain ⟨⟨-, -, -, -, -, -, hcode, hini, hy, hlen, hl⟩, hstt⟩ := cw
  obtain ⟨hx, hb, hml, ho, -⟩ := S
  intro T hT X
  rcases vx_callS X hx (bytes := bytes) (maxL := maxL) (ret := ret) ho hl hstt hini hcode hy hK hg (hsize.trans hml.symm) (argsL := As) (rest := rest) (fun sig h => hn.trans (hlen sig h)) hstack hW (by rw [hb]; exact hdg)
    (fun vm₁ hW₁ => ⟨hf.1, hf.2, hp.2 (T.setVm vm₁) hT hW₁⟩) with ⟨v, vm₁, ⟨U', l2, c2, s2⟩, hW₁, X', ⟨g', mk, t, L, e1, e2, hq, h1, hL, h2, h3⟩, st⟩ | ⟨q, vm₁, ⟨U', l2, c2, s2⟩, hW₁, X', ⟨g', mk, t, L, E, ce, e1, e2, hq, hce, hcv, hcl, h1, hL, h2, h3⟩, st⟩
  · dsimp only [Pt.U, Pt.locs, Pt.cells, Pt.slots] at X' e1 e2 h1 h2 h3 st
    subst h1; subst h2; subst h3
    exact Or.inl ⟨v, (T.setVm vm₁).calling g' mk As.toArray, t, U', L, hT, X', hL, e1, e2, hq, st⟩
  · dsimp only [Pt.U, Pt.locs, Pt.cells, Pt.slots] at X' e1 e2 h1 h2 h3 st hcl
    subst h1; subst h2; subst h3
    exact Or.inr ⟨q, (T.setVm vm₁).calling g' mk As.toArray, t, U', L, E, ce, hT, X', hL, e1, e2, hq, hce, hcv, vx_cls hW₁ hcl, st⟩
end Runs
section Rows
variable {p : Program} {l : Launch} {e : Env} {R : Room} {s : State} {m : MethodId} {args : Array Value} {below : List Frame} {meth : Method} {c : Code} {H : Heap} {locs : List Loc} {cells slots : Nat} {Q : State → Prop}
variable {mc ms : Nat} {free : Addr → Prop} {A0 A1 : Nat → Prop} {H0 : Heap} {a : Array Value} {pc : Nat} {ls : Array Slot} {st0 rest : List Value}
theorem vx_keep {st₀ t T' : State} {L : List Loc} (h0 : st₀.heap = H) (e1 : T'.heap = t.heap) (hS : va_S A0 H0 H locs) (hA : ∀ q, q < H.size → A1 q → A0 q) (hf : ∀ q, free q → A0 q) (hL : ∀ q ∈ L, free q.base) (hF : va_F A1 st₀ t) :
    H.size ≤ T'.heap.size ∧ (∀ q : Nat, q < H.size → ¬ A1 q → T'.heap[q]? = H[q]?) ∧ va_S A0 H0 T'.heap (locs ++ L) := by
  obtain ⟨hz, hk⟩ := hF
  rw [h0] at hz hk
  exact ⟨by rw [e1]; exact hz, fun q h1 h2 => by rw [e1]; exact hk q h1 h2,
    ⟨Nat.le_trans hS.1 (by rw [e1]; exact hz), fun q h1 h2 => by rw [e1, hk q (Nat.lt_of_lt_of_le h1 hS.1) (fun z => h2 (hA q (Nat.lt_of_lt_of_le h1 hS.1) z))]; exact hS.2.1 q h1 h2, fun q hq => by
      rcases List.mem_append.mp hq with h | h
      · exact hS.2.2 q h
      · exact hf _ (hL q h)⟩⟩
theorem vx_calli {S SX : Type} {post : Int32 → S → Prop} {px : SX → Prop} {B : S → State → Prop} {BX : String → SX → State → Prop} {AX : Nat → Prop} (hr : vx_Run p l e R s m args below meth c H locs cells slots mc ms (F0 m pc ls st0) rest (va_Qi post B A1 a) (vx_X px BX AX) free) (hS : va_S A0 H0 H locs) (hA : ∀ q, q < H.size → A1 q → A0 q) (hf : ∀ q, free q → A0 q) (hAX : ∀ q, q < H.size → AX q → A0 q)
    (kx : ∀ (E : String) (ce : Cell) (q9 : Addr) (u : SX) (t : State) (H1 : Heap) (locs1 : List Loc), t.heap = H1 → s.vm.Alike t.vm → px u → BX E u t → H.size ≤ H1.size → (∀ q : Nat, q < H.size → ¬ AX q → H1[q]? = H[q]?) → va_S A0 H0 H1 locs1 → H1[q9]? = some ce → ce.vm = .none → s.vm.findClass E = some ce.cls → vx_W p l e R s m args below meth c H1 locs1 (cells + mc) (slots + ms) Q (F0 m pc ls rest) q9)
    (kk : ∀ (r : Int32) (u : S) (t : State) (H1 : Heap) (locs1 : List Loc), t.heap = H1 → s.vm.Alike t.vm → post r u → B u t → H.size ≤ H1.size → (∀ q : Nat, q < H.size → ¬ A1 q → H1[q]? = H[q]?) → va_S A0 H0 H1 locs1 → W p l e R s m args below meth c H1 locs1 (cells + mc) (slots + ms) Q (F0 m (pc + 3) ls (.int r :: rest))) : W p l e R s m args below meth c H locs cells slots Q (F0 m pc ls st0) := by
  intro T hT X
  rcases hr T hT X with ⟨v, st₀, t, T', L, h0, X', hL, e1, e2, ⟨⟨r, u, hv, hp, hb⟩, hF⟩, st⟩ | ⟨q, st₀, t, T', L, E, ce, h0, X', hL, e1, e2, ⟨u, hp, hb, hF⟩, hce, hcv, hcl, st⟩
  · cases hv
    obtain ⟨k1, k2, k3⟩ := vx_keep h0 e1 hS hA hf hL hF
    obtain ⟨t2, a1, b1⟩ := kk r u t T'.heap (locs ++ L) e1.symm (by rw [← e2]; exact X'.warmed.alike) hp hb k1 k2 k3 T' rfl X'
    exact ⟨t2, st t2 a1, b1⟩
  · obtain ⟨k1, k2, k3⟩ := vx_keep h0 e1 hS hAX hf hL hF
    obtain ⟨t2, a1, b1⟩ := kx E ce q u t T'.heap (locs ++ L) e1.symm (by rw [← e2]; exact X'.warmed.alike) hp hb k1 k2 k3 (by rw [e1]; exact hce) hcv hcl T' rfl X'
    exact ⟨t2, st.trans a1, b1⟩
theorem vx_calll {S SX : Type} {post : Int64 → S → Prop} {px : SX → Prop} {B : S → State → Prop} {BX : String → SX → State → Prop} {AX : Nat → Prop} (hr : vx_Run p l e R s m args below meth c H locs cells slots mc ms (F0 m pc ls st0) rest (va_Ql post B A1 a) (vx_X px BX AX) free) (hS : va_S A0 H0 H locs) (hA : ∀ q, q < H.size → A1 q → A0 q) (hf : ∀ q, free q → A0 q) (hAX : ∀ q, q < H.size → AX q → A0 q)
    (kx : ∀ (E : String) (ce : Cell) (q9 : Addr) (u : SX) (t : State) (H1 : Heap) (locs1 : List Loc), t.heap = H1 → s.vm.Alike t.vm → px u → BX E u t → H.size ≤ H1.size → (∀ q : Nat, q < H.size → ¬ AX q → H1[q]? = H[q]?) → va_S A0 H0 H1 locs1 → H1[q9]? = some ce → ce.vm = .none → s.vm.findClass E = some ce.cls → vx_W p l e R s m args below meth c H1 locs1 (cells + mc) (slots + ms) Q (F0 m pc ls rest) q9)
    (kk : ∀ (r : Int64) (u : S) (t : State) (H1 : Heap) (locs1 : List Loc), t.heap = H1 → s.vm.Alike t.vm → post r u → B u t → H.size ≤ H1.size → (∀ q : Nat, q < H.size → ¬ A1 q → H1[q]? = H[q]?) → va_S A0 H0 H1 locs1 → W p l e R s m args below meth c H1 locs1 (cells + mc) (slots + ms) Q (F0 m (pc + 3) ls (.long r :: rest))) : W p l e R s m args below meth c H locs cells slots Q (F0 m pc ls st0) := by
  intro T hT X
  rcases hr T hT X with ⟨v, st₀, t, T', L, h0, X', hL, e1, e2, ⟨⟨r, u, hv, hp, hb⟩, hF⟩, st⟩ | ⟨q, st₀, t, T', L, E, ce, h0, X', hL, e1, e2, ⟨u, hp, hb, hF⟩, hce, hcv, hcl, st⟩
  · cases hv
    obtain ⟨k1, k2, k3⟩ := vx_keep h0 e1 hS hA hf hL hF
    obtain ⟨t2, a1, b1⟩ := kk r u t T'.heap (locs ++ L) e1.symm (by rw [← e2]; exact X'.warmed.alike) hp hb k1 k2 k3 T' rfl X'
    exact ⟨t2, st t2 a1, b1⟩
  · obtain ⟨k1, k2, k3⟩ := vx_keep h0 e1 hS hAX hf hL hF
    obtain ⟨t2, a1, b1⟩ := kx E ce q u t T'.heap (locs ++ L) e1.symm (by rw [← e2]; exact X'.warmed.alike) hp hb k1 k2 k3 (by rw [e1]; exact hce) hcv hcl T' rfl X'
    exact ⟨t2, st.trans a1, b1⟩
theorem vx_callf {S SX : Type} {post : UInt32 → S → Prop} {px : SX → Prop} {B : S → State → Prop} {BX : String → SX → State → Prop} {AX : Nat → Prop} (hr : vx_Run p l e R s m args below meth c H locs cells slots mc ms (F0 m pc ls st0) rest (va_Qf post B A1 a) (vx_X px BX AX) free) (hS : va_S A0 H0 H locs) (hA : ∀ q, q < H.size → A1 q → A0 q) (hf : ∀ q, free q → A0 q) (hAX : ∀ q, q < H.size → AX q → A0 q)
    (kx : ∀ (E : String) (ce : Cell) (q9 : Addr) (u : SX) (t : State) (H1 : Heap) (locs1 : List Loc), t.heap = H1 → s.vm.Alike t.vm → px u → BX E u t → H.size ≤ H1.size → (∀ q : Nat, q < H.size → ¬ AX q → H1[q]? = H[q]?) → va_S A0 H0 H1 locs1 → H1[q9]? = some ce → ce.vm = .none → s.vm.findClass E = some ce.cls → vx_W p l e R s m args below meth c H1 locs1 (cells + mc) (slots + ms) Q (F0 m pc ls rest) q9)
    (kk : ∀ (r : UInt32) (u : S) (t : State) (H1 : Heap) (locs1 : List Loc), t.heap = H1 → s.vm.Alike t.vm → post r u → B u t → H.size ≤ H1.size → (∀ q : Nat, q < H.size → ¬ A1 q → H1[q]? = H[q]?) → va_S A0 H0 H1 locs1 → W p l e R s m args below meth c H1 locs1 (cells + mc) (slots + ms) Q (F0 m (pc + 3) ls (.float r :: rest))) : W p l e R s m args below meth c H locs cells slots Q (F0 m pc ls st0) := by
  intro T hT X
  rcases hr T hT X with ⟨v, st₀, t, T', L, h0, X', hL, e1, e2, ⟨⟨r, u, hv, hp, hb⟩, hF⟩, st⟩ | ⟨q, st₀, t, T', L, E, ce, h0, X', hL, e1, e2, ⟨u, hp, hb, hF⟩, hce, hcv, hcl, st⟩
  · cases hv
    obtain ⟨k1, k2, k3⟩ := vx_keep h0 e1 hS hA hf hL hF
    obtain ⟨t2, a1, b1⟩ := kk r u t T'.heap (locs ++ L) e1.symm (by rw [← e2]; exact X'.warmed.alike) hp hb k1 k2 k3 T' rfl X'
    exact ⟨t2, st t2 a1, b1⟩
  · obtain ⟨k1, k2, k3⟩ := vx_keep h0 e1 hS hAX hf hL hF
    obtain ⟨t2, a1, b1⟩ := kx E ce q u t T'.heap (locs ++ L) e1.symm (by rw [← e2]; exact X'.warmed.alike) hp hb k1 k2 k3 (by rw [e1]; exact hce) hcv hcl T' rfl X'
    exact ⟨t2, st.trans a1, b1⟩
theorem vx_calld {S SX : Type} {post : UInt64 → S → Prop} {px : SX → Prop} {B : S → State → Prop} {BX : String → SX → State → Prop} {AX : Nat → Prop} (hr : vx_Run p l e R s m args below meth c H locs cells slots mc ms (F0 m pc ls st0) rest (va_Qd post B A1 a) (vx_X px BX AX) free) (hS : va_S A0 H0 H locs) (hA : ∀ q, q < H.size → A1 q → A0 q) (hf : ∀ q, free q → A0 q) (hAX : ∀ q, q < H.size → AX q → A0 q)
    (kx : ∀ (E : String) (ce : Cell) (q9 : Addr) (u : SX) (t : State) (H1 : Heap) (locs1 : List Loc), t.heap = H1 → s.vm.Alike t.vm → px u → BX E u t → H.size ≤ H1.size → (∀ q : Nat, q < H.size → ¬ AX q → H1[q]? = H[q]?) → va_S A0 H0 H1 locs1 → H1[q9]? = some ce → ce.vm = .none → s.vm.findClass E = some ce.cls → vx_W p l e R s m args below meth c H1 locs1 (cells + mc) (slots + ms) Q (F0 m pc ls rest) q9)
    (kk : ∀ (r : UInt64) (u : S) (t : State) (H1 : Heap) (locs1 : List Loc), t.heap = H1 → s.vm.Alike t.vm → post r u → B u t → H.size ≤ H1.size → (∀ q : Nat, q < H.size → ¬ A1 q → H1[q]? = H[q]?) → va_S A0 H0 H1 locs1 → W p l e R s m args below meth c H1 locs1 (cells + mc) (slots + ms) Q (F0 m (pc + 3) ls (.double r :: rest))) : W p l e R s m args below meth c H locs cells slots Q (F0 m pc ls st0) := by
  intro T hT X
  rcases hr T hT X with ⟨v, st₀, t, T', L, h0, X', hL, e1, e2, ⟨⟨r, u, hv, hp, hb⟩, hF⟩, st⟩ | ⟨q, st₀, t, T', L, E, ce, h0, X', hL, e1, e2, ⟨u, hp, hb, hF⟩, hce, hcv, hcl, st⟩
  · cases hv
    obtain ⟨k1, k2, k3⟩ := vx_keep h0 e1 hS hA hf hL hF
    obtain ⟨t2, a1, b1⟩ := kk r u t T'.heap (locs ++ L) e1.symm (by rw [← e2]; exact X'.warmed.alike) hp hb k1 k2 k3 T' rfl X'
    exact ⟨t2, st t2 a1, b1⟩
  · obtain ⟨k1, k2, k3⟩ := vx_keep h0 e1 hS hAX hf hL hF
    obtain ⟨t2, a1, b1⟩ := kx E ce q u t T'.heap (locs ++ L) e1.symm (by rw [← e2]; exact X'.warmed.alike) hp hb k1 k2 k3 (by rw [e1]; exact hce) hcv hcl T' rfl X'
    exact ⟨t2, st.trans a1, b1⟩
theorem vx_callv {S SX : Type} {post : S → Prop} {px : SX → Prop} {B : S → State → Prop} {BX : String → SX → State → Prop} {AX : Nat → Prop} (hr : vx_Run p l e R s m args below meth c H locs cells slots mc ms (F0 m pc ls st0) rest (va_Qv post B A1 a) (vx_X px BX AX) free) (hS : va_S A0 H0 H locs) (hA : ∀ q, q < H.size → A1 q → A0 q) (hf : ∀ q, free q → A0 q) (hAX : ∀ q, q < H.size → AX q → A0 q)
    (kx : ∀ (E : String) (ce : Cell) (q9 : Addr) (u : SX) (t : State) (H1 : Heap) (locs1 : List Loc), t.heap = H1 → s.vm.Alike t.vm → px u → BX E u t → H.size ≤ H1.size → (∀ q : Nat, q < H.size → ¬ AX q → H1[q]? = H[q]?) → va_S A0 H0 H1 locs1 → H1[q9]? = some ce → ce.vm = .none → s.vm.findClass E = some ce.cls → vx_W p l e R s m args below meth c H1 locs1 (cells + mc) (slots + ms) Q (F0 m pc ls rest) q9)
    (kk : ∀ (u : S) (t : State) (H1 : Heap) (locs1 : List Loc), t.heap = H1 → s.vm.Alike t.vm → post u → B u t → H.size ≤ H1.size → (∀ q : Nat, q < H.size → ¬ A1 q → H1[q]? = H[q]?) → va_S A0 H0 H1 locs1 → W p l e R s m args below meth c H1 locs1 (cells + mc) (slots + ms) Q (F0 m (pc + 3) ls (rest))) : W p l e R s m args below meth c H locs cells slots Q (F0 m pc ls st0) := by
  intro T hT X
  rcases hr T hT X with ⟨v, st₀, t, T', L, h0, X', hL, e1, e2, ⟨⟨u, hv, hp, hb⟩, hF⟩, st⟩ | ⟨q, st₀, t, T', L, E, ce, h0, X', hL, e1, e2, ⟨u, hp, hb, hF⟩, hce, hcv, hcl, st⟩
  · cases hv
    obtain ⟨k1, k2, k3⟩ := vx_keep h0 e1 hS hA hf hL hF
    obtain ⟨t2, a1, b1⟩ := kk u t T'.heap (locs ++ L) e1.symm (by rw [← e2]; exact X'.warmed.alike) hp hb k1 k2 k3 T' rfl X'
    exact ⟨t2, st t2 a1, b1⟩
  · obtain ⟨k1, k2, k3⟩ := vx_keep h0 e1 hS hAX hf hL hF
    obtain ⟨t2, a1, b1⟩ := kx E ce q u t T'.heap (locs ++ L) e1.symm (by rw [← e2]; exact X'.warmed.alike) hp hb k1 k2 k3 (by rw [e1]; exact hce) hcv hcl T' rfl X'
    exact ⟨t2, st.trans a1, b1⟩
end Rows
section Ends
variable {p : Program} {l : Launch} {e : Env} {R : Room} {s : State} {m : MethodId} {args : Array Value} {below : List Frame} {meth : Method} {c : Code} {H : Heap} {locs : List Loc} {cells slots : Nat} {Q : State → Prop}
variable {mc ms : Nat} {free : Addr → Prop} {A0 A1 : Nat → Prop} {H0 : Heap} {a : Array Value} {ls : Array Slot} {st0 rest : List Value}
variable {Qc : Array Value → State → Outcome → State → Prop} {XC : String → State → State → Prop}
/-- what a body that may throw owes at its end -/
def vx_MQ (below : List Frame) (Qc : Array Value → State → Outcome → State → Prop) (XC : String → State → State → Prop) (a : Array Value) (s : State) (mc ms : Nat) (free : Addr → Prop) : State → Prop := fun t =>
  ∃ o, t.status = .running ∧ Ended t below o ∧ vx_Q Qc XC mc ms free a s o t
theorem vx_ret {g : JFrame} {mc ms : Nat} (k : W p l e R s m args below meth c H locs cells slots (MQ below Qc args s mc ms free) g) : W p l e R s m args below meth c H locs cells slots (vx_MQ below Qc XC args s mc ms free) g := by
  intro T hT X
  obtain ⟨t, a1, o, b1, b2, b3, b4⟩ := k T hT X
  exact ⟨t, a1, o, b1, b2, Or.inl ⟨b3, b4⟩⟩
/-- not caught here: it goes on to the caller -/
theorem vx_widen {g : JFrame} {q : Addr} {k n : Nat} (h1 : cells ≤ k) (h2 : slots ≤ n) (kk : vx_W p l e R s m args below meth c H locs k n Q g q) : vx_W p l e R s m args below meth c H locs cells slots Q g q := fun T hT X => kk T hT (stand_widen X h1 h2)
theorem vx_out {pc : Nat} {E : String} {ce : Cell} {q : Addr} {mc ms : Nat} (hout : ∀ x ∈ c.exceptionTable.toList, covers x pc = false) (hlocks : meth.locks = false) (hcell : H[q]? = some ce) (hv : ce.vm = .none) (hcl : s.vm.findClass E = some ce.cls)
    (hx : ∀ t : State, t.heap = H → s.vm.Alike t.vm → XC E s t) (hf : ∀ z ∈ locs, free z.base) (hc : cells ≤ mc) (hs : slots ≤ ms) :
    vx_W p l e R s m args below meth c H locs cells slots (vx_MQ below Qc XC args s mc ms free) (F0 m pc ls rest) q := by
  intro T hT X
  obtain ⟨st1, hrun, hend, hW, hsm⟩ := X.leaveThrown q (g := F0 m pc ls rest) rfl rfl rfl hout hlocks
  have hcell9 : (T.setFrames (.throwing q :: below)).heap[q]? = some ce := by
    show T.heap[q]? = some ce
    rw [hT]; exact hcell
  exact ⟨_, st1, .threw q, hrun, hend, Or.inr ⟨q, rfl, E, ce, locs, hx _ hT hW.alike, hcell9, hv, hcl, hW, hsm.mono hc hs, hf⟩⟩
theorem vx_frame {U : State} {k n : Nat} (h : s.sameButNew ({ U with vm := s.vm } : State) locs k n) : s.heap.size ≤ U.heap.size ∧ ∀ q : Nat, q < s.heap.size → (∀ z ∈ locs, z.base ≠ q) → U.heap[q]? = s.heap[q]? := by
  obtain ⟨-, h2, -, -, -, h6⟩ := h
  refine ⟨h2, fun q hq hz => ?_⟩
  obtain ⟨c9, e1, e2, e3, e4⟩ := h6 q _ (Array.getElem?_eq_getElem hq)
  have hs : c9.slots = (s.heap[q]).slots := Array.ext_getElem? fun i => e4 i fun hm => hz _ hm rfl
  have h9 : c9 = s.heap[q] := by
    rw [hs] at e2
    exact e2
  have e5 : U.heap[q]? = some c9 := e1
  rw [e5, h9, Array.getElem?_eq_getElem hq]
/-- the words of a throw but the four that speak of the heap -/
def vx_no (w : Cond) : Bool := decide (w ≠ .isRef (.static Bundle.tN "UNASSIGNED_STACK" Bundle.steD)) && decide (w ≠ .isRef (.static Bundle.tN "SUPPRESSED_SENTINEL" Bundle.listD)) && decide (w ≠ .laysStatic Bundle.tN "UNASSIGNED_STACK" Bundle.steD) && decide (w ≠ .laysStatic Bundle.tN "SUPPRESSED_SENTINEL" Bundle.listD)
def vx_at0 (own : String) (ic : Nat) (X : String) (names : List String) : List Cond := (Bundle.ownAtoms0 own ic X names).filter vx_no
def vx_atS (own : String) (ic : Nat) (X : String) (names : List String) : List Cond := (Bundle.ownAtoms own ic X names).filter vx_no
/-- a word that the tables alone decide, or a good one -/
def vx_ot (w : Cond) : Bool := w.onTables || goodWord w
theorem vx_ot_at {args a' : Array Value} {s U : State} {w : Cond} (hW : s.WarmedH U.vm) (hvm : s.vm = U.vm) (hg : vx_ot w = true) (h : w.before args s = true) : w.before a' U = true := by
  simp only [vx_ot, Bool.or_eq_true] at hg
  rcases hg with hg | hg
  · exact va_tabs hg hvm h
  · exact word_at hW (good_of_word hg) h
/-- a list's words: the good ones out of the method's own list, the others by premises of their own -/
theorem vx_hat {args : Array Value} {s : State} {L B : List Cond} (h1 : ∀ w ∈ L.filter goodWord, w.before args s = true) (h2 : ∀ w ∈ L.filter (fun w => !goodWord w), w ∈ B) (h3 : ∀ w ∈ B, w.before args s = true) : ∀ w ∈ L, w.before args s = true := by
  intro w hw
  by_cases g : goodWord w = true
  · exact h1 w (List.mem_filter.mpr ⟨hw, g⟩)
  · refine h3 w (h2 w (List.mem_filter.mpr ⟨hw, ?_⟩))
    show (!goodWord w) = true
    cases hgw : goodWord w
    · rfl
    · exact absurd hgw g
theorem vx_c {args : Array Value} {s : State} {w : Cond} {B : List Cond} (h : w.before args s = true) (t : ∀ w ∈ B, w.before args s = true) : ∀ w' ∈ w :: B, w'.before args s = true := fun w' h' => (List.mem_cons.mp h').elim (fun e => by rw [e]; exact h) (t w')
theorem vx_n {args : Array Value} {s : State} : ∀ w ∈ ([] : List Cond), w.before args s = true := fun _ h => nomatch h
theorem vx_own {args : Array Value} {s : State} {L : List Cond} (h1 : ∀ w ∈ L.filter vx_no, w.before args s = true)
    (hU : (Cond.isRef (.static Bundle.tN "UNASSIGNED_STACK" Bundle.steD)).before args s = true) (hN : (Cond.isRef (.static Bundle.tN "SUPPRESSED_SENTINEL" Bundle.listD)).before args s = true)
    (lU : (Cond.laysStatic Bundle.tN "UNASSIGNED_STACK" Bundle.steD).before args s = true) (lN : (Cond.laysStatic Bundle.tN "SUPPRESSED_SENTINEL" Bundle.listD).before args s = true) : ∀ w ∈ L, w.before args s = true := by
  intro w hw
  by_cases e1 : w = .isRef (.static Bundle.tN "UNASSIGNED_STACK" Bundle.steD)
  · rw [e1]; exact hU
  · by_cases e2 : w = .isRef (.static Bundle.tN "SUPPRESSED_SENTINEL" Bundle.listD)
    · rw [e2]; exact hN
    · by_cases e3 : w = .laysStatic Bundle.tN "UNASSIGNED_STACK" Bundle.steD
      · rw [e3]; exact lU
      · by_cases e4 : w = .laysStatic Bundle.tN "SUPPRESSED_SENTINEL" Bundle.listD
        · rw [e4]; exact lN
        · exact h1 w (List.mem_filter.mpr ⟨hw, by unfold vx_no; rw [decide_eq_true e1, decide_eq_true e2, decide_eq_true e3, decide_eq_true e4]; rfl⟩)
/-- where a static field lies, its class's statics cell in H -/
def vx_L (C n d : String) (A : Nat → Prop) (U : State) (H : Heap) : Prop := ∃ (c : ClassId) (k : Class) (i : Nat) (f : Field) (a : Nat) (cell : Cell), U.vm.findClass C = some c ∧ U.fieldFound? C n d = some (c, k, i, f) ∧ f.isStatic = true ∧ k.statics = some a ∧ H[a]? = some cell ∧ cell.vm.isStatics = true ∧ cell.cls = c ∧ f.slot < cell.slots.size ∧ k.staticTypes[f.slot]? = some f.type ∧ ¬ A a
theorem vx_L.moved {C n d : String} {A : Nat → Prop} {u U : State} {H : Heap} (hvm : u.vm.Alike U.vm) (h : vx_L C n d A u H) : vx_L C n d A U H := by
  obtain ⟨c, k, i, f, a, cell, h1, h2, h3, h4, h5, h6, h7, h8, h9, h10⟩ := h
  obtain ⟨k', hi', he⟩ := State.fieldFound?_setVm hvm h2
  exact ⟨c, k', i, f, a, cell, by rw [hvm.findClass]; exact h1, hi', h3, by rw [he]; exact h4, h5, h6, h7, h8, by rw [he]; exact h9, h10⟩
theorem vx_L.kept {C n d : String} {A : Nat → Prop} {U : State} {H H1 : Heap} (h : vx_L C n d A U H) (hq : ∀ a : Nat, a < H.size → ¬ A a → H1[a]? = H[a]?) : vx_L C n d A U H1 := by
  obtain ⟨c, k, i, f, a, cell, h1, h2, h3, h4, h5, h6, h7, h8, h9, h10⟩ := h
  exact ⟨c, k, i, f, a, cell, h1, h2, h3, h4, by rw [hq a (Array.getElem?_eq_some_iff.mp h5).1 h10]; exact h5, h6, h7, h8, h9, h10⟩
theorem vx_L.narrow {C n d : String} {A B : Nat → Prop} {U : State} {H : Heap} (h : vx_L C n d A U H) (hAB : ∀ q, B q → A q) : vx_L C n d B U H := by
  obtain ⟨c, k, i, f, a, cell, h1, h2, h3, h4, h5, h6, h7, h8, h9, h10⟩ := h
  exact ⟨c, k, i, f, a, cell, h1, h2, h3, h4, h5, h6, h7, h8, h9, fun z => h10 (hAB _ z)⟩
theorem vx_L.word {C n d : String} {A : Nat → Prop} {s : State} {args : Array Value} (h : vx_L C n d A s s.heap) : (Cond.laysStatic C n d).before args s = true := by
  obtain ⟨c, k, i, f, a, cell, h1, h2, h3, h4, h5, h6, h7, h8, h9, -⟩ := h
  show (Cond.laysStatic C n d).holds args s none s [] = true
  exact Cond.laysStatic_of h1 h2 h3 h4 h5 h6 h7 h8 h9
/-- .. and what it holds: null or some reference -/
def vx_Zq (C n d : String) (A : Nat → Prop) (U : State) (H : Heap) : Prop := va_Zq C n d A U H ∧ vx_L C n d A U H
theorem vx_Zq.moved {C n d : String} {A : Nat → Prop} {u U : State} {H : Heap} (hvm : u.vm.Alike U.vm) (h : vx_Zq C n d A u H) : vx_Zq C n d A U H := ⟨va_Zq.moved hvm h.1, vx_L.moved hvm h.2⟩
theorem vx_Zq.kept {C n d : String} {A : Nat → Prop} {U : State} {H H1 : Heap} (h : vx_Zq C n d A U H) (hq : ∀ a : Nat, a < H.size → ¬ A a → H1[a]? = H[a]?) : vx_Zq C n d A U H1 := ⟨va_Zq.kept h.1 hq, vx_L.kept h.2 hq⟩
theorem vx_Zq.narrow {C n d : String} {A B : Nat → Prop} {U : State} {H : Heap} (h : vx_Zq C n d A U H) (hAB : ∀ q, B q → A q) : vx_Zq C n d B U H := ⟨va_Zq.narrow h.1 hAB, vx_L.narrow h.2 hAB⟩
theorem vx_Zqof {args : Array Value} {s : State} {C n d : String} {A : Nat → Prop} (hl : (Cond.laysStatic C n d).before args s = true) (hini : (Cond.initialized C).before args s = true) (h : (Cond.isRef (.static C n d)).before args s = true) (hA : ∀ a : Nat, a < s.heap.size → ¬ A a) : vx_Zq C n d A s s.heap := by
  refine ⟨va_Zqof hl hini h hA, ?_⟩
  obtain ⟨c, k, i, f, a, cell, h1, h2, h3, h4, h5, h6, h7, h8, h9⟩ := Cond.laysStatic_spec hl
  exact ⟨c, k, i, f, a, cell, h1, h2, h3, h4, h5, h6, h7, h8, h9, hA a (Array.getElem?_eq_some_iff.mp h5).1⟩
theorem vx_isRef {C n d : String} {v : Value} {A : Nat → Prop} {s : State} {args : Array Value} (h : va_Z C n d v A s s.heap) (hv : v.isRef = true) : (Cond.isRef (.static C n d)).before args s = true := by
  obtain ⟨cf, kf, fi, f, a, cell, h1, h2, h3, h4, h5, h6, h7, -⟩ := h
  have he : (Term.static C n d).eval args s none [] s = some v := by
    simp [Term.eval, State.fieldNamed?, h1, h2, h4, h5, h6, h7]
  simp only [Cond.before, Cond.holds, Cond.value, he]
  cases v <;> simp_all [Value.isRef]
theorem vx_isRefq {C n d : String} {A : Nat → Prop} {s : State} {args : Array Value} (h : va_Zq C n d A s s.heap) : (Cond.isRef (.static C n d)).before args s = true := by
  rcases h with h | ⟨t, h⟩
  · exact vx_isRef h rfl
  · exact vx_isRef h rfl
/-- the same frame, seen from here: as if the method were called anew in this heap -/
theorem vx_rebase {T : State} (X : Stand p l e R s m args below meth c T locs cells slots) {R' : Room} (hf : R'.frames ≤ R.frames) (hl : R'.locals ≤ R.locals) (hc : cells + R'.cells ≤ R.cells) (hs : slots + R'.slots ≤ R.slots) :
    Stand p l e R' ((T.setVm s.vm).setFrames (.invoking m args :: below)) m args below meth c T [] 0 0 := by
  have htop : (T.setVm s.vm).topJava?.isSome := X.here.top
  have hF : ((T.setVm s.vm).setFrames (.invoking m args :: below)).frames = .invoking m args :: below := State.frames_setFrames _ (State.cur_lt_of_top htop)
  obtain ⟨g₀, hg0⟩ := Option.isSome_iff_exists.mp htop
  obtain ⟨r, hr⟩ := State.topJava?_eq_some.mp hg0
  have hl9 : e.platform.stackLimits (T.setVm s.vm).me = e.platform.stackLimits s.me := X.limits
  have hb9 : (T.setVm s.vm).me.stackBytes = s.me.stackBytes := X.bytes
  refine ⟨X.admits, X.cas, X.clock, hF, ?_, X.hears, X.method, X.code, X.here, X.tail, X.warmed, ?_, ?_, ?_⟩
  · have h := X.room
    have hU : ((T.setVm s.vm).setFrames (.invoking m args :: below)).localsInUse = s.localsInUse := by
      rw [State.localsInUse_invoking hF (meth := meth) (c := c) X.method X.code, State.localsInUse_invoking X.frames X.method X.code]
    simp only [State.hasRoom, Bool.and_eq_true, decide_eq_true_eq] at h ⊢
    obtain ⟨⟨⟨⟨h1, h2, h3, h4, h5, h6⟩, h7⟩, h8⟩, h9⟩ := h
    rw [X.frames, List.length_cons] at h2 h3
    have q1 := X.heapSize
    have q2 := X.used
    simp only [hF, hU, List.length_cons, State.stackLimits_setFrames, State.stackBytes_setFrames, hl9, hb9]
    refine ⟨⟨⟨⟨by omega, by omega, by omega, by omega, by omega, h6⟩, ?_⟩, ?_⟩, X.book⟩
    · show T.heap.size + R'.cells ≤ e.platform.maxCells
      omega
    · show T.slotsUsed + R'.slots ≤ e.platform.maxSlots
      omega
  · rw [State.stackLimits_setFrames]; rfl
  · rw [State.stackBytes_setFrames]; rfl
  · refine ⟨?_, Nat.le_refl _, Nat.le_refl _, ?_, ?_, fun a c9 h9 => ⟨c9, h9, rfl, rfl, fun _ _ => rfl⟩⟩
    · obtain ⟨t, ht, -⟩ := State.frames_cons hr
      show T.setVm s.vm = { ((T.setVm s.vm).setFrames (.invoking m args :: below)).setFrames (T.setVm s.vm).frames with heap := T.heap, slotsUsed := T.slotsUsed }
      rw [State.setFrames_setFrames, State.setFrames_self ht]
      rfl
    · show T.slotsUsed = T.slotsUsed + ((T.heap.toList.drop T.heap.size).map (·.slots.size)).sum
      rw [List.drop_eq_nil_of_le (Nat.le_of_eq Array.length_toList)]
      rfl
    · show ((T.heap.toList.drop T.heap.size).map (·.slots.size)).sum ≤ 0
      rw [List.drop_eq_nil_of_le (Nat.le_of_eq Array.length_toList)]
      exact Nat.le_refl _
/-- 'throw new E()': new; dup; invokespecial; athrow -/
theorem vx_throw0 {cc : ByteArray} {pc : Nat} (hexec : p.tables.exec = Jvm.exec) (hb : c.code = cc) (hl : l.stackTraces = false) {own cls : String} {names : List String} {ik ic mc ms : Nat} {A : Nat → Prop}
    (hown : s.vm.findClass own = some m.cls) (hcls : Bundle.fit cls = true) (hnames : ∀ n ∈ names, Bundle.fit n = true)
    (hk : (Cond.classLink own ik cls).before args s = true) (hini : (Cond.initialized cls).before args s = true) (hat : ∀ w ∈ vx_at0 own ic cls names, w.before args s = true)
    (hgood : ∀ w ∈ Cond.classLink own ik cls :: Cond.initialized cls :: vx_at0 own ic cls names, vx_ot w = true)
    (hU : vx_Zq Bundle.tN "UNASSIGNED_STACK" Bundle.steD A s s.heap) (hN : vx_Zq Bundle.tN "SUPPRESSED_SENTINEL" Bundle.listD A s s.heap) (hS : va_S A s.heap H locs) (hsize : ls.size = c.maxLocals)
    (d0 : decode cc pc = .ok (.new ik, 3)) (d3 : decode cc (pc + 3) = .ok (.dup, 1)) (d4 : decode cc (pc + 4) = .ok (.invokespecial ic, 3)) (d7 : decode cc (pc + 7) = .ok (.athrow, 1))
    (hout : ∀ x ∈ c.exceptionTable.toList, covers x (pc + 7) = false)
    (hRframes : names.length + 3 < R.frames) (hRlocals : (rest.map fun v => v.category).sum + (13 * (names.length + 1) + 42) ≤ R.locals) (hRcells : cells + 1 ≤ R.cells) (hRslots : slots + 6 ≤ R.slots) (hlocks : meth.locks = false)
    (hx : ∀ t : State, s.vm.Alike t.vm → H.size ≤ t.heap.size → (∀ q : Nat, q < H.size → t.heap[q]? = H[q]?) → XC cls s t)
    (hf : ∀ z ∈ locs, free z.base) (hc : cells + 1 ≤ mc) (hs : slots + 6 ≤ ms) :
    W p l e R s m args below meth c H locs cells slots (vx_MQ below Qc XC args s mc ms free) (F0 m pc ls rest) := by
  intro T hT X
  have htr : e.platform.stackTraces = false := (show e.platform.stackTraces = l.stackTraces by rw [X.admits.platform]).trans hl
  have Y := vx_rebase X (R' := { frames := R.frames, locals := R.locals, cells := 1, slots := 6 }) (Nat.le_refl _) (Nat.le_refl _) hRcells hRslots
  obtain ⟨s', hA⟩ : ∃ z, z = (T.setVm s.vm).setFrames (.invoking m args :: below) := ⟨_, rfl⟩
  rw [← hA] at Y
  have hvm : s'.vm = s.vm := by rw [hA]; rfl
  have hhp : s'.heap = H := by rw [hA]; exact hT
  have hW0 : s.WarmedH s'.vm := by rw [hvm]; exact State.WarmedH.refl s
  have hat' : ∀ w ∈ vx_at0 own ic cls names, w.before args s' = true := fun w hw => vx_ot_at hW0 hvm.symm (hgood w (List.mem_cons_of_mem _ (List.mem_cons_of_mem _ hw))) (hat w hw)
  have hk' : (Cond.classLink own ik cls).before args s' = true := vx_ot_at hW0 hvm.symm (hgood _ List.mem_cons_self) hk
  have hini' : (Cond.initialized cls).before args s' = true := vx_ot_at hW0 hvm.symm (hgood _ (List.mem_cons_of_mem _ List.mem_cons_self)) hini
  have hU' : vx_Zq Bundle.tN "UNASSIGNED_STACK" Bundle.steD A s' s'.heap := by rw [hhp]; exact vx_Zq.moved hW0.alike (hU.kept hS.2.1)
  have hN' : vx_Zq Bundle.tN "SUPPRESSED_SENTINEL" Bundle.listD A s' s'.heap := by rw [hhp]; exact vx_Zq.moved hW0.alike (hN.kept hS.2.1)
  have h : ∀ w ∈ Bundle.ownAtoms0 own ic cls names, w.before args s' = true := vx_own hat' (vx_isRefq hU'.1) (vx_isRefq hN'.1) hU'.2.word hN'.2.word
  have hown' : s'.vm.findClass own = some m.cls := by rw [hvm]; exact hown
  have hins : (Cond.instantiable cls 6).before args s' = true := h _ (by simp [Bundle.ownAtoms0])
  obtain ⟨vm₁, cX, kX, hfX, hkX, -, -, X₁, st1⟩ := Y.newCold hexec (own := own) (C := cls) (index := ik) (n := 6) hown' hk' hins hini'
    (g := F0 m pc ls rest) rfl (by rw [hb]; exact d0) (Nat.le_refl _) (Nat.le_refl _)
  generalize hT1 : (T.setVm vm₁).pushCell { cls := cX, slots := kX.instanceTypes.map defaultValue, vm := .none } = T1 at X₁ st1
  have hcat : (Value.ref T.heap.size).category = 1 := rfl
  have hcellA : T1.heap[T.heap.size]? = some (freshCell cX kX) := by rw [← hT1]; exact State.heap_pushCell_size _ _
  have d3' : decode c.code (pc + 3) = .ok (.dup, 1) := by rw [hb]; exact d3
  obtain ⟨U, hsteps, hrun, hend, hW, hsame, ce, hce, hO⟩ := X₁.ctorThrow0 hexec htr (own := own) (cls := cls) (names := names) (ic := ic) hown' hcls hnames h (fun x hx => nomatch hx) hfX hkX hcellA (by rw [hhp, hT]; exact Nat.le_refl _)
    (g := { method := m, pc := pc + 4, locals := ls, stack := .ref T.heap.size :: .ref T.heap.size :: rest, locked := none }) rfl hsize rfl rfl (rest := rest) rfl
    (by rw [hb]; exact d4) (by rw [hb]; exact d7) hout hRframes (by simp only [List.map_cons, List.sum_cons, hcat]; omega) hlocks
  obtain ⟨f1, f2⟩ := vx_frame hsame
  rw [hhp] at f1 f2
  have hWs : s.WarmedH U.vm := State.WarmedH.trans hW0 hW
  have hcl : s.vm.findClass cls = some ce.cls := by
    have h9 := hO.cls
    rw [hvm] at h9
    exact h9
  have hall : s.sameButNew ({ U with vm := s.vm } : State) locs mc ms := by
    subst hA
    obtain ⟨e1, e2⟩ := hsame
    rw [State.setFrames_setFrames] at e1
    have h2 : (T.setVm s.vm).sameButNew ({ U with vm := s.vm } : State) [] (0 + 1) (0 + 6) := ⟨e1, e2⟩
    have h3 := X.same.trans h2
    rw [List.append_nil] at h3
    exact h3.mono hc hs
  refine ⟨U, ?_, .threw T.heap.size, hrun, hend, Or.inr ⟨T.heap.size, rfl, cls, ce, locs, hx U hWs.alike f1 (fun q hq => f2 q hq (fun z hz => nomatch hz)), hce, hO.vm, hcl, hWs, hall, hf⟩⟩
  refine st1 _ ?_
  show Steps p.tables e below (T1.setTop { method := m, pc := pc + 3, locals := ls, stack := .ref T.heap.size :: rest, locked := none }) _
  jvm_step X₁.here [X₁.here.top, hexec, d3', Value.category]
  exact hsteps
/-- 'throw new E("text")': new; dup; ldc; invokespecial; athrow -/
theorem vx_throwS {cc : ByteArray} {pc : Nat} (hexec : p.tables.exec = Jvm.exec) (hb : c.code = cc) (hl : l.stackTraces = false) {own cls text : String} {names : List String} {ik is ic mc ms sa : Nat} {A : Nat → Prop}
    (hown : s.vm.findClass own = some m.cls) (hcls : Bundle.fit cls = true) (hnames : ∀ n ∈ names, Bundle.fit n = true)
    (hk : (Cond.classLink own ik cls).before args s = true) (hini : (Cond.initialized cls).before args s = true) (hstr : vk_R own is text sa s) (hat : ∀ w ∈ vx_atS own ic cls names, w.before args s = true)
    (hgood : ∀ w ∈ Cond.classLink own ik cls :: Cond.initialized cls :: vx_atS own ic cls names, vx_ot w = true)
    (hU : vx_Zq Bundle.tN "UNASSIGNED_STACK" Bundle.steD A s s.heap) (hN : vx_Zq Bundle.tN "SUPPRESSED_SENTINEL" Bundle.listD A s s.heap) (hS : va_S A s.heap H locs) (hsize : ls.size = c.maxLocals)
    (d0 : decode cc pc = .ok (.new ik, 3)) (d3 : decode cc (pc + 3) = .ok (.dup, 1)) (d4 : decode cc (pc + 4) = .ok (.ldc is, 2)) (d6 : decode cc (pc + 6) = .ok (.invokespecial ic, 3)) (d9 : decode cc (pc + 9) = .ok (.athrow, 1))
    (hout : ∀ x ∈ c.exceptionTable.toList, covers x (pc + 9) = false)
    (hRframes : names.length + 3 < R.frames) (hRlocals : (rest.map fun v => v.category).sum + (13 * (names.length + 1) + 43) ≤ R.locals) (hRcells : cells + 1 ≤ R.cells) (hRslots : slots + 6 ≤ R.slots) (hlocks : meth.locks = false)
    (hx : ∀ t : State, s.vm.Alike t.vm → H.size ≤ t.heap.size → (∀ q : Nat, q < H.size → t.heap[q]? = H[q]?) → XC cls s t)
    (hf : ∀ z ∈ locs, free z.base) (hc : cells + 1 ≤ mc) (hs : slots + 6 ≤ ms) :
    W p l e R s m args below meth c H locs cells slots (vx_MQ below Qc XC args s mc ms free) (F0 m pc ls rest) := by
  intro T hT X
  have htr : e.platform.stackTraces = false := (show e.platform.stackTraces = l.stackTraces by rw [X.admits.platform]).trans hl
  have Y := vx_rebase X (R' := { frames := R.frames, locals := R.locals, cells := 1, slots := 6 }) (Nat.le_refl _) (Nat.le_refl _) hRcells hRslots
  obtain ⟨s', hA⟩ : ∃ z, z = (T.setVm s.vm).setFrames (.invoking m args :: below) := ⟨_, rfl⟩
  rw [← hA] at Y
  have hvm : s'.vm = s.vm := by rw [hA]; rfl
  have hhp : s'.heap = H := by rw [hA]; exact hT
  have hW0 : s.WarmedH s'.vm := by rw [hvm]; exact State.WarmedH.refl s
  have hat' : ∀ w ∈ vx_atS own ic cls names, w.before args s' = true := fun w hw => vx_ot_at hW0 hvm.symm (hgood w (List.mem_cons_of_mem _ (List.mem_cons_of_mem _ hw))) (hat w hw)
  have hk' : (Cond.classLink own ik cls).before args s' = true := vx_ot_at hW0 hvm.symm (hgood _ List.mem_cons_self) hk
  have hini' : (Cond.initialized cls).before args s' = true := vx_ot_at hW0 hvm.symm (hgood _ (List.mem_cons_of_mem _ List.mem_cons_self)) hini
  have hU' : vx_Zq Bundle.tN "UNASSIGNED_STACK" Bundle.steD A s' s'.heap := by rw [hhp]; exact vx_Zq.moved hW0.alike (hU.kept hS.2.1)
  have hN' : vx_Zq Bundle.tN "SUPPRESSED_SENTINEL" Bundle.listD A s' s'.heap := by rw [hhp]; exact vx_Zq.moved hW0.alike (hN.kept hS.2.1)
  have h : ∀ w ∈ Bundle.ownAtoms own ic cls names, w.before args s' = true := vx_own hat' (vx_isRefq hU'.1) (vx_isRefq hN'.1) hU'.2.word hN'.2.word
  have hown' : s'.vm.findClass own = some m.cls := by rw [hvm]; exact hown
  have hins : (Cond.instantiable cls 6).before args s' = true := h _ (by simp [Bundle.ownAtoms])
  obtain ⟨vm₁, cX, kX, hfX, hkX, -, -, X₁, st1⟩ := Y.newCold hexec (own := own) (C := cls) (index := ik) (n := 6) hown' hk' hins hini'
    (g := F0 m pc ls rest) rfl (by rw [hb]; exact d0) (Nat.le_refl _) (Nat.le_refl _)
  generalize hT1 : (T.setVm vm₁).pushCell { cls := cX, slots := kX.instanceTypes.map defaultValue, vm := .none } = T1 at X₁ st1
  have hcat : (Value.ref T.heap.size).category = 1 := rfl
  have hcellA : T1.heap[T.heap.size]? = some (freshCell cX kX) := by rw [← hT1]; exact State.heap_pushCell_size _ _
  have d3' : decode c.code (pc + 3) = .ok (.dup, 1) := by rw [hb]; exact d3
  have d4' : decode c.code (pc + 4) = .ok (.ldc is, 2) := by rw [hb]; exact d4
  have hstr' : vk_R own is text sa s' := vk_R.warm hW0 hstr
  obtain ⟨U, hsteps, hrun, hend, hW, hsame, ce, hce, hO⟩ := X₁.ctorThrowS hexec htr (own := own) (cls := cls) (names := names) (ic := ic) hown' hcls hnames h (fun x hx => nomatch hx) hfX hkX hcellA (by rw [hhp, hT]; exact Nat.le_refl _) (msg := .ref sa) rfl
    (g := { method := m, pc := pc + 6, locals := ls, stack := .ref sa :: .ref T.heap.size :: .ref T.heap.size :: rest, locked := none }) rfl hsize rfl rfl (rest := rest) rfl
    (by rw [hb]; exact d6) (by rw [hb]; exact d9) hout hRframes (by simp only [List.map_cons, List.sum_cons, hcat]; omega) hlocks
  obtain ⟨f1, f2⟩ := vx_frame hsame
  rw [hhp] at f1 f2
  have hWs : s.WarmedH U.vm := State.WarmedH.trans hW0 hW
  have hcl : s.vm.findClass cls = some ce.cls := by
    have h9 := hO.cls
    rw [hvm] at h9
    exact h9
  have hall : s.sameButNew ({ U with vm := s.vm } : State) locs mc ms := by
    subst hA
    obtain ⟨e1, e2⟩ := hsame
    rw [State.setFrames_setFrames] at e1
    have h2 : (T.setVm s.vm).sameButNew ({ U with vm := s.vm } : State) [] (0 + 1) (0 + 6) := ⟨e1, e2⟩
    have h3 := X.same.trans h2
    rw [List.append_nil] at h3
    exact h3.mono hc hs
  refine ⟨U, ?_, .threw T.heap.size, hrun, hend, Or.inr ⟨T.heap.size, rfl, cls, ce, locs, hx U hWs.alike f1 (fun q hq => f2 q hq (fun z hz => nomatch hz)), hce, hO.vm, hcl, hWs, hall, hf⟩⟩
  refine st1 _ ?_
  show Steps p.tables e below (T1.setTop { method := m, pc := pc + 3, locals := ls, stack := .ref T.heap.size :: rest, locked := none }) _
  jvm_step X₁.here [X₁.here.top, hexec, d3', Value.category]
  exact X₁.ldcString hexec (own := own) (text := text) (index := is) (a := sa) hown' hstr'.1 hstr'.2
    (g := { method := m, pc := pc + 4, locals := ls, stack := .ref T.heap.size :: .ref T.heap.size :: rest, locked := none }) rfl d4' _ hsteps
/-- 'throw new E("text")', the text by a wide index -/
theorem vx_throwSW {cc : ByteArray} {pc : Nat} (hexec : p.tables.exec = Jvm.exec) (hb : c.code = cc) (hl : l.stackTraces = false) {own cls text : String} {names : List String} {ik is ic mc ms sa : Nat} {A : Nat → Prop}
    (hown : s.vm.findClass own = some m.cls) (hcls : Bundle.fit cls = true) (hnames : ∀ n ∈ names, Bundle.fit n = true)
    (hk : (Cond.classLink own ik cls).before args s = true) (hini : (Cond.initialized cls).before args s = true) (hstr : vk_R own is text sa s) (hat : ∀ w ∈ vx_atS own ic cls names, w.before args s = true)
    (hgood : ∀ w ∈ Cond.classLink own ik cls :: Cond.initialized cls :: vx_atS own ic cls names, vx_ot w = true)
    (hU : vx_Zq Bundle.tN "UNASSIGNED_STACK" Bundle.steD A s s.heap) (hN : vx_Zq Bundle.tN "SUPPRESSED_SENTINEL" Bundle.listD A s s.heap) (hS : va_S A s.heap H locs) (hsize : ls.size = c.maxLocals)
    (d0 : decode cc pc = .ok (.new ik, 3)) (d3 : decode cc (pc + 3) = .ok (.dup, 1)) (d4 : decode cc (pc + 4) = .ok (.ldc_w is, 3)) (d7 : decode cc (pc + 7) = .ok (.invokespecial ic, 3)) (d10 : decode cc (pc + 10) = .ok (.athrow, 1))
    (hout : ∀ x ∈ c.exceptionTable.toList, covers x (pc + 10) = false)
    (hRframes : names.length + 3 < R.frames) (hRlocals : (rest.map fun v => v.category).sum + (13 * (names.length + 1) + 43) ≤ R.locals) (hRcells : cells + 1 ≤ R.cells) (hRslots : slots + 6 ≤ R.slots) (hlocks : meth.locks = false)
    (hx : ∀ t : State, s.vm.Alike t.vm → H.size ≤ t.heap.size → (∀ q : Nat, q < H.size → t.heap[q]? = H[q]?) → XC cls s t)
    (hf : ∀ z ∈ locs, free z.base) (hc : cells + 1 ≤ mc) (hs : slots + 6 ≤ ms) :
    W p l e R s m args below meth c H locs cells slots (vx_MQ below Qc XC args s mc ms free) (F0 m pc ls rest) := by
  intro T hT X
  have htr : e.platform.stackTraces = false := (show e.platform.stackTraces = l.stackTraces by rw [X.admits.platform]).trans hl
  have Y := vx_rebase X (R' := { frames := R.frames, locals := R.locals, cells := 1, slots := 6 }) (Nat.le_refl _) (Nat.le_refl _) hRcells hRslots
  obtain ⟨s', hA⟩ : ∃ z, z = (T.setVm s.vm).setFrames (.invoking m args :: below) := ⟨_, rfl⟩
  rw [← hA] at Y
  have hvm : s'.vm = s.vm := by rw [hA]; rfl
  have hhp : s'.heap = H := by rw [hA]; exact hT
  have hW0 : s.WarmedH s'.vm := by rw [hvm]; exact State.WarmedH.refl s
  have hat' : ∀ w ∈ vx_atS own ic cls names, w.before args s' = true := fun w hw => vx_ot_at hW0 hvm.symm (hgood w (List.mem_cons_of_mem _ (List.mem_cons_of_mem _ hw))) (hat w hw)
  have hk' : (Cond.classLink own ik cls).before args s' = true := vx_ot_at hW0 hvm.symm (hgood _ List.mem_cons_self) hk
  have hini' : (Cond.initialized cls).before args s' = true := vx_ot_at hW0 hvm.symm (hgood _ (List.mem_cons_of_mem _ List.mem_cons_self)) hini
  have hU' : vx_Zq Bundle.tN "UNASSIGNED_STACK" Bundle.steD A s' s'.heap := by rw [hhp]; exact vx_Zq.moved hW0.alike (hU.kept hS.2.1)
  have hN' : vx_Zq Bundle.tN "SUPPRESSED_SENTINEL" Bundle.listD A s' s'.heap := by rw [hhp]; exact vx_Zq.moved hW0.alike (hN.kept hS.2.1)
  have h : ∀ w ∈ Bundle.ownAtoms own ic cls names, w.before args s' = true := vx_own hat' (vx_isRefq hU'.1) (vx_isRefq hN'.1) hU'.2.word hN'.2.word
  have hown' : s'.vm.findClass own = some m.cls := by rw [hvm]; exact hown
  have hins : (Cond.instantiable cls 6).before args s' = true := h _ (by simp [Bundle.ownAtoms])
  obtain ⟨vm₁, cX, kX, hfX, hkX, -, -, X₁, st1⟩ := Y.newCold hexec (own := own) (C := cls) (index := ik) (n := 6) hown' hk' hins hini'
    (g := F0 m pc ls rest) rfl (by rw [hb]; exact d0) (Nat.le_refl _) (Nat.le_refl _)
  generalize hT1 : (T.setVm vm₁).pushCell { cls := cX, slots := kX.instanceTypes.map defaultValue, vm := .none } = T1 at X₁ st1
  have hcat : (Value.ref T.heap.size).category = 1 := rfl
  have hcellA : T1.heap[T.heap.size]? = some (freshCell cX kX) := by rw [← hT1]; exact State.heap_pushCell_size _ _
  have d3' : decode c.code (pc + 3) = .ok (.dup, 1) := by rw [hb]; exact d3
  have d4' : decode c.code (pc + 4) = .ok (.ldc_w is, 3) := by rw [hb]; exact d4
  have hstr' : vk_R own is text sa s' := vk_R.warm hW0 hstr
  obtain ⟨U, hsteps, hrun, hend, hW, hsame, ce, hce, hO⟩ := X₁.ctorThrowS hexec htr (own := own) (cls := cls) (names := names) (ic := ic) hown' hcls hnames h (fun x hx => nomatch hx) hfX hkX hcellA (by rw [hhp, hT]; exact Nat.le_refl _) (msg := .ref sa) rfl
    (g := { method := m, pc := pc + 7, locals := ls, stack := .ref sa :: .ref T.heap.size :: .ref T.heap.size :: rest, locked := none }) rfl hsize rfl rfl (rest := rest) rfl
    (by rw [hb]; exact d7) (by rw [hb]; exact d10) hout hRframes (by simp only [List.map_cons, List.sum_cons, hcat]; omega) hlocks
  obtain ⟨f1, f2⟩ := vx_frame hsame
  rw [hhp] at f1 f2
  have hWs : s.WarmedH U.vm := State.WarmedH.trans hW0 hW
  have hcl : s.vm.findClass cls = some ce.cls := by
    have h9 := hO.cls
    rw [hvm] at h9
    exact h9
  have hall : s.sameButNew ({ U with vm := s.vm } : State) locs mc ms := by
    subst hA
    obtain ⟨e1, e2⟩ := hsame
    rw [State.setFrames_setFrames] at e1
    have h2 : (T.setVm s.vm).sameButNew ({ U with vm := s.vm } : State) [] (0 + 1) (0 + 6) := ⟨e1, e2⟩
    have h3 := X.same.trans h2
    rw [List.append_nil] at h3
    exact h3.mono hc hs
  refine ⟨U, ?_, .threw T.heap.size, hrun, hend, Or.inr ⟨T.heap.size, rfl, cls, ce, locs, hx U hWs.alike f1 (fun q hq => f2 q hq (fun z hz => nomatch hz)), hce, hO.vm, hcl, hWs, hall, hf⟩⟩
  refine st1 _ ?_
  show Steps p.tables e below (T1.setTop { method := m, pc := pc + 3, locals := ls, stack := .ref T.heap.size :: rest, locked := none }) _
  jvm_step X₁.here [X₁.here.top, hexec, d3', Value.category]
  exact X₁.ldcStringW hexec (own := own) (text := text) (index := is) (a := sa) hown' hstr'.1 hstr'.2
    (g := { method := m, pc := pc + 4, locals := ls, stack := .ref T.heap.size :: .ref T.heap.size :: rest, locked := none }) rfl d4' _ hsteps
end Ends
section Bodies
variable {l : Launch}
theorem vx_ofW {y : MethodName} {ws ws' : List Cond} {rm : Room} {Pc : Array Value → State → Prop} {Qc : Array Value → State → Outcome → State → Prop} {XC : String → State → State → Prop} {mc ms : Nat} {free : Addr → Prop} {cc : ByteArray} {maxL : Nat} {ret : Option FieldType}
    (hy : plainName y.cls = true) (hw : ws = Cond.code y cc maxL ret :: ws')
    (body : ∀ p e s m args below meth c s₁, BodyLoose p l y (headSpec ws rm) cc maxL ret e s m args below meth c s₁ → c.maxLocals = maxL → (∀ x ∈ c.exceptionTable.toList, False) → Pc args s →
      W p l e (headSpec ws rm).room s m args below meth c s.heap [] 0 0 (vx_MQ below Qc XC args s mc ms free) (entryFrame m args maxL)) : vx_Met l y ws rm Pc Qc XC mc ms free := by
  refine MetFree.of_bodyS (code := cc) (maxLocals := maxL) (ret := ret) hy ?_ ?_
  · intro args s m h hn
    obtain ⟨meth, c, h1, h2, h3, h4, h5, h6, -, -⟩ := Cond.code_spec hn (atoms_spec (ws := ws) h _ (by rw [hw]; exact List.mem_cons_self))
    exact ⟨meth, c, h1, h2, h3, h4, h5, h6⟩
  · intro p e s m args below meth c s₁ B hml hP _
    have hh0 : s₁.heap = s.heap := by rw [B.state]; rfl
    have ht : ∀ x ∈ c.exceptionTable.toList, False := by
      obtain ⟨meth9, c9, h1, h2, -, -, -, -, h7, -⟩ := Cond.code_spec B.named (atoms_spec (ws := ws) B.pre _ (by rw [hw]; exact List.mem_cons_self))
      cases Option.some.inj (h1.symm.trans B.method)
      cases Option.some.inj (h2.symm.trans (Stand.of_body B).code)
      intro x hx
      rw [Array.isEmpty_iff.mp h7] at hx
      cases hx
    obtain ⟨t, a1, o, b1, b2, b3⟩ := body p e s m args below meth c s₁ B hml ht hP s₁ hh0 (Stand.of_body B)
    exact ⟨t, o, a1, b1, b2, b3⟩
/-- the table of a body with handlers -/
theorem vx_table {p : Program} {x y : MethodName} {S : Spec} {cc bytes : ByteArray} {maxL maxL' : Nat} {ret ret' : Option FieldType} {e : Env} {s s₁ : State} {m : MethodId} {args : Array Value} {below : List Frame} {meth : Method} {c : Code} {hh : List (Nat × Nat × Nat × Nat)}
    (B : BodyLoose p l y S cc maxL ret e s m args below meth c s₁) (h : (Cond.codeWith y bytes maxL' ret' hh).before args s = true) : c.exceptionTable.toList = tableOf hh := by
  obtain ⟨m9, meth9, c9, hn9, h1, h2, -, -, h6, -⟩ := Cond.codeWith_spec h
  cases Option.some.inj (hn9.symm.trans B.named)
  cases Option.some.inj (h1.symm.trans B.method)
  cases Option.some.inj (h2.symm.trans (Stand.of_body B).code)
  rw [← h6, table_eq]
end Bodies
end VXA
/-! ===== END ===== -/
/-! ===== BEGIN a static call of a method with an exception table ===== -/
section VXS
variable {p : Program} {l : Launch} {e : Env} {R : Room} {s : State} {m : MethodId} {args : Array Value} {below : List Frame} {meth : Method} {c : Code} {T : State} {H : Heap} {locs : List Loc} {cells slots : Nat}
abbrev vx_CSW (R : Room) (s : State) (args : Array Value) (own : String) (index : Nat) (y : MethodName) (bytes : ByteArray) (maxL : Nat) (ret : Option FieldType) (hh : List (Nat × Nat × Nat × Nat)) (ws : List Cond) (rm : Room) (mc ms n : Nat) : Prop :=
  (rm.cells = mc ∧ rm.slots = ms ∧ rm.frames + 1 ≤ R.frames ∧ 8 + (maxL + 11) + rm.locals ≤ R.locals ∧ (∀ w ∈ ws, ∀ (a' : Array Value) (U : State), s.WarmedH U.vm → w.before a' U = true) ∧ Cond.codeWith y bytes maxL ret hh ∈ ws) ∧
  (Cond.codeWith y bytes maxL ret hh).before args s = true ∧ (Cond.initialized y.cls).before args s = true ∧ (y.cls ≠ "java/lang/invoke/MethodHandle" ∧ y.cls ≠ "java/lang/invoke/VarHandle") ∧
  (∀ sig, parseMethodDescriptor y.desc = some sig → n = sig.parameters.length) ∧ (Cond.methodLink own index y).before args s = true ∧ (Cond.static y).before args s = true
theorem vx_cwSW {own : String} {index maxL mc ms : Nat} {y : MethodName} {bytes : ByteArray} {ret : Option FieldType} {hh : List (Nat × Nat × Nat × Nat)} {Ts ws ws' : List Cond} {rm : Room} (n : Nat) (ht : ∀ w ∈ Ts, w.before args s = true) (hT : GoodIn Ts (va_wsS own index y ws)) (hw : ws = Cond.codeWith y bytes maxL ret hh :: ws') (hrc : rm.cells = mc) (hrs : rm.slots = ms)
    (hd : y.cls ≠ "java/lang/invoke/MethodHandle" ∧ y.cls ≠ "java/lang/invoke/VarHandle" ∧ (parseMethodDescriptor y.desc).map (fun d => d.parameters.length) = some n) (hR : rm.frames + 1 ≤ R.frames ∧ 8 + (maxL + 11) + rm.locals ≤ R.locals) :
    vx_CSW R s args own index y bytes maxL ret hh ws rm mc ms n := by
  have ok : ∀ w ∈ va_wsS own index y ws, w.before args s = true := fun w h => ht w (hT w h).1
  have hG : GoodIn Ts ws := fun w h => hT w (by unfold va_wsS; exact List.mem_append_right _ h)
  have hc : Cond.codeWith y bytes maxL ret hh ∈ ws := by rw [hw]; exact List.mem_cons_self
  refine ⟨⟨hrc, hrs, hR.1, hR.2, pay_in ht hG, hc⟩, ht _ (hG _ hc).1, ok _ (by simp [va_wsS]), ⟨hd.1, hd.2.1⟩, fun sig h => ?_, ok _ (by simp [va_wsS]), ok _ (by simp [va_wsS])⟩
  have h2 := hd.2.2
  rw [h] at h2
  exact (Option.some.inj h2).symm
theorem vx_callSW (X : Stand p l e R s m args below meth c T locs cells slots) (hexec : p.tables.exec = Jvm.exec) {own : String} {index : Nat} {y : MethodName} {bytes : ByteArray} {maxL : Nat} {ret : Option FieldType} {hh : List (Nat × Nat × Nat × Nat)}
    (hown : s.vm.findClass own = some m.cls) (hlink : (Cond.methodLink own index y).before args s = true) (hstat : (Cond.static y).before args s = true) (hinit : (Cond.initialized y.cls).before args s = true)
    (hcode : (Cond.codeWith y bytes maxL ret hh).before args s = true) (hy : y.cls ≠ "java/lang/invoke/MethodHandle" ∧ y.cls ≠ "java/lang/invoke/VarHandle")
    {W9 : Nat} {Pre : Pt → Array Value → Prop} {Post : Pt → Array Value → Option Value → Pt → Prop} (hK : Back l R p e below s args y 3 W9 Pre Post)
    {g : JFrame} (hg : g.method = m) (hsize : g.locals.size = c.maxLocals) {argsL rest : List Value} (hlen : ∀ sig, parseMethodDescriptor y.desc = some sig → argsL.length = sig.parameters.length)
    (hstack : g.stack = argsL.reverse ++ rest) (hW : 2 * g.monitorRoom + (rest.map fun v => v.category).sum ≤ W9) (hdg : decode c.code g.pc = .ok (.invokestatic index, 3))
    (hpre : ∀ vm₁, s.WarmedH vm₁ → Pre ⟨T.setVm vm₁, locs, cells, slots⟩ argsL.toArray) :
    ∃ (v : Option Value) (vm₁ : Vm) (B : Pt), s.WarmedH vm₁ ∧ Stand p l e R s m args below meth c B.U B.locs B.cells B.slots ∧ Post ⟨T.setVm vm₁, locs, cells, slots⟩ argsL.toArray v B ∧
      ∀ target, Steps p.tables e below (B.U.setTop { g with pc := g.pc + 3, stack := v.toList ++ rest }) target → Steps p.tables e below (T.setTop g) target := by
  obtain ⟨mk, methM, cM, hnamed, hmethM, -, -, -, -, -, -, hsigM⟩ := Cond.codeWith_spec hcode
  have hstatic : methM.isStatic = true := Cond.static_spec hnamed hmethM hstat
  obtain ⟨kP, hkP, -⟩ := className_of_methodNamed hnamed
  have hinitP : kP.init = .initialized := Cond.initialized_spec (findClass_of_methodNamed hnamed) hkP hinit
  obtain ⟨vm₁, X₁, hstep₁⟩ := X.invokestatic hexec hown hlink hnamed hmethM hstatic hkP hinitP hy (g := g) hg (argsL := argsL) (rest := rest) (hlen _ hsigM) hstack hdg
  obtain ⟨v, B, X', hpost, hsteps⟩ := hK m meth c ⟨T.setVm vm₁, locs, cells, slots⟩ { g with stack := rest } (.invokestatic index) mk argsL.toArray X₁ hg hsize hdg hW (X₁.named hnamed) (hpre vm₁ X₁.warmed)
  exact ⟨v, vm₁, B, X₁.warmed, X', hpost, fun target h => hstep₁ _ fun acts => by rw [doInvoke_state]; exact hsteps.trans h⟩
theorem vx_runSW {y : MethodName} {bytes cc : ByteArray} {maxL nL mc ms n index : Nat} {ret : Option FieldType} {hh : List (Nat × Nat × Nat × Nat)} {ws : List Cond} {rm : Room} {Pc : Array Value → State → Prop} {Qc : Array Value → State → Outcome → State → Prop} {free : Addr → Prop} {Ts : List Cond} {own : String} {As rest : List Value} {g : JFrame}
    (S : CallFix p m c cc nL s args Ts own) (hM : Met l y ws rm Pc Qc mc ms free) (cw : vx_CSW R s args own index y bytes maxL ret hh ws rm mc ms n) (hp : PreS s H Pc As)
    (hg : g.method = m) (hn : As.length = n) (hsize : g.locals.size = nL) (hstack : g.stack = As.reverse ++ rest) (hW : 2 * g.monitorRoom + (rest.map fun v => v.category).sum ≤ 8) (hdg : decode cc g.pc = .ok (.invokestatic index, 3)) (hf : cells + mc ≤ R.cells ∧ slots + ms ≤ R.slots) :
    va_Run p l e R s m args below meth c H locs cells slots mc ms g rest (Qc As.toArray) (free) := by
  obtain ⟨⟨hrc, hrs, hfr, hlo, hws, hcw⟩, hcode, hini, hy, hlen, hl, hstt⟩ := cw
  have hK : Back l R p e below s args y 3 8 (PreOf R mc ms Pc) (PostOf Qc mc ms free) := va_backW (hh := hh) (bytes := bytes) (maxL := maxL) (ret := ret) hM hp.1 hrc hrs hfr hlo hws hcw (fun a' U hW => word_at hW (Or.inl (by first | rfl | simp [Cond.onTables, Cond.keeps, Cond.steady])) hini)
  obtain ⟨hx, hb, hml, ho, -⟩ := S
  intro T hT X
  obtain ⟨v, vm₁, ⟨U', l2, c2, s2⟩, hW₁, X', ⟨g', mk, t, L, e1, e2, hq, h1, hL, h2, h3⟩, st⟩ := vx_callSW X hx (hh := hh) (bytes := bytes) (maxL := maxL) (ret := ret) ho hl hstt hini hcode hy hK hg (hsize.trans hml.symm) (argsL := As) (rest := rest) (fun sig h => hn.trans (hlen sig h)) hstack hW (by rw [hb]; exact hdg)
    (fun vm₁ hW₁ => ⟨hf.1, hf.2, hp.2 (T.setVm vm₁) hT hW₁⟩)
  dsimp only [Pt.U, Pt.locs, Pt.cells, Pt.slots] at X' e1 e2 h1 h2 h3 st
  subst h1; subst h2; subst h3
  exact ⟨v, (T.setVm vm₁).calling g' mk As.toArray, t, U', L, hT, X', hL, e1, e2, hq, st⟩
/-- a thing of a world lies in the heap -/
theorem vx_lt {D : va_G} {cl : List vw_C} {ws : va_W} {H1 : Heap} (h : va_P D cl ws H1) {k : Nat} {q : Nat × va_E} (hk : ws[k]? = some q) : q.1 < H1.size := (h k q hk).lt
end VXS
/-! ===== END ===== -/
/-! ===== BEGIN methods with a table of their own: called by a name, returning or throwing ===== -/
section VXH
/-! vx_backW, vx_callVX, vx_callSX, vx_callVW, vx_runVW, vx_runVX, vx_runSX, vx_ofWH follow the same proofs as their sisters above (Free/Laws.lean, Shelf42/LK1.lean); vx_outP calls Shelf42/NT130.lean (outThrough). -/
section
variable {l : Launch} {R : Room} {p : Program} {e : Env} {below : List Frame} {s : State} {sargs : Array Value} {y : MethodName} {len W9 : Nat}
theorem vx_backW {ws : List Cond} {rm : Room} {Pc : Array Value → State → Prop} {Qc : Array Value → State → Outcome → State → Prop} {XC : String → State → State → Prop} {mc ms : Nat} {free : Addr → Prop} {bytes : ByteArray} {maxL : Nat} {ret : Option FieldType} {hh : List (Nat × Nat × Nat × Nat)}
    (hM : vx_Met l y ws rm Pc Qc XC mc ms free) (hblind : FrameBlind Pc) (hrc : rm.cells = mc) (hrs : rm.slots = ms)
    (hframes : rm.frames + 1 ≤ R.frames) (hlocals : W9 + (maxL + 11) + rm.locals ≤ R.locals)
    (hws : ∀ w ∈ ws, ∀ a' U, s.WarmedH U.vm → w.before a' U = true) (hcode : Cond.codeWith y bytes maxL ret hh ∈ ws) (hinit : ∀ a' U, s.WarmedH U.vm → (Cond.initialized y.cls).before a' U = true) :
    vx_Back l R p e below s sargs y len W9 (PreOf R mc ms Pc) (PostOf Qc mc ms free) (vx_Post XC mc ms free) := by
  intro m meth c A g ig mk a X hg hsize hdg hW hn hp
  have h1 : (headSpec ws rm).pre.before a A.U = true := atoms_intro fun w hw => hws w hw _ _ X.warmed
  have h2 : (Cond.codeWith y bytes maxL ret hh).before a A.U = true := hws _ hcode _ _ X.warmed
  have h3 : (Cond.initialized y.cls).before a A.U = true := hinit _ _ X.warmed
  have h4 : A.cells + (headSpec ws rm).room.cells ≤ R.cells := by rw [show (headSpec ws rm).room.cells = mc from hrc]; exact hp.1
  have h5 : A.slots + (headSpec ws rm).room.slots ≤ R.slots := by rw [show (headSpec ws rm).room.slots = ms from hrs]; exact hp.2.1
  have hPc : Pc a (A.U.calling g mk a) := hblind _ _ _ _ hp.2.2
  obtain ⟨U, Ls, c0, s0⟩ := A
  dsimp only [Pt.U, Pt.locs, Pt.cells, Pt.slots] at h1 h2 h3 h4 h5 X hn hPc ⊢
  obtain ⟨m9, methY, cY, hn9, hmY, hcY, -, hlY, -⟩ := Cond.codeWith_spec h2
  cases Option.some.inj (hn9.symm.trans hn)
  obtain ⟨kY, hkY, -⟩ := className_of_methodNamed hn
  have hinitY : kY.init = .initialized := Cond.initialized_spec (findClass_of_methodNamed hn) hkY h3
  have h : At U g.method c below := by rw [hg]; exact X.here
  have hlocals9 : W9 + (maxL + 11) + (headSpec ws rm).room.locals ≤ R.locals := hlocals
  have happ : (headSpec ws rm).appliesLoose y e.platform (U.calling g mk a) = true :=
    Spec.appliesLoose_calling (g := g) h hdg hn hkY hinitY
      (X.room_calling (g := g) (R' := (headSpec ws rm).room) hsize hmY hcY hframes (by rw [hlY]; omega) h4 h5) h1
  obtain ⟨mid, hmid⟩ := h.above
  have hfr : (U.setTop g).frames = (.java g :: mid) ++ below := by rw [State.frames_setTop' g h.top, hmid]; rfl
  obtain ⟨o, s₂, hsteps, -, hend, hq⟩ := Steps.callFree hM p X.admits X.cas X.clock (acts := []) hfr happ hPc trivial
  have hq' : vx_Q Qc XC mc ms free a (U.calling g mk a) o s₂ := hq
  rw [State.frames_setTop' g h.top] at hend
  obtain ⟨g₀, hg0⟩ := Option.isSome_iff_exists.mp h.top
  obtain ⟨r, hr⟩ := State.topJava?_eq_some.mp hg0
  have hr' : (({ U with heap := s₂.heap, slotsUsed := s₂.slotsUsed } : State).setVm s₂.vm).frames = .java g₀ :: r := hr
  rcases hq' with ⟨hqc, L, hfe, hL⟩ | ⟨q, rfl, E, ce, L, hx, hce, hcv, hcl, hW₂, hsm, hL⟩
  · obtain ⟨⟨v, rfl⟩, hW₂, e2, q2, q3, q4, q5, q6⟩ := id hfe
    have e3 : s₂ = ({ (U.calling g mk a).setFrames s₂.frames with heap := s₂.heap, slotsUsed := s₂.slotsUsed } : State).setVm s₂.vm := by
      have : s₂ = ({ s₂ with vm := (U.calling g mk a).vm } : State).setVm s₂.vm := rfl
      rw [e2] at this
      exact this
    obtain ⟨c₂, i₂, len₂, hc₂, hd₂, hf₂⟩ := hend
    have hW' : U.WarmedH s₂.vm := hW₂
    have hcc : c₂ = c := by
      have h1 : s₂.code? g.method = U.code? g.method := by
        rw [State.code?_eq, State.code?_eq, hW'.alike.method?]
      exact Option.some.inj (hc₂.symm.trans (h1.trans h.code))
    subst hcc
    have hlen : len₂ = len := by rw [hdg] at hd₂; cases hd₂; rfl
    subst hlen
    have hs₂ : s₂ = (({ U with heap := s₂.heap, slotsUsed := s₂.slotsUsed } : State).setVm s₂.vm).setTop { g with pc := g.pc + len₂, stack := v.toList ++ g.stack } := by
      refine e3.trans ?_
      rw [hf₂, State.calling_eq h.top, State.setFrames_setFrames, State.setTop_of_frames _ hr', hr]
      rfl
    have hsame : U.sameButNew ({ U with heap := s₂.heap, slotsUsed := s₂.slotsUsed } : State) L mc ms := by
      refine ⟨?_, q2, q3, q4, q5, q6⟩
      obtain ⟨t, ht, -⟩ := State.frames_cons hr
      show ({ U with heap := s₂.heap, slotsUsed := s₂.slotsUsed } : State) = { U.setFrames U.frames with heap := s₂.heap, slotsUsed := s₂.slotsUsed }
      rw [State.setFrames_self ht]
    subst hg
    refine Or.inl ⟨v, ⟨(({ U with heap := s₂.heap, slotsUsed := s₂.slotsUsed } : State).setVm s₂.vm), Ls ++ L, c0 + mc, s0 + ms⟩,
      ⟨X.admits, X.cas, X.clock, X.frames, X.room, X.hears, X.method, X.code, (X.here.setHeapUsed s₂.heap s₂.slotsUsed).setVm hW'.alike, X.tail, State.WarmedH.trans X.warmed hW', X.limits, X.bytes, X.same.trans (hsame.setVm s.vm)⟩,
      ⟨g, mk, s₂, L, rfl, rfl, hqc, rfl, hL, rfl, rfl⟩, ?_⟩
    show Steps p.tables e below _ ((({ U with heap := s₂.heap, slotsUsed := s₂.slotsUsed } : State).setVm s₂.vm).setTop { g with pc := g.pc + len₂, stack := v.toList ++ g.stack })
    rw [← hs₂]
    exact hsteps
  · obtain ⟨e2, q2, q3, q4, q5, q6⟩ := id hsm
    have e3 : s₂ = ({ (U.calling g mk a).setFrames s₂.frames with heap := s₂.heap, slotsUsed := s₂.slotsUsed } : State).setVm s₂.vm := by
      have : s₂ = ({ s₂ with vm := (U.calling g mk a).vm } : State).setVm s₂.vm := rfl
      rw [e2] at this
      exact this
    have hf₂ : s₂.frames = .throwing q :: .java g :: U.frames.tail := hend
    have hW' : U.WarmedH s₂.vm := hW₂
    have hs₂ : s₂ = ((({ U with heap := s₂.heap, slotsUsed := s₂.slotsUsed } : State).setVm s₂.vm).setTop g).pushFrame (.throwing q) := by
      refine e3.trans ?_
      rw [hf₂, State.calling_eq h.top, State.setFrames_setFrames, State.pushFrame, State.frames_setTop _ hr', State.setTop_of_frames _ hr', State.setFrames_setFrames, hr]
      rfl
    have hsame : U.sameButNew ({ U with heap := s₂.heap, slotsUsed := s₂.slotsUsed } : State) L mc ms := by
      refine ⟨?_, q2, q3, q4, q5, q6⟩
      obtain ⟨t, ht, -⟩ := State.frames_cons hr
      show ({ U with heap := s₂.heap, slotsUsed := s₂.slotsUsed } : State) = { U.setFrames U.frames with heap := s₂.heap, slotsUsed := s₂.slotsUsed }
      rw [State.setFrames_self ht]
    subst hg
    refine Or.inr ⟨q, ⟨(({ U with heap := s₂.heap, slotsUsed := s₂.slotsUsed } : State).setVm s₂.vm), Ls ++ L, c0 + mc, s0 + ms⟩,
      ⟨X.admits, X.cas, X.clock, X.frames, X.room, X.hears, X.method, X.code, (X.here.setHeapUsed s₂.heap s₂.slotsUsed).setVm hW'.alike, X.tail, State.WarmedH.trans X.warmed hW', X.limits, X.bytes, X.same.trans (hsame.setVm s.vm)⟩,
      ⟨g, mk, s₂, L, E, ce, rfl, rfl, hx, hce, hcv, hcl, rfl, hL, rfl, rfl⟩, ?_⟩
    show Steps p.tables e below _ (((({ U with heap := s₂.heap, slotsUsed := s₂.slotsUsed } : State).setVm s₂.vm).setTop g).pushFrame (.throwing q))
    rw [← hs₂]
    exact hsteps
end
variable {p : Program} {l : Launch} {e : Env} {R : Room} {s : State} {m : MethodId} {args : Array Value} {below : List Frame} {meth : Method} {c : Code} {T : State} {H : Heap} {locs : List Loc} {cells slots : Nat}
theorem vx_callVX (X : Stand p l e R s m args below meth c T locs cells slots) (hexec : p.tables.exec = Jvm.exec) {own C : String} {index : Nat} {y : MethodName} {bytes : ByteArray} {maxL : Nat} {ret : Option FieldType} {hh : List (Nat × Nat × Nat × Nat)}
    (hown : s.vm.findClass own = some m.cls) (hlink : (Cond.methodLink own index y).before args s = true) (hinst : (Cond.instanceMethod y).before args s = true) (hsel : (Cond.selects C y y).before args s = true)
    (hcode : (Cond.codeWith y bytes maxL ret hh).before args s = true) (hy : y.cls ≠ "java/lang/invoke/MethodHandle" ∧ y.cls ≠ "java/lang/invoke/VarHandle")
    {W9 : Nat} {Pre : Pt → Array Value → Prop} {Post : Pt → Array Value → Option Value → Pt → Prop} {PostX : Pt → Array Value → Addr → Pt → Prop} (hK : vx_Back l R p e below s args y 3 W9 Pre Post PostX)
    {b : Addr} {cellB : Cell} (hcell : T.heap[b]? = some cellB) (hobj : cellB.vm.isStatics = false) (hcls : s.vm.findClass C = some cellB.cls)
    {g : JFrame} (hg : g.method = m) (hsize : g.locals.size = c.maxLocals) {argsL rest : List Value} (hlen : ∀ sig, parseMethodDescriptor y.desc = some sig → argsL.length = sig.parameters.length)
    (hstack : g.stack = argsL.reverse ++ .ref b :: rest) (hW : 2 * g.monitorRoom + (rest.map fun v => v.category).sum ≤ W9) (hdg : decode c.code g.pc = .ok (.invokevirtual index, 3))
    (hpre : ∀ vm₁, s.WarmedH vm₁ → Pre ⟨T.setVm vm₁, locs, cells, slots⟩ (Value.ref b :: argsL).toArray) :
    (∃ (v : Option Value) (vm₁ : Vm) (B : Pt), s.WarmedH vm₁ ∧ Stand p l e R s m args below meth c B.U B.locs B.cells B.slots ∧ Post ⟨T.setVm vm₁, locs, cells, slots⟩ (Value.ref b :: argsL).toArray v B ∧
      ∀ target, Steps p.tables e below (B.U.setTop { g with pc := g.pc + 3, stack := v.toList ++ rest }) target → Steps p.tables e below (T.setTop g) target) ∨
    (∃ (q : Addr) (vm₁ : Vm) (B : Pt), s.WarmedH vm₁ ∧ Stand p l e R s m args below meth c B.U B.locs B.cells B.slots ∧ PostX ⟨T.setVm vm₁, locs, cells, slots⟩ (Value.ref b :: argsL).toArray q B ∧
      Steps p.tables e below (T.setTop g) ((B.U.setTop { g with stack := rest }).pushFrame (.throwing q))) := by
  obtain ⟨mk, methM, hnamed, hmethM, hstM, habM⟩ := Cond.instanceMethod_spec hinst
  obtain ⟨m8, methM', cM, hn8, hmethM', -, -, -, -, -, -, hsigM⟩ := Cond.codeWith_spec hcode
  cases Option.some.inj (hn8.symm.trans hnamed)
  cases hmethM.symm.trans hmethM'
  obtain ⟨c2, r2, m2, q1, q2, q3, q4, kP, hkP, hkPi⟩ := Cond.selects_spec hsel
  cases hcls.symm.trans q1
  cases (State.methodFound?_of_named hnamed hy).symm.trans q2
  cases hnamed.symm.trans q3
  have hselP : selectMethod e.platform s.vm cellB.cls mk = .method mk := by rw [Launch.admits_selectMethod X.admits]; exact q4
  obtain ⟨vm₁, X₁, hstep₁⟩ := X.invokevirtual hexec hown hlink hnamed hmethM hstM hkP hkPi hy (a := b) (cell := cellB) hcell
    (fun z h => by rw [h] at hobj; cases hobj) hselP hmethM habM hkP hkPi (g := g) hg (argsL := argsL) (rest := rest) (hlen _ hsigM) hstack hdg
  rcases hK m meth c ⟨T.setVm vm₁, locs, cells, slots⟩ { g with stack := rest } (.invokevirtual index) mk (Value.ref b :: argsL).toArray X₁ hg hsize hdg hW (X₁.named hnamed) (hpre vm₁ X₁.warmed) with ⟨v, B, X', hpost, hsteps⟩ | ⟨q, B, X', hpost, hsteps⟩
  · exact Or.inl ⟨v, vm₁, B, X₁.warmed, X', hpost, fun target h => hstep₁ _ fun acts => by rw [doInvoke_state]; exact hsteps.trans h⟩
  · exact Or.inr ⟨q, vm₁, B, X₁.warmed, X', hpost, hstep₁ _ fun acts => by rw [doInvoke_state]; exact hsteps⟩
theorem vx_callSX (X : Stand p l e R s m args below meth c T locs cells slots) (hexec : p.tables.exec = Jvm.exec) {own : String} {index : Nat} {y : MethodName} {bytes : ByteArray} {maxL : Nat} {ret : Option FieldType} {hh : List (Nat × Nat × Nat × Nat)}
    (hown : s.vm.findClass own = some m.cls) (hlink : (Cond.methodLink own index y).before args s = true) (hstat : (Cond.static y).before args s = true) (hinit : (Cond.initialized y.cls).before args s = true)
    (hcode : (Cond.codeWith y bytes maxL ret hh).before args s = true) (hy : y.cls ≠ "java/lang/invoke/MethodHandle" ∧ y.cls ≠ "java/lang/invoke/VarHandle")
    {W9 : Nat} {Pre : Pt → Array Value → Prop} {Post : Pt → Array Value → Option Value → Pt → Prop} {PostX : Pt → Array Value → Addr → Pt → Prop} (hK : vx_Back l R p e below s args y 3 W9 Pre Post PostX)
    {g : JFrame} (hg : g.method = m) (hsize : g.locals.size = c.maxLocals) {argsL rest : List Value} (hlen : ∀ sig, parseMethodDescriptor y.desc = some sig → argsL.length = sig.parameters.length)
    (hstack : g.stack = argsL.reverse ++ rest) (hW : 2 * g.monitorRoom + (rest.map fun v => v.category).sum ≤ W9) (hdg : decode c.code g.pc = .ok (.invokestatic index, 3))
    (hpre : ∀ vm₁, s.WarmedH vm₁ → Pre ⟨T.setVm vm₁, locs, cells, slots⟩ argsL.toArray) :
    (∃ (v : Option Value) (vm₁ : Vm) (B : Pt), s.WarmedH vm₁ ∧ Stand p l e R s m args below meth c B.U B.locs B.cells B.slots ∧ Post ⟨T.setVm vm₁, locs, cells, slots⟩ argsL.toArray v B ∧
      ∀ target, Steps p.tables e below (B.U.setTop { g with pc := g.pc + 3, stack := v.toList ++ rest }) target → Steps p.tables e below (T.setTop g) target) ∨
    (∃ (q : Addr) (vm₁ : Vm) (B : Pt), s.WarmedH vm₁ ∧ Stand p l e R s m args below meth c B.U B.locs B.cells B.slots ∧ PostX ⟨T.setVm vm₁, locs, cells, slots⟩ argsL.toArray q B ∧
      Steps p.tables e below (T.setTop g) ((B.U.setTop { g with stack := rest }).pushFrame (.throwing q))) := by
  obtain ⟨mk, methM, cM, hnamed, hmethM, -, -, -, -, -, -, hsigM⟩ := Cond.codeWith_spec hcode
  have hstatic : methM.isStatic = true := Cond.static_spec hnamed hmethM hstat
  obtain ⟨kP, hkP, -⟩ := className_of_methodNamed hnamed
  have hinitP : kP.init = .initialized := Cond.initialized_spec (findClass_of_methodNamed hnamed) hkP hinit
  obtain ⟨vm₁, X₁, hstep₁⟩ := X.invokestatic hexec hown hlink hnamed hmethM hstatic hkP hinitP hy (g := g) hg (argsL := argsL) (rest := rest) (hlen _ hsigM) hstack hdg
  rcases hK m meth c ⟨T.setVm vm₁, locs, cells, slots⟩ { g with stack := rest } (.invokestatic index) mk argsL.toArray X₁ hg hsize hdg hW (X₁.named hnamed) (hpre vm₁ X₁.warmed) with ⟨v, B, X', hpost, hsteps⟩ | ⟨q, B, X', hpost, hsteps⟩
  · exact Or.inl ⟨v, vm₁, B, X₁.warmed, X', hpost, fun target h => hstep₁ _ fun acts => by rw [doInvoke_state]; exact hsteps.trans h⟩
  · exact Or.inr ⟨q, vm₁, B, X₁.warmed, X', hpost, hstep₁ _ fun acts => by rw [doInvoke_state]; exact hsteps⟩
theorem vx_callVW (X : Stand p l e R s m args below meth c T locs cells slots) (hexec : p.tables.exec = Jvm.exec) {own C : String} {index : Nat} {y : MethodName} {bytes : ByteArray} {maxL : Nat} {ret : Option FieldType} {hh : List (Nat × Nat × Nat × Nat)}
    (hown : s.vm.findClass own = some m.cls) (hlink : (Cond.methodLink own index y).before args s = true) (hinst : (Cond.instanceMethod y).before args s = true) (hsel : (Cond.selects C y y).before args s = true)
    (hcode : (Cond.codeWith y bytes maxL ret hh).before args s = true) (hy : y.cls ≠ "java/lang/invoke/MethodHandle" ∧ y.cls ≠ "java/lang/invoke/VarHandle")
    {W9 : Nat} {Pre : Pt → Array Value → Prop} {Post : Pt → Array Value → Option Value → Pt → Prop} (hK : Back l R p e below s args y 3 W9 Pre Post)
    {b : Addr} {cellB : Cell} (hcell : T.heap[b]? = some cellB) (hobj : cellB.vm.isStatics = false) (hcls : s.vm.findClass C = some cellB.cls)
    {g : JFrame} (hg : g.method = m) (hsize : g.locals.size = c.maxLocals) {argsL rest : List Value} (hlen : ∀ sig, parseMethodDescriptor y.desc = some sig → argsL.length = sig.parameters.length)
    (hstack : g.stack = argsL.reverse ++ .ref b :: rest) (hW : 2 * g.monitorRoom + (rest.map fun v => v.category).sum ≤ W9) (hdg : decode c.code g.pc = .ok (.invokevirtual index, 3))
    (hpre : ∀ vm₁, s.WarmedH vm₁ → Pre ⟨T.setVm vm₁, locs, cells, slots⟩ (Value.ref b :: argsL).toArray) :
    ∃ (v : Option Value) (vm₁ : Vm) (B : Pt), s.WarmedH vm₁ ∧ Stand p l e R s m args below meth c B.U B.locs B.cells B.slots ∧ Post ⟨T.setVm vm₁, locs, cells, slots⟩ (Value.ref b :: argsL).toArray v B ∧
      ∀ target, Steps p.tables e below (B.U.setTop { g with pc := g.pc + 3, stack := v.toList ++ rest }) target → Steps p.tables e below (T.setTop g) target := by
  obtain ⟨mk, methM, hnamed, hmethM, hstM, habM⟩ := Cond.instanceMethod_spec hinst
  obtain ⟨m8, methM', cM, hn8, hmethM', -, -, -, -, -, -, hsigM⟩ := Cond.codeWith_spec hcode
  cases Option.some.inj (hn8.symm.trans hnamed)
  cases hmethM.symm.trans hmethM'
  obtain ⟨c2, r2, m2, q1, q2, q3, q4, kP, hkP, hkPi⟩ := Cond.selects_spec hsel
  cases hcls.symm.trans q1
  cases (State.methodFound?_of_named hnamed hy).symm.trans q2
  cases hnamed.symm.trans q3
  have hselP : selectMethod e.platform s.vm cellB.cls mk = .method mk := by rw [Launch.admits_selectMethod X.admits]; exact q4
  obtain ⟨vm₁, X₁, hstep₁⟩ := X.invokevirtual hexec hown hlink hnamed hmethM hstM hkP hkPi hy (a := b) (cell := cellB) hcell
    (fun z h => by rw [h] at hobj; cases hobj) hselP hmethM habM hkP hkPi (g := g) hg (argsL := argsL) (rest := rest) (hlen _ hsigM) hstack hdg
  obtain ⟨v, B, X', hpost, hsteps⟩ := hK m meth c ⟨T.setVm vm₁, locs, cells, slots⟩ { g with stack := rest } (.invokevirtual index) mk (Value.ref b :: argsL).toArray X₁ hg hsize hdg hW (X₁.named hnamed) (hpre vm₁ X₁.warmed)
  exact ⟨v, vm₁, B, X₁.warmed, X', hpost, fun target h => hstep₁ _ fun acts => by rw [doInvoke_state]; exact hsteps.trans h⟩
abbrev vx_CVW (R : Room) (s : State) (args : Array Value) (own C : String) (index : Nat) (y : MethodName) (bytes : ByteArray) (maxL : Nat) (ret : Option FieldType) (hh : List (Nat × Nat × Nat × Nat)) (ws : List Cond) (rm : Room) (mc ms n : Nat) : Prop :=
  (rm.cells = mc ∧ rm.slots = ms ∧ rm.frames + 1 ≤ R.frames ∧ 8 + (maxL + 11) + rm.locals ≤ R.locals ∧ (∀ w ∈ ws, ∀ (a' : Array Value) (U : State), s.WarmedH U.vm → w.before a' U = true) ∧ Cond.codeWith y bytes maxL ret hh ∈ ws) ∧
  (Cond.codeWith y bytes maxL ret hh).before args s = true ∧ (Cond.initialized y.cls).before args s = true ∧ (y.cls ≠ "java/lang/invoke/MethodHandle" ∧ y.cls ≠ "java/lang/invoke/VarHandle") ∧
  (∀ sig, parseMethodDescriptor y.desc = some sig → n = sig.parameters.length) ∧ (Cond.methodLink own index y).before args s = true ∧ (Cond.instanceMethod y).before args s = true ∧ (Cond.selects C y y).before args s = true
theorem vx_cwVW {own C : String} {index maxL mc ms : Nat} {y : MethodName} {bytes : ByteArray} {ret : Option FieldType} {hh : List (Nat × Nat × Nat × Nat)} {Ts ws ws' : List Cond} {rm : Room} (n : Nat) (ht : ∀ w ∈ Ts, w.before args s = true) (hT : GoodIn Ts (wsV own index C y ws)) (hw : ws = Cond.codeWith y bytes maxL ret hh :: ws') (hrc : rm.cells = mc) (hrs : rm.slots = ms)
    (hd : y.cls = C ∧ y.cls ≠ "java/lang/invoke/MethodHandle" ∧ y.cls ≠ "java/lang/invoke/VarHandle" ∧ (parseMethodDescriptor y.desc).map (fun d => d.parameters.length) = some n) (hR : rm.frames + 1 ≤ R.frames ∧ 8 + (maxL + 11) + rm.locals ≤ R.locals) :
    vx_CVW R s args own C index y bytes maxL ret hh ws rm mc ms n := by
  obtain ⟨hC, hd⟩ := hd
  subst hC
  have ok : ∀ w ∈ wsV own index y.cls y ws, w.before args s = true := fun w h => ht w (hT w h).1
  have hG : GoodIn Ts ws := fun w h => hT w (by unfold wsV; exact List.mem_append_right _ h)
  have hc : Cond.codeWith y bytes maxL ret hh ∈ ws := by rw [hw]; exact List.mem_cons_self
  refine ⟨⟨hrc, hrs, hR.1, hR.2, pay_in ht hG, hc⟩, ht _ (hG _ hc).1, ok _ (by simp [wsV]), ⟨hd.1, hd.2.1⟩, fun sig h => ?_, ok _ (by simp [wsV]), ok _ (by simp [wsV]), ok _ (by simp [wsV])⟩
  have h2 := hd.2.2
  rw [h] at h2
  exact (Option.some.inj h2).symm
theorem vx_runVW {y : MethodName} {bytes cc : ByteArray} {maxL nL mc ms n index : Nat} {ret : Option FieldType} {hh : List (Nat × Nat × Nat × Nat)} {ws : List Cond} {rm : Room} {Pc : Array Value → State → Prop} {Qc : Array Value → State → Outcome → State → Prop} {free : Addr → Prop} {Ts : List Cond} {own C : String} {b : Addr} {As rest : List Value} {g : JFrame}
    (S : CallFix p m c cc nL s args Ts own) (hM : Met l y ws rm Pc Qc mc ms free) (cw : vx_CVW R s args own C index y bytes maxL ret hh ws rm mc ms n) (hp : PreV s H C b Pc As)
    (hg : g.method = m) (hn : As.length = n) (hsize : g.locals.size = nL) (hstack : g.stack = As.reverse ++ .ref b :: rest) (hW : 2 * g.monitorRoom + (rest.map fun v => v.category).sum ≤ 8) (hdg : decode cc g.pc = .ok (.invokevirtual index, 3)) (hf : cells + mc ≤ R.cells ∧ slots + ms ≤ R.slots) :
    va_Run p l e R s m args below meth c H locs cells slots mc ms g rest (Qc (Value.ref b :: As).toArray) free := by
  obtain ⟨⟨hrc, hrs, hfr, hlo, hws, hcw⟩, hcode, hini, hy, hlen, hl, hin, hse⟩ := cw
  have hK : Back l R p e below s args y 3 8 (PreOf R mc ms Pc) (PostOf Qc mc ms free) := va_backW (hh := hh) (bytes := bytes) (maxL := maxL) (ret := ret) hM hp.1 hrc hrs hfr hlo hws hcw (fun a' U hW => word_at hW (Or.inl (by first | rfl | simp [Cond.onTables, Cond.keeps, Cond.steady])) hini)
  obtain ⟨hx, hb, hml, ho, -⟩ := S
  obtain ⟨-, ⟨cellB, hcB, hoB, hclB⟩, hPc⟩ := hp
  intro T hT X
  obtain ⟨v, vm₁, ⟨U', l2, c2, s2⟩, hW₁, X', ⟨g', mk, t, L, e1, e2, hq, h1, hL, h2, h3⟩, st⟩ := vx_callVW X hx (C := C) (hh := hh) (bytes := bytes) (maxL := maxL) (ret := ret) ho hl hin hse hcode hy hK (by rw [hT]; exact hcB) hoB hclB hg (hsize.trans hml.symm) (argsL := As) (rest := rest) (fun sig h => hn.trans (hlen sig h)) hstack hW (by rw [hb]; exact hdg)
    (fun vm₁ hW₁ => ⟨hf.1, hf.2, hPc (T.setVm vm₁) hT hW₁⟩)
  dsimp only [Pt.U, Pt.locs, Pt.cells, Pt.slots] at X' e1 e2 h1 h2 h3 st
  subst h1; subst h2; subst h3
  exact ⟨v, (T.setVm vm₁).calling g' mk (Value.ref b :: As).toArray, t, U', L, hT, X', hL, e1, e2, hq, st⟩
section
variable {y : MethodName} {bytes cc : ByteArray} {maxL nL mc ms n index : Nat} {ret : Option FieldType} {ws : List Cond} {rm : Room} {Pc : Array Value → State → Prop} {Qc : Array Value → State → Outcome → State → Prop} {XC : String → State → State → Prop} {free : Addr → Prop} {Ts : List Cond} {own C : String} {b : Addr} {As rest : List Value} {g : JFrame}
theorem vx_runVX {hh : List (Nat × Nat × Nat × Nat)} (S : CallFix p m c cc nL s args Ts own) (hM : vx_Met l y ws rm Pc Qc XC mc ms free) (cw : vx_CVW R s args own C index y bytes maxL ret hh ws rm mc ms n) (hp : PreV s H C b Pc As)
    (hg : g.method = m) (hn : As.length = n) (hsize : g.locals.size = nL) (hstack : g.stack = As.reverse ++ .ref b :: rest) (hW : 2 * g.monitorRoom + (rest.map fun v => v.category).sum ≤ 8) (hdg : decode cc g.pc = .ok (.invokevirtual index, 3)) (hf : cells + mc ≤ R.cells ∧ slots + ms ≤ R.slots) :
    vx_Run p l e R s m args below meth c H locs cells slots mc ms g rest (Qc (Value.ref b :: As).toArray) XC free := by
  obtain ⟨⟨hrc, hrs, hfr, hlo, hws, hcw⟩, hcode, hini, hy, hlen, hl, hin, hse⟩ := cw
  have hK : vx_Back l R p e below s args y 3 8 (PreOf R mc ms Pc) (PostOf Qc mc ms free) (vx_Post XC mc ms free) := vx_backW (hh := hh) (bytes := bytes) (maxL := maxL) (ret := ret) hM hp.1 hrc hrs hfr hlo hws hcw (fun a' U hW => word_at hW (Or.inl (by first | rfl | simp [Cond.onTables, Cond.keeps, Cond.steady])) hini)
  obtain ⟨hx, hb, hml, ho, -⟩ := S
  obtain ⟨-, ⟨cellB, hcB, hoB, hclB⟩, hPc⟩ := hp
  intro T hT X
  rcases vx_callVX X hx (C := C) (hh := hh) (bytes := bytes) (maxL := maxL) (ret := ret) ho hl hin hse hcode hy hK (by rw [hT]; exact hcB) hoB hclB hg (hsize.trans hml.symm) (argsL := As) (rest := rest) (fun sig h => hn.trans (hlen sig h)) hstack hW (by rw [hb]; exact hdg)
    (fun vm₁ hW₁ => ⟨hf.1, hf.2, hPc (T.setVm vm₁) hT hW₁⟩) with ⟨v, vm₁, ⟨U', l2, c2, s2⟩, hW₁, X', ⟨g', mk, t, L, e1, e2, hq, h1, hL, h2, h3⟩, st⟩ | ⟨q, vm₁, ⟨U', l2, c2, s2⟩, hW₁, X', ⟨g', mk, t, L, E, ce, e1, e2, hq, hce, hcv, hcl, h1, hL, h2, h3⟩, st⟩
  · dsimp only [Pt.U, Pt.locs, Pt.cells, Pt.slots] at X' e1 e2 h1 h2 h3 st
    subst h1; subst h2; subst h3
    exact Or.inl ⟨v, (T.setVm vm₁).calling g' mk (Value.ref b :: As).toArray, t, U', L, hT, X', hL, e1, e2, hq, st⟩
  · dsimp only [Pt.U, Pt.locs, Pt.cells, Pt.slots] at X' e1 e2 h1 h2 h3 st hcl
    subst h1; subst h2; subst h3
    exact Or.inr ⟨q, (T.setVm vm₁).calling g' mk (Value.ref b :: As).toArray, t, U', L, E, ce, hT, X', hL, e1, e2, hq, hce, hcv, vx_cls hW₁ hcl, st⟩
theorem vx_runSX {hh : List (Nat × Nat × Nat × Nat)} (S : CallFix p m c cc nL s args Ts own) (hM : vx_Met l y ws rm Pc Qc XC mc ms free) (cw : vx_CSW R s args own index y bytes maxL ret hh ws rm mc ms n) (hp : PreS s H Pc As)
    (hg : g.method = m) (hn : As.length = n) (hsize : g.locals.size = nL) (hstack : g.stack = As.reverse ++ rest) (hW : 2 * g.monitorRoom + (rest.map fun v => v.category).sum ≤ 8) (hdg : decode cc g.pc = .ok (.invokestatic index, 3)) (hf : cells + mc ≤ R.cells ∧ slots + ms ≤ R.slots) :
    vx_Run p l e R s m args below meth c H locs cells slots mc ms g rest (Qc As.toArray) XC free := by
  obtain ⟨⟨hrc, hrs, hfr, hlo, hws, hcw⟩, hcode, hini, hy, hlen, hl, hstt⟩ := cw
  have hK : vx_Back l R p e below s args y 3 8 (PreOf R mc ms Pc) (PostOf Qc mc ms free) (vx_Post XC mc ms free) := vx_backW (hh := hh) (bytes := bytes) (maxL := maxL) (ret := ret) hM hp.1 hrc hrs hfr hlo hws hcw (fun a' U hW => word_at hW (Or.inl (by first | rfl | simp [Cond.onTables, Cond.keeps, Cond.steady])) hini)
  obtain ⟨hx, hb, hml, ho, -⟩ := S
  intro T hT X
  rcases vx_callSX X hx (hh := hh) (bytes := bytes) (maxL := maxL) (ret := ret) ho hl hstt hini hcode hy hK hg (hsize.trans hml.symm) (argsL := As) (rest := rest) (fun sig h => hn.trans (hlen sig h)) hstack hW (by rw [hb]; exact hdg)
    (fun vm₁ hW₁ => ⟨hf.1, hf.2, hp.2 (T.setVm vm₁) hT hW₁⟩) with ⟨v, vm₁, ⟨U', l2, c2, s2⟩, hW₁, X', ⟨g', mk, t, L, e1, e2, hq, h1, hL, h2, h3⟩, st⟩ | ⟨q, vm₁, ⟨U', l2, c2, s2⟩, hW₁, X', ⟨g', mk, t, L, E, ce, e1, e2, hq, hce, hcv, hcl, h1, hL, h2, h3⟩, st⟩
  · dsimp only [Pt.U, Pt.locs, Pt.cells, Pt.slots] at X' e1 e2 h1 h2 h3 st
    subst h1; subst h2; subst h3
    exact Or.inl ⟨v, (T.setVm vm₁).calling g' mk As.toArray, t, U', L, hT, X', hL, e1, e2, hq, st⟩
  · dsimp only [Pt.U, Pt.locs, Pt.cells, Pt.slots] at X' e1 e2 h1 h2 h3 st hcl
    subst h1; subst h2; subst h3
    exact Or.inr ⟨q, (T.setVm vm₁).calling g' mk As.toArray, t, U', L, E, ce, hT, X', hL, e1, e2, hq, hce, hcv, vx_cls hW₁ hcl, st⟩
end
end VXH
theorem vx_ofWH {l : Launch} {y : MethodName} {ws ws' : List Cond} {rm : Room} {Pc : Array Value → State → Prop} {Qc : Array Value → State → Outcome → State → Prop} {XC : String → State → State → Prop} {mc ms : Nat} {free : Addr → Prop} {cc : ByteArray} {maxL : Nat} {ret : Option FieldType} {hh : List (Nat × Nat × Nat × Nat)}
    (hy : plainName y.cls = true) (hw : ws = Cond.codeWith y cc maxL ret hh :: ws')
    (body : ∀ p e s m args below meth c s₁, BodyLoose p l y (headSpec ws rm) cc maxL ret e s m args below meth c s₁ → c.maxLocals = maxL → Pc args s →
      W p l e (headSpec ws rm).room s m args below meth c s.heap [] 0 0 (vx_MQ below Qc XC args s mc ms free) (entryFrame m args maxL)) : vx_Met l y ws rm Pc Qc XC mc ms free := by
  refine MetFree.of_bodyS (code := cc) (maxLocals := maxL) (ret := ret) hy ?_ ?_
  · intro args s m h hn
    obtain ⟨m9, meth, c, hn9, h1, h2, h3, h4, -, h5, h6, -⟩ := Cond.codeWith_spec (atoms_spec (ws := ws) h _ (by rw [hw]; exact List.mem_cons_self))
    cases hn.symm.trans hn9
    exact ⟨meth, c, h1, h2, h3, h4, h5, h6⟩
  · intro p e s m args below meth c s₁ B hml hP _
    have hh0 : s₁.heap = s.heap := by rw [B.state]; rfl
    obtain ⟨t, a1, o, b1, b2, b3⟩ := body p e s m args below meth c s₁ B hml hP s₁ hh0 (Stand.of_body B)
    exact ⟨t, o, a1, b1, b2, b3⟩
/-! ===== END ===== -/
end
section
/-! ===== BEGIN printed: names, fields, word lists, decode rows ===== -/
def RX0 : String := "FlatLoader$OneModule"
def TX0 : u_T := fun k => match k with
  | 0 => ("FlatLoader$OneModule", "extended", "[I", true)
  | 1 => ("FlatLoader$OneModule", "definedAbove", "[I", true)
  | 2 => ("FlatLoader$OneModule", "on", "[I", true)
  | 3 => ("FlatLoader$OneModule", "imports", "[I", true)
  | 4 => ("FlatLoader$OneModule", "exports", "[I", true)
  | 5 => ("FlatLoader$OneModule", "dependencies", "I", false)
  | 6 => ("FlatLoader$OneModule", "dependedSet", "I", false)
  | _ => ("FlatLoader$OneModule", "requiredSet", "I", false)
def tyX0 : Nat → FieldType := fun k => match k with
  | 0 => .array .int
  | 1 => .array .int
  | 2 => .array .int
  | 3 => .array .int
  | 4 => .array .int
  | 5 => .int
  | 6 => .int
  | _ => .int
abbrev wsX00 : List Cond := u_ws RX0 TX0 8
theorem nmX0 : ∀ a, a < 8 → ∀ b, b < 8 → a ≠ b → (TX0 a).2.1 ≠ (TX0 b).2.1 := by decide +kernel
theorem tyX0_ok : ∀ k, k < 8 → parseFieldDescriptor (TX0 k).2.2.1 = some (tyX0 k) := by decide +kernel
abbrev cX0_init : ByteArray := prog_2_method_1_code
def yX0_init : MethodName := ⟨RX0, "<init>", "()V"⟩
abbrev cX0_holds : ByteArray := prog_2_method_2_code
def yX0_holds : MethodName := ⟨RX0, "holds", "(I)Z"⟩
abbrev cX0_hasPath : ByteArray := prog_2_method_3_code
def yX0_hasPath : MethodName := ⟨RX0, "hasPath", "(I)Z"⟩
abbrev cX0_addDependency : ByteArray := prog_2_method_4_code
def yX0_addDependency : MethodName := ⟨RX0, "addDependency", "(IIIZ)V"⟩
abbrev cX0_dropDependencies : ByteArray := prog_2_method_5_code
def yX0_dropDependencies : MethodName := ⟨RX0, "dropDependencies", "()V"⟩
abbrev cX0_hasDefined : ByteArray := prog_2_method_6_code
def yX0_hasDefined : MethodName := ⟨RX0, "hasDefined", "(I)Z"⟩
abbrev cX0_countClasses : ByteArray := prog_2_method_7_code
def yX0_countClasses : MethodName := ⟨RX0, "countClasses", "()I"⟩
abbrev cX0_dropClasses : ByteArray := prog_2_method_8_code
def yX0_dropClasses : MethodName := ⟨RX0, "dropClasses", "()V"⟩
abbrev cX0_hasClassBelow : ByteArray := prog_2_method_9_code
def yX0_hasClassBelow : MethodName := ⟨RX0, "hasClassBelow", "(I)Z"⟩
def RX1 : String := "FlatLoader$Row"
def TX1 : u_T := fun k => match k with
  | 0 => ("FlatLoader$Row", "members", "[I", true)
  | 1 => ("FlatLoader$Row", "size", "I", false)
  | 2 => ("FlatLoader$Row", "memberSet", "I", false)
  | _ => ("FlatLoader$Row", "begun", "I", false)
def tyX1 : Nat → FieldType := fun k => match k with
  | 0 => .array .int
  | 1 => .int
  | 2 => .int
  | _ => .int
abbrev wsX10 : List Cond := u_ws RX1 TX1 4
theorem nmX1 : ∀ a, a < 4 → ∀ b, b < 4 → a ≠ b → (TX1 a).2.1 ≠ (TX1 b).2.1 := by decide +kernel
theorem tyX1_ok : ∀ k, k < 4 → parseFieldDescriptor (TX1 k).2.2.1 = some (tyX1 k) := by decide +kernel
abbrev cX1_init : ByteArray := prog_3_method_1_code
def yX1_init : MethodName := ⟨RX1, "<init>", "()V"⟩
abbrev cX1_clear : ByteArray := prog_3_method_2_code
def yX1_clear : MethodName := ⟨RX1, "clear", "()V"⟩
abbrev cX1_addOnceIf : ByteArray := prog_3_method_3_code
def yX1_addOnceIf : MethodName := ⟨RX1, "addOnceIf", "(ZI)V"⟩
def RX2 : String := "FlatLoader"
def TX2 : u_T := fun k => match k with
  | 0 => ("FlatLoader", "modules", "[LFlatLoader$OneModule;", true)
  | 1 => ("FlatLoader", "presentSet", "I", false)
  | 2 => ("FlatLoader", "loadedSet", "I", false)
  | 3 => ("FlatLoader", "row", "LFlatLoader$Row;", true)
  | 4 => ("FlatLoader", "chainModules", "[I", true)
  | _ => ("FlatLoader", "chainNames", "[I", true)
def tyX2 : Nat → FieldType := fun k => match k with
  | 0 => .array (.object "FlatLoader$OneModule")
  | 1 => .int
  | 2 => .int
  | 3 => .object "FlatLoader$Row"
  | 4 => .array .int
  | _ => .array .int
abbrev wsX20 : List Cond := u_ws RX2 TX2 6
theorem nmX2 : ∀ a, a < 6 → ∀ b, b < 6 → a ≠ b → (TX2 a).2.1 ≠ (TX2 b).2.1 := by decide +kernel
theorem tyX2_ok : ∀ k, k < 6 → parseFieldDescriptor (TX2 k).2.2.1 = some (tyX2 k) := by decide +kernel
abbrev cX2_init : ByteArray := prog_1_method_1_code
def yX2_init : MethodName := ⟨RX2, "<init>", "()V"⟩
abbrev cX2_present : ByteArray := prog_1_method_2_code
def yX2_present : MethodName := ⟨RX2, "present", "(I)V"⟩
abbrev cX2_file : ByteArray := prog_1_method_3_code
def yX2_file : MethodName := ⟨RX2, "file", "(III)V"⟩
abbrev cX2_depend : ByteArray := prog_1_method_4_code
def yX2_depend : MethodName := ⟨RX2, "depend", "(IIIIZ)I"⟩
abbrev cX2_relink : ByteArray := prog_1_method_5_code
def yX2_relink : MethodName := ⟨RX2, "relink", "(I)I"⟩
abbrev cX2_load : ByteArray := prog_1_method_6_code
def yX2_load : MethodName := ⟨RX2, "load", "(I)I"⟩
abbrev cX2_unload : ByteArray := prog_1_method_7_code
def yX2_unload : MethodName := ⟨RX2, "unload", "(I)I"⟩
abbrev cX2_find : ByteArray := prog_1_method_8_code
def yX2_find : MethodName := ⟨RX2, "find", "(II)I"⟩
abbrev cX2_visible : ByteArray := prog_1_method_9_code
def yX2_visible : MethodName := ⟨RX2, "visible", "(III)I"⟩
abbrev cX2_why : ByteArray := prog_1_method_10_code
def yX2_why : MethodName := ⟨RX2, "why", "(II)I"⟩
abbrev cX2_state : ByteArray := prog_1_method_11_code
def yX2_state : MethodName := ⟨RX2, "state", "(I)I"⟩
abbrev cX2_above : ByteArray := prog_1_method_12_code
def yX2_above : MethodName := ⟨RX2, "above", "(II)I"⟩
abbrev cX2_defined : ByteArray := prog_1_method_13_code
def yX2_defined : MethodName := ⟨RX2, "defined", "()I"⟩
abbrev cX2_bit : ByteArray := prog_1_method_14_code
def yX2_bit : MethodName := ⟨RX2, "bit", "(I)I"⟩
abbrev cX2_isIn : ByteArray := prog_1_method_15_code
def yX2_isIn : MethodName := ⟨RX2, "isIn", "(II)Z"⟩
abbrev cX2_isModule : ByteArray := prog_1_method_16_code
def yX2_isModule : MethodName := ⟨RX2, "isModule", "(I)Z"⟩
abbrev cX2_isName : ByteArray := prog_1_method_17_code
def yX2_isName : MethodName := ⟨RX2, "isName", "(I)Z"⟩
abbrev cX2_isExtended : ByteArray := prog_1_method_18_code
def yX2_isExtended : MethodName := ⟨RX2, "isExtended", "(I)Z"⟩
abbrev cX2_isPathSet : ByteArray := prog_1_method_19_code
def yX2_isPathSet : MethodName := ⟨RX2, "isPathSet", "(I)Z"⟩
abbrev cX2_canDependOn : ByteArray := prog_1_method_20_code
def yX2_canDependOn : MethodName := ⟨RX2, "canDependOn", "(II)Z"⟩
abbrev cX2_isPresent : ByteArray := prog_1_method_21_code
def yX2_isPresent : MethodName := ⟨RX2, "isPresent", "(I)Z"⟩
abbrev cX2_isLoaded : ByteArray := prog_1_method_22_code
def yX2_isLoaded : MethodName := ⟨RX2, "isLoaded", "(I)Z"⟩
abbrev cX2_loadableSet : ByteArray := prog_1_method_23_code
def yX2_loadableSet : MethodName := ⟨RX2, "loadableSet", "()I"⟩
abbrev cX2_withoutLacking : ByteArray := prog_1_method_24_code
def yX2_withoutLacking : MethodName := ⟨RX2, "withoutLacking", "(I)I"⟩
abbrev cX2_reachedSet : ByteArray := prog_1_method_25_code
def yX2_reachedSet : MethodName := ⟨RX2, "reachedSet", "(II)I"⟩
abbrev cX2_nextTo : ByteArray := prog_1_method_26_code
def yX2_nextTo : MethodName := ⟨RX2, "nextTo", "(I)I"⟩
abbrev cX2_isHeldByAnother : ByteArray := prog_1_method_27_code
def yX2_isHeldByAnother : MethodName := ⟨RX2, "isHeldByAnother", "(I)Z"⟩
abbrev cX2_holderSet : ByteArray := prog_1_method_28_code
def yX2_holderSet : MethodName := ⟨RX2, "holderSet", "(I)I"⟩
abbrev cX2_holderSeenFrom : ByteArray := prog_1_method_29_code
def yX2_holderSeenFrom : MethodName := ⟨RX2, "holderSeenFrom", "(II)I"⟩
abbrev cX2_fillVisibleRow : ByteArray := prog_1_method_30_code
def yX2_fillVisibleRow : MethodName := ⟨RX2, "fillVisibleRow", "(II)V"⟩
abbrev cX2_addExportedRow : ByteArray := prog_1_method_31_code
def yX2_addExportedRow : MethodName := ⟨RX2, "addExportedRow", "(III)V"⟩
abbrev cX2_defineWithAllAbove : ByteArray := prog_1_method_32_code
def yX2_defineWithAllAbove : MethodName := ⟨RX2, "defineWithAllAbove", "(II)Z"⟩
abbrev cX2_needsNoDefining : ByteArray := prog_1_method_33_code
def yX2_needsNoDefining : MethodName := ⟨RX2, "needsNoDefining", "(II)Z"⟩
abbrev cX2_defineChain : ByteArray := prog_1_method_34_code
def yX2_defineChain : MethodName := ⟨RX2, "defineChain", "(II)V"⟩
def RX3 : String := "FlatLoaderModel"
def TX3 : u_T := fun k => match k with
  | 0 => ("FlatLoaderModel", "thrown", "I", false)
  | 1 => ("FlatLoaderModel", "present", "[Z", true)
  | 2 => ("FlatLoaderModel", "loaded", "[Z", true)
  | 3 => ("FlatLoaderModel", "loadable", "[Z", true)
  | 4 => ("FlatLoaderModel", "files", "[I", true)
  | 5 => ("FlatLoaderModel", "extended", "[I", true)
  | 6 => ("FlatLoaderModel", "many", "[I", true)
  | 7 => ("FlatLoaderModel", "on", "[I", true)
  | 8 => ("FlatLoaderModel", "imports", "[I", true)
  | 9 => ("FlatLoaderModel", "exports", "[I", true)
  | 10 => ("FlatLoaderModel", "required", "[Z", true)
  | 11 => ("FlatLoaderModel", "classes", "I", false)
  | 12 => ("FlatLoaderModel", "size", "I", false)
  | 13 => ("FlatLoaderModel", "row", "[I", true)
  | 14 => ("FlatLoaderModel", "begun", "[Z", true)
  | 15 => ("FlatLoaderModel", "come", "[Z", true)
  | 16 => ("FlatLoaderModel", "through", "[I", true)
  | 17 => ("FlatLoaderModel", "place", "[I", true)
  | _ => ("FlatLoaderModel", "chain", "[I", true)
def tyX3 : Nat → FieldType := fun k => match k with
  | 0 => .int
  | 1 => .array .boolean
  | 2 => .array .boolean
  | 3 => .array .boolean
  | 4 => .array .int
  | 5 => .array .int
  | 6 => .array .int
  | 7 => .array .int
  | 8 => .array .int
  | 9 => .array .int
  | 10 => .array .boolean
  | 11 => .int
  | 12 => .int
  | 13 => .array .int
  | 14 => .array .boolean
  | 15 => .array .boolean
  | 16 => .array .int
  | 17 => .array .int
  | _ => .array .int
abbrev wsX30 : List Cond := u_ws RX3 TX3 19
theorem nmX3 : ∀ a, a < 19 → ∀ b, b < 19 → a ≠ b → (TX3 a).2.1 ≠ (TX3 b).2.1 := by decide +kernel
theorem tyX3_ok : ∀ k, k < 19 → parseFieldDescriptor (TX3 k).2.2.1 = some (tyX3 k) := by decide +kernel
abbrev cX3_init : ByteArray := prog_5_method_1_code
def yX3_init : MethodName := ⟨RX3, "<init>", "()V"⟩
abbrev cX3_thrown : ByteArray := prog_5_method_2_code
def yX3_thrown : MethodName := ⟨RX3, "thrown", "()I"⟩
abbrev cX3_throwsBy : ByteArray := prog_5_method_3_code
def yX3_throwsBy : MethodName := ⟨RX3, "throwsBy", "(I)Z"⟩
abbrev cX3_in : ByteArray := prog_5_method_4_code
def yX3_in : MethodName := ⟨RX3, "in", "(III)Z"⟩
abbrev cX3_isModule : ByteArray := prog_5_method_5_code
def yX3_isModule : MethodName := ⟨RX3, "isModule", "(I)Z"⟩
abbrev cX3_isPresent : ByteArray := prog_5_method_6_code
def yX3_isPresent : MethodName := ⟨RX3, "isPresent", "(I)Z"⟩
abbrev cX3_isLoaded : ByteArray := prog_5_method_7_code
def yX3_isLoaded : MethodName := ⟨RX3, "isLoaded", "(I)Z"⟩
abbrev cX3_present : ByteArray := prog_5_method_8_code
def yX3_present : MethodName := ⟨RX3, "present", "(I)V"⟩
abbrev cX3_file : ByteArray := prog_5_method_9_code
def yX3_file : MethodName := ⟨RX3, "file", "(III)V"⟩
abbrev cX3_depend : ByteArray := prog_5_method_10_code
def yX3_depend : MethodName := ⟨RX3, "depend", "(IIIIZ)I"⟩
abbrev cX3_relink : ByteArray := prog_5_method_11_code
def yX3_relink : MethodName := ⟨RX3, "relink", "(I)I"⟩
abbrev cX3_judge : ByteArray := prog_5_method_12_code
def yX3_judge : MethodName := ⟨RX3, "judge", "()V"⟩
abbrev cX3_load : ByteArray := prog_5_method_13_code
def yX3_load : MethodName := ⟨RX3, "load", "(I)I"⟩
abbrev cX3_isNeeded : ByteArray := prog_5_method_14_code
def yX3_isNeeded : MethodName := ⟨RX3, "isNeeded", "(I)Z"⟩
abbrev cX3_unload : ByteArray := prog_5_method_15_code
def yX3_unload : MethodName := ⟨RX3, "unload", "(I)I"⟩
abbrev cX3_hasPath : ByteArray := prog_5_method_16_code
def yX3_hasPath : MethodName := ⟨RX3, "hasPath", "(II)Z"⟩
abbrev cX3_append : ByteArray := prog_5_method_17_code
def yX3_append : MethodName := ⟨RX3, "append", "(I)V"⟩
abbrev cX3_see : ByteArray := prog_5_method_18_code
def yX3_see : MethodName := ⟨RX3, "see", "(II)V"⟩
abbrev cX3_holder : ByteArray := prog_5_method_19_code
def yX3_holder : MethodName := ⟨RX3, "holder", "(II)I"⟩
abbrev cX3_needs : ByteArray := prog_5_method_20_code
def yX3_needs : MethodName := ⟨RX3, "needs", "(II)I"⟩
abbrev cX3_define : ByteArray := prog_5_method_21_code
def yX3_define : MethodName := ⟨RX3, "define", "(I)V"⟩
abbrev cX3_find : ByteArray := prog_5_method_22_code
def yX3_find : MethodName := ⟨RX3, "find", "(II)I"⟩
abbrev cX3_visible : ByteArray := prog_5_method_23_code
def yX3_visible : MethodName := ⟨RX3, "visible", "(III)I"⟩
abbrev cX3_why : ByteArray := prog_5_method_24_code
def yX3_why : MethodName := ⟨RX3, "why", "(II)I"⟩
abbrev cX3_state : ByteArray := prog_5_method_25_code
def yX3_state : MethodName := ⟨RX3, "state", "(I)I"⟩
abbrev cX3_above : ByteArray := prog_5_method_26_code
def yX3_above : MethodName := ⟨RX3, "above", "(II)I"⟩
abbrev cX3_defined : ByteArray := prog_5_method_27_code
def yX3_defined : MethodName := ⟨RX3, "defined", "()I"⟩
def RJ6 : String := "java/lang/Integer"
def TJ6 : u_T := fun k => match k with
  | _ => ("", "", "", false)
def tyJ6 : Nat → FieldType := fun k => match k with
  | _ => .int
abbrev wsJ60 : List Cond := u_ws RJ6 TJ6 0
theorem nmJ6 : ∀ a, a < 0 → ∀ b, b < 0 → a ≠ b → (TJ6 a).2.1 ≠ (TJ6 b).2.1 := by decide +kernel
theorem tyJ6_ok : ∀ k, k < 0 → parseFieldDescriptor (TJ6 k).2.2.1 = some (tyJ6 k) := by decide +kernel
abbrev cJ6_bitCount_0f7a4 : ByteArray := prog_9_method_49_code
def yJ6_bitCount_0f7a4 : MethodName := ⟨RJ6, "bitCount", "(I)I"⟩
def RJ0 : String := "java/lang/String"
def TJ0 : u_T := fun k => match k with
  | _ => ("", "", "", false)
def tyJ0 : Nat → FieldType := fun k => match k with
  | _ => .int
abbrev wsJ00 : List Cond := u_ws RJ0 TJ0 0
theorem nmJ0 : ∀ a, a < 0 → ∀ b, b < 0 → a ≠ b → (TJ0 a).2.1 ≠ (TJ0 b).2.1 := by decide +kernel
theorem tyJ0_ok : ∀ k, k < 0 → parseFieldDescriptor (TJ0 k).2.2.1 = some (tyJ0 k) := by decide +kernel
def RL : String := "FlatLoaderLaw"
abbrev cL_present : ByteArray := method_3_code
def yL_present : MethodName := ⟨RL, "present", "(LFlatLoader;I)I"⟩
abbrev cL_file : ByteArray := method_4_code
def yL_file : MethodName := ⟨RL, "file", "(LFlatLoader;III)I"⟩
abbrev cL_depend : ByteArray := method_5_code
def yL_depend : MethodName := ⟨RL, "depend", "(LFlatLoader;IIIIZ[J)I"⟩
abbrev cL_relink : ByteArray := method_6_code
def yL_relink : MethodName := ⟨RL, "relink", "(LFlatLoader;I[J)I"⟩
abbrev cL_load : ByteArray := method_7_code
def yL_load : MethodName := ⟨RL, "load", "(LFlatLoader;I[J)I"⟩
abbrev cL_unload : ByteArray := method_8_code
def yL_unload : MethodName := ⟨RL, "unload", "(LFlatLoader;I[J)I"⟩
abbrev cL_find : ByteArray := method_9_code
def yL_find : MethodName := ⟨RL, "find", "(LFlatLoader;II[J)I"⟩
abbrev cL_law : ByteArray := code
def yL_law : MethodName := ⟨RL, "law", "([I)Z"⟩
def wsX0_init : List Cond := .code yX0_init cX0_init 2 none :: ([.methodLink RX0 3 objectInit, .instanceMethod objectInit, .code objectInit ⟨#[0xb1]⟩ 1 none, .arrayClass .int, .fieldLink RX0 9 "FlatLoader$OneModule" "extended" "[I", .fieldLink RX0 15 "FlatLoader$OneModule" "definedAbove" "[I", .fieldLink RX0 18 "FlatLoader$OneModule" "on" "[I", .fieldLink RX0 21 "FlatLoader$OneModule" "imports" "[I", .fieldLink RX0 24 "FlatLoader$OneModule" "exports" "[I", .fieldLink RX0 27 "FlatLoader$OneModule" "dependencies" "I", .fieldLink RX0 31 "FlatLoader$OneModule" "dependedSet" "I", .fieldLink RX0 34 "FlatLoader$OneModule" "requiredSet" "I"] ++ wsX00)
def wsX0_holds : List Cond := .code yX0_holds cX0_holds 2 (some .boolean) :: ([.fieldLink RX0 9 "FlatLoader$OneModule" "extended" "[I"] ++ wsX00)
def wsX0_hasPath : List Cond := .code yX0_hasPath cX0_hasPath 3 (some .boolean) :: ([.methodLink RX0 37 yX0_holds, .instanceMethod yX0_holds, .selects RX0 yX0_holds yX0_holds, .initialized RX0, .code yX0_holds cX0_holds 2 (some .boolean), .fieldLink RX0 9 "FlatLoader$OneModule" "extended" "[I"] ++ wsX00)
def wsX2_bit : List Cond := .code yX2_bit cX2_bit 1 (some .int) :: ([])
def wsX0_addDependency : List Cond := .code yX0_addDependency cX0_addDependency 5 none :: ([.fieldLink RX0 18 "FlatLoader$OneModule" "on" "[I", .fieldLink RX0 27 "FlatLoader$OneModule" "dependencies" "I", .fieldLink RX0 21 "FlatLoader$OneModule" "imports" "[I", .fieldLink RX0 24 "FlatLoader$OneModule" "exports" "[I", .fieldLink RX0 31 "FlatLoader$OneModule" "dependedSet" "I", .fieldLink RX0 34 "FlatLoader$OneModule" "requiredSet" "I", .static yX2_bit, .initialized RX2, .code yX2_bit cX2_bit 1 (some .int)] ++ wsX00)
def wsX0_dropDependencies : List Cond := .code yX0_dropDependencies cX0_dropDependencies 1 none :: ([.fieldLink RX0 27 "FlatLoader$OneModule" "dependencies" "I", .fieldLink RX0 31 "FlatLoader$OneModule" "dependedSet" "I", .fieldLink RX0 34 "FlatLoader$OneModule" "requiredSet" "I"] ++ wsX00)
def wsX0_hasDefined : List Cond := .code yX0_hasDefined cX0_hasDefined 2 (some .boolean) :: ([.fieldLink RX0 15 "FlatLoader$OneModule" "definedAbove" "[I"] ++ wsX00)
def wsX0_countClasses : List Cond := .code yX0_countClasses cX0_countClasses 3 (some .int) :: ([.methodLink RX0 45 yX0_hasDefined, .instanceMethod yX0_hasDefined, .selects RX0 yX0_hasDefined yX0_hasDefined, .initialized RX0, .code yX0_hasDefined cX0_hasDefined 2 (some .boolean), .fieldLink RX0 15 "FlatLoader$OneModule" "definedAbove" "[I"] ++ wsX00)
def wsX0_dropClasses : List Cond := .code yX0_dropClasses cX0_dropClasses 2 none :: ([.fieldLink RX0 15 "FlatLoader$OneModule" "definedAbove" "[I"] ++ wsX00)
def wsX0_hasClassBelow : List Cond := .code yX0_hasClassBelow cX0_hasClassBelow 3 (some .boolean) :: ([.fieldLink RX0 15 "FlatLoader$OneModule" "definedAbove" "[I"] ++ wsX00)
def wsX1_clear : List Cond := .code yX1_clear cX1_clear 1 none :: ([.fieldLink RX1 18 "FlatLoader$Row" "size" "I", .fieldLink RX1 22 "FlatLoader$Row" "memberSet" "I", .fieldLink RX1 25 "FlatLoader$Row" "begun" "I"] ++ wsX10)
def wsX1_init : List Cond := .code yX1_init cX1_init 1 none :: ([.methodLink RX1 3 objectInit, .instanceMethod objectInit, .code objectInit ⟨#[0xb1]⟩ 1 none, .arrayClass .int, .fieldLink RX1 9 "FlatLoader$Row" "members" "[I", .methodLink RX1 15 yX1_clear, .instanceMethod yX1_clear, .selects RX1 yX1_clear yX1_clear, .initialized RX1, .code yX1_clear cX1_clear 1 none, .fieldLink RX1 18 "FlatLoader$Row" "size" "I", .fieldLink RX1 22 "FlatLoader$Row" "memberSet" "I", .fieldLink RX1 25 "FlatLoader$Row" "begun" "I"] ++ wsX10)
def wsX2_isIn : List Cond := .code yX2_isIn cX2_isIn 2 (some .boolean) :: ([])
def wsX1_addOnceIf : List Cond := .code yX1_addOnceIf cX1_addOnceIf 3 none :: ([.fieldLink RX1 18 "FlatLoader$Row" "size" "I", .fieldLink RX1 22 "FlatLoader$Row" "memberSet" "I", .fieldLink RX1 9 "FlatLoader$Row" "members" "[I", .static yX2_isIn, .initialized RX2, .code yX2_isIn cX2_isIn 2 (some .boolean), .static yX2_bit, .code yX2_bit cX2_bit 1 (some .int)] ++ wsX10)
def wsX2_init_r1 : List Cond := [Cond.methodLink RX2 3 objectInit, Cond.instanceMethod objectInit, Cond.code objectInit ⟨#[0xb1]⟩ 1 none, Cond.classLink RX2 9 RX0, Cond.fieldLink RX2 11 "FlatLoader" "modules" "[LFlatLoader$OneModule;", Cond.instantiable RX0 8, Cond.initialized RX0, Cond.fieldLink RX2 16 "FlatLoader" "presentSet" "I", Cond.fieldLink RX2 20 "FlatLoader" "loadedSet" "I", Cond.classLink RX2 23 RX1, Cond.instantiable RX1 4, Cond.initialized RX1, Cond.fieldLink RX2 26 "FlatLoader" "row" "LFlatLoader$Row;", Cond.arrayClass .int, Cond.fieldLink RX2 30 "FlatLoader" "chainModules" "[I", Cond.fieldLink RX2 34 "FlatLoader" "chainNames" "[I", Cond.instanceMethod yX0_init, Cond.code yX0_init cX0_init 2 none, Cond.methodLink RX0 3 objectInit, Cond.fieldLink RX0 9 "FlatLoader$OneModule" "extended" "[I", Cond.fieldLink RX0 15 "FlatLoader$OneModule" "definedAbove" "[I", Cond.fieldLink RX0 18 "FlatLoader$OneModule" "on" "[I", Cond.fieldLink RX0 21 "FlatLoader$OneModule" "imports" "[I", Cond.fieldLink RX0 24 "FlatLoader$OneModule" "exports" "[I"]
def wsX2_init_r2 : List Cond := [Cond.fieldLink RX0 27 "FlatLoader$OneModule" "dependencies" "I", Cond.fieldLink RX0 31 "FlatLoader$OneModule" "dependedSet" "I", Cond.fieldLink RX0 34 "FlatLoader$OneModule" "requiredSet" "I", Cond.instanceMethod yX1_init, Cond.code yX1_init cX1_init 1 none, Cond.methodLink RX1 3 objectInit, Cond.fieldLink RX1 9 "FlatLoader$Row" "members" "[I", Cond.methodLink RX1 15 yX1_clear, Cond.instanceMethod yX1_clear, Cond.selects RX1 yX1_clear yX1_clear, Cond.code yX1_clear cX1_clear 1 none, Cond.fieldLink RX1 18 "FlatLoader$Row" "size" "I", Cond.fieldLink RX1 22 "FlatLoader$Row" "memberSet" "I", Cond.fieldLink RX1 25 "FlatLoader$Row" "begun" "I"]
def wsX2_init : List Cond := .code yX2_init cX2_init 2 none :: ((wsX2_init_r1 ++ wsX2_init_r2) ++ wsX20 ++ wsX00 ++ wsX10)
def wsX2_isModule : List Cond := .code yX2_isModule cX2_isModule 1 (some .boolean) :: ([])
def wsX2_isPresent : List Cond := .code yX2_isPresent cX2_isPresent 2 (some .boolean) :: ([.fieldLink RX2 16 "FlatLoader" "presentSet" "I", .methodLink RX2 37 yX2_isModule, .static yX2_isModule, .initialized RX2, .code yX2_isModule cX2_isModule 1 (some .boolean), .methodLink RX2 108 yX2_isIn, .static yX2_isIn, .code yX2_isIn cX2_isIn 2 (some .boolean)] ++ wsX20)
def wsX2_present : List Cond := .code yX2_present cX2_present 2 none :: ([.classLink RX2 41 "java/lang/IllegalArgumentException", .initialized "java/lang/IllegalArgumentException", .classLink RX2 51 "java/lang/IllegalStateException", .initialized "java/lang/IllegalStateException", .fieldLink RX2 16 "FlatLoader" "presentSet" "I", .methodLink RX2 37 yX2_isModule, .static yX2_isModule, .initialized RX2, .code yX2_isModule cX2_isModule 1 (some .boolean), .methodLink RX2 48 yX2_isPresent, .instanceMethod yX2_isPresent, .selects RX2 yX2_isPresent yX2_isPresent, .code yX2_isPresent cX2_isPresent 2 (some .boolean), .methodLink RX2 108 yX2_isIn, .static yX2_isIn, .code yX2_isIn cX2_isIn 2 (some .boolean), .methodLink RX2 56 yX2_bit, .static yX2_bit, .code yX2_bit cX2_bit 1 (some .int)] ++ wsX20 ++ (vx_atS RX2 45 "java/lang/IllegalArgumentException" ["java/lang/RuntimeException", "java/lang/Exception"]).filter goodWord ++ (vx_atS RX2 55 "java/lang/IllegalStateException" ["java/lang/RuntimeException", "java/lang/Exception"]).filter goodWord)
def wsX2_isName : List Cond := .code yX2_isName cX2_isName 1 (some .boolean) :: ([])
def wsX2_isExtended : List Cond := .code yX2_isExtended cX2_isExtended 1 (some .boolean) :: ([.methodLink RX2 60 yX2_isName, .static yX2_isName, .initialized RX2, .code yX2_isName cX2_isName 1 (some .boolean)])
def wsX2_isLoaded : List Cond := .code yX2_isLoaded cX2_isLoaded 2 (some .boolean) :: ([.fieldLink RX2 20 "FlatLoader" "loadedSet" "I", .methodLink RX2 37 yX2_isModule, .static yX2_isModule, .initialized RX2, .code yX2_isModule cX2_isModule 1 (some .boolean), .methodLink RX2 108 yX2_isIn, .static yX2_isIn, .code yX2_isIn cX2_isIn 2 (some .boolean)] ++ wsX20)
def wsX2_file_r1 : List Cond := [Cond.classLink RX2 41 "java/lang/IllegalArgumentException", Cond.initialized "java/lang/IllegalArgumentException", Cond.classLink RX2 51 "java/lang/IllegalStateException", Cond.initialized "java/lang/IllegalStateException", Cond.fieldLink RX2 11 "FlatLoader" "modules" "[LFlatLoader$OneModule;", Cond.methodLink RX2 48 yX2_isPresent, Cond.instanceMethod yX2_isPresent, Cond.selects RX2 yX2_isPresent yX2_isPresent, Cond.initialized RX2, Cond.code yX2_isPresent cX2_isPresent 2 (some .boolean), Cond.fieldLink RX2 16 "FlatLoader" "presentSet" "I", Cond.methodLink RX2 37 yX2_isModule, Cond.static yX2_isModule, Cond.code yX2_isModule cX2_isModule 1 (some .boolean), Cond.methodLink RX2 108 yX2_isIn, Cond.static yX2_isIn, Cond.code yX2_isIn cX2_isIn 2 (some .boolean), Cond.methodLink RX2 60 yX2_isName, Cond.static yX2_isName, Cond.code yX2_isName cX2_isName 1 (some .boolean), Cond.methodLink RX2 63 yX2_isExtended, Cond.static yX2_isExtended, Cond.code yX2_isExtended cX2_isExtended 1 (some .boolean), Cond.methodLink RX2 68 yX2_isLoaded]
def wsX2_file_r2 : List Cond := [Cond.instanceMethod yX2_isLoaded, Cond.selects RX2 yX2_isLoaded yX2_isLoaded, Cond.code yX2_isLoaded cX2_isLoaded 2 (some .boolean), Cond.fieldLink RX2 20 "FlatLoader" "loadedSet" "I", Cond.instanceMethod yX0_holds, Cond.initialized RX0, Cond.selects RX0 yX0_holds yX0_holds, Cond.code yX0_holds cX0_holds 2 (some .boolean), Cond.fieldLink RX0 9 "FlatLoader$OneModule" "extended" "[I"]
def wsX2_file : List Cond := .code yX2_file cX2_file 4 none :: ((wsX2_file_r1 ++ wsX2_file_r2) ++ wsX20 ++ wsX00 ++ (vx_atS RX2 45 "java/lang/IllegalArgumentException" ["java/lang/RuntimeException", "java/lang/Exception"]).filter goodWord ++ (vx_atS RX2 55 "java/lang/IllegalStateException" ["java/lang/RuntimeException", "java/lang/Exception"]).filter goodWord)
def wsX2_canDependOn : List Cond := .code yX2_canDependOn cX2_canDependOn 2 (some .boolean) :: ([.methodLink RX2 37 yX2_isModule, .static yX2_isModule, .initialized RX2, .code yX2_isModule cX2_isModule 1 (some .boolean)])
def wsX2_isPathSet : List Cond := .code yX2_isPathSet cX2_isPathSet 1 (some .boolean) :: ([])
def wsX2_depend_r1 : List Cond := [Cond.classLink RX2 41 "java/lang/IllegalArgumentException", Cond.initialized "java/lang/IllegalArgumentException", Cond.classLink RX2 51 "java/lang/IllegalStateException", Cond.initialized "java/lang/IllegalStateException", Cond.fieldLink RX2 11 "FlatLoader" "modules" "[LFlatLoader$OneModule;", Cond.methodLink RX2 48 yX2_isPresent, Cond.instanceMethod yX2_isPresent, Cond.selects RX2 yX2_isPresent yX2_isPresent, Cond.initialized RX2, Cond.code yX2_isPresent cX2_isPresent 2 (some .boolean), Cond.fieldLink RX2 16 "FlatLoader" "presentSet" "I", Cond.methodLink RX2 37 yX2_isModule, Cond.static yX2_isModule, Cond.code yX2_isModule cX2_isModule 1 (some .boolean), Cond.methodLink RX2 108 yX2_isIn, Cond.static yX2_isIn, Cond.code yX2_isIn cX2_isIn 2 (some .boolean), Cond.methodLink RX2 79 yX2_canDependOn, Cond.static yX2_canDependOn, Cond.code yX2_canDependOn cX2_canDependOn 2 (some .boolean), Cond.methodLink RX2 83 yX2_isPathSet, Cond.static yX2_isPathSet, Cond.code yX2_isPathSet cX2_isPathSet 1 (some .boolean), Cond.methodLink RX2 68 yX2_isLoaded]
def wsX2_depend_r2 : List Cond := [Cond.instanceMethod yX2_isLoaded, Cond.selects RX2 yX2_isLoaded yX2_isLoaded, Cond.code yX2_isLoaded cX2_isLoaded 2 (some .boolean), Cond.fieldLink RX2 20 "FlatLoader" "loadedSet" "I", Cond.instanceMethod yX0_addDependency, Cond.initialized RX0, Cond.selects RX0 yX0_addDependency yX0_addDependency, Cond.code yX0_addDependency cX0_addDependency 5 none, Cond.fieldLink RX0 18 "FlatLoader$OneModule" "on" "[I", Cond.fieldLink RX0 27 "FlatLoader$OneModule" "dependencies" "I", Cond.fieldLink RX0 21 "FlatLoader$OneModule" "imports" "[I", Cond.fieldLink RX0 24 "FlatLoader$OneModule" "exports" "[I", Cond.fieldLink RX0 31 "FlatLoader$OneModule" "dependedSet" "I", Cond.fieldLink RX0 34 "FlatLoader$OneModule" "requiredSet" "I", Cond.static yX2_bit, Cond.code yX2_bit cX2_bit 1 (some .int)]
def wsX2_depend : List Cond := .code yX2_depend cX2_depend 6 (some .int) :: ((wsX2_depend_r1 ++ wsX2_depend_r2) ++ wsX20 ++ wsX00 ++ (vx_atS RX2 45 "java/lang/IllegalArgumentException" ["java/lang/RuntimeException", "java/lang/Exception"]).filter goodWord ++ (vx_atS RX2 55 "java/lang/IllegalStateException" ["java/lang/RuntimeException", "java/lang/Exception"]).filter goodWord)
def wsX2_relink : List Cond := .code yX2_relink cX2_relink 3 (some .int) :: ([.classLink RX2 41 "java/lang/IllegalArgumentException", .initialized "java/lang/IllegalArgumentException", .fieldLink RX2 11 "FlatLoader" "modules" "[LFlatLoader$OneModule;", .methodLink RX2 48 yX2_isPresent, .instanceMethod yX2_isPresent, .selects RX2 yX2_isPresent yX2_isPresent, .initialized RX2, .code yX2_isPresent cX2_isPresent 2 (some .boolean), .fieldLink RX2 16 "FlatLoader" "presentSet" "I", .methodLink RX2 37 yX2_isModule, .static yX2_isModule, .code yX2_isModule cX2_isModule 1 (some .boolean), .methodLink RX2 108 yX2_isIn, .static yX2_isIn, .code yX2_isIn cX2_isIn 2 (some .boolean), .instanceMethod yX0_dropDependencies, .initialized RX0, .selects RX0 yX0_dropDependencies yX0_dropDependencies, .code yX0_dropDependencies cX0_dropDependencies 1 none, .fieldLink RX0 27 "FlatLoader$OneModule" "dependencies" "I", .fieldLink RX0 31 "FlatLoader$OneModule" "dependedSet" "I", .fieldLink RX0 34 "FlatLoader$OneModule" "requiredSet" "I"] ++ wsX20 ++ wsX00 ++ (vx_atS RX2 45 "java/lang/IllegalArgumentException" ["java/lang/RuntimeException", "java/lang/Exception"]).filter goodWord)
def wsX2_withoutLacking : List Cond := .code yX2_withoutLacking cX2_withoutLacking 4 (some .int) :: ([.fieldLink RX2 11 "FlatLoader" "modules" "[LFlatLoader$OneModule;", .methodLink RX2 56 yX2_bit, .static yX2_bit, .initialized RX2, .code yX2_bit cX2_bit 1 (some .int)] ++ wsX20 ++ wsX00)
def wsX2_loadableSet : List Cond := .code yX2_loadableSet cX2_loadableSet 3 (some .int) :: ([.fieldLink RX2 16 "FlatLoader" "presentSet" "I", .methodLink RX2 166 yX2_withoutLacking, .instanceMethod yX2_withoutLacking, .selects RX2 yX2_withoutLacking yX2_withoutLacking, .initialized RX2, .code yX2_withoutLacking cX2_withoutLacking 4 (some .int), .fieldLink RX2 11 "FlatLoader" "modules" "[LFlatLoader$OneModule;", .methodLink RX2 56 yX2_bit, .static yX2_bit, .code yX2_bit cX2_bit 1 (some .int)] ++ wsX20 ++ wsX00)
def wsX2_nextTo : List Cond := .code yX2_nextTo cX2_nextTo 4 (some .int) :: ([.fieldLink RX2 11 "FlatLoader" "modules" "[LFlatLoader$OneModule;", .methodLink RX2 108 yX2_isIn, .static yX2_isIn, .initialized RX2, .code yX2_isIn cX2_isIn 2 (some .boolean)] ++ wsX20 ++ wsX00)
def wsX2_reachedSet : List Cond := .code yX2_reachedSet cX2_reachedSet 5 (some .int) :: ([.methodLink RX2 56 yX2_bit, .static yX2_bit, .initialized RX2, .code yX2_bit cX2_bit 1 (some .int), .methodLink RX2 172 yX2_nextTo, .instanceMethod yX2_nextTo, .selects RX2 yX2_nextTo yX2_nextTo, .code yX2_nextTo cX2_nextTo 4 (some .int), .fieldLink RX2 11 "FlatLoader" "modules" "[LFlatLoader$OneModule;", .methodLink RX2 108 yX2_isIn, .static yX2_isIn, .code yX2_isIn cX2_isIn 2 (some .boolean)] ++ wsX20 ++ wsX00)
def wsJ6_bitCount_0f7a4 : List Cond := .code yJ6_bitCount_0f7a4 cJ6_bitCount_0f7a4 1 (some .int) :: ([.constant RJ6 265 (1431655765), .constant RJ6 266 (858993459), .constant RJ6 267 (252645135)])
def wsX2_load_r1 : List Cond := [Cond.classLink RX2 41 "java/lang/IllegalArgumentException", Cond.initialized "java/lang/IllegalArgumentException", Cond.classLink RX2 111 "java/util/NoSuchElementException", Cond.initialized "java/util/NoSuchElementException", Cond.fieldLink RX2 20 "FlatLoader" "loadedSet" "I", Cond.methodLink RX2 37 yX2_isModule, Cond.static yX2_isModule, Cond.initialized RX2, Cond.code yX2_isModule cX2_isModule 1 (some .boolean), Cond.methodLink RX2 104 yX2_loadableSet, Cond.instanceMethod yX2_loadableSet, Cond.selects RX2 yX2_loadableSet yX2_loadableSet, Cond.code yX2_loadableSet cX2_loadableSet 3 (some .int), Cond.fieldLink RX2 16 "FlatLoader" "presentSet" "I", Cond.methodLink RX2 166 yX2_withoutLacking, Cond.instanceMethod yX2_withoutLacking, Cond.selects RX2 yX2_withoutLacking yX2_withoutLacking, Cond.code yX2_withoutLacking cX2_withoutLacking 4 (some .int), Cond.fieldLink RX2 11 "FlatLoader" "modules" "[LFlatLoader$OneModule;", Cond.methodLink RX2 56 yX2_bit, Cond.static yX2_bit, Cond.code yX2_bit cX2_bit 1 (some .int), Cond.methodLink RX2 108 yX2_isIn, Cond.static yX2_isIn]
def wsX2_load_r2 : List Cond := [Cond.code yX2_isIn cX2_isIn 2 (some .boolean), Cond.methodLink RX2 116 yX2_reachedSet, Cond.instanceMethod yX2_reachedSet, Cond.selects RX2 yX2_reachedSet yX2_reachedSet, Cond.code yX2_reachedSet cX2_reachedSet 5 (some .int), Cond.methodLink RX2 172 yX2_nextTo, Cond.instanceMethod yX2_nextTo, Cond.selects RX2 yX2_nextTo yX2_nextTo, Cond.code yX2_nextTo cX2_nextTo 4 (some .int), Cond.methodLink RX2 120 yJ6_bitCount_0f7a4, Cond.static yJ6_bitCount_0f7a4, Cond.initialized RJ6, Cond.code yJ6_bitCount_0f7a4 cJ6_bitCount_0f7a4 1 (some .int), Cond.constant RJ6 265 (1431655765), Cond.constant RJ6 266 (858993459), Cond.constant RJ6 267 (252645135)]
def wsX2_load : List Cond := .code yX2_load cX2_load 4 (some .int) :: ((wsX2_load_r1 ++ wsX2_load_r2) ++ wsX20 ++ wsX00 ++ (vx_atS RX2 45 "java/lang/IllegalArgumentException" ["java/lang/RuntimeException", "java/lang/Exception"]).filter goodWord ++ (vx_atS RX2 115 "java/util/NoSuchElementException" ["java/lang/RuntimeException", "java/lang/Exception"]).filter goodWord)
def wsX2_isHeldByAnother : List Cond := .code yX2_isHeldByAnother cX2_isHeldByAnother 3 (some .boolean) :: ([.fieldLink RX2 11 "FlatLoader" "modules" "[LFlatLoader$OneModule;", .methodLink RX2 68 yX2_isLoaded, .instanceMethod yX2_isLoaded, .selects RX2 yX2_isLoaded yX2_isLoaded, .initialized RX2, .code yX2_isLoaded cX2_isLoaded 2 (some .boolean), .fieldLink RX2 20 "FlatLoader" "loadedSet" "I", .methodLink RX2 37 yX2_isModule, .static yX2_isModule, .code yX2_isModule cX2_isModule 1 (some .boolean), .methodLink RX2 108 yX2_isIn, .static yX2_isIn, .code yX2_isIn cX2_isIn 2 (some .boolean), .instanceMethod yX0_hasClassBelow, .initialized RX0, .selects RX0 yX0_hasClassBelow yX0_hasClassBelow, .code yX0_hasClassBelow cX0_hasClassBelow 3 (some .boolean), .fieldLink RX0 15 "FlatLoader$OneModule" "definedAbove" "[I"] ++ wsX20 ++ wsX00)
def wsX2_unload_r1 : List Cond := [Cond.classLink RX2 41 "java/lang/IllegalArgumentException", Cond.initialized "java/lang/IllegalArgumentException", Cond.classLink RX2 51 "java/lang/IllegalStateException", Cond.initialized "java/lang/IllegalStateException", Cond.fieldLink RX2 11 "FlatLoader" "modules" "[LFlatLoader$OneModule;", Cond.fieldLink RX2 20 "FlatLoader" "loadedSet" "I", Cond.methodLink RX2 68 yX2_isLoaded, Cond.instanceMethod yX2_isLoaded, Cond.selects RX2 yX2_isLoaded yX2_isLoaded, Cond.initialized RX2, Cond.code yX2_isLoaded cX2_isLoaded 2 (some .boolean), Cond.methodLink RX2 37 yX2_isModule, Cond.static yX2_isModule, Cond.code yX2_isModule cX2_isModule 1 (some .boolean), Cond.methodLink RX2 108 yX2_isIn, Cond.static yX2_isIn, Cond.code yX2_isIn cX2_isIn 2 (some .boolean), Cond.methodLink RX2 127 yX2_isHeldByAnother, Cond.instanceMethod yX2_isHeldByAnother, Cond.selects RX2 yX2_isHeldByAnother yX2_isHeldByAnother, Cond.code yX2_isHeldByAnother cX2_isHeldByAnother 3 (some .boolean), Cond.instanceMethod yX0_hasClassBelow, Cond.initialized RX0, Cond.selects RX0 yX0_hasClassBelow yX0_hasClassBelow]
def wsX2_unload_r2 : List Cond := [Cond.code yX0_hasClassBelow cX0_hasClassBelow 3 (some .boolean), Cond.fieldLink RX0 15 "FlatLoader$OneModule" "definedAbove" "[I", Cond.instanceMethod yX0_countClasses, Cond.selects RX0 yX0_countClasses yX0_countClasses, Cond.code yX0_countClasses cX0_countClasses 3 (some .int), Cond.methodLink RX0 45 yX0_hasDefined, Cond.instanceMethod yX0_hasDefined, Cond.selects RX0 yX0_hasDefined yX0_hasDefined, Cond.code yX0_hasDefined cX0_hasDefined 2 (some .boolean), Cond.instanceMethod yX0_dropClasses, Cond.selects RX0 yX0_dropClasses yX0_dropClasses, Cond.code yX0_dropClasses cX0_dropClasses 2 none, Cond.methodLink RX2 56 yX2_bit, Cond.static yX2_bit, Cond.code yX2_bit cX2_bit 1 (some .int)]
def wsX2_unload : List Cond := .code yX2_unload cX2_unload 3 (some .int) :: ((wsX2_unload_r1 ++ wsX2_unload_r2) ++ wsX20 ++ wsX00 ++ (vx_atS RX2 45 "java/lang/IllegalArgumentException" ["java/lang/RuntimeException", "java/lang/Exception"]).filter goodWord ++ (vx_atS RX2 55 "java/lang/IllegalStateException" ["java/lang/RuntimeException", "java/lang/Exception"]).filter goodWord)
def wsX2_addExportedRow_r1 : List Cond := [Cond.fieldLink RX2 26 "FlatLoader" "row" "LFlatLoader$Row;", Cond.fieldLink RX2 11 "FlatLoader" "modules" "[LFlatLoader$OneModule;", Cond.methodLink RX2 68 yX2_isLoaded, Cond.instanceMethod yX2_isLoaded, Cond.selects RX2 yX2_isLoaded yX2_isLoaded, Cond.initialized RX2, Cond.code yX2_isLoaded cX2_isLoaded 2 (some .boolean), Cond.fieldLink RX2 20 "FlatLoader" "loadedSet" "I", Cond.methodLink RX2 37 yX2_isModule, Cond.static yX2_isModule, Cond.code yX2_isModule cX2_isModule 1 (some .boolean), Cond.methodLink RX2 108 yX2_isIn, Cond.static yX2_isIn, Cond.code yX2_isIn cX2_isIn 2 (some .boolean), Cond.methodLink RX2 56 yX2_bit, Cond.static yX2_bit, Cond.code yX2_bit cX2_bit 1 (some .int), Cond.instanceMethod yX0_hasPath, Cond.initialized RX0, Cond.selects RX0 yX0_hasPath yX0_hasPath, Cond.code yX0_hasPath cX0_hasPath 3 (some .boolean), Cond.methodLink RX0 37 yX0_holds, Cond.instanceMethod yX0_holds, Cond.selects RX0 yX0_holds yX0_holds]
def wsX2_addExportedRow_r2 : List Cond := [Cond.code yX0_holds cX0_holds 2 (some .boolean), Cond.fieldLink RX0 9 "FlatLoader$OneModule" "extended" "[I", Cond.instanceMethod yX1_addOnceIf, Cond.initialized RX1, Cond.selects RX1 yX1_addOnceIf yX1_addOnceIf, Cond.code yX1_addOnceIf cX1_addOnceIf 3 none, Cond.fieldLink RX1 18 "FlatLoader$Row" "size" "I", Cond.fieldLink RX1 22 "FlatLoader$Row" "memberSet" "I", Cond.fieldLink RX1 9 "FlatLoader$Row" "members" "[I", Cond.methodLink RX2 197 yX2_addExportedRow, Cond.instanceMethod yX2_addExportedRow, Cond.selects RX2 yX2_addExportedRow yX2_addExportedRow]
def wsX2_addExportedRow : List Cond := .code yX2_addExportedRow cX2_addExportedRow 6 none :: ((wsX2_addExportedRow_r1 ++ wsX2_addExportedRow_r2) ++ wsX20 ++ wsX10 ++ wsX00)
def wsX2_fillVisibleRow_r1 : List Cond := [Cond.fieldLink RX2 26 "FlatLoader" "row" "LFlatLoader$Row;", Cond.fieldLink RX2 11 "FlatLoader" "modules" "[LFlatLoader$OneModule;", Cond.instanceMethod yX1_clear, Cond.initialized RX1, Cond.selects RX1 yX1_clear yX1_clear, Cond.code yX1_clear cX1_clear 1 none, Cond.fieldLink RX1 18 "FlatLoader$Row" "size" "I", Cond.fieldLink RX1 22 "FlatLoader$Row" "memberSet" "I", Cond.fieldLink RX1 25 "FlatLoader$Row" "begun" "I", Cond.instanceMethod yX0_hasPath, Cond.initialized RX0, Cond.selects RX0 yX0_hasPath yX0_hasPath, Cond.code yX0_hasPath cX0_hasPath 3 (some .boolean), Cond.methodLink RX0 37 yX0_holds, Cond.instanceMethod yX0_holds, Cond.selects RX0 yX0_holds yX0_holds, Cond.code yX0_holds cX0_holds 2 (some .boolean), Cond.fieldLink RX0 9 "FlatLoader$OneModule" "extended" "[I", Cond.instanceMethod yX1_addOnceIf, Cond.selects RX1 yX1_addOnceIf yX1_addOnceIf, Cond.code yX1_addOnceIf cX1_addOnceIf 3 none, Cond.fieldLink RX1 9 "FlatLoader$Row" "members" "[I", Cond.static yX2_isIn, Cond.initialized RX2]
def wsX2_fillVisibleRow_r2 : List Cond := [Cond.code yX2_isIn cX2_isIn 2 (some .boolean), Cond.static yX2_bit, Cond.code yX2_bit cX2_bit 1 (some .int), Cond.methodLink RX2 108 yX2_isIn, Cond.methodLink RX2 197 yX2_addExportedRow, Cond.instanceMethod yX2_addExportedRow, Cond.selects RX2 yX2_addExportedRow yX2_addExportedRow, Cond.code yX2_addExportedRow cX2_addExportedRow 6 none, Cond.methodLink RX2 68 yX2_isLoaded, Cond.instanceMethod yX2_isLoaded, Cond.selects RX2 yX2_isLoaded yX2_isLoaded, Cond.code yX2_isLoaded cX2_isLoaded 2 (some .boolean), Cond.fieldLink RX2 20 "FlatLoader" "loadedSet" "I", Cond.methodLink RX2 37 yX2_isModule, Cond.static yX2_isModule, Cond.code yX2_isModule cX2_isModule 1 (some .boolean), Cond.methodLink RX2 56 yX2_bit]
def wsX2_fillVisibleRow : List Cond := .code yX2_fillVisibleRow cX2_fillVisibleRow 5 none :: ((wsX2_fillVisibleRow_r1 ++ wsX2_fillVisibleRow_r2) ++ wsX20 ++ wsX00 ++ wsX10)
def wsX2_holderSeenFrom_r1 : List Cond := [Cond.fieldLink RX2 26 "FlatLoader" "row" "LFlatLoader$Row;", Cond.fieldLink RX2 11 "FlatLoader" "modules" "[LFlatLoader$OneModule;", Cond.methodLink RX2 150 yX2_fillVisibleRow, Cond.instanceMethod yX2_fillVisibleRow, Cond.selects RX2 yX2_fillVisibleRow yX2_fillVisibleRow, Cond.initialized RX2, Cond.code yX2_fillVisibleRow cX2_fillVisibleRow 5 none, Cond.instanceMethod yX1_clear, Cond.initialized RX1, Cond.selects RX1 yX1_clear yX1_clear, Cond.code yX1_clear cX1_clear 1 none, Cond.fieldLink RX1 18 "FlatLoader$Row" "size" "I", Cond.fieldLink RX1 22 "FlatLoader$Row" "memberSet" "I", Cond.fieldLink RX1 25 "FlatLoader$Row" "begun" "I", Cond.instanceMethod yX0_hasPath, Cond.initialized RX0, Cond.selects RX0 yX0_hasPath yX0_hasPath, Cond.code yX0_hasPath cX0_hasPath 3 (some .boolean), Cond.methodLink RX0 37 yX0_holds, Cond.instanceMethod yX0_holds, Cond.selects RX0 yX0_holds yX0_holds, Cond.code yX0_holds cX0_holds 2 (some .boolean), Cond.fieldLink RX0 9 "FlatLoader$OneModule" "extended" "[I", Cond.instanceMethod yX1_addOnceIf]
def wsX2_holderSeenFrom_r2 : List Cond := [Cond.selects RX1 yX1_addOnceIf yX1_addOnceIf, Cond.code yX1_addOnceIf cX1_addOnceIf 3 none, Cond.fieldLink RX1 9 "FlatLoader$Row" "members" "[I", Cond.static yX2_isIn, Cond.code yX2_isIn cX2_isIn 2 (some .boolean), Cond.static yX2_bit, Cond.code yX2_bit cX2_bit 1 (some .int), Cond.methodLink RX2 108 yX2_isIn, Cond.methodLink RX2 197 yX2_addExportedRow, Cond.instanceMethod yX2_addExportedRow, Cond.selects RX2 yX2_addExportedRow yX2_addExportedRow, Cond.code yX2_addExportedRow cX2_addExportedRow 6 none, Cond.methodLink RX2 68 yX2_isLoaded, Cond.instanceMethod yX2_isLoaded, Cond.selects RX2 yX2_isLoaded yX2_isLoaded, Cond.code yX2_isLoaded cX2_isLoaded 2 (some .boolean), Cond.fieldLink RX2 20 "FlatLoader" "loadedSet" "I", Cond.methodLink RX2 37 yX2_isModule, Cond.static yX2_isModule, Cond.code yX2_isModule cX2_isModule 1 (some .boolean), Cond.methodLink RX2 56 yX2_bit]
def wsX2_holderSeenFrom : List Cond := .code yX2_holderSeenFrom cX2_holderSeenFrom 4 (some .int) :: ((wsX2_holderSeenFrom_r1 ++ wsX2_holderSeenFrom_r2) ++ wsX20 ++ wsX10 ++ wsX00)
def wsX2_needsNoDefining : List Cond := .code yX2_needsNoDefining cX2_needsNoDefining 3 (some .boolean) :: ([.fieldLink RX2 11 "FlatLoader" "modules" "[LFlatLoader$OneModule;", .instanceMethod yX0_hasDefined, .initialized RX0, .selects RX0 yX0_hasDefined yX0_hasDefined, .code yX0_hasDefined cX0_hasDefined 2 (some .boolean), .fieldLink RX0 15 "FlatLoader$OneModule" "definedAbove" "[I"] ++ wsX20 ++ wsX00)
def wsX2_defineChain : List Cond := .code yX2_defineChain cX2_defineChain 5 none :: ([.fieldLink RX2 11 "FlatLoader" "modules" "[LFlatLoader$OneModule;", .fieldLink RX2 30 "FlatLoader" "chainModules" "[I", .fieldLink RX2 34 "FlatLoader" "chainNames" "[I"] ++ wsX20 ++ wsX00)
def wsX2_defineWithAllAbove_r1 : List Cond := [Cond.fieldLink RX2 30 "FlatLoader" "chainModules" "[I", Cond.fieldLink RX2 34 "FlatLoader" "chainNames" "[I", Cond.fieldLink RX2 11 "FlatLoader" "modules" "[LFlatLoader$OneModule;", Cond.methodLink RX2 207 yX2_needsNoDefining, Cond.instanceMethod yX2_needsNoDefining, Cond.selects RX2 yX2_needsNoDefining yX2_needsNoDefining, Cond.initialized RX2, Cond.code yX2_needsNoDefining cX2_needsNoDefining 3 (some .boolean), Cond.instanceMethod yX0_hasDefined, Cond.initialized RX0, Cond.selects RX0 yX0_hasDefined yX0_hasDefined, Cond.code yX0_hasDefined cX0_hasDefined 2 (some .boolean), Cond.fieldLink RX0 15 "FlatLoader$OneModule" "definedAbove" "[I", Cond.methodLink RX2 140 yX2_holderSeenFrom, Cond.instanceMethod yX2_holderSeenFrom, Cond.selects RX2 yX2_holderSeenFrom yX2_holderSeenFrom, Cond.code yX2_holderSeenFrom cX2_holderSeenFrom 4 (some .int), Cond.fieldLink RX2 26 "FlatLoader" "row" "LFlatLoader$Row;", Cond.methodLink RX2 150 yX2_fillVisibleRow, Cond.instanceMethod yX2_fillVisibleRow, Cond.selects RX2 yX2_fillVisibleRow yX2_fillVisibleRow, Cond.code yX2_fillVisibleRow cX2_fillVisibleRow 5 none, Cond.instanceMethod yX1_clear, Cond.initialized RX1]
def wsX2_defineWithAllAbove_r2 : List Cond := [Cond.selects RX1 yX1_clear yX1_clear, Cond.code yX1_clear cX1_clear 1 none, Cond.fieldLink RX1 18 "FlatLoader$Row" "size" "I", Cond.fieldLink RX1 22 "FlatLoader$Row" "memberSet" "I", Cond.fieldLink RX1 25 "FlatLoader$Row" "begun" "I", Cond.instanceMethod yX0_hasPath, Cond.selects RX0 yX0_hasPath yX0_hasPath, Cond.code yX0_hasPath cX0_hasPath 3 (some .boolean), Cond.methodLink RX0 37 yX0_holds, Cond.instanceMethod yX0_holds, Cond.selects RX0 yX0_holds yX0_holds, Cond.code yX0_holds cX0_holds 2 (some .boolean), Cond.fieldLink RX0 9 "FlatLoader$OneModule" "extended" "[I", Cond.instanceMethod yX1_addOnceIf, Cond.selects RX1 yX1_addOnceIf yX1_addOnceIf, Cond.code yX1_addOnceIf cX1_addOnceIf 3 none, Cond.fieldLink RX1 9 "FlatLoader$Row" "members" "[I", Cond.static yX2_isIn, Cond.code yX2_isIn cX2_isIn 2 (some .boolean), Cond.static yX2_bit, Cond.code yX2_bit cX2_bit 1 (some .int), Cond.methodLink RX2 108 yX2_isIn, Cond.methodLink RX2 197 yX2_addExportedRow, Cond.instanceMethod yX2_addExportedRow]
def wsX2_defineWithAllAbove_r3 : List Cond := [Cond.selects RX2 yX2_addExportedRow yX2_addExportedRow, Cond.code yX2_addExportedRow cX2_addExportedRow 6 none, Cond.methodLink RX2 68 yX2_isLoaded, Cond.instanceMethod yX2_isLoaded, Cond.selects RX2 yX2_isLoaded yX2_isLoaded, Cond.code yX2_isLoaded cX2_isLoaded 2 (some .boolean), Cond.fieldLink RX2 20 "FlatLoader" "loadedSet" "I", Cond.methodLink RX2 37 yX2_isModule, Cond.static yX2_isModule, Cond.code yX2_isModule cX2_isModule 1 (some .boolean), Cond.methodLink RX2 56 yX2_bit, Cond.methodLink RX2 210 yX2_defineChain, Cond.instanceMethod yX2_defineChain, Cond.selects RX2 yX2_defineChain yX2_defineChain, Cond.code yX2_defineChain cX2_defineChain 5 none]
def wsX2_defineWithAllAbove : List Cond := .code yX2_defineWithAllAbove cX2_defineWithAllAbove 6 (some .boolean) :: ((wsX2_defineWithAllAbove_r1 ++ (wsX2_defineWithAllAbove_r2 ++ wsX2_defineWithAllAbove_r3)) ++ wsX20 ++ wsX00 ++ wsX10)
def wsX2_find_r1 : List Cond := [Cond.classLink RX2 41 "java/lang/IllegalArgumentException", Cond.initialized "java/lang/IllegalArgumentException", Cond.classLink RX2 111 "java/util/NoSuchElementException", Cond.initialized "java/util/NoSuchElementException", Cond.classLink RX2 51 "java/lang/IllegalStateException", Cond.initialized "java/lang/IllegalStateException", Cond.methodLink RX2 68 yX2_isLoaded, Cond.instanceMethod yX2_isLoaded, Cond.selects RX2 yX2_isLoaded yX2_isLoaded, Cond.initialized RX2, Cond.code yX2_isLoaded cX2_isLoaded 2 (some .boolean), Cond.fieldLink RX2 20 "FlatLoader" "loadedSet" "I", Cond.methodLink RX2 37 yX2_isModule, Cond.static yX2_isModule, Cond.code yX2_isModule cX2_isModule 1 (some .boolean), Cond.methodLink RX2 108 yX2_isIn, Cond.static yX2_isIn, Cond.code yX2_isIn cX2_isIn 2 (some .boolean), Cond.methodLink RX2 60 yX2_isName, Cond.static yX2_isName, Cond.code yX2_isName cX2_isName 1 (some .boolean), Cond.methodLink RX2 140 yX2_holderSeenFrom, Cond.instanceMethod yX2_holderSeenFrom, Cond.selects RX2 yX2_holderSeenFrom yX2_holderSeenFrom]
def wsX2_find_r2 : List Cond := [Cond.code yX2_holderSeenFrom cX2_holderSeenFrom 4 (some .int), Cond.fieldLink RX2 26 "FlatLoader" "row" "LFlatLoader$Row;", Cond.fieldLink RX2 11 "FlatLoader" "modules" "[LFlatLoader$OneModule;", Cond.methodLink RX2 150 yX2_fillVisibleRow, Cond.instanceMethod yX2_fillVisibleRow, Cond.selects RX2 yX2_fillVisibleRow yX2_fillVisibleRow, Cond.code yX2_fillVisibleRow cX2_fillVisibleRow 5 none, Cond.instanceMethod yX1_clear, Cond.initialized RX1, Cond.selects RX1 yX1_clear yX1_clear, Cond.code yX1_clear cX1_clear 1 none, Cond.fieldLink RX1 18 "FlatLoader$Row" "size" "I", Cond.fieldLink RX1 22 "FlatLoader$Row" "memberSet" "I", Cond.fieldLink RX1 25 "FlatLoader$Row" "begun" "I", Cond.instanceMethod yX0_hasPath, Cond.initialized RX0, Cond.selects RX0 yX0_hasPath yX0_hasPath, Cond.code yX0_hasPath cX0_hasPath 3 (some .boolean), Cond.methodLink RX0 37 yX0_holds, Cond.instanceMethod yX0_holds, Cond.selects RX0 yX0_holds yX0_holds, Cond.code yX0_holds cX0_holds 2 (some .boolean), Cond.fieldLink RX0 9 "FlatLoader$OneModule" "extended" "[I", Cond.instanceMethod yX1_addOnceIf]
def wsX2_find_r3 : List Cond := [Cond.selects RX1 yX1_addOnceIf yX1_addOnceIf, Cond.code yX1_addOnceIf cX1_addOnceIf 3 none, Cond.fieldLink RX1 9 "FlatLoader$Row" "members" "[I", Cond.static yX2_bit, Cond.code yX2_bit cX2_bit 1 (some .int), Cond.methodLink RX2 197 yX2_addExportedRow, Cond.instanceMethod yX2_addExportedRow, Cond.selects RX2 yX2_addExportedRow yX2_addExportedRow, Cond.code yX2_addExportedRow cX2_addExportedRow 6 none, Cond.methodLink RX2 56 yX2_bit, Cond.methodLink RX2 145 yX2_defineWithAllAbove, Cond.instanceMethod yX2_defineWithAllAbove, Cond.selects RX2 yX2_defineWithAllAbove yX2_defineWithAllAbove, Cond.code yX2_defineWithAllAbove cX2_defineWithAllAbove 6 (some .boolean), Cond.fieldLink RX2 30 "FlatLoader" "chainModules" "[I", Cond.fieldLink RX2 34 "FlatLoader" "chainNames" "[I", Cond.methodLink RX2 207 yX2_needsNoDefining, Cond.instanceMethod yX2_needsNoDefining, Cond.selects RX2 yX2_needsNoDefining yX2_needsNoDefining, Cond.code yX2_needsNoDefining cX2_needsNoDefining 3 (some .boolean), Cond.instanceMethod yX0_hasDefined, Cond.selects RX0 yX0_hasDefined yX0_hasDefined, Cond.code yX0_hasDefined cX0_hasDefined 2 (some .boolean), Cond.fieldLink RX0 15 "FlatLoader$OneModule" "definedAbove" "[I"]
def wsX2_find_r4 : List Cond := [Cond.methodLink RX2 210 yX2_defineChain, Cond.instanceMethod yX2_defineChain, Cond.selects RX2 yX2_defineChain yX2_defineChain, Cond.code yX2_defineChain cX2_defineChain 5 none]
def wsX2_find : List Cond := .code yX2_find cX2_find 4 (some .int) :: ((wsX2_find_r1 ++ (wsX2_find_r2 ++ (wsX2_find_r3 ++ wsX2_find_r4))) ++ wsX20 ++ wsX10 ++ wsX00 ++ (vx_atS RX2 45 "java/lang/IllegalArgumentException" ["java/lang/RuntimeException", "java/lang/Exception"]).filter goodWord ++ (vx_atS RX2 115 "java/util/NoSuchElementException" ["java/lang/RuntimeException", "java/lang/Exception"]).filter goodWord ++ (vx_atS RX2 55 "java/lang/IllegalStateException" ["java/lang/RuntimeException", "java/lang/Exception"]).filter goodWord)
def wsX2_visible_r1 : List Cond := [Cond.fieldLink RX2 26 "FlatLoader" "row" "LFlatLoader$Row;", Cond.methodLink RX2 68 yX2_isLoaded, Cond.instanceMethod yX2_isLoaded, Cond.selects RX2 yX2_isLoaded yX2_isLoaded, Cond.initialized RX2, Cond.code yX2_isLoaded cX2_isLoaded 2 (some .boolean), Cond.fieldLink RX2 20 "FlatLoader" "loadedSet" "I", Cond.methodLink RX2 37 yX2_isModule, Cond.static yX2_isModule, Cond.code yX2_isModule cX2_isModule 1 (some .boolean), Cond.methodLink RX2 108 yX2_isIn, Cond.static yX2_isIn, Cond.code yX2_isIn cX2_isIn 2 (some .boolean), Cond.methodLink RX2 150 yX2_fillVisibleRow, Cond.instanceMethod yX2_fillVisibleRow, Cond.selects RX2 yX2_fillVisibleRow yX2_fillVisibleRow, Cond.code yX2_fillVisibleRow cX2_fillVisibleRow 5 none, Cond.fieldLink RX2 11 "FlatLoader" "modules" "[LFlatLoader$OneModule;", Cond.instanceMethod yX1_clear, Cond.initialized RX1, Cond.selects RX1 yX1_clear yX1_clear, Cond.code yX1_clear cX1_clear 1 none, Cond.fieldLink RX1 18 "FlatLoader$Row" "size" "I", Cond.fieldLink RX1 22 "FlatLoader$Row" "memberSet" "I"]
def wsX2_visible_r2 : List Cond := [Cond.fieldLink RX1 25 "FlatLoader$Row" "begun" "I", Cond.instanceMethod yX0_hasPath, Cond.initialized RX0, Cond.selects RX0 yX0_hasPath yX0_hasPath, Cond.code yX0_hasPath cX0_hasPath 3 (some .boolean), Cond.methodLink RX0 37 yX0_holds, Cond.instanceMethod yX0_holds, Cond.selects RX0 yX0_holds yX0_holds, Cond.code yX0_holds cX0_holds 2 (some .boolean), Cond.fieldLink RX0 9 "FlatLoader$OneModule" "extended" "[I", Cond.instanceMethod yX1_addOnceIf, Cond.selects RX1 yX1_addOnceIf yX1_addOnceIf, Cond.code yX1_addOnceIf cX1_addOnceIf 3 none, Cond.fieldLink RX1 9 "FlatLoader$Row" "members" "[I", Cond.static yX2_bit, Cond.code yX2_bit cX2_bit 1 (some .int), Cond.methodLink RX2 197 yX2_addExportedRow, Cond.instanceMethod yX2_addExportedRow, Cond.selects RX2 yX2_addExportedRow yX2_addExportedRow, Cond.code yX2_addExportedRow cX2_addExportedRow 6 none, Cond.methodLink RX2 56 yX2_bit]
def wsX2_visible : List Cond := .code yX2_visible cX2_visible 4 (some .int) :: ((wsX2_visible_r1 ++ wsX2_visible_r2) ++ wsX20 ++ wsX10 ++ wsX00)
def wsX2_holderSet : List Cond := .code yX2_holderSet cX2_holderSet 4 (some .int) :: ([.fieldLink RX2 11 "FlatLoader" "modules" "[LFlatLoader$OneModule;", .instanceMethod yX0_holds, .initialized RX0, .selects RX0 yX0_holds yX0_holds, .code yX0_holds cX0_holds 2 (some .boolean), .fieldLink RX0 9 "FlatLoader$OneModule" "extended" "[I", .methodLink RX2 56 yX2_bit, .static yX2_bit, .initialized RX2, .code yX2_bit cX2_bit 1 (some .int)] ++ wsX20 ++ wsX00)
def wsX2_why_r1 : List Cond := [Cond.fieldLink RX2 20 "FlatLoader" "loadedSet" "I", Cond.methodLink RX2 68 yX2_isLoaded, Cond.instanceMethod yX2_isLoaded, Cond.selects RX2 yX2_isLoaded yX2_isLoaded, Cond.initialized RX2, Cond.code yX2_isLoaded cX2_isLoaded 2 (some .boolean), Cond.methodLink RX2 37 yX2_isModule, Cond.static yX2_isModule, Cond.code yX2_isModule cX2_isModule 1 (some .boolean), Cond.methodLink RX2 108 yX2_isIn, Cond.static yX2_isIn, Cond.code yX2_isIn cX2_isIn 2 (some .boolean), Cond.methodLink RX2 60 yX2_isName, Cond.static yX2_isName, Cond.code yX2_isName cX2_isName 1 (some .boolean), Cond.methodLink RX2 140 yX2_holderSeenFrom, Cond.instanceMethod yX2_holderSeenFrom, Cond.selects RX2 yX2_holderSeenFrom yX2_holderSeenFrom, Cond.code yX2_holderSeenFrom cX2_holderSeenFrom 4 (some .int), Cond.fieldLink RX2 26 "FlatLoader" "row" "LFlatLoader$Row;", Cond.fieldLink RX2 11 "FlatLoader" "modules" "[LFlatLoader$OneModule;", Cond.methodLink RX2 150 yX2_fillVisibleRow, Cond.instanceMethod yX2_fillVisibleRow, Cond.selects RX2 yX2_fillVisibleRow yX2_fillVisibleRow]
def wsX2_why_r2 : List Cond := [Cond.code yX2_fillVisibleRow cX2_fillVisibleRow 5 none, Cond.instanceMethod yX1_clear, Cond.initialized RX1, Cond.selects RX1 yX1_clear yX1_clear, Cond.code yX1_clear cX1_clear 1 none, Cond.fieldLink RX1 18 "FlatLoader$Row" "size" "I", Cond.fieldLink RX1 22 "FlatLoader$Row" "memberSet" "I", Cond.fieldLink RX1 25 "FlatLoader$Row" "begun" "I", Cond.instanceMethod yX0_hasPath, Cond.initialized RX0, Cond.selects RX0 yX0_hasPath yX0_hasPath, Cond.code yX0_hasPath cX0_hasPath 3 (some .boolean), Cond.methodLink RX0 37 yX0_holds, Cond.instanceMethod yX0_holds, Cond.selects RX0 yX0_holds yX0_holds, Cond.code yX0_holds cX0_holds 2 (some .boolean), Cond.fieldLink RX0 9 "FlatLoader$OneModule" "extended" "[I", Cond.instanceMethod yX1_addOnceIf, Cond.selects RX1 yX1_addOnceIf yX1_addOnceIf, Cond.code yX1_addOnceIf cX1_addOnceIf 3 none, Cond.fieldLink RX1 9 "FlatLoader$Row" "members" "[I", Cond.static yX2_bit, Cond.code yX2_bit cX2_bit 1 (some .int), Cond.methodLink RX2 197 yX2_addExportedRow]
def wsX2_why_r3 : List Cond := [Cond.instanceMethod yX2_addExportedRow, Cond.selects RX2 yX2_addExportedRow yX2_addExportedRow, Cond.code yX2_addExportedRow cX2_addExportedRow 6 none, Cond.methodLink RX2 56 yX2_bit, Cond.methodLink RX2 160 yX2_holderSet, Cond.instanceMethod yX2_holderSet, Cond.selects RX2 yX2_holderSet yX2_holderSet, Cond.code yX2_holderSet cX2_holderSet 4 (some .int)]
def wsX2_why : List Cond := .code yX2_why cX2_why 4 (some .int) :: ((wsX2_why_r1 ++ (wsX2_why_r2 ++ wsX2_why_r3)) ++ wsX20 ++ wsX10 ++ wsX00)
def wsX2_state_r1 : List Cond := [Cond.methodLink RX2 37 yX2_isModule, Cond.static yX2_isModule, Cond.initialized RX2, Cond.code yX2_isModule cX2_isModule 1 (some .boolean), Cond.methodLink RX2 48 yX2_isPresent, Cond.instanceMethod yX2_isPresent, Cond.selects RX2 yX2_isPresent yX2_isPresent, Cond.code yX2_isPresent cX2_isPresent 2 (some .boolean), Cond.fieldLink RX2 16 "FlatLoader" "presentSet" "I", Cond.methodLink RX2 108 yX2_isIn, Cond.static yX2_isIn, Cond.code yX2_isIn cX2_isIn 2 (some .boolean), Cond.methodLink RX2 68 yX2_isLoaded, Cond.instanceMethod yX2_isLoaded, Cond.selects RX2 yX2_isLoaded yX2_isLoaded, Cond.code yX2_isLoaded cX2_isLoaded 2 (some .boolean), Cond.fieldLink RX2 20 "FlatLoader" "loadedSet" "I", Cond.methodLink RX2 104 yX2_loadableSet, Cond.instanceMethod yX2_loadableSet, Cond.selects RX2 yX2_loadableSet yX2_loadableSet, Cond.code yX2_loadableSet cX2_loadableSet 3 (some .int), Cond.methodLink RX2 166 yX2_withoutLacking, Cond.instanceMethod yX2_withoutLacking, Cond.selects RX2 yX2_withoutLacking yX2_withoutLacking]
def wsX2_state_r2 : List Cond := [Cond.code yX2_withoutLacking cX2_withoutLacking 4 (some .int), Cond.fieldLink RX2 11 "FlatLoader" "modules" "[LFlatLoader$OneModule;", Cond.methodLink RX2 56 yX2_bit, Cond.static yX2_bit, Cond.code yX2_bit cX2_bit 1 (some .int)]
def wsX2_state : List Cond := .code yX2_state cX2_state 2 (some .int) :: ((wsX2_state_r1 ++ wsX2_state_r2) ++ wsX20 ++ wsX00)
def wsX2_above : List Cond := .code yX2_above cX2_above 3 (some .int) :: ([.fieldLink RX2 11 "FlatLoader" "modules" "[LFlatLoader$OneModule;", .methodLink RX2 37 yX2_isModule, .static yX2_isModule, .initialized RX2, .code yX2_isModule cX2_isModule 1 (some .boolean), .methodLink RX2 60 yX2_isName, .static yX2_isName, .code yX2_isName cX2_isName 1 (some .boolean)] ++ wsX20 ++ wsX00)
def wsX2_defined : List Cond := .code yX2_defined cX2_defined 3 (some .int) :: ([.fieldLink RX2 11 "FlatLoader" "modules" "[LFlatLoader$OneModule;", .instanceMethod yX0_countClasses, .initialized RX0, .selects RX0 yX0_countClasses yX0_countClasses, .code yX0_countClasses cX0_countClasses 3 (some .int), .methodLink RX0 45 yX0_hasDefined, .instanceMethod yX0_hasDefined, .selects RX0 yX0_hasDefined yX0_hasDefined, .code yX0_hasDefined cX0_hasDefined 2 (some .boolean), .fieldLink RX0 15 "FlatLoader$OneModule" "definedAbove" "[I"] ++ wsX20 ++ wsX00)
def wsX3_init : List Cond := .code yX3_init cX3_init 2 none :: ([.methodLink RX3 1 objectInit, .instanceMethod objectInit, .code objectInit ⟨#[0xb1]⟩ 1 none, .arrayClass .boolean, .fieldLink RX3 7 "FlatLoaderModel" "present" "[Z", .fieldLink RX3 13 "FlatLoaderModel" "loaded" "[Z", .fieldLink RX3 16 "FlatLoaderModel" "loadable" "[Z", .arrayClass .int, .fieldLink RX3 19 "FlatLoaderModel" "files" "[I", .fieldLink RX3 23 "FlatLoaderModel" "extended" "[I", .fieldLink RX3 26 "FlatLoaderModel" "many" "[I", .fieldLink RX3 29 "FlatLoaderModel" "on" "[I", .fieldLink RX3 32 "FlatLoaderModel" "imports" "[I", .fieldLink RX3 35 "FlatLoaderModel" "exports" "[I", .fieldLink RX3 38 "FlatLoaderModel" "required" "[Z", .fieldLink RX3 41 "FlatLoaderModel" "row" "[I", .fieldLink RX3 44 "FlatLoaderModel" "begun" "[Z", .fieldLink RX3 47 "FlatLoaderModel" "come" "[Z", .fieldLink RX3 50 "FlatLoaderModel" "through" "[I", .fieldLink RX3 53 "FlatLoaderModel" "place" "[I", .fieldLink RX3 56 "FlatLoaderModel" "chain" "[I"] ++ wsX30)
def wsX3_thrown : List Cond := .code yX3_thrown cX3_thrown 1 (some .int) :: ([.fieldLink RX3 59 "FlatLoaderModel" "thrown" "I"] ++ wsX30)
def wsX3_throwsBy : List Cond := .code yX3_throwsBy cX3_throwsBy 2 (some .boolean) :: ([.fieldLink RX3 59 "FlatLoaderModel" "thrown" "I"] ++ wsX30)
def wsX3_in : List Cond := .code yX3_in cX3_in 3 (some .boolean) :: ([])
def wsX3_isModule : List Cond := .code yX3_isModule cX3_isModule 1 (some .boolean) :: ([.methodLink RX3 63 yX3_in, .static yX3_in, .initialized RX3, .code yX3_in cX3_in 3 (some .boolean)])
def wsX3_isPresent : List Cond := .code yX3_isPresent cX3_isPresent 2 (some .boolean) :: ([.fieldLink RX3 7 "FlatLoaderModel" "present" "[Z", .methodLink RX3 67 yX3_isModule, .static yX3_isModule, .initialized RX3, .code yX3_isModule cX3_isModule 1 (some .boolean), .methodLink RX3 63 yX3_in, .static yX3_in, .code yX3_in cX3_in 3 (some .boolean)] ++ wsX30)
def wsX3_isLoaded : List Cond := .code yX3_isLoaded cX3_isLoaded 2 (some .boolean) :: ([.fieldLink RX3 13 "FlatLoaderModel" "loaded" "[Z", .methodLink RX3 67 yX3_isModule, .static yX3_isModule, .initialized RX3, .code yX3_isModule cX3_isModule 1 (some .boolean), .methodLink RX3 63 yX3_in, .static yX3_in, .code yX3_in cX3_in 3 (some .boolean)] ++ wsX30)
def wsX3_present : List Cond := .code yX3_present cX3_present 2 none :: ([.fieldLink RX3 7 "FlatLoaderModel" "present" "[Z", .methodLink RX3 67 yX3_isModule, .static yX3_isModule, .initialized RX3, .code yX3_isModule cX3_isModule 1 (some .boolean), .methodLink RX3 63 yX3_in, .static yX3_in, .code yX3_in cX3_in 3 (some .boolean), .methodLink RX3 71 yX3_throwsBy, .instanceMethod yX3_throwsBy, .selects RX3 yX3_throwsBy yX3_throwsBy, .code yX3_throwsBy cX3_throwsBy 2 (some .boolean), .fieldLink RX3 59 "FlatLoaderModel" "thrown" "I"] ++ wsX30)
def wsX3_file : List Cond := .code yX3_file cX3_file 5 none :: ([.fieldLink RX3 13 "FlatLoaderModel" "loaded" "[Z", .fieldLink RX3 19 "FlatLoaderModel" "files" "[I", .methodLink RX3 74 yX3_isPresent, .instanceMethod yX3_isPresent, .selects RX3 yX3_isPresent yX3_isPresent, .initialized RX3, .code yX3_isPresent cX3_isPresent 2 (some .boolean), .fieldLink RX3 7 "FlatLoaderModel" "present" "[Z", .methodLink RX3 67 yX3_isModule, .static yX3_isModule, .code yX3_isModule cX3_isModule 1 (some .boolean), .methodLink RX3 63 yX3_in, .static yX3_in, .code yX3_in cX3_in 3 (some .boolean), .methodLink RX3 71 yX3_throwsBy, .instanceMethod yX3_throwsBy, .selects RX3 yX3_throwsBy yX3_throwsBy, .code yX3_throwsBy cX3_throwsBy 2 (some .boolean), .fieldLink RX3 59 "FlatLoaderModel" "thrown" "I"] ++ wsX30)
def wsX3_depend : List Cond := .code yX3_depend cX3_depend 9 (some .int) :: ([.fieldLink RX3 13 "FlatLoaderModel" "loaded" "[Z", .fieldLink RX3 26 "FlatLoaderModel" "many" "[I", .fieldLink RX3 29 "FlatLoaderModel" "on" "[I", .fieldLink RX3 32 "FlatLoaderModel" "imports" "[I", .fieldLink RX3 35 "FlatLoaderModel" "exports" "[I", .fieldLink RX3 38 "FlatLoaderModel" "required" "[Z", .methodLink RX3 74 yX3_isPresent, .instanceMethod yX3_isPresent, .selects RX3 yX3_isPresent yX3_isPresent, .initialized RX3, .code yX3_isPresent cX3_isPresent 2 (some .boolean), .fieldLink RX3 7 "FlatLoaderModel" "present" "[Z", .methodLink RX3 67 yX3_isModule, .static yX3_isModule, .code yX3_isModule cX3_isModule 1 (some .boolean), .methodLink RX3 63 yX3_in, .static yX3_in, .code yX3_in cX3_in 3 (some .boolean), .methodLink RX3 71 yX3_throwsBy, .instanceMethod yX3_throwsBy, .selects RX3 yX3_throwsBy yX3_throwsBy, .code yX3_throwsBy cX3_throwsBy 2 (some .boolean), .fieldLink RX3 59 "FlatLoaderModel" "thrown" "I"] ++ wsX30)
def wsX3_relink : List Cond := .code yX3_relink cX3_relink 3 (some .int) :: ([.fieldLink RX3 26 "FlatLoaderModel" "many" "[I", .methodLink RX3 74 yX3_isPresent, .instanceMethod yX3_isPresent, .selects RX3 yX3_isPresent yX3_isPresent, .initialized RX3, .code yX3_isPresent cX3_isPresent 2 (some .boolean), .fieldLink RX3 7 "FlatLoaderModel" "present" "[Z", .methodLink RX3 67 yX3_isModule, .static yX3_isModule, .code yX3_isModule cX3_isModule 1 (some .boolean), .methodLink RX3 63 yX3_in, .static yX3_in, .code yX3_in cX3_in 3 (some .boolean), .methodLink RX3 71 yX3_throwsBy, .instanceMethod yX3_throwsBy, .selects RX3 yX3_throwsBy yX3_throwsBy, .code yX3_throwsBy cX3_throwsBy 2 (some .boolean), .fieldLink RX3 59 "FlatLoaderModel" "thrown" "I"] ++ wsX30)
def wsX3_judge : List Cond := .code yX3_judge cX3_judge 4 none :: ([.fieldLink RX3 16 "FlatLoaderModel" "loadable" "[Z", .fieldLink RX3 7 "FlatLoaderModel" "present" "[Z", .fieldLink RX3 26 "FlatLoaderModel" "many" "[I", .fieldLink RX3 38 "FlatLoaderModel" "required" "[Z", .fieldLink RX3 29 "FlatLoaderModel" "on" "[I"] ++ wsX30)
def wsX3_load : List Cond := .code yX3_load cX3_load 4 (some .int) :: ([.fieldLink RX3 16 "FlatLoaderModel" "loadable" "[Z", .fieldLink RX3 47 "FlatLoaderModel" "come" "[Z", .fieldLink RX3 26 "FlatLoaderModel" "many" "[I", .fieldLink RX3 29 "FlatLoaderModel" "on" "[I", .fieldLink RX3 13 "FlatLoaderModel" "loaded" "[Z", .methodLink RX3 77 yX3_judge, .instanceMethod yX3_judge, .selects RX3 yX3_judge yX3_judge, .initialized RX3, .code yX3_judge cX3_judge 4 none, .fieldLink RX3 7 "FlatLoaderModel" "present" "[Z", .fieldLink RX3 38 "FlatLoaderModel" "required" "[Z", .methodLink RX3 67 yX3_isModule, .static yX3_isModule, .code yX3_isModule cX3_isModule 1 (some .boolean), .methodLink RX3 63 yX3_in, .static yX3_in, .code yX3_in cX3_in 3 (some .boolean), .methodLink RX3 71 yX3_throwsBy, .instanceMethod yX3_throwsBy, .selects RX3 yX3_throwsBy yX3_throwsBy, .code yX3_throwsBy cX3_throwsBy 2 (some .boolean), .fieldLink RX3 59 "FlatLoaderModel" "thrown" "I"] ++ wsX30)
def wsX3_isNeeded : List Cond := .code yX3_isNeeded cX3_isNeeded 5 (some .boolean) :: ([.fieldLink RX3 13 "FlatLoaderModel" "loaded" "[Z", .fieldLink RX3 26 "FlatLoaderModel" "many" "[I", .fieldLink RX3 38 "FlatLoaderModel" "required" "[Z", .fieldLink RX3 29 "FlatLoaderModel" "on" "[I", .fieldLink RX3 23 "FlatLoaderModel" "extended" "[I"] ++ wsX30)
def wsX3_unload_r1 : List Cond := [Cond.fieldLink RX3 23 "FlatLoaderModel" "extended" "[I", Cond.fieldLink RX3 86 "FlatLoaderModel" "classes" "I", Cond.fieldLink RX3 13 "FlatLoaderModel" "loaded" "[Z", Cond.methodLink RX3 80 yX3_isLoaded, Cond.instanceMethod yX3_isLoaded, Cond.selects RX3 yX3_isLoaded yX3_isLoaded, Cond.initialized RX3, Cond.code yX3_isLoaded cX3_isLoaded 2 (some .boolean), Cond.methodLink RX3 67 yX3_isModule, Cond.static yX3_isModule, Cond.code yX3_isModule cX3_isModule 1 (some .boolean), Cond.methodLink RX3 63 yX3_in, Cond.static yX3_in, Cond.code yX3_in cX3_in 3 (some .boolean), Cond.methodLink RX3 83 yX3_isNeeded, Cond.instanceMethod yX3_isNeeded, Cond.selects RX3 yX3_isNeeded yX3_isNeeded, Cond.code yX3_isNeeded cX3_isNeeded 5 (some .boolean), Cond.fieldLink RX3 26 "FlatLoaderModel" "many" "[I", Cond.fieldLink RX3 38 "FlatLoaderModel" "required" "[Z", Cond.fieldLink RX3 29 "FlatLoaderModel" "on" "[I", Cond.methodLink RX3 71 yX3_throwsBy, Cond.instanceMethod yX3_throwsBy, Cond.selects RX3 yX3_throwsBy yX3_throwsBy]
def wsX3_unload_r2 : List Cond := [Cond.code yX3_throwsBy cX3_throwsBy 2 (some .boolean), Cond.fieldLink RX3 59 "FlatLoaderModel" "thrown" "I"]
def wsX3_unload : List Cond := .code yX3_unload cX3_unload 4 (some .int) :: ((wsX3_unload_r1 ++ wsX3_unload_r2) ++ wsX30)
def wsX3_hasPath : List Cond := .code yX3_hasPath cX3_hasPath 5 (some .boolean) :: ([.fieldLink RX3 19 "FlatLoaderModel" "files" "[I"] ++ wsX30)
def wsX3_append : List Cond := .code yX3_append cX3_append 4 none :: ([.fieldLink RX3 89 "FlatLoaderModel" "size" "I", .fieldLink RX3 41 "FlatLoaderModel" "row" "[I"] ++ wsX30)
def wsX3_see : List Cond := .code yX3_see cX3_see 7 none :: ([.fieldLink RX3 89 "FlatLoaderModel" "size" "I", .fieldLink RX3 44 "FlatLoaderModel" "begun" "[Z", .fieldLink RX3 50 "FlatLoaderModel" "through" "[I", .fieldLink RX3 53 "FlatLoaderModel" "place" "[I", .fieldLink RX3 26 "FlatLoaderModel" "many" "[I", .fieldLink RX3 29 "FlatLoaderModel" "on" "[I", .fieldLink RX3 13 "FlatLoaderModel" "loaded" "[Z", .fieldLink RX3 32 "FlatLoaderModel" "imports" "[I", .fieldLink RX3 35 "FlatLoaderModel" "exports" "[I", .methodLink RX3 92 yX3_hasPath, .instanceMethod yX3_hasPath, .selects RX3 yX3_hasPath yX3_hasPath, .initialized RX3, .code yX3_hasPath cX3_hasPath 5 (some .boolean), .fieldLink RX3 19 "FlatLoaderModel" "files" "[I", .methodLink RX3 96 yX3_append, .instanceMethod yX3_append, .selects RX3 yX3_append yX3_append, .code yX3_append cX3_append 4 none, .fieldLink RX3 41 "FlatLoaderModel" "row" "[I"] ++ wsX30)
def wsX3_holder : List Cond := .code yX3_holder cX3_holder 5 (some .int) :: ([.fieldLink RX3 89 "FlatLoaderModel" "size" "I", .fieldLink RX3 19 "FlatLoaderModel" "files" "[I", .fieldLink RX3 41 "FlatLoaderModel" "row" "[I", .methodLink RX3 100 yX3_see, .instanceMethod yX3_see, .selects RX3 yX3_see yX3_see, .initialized RX3, .code yX3_see cX3_see 7 none, .fieldLink RX3 44 "FlatLoaderModel" "begun" "[Z", .fieldLink RX3 50 "FlatLoaderModel" "through" "[I", .fieldLink RX3 53 "FlatLoaderModel" "place" "[I", .fieldLink RX3 26 "FlatLoaderModel" "many" "[I", .fieldLink RX3 29 "FlatLoaderModel" "on" "[I", .fieldLink RX3 13 "FlatLoaderModel" "loaded" "[Z", .fieldLink RX3 32 "FlatLoaderModel" "imports" "[I", .fieldLink RX3 35 "FlatLoaderModel" "exports" "[I", .methodLink RX3 92 yX3_hasPath, .instanceMethod yX3_hasPath, .selects RX3 yX3_hasPath yX3_hasPath, .code yX3_hasPath cX3_hasPath 5 (some .boolean), .methodLink RX3 96 yX3_append, .instanceMethod yX3_append, .selects RX3 yX3_append yX3_append, .code yX3_append cX3_append 4 none] ++ wsX30)
def wsX3_needs_r1 : List Cond := [Cond.fieldLink RX3 23 "FlatLoaderModel" "extended" "[I", Cond.fieldLink RX3 56 "FlatLoaderModel" "chain" "[I", Cond.fieldLink RX3 19 "FlatLoaderModel" "files" "[I", Cond.methodLink RX3 104 yX3_holder, Cond.instanceMethod yX3_holder, Cond.selects RX3 yX3_holder yX3_holder, Cond.initialized RX3, Cond.code yX3_holder cX3_holder 5 (some .int), Cond.fieldLink RX3 89 "FlatLoaderModel" "size" "I", Cond.fieldLink RX3 41 "FlatLoaderModel" "row" "[I", Cond.methodLink RX3 100 yX3_see, Cond.instanceMethod yX3_see, Cond.selects RX3 yX3_see yX3_see, Cond.code yX3_see cX3_see 7 none, Cond.fieldLink RX3 44 "FlatLoaderModel" "begun" "[Z", Cond.fieldLink RX3 50 "FlatLoaderModel" "through" "[I", Cond.fieldLink RX3 53 "FlatLoaderModel" "place" "[I", Cond.fieldLink RX3 26 "FlatLoaderModel" "many" "[I", Cond.fieldLink RX3 29 "FlatLoaderModel" "on" "[I", Cond.fieldLink RX3 13 "FlatLoaderModel" "loaded" "[Z", Cond.fieldLink RX3 32 "FlatLoaderModel" "imports" "[I", Cond.fieldLink RX3 35 "FlatLoaderModel" "exports" "[I", Cond.methodLink RX3 92 yX3_hasPath, Cond.instanceMethod yX3_hasPath]
def wsX3_needs_r2 : List Cond := [Cond.selects RX3 yX3_hasPath yX3_hasPath, Cond.code yX3_hasPath cX3_hasPath 5 (some .boolean), Cond.methodLink RX3 96 yX3_append, Cond.instanceMethod yX3_append, Cond.selects RX3 yX3_append yX3_append, Cond.code yX3_append cX3_append 4 none]
def wsX3_needs : List Cond := .code yX3_needs cX3_needs 9 (some .int) :: ((wsX3_needs_r1 ++ wsX3_needs_r2) ++ wsX30)
def wsX3_define_r1 : List Cond := [Cond.fieldLink RX3 19 "FlatLoaderModel" "files" "[I", Cond.fieldLink RX3 23 "FlatLoaderModel" "extended" "[I", Cond.fieldLink RX3 86 "FlatLoaderModel" "classes" "I", Cond.methodLink RX3 104 yX3_holder, Cond.instanceMethod yX3_holder, Cond.selects RX3 yX3_holder yX3_holder, Cond.initialized RX3, Cond.code yX3_holder cX3_holder 5 (some .int), Cond.fieldLink RX3 89 "FlatLoaderModel" "size" "I", Cond.fieldLink RX3 41 "FlatLoaderModel" "row" "[I", Cond.methodLink RX3 100 yX3_see, Cond.instanceMethod yX3_see, Cond.selects RX3 yX3_see yX3_see, Cond.code yX3_see cX3_see 7 none, Cond.fieldLink RX3 44 "FlatLoaderModel" "begun" "[Z", Cond.fieldLink RX3 50 "FlatLoaderModel" "through" "[I", Cond.fieldLink RX3 53 "FlatLoaderModel" "place" "[I", Cond.fieldLink RX3 26 "FlatLoaderModel" "many" "[I", Cond.fieldLink RX3 29 "FlatLoaderModel" "on" "[I", Cond.fieldLink RX3 13 "FlatLoaderModel" "loaded" "[Z", Cond.fieldLink RX3 32 "FlatLoaderModel" "imports" "[I", Cond.fieldLink RX3 35 "FlatLoaderModel" "exports" "[I", Cond.methodLink RX3 92 yX3_hasPath, Cond.instanceMethod yX3_hasPath]
def wsX3_define_r2 : List Cond := [Cond.selects RX3 yX3_hasPath yX3_hasPath, Cond.code yX3_hasPath cX3_hasPath 5 (some .boolean), Cond.methodLink RX3 96 yX3_append, Cond.instanceMethod yX3_append, Cond.selects RX3 yX3_append yX3_append, Cond.code yX3_append cX3_append 4 none]
def wsX3_define : List Cond := .code yX3_define cX3_define 3 none :: ((wsX3_define_r1 ++ wsX3_define_r2) ++ wsX30)
def wsX3_find_r1 : List Cond := [Cond.fieldLink RX3 56 "FlatLoaderModel" "chain" "[I", Cond.methodLink RX3 80 yX3_isLoaded, Cond.instanceMethod yX3_isLoaded, Cond.selects RX3 yX3_isLoaded yX3_isLoaded, Cond.initialized RX3, Cond.code yX3_isLoaded cX3_isLoaded 2 (some .boolean), Cond.fieldLink RX3 13 "FlatLoaderModel" "loaded" "[Z", Cond.methodLink RX3 67 yX3_isModule, Cond.static yX3_isModule, Cond.code yX3_isModule cX3_isModule 1 (some .boolean), Cond.methodLink RX3 63 yX3_in, Cond.static yX3_in, Cond.code yX3_in cX3_in 3 (some .boolean), Cond.methodLink RX3 104 yX3_holder, Cond.instanceMethod yX3_holder, Cond.selects RX3 yX3_holder yX3_holder, Cond.code yX3_holder cX3_holder 5 (some .int), Cond.fieldLink RX3 89 "FlatLoaderModel" "size" "I", Cond.fieldLink RX3 19 "FlatLoaderModel" "files" "[I", Cond.fieldLink RX3 41 "FlatLoaderModel" "row" "[I", Cond.methodLink RX3 100 yX3_see, Cond.instanceMethod yX3_see, Cond.selects RX3 yX3_see yX3_see, Cond.code yX3_see cX3_see 7 none]
def wsX3_find_r2 : List Cond := [Cond.fieldLink RX3 44 "FlatLoaderModel" "begun" "[Z", Cond.fieldLink RX3 50 "FlatLoaderModel" "through" "[I", Cond.fieldLink RX3 53 "FlatLoaderModel" "place" "[I", Cond.fieldLink RX3 26 "FlatLoaderModel" "many" "[I", Cond.fieldLink RX3 29 "FlatLoaderModel" "on" "[I", Cond.fieldLink RX3 32 "FlatLoaderModel" "imports" "[I", Cond.fieldLink RX3 35 "FlatLoaderModel" "exports" "[I", Cond.methodLink RX3 92 yX3_hasPath, Cond.instanceMethod yX3_hasPath, Cond.selects RX3 yX3_hasPath yX3_hasPath, Cond.code yX3_hasPath cX3_hasPath 5 (some .boolean), Cond.methodLink RX3 96 yX3_append, Cond.instanceMethod yX3_append, Cond.selects RX3 yX3_append yX3_append, Cond.code yX3_append cX3_append 4 none, Cond.methodLink RX3 108 yX3_needs, Cond.instanceMethod yX3_needs, Cond.selects RX3 yX3_needs yX3_needs, Cond.code yX3_needs cX3_needs 9 (some .int), Cond.fieldLink RX3 23 "FlatLoaderModel" "extended" "[I", Cond.methodLink RX3 71 yX3_throwsBy, Cond.instanceMethod yX3_throwsBy, Cond.selects RX3 yX3_throwsBy yX3_throwsBy, Cond.code yX3_throwsBy cX3_throwsBy 2 (some .boolean)]
def wsX3_find_r3 : List Cond := [Cond.fieldLink RX3 59 "FlatLoaderModel" "thrown" "I", Cond.methodLink RX3 111 yX3_define, Cond.instanceMethod yX3_define, Cond.selects RX3 yX3_define yX3_define, Cond.code yX3_define cX3_define 3 none, Cond.fieldLink RX3 86 "FlatLoaderModel" "classes" "I"]
def wsX3_find : List Cond := .code yX3_find cX3_find 7 (some .int) :: ((wsX3_find_r1 ++ (wsX3_find_r2 ++ wsX3_find_r3)) ++ wsX30)
def wsX3_visible_r1 : List Cond := [Cond.fieldLink RX3 59 "FlatLoaderModel" "thrown" "I", Cond.fieldLink RX3 89 "FlatLoaderModel" "size" "I", Cond.fieldLink RX3 41 "FlatLoaderModel" "row" "[I", Cond.methodLink RX3 80 yX3_isLoaded, Cond.instanceMethod yX3_isLoaded, Cond.selects RX3 yX3_isLoaded yX3_isLoaded, Cond.initialized RX3, Cond.code yX3_isLoaded cX3_isLoaded 2 (some .boolean), Cond.fieldLink RX3 13 "FlatLoaderModel" "loaded" "[Z", Cond.methodLink RX3 67 yX3_isModule, Cond.static yX3_isModule, Cond.code yX3_isModule cX3_isModule 1 (some .boolean), Cond.methodLink RX3 63 yX3_in, Cond.static yX3_in, Cond.code yX3_in cX3_in 3 (some .boolean), Cond.methodLink RX3 100 yX3_see, Cond.instanceMethod yX3_see, Cond.selects RX3 yX3_see yX3_see, Cond.code yX3_see cX3_see 7 none, Cond.fieldLink RX3 44 "FlatLoaderModel" "begun" "[Z", Cond.fieldLink RX3 50 "FlatLoaderModel" "through" "[I", Cond.fieldLink RX3 53 "FlatLoaderModel" "place" "[I", Cond.fieldLink RX3 26 "FlatLoaderModel" "many" "[I", Cond.fieldLink RX3 29 "FlatLoaderModel" "on" "[I"]
def wsX3_visible_r2 : List Cond := [Cond.fieldLink RX3 32 "FlatLoaderModel" "imports" "[I", Cond.fieldLink RX3 35 "FlatLoaderModel" "exports" "[I", Cond.methodLink RX3 92 yX3_hasPath, Cond.instanceMethod yX3_hasPath, Cond.selects RX3 yX3_hasPath yX3_hasPath, Cond.code yX3_hasPath cX3_hasPath 5 (some .boolean), Cond.fieldLink RX3 19 "FlatLoaderModel" "files" "[I", Cond.methodLink RX3 96 yX3_append, Cond.instanceMethod yX3_append, Cond.selects RX3 yX3_append yX3_append, Cond.code yX3_append cX3_append 4 none]
def wsX3_visible : List Cond := .code yX3_visible cX3_visible 4 (some .int) :: ((wsX3_visible_r1 ++ wsX3_visible_r2) ++ wsX30)
def wsX3_why_r1 : List Cond := [Cond.fieldLink RX3 59 "FlatLoaderModel" "thrown" "I", Cond.fieldLink RX3 19 "FlatLoaderModel" "files" "[I", Cond.fieldLink RX3 13 "FlatLoaderModel" "loaded" "[Z", Cond.methodLink RX3 80 yX3_isLoaded, Cond.instanceMethod yX3_isLoaded, Cond.selects RX3 yX3_isLoaded yX3_isLoaded, Cond.initialized RX3, Cond.code yX3_isLoaded cX3_isLoaded 2 (some .boolean), Cond.methodLink RX3 67 yX3_isModule, Cond.static yX3_isModule, Cond.code yX3_isModule cX3_isModule 1 (some .boolean), Cond.methodLink RX3 63 yX3_in, Cond.static yX3_in, Cond.code yX3_in cX3_in 3 (some .boolean), Cond.methodLink RX3 104 yX3_holder, Cond.instanceMethod yX3_holder, Cond.selects RX3 yX3_holder yX3_holder, Cond.code yX3_holder cX3_holder 5 (some .int), Cond.fieldLink RX3 89 "FlatLoaderModel" "size" "I", Cond.fieldLink RX3 41 "FlatLoaderModel" "row" "[I", Cond.methodLink RX3 100 yX3_see, Cond.instanceMethod yX3_see, Cond.selects RX3 yX3_see yX3_see, Cond.code yX3_see cX3_see 7 none]
def wsX3_why_r2 : List Cond := [Cond.fieldLink RX3 44 "FlatLoaderModel" "begun" "[Z", Cond.fieldLink RX3 50 "FlatLoaderModel" "through" "[I", Cond.fieldLink RX3 53 "FlatLoaderModel" "place" "[I", Cond.fieldLink RX3 26 "FlatLoaderModel" "many" "[I", Cond.fieldLink RX3 29 "FlatLoaderModel" "on" "[I", Cond.fieldLink RX3 32 "FlatLoaderModel" "imports" "[I", Cond.fieldLink RX3 35 "FlatLoaderModel" "exports" "[I", Cond.methodLink RX3 92 yX3_hasPath, Cond.instanceMethod yX3_hasPath, Cond.selects RX3 yX3_hasPath yX3_hasPath, Cond.code yX3_hasPath cX3_hasPath 5 (some .boolean), Cond.methodLink RX3 96 yX3_append, Cond.instanceMethod yX3_append, Cond.selects RX3 yX3_append yX3_append, Cond.code yX3_append cX3_append 4 none]
def wsX3_why : List Cond := .code yX3_why cX3_why 6 (some .int) :: ((wsX3_why_r1 ++ wsX3_why_r2) ++ wsX30)
def wsX3_state : List Cond := .code yX3_state cX3_state 2 (some .int) :: ([.fieldLink RX3 59 "FlatLoaderModel" "thrown" "I", .fieldLink RX3 13 "FlatLoaderModel" "loaded" "[Z", .fieldLink RX3 16 "FlatLoaderModel" "loadable" "[Z", .fieldLink RX3 7 "FlatLoaderModel" "present" "[Z", .methodLink RX3 67 yX3_isModule, .static yX3_isModule, .initialized RX3, .code yX3_isModule cX3_isModule 1 (some .boolean), .methodLink RX3 63 yX3_in, .static yX3_in, .code yX3_in cX3_in 3 (some .boolean), .methodLink RX3 77 yX3_judge, .instanceMethod yX3_judge, .selects RX3 yX3_judge yX3_judge, .code yX3_judge cX3_judge 4 none, .fieldLink RX3 26 "FlatLoaderModel" "many" "[I", .fieldLink RX3 38 "FlatLoaderModel" "required" "[Z", .fieldLink RX3 29 "FlatLoaderModel" "on" "[I"] ++ wsX30)
def wsX3_above : List Cond := .code yX3_above cX3_above 3 (some .int) :: ([.fieldLink RX3 59 "FlatLoaderModel" "thrown" "I", .fieldLink RX3 23 "FlatLoaderModel" "extended" "[I", .methodLink RX3 67 yX3_isModule, .static yX3_isModule, .initialized RX3, .code yX3_isModule cX3_isModule 1 (some .boolean), .methodLink RX3 63 yX3_in, .static yX3_in, .code yX3_in cX3_in 3 (some .boolean)] ++ wsX30)
def wsX3_defined : List Cond := .code yX3_defined cX3_defined 1 (some .int) :: ([.fieldLink RX3 59 "FlatLoaderModel" "thrown" "I", .fieldLink RX3 86 "FlatLoaderModel" "classes" "I"] ++ wsX30)
def wsL_present_r1 : List Cond := [Cond.classLink RL 13 "java/lang/IllegalArgumentException", Cond.classLink RL 15 "java/lang/IllegalStateException", Cond.methodLink RL 7 yX2_present, Cond.instanceMethod yX2_present, Cond.selects RX2 yX2_present yX2_present, Cond.initialized RX2, Cond.code yX2_present cX2_present 2 none, Cond.classLink RX2 41 "java/lang/IllegalArgumentException", Cond.initialized "java/lang/IllegalArgumentException", Cond.classLink RX2 51 "java/lang/IllegalStateException", Cond.initialized "java/lang/IllegalStateException", Cond.fieldLink RX2 16 "FlatLoader" "presentSet" "I", Cond.methodLink RX2 37 yX2_isModule, Cond.static yX2_isModule, Cond.code yX2_isModule cX2_isModule 1 (some .boolean), Cond.methodLink RX2 48 yX2_isPresent, Cond.instanceMethod yX2_isPresent, Cond.selects RX2 yX2_isPresent yX2_isPresent, Cond.code yX2_isPresent cX2_isPresent 2 (some .boolean), Cond.methodLink RX2 108 yX2_isIn, Cond.static yX2_isIn, Cond.code yX2_isIn cX2_isIn 2 (some .boolean), Cond.methodLink RX2 56 yX2_bit, Cond.static yX2_bit]
def wsL_present_r2 : List Cond := [Cond.code yX2_bit cX2_bit 1 (some .int)]
def wsL_present : List Cond := .codeWith yL_present cL_present 3 (some .int) [(0, 5, 8, 13), (0, 5, 11, 15)] :: ((wsL_present_r1 ++ wsL_present_r2) ++ wsX20 ++ (vx_atS RX2 45 "java/lang/IllegalArgumentException" ["java/lang/RuntimeException", "java/lang/Exception"]).filter goodWord ++ (vx_atS RX2 55 "java/lang/IllegalStateException" ["java/lang/RuntimeException", "java/lang/Exception"]).filter goodWord)
def wsL_file_r1 : List Cond := [Cond.classLink RL 13 "java/lang/IllegalArgumentException", Cond.classLink RL 15 "java/lang/IllegalStateException", Cond.methodLink RL 17 yX2_file, Cond.instanceMethod yX2_file, Cond.selects RX2 yX2_file yX2_file, Cond.initialized RX2, Cond.code yX2_file cX2_file 4 none, Cond.classLink RX2 41 "java/lang/IllegalArgumentException", Cond.initialized "java/lang/IllegalArgumentException", Cond.classLink RX2 51 "java/lang/IllegalStateException", Cond.initialized "java/lang/IllegalStateException", Cond.fieldLink RX2 11 "FlatLoader" "modules" "[LFlatLoader$OneModule;", Cond.methodLink RX2 48 yX2_isPresent, Cond.instanceMethod yX2_isPresent, Cond.selects RX2 yX2_isPresent yX2_isPresent, Cond.code yX2_isPresent cX2_isPresent 2 (some .boolean), Cond.fieldLink RX2 16 "FlatLoader" "presentSet" "I", Cond.methodLink RX2 37 yX2_isModule, Cond.static yX2_isModule, Cond.code yX2_isModule cX2_isModule 1 (some .boolean), Cond.methodLink RX2 108 yX2_isIn, Cond.static yX2_isIn, Cond.code yX2_isIn cX2_isIn 2 (some .boolean), Cond.methodLink RX2 60 yX2_isName]
def wsL_file_r2 : List Cond := [Cond.static yX2_isName, Cond.code yX2_isName cX2_isName 1 (some .boolean), Cond.methodLink RX2 63 yX2_isExtended, Cond.static yX2_isExtended, Cond.code yX2_isExtended cX2_isExtended 1 (some .boolean), Cond.methodLink RX2 68 yX2_isLoaded, Cond.instanceMethod yX2_isLoaded, Cond.selects RX2 yX2_isLoaded yX2_isLoaded, Cond.code yX2_isLoaded cX2_isLoaded 2 (some .boolean), Cond.fieldLink RX2 20 "FlatLoader" "loadedSet" "I", Cond.instanceMethod yX0_holds, Cond.initialized RX0, Cond.selects RX0 yX0_holds yX0_holds, Cond.code yX0_holds cX0_holds 2 (some .boolean), Cond.fieldLink RX0 9 "FlatLoader$OneModule" "extended" "[I"]
def wsL_file : List Cond := .codeWith yL_file cL_file 5 (some .int) [(0, 7, 10, 13), (0, 7, 14, 15)] :: ((wsL_file_r1 ++ wsL_file_r2) ++ wsX20 ++ wsX00 ++ (vx_atS RX2 45 "java/lang/IllegalArgumentException" ["java/lang/RuntimeException", "java/lang/Exception"]).filter goodWord ++ (vx_atS RX2 55 "java/lang/IllegalStateException" ["java/lang/RuntimeException", "java/lang/Exception"]).filter goodWord)
def wsL_depend_r1 : List Cond := [Cond.classLink RL 13 "java/lang/IllegalArgumentException", Cond.classLink RL 15 "java/lang/IllegalStateException", Cond.methodLink RL 21 yX2_depend, Cond.instanceMethod yX2_depend, Cond.selects RX2 yX2_depend yX2_depend, Cond.initialized RX2, Cond.code yX2_depend cX2_depend 6 (some .int), Cond.classLink RX2 41 "java/lang/IllegalArgumentException", Cond.initialized "java/lang/IllegalArgumentException", Cond.classLink RX2 51 "java/lang/IllegalStateException", Cond.initialized "java/lang/IllegalStateException", Cond.fieldLink RX2 11 "FlatLoader" "modules" "[LFlatLoader$OneModule;", Cond.methodLink RX2 48 yX2_isPresent, Cond.instanceMethod yX2_isPresent, Cond.selects RX2 yX2_isPresent yX2_isPresent, Cond.code yX2_isPresent cX2_isPresent 2 (some .boolean), Cond.fieldLink RX2 16 "FlatLoader" "presentSet" "I", Cond.methodLink RX2 37 yX2_isModule, Cond.static yX2_isModule, Cond.code yX2_isModule cX2_isModule 1 (some .boolean), Cond.methodLink RX2 108 yX2_isIn, Cond.static yX2_isIn, Cond.code yX2_isIn cX2_isIn 2 (some .boolean), Cond.methodLink RX2 79 yX2_canDependOn]
def wsL_depend_r2 : List Cond := [Cond.static yX2_canDependOn, Cond.code yX2_canDependOn cX2_canDependOn 2 (some .boolean), Cond.methodLink RX2 83 yX2_isPathSet, Cond.static yX2_isPathSet, Cond.code yX2_isPathSet cX2_isPathSet 1 (some .boolean), Cond.methodLink RX2 68 yX2_isLoaded, Cond.instanceMethod yX2_isLoaded, Cond.selects RX2 yX2_isLoaded yX2_isLoaded, Cond.code yX2_isLoaded cX2_isLoaded 2 (some .boolean), Cond.fieldLink RX2 20 "FlatLoader" "loadedSet" "I", Cond.instanceMethod yX0_addDependency, Cond.initialized RX0, Cond.selects RX0 yX0_addDependency yX0_addDependency, Cond.code yX0_addDependency cX0_addDependency 5 none, Cond.fieldLink RX0 18 "FlatLoader$OneModule" "on" "[I", Cond.fieldLink RX0 27 "FlatLoader$OneModule" "dependencies" "I", Cond.fieldLink RX0 21 "FlatLoader$OneModule" "imports" "[I", Cond.fieldLink RX0 24 "FlatLoader$OneModule" "exports" "[I", Cond.fieldLink RX0 31 "FlatLoader$OneModule" "dependedSet" "I", Cond.fieldLink RX0 34 "FlatLoader$OneModule" "requiredSet" "I", Cond.static yX2_bit, Cond.code yX2_bit cX2_bit 1 (some .int)]
def wsL_depend : List Cond := .codeWith yL_depend cL_depend 8 (some .int) [(0, 16, 19, 13), (0, 16, 23, 15)] :: ((wsL_depend_r1 ++ wsL_depend_r2) ++ wsX20 ++ wsX00 ++ (vx_atS RX2 45 "java/lang/IllegalArgumentException" ["java/lang/RuntimeException", "java/lang/Exception"]).filter goodWord ++ (vx_atS RX2 55 "java/lang/IllegalStateException" ["java/lang/RuntimeException", "java/lang/Exception"]).filter goodWord)
def wsL_relink_r1 : List Cond := [Cond.classLink RL 13 "java/lang/IllegalArgumentException", Cond.methodLink RL 25 yX2_relink, Cond.instanceMethod yX2_relink, Cond.selects RX2 yX2_relink yX2_relink, Cond.initialized RX2, Cond.code yX2_relink cX2_relink 3 (some .int), Cond.classLink RX2 41 "java/lang/IllegalArgumentException", Cond.initialized "java/lang/IllegalArgumentException", Cond.fieldLink RX2 11 "FlatLoader" "modules" "[LFlatLoader$OneModule;", Cond.methodLink RX2 48 yX2_isPresent, Cond.instanceMethod yX2_isPresent, Cond.selects RX2 yX2_isPresent yX2_isPresent, Cond.code yX2_isPresent cX2_isPresent 2 (some .boolean), Cond.fieldLink RX2 16 "FlatLoader" "presentSet" "I", Cond.methodLink RX2 37 yX2_isModule, Cond.static yX2_isModule, Cond.code yX2_isModule cX2_isModule 1 (some .boolean), Cond.methodLink RX2 108 yX2_isIn, Cond.static yX2_isIn, Cond.code yX2_isIn cX2_isIn 2 (some .boolean), Cond.instanceMethod yX0_dropDependencies, Cond.initialized RX0, Cond.selects RX0 yX0_dropDependencies yX0_dropDependencies, Cond.code yX0_dropDependencies cX0_dropDependencies 1 none]
def wsL_relink_r2 : List Cond := [Cond.fieldLink RX0 27 "FlatLoader$OneModule" "dependencies" "I", Cond.fieldLink RX0 31 "FlatLoader$OneModule" "dependedSet" "I", Cond.fieldLink RX0 34 "FlatLoader$OneModule" "requiredSet" "I"]
def wsL_relink : List Cond := .codeWith yL_relink cL_relink 4 (some .int) [(0, 9, 12, 13)] :: ((wsL_relink_r1 ++ wsL_relink_r2) ++ wsX20 ++ wsX00 ++ (vx_atS RX2 45 "java/lang/IllegalArgumentException" ["java/lang/RuntimeException", "java/lang/Exception"]).filter goodWord)
def wsL_load_r1 : List Cond := [Cond.classLink RL 13 "java/lang/IllegalArgumentException", Cond.classLink RL 32 "java/util/NoSuchElementException", Cond.methodLink RL 29 yX2_load, Cond.instanceMethod yX2_load, Cond.selects RX2 yX2_load yX2_load, Cond.initialized RX2, Cond.code yX2_load cX2_load 4 (some .int), Cond.classLink RX2 41 "java/lang/IllegalArgumentException", Cond.initialized "java/lang/IllegalArgumentException", Cond.classLink RX2 111 "java/util/NoSuchElementException", Cond.initialized "java/util/NoSuchElementException", Cond.fieldLink RX2 20 "FlatLoader" "loadedSet" "I", Cond.methodLink RX2 37 yX2_isModule, Cond.static yX2_isModule, Cond.code yX2_isModule cX2_isModule 1 (some .boolean), Cond.methodLink RX2 104 yX2_loadableSet, Cond.instanceMethod yX2_loadableSet, Cond.selects RX2 yX2_loadableSet yX2_loadableSet, Cond.code yX2_loadableSet cX2_loadableSet 3 (some .int), Cond.fieldLink RX2 16 "FlatLoader" "presentSet" "I", Cond.methodLink RX2 166 yX2_withoutLacking, Cond.instanceMethod yX2_withoutLacking, Cond.selects RX2 yX2_withoutLacking yX2_withoutLacking, Cond.code yX2_withoutLacking cX2_withoutLacking 4 (some .int)]
def wsL_load_r2 : List Cond := [Cond.fieldLink RX2 11 "FlatLoader" "modules" "[LFlatLoader$OneModule;", Cond.methodLink RX2 56 yX2_bit, Cond.static yX2_bit, Cond.code yX2_bit cX2_bit 1 (some .int), Cond.methodLink RX2 108 yX2_isIn, Cond.static yX2_isIn, Cond.code yX2_isIn cX2_isIn 2 (some .boolean), Cond.methodLink RX2 116 yX2_reachedSet, Cond.instanceMethod yX2_reachedSet, Cond.selects RX2 yX2_reachedSet yX2_reachedSet, Cond.code yX2_reachedSet cX2_reachedSet 5 (some .int), Cond.methodLink RX2 172 yX2_nextTo, Cond.instanceMethod yX2_nextTo, Cond.selects RX2 yX2_nextTo yX2_nextTo, Cond.code yX2_nextTo cX2_nextTo 4 (some .int), Cond.methodLink RX2 120 yJ6_bitCount_0f7a4, Cond.static yJ6_bitCount_0f7a4, Cond.initialized RJ6, Cond.code yJ6_bitCount_0f7a4 cJ6_bitCount_0f7a4 1 (some .int), Cond.constant RJ6 265 (1431655765), Cond.constant RJ6 266 (858993459), Cond.constant RJ6 267 (252645135)]
def wsL_load : List Cond := .codeWith yL_load cL_load 4 (some .int) [(0, 9, 12, 13), (0, 9, 15, 32)] :: ((wsL_load_r1 ++ wsL_load_r2) ++ wsX20 ++ wsX00 ++ (vx_atS RX2 45 "java/lang/IllegalArgumentException" ["java/lang/RuntimeException", "java/lang/Exception"]).filter goodWord ++ (vx_atS RX2 115 "java/util/NoSuchElementException" ["java/lang/RuntimeException", "java/lang/Exception"]).filter goodWord)
def wsL_unload_r1 : List Cond := [Cond.classLink RL 13 "java/lang/IllegalArgumentException", Cond.classLink RL 15 "java/lang/IllegalStateException", Cond.methodLink RL 34 yX2_unload, Cond.instanceMethod yX2_unload, Cond.selects RX2 yX2_unload yX2_unload, Cond.initialized RX2, Cond.code yX2_unload cX2_unload 3 (some .int), Cond.classLink RX2 41 "java/lang/IllegalArgumentException", Cond.initialized "java/lang/IllegalArgumentException", Cond.classLink RX2 51 "java/lang/IllegalStateException", Cond.initialized "java/lang/IllegalStateException", Cond.fieldLink RX2 11 "FlatLoader" "modules" "[LFlatLoader$OneModule;", Cond.fieldLink RX2 20 "FlatLoader" "loadedSet" "I", Cond.methodLink RX2 68 yX2_isLoaded, Cond.instanceMethod yX2_isLoaded, Cond.selects RX2 yX2_isLoaded yX2_isLoaded, Cond.code yX2_isLoaded cX2_isLoaded 2 (some .boolean), Cond.methodLink RX2 37 yX2_isModule, Cond.static yX2_isModule, Cond.code yX2_isModule cX2_isModule 1 (some .boolean), Cond.methodLink RX2 108 yX2_isIn, Cond.static yX2_isIn, Cond.code yX2_isIn cX2_isIn 2 (some .boolean), Cond.methodLink RX2 127 yX2_isHeldByAnother]
def wsL_unload_r2 : List Cond := [Cond.instanceMethod yX2_isHeldByAnother, Cond.selects RX2 yX2_isHeldByAnother yX2_isHeldByAnother, Cond.code yX2_isHeldByAnother cX2_isHeldByAnother 3 (some .boolean), Cond.instanceMethod yX0_hasClassBelow, Cond.initialized RX0, Cond.selects RX0 yX0_hasClassBelow yX0_hasClassBelow, Cond.code yX0_hasClassBelow cX0_hasClassBelow 3 (some .boolean), Cond.fieldLink RX0 15 "FlatLoader$OneModule" "definedAbove" "[I", Cond.instanceMethod yX0_countClasses, Cond.selects RX0 yX0_countClasses yX0_countClasses, Cond.code yX0_countClasses cX0_countClasses 3 (some .int), Cond.methodLink RX0 45 yX0_hasDefined, Cond.instanceMethod yX0_hasDefined, Cond.selects RX0 yX0_hasDefined yX0_hasDefined, Cond.code yX0_hasDefined cX0_hasDefined 2 (some .boolean), Cond.instanceMethod yX0_dropClasses, Cond.selects RX0 yX0_dropClasses yX0_dropClasses, Cond.code yX0_dropClasses cX0_dropClasses 2 none, Cond.methodLink RX2 56 yX2_bit, Cond.static yX2_bit, Cond.code yX2_bit cX2_bit 1 (some .int)]
def wsL_unload : List Cond := .codeWith yL_unload cL_unload 4 (some .int) [(0, 9, 12, 13), (0, 9, 15, 15)] :: ((wsL_unload_r1 ++ wsL_unload_r2) ++ wsX20 ++ wsX00 ++ (vx_atS RX2 45 "java/lang/IllegalArgumentException" ["java/lang/RuntimeException", "java/lang/Exception"]).filter goodWord ++ (vx_atS RX2 55 "java/lang/IllegalStateException" ["java/lang/RuntimeException", "java/lang/Exception"]).filter goodWord)
def wsL_find_r1 : List Cond := [Cond.classLink RL 13 "java/lang/IllegalArgumentException", Cond.classLink RL 32 "java/util/NoSuchElementException", Cond.classLink RL 15 "java/lang/IllegalStateException", Cond.methodLink RL 37 yX2_find, Cond.instanceMethod yX2_find, Cond.selects RX2 yX2_find yX2_find, Cond.initialized RX2, Cond.code yX2_find cX2_find 4 (some .int), Cond.classLink RX2 41 "java/lang/IllegalArgumentException", Cond.initialized "java/lang/IllegalArgumentException", Cond.classLink RX2 111 "java/util/NoSuchElementException", Cond.initialized "java/util/NoSuchElementException", Cond.classLink RX2 51 "java/lang/IllegalStateException", Cond.initialized "java/lang/IllegalStateException", Cond.methodLink RX2 68 yX2_isLoaded, Cond.instanceMethod yX2_isLoaded, Cond.selects RX2 yX2_isLoaded yX2_isLoaded, Cond.code yX2_isLoaded cX2_isLoaded 2 (some .boolean), Cond.fieldLink RX2 20 "FlatLoader" "loadedSet" "I", Cond.methodLink RX2 37 yX2_isModule, Cond.static yX2_isModule, Cond.code yX2_isModule cX2_isModule 1 (some .boolean), Cond.methodLink RX2 108 yX2_isIn, Cond.static yX2_isIn]
def wsL_find_r2 : List Cond := [Cond.code yX2_isIn cX2_isIn 2 (some .boolean), Cond.methodLink RX2 60 yX2_isName, Cond.static yX2_isName, Cond.code yX2_isName cX2_isName 1 (some .boolean), Cond.methodLink RX2 140 yX2_holderSeenFrom, Cond.instanceMethod yX2_holderSeenFrom, Cond.selects RX2 yX2_holderSeenFrom yX2_holderSeenFrom, Cond.code yX2_holderSeenFrom cX2_holderSeenFrom 4 (some .int), Cond.fieldLink RX2 26 "FlatLoader" "row" "LFlatLoader$Row;", Cond.fieldLink RX2 11 "FlatLoader" "modules" "[LFlatLoader$OneModule;", Cond.methodLink RX2 150 yX2_fillVisibleRow, Cond.instanceMethod yX2_fillVisibleRow, Cond.selects RX2 yX2_fillVisibleRow yX2_fillVisibleRow, Cond.code yX2_fillVisibleRow cX2_fillVisibleRow 5 none, Cond.instanceMethod yX1_clear, Cond.initialized RX1, Cond.selects RX1 yX1_clear yX1_clear, Cond.code yX1_clear cX1_clear 1 none, Cond.fieldLink RX1 18 "FlatLoader$Row" "size" "I", Cond.fieldLink RX1 22 "FlatLoader$Row" "memberSet" "I", Cond.fieldLink RX1 25 "FlatLoader$Row" "begun" "I", Cond.instanceMethod yX0_hasPath, Cond.initialized RX0, Cond.selects RX0 yX0_hasPath yX0_hasPath]
def wsL_find_r3 : List Cond := [Cond.code yX0_hasPath cX0_hasPath 3 (some .boolean), Cond.methodLink RX0 37 yX0_holds, Cond.instanceMethod yX0_holds, Cond.selects RX0 yX0_holds yX0_holds, Cond.code yX0_holds cX0_holds 2 (some .boolean), Cond.fieldLink RX0 9 "FlatLoader$OneModule" "extended" "[I", Cond.instanceMethod yX1_addOnceIf, Cond.selects RX1 yX1_addOnceIf yX1_addOnceIf, Cond.code yX1_addOnceIf cX1_addOnceIf 3 none, Cond.fieldLink RX1 9 "FlatLoader$Row" "members" "[I", Cond.static yX2_bit, Cond.code yX2_bit cX2_bit 1 (some .int), Cond.methodLink RX2 197 yX2_addExportedRow, Cond.instanceMethod yX2_addExportedRow, Cond.selects RX2 yX2_addExportedRow yX2_addExportedRow, Cond.code yX2_addExportedRow cX2_addExportedRow 6 none, Cond.methodLink RX2 56 yX2_bit, Cond.methodLink RX2 145 yX2_defineWithAllAbove, Cond.instanceMethod yX2_defineWithAllAbove, Cond.selects RX2 yX2_defineWithAllAbove yX2_defineWithAllAbove, Cond.code yX2_defineWithAllAbove cX2_defineWithAllAbove 6 (some .boolean), Cond.fieldLink RX2 30 "FlatLoader" "chainModules" "[I", Cond.fieldLink RX2 34 "FlatLoader" "chainNames" "[I", Cond.methodLink RX2 207 yX2_needsNoDefining]
def wsL_find_r4 : List Cond := [Cond.instanceMethod yX2_needsNoDefining, Cond.selects RX2 yX2_needsNoDefining yX2_needsNoDefining, Cond.code yX2_needsNoDefining cX2_needsNoDefining 3 (some .boolean), Cond.instanceMethod yX0_hasDefined, Cond.selects RX0 yX0_hasDefined yX0_hasDefined, Cond.code yX0_hasDefined cX0_hasDefined 2 (some .boolean), Cond.fieldLink RX0 15 "FlatLoader$OneModule" "definedAbove" "[I", Cond.methodLink RX2 210 yX2_defineChain, Cond.instanceMethod yX2_defineChain, Cond.selects RX2 yX2_defineChain yX2_defineChain, Cond.code yX2_defineChain cX2_defineChain 5 none]
def wsL_find : List Cond := .codeWith yL_find cL_find 5 (some .int) [(0, 10, 13, 13), (0, 10, 17, 32), (0, 10, 21, 15)] :: ((wsL_find_r1 ++ (wsL_find_r2 ++ (wsL_find_r3 ++ wsL_find_r4))) ++ wsX20 ++ wsX10 ++ wsX00 ++ (vx_atS RX2 45 "java/lang/IllegalArgumentException" ["java/lang/RuntimeException", "java/lang/Exception"]).filter goodWord ++ (vx_atS RX2 115 "java/util/NoSuchElementException" ["java/lang/RuntimeException", "java/lang/Exception"]).filter goodWord ++ (vx_atS RX2 55 "java/lang/IllegalStateException" ["java/lang/RuntimeException", "java/lang/Exception"]).filter goodWord)
def wsL_law0_r1 : List Cond := [Cond.classLink RL 8 RX2, Cond.instantiable RX2 6, Cond.initialized RX2, Cond.classLink RL 42 RX3, Cond.instantiable RX3 19, Cond.initialized RX3, Cond.arrayClass .long, Cond.methodLink RL 41 yX2_init, Cond.instanceMethod yX2_init, Cond.code yX2_init cX2_init 2 none, Cond.methodLink RX2 3 objectInit, Cond.instanceMethod objectInit, Cond.code objectInit ⟨#[0xb1]⟩ 1 none, Cond.classLink RX2 9 RX0, Cond.fieldLink RX2 11 "FlatLoader" "modules" "[LFlatLoader$OneModule;", Cond.instantiable RX0 8, Cond.initialized RX0, Cond.fieldLink RX2 16 "FlatLoader" "presentSet" "I", Cond.fieldLink RX2 20 "FlatLoader" "loadedSet" "I", Cond.classLink RX2 23 RX1, Cond.instantiable RX1 4, Cond.initialized RX1, Cond.fieldLink RX2 26 "FlatLoader" "row" "LFlatLoader$Row;", Cond.arrayClass .int]
def wsL_law0_r2 : List Cond := [Cond.fieldLink RX2 30 "FlatLoader" "chainModules" "[I", Cond.fieldLink RX2 34 "FlatLoader" "chainNames" "[I", Cond.instanceMethod yX0_init, Cond.code yX0_init cX0_init 2 none, Cond.methodLink RX0 3 objectInit, Cond.fieldLink RX0 9 "FlatLoader$OneModule" "extended" "[I", Cond.fieldLink RX0 15 "FlatLoader$OneModule" "definedAbove" "[I", Cond.fieldLink RX0 18 "FlatLoader$OneModule" "on" "[I", Cond.fieldLink RX0 21 "FlatLoader$OneModule" "imports" "[I", Cond.fieldLink RX0 24 "FlatLoader$OneModule" "exports" "[I", Cond.fieldLink RX0 27 "FlatLoader$OneModule" "dependencies" "I", Cond.fieldLink RX0 31 "FlatLoader$OneModule" "dependedSet" "I", Cond.fieldLink RX0 34 "FlatLoader$OneModule" "requiredSet" "I", Cond.instanceMethod yX1_init, Cond.code yX1_init cX1_init 1 none, Cond.methodLink RX1 3 objectInit, Cond.fieldLink RX1 9 "FlatLoader$Row" "members" "[I", Cond.methodLink RX1 15 yX1_clear, Cond.instanceMethod yX1_clear, Cond.selects RX1 yX1_clear yX1_clear, Cond.code yX1_clear cX1_clear 1 none, Cond.fieldLink RX1 18 "FlatLoader$Row" "size" "I", Cond.fieldLink RX1 22 "FlatLoader$Row" "memberSet" "I", Cond.fieldLink RX1 25 "FlatLoader$Row" "begun" "I"]
def wsL_law0_r3 : List Cond := [Cond.methodLink RL 44 yX3_init, Cond.instanceMethod yX3_init, Cond.code yX3_init cX3_init 2 none, Cond.methodLink RX3 1 objectInit, Cond.arrayClass .boolean, Cond.fieldLink RX3 7 "FlatLoaderModel" "present" "[Z", Cond.fieldLink RX3 13 "FlatLoaderModel" "loaded" "[Z", Cond.fieldLink RX3 16 "FlatLoaderModel" "loadable" "[Z", Cond.fieldLink RX3 19 "FlatLoaderModel" "files" "[I", Cond.fieldLink RX3 23 "FlatLoaderModel" "extended" "[I", Cond.fieldLink RX3 26 "FlatLoaderModel" "many" "[I", Cond.fieldLink RX3 29 "FlatLoaderModel" "on" "[I", Cond.fieldLink RX3 32 "FlatLoaderModel" "imports" "[I", Cond.fieldLink RX3 35 "FlatLoaderModel" "exports" "[I", Cond.fieldLink RX3 38 "FlatLoaderModel" "required" "[Z", Cond.fieldLink RX3 41 "FlatLoaderModel" "row" "[I", Cond.fieldLink RX3 44 "FlatLoaderModel" "begun" "[Z", Cond.fieldLink RX3 47 "FlatLoaderModel" "come" "[Z", Cond.fieldLink RX3 50 "FlatLoaderModel" "through" "[I", Cond.fieldLink RX3 53 "FlatLoaderModel" "place" "[I", Cond.fieldLink RX3 56 "FlatLoaderModel" "chain" "[I", Cond.methodLink RL 45 yL_present, Cond.static yL_present, Cond.initialized RL]
def wsL_law0_r4 : List Cond := [Cond.codeWith yL_present cL_present 3 (some .int) [(0, 5, 8, 13), (0, 5, 11, 15)], Cond.classLink RL 13 "java/lang/IllegalArgumentException", Cond.classLink RL 15 "java/lang/IllegalStateException", Cond.methodLink RL 7 yX2_present, Cond.instanceMethod yX2_present, Cond.selects RX2 yX2_present yX2_present, Cond.code yX2_present cX2_present 2 none, Cond.classLink RX2 41 "java/lang/IllegalArgumentException", Cond.initialized "java/lang/IllegalArgumentException", Cond.classLink RX2 51 "java/lang/IllegalStateException", Cond.initialized "java/lang/IllegalStateException", Cond.methodLink RX2 37 yX2_isModule, Cond.static yX2_isModule, Cond.code yX2_isModule cX2_isModule 1 (some .boolean), Cond.methodLink RX2 48 yX2_isPresent, Cond.instanceMethod yX2_isPresent, Cond.selects RX2 yX2_isPresent yX2_isPresent, Cond.code yX2_isPresent cX2_isPresent 2 (some .boolean), Cond.methodLink RX2 108 yX2_isIn, Cond.static yX2_isIn, Cond.code yX2_isIn cX2_isIn 2 (some .boolean), Cond.methodLink RX2 56 yX2_bit, Cond.static yX2_bit, Cond.code yX2_bit cX2_bit 1 (some .int)]
def wsL_law0_r5 : List Cond := [Cond.methodLink RL 50 yX3_present, Cond.instanceMethod yX3_present, Cond.selects RX3 yX3_present yX3_present, Cond.code yX3_present cX3_present 2 none, Cond.methodLink RX3 67 yX3_isModule, Cond.static yX3_isModule, Cond.code yX3_isModule cX3_isModule 1 (some .boolean), Cond.methodLink RX3 63 yX3_in, Cond.static yX3_in, Cond.code yX3_in cX3_in 3 (some .boolean), Cond.methodLink RX3 71 yX3_throwsBy, Cond.instanceMethod yX3_throwsBy, Cond.selects RX3 yX3_throwsBy yX3_throwsBy, Cond.code yX3_throwsBy cX3_throwsBy 2 (some .boolean), Cond.fieldLink RX3 59 "FlatLoaderModel" "thrown" "I", Cond.methodLink RL 51 yX3_thrown, Cond.instanceMethod yX3_thrown, Cond.selects RX3 yX3_thrown yX3_thrown, Cond.code yX3_thrown cX3_thrown 1 (some .int), Cond.methodLink RL 55 yL_file, Cond.static yL_file, Cond.codeWith yL_file cL_file 5 (some .int) [(0, 7, 10, 13), (0, 7, 14, 15)], Cond.methodLink RL 17 yX2_file, Cond.instanceMethod yX2_file]
def wsL_law0_r6 : List Cond := [Cond.selects RX2 yX2_file yX2_file, Cond.code yX2_file cX2_file 4 none, Cond.methodLink RX2 60 yX2_isName, Cond.static yX2_isName, Cond.code yX2_isName cX2_isName 1 (some .boolean), Cond.methodLink RX2 63 yX2_isExtended, Cond.static yX2_isExtended, Cond.code yX2_isExtended cX2_isExtended 1 (some .boolean), Cond.methodLink RX2 68 yX2_isLoaded, Cond.instanceMethod yX2_isLoaded, Cond.selects RX2 yX2_isLoaded yX2_isLoaded, Cond.code yX2_isLoaded cX2_isLoaded 2 (some .boolean), Cond.instanceMethod yX0_holds, Cond.selects RX0 yX0_holds yX0_holds, Cond.code yX0_holds cX0_holds 2 (some .boolean), Cond.methodLink RL 58 yX3_file, Cond.instanceMethod yX3_file, Cond.selects RX3 yX3_file yX3_file, Cond.code yX3_file cX3_file 5 none, Cond.methodLink RX3 74 yX3_isPresent, Cond.instanceMethod yX3_isPresent, Cond.selects RX3 yX3_isPresent yX3_isPresent, Cond.code yX3_isPresent cX3_isPresent 2 (some .boolean), Cond.methodLink RL 59 yL_depend]
def wsL_law0_r7 : List Cond := [Cond.static yL_depend, Cond.codeWith yL_depend cL_depend 8 (some .int) [(0, 16, 19, 13), (0, 16, 23, 15)], Cond.methodLink RL 21 yX2_depend, Cond.instanceMethod yX2_depend, Cond.selects RX2 yX2_depend yX2_depend, Cond.code yX2_depend cX2_depend 6 (some .int), Cond.methodLink RX2 79 yX2_canDependOn, Cond.static yX2_canDependOn, Cond.code yX2_canDependOn cX2_canDependOn 2 (some .boolean), Cond.methodLink RX2 83 yX2_isPathSet, Cond.static yX2_isPathSet, Cond.code yX2_isPathSet cX2_isPathSet 1 (some .boolean), Cond.instanceMethod yX0_addDependency, Cond.selects RX0 yX0_addDependency yX0_addDependency, Cond.code yX0_addDependency cX0_addDependency 5 none, Cond.methodLink RL 62 yX3_depend, Cond.instanceMethod yX3_depend, Cond.selects RX3 yX3_depend yX3_depend, Cond.code yX3_depend cX3_depend 9 (some .int), Cond.methodLink RL 63 yL_relink, Cond.static yL_relink, Cond.codeWith yL_relink cL_relink 4 (some .int) [(0, 9, 12, 13)], Cond.methodLink RL 25 yX2_relink, Cond.instanceMethod yX2_relink]
def wsL_law0_r8 : List Cond := [Cond.selects RX2 yX2_relink yX2_relink, Cond.code yX2_relink cX2_relink 3 (some .int), Cond.instanceMethod yX0_dropDependencies, Cond.selects RX0 yX0_dropDependencies yX0_dropDependencies, Cond.code yX0_dropDependencies cX0_dropDependencies 1 none, Cond.methodLink RL 66 yX3_relink, Cond.instanceMethod yX3_relink, Cond.selects RX3 yX3_relink yX3_relink, Cond.code yX3_relink cX3_relink 3 (some .int), Cond.methodLink RL 67 yL_load, Cond.static yL_load, Cond.codeWith yL_load cL_load 4 (some .int) [(0, 9, 12, 13), (0, 9, 15, 32)], Cond.classLink RL 32 "java/util/NoSuchElementException", Cond.methodLink RL 29 yX2_load, Cond.instanceMethod yX2_load, Cond.selects RX2 yX2_load yX2_load, Cond.code yX2_load cX2_load 4 (some .int), Cond.classLink RX2 111 "java/util/NoSuchElementException", Cond.initialized "java/util/NoSuchElementException", Cond.methodLink RX2 104 yX2_loadableSet, Cond.instanceMethod yX2_loadableSet, Cond.selects RX2 yX2_loadableSet yX2_loadableSet, Cond.code yX2_loadableSet cX2_loadableSet 3 (some .int), Cond.methodLink RX2 166 yX2_withoutLacking]
def wsL_law0_r9 : List Cond := [Cond.instanceMethod yX2_withoutLacking, Cond.selects RX2 yX2_withoutLacking yX2_withoutLacking, Cond.code yX2_withoutLacking cX2_withoutLacking 4 (some .int), Cond.methodLink RX2 116 yX2_reachedSet, Cond.instanceMethod yX2_reachedSet, Cond.selects RX2 yX2_reachedSet yX2_reachedSet, Cond.code yX2_reachedSet cX2_reachedSet 5 (some .int), Cond.methodLink RX2 172 yX2_nextTo, Cond.instanceMethod yX2_nextTo, Cond.selects RX2 yX2_nextTo yX2_nextTo, Cond.code yX2_nextTo cX2_nextTo 4 (some .int), Cond.methodLink RX2 120 yJ6_bitCount_0f7a4, Cond.static yJ6_bitCount_0f7a4, Cond.initialized RJ6, Cond.code yJ6_bitCount_0f7a4 cJ6_bitCount_0f7a4 1 (some .int), Cond.constant RJ6 265 (1431655765), Cond.constant RJ6 266 (858993459), Cond.constant RJ6 267 (252645135), Cond.methodLink RL 69 yX3_load, Cond.instanceMethod yX3_load, Cond.selects RX3 yX3_load yX3_load, Cond.code yX3_load cX3_load 4 (some .int), Cond.methodLink RX3 77 yX3_judge, Cond.instanceMethod yX3_judge]
def wsL_law0_r10 : List Cond := [Cond.selects RX3 yX3_judge yX3_judge, Cond.code yX3_judge cX3_judge 4 none, Cond.methodLink RL 70 yL_unload, Cond.static yL_unload, Cond.codeWith yL_unload cL_unload 4 (some .int) [(0, 9, 12, 13), (0, 9, 15, 15)], Cond.methodLink RL 34 yX2_unload, Cond.instanceMethod yX2_unload, Cond.selects RX2 yX2_unload yX2_unload, Cond.code yX2_unload cX2_unload 3 (some .int), Cond.methodLink RX2 127 yX2_isHeldByAnother, Cond.instanceMethod yX2_isHeldByAnother, Cond.selects RX2 yX2_isHeldByAnother yX2_isHeldByAnother, Cond.code yX2_isHeldByAnother cX2_isHeldByAnother 3 (some .boolean), Cond.instanceMethod yX0_hasClassBelow, Cond.selects RX0 yX0_hasClassBelow yX0_hasClassBelow, Cond.code yX0_hasClassBelow cX0_hasClassBelow 3 (some .boolean), Cond.instanceMethod yX0_countClasses, Cond.selects RX0 yX0_countClasses yX0_countClasses, Cond.code yX0_countClasses cX0_countClasses 3 (some .int), Cond.methodLink RX0 45 yX0_hasDefined, Cond.instanceMethod yX0_hasDefined, Cond.selects RX0 yX0_hasDefined yX0_hasDefined, Cond.code yX0_hasDefined cX0_hasDefined 2 (some .boolean), Cond.instanceMethod yX0_dropClasses]
def wsL_law0_r11 : List Cond := [Cond.selects RX0 yX0_dropClasses yX0_dropClasses, Cond.code yX0_dropClasses cX0_dropClasses 2 none, Cond.methodLink RL 72 yX3_unload, Cond.instanceMethod yX3_unload, Cond.selects RX3 yX3_unload yX3_unload, Cond.code yX3_unload cX3_unload 4 (some .int), Cond.fieldLink RX3 86 "FlatLoaderModel" "classes" "I", Cond.methodLink RX3 80 yX3_isLoaded, Cond.instanceMethod yX3_isLoaded, Cond.selects RX3 yX3_isLoaded yX3_isLoaded, Cond.code yX3_isLoaded cX3_isLoaded 2 (some .boolean), Cond.methodLink RX3 83 yX3_isNeeded, Cond.instanceMethod yX3_isNeeded, Cond.selects RX3 yX3_isNeeded yX3_isNeeded, Cond.code yX3_isNeeded cX3_isNeeded 5 (some .boolean), Cond.methodLink RL 73 yL_find, Cond.static yL_find, Cond.codeWith yL_find cL_find 5 (some .int) [(0, 10, 13, 13), (0, 10, 17, 32), (0, 10, 21, 15)], Cond.methodLink RL 37 yX2_find, Cond.instanceMethod yX2_find, Cond.selects RX2 yX2_find yX2_find, Cond.code yX2_find cX2_find 4 (some .int), Cond.methodLink RX2 140 yX2_holderSeenFrom, Cond.instanceMethod yX2_holderSeenFrom]
def wsL_law0_r12 : List Cond := [Cond.selects RX2 yX2_holderSeenFrom yX2_holderSeenFrom, Cond.code yX2_holderSeenFrom cX2_holderSeenFrom 4 (some .int), Cond.methodLink RX2 150 yX2_fillVisibleRow, Cond.instanceMethod yX2_fillVisibleRow, Cond.selects RX2 yX2_fillVisibleRow yX2_fillVisibleRow, Cond.code yX2_fillVisibleRow cX2_fillVisibleRow 5 none, Cond.instanceMethod yX0_hasPath, Cond.selects RX0 yX0_hasPath yX0_hasPath, Cond.code yX0_hasPath cX0_hasPath 3 (some .boolean), Cond.methodLink RX0 37 yX0_holds, Cond.instanceMethod yX1_addOnceIf, Cond.selects RX1 yX1_addOnceIf yX1_addOnceIf, Cond.code yX1_addOnceIf cX1_addOnceIf 3 none, Cond.methodLink RX2 197 yX2_addExportedRow, Cond.instanceMethod yX2_addExportedRow, Cond.selects RX2 yX2_addExportedRow yX2_addExportedRow, Cond.code yX2_addExportedRow cX2_addExportedRow 6 none, Cond.methodLink RX2 145 yX2_defineWithAllAbove, Cond.instanceMethod yX2_defineWithAllAbove, Cond.selects RX2 yX2_defineWithAllAbove yX2_defineWithAllAbove, Cond.code yX2_defineWithAllAbove cX2_defineWithAllAbove 6 (some .boolean), Cond.methodLink RX2 207 yX2_needsNoDefining, Cond.instanceMethod yX2_needsNoDefining, Cond.selects RX2 yX2_needsNoDefining yX2_needsNoDefining]
def wsL_law0_r13 : List Cond := [Cond.code yX2_needsNoDefining cX2_needsNoDefining 3 (some .boolean), Cond.methodLink RX2 210 yX2_defineChain, Cond.instanceMethod yX2_defineChain, Cond.selects RX2 yX2_defineChain yX2_defineChain, Cond.code yX2_defineChain cX2_defineChain 5 none, Cond.methodLink RL 76 yX3_find, Cond.instanceMethod yX3_find, Cond.selects RX3 yX3_find yX3_find, Cond.code yX3_find cX3_find 7 (some .int), Cond.methodLink RX3 104 yX3_holder, Cond.instanceMethod yX3_holder, Cond.selects RX3 yX3_holder yX3_holder, Cond.code yX3_holder cX3_holder 5 (some .int), Cond.fieldLink RX3 89 "FlatLoaderModel" "size" "I", Cond.methodLink RX3 100 yX3_see, Cond.instanceMethod yX3_see, Cond.selects RX3 yX3_see yX3_see, Cond.code yX3_see cX3_see 7 none, Cond.methodLink RX3 92 yX3_hasPath, Cond.instanceMethod yX3_hasPath, Cond.selects RX3 yX3_hasPath yX3_hasPath, Cond.code yX3_hasPath cX3_hasPath 5 (some .boolean), Cond.methodLink RX3 96 yX3_append, Cond.instanceMethod yX3_append]
def wsL_law0_r14 : List Cond := [Cond.selects RX3 yX3_append yX3_append, Cond.code yX3_append cX3_append 4 none, Cond.methodLink RX3 108 yX3_needs, Cond.instanceMethod yX3_needs, Cond.selects RX3 yX3_needs yX3_needs, Cond.code yX3_needs cX3_needs 9 (some .int), Cond.methodLink RX3 111 yX3_define, Cond.instanceMethod yX3_define, Cond.selects RX3 yX3_define yX3_define, Cond.code yX3_define cX3_define 3 none, Cond.methodLink RL 77 yX2_visible, Cond.instanceMethod yX2_visible, Cond.selects RX2 yX2_visible yX2_visible, Cond.code yX2_visible cX2_visible 4 (some .int), Cond.methodLink RL 81 yX3_visible, Cond.instanceMethod yX3_visible, Cond.selects RX3 yX3_visible yX3_visible, Cond.code yX3_visible cX3_visible 4 (some .int), Cond.methodLink RL 82 yX2_why, Cond.instanceMethod yX2_why, Cond.selects RX2 yX2_why yX2_why, Cond.code yX2_why cX2_why 4 (some .int), Cond.methodLink RX2 160 yX2_holderSet, Cond.instanceMethod yX2_holderSet]
def wsL_law0_r15 : List Cond := [Cond.selects RX2 yX2_holderSet yX2_holderSet, Cond.code yX2_holderSet cX2_holderSet 4 (some .int), Cond.methodLink RL 85 yX3_why, Cond.instanceMethod yX3_why, Cond.selects RX3 yX3_why yX3_why, Cond.code yX3_why cX3_why 6 (some .int), Cond.methodLink RL 86 yX2_state, Cond.instanceMethod yX2_state, Cond.selects RX2 yX2_state yX2_state, Cond.code yX2_state cX2_state 2 (some .int), Cond.methodLink RL 89 yX3_state, Cond.instanceMethod yX3_state, Cond.selects RX3 yX3_state yX3_state, Cond.code yX3_state cX3_state 2 (some .int), Cond.methodLink RL 90 yX2_above, Cond.instanceMethod yX2_above, Cond.selects RX2 yX2_above yX2_above, Cond.code yX2_above cX2_above 3 (some .int), Cond.methodLink RL 93 yX3_above, Cond.instanceMethod yX3_above, Cond.selects RX3 yX3_above yX3_above, Cond.code yX3_above cX3_above 3 (some .int), Cond.methodLink RL 94 yX2_defined, Cond.instanceMethod yX2_defined]
def wsL_law0_r16 : List Cond := [Cond.selects RX2 yX2_defined yX2_defined, Cond.code yX2_defined cX2_defined 3 (some .int), Cond.methodLink RL 97 yX3_defined, Cond.instanceMethod yX3_defined, Cond.selects RX3 yX3_defined yX3_defined, Cond.code yX3_defined cX3_defined 1 (some .int)]
def wsL_law0 : List Cond := (wsL_law0_r1 ++ (wsL_law0_r2 ++ (wsL_law0_r3 ++ (wsL_law0_r4 ++ (wsL_law0_r5 ++ (wsL_law0_r6 ++ (wsL_law0_r7 ++ (wsL_law0_r8 ++ (wsL_law0_r9 ++ (wsL_law0_r10 ++ (wsL_law0_r11 ++ (wsL_law0_r12 ++ (wsL_law0_r13 ++ (wsL_law0_r14 ++ (wsL_law0_r15 ++ wsL_law0_r16))))))))))))))) ++ wsX20 ++ wsX30 ++ wsX00 ++ wsX10 ++ ([] : List Cond)
def wsL_law : List Cond := wsL_law0 ++ (vx_atS RX2 45 "java/lang/IllegalArgumentException" ["java/lang/RuntimeException", "java/lang/Exception"]).filter goodWord ++ (vx_atS RX2 55 "java/lang/IllegalStateException" ["java/lang/RuntimeException", "java/lang/Exception"]).filter goodWord ++ (vx_atS RX2 115 "java/util/NoSuchElementException" ["java/lang/RuntimeException", "java/lang/Exception"]).filter goodWord
theorem inlX0 : ∀ w ∈ wsX00, w ∈ wsL_law := fun _ h => List.mem_append_left _ (List.mem_append_left _ (List.mem_append_left _ (List.mem_append_left _ (List.mem_append_left _ (List.mem_append_right _ h)))))
theorem inlX1 : ∀ w ∈ wsX10, w ∈ wsL_law := fun _ h => List.mem_append_left _ (List.mem_append_left _ (List.mem_append_left _ (List.mem_append_left _ (List.mem_append_right _ h))))
theorem inlX2 : ∀ w ∈ wsX20, w ∈ wsL_law := fun _ h => List.mem_append_left _ (List.mem_append_left _ (List.mem_append_left _ (List.mem_append_left _ (List.mem_append_left _ (List.mem_append_left _ (List.mem_append_left _ (List.mem_append_right _ h)))))))
theorem inlX3 : ∀ w ∈ wsX30, w ∈ wsL_law := fun _ h => List.mem_append_left _ (List.mem_append_left _ (List.mem_append_left _ (List.mem_append_left _ (List.mem_append_left _ (List.mem_append_left _ (List.mem_append_right _ h))))))
theorem dX0_init_0 : decode cX0_init 0 = .ok (.aload_n 0, 1) := by decide +kernel
theorem dX0_init_1 : decode cX0_init 1 = .ok (.invokespecial 3, 3) := by decide +kernel
theorem dX0_init_4 : decode cX0_init 4 = .ok (.aload_n 0, 1) := by decide +kernel
theorem dX0_init_5 : decode cX0_init 5 = .ok (.bipush 24, 2) := by decide +kernel
theorem dX0_init_7 : decode cX0_init 7 = .ok (.newarray .int, 2) := by decide +kernel
theorem dX0_init_9 : decode cX0_init 9 = .ok (.putfield 9, 3) := by decide +kernel
theorem dX0_init_12 : decode cX0_init 12 = .ok (.aload_n 0, 1) := by decide +kernel
theorem dX0_init_13 : decode cX0_init 13 = .ok (.bipush 24, 2) := by decide +kernel
theorem dX0_init_15 : decode cX0_init 15 = .ok (.newarray .int, 2) := by decide +kernel
theorem dX0_init_17 : decode cX0_init 17 = .ok (.putfield 15, 3) := by decide +kernel
theorem dX0_init_20 : decode cX0_init 20 = .ok (.iconst 0, 1) := by decide +kernel
theorem dX0_init_21 : decode cX0_init 21 = .ok (.istore_n 1, 1) := by decide +kernel
theorem dX0_init_22 : decode cX0_init 22 = .ok (.iload_n 1, 1) := by decide +kernel
theorem dX0_init_23 : decode cX0_init 23 = .ok (.bipush 24, 2) := by decide +kernel
theorem dX0_init_25 : decode cX0_init 25 = .ok (.if_icmp .ge 24, 3) := by decide +kernel
theorem dX0_init_28 : decode cX0_init 28 = .ok (.aload_n 0, 1) := by decide +kernel
theorem dX0_init_29 : decode cX0_init 29 = .ok (.getfield 9, 3) := by decide +kernel
theorem dX0_init_32 : decode cX0_init 32 = .ok (.iload_n 1, 1) := by decide +kernel
theorem dX0_init_33 : decode cX0_init 33 = .ok (.bipush (-3), 2) := by decide +kernel
theorem dX0_init_35 : decode cX0_init 35 = .ok (.iastore, 1) := by decide +kernel
theorem dX0_init_36 : decode cX0_init 36 = .ok (.aload_n 0, 1) := by decide +kernel
theorem dX0_init_37 : decode cX0_init 37 = .ok (.getfield 15, 3) := by decide +kernel
theorem dX0_init_40 : decode cX0_init 40 = .ok (.iload_n 1, 1) := by decide +kernel
theorem dX0_init_41 : decode cX0_init 41 = .ok (.iconst (-1), 1) := by decide +kernel
theorem dX0_init_42 : decode cX0_init 42 = .ok (.iastore, 1) := by decide +kernel
theorem dX0_init_43 : decode cX0_init 43 = .ok (.iinc 1 1, 3) := by decide +kernel
theorem dX0_init_46 : decode cX0_init 46 = .ok (.goto (-24), 3) := by decide +kernel
theorem dX0_init_49 : decode cX0_init 49 = .ok (.aload_n 0, 1) := by decide +kernel
theorem dX0_init_50 : decode cX0_init 50 = .ok (.bipush 6, 2) := by decide +kernel
theorem dX0_init_52 : decode cX0_init 52 = .ok (.newarray .int, 2) := by decide +kernel
theorem dX0_init_54 : decode cX0_init 54 = .ok (.putfield 18, 3) := by decide +kernel
theorem dX0_init_57 : decode cX0_init 57 = .ok (.aload_n 0, 1) := by decide +kernel
theorem dX0_init_58 : decode cX0_init 58 = .ok (.bipush 6, 2) := by decide +kernel
theorem dX0_init_60 : decode cX0_init 60 = .ok (.newarray .int, 2) := by decide +kernel
theorem dX0_init_62 : decode cX0_init 62 = .ok (.putfield 21, 3) := by decide +kernel
theorem dX0_init_65 : decode cX0_init 65 = .ok (.aload_n 0, 1) := by decide +kernel
theorem dX0_init_66 : decode cX0_init 66 = .ok (.bipush 6, 2) := by decide +kernel
theorem dX0_init_68 : decode cX0_init 68 = .ok (.newarray .int, 2) := by decide +kernel
theorem dX0_init_70 : decode cX0_init 70 = .ok (.putfield 24, 3) := by decide +kernel
theorem dX0_init_73 : decode cX0_init 73 = .ok (.aload_n 0, 1) := by decide +kernel
theorem dX0_init_74 : decode cX0_init 74 = .ok (.iconst 0, 1) := by decide +kernel
theorem dX0_init_75 : decode cX0_init 75 = .ok (.putfield 27, 3) := by decide +kernel
theorem dX0_init_78 : decode cX0_init 78 = .ok (.aload_n 0, 1) := by decide +kernel
theorem dX0_init_79 : decode cX0_init 79 = .ok (.iconst 0, 1) := by decide +kernel
theorem dX0_init_80 : decode cX0_init 80 = .ok (.putfield 31, 3) := by decide +kernel
theorem dX0_init_83 : decode cX0_init 83 = .ok (.aload_n 0, 1) := by decide +kernel
theorem dX0_init_84 : decode cX0_init 84 = .ok (.iconst 0, 1) := by decide +kernel
theorem dX0_init_85 : decode cX0_init 85 = .ok (.putfield 34, 3) := by decide +kernel
theorem dX0_init_88 : decode cX0_init 88 = .ok (.return_, 1) := by decide +kernel
theorem dX0_holds_0 : decode cX0_holds 0 = .ok (.aload_n 0, 1) := by decide +kernel
theorem dX0_holds_1 : decode cX0_holds 1 = .ok (.getfield 9, 3) := by decide +kernel
theorem dX0_holds_4 : decode cX0_holds 4 = .ok (.iload_n 1, 1) := by decide +kernel
theorem dX0_holds_5 : decode cX0_holds 5 = .ok (.iaload, 1) := by decide +kernel
theorem dX0_holds_6 : decode cX0_holds 6 = .ok (.bipush (-3), 2) := by decide +kernel
theorem dX0_holds_8 : decode cX0_holds 8 = .ok (.if_icmp .eq 7, 3) := by decide +kernel
theorem dX0_holds_11 : decode cX0_holds 11 = .ok (.iconst 1, 1) := by decide +kernel
theorem dX0_holds_12 : decode cX0_holds 12 = .ok (.goto 4, 3) := by decide +kernel
theorem dX0_holds_15 : decode cX0_holds 15 = .ok (.iconst 0, 1) := by decide +kernel
theorem dX0_holds_16 : decode cX0_holds 16 = .ok (.ireturn, 1) := by decide +kernel
set_option maxRecDepth 20000 in
theorem ggX0_hasPath_X0_holds : GoodIn wsX0_hasPath wsX0_holds := goodIn_r _ [5, 6, 7, 8, 9, 10, 11, 12, 13, 14] (by decide +kernel) (by decide +kernel)
set_option maxRecDepth 20000 in
theorem gX0_hasPath_X0_holds : GoodIn wsX0_hasPath (wsV RX0 37 RX0 yX0_holds wsX0_holds) := goodIn_app (goodIn_of _ (by decide +kernel)) ggX0_hasPath_X0_holds
theorem dX0_hasPath_0 : decode cX0_hasPath 0 = .ok (.iconst 0, 1) := by decide +kernel
theorem dX0_hasPath_1 : decode cX0_hasPath 1 = .ok (.istore_n 2, 1) := by decide +kernel
theorem dX0_hasPath_2 : decode cX0_hasPath 2 = .ok (.iload_n 2, 1) := by decide +kernel
theorem dX0_hasPath_3 : decode cX0_hasPath 3 = .ok (.iconst 4, 1) := by decide +kernel
theorem dX0_hasPath_4 : decode cX0_hasPath 4 = .ok (.if_icmp .ge 23, 3) := by decide +kernel
theorem dX0_hasPath_7 : decode cX0_hasPath 7 = .ok (.aload_n 0, 1) := by decide +kernel
theorem dX0_hasPath_8 : decode cX0_hasPath 8 = .ok (.iload_n 1, 1) := by decide +kernel
theorem dX0_hasPath_9 : decode cX0_hasPath 9 = .ok (.iconst 4, 1) := by decide +kernel
theorem dX0_hasPath_10 : decode cX0_hasPath 10 = .ok (.imul, 1) := by decide +kernel
theorem dX0_hasPath_11 : decode cX0_hasPath 11 = .ok (.iload_n 2, 1) := by decide +kernel
theorem dX0_hasPath_12 : decode cX0_hasPath 12 = .ok (.iadd, 1) := by decide +kernel
theorem dX0_hasPath_13 : decode cX0_hasPath 13 = .ok (.invokevirtual 37, 3) := by decide +kernel
theorem dX0_hasPath_16 : decode cX0_hasPath 16 = .ok (.ifCond .eq 5, 3) := by decide +kernel
theorem dX0_hasPath_19 : decode cX0_hasPath 19 = .ok (.iconst 1, 1) := by decide +kernel
theorem dX0_hasPath_20 : decode cX0_hasPath 20 = .ok (.ireturn, 1) := by decide +kernel
theorem dX0_hasPath_21 : decode cX0_hasPath 21 = .ok (.iinc 2 1, 3) := by decide +kernel
theorem dX0_hasPath_24 : decode cX0_hasPath 24 = .ok (.goto (-22), 3) := by decide +kernel
theorem dX0_hasPath_27 : decode cX0_hasPath 27 = .ok (.iconst 0, 1) := by decide +kernel
theorem dX0_hasPath_28 : decode cX0_hasPath 28 = .ok (.ireturn, 1) := by decide +kernel
set_option maxRecDepth 20000 in
theorem ggX0_addDependency_X2_bit : GoodIn wsX0_addDependency wsX2_bit := goodIn_r _ [9] (by decide +kernel) (by decide +kernel)
set_option maxRecDepth 20000 in
theorem gX0_addDependency_X2_bit_n41 : GoodIn wsX0_addDependency (wsX2_bit) := ggX0_addDependency_X2_bit
theorem dX0_addDependency_0 : decode cX0_addDependency 0 = .ok (.aload_n 0, 1) := by decide +kernel
theorem dX0_addDependency_1 : decode cX0_addDependency 1 = .ok (.getfield 18, 3) := by decide +kernel
theorem dX0_addDependency_4 : decode cX0_addDependency 4 = .ok (.aload_n 0, 1) := by decide +kernel
theorem dX0_addDependency_5 : decode cX0_addDependency 5 = .ok (.getfield 27, 3) := by decide +kernel
theorem dX0_addDependency_8 : decode cX0_addDependency 8 = .ok (.iload_n 1, 1) := by decide +kernel
theorem dX0_addDependency_9 : decode cX0_addDependency 9 = .ok (.iastore, 1) := by decide +kernel
theorem dX0_addDependency_10 : decode cX0_addDependency 10 = .ok (.aload_n 0, 1) := by decide +kernel
theorem dX0_addDependency_11 : decode cX0_addDependency 11 = .ok (.getfield 21, 3) := by decide +kernel
theorem dX0_addDependency_14 : decode cX0_addDependency 14 = .ok (.aload_n 0, 1) := by decide +kernel
theorem dX0_addDependency_15 : decode cX0_addDependency 15 = .ok (.getfield 27, 3) := by decide +kernel
theorem dX0_addDependency_18 : decode cX0_addDependency 18 = .ok (.iload_n 2, 1) := by decide +kernel
theorem dX0_addDependency_19 : decode cX0_addDependency 19 = .ok (.iastore, 1) := by decide +kernel
theorem dX0_addDependency_20 : decode cX0_addDependency 20 = .ok (.aload_n 0, 1) := by decide +kernel
theorem dX0_addDependency_21 : decode cX0_addDependency 21 = .ok (.getfield 24, 3) := by decide +kernel
theorem dX0_addDependency_24 : decode cX0_addDependency 24 = .ok (.aload_n 0, 1) := by decide +kernel
theorem dX0_addDependency_25 : decode cX0_addDependency 25 = .ok (.getfield 27, 3) := by decide +kernel
theorem dX0_addDependency_28 : decode cX0_addDependency 28 = .ok (.iload_n 3, 1) := by decide +kernel
theorem dX0_addDependency_29 : decode cX0_addDependency 29 = .ok (.iastore, 1) := by decide +kernel
theorem dX0_addDependency_30 : decode cX0_addDependency 30 = .ok (.aload_n 0, 1) := by decide +kernel
theorem dX0_addDependency_31 : decode cX0_addDependency 31 = .ok (.dup, 1) := by decide +kernel
theorem dX0_addDependency_32 : decode cX0_addDependency 32 = .ok (.getfield 27, 3) := by decide +kernel
theorem dX0_addDependency_35 : decode cX0_addDependency 35 = .ok (.iconst 1, 1) := by decide +kernel
theorem dX0_addDependency_36 : decode cX0_addDependency 36 = .ok (.iadd, 1) := by decide +kernel
theorem dX0_addDependency_37 : decode cX0_addDependency 37 = .ok (.putfield 27, 3) := by decide +kernel
theorem dX0_addDependency_40 : decode cX0_addDependency 40 = .ok (.iload_n 1, 1) := by decide +kernel
theorem dX0_addDependency_41 : decode cX0_addDependency 41 = .ok (.iconst (-1), 1) := by decide +kernel
theorem dX0_addDependency_42 : decode cX0_addDependency 42 = .ok (.if_icmp .eq 38, 3) := by decide +kernel
theorem dX0_addDependency_45 : decode cX0_addDependency 45 = .ok (.aload_n 0, 1) := by decide +kernel
theorem dX0_addDependency_46 : decode cX0_addDependency 46 = .ok (.dup, 1) := by decide +kernel
theorem dX0_addDependency_47 : decode cX0_addDependency 47 = .ok (.getfield 31, 3) := by decide +kernel
theorem dX0_addDependency_50 : decode cX0_addDependency 50 = .ok (.iload_n 1, 1) := by decide +kernel
theorem dX0_addDependency_51 : decode cX0_addDependency 51 = .ok (.invokestatic 41, 3) := by decide +kernel
theorem dX0_addDependency_54 : decode cX0_addDependency 54 = .ok (.ior, 1) := by decide +kernel
theorem dX0_addDependency_55 : decode cX0_addDependency 55 = .ok (.putfield 31, 3) := by decide +kernel
theorem dX0_addDependency_58 : decode cX0_addDependency 58 = .ok (.aload_n 0, 1) := by decide +kernel
theorem dX0_addDependency_59 : decode cX0_addDependency 59 = .ok (.dup, 1) := by decide +kernel
theorem dX0_addDependency_60 : decode cX0_addDependency 60 = .ok (.getfield 34, 3) := by decide +kernel
theorem dX0_addDependency_63 : decode cX0_addDependency 63 = .ok (.iload 4, 2) := by decide +kernel
theorem dX0_addDependency_65 : decode cX0_addDependency 65 = .ok (.ifCond .eq 10, 3) := by decide +kernel
theorem dX0_addDependency_68 : decode cX0_addDependency 68 = .ok (.iload_n 1, 1) := by decide +kernel
theorem dX0_addDependency_69 : decode cX0_addDependency 69 = .ok (.invokestatic 41, 3) := by decide +kernel
theorem dX0_addDependency_72 : decode cX0_addDependency 72 = .ok (.goto 4, 3) := by decide +kernel
theorem dX0_addDependency_75 : decode cX0_addDependency 75 = .ok (.iconst 0, 1) := by decide +kernel
theorem dX0_addDependency_76 : decode cX0_addDependency 76 = .ok (.ior, 1) := by decide +kernel
theorem dX0_addDependency_77 : decode cX0_addDependency 77 = .ok (.putfield 34, 3) := by decide +kernel
theorem dX0_addDependency_80 : decode cX0_addDependency 80 = .ok (.return_, 1) := by decide +kernel
theorem dX0_dropDependencies_0 : decode cX0_dropDependencies 0 = .ok (.aload_n 0, 1) := by decide +kernel
theorem dX0_dropDependencies_1 : decode cX0_dropDependencies 1 = .ok (.iconst 0, 1) := by decide +kernel
theorem dX0_dropDependencies_2 : decode cX0_dropDependencies 2 = .ok (.putfield 27, 3) := by decide +kernel
theorem dX0_dropDependencies_5 : decode cX0_dropDependencies 5 = .ok (.aload_n 0, 1) := by decide +kernel
theorem dX0_dropDependencies_6 : decode cX0_dropDependencies 6 = .ok (.iconst 0, 1) := by decide +kernel
theorem dX0_dropDependencies_7 : decode cX0_dropDependencies 7 = .ok (.putfield 31, 3) := by decide +kernel
theorem dX0_dropDependencies_10 : decode cX0_dropDependencies 10 = .ok (.aload_n 0, 1) := by decide +kernel
theorem dX0_dropDependencies_11 : decode cX0_dropDependencies 11 = .ok (.iconst 0, 1) := by decide +kernel
theorem dX0_dropDependencies_12 : decode cX0_dropDependencies 12 = .ok (.putfield 34, 3) := by decide +kernel
theorem dX0_dropDependencies_15 : decode cX0_dropDependencies 15 = .ok (.return_, 1) := by decide +kernel
theorem dX0_hasDefined_0 : decode cX0_hasDefined 0 = .ok (.aload_n 0, 1) := by decide +kernel
theorem dX0_hasDefined_1 : decode cX0_hasDefined 1 = .ok (.getfield 15, 3) := by decide +kernel
theorem dX0_hasDefined_4 : decode cX0_hasDefined 4 = .ok (.iload_n 1, 1) := by decide +kernel
theorem dX0_hasDefined_5 : decode cX0_hasDefined 5 = .ok (.iaload, 1) := by decide +kernel
theorem dX0_hasDefined_6 : decode cX0_hasDefined 6 = .ok (.iconst (-1), 1) := by decide +kernel
theorem dX0_hasDefined_7 : decode cX0_hasDefined 7 = .ok (.if_icmp .eq 7, 3) := by decide +kernel
theorem dX0_hasDefined_10 : decode cX0_hasDefined 10 = .ok (.iconst 1, 1) := by decide +kernel
theorem dX0_hasDefined_11 : decode cX0_hasDefined 11 = .ok (.goto 4, 3) := by decide +kernel
theorem dX0_hasDefined_14 : decode cX0_hasDefined 14 = .ok (.iconst 0, 1) := by decide +kernel
theorem dX0_hasDefined_15 : decode cX0_hasDefined 15 = .ok (.ireturn, 1) := by decide +kernel
set_option maxRecDepth 20000 in
theorem ggX0_countClasses_X0_hasDefined : GoodIn wsX0_countClasses wsX0_hasDefined := goodIn_r _ [5, 6, 7, 8, 9, 10, 11, 12, 13, 14] (by decide +kernel) (by decide +kernel)
set_option maxRecDepth 20000 in
theorem gX0_countClasses_X0_hasDefined : GoodIn wsX0_countClasses (wsV RX0 45 RX0 yX0_hasDefined wsX0_hasDefined) := goodIn_app (goodIn_of _ (by decide +kernel)) ggX0_countClasses_X0_hasDefined
theorem dX0_countClasses_0 : decode cX0_countClasses 0 = .ok (.iconst 0, 1) := by decide +kernel
theorem dX0_countClasses_1 : decode cX0_countClasses 1 = .ok (.istore_n 1, 1) := by decide +kernel
theorem dX0_countClasses_2 : decode cX0_countClasses 2 = .ok (.iconst 0, 1) := by decide +kernel
theorem dX0_countClasses_3 : decode cX0_countClasses 3 = .ok (.istore_n 2, 1) := by decide +kernel
theorem dX0_countClasses_4 : decode cX0_countClasses 4 = .ok (.iload_n 2, 1) := by decide +kernel
theorem dX0_countClasses_5 : decode cX0_countClasses 5 = .ok (.bipush 24, 2) := by decide +kernel
theorem dX0_countClasses_7 : decode cX0_countClasses 7 = .ok (.if_icmp .ge 20, 3) := by decide +kernel
theorem dX0_countClasses_10 : decode cX0_countClasses 10 = .ok (.aload_n 0, 1) := by decide +kernel
theorem dX0_countClasses_11 : decode cX0_countClasses 11 = .ok (.iload_n 2, 1) := by decide +kernel
theorem dX0_countClasses_12 : decode cX0_countClasses 12 = .ok (.invokevirtual 45, 3) := by decide +kernel
theorem dX0_countClasses_15 : decode cX0_countClasses 15 = .ok (.ifCond .eq 6, 3) := by decide +kernel
theorem dX0_countClasses_18 : decode cX0_countClasses 18 = .ok (.iinc 1 1, 3) := by decide +kernel
theorem dX0_countClasses_21 : decode cX0_countClasses 21 = .ok (.iinc 2 1, 3) := by decide +kernel
theorem dX0_countClasses_24 : decode cX0_countClasses 24 = .ok (.goto (-20), 3) := by decide +kernel
theorem dX0_countClasses_27 : decode cX0_countClasses 27 = .ok (.iload_n 1, 1) := by decide +kernel
theorem dX0_countClasses_28 : decode cX0_countClasses 28 = .ok (.ireturn, 1) := by decide +kernel
theorem dX0_dropClasses_0 : decode cX0_dropClasses 0 = .ok (.iconst 0, 1) := by decide +kernel
theorem dX0_dropClasses_1 : decode cX0_dropClasses 1 = .ok (.istore_n 1, 1) := by decide +kernel
theorem dX0_dropClasses_2 : decode cX0_dropClasses 2 = .ok (.iload_n 1, 1) := by decide +kernel
theorem dX0_dropClasses_3 : decode cX0_dropClasses 3 = .ok (.bipush 24, 2) := by decide +kernel
theorem dX0_dropClasses_5 : decode cX0_dropClasses 5 = .ok (.if_icmp .ge 16, 3) := by decide +kernel
theorem dX0_dropClasses_8 : decode cX0_dropClasses 8 = .ok (.aload_n 0, 1) := by decide +kernel
theorem dX0_dropClasses_9 : decode cX0_dropClasses 9 = .ok (.getfield 15, 3) := by decide +kernel
theorem dX0_dropClasses_12 : decode cX0_dropClasses 12 = .ok (.iload_n 1, 1) := by decide +kernel
theorem dX0_dropClasses_13 : decode cX0_dropClasses 13 = .ok (.iconst (-1), 1) := by decide +kernel
theorem dX0_dropClasses_14 : decode cX0_dropClasses 14 = .ok (.iastore, 1) := by decide +kernel
theorem dX0_dropClasses_15 : decode cX0_dropClasses 15 = .ok (.iinc 1 1, 3) := by decide +kernel
theorem dX0_dropClasses_18 : decode cX0_dropClasses 18 = .ok (.goto (-16), 3) := by decide +kernel
theorem dX0_dropClasses_21 : decode cX0_dropClasses 21 = .ok (.return_, 1) := by decide +kernel
theorem dX0_hasClassBelow_0 : decode cX0_hasClassBelow 0 = .ok (.iconst 0, 1) := by decide +kernel
theorem dX0_hasClassBelow_1 : decode cX0_hasClassBelow 1 = .ok (.istore_n 2, 1) := by decide +kernel
theorem dX0_hasClassBelow_2 : decode cX0_hasClassBelow 2 = .ok (.iload_n 2, 1) := by decide +kernel
theorem dX0_hasClassBelow_3 : decode cX0_hasClassBelow 3 = .ok (.bipush 24, 2) := by decide +kernel
theorem dX0_hasClassBelow_5 : decode cX0_hasClassBelow 5 = .ok (.if_icmp .ge 21, 3) := by decide +kernel
theorem dX0_hasClassBelow_8 : decode cX0_hasClassBelow 8 = .ok (.aload_n 0, 1) := by decide +kernel
theorem dX0_hasClassBelow_9 : decode cX0_hasClassBelow 9 = .ok (.getfield 15, 3) := by decide +kernel
theorem dX0_hasClassBelow_12 : decode cX0_hasClassBelow 12 = .ok (.iload_n 2, 1) := by decide +kernel
theorem dX0_hasClassBelow_13 : decode cX0_hasClassBelow 13 = .ok (.iaload, 1) := by decide +kernel
theorem dX0_hasClassBelow_14 : decode cX0_hasClassBelow 14 = .ok (.iload_n 1, 1) := by decide +kernel
theorem dX0_hasClassBelow_15 : decode cX0_hasClassBelow 15 = .ok (.if_icmp .ne 5, 3) := by decide +kernel
theorem dX0_hasClassBelow_18 : decode cX0_hasClassBelow 18 = .ok (.iconst 1, 1) := by decide +kernel
theorem dX0_hasClassBelow_19 : decode cX0_hasClassBelow 19 = .ok (.ireturn, 1) := by decide +kernel
theorem dX0_hasClassBelow_20 : decode cX0_hasClassBelow 20 = .ok (.iinc 2 1, 3) := by decide +kernel
theorem dX0_hasClassBelow_23 : decode cX0_hasClassBelow 23 = .ok (.goto (-21), 3) := by decide +kernel
theorem dX0_hasClassBelow_26 : decode cX0_hasClassBelow 26 = .ok (.iconst 0, 1) := by decide +kernel
theorem dX0_hasClassBelow_27 : decode cX0_hasClassBelow 27 = .ok (.ireturn, 1) := by decide +kernel
set_option maxRecDepth 20000 in
theorem ggX1_init_X1_clear : GoodIn wsX1_init wsX1_clear := goodIn_r _ [10, 11, 12, 13, 14, 15, 16, 17] (by decide +kernel) (by decide +kernel)
set_option maxRecDepth 20000 in
theorem gX1_init_X1_clear : GoodIn wsX1_init (wsV RX1 15 RX1 yX1_clear wsX1_clear) := goodIn_app (goodIn_of _ (by decide +kernel)) ggX1_init_X1_clear
theorem dX1_init_0 : decode cX1_init 0 = .ok (.aload_n 0, 1) := by decide +kernel
theorem dX1_init_1 : decode cX1_init 1 = .ok (.invokespecial 3, 3) := by decide +kernel
theorem dX1_init_4 : decode cX1_init 4 = .ok (.aload_n 0, 1) := by decide +kernel
theorem dX1_init_5 : decode cX1_init 5 = .ok (.bipush 8, 2) := by decide +kernel
theorem dX1_init_7 : decode cX1_init 7 = .ok (.newarray .int, 2) := by decide +kernel
theorem dX1_init_9 : decode cX1_init 9 = .ok (.putfield 9, 3) := by decide +kernel
theorem dX1_init_12 : decode cX1_init 12 = .ok (.aload_n 0, 1) := by decide +kernel
theorem dX1_init_13 : decode cX1_init 13 = .ok (.invokevirtual 15, 3) := by decide +kernel
theorem dX1_init_16 : decode cX1_init 16 = .ok (.return_, 1) := by decide +kernel
theorem dX1_clear_0 : decode cX1_clear 0 = .ok (.aload_n 0, 1) := by decide +kernel
theorem dX1_clear_1 : decode cX1_clear 1 = .ok (.iconst 0, 1) := by decide +kernel
theorem dX1_clear_2 : decode cX1_clear 2 = .ok (.putfield 18, 3) := by decide +kernel
theorem dX1_clear_5 : decode cX1_clear 5 = .ok (.aload_n 0, 1) := by decide +kernel
theorem dX1_clear_6 : decode cX1_clear 6 = .ok (.iconst 0, 1) := by decide +kernel
theorem dX1_clear_7 : decode cX1_clear 7 = .ok (.putfield 22, 3) := by decide +kernel
theorem dX1_clear_10 : decode cX1_clear 10 = .ok (.aload_n 0, 1) := by decide +kernel
theorem dX1_clear_11 : decode cX1_clear 11 = .ok (.iconst 0, 1) := by decide +kernel
theorem dX1_clear_12 : decode cX1_clear 12 = .ok (.putfield 25, 3) := by decide +kernel
theorem dX1_clear_15 : decode cX1_clear 15 = .ok (.return_, 1) := by decide +kernel
set_option maxRecDepth 20000 in
theorem ggX1_addOnceIf_X2_isIn : GoodIn wsX1_addOnceIf wsX2_isIn := goodIn_r _ [6] (by decide +kernel) (by decide +kernel)
set_option maxRecDepth 20000 in
theorem gX1_addOnceIf_X2_isIn_n28 : GoodIn wsX1_addOnceIf (wsX2_isIn) := ggX1_addOnceIf_X2_isIn
set_option maxRecDepth 20000 in
theorem ggX1_addOnceIf_X2_bit : GoodIn wsX1_addOnceIf wsX2_bit := goodIn_r _ [8] (by decide +kernel) (by decide +kernel)
set_option maxRecDepth 20000 in
theorem gX1_addOnceIf_X2_bit_n32 : GoodIn wsX1_addOnceIf (wsX2_bit) := ggX1_addOnceIf_X2_bit
theorem dX1_addOnceIf_0 : decode cX1_addOnceIf 0 = .ok (.iload_n 1, 1) := by decide +kernel
theorem dX1_addOnceIf_1 : decode cX1_addOnceIf 1 = .ok (.ifCond .eq 56, 3) := by decide +kernel
theorem dX1_addOnceIf_4 : decode cX1_addOnceIf 4 = .ok (.aload_n 0, 1) := by decide +kernel
theorem dX1_addOnceIf_5 : decode cX1_addOnceIf 5 = .ok (.getfield 18, 3) := by decide +kernel
theorem dX1_addOnceIf_8 : decode cX1_addOnceIf 8 = .ok (.bipush 8, 2) := by decide +kernel
theorem dX1_addOnceIf_10 : decode cX1_addOnceIf 10 = .ok (.if_icmp .ge 47, 3) := by decide +kernel
theorem dX1_addOnceIf_13 : decode cX1_addOnceIf 13 = .ok (.aload_n 0, 1) := by decide +kernel
theorem dX1_addOnceIf_14 : decode cX1_addOnceIf 14 = .ok (.getfield 22, 3) := by decide +kernel
theorem dX1_addOnceIf_17 : decode cX1_addOnceIf 17 = .ok (.iload_n 2, 1) := by decide +kernel
theorem dX1_addOnceIf_18 : decode cX1_addOnceIf 18 = .ok (.invokestatic 28, 3) := by decide +kernel
theorem dX1_addOnceIf_21 : decode cX1_addOnceIf 21 = .ok (.ifCond .ne 36, 3) := by decide +kernel
theorem dX1_addOnceIf_24 : decode cX1_addOnceIf 24 = .ok (.aload_n 0, 1) := by decide +kernel
theorem dX1_addOnceIf_25 : decode cX1_addOnceIf 25 = .ok (.getfield 9, 3) := by decide +kernel
theorem dX1_addOnceIf_28 : decode cX1_addOnceIf 28 = .ok (.aload_n 0, 1) := by decide +kernel
theorem dX1_addOnceIf_29 : decode cX1_addOnceIf 29 = .ok (.getfield 18, 3) := by decide +kernel
theorem dX1_addOnceIf_32 : decode cX1_addOnceIf 32 = .ok (.iload_n 2, 1) := by decide +kernel
theorem dX1_addOnceIf_33 : decode cX1_addOnceIf 33 = .ok (.iastore, 1) := by decide +kernel
theorem dX1_addOnceIf_34 : decode cX1_addOnceIf 34 = .ok (.aload_n 0, 1) := by decide +kernel
theorem dX1_addOnceIf_35 : decode cX1_addOnceIf 35 = .ok (.dup, 1) := by decide +kernel
theorem dX1_addOnceIf_36 : decode cX1_addOnceIf 36 = .ok (.getfield 18, 3) := by decide +kernel
theorem dX1_addOnceIf_39 : decode cX1_addOnceIf 39 = .ok (.iconst 1, 1) := by decide +kernel
theorem dX1_addOnceIf_40 : decode cX1_addOnceIf 40 = .ok (.iadd, 1) := by decide +kernel
theorem dX1_addOnceIf_41 : decode cX1_addOnceIf 41 = .ok (.putfield 18, 3) := by decide +kernel
theorem dX1_addOnceIf_44 : decode cX1_addOnceIf 44 = .ok (.aload_n 0, 1) := by decide +kernel
theorem dX1_addOnceIf_45 : decode cX1_addOnceIf 45 = .ok (.dup, 1) := by decide +kernel
end
section
theorem dX1_addOnceIf_46 : decode cX1_addOnceIf 46 = .ok (.getfield 22, 3) := by decide +kernel
theorem dX1_addOnceIf_49 : decode cX1_addOnceIf 49 = .ok (.iload_n 2, 1) := by decide +kernel
theorem dX1_addOnceIf_50 : decode cX1_addOnceIf 50 = .ok (.invokestatic 32, 3) := by decide +kernel
theorem dX1_addOnceIf_53 : decode cX1_addOnceIf 53 = .ok (.ior, 1) := by decide +kernel
theorem dX1_addOnceIf_54 : decode cX1_addOnceIf 54 = .ok (.putfield 22, 3) := by decide +kernel
theorem dX1_addOnceIf_57 : decode cX1_addOnceIf 57 = .ok (.return_, 1) := by decide +kernel
set_option maxRecDepth 20000 in
theorem ggX2_init_X0_init : GoodIn wsX2_init wsX0_init := goodIn_r _ [18, 19, 2, 3, 14, 20, 21, 22, 23, 24, 25, 26, 27, 45, 46, 47, 48, 49, 50, 51, 52] (by decide +kernel) (by decide +kernel)
set_option maxRecDepth 20000 in
theorem gX2_init_X0_init_n15 : GoodIn wsX2_init (wsX0_init) := ggX2_init_X0_init
set_option maxRecDepth 20000 in
theorem ggX2_init_X1_init : GoodIn wsX2_init wsX1_init := goodIn_r _ [29, 30, 2, 3, 14, 31, 32, 33, 34, 12, 35, 36, 37, 38, 53, 54, 55, 56] (by decide +kernel) (by decide +kernel)
set_option maxRecDepth 20000 in
theorem gX2_init_X1_init_n25 : GoodIn wsX2_init (wsX1_init) := ggX2_init_X1_init
theorem dX2_init_0 : decode cX2_init 0 = .ok (.aload_n 0, 1) := by decide +kernel
theorem dX2_init_1 : decode cX2_init 1 = .ok (.invokespecial 3, 3) := by decide +kernel
theorem dX2_init_4 : decode cX2_init 4 = .ok (.aload_n 0, 1) := by decide +kernel
theorem dX2_init_5 : decode cX2_init 5 = .ok (.bipush 8, 2) := by decide +kernel
theorem dX2_init_7 : decode cX2_init 7 = .ok (.anewarray 9, 3) := by decide +kernel
theorem dX2_init_10 : decode cX2_init 10 = .ok (.putfield 11, 3) := by decide +kernel
theorem dX2_init_13 : decode cX2_init 13 = .ok (.iconst 0, 1) := by decide +kernel
theorem dX2_init_14 : decode cX2_init 14 = .ok (.istore_n 1, 1) := by decide +kernel
theorem dX2_init_15 : decode cX2_init 15 = .ok (.iload_n 1, 1) := by decide +kernel
theorem dX2_init_16 : decode cX2_init 16 = .ok (.bipush 8, 2) := by decide +kernel
theorem dX2_init_18 : decode cX2_init 18 = .ok (.if_icmp .ge 22, 3) := by decide +kernel
theorem dX2_init_21 : decode cX2_init 21 = .ok (.aload_n 0, 1) := by decide +kernel
theorem dX2_init_22 : decode cX2_init 22 = .ok (.getfield 11, 3) := by decide +kernel
theorem dX2_init_25 : decode cX2_init 25 = .ok (.iload_n 1, 1) := by decide +kernel
theorem dX2_init_26 : decode cX2_init 26 = .ok (.new 9, 3) := by decide +kernel
theorem dX2_init_29 : decode cX2_init 29 = .ok (.dup, 1) := by decide +kernel
theorem dX2_init_30 : decode cX2_init 30 = .ok (.invokespecial 15, 3) := by decide +kernel
theorem dX2_init_33 : decode cX2_init 33 = .ok (.aastore, 1) := by decide +kernel
theorem dX2_init_34 : decode cX2_init 34 = .ok (.iinc 1 1, 3) := by decide +kernel
theorem dX2_init_37 : decode cX2_init 37 = .ok (.goto (-22), 3) := by decide +kernel
theorem dX2_init_40 : decode cX2_init 40 = .ok (.aload_n 0, 1) := by decide +kernel
theorem dX2_init_41 : decode cX2_init 41 = .ok (.iconst 0, 1) := by decide +kernel
theorem dX2_init_42 : decode cX2_init 42 = .ok (.putfield 16, 3) := by decide +kernel
theorem dX2_init_45 : decode cX2_init 45 = .ok (.aload_n 0, 1) := by decide +kernel
theorem dX2_init_46 : decode cX2_init 46 = .ok (.iconst 0, 1) := by decide +kernel
theorem dX2_init_47 : decode cX2_init 47 = .ok (.putfield 20, 3) := by decide +kernel
theorem dX2_init_50 : decode cX2_init 50 = .ok (.aload_n 0, 1) := by decide +kernel
theorem dX2_init_51 : decode cX2_init 51 = .ok (.new 23, 3) := by decide +kernel
theorem dX2_init_54 : decode cX2_init 54 = .ok (.dup, 1) := by decide +kernel
theorem dX2_init_55 : decode cX2_init 55 = .ok (.invokespecial 25, 3) := by decide +kernel
theorem dX2_init_58 : decode cX2_init 58 = .ok (.putfield 26, 3) := by decide +kernel
theorem dX2_init_61 : decode cX2_init 61 = .ok (.aload_n 0, 1) := by decide +kernel
theorem dX2_init_62 : decode cX2_init 62 = .ok (.bipush 10, 2) := by decide +kernel
theorem dX2_init_64 : decode cX2_init 64 = .ok (.newarray .int, 2) := by decide +kernel
theorem dX2_init_66 : decode cX2_init 66 = .ok (.putfield 30, 3) := by decide +kernel
theorem dX2_init_69 : decode cX2_init 69 = .ok (.aload_n 0, 1) := by decide +kernel
theorem dX2_init_70 : decode cX2_init 70 = .ok (.bipush 10, 2) := by decide +kernel
theorem dX2_init_72 : decode cX2_init 72 = .ok (.newarray .int, 2) := by decide +kernel
theorem dX2_init_74 : decode cX2_init 74 = .ok (.putfield 34, 3) := by decide +kernel
theorem dX2_init_77 : decode cX2_init 77 = .ok (.return_, 1) := by decide +kernel
set_option maxRecDepth 20000 in
theorem ggX2_present_X2_isModule : GoodIn wsX2_present wsX2_isModule := goodIn_r _ [9] (by decide +kernel) (by decide +kernel)
set_option maxRecDepth 20000 in
theorem gX2_present_X2_isModule : GoodIn wsX2_present (va_wsS RX2 37 yX2_isModule wsX2_isModule) := goodIn_app (goodIn_of _ (by decide +kernel)) ggX2_present_X2_isModule
set_option maxRecDepth 20000 in
theorem ggX2_present_X2_isPresent : GoodIn wsX2_present wsX2_isPresent := goodIn_r _ [13, 5, 6, 7, 8, 9, 14, 15, 16, 20, 21, 22, 23, 24, 25] (by decide +kernel) (by decide +kernel)
set_option maxRecDepth 20000 in
theorem gX2_present_X2_isPresent : GoodIn wsX2_present (wsV RX2 48 RX2 yX2_isPresent wsX2_isPresent) := goodIn_app (goodIn_of _ (by decide +kernel)) ggX2_present_X2_isPresent
set_option maxRecDepth 20000 in
theorem ggX2_present_X2_bit : GoodIn wsX2_present wsX2_bit := goodIn_r _ [19] (by decide +kernel) (by decide +kernel)
set_option maxRecDepth 20000 in
theorem gX2_present_X2_bit : GoodIn wsX2_present (va_wsS RX2 56 yX2_bit wsX2_bit) := goodIn_app (goodIn_of _ (by decide +kernel)) ggX2_present_X2_bit
theorem dX2_present_0 : decode cX2_present 0 = .ok (.iload_n 1, 1) := by decide +kernel
theorem dX2_present_1 : decode cX2_present 1 = .ok (.invokestatic 37, 3) := by decide +kernel
theorem dX2_present_4 : decode cX2_present 4 = .ok (.ifCond .ne 13, 3) := by decide +kernel
theorem dX2_present_7 : decode cX2_present 7 = .ok (.new 41, 3) := by decide +kernel
theorem dX2_present_10 : decode cX2_present 10 = .ok (.dup, 1) := by decide +kernel
theorem dX2_present_11 : decode cX2_present 11 = .ok (.ldc 43, 2) := by decide +kernel
theorem dX2_present_13 : decode cX2_present 13 = .ok (.invokespecial 45, 3) := by decide +kernel
theorem dX2_present_16 : decode cX2_present 16 = .ok (.athrow, 1) := by decide +kernel
theorem dX2_present_17 : decode cX2_present 17 = .ok (.aload_n 0, 1) := by decide +kernel
theorem dX2_present_18 : decode cX2_present 18 = .ok (.iload_n 1, 1) := by decide +kernel
theorem dX2_present_19 : decode cX2_present 19 = .ok (.invokevirtual 48, 3) := by decide +kernel
theorem dX2_present_22 : decode cX2_present 22 = .ok (.ifCond .eq 13, 3) := by decide +kernel
theorem dX2_present_25 : decode cX2_present 25 = .ok (.new 51, 3) := by decide +kernel
theorem dX2_present_28 : decode cX2_present 28 = .ok (.dup, 1) := by decide +kernel
theorem dX2_present_29 : decode cX2_present 29 = .ok (.ldc 53, 2) := by decide +kernel
theorem dX2_present_31 : decode cX2_present 31 = .ok (.invokespecial 55, 3) := by decide +kernel
theorem dX2_present_34 : decode cX2_present 34 = .ok (.athrow, 1) := by decide +kernel
theorem dX2_present_35 : decode cX2_present 35 = .ok (.aload_n 0, 1) := by decide +kernel
theorem dX2_present_36 : decode cX2_present 36 = .ok (.dup, 1) := by decide +kernel
theorem dX2_present_37 : decode cX2_present 37 = .ok (.getfield 16, 3) := by decide +kernel
theorem dX2_present_40 : decode cX2_present 40 = .ok (.iload_n 1, 1) := by decide +kernel
theorem dX2_present_41 : decode cX2_present 41 = .ok (.invokestatic 56, 3) := by decide +kernel
theorem dX2_present_44 : decode cX2_present 44 = .ok (.ior, 1) := by decide +kernel
theorem dX2_present_45 : decode cX2_present 45 = .ok (.putfield 16, 3) := by decide +kernel
theorem dX2_present_48 : decode cX2_present 48 = .ok (.return_, 1) := by decide +kernel
set_option maxRecDepth 20000 in
theorem ggX2_file_X2_isPresent : GoodIn wsX2_file wsX2_isPresent := goodIn_r _ [10, 11, 12, 13, 9, 14, 15, 16, 17, 34, 35, 36, 37, 38, 39] (by decide +kernel) (by decide +kernel)
set_option maxRecDepth 20000 in
theorem gX2_file_X2_isPresent : GoodIn wsX2_file (wsV RX2 48 RX2 yX2_isPresent wsX2_isPresent) := goodIn_app (goodIn_of _ (by decide +kernel)) ggX2_file_X2_isPresent
set_option maxRecDepth 20000 in
theorem ggX2_file_X2_isName : GoodIn wsX2_file wsX2_isName := goodIn_r _ [20] (by decide +kernel) (by decide +kernel)
set_option maxRecDepth 20000 in
theorem gX2_file_X2_isName : GoodIn wsX2_file (va_wsS RX2 60 yX2_isName wsX2_isName) := goodIn_app (goodIn_of _ (by decide +kernel)) ggX2_file_X2_isName
set_option maxRecDepth 20000 in
theorem ggX2_file_X2_isExtended : GoodIn wsX2_file wsX2_isExtended := goodIn_r _ [23, 18, 19, 9, 20] (by decide +kernel) (by decide +kernel)
set_option maxRecDepth 20000 in
theorem gX2_file_X2_isExtended : GoodIn wsX2_file (va_wsS RX2 63 yX2_isExtended wsX2_isExtended) := goodIn_app (goodIn_of _ (by decide +kernel)) ggX2_file_X2_isExtended
set_option maxRecDepth 20000 in
theorem ggX2_file_X2_isLoaded : GoodIn wsX2_file wsX2_isLoaded := goodIn_r _ [27, 28, 12, 13, 9, 14, 15, 16, 17, 34, 35, 36, 37, 38, 39] (by decide +kernel) (by decide +kernel)
set_option maxRecDepth 20000 in
theorem gX2_file_X2_isLoaded : GoodIn wsX2_file (wsV RX2 68 RX2 yX2_isLoaded wsX2_isLoaded) := goodIn_app (goodIn_of _ (by decide +kernel)) ggX2_file_X2_isLoaded
set_option maxRecDepth 20000 in
theorem ggX2_file_X0_holds : GoodIn wsX2_file wsX0_holds := goodIn_r _ [32, 33, 40, 41, 42, 43, 44, 45, 46, 47] (by decide +kernel) (by decide +kernel)
set_option maxRecDepth 20000 in
theorem gX2_file_X0_holds_n71 : GoodIn wsX2_file (wsX0_holds) := ggX2_file_X0_holds
theorem dX2_file_0 : decode cX2_file 0 = .ok (.aload_n 0, 1) := by decide +kernel
theorem dX2_file_1 : decode cX2_file 1 = .ok (.iload_n 1, 1) := by decide +kernel
theorem dX2_file_2 : decode cX2_file 2 = .ok (.invokevirtual 48, 3) := by decide +kernel
theorem dX2_file_5 : decode cX2_file 5 = .ok (.ifCond .eq 17, 3) := by decide +kernel
theorem dX2_file_8 : decode cX2_file 8 = .ok (.iload_n 2, 1) := by decide +kernel
theorem dX2_file_9 : decode cX2_file 9 = .ok (.invokestatic 60, 3) := by decide +kernel
theorem dX2_file_12 : decode cX2_file 12 = .ok (.ifCond .eq 10, 3) := by decide +kernel
theorem dX2_file_15 : decode cX2_file 15 = .ok (.iload_n 3, 1) := by decide +kernel
theorem dX2_file_16 : decode cX2_file 16 = .ok (.invokestatic 63, 3) := by decide +kernel
theorem dX2_file_19 : decode cX2_file 19 = .ok (.ifCond .ne 13, 3) := by decide +kernel
theorem dX2_file_22 : decode cX2_file 22 = .ok (.new 41, 3) := by decide +kernel
theorem dX2_file_25 : decode cX2_file 25 = .ok (.dup, 1) := by decide +kernel
theorem dX2_file_26 : decode cX2_file 26 = .ok (.ldc 66, 2) := by decide +kernel
theorem dX2_file_28 : decode cX2_file 28 = .ok (.invokespecial 45, 3) := by decide +kernel
theorem dX2_file_31 : decode cX2_file 31 = .ok (.athrow, 1) := by decide +kernel
theorem dX2_file_32 : decode cX2_file 32 = .ok (.aload_n 0, 1) := by decide +kernel
theorem dX2_file_33 : decode cX2_file 33 = .ok (.iload_n 1, 1) := by decide +kernel
theorem dX2_file_34 : decode cX2_file 34 = .ok (.invokevirtual 68, 3) := by decide +kernel
theorem dX2_file_37 : decode cX2_file 37 = .ok (.ifCond .ne 16, 3) := by decide +kernel
theorem dX2_file_40 : decode cX2_file 40 = .ok (.aload_n 0, 1) := by decide +kernel
theorem dX2_file_41 : decode cX2_file 41 = .ok (.getfield 11, 3) := by decide +kernel
theorem dX2_file_44 : decode cX2_file 44 = .ok (.iload_n 1, 1) := by decide +kernel
theorem dX2_file_45 : decode cX2_file 45 = .ok (.aaload, 1) := by decide +kernel
theorem dX2_file_46 : decode cX2_file 46 = .ok (.iload_n 2, 1) := by decide +kernel
theorem dX2_file_47 : decode cX2_file 47 = .ok (.invokevirtual 71, 3) := by decide +kernel
theorem dX2_file_50 : decode cX2_file 50 = .ok (.ifCond .eq 13, 3) := by decide +kernel
theorem dX2_file_53 : decode cX2_file 53 = .ok (.new 51, 3) := by decide +kernel
theorem dX2_file_56 : decode cX2_file 56 = .ok (.dup, 1) := by decide +kernel
theorem dX2_file_57 : decode cX2_file 57 = .ok (.ldc 74, 2) := by decide +kernel
theorem dX2_file_59 : decode cX2_file 59 = .ok (.invokespecial 55, 3) := by decide +kernel
theorem dX2_file_62 : decode cX2_file 62 = .ok (.athrow, 1) := by decide +kernel
theorem dX2_file_63 : decode cX2_file 63 = .ok (.aload_n 0, 1) := by decide +kernel
theorem dX2_file_64 : decode cX2_file 64 = .ok (.getfield 11, 3) := by decide +kernel
theorem dX2_file_67 : decode cX2_file 67 = .ok (.iload_n 1, 1) := by decide +kernel
theorem dX2_file_68 : decode cX2_file 68 = .ok (.aaload, 1) := by decide +kernel
theorem dX2_file_69 : decode cX2_file 69 = .ok (.getfield 76, 3) := by decide +kernel
theorem dX2_file_72 : decode cX2_file 72 = .ok (.iload_n 2, 1) := by decide +kernel
theorem dX2_file_73 : decode cX2_file 73 = .ok (.iload_n 3, 1) := by decide +kernel
theorem dX2_file_74 : decode cX2_file 74 = .ok (.iastore, 1) := by decide +kernel
theorem dX2_file_75 : decode cX2_file 75 = .ok (.return_, 1) := by decide +kernel
set_option maxRecDepth 20000 in
theorem ggX2_depend_X2_isPresent : GoodIn wsX2_depend wsX2_isPresent := goodIn_r _ [10, 11, 12, 13, 9, 14, 15, 16, 17, 41, 42, 43, 44, 45, 46] (by decide +kernel) (by decide +kernel)
set_option maxRecDepth 20000 in
theorem gX2_depend_X2_isPresent : GoodIn wsX2_depend (wsV RX2 48 RX2 yX2_isPresent wsX2_isPresent) := goodIn_app (goodIn_of _ (by decide +kernel)) ggX2_depend_X2_isPresent
set_option maxRecDepth 20000 in
theorem ggX2_depend_X2_canDependOn : GoodIn wsX2_depend wsX2_canDependOn := goodIn_r _ [20, 12, 13, 9, 14] (by decide +kernel) (by decide +kernel)
set_option maxRecDepth 20000 in
theorem gX2_depend_X2_canDependOn : GoodIn wsX2_depend (va_wsS RX2 79 yX2_canDependOn wsX2_canDependOn) := goodIn_app (goodIn_of _ (by decide +kernel)) ggX2_depend_X2_canDependOn
set_option maxRecDepth 20000 in
theorem ggX2_depend_X2_isPathSet : GoodIn wsX2_depend wsX2_isPathSet := goodIn_r _ [23] (by decide +kernel) (by decide +kernel)
set_option maxRecDepth 20000 in
theorem gX2_depend_X2_isPathSet : GoodIn wsX2_depend (va_wsS RX2 83 yX2_isPathSet wsX2_isPathSet) := goodIn_app (goodIn_of _ (by decide +kernel)) ggX2_depend_X2_isPathSet
set_option maxRecDepth 20000 in
theorem ggX2_depend_X2_isLoaded : GoodIn wsX2_depend wsX2_isLoaded := goodIn_r _ [27, 28, 12, 13, 9, 14, 15, 16, 17, 41, 42, 43, 44, 45, 46] (by decide +kernel) (by decide +kernel)
set_option maxRecDepth 20000 in
theorem gX2_depend_X2_isLoaded : GoodIn wsX2_depend (wsV RX2 68 RX2 yX2_isLoaded wsX2_isLoaded) := goodIn_app (goodIn_of _ (by decide +kernel)) ggX2_depend_X2_isLoaded
set_option maxRecDepth 20000 in
theorem ggX2_depend_X0_addDependency : GoodIn wsX2_depend wsX0_addDependency := goodIn_r _ [32, 33, 34, 35, 36, 37, 38, 39, 9, 40, 47, 48, 49, 50, 51, 52, 53, 54] (by decide +kernel) (by decide +kernel)
set_option maxRecDepth 20000 in
theorem gX2_depend_X0_addDependency_n95 : GoodIn wsX2_depend (wsX0_addDependency) := ggX2_depend_X0_addDependency
theorem dX2_depend_0 : decode cX2_depend 0 = .ok (.aload_n 0, 1) := by decide +kernel
theorem dX2_depend_1 : decode cX2_depend 1 = .ok (.iload_n 1, 1) := by decide +kernel
theorem dX2_depend_2 : decode cX2_depend 2 = .ok (.invokevirtual 48, 3) := by decide +kernel
theorem dX2_depend_5 : decode cX2_depend 5 = .ok (.ifCond .eq 26, 3) := by decide +kernel
theorem dX2_depend_8 : decode cX2_depend 8 = .ok (.iload_n 1, 1) := by decide +kernel
theorem dX2_depend_9 : decode cX2_depend 9 = .ok (.iload_n 2, 1) := by decide +kernel
theorem dX2_depend_10 : decode cX2_depend 10 = .ok (.invokestatic 79, 3) := by decide +kernel
theorem dX2_depend_13 : decode cX2_depend 13 = .ok (.ifCond .eq 18, 3) := by decide +kernel
theorem dX2_depend_16 : decode cX2_depend 16 = .ok (.iload_n 3, 1) := by decide +kernel
theorem dX2_depend_17 : decode cX2_depend 17 = .ok (.invokestatic 83, 3) := by decide +kernel
theorem dX2_depend_20 : decode cX2_depend 20 = .ok (.ifCond .eq 11, 3) := by decide +kernel
theorem dX2_depend_23 : decode cX2_depend 23 = .ok (.iload 4, 2) := by decide +kernel
theorem dX2_depend_25 : decode cX2_depend 25 = .ok (.invokestatic 83, 3) := by decide +kernel
theorem dX2_depend_28 : decode cX2_depend 28 = .ok (.ifCond .ne 13, 3) := by decide +kernel
theorem dX2_depend_31 : decode cX2_depend 31 = .ok (.new 41, 3) := by decide +kernel
theorem dX2_depend_34 : decode cX2_depend 34 = .ok (.dup, 1) := by decide +kernel
theorem dX2_depend_35 : decode cX2_depend 35 = .ok (.ldc 86, 2) := by decide +kernel
theorem dX2_depend_37 : decode cX2_depend 37 = .ok (.invokespecial 45, 3) := by decide +kernel
theorem dX2_depend_40 : decode cX2_depend 40 = .ok (.athrow, 1) := by decide +kernel
theorem dX2_depend_41 : decode cX2_depend 41 = .ok (.aload_n 0, 1) := by decide +kernel
theorem dX2_depend_42 : decode cX2_depend 42 = .ok (.getfield 11, 3) := by decide +kernel
theorem dX2_depend_45 : decode cX2_depend 45 = .ok (.iload_n 1, 1) := by decide +kernel
theorem dX2_depend_46 : decode cX2_depend 46 = .ok (.aaload, 1) := by decide +kernel
theorem dX2_depend_47 : decode cX2_depend 47 = .ok (.getfield 88, 3) := by decide +kernel
theorem dX2_depend_50 : decode cX2_depend 50 = .ok (.bipush 6, 2) := by decide +kernel
theorem dX2_depend_52 : decode cX2_depend 52 = .ok (.if_icmp .lt 13, 3) := by decide +kernel
theorem dX2_depend_55 : decode cX2_depend 55 = .ok (.new 51, 3) := by decide +kernel
theorem dX2_depend_58 : decode cX2_depend 58 = .ok (.dup, 1) := by decide +kernel
theorem dX2_depend_59 : decode cX2_depend 59 = .ok (.ldc 91, 2) := by decide +kernel
theorem dX2_depend_61 : decode cX2_depend 61 = .ok (.invokespecial 55, 3) := by decide +kernel
theorem dX2_depend_64 : decode cX2_depend 64 = .ok (.athrow, 1) := by decide +kernel
theorem dX2_depend_65 : decode cX2_depend 65 = .ok (.aload_n 0, 1) := by decide +kernel
theorem dX2_depend_66 : decode cX2_depend 66 = .ok (.iload_n 1, 1) := by decide +kernel
theorem dX2_depend_67 : decode cX2_depend 67 = .ok (.invokevirtual 68, 3) := by decide +kernel
theorem dX2_depend_70 : decode cX2_depend 70 = .ok (.ifCond .eq 31, 3) := by decide +kernel
theorem dX2_depend_73 : decode cX2_depend 73 = .ok (.iload 5, 2) := by decide +kernel
theorem dX2_depend_75 : decode cX2_depend 75 = .ok (.ifCond .eq 26, 3) := by decide +kernel
theorem dX2_depend_78 : decode cX2_depend 78 = .ok (.iload_n 2, 1) := by decide +kernel
theorem dX2_depend_79 : decode cX2_depend 79 = .ok (.iconst (-1), 1) := by decide +kernel
theorem dX2_depend_80 : decode cX2_depend 80 = .ok (.if_icmp .eq 21, 3) := by decide +kernel
theorem dX2_depend_83 : decode cX2_depend 83 = .ok (.aload_n 0, 1) := by decide +kernel
theorem dX2_depend_84 : decode cX2_depend 84 = .ok (.iload_n 2, 1) := by decide +kernel
theorem dX2_depend_85 : decode cX2_depend 85 = .ok (.invokevirtual 68, 3) := by decide +kernel
theorem dX2_depend_88 : decode cX2_depend 88 = .ok (.ifCond .ne 13, 3) := by decide +kernel
theorem dX2_depend_91 : decode cX2_depend 91 = .ok (.new 51, 3) := by decide +kernel
theorem dX2_depend_94 : decode cX2_depend 94 = .ok (.dup, 1) := by decide +kernel
theorem dX2_depend_95 : decode cX2_depend 95 = .ok (.ldc 93, 2) := by decide +kernel
theorem dX2_depend_97 : decode cX2_depend 97 = .ok (.invokespecial 55, 3) := by decide +kernel
theorem dX2_depend_100 : decode cX2_depend 100 = .ok (.athrow, 1) := by decide +kernel
theorem dX2_depend_101 : decode cX2_depend 101 = .ok (.aload_n 0, 1) := by decide +kernel
theorem dX2_depend_102 : decode cX2_depend 102 = .ok (.getfield 11, 3) := by decide +kernel
theorem dX2_depend_105 : decode cX2_depend 105 = .ok (.iload_n 1, 1) := by decide +kernel
theorem dX2_depend_106 : decode cX2_depend 106 = .ok (.aaload, 1) := by decide +kernel
theorem dX2_depend_107 : decode cX2_depend 107 = .ok (.iload_n 2, 1) := by decide +kernel
theorem dX2_depend_108 : decode cX2_depend 108 = .ok (.iload_n 3, 1) := by decide +kernel
theorem dX2_depend_109 : decode cX2_depend 109 = .ok (.iload 4, 2) := by decide +kernel
theorem dX2_depend_111 : decode cX2_depend 111 = .ok (.iload 5, 2) := by decide +kernel
theorem dX2_depend_113 : decode cX2_depend 113 = .ok (.invokevirtual 95, 3) := by decide +kernel
theorem dX2_depend_116 : decode cX2_depend 116 = .ok (.aload_n 0, 1) := by decide +kernel
theorem dX2_depend_117 : decode cX2_depend 117 = .ok (.getfield 11, 3) := by decide +kernel
theorem dX2_depend_120 : decode cX2_depend 120 = .ok (.iload_n 1, 1) := by decide +kernel
theorem dX2_depend_121 : decode cX2_depend 121 = .ok (.aaload, 1) := by decide +kernel
theorem dX2_depend_122 : decode cX2_depend 122 = .ok (.getfield 88, 3) := by decide +kernel
theorem dX2_depend_125 : decode cX2_depend 125 = .ok (.ireturn, 1) := by decide +kernel
set_option maxRecDepth 20000 in
theorem ggX2_relink_X2_isPresent : GoodIn wsX2_relink wsX2_isPresent := goodIn_r _ [8, 9, 10, 11, 7, 12, 13, 14, 15, 23, 24, 25, 26, 27, 28] (by decide +kernel) (by decide +kernel)
set_option maxRecDepth 20000 in
theorem gX2_relink_X2_isPresent : GoodIn wsX2_relink (wsV RX2 48 RX2 yX2_isPresent wsX2_isPresent) := goodIn_app (goodIn_of _ (by decide +kernel)) ggX2_relink_X2_isPresent
set_option maxRecDepth 20000 in
theorem ggX2_relink_X0_dropDependencies : GoodIn wsX2_relink wsX0_dropDependencies := goodIn_r _ [19, 20, 21, 22, 29, 30, 31, 32, 33, 34, 35, 36] (by decide +kernel) (by decide +kernel)
set_option maxRecDepth 20000 in
theorem gX2_relink_X0_dropDependencies_n101 : GoodIn wsX2_relink (wsX0_dropDependencies) := ggX2_relink_X0_dropDependencies
theorem dX2_relink_0 : decode cX2_relink 0 = .ok (.aload_n 0, 1) := by decide +kernel
theorem dX2_relink_1 : decode cX2_relink 1 = .ok (.iload_n 1, 1) := by decide +kernel
theorem dX2_relink_2 : decode cX2_relink 2 = .ok (.invokevirtual 48, 3) := by decide +kernel
theorem dX2_relink_5 : decode cX2_relink 5 = .ok (.ifCond .ne 13, 3) := by decide +kernel
theorem dX2_relink_8 : decode cX2_relink 8 = .ok (.new 41, 3) := by decide +kernel
theorem dX2_relink_11 : decode cX2_relink 11 = .ok (.dup, 1) := by decide +kernel
theorem dX2_relink_12 : decode cX2_relink 12 = .ok (.ldc 99, 2) := by decide +kernel
theorem dX2_relink_14 : decode cX2_relink 14 = .ok (.invokespecial 45, 3) := by decide +kernel
theorem dX2_relink_17 : decode cX2_relink 17 = .ok (.athrow, 1) := by decide +kernel
theorem dX2_relink_18 : decode cX2_relink 18 = .ok (.aload_n 0, 1) := by decide +kernel
theorem dX2_relink_19 : decode cX2_relink 19 = .ok (.getfield 11, 3) := by decide +kernel
theorem dX2_relink_22 : decode cX2_relink 22 = .ok (.iload_n 1, 1) := by decide +kernel
theorem dX2_relink_23 : decode cX2_relink 23 = .ok (.aaload, 1) := by decide +kernel
theorem dX2_relink_24 : decode cX2_relink 24 = .ok (.getfield 88, 3) := by decide +kernel
theorem dX2_relink_27 : decode cX2_relink 27 = .ok (.istore_n 2, 1) := by decide +kernel
theorem dX2_relink_28 : decode cX2_relink 28 = .ok (.aload_n 0, 1) := by decide +kernel
theorem dX2_relink_29 : decode cX2_relink 29 = .ok (.getfield 11, 3) := by decide +kernel
theorem dX2_relink_32 : decode cX2_relink 32 = .ok (.iload_n 1, 1) := by decide +kernel
theorem dX2_relink_33 : decode cX2_relink 33 = .ok (.aaload, 1) := by decide +kernel
theorem dX2_relink_34 : decode cX2_relink 34 = .ok (.invokevirtual 101, 3) := by decide +kernel
theorem dX2_relink_37 : decode cX2_relink 37 = .ok (.iload_n 2, 1) := by decide +kernel
theorem dX2_relink_38 : decode cX2_relink 38 = .ok (.ireturn, 1) := by decide +kernel
set_option maxRecDepth 20000 in
theorem ggX2_load_X2_isModule : GoodIn wsX2_load wsX2_isModule := goodIn_r _ [9] (by decide +kernel) (by decide +kernel)
set_option maxRecDepth 20000 in
theorem gX2_load_X2_isModule : GoodIn wsX2_load (va_wsS RX2 37 yX2_isModule wsX2_isModule) := goodIn_app (goodIn_of _ (by decide +kernel)) ggX2_load_X2_isModule
set_option maxRecDepth 20000 in
theorem ggX2_load_X2_loadableSet : GoodIn wsX2_load wsX2_loadableSet := goodIn_r _ [13, 14, 15, 16, 17, 8, 18, 19, 20, 21, 22, 41, 42, 43, 44, 45, 46, 47, 48, 49, 50, 51, 52, 53, 54] (by decide +kernel) (by decide +kernel)
set_option maxRecDepth 20000 in
theorem gX2_load_X2_loadableSet : GoodIn wsX2_load (wsV RX2 104 RX2 yX2_loadableSet wsX2_loadableSet) := goodIn_app (goodIn_of _ (by decide +kernel)) ggX2_load_X2_loadableSet
set_option maxRecDepth 20000 in
theorem ggX2_load_X2_isIn : GoodIn wsX2_load wsX2_isIn := goodIn_r _ [25] (by decide +kernel) (by decide +kernel)
set_option maxRecDepth 20000 in
theorem gX2_load_X2_isIn : GoodIn wsX2_load (va_wsS RX2 108 yX2_isIn wsX2_isIn) := goodIn_app (goodIn_of _ (by decide +kernel)) ggX2_load_X2_isIn
set_option maxRecDepth 20000 in
theorem ggX2_load_X2_reachedSet : GoodIn wsX2_load wsX2_reachedSet := goodIn_r _ [29, 20, 21, 8, 22, 30, 31, 32, 33, 19, 23, 24, 25, 41, 42, 43, 44, 45, 46, 47, 48, 49, 50, 51, 52, 53, 54] (by decide +kernel) (by decide +kernel)
set_option maxRecDepth 20000 in
theorem gX2_load_X2_reachedSet : GoodIn wsX2_load (wsV RX2 116 RX2 yX2_reachedSet wsX2_reachedSet) := goodIn_app (goodIn_of _ (by decide +kernel)) ggX2_load_X2_reachedSet
set_option maxRecDepth 20000 in
theorem ggX2_load_J6_bitCount_0f7a4 : GoodIn wsX2_load wsJ6_bitCount_0f7a4 := goodIn_r _ [37, 38, 39, 40] (by decide +kernel) (by decide +kernel)
set_option maxRecDepth 20000 in
theorem gX2_load_J6_bitCount_0f7a4 : GoodIn wsX2_load (va_wsS RX2 120 yJ6_bitCount_0f7a4 wsJ6_bitCount_0f7a4) := goodIn_app (goodIn_of _ (by decide +kernel)) ggX2_load_J6_bitCount_0f7a4
theorem dX2_load_0 : decode cX2_load 0 = .ok (.iload_n 1, 1) := by decide +kernel
theorem dX2_load_1 : decode cX2_load 1 = .ok (.invokestatic 37, 3) := by decide +kernel
theorem dX2_load_4 : decode cX2_load 4 = .ok (.ifCond .ne 13, 3) := by decide +kernel
theorem dX2_load_7 : decode cX2_load 7 = .ok (.new 41, 3) := by decide +kernel
theorem dX2_load_10 : decode cX2_load 10 = .ok (.dup, 1) := by decide +kernel
theorem dX2_load_11 : decode cX2_load 11 = .ok (.ldc 43, 2) := by decide +kernel
theorem dX2_load_13 : decode cX2_load 13 = .ok (.invokespecial 45, 3) := by decide +kernel
theorem dX2_load_16 : decode cX2_load 16 = .ok (.athrow, 1) := by decide +kernel
theorem dX2_load_17 : decode cX2_load 17 = .ok (.aload_n 0, 1) := by decide +kernel
theorem dX2_load_18 : decode cX2_load 18 = .ok (.invokevirtual 104, 3) := by decide +kernel
theorem dX2_load_21 : decode cX2_load 21 = .ok (.istore_n 2, 1) := by decide +kernel
theorem dX2_load_22 : decode cX2_load 22 = .ok (.iload_n 2, 1) := by decide +kernel
theorem dX2_load_23 : decode cX2_load 23 = .ok (.iload_n 1, 1) := by decide +kernel
theorem dX2_load_24 : decode cX2_load 24 = .ok (.invokestatic 108, 3) := by decide +kernel
theorem dX2_load_27 : decode cX2_load 27 = .ok (.ifCond .ne 13, 3) := by decide +kernel
theorem dX2_load_30 : decode cX2_load 30 = .ok (.new 111, 3) := by decide +kernel
theorem dX2_load_33 : decode cX2_load 33 = .ok (.dup, 1) := by decide +kernel
theorem dX2_load_34 : decode cX2_load 34 = .ok (.ldc 113, 2) := by decide +kernel
theorem dX2_load_36 : decode cX2_load 36 = .ok (.invokespecial 115, 3) := by decide +kernel
theorem dX2_load_39 : decode cX2_load 39 = .ok (.athrow, 1) := by decide +kernel
theorem dX2_load_40 : decode cX2_load 40 = .ok (.aload_n 0, 1) := by decide +kernel
theorem dX2_load_41 : decode cX2_load 41 = .ok (.iload_n 1, 1) := by decide +kernel
theorem dX2_load_42 : decode cX2_load 42 = .ok (.iload_n 2, 1) := by decide +kernel
theorem dX2_load_43 : decode cX2_load 43 = .ok (.invokevirtual 116, 3) := by decide +kernel
theorem dX2_load_46 : decode cX2_load 46 = .ok (.aload_n 0, 1) := by decide +kernel
theorem dX2_load_47 : decode cX2_load 47 = .ok (.getfield 20, 3) := by decide +kernel
theorem dX2_load_50 : decode cX2_load 50 = .ok (.iconst (-1), 1) := by decide +kernel
theorem dX2_load_51 : decode cX2_load 51 = .ok (.ixor, 1) := by decide +kernel
theorem dX2_load_52 : decode cX2_load 52 = .ok (.iand, 1) := by decide +kernel
theorem dX2_load_53 : decode cX2_load 53 = .ok (.istore_n 3, 1) := by decide +kernel
theorem dX2_load_54 : decode cX2_load 54 = .ok (.aload_n 0, 1) := by decide +kernel
theorem dX2_load_55 : decode cX2_load 55 = .ok (.dup, 1) := by decide +kernel
theorem dX2_load_56 : decode cX2_load 56 = .ok (.getfield 20, 3) := by decide +kernel
theorem dX2_load_59 : decode cX2_load 59 = .ok (.iload_n 3, 1) := by decide +kernel
theorem dX2_load_60 : decode cX2_load 60 = .ok (.ior, 1) := by decide +kernel
theorem dX2_load_61 : decode cX2_load 61 = .ok (.putfield 20, 3) := by decide +kernel
theorem dX2_load_64 : decode cX2_load 64 = .ok (.iload_n 3, 1) := by decide +kernel
theorem dX2_load_65 : decode cX2_load 65 = .ok (.invokestatic 120, 3) := by decide +kernel
theorem dX2_load_68 : decode cX2_load 68 = .ok (.ireturn, 1) := by decide +kernel
set_option maxRecDepth 20000 in
theorem ggX2_unload_X2_isLoaded : GoodIn wsX2_unload wsX2_isLoaded := goodIn_r _ [11, 6, 12, 13, 10, 14, 15, 16, 17, 40, 41, 42, 43, 44, 45] (by decide +kernel) (by decide +kernel)
set_option maxRecDepth 20000 in
theorem gX2_unload_X2_isLoaded : GoodIn wsX2_unload (wsV RX2 68 RX2 yX2_isLoaded wsX2_isLoaded) := goodIn_app (goodIn_of _ (by decide +kernel)) ggX2_unload_X2_isLoaded
set_option maxRecDepth 20000 in
theorem ggX2_unload_X2_isHeldByAnother : GoodIn wsX2_unload wsX2_isHeldByAnother := goodIn_r _ [21, 5, 7, 8, 9, 10, 11, 6, 12, 13, 14, 15, 16, 17, 22, 23, 24, 25, 26, 40, 41, 42, 43, 44, 45, 46, 47, 48, 49, 50, 51, 52, 53] (by decide +kernel) (by decide +kernel)
set_option maxRecDepth 20000 in
theorem gX2_unload_X2_isHeldByAnother : GoodIn wsX2_unload (wsV RX2 127 RX2 yX2_isHeldByAnother wsX2_isHeldByAnother) := goodIn_app (goodIn_of _ (by decide +kernel)) ggX2_unload_X2_isHeldByAnother
set_option maxRecDepth 20000 in
theorem ggX2_unload_X0_countClasses : GoodIn wsX2_unload wsX0_countClasses := goodIn_r _ [29, 30, 31, 32, 23, 33, 26, 46, 47, 48, 49, 50, 51, 52, 53] (by decide +kernel) (by decide +kernel)
set_option maxRecDepth 20000 in
theorem gX2_unload_X0_countClasses_n132 : GoodIn wsX2_unload (wsX0_countClasses) := ggX2_unload_X0_countClasses
set_option maxRecDepth 20000 in
theorem ggX2_unload_X0_dropClasses : GoodIn wsX2_unload wsX0_dropClasses := goodIn_r _ [36, 26, 46, 47, 48, 49, 50, 51, 52, 53] (by decide +kernel) (by decide +kernel)
set_option maxRecDepth 20000 in
theorem gX2_unload_X0_dropClasses_n135 : GoodIn wsX2_unload (wsX0_dropClasses) := ggX2_unload_X0_dropClasses
set_option maxRecDepth 20000 in
theorem ggX2_unload_X2_bit : GoodIn wsX2_unload wsX2_bit := goodIn_r _ [39] (by decide +kernel) (by decide +kernel)
set_option maxRecDepth 20000 in
theorem gX2_unload_X2_bit : GoodIn wsX2_unload (va_wsS RX2 56 yX2_bit wsX2_bit) := goodIn_app (goodIn_of _ (by decide +kernel)) ggX2_unload_X2_bit
theorem dX2_unload_0 : decode cX2_unload 0 = .ok (.aload_n 0, 1) := by decide +kernel
theorem dX2_unload_1 : decode cX2_unload 1 = .ok (.iload_n 1, 1) := by decide +kernel
theorem dX2_unload_2 : decode cX2_unload 2 = .ok (.invokevirtual 68, 3) := by decide +kernel
theorem dX2_unload_5 : decode cX2_unload 5 = .ok (.ifCond .ne 13, 3) := by decide +kernel
theorem dX2_unload_8 : decode cX2_unload 8 = .ok (.new 41, 3) := by decide +kernel
theorem dX2_unload_11 : decode cX2_unload 11 = .ok (.dup, 1) := by decide +kernel
theorem dX2_unload_12 : decode cX2_unload 12 = .ok (.ldc 125, 2) := by decide +kernel
theorem dX2_unload_14 : decode cX2_unload 14 = .ok (.invokespecial 45, 3) := by decide +kernel
theorem dX2_unload_17 : decode cX2_unload 17 = .ok (.athrow, 1) := by decide +kernel
theorem dX2_unload_18 : decode cX2_unload 18 = .ok (.aload_n 0, 1) := by decide +kernel
theorem dX2_unload_19 : decode cX2_unload 19 = .ok (.iload_n 1, 1) := by decide +kernel
theorem dX2_unload_20 : decode cX2_unload 20 = .ok (.invokevirtual 127, 3) := by decide +kernel
theorem dX2_unload_23 : decode cX2_unload 23 = .ok (.ifCond .eq 13, 3) := by decide +kernel
theorem dX2_unload_26 : decode cX2_unload 26 = .ok (.new 51, 3) := by decide +kernel
theorem dX2_unload_29 : decode cX2_unload 29 = .ok (.dup, 1) := by decide +kernel
theorem dX2_unload_30 : decode cX2_unload 30 = .ok (.ldc 130, 2) := by decide +kernel
theorem dX2_unload_32 : decode cX2_unload 32 = .ok (.invokespecial 55, 3) := by decide +kernel
theorem dX2_unload_35 : decode cX2_unload 35 = .ok (.athrow, 1) := by decide +kernel
theorem dX2_unload_36 : decode cX2_unload 36 = .ok (.aload_n 0, 1) := by decide +kernel
theorem dX2_unload_37 : decode cX2_unload 37 = .ok (.getfield 11, 3) := by decide +kernel
theorem dX2_unload_40 : decode cX2_unload 40 = .ok (.iload_n 1, 1) := by decide +kernel
theorem dX2_unload_41 : decode cX2_unload 41 = .ok (.aaload, 1) := by decide +kernel
theorem dX2_unload_42 : decode cX2_unload 42 = .ok (.invokevirtual 132, 3) := by decide +kernel
theorem dX2_unload_45 : decode cX2_unload 45 = .ok (.istore_n 2, 1) := by decide +kernel
theorem dX2_unload_46 : decode cX2_unload 46 = .ok (.aload_n 0, 1) := by decide +kernel
theorem dX2_unload_47 : decode cX2_unload 47 = .ok (.getfield 11, 3) := by decide +kernel
theorem dX2_unload_50 : decode cX2_unload 50 = .ok (.iload_n 1, 1) := by decide +kernel
theorem dX2_unload_51 : decode cX2_unload 51 = .ok (.aaload, 1) := by decide +kernel
theorem dX2_unload_52 : decode cX2_unload 52 = .ok (.invokevirtual 135, 3) := by decide +kernel
theorem dX2_unload_55 : decode cX2_unload 55 = .ok (.aload_n 0, 1) := by decide +kernel
theorem dX2_unload_56 : decode cX2_unload 56 = .ok (.dup, 1) := by decide +kernel
theorem dX2_unload_57 : decode cX2_unload 57 = .ok (.getfield 20, 3) := by decide +kernel
theorem dX2_unload_60 : decode cX2_unload 60 = .ok (.iload_n 1, 1) := by decide +kernel
theorem dX2_unload_61 : decode cX2_unload 61 = .ok (.invokestatic 56, 3) := by decide +kernel
theorem dX2_unload_64 : decode cX2_unload 64 = .ok (.iconst (-1), 1) := by decide +kernel
theorem dX2_unload_65 : decode cX2_unload 65 = .ok (.ixor, 1) := by decide +kernel
theorem dX2_unload_66 : decode cX2_unload 66 = .ok (.iand, 1) := by decide +kernel
theorem dX2_unload_67 : decode cX2_unload 67 = .ok (.putfield 20, 3) := by decide +kernel
theorem dX2_unload_70 : decode cX2_unload 70 = .ok (.iload_n 2, 1) := by decide +kernel
theorem dX2_unload_71 : decode cX2_unload 71 = .ok (.ireturn, 1) := by decide +kernel
set_option maxRecDepth 20000 in
theorem ggX2_find_X2_isLoaded : GoodIn wsX2_find wsX2_isLoaded := goodIn_r _ [11, 12, 13, 14, 10, 15, 16, 17, 18, 77, 78, 79, 80, 81, 82] (by decide +kernel) (by decide +kernel)
set_option maxRecDepth 20000 in
theorem gX2_find_X2_isLoaded : GoodIn wsX2_find (wsV RX2 68 RX2 yX2_isLoaded wsX2_isLoaded) := goodIn_app (goodIn_of _ (by decide +kernel)) ggX2_find_X2_isLoaded
set_option maxRecDepth 20000 in
theorem ggX2_find_X2_isName : GoodIn wsX2_find wsX2_isName := goodIn_r _ [21] (by decide +kernel) (by decide +kernel)
set_option maxRecDepth 20000 in
theorem gX2_find_X2_isName : GoodIn wsX2_find (va_wsS RX2 60 yX2_isName wsX2_isName) := goodIn_app (goodIn_of _ (by decide +kernel)) ggX2_find_X2_isName
set_option maxRecDepth 20000 in
theorem ggX2_find_X2_holderSeenFrom : GoodIn wsX2_find wsX2_holderSeenFrom := goodIn_r _ [25, 26, 27, 28, 29, 30, 10, 31, 32, 33, 34, 35, 36, 37, 38, 39, 40, 41, 42, 43, 44, 45, 46, 47, 48, 49, 50, 51, 17, 18, 52, 53, 16, 54, 55, 56, 57, 7, 8, 9, 11, 12, 13, 14, 15, 58, 77, 78, 79, 80, 81, 82, 83, 84, 85, 86, 87, 88, 89, 90, 91, 92, 93, 94] (by decide +kernel) (by decide +kernel)
set_option maxRecDepth 20000 in
theorem gX2_find_X2_holderSeenFrom : GoodIn wsX2_find (wsV RX2 140 RX2 yX2_holderSeenFrom wsX2_holderSeenFrom) := goodIn_app (goodIn_of _ (by decide +kernel)) ggX2_find_X2_holderSeenFrom
set_option maxRecDepth 20000 in
theorem ggX2_find_X2_defineWithAllAbove : GoodIn wsX2_find wsX2_defineWithAllAbove := goodIn_r _ [62, 63, 64, 27, 65, 66, 67, 10, 68, 69, 40, 70, 71, 72, 22, 23, 24, 25, 26, 28, 29, 30, 31, 32, 33, 34, 35, 36, 37, 38, 39, 41, 42, 43, 44, 45, 46, 47, 48, 49, 50, 51, 17, 18, 52, 53, 16, 54, 55, 56, 57, 7, 8, 9, 11, 12, 13, 14, 15, 58, 73, 74, 75, 76, 77, 78, 79, 80, 81, 82, 87, 88, 89, 90, 91, 92, 93, 94, 83, 84, 85, 86] (by decide +kernel) (by decide +kernel)
set_option maxRecDepth 20000 in
theorem gX2_find_X2_defineWithAllAbove : GoodIn wsX2_find (wsV RX2 145 RX2 yX2_defineWithAllAbove wsX2_defineWithAllAbove) := goodIn_app (goodIn_of _ (by decide +kernel)) ggX2_find_X2_defineWithAllAbove
theorem dX2_find_0 : decode cX2_find 0 = .ok (.aload_n 0, 1) := by decide +kernel
theorem dX2_find_1 : decode cX2_find 1 = .ok (.iload_n 1, 1) := by decide +kernel
theorem dX2_find_2 : decode cX2_find 2 = .ok (.invokevirtual 68, 3) := by decide +kernel
theorem dX2_find_5 : decode cX2_find 5 = .ok (.ifCond .eq 10, 3) := by decide +kernel
theorem dX2_find_8 : decode cX2_find 8 = .ok (.iload_n 2, 1) := by decide +kernel
theorem dX2_find_9 : decode cX2_find 9 = .ok (.invokestatic 60, 3) := by decide +kernel
theorem dX2_find_12 : decode cX2_find 12 = .ok (.ifCond .ne 13, 3) := by decide +kernel
theorem dX2_find_15 : decode cX2_find 15 = .ok (.new 41, 3) := by decide +kernel
theorem dX2_find_18 : decode cX2_find 18 = .ok (.dup, 1) := by decide +kernel
theorem dX2_find_19 : decode cX2_find 19 = .ok (.ldc 138, 2) := by decide +kernel
theorem dX2_find_21 : decode cX2_find 21 = .ok (.invokespecial 45, 3) := by decide +kernel
theorem dX2_find_24 : decode cX2_find 24 = .ok (.athrow, 1) := by decide +kernel
theorem dX2_find_25 : decode cX2_find 25 = .ok (.aload_n 0, 1) := by decide +kernel
theorem dX2_find_26 : decode cX2_find 26 = .ok (.iload_n 1, 1) := by decide +kernel
theorem dX2_find_27 : decode cX2_find 27 = .ok (.iload_n 2, 1) := by decide +kernel
theorem dX2_find_28 : decode cX2_find 28 = .ok (.invokevirtual 140, 3) := by decide +kernel
theorem dX2_find_31 : decode cX2_find 31 = .ok (.istore_n 3, 1) := by decide +kernel
theorem dX2_find_32 : decode cX2_find 32 = .ok (.iload_n 3, 1) := by decide +kernel
theorem dX2_find_33 : decode cX2_find 33 = .ok (.iconst (-1), 1) := by decide +kernel
theorem dX2_find_34 : decode cX2_find 34 = .ok (.if_icmp .ne 13, 3) := by decide +kernel
theorem dX2_find_37 : decode cX2_find 37 = .ok (.new 111, 3) := by decide +kernel
theorem dX2_find_40 : decode cX2_find 40 = .ok (.dup, 1) := by decide +kernel
theorem dX2_find_41 : decode cX2_find 41 = .ok (.ldc 143, 2) := by decide +kernel
theorem dX2_find_43 : decode cX2_find 43 = .ok (.invokespecial 115, 3) := by decide +kernel
theorem dX2_find_46 : decode cX2_find 46 = .ok (.athrow, 1) := by decide +kernel
theorem dX2_find_47 : decode cX2_find 47 = .ok (.aload_n 0, 1) := by decide +kernel
theorem dX2_find_48 : decode cX2_find 48 = .ok (.iload_n 3, 1) := by decide +kernel
theorem dX2_find_49 : decode cX2_find 49 = .ok (.iload_n 2, 1) := by decide +kernel
theorem dX2_find_50 : decode cX2_find 50 = .ok (.invokevirtual 145, 3) := by decide +kernel
theorem dX2_find_53 : decode cX2_find 53 = .ok (.ifCond .ne 13, 3) := by decide +kernel
theorem dX2_find_56 : decode cX2_find 56 = .ok (.new 51, 3) := by decide +kernel
theorem dX2_find_59 : decode cX2_find 59 = .ok (.dup, 1) := by decide +kernel
theorem dX2_find_60 : decode cX2_find 60 = .ok (.ldc 148, 2) := by decide +kernel
theorem dX2_find_62 : decode cX2_find 62 = .ok (.invokespecial 55, 3) := by decide +kernel
theorem dX2_find_65 : decode cX2_find 65 = .ok (.athrow, 1) := by decide +kernel
theorem dX2_find_66 : decode cX2_find 66 = .ok (.iload_n 3, 1) := by decide +kernel
theorem dX2_find_67 : decode cX2_find 67 = .ok (.ireturn, 1) := by decide +kernel
set_option maxRecDepth 20000 in
theorem ggX2_visible_X2_isLoaded : GoodIn wsX2_visible wsX2_isLoaded := goodIn_r _ [6, 7, 8, 9, 5, 10, 11, 12, 13, 46, 47, 48, 49, 50, 51] (by decide +kernel) (by decide +kernel)
set_option maxRecDepth 20000 in
theorem gX2_visible_X2_isLoaded : GoodIn wsX2_visible (wsV RX2 68 RX2 yX2_isLoaded wsX2_isLoaded) := goodIn_app (goodIn_of _ (by decide +kernel)) ggX2_visible_X2_isLoaded
set_option maxRecDepth 20000 in
theorem ggX2_visible_X2_fillVisibleRow : GoodIn wsX2_visible wsX2_fillVisibleRow := goodIn_r _ [17, 1, 18, 19, 20, 21, 22, 23, 24, 25, 26, 27, 28, 29, 30, 31, 32, 33, 34, 35, 36, 37, 38, 12, 5, 13, 39, 40, 11, 41, 42, 43, 44, 2, 3, 4, 6, 7, 8, 9, 10, 45, 46, 47, 48, 49, 50, 51, 56, 57, 58, 59, 60, 61, 62, 63, 52, 53, 54, 55] (by decide +kernel) (by decide +kernel)
set_option maxRecDepth 20000 in
theorem gX2_visible_X2_fillVisibleRow : GoodIn wsX2_visible (wsV RX2 150 RX2 yX2_fillVisibleRow wsX2_fillVisibleRow) := goodIn_app (goodIn_of _ (by decide +kernel)) ggX2_visible_X2_fillVisibleRow
theorem dX2_visible_0 : decode cX2_visible 0 = .ok (.aload_n 0, 1) := by decide +kernel
theorem dX2_visible_1 : decode cX2_visible 1 = .ok (.iload_n 1, 1) := by decide +kernel
theorem dX2_visible_2 : decode cX2_visible 2 = .ok (.invokevirtual 68, 3) := by decide +kernel
theorem dX2_visible_5 : decode cX2_visible 5 = .ok (.ifCond .eq 13, 3) := by decide +kernel
theorem dX2_visible_8 : decode cX2_visible 8 = .ok (.iload_n 2, 1) := by decide +kernel
theorem dX2_visible_9 : decode cX2_visible 9 = .ok (.ifCond .lt 9, 3) := by decide +kernel
theorem dX2_visible_12 : decode cX2_visible 12 = .ok (.iload_n 2, 1) := by decide +kernel
theorem dX2_visible_13 : decode cX2_visible 13 = .ok (.bipush 6, 2) := by decide +kernel
theorem dX2_visible_15 : decode cX2_visible 15 = .ok (.if_icmp .lt 5, 3) := by decide +kernel
theorem dX2_visible_18 : decode cX2_visible 18 = .ok (.iconst (-1), 1) := by decide +kernel
theorem dX2_visible_19 : decode cX2_visible 19 = .ok (.ireturn, 1) := by decide +kernel
theorem dX2_visible_20 : decode cX2_visible 20 = .ok (.aload_n 0, 1) := by decide +kernel
theorem dX2_visible_21 : decode cX2_visible 21 = .ok (.iload_n 1, 1) := by decide +kernel
theorem dX2_visible_22 : decode cX2_visible 22 = .ok (.iload_n 2, 1) := by decide +kernel
theorem dX2_visible_23 : decode cX2_visible 23 = .ok (.invokevirtual 150, 3) := by decide +kernel
theorem dX2_visible_26 : decode cX2_visible 26 = .ok (.iload_n 3, 1) := by decide +kernel
theorem dX2_visible_27 : decode cX2_visible 27 = .ok (.ifCond .lt 26, 3) := by decide +kernel
theorem dX2_visible_30 : decode cX2_visible 30 = .ok (.iload_n 3, 1) := by decide +kernel
theorem dX2_visible_31 : decode cX2_visible 31 = .ok (.aload_n 0, 1) := by decide +kernel
theorem dX2_visible_32 : decode cX2_visible 32 = .ok (.getfield 26, 3) := by decide +kernel
theorem dX2_visible_35 : decode cX2_visible 35 = .ok (.getfield 154, 3) := by decide +kernel
theorem dX2_visible_38 : decode cX2_visible 38 = .ok (.if_icmp .ge 15, 3) := by decide +kernel
theorem dX2_visible_41 : decode cX2_visible 41 = .ok (.aload_n 0, 1) := by decide +kernel
theorem dX2_visible_42 : decode cX2_visible 42 = .ok (.getfield 26, 3) := by decide +kernel
theorem dX2_visible_45 : decode cX2_visible 45 = .ok (.getfield 157, 3) := by decide +kernel
theorem dX2_visible_48 : decode cX2_visible 48 = .ok (.iload_n 3, 1) := by decide +kernel
theorem dX2_visible_49 : decode cX2_visible 49 = .ok (.iaload, 1) := by decide +kernel
theorem dX2_visible_50 : decode cX2_visible 50 = .ok (.goto 4, 3) := by decide +kernel
theorem dX2_visible_53 : decode cX2_visible 53 = .ok (.iconst (-1), 1) := by decide +kernel
theorem dX2_visible_54 : decode cX2_visible 54 = .ok (.ireturn, 1) := by decide +kernel
set_option maxRecDepth 20000 in
theorem ggX2_why_X2_isLoaded : GoodIn wsX2_why wsX2_isLoaded := goodIn_r _ [6, 1, 7, 8, 5, 9, 10, 11, 12, 57, 58, 59, 60, 61, 62] (by decide +kernel) (by decide +kernel)
set_option maxRecDepth 20000 in
theorem gX2_why_X2_isLoaded : GoodIn wsX2_why (wsV RX2 68 RX2 yX2_isLoaded wsX2_isLoaded) := goodIn_app (goodIn_of _ (by decide +kernel)) ggX2_why_X2_isLoaded
set_option maxRecDepth 20000 in
theorem ggX2_why_X2_isName : GoodIn wsX2_why wsX2_isName := goodIn_r _ [15] (by decide +kernel) (by decide +kernel)
set_option maxRecDepth 20000 in
theorem gX2_why_X2_isName : GoodIn wsX2_why (va_wsS RX2 60 yX2_isName wsX2_isName) := goodIn_app (goodIn_of _ (by decide +kernel)) ggX2_why_X2_isName
set_option maxRecDepth 20000 in
theorem ggX2_why_X2_holderSeenFrom : GoodIn wsX2_why wsX2_holderSeenFrom := goodIn_r _ [19, 20, 21, 22, 23, 24, 5, 25, 26, 27, 28, 29, 30, 31, 32, 33, 34, 35, 36, 37, 38, 39, 40, 41, 42, 43, 44, 45, 11, 12, 46, 47, 10, 48, 49, 50, 51, 2, 3, 4, 6, 1, 7, 8, 9, 52, 57, 58, 59, 60, 61, 62, 63, 64, 65, 66, 67, 68, 69, 70, 71, 72, 73, 74] (by decide +kernel) (by decide +kernel)
set_option maxRecDepth 20000 in
theorem gX2_why_X2_holderSeenFrom : GoodIn wsX2_why (wsV RX2 140 RX2 yX2_holderSeenFrom wsX2_holderSeenFrom) := goodIn_app (goodIn_of _ (by decide +kernel)) ggX2_why_X2_holderSeenFrom
set_option maxRecDepth 20000 in
theorem ggX2_why_X2_holderSet : GoodIn wsX2_why wsX2_holderSet := goodIn_r _ [56, 21, 38, 34, 39, 40, 41, 52, 46, 5, 47, 57, 58, 59, 60, 61, 62, 67, 68, 69, 70, 71, 72, 73, 74] (by decide +kernel) (by decide +kernel)
set_option maxRecDepth 20000 in
theorem gX2_why_X2_holderSet : GoodIn wsX2_why (wsV RX2 160 RX2 yX2_holderSet wsX2_holderSet) := goodIn_app (goodIn_of _ (by decide +kernel)) ggX2_why_X2_holderSet
theorem dX2_why_0 : decode cX2_why 0 = .ok (.aload_n 0, 1) := by decide +kernel
theorem dX2_why_1 : decode cX2_why 1 = .ok (.iload_n 1, 1) := by decide +kernel
theorem dX2_why_2 : decode cX2_why 2 = .ok (.invokevirtual 68, 3) := by decide +kernel
theorem dX2_why_5 : decode cX2_why 5 = .ok (.ifCond .eq 10, 3) := by decide +kernel
theorem dX2_why_8 : decode cX2_why 8 = .ok (.iload_n 2, 1) := by decide +kernel
theorem dX2_why_9 : decode cX2_why 9 = .ok (.invokestatic 60, 3) := by decide +kernel
theorem dX2_why_12 : decode cX2_why 12 = .ok (.ifCond .ne 5, 3) := by decide +kernel
theorem dX2_why_15 : decode cX2_why 15 = .ok (.iconst 1, 1) := by decide +kernel
theorem dX2_why_16 : decode cX2_why 16 = .ok (.ireturn, 1) := by decide +kernel
theorem dX2_why_17 : decode cX2_why 17 = .ok (.aload_n 0, 1) := by decide +kernel
theorem dX2_why_18 : decode cX2_why 18 = .ok (.iload_n 1, 1) := by decide +kernel
theorem dX2_why_19 : decode cX2_why 19 = .ok (.iload_n 2, 1) := by decide +kernel
theorem dX2_why_20 : decode cX2_why 20 = .ok (.invokevirtual 140, 3) := by decide +kernel
theorem dX2_why_23 : decode cX2_why 23 = .ok (.iconst (-1), 1) := by decide +kernel
theorem dX2_why_24 : decode cX2_why 24 = .ok (.if_icmp .eq 5, 3) := by decide +kernel
theorem dX2_why_27 : decode cX2_why 27 = .ok (.iconst 0, 1) := by decide +kernel
theorem dX2_why_28 : decode cX2_why 28 = .ok (.ireturn, 1) := by decide +kernel
theorem dX2_why_29 : decode cX2_why 29 = .ok (.aload_n 0, 1) := by decide +kernel
theorem dX2_why_30 : decode cX2_why 30 = .ok (.iload_n 2, 1) := by decide +kernel
theorem dX2_why_31 : decode cX2_why 31 = .ok (.invokevirtual 160, 3) := by decide +kernel
theorem dX2_why_34 : decode cX2_why 34 = .ok (.istore_n 3, 1) := by decide +kernel
theorem dX2_why_35 : decode cX2_why 35 = .ok (.iload_n 3, 1) := by decide +kernel
theorem dX2_why_36 : decode cX2_why 36 = .ok (.aload_n 0, 1) := by decide +kernel
theorem dX2_why_37 : decode cX2_why 37 = .ok (.getfield 20, 3) := by decide +kernel
theorem dX2_why_40 : decode cX2_why 40 = .ok (.iand, 1) := by decide +kernel
theorem dX2_why_41 : decode cX2_why 41 = .ok (.ifCond .eq 5, 3) := by decide +kernel
theorem dX2_why_44 : decode cX2_why 44 = .ok (.iconst 2, 1) := by decide +kernel
theorem dX2_why_45 : decode cX2_why 45 = .ok (.ireturn, 1) := by decide +kernel
theorem dX2_why_46 : decode cX2_why 46 = .ok (.iload_n 3, 1) := by decide +kernel
theorem dX2_why_47 : decode cX2_why 47 = .ok (.ifCond .eq 7, 3) := by decide +kernel
theorem dX2_why_50 : decode cX2_why 50 = .ok (.iconst 3, 1) := by decide +kernel
theorem dX2_why_51 : decode cX2_why 51 = .ok (.goto 4, 3) := by decide +kernel
theorem dX2_why_54 : decode cX2_why 54 = .ok (.iconst 4, 1) := by decide +kernel
theorem dX2_why_55 : decode cX2_why 55 = .ok (.ireturn, 1) := by decide +kernel
set_option maxRecDepth 20000 in
theorem ggX2_state_X2_isModule : GoodIn wsX2_state wsX2_isModule := goodIn_r _ [4] (by decide +kernel) (by decide +kernel)
set_option maxRecDepth 20000 in
theorem gX2_state_X2_isModule : GoodIn wsX2_state (va_wsS RX2 37 yX2_isModule wsX2_isModule) := goodIn_app (goodIn_of _ (by decide +kernel)) ggX2_state_X2_isModule
set_option maxRecDepth 20000 in
theorem ggX2_state_X2_isPresent : GoodIn wsX2_state wsX2_isPresent := goodIn_r _ [8, 9, 1, 2, 3, 4, 10, 11, 12, 30, 31, 32, 33, 34, 35] (by decide +kernel) (by decide +kernel)
set_option maxRecDepth 20000 in
theorem gX2_state_X2_isPresent : GoodIn wsX2_state (wsV RX2 48 RX2 yX2_isPresent wsX2_isPresent) := goodIn_app (goodIn_of _ (by decide +kernel)) ggX2_state_X2_isPresent
set_option maxRecDepth 20000 in
theorem ggX2_state_X2_isLoaded : GoodIn wsX2_state wsX2_isLoaded := goodIn_r _ [16, 17, 1, 2, 3, 4, 10, 11, 12, 30, 31, 32, 33, 34, 35] (by decide +kernel) (by decide +kernel)
set_option maxRecDepth 20000 in
theorem gX2_state_X2_isLoaded : GoodIn wsX2_state (wsV RX2 68 RX2 yX2_isLoaded wsX2_isLoaded) := goodIn_app (goodIn_of _ (by decide +kernel)) ggX2_state_X2_isLoaded
set_option maxRecDepth 20000 in
theorem ggX2_state_X2_loadableSet : GoodIn wsX2_state wsX2_loadableSet := goodIn_r _ [21, 9, 22, 23, 24, 3, 25, 26, 27, 28, 29, 30, 31, 32, 33, 34, 35, 36, 37, 38, 39, 40, 41, 42, 43] (by decide +kernel) (by decide +kernel)
set_option maxRecDepth 20000 in
theorem gX2_state_X2_loadableSet : GoodIn wsX2_state (wsV RX2 104 RX2 yX2_loadableSet wsX2_loadableSet) := goodIn_app (goodIn_of _ (by decide +kernel)) ggX2_state_X2_loadableSet
set_option maxRecDepth 20000 in
theorem ggX2_state_X2_isIn : GoodIn wsX2_state wsX2_isIn := goodIn_r _ [12] (by decide +kernel) (by decide +kernel)
set_option maxRecDepth 20000 in
theorem gX2_state_X2_isIn : GoodIn wsX2_state (va_wsS RX2 108 yX2_isIn wsX2_isIn) := goodIn_app (goodIn_of _ (by decide +kernel)) ggX2_state_X2_isIn
theorem dX2_state_0 : decode cX2_state 0 = .ok (.iload_n 1, 1) := by decide +kernel
theorem dX2_state_1 : decode cX2_state 1 = .ok (.invokestatic 37, 3) := by decide +kernel
theorem dX2_state_4 : decode cX2_state 4 = .ok (.ifCond .ne 5, 3) := by decide +kernel
theorem dX2_state_7 : decode cX2_state 7 = .ok (.iconst (-1), 1) := by decide +kernel
theorem dX2_state_8 : decode cX2_state 8 = .ok (.ireturn, 1) := by decide +kernel
theorem dX2_state_9 : decode cX2_state 9 = .ok (.aload_n 0, 1) := by decide +kernel
theorem dX2_state_10 : decode cX2_state 10 = .ok (.iload_n 1, 1) := by decide +kernel
theorem dX2_state_11 : decode cX2_state 11 = .ok (.invokevirtual 48, 3) := by decide +kernel
theorem dX2_state_14 : decode cX2_state 14 = .ok (.ifCond .ne 5, 3) := by decide +kernel
theorem dX2_state_17 : decode cX2_state 17 = .ok (.iconst 0, 1) := by decide +kernel
theorem dX2_state_18 : decode cX2_state 18 = .ok (.ireturn, 1) := by decide +kernel
theorem dX2_state_19 : decode cX2_state 19 = .ok (.aload_n 0, 1) := by decide +kernel
theorem dX2_state_20 : decode cX2_state 20 = .ok (.iload_n 1, 1) := by decide +kernel
theorem dX2_state_21 : decode cX2_state 21 = .ok (.invokevirtual 68, 3) := by decide +kernel
theorem dX2_state_24 : decode cX2_state 24 = .ok (.ifCond .eq 5, 3) := by decide +kernel
theorem dX2_state_27 : decode cX2_state 27 = .ok (.iconst 3, 1) := by decide +kernel
theorem dX2_state_28 : decode cX2_state 28 = .ok (.ireturn, 1) := by decide +kernel
theorem dX2_state_29 : decode cX2_state 29 = .ok (.aload_n 0, 1) := by decide +kernel
theorem dX2_state_30 : decode cX2_state 30 = .ok (.invokevirtual 104, 3) := by decide +kernel
theorem dX2_state_33 : decode cX2_state 33 = .ok (.iload_n 1, 1) := by decide +kernel
theorem dX2_state_34 : decode cX2_state 34 = .ok (.invokestatic 108, 3) := by decide +kernel
theorem dX2_state_37 : decode cX2_state 37 = .ok (.ifCond .eq 7, 3) := by decide +kernel
theorem dX2_state_40 : decode cX2_state 40 = .ok (.iconst 2, 1) := by decide +kernel
theorem dX2_state_41 : decode cX2_state 41 = .ok (.goto 4, 3) := by decide +kernel
theorem dX2_state_44 : decode cX2_state 44 = .ok (.iconst 1, 1) := by decide +kernel
theorem dX2_state_45 : decode cX2_state 45 = .ok (.ireturn, 1) := by decide +kernel
set_option maxRecDepth 20000 in
theorem ggX2_above_X2_isModule : GoodIn wsX2_above wsX2_isModule := goodIn_r _ [5] (by decide +kernel) (by decide +kernel)
set_option maxRecDepth 20000 in
theorem gX2_above_X2_isModule : GoodIn wsX2_above (va_wsS RX2 37 yX2_isModule wsX2_isModule) := goodIn_app (goodIn_of _ (by decide +kernel)) ggX2_above_X2_isModule
set_option maxRecDepth 20000 in
theorem ggX2_above_X2_isName : GoodIn wsX2_above wsX2_isName := goodIn_r _ [8] (by decide +kernel) (by decide +kernel)
set_option maxRecDepth 20000 in
theorem gX2_above_X2_isName : GoodIn wsX2_above (va_wsS RX2 60 yX2_isName wsX2_isName) := goodIn_app (goodIn_of _ (by decide +kernel)) ggX2_above_X2_isName
theorem dX2_above_0 : decode cX2_above 0 = .ok (.iload_n 1, 1) := by decide +kernel
theorem dX2_above_1 : decode cX2_above 1 = .ok (.invokestatic 37, 3) := by decide +kernel
theorem dX2_above_4 : decode cX2_above 4 = .ok (.ifCond .eq 24, 3) := by decide +kernel
theorem dX2_above_7 : decode cX2_above 7 = .ok (.iload_n 2, 1) := by decide +kernel
theorem dX2_above_8 : decode cX2_above 8 = .ok (.invokestatic 60, 3) := by decide +kernel
theorem dX2_above_11 : decode cX2_above 11 = .ok (.ifCond .eq 17, 3) := by decide +kernel
theorem dX2_above_14 : decode cX2_above 14 = .ok (.aload_n 0, 1) := by decide +kernel
theorem dX2_above_15 : decode cX2_above 15 = .ok (.getfield 11, 3) := by decide +kernel
theorem dX2_above_18 : decode cX2_above 18 = .ok (.iload_n 1, 1) := by decide +kernel
theorem dX2_above_19 : decode cX2_above 19 = .ok (.aaload, 1) := by decide +kernel
theorem dX2_above_20 : decode cX2_above 20 = .ok (.getfield 163, 3) := by decide +kernel
theorem dX2_above_23 : decode cX2_above 23 = .ok (.iload_n 2, 1) := by decide +kernel
theorem dX2_above_24 : decode cX2_above 24 = .ok (.iaload, 1) := by decide +kernel
theorem dX2_above_25 : decode cX2_above 25 = .ok (.goto 4, 3) := by decide +kernel
theorem dX2_above_28 : decode cX2_above 28 = .ok (.iconst (-1), 1) := by decide +kernel
theorem dX2_above_29 : decode cX2_above 29 = .ok (.ireturn, 1) := by decide +kernel
set_option maxRecDepth 20000 in
theorem ggX2_defined_X0_countClasses : GoodIn wsX2_defined wsX0_countClasses := goodIn_r _ [5, 6, 7, 8, 3, 9, 10, 17, 18, 19, 20, 21, 22, 23, 24] (by decide +kernel) (by decide +kernel)
set_option maxRecDepth 20000 in
theorem gX2_defined_X0_countClasses_n132 : GoodIn wsX2_defined (wsX0_countClasses) := ggX2_defined_X0_countClasses
theorem dX2_defined_0 : decode cX2_defined 0 = .ok (.iconst 0, 1) := by decide +kernel
theorem dX2_defined_1 : decode cX2_defined 1 = .ok (.istore_n 1, 1) := by decide +kernel
theorem dX2_defined_2 : decode cX2_defined 2 = .ok (.iconst 0, 1) := by decide +kernel
theorem dX2_defined_3 : decode cX2_defined 3 = .ok (.istore_n 2, 1) := by decide +kernel
theorem dX2_defined_4 : decode cX2_defined 4 = .ok (.iload_n 2, 1) := by decide +kernel
theorem dX2_defined_5 : decode cX2_defined 5 = .ok (.bipush 8, 2) := by decide +kernel
theorem dX2_defined_7 : decode cX2_defined 7 = .ok (.if_icmp .ge 21, 3) := by decide +kernel
theorem dX2_defined_10 : decode cX2_defined 10 = .ok (.iload_n 1, 1) := by decide +kernel
theorem dX2_defined_11 : decode cX2_defined 11 = .ok (.aload_n 0, 1) := by decide +kernel
theorem dX2_defined_12 : decode cX2_defined 12 = .ok (.getfield 11, 3) := by decide +kernel
theorem dX2_defined_15 : decode cX2_defined 15 = .ok (.iload_n 2, 1) := by decide +kernel
theorem dX2_defined_16 : decode cX2_defined 16 = .ok (.aaload, 1) := by decide +kernel
theorem dX2_defined_17 : decode cX2_defined 17 = .ok (.invokevirtual 132, 3) := by decide +kernel
theorem dX2_defined_20 : decode cX2_defined 20 = .ok (.iadd, 1) := by decide +kernel
theorem dX2_defined_21 : decode cX2_defined 21 = .ok (.istore_n 1, 1) := by decide +kernel
theorem dX2_defined_22 : decode cX2_defined 22 = .ok (.iinc 2 1, 3) := by decide +kernel
theorem dX2_defined_25 : decode cX2_defined 25 = .ok (.goto (-21), 3) := by decide +kernel
theorem dX2_defined_28 : decode cX2_defined 28 = .ok (.iload_n 1, 1) := by decide +kernel
theorem dX2_defined_29 : decode cX2_defined 29 = .ok (.ireturn, 1) := by decide +kernel
theorem dX2_bit_0 : decode cX2_bit 0 = .ok (.iconst 1, 1) := by decide +kernel
theorem dX2_bit_1 : decode cX2_bit 1 = .ok (.iload_n 0, 1) := by decide +kernel
theorem dX2_bit_2 : decode cX2_bit 2 = .ok (.ishl, 1) := by decide +kernel
theorem dX2_bit_3 : decode cX2_bit 3 = .ok (.ireturn, 1) := by decide +kernel
theorem dX2_isIn_0 : decode cX2_isIn 0 = .ok (.iload_n 0, 1) := by decide +kernel
theorem dX2_isIn_1 : decode cX2_isIn 1 = .ok (.iload_n 1, 1) := by decide +kernel
theorem dX2_isIn_2 : decode cX2_isIn 2 = .ok (.ishr, 1) := by decide +kernel
theorem dX2_isIn_3 : decode cX2_isIn 3 = .ok (.iconst 1, 1) := by decide +kernel
theorem dX2_isIn_4 : decode cX2_isIn 4 = .ok (.iand, 1) := by decide +kernel
theorem dX2_isIn_5 : decode cX2_isIn 5 = .ok (.ifCond .eq 7, 3) := by decide +kernel
theorem dX2_isIn_8 : decode cX2_isIn 8 = .ok (.iconst 1, 1) := by decide +kernel
theorem dX2_isIn_9 : decode cX2_isIn 9 = .ok (.goto 4, 3) := by decide +kernel
theorem dX2_isIn_12 : decode cX2_isIn 12 = .ok (.iconst 0, 1) := by decide +kernel
theorem dX2_isIn_13 : decode cX2_isIn 13 = .ok (.ireturn, 1) := by decide +kernel
theorem dX2_isModule_0 : decode cX2_isModule 0 = .ok (.iload_n 0, 1) := by decide +kernel
theorem dX2_isModule_1 : decode cX2_isModule 1 = .ok (.ifCond .lt 13, 3) := by decide +kernel
theorem dX2_isModule_4 : decode cX2_isModule 4 = .ok (.iload_n 0, 1) := by decide +kernel
theorem dX2_isModule_5 : decode cX2_isModule 5 = .ok (.bipush 8, 2) := by decide +kernel
theorem dX2_isModule_7 : decode cX2_isModule 7 = .ok (.if_icmp .ge 7, 3) := by decide +kernel
theorem dX2_isModule_10 : decode cX2_isModule 10 = .ok (.iconst 1, 1) := by decide +kernel
theorem dX2_isModule_11 : decode cX2_isModule 11 = .ok (.goto 4, 3) := by decide +kernel
theorem dX2_isModule_14 : decode cX2_isModule 14 = .ok (.iconst 0, 1) := by decide +kernel
theorem dX2_isModule_15 : decode cX2_isModule 15 = .ok (.ireturn, 1) := by decide +kernel
theorem dX2_isName_0 : decode cX2_isName 0 = .ok (.iload_n 0, 1) := by decide +kernel
theorem dX2_isName_1 : decode cX2_isName 1 = .ok (.ifCond .lt 13, 3) := by decide +kernel
theorem dX2_isName_4 : decode cX2_isName 4 = .ok (.iload_n 0, 1) := by decide +kernel
theorem dX2_isName_5 : decode cX2_isName 5 = .ok (.bipush 24, 2) := by decide +kernel
theorem dX2_isName_7 : decode cX2_isName 7 = .ok (.if_icmp .ge 7, 3) := by decide +kernel
theorem dX2_isName_10 : decode cX2_isName 10 = .ok (.iconst 1, 1) := by decide +kernel
theorem dX2_isName_11 : decode cX2_isName 11 = .ok (.goto 4, 3) := by decide +kernel
theorem dX2_isName_14 : decode cX2_isName 14 = .ok (.iconst 0, 1) := by decide +kernel
theorem dX2_isName_15 : decode cX2_isName 15 = .ok (.ireturn, 1) := by decide +kernel
set_option maxRecDepth 20000 in
theorem ggX2_isExtended_X2_isName : GoodIn wsX2_isExtended wsX2_isName := goodIn_r _ [4] (by decide +kernel) (by decide +kernel)
set_option maxRecDepth 20000 in
theorem gX2_isExtended_X2_isName : GoodIn wsX2_isExtended (va_wsS RX2 60 yX2_isName wsX2_isName) := goodIn_app (goodIn_of _ (by decide +kernel)) ggX2_isExtended_X2_isName
theorem dX2_isExtended_0 : decode cX2_isExtended 0 = .ok (.iload_n 0, 1) := by decide +kernel
theorem dX2_isExtended_1 : decode cX2_isExtended 1 = .ok (.invokestatic 60, 3) := by decide +kernel
theorem dX2_isExtended_4 : decode cX2_isExtended 4 = .ok (.ifCond .ne 14, 3) := by decide +kernel
theorem dX2_isExtended_7 : decode cX2_isExtended 7 = .ok (.iload_n 0, 1) := by decide +kernel
theorem dX2_isExtended_8 : decode cX2_isExtended 8 = .ok (.iconst (-1), 1) := by decide +kernel
theorem dX2_isExtended_9 : decode cX2_isExtended 9 = .ok (.if_icmp .eq 9, 3) := by decide +kernel
theorem dX2_isExtended_12 : decode cX2_isExtended 12 = .ok (.iload_n 0, 1) := by decide +kernel
theorem dX2_isExtended_13 : decode cX2_isExtended 13 = .ok (.bipush (-2), 2) := by decide +kernel
theorem dX2_isExtended_15 : decode cX2_isExtended 15 = .ok (.if_icmp .ne 7, 3) := by decide +kernel
theorem dX2_isExtended_18 : decode cX2_isExtended 18 = .ok (.iconst 1, 1) := by decide +kernel
theorem dX2_isExtended_19 : decode cX2_isExtended 19 = .ok (.goto 4, 3) := by decide +kernel
theorem dX2_isExtended_22 : decode cX2_isExtended 22 = .ok (.iconst 0, 1) := by decide +kernel
theorem dX2_isExtended_23 : decode cX2_isExtended 23 = .ok (.ireturn, 1) := by decide +kernel
theorem dX2_isPathSet_0 : decode cX2_isPathSet 0 = .ok (.iload_n 0, 1) := by decide +kernel
theorem dX2_isPathSet_1 : decode cX2_isPathSet 1 = .ok (.ifCond .lt 13, 3) := by decide +kernel
theorem dX2_isPathSet_4 : decode cX2_isPathSet 4 = .ok (.iload_n 0, 1) := by decide +kernel
theorem dX2_isPathSet_5 : decode cX2_isPathSet 5 = .ok (.bipush 63, 2) := by decide +kernel
theorem dX2_isPathSet_7 : decode cX2_isPathSet 7 = .ok (.if_icmp .gt 7, 3) := by decide +kernel
theorem dX2_isPathSet_10 : decode cX2_isPathSet 10 = .ok (.iconst 1, 1) := by decide +kernel
theorem dX2_isPathSet_11 : decode cX2_isPathSet 11 = .ok (.goto 4, 3) := by decide +kernel
theorem dX2_isPathSet_14 : decode cX2_isPathSet 14 = .ok (.iconst 0, 1) := by decide +kernel
theorem dX2_isPathSet_15 : decode cX2_isPathSet 15 = .ok (.ireturn, 1) := by decide +kernel
set_option maxRecDepth 20000 in
theorem ggX2_canDependOn_X2_isModule : GoodIn wsX2_canDependOn wsX2_isModule := goodIn_r _ [4] (by decide +kernel) (by decide +kernel)
set_option maxRecDepth 20000 in
theorem gX2_canDependOn_X2_isModule : GoodIn wsX2_canDependOn (va_wsS RX2 37 yX2_isModule wsX2_isModule) := goodIn_app (goodIn_of _ (by decide +kernel)) ggX2_canDependOn_X2_isModule
theorem dX2_canDependOn_0 : decode cX2_canDependOn 0 = .ok (.iload_n 1, 1) := by decide +kernel
theorem dX2_canDependOn_1 : decode cX2_canDependOn 1 = .ok (.iconst (-1), 1) := by decide +kernel
theorem dX2_canDependOn_2 : decode cX2_canDependOn 2 = .ok (.if_icmp .eq 15, 3) := by decide +kernel
theorem dX2_canDependOn_5 : decode cX2_canDependOn 5 = .ok (.iload_n 1, 1) := by decide +kernel
theorem dX2_canDependOn_6 : decode cX2_canDependOn 6 = .ok (.invokestatic 37, 3) := by decide +kernel
theorem dX2_canDependOn_9 : decode cX2_canDependOn 9 = .ok (.ifCond .eq 12, 3) := by decide +kernel
theorem dX2_canDependOn_12 : decode cX2_canDependOn 12 = .ok (.iload_n 1, 1) := by decide +kernel
theorem dX2_canDependOn_13 : decode cX2_canDependOn 13 = .ok (.iload_n 0, 1) := by decide +kernel
theorem dX2_canDependOn_14 : decode cX2_canDependOn 14 = .ok (.if_icmp .eq 7, 3) := by decide +kernel
theorem dX2_canDependOn_17 : decode cX2_canDependOn 17 = .ok (.iconst 1, 1) := by decide +kernel
theorem dX2_canDependOn_18 : decode cX2_canDependOn 18 = .ok (.goto 4, 3) := by decide +kernel
theorem dX2_canDependOn_21 : decode cX2_canDependOn 21 = .ok (.iconst 0, 1) := by decide +kernel
theorem dX2_canDependOn_22 : decode cX2_canDependOn 22 = .ok (.ireturn, 1) := by decide +kernel
set_option maxRecDepth 20000 in
theorem ggX2_isPresent_X2_isModule : GoodIn wsX2_isPresent wsX2_isModule := goodIn_r _ [5] (by decide +kernel) (by decide +kernel)
set_option maxRecDepth 20000 in
theorem gX2_isPresent_X2_isModule : GoodIn wsX2_isPresent (va_wsS RX2 37 yX2_isModule wsX2_isModule) := goodIn_app (goodIn_of _ (by decide +kernel)) ggX2_isPresent_X2_isModule
set_option maxRecDepth 20000 in
theorem ggX2_isPresent_X2_isIn : GoodIn wsX2_isPresent wsX2_isIn := goodIn_r _ [8] (by decide +kernel) (by decide +kernel)
end
section
set_option maxRecDepth 20000 in
theorem gX2_isPresent_X2_isIn : GoodIn wsX2_isPresent (va_wsS RX2 108 yX2_isIn wsX2_isIn) := goodIn_app (goodIn_of _ (by decide +kernel)) ggX2_isPresent_X2_isIn
theorem dX2_isPresent_0 : decode cX2_isPresent 0 = .ok (.iload_n 1, 1) := by decide +kernel
theorem dX2_isPresent_1 : decode cX2_isPresent 1 = .ok (.invokestatic 37, 3) := by decide +kernel
theorem dX2_isPresent_4 : decode cX2_isPresent 4 = .ok (.ifCond .eq 18, 3) := by decide +kernel
theorem dX2_isPresent_7 : decode cX2_isPresent 7 = .ok (.aload_n 0, 1) := by decide +kernel
theorem dX2_isPresent_8 : decode cX2_isPresent 8 = .ok (.getfield 16, 3) := by decide +kernel
theorem dX2_isPresent_11 : decode cX2_isPresent 11 = .ok (.iload_n 1, 1) := by decide +kernel
theorem dX2_isPresent_12 : decode cX2_isPresent 12 = .ok (.invokestatic 108, 3) := by decide +kernel
theorem dX2_isPresent_15 : decode cX2_isPresent 15 = .ok (.ifCond .eq 7, 3) := by decide +kernel
theorem dX2_isPresent_18 : decode cX2_isPresent 18 = .ok (.iconst 1, 1) := by decide +kernel
theorem dX2_isPresent_19 : decode cX2_isPresent 19 = .ok (.goto 4, 3) := by decide +kernel
theorem dX2_isPresent_22 : decode cX2_isPresent 22 = .ok (.iconst 0, 1) := by decide +kernel
theorem dX2_isPresent_23 : decode cX2_isPresent 23 = .ok (.ireturn, 1) := by decide +kernel
set_option maxRecDepth 20000 in
theorem ggX2_isLoaded_X2_isModule : GoodIn wsX2_isLoaded wsX2_isModule := goodIn_r _ [5] (by decide +kernel) (by decide +kernel)
set_option maxRecDepth 20000 in
theorem gX2_isLoaded_X2_isModule : GoodIn wsX2_isLoaded (va_wsS RX2 37 yX2_isModule wsX2_isModule) := goodIn_app (goodIn_of _ (by decide +kernel)) ggX2_isLoaded_X2_isModule
set_option maxRecDepth 20000 in
theorem ggX2_isLoaded_X2_isIn : GoodIn wsX2_isLoaded wsX2_isIn := goodIn_r _ [8] (by decide +kernel) (by decide +kernel)
set_option maxRecDepth 20000 in
theorem gX2_isLoaded_X2_isIn : GoodIn wsX2_isLoaded (va_wsS RX2 108 yX2_isIn wsX2_isIn) := goodIn_app (goodIn_of _ (by decide +kernel)) ggX2_isLoaded_X2_isIn
theorem dX2_isLoaded_0 : decode cX2_isLoaded 0 = .ok (.iload_n 1, 1) := by decide +kernel
theorem dX2_isLoaded_1 : decode cX2_isLoaded 1 = .ok (.invokestatic 37, 3) := by decide +kernel
theorem dX2_isLoaded_4 : decode cX2_isLoaded 4 = .ok (.ifCond .eq 18, 3) := by decide +kernel
theorem dX2_isLoaded_7 : decode cX2_isLoaded 7 = .ok (.aload_n 0, 1) := by decide +kernel
theorem dX2_isLoaded_8 : decode cX2_isLoaded 8 = .ok (.getfield 20, 3) := by decide +kernel
theorem dX2_isLoaded_11 : decode cX2_isLoaded 11 = .ok (.iload_n 1, 1) := by decide +kernel
theorem dX2_isLoaded_12 : decode cX2_isLoaded 12 = .ok (.invokestatic 108, 3) := by decide +kernel
theorem dX2_isLoaded_15 : decode cX2_isLoaded 15 = .ok (.ifCond .eq 7, 3) := by decide +kernel
theorem dX2_isLoaded_18 : decode cX2_isLoaded 18 = .ok (.iconst 1, 1) := by decide +kernel
theorem dX2_isLoaded_19 : decode cX2_isLoaded 19 = .ok (.goto 4, 3) := by decide +kernel
theorem dX2_isLoaded_22 : decode cX2_isLoaded 22 = .ok (.iconst 0, 1) := by decide +kernel
theorem dX2_isLoaded_23 : decode cX2_isLoaded 23 = .ok (.ireturn, 1) := by decide +kernel
set_option maxRecDepth 20000 in
theorem ggX2_loadableSet_X2_withoutLacking : GoodIn wsX2_loadableSet wsX2_withoutLacking := goodIn_r _ [6, 7, 8, 9, 5, 10, 11, 12, 13, 14, 15, 16, 17, 18, 19, 20, 21, 22, 23, 24] (by decide +kernel) (by decide +kernel)
set_option maxRecDepth 20000 in
theorem gX2_loadableSet_X2_withoutLacking : GoodIn wsX2_loadableSet (wsV RX2 166 RX2 yX2_withoutLacking wsX2_withoutLacking) := goodIn_app (goodIn_of _ (by decide +kernel)) ggX2_loadableSet_X2_withoutLacking
theorem dX2_loadableSet_0 : decode cX2_loadableSet 0 = .ok (.aload_n 0, 1) := by decide +kernel
theorem dX2_loadableSet_1 : decode cX2_loadableSet 1 = .ok (.getfield 16, 3) := by decide +kernel
theorem dX2_loadableSet_4 : decode cX2_loadableSet 4 = .ok (.istore_n 1, 1) := by decide +kernel
theorem dX2_loadableSet_5 : decode cX2_loadableSet 5 = .ok (.iconst 0, 1) := by decide +kernel
theorem dX2_loadableSet_6 : decode cX2_loadableSet 6 = .ok (.istore_n 2, 1) := by decide +kernel
theorem dX2_loadableSet_7 : decode cX2_loadableSet 7 = .ok (.iload_n 2, 1) := by decide +kernel
theorem dX2_loadableSet_8 : decode cX2_loadableSet 8 = .ok (.bipush 8, 2) := by decide +kernel
theorem dX2_loadableSet_10 : decode cX2_loadableSet 10 = .ok (.if_icmp .ge 15, 3) := by decide +kernel
theorem dX2_loadableSet_13 : decode cX2_loadableSet 13 = .ok (.aload_n 0, 1) := by decide +kernel
theorem dX2_loadableSet_14 : decode cX2_loadableSet 14 = .ok (.iload_n 1, 1) := by decide +kernel
theorem dX2_loadableSet_15 : decode cX2_loadableSet 15 = .ok (.invokevirtual 166, 3) := by decide +kernel
theorem dX2_loadableSet_18 : decode cX2_loadableSet 18 = .ok (.istore_n 1, 1) := by decide +kernel
theorem dX2_loadableSet_19 : decode cX2_loadableSet 19 = .ok (.iinc 2 1, 3) := by decide +kernel
theorem dX2_loadableSet_22 : decode cX2_loadableSet 22 = .ok (.goto (-15), 3) := by decide +kernel
theorem dX2_loadableSet_25 : decode cX2_loadableSet 25 = .ok (.iload_n 1, 1) := by decide +kernel
theorem dX2_loadableSet_26 : decode cX2_loadableSet 26 = .ok (.ireturn, 1) := by decide +kernel
set_option maxRecDepth 20000 in
theorem ggX2_withoutLacking_X2_bit : GoodIn wsX2_withoutLacking wsX2_bit := goodIn_r _ [5] (by decide +kernel) (by decide +kernel)
set_option maxRecDepth 20000 in
theorem gX2_withoutLacking_X2_bit : GoodIn wsX2_withoutLacking (va_wsS RX2 56 yX2_bit wsX2_bit) := goodIn_app (goodIn_of _ (by decide +kernel)) ggX2_withoutLacking_X2_bit
theorem dX2_withoutLacking_0 : decode cX2_withoutLacking 0 = .ok (.iload_n 1, 1) := by decide +kernel
theorem dX2_withoutLacking_1 : decode cX2_withoutLacking 1 = .ok (.istore_n 2, 1) := by decide +kernel
theorem dX2_withoutLacking_2 : decode cX2_withoutLacking 2 = .ok (.iconst 0, 1) := by decide +kernel
theorem dX2_withoutLacking_3 : decode cX2_withoutLacking 3 = .ok (.istore_n 3, 1) := by decide +kernel
theorem dX2_withoutLacking_4 : decode cX2_withoutLacking 4 = .ok (.iload_n 3, 1) := by decide +kernel
theorem dX2_withoutLacking_5 : decode cX2_withoutLacking 5 = .ok (.bipush 8, 2) := by decide +kernel
theorem dX2_withoutLacking_7 : decode cX2_withoutLacking 7 = .ok (.if_icmp .ge 34, 3) := by decide +kernel
theorem dX2_withoutLacking_10 : decode cX2_withoutLacking 10 = .ok (.aload_n 0, 1) := by decide +kernel
theorem dX2_withoutLacking_11 : decode cX2_withoutLacking 11 = .ok (.getfield 11, 3) := by decide +kernel
theorem dX2_withoutLacking_14 : decode cX2_withoutLacking 14 = .ok (.iload_n 3, 1) := by decide +kernel
theorem dX2_withoutLacking_15 : decode cX2_withoutLacking 15 = .ok (.aaload, 1) := by decide +kernel
theorem dX2_withoutLacking_16 : decode cX2_withoutLacking 16 = .ok (.getfield 169, 3) := by decide +kernel
theorem dX2_withoutLacking_19 : decode cX2_withoutLacking 19 = .ok (.iload_n 1, 1) := by decide +kernel
theorem dX2_withoutLacking_20 : decode cX2_withoutLacking 20 = .ok (.iconst (-1), 1) := by decide +kernel
theorem dX2_withoutLacking_21 : decode cX2_withoutLacking 21 = .ok (.ixor, 1) := by decide +kernel
theorem dX2_withoutLacking_22 : decode cX2_withoutLacking 22 = .ok (.iand, 1) := by decide +kernel
theorem dX2_withoutLacking_23 : decode cX2_withoutLacking 23 = .ok (.ifCond .eq 12, 3) := by decide +kernel
theorem dX2_withoutLacking_26 : decode cX2_withoutLacking 26 = .ok (.iload_n 2, 1) := by decide +kernel
theorem dX2_withoutLacking_27 : decode cX2_withoutLacking 27 = .ok (.iload_n 3, 1) := by decide +kernel
theorem dX2_withoutLacking_28 : decode cX2_withoutLacking 28 = .ok (.invokestatic 56, 3) := by decide +kernel
theorem dX2_withoutLacking_31 : decode cX2_withoutLacking 31 = .ok (.iconst (-1), 1) := by decide +kernel
theorem dX2_withoutLacking_32 : decode cX2_withoutLacking 32 = .ok (.ixor, 1) := by decide +kernel
theorem dX2_withoutLacking_33 : decode cX2_withoutLacking 33 = .ok (.iand, 1) := by decide +kernel
theorem dX2_withoutLacking_34 : decode cX2_withoutLacking 34 = .ok (.istore_n 2, 1) := by decide +kernel
theorem dX2_withoutLacking_35 : decode cX2_withoutLacking 35 = .ok (.iinc 3 1, 3) := by decide +kernel
theorem dX2_withoutLacking_38 : decode cX2_withoutLacking 38 = .ok (.goto (-34), 3) := by decide +kernel
theorem dX2_withoutLacking_41 : decode cX2_withoutLacking 41 = .ok (.iload_n 2, 1) := by decide +kernel
theorem dX2_withoutLacking_42 : decode cX2_withoutLacking 42 = .ok (.ireturn, 1) := by decide +kernel
set_option maxRecDepth 20000 in
theorem ggX2_reachedSet_X2_bit : GoodIn wsX2_reachedSet wsX2_bit := goodIn_r _ [4] (by decide +kernel) (by decide +kernel)
set_option maxRecDepth 20000 in
theorem gX2_reachedSet_X2_bit : GoodIn wsX2_reachedSet (va_wsS RX2 56 yX2_bit wsX2_bit) := goodIn_app (goodIn_of _ (by decide +kernel)) ggX2_reachedSet_X2_bit
set_option maxRecDepth 20000 in
theorem ggX2_reachedSet_X2_nextTo : GoodIn wsX2_reachedSet wsX2_nextTo := goodIn_r _ [8, 9, 10, 11, 3, 12, 13, 14, 15, 16, 17, 18, 19, 20, 21, 22, 23, 24, 25, 26] (by decide +kernel) (by decide +kernel)
set_option maxRecDepth 20000 in
theorem gX2_reachedSet_X2_nextTo : GoodIn wsX2_reachedSet (wsV RX2 172 RX2 yX2_nextTo wsX2_nextTo) := goodIn_app (goodIn_of _ (by decide +kernel)) ggX2_reachedSet_X2_nextTo
theorem dX2_reachedSet_0 : decode cX2_reachedSet 0 = .ok (.iload_n 1, 1) := by decide +kernel
theorem dX2_reachedSet_1 : decode cX2_reachedSet 1 = .ok (.invokestatic 56, 3) := by decide +kernel
theorem dX2_reachedSet_4 : decode cX2_reachedSet 4 = .ok (.istore_n 3, 1) := by decide +kernel
theorem dX2_reachedSet_5 : decode cX2_reachedSet 5 = .ok (.iconst 0, 1) := by decide +kernel
theorem dX2_reachedSet_6 : decode cX2_reachedSet 6 = .ok (.istore 4, 2) := by decide +kernel
theorem dX2_reachedSet_8 : decode cX2_reachedSet 8 = .ok (.iload 4, 2) := by decide +kernel
theorem dX2_reachedSet_10 : decode cX2_reachedSet 10 = .ok (.bipush 8, 2) := by decide +kernel
theorem dX2_reachedSet_12 : decode cX2_reachedSet 12 = .ok (.if_icmp .ge 19, 3) := by decide +kernel
theorem dX2_reachedSet_15 : decode cX2_reachedSet 15 = .ok (.iload_n 3, 1) := by decide +kernel
theorem dX2_reachedSet_16 : decode cX2_reachedSet 16 = .ok (.aload_n 0, 1) := by decide +kernel
theorem dX2_reachedSet_17 : decode cX2_reachedSet 17 = .ok (.iload_n 3, 1) := by decide +kernel
theorem dX2_reachedSet_18 : decode cX2_reachedSet 18 = .ok (.invokevirtual 172, 3) := by decide +kernel
theorem dX2_reachedSet_21 : decode cX2_reachedSet 21 = .ok (.iload_n 2, 1) := by decide +kernel
theorem dX2_reachedSet_22 : decode cX2_reachedSet 22 = .ok (.iand, 1) := by decide +kernel
theorem dX2_reachedSet_23 : decode cX2_reachedSet 23 = .ok (.ior, 1) := by decide +kernel
theorem dX2_reachedSet_24 : decode cX2_reachedSet 24 = .ok (.istore_n 3, 1) := by decide +kernel
theorem dX2_reachedSet_25 : decode cX2_reachedSet 25 = .ok (.iinc 4 1, 3) := by decide +kernel
theorem dX2_reachedSet_28 : decode cX2_reachedSet 28 = .ok (.goto (-20), 3) := by decide +kernel
theorem dX2_reachedSet_31 : decode cX2_reachedSet 31 = .ok (.iload_n 3, 1) := by decide +kernel
theorem dX2_reachedSet_32 : decode cX2_reachedSet 32 = .ok (.ireturn, 1) := by decide +kernel
set_option maxRecDepth 20000 in
theorem ggX2_nextTo_X2_isIn : GoodIn wsX2_nextTo wsX2_isIn := goodIn_r _ [5] (by decide +kernel) (by decide +kernel)
set_option maxRecDepth 20000 in
theorem gX2_nextTo_X2_isIn : GoodIn wsX2_nextTo (va_wsS RX2 108 yX2_isIn wsX2_isIn) := goodIn_app (goodIn_of _ (by decide +kernel)) ggX2_nextTo_X2_isIn
theorem dX2_nextTo_0 : decode cX2_nextTo 0 = .ok (.iconst 0, 1) := by decide +kernel
theorem dX2_nextTo_1 : decode cX2_nextTo 1 = .ok (.istore_n 2, 1) := by decide +kernel
theorem dX2_nextTo_2 : decode cX2_nextTo 2 = .ok (.iconst 0, 1) := by decide +kernel
theorem dX2_nextTo_3 : decode cX2_nextTo 3 = .ok (.istore_n 3, 1) := by decide +kernel
theorem dX2_nextTo_4 : decode cX2_nextTo 4 = .ok (.iload_n 3, 1) := by decide +kernel
theorem dX2_nextTo_5 : decode cX2_nextTo 5 = .ok (.bipush 8, 2) := by decide +kernel
theorem dX2_nextTo_7 : decode cX2_nextTo 7 = .ok (.if_icmp .ge 29, 3) := by decide +kernel
theorem dX2_nextTo_10 : decode cX2_nextTo 10 = .ok (.iload_n 1, 1) := by decide +kernel
theorem dX2_nextTo_11 : decode cX2_nextTo 11 = .ok (.iload_n 3, 1) := by decide +kernel
theorem dX2_nextTo_12 : decode cX2_nextTo 12 = .ok (.invokestatic 108, 3) := by decide +kernel
theorem dX2_nextTo_15 : decode cX2_nextTo 15 = .ok (.ifCond .eq 15, 3) := by decide +kernel
theorem dX2_nextTo_18 : decode cX2_nextTo 18 = .ok (.iload_n 2, 1) := by decide +kernel
theorem dX2_nextTo_19 : decode cX2_nextTo 19 = .ok (.aload_n 0, 1) := by decide +kernel
theorem dX2_nextTo_20 : decode cX2_nextTo 20 = .ok (.getfield 11, 3) := by decide +kernel
theorem dX2_nextTo_23 : decode cX2_nextTo 23 = .ok (.iload_n 3, 1) := by decide +kernel
theorem dX2_nextTo_24 : decode cX2_nextTo 24 = .ok (.aaload, 1) := by decide +kernel
theorem dX2_nextTo_25 : decode cX2_nextTo 25 = .ok (.getfield 175, 3) := by decide +kernel
theorem dX2_nextTo_28 : decode cX2_nextTo 28 = .ok (.ior, 1) := by decide +kernel
theorem dX2_nextTo_29 : decode cX2_nextTo 29 = .ok (.istore_n 2, 1) := by decide +kernel
theorem dX2_nextTo_30 : decode cX2_nextTo 30 = .ok (.iinc 3 1, 3) := by decide +kernel
theorem dX2_nextTo_33 : decode cX2_nextTo 33 = .ok (.goto (-29), 3) := by decide +kernel
theorem dX2_nextTo_36 : decode cX2_nextTo 36 = .ok (.iload_n 2, 1) := by decide +kernel
theorem dX2_nextTo_37 : decode cX2_nextTo 37 = .ok (.ireturn, 1) := by decide +kernel
set_option maxRecDepth 20000 in
theorem ggX2_isHeldByAnother_X2_isLoaded : GoodIn wsX2_isHeldByAnother wsX2_isLoaded := goodIn_r _ [6, 7, 8, 9, 5, 10, 11, 12, 13, 19, 20, 21, 22, 23, 24] (by decide +kernel) (by decide +kernel)
set_option maxRecDepth 20000 in
theorem gX2_isHeldByAnother_X2_isLoaded : GoodIn wsX2_isHeldByAnother (wsV RX2 68 RX2 yX2_isLoaded wsX2_isLoaded) := goodIn_app (goodIn_of _ (by decide +kernel)) ggX2_isHeldByAnother_X2_isLoaded
set_option maxRecDepth 20000 in
theorem ggX2_isHeldByAnother_X2_isIn : GoodIn wsX2_isHeldByAnother wsX2_isIn := goodIn_r _ [13] (by decide +kernel) (by decide +kernel)
set_option maxRecDepth 20000 in
theorem gX2_isHeldByAnother_X2_isIn : GoodIn wsX2_isHeldByAnother (va_wsS RX2 108 yX2_isIn wsX2_isIn) := goodIn_app (goodIn_of _ (by decide +kernel)) ggX2_isHeldByAnother_X2_isIn
set_option maxRecDepth 20000 in
theorem ggX2_isHeldByAnother_X0_hasClassBelow : GoodIn wsX2_isHeldByAnother wsX0_hasClassBelow := goodIn_r _ [17, 18, 25, 26, 27, 28, 29, 30, 31, 32] (by decide +kernel) (by decide +kernel)
set_option maxRecDepth 20000 in
theorem gX2_isHeldByAnother_X0_hasClassBelow_n178 : GoodIn wsX2_isHeldByAnother (wsX0_hasClassBelow) := ggX2_isHeldByAnother_X0_hasClassBelow
theorem dX2_isHeldByAnother_0 : decode cX2_isHeldByAnother 0 = .ok (.iconst 0, 1) := by decide +kernel
theorem dX2_isHeldByAnother_1 : decode cX2_isHeldByAnother 1 = .ok (.istore_n 2, 1) := by decide +kernel
theorem dX2_isHeldByAnother_2 : decode cX2_isHeldByAnother 2 = .ok (.iload_n 2, 1) := by decide +kernel
theorem dX2_isHeldByAnother_3 : decode cX2_isHeldByAnother 3 = .ok (.bipush 8, 2) := by decide +kernel
theorem dX2_isHeldByAnother_5 : decode cX2_isHeldByAnother 5 = .ok (.if_icmp .ge 53, 3) := by decide +kernel
theorem dX2_isHeldByAnother_8 : decode cX2_isHeldByAnother 8 = .ok (.iload_n 2, 1) := by decide +kernel
theorem dX2_isHeldByAnother_9 : decode cX2_isHeldByAnother 9 = .ok (.iload_n 1, 1) := by decide +kernel
theorem dX2_isHeldByAnother_10 : decode cX2_isHeldByAnother 10 = .ok (.if_icmp .eq 42, 3) := by decide +kernel
theorem dX2_isHeldByAnother_13 : decode cX2_isHeldByAnother 13 = .ok (.aload_n 0, 1) := by decide +kernel
theorem dX2_isHeldByAnother_14 : decode cX2_isHeldByAnother 14 = .ok (.iload_n 2, 1) := by decide +kernel
theorem dX2_isHeldByAnother_15 : decode cX2_isHeldByAnother 15 = .ok (.invokevirtual 68, 3) := by decide +kernel
theorem dX2_isHeldByAnother_18 : decode cX2_isHeldByAnother 18 = .ok (.ifCond .eq 34, 3) := by decide +kernel
theorem dX2_isHeldByAnother_21 : decode cX2_isHeldByAnother 21 = .ok (.aload_n 0, 1) := by decide +kernel
theorem dX2_isHeldByAnother_22 : decode cX2_isHeldByAnother 22 = .ok (.getfield 11, 3) := by decide +kernel
theorem dX2_isHeldByAnother_25 : decode cX2_isHeldByAnother 25 = .ok (.iload_n 2, 1) := by decide +kernel
theorem dX2_isHeldByAnother_26 : decode cX2_isHeldByAnother 26 = .ok (.aaload, 1) := by decide +kernel
theorem dX2_isHeldByAnother_27 : decode cX2_isHeldByAnother 27 = .ok (.getfield 169, 3) := by decide +kernel
theorem dX2_isHeldByAnother_30 : decode cX2_isHeldByAnother 30 = .ok (.iload_n 1, 1) := by decide +kernel
theorem dX2_isHeldByAnother_31 : decode cX2_isHeldByAnother 31 = .ok (.invokestatic 108, 3) := by decide +kernel
theorem dX2_isHeldByAnother_34 : decode cX2_isHeldByAnother 34 = .ok (.ifCond .ne 16, 3) := by decide +kernel
theorem dX2_isHeldByAnother_37 : decode cX2_isHeldByAnother 37 = .ok (.aload_n 0, 1) := by decide +kernel
theorem dX2_isHeldByAnother_38 : decode cX2_isHeldByAnother 38 = .ok (.getfield 11, 3) := by decide +kernel
theorem dX2_isHeldByAnother_41 : decode cX2_isHeldByAnother 41 = .ok (.iload_n 2, 1) := by decide +kernel
theorem dX2_isHeldByAnother_42 : decode cX2_isHeldByAnother 42 = .ok (.aaload, 1) := by decide +kernel
theorem dX2_isHeldByAnother_43 : decode cX2_isHeldByAnother 43 = .ok (.iload_n 1, 1) := by decide +kernel
theorem dX2_isHeldByAnother_44 : decode cX2_isHeldByAnother 44 = .ok (.invokevirtual 178, 3) := by decide +kernel
theorem dX2_isHeldByAnother_47 : decode cX2_isHeldByAnother 47 = .ok (.ifCond .eq 5, 3) := by decide +kernel
theorem dX2_isHeldByAnother_50 : decode cX2_isHeldByAnother 50 = .ok (.iconst 1, 1) := by decide +kernel
theorem dX2_isHeldByAnother_51 : decode cX2_isHeldByAnother 51 = .ok (.ireturn, 1) := by decide +kernel
theorem dX2_isHeldByAnother_52 : decode cX2_isHeldByAnother 52 = .ok (.iinc 2 1, 3) := by decide +kernel
theorem dX2_isHeldByAnother_55 : decode cX2_isHeldByAnother 55 = .ok (.goto (-53), 3) := by decide +kernel
theorem dX2_isHeldByAnother_58 : decode cX2_isHeldByAnother 58 = .ok (.iconst 0, 1) := by decide +kernel
theorem dX2_isHeldByAnother_59 : decode cX2_isHeldByAnother 59 = .ok (.ireturn, 1) := by decide +kernel
set_option maxRecDepth 20000 in
theorem ggX2_holderSet_X0_holds : GoodIn wsX2_holderSet wsX0_holds := goodIn_r _ [5, 6, 17, 18, 19, 20, 21, 22, 23, 24] (by decide +kernel) (by decide +kernel)
set_option maxRecDepth 20000 in
theorem gX2_holderSet_X0_holds_n71 : GoodIn wsX2_holderSet (wsX0_holds) := ggX2_holderSet_X0_holds
set_option maxRecDepth 20000 in
theorem ggX2_holderSet_X2_bit : GoodIn wsX2_holderSet wsX2_bit := goodIn_r _ [10] (by decide +kernel) (by decide +kernel)
set_option maxRecDepth 20000 in
theorem gX2_holderSet_X2_bit : GoodIn wsX2_holderSet (va_wsS RX2 56 yX2_bit wsX2_bit) := goodIn_app (goodIn_of _ (by decide +kernel)) ggX2_holderSet_X2_bit
theorem dX2_holderSet_0 : decode cX2_holderSet 0 = .ok (.iconst 0, 1) := by decide +kernel
theorem dX2_holderSet_1 : decode cX2_holderSet 1 = .ok (.istore_n 2, 1) := by decide +kernel
theorem dX2_holderSet_2 : decode cX2_holderSet 2 = .ok (.iconst 0, 1) := by decide +kernel
theorem dX2_holderSet_3 : decode cX2_holderSet 3 = .ok (.istore_n 3, 1) := by decide +kernel
theorem dX2_holderSet_4 : decode cX2_holderSet 4 = .ok (.iload_n 3, 1) := by decide +kernel
theorem dX2_holderSet_5 : decode cX2_holderSet 5 = .ok (.bipush 8, 2) := by decide +kernel
theorem dX2_holderSet_7 : decode cX2_holderSet 7 = .ok (.if_icmp .ge 29, 3) := by decide +kernel
theorem dX2_holderSet_10 : decode cX2_holderSet 10 = .ok (.aload_n 0, 1) := by decide +kernel
theorem dX2_holderSet_11 : decode cX2_holderSet 11 = .ok (.getfield 11, 3) := by decide +kernel
theorem dX2_holderSet_14 : decode cX2_holderSet 14 = .ok (.iload_n 3, 1) := by decide +kernel
theorem dX2_holderSet_15 : decode cX2_holderSet 15 = .ok (.aaload, 1) := by decide +kernel
theorem dX2_holderSet_16 : decode cX2_holderSet 16 = .ok (.iload_n 1, 1) := by decide +kernel
theorem dX2_holderSet_17 : decode cX2_holderSet 17 = .ok (.invokevirtual 71, 3) := by decide +kernel
theorem dX2_holderSet_20 : decode cX2_holderSet 20 = .ok (.ifCond .eq 10, 3) := by decide +kernel
theorem dX2_holderSet_23 : decode cX2_holderSet 23 = .ok (.iload_n 2, 1) := by decide +kernel
theorem dX2_holderSet_24 : decode cX2_holderSet 24 = .ok (.iload_n 3, 1) := by decide +kernel
theorem dX2_holderSet_25 : decode cX2_holderSet 25 = .ok (.invokestatic 56, 3) := by decide +kernel
theorem dX2_holderSet_28 : decode cX2_holderSet 28 = .ok (.ior, 1) := by decide +kernel
theorem dX2_holderSet_29 : decode cX2_holderSet 29 = .ok (.istore_n 2, 1) := by decide +kernel
theorem dX2_holderSet_30 : decode cX2_holderSet 30 = .ok (.iinc 3 1, 3) := by decide +kernel
theorem dX2_holderSet_33 : decode cX2_holderSet 33 = .ok (.goto (-29), 3) := by decide +kernel
theorem dX2_holderSet_36 : decode cX2_holderSet 36 = .ok (.iload_n 2, 1) := by decide +kernel
theorem dX2_holderSet_37 : decode cX2_holderSet 37 = .ok (.ireturn, 1) := by decide +kernel
set_option maxRecDepth 20000 in
theorem ggX2_holderSeenFrom_X2_fillVisibleRow : GoodIn wsX2_holderSeenFrom wsX2_fillVisibleRow := goodIn_r _ [7, 1, 2, 8, 9, 10, 11, 12, 13, 14, 15, 16, 17, 18, 19, 20, 21, 22, 23, 24, 25, 26, 27, 28, 6, 29, 30, 31, 32, 33, 34, 35, 36, 37, 38, 39, 40, 41, 42, 43, 44, 45, 46, 47, 48, 49, 50, 51, 56, 57, 58, 59, 60, 61, 62, 63, 52, 53, 54, 55] (by decide +kernel) (by decide +kernel)
set_option maxRecDepth 20000 in
theorem gX2_holderSeenFrom_X2_fillVisibleRow : GoodIn wsX2_holderSeenFrom (wsV RX2 150 RX2 yX2_fillVisibleRow wsX2_fillVisibleRow) := goodIn_app (goodIn_of _ (by decide +kernel)) ggX2_holderSeenFrom_X2_fillVisibleRow
set_option maxRecDepth 20000 in
theorem ggX2_holderSeenFrom_X0_holds : GoodIn wsX2_holderSeenFrom wsX0_holds := goodIn_r _ [22, 23, 56, 57, 58, 59, 60, 61, 62, 63] (by decide +kernel) (by decide +kernel)
set_option maxRecDepth 20000 in
theorem gX2_holderSeenFrom_X0_holds_n71 : GoodIn wsX2_holderSeenFrom (wsX0_holds) := ggX2_holderSeenFrom_X0_holds
theorem dX2_holderSeenFrom_0 : decode cX2_holderSeenFrom 0 = .ok (.iload_n 2, 1) := by decide +kernel
theorem dX2_holderSeenFrom_1 : decode cX2_holderSeenFrom 1 = .ok (.iconst 2, 1) := by decide +kernel
theorem dX2_holderSeenFrom_2 : decode cX2_holderSeenFrom 2 = .ok (.if_icmp .ge 6, 3) := by decide +kernel
theorem dX2_holderSeenFrom_5 : decode cX2_holderSeenFrom 5 = .ok (.bipush 8, 2) := by decide +kernel
theorem dX2_holderSeenFrom_7 : decode cX2_holderSeenFrom 7 = .ok (.ireturn, 1) := by decide +kernel
theorem dX2_holderSeenFrom_8 : decode cX2_holderSeenFrom 8 = .ok (.aload_n 0, 1) := by decide +kernel
theorem dX2_holderSeenFrom_9 : decode cX2_holderSeenFrom 9 = .ok (.iload_n 1, 1) := by decide +kernel
theorem dX2_holderSeenFrom_10 : decode cX2_holderSeenFrom 10 = .ok (.iload_n 2, 1) := by decide +kernel
theorem dX2_holderSeenFrom_11 : decode cX2_holderSeenFrom 11 = .ok (.iconst 4, 1) := by decide +kernel
theorem dX2_holderSeenFrom_12 : decode cX2_holderSeenFrom 12 = .ok (.idiv, 1) := by decide +kernel
theorem dX2_holderSeenFrom_13 : decode cX2_holderSeenFrom 13 = .ok (.invokevirtual 150, 3) := by decide +kernel
theorem dX2_holderSeenFrom_16 : decode cX2_holderSeenFrom 16 = .ok (.iconst 0, 1) := by decide +kernel
theorem dX2_holderSeenFrom_17 : decode cX2_holderSeenFrom 17 = .ok (.istore_n 3, 1) := by decide +kernel
theorem dX2_holderSeenFrom_18 : decode cX2_holderSeenFrom 18 = .ok (.iload_n 3, 1) := by decide +kernel
theorem dX2_holderSeenFrom_19 : decode cX2_holderSeenFrom 19 = .ok (.aload_n 0, 1) := by decide +kernel
theorem dX2_holderSeenFrom_20 : decode cX2_holderSeenFrom 20 = .ok (.getfield 26, 3) := by decide +kernel
theorem dX2_holderSeenFrom_23 : decode cX2_holderSeenFrom 23 = .ok (.getfield 154, 3) := by decide +kernel
theorem dX2_holderSeenFrom_26 : decode cX2_holderSeenFrom 26 = .ok (.if_icmp .ge 40, 3) := by decide +kernel
theorem dX2_holderSeenFrom_29 : decode cX2_holderSeenFrom 29 = .ok (.aload_n 0, 1) := by decide +kernel
theorem dX2_holderSeenFrom_30 : decode cX2_holderSeenFrom 30 = .ok (.getfield 11, 3) := by decide +kernel
theorem dX2_holderSeenFrom_33 : decode cX2_holderSeenFrom 33 = .ok (.aload_n 0, 1) := by decide +kernel
theorem dX2_holderSeenFrom_34 : decode cX2_holderSeenFrom 34 = .ok (.getfield 26, 3) := by decide +kernel
theorem dX2_holderSeenFrom_37 : decode cX2_holderSeenFrom 37 = .ok (.getfield 157, 3) := by decide +kernel
theorem dX2_holderSeenFrom_40 : decode cX2_holderSeenFrom 40 = .ok (.iload_n 3, 1) := by decide +kernel
theorem dX2_holderSeenFrom_41 : decode cX2_holderSeenFrom 41 = .ok (.iaload, 1) := by decide +kernel
theorem dX2_holderSeenFrom_42 : decode cX2_holderSeenFrom 42 = .ok (.aaload, 1) := by decide +kernel
theorem dX2_holderSeenFrom_43 : decode cX2_holderSeenFrom 43 = .ok (.iload_n 2, 1) := by decide +kernel
theorem dX2_holderSeenFrom_44 : decode cX2_holderSeenFrom 44 = .ok (.invokevirtual 71, 3) := by decide +kernel
theorem dX2_holderSeenFrom_47 : decode cX2_holderSeenFrom 47 = .ok (.ifCond .eq 13, 3) := by decide +kernel
theorem dX2_holderSeenFrom_50 : decode cX2_holderSeenFrom 50 = .ok (.aload_n 0, 1) := by decide +kernel
theorem dX2_holderSeenFrom_51 : decode cX2_holderSeenFrom 51 = .ok (.getfield 26, 3) := by decide +kernel
theorem dX2_holderSeenFrom_54 : decode cX2_holderSeenFrom 54 = .ok (.getfield 157, 3) := by decide +kernel
theorem dX2_holderSeenFrom_57 : decode cX2_holderSeenFrom 57 = .ok (.iload_n 3, 1) := by decide +kernel
theorem dX2_holderSeenFrom_58 : decode cX2_holderSeenFrom 58 = .ok (.iaload, 1) := by decide +kernel
theorem dX2_holderSeenFrom_59 : decode cX2_holderSeenFrom 59 = .ok (.ireturn, 1) := by decide +kernel
theorem dX2_holderSeenFrom_60 : decode cX2_holderSeenFrom 60 = .ok (.iinc 3 1, 3) := by decide +kernel
theorem dX2_holderSeenFrom_63 : decode cX2_holderSeenFrom 63 = .ok (.goto (-45), 3) := by decide +kernel
theorem dX2_holderSeenFrom_66 : decode cX2_holderSeenFrom 66 = .ok (.iconst (-1), 1) := by decide +kernel
theorem dX2_holderSeenFrom_67 : decode cX2_holderSeenFrom 67 = .ok (.ireturn, 1) := by decide +kernel
set_option maxRecDepth 20000 in
theorem ggX2_fillVisibleRow_X1_clear : GoodIn wsX2_fillVisibleRow wsX1_clear := goodIn_r _ [6, 7, 8, 9, 56, 57, 58, 59] (by decide +kernel) (by decide +kernel)
set_option maxRecDepth 20000 in
theorem gX2_fillVisibleRow_X1_clear_n181 : GoodIn wsX2_fillVisibleRow (wsX1_clear) := ggX2_fillVisibleRow_X1_clear
set_option maxRecDepth 20000 in
theorem ggX2_fillVisibleRow_X0_hasPath : GoodIn wsX2_fillVisibleRow wsX0_hasPath := goodIn_r _ [13, 14, 15, 16, 11, 17, 18, 48, 49, 50, 51, 52, 53, 54, 55] (by decide +kernel) (by decide +kernel)
set_option maxRecDepth 20000 in
theorem gX2_fillVisibleRow_X0_hasPath_n187 : GoodIn wsX2_fillVisibleRow (wsX0_hasPath) := ggX2_fillVisibleRow_X0_hasPath
set_option maxRecDepth 20000 in
theorem ggX2_fillVisibleRow_X1_addOnceIf : GoodIn wsX2_fillVisibleRow wsX1_addOnceIf := goodIn_r _ [21, 7, 8, 22, 23, 24, 25, 26, 27, 56, 57, 58, 59] (by decide +kernel) (by decide +kernel)
set_option maxRecDepth 20000 in
theorem gX2_fillVisibleRow_X1_addOnceIf_n190 : GoodIn wsX2_fillVisibleRow (wsX1_addOnceIf) := ggX2_fillVisibleRow_X1_addOnceIf
set_option maxRecDepth 20000 in
theorem ggX2_fillVisibleRow_X2_isIn : GoodIn wsX2_fillVisibleRow wsX2_isIn := goodIn_r _ [25] (by decide +kernel) (by decide +kernel)
set_option maxRecDepth 20000 in
theorem gX2_fillVisibleRow_X2_isIn : GoodIn wsX2_fillVisibleRow (va_wsS RX2 108 yX2_isIn wsX2_isIn) := goodIn_app (goodIn_of _ (by decide +kernel)) ggX2_fillVisibleRow_X2_isIn
set_option maxRecDepth 20000 in
theorem ggX2_fillVisibleRow_X2_addExportedRow : GoodIn wsX2_fillVisibleRow wsX2_addExportedRow := goodIn_r _ [32, 1, 2, 33, 34, 35, 24, 36, 37, 38, 39, 40, 28, 23, 25, 41, 26, 27, 10, 11, 12, 13, 14, 15, 16, 17, 18, 19, 4, 20, 21, 7, 8, 22, 29, 30, 31, 42, 43, 44, 45, 46, 47, 56, 57, 58, 59, 48, 49, 50, 51, 52, 53, 54, 55] (by decide +kernel) (by decide +kernel)
set_option maxRecDepth 20000 in
theorem gX2_fillVisibleRow_X2_addExportedRow : GoodIn wsX2_fillVisibleRow (wsV RX2 197 RX2 yX2_addExportedRow wsX2_addExportedRow) := goodIn_app (goodIn_of _ (by decide +kernel)) ggX2_fillVisibleRow_X2_addExportedRow
theorem dX2_fillVisibleRow_0 : decode cX2_fillVisibleRow 0 = .ok (.aload_n 0, 1) := by decide +kernel
theorem dX2_fillVisibleRow_1 : decode cX2_fillVisibleRow 1 = .ok (.getfield 26, 3) := by decide +kernel
theorem dX2_fillVisibleRow_4 : decode cX2_fillVisibleRow 4 = .ok (.invokevirtual 181, 3) := by decide +kernel
theorem dX2_fillVisibleRow_7 : decode cX2_fillVisibleRow 7 = .ok (.aload_n 0, 1) := by decide +kernel
theorem dX2_fillVisibleRow_8 : decode cX2_fillVisibleRow 8 = .ok (.getfield 11, 3) := by decide +kernel
theorem dX2_fillVisibleRow_11 : decode cX2_fillVisibleRow 11 = .ok (.iload_n 1, 1) := by decide +kernel
theorem dX2_fillVisibleRow_12 : decode cX2_fillVisibleRow 12 = .ok (.aaload, 1) := by decide +kernel
theorem dX2_fillVisibleRow_13 : decode cX2_fillVisibleRow 13 = .ok (.astore_n 3, 1) := by decide +kernel
theorem dX2_fillVisibleRow_14 : decode cX2_fillVisibleRow 14 = .ok (.iconst 0, 1) := by decide +kernel
theorem dX2_fillVisibleRow_15 : decode cX2_fillVisibleRow 15 = .ok (.istore 4, 2) := by decide +kernel
theorem dX2_fillVisibleRow_17 : decode cX2_fillVisibleRow 17 = .ok (.iload 4, 2) := by decide +kernel
theorem dX2_fillVisibleRow_19 : decode cX2_fillVisibleRow 19 = .ok (.aload_n 3, 1) := by decide +kernel
theorem dX2_fillVisibleRow_20 : decode cX2_fillVisibleRow 20 = .ok (.getfield 88, 3) := by decide +kernel
theorem dX2_fillVisibleRow_23 : decode cX2_fillVisibleRow 23 = .ok (.if_icmp .ge 63, 3) := by decide +kernel
theorem dX2_fillVisibleRow_26 : decode cX2_fillVisibleRow 26 = .ok (.aload_n 3, 1) := by decide +kernel
theorem dX2_fillVisibleRow_27 : decode cX2_fillVisibleRow 27 = .ok (.getfield 184, 3) := by decide +kernel
theorem dX2_fillVisibleRow_30 : decode cX2_fillVisibleRow 30 = .ok (.iload 4, 2) := by decide +kernel
theorem dX2_fillVisibleRow_32 : decode cX2_fillVisibleRow 32 = .ok (.iaload, 1) := by decide +kernel
theorem dX2_fillVisibleRow_33 : decode cX2_fillVisibleRow 33 = .ok (.iconst (-1), 1) := by decide +kernel
theorem dX2_fillVisibleRow_34 : decode cX2_fillVisibleRow 34 = .ok (.if_icmp .ne 19, 3) := by decide +kernel
theorem dX2_fillVisibleRow_37 : decode cX2_fillVisibleRow 37 = .ok (.aload_n 0, 1) := by decide +kernel
theorem dX2_fillVisibleRow_38 : decode cX2_fillVisibleRow 38 = .ok (.getfield 26, 3) := by decide +kernel
theorem dX2_fillVisibleRow_41 : decode cX2_fillVisibleRow 41 = .ok (.aload_n 3, 1) := by decide +kernel
theorem dX2_fillVisibleRow_42 : decode cX2_fillVisibleRow 42 = .ok (.iload_n 2, 1) := by decide +kernel
theorem dX2_fillVisibleRow_43 : decode cX2_fillVisibleRow 43 = .ok (.invokevirtual 187, 3) := by decide +kernel
theorem dX2_fillVisibleRow_46 : decode cX2_fillVisibleRow 46 = .ok (.iload_n 1, 1) := by decide +kernel
theorem dX2_fillVisibleRow_47 : decode cX2_fillVisibleRow 47 = .ok (.invokevirtual 190, 3) := by decide +kernel
theorem dX2_fillVisibleRow_50 : decode cX2_fillVisibleRow 50 = .ok (.goto 30, 3) := by decide +kernel
theorem dX2_fillVisibleRow_53 : decode cX2_fillVisibleRow 53 = .ok (.aload_n 3, 1) := by decide +kernel
theorem dX2_fillVisibleRow_54 : decode cX2_fillVisibleRow 54 = .ok (.getfield 194, 3) := by decide +kernel
theorem dX2_fillVisibleRow_57 : decode cX2_fillVisibleRow 57 = .ok (.iload 4, 2) := by decide +kernel
theorem dX2_fillVisibleRow_59 : decode cX2_fillVisibleRow 59 = .ok (.iaload, 1) := by decide +kernel
theorem dX2_fillVisibleRow_60 : decode cX2_fillVisibleRow 60 = .ok (.iload_n 2, 1) := by decide +kernel
theorem dX2_fillVisibleRow_61 : decode cX2_fillVisibleRow 61 = .ok (.invokestatic 108, 3) := by decide +kernel
theorem dX2_fillVisibleRow_64 : decode cX2_fillVisibleRow 64 = .ok (.ifCond .eq 16, 3) := by decide +kernel
theorem dX2_fillVisibleRow_67 : decode cX2_fillVisibleRow 67 = .ok (.aload_n 0, 1) := by decide +kernel
theorem dX2_fillVisibleRow_68 : decode cX2_fillVisibleRow 68 = .ok (.aload_n 3, 1) := by decide +kernel
theorem dX2_fillVisibleRow_69 : decode cX2_fillVisibleRow 69 = .ok (.getfield 184, 3) := by decide +kernel
theorem dX2_fillVisibleRow_72 : decode cX2_fillVisibleRow 72 = .ok (.iload 4, 2) := by decide +kernel
theorem dX2_fillVisibleRow_74 : decode cX2_fillVisibleRow 74 = .ok (.iaload, 1) := by decide +kernel
theorem dX2_fillVisibleRow_75 : decode cX2_fillVisibleRow 75 = .ok (.iload_n 2, 1) := by decide +kernel
theorem dX2_fillVisibleRow_76 : decode cX2_fillVisibleRow 76 = .ok (.iconst 1, 1) := by decide +kernel
theorem dX2_fillVisibleRow_77 : decode cX2_fillVisibleRow 77 = .ok (.invokevirtual 197, 3) := by decide +kernel
theorem dX2_fillVisibleRow_80 : decode cX2_fillVisibleRow 80 = .ok (.iinc 4 1, 3) := by decide +kernel
theorem dX2_fillVisibleRow_83 : decode cX2_fillVisibleRow 83 = .ok (.goto (-66), 3) := by decide +kernel
theorem dX2_fillVisibleRow_86 : decode cX2_fillVisibleRow 86 = .ok (.return_, 1) := by decide +kernel
set_option maxRecDepth 20000 in
theorem ggX2_addExportedRow_X2_isLoaded : GoodIn wsX2_addExportedRow wsX2_isLoaded := goodIn_r _ [7, 8, 9, 10, 6, 11, 12, 13, 14, 37, 38, 39, 40, 41, 42] (by decide +kernel) (by decide +kernel)
set_option maxRecDepth 20000 in
theorem gX2_addExportedRow_X2_isLoaded : GoodIn wsX2_addExportedRow (wsV RX2 68 RX2 yX2_isLoaded wsX2_isLoaded) := goodIn_app (goodIn_of _ (by decide +kernel)) ggX2_addExportedRow_X2_isLoaded
set_option maxRecDepth 20000 in
theorem ggX2_addExportedRow_X2_isIn : GoodIn wsX2_addExportedRow wsX2_isIn := goodIn_r _ [14] (by decide +kernel) (by decide +kernel)
set_option maxRecDepth 20000 in
theorem gX2_addExportedRow_X2_isIn : GoodIn wsX2_addExportedRow (va_wsS RX2 108 yX2_isIn wsX2_isIn) := goodIn_app (goodIn_of _ (by decide +kernel)) ggX2_addExportedRow_X2_isIn
set_option maxRecDepth 20000 in
theorem ggX2_addExportedRow_X2_bit : GoodIn wsX2_addExportedRow wsX2_bit := goodIn_r _ [17] (by decide +kernel) (by decide +kernel)
set_option maxRecDepth 20000 in
theorem gX2_addExportedRow_X2_bit : GoodIn wsX2_addExportedRow (va_wsS RX2 56 yX2_bit wsX2_bit) := goodIn_app (goodIn_of _ (by decide +kernel)) ggX2_addExportedRow_X2_bit
set_option maxRecDepth 20000 in
theorem ggX2_addExportedRow_X0_hasPath : GoodIn wsX2_addExportedRow wsX0_hasPath := goodIn_r _ [21, 22, 23, 24, 19, 25, 26, 47, 48, 49, 50, 51, 52, 53, 54] (by decide +kernel) (by decide +kernel)
set_option maxRecDepth 20000 in
theorem gX2_addExportedRow_X0_hasPath_n187 : GoodIn wsX2_addExportedRow (wsX0_hasPath) := ggX2_addExportedRow_X0_hasPath
set_option maxRecDepth 20000 in
theorem ggX2_addExportedRow_X1_addOnceIf : GoodIn wsX2_addExportedRow wsX1_addOnceIf := goodIn_r _ [30, 31, 32, 33, 13, 6, 14, 16, 17, 43, 44, 45, 46] (by decide +kernel) (by decide +kernel)
set_option maxRecDepth 20000 in
theorem gX2_addExportedRow_X1_addOnceIf_n190 : GoodIn wsX2_addExportedRow (wsX1_addOnceIf) := ggX2_addExportedRow_X1_addOnceIf
set_option maxRecDepth 20000 in
theorem ggX2_addExportedRow_X2_addExportedRow : GoodIn wsX2_addExportedRow wsX2_addExportedRow := goodIn_r _ [0, 1, 2, 3, 4, 5, 6, 7, 8, 9, 10, 11, 12, 13, 14, 15, 16, 17, 18, 19, 20, 21, 22, 23, 24, 25, 26, 27, 28, 29, 30, 31, 32, 33, 34, 35, 36, 37, 38, 39, 40, 41, 42, 43, 44, 45, 46, 47, 48, 49, 50, 51, 52, 53, 54] (by decide +kernel) (by decide +kernel)
set_option maxRecDepth 20000 in
theorem gX2_addExportedRow_X2_addExportedRow : GoodIn wsX2_addExportedRow (wsV RX2 197 RX2 yX2_addExportedRow wsX2_addExportedRow) := goodIn_app (goodIn_of _ (by decide +kernel)) ggX2_addExportedRow_X2_addExportedRow
theorem dX2_addExportedRow_0 : decode cX2_addExportedRow 0 = .ok (.iload_n 3, 1) := by decide +kernel
theorem dX2_addExportedRow_1 : decode cX2_addExportedRow 1 = .ok (.bipush 8, 2) := by decide +kernel
theorem dX2_addExportedRow_3 : decode cX2_addExportedRow 3 = .ok (.if_icmp .gt 25, 3) := by decide +kernel
theorem dX2_addExportedRow_6 : decode cX2_addExportedRow 6 = .ok (.aload_n 0, 1) := by decide +kernel
theorem dX2_addExportedRow_7 : decode cX2_addExportedRow 7 = .ok (.iload_n 1, 1) := by decide +kernel
theorem dX2_addExportedRow_8 : decode cX2_addExportedRow 8 = .ok (.invokevirtual 68, 3) := by decide +kernel
theorem dX2_addExportedRow_11 : decode cX2_addExportedRow 11 = .ok (.ifCond .eq 17, 3) := by decide +kernel
theorem dX2_addExportedRow_14 : decode cX2_addExportedRow 14 = .ok (.aload_n 0, 1) := by decide +kernel
theorem dX2_addExportedRow_15 : decode cX2_addExportedRow 15 = .ok (.getfield 26, 3) := by decide +kernel
theorem dX2_addExportedRow_18 : decode cX2_addExportedRow 18 = .ok (.getfield 201, 3) := by decide +kernel
theorem dX2_addExportedRow_21 : decode cX2_addExportedRow 21 = .ok (.iload_n 1, 1) := by decide +kernel
theorem dX2_addExportedRow_22 : decode cX2_addExportedRow 22 = .ok (.invokestatic 108, 3) := by decide +kernel
theorem dX2_addExportedRow_25 : decode cX2_addExportedRow 25 = .ok (.ifCond .eq 4, 3) := by decide +kernel
theorem dX2_addExportedRow_28 : decode cX2_addExportedRow 28 = .ok (.return_, 1) := by decide +kernel
theorem dX2_addExportedRow_29 : decode cX2_addExportedRow 29 = .ok (.aload_n 0, 1) := by decide +kernel
theorem dX2_addExportedRow_30 : decode cX2_addExportedRow 30 = .ok (.getfield 26, 3) := by decide +kernel
theorem dX2_addExportedRow_33 : decode cX2_addExportedRow 33 = .ok (.dup, 1) := by decide +kernel
theorem dX2_addExportedRow_34 : decode cX2_addExportedRow 34 = .ok (.getfield 201, 3) := by decide +kernel
theorem dX2_addExportedRow_37 : decode cX2_addExportedRow 37 = .ok (.iload_n 1, 1) := by decide +kernel
theorem dX2_addExportedRow_38 : decode cX2_addExportedRow 38 = .ok (.invokestatic 56, 3) := by decide +kernel
theorem dX2_addExportedRow_41 : decode cX2_addExportedRow 41 = .ok (.ior, 1) := by decide +kernel
theorem dX2_addExportedRow_42 : decode cX2_addExportedRow 42 = .ok (.putfield 201, 3) := by decide +kernel
theorem dX2_addExportedRow_45 : decode cX2_addExportedRow 45 = .ok (.aload_n 0, 1) := by decide +kernel
theorem dX2_addExportedRow_46 : decode cX2_addExportedRow 46 = .ok (.getfield 11, 3) := by decide +kernel
theorem dX2_addExportedRow_49 : decode cX2_addExportedRow 49 = .ok (.iload_n 1, 1) := by decide +kernel
theorem dX2_addExportedRow_50 : decode cX2_addExportedRow 50 = .ok (.aaload, 1) := by decide +kernel
theorem dX2_addExportedRow_51 : decode cX2_addExportedRow 51 = .ok (.astore 4, 2) := by decide +kernel
theorem dX2_addExportedRow_53 : decode cX2_addExportedRow 53 = .ok (.iconst 0, 1) := by decide +kernel
theorem dX2_addExportedRow_54 : decode cX2_addExportedRow 54 = .ok (.istore 5, 2) := by decide +kernel
theorem dX2_addExportedRow_56 : decode cX2_addExportedRow 56 = .ok (.iload 5, 2) := by decide +kernel
theorem dX2_addExportedRow_58 : decode cX2_addExportedRow 58 = .ok (.aload 4, 2) := by decide +kernel
theorem dX2_addExportedRow_60 : decode cX2_addExportedRow 60 = .ok (.getfield 88, 3) := by decide +kernel
theorem dX2_addExportedRow_63 : decode cX2_addExportedRow 63 = .ok (.if_icmp .ge 78, 3) := by decide +kernel
theorem dX2_addExportedRow_66 : decode cX2_addExportedRow 66 = .ok (.aload 4, 2) := by decide +kernel
theorem dX2_addExportedRow_68 : decode cX2_addExportedRow 68 = .ok (.getfield 184, 3) := by decide +kernel
theorem dX2_addExportedRow_71 : decode cX2_addExportedRow 71 = .ok (.iload 5, 2) := by decide +kernel
theorem dX2_addExportedRow_73 : decode cX2_addExportedRow 73 = .ok (.iaload, 1) := by decide +kernel
theorem dX2_addExportedRow_74 : decode cX2_addExportedRow 74 = .ok (.iconst (-1), 1) := by decide +kernel
theorem dX2_addExportedRow_75 : decode cX2_addExportedRow 75 = .ok (.if_icmp .ne 20, 3) := by decide +kernel
theorem dX2_addExportedRow_78 : decode cX2_addExportedRow 78 = .ok (.aload_n 0, 1) := by decide +kernel
theorem dX2_addExportedRow_79 : decode cX2_addExportedRow 79 = .ok (.getfield 26, 3) := by decide +kernel
theorem dX2_addExportedRow_82 : decode cX2_addExportedRow 82 = .ok (.aload 4, 2) := by decide +kernel
theorem dX2_addExportedRow_84 : decode cX2_addExportedRow 84 = .ok (.iload_n 2, 1) := by decide +kernel
theorem dX2_addExportedRow_85 : decode cX2_addExportedRow 85 = .ok (.invokevirtual 187, 3) := by decide +kernel
theorem dX2_addExportedRow_88 : decode cX2_addExportedRow 88 = .ok (.iload_n 1, 1) := by decide +kernel
theorem dX2_addExportedRow_89 : decode cX2_addExportedRow 89 = .ok (.invokevirtual 190, 3) := by decide +kernel
theorem dX2_addExportedRow_92 : decode cX2_addExportedRow 92 = .ok (.goto 43, 3) := by decide +kernel
theorem dX2_addExportedRow_95 : decode cX2_addExportedRow 95 = .ok (.aload 4, 2) := by decide +kernel
theorem dX2_addExportedRow_97 : decode cX2_addExportedRow 97 = .ok (.getfield 194, 3) := by decide +kernel
theorem dX2_addExportedRow_100 : decode cX2_addExportedRow 100 = .ok (.iload 5, 2) := by decide +kernel
theorem dX2_addExportedRow_102 : decode cX2_addExportedRow 102 = .ok (.iaload, 1) := by decide +kernel
theorem dX2_addExportedRow_103 : decode cX2_addExportedRow 103 = .ok (.aload 4, 2) := by decide +kernel
theorem dX2_addExportedRow_105 : decode cX2_addExportedRow 105 = .ok (.getfield 204, 3) := by decide +kernel
theorem dX2_addExportedRow_108 : decode cX2_addExportedRow 108 = .ok (.iload 5, 2) := by decide +kernel
theorem dX2_addExportedRow_110 : decode cX2_addExportedRow 110 = .ok (.iaload, 1) := by decide +kernel
theorem dX2_addExportedRow_111 : decode cX2_addExportedRow 111 = .ok (.iand, 1) := by decide +kernel
theorem dX2_addExportedRow_112 : decode cX2_addExportedRow 112 = .ok (.iload_n 2, 1) := by decide +kernel
theorem dX2_addExportedRow_113 : decode cX2_addExportedRow 113 = .ok (.invokestatic 108, 3) := by decide +kernel
theorem dX2_addExportedRow_116 : decode cX2_addExportedRow 116 = .ok (.ifCond .eq 19, 3) := by decide +kernel
theorem dX2_addExportedRow_119 : decode cX2_addExportedRow 119 = .ok (.aload_n 0, 1) := by decide +kernel
theorem dX2_addExportedRow_120 : decode cX2_addExportedRow 120 = .ok (.aload 4, 2) := by decide +kernel
theorem dX2_addExportedRow_122 : decode cX2_addExportedRow 122 = .ok (.getfield 184, 3) := by decide +kernel
theorem dX2_addExportedRow_125 : decode cX2_addExportedRow 125 = .ok (.iload 5, 2) := by decide +kernel
theorem dX2_addExportedRow_127 : decode cX2_addExportedRow 127 = .ok (.iaload, 1) := by decide +kernel
theorem dX2_addExportedRow_128 : decode cX2_addExportedRow 128 = .ok (.iload_n 2, 1) := by decide +kernel
theorem dX2_addExportedRow_129 : decode cX2_addExportedRow 129 = .ok (.iload_n 3, 1) := by decide +kernel
theorem dX2_addExportedRow_130 : decode cX2_addExportedRow 130 = .ok (.iconst 1, 1) := by decide +kernel
theorem dX2_addExportedRow_131 : decode cX2_addExportedRow 131 = .ok (.iadd, 1) := by decide +kernel
theorem dX2_addExportedRow_132 : decode cX2_addExportedRow 132 = .ok (.invokevirtual 197, 3) := by decide +kernel
theorem dX2_addExportedRow_135 : decode cX2_addExportedRow 135 = .ok (.iinc 5 1, 3) := by decide +kernel
theorem dX2_addExportedRow_138 : decode cX2_addExportedRow 138 = .ok (.goto (-82), 3) := by decide +kernel
theorem dX2_addExportedRow_141 : decode cX2_addExportedRow 141 = .ok (.return_, 1) := by decide +kernel
set_option maxRecDepth 20000 in
theorem ggX2_defineWithAllAbove_X2_needsNoDefining : GoodIn wsX2_defineWithAllAbove wsX2_needsNoDefining := goodIn_r _ [8, 3, 9, 10, 11, 12, 13, 64, 65, 66, 67, 68, 69, 70, 71, 72, 73, 74, 75, 76, 77] (by decide +kernel) (by decide +kernel)
set_option maxRecDepth 20000 in
theorem gX2_defineWithAllAbove_X2_needsNoDefining : GoodIn wsX2_defineWithAllAbove (wsV RX2 207 RX2 yX2_needsNoDefining wsX2_needsNoDefining) := goodIn_app (goodIn_of _ (by decide +kernel)) ggX2_defineWithAllAbove_X2_needsNoDefining
set_option maxRecDepth 20000 in
theorem ggX2_defineWithAllAbove_X2_holderSeenFrom : GoodIn wsX2_defineWithAllAbove wsX2_holderSeenFrom := goodIn_r _ [17, 18, 3, 19, 20, 21, 7, 22, 23, 24, 25, 26, 27, 28, 29, 30, 10, 31, 32, 33, 34, 35, 36, 37, 38, 39, 40, 41, 42, 43, 44, 45, 46, 47, 48, 49, 50, 51, 52, 53, 54, 55, 56, 57, 58, 59, 64, 65, 66, 67, 68, 69, 78, 79, 80, 81, 70, 71, 72, 73, 74, 75, 76, 77] (by decide +kernel) (by decide +kernel)
set_option maxRecDepth 20000 in
theorem gX2_defineWithAllAbove_X2_holderSeenFrom : GoodIn wsX2_defineWithAllAbove (wsV RX2 140 RX2 yX2_holderSeenFrom wsX2_holderSeenFrom) := goodIn_app (goodIn_of _ (by decide +kernel)) ggX2_defineWithAllAbove_X2_holderSeenFrom
set_option maxRecDepth 20000 in
theorem ggX2_defineWithAllAbove_X2_defineChain : GoodIn wsX2_defineWithAllAbove wsX2_defineChain := goodIn_r _ [63, 3, 1, 2, 64, 65, 66, 67, 68, 69, 70, 71, 72, 73, 74, 75, 76, 77] (by decide +kernel) (by decide +kernel)
set_option maxRecDepth 20000 in
theorem gX2_defineWithAllAbove_X2_defineChain : GoodIn wsX2_defineWithAllAbove (wsV RX2 210 RX2 yX2_defineChain wsX2_defineChain) := goodIn_app (goodIn_of _ (by decide +kernel)) ggX2_defineWithAllAbove_X2_defineChain
theorem dX2_defineWithAllAbove_0 : decode cX2_defineWithAllAbove 0 = .ok (.iload_n 1, 1) := by decide +kernel
theorem dX2_defineWithAllAbove_1 : decode cX2_defineWithAllAbove 1 = .ok (.istore_n 3, 1) := by decide +kernel
theorem dX2_defineWithAllAbove_2 : decode cX2_defineWithAllAbove 2 = .ok (.iload_n 2, 1) := by decide +kernel
theorem dX2_defineWithAllAbove_3 : decode cX2_defineWithAllAbove 3 = .ok (.istore 4, 2) := by decide +kernel
theorem dX2_defineWithAllAbove_5 : decode cX2_defineWithAllAbove 5 = .ok (.iconst 0, 1) := by decide +kernel
theorem dX2_defineWithAllAbove_6 : decode cX2_defineWithAllAbove 6 = .ok (.istore 5, 2) := by decide +kernel
theorem dX2_defineWithAllAbove_8 : decode cX2_defineWithAllAbove 8 = .ok (.iload 5, 2) := by decide +kernel
theorem dX2_defineWithAllAbove_10 : decode cX2_defineWithAllAbove 10 = .ok (.bipush 10, 2) := by decide +kernel
theorem dX2_defineWithAllAbove_12 : decode cX2_defineWithAllAbove 12 = .ok (.if_icmp .ge 82, 3) := by decide +kernel
theorem dX2_defineWithAllAbove_15 : decode cX2_defineWithAllAbove 15 = .ok (.aload_n 0, 1) := by decide +kernel
theorem dX2_defineWithAllAbove_16 : decode cX2_defineWithAllAbove 16 = .ok (.iload_n 3, 1) := by decide +kernel
theorem dX2_defineWithAllAbove_17 : decode cX2_defineWithAllAbove 17 = .ok (.iload 4, 2) := by decide +kernel
theorem dX2_defineWithAllAbove_19 : decode cX2_defineWithAllAbove 19 = .ok (.invokevirtual 207, 3) := by decide +kernel
theorem dX2_defineWithAllAbove_22 : decode cX2_defineWithAllAbove 22 = .ok (.ifCond .ne 72, 3) := by decide +kernel
theorem dX2_defineWithAllAbove_25 : decode cX2_defineWithAllAbove 25 = .ok (.aload_n 0, 1) := by decide +kernel
theorem dX2_defineWithAllAbove_26 : decode cX2_defineWithAllAbove 26 = .ok (.getfield 30, 3) := by decide +kernel
theorem dX2_defineWithAllAbove_29 : decode cX2_defineWithAllAbove 29 = .ok (.iload 5, 2) := by decide +kernel
theorem dX2_defineWithAllAbove_31 : decode cX2_defineWithAllAbove 31 = .ok (.iload_n 3, 1) := by decide +kernel
theorem dX2_defineWithAllAbove_32 : decode cX2_defineWithAllAbove 32 = .ok (.iastore, 1) := by decide +kernel
theorem dX2_defineWithAllAbove_33 : decode cX2_defineWithAllAbove 33 = .ok (.aload_n 0, 1) := by decide +kernel
theorem dX2_defineWithAllAbove_34 : decode cX2_defineWithAllAbove 34 = .ok (.getfield 34, 3) := by decide +kernel
theorem dX2_defineWithAllAbove_37 : decode cX2_defineWithAllAbove 37 = .ok (.iload 5, 2) := by decide +kernel
theorem dX2_defineWithAllAbove_39 : decode cX2_defineWithAllAbove 39 = .ok (.iload 4, 2) := by decide +kernel
theorem dX2_defineWithAllAbove_41 : decode cX2_defineWithAllAbove 41 = .ok (.iastore, 1) := by decide +kernel
theorem dX2_defineWithAllAbove_42 : decode cX2_defineWithAllAbove 42 = .ok (.iinc 5 1, 3) := by decide +kernel
theorem dX2_defineWithAllAbove_45 : decode cX2_defineWithAllAbove 45 = .ok (.aload_n 0, 1) := by decide +kernel
theorem dX2_defineWithAllAbove_46 : decode cX2_defineWithAllAbove 46 = .ok (.getfield 11, 3) := by decide +kernel
theorem dX2_defineWithAllAbove_49 : decode cX2_defineWithAllAbove 49 = .ok (.iload_n 3, 1) := by decide +kernel
theorem dX2_defineWithAllAbove_50 : decode cX2_defineWithAllAbove 50 = .ok (.aaload, 1) := by decide +kernel
theorem dX2_defineWithAllAbove_51 : decode cX2_defineWithAllAbove 51 = .ok (.getfield 76, 3) := by decide +kernel
theorem dX2_defineWithAllAbove_54 : decode cX2_defineWithAllAbove 54 = .ok (.iload 4, 2) := by decide +kernel
theorem dX2_defineWithAllAbove_56 : decode cX2_defineWithAllAbove 56 = .ok (.iaload, 1) := by decide +kernel
theorem dX2_defineWithAllAbove_57 : decode cX2_defineWithAllAbove 57 = .ok (.istore 4, 2) := by decide +kernel
theorem dX2_defineWithAllAbove_59 : decode cX2_defineWithAllAbove 59 = .ok (.iload 4, 2) := by decide +kernel
theorem dX2_defineWithAllAbove_61 : decode cX2_defineWithAllAbove 61 = .ok (.bipush (-2), 2) := by decide +kernel
theorem dX2_defineWithAllAbove_63 : decode cX2_defineWithAllAbove 63 = .ok (.if_icmp .ne 5, 3) := by decide +kernel
theorem dX2_defineWithAllAbove_66 : decode cX2_defineWithAllAbove 66 = .ok (.iconst 0, 1) := by decide +kernel
theorem dX2_defineWithAllAbove_67 : decode cX2_defineWithAllAbove 67 = .ok (.ireturn, 1) := by decide +kernel
theorem dX2_defineWithAllAbove_68 : decode cX2_defineWithAllAbove 68 = .ok (.iload 4, 2) := by decide +kernel
theorem dX2_defineWithAllAbove_70 : decode cX2_defineWithAllAbove 70 = .ok (.iconst (-1), 1) := by decide +kernel
theorem dX2_defineWithAllAbove_71 : decode cX2_defineWithAllAbove 71 = .ok (.if_icmp .ne 8, 3) := by decide +kernel
theorem dX2_defineWithAllAbove_74 : decode cX2_defineWithAllAbove 74 = .ok (.bipush 9, 2) := by decide +kernel
theorem dX2_defineWithAllAbove_76 : decode cX2_defineWithAllAbove 76 = .ok (.goto 10, 3) := by decide +kernel
theorem dX2_defineWithAllAbove_79 : decode cX2_defineWithAllAbove 79 = .ok (.aload_n 0, 1) := by decide +kernel
theorem dX2_defineWithAllAbove_80 : decode cX2_defineWithAllAbove 80 = .ok (.iload_n 3, 1) := by decide +kernel
theorem dX2_defineWithAllAbove_81 : decode cX2_defineWithAllAbove 81 = .ok (.iload 4, 2) := by decide +kernel
theorem dX2_defineWithAllAbove_83 : decode cX2_defineWithAllAbove 83 = .ok (.invokevirtual 140, 3) := by decide +kernel
theorem dX2_defineWithAllAbove_86 : decode cX2_defineWithAllAbove 86 = .ok (.istore_n 3, 1) := by decide +kernel
theorem dX2_defineWithAllAbove_87 : decode cX2_defineWithAllAbove 87 = .ok (.iload_n 3, 1) := by decide +kernel
theorem dX2_defineWithAllAbove_88 : decode cX2_defineWithAllAbove 88 = .ok (.iconst (-1), 1) := by decide +kernel
theorem dX2_defineWithAllAbove_89 : decode cX2_defineWithAllAbove 89 = .ok (.if_icmp .ne (-81), 3) := by decide +kernel
theorem dX2_defineWithAllAbove_92 : decode cX2_defineWithAllAbove 92 = .ok (.iconst 0, 1) := by decide +kernel
theorem dX2_defineWithAllAbove_93 : decode cX2_defineWithAllAbove 93 = .ok (.ireturn, 1) := by decide +kernel
theorem dX2_defineWithAllAbove_94 : decode cX2_defineWithAllAbove 94 = .ok (.aload_n 0, 1) := by decide +kernel
theorem dX2_defineWithAllAbove_95 : decode cX2_defineWithAllAbove 95 = .ok (.iload_n 3, 1) := by decide +kernel
theorem dX2_defineWithAllAbove_96 : decode cX2_defineWithAllAbove 96 = .ok (.iload 4, 2) := by decide +kernel
theorem dX2_defineWithAllAbove_98 : decode cX2_defineWithAllAbove 98 = .ok (.invokevirtual 207, 3) := by decide +kernel
theorem dX2_defineWithAllAbove_101 : decode cX2_defineWithAllAbove 101 = .ok (.ifCond .ne 5, 3) := by decide +kernel
theorem dX2_defineWithAllAbove_104 : decode cX2_defineWithAllAbove 104 = .ok (.iconst 0, 1) := by decide +kernel
theorem dX2_defineWithAllAbove_105 : decode cX2_defineWithAllAbove 105 = .ok (.ireturn, 1) := by decide +kernel
theorem dX2_defineWithAllAbove_106 : decode cX2_defineWithAllAbove 106 = .ok (.aload_n 0, 1) := by decide +kernel
theorem dX2_defineWithAllAbove_107 : decode cX2_defineWithAllAbove 107 = .ok (.iload 5, 2) := by decide +kernel
theorem dX2_defineWithAllAbove_109 : decode cX2_defineWithAllAbove 109 = .ok (.iload_n 3, 1) := by decide +kernel
theorem dX2_defineWithAllAbove_110 : decode cX2_defineWithAllAbove 110 = .ok (.invokevirtual 210, 3) := by decide +kernel
theorem dX2_defineWithAllAbove_113 : decode cX2_defineWithAllAbove 113 = .ok (.iconst 1, 1) := by decide +kernel
theorem dX2_defineWithAllAbove_114 : decode cX2_defineWithAllAbove 114 = .ok (.ireturn, 1) := by decide +kernel
set_option maxRecDepth 20000 in
theorem ggX2_needsNoDefining_X0_hasDefined : GoodIn wsX2_needsNoDefining wsX0_hasDefined := goodIn_r _ [5, 6, 13, 14, 15, 16, 17, 18, 19, 20] (by decide +kernel) (by decide +kernel)
set_option maxRecDepth 20000 in
theorem gX2_needsNoDefining_X0_hasDefined_n213 : GoodIn wsX2_needsNoDefining (wsX0_hasDefined) := ggX2_needsNoDefining_X0_hasDefined
theorem dX2_needsNoDefining_0 : decode cX2_needsNoDefining 0 = .ok (.iload_n 1, 1) := by decide +kernel
theorem dX2_needsNoDefining_1 : decode cX2_needsNoDefining 1 = .ok (.bipush 8, 2) := by decide +kernel
theorem dX2_needsNoDefining_3 : decode cX2_needsNoDefining 3 = .ok (.if_icmp .eq 22, 3) := by decide +kernel
theorem dX2_needsNoDefining_6 : decode cX2_needsNoDefining 6 = .ok (.iload_n 1, 1) := by decide +kernel
theorem dX2_needsNoDefining_7 : decode cX2_needsNoDefining 7 = .ok (.bipush 9, 2) := by decide +kernel
theorem dX2_needsNoDefining_9 : decode cX2_needsNoDefining 9 = .ok (.if_icmp .eq 16, 3) := by decide +kernel
theorem dX2_needsNoDefining_12 : decode cX2_needsNoDefining 12 = .ok (.aload_n 0, 1) := by decide +kernel
theorem dX2_needsNoDefining_13 : decode cX2_needsNoDefining 13 = .ok (.getfield 11, 3) := by decide +kernel
theorem dX2_needsNoDefining_16 : decode cX2_needsNoDefining 16 = .ok (.iload_n 1, 1) := by decide +kernel
theorem dX2_needsNoDefining_17 : decode cX2_needsNoDefining 17 = .ok (.aaload, 1) := by decide +kernel
theorem dX2_needsNoDefining_18 : decode cX2_needsNoDefining 18 = .ok (.iload_n 2, 1) := by decide +kernel
theorem dX2_needsNoDefining_19 : decode cX2_needsNoDefining 19 = .ok (.invokevirtual 213, 3) := by decide +kernel
theorem dX2_needsNoDefining_22 : decode cX2_needsNoDefining 22 = .ok (.ifCond .eq 7, 3) := by decide +kernel
theorem dX2_needsNoDefining_25 : decode cX2_needsNoDefining 25 = .ok (.iconst 1, 1) := by decide +kernel
theorem dX2_needsNoDefining_26 : decode cX2_needsNoDefining 26 = .ok (.goto 4, 3) := by decide +kernel
theorem dX2_needsNoDefining_29 : decode cX2_needsNoDefining 29 = .ok (.iconst 0, 1) := by decide +kernel
theorem dX2_needsNoDefining_30 : decode cX2_needsNoDefining 30 = .ok (.ireturn, 1) := by decide +kernel
theorem dX2_defineChain_0 : decode cX2_defineChain 0 = .ok (.iload_n 2, 1) := by decide +kernel
theorem dX2_defineChain_1 : decode cX2_defineChain 1 = .ok (.istore_n 3, 1) := by decide +kernel
theorem dX2_defineChain_2 : decode cX2_defineChain 2 = .ok (.iload_n 1, 1) := by decide +kernel
theorem dX2_defineChain_3 : decode cX2_defineChain 3 = .ok (.iconst 1, 1) := by decide +kernel
theorem dX2_defineChain_4 : decode cX2_defineChain 4 = .ok (.isub, 1) := by decide +kernel
theorem dX2_defineChain_5 : decode cX2_defineChain 5 = .ok (.istore 4, 2) := by decide +kernel
theorem dX2_defineChain_7 : decode cX2_defineChain 7 = .ok (.iload 4, 2) := by decide +kernel
theorem dX2_defineChain_9 : decode cX2_defineChain 9 = .ok (.ifCond .lt 41, 3) := by decide +kernel
theorem dX2_defineChain_12 : decode cX2_defineChain 12 = .ok (.aload_n 0, 1) := by decide +kernel
theorem dX2_defineChain_13 : decode cX2_defineChain 13 = .ok (.getfield 11, 3) := by decide +kernel
theorem dX2_defineChain_16 : decode cX2_defineChain 16 = .ok (.aload_n 0, 1) := by decide +kernel
theorem dX2_defineChain_17 : decode cX2_defineChain 17 = .ok (.getfield 30, 3) := by decide +kernel
theorem dX2_defineChain_20 : decode cX2_defineChain 20 = .ok (.iload 4, 2) := by decide +kernel
theorem dX2_defineChain_22 : decode cX2_defineChain 22 = .ok (.iaload, 1) := by decide +kernel
theorem dX2_defineChain_23 : decode cX2_defineChain 23 = .ok (.aaload, 1) := by decide +kernel
theorem dX2_defineChain_24 : decode cX2_defineChain 24 = .ok (.getfield 163, 3) := by decide +kernel
theorem dX2_defineChain_27 : decode cX2_defineChain 27 = .ok (.aload_n 0, 1) := by decide +kernel
theorem dX2_defineChain_28 : decode cX2_defineChain 28 = .ok (.getfield 34, 3) := by decide +kernel
theorem dX2_defineChain_31 : decode cX2_defineChain 31 = .ok (.iload 4, 2) := by decide +kernel
theorem dX2_defineChain_33 : decode cX2_defineChain 33 = .ok (.iaload, 1) := by decide +kernel
theorem dX2_defineChain_34 : decode cX2_defineChain 34 = .ok (.iload_n 3, 1) := by decide +kernel
theorem dX2_defineChain_35 : decode cX2_defineChain 35 = .ok (.iastore, 1) := by decide +kernel
theorem dX2_defineChain_36 : decode cX2_defineChain 36 = .ok (.aload_n 0, 1) := by decide +kernel
theorem dX2_defineChain_37 : decode cX2_defineChain 37 = .ok (.getfield 30, 3) := by decide +kernel
theorem dX2_defineChain_40 : decode cX2_defineChain 40 = .ok (.iload 4, 2) := by decide +kernel
theorem dX2_defineChain_42 : decode cX2_defineChain 42 = .ok (.iaload, 1) := by decide +kernel
theorem dX2_defineChain_43 : decode cX2_defineChain 43 = .ok (.istore_n 3, 1) := by decide +kernel
theorem dX2_defineChain_44 : decode cX2_defineChain 44 = .ok (.iinc 4 (-1), 3) := by decide +kernel
theorem dX2_defineChain_47 : decode cX2_defineChain 47 = .ok (.goto (-40), 3) := by decide +kernel
theorem dX2_defineChain_50 : decode cX2_defineChain 50 = .ok (.return_, 1) := by decide +kernel
theorem dX3_init_0 : decode cX3_init 0 = .ok (.aload_n 0, 1) := by decide +kernel
theorem dX3_init_1 : decode cX3_init 1 = .ok (.invokespecial 1, 3) := by decide +kernel
theorem dX3_init_4 : decode cX3_init 4 = .ok (.aload_n 0, 1) := by decide +kernel
theorem dX3_init_5 : decode cX3_init 5 = .ok (.bipush 8, 2) := by decide +kernel
theorem dX3_init_7 : decode cX3_init 7 = .ok (.newarray .boolean, 2) := by decide +kernel
theorem dX3_init_9 : decode cX3_init 9 = .ok (.putfield 7, 3) := by decide +kernel
theorem dX3_init_12 : decode cX3_init 12 = .ok (.aload_n 0, 1) := by decide +kernel
theorem dX3_init_13 : decode cX3_init 13 = .ok (.bipush 8, 2) := by decide +kernel
theorem dX3_init_15 : decode cX3_init 15 = .ok (.newarray .boolean, 2) := by decide +kernel
theorem dX3_init_17 : decode cX3_init 17 = .ok (.putfield 13, 3) := by decide +kernel
theorem dX3_init_20 : decode cX3_init 20 = .ok (.aload_n 0, 1) := by decide +kernel
theorem dX3_init_21 : decode cX3_init 21 = .ok (.bipush 8, 2) := by decide +kernel
theorem dX3_init_23 : decode cX3_init 23 = .ok (.newarray .boolean, 2) := by decide +kernel
theorem dX3_init_25 : decode cX3_init 25 = .ok (.putfield 16, 3) := by decide +kernel
theorem dX3_init_28 : decode cX3_init 28 = .ok (.aload_n 0, 1) := by decide +kernel
theorem dX3_init_29 : decode cX3_init 29 = .ok (.sipush 192, 3) := by decide +kernel
theorem dX3_init_32 : decode cX3_init 32 = .ok (.newarray .int, 2) := by decide +kernel
theorem dX3_init_34 : decode cX3_init 34 = .ok (.putfield 19, 3) := by decide +kernel
theorem dX3_init_37 : decode cX3_init 37 = .ok (.aload_n 0, 1) := by decide +kernel
theorem dX3_init_38 : decode cX3_init 38 = .ok (.sipush 192, 3) := by decide +kernel
theorem dX3_init_41 : decode cX3_init 41 = .ok (.newarray .int, 2) := by decide +kernel
theorem dX3_init_43 : decode cX3_init 43 = .ok (.putfield 23, 3) := by decide +kernel
theorem dX3_init_46 : decode cX3_init 46 = .ok (.aload_n 0, 1) := by decide +kernel
theorem dX3_init_47 : decode cX3_init 47 = .ok (.bipush 8, 2) := by decide +kernel
theorem dX3_init_49 : decode cX3_init 49 = .ok (.newarray .int, 2) := by decide +kernel
theorem dX3_init_51 : decode cX3_init 51 = .ok (.putfield 26, 3) := by decide +kernel
theorem dX3_init_54 : decode cX3_init 54 = .ok (.aload_n 0, 1) := by decide +kernel
theorem dX3_init_55 : decode cX3_init 55 = .ok (.bipush 48, 2) := by decide +kernel
theorem dX3_init_57 : decode cX3_init 57 = .ok (.newarray .int, 2) := by decide +kernel
theorem dX3_init_59 : decode cX3_init 59 = .ok (.putfield 29, 3) := by decide +kernel
theorem dX3_init_62 : decode cX3_init 62 = .ok (.aload_n 0, 1) := by decide +kernel
theorem dX3_init_63 : decode cX3_init 63 = .ok (.bipush 48, 2) := by decide +kernel
theorem dX3_init_65 : decode cX3_init 65 = .ok (.newarray .int, 2) := by decide +kernel
theorem dX3_init_67 : decode cX3_init 67 = .ok (.putfield 32, 3) := by decide +kernel
theorem dX3_init_70 : decode cX3_init 70 = .ok (.aload_n 0, 1) := by decide +kernel
theorem dX3_init_71 : decode cX3_init 71 = .ok (.bipush 48, 2) := by decide +kernel
theorem dX3_init_73 : decode cX3_init 73 = .ok (.newarray .int, 2) := by decide +kernel
theorem dX3_init_75 : decode cX3_init 75 = .ok (.putfield 35, 3) := by decide +kernel
theorem dX3_init_78 : decode cX3_init 78 = .ok (.aload_n 0, 1) := by decide +kernel
theorem dX3_init_79 : decode cX3_init 79 = .ok (.bipush 48, 2) := by decide +kernel
theorem dX3_init_81 : decode cX3_init 81 = .ok (.newarray .boolean, 2) := by decide +kernel
theorem dX3_init_83 : decode cX3_init 83 = .ok (.putfield 38, 3) := by decide +kernel
theorem dX3_init_86 : decode cX3_init 86 = .ok (.aload_n 0, 1) := by decide +kernel
theorem dX3_init_87 : decode cX3_init 87 = .ok (.bipush 8, 2) := by decide +kernel
theorem dX3_init_89 : decode cX3_init 89 = .ok (.newarray .int, 2) := by decide +kernel
theorem dX3_init_91 : decode cX3_init 91 = .ok (.putfield 41, 3) := by decide +kernel
theorem dX3_init_94 : decode cX3_init 94 = .ok (.aload_n 0, 1) := by decide +kernel
theorem dX3_init_95 : decode cX3_init 95 = .ok (.bipush 8, 2) := by decide +kernel
theorem dX3_init_97 : decode cX3_init 97 = .ok (.newarray .boolean, 2) := by decide +kernel
theorem dX3_init_99 : decode cX3_init 99 = .ok (.putfield 44, 3) := by decide +kernel
theorem dX3_init_102 : decode cX3_init 102 = .ok (.aload_n 0, 1) := by decide +kernel
theorem dX3_init_103 : decode cX3_init 103 = .ok (.bipush 8, 2) := by decide +kernel
theorem dX3_init_105 : decode cX3_init 105 = .ok (.newarray .boolean, 2) := by decide +kernel
theorem dX3_init_107 : decode cX3_init 107 = .ok (.putfield 47, 3) := by decide +kernel
theorem dX3_init_110 : decode cX3_init 110 = .ok (.aload_n 0, 1) := by decide +kernel
theorem dX3_init_111 : decode cX3_init 111 = .ok (.bipush 10, 2) := by decide +kernel
theorem dX3_init_113 : decode cX3_init 113 = .ok (.newarray .int, 2) := by decide +kernel
theorem dX3_init_115 : decode cX3_init 115 = .ok (.putfield 50, 3) := by decide +kernel
theorem dX3_init_118 : decode cX3_init 118 = .ok (.aload_n 0, 1) := by decide +kernel
theorem dX3_init_119 : decode cX3_init 119 = .ok (.bipush 10, 2) := by decide +kernel
theorem dX3_init_121 : decode cX3_init 121 = .ok (.newarray .int, 2) := by decide +kernel
theorem dX3_init_123 : decode cX3_init 123 = .ok (.putfield 53, 3) := by decide +kernel
theorem dX3_init_126 : decode cX3_init 126 = .ok (.aload_n 0, 1) := by decide +kernel
theorem dX3_init_127 : decode cX3_init 127 = .ok (.bipush 11, 2) := by decide +kernel
theorem dX3_init_129 : decode cX3_init 129 = .ok (.newarray .int, 2) := by decide +kernel
theorem dX3_init_131 : decode cX3_init 131 = .ok (.putfield 56, 3) := by decide +kernel
theorem dX3_init_134 : decode cX3_init 134 = .ok (.iconst 0, 1) := by decide +kernel
theorem dX3_init_135 : decode cX3_init 135 = .ok (.istore_n 1, 1) := by decide +kernel
theorem dX3_init_136 : decode cX3_init 136 = .ok (.iload_n 1, 1) := by decide +kernel
theorem dX3_init_137 : decode cX3_init 137 = .ok (.sipush 192, 3) := by decide +kernel
theorem dX3_init_140 : decode cX3_init 140 = .ok (.if_icmp .ge 24, 3) := by decide +kernel
theorem dX3_init_143 : decode cX3_init 143 = .ok (.aload_n 0, 1) := by decide +kernel
theorem dX3_init_144 : decode cX3_init 144 = .ok (.getfield 19, 3) := by decide +kernel
theorem dX3_init_147 : decode cX3_init 147 = .ok (.iload_n 1, 1) := by decide +kernel
theorem dX3_init_148 : decode cX3_init 148 = .ok (.bipush (-3), 2) := by decide +kernel
theorem dX3_init_150 : decode cX3_init 150 = .ok (.iastore, 1) := by decide +kernel
theorem dX3_init_151 : decode cX3_init 151 = .ok (.aload_n 0, 1) := by decide +kernel
theorem dX3_init_152 : decode cX3_init 152 = .ok (.getfield 23, 3) := by decide +kernel
theorem dX3_init_155 : decode cX3_init 155 = .ok (.iload_n 1, 1) := by decide +kernel
theorem dX3_init_156 : decode cX3_init 156 = .ok (.iconst (-1), 1) := by decide +kernel
theorem dX3_init_157 : decode cX3_init 157 = .ok (.iastore, 1) := by decide +kernel
theorem dX3_init_158 : decode cX3_init 158 = .ok (.iinc 1 1, 3) := by decide +kernel
theorem dX3_init_161 : decode cX3_init 161 = .ok (.goto (-25), 3) := by decide +kernel
theorem dX3_init_164 : decode cX3_init 164 = .ok (.return_, 1) := by decide +kernel
theorem dX3_thrown_0 : decode cX3_thrown 0 = .ok (.aload_n 0, 1) := by decide +kernel
theorem dX3_thrown_1 : decode cX3_thrown 1 = .ok (.getfield 59, 3) := by decide +kernel
theorem dX3_thrown_4 : decode cX3_thrown 4 = .ok (.ireturn, 1) := by decide +kernel
theorem dX3_throwsBy_0 : decode cX3_throwsBy 0 = .ok (.aload_n 0, 1) := by decide +kernel
theorem dX3_throwsBy_1 : decode cX3_throwsBy 1 = .ok (.iload_n 1, 1) := by decide +kernel
theorem dX3_throwsBy_2 : decode cX3_throwsBy 2 = .ok (.putfield 59, 3) := by decide +kernel
theorem dX3_throwsBy_5 : decode cX3_throwsBy 5 = .ok (.iload_n 1, 1) := by decide +kernel
theorem dX3_throwsBy_6 : decode cX3_throwsBy 6 = .ok (.ifCond .le 7, 3) := by decide +kernel
theorem dX3_throwsBy_9 : decode cX3_throwsBy 9 = .ok (.iconst 1, 1) := by decide +kernel
theorem dX3_throwsBy_10 : decode cX3_throwsBy 10 = .ok (.goto 4, 3) := by decide +kernel
theorem dX3_throwsBy_13 : decode cX3_throwsBy 13 = .ok (.iconst 0, 1) := by decide +kernel
theorem dX3_throwsBy_14 : decode cX3_throwsBy 14 = .ok (.ireturn, 1) := by decide +kernel
theorem dX3_in_0 : decode cX3_in 0 = .ok (.iload_n 0, 1) := by decide +kernel
theorem dX3_in_1 : decode cX3_in 1 = .ok (.iload_n 1, 1) := by decide +kernel
theorem dX3_in_2 : decode cX3_in 2 = .ok (.if_icmp .lt 12, 3) := by decide +kernel
theorem dX3_in_5 : decode cX3_in 5 = .ok (.iload_n 0, 1) := by decide +kernel
theorem dX3_in_6 : decode cX3_in 6 = .ok (.iload_n 2, 1) := by decide +kernel
theorem dX3_in_7 : decode cX3_in 7 = .ok (.if_icmp .gt 7, 3) := by decide +kernel
theorem dX3_in_10 : decode cX3_in 10 = .ok (.iconst 1, 1) := by decide +kernel
theorem dX3_in_11 : decode cX3_in 11 = .ok (.goto 4, 3) := by decide +kernel
theorem dX3_in_14 : decode cX3_in 14 = .ok (.iconst 0, 1) := by decide +kernel
theorem dX3_in_15 : decode cX3_in 15 = .ok (.ireturn, 1) := by decide +kernel
set_option maxRecDepth 20000 in
theorem ggX3_isModule_X3_in : GoodIn wsX3_isModule wsX3_in := goodIn_r _ [4] (by decide +kernel) (by decide +kernel)
set_option maxRecDepth 20000 in
theorem gX3_isModule_X3_in : GoodIn wsX3_isModule (va_wsS RX3 63 yX3_in wsX3_in) := goodIn_app (goodIn_of _ (by decide +kernel)) ggX3_isModule_X3_in
theorem dX3_isModule_0 : decode cX3_isModule 0 = .ok (.iload_n 0, 1) := by decide +kernel
theorem dX3_isModule_1 : decode cX3_isModule 1 = .ok (.iconst 0, 1) := by decide +kernel
theorem dX3_isModule_2 : decode cX3_isModule 2 = .ok (.bipush 7, 2) := by decide +kernel
theorem dX3_isModule_4 : decode cX3_isModule 4 = .ok (.invokestatic 63, 3) := by decide +kernel
theorem dX3_isModule_7 : decode cX3_isModule 7 = .ok (.ireturn, 1) := by decide +kernel
set_option maxRecDepth 20000 in
theorem ggX3_isPresent_X3_isModule : GoodIn wsX3_isPresent wsX3_isModule := goodIn_r _ [5, 6, 7, 4, 8] (by decide +kernel) (by decide +kernel)
set_option maxRecDepth 20000 in
theorem gX3_isPresent_X3_isModule : GoodIn wsX3_isPresent (va_wsS RX3 67 yX3_isModule wsX3_isModule) := goodIn_app (goodIn_of _ (by decide +kernel)) ggX3_isPresent_X3_isModule
theorem dX3_isPresent_0 : decode cX3_isPresent 0 = .ok (.iload_n 1, 1) := by decide +kernel
theorem dX3_isPresent_1 : decode cX3_isPresent 1 = .ok (.invokestatic 67, 3) := by decide +kernel
theorem dX3_isPresent_4 : decode cX3_isPresent 4 = .ok (.ifCond .eq 16, 3) := by decide +kernel
theorem dX3_isPresent_7 : decode cX3_isPresent 7 = .ok (.aload_n 0, 1) := by decide +kernel
theorem dX3_isPresent_8 : decode cX3_isPresent 8 = .ok (.getfield 7, 3) := by decide +kernel
theorem dX3_isPresent_11 : decode cX3_isPresent 11 = .ok (.iload_n 1, 1) := by decide +kernel
theorem dX3_isPresent_12 : decode cX3_isPresent 12 = .ok (.baload, 1) := by decide +kernel
theorem dX3_isPresent_13 : decode cX3_isPresent 13 = .ok (.ifCond .eq 7, 3) := by decide +kernel
theorem dX3_isPresent_16 : decode cX3_isPresent 16 = .ok (.iconst 1, 1) := by decide +kernel
theorem dX3_isPresent_17 : decode cX3_isPresent 17 = .ok (.goto 4, 3) := by decide +kernel
theorem dX3_isPresent_20 : decode cX3_isPresent 20 = .ok (.iconst 0, 1) := by decide +kernel
theorem dX3_isPresent_21 : decode cX3_isPresent 21 = .ok (.ireturn, 1) := by decide +kernel
set_option maxRecDepth 20000 in
theorem ggX3_isLoaded_X3_isModule : GoodIn wsX3_isLoaded wsX3_isModule := goodIn_r _ [5, 6, 7, 4, 8] (by decide +kernel) (by decide +kernel)
set_option maxRecDepth 20000 in
theorem gX3_isLoaded_X3_isModule : GoodIn wsX3_isLoaded (va_wsS RX3 67 yX3_isModule wsX3_isModule) := goodIn_app (goodIn_of _ (by decide +kernel)) ggX3_isLoaded_X3_isModule
theorem dX3_isLoaded_0 : decode cX3_isLoaded 0 = .ok (.iload_n 1, 1) := by decide +kernel
theorem dX3_isLoaded_1 : decode cX3_isLoaded 1 = .ok (.invokestatic 67, 3) := by decide +kernel
theorem dX3_isLoaded_4 : decode cX3_isLoaded 4 = .ok (.ifCond .eq 16, 3) := by decide +kernel
theorem dX3_isLoaded_7 : decode cX3_isLoaded 7 = .ok (.aload_n 0, 1) := by decide +kernel
theorem dX3_isLoaded_8 : decode cX3_isLoaded 8 = .ok (.getfield 13, 3) := by decide +kernel
theorem dX3_isLoaded_11 : decode cX3_isLoaded 11 = .ok (.iload_n 1, 1) := by decide +kernel
theorem dX3_isLoaded_12 : decode cX3_isLoaded 12 = .ok (.baload, 1) := by decide +kernel
theorem dX3_isLoaded_13 : decode cX3_isLoaded 13 = .ok (.ifCond .eq 7, 3) := by decide +kernel
theorem dX3_isLoaded_16 : decode cX3_isLoaded 16 = .ok (.iconst 1, 1) := by decide +kernel
theorem dX3_isLoaded_17 : decode cX3_isLoaded 17 = .ok (.goto 4, 3) := by decide +kernel
end
section
theorem dX3_isLoaded_20 : decode cX3_isLoaded 20 = .ok (.iconst 0, 1) := by decide +kernel
theorem dX3_isLoaded_21 : decode cX3_isLoaded 21 = .ok (.ireturn, 1) := by decide +kernel
set_option maxRecDepth 20000 in
theorem ggX3_present_X3_isModule : GoodIn wsX3_present wsX3_isModule := goodIn_r _ [5, 6, 7, 4, 8] (by decide +kernel) (by decide +kernel)
set_option maxRecDepth 20000 in
theorem gX3_present_X3_isModule : GoodIn wsX3_present (va_wsS RX3 67 yX3_isModule wsX3_isModule) := goodIn_app (goodIn_of _ (by decide +kernel)) ggX3_present_X3_isModule
set_option maxRecDepth 20000 in
theorem ggX3_present_X3_throwsBy : GoodIn wsX3_present wsX3_throwsBy := goodIn_r _ [12, 13, 14, 15, 16, 17, 18, 19, 20, 21, 22, 23, 24, 25, 26, 27, 28, 29, 30, 31, 32] (by decide +kernel) (by decide +kernel)
set_option maxRecDepth 20000 in
theorem gX3_present_X3_throwsBy : GoodIn wsX3_present (wsV RX3 71 RX3 yX3_throwsBy wsX3_throwsBy) := goodIn_app (goodIn_of _ (by decide +kernel)) ggX3_present_X3_throwsBy
theorem dX3_present_0 : decode cX3_present 0 = .ok (.aload_n 0, 1) := by decide +kernel
theorem dX3_present_1 : decode cX3_present 1 = .ok (.iload_n 1, 1) := by decide +kernel
theorem dX3_present_2 : decode cX3_present 2 = .ok (.invokestatic 67, 3) := by decide +kernel
theorem dX3_present_5 : decode cX3_present 5 = .ok (.ifCond .ne 7, 3) := by decide +kernel
theorem dX3_present_8 : decode cX3_present 8 = .ok (.iconst 1, 1) := by decide +kernel
theorem dX3_present_9 : decode cX3_present 9 = .ok (.goto 17, 3) := by decide +kernel
theorem dX3_present_12 : decode cX3_present 12 = .ok (.aload_n 0, 1) := by decide +kernel
theorem dX3_present_13 : decode cX3_present 13 = .ok (.getfield 7, 3) := by decide +kernel
theorem dX3_present_16 : decode cX3_present 16 = .ok (.iload_n 1, 1) := by decide +kernel
theorem dX3_present_17 : decode cX3_present 17 = .ok (.baload, 1) := by decide +kernel
theorem dX3_present_18 : decode cX3_present 18 = .ok (.ifCond .eq 7, 3) := by decide +kernel
theorem dX3_present_21 : decode cX3_present 21 = .ok (.iconst 2, 1) := by decide +kernel
theorem dX3_present_22 : decode cX3_present 22 = .ok (.goto 4, 3) := by decide +kernel
theorem dX3_present_25 : decode cX3_present 25 = .ok (.iconst 0, 1) := by decide +kernel
theorem dX3_present_26 : decode cX3_present 26 = .ok (.invokevirtual 71, 3) := by decide +kernel
theorem dX3_present_29 : decode cX3_present 29 = .ok (.ifCond .eq 4, 3) := by decide +kernel
theorem dX3_present_32 : decode cX3_present 32 = .ok (.return_, 1) := by decide +kernel
theorem dX3_present_33 : decode cX3_present 33 = .ok (.aload_n 0, 1) := by decide +kernel
theorem dX3_present_34 : decode cX3_present 34 = .ok (.getfield 7, 3) := by decide +kernel
theorem dX3_present_37 : decode cX3_present 37 = .ok (.iload_n 1, 1) := by decide +kernel
theorem dX3_present_38 : decode cX3_present 38 = .ok (.iconst 1, 1) := by decide +kernel
theorem dX3_present_39 : decode cX3_present 39 = .ok (.bastore, 1) := by decide +kernel
theorem dX3_present_40 : decode cX3_present 40 = .ok (.return_, 1) := by decide +kernel
set_option maxRecDepth 20000 in
theorem ggX3_file_X3_isPresent : GoodIn wsX3_file wsX3_isPresent := goodIn_r _ [7, 8, 9, 10, 6, 11, 12, 13, 14, 20, 21, 22, 23, 24, 25, 26, 27, 28, 29, 30, 31, 32, 33, 34, 35, 36, 37, 38] (by decide +kernel) (by decide +kernel)
set_option maxRecDepth 20000 in
theorem gX3_file_X3_isPresent : GoodIn wsX3_file (wsV RX3 74 RX3 yX3_isPresent wsX3_isPresent) := goodIn_app (goodIn_of _ (by decide +kernel)) ggX3_file_X3_isPresent
set_option maxRecDepth 20000 in
theorem ggX3_file_X3_in : GoodIn wsX3_file wsX3_in := goodIn_r _ [14] (by decide +kernel) (by decide +kernel)
set_option maxRecDepth 20000 in
theorem gX3_file_X3_in : GoodIn wsX3_file (va_wsS RX3 63 yX3_in wsX3_in) := goodIn_app (goodIn_of _ (by decide +kernel)) ggX3_file_X3_in
set_option maxRecDepth 20000 in
theorem ggX3_file_X3_throwsBy : GoodIn wsX3_file wsX3_throwsBy := goodIn_r _ [18, 19, 20, 21, 22, 23, 24, 25, 26, 27, 28, 29, 30, 31, 32, 33, 34, 35, 36, 37, 38] (by decide +kernel) (by decide +kernel)
set_option maxRecDepth 20000 in
theorem gX3_file_X3_throwsBy : GoodIn wsX3_file (wsV RX3 71 RX3 yX3_throwsBy wsX3_throwsBy) := goodIn_app (goodIn_of _ (by decide +kernel)) ggX3_file_X3_throwsBy
theorem dX3_file_0 : decode cX3_file 0 = .ok (.aload_n 0, 1) := by decide +kernel
theorem dX3_file_1 : decode cX3_file 1 = .ok (.iload_n 1, 1) := by decide +kernel
theorem dX3_file_2 : decode cX3_file 2 = .ok (.invokevirtual 74, 3) := by decide +kernel
theorem dX3_file_5 : decode cX3_file 5 = .ok (.ifCond .eq 28, 3) := by decide +kernel
theorem dX3_file_8 : decode cX3_file 8 = .ok (.iload_n 2, 1) := by decide +kernel
theorem dX3_file_9 : decode cX3_file 9 = .ok (.iconst 0, 1) := by decide +kernel
theorem dX3_file_10 : decode cX3_file 10 = .ok (.bipush 23, 2) := by decide +kernel
theorem dX3_file_12 : decode cX3_file 12 = .ok (.invokestatic 63, 3) := by decide +kernel
theorem dX3_file_15 : decode cX3_file 15 = .ok (.ifCond .eq 18, 3) := by decide +kernel
theorem dX3_file_18 : decode cX3_file 18 = .ok (.iload_n 3, 1) := by decide +kernel
theorem dX3_file_19 : decode cX3_file 19 = .ok (.bipush (-2), 2) := by decide +kernel
theorem dX3_file_21 : decode cX3_file 21 = .ok (.bipush 23, 2) := by decide +kernel
theorem dX3_file_23 : decode cX3_file 23 = .ok (.invokestatic 63, 3) := by decide +kernel
theorem dX3_file_26 : decode cX3_file 26 = .ok (.ifCond .eq 7, 3) := by decide +kernel
theorem dX3_file_29 : decode cX3_file 29 = .ok (.iconst 1, 1) := by decide +kernel
theorem dX3_file_30 : decode cX3_file 30 = .ok (.goto 4, 3) := by decide +kernel
theorem dX3_file_33 : decode cX3_file 33 = .ok (.iconst 0, 1) := by decide +kernel
theorem dX3_file_34 : decode cX3_file 34 = .ok (.istore 4, 2) := by decide +kernel
theorem dX3_file_36 : decode cX3_file 36 = .ok (.aload_n 0, 1) := by decide +kernel
theorem dX3_file_37 : decode cX3_file 37 = .ok (.iload 4, 2) := by decide +kernel
theorem dX3_file_39 : decode cX3_file 39 = .ok (.ifCond .ne 7, 3) := by decide +kernel
theorem dX3_file_42 : decode cX3_file 42 = .ok (.iconst 1, 1) := by decide +kernel
theorem dX3_file_43 : decode cX3_file 43 = .ok (.goto 33, 3) := by decide +kernel
theorem dX3_file_46 : decode cX3_file 46 = .ok (.aload_n 0, 1) := by decide +kernel
theorem dX3_file_47 : decode cX3_file 47 = .ok (.getfield 13, 3) := by decide +kernel
theorem dX3_file_50 : decode cX3_file 50 = .ok (.iload_n 1, 1) := by decide +kernel
theorem dX3_file_51 : decode cX3_file 51 = .ok (.baload, 1) := by decide +kernel
theorem dX3_file_52 : decode cX3_file 52 = .ok (.ifCond .ne 19, 3) := by decide +kernel
theorem dX3_file_55 : decode cX3_file 55 = .ok (.aload_n 0, 1) := by decide +kernel
theorem dX3_file_56 : decode cX3_file 56 = .ok (.getfield 19, 3) := by decide +kernel
theorem dX3_file_59 : decode cX3_file 59 = .ok (.bipush 24, 2) := by decide +kernel
theorem dX3_file_61 : decode cX3_file 61 = .ok (.iload_n 1, 1) := by decide +kernel
theorem dX3_file_62 : decode cX3_file 62 = .ok (.imul, 1) := by decide +kernel
theorem dX3_file_63 : decode cX3_file 63 = .ok (.iload_n 2, 1) := by decide +kernel
theorem dX3_file_64 : decode cX3_file 64 = .ok (.iadd, 1) := by decide +kernel
theorem dX3_file_65 : decode cX3_file 65 = .ok (.iaload, 1) := by decide +kernel
theorem dX3_file_66 : decode cX3_file 66 = .ok (.bipush (-3), 2) := by decide +kernel
theorem dX3_file_68 : decode cX3_file 68 = .ok (.if_icmp .eq 7, 3) := by decide +kernel
theorem dX3_file_71 : decode cX3_file 71 = .ok (.iconst 2, 1) := by decide +kernel
theorem dX3_file_72 : decode cX3_file 72 = .ok (.goto 4, 3) := by decide +kernel
theorem dX3_file_75 : decode cX3_file 75 = .ok (.iconst 0, 1) := by decide +kernel
theorem dX3_file_76 : decode cX3_file 76 = .ok (.invokevirtual 71, 3) := by decide +kernel
theorem dX3_file_79 : decode cX3_file 79 = .ok (.ifCond .eq 4, 3) := by decide +kernel
theorem dX3_file_82 : decode cX3_file 82 = .ok (.return_, 1) := by decide +kernel
theorem dX3_file_83 : decode cX3_file 83 = .ok (.aload_n 0, 1) := by decide +kernel
theorem dX3_file_84 : decode cX3_file 84 = .ok (.getfield 19, 3) := by decide +kernel
theorem dX3_file_87 : decode cX3_file 87 = .ok (.bipush 24, 2) := by decide +kernel
theorem dX3_file_89 : decode cX3_file 89 = .ok (.iload_n 1, 1) := by decide +kernel
theorem dX3_file_90 : decode cX3_file 90 = .ok (.imul, 1) := by decide +kernel
theorem dX3_file_91 : decode cX3_file 91 = .ok (.iload_n 2, 1) := by decide +kernel
theorem dX3_file_92 : decode cX3_file 92 = .ok (.iadd, 1) := by decide +kernel
theorem dX3_file_93 : decode cX3_file 93 = .ok (.iload_n 3, 1) := by decide +kernel
theorem dX3_file_94 : decode cX3_file 94 = .ok (.iastore, 1) := by decide +kernel
theorem dX3_file_95 : decode cX3_file 95 = .ok (.return_, 1) := by decide +kernel
set_option maxRecDepth 20000 in
theorem ggX3_depend_X3_isPresent : GoodIn wsX3_depend wsX3_isPresent := goodIn_r _ [11, 12, 13, 14, 10, 15, 16, 17, 18, 24, 25, 26, 27, 28, 29, 30, 31, 32, 33, 34, 35, 36, 37, 38, 39, 40, 41, 42] (by decide +kernel) (by decide +kernel)
set_option maxRecDepth 20000 in
theorem gX3_depend_X3_isPresent : GoodIn wsX3_depend (wsV RX3 74 RX3 yX3_isPresent wsX3_isPresent) := goodIn_app (goodIn_of _ (by decide +kernel)) ggX3_depend_X3_isPresent
set_option maxRecDepth 20000 in
theorem ggX3_depend_X3_in : GoodIn wsX3_depend wsX3_in := goodIn_r _ [18] (by decide +kernel) (by decide +kernel)
set_option maxRecDepth 20000 in
theorem gX3_depend_X3_in : GoodIn wsX3_depend (va_wsS RX3 63 yX3_in wsX3_in) := goodIn_app (goodIn_of _ (by decide +kernel)) ggX3_depend_X3_in
set_option maxRecDepth 20000 in
theorem ggX3_depend_X3_throwsBy : GoodIn wsX3_depend wsX3_throwsBy := goodIn_r _ [22, 23, 24, 25, 26, 27, 28, 29, 30, 31, 32, 33, 34, 35, 36, 37, 38, 39, 40, 41, 42] (by decide +kernel) (by decide +kernel)
set_option maxRecDepth 20000 in
theorem gX3_depend_X3_throwsBy : GoodIn wsX3_depend (wsV RX3 71 RX3 yX3_throwsBy wsX3_throwsBy) := goodIn_app (goodIn_of _ (by decide +kernel)) ggX3_depend_X3_throwsBy
theorem dX3_depend_0 : decode cX3_depend 0 = .ok (.aload_n 0, 1) := by decide +kernel
theorem dX3_depend_1 : decode cX3_depend 1 = .ok (.iload_n 1, 1) := by decide +kernel
theorem dX3_depend_2 : decode cX3_depend 2 = .ok (.invokevirtual 74, 3) := by decide +kernel
theorem dX3_depend_5 : decode cX3_depend 5 = .ok (.ifCond .eq 43, 3) := by decide +kernel
theorem dX3_depend_8 : decode cX3_depend 8 = .ok (.iload_n 2, 1) := by decide +kernel
theorem dX3_depend_9 : decode cX3_depend 9 = .ok (.iconst (-1), 1) := by decide +kernel
theorem dX3_depend_10 : decode cX3_depend 10 = .ok (.bipush 7, 2) := by decide +kernel
theorem dX3_depend_12 : decode cX3_depend 12 = .ok (.invokestatic 63, 3) := by decide +kernel
theorem dX3_depend_15 : decode cX3_depend 15 = .ok (.ifCond .eq 33, 3) := by decide +kernel
theorem dX3_depend_18 : decode cX3_depend 18 = .ok (.iload_n 2, 1) := by decide +kernel
theorem dX3_depend_19 : decode cX3_depend 19 = .ok (.iload_n 1, 1) := by decide +kernel
theorem dX3_depend_20 : decode cX3_depend 20 = .ok (.if_icmp .eq 28, 3) := by decide +kernel
theorem dX3_depend_23 : decode cX3_depend 23 = .ok (.iload_n 3, 1) := by decide +kernel
theorem dX3_depend_24 : decode cX3_depend 24 = .ok (.iconst 0, 1) := by decide +kernel
theorem dX3_depend_25 : decode cX3_depend 25 = .ok (.bipush 63, 2) := by decide +kernel
theorem dX3_depend_27 : decode cX3_depend 27 = .ok (.invokestatic 63, 3) := by decide +kernel
theorem dX3_depend_30 : decode cX3_depend 30 = .ok (.ifCond .eq 18, 3) := by decide +kernel
theorem dX3_depend_33 : decode cX3_depend 33 = .ok (.iload 4, 2) := by decide +kernel
theorem dX3_depend_35 : decode cX3_depend 35 = .ok (.iconst 0, 1) := by decide +kernel
theorem dX3_depend_36 : decode cX3_depend 36 = .ok (.bipush 63, 2) := by decide +kernel
theorem dX3_depend_38 : decode cX3_depend 38 = .ok (.invokestatic 63, 3) := by decide +kernel
theorem dX3_depend_41 : decode cX3_depend 41 = .ok (.ifCond .eq 7, 3) := by decide +kernel
theorem dX3_depend_44 : decode cX3_depend 44 = .ok (.iconst 1, 1) := by decide +kernel
theorem dX3_depend_45 : decode cX3_depend 45 = .ok (.goto 4, 3) := by decide +kernel
theorem dX3_depend_48 : decode cX3_depend 48 = .ok (.iconst 0, 1) := by decide +kernel
theorem dX3_depend_49 : decode cX3_depend 49 = .ok (.istore 6, 2) := by decide +kernel
theorem dX3_depend_51 : decode cX3_depend 51 = .ok (.iload 6, 2) := by decide +kernel
theorem dX3_depend_53 : decode cX3_depend 53 = .ok (.ifCond .eq 34, 3) := by decide +kernel
theorem dX3_depend_56 : decode cX3_depend 56 = .ok (.aload_n 0, 1) := by decide +kernel
theorem dX3_depend_57 : decode cX3_depend 57 = .ok (.getfield 13, 3) := by decide +kernel
theorem dX3_depend_60 : decode cX3_depend 60 = .ok (.iload_n 1, 1) := by decide +kernel
theorem dX3_depend_61 : decode cX3_depend 61 = .ok (.baload, 1) := by decide +kernel
theorem dX3_depend_62 : decode cX3_depend 62 = .ok (.ifCond .eq 25, 3) := by decide +kernel
theorem dX3_depend_65 : decode cX3_depend 65 = .ok (.iload 5, 2) := by decide +kernel
theorem dX3_depend_67 : decode cX3_depend 67 = .ok (.ifCond .eq 20, 3) := by decide +kernel
theorem dX3_depend_70 : decode cX3_depend 70 = .ok (.iload_n 2, 1) := by decide +kernel
theorem dX3_depend_71 : decode cX3_depend 71 = .ok (.ifCond .lt 16, 3) := by decide +kernel
theorem dX3_depend_74 : decode cX3_depend 74 = .ok (.aload_n 0, 1) := by decide +kernel
theorem dX3_depend_75 : decode cX3_depend 75 = .ok (.getfield 13, 3) := by decide +kernel
theorem dX3_depend_78 : decode cX3_depend 78 = .ok (.iload_n 2, 1) := by decide +kernel
theorem dX3_depend_79 : decode cX3_depend 79 = .ok (.baload, 1) := by decide +kernel
theorem dX3_depend_80 : decode cX3_depend 80 = .ok (.ifCond .ne 7, 3) := by decide +kernel
theorem dX3_depend_83 : decode cX3_depend 83 = .ok (.iconst 1, 1) := by decide +kernel
theorem dX3_depend_84 : decode cX3_depend 84 = .ok (.goto 4, 3) := by decide +kernel
theorem dX3_depend_87 : decode cX3_depend 87 = .ok (.iconst 0, 1) := by decide +kernel
theorem dX3_depend_88 : decode cX3_depend 88 = .ok (.istore 7, 2) := by decide +kernel
theorem dX3_depend_90 : decode cX3_depend 90 = .ok (.aload_n 0, 1) := by decide +kernel
theorem dX3_depend_91 : decode cX3_depend 91 = .ok (.iload 6, 2) := by decide +kernel
theorem dX3_depend_93 : decode cX3_depend 93 = .ok (.ifCond .ne 7, 3) := by decide +kernel
theorem dX3_depend_96 : decode cX3_depend 96 = .ok (.iconst 1, 1) := by decide +kernel
theorem dX3_depend_97 : decode cX3_depend 97 = .ok (.goto 24, 3) := by decide +kernel
theorem dX3_depend_100 : decode cX3_depend 100 = .ok (.aload_n 0, 1) := by decide +kernel
theorem dX3_depend_101 : decode cX3_depend 101 = .ok (.getfield 26, 3) := by decide +kernel
theorem dX3_depend_104 : decode cX3_depend 104 = .ok (.iload_n 1, 1) := by decide +kernel
theorem dX3_depend_105 : decode cX3_depend 105 = .ok (.iaload, 1) := by decide +kernel
theorem dX3_depend_106 : decode cX3_depend 106 = .ok (.bipush 6, 2) := by decide +kernel
theorem dX3_depend_108 : decode cX3_depend 108 = .ok (.if_icmp .ge 8, 3) := by decide +kernel
theorem dX3_depend_111 : decode cX3_depend 111 = .ok (.iload 7, 2) := by decide +kernel
theorem dX3_depend_113 : decode cX3_depend 113 = .ok (.ifCond .eq 7, 3) := by decide +kernel
theorem dX3_depend_116 : decode cX3_depend 116 = .ok (.iconst 2, 1) := by decide +kernel
theorem dX3_depend_117 : decode cX3_depend 117 = .ok (.goto 4, 3) := by decide +kernel
theorem dX3_depend_120 : decode cX3_depend 120 = .ok (.iconst 0, 1) := by decide +kernel
theorem dX3_depend_121 : decode cX3_depend 121 = .ok (.invokevirtual 71, 3) := by decide +kernel
theorem dX3_depend_124 : decode cX3_depend 124 = .ok (.ifCond .eq 5, 3) := by decide +kernel
theorem dX3_depend_127 : decode cX3_depend 127 = .ok (.iconst 0, 1) := by decide +kernel
theorem dX3_depend_128 : decode cX3_depend 128 = .ok (.ireturn, 1) := by decide +kernel
theorem dX3_depend_129 : decode cX3_depend 129 = .ok (.bipush 6, 2) := by decide +kernel
theorem dX3_depend_131 : decode cX3_depend 131 = .ok (.iload_n 1, 1) := by decide +kernel
theorem dX3_depend_132 : decode cX3_depend 132 = .ok (.imul, 1) := by decide +kernel
theorem dX3_depend_133 : decode cX3_depend 133 = .ok (.aload_n 0, 1) := by decide +kernel
theorem dX3_depend_134 : decode cX3_depend 134 = .ok (.getfield 26, 3) := by decide +kernel
theorem dX3_depend_137 : decode cX3_depend 137 = .ok (.iload_n 1, 1) := by decide +kernel
theorem dX3_depend_138 : decode cX3_depend 138 = .ok (.iaload, 1) := by decide +kernel
theorem dX3_depend_139 : decode cX3_depend 139 = .ok (.iadd, 1) := by decide +kernel
theorem dX3_depend_140 : decode cX3_depend 140 = .ok (.istore 8, 2) := by decide +kernel
theorem dX3_depend_142 : decode cX3_depend 142 = .ok (.aload_n 0, 1) := by decide +kernel
theorem dX3_depend_143 : decode cX3_depend 143 = .ok (.getfield 29, 3) := by decide +kernel
theorem dX3_depend_146 : decode cX3_depend 146 = .ok (.iload 8, 2) := by decide +kernel
theorem dX3_depend_148 : decode cX3_depend 148 = .ok (.iload_n 2, 1) := by decide +kernel
theorem dX3_depend_149 : decode cX3_depend 149 = .ok (.ifCond .ge 7, 3) := by decide +kernel
theorem dX3_depend_152 : decode cX3_depend 152 = .ok (.iload_n 1, 1) := by decide +kernel
theorem dX3_depend_153 : decode cX3_depend 153 = .ok (.goto 4, 3) := by decide +kernel
theorem dX3_depend_156 : decode cX3_depend 156 = .ok (.iload_n 2, 1) := by decide +kernel
theorem dX3_depend_157 : decode cX3_depend 157 = .ok (.iastore, 1) := by decide +kernel
theorem dX3_depend_158 : decode cX3_depend 158 = .ok (.aload_n 0, 1) := by decide +kernel
theorem dX3_depend_159 : decode cX3_depend 159 = .ok (.getfield 32, 3) := by decide +kernel
theorem dX3_depend_162 : decode cX3_depend 162 = .ok (.iload 8, 2) := by decide +kernel
theorem dX3_depend_164 : decode cX3_depend 164 = .ok (.iload_n 3, 1) := by decide +kernel
theorem dX3_depend_165 : decode cX3_depend 165 = .ok (.iastore, 1) := by decide +kernel
theorem dX3_depend_166 : decode cX3_depend 166 = .ok (.aload_n 0, 1) := by decide +kernel
theorem dX3_depend_167 : decode cX3_depend 167 = .ok (.getfield 35, 3) := by decide +kernel
theorem dX3_depend_170 : decode cX3_depend 170 = .ok (.iload 8, 2) := by decide +kernel
theorem dX3_depend_172 : decode cX3_depend 172 = .ok (.iload 4, 2) := by decide +kernel
theorem dX3_depend_174 : decode cX3_depend 174 = .ok (.iastore, 1) := by decide +kernel
theorem dX3_depend_175 : decode cX3_depend 175 = .ok (.aload_n 0, 1) := by decide +kernel
theorem dX3_depend_176 : decode cX3_depend 176 = .ok (.getfield 38, 3) := by decide +kernel
theorem dX3_depend_179 : decode cX3_depend 179 = .ok (.iload 8, 2) := by decide +kernel
theorem dX3_depend_181 : decode cX3_depend 181 = .ok (.iload 5, 2) := by decide +kernel
theorem dX3_depend_183 : decode cX3_depend 183 = .ok (.bastore, 1) := by decide +kernel
theorem dX3_depend_184 : decode cX3_depend 184 = .ok (.aload_n 0, 1) := by decide +kernel
theorem dX3_depend_185 : decode cX3_depend 185 = .ok (.getfield 26, 3) := by decide +kernel
theorem dX3_depend_188 : decode cX3_depend 188 = .ok (.iload_n 1, 1) := by decide +kernel
theorem dX3_depend_189 : decode cX3_depend 189 = .ok (.aload_n 0, 1) := by decide +kernel
theorem dX3_depend_190 : decode cX3_depend 190 = .ok (.getfield 26, 3) := by decide +kernel
theorem dX3_depend_193 : decode cX3_depend 193 = .ok (.iload_n 1, 1) := by decide +kernel
theorem dX3_depend_194 : decode cX3_depend 194 = .ok (.iaload, 1) := by decide +kernel
theorem dX3_depend_195 : decode cX3_depend 195 = .ok (.iconst 1, 1) := by decide +kernel
theorem dX3_depend_196 : decode cX3_depend 196 = .ok (.iadd, 1) := by decide +kernel
theorem dX3_depend_197 : decode cX3_depend 197 = .ok (.iastore, 1) := by decide +kernel
theorem dX3_depend_198 : decode cX3_depend 198 = .ok (.aload_n 0, 1) := by decide +kernel
theorem dX3_depend_199 : decode cX3_depend 199 = .ok (.getfield 26, 3) := by decide +kernel
theorem dX3_depend_202 : decode cX3_depend 202 = .ok (.iload_n 1, 1) := by decide +kernel
theorem dX3_depend_203 : decode cX3_depend 203 = .ok (.iaload, 1) := by decide +kernel
theorem dX3_depend_204 : decode cX3_depend 204 = .ok (.ireturn, 1) := by decide +kernel
set_option maxRecDepth 20000 in
theorem ggX3_relink_X3_isPresent : GoodIn wsX3_relink wsX3_isPresent := goodIn_r _ [6, 7, 8, 9, 5, 10, 11, 12, 13, 19, 20, 21, 22, 23, 24, 25, 26, 27, 28, 29, 30, 31, 32, 33, 34, 35, 36, 37] (by decide +kernel) (by decide +kernel)
set_option maxRecDepth 20000 in
theorem gX3_relink_X3_isPresent : GoodIn wsX3_relink (wsV RX3 74 RX3 yX3_isPresent wsX3_isPresent) := goodIn_app (goodIn_of _ (by decide +kernel)) ggX3_relink_X3_isPresent
set_option maxRecDepth 20000 in
theorem ggX3_relink_X3_throwsBy : GoodIn wsX3_relink wsX3_throwsBy := goodIn_r _ [17, 18, 19, 20, 21, 22, 23, 24, 25, 26, 27, 28, 29, 30, 31, 32, 33, 34, 35, 36, 37] (by decide +kernel) (by decide +kernel)
set_option maxRecDepth 20000 in
theorem gX3_relink_X3_throwsBy : GoodIn wsX3_relink (wsV RX3 71 RX3 yX3_throwsBy wsX3_throwsBy) := goodIn_app (goodIn_of _ (by decide +kernel)) ggX3_relink_X3_throwsBy
theorem dX3_relink_0 : decode cX3_relink 0 = .ok (.aload_n 0, 1) := by decide +kernel
theorem dX3_relink_1 : decode cX3_relink 1 = .ok (.aload_n 0, 1) := by decide +kernel
theorem dX3_relink_2 : decode cX3_relink 2 = .ok (.iload_n 1, 1) := by decide +kernel
theorem dX3_relink_3 : decode cX3_relink 3 = .ok (.invokevirtual 74, 3) := by decide +kernel
theorem dX3_relink_6 : decode cX3_relink 6 = .ok (.ifCond .eq 7, 3) := by decide +kernel
theorem dX3_relink_9 : decode cX3_relink 9 = .ok (.iconst 0, 1) := by decide +kernel
theorem dX3_relink_10 : decode cX3_relink 10 = .ok (.goto 4, 3) := by decide +kernel
theorem dX3_relink_13 : decode cX3_relink 13 = .ok (.iconst 1, 1) := by decide +kernel
theorem dX3_relink_14 : decode cX3_relink 14 = .ok (.invokevirtual 71, 3) := by decide +kernel
theorem dX3_relink_17 : decode cX3_relink 17 = .ok (.ifCond .eq 5, 3) := by decide +kernel
theorem dX3_relink_20 : decode cX3_relink 20 = .ok (.iconst 0, 1) := by decide +kernel
theorem dX3_relink_21 : decode cX3_relink 21 = .ok (.ireturn, 1) := by decide +kernel
theorem dX3_relink_22 : decode cX3_relink 22 = .ok (.aload_n 0, 1) := by decide +kernel
theorem dX3_relink_23 : decode cX3_relink 23 = .ok (.getfield 26, 3) := by decide +kernel
theorem dX3_relink_26 : decode cX3_relink 26 = .ok (.iload_n 1, 1) := by decide +kernel
theorem dX3_relink_27 : decode cX3_relink 27 = .ok (.iaload, 1) := by decide +kernel
theorem dX3_relink_28 : decode cX3_relink 28 = .ok (.istore_n 2, 1) := by decide +kernel
theorem dX3_relink_29 : decode cX3_relink 29 = .ok (.aload_n 0, 1) := by decide +kernel
theorem dX3_relink_30 : decode cX3_relink 30 = .ok (.getfield 26, 3) := by decide +kernel
theorem dX3_relink_33 : decode cX3_relink 33 = .ok (.iload_n 1, 1) := by decide +kernel
theorem dX3_relink_34 : decode cX3_relink 34 = .ok (.iconst 0, 1) := by decide +kernel
theorem dX3_relink_35 : decode cX3_relink 35 = .ok (.iastore, 1) := by decide +kernel
theorem dX3_relink_36 : decode cX3_relink 36 = .ok (.iload_n 2, 1) := by decide +kernel
theorem dX3_relink_37 : decode cX3_relink 37 = .ok (.ireturn, 1) := by decide +kernel
theorem dX3_judge_0 : decode cX3_judge 0 = .ok (.iconst 0, 1) := by decide +kernel
theorem dX3_judge_1 : decode cX3_judge 1 = .ok (.istore_n 1, 1) := by decide +kernel
theorem dX3_judge_2 : decode cX3_judge 2 = .ok (.iload_n 1, 1) := by decide +kernel
theorem dX3_judge_3 : decode cX3_judge 3 = .ok (.bipush 8, 2) := by decide +kernel
theorem dX3_judge_5 : decode cX3_judge 5 = .ok (.if_icmp .ge 21, 3) := by decide +kernel
theorem dX3_judge_8 : decode cX3_judge 8 = .ok (.aload_n 0, 1) := by decide +kernel
theorem dX3_judge_9 : decode cX3_judge 9 = .ok (.getfield 16, 3) := by decide +kernel
theorem dX3_judge_12 : decode cX3_judge 12 = .ok (.iload_n 1, 1) := by decide +kernel
theorem dX3_judge_13 : decode cX3_judge 13 = .ok (.aload_n 0, 1) := by decide +kernel
theorem dX3_judge_14 : decode cX3_judge 14 = .ok (.getfield 7, 3) := by decide +kernel
theorem dX3_judge_17 : decode cX3_judge 17 = .ok (.iload_n 1, 1) := by decide +kernel
theorem dX3_judge_18 : decode cX3_judge 18 = .ok (.baload, 1) := by decide +kernel
theorem dX3_judge_19 : decode cX3_judge 19 = .ok (.bastore, 1) := by decide +kernel
theorem dX3_judge_20 : decode cX3_judge 20 = .ok (.iinc 1 1, 3) := by decide +kernel
theorem dX3_judge_23 : decode cX3_judge 23 = .ok (.goto (-21), 3) := by decide +kernel
theorem dX3_judge_26 : decode cX3_judge 26 = .ok (.iconst 0, 1) := by decide +kernel
theorem dX3_judge_27 : decode cX3_judge 27 = .ok (.istore_n 1, 1) := by decide +kernel
theorem dX3_judge_28 : decode cX3_judge 28 = .ok (.iload_n 1, 1) := by decide +kernel
theorem dX3_judge_29 : decode cX3_judge 29 = .ok (.bipush 8, 2) := by decide +kernel
theorem dX3_judge_31 : decode cX3_judge 31 = .ok (.if_icmp .ge 71, 3) := by decide +kernel
theorem dX3_judge_34 : decode cX3_judge 34 = .ok (.iconst 0, 1) := by decide +kernel
theorem dX3_judge_35 : decode cX3_judge 35 = .ok (.istore_n 2, 1) := by decide +kernel
theorem dX3_judge_36 : decode cX3_judge 36 = .ok (.iload_n 2, 1) := by decide +kernel
theorem dX3_judge_37 : decode cX3_judge 37 = .ok (.bipush 48, 2) := by decide +kernel
theorem dX3_judge_39 : decode cX3_judge 39 = .ok (.if_icmp .ge 57, 3) := by decide +kernel
theorem dX3_judge_42 : decode cX3_judge 42 = .ok (.iload_n 2, 1) := by decide +kernel
theorem dX3_judge_43 : decode cX3_judge 43 = .ok (.bipush 6, 2) := by decide +kernel
theorem dX3_judge_45 : decode cX3_judge 45 = .ok (.idiv, 1) := by decide +kernel
theorem dX3_judge_46 : decode cX3_judge 46 = .ok (.istore_n 3, 1) := by decide +kernel
theorem dX3_judge_47 : decode cX3_judge 47 = .ok (.iload_n 2, 1) := by decide +kernel
theorem dX3_judge_48 : decode cX3_judge 48 = .ok (.bipush 6, 2) := by decide +kernel
theorem dX3_judge_50 : decode cX3_judge 50 = .ok (.irem, 1) := by decide +kernel
theorem dX3_judge_51 : decode cX3_judge 51 = .ok (.aload_n 0, 1) := by decide +kernel
theorem dX3_judge_52 : decode cX3_judge 52 = .ok (.getfield 26, 3) := by decide +kernel
theorem dX3_judge_55 : decode cX3_judge 55 = .ok (.iload_n 3, 1) := by decide +kernel
theorem dX3_judge_56 : decode cX3_judge 56 = .ok (.iaload, 1) := by decide +kernel
theorem dX3_judge_57 : decode cX3_judge 57 = .ok (.if_icmp .ge 33, 3) := by decide +kernel
theorem dX3_judge_60 : decode cX3_judge 60 = .ok (.aload_n 0, 1) := by decide +kernel
theorem dX3_judge_61 : decode cX3_judge 61 = .ok (.getfield 38, 3) := by decide +kernel
theorem dX3_judge_64 : decode cX3_judge 64 = .ok (.iload_n 2, 1) := by decide +kernel
theorem dX3_judge_65 : decode cX3_judge 65 = .ok (.baload, 1) := by decide +kernel
theorem dX3_judge_66 : decode cX3_judge 66 = .ok (.ifCond .eq 24, 3) := by decide +kernel
theorem dX3_judge_69 : decode cX3_judge 69 = .ok (.aload_n 0, 1) := by decide +kernel
theorem dX3_judge_70 : decode cX3_judge 70 = .ok (.getfield 16, 3) := by decide +kernel
theorem dX3_judge_73 : decode cX3_judge 73 = .ok (.aload_n 0, 1) := by decide +kernel
theorem dX3_judge_74 : decode cX3_judge 74 = .ok (.getfield 29, 3) := by decide +kernel
theorem dX3_judge_77 : decode cX3_judge 77 = .ok (.iload_n 2, 1) := by decide +kernel
theorem dX3_judge_78 : decode cX3_judge 78 = .ok (.iaload, 1) := by decide +kernel
theorem dX3_judge_79 : decode cX3_judge 79 = .ok (.baload, 1) := by decide +kernel
theorem dX3_judge_80 : decode cX3_judge 80 = .ok (.ifCond .ne 10, 3) := by decide +kernel
theorem dX3_judge_83 : decode cX3_judge 83 = .ok (.aload_n 0, 1) := by decide +kernel
theorem dX3_judge_84 : decode cX3_judge 84 = .ok (.getfield 16, 3) := by decide +kernel
theorem dX3_judge_87 : decode cX3_judge 87 = .ok (.iload_n 3, 1) := by decide +kernel
theorem dX3_judge_88 : decode cX3_judge 88 = .ok (.iconst 0, 1) := by decide +kernel
theorem dX3_judge_89 : decode cX3_judge 89 = .ok (.bastore, 1) := by decide +kernel
theorem dX3_judge_90 : decode cX3_judge 90 = .ok (.iinc 2 1, 3) := by decide +kernel
theorem dX3_judge_93 : decode cX3_judge 93 = .ok (.goto (-57), 3) := by decide +kernel
theorem dX3_judge_96 : decode cX3_judge 96 = .ok (.iinc 1 1, 3) := by decide +kernel
theorem dX3_judge_99 : decode cX3_judge 99 = .ok (.goto (-71), 3) := by decide +kernel
theorem dX3_judge_102 : decode cX3_judge 102 = .ok (.return_, 1) := by decide +kernel
set_option maxRecDepth 20000 in
theorem ggX3_load_X3_judge : GoodIn wsX3_load wsX3_judge := goodIn_r _ [10, 1, 11, 3, 12, 4, 24, 25, 26, 27, 28, 29, 30, 31, 32, 33, 34, 35, 36, 37, 38, 39, 40, 41, 42] (by decide +kernel) (by decide +kernel)
set_option maxRecDepth 20000 in
theorem gX3_load_X3_judge : GoodIn wsX3_load (wsV RX3 77 RX3 yX3_judge wsX3_judge) := goodIn_app (goodIn_of _ (by decide +kernel)) ggX3_load_X3_judge
set_option maxRecDepth 20000 in
theorem ggX3_load_X3_isModule : GoodIn wsX3_load wsX3_isModule := goodIn_r _ [15, 16, 17, 9, 18] (by decide +kernel) (by decide +kernel)
set_option maxRecDepth 20000 in
theorem gX3_load_X3_isModule : GoodIn wsX3_load (va_wsS RX3 67 yX3_isModule wsX3_isModule) := goodIn_app (goodIn_of _ (by decide +kernel)) ggX3_load_X3_isModule
set_option maxRecDepth 20000 in
theorem ggX3_load_X3_throwsBy : GoodIn wsX3_load wsX3_throwsBy := goodIn_r _ [22, 23, 24, 25, 26, 27, 28, 29, 30, 31, 32, 33, 34, 35, 36, 37, 38, 39, 40, 41, 42] (by decide +kernel) (by decide +kernel)
set_option maxRecDepth 20000 in
theorem gX3_load_X3_throwsBy : GoodIn wsX3_load (wsV RX3 71 RX3 yX3_throwsBy wsX3_throwsBy) := goodIn_app (goodIn_of _ (by decide +kernel)) ggX3_load_X3_throwsBy
theorem dX3_load_0 : decode cX3_load 0 = .ok (.aload_n 0, 1) := by decide +kernel
theorem dX3_load_1 : decode cX3_load 1 = .ok (.invokevirtual 77, 3) := by decide +kernel
theorem dX3_load_4 : decode cX3_load 4 = .ok (.aload_n 0, 1) := by decide +kernel
theorem dX3_load_5 : decode cX3_load 5 = .ok (.iload_n 1, 1) := by decide +kernel
theorem dX3_load_6 : decode cX3_load 6 = .ok (.invokestatic 67, 3) := by decide +kernel
theorem dX3_load_9 : decode cX3_load 9 = .ok (.ifCond .ne 7, 3) := by decide +kernel
theorem dX3_load_12 : decode cX3_load 12 = .ok (.iconst 1, 1) := by decide +kernel
theorem dX3_load_13 : decode cX3_load 13 = .ok (.goto 17, 3) := by decide +kernel
theorem dX3_load_16 : decode cX3_load 16 = .ok (.aload_n 0, 1) := by decide +kernel
theorem dX3_load_17 : decode cX3_load 17 = .ok (.getfield 16, 3) := by decide +kernel
theorem dX3_load_20 : decode cX3_load 20 = .ok (.iload_n 1, 1) := by decide +kernel
theorem dX3_load_21 : decode cX3_load 21 = .ok (.baload, 1) := by decide +kernel
theorem dX3_load_22 : decode cX3_load 22 = .ok (.ifCond .ne 7, 3) := by decide +kernel
theorem dX3_load_25 : decode cX3_load 25 = .ok (.iconst 2, 1) := by decide +kernel
theorem dX3_load_26 : decode cX3_load 26 = .ok (.goto 4, 3) := by decide +kernel
theorem dX3_load_29 : decode cX3_load 29 = .ok (.iconst 0, 1) := by decide +kernel
theorem dX3_load_30 : decode cX3_load 30 = .ok (.invokevirtual 71, 3) := by decide +kernel
theorem dX3_load_33 : decode cX3_load 33 = .ok (.ifCond .eq 5, 3) := by decide +kernel
theorem dX3_load_36 : decode cX3_load 36 = .ok (.iconst 0, 1) := by decide +kernel
theorem dX3_load_37 : decode cX3_load 37 = .ok (.ireturn, 1) := by decide +kernel
theorem dX3_load_38 : decode cX3_load 38 = .ok (.iconst 0, 1) := by decide +kernel
theorem dX3_load_39 : decode cX3_load 39 = .ok (.istore_n 2, 1) := by decide +kernel
theorem dX3_load_40 : decode cX3_load 40 = .ok (.iload_n 2, 1) := by decide +kernel
theorem dX3_load_41 : decode cX3_load 41 = .ok (.bipush 8, 2) := by decide +kernel
theorem dX3_load_43 : decode cX3_load 43 = .ok (.if_icmp .ge 25, 3) := by decide +kernel
theorem dX3_load_46 : decode cX3_load 46 = .ok (.aload_n 0, 1) := by decide +kernel
theorem dX3_load_47 : decode cX3_load 47 = .ok (.getfield 47, 3) := by decide +kernel
theorem dX3_load_50 : decode cX3_load 50 = .ok (.iload_n 2, 1) := by decide +kernel
theorem dX3_load_51 : decode cX3_load 51 = .ok (.iload_n 2, 1) := by decide +kernel
theorem dX3_load_52 : decode cX3_load 52 = .ok (.iload_n 1, 1) := by decide +kernel
theorem dX3_load_53 : decode cX3_load 53 = .ok (.if_icmp .ne 7, 3) := by decide +kernel
theorem dX3_load_56 : decode cX3_load 56 = .ok (.iconst 1, 1) := by decide +kernel
theorem dX3_load_57 : decode cX3_load 57 = .ok (.goto 4, 3) := by decide +kernel
theorem dX3_load_60 : decode cX3_load 60 = .ok (.iconst 0, 1) := by decide +kernel
theorem dX3_load_61 : decode cX3_load 61 = .ok (.bastore, 1) := by decide +kernel
theorem dX3_load_62 : decode cX3_load 62 = .ok (.iinc 2 1, 3) := by decide +kernel
theorem dX3_load_65 : decode cX3_load 65 = .ok (.goto (-25), 3) := by decide +kernel
theorem dX3_load_68 : decode cX3_load 68 = .ok (.iconst 0, 1) := by decide +kernel
theorem dX3_load_69 : decode cX3_load 69 = .ok (.istore_n 2, 1) := by decide +kernel
theorem dX3_load_70 : decode cX3_load 70 = .ok (.iload_n 2, 1) := by decide +kernel
theorem dX3_load_71 : decode cX3_load 71 = .ok (.bipush 8, 2) := by decide +kernel
theorem dX3_load_73 : decode cX3_load 73 = .ok (.if_icmp .ge 77, 3) := by decide +kernel
theorem dX3_load_76 : decode cX3_load 76 = .ok (.iconst 0, 1) := by decide +kernel
theorem dX3_load_77 : decode cX3_load 77 = .ok (.istore_n 3, 1) := by decide +kernel
theorem dX3_load_78 : decode cX3_load 78 = .ok (.iload_n 3, 1) := by decide +kernel
theorem dX3_load_79 : decode cX3_load 79 = .ok (.bipush 48, 2) := by decide +kernel
theorem dX3_load_81 : decode cX3_load 81 = .ok (.if_icmp .ge 63, 3) := by decide +kernel
theorem dX3_load_84 : decode cX3_load 84 = .ok (.aload_n 0, 1) := by decide +kernel
theorem dX3_load_85 : decode cX3_load 85 = .ok (.getfield 47, 3) := by decide +kernel
theorem dX3_load_88 : decode cX3_load 88 = .ok (.iload_n 3, 1) := by decide +kernel
theorem dX3_load_89 : decode cX3_load 89 = .ok (.bipush 6, 2) := by decide +kernel
theorem dX3_load_91 : decode cX3_load 91 = .ok (.idiv, 1) := by decide +kernel
theorem dX3_load_92 : decode cX3_load 92 = .ok (.baload, 1) := by decide +kernel
theorem dX3_load_93 : decode cX3_load 93 = .ok (.ifCond .eq 45, 3) := by decide +kernel
theorem dX3_load_96 : decode cX3_load 96 = .ok (.iload_n 3, 1) := by decide +kernel
theorem dX3_load_97 : decode cX3_load 97 = .ok (.bipush 6, 2) := by decide +kernel
theorem dX3_load_99 : decode cX3_load 99 = .ok (.irem, 1) := by decide +kernel
theorem dX3_load_100 : decode cX3_load 100 = .ok (.aload_n 0, 1) := by decide +kernel
theorem dX3_load_101 : decode cX3_load 101 = .ok (.getfield 26, 3) := by decide +kernel
theorem dX3_load_104 : decode cX3_load 104 = .ok (.iload_n 3, 1) := by decide +kernel
theorem dX3_load_105 : decode cX3_load 105 = .ok (.bipush 6, 2) := by decide +kernel
theorem dX3_load_107 : decode cX3_load 107 = .ok (.idiv, 1) := by decide +kernel
theorem dX3_load_108 : decode cX3_load 108 = .ok (.iaload, 1) := by decide +kernel
theorem dX3_load_109 : decode cX3_load 109 = .ok (.if_icmp .ge 29, 3) := by decide +kernel
theorem dX3_load_112 : decode cX3_load 112 = .ok (.aload_n 0, 1) := by decide +kernel
theorem dX3_load_113 : decode cX3_load 113 = .ok (.getfield 16, 3) := by decide +kernel
theorem dX3_load_116 : decode cX3_load 116 = .ok (.aload_n 0, 1) := by decide +kernel
theorem dX3_load_117 : decode cX3_load 117 = .ok (.getfield 29, 3) := by decide +kernel
theorem dX3_load_120 : decode cX3_load 120 = .ok (.iload_n 3, 1) := by decide +kernel
theorem dX3_load_121 : decode cX3_load 121 = .ok (.iaload, 1) := by decide +kernel
theorem dX3_load_122 : decode cX3_load 122 = .ok (.baload, 1) := by decide +kernel
theorem dX3_load_123 : decode cX3_load 123 = .ok (.ifCond .eq 15, 3) := by decide +kernel
theorem dX3_load_126 : decode cX3_load 126 = .ok (.aload_n 0, 1) := by decide +kernel
theorem dX3_load_127 : decode cX3_load 127 = .ok (.getfield 47, 3) := by decide +kernel
theorem dX3_load_130 : decode cX3_load 130 = .ok (.aload_n 0, 1) := by decide +kernel
theorem dX3_load_131 : decode cX3_load 131 = .ok (.getfield 29, 3) := by decide +kernel
theorem dX3_load_134 : decode cX3_load 134 = .ok (.iload_n 3, 1) := by decide +kernel
theorem dX3_load_135 : decode cX3_load 135 = .ok (.iaload, 1) := by decide +kernel
theorem dX3_load_136 : decode cX3_load 136 = .ok (.iconst 1, 1) := by decide +kernel
theorem dX3_load_137 : decode cX3_load 137 = .ok (.bastore, 1) := by decide +kernel
theorem dX3_load_138 : decode cX3_load 138 = .ok (.iinc 3 1, 3) := by decide +kernel
theorem dX3_load_141 : decode cX3_load 141 = .ok (.goto (-63), 3) := by decide +kernel
theorem dX3_load_144 : decode cX3_load 144 = .ok (.iinc 2 1, 3) := by decide +kernel
theorem dX3_load_147 : decode cX3_load 147 = .ok (.goto (-77), 3) := by decide +kernel
theorem dX3_load_150 : decode cX3_load 150 = .ok (.iconst 0, 1) := by decide +kernel
theorem dX3_load_151 : decode cX3_load 151 = .ok (.istore_n 2, 1) := by decide +kernel
theorem dX3_load_152 : decode cX3_load 152 = .ok (.iconst 0, 1) := by decide +kernel
theorem dX3_load_153 : decode cX3_load 153 = .ok (.istore_n 3, 1) := by decide +kernel
theorem dX3_load_154 : decode cX3_load 154 = .ok (.iload_n 3, 1) := by decide +kernel
theorem dX3_load_155 : decode cX3_load 155 = .ok (.bipush 8, 2) := by decide +kernel
theorem dX3_load_157 : decode cX3_load 157 = .ok (.if_icmp .ge 64, 3) := by decide +kernel
theorem dX3_load_160 : decode cX3_load 160 = .ok (.aload_n 0, 1) := by decide +kernel
theorem dX3_load_161 : decode cX3_load 161 = .ok (.getfield 47, 3) := by decide +kernel
theorem dX3_load_164 : decode cX3_load 164 = .ok (.iload_n 3, 1) := by decide +kernel
theorem dX3_load_165 : decode cX3_load 165 = .ok (.baload, 1) := by decide +kernel
theorem dX3_load_166 : decode cX3_load 166 = .ok (.ifCond .eq 18, 3) := by decide +kernel
theorem dX3_load_169 : decode cX3_load 169 = .ok (.aload_n 0, 1) := by decide +kernel
theorem dX3_load_170 : decode cX3_load 170 = .ok (.getfield 13, 3) := by decide +kernel
theorem dX3_load_173 : decode cX3_load 173 = .ok (.iload_n 3, 1) := by decide +kernel
theorem dX3_load_174 : decode cX3_load 174 = .ok (.baload, 1) := by decide +kernel
theorem dX3_load_175 : decode cX3_load 175 = .ok (.ifCond .ne 9, 3) := by decide +kernel
theorem dX3_load_178 : decode cX3_load 178 = .ok (.iload_n 2, 1) := by decide +kernel
theorem dX3_load_179 : decode cX3_load 179 = .ok (.iconst 1, 1) := by decide +kernel
theorem dX3_load_180 : decode cX3_load 180 = .ok (.iadd, 1) := by decide +kernel
theorem dX3_load_181 : decode cX3_load 181 = .ok (.goto 4, 3) := by decide +kernel
theorem dX3_load_184 : decode cX3_load 184 = .ok (.iload_n 2, 1) := by decide +kernel
theorem dX3_load_185 : decode cX3_load 185 = .ok (.istore_n 2, 1) := by decide +kernel
theorem dX3_load_186 : decode cX3_load 186 = .ok (.aload_n 0, 1) := by decide +kernel
theorem dX3_load_187 : decode cX3_load 187 = .ok (.getfield 13, 3) := by decide +kernel
theorem dX3_load_190 : decode cX3_load 190 = .ok (.iload_n 3, 1) := by decide +kernel
theorem dX3_load_191 : decode cX3_load 191 = .ok (.aload_n 0, 1) := by decide +kernel
theorem dX3_load_192 : decode cX3_load 192 = .ok (.getfield 13, 3) := by decide +kernel
theorem dX3_load_195 : decode cX3_load 195 = .ok (.iload_n 3, 1) := by decide +kernel
theorem dX3_load_196 : decode cX3_load 196 = .ok (.baload, 1) := by decide +kernel
theorem dX3_load_197 : decode cX3_load 197 = .ok (.ifCond .ne 12, 3) := by decide +kernel
theorem dX3_load_200 : decode cX3_load 200 = .ok (.aload_n 0, 1) := by decide +kernel
theorem dX3_load_201 : decode cX3_load 201 = .ok (.getfield 47, 3) := by decide +kernel
theorem dX3_load_204 : decode cX3_load 204 = .ok (.iload_n 3, 1) := by decide +kernel
theorem dX3_load_205 : decode cX3_load 205 = .ok (.baload, 1) := by decide +kernel
theorem dX3_load_206 : decode cX3_load 206 = .ok (.ifCond .eq 7, 3) := by decide +kernel
theorem dX3_load_209 : decode cX3_load 209 = .ok (.iconst 1, 1) := by decide +kernel
theorem dX3_load_210 : decode cX3_load 210 = .ok (.goto 4, 3) := by decide +kernel
theorem dX3_load_213 : decode cX3_load 213 = .ok (.iconst 0, 1) := by decide +kernel
theorem dX3_load_214 : decode cX3_load 214 = .ok (.bastore, 1) := by decide +kernel
theorem dX3_load_215 : decode cX3_load 215 = .ok (.iinc 3 1, 3) := by decide +kernel
theorem dX3_load_218 : decode cX3_load 218 = .ok (.goto (-64), 3) := by decide +kernel
theorem dX3_load_221 : decode cX3_load 221 = .ok (.iload_n 2, 1) := by decide +kernel
theorem dX3_load_222 : decode cX3_load 222 = .ok (.ireturn, 1) := by decide +kernel
theorem dX3_isNeeded_0 : decode cX3_isNeeded 0 = .ok (.iconst 0, 1) := by decide +kernel
theorem dX3_isNeeded_1 : decode cX3_isNeeded 1 = .ok (.istore_n 2, 1) := by decide +kernel
theorem dX3_isNeeded_2 : decode cX3_isNeeded 2 = .ok (.iconst 0, 1) := by decide +kernel
theorem dX3_isNeeded_3 : decode cX3_isNeeded 3 = .ok (.istore_n 3, 1) := by decide +kernel
theorem dX3_isNeeded_4 : decode cX3_isNeeded 4 = .ok (.iload_n 3, 1) := by decide +kernel
theorem dX3_isNeeded_5 : decode cX3_isNeeded 5 = .ok (.bipush 48, 2) := by decide +kernel
theorem dX3_isNeeded_7 : decode cX3_isNeeded 7 = .ok (.if_icmp .ge 74, 3) := by decide +kernel
theorem dX3_isNeeded_10 : decode cX3_isNeeded 10 = .ok (.iload_n 3, 1) := by decide +kernel
theorem dX3_isNeeded_11 : decode cX3_isNeeded 11 = .ok (.bipush 6, 2) := by decide +kernel
theorem dX3_isNeeded_13 : decode cX3_isNeeded 13 = .ok (.idiv, 1) := by decide +kernel
theorem dX3_isNeeded_14 : decode cX3_isNeeded 14 = .ok (.istore 4, 2) := by decide +kernel
theorem dX3_isNeeded_16 : decode cX3_isNeeded 16 = .ok (.iload_n 2, 1) := by decide +kernel
theorem dX3_isNeeded_17 : decode cX3_isNeeded 17 = .ok (.ifCond .ne 52, 3) := by decide +kernel
theorem dX3_isNeeded_20 : decode cX3_isNeeded 20 = .ok (.iload 4, 2) := by decide +kernel
theorem dX3_isNeeded_22 : decode cX3_isNeeded 22 = .ok (.iload_n 1, 1) := by decide +kernel
theorem dX3_isNeeded_23 : decode cX3_isNeeded 23 = .ok (.if_icmp .eq 50, 3) := by decide +kernel
theorem dX3_isNeeded_26 : decode cX3_isNeeded 26 = .ok (.aload_n 0, 1) := by decide +kernel
theorem dX3_isNeeded_27 : decode cX3_isNeeded 27 = .ok (.getfield 13, 3) := by decide +kernel
theorem dX3_isNeeded_30 : decode cX3_isNeeded 30 = .ok (.iload 4, 2) := by decide +kernel
theorem dX3_isNeeded_32 : decode cX3_isNeeded 32 = .ok (.baload, 1) := by decide +kernel
theorem dX3_isNeeded_33 : decode cX3_isNeeded 33 = .ok (.ifCond .eq 40, 3) := by decide +kernel
theorem dX3_isNeeded_36 : decode cX3_isNeeded 36 = .ok (.iload_n 3, 1) := by decide +kernel
theorem dX3_isNeeded_37 : decode cX3_isNeeded 37 = .ok (.bipush 6, 2) := by decide +kernel
theorem dX3_isNeeded_39 : decode cX3_isNeeded 39 = .ok (.irem, 1) := by decide +kernel
theorem dX3_isNeeded_40 : decode cX3_isNeeded 40 = .ok (.aload_n 0, 1) := by decide +kernel
theorem dX3_isNeeded_41 : decode cX3_isNeeded 41 = .ok (.getfield 26, 3) := by decide +kernel
theorem dX3_isNeeded_44 : decode cX3_isNeeded 44 = .ok (.iload 4, 2) := by decide +kernel
theorem dX3_isNeeded_46 : decode cX3_isNeeded 46 = .ok (.iaload, 1) := by decide +kernel
theorem dX3_isNeeded_47 : decode cX3_isNeeded 47 = .ok (.if_icmp .ge 26, 3) := by decide +kernel
theorem dX3_isNeeded_50 : decode cX3_isNeeded 50 = .ok (.aload_n 0, 1) := by decide +kernel
theorem dX3_isNeeded_51 : decode cX3_isNeeded 51 = .ok (.getfield 38, 3) := by decide +kernel
theorem dX3_isNeeded_54 : decode cX3_isNeeded 54 = .ok (.iload_n 3, 1) := by decide +kernel
theorem dX3_isNeeded_55 : decode cX3_isNeeded 55 = .ok (.baload, 1) := by decide +kernel
theorem dX3_isNeeded_56 : decode cX3_isNeeded 56 = .ok (.ifCond .eq 17, 3) := by decide +kernel
theorem dX3_isNeeded_59 : decode cX3_isNeeded 59 = .ok (.aload_n 0, 1) := by decide +kernel
theorem dX3_isNeeded_60 : decode cX3_isNeeded 60 = .ok (.getfield 29, 3) := by decide +kernel
theorem dX3_isNeeded_63 : decode cX3_isNeeded 63 = .ok (.iload_n 3, 1) := by decide +kernel
theorem dX3_isNeeded_64 : decode cX3_isNeeded 64 = .ok (.iaload, 1) := by decide +kernel
theorem dX3_isNeeded_65 : decode cX3_isNeeded 65 = .ok (.iload_n 1, 1) := by decide +kernel
theorem dX3_isNeeded_66 : decode cX3_isNeeded 66 = .ok (.if_icmp .ne 7, 3) := by decide +kernel
theorem dX3_isNeeded_69 : decode cX3_isNeeded 69 = .ok (.iconst 1, 1) := by decide +kernel
theorem dX3_isNeeded_70 : decode cX3_isNeeded 70 = .ok (.goto 4, 3) := by decide +kernel
theorem dX3_isNeeded_73 : decode cX3_isNeeded 73 = .ok (.iconst 0, 1) := by decide +kernel
theorem dX3_isNeeded_74 : decode cX3_isNeeded 74 = .ok (.istore_n 2, 1) := by decide +kernel
theorem dX3_isNeeded_75 : decode cX3_isNeeded 75 = .ok (.iinc 3 1, 3) := by decide +kernel
theorem dX3_isNeeded_78 : decode cX3_isNeeded 78 = .ok (.goto (-74), 3) := by decide +kernel
theorem dX3_isNeeded_81 : decode cX3_isNeeded 81 = .ok (.iconst 0, 1) := by decide +kernel
theorem dX3_isNeeded_82 : decode cX3_isNeeded 82 = .ok (.istore_n 3, 1) := by decide +kernel
theorem dX3_isNeeded_83 : decode cX3_isNeeded 83 = .ok (.iload_n 3, 1) := by decide +kernel
theorem dX3_isNeeded_84 : decode cX3_isNeeded 84 = .ok (.sipush 192, 3) := by decide +kernel
theorem dX3_isNeeded_87 : decode cX3_isNeeded 87 = .ok (.if_icmp .ge 37, 3) := by decide +kernel
theorem dX3_isNeeded_90 : decode cX3_isNeeded 90 = .ok (.iload_n 2, 1) := by decide +kernel
theorem dX3_isNeeded_91 : decode cX3_isNeeded 91 = .ok (.ifCond .ne 21, 3) := by decide +kernel
theorem dX3_isNeeded_94 : decode cX3_isNeeded 94 = .ok (.iload_n 3, 1) := by decide +kernel
theorem dX3_isNeeded_95 : decode cX3_isNeeded 95 = .ok (.bipush 24, 2) := by decide +kernel
theorem dX3_isNeeded_97 : decode cX3_isNeeded 97 = .ok (.idiv, 1) := by decide +kernel
theorem dX3_isNeeded_98 : decode cX3_isNeeded 98 = .ok (.iload_n 1, 1) := by decide +kernel
theorem dX3_isNeeded_99 : decode cX3_isNeeded 99 = .ok (.if_icmp .eq 17, 3) := by decide +kernel
theorem dX3_isNeeded_102 : decode cX3_isNeeded 102 = .ok (.aload_n 0, 1) := by decide +kernel
theorem dX3_isNeeded_103 : decode cX3_isNeeded 103 = .ok (.getfield 23, 3) := by decide +kernel
theorem dX3_isNeeded_106 : decode cX3_isNeeded 106 = .ok (.iload_n 3, 1) := by decide +kernel
theorem dX3_isNeeded_107 : decode cX3_isNeeded 107 = .ok (.iaload, 1) := by decide +kernel
theorem dX3_isNeeded_108 : decode cX3_isNeeded 108 = .ok (.iload_n 1, 1) := by decide +kernel
theorem dX3_isNeeded_109 : decode cX3_isNeeded 109 = .ok (.if_icmp .ne 7, 3) := by decide +kernel
theorem dX3_isNeeded_112 : decode cX3_isNeeded 112 = .ok (.iconst 1, 1) := by decide +kernel
theorem dX3_isNeeded_113 : decode cX3_isNeeded 113 = .ok (.goto 4, 3) := by decide +kernel
theorem dX3_isNeeded_116 : decode cX3_isNeeded 116 = .ok (.iconst 0, 1) := by decide +kernel
theorem dX3_isNeeded_117 : decode cX3_isNeeded 117 = .ok (.istore_n 2, 1) := by decide +kernel
theorem dX3_isNeeded_118 : decode cX3_isNeeded 118 = .ok (.iinc 3 1, 3) := by decide +kernel
theorem dX3_isNeeded_121 : decode cX3_isNeeded 121 = .ok (.goto (-38), 3) := by decide +kernel
theorem dX3_isNeeded_124 : decode cX3_isNeeded 124 = .ok (.iload_n 2, 1) := by decide +kernel
theorem dX3_isNeeded_125 : decode cX3_isNeeded 125 = .ok (.ireturn, 1) := by decide +kernel
set_option maxRecDepth 20000 in
theorem ggX3_unload_X3_isLoaded : GoodIn wsX3_unload wsX3_isLoaded := goodIn_r _ [8, 3, 9, 10, 7, 11, 12, 13, 14, 27, 28, 29, 30, 31, 32, 33, 34, 35, 36, 37, 38, 39, 40, 41, 42, 43, 44, 45] (by decide +kernel) (by decide +kernel)
set_option maxRecDepth 20000 in
theorem gX3_unload_X3_isLoaded : GoodIn wsX3_unload (wsV RX3 80 RX3 yX3_isLoaded wsX3_isLoaded) := goodIn_app (goodIn_of _ (by decide +kernel)) ggX3_unload_X3_isLoaded
set_option maxRecDepth 20000 in
theorem ggX3_unload_X3_isNeeded : GoodIn wsX3_unload wsX3_isNeeded := goodIn_r _ [18, 3, 19, 20, 21, 1, 27, 28, 29, 30, 31, 32, 33, 34, 35, 36, 37, 38, 39, 40, 41, 42, 43, 44, 45] (by decide +kernel) (by decide +kernel)
set_option maxRecDepth 20000 in
theorem gX3_unload_X3_isNeeded : GoodIn wsX3_unload (wsV RX3 83 RX3 yX3_isNeeded wsX3_isNeeded) := goodIn_app (goodIn_of _ (by decide +kernel)) ggX3_unload_X3_isNeeded
set_option maxRecDepth 20000 in
theorem ggX3_unload_X3_throwsBy : GoodIn wsX3_unload wsX3_throwsBy := goodIn_r _ [25, 26, 27, 28, 29, 30, 31, 32, 33, 34, 35, 36, 37, 38, 39, 40, 41, 42, 43, 44, 45] (by decide +kernel) (by decide +kernel)
set_option maxRecDepth 20000 in
theorem gX3_unload_X3_throwsBy : GoodIn wsX3_unload (wsV RX3 71 RX3 yX3_throwsBy wsX3_throwsBy) := goodIn_app (goodIn_of _ (by decide +kernel)) ggX3_unload_X3_throwsBy
theorem dX3_unload_0 : decode cX3_unload 0 = .ok (.aload_n 0, 1) := by decide +kernel
theorem dX3_unload_1 : decode cX3_unload 1 = .ok (.aload_n 0, 1) := by decide +kernel
theorem dX3_unload_2 : decode cX3_unload 2 = .ok (.iload_n 1, 1) := by decide +kernel
theorem dX3_unload_3 : decode cX3_unload 3 = .ok (.invokevirtual 80, 3) := by decide +kernel
theorem dX3_unload_6 : decode cX3_unload 6 = .ok (.ifCond .ne 7, 3) := by decide +kernel
theorem dX3_unload_9 : decode cX3_unload 9 = .ok (.iconst 1, 1) := by decide +kernel
theorem dX3_unload_10 : decode cX3_unload 10 = .ok (.goto 16, 3) := by decide +kernel
theorem dX3_unload_13 : decode cX3_unload 13 = .ok (.aload_n 0, 1) := by decide +kernel
theorem dX3_unload_14 : decode cX3_unload 14 = .ok (.iload_n 1, 1) := by decide +kernel
theorem dX3_unload_15 : decode cX3_unload 15 = .ok (.invokevirtual 83, 3) := by decide +kernel
theorem dX3_unload_18 : decode cX3_unload 18 = .ok (.ifCond .eq 7, 3) := by decide +kernel
theorem dX3_unload_21 : decode cX3_unload 21 = .ok (.iconst 2, 1) := by decide +kernel
theorem dX3_unload_22 : decode cX3_unload 22 = .ok (.goto 4, 3) := by decide +kernel
theorem dX3_unload_25 : decode cX3_unload 25 = .ok (.iconst 0, 1) := by decide +kernel
theorem dX3_unload_26 : decode cX3_unload 26 = .ok (.invokevirtual 71, 3) := by decide +kernel
theorem dX3_unload_29 : decode cX3_unload 29 = .ok (.ifCond .eq 5, 3) := by decide +kernel
theorem dX3_unload_32 : decode cX3_unload 32 = .ok (.iconst 0, 1) := by decide +kernel
theorem dX3_unload_33 : decode cX3_unload 33 = .ok (.ireturn, 1) := by decide +kernel
theorem dX3_unload_34 : decode cX3_unload 34 = .ok (.iconst 0, 1) := by decide +kernel
theorem dX3_unload_35 : decode cX3_unload 35 = .ok (.istore_n 2, 1) := by decide +kernel
theorem dX3_unload_36 : decode cX3_unload 36 = .ok (.bipush 24, 2) := by decide +kernel
theorem dX3_unload_38 : decode cX3_unload 38 = .ok (.iload_n 1, 1) := by decide +kernel
theorem dX3_unload_39 : decode cX3_unload 39 = .ok (.imul, 1) := by decide +kernel
theorem dX3_unload_40 : decode cX3_unload 40 = .ok (.istore_n 3, 1) := by decide +kernel
theorem dX3_unload_41 : decode cX3_unload 41 = .ok (.iload_n 3, 1) := by decide +kernel
theorem dX3_unload_42 : decode cX3_unload 42 = .ok (.bipush 24, 2) := by decide +kernel
theorem dX3_unload_44 : decode cX3_unload 44 = .ok (.iload_n 1, 1) := by decide +kernel
theorem dX3_unload_45 : decode cX3_unload 45 = .ok (.imul, 1) := by decide +kernel
theorem dX3_unload_46 : decode cX3_unload 46 = .ok (.bipush 24, 2) := by decide +kernel
theorem dX3_unload_48 : decode cX3_unload 48 = .ok (.iadd, 1) := by decide +kernel
theorem dX3_unload_49 : decode cX3_unload 49 = .ok (.if_icmp .ge 33, 3) := by decide +kernel
theorem dX3_unload_52 : decode cX3_unload 52 = .ok (.aload_n 0, 1) := by decide +kernel
theorem dX3_unload_53 : decode cX3_unload 53 = .ok (.getfield 23, 3) := by decide +kernel
theorem dX3_unload_56 : decode cX3_unload 56 = .ok (.iload_n 3, 1) := by decide +kernel
theorem dX3_unload_57 : decode cX3_unload 57 = .ok (.iaload, 1) := by decide +kernel
theorem dX3_unload_58 : decode cX3_unload 58 = .ok (.ifCond .lt 9, 3) := by decide +kernel
theorem dX3_unload_61 : decode cX3_unload 61 = .ok (.iload_n 2, 1) := by decide +kernel
theorem dX3_unload_62 : decode cX3_unload 62 = .ok (.iconst 1, 1) := by decide +kernel
theorem dX3_unload_63 : decode cX3_unload 63 = .ok (.iadd, 1) := by decide +kernel
theorem dX3_unload_64 : decode cX3_unload 64 = .ok (.goto 4, 3) := by decide +kernel
theorem dX3_unload_67 : decode cX3_unload 67 = .ok (.iload_n 2, 1) := by decide +kernel
theorem dX3_unload_68 : decode cX3_unload 68 = .ok (.istore_n 2, 1) := by decide +kernel
theorem dX3_unload_69 : decode cX3_unload 69 = .ok (.aload_n 0, 1) := by decide +kernel
theorem dX3_unload_70 : decode cX3_unload 70 = .ok (.getfield 23, 3) := by decide +kernel
theorem dX3_unload_73 : decode cX3_unload 73 = .ok (.iload_n 3, 1) := by decide +kernel
theorem dX3_unload_74 : decode cX3_unload 74 = .ok (.iconst (-1), 1) := by decide +kernel
theorem dX3_unload_75 : decode cX3_unload 75 = .ok (.iastore, 1) := by decide +kernel
theorem dX3_unload_76 : decode cX3_unload 76 = .ok (.iinc 3 1, 3) := by decide +kernel
theorem dX3_unload_79 : decode cX3_unload 79 = .ok (.goto (-38), 3) := by decide +kernel
theorem dX3_unload_82 : decode cX3_unload 82 = .ok (.aload_n 0, 1) := by decide +kernel
theorem dX3_unload_83 : decode cX3_unload 83 = .ok (.aload_n 0, 1) := by decide +kernel
theorem dX3_unload_84 : decode cX3_unload 84 = .ok (.getfield 86, 3) := by decide +kernel
theorem dX3_unload_87 : decode cX3_unload 87 = .ok (.iload_n 2, 1) := by decide +kernel
theorem dX3_unload_88 : decode cX3_unload 88 = .ok (.isub, 1) := by decide +kernel
theorem dX3_unload_89 : decode cX3_unload 89 = .ok (.putfield 86, 3) := by decide +kernel
theorem dX3_unload_92 : decode cX3_unload 92 = .ok (.aload_n 0, 1) := by decide +kernel
theorem dX3_unload_93 : decode cX3_unload 93 = .ok (.getfield 13, 3) := by decide +kernel
theorem dX3_unload_96 : decode cX3_unload 96 = .ok (.iload_n 1, 1) := by decide +kernel
theorem dX3_unload_97 : decode cX3_unload 97 = .ok (.iconst 0, 1) := by decide +kernel
theorem dX3_unload_98 : decode cX3_unload 98 = .ok (.bastore, 1) := by decide +kernel
theorem dX3_unload_99 : decode cX3_unload 99 = .ok (.iload_n 2, 1) := by decide +kernel
theorem dX3_unload_100 : decode cX3_unload 100 = .ok (.ireturn, 1) := by decide +kernel
theorem dX3_hasPath_0 : decode cX3_hasPath 0 = .ok (.iconst 0, 1) := by decide +kernel
theorem dX3_hasPath_1 : decode cX3_hasPath 1 = .ok (.istore_n 3, 1) := by decide +kernel
theorem dX3_hasPath_2 : decode cX3_hasPath 2 = .ok (.bipush 24, 2) := by decide +kernel
theorem dX3_hasPath_4 : decode cX3_hasPath 4 = .ok (.iload_n 1, 1) := by decide +kernel
theorem dX3_hasPath_5 : decode cX3_hasPath 5 = .ok (.imul, 1) := by decide +kernel
theorem dX3_hasPath_6 : decode cX3_hasPath 6 = .ok (.iconst 4, 1) := by decide +kernel
theorem dX3_hasPath_7 : decode cX3_hasPath 7 = .ok (.iload_n 2, 1) := by decide +kernel
theorem dX3_hasPath_8 : decode cX3_hasPath 8 = .ok (.imul, 1) := by decide +kernel
theorem dX3_hasPath_9 : decode cX3_hasPath 9 = .ok (.iadd, 1) := by decide +kernel
theorem dX3_hasPath_10 : decode cX3_hasPath 10 = .ok (.istore 4, 2) := by decide +kernel
theorem dX3_hasPath_12 : decode cX3_hasPath 12 = .ok (.iload 4, 2) := by decide +kernel
theorem dX3_hasPath_14 : decode cX3_hasPath 14 = .ok (.bipush 24, 2) := by decide +kernel
theorem dX3_hasPath_16 : decode cX3_hasPath 16 = .ok (.iload_n 1, 1) := by decide +kernel
theorem dX3_hasPath_17 : decode cX3_hasPath 17 = .ok (.imul, 1) := by decide +kernel
theorem dX3_hasPath_18 : decode cX3_hasPath 18 = .ok (.iconst 4, 1) := by decide +kernel
theorem dX3_hasPath_19 : decode cX3_hasPath 19 = .ok (.iload_n 2, 1) := by decide +kernel
theorem dX3_hasPath_20 : decode cX3_hasPath 20 = .ok (.imul, 1) := by decide +kernel
theorem dX3_hasPath_21 : decode cX3_hasPath 21 = .ok (.iadd, 1) := by decide +kernel
theorem dX3_hasPath_22 : decode cX3_hasPath 22 = .ok (.iconst 4, 1) := by decide +kernel
theorem dX3_hasPath_23 : decode cX3_hasPath 23 = .ok (.iadd, 1) := by decide +kernel
theorem dX3_hasPath_24 : decode cX3_hasPath 24 = .ok (.if_icmp .ge 31, 3) := by decide +kernel
theorem dX3_hasPath_27 : decode cX3_hasPath 27 = .ok (.iload_n 3, 1) := by decide +kernel
theorem dX3_hasPath_28 : decode cX3_hasPath 28 = .ok (.ifCond .ne 15, 3) := by decide +kernel
theorem dX3_hasPath_31 : decode cX3_hasPath 31 = .ok (.aload_n 0, 1) := by decide +kernel
theorem dX3_hasPath_32 : decode cX3_hasPath 32 = .ok (.getfield 19, 3) := by decide +kernel
theorem dX3_hasPath_35 : decode cX3_hasPath 35 = .ok (.iload 4, 2) := by decide +kernel
theorem dX3_hasPath_37 : decode cX3_hasPath 37 = .ok (.iaload, 1) := by decide +kernel
theorem dX3_hasPath_38 : decode cX3_hasPath 38 = .ok (.bipush (-3), 2) := by decide +kernel
theorem dX3_hasPath_40 : decode cX3_hasPath 40 = .ok (.if_icmp .eq 7, 3) := by decide +kernel
theorem dX3_hasPath_43 : decode cX3_hasPath 43 = .ok (.iconst 1, 1) := by decide +kernel
theorem dX3_hasPath_44 : decode cX3_hasPath 44 = .ok (.goto 4, 3) := by decide +kernel
theorem dX3_hasPath_47 : decode cX3_hasPath 47 = .ok (.iconst 0, 1) := by decide +kernel
theorem dX3_hasPath_48 : decode cX3_hasPath 48 = .ok (.istore_n 3, 1) := by decide +kernel
theorem dX3_hasPath_49 : decode cX3_hasPath 49 = .ok (.iinc 4 1, 3) := by decide +kernel
theorem dX3_hasPath_52 : decode cX3_hasPath 52 = .ok (.goto (-40), 3) := by decide +kernel
theorem dX3_hasPath_55 : decode cX3_hasPath 55 = .ok (.iload_n 3, 1) := by decide +kernel
theorem dX3_hasPath_56 : decode cX3_hasPath 56 = .ok (.ireturn, 1) := by decide +kernel
theorem dX3_append_0 : decode cX3_append 0 = .ok (.iconst 0, 1) := by decide +kernel
theorem dX3_append_1 : decode cX3_append 1 = .ok (.istore_n 2, 1) := by decide +kernel
theorem dX3_append_2 : decode cX3_append 2 = .ok (.iconst 0, 1) := by decide +kernel
theorem dX3_append_3 : decode cX3_append 3 = .ok (.istore_n 3, 1) := by decide +kernel
theorem dX3_append_4 : decode cX3_append 4 = .ok (.iload_n 3, 1) := by decide +kernel
theorem dX3_append_5 : decode cX3_append 5 = .ok (.aload_n 0, 1) := by decide +kernel
theorem dX3_append_6 : decode cX3_append 6 = .ok (.getfield 89, 3) := by decide +kernel
theorem dX3_append_9 : decode cX3_append 9 = .ok (.if_icmp .ge 29, 3) := by decide +kernel
theorem dX3_append_12 : decode cX3_append 12 = .ok (.iload_n 2, 1) := by decide +kernel
theorem dX3_append_13 : decode cX3_append 13 = .ok (.ifCond .ne 13, 3) := by decide +kernel
theorem dX3_append_16 : decode cX3_append 16 = .ok (.aload_n 0, 1) := by decide +kernel
theorem dX3_append_17 : decode cX3_append 17 = .ok (.getfield 41, 3) := by decide +kernel
theorem dX3_append_20 : decode cX3_append 20 = .ok (.iload_n 3, 1) := by decide +kernel
theorem dX3_append_21 : decode cX3_append 21 = .ok (.iaload, 1) := by decide +kernel
theorem dX3_append_22 : decode cX3_append 22 = .ok (.iload_n 1, 1) := by decide +kernel
theorem dX3_append_23 : decode cX3_append 23 = .ok (.if_icmp .ne 7, 3) := by decide +kernel
theorem dX3_append_26 : decode cX3_append 26 = .ok (.iconst 1, 1) := by decide +kernel
theorem dX3_append_27 : decode cX3_append 27 = .ok (.goto 4, 3) := by decide +kernel
theorem dX3_append_30 : decode cX3_append 30 = .ok (.iconst 0, 1) := by decide +kernel
theorem dX3_append_31 : decode cX3_append 31 = .ok (.istore_n 2, 1) := by decide +kernel
theorem dX3_append_32 : decode cX3_append 32 = .ok (.iinc 3 1, 3) := by decide +kernel
theorem dX3_append_35 : decode cX3_append 35 = .ok (.goto (-31), 3) := by decide +kernel
theorem dX3_append_38 : decode cX3_append 38 = .ok (.iload_n 2, 1) := by decide +kernel
theorem dX3_append_39 : decode cX3_append 39 = .ok (.ifCond .eq 4, 3) := by decide +kernel
theorem dX3_append_42 : decode cX3_append 42 = .ok (.return_, 1) := by decide +kernel
theorem dX3_append_43 : decode cX3_append 43 = .ok (.aload_n 0, 1) := by decide +kernel
theorem dX3_append_44 : decode cX3_append 44 = .ok (.getfield 41, 3) := by decide +kernel
theorem dX3_append_47 : decode cX3_append 47 = .ok (.aload_n 0, 1) := by decide +kernel
theorem dX3_append_48 : decode cX3_append 48 = .ok (.getfield 89, 3) := by decide +kernel
theorem dX3_append_51 : decode cX3_append 51 = .ok (.iload_n 1, 1) := by decide +kernel
theorem dX3_append_52 : decode cX3_append 52 = .ok (.iastore, 1) := by decide +kernel
theorem dX3_append_53 : decode cX3_append 53 = .ok (.aload_n 0, 1) := by decide +kernel
theorem dX3_append_54 : decode cX3_append 54 = .ok (.aload_n 0, 1) := by decide +kernel
theorem dX3_append_55 : decode cX3_append 55 = .ok (.getfield 89, 3) := by decide +kernel
theorem dX3_append_58 : decode cX3_append 58 = .ok (.iconst 1, 1) := by decide +kernel
theorem dX3_append_59 : decode cX3_append 59 = .ok (.iadd, 1) := by decide +kernel
theorem dX3_append_60 : decode cX3_append 60 = .ok (.putfield 89, 3) := by decide +kernel
theorem dX3_append_63 : decode cX3_append 63 = .ok (.return_, 1) := by decide +kernel
set_option maxRecDepth 20000 in
theorem ggX3_see_X3_hasPath : GoodIn wsX3_see wsX3_hasPath := goodIn_r _ [14, 15, 21, 22, 23, 24, 25, 26, 27, 28, 29, 30, 31, 32, 33, 34, 35, 36, 37, 38, 39] (by decide +kernel) (by decide +kernel)
set_option maxRecDepth 20000 in
theorem gX3_see_X3_hasPath : GoodIn wsX3_see (wsV RX3 92 RX3 yX3_hasPath wsX3_hasPath) := goodIn_app (goodIn_of _ (by decide +kernel)) ggX3_see_X3_hasPath
set_option maxRecDepth 20000 in
theorem ggX3_see_X3_append : GoodIn wsX3_see wsX3_append := goodIn_r _ [19, 1, 20, 21, 22, 23, 24, 25, 26, 27, 28, 29, 30, 31, 32, 33, 34, 35, 36, 37, 38, 39] (by decide +kernel) (by decide +kernel)
set_option maxRecDepth 20000 in
theorem gX3_see_X3_append : GoodIn wsX3_see (wsV RX3 96 RX3 yX3_append wsX3_append) := goodIn_app (goodIn_of _ (by decide +kernel)) ggX3_see_X3_append
theorem dX3_see_0 : decode cX3_see 0 = .ok (.aload_n 0, 1) := by decide +kernel
theorem dX3_see_1 : decode cX3_see 1 = .ok (.iconst 0, 1) := by decide +kernel
theorem dX3_see_2 : decode cX3_see 2 = .ok (.putfield 89, 3) := by decide +kernel
theorem dX3_see_5 : decode cX3_see 5 = .ok (.iconst 0, 1) := by decide +kernel
theorem dX3_see_6 : decode cX3_see 6 = .ok (.istore_n 3, 1) := by decide +kernel
theorem dX3_see_7 : decode cX3_see 7 = .ok (.iload_n 3, 1) := by decide +kernel
theorem dX3_see_8 : decode cX3_see 8 = .ok (.bipush 8, 2) := by decide +kernel
theorem dX3_see_10 : decode cX3_see 10 = .ok (.if_icmp .ge 16, 3) := by decide +kernel
theorem dX3_see_13 : decode cX3_see 13 = .ok (.aload_n 0, 1) := by decide +kernel
theorem dX3_see_14 : decode cX3_see 14 = .ok (.getfield 44, 3) := by decide +kernel
theorem dX3_see_17 : decode cX3_see 17 = .ok (.iload_n 3, 1) := by decide +kernel
theorem dX3_see_18 : decode cX3_see 18 = .ok (.iconst 0, 1) := by decide +kernel
theorem dX3_see_19 : decode cX3_see 19 = .ok (.bastore, 1) := by decide +kernel
theorem dX3_see_20 : decode cX3_see 20 = .ok (.iinc 3 1, 3) := by decide +kernel
end
section
theorem dX3_see_23 : decode cX3_see 23 = .ok (.goto (-16), 3) := by decide +kernel
theorem dX3_see_26 : decode cX3_see 26 = .ok (.iconst 1, 1) := by decide +kernel
theorem dX3_see_27 : decode cX3_see 27 = .ok (.istore_n 3, 1) := by decide +kernel
theorem dX3_see_28 : decode cX3_see 28 = .ok (.aload_n 0, 1) := by decide +kernel
theorem dX3_see_29 : decode cX3_see 29 = .ok (.getfield 50, 3) := by decide +kernel
theorem dX3_see_32 : decode cX3_see 32 = .ok (.iconst 0, 1) := by decide +kernel
theorem dX3_see_33 : decode cX3_see 33 = .ok (.iload_n 1, 1) := by decide +kernel
theorem dX3_see_34 : decode cX3_see 34 = .ok (.iastore, 1) := by decide +kernel
theorem dX3_see_35 : decode cX3_see 35 = .ok (.aload_n 0, 1) := by decide +kernel
theorem dX3_see_36 : decode cX3_see 36 = .ok (.getfield 53, 3) := by decide +kernel
theorem dX3_see_39 : decode cX3_see 39 = .ok (.iconst 0, 1) := by decide +kernel
theorem dX3_see_40 : decode cX3_see 40 = .ok (.iconst 0, 1) := by decide +kernel
theorem dX3_see_41 : decode cX3_see 41 = .ok (.iastore, 1) := by decide +kernel
theorem dX3_see_42 : decode cX3_see 42 = .ok (.iload_n 3, 1) := by decide +kernel
theorem dX3_see_43 : decode cX3_see 43 = .ok (.ifCond .le 220, 3) := by decide +kernel
theorem dX3_see_46 : decode cX3_see 46 = .ok (.aload_n 0, 1) := by decide +kernel
theorem dX3_see_47 : decode cX3_see 47 = .ok (.getfield 50, 3) := by decide +kernel
theorem dX3_see_50 : decode cX3_see 50 = .ok (.iload_n 3, 1) := by decide +kernel
theorem dX3_see_51 : decode cX3_see 51 = .ok (.iconst 1, 1) := by decide +kernel
theorem dX3_see_52 : decode cX3_see 52 = .ok (.isub, 1) := by decide +kernel
theorem dX3_see_53 : decode cX3_see 53 = .ok (.iaload, 1) := by decide +kernel
theorem dX3_see_54 : decode cX3_see 54 = .ok (.istore 4, 2) := by decide +kernel
theorem dX3_see_56 : decode cX3_see 56 = .ok (.bipush 6, 2) := by decide +kernel
theorem dX3_see_58 : decode cX3_see 58 = .ok (.iload 4, 2) := by decide +kernel
theorem dX3_see_60 : decode cX3_see 60 = .ok (.imul, 1) := by decide +kernel
theorem dX3_see_61 : decode cX3_see 61 = .ok (.aload_n 0, 1) := by decide +kernel
theorem dX3_see_62 : decode cX3_see 62 = .ok (.getfield 53, 3) := by decide +kernel
theorem dX3_see_65 : decode cX3_see 65 = .ok (.iload_n 3, 1) := by decide +kernel
theorem dX3_see_66 : decode cX3_see 66 = .ok (.iconst 1, 1) := by decide +kernel
theorem dX3_see_67 : decode cX3_see 67 = .ok (.isub, 1) := by decide +kernel
theorem dX3_see_68 : decode cX3_see 68 = .ok (.iaload, 1) := by decide +kernel
theorem dX3_see_69 : decode cX3_see 69 = .ok (.iadd, 1) := by decide +kernel
theorem dX3_see_70 : decode cX3_see 70 = .ok (.istore 5, 2) := by decide +kernel
theorem dX3_see_72 : decode cX3_see 72 = .ok (.aload_n 0, 1) := by decide +kernel
theorem dX3_see_73 : decode cX3_see 73 = .ok (.getfield 53, 3) := by decide +kernel
theorem dX3_see_76 : decode cX3_see 76 = .ok (.iload_n 3, 1) := by decide +kernel
theorem dX3_see_77 : decode cX3_see 77 = .ok (.iconst 1, 1) := by decide +kernel
theorem dX3_see_78 : decode cX3_see 78 = .ok (.isub, 1) := by decide +kernel
theorem dX3_see_79 : decode cX3_see 79 = .ok (.iaload, 1) := by decide +kernel
theorem dX3_see_80 : decode cX3_see 80 = .ok (.aload_n 0, 1) := by decide +kernel
theorem dX3_see_81 : decode cX3_see 81 = .ok (.getfield 26, 3) := by decide +kernel
theorem dX3_see_84 : decode cX3_see 84 = .ok (.iload 4, 2) := by decide +kernel
theorem dX3_see_86 : decode cX3_see 86 = .ok (.iaload, 1) := by decide +kernel
theorem dX3_see_87 : decode cX3_see 87 = .ok (.if_icmp .ge 7, 3) := by decide +kernel
theorem dX3_see_90 : decode cX3_see 90 = .ok (.iconst 1, 1) := by decide +kernel
theorem dX3_see_91 : decode cX3_see 91 = .ok (.goto 4, 3) := by decide +kernel
theorem dX3_see_94 : decode cX3_see 94 = .ok (.iconst 0, 1) := by decide +kernel
theorem dX3_see_95 : decode cX3_see 95 = .ok (.istore 6, 2) := by decide +kernel
theorem dX3_see_97 : decode cX3_see 97 = .ok (.aload_n 0, 1) := by decide +kernel
theorem dX3_see_98 : decode cX3_see 98 = .ok (.getfield 53, 3) := by decide +kernel
theorem dX3_see_101 : decode cX3_see 101 = .ok (.iload_n 3, 1) := by decide +kernel
theorem dX3_see_102 : decode cX3_see 102 = .ok (.iconst 1, 1) := by decide +kernel
theorem dX3_see_103 : decode cX3_see 103 = .ok (.isub, 1) := by decide +kernel
theorem dX3_see_104 : decode cX3_see 104 = .ok (.aload_n 0, 1) := by decide +kernel
theorem dX3_see_105 : decode cX3_see 105 = .ok (.getfield 53, 3) := by decide +kernel
theorem dX3_see_108 : decode cX3_see 108 = .ok (.iload_n 3, 1) := by decide +kernel
theorem dX3_see_109 : decode cX3_see 109 = .ok (.iconst 1, 1) := by decide +kernel
theorem dX3_see_110 : decode cX3_see 110 = .ok (.isub, 1) := by decide +kernel
theorem dX3_see_111 : decode cX3_see 111 = .ok (.iaload, 1) := by decide +kernel
theorem dX3_see_112 : decode cX3_see 112 = .ok (.iconst 1, 1) := by decide +kernel
theorem dX3_see_113 : decode cX3_see 113 = .ok (.iadd, 1) := by decide +kernel
theorem dX3_see_114 : decode cX3_see 114 = .ok (.iastore, 1) := by decide +kernel
theorem dX3_see_115 : decode cX3_see 115 = .ok (.iload 6, 2) := by decide +kernel
theorem dX3_see_117 : decode cX3_see 117 = .ok (.ifCond .ne 10, 3) := by decide +kernel
theorem dX3_see_120 : decode cX3_see 120 = .ok (.iload_n 3, 1) := by decide +kernel
theorem dX3_see_121 : decode cX3_see 121 = .ok (.iconst 1, 1) := by decide +kernel
theorem dX3_see_122 : decode cX3_see 122 = .ok (.isub, 1) := by decide +kernel
theorem dX3_see_123 : decode cX3_see 123 = .ok (.istore_n 3, 1) := by decide +kernel
theorem dX3_see_124 : decode cX3_see 124 = .ok (.goto 136, 3) := by decide +kernel
theorem dX3_see_127 : decode cX3_see 127 = .ok (.aload_n 0, 1) := by decide +kernel
theorem dX3_see_128 : decode cX3_see 128 = .ok (.getfield 29, 3) := by decide +kernel
theorem dX3_see_131 : decode cX3_see 131 = .ok (.iload 5, 2) := by decide +kernel
theorem dX3_see_133 : decode cX3_see 133 = .ok (.iaload, 1) := by decide +kernel
theorem dX3_see_134 : decode cX3_see 134 = .ok (.iload 4, 2) := by decide +kernel
theorem dX3_see_136 : decode cX3_see 136 = .ok (.if_icmp .ne 22, 3) := by decide +kernel
theorem dX3_see_139 : decode cX3_see 139 = .ok (.aload_n 0, 1) := by decide +kernel
theorem dX3_see_140 : decode cX3_see 140 = .ok (.iload 4, 2) := by decide +kernel
theorem dX3_see_142 : decode cX3_see 142 = .ok (.iload_n 2, 1) := by decide +kernel
theorem dX3_see_143 : decode cX3_see 143 = .ok (.invokevirtual 92, 3) := by decide +kernel
theorem dX3_see_146 : decode cX3_see 146 = .ok (.ifCond .eq 114, 3) := by decide +kernel
theorem dX3_see_149 : decode cX3_see 149 = .ok (.aload_n 0, 1) := by decide +kernel
theorem dX3_see_150 : decode cX3_see 150 = .ok (.iload 4, 2) := by decide +kernel
theorem dX3_see_152 : decode cX3_see 152 = .ok (.invokevirtual 96, 3) := by decide +kernel
theorem dX3_see_155 : decode cX3_see 155 = .ok (.goto 105, 3) := by decide +kernel
theorem dX3_see_158 : decode cX3_see 158 = .ok (.aload_n 0, 1) := by decide +kernel
theorem dX3_see_159 : decode cX3_see 159 = .ok (.getfield 13, 3) := by decide +kernel
theorem dX3_see_162 : decode cX3_see 162 = .ok (.aload_n 0, 1) := by decide +kernel
theorem dX3_see_163 : decode cX3_see 163 = .ok (.getfield 29, 3) := by decide +kernel
theorem dX3_see_166 : decode cX3_see 166 = .ok (.iload 5, 2) := by decide +kernel
theorem dX3_see_168 : decode cX3_see 168 = .ok (.iaload, 1) := by decide +kernel
theorem dX3_see_169 : decode cX3_see 169 = .ok (.baload, 1) := by decide +kernel
theorem dX3_see_170 : decode cX3_see 170 = .ok (.ifCond .eq 90, 3) := by decide +kernel
theorem dX3_see_173 : decode cX3_see 173 = .ok (.aload_n 0, 1) := by decide +kernel
theorem dX3_see_174 : decode cX3_see 174 = .ok (.getfield 44, 3) := by decide +kernel
theorem dX3_see_177 : decode cX3_see 177 = .ok (.aload_n 0, 1) := by decide +kernel
theorem dX3_see_178 : decode cX3_see 178 = .ok (.getfield 29, 3) := by decide +kernel
theorem dX3_see_181 : decode cX3_see 181 = .ok (.iload 5, 2) := by decide +kernel
theorem dX3_see_183 : decode cX3_see 183 = .ok (.iaload, 1) := by decide +kernel
theorem dX3_see_184 : decode cX3_see 184 = .ok (.baload, 1) := by decide +kernel
theorem dX3_see_185 : decode cX3_see 185 = .ok (.ifCond .ne 75, 3) := by decide +kernel
theorem dX3_see_188 : decode cX3_see 188 = .ok (.aload_n 0, 1) := by decide +kernel
theorem dX3_see_189 : decode cX3_see 189 = .ok (.getfield 32, 3) := by decide +kernel
theorem dX3_see_192 : decode cX3_see 192 = .ok (.iload 5, 2) := by decide +kernel
theorem dX3_see_194 : decode cX3_see 194 = .ok (.iaload, 1) := by decide +kernel
theorem dX3_see_195 : decode cX3_see 195 = .ok (.iload_n 2, 1) := by decide +kernel
theorem dX3_see_196 : decode cX3_see 196 = .ok (.ishr, 1) := by decide +kernel
theorem dX3_see_197 : decode cX3_see 197 = .ok (.iconst 1, 1) := by decide +kernel
theorem dX3_see_198 : decode cX3_see 198 = .ok (.iand, 1) := by decide +kernel
theorem dX3_see_199 : decode cX3_see 199 = .ok (.iconst 1, 1) := by decide +kernel
theorem dX3_see_200 : decode cX3_see 200 = .ok (.if_icmp .ne 60, 3) := by decide +kernel
theorem dX3_see_203 : decode cX3_see 203 = .ok (.iload_n 3, 1) := by decide +kernel
theorem dX3_see_204 : decode cX3_see 204 = .ok (.iconst 1, 1) := by decide +kernel
theorem dX3_see_205 : decode cX3_see 205 = .ok (.if_icmp .eq 18, 3) := by decide +kernel
theorem dX3_see_208 : decode cX3_see 208 = .ok (.aload_n 0, 1) := by decide +kernel
theorem dX3_see_209 : decode cX3_see 209 = .ok (.getfield 35, 3) := by decide +kernel
theorem dX3_see_212 : decode cX3_see 212 = .ok (.iload 5, 2) := by decide +kernel
theorem dX3_see_214 : decode cX3_see 214 = .ok (.iaload, 1) := by decide +kernel
theorem dX3_see_215 : decode cX3_see 215 = .ok (.iload_n 2, 1) := by decide +kernel
theorem dX3_see_216 : decode cX3_see 216 = .ok (.ishr, 1) := by decide +kernel
theorem dX3_see_217 : decode cX3_see 217 = .ok (.iconst 1, 1) := by decide +kernel
theorem dX3_see_218 : decode cX3_see 218 = .ok (.iand, 1) := by decide +kernel
theorem dX3_see_219 : decode cX3_see 219 = .ok (.iconst 1, 1) := by decide +kernel
theorem dX3_see_220 : decode cX3_see 220 = .ok (.if_icmp .ne 40, 3) := by decide +kernel
theorem dX3_see_223 : decode cX3_see 223 = .ok (.aload_n 0, 1) := by decide +kernel
theorem dX3_see_224 : decode cX3_see 224 = .ok (.getfield 44, 3) := by decide +kernel
theorem dX3_see_227 : decode cX3_see 227 = .ok (.aload_n 0, 1) := by decide +kernel
theorem dX3_see_228 : decode cX3_see 228 = .ok (.getfield 29, 3) := by decide +kernel
theorem dX3_see_231 : decode cX3_see 231 = .ok (.iload 5, 2) := by decide +kernel
theorem dX3_see_233 : decode cX3_see 233 = .ok (.iaload, 1) := by decide +kernel
theorem dX3_see_234 : decode cX3_see 234 = .ok (.iconst 1, 1) := by decide +kernel
theorem dX3_see_235 : decode cX3_see 235 = .ok (.bastore, 1) := by decide +kernel
theorem dX3_see_236 : decode cX3_see 236 = .ok (.aload_n 0, 1) := by decide +kernel
theorem dX3_see_237 : decode cX3_see 237 = .ok (.getfield 50, 3) := by decide +kernel
theorem dX3_see_240 : decode cX3_see 240 = .ok (.iload_n 3, 1) := by decide +kernel
theorem dX3_see_241 : decode cX3_see 241 = .ok (.aload_n 0, 1) := by decide +kernel
theorem dX3_see_242 : decode cX3_see 242 = .ok (.getfield 29, 3) := by decide +kernel
theorem dX3_see_245 : decode cX3_see 245 = .ok (.iload 5, 2) := by decide +kernel
theorem dX3_see_247 : decode cX3_see 247 = .ok (.iaload, 1) := by decide +kernel
theorem dX3_see_248 : decode cX3_see 248 = .ok (.iastore, 1) := by decide +kernel
theorem dX3_see_249 : decode cX3_see 249 = .ok (.aload_n 0, 1) := by decide +kernel
theorem dX3_see_250 : decode cX3_see 250 = .ok (.getfield 53, 3) := by decide +kernel
theorem dX3_see_253 : decode cX3_see 253 = .ok (.iload_n 3, 1) := by decide +kernel
theorem dX3_see_254 : decode cX3_see 254 = .ok (.iconst 0, 1) := by decide +kernel
theorem dX3_see_255 : decode cX3_see 255 = .ok (.iastore, 1) := by decide +kernel
theorem dX3_see_256 : decode cX3_see 256 = .ok (.iload_n 3, 1) := by decide +kernel
theorem dX3_see_257 : decode cX3_see 257 = .ok (.iconst 1, 1) := by decide +kernel
theorem dX3_see_258 : decode cX3_see 258 = .ok (.iadd, 1) := by decide +kernel
theorem dX3_see_259 : decode cX3_see 259 = .ok (.istore_n 3, 1) := by decide +kernel
theorem dX3_see_260 : decode cX3_see 260 = .ok (.goto (-218), 3) := by decide +kernel
theorem dX3_see_263 : decode cX3_see 263 = .ok (.return_, 1) := by decide +kernel
set_option maxRecDepth 20000 in
theorem ggX3_holder_X3_see : GoodIn wsX3_holder wsX3_see := goodIn_r _ [8, 1, 9, 10, 11, 12, 13, 14, 15, 16, 17, 18, 19, 7, 20, 2, 21, 22, 23, 24, 3, 25, 26, 27, 28, 29, 30, 31, 32, 33, 34, 35, 36, 37, 38, 39, 40, 41, 42, 43] (by decide +kernel) (by decide +kernel)
set_option maxRecDepth 20000 in
theorem gX3_holder_X3_see : GoodIn wsX3_holder (wsV RX3 100 RX3 yX3_see wsX3_see) := goodIn_app (goodIn_of _ (by decide +kernel)) ggX3_holder_X3_see
theorem dX3_holder_0 : decode cX3_holder 0 = .ok (.iload_n 2, 1) := by decide +kernel
theorem dX3_holder_1 : decode cX3_holder 1 = .ok (.iconst 2, 1) := by decide +kernel
theorem dX3_holder_2 : decode cX3_holder 2 = .ok (.if_icmp .ge 6, 3) := by decide +kernel
theorem dX3_holder_5 : decode cX3_holder 5 = .ok (.bipush 8, 2) := by decide +kernel
theorem dX3_holder_7 : decode cX3_holder 7 = .ok (.ireturn, 1) := by decide +kernel
theorem dX3_holder_8 : decode cX3_holder 8 = .ok (.aload_n 0, 1) := by decide +kernel
theorem dX3_holder_9 : decode cX3_holder 9 = .ok (.iload_n 1, 1) := by decide +kernel
theorem dX3_holder_10 : decode cX3_holder 10 = .ok (.iload_n 2, 1) := by decide +kernel
theorem dX3_holder_11 : decode cX3_holder 11 = .ok (.iconst 4, 1) := by decide +kernel
theorem dX3_holder_12 : decode cX3_holder 12 = .ok (.idiv, 1) := by decide +kernel
theorem dX3_holder_13 : decode cX3_holder 13 = .ok (.invokevirtual 100, 3) := by decide +kernel
theorem dX3_holder_16 : decode cX3_holder 16 = .ok (.iconst (-1), 1) := by decide +kernel
theorem dX3_holder_17 : decode cX3_holder 17 = .ok (.istore_n 3, 1) := by decide +kernel
theorem dX3_holder_18 : decode cX3_holder 18 = .ok (.aload_n 0, 1) := by decide +kernel
theorem dX3_holder_19 : decode cX3_holder 19 = .ok (.getfield 89, 3) := by decide +kernel
theorem dX3_holder_22 : decode cX3_holder 22 = .ok (.iconst 1, 1) := by decide +kernel
theorem dX3_holder_23 : decode cX3_holder 23 = .ok (.isub, 1) := by decide +kernel
theorem dX3_holder_24 : decode cX3_holder 24 = .ok (.istore 4, 2) := by decide +kernel
theorem dX3_holder_26 : decode cX3_holder 26 = .ok (.iload 4, 2) := by decide +kernel
theorem dX3_holder_28 : decode cX3_holder 28 = .ok (.ifCond .lt 43, 3) := by decide +kernel
theorem dX3_holder_31 : decode cX3_holder 31 = .ok (.aload_n 0, 1) := by decide +kernel
theorem dX3_holder_32 : decode cX3_holder 32 = .ok (.getfield 19, 3) := by decide +kernel
theorem dX3_holder_35 : decode cX3_holder 35 = .ok (.bipush 24, 2) := by decide +kernel
theorem dX3_holder_37 : decode cX3_holder 37 = .ok (.aload_n 0, 1) := by decide +kernel
theorem dX3_holder_38 : decode cX3_holder 38 = .ok (.getfield 41, 3) := by decide +kernel
theorem dX3_holder_41 : decode cX3_holder 41 = .ok (.iload 4, 2) := by decide +kernel
theorem dX3_holder_43 : decode cX3_holder 43 = .ok (.iaload, 1) := by decide +kernel
theorem dX3_holder_44 : decode cX3_holder 44 = .ok (.imul, 1) := by decide +kernel
theorem dX3_holder_45 : decode cX3_holder 45 = .ok (.iload_n 2, 1) := by decide +kernel
theorem dX3_holder_46 : decode cX3_holder 46 = .ok (.iadd, 1) := by decide +kernel
theorem dX3_holder_47 : decode cX3_holder 47 = .ok (.iaload, 1) := by decide +kernel
theorem dX3_holder_48 : decode cX3_holder 48 = .ok (.bipush (-3), 2) := by decide +kernel
theorem dX3_holder_50 : decode cX3_holder 50 = .ok (.if_icmp .eq 13, 3) := by decide +kernel
theorem dX3_holder_53 : decode cX3_holder 53 = .ok (.aload_n 0, 1) := by decide +kernel
theorem dX3_holder_54 : decode cX3_holder 54 = .ok (.getfield 41, 3) := by decide +kernel
theorem dX3_holder_57 : decode cX3_holder 57 = .ok (.iload 4, 2) := by decide +kernel
theorem dX3_holder_59 : decode cX3_holder 59 = .ok (.iaload, 1) := by decide +kernel
theorem dX3_holder_60 : decode cX3_holder 60 = .ok (.goto 4, 3) := by decide +kernel
theorem dX3_holder_63 : decode cX3_holder 63 = .ok (.iload_n 3, 1) := by decide +kernel
theorem dX3_holder_64 : decode cX3_holder 64 = .ok (.istore_n 3, 1) := by decide +kernel
theorem dX3_holder_65 : decode cX3_holder 65 = .ok (.iinc 4 (-1), 3) := by decide +kernel
theorem dX3_holder_68 : decode cX3_holder 68 = .ok (.goto (-42), 3) := by decide +kernel
theorem dX3_holder_71 : decode cX3_holder 71 = .ok (.iload_n 3, 1) := by decide +kernel
theorem dX3_holder_72 : decode cX3_holder 72 = .ok (.ireturn, 1) := by decide +kernel
set_option maxRecDepth 20000 in
theorem ggX3_needs_X3_holder : GoodIn wsX3_needs wsX3_holder := goodIn_r _ [8, 9, 3, 10, 11, 12, 13, 7, 14, 15, 16, 17, 18, 19, 20, 21, 22, 23, 24, 25, 26, 27, 28, 29, 30, 31, 32, 33, 34, 35, 36, 37, 38, 39, 40, 41, 42, 43, 44, 45, 46, 47, 48, 49] (by decide +kernel) (by decide +kernel)
set_option maxRecDepth 20000 in
theorem gX3_needs_X3_holder : GoodIn wsX3_needs (wsV RX3 104 RX3 yX3_holder wsX3_holder) := goodIn_app (goodIn_of _ (by decide +kernel)) ggX3_needs_X3_holder
theorem dX3_needs_0 : decode cX3_needs 0 = .ok (.iconst 0, 1) := by decide +kernel
theorem dX3_needs_1 : decode cX3_needs 1 = .ok (.istore_n 3, 1) := by decide +kernel
theorem dX3_needs_2 : decode cX3_needs 2 = .ok (.iload_n 1, 1) := by decide +kernel
theorem dX3_needs_3 : decode cX3_needs 3 = .ok (.istore 4, 2) := by decide +kernel
theorem dX3_needs_5 : decode cX3_needs 5 = .ok (.iload_n 2, 1) := by decide +kernel
theorem dX3_needs_6 : decode cX3_needs 6 = .ok (.istore 5, 2) := by decide +kernel
theorem dX3_needs_8 : decode cX3_needs 8 = .ok (.iload 4, 2) := by decide +kernel
theorem dX3_needs_10 : decode cX3_needs 10 = .ok (.bipush 8, 2) := by decide +kernel
theorem dX3_needs_12 : decode cX3_needs 12 = .ok (.if_icmp .ge 151, 3) := by decide +kernel
theorem dX3_needs_15 : decode cX3_needs 15 = .ok (.aload_n 0, 1) := by decide +kernel
theorem dX3_needs_16 : decode cX3_needs 16 = .ok (.getfield 23, 3) := by decide +kernel
theorem dX3_needs_19 : decode cX3_needs 19 = .ok (.bipush 24, 2) := by decide +kernel
theorem dX3_needs_21 : decode cX3_needs 21 = .ok (.iload 4, 2) := by decide +kernel
theorem dX3_needs_23 : decode cX3_needs 23 = .ok (.imul, 1) := by decide +kernel
theorem dX3_needs_24 : decode cX3_needs 24 = .ok (.iload 5, 2) := by decide +kernel
theorem dX3_needs_26 : decode cX3_needs 26 = .ok (.iadd, 1) := by decide +kernel
theorem dX3_needs_27 : decode cX3_needs 27 = .ok (.iaload, 1) := by decide +kernel
theorem dX3_needs_28 : decode cX3_needs 28 = .ok (.ifCond .ge 135, 3) := by decide +kernel
theorem dX3_needs_31 : decode cX3_needs 31 = .ok (.bipush 24, 2) := by decide +kernel
theorem dX3_needs_33 : decode cX3_needs 33 = .ok (.iload 4, 2) := by decide +kernel
theorem dX3_needs_35 : decode cX3_needs 35 = .ok (.imul, 1) := by decide +kernel
theorem dX3_needs_36 : decode cX3_needs 36 = .ok (.iload 5, 2) := by decide +kernel
theorem dX3_needs_38 : decode cX3_needs 38 = .ok (.iadd, 1) := by decide +kernel
theorem dX3_needs_39 : decode cX3_needs 39 = .ok (.istore 6, 2) := by decide +kernel
theorem dX3_needs_41 : decode cX3_needs 41 = .ok (.iconst 0, 1) := by decide +kernel
theorem dX3_needs_42 : decode cX3_needs 42 = .ok (.istore 7, 2) := by decide +kernel
theorem dX3_needs_44 : decode cX3_needs 44 = .ok (.iconst 0, 1) := by decide +kernel
theorem dX3_needs_45 : decode cX3_needs 45 = .ok (.istore 8, 2) := by decide +kernel
theorem dX3_needs_47 : decode cX3_needs 47 = .ok (.iload 8, 2) := by decide +kernel
theorem dX3_needs_49 : decode cX3_needs 49 = .ok (.iload_n 3, 1) := by decide +kernel
theorem dX3_needs_50 : decode cX3_needs 50 = .ok (.if_icmp .ge 33, 3) := by decide +kernel
theorem dX3_needs_53 : decode cX3_needs 53 = .ok (.iload 7, 2) := by decide +kernel
theorem dX3_needs_55 : decode cX3_needs 55 = .ok (.ifCond .ne 15, 3) := by decide +kernel
theorem dX3_needs_58 : decode cX3_needs 58 = .ok (.aload_n 0, 1) := by decide +kernel
theorem dX3_needs_59 : decode cX3_needs 59 = .ok (.getfield 56, 3) := by decide +kernel
theorem dX3_needs_62 : decode cX3_needs 62 = .ok (.iload 8, 2) := by decide +kernel
theorem dX3_needs_64 : decode cX3_needs 64 = .ok (.iaload, 1) := by decide +kernel
theorem dX3_needs_65 : decode cX3_needs 65 = .ok (.iload 6, 2) := by decide +kernel
theorem dX3_needs_67 : decode cX3_needs 67 = .ok (.if_icmp .ne 7, 3) := by decide +kernel
theorem dX3_needs_70 : decode cX3_needs 70 = .ok (.iconst 1, 1) := by decide +kernel
theorem dX3_needs_71 : decode cX3_needs 71 = .ok (.goto 4, 3) := by decide +kernel
theorem dX3_needs_74 : decode cX3_needs 74 = .ok (.iconst 0, 1) := by decide +kernel
theorem dX3_needs_75 : decode cX3_needs 75 = .ok (.istore 7, 2) := by decide +kernel
theorem dX3_needs_77 : decode cX3_needs 77 = .ok (.iinc 8 1, 3) := by decide +kernel
theorem dX3_needs_80 : decode cX3_needs 80 = .ok (.goto (-33), 3) := by decide +kernel
theorem dX3_needs_83 : decode cX3_needs 83 = .ok (.aload_n 0, 1) := by decide +kernel
theorem dX3_needs_84 : decode cX3_needs 84 = .ok (.getfield 19, 3) := by decide +kernel
theorem dX3_needs_87 : decode cX3_needs 87 = .ok (.iload 6, 2) := by decide +kernel
theorem dX3_needs_89 : decode cX3_needs 89 = .ok (.iaload, 1) := by decide +kernel
theorem dX3_needs_90 : decode cX3_needs 90 = .ok (.bipush (-2), 2) := by decide +kernel
theorem dX3_needs_92 : decode cX3_needs 92 = .ok (.if_icmp .eq 14, 3) := by decide +kernel
theorem dX3_needs_95 : decode cX3_needs 95 = .ok (.iload 7, 2) := by decide +kernel
theorem dX3_needs_97 : decode cX3_needs 97 = .ok (.ifCond .ne 9, 3) := by decide +kernel
theorem dX3_needs_100 : decode cX3_needs 100 = .ok (.iload_n 3, 1) := by decide +kernel
theorem dX3_needs_101 : decode cX3_needs 101 = .ok (.bipush 10, 2) := by decide +kernel
theorem dX3_needs_103 : decode cX3_needs 103 = .ok (.if_icmp .lt 5, 3) := by decide +kernel
theorem dX3_needs_106 : decode cX3_needs 106 = .ok (.iconst (-1), 1) := by decide +kernel
theorem dX3_needs_107 : decode cX3_needs 107 = .ok (.ireturn, 1) := by decide +kernel
theorem dX3_needs_108 : decode cX3_needs 108 = .ok (.aload_n 0, 1) := by decide +kernel
theorem dX3_needs_109 : decode cX3_needs 109 = .ok (.getfield 56, 3) := by decide +kernel
theorem dX3_needs_112 : decode cX3_needs 112 = .ok (.iload_n 3, 1) := by decide +kernel
theorem dX3_needs_113 : decode cX3_needs 113 = .ok (.iload 6, 2) := by decide +kernel
theorem dX3_needs_115 : decode cX3_needs 115 = .ok (.iastore, 1) := by decide +kernel
theorem dX3_needs_116 : decode cX3_needs 116 = .ok (.iload_n 3, 1) := by decide +kernel
theorem dX3_needs_117 : decode cX3_needs 117 = .ok (.iconst 1, 1) := by decide +kernel
theorem dX3_needs_118 : decode cX3_needs 118 = .ok (.iadd, 1) := by decide +kernel
theorem dX3_needs_119 : decode cX3_needs 119 = .ok (.istore_n 3, 1) := by decide +kernel
theorem dX3_needs_120 : decode cX3_needs 120 = .ok (.aload_n 0, 1) := by decide +kernel
theorem dX3_needs_121 : decode cX3_needs 121 = .ok (.getfield 19, 3) := by decide +kernel
theorem dX3_needs_124 : decode cX3_needs 124 = .ok (.iload 6, 2) := by decide +kernel
theorem dX3_needs_126 : decode cX3_needs 126 = .ok (.iaload, 1) := by decide +kernel
theorem dX3_needs_127 : decode cX3_needs 127 = .ok (.istore 8, 2) := by decide +kernel
theorem dX3_needs_129 : decode cX3_needs 129 = .ok (.iload 8, 2) := by decide +kernel
theorem dX3_needs_131 : decode cX3_needs 131 = .ok (.ifCond .ge 8, 3) := by decide +kernel
theorem dX3_needs_134 : decode cX3_needs 134 = .ok (.bipush 8, 2) := by decide +kernel
theorem dX3_needs_136 : decode cX3_needs 136 = .ok (.goto 11, 3) := by decide +kernel
theorem dX3_needs_139 : decode cX3_needs 139 = .ok (.aload_n 0, 1) := by decide +kernel
theorem dX3_needs_140 : decode cX3_needs 140 = .ok (.iload 4, 2) := by decide +kernel
theorem dX3_needs_142 : decode cX3_needs 142 = .ok (.iload 8, 2) := by decide +kernel
theorem dX3_needs_144 : decode cX3_needs 144 = .ok (.invokevirtual 104, 3) := by decide +kernel
theorem dX3_needs_147 : decode cX3_needs 147 = .ok (.istore 4, 2) := by decide +kernel
theorem dX3_needs_149 : decode cX3_needs 149 = .ok (.iload 4, 2) := by decide +kernel
theorem dX3_needs_151 : decode cX3_needs 151 = .ok (.ifCond .ge 5, 3) := by decide +kernel
theorem dX3_needs_154 : decode cX3_needs 154 = .ok (.iconst (-1), 1) := by decide +kernel
theorem dX3_needs_155 : decode cX3_needs 155 = .ok (.ireturn, 1) := by decide +kernel
theorem dX3_needs_156 : decode cX3_needs 156 = .ok (.iload 8, 2) := by decide +kernel
theorem dX3_needs_158 : decode cX3_needs 158 = .ok (.istore 5, 2) := by decide +kernel
theorem dX3_needs_160 : decode cX3_needs 160 = .ok (.goto (-152), 3) := by decide +kernel
theorem dX3_needs_163 : decode cX3_needs 163 = .ok (.iload_n 3, 1) := by decide +kernel
theorem dX3_needs_164 : decode cX3_needs 164 = .ok (.ireturn, 1) := by decide +kernel
set_option maxRecDepth 20000 in
theorem ggX3_define_X3_holder : GoodIn wsX3_define wsX3_holder := goodIn_r _ [8, 9, 1, 10, 11, 12, 13, 7, 14, 15, 16, 17, 18, 19, 20, 21, 22, 23, 24, 25, 26, 27, 28, 29, 30, 31, 32, 33, 34, 35, 36, 37, 38, 39, 40, 41, 42, 43, 44, 45, 46, 47, 48, 49] (by decide +kernel) (by decide +kernel)
set_option maxRecDepth 20000 in
theorem gX3_define_X3_holder : GoodIn wsX3_define (wsV RX3 104 RX3 yX3_holder wsX3_holder) := goodIn_app (goodIn_of _ (by decide +kernel)) ggX3_define_X3_holder
theorem dX3_define_0 : decode cX3_define 0 = .ok (.aload_n 0, 1) := by decide +kernel
theorem dX3_define_1 : decode cX3_define 1 = .ok (.getfield 19, 3) := by decide +kernel
theorem dX3_define_4 : decode cX3_define 4 = .ok (.iload_n 1, 1) := by decide +kernel
theorem dX3_define_5 : decode cX3_define 5 = .ok (.iaload, 1) := by decide +kernel
theorem dX3_define_6 : decode cX3_define 6 = .ok (.istore_n 2, 1) := by decide +kernel
theorem dX3_define_7 : decode cX3_define 7 = .ok (.aload_n 0, 1) := by decide +kernel
theorem dX3_define_8 : decode cX3_define 8 = .ok (.getfield 23, 3) := by decide +kernel
theorem dX3_define_11 : decode cX3_define 11 = .ok (.iload_n 1, 1) := by decide +kernel
theorem dX3_define_12 : decode cX3_define 12 = .ok (.iload_n 2, 1) := by decide +kernel
theorem dX3_define_13 : decode cX3_define 13 = .ok (.ifCond .ge 8, 3) := by decide +kernel
theorem dX3_define_16 : decode cX3_define 16 = .ok (.bipush 9, 2) := by decide +kernel
theorem dX3_define_18 : decode cX3_define 18 = .ok (.goto 12, 3) := by decide +kernel
theorem dX3_define_21 : decode cX3_define 21 = .ok (.aload_n 0, 1) := by decide +kernel
theorem dX3_define_22 : decode cX3_define 22 = .ok (.iload_n 1, 1) := by decide +kernel
theorem dX3_define_23 : decode cX3_define 23 = .ok (.bipush 24, 2) := by decide +kernel
theorem dX3_define_25 : decode cX3_define 25 = .ok (.idiv, 1) := by decide +kernel
theorem dX3_define_26 : decode cX3_define 26 = .ok (.iload_n 2, 1) := by decide +kernel
theorem dX3_define_27 : decode cX3_define 27 = .ok (.invokevirtual 104, 3) := by decide +kernel
theorem dX3_define_30 : decode cX3_define 30 = .ok (.iastore, 1) := by decide +kernel
theorem dX3_define_31 : decode cX3_define 31 = .ok (.aload_n 0, 1) := by decide +kernel
theorem dX3_define_32 : decode cX3_define 32 = .ok (.aload_n 0, 1) := by decide +kernel
theorem dX3_define_33 : decode cX3_define 33 = .ok (.getfield 86, 3) := by decide +kernel
theorem dX3_define_36 : decode cX3_define 36 = .ok (.iconst 1, 1) := by decide +kernel
theorem dX3_define_37 : decode cX3_define 37 = .ok (.iadd, 1) := by decide +kernel
theorem dX3_define_38 : decode cX3_define 38 = .ok (.putfield 86, 3) := by decide +kernel
theorem dX3_define_41 : decode cX3_define 41 = .ok (.return_, 1) := by decide +kernel
set_option maxRecDepth 20000 in
theorem ggX3_find_X3_isLoaded : GoodIn wsX3_find wsX3_isLoaded := goodIn_r _ [6, 7, 8, 9, 5, 10, 11, 12, 13, 55, 56, 57, 58, 59, 60, 61, 62, 63, 64, 65, 66, 67, 68, 69, 70, 71, 72, 73] (by decide +kernel) (by decide +kernel)
set_option maxRecDepth 20000 in
theorem gX3_find_X3_isLoaded : GoodIn wsX3_find (wsV RX3 80 RX3 yX3_isLoaded wsX3_isLoaded) := goodIn_app (goodIn_of _ (by decide +kernel)) ggX3_find_X3_isLoaded
set_option maxRecDepth 20000 in
theorem ggX3_find_X3_in : GoodIn wsX3_find wsX3_in := goodIn_r _ [13] (by decide +kernel) (by decide +kernel)
set_option maxRecDepth 20000 in
theorem gX3_find_X3_in : GoodIn wsX3_find (va_wsS RX3 63 yX3_in wsX3_in) := goodIn_app (goodIn_of _ (by decide +kernel)) ggX3_find_X3_in
set_option maxRecDepth 20000 in
theorem ggX3_find_X3_holder : GoodIn wsX3_find wsX3_holder := goodIn_r _ [17, 18, 19, 20, 21, 22, 23, 5, 24, 25, 26, 27, 28, 29, 7, 30, 31, 32, 33, 34, 35, 36, 37, 38, 39, 55, 56, 57, 58, 59, 60, 61, 62, 63, 64, 65, 66, 67, 68, 69, 70, 71, 72, 73] (by decide +kernel) (by decide +kernel)
set_option maxRecDepth 20000 in
theorem gX3_find_X3_holder : GoodIn wsX3_find (wsV RX3 104 RX3 yX3_holder wsX3_holder) := goodIn_app (goodIn_of _ (by decide +kernel)) ggX3_find_X3_holder
set_option maxRecDepth 20000 in
theorem ggX3_find_X3_needs : GoodIn wsX3_find wsX3_needs := goodIn_r _ [43, 44, 1, 19, 14, 15, 16, 5, 17, 18, 20, 21, 22, 23, 24, 25, 26, 27, 28, 29, 7, 30, 31, 32, 33, 34, 35, 36, 37, 38, 39, 55, 56, 57, 58, 59, 60, 61, 62, 63, 64, 65, 66, 67, 68, 69, 70, 71, 72, 73] (by decide +kernel) (by decide +kernel)
set_option maxRecDepth 20000 in
theorem gX3_find_X3_needs : GoodIn wsX3_find (wsV RX3 108 RX3 yX3_needs wsX3_needs) := goodIn_app (goodIn_of _ (by decide +kernel)) ggX3_find_X3_needs
set_option maxRecDepth 20000 in
theorem ggX3_find_X3_throwsBy : GoodIn wsX3_find wsX3_throwsBy := goodIn_r _ [48, 49, 55, 56, 57, 58, 59, 60, 61, 62, 63, 64, 65, 66, 67, 68, 69, 70, 71, 72, 73] (by decide +kernel) (by decide +kernel)
set_option maxRecDepth 20000 in
theorem gX3_find_X3_throwsBy : GoodIn wsX3_find (wsV RX3 71 RX3 yX3_throwsBy wsX3_throwsBy) := goodIn_app (goodIn_of _ (by decide +kernel)) ggX3_find_X3_throwsBy
set_option maxRecDepth 20000 in
theorem ggX3_find_X3_define : GoodIn wsX3_find wsX3_define := goodIn_r _ [53, 19, 44, 54, 14, 15, 16, 5, 17, 18, 20, 21, 22, 23, 24, 25, 26, 27, 28, 29, 7, 30, 31, 32, 33, 34, 35, 36, 37, 38, 39, 55, 56, 57, 58, 59, 60, 61, 62, 63, 64, 65, 66, 67, 68, 69, 70, 71, 72, 73] (by decide +kernel) (by decide +kernel)
set_option maxRecDepth 20000 in
theorem gX3_find_X3_define : GoodIn wsX3_find (wsV RX3 111 RX3 yX3_define wsX3_define) := goodIn_app (goodIn_of _ (by decide +kernel)) ggX3_find_X3_define
theorem dX3_find_0 : decode cX3_find 0 = .ok (.aload_n 0, 1) := by decide +kernel
theorem dX3_find_1 : decode cX3_find 1 = .ok (.iload_n 1, 1) := by decide +kernel
theorem dX3_find_2 : decode cX3_find 2 = .ok (.invokevirtual 80, 3) := by decide +kernel
theorem dX3_find_5 : decode cX3_find 5 = .ok (.ifCond .eq 17, 3) := by decide +kernel
theorem dX3_find_8 : decode cX3_find 8 = .ok (.iload_n 2, 1) := by decide +kernel
theorem dX3_find_9 : decode cX3_find 9 = .ok (.iconst 0, 1) := by decide +kernel
theorem dX3_find_10 : decode cX3_find 10 = .ok (.bipush 23, 2) := by decide +kernel
theorem dX3_find_12 : decode cX3_find 12 = .ok (.invokestatic 63, 3) := by decide +kernel
theorem dX3_find_15 : decode cX3_find 15 = .ok (.ifCond .eq 7, 3) := by decide +kernel
theorem dX3_find_18 : decode cX3_find 18 = .ok (.iconst 1, 1) := by decide +kernel
theorem dX3_find_19 : decode cX3_find 19 = .ok (.goto 4, 3) := by decide +kernel
theorem dX3_find_22 : decode cX3_find 22 = .ok (.iconst 0, 1) := by decide +kernel
theorem dX3_find_23 : decode cX3_find 23 = .ok (.istore_n 3, 1) := by decide +kernel
theorem dX3_find_24 : decode cX3_find 24 = .ok (.iload_n 3, 1) := by decide +kernel
theorem dX3_find_25 : decode cX3_find 25 = .ok (.ifCond .eq 12, 3) := by decide +kernel
theorem dX3_find_28 : decode cX3_find 28 = .ok (.aload_n 0, 1) := by decide +kernel
theorem dX3_find_29 : decode cX3_find 29 = .ok (.iload_n 1, 1) := by decide +kernel
theorem dX3_find_30 : decode cX3_find 30 = .ok (.iload_n 2, 1) := by decide +kernel
theorem dX3_find_31 : decode cX3_find 31 = .ok (.invokevirtual 104, 3) := by decide +kernel
theorem dX3_find_34 : decode cX3_find 34 = .ok (.goto 4, 3) := by decide +kernel
theorem dX3_find_37 : decode cX3_find 37 = .ok (.iconst 0, 1) := by decide +kernel
theorem dX3_find_38 : decode cX3_find 38 = .ok (.istore 4, 2) := by decide +kernel
theorem dX3_find_40 : decode cX3_find 40 = .ok (.iload_n 3, 1) := by decide +kernel
theorem dX3_find_41 : decode cX3_find 41 = .ok (.ifCond .eq 24, 3) := by decide +kernel
theorem dX3_find_44 : decode cX3_find 44 = .ok (.iload 4, 2) := by decide +kernel
theorem dX3_find_46 : decode cX3_find 46 = .ok (.iconst 0, 1) := by decide +kernel
theorem dX3_find_47 : decode cX3_find 47 = .ok (.bipush 7, 2) := by decide +kernel
theorem dX3_find_49 : decode cX3_find 49 = .ok (.invokestatic 63, 3) := by decide +kernel
theorem dX3_find_52 : decode cX3_find 52 = .ok (.ifCond .eq 13, 3) := by decide +kernel
theorem dX3_find_55 : decode cX3_find 55 = .ok (.aload_n 0, 1) := by decide +kernel
theorem dX3_find_56 : decode cX3_find 56 = .ok (.iload 4, 2) := by decide +kernel
theorem dX3_find_58 : decode cX3_find 58 = .ok (.iload_n 2, 1) := by decide +kernel
theorem dX3_find_59 : decode cX3_find 59 = .ok (.invokevirtual 108, 3) := by decide +kernel
theorem dX3_find_62 : decode cX3_find 62 = .ok (.goto 4, 3) := by decide +kernel
theorem dX3_find_65 : decode cX3_find 65 = .ok (.iconst 0, 1) := by decide +kernel
theorem dX3_find_66 : decode cX3_find 66 = .ok (.istore 5, 2) := by decide +kernel
theorem dX3_find_68 : decode cX3_find 68 = .ok (.aload_n 0, 1) := by decide +kernel
theorem dX3_find_69 : decode cX3_find 69 = .ok (.iload_n 3, 1) := by decide +kernel
theorem dX3_find_70 : decode cX3_find 70 = .ok (.ifCond .ne 7, 3) := by decide +kernel
theorem dX3_find_73 : decode cX3_find 73 = .ok (.iconst 1, 1) := by decide +kernel
theorem dX3_find_74 : decode cX3_find 74 = .ok (.goto 22, 3) := by decide +kernel
theorem dX3_find_77 : decode cX3_find 77 = .ok (.iload 4, 2) := by decide +kernel
theorem dX3_find_79 : decode cX3_find 79 = .ok (.ifCond .ge 7, 3) := by decide +kernel
theorem dX3_find_82 : decode cX3_find 82 = .ok (.iconst 2, 1) := by decide +kernel
theorem dX3_find_83 : decode cX3_find 83 = .ok (.goto 13, 3) := by decide +kernel
theorem dX3_find_86 : decode cX3_find 86 = .ok (.iload 5, 2) := by decide +kernel
theorem dX3_find_88 : decode cX3_find 88 = .ok (.ifCond .ge 7, 3) := by decide +kernel
theorem dX3_find_91 : decode cX3_find 91 = .ok (.iconst 3, 1) := by decide +kernel
theorem dX3_find_92 : decode cX3_find 92 = .ok (.goto 4, 3) := by decide +kernel
theorem dX3_find_95 : decode cX3_find 95 = .ok (.iconst 0, 1) := by decide +kernel
theorem dX3_find_96 : decode cX3_find 96 = .ok (.invokevirtual 71, 3) := by decide +kernel
theorem dX3_find_99 : decode cX3_find 99 = .ok (.ifCond .eq 5, 3) := by decide +kernel
theorem dX3_find_102 : decode cX3_find 102 = .ok (.iconst 0, 1) := by decide +kernel
theorem dX3_find_103 : decode cX3_find 103 = .ok (.ireturn, 1) := by decide +kernel
theorem dX3_find_104 : decode cX3_find 104 = .ok (.iload 5, 2) := by decide +kernel
theorem dX3_find_106 : decode cX3_find 106 = .ok (.iconst 1, 1) := by decide +kernel
theorem dX3_find_107 : decode cX3_find 107 = .ok (.isub, 1) := by decide +kernel
theorem dX3_find_108 : decode cX3_find 108 = .ok (.istore 6, 2) := by decide +kernel
theorem dX3_find_110 : decode cX3_find 110 = .ok (.iload 6, 2) := by decide +kernel
theorem dX3_find_112 : decode cX3_find 112 = .ok (.ifCond .lt 20, 3) := by decide +kernel
theorem dX3_find_115 : decode cX3_find 115 = .ok (.aload_n 0, 1) := by decide +kernel
theorem dX3_find_116 : decode cX3_find 116 = .ok (.aload_n 0, 1) := by decide +kernel
theorem dX3_find_117 : decode cX3_find 117 = .ok (.getfield 56, 3) := by decide +kernel
theorem dX3_find_120 : decode cX3_find 120 = .ok (.iload 6, 2) := by decide +kernel
theorem dX3_find_122 : decode cX3_find 122 = .ok (.iaload, 1) := by decide +kernel
theorem dX3_find_123 : decode cX3_find 123 = .ok (.invokevirtual 111, 3) := by decide +kernel
theorem dX3_find_126 : decode cX3_find 126 = .ok (.iinc 6 (-1), 3) := by decide +kernel
theorem dX3_find_129 : decode cX3_find 129 = .ok (.goto (-19), 3) := by decide +kernel
theorem dX3_find_132 : decode cX3_find 132 = .ok (.iload 4, 2) := by decide +kernel
theorem dX3_find_134 : decode cX3_find 134 = .ok (.ireturn, 1) := by decide +kernel
set_option maxRecDepth 20000 in
theorem ggX3_visible_X3_isLoaded : GoodIn wsX3_visible wsX3_isLoaded := goodIn_r _ [8, 9, 10, 11, 7, 12, 13, 14, 15, 36, 37, 38, 39, 40, 41, 42, 43, 44, 45, 46, 47, 48, 49, 50, 51, 52, 53, 54] (by decide +kernel) (by decide +kernel)
set_option maxRecDepth 20000 in
theorem gX3_visible_X3_isLoaded : GoodIn wsX3_visible (wsV RX3 80 RX3 yX3_isLoaded wsX3_isLoaded) := goodIn_app (goodIn_of _ (by decide +kernel)) ggX3_visible_X3_isLoaded
set_option maxRecDepth 20000 in
theorem ggX3_visible_X3_in : GoodIn wsX3_visible wsX3_in := goodIn_r _ [15] (by decide +kernel) (by decide +kernel)
set_option maxRecDepth 20000 in
theorem gX3_visible_X3_in : GoodIn wsX3_visible (va_wsS RX3 63 yX3_in wsX3_in) := goodIn_app (goodIn_of _ (by decide +kernel)) ggX3_visible_X3_in
set_option maxRecDepth 20000 in
theorem ggX3_visible_X3_see : GoodIn wsX3_visible wsX3_see := goodIn_r _ [19, 2, 20, 21, 22, 23, 24, 9, 25, 26, 27, 28, 29, 7, 30, 31, 32, 33, 34, 35, 3, 36, 37, 38, 39, 40, 41, 42, 43, 44, 45, 46, 47, 48, 49, 50, 51, 52, 53, 54] (by decide +kernel) (by decide +kernel)
set_option maxRecDepth 20000 in
theorem gX3_visible_X3_see : GoodIn wsX3_visible (wsV RX3 100 RX3 yX3_see wsX3_see) := goodIn_app (goodIn_of _ (by decide +kernel)) ggX3_visible_X3_see
theorem dX3_visible_0 : decode cX3_visible 0 = .ok (.aload_n 0, 1) := by decide +kernel
theorem dX3_visible_1 : decode cX3_visible 1 = .ok (.iconst 0, 1) := by decide +kernel
theorem dX3_visible_2 : decode cX3_visible 2 = .ok (.putfield 59, 3) := by decide +kernel
theorem dX3_visible_5 : decode cX3_visible 5 = .ok (.aload_n 0, 1) := by decide +kernel
theorem dX3_visible_6 : decode cX3_visible 6 = .ok (.iload_n 1, 1) := by decide +kernel
theorem dX3_visible_7 : decode cX3_visible 7 = .ok (.invokevirtual 80, 3) := by decide +kernel
theorem dX3_visible_10 : decode cX3_visible 10 = .ok (.ifCond .eq 12, 3) := by decide +kernel
theorem dX3_visible_13 : decode cX3_visible 13 = .ok (.iload_n 2, 1) := by decide +kernel
theorem dX3_visible_14 : decode cX3_visible 14 = .ok (.iconst 0, 1) := by decide +kernel
theorem dX3_visible_15 : decode cX3_visible 15 = .ok (.iconst 5, 1) := by decide +kernel
theorem dX3_visible_16 : decode cX3_visible 16 = .ok (.invokestatic 63, 3) := by decide +kernel
theorem dX3_visible_19 : decode cX3_visible 19 = .ok (.ifCond .ne 5, 3) := by decide +kernel
theorem dX3_visible_22 : decode cX3_visible 22 = .ok (.iconst (-1), 1) := by decide +kernel
theorem dX3_visible_23 : decode cX3_visible 23 = .ok (.ireturn, 1) := by decide +kernel
theorem dX3_visible_24 : decode cX3_visible 24 = .ok (.aload_n 0, 1) := by decide +kernel
theorem dX3_visible_25 : decode cX3_visible 25 = .ok (.iload_n 1, 1) := by decide +kernel
theorem dX3_visible_26 : decode cX3_visible 26 = .ok (.iload_n 2, 1) := by decide +kernel
theorem dX3_visible_27 : decode cX3_visible 27 = .ok (.invokevirtual 100, 3) := by decide +kernel
theorem dX3_visible_30 : decode cX3_visible 30 = .ok (.iload_n 3, 1) := by decide +kernel
theorem dX3_visible_31 : decode cX3_visible 31 = .ok (.iconst 0, 1) := by decide +kernel
theorem dX3_visible_32 : decode cX3_visible 32 = .ok (.aload_n 0, 1) := by decide +kernel
theorem dX3_visible_33 : decode cX3_visible 33 = .ok (.getfield 89, 3) := by decide +kernel
theorem dX3_visible_36 : decode cX3_visible 36 = .ok (.iconst 1, 1) := by decide +kernel
theorem dX3_visible_37 : decode cX3_visible 37 = .ok (.isub, 1) := by decide +kernel
theorem dX3_visible_38 : decode cX3_visible 38 = .ok (.invokestatic 63, 3) := by decide +kernel
theorem dX3_visible_41 : decode cX3_visible 41 = .ok (.ifCond .eq 12, 3) := by decide +kernel
theorem dX3_visible_44 : decode cX3_visible 44 = .ok (.aload_n 0, 1) := by decide +kernel
theorem dX3_visible_45 : decode cX3_visible 45 = .ok (.getfield 41, 3) := by decide +kernel
theorem dX3_visible_48 : decode cX3_visible 48 = .ok (.iload_n 3, 1) := by decide +kernel
theorem dX3_visible_49 : decode cX3_visible 49 = .ok (.iaload, 1) := by decide +kernel
theorem dX3_visible_50 : decode cX3_visible 50 = .ok (.goto 4, 3) := by decide +kernel
theorem dX3_visible_53 : decode cX3_visible 53 = .ok (.iconst (-1), 1) := by decide +kernel
theorem dX3_visible_54 : decode cX3_visible 54 = .ok (.ireturn, 1) := by decide +kernel
set_option maxRecDepth 20000 in
theorem ggX3_why_X3_isLoaded : GoodIn wsX3_why wsX3_isLoaded := goodIn_r _ [8, 3, 9, 10, 7, 11, 12, 13, 14, 40, 41, 42, 43, 44, 45, 46, 47, 48, 49, 50, 51, 52, 53, 54, 55, 56, 57, 58] (by decide +kernel) (by decide +kernel)
set_option maxRecDepth 20000 in
theorem gX3_why_X3_isLoaded : GoodIn wsX3_why (wsV RX3 80 RX3 yX3_isLoaded wsX3_isLoaded) := goodIn_app (goodIn_of _ (by decide +kernel)) ggX3_why_X3_isLoaded
set_option maxRecDepth 20000 in
theorem ggX3_why_X3_in : GoodIn wsX3_why wsX3_in := goodIn_r _ [14] (by decide +kernel) (by decide +kernel)
set_option maxRecDepth 20000 in
theorem gX3_why_X3_in : GoodIn wsX3_why (va_wsS RX3 63 yX3_in wsX3_in) := goodIn_app (goodIn_of _ (by decide +kernel)) ggX3_why_X3_in
set_option maxRecDepth 20000 in
theorem ggX3_why_X3_holder : GoodIn wsX3_why wsX3_holder := goodIn_r _ [18, 19, 2, 20, 21, 22, 23, 7, 24, 25, 26, 27, 28, 29, 3, 30, 31, 32, 33, 34, 35, 36, 37, 38, 39, 40, 41, 42, 43, 44, 45, 46, 47, 48, 49, 50, 51, 52, 53, 54, 55, 56, 57, 58] (by decide +kernel) (by decide +kernel)
set_option maxRecDepth 20000 in
theorem gX3_why_X3_holder : GoodIn wsX3_why (wsV RX3 104 RX3 yX3_holder wsX3_holder) := goodIn_app (goodIn_of _ (by decide +kernel)) ggX3_why_X3_holder
theorem dX3_why_0 : decode cX3_why 0 = .ok (.aload_n 0, 1) := by decide +kernel
theorem dX3_why_1 : decode cX3_why 1 = .ok (.iconst 0, 1) := by decide +kernel
theorem dX3_why_2 : decode cX3_why 2 = .ok (.putfield 59, 3) := by decide +kernel
theorem dX3_why_5 : decode cX3_why 5 = .ok (.aload_n 0, 1) := by decide +kernel
theorem dX3_why_6 : decode cX3_why 6 = .ok (.iload_n 1, 1) := by decide +kernel
theorem dX3_why_7 : decode cX3_why 7 = .ok (.invokevirtual 80, 3) := by decide +kernel
theorem dX3_why_10 : decode cX3_why 10 = .ok (.ifCond .eq 13, 3) := by decide +kernel
theorem dX3_why_13 : decode cX3_why 13 = .ok (.iload_n 2, 1) := by decide +kernel
theorem dX3_why_14 : decode cX3_why 14 = .ok (.iconst 0, 1) := by decide +kernel
theorem dX3_why_15 : decode cX3_why 15 = .ok (.bipush 23, 2) := by decide +kernel
theorem dX3_why_17 : decode cX3_why 17 = .ok (.invokestatic 63, 3) := by decide +kernel
theorem dX3_why_20 : decode cX3_why 20 = .ok (.ifCond .ne 5, 3) := by decide +kernel
theorem dX3_why_23 : decode cX3_why 23 = .ok (.iconst 1, 1) := by decide +kernel
theorem dX3_why_24 : decode cX3_why 24 = .ok (.ireturn, 1) := by decide +kernel
theorem dX3_why_25 : decode cX3_why 25 = .ok (.aload_n 0, 1) := by decide +kernel
theorem dX3_why_26 : decode cX3_why 26 = .ok (.iload_n 1, 1) := by decide +kernel
theorem dX3_why_27 : decode cX3_why 27 = .ok (.iload_n 2, 1) := by decide +kernel
theorem dX3_why_28 : decode cX3_why 28 = .ok (.invokevirtual 104, 3) := by decide +kernel
theorem dX3_why_31 : decode cX3_why 31 = .ok (.ifCond .lt 5, 3) := by decide +kernel
theorem dX3_why_34 : decode cX3_why 34 = .ok (.iconst 0, 1) := by decide +kernel
theorem dX3_why_35 : decode cX3_why 35 = .ok (.ireturn, 1) := by decide +kernel
theorem dX3_why_36 : decode cX3_why 36 = .ok (.iconst 0, 1) := by decide +kernel
theorem dX3_why_37 : decode cX3_why 37 = .ok (.istore_n 3, 1) := by decide +kernel
theorem dX3_why_38 : decode cX3_why 38 = .ok (.iconst 0, 1) := by decide +kernel
theorem dX3_why_39 : decode cX3_why 39 = .ok (.istore 4, 2) := by decide +kernel
theorem dX3_why_41 : decode cX3_why 41 = .ok (.iconst 0, 1) := by decide +kernel
theorem dX3_why_42 : decode cX3_why 42 = .ok (.istore 5, 2) := by decide +kernel
theorem dX3_why_44 : decode cX3_why 44 = .ok (.iload 5, 2) := by decide +kernel
theorem dX3_why_46 : decode cX3_why 46 = .ok (.bipush 8, 2) := by decide +kernel
theorem dX3_why_48 : decode cX3_why 48 = .ok (.if_icmp .ge 85, 3) := by decide +kernel
theorem dX3_why_51 : decode cX3_why 51 = .ok (.iload_n 3, 1) := by decide +kernel
theorem dX3_why_52 : decode cX3_why 52 = .ok (.ifCond .ne 30, 3) := by decide +kernel
theorem dX3_why_55 : decode cX3_why 55 = .ok (.aload_n 0, 1) := by decide +kernel
theorem dX3_why_56 : decode cX3_why 56 = .ok (.getfield 19, 3) := by decide +kernel
theorem dX3_why_59 : decode cX3_why 59 = .ok (.bipush 24, 2) := by decide +kernel
theorem dX3_why_61 : decode cX3_why 61 = .ok (.iload 5, 2) := by decide +kernel
theorem dX3_why_63 : decode cX3_why 63 = .ok (.imul, 1) := by decide +kernel
theorem dX3_why_64 : decode cX3_why 64 = .ok (.iload_n 2, 1) := by decide +kernel
theorem dX3_why_65 : decode cX3_why 65 = .ok (.iadd, 1) := by decide +kernel
theorem dX3_why_66 : decode cX3_why 66 = .ok (.iaload, 1) := by decide +kernel
theorem dX3_why_67 : decode cX3_why 67 = .ok (.bipush (-3), 2) := by decide +kernel
theorem dX3_why_69 : decode cX3_why 69 = .ok (.if_icmp .eq 17, 3) := by decide +kernel
theorem dX3_why_72 : decode cX3_why 72 = .ok (.aload_n 0, 1) := by decide +kernel
theorem dX3_why_73 : decode cX3_why 73 = .ok (.getfield 13, 3) := by decide +kernel
theorem dX3_why_76 : decode cX3_why 76 = .ok (.iload 5, 2) := by decide +kernel
theorem dX3_why_78 : decode cX3_why 78 = .ok (.baload, 1) := by decide +kernel
theorem dX3_why_79 : decode cX3_why 79 = .ok (.ifCond .eq 7, 3) := by decide +kernel
theorem dX3_why_82 : decode cX3_why 82 = .ok (.iconst 1, 1) := by decide +kernel
theorem dX3_why_83 : decode cX3_why 83 = .ok (.goto 4, 3) := by decide +kernel
theorem dX3_why_86 : decode cX3_why 86 = .ok (.iconst 0, 1) := by decide +kernel
theorem dX3_why_87 : decode cX3_why 87 = .ok (.istore_n 3, 1) := by decide +kernel
theorem dX3_why_88 : decode cX3_why 88 = .ok (.iload 4, 2) := by decide +kernel
theorem dX3_why_90 : decode cX3_why 90 = .ok (.ifCond .ne 30, 3) := by decide +kernel
theorem dX3_why_93 : decode cX3_why 93 = .ok (.aload_n 0, 1) := by decide +kernel
theorem dX3_why_94 : decode cX3_why 94 = .ok (.getfield 19, 3) := by decide +kernel
theorem dX3_why_97 : decode cX3_why 97 = .ok (.bipush 24, 2) := by decide +kernel
theorem dX3_why_99 : decode cX3_why 99 = .ok (.iload 5, 2) := by decide +kernel
theorem dX3_why_101 : decode cX3_why 101 = .ok (.imul, 1) := by decide +kernel
theorem dX3_why_102 : decode cX3_why 102 = .ok (.iload_n 2, 1) := by decide +kernel
theorem dX3_why_103 : decode cX3_why 103 = .ok (.iadd, 1) := by decide +kernel
theorem dX3_why_104 : decode cX3_why 104 = .ok (.iaload, 1) := by decide +kernel
theorem dX3_why_105 : decode cX3_why 105 = .ok (.bipush (-3), 2) := by decide +kernel
theorem dX3_why_107 : decode cX3_why 107 = .ok (.if_icmp .eq 17, 3) := by decide +kernel
theorem dX3_why_110 : decode cX3_why 110 = .ok (.aload_n 0, 1) := by decide +kernel
theorem dX3_why_111 : decode cX3_why 111 = .ok (.getfield 13, 3) := by decide +kernel
theorem dX3_why_114 : decode cX3_why 114 = .ok (.iload 5, 2) := by decide +kernel
theorem dX3_why_116 : decode cX3_why 116 = .ok (.baload, 1) := by decide +kernel
theorem dX3_why_117 : decode cX3_why 117 = .ok (.ifCond .ne 7, 3) := by decide +kernel
theorem dX3_why_120 : decode cX3_why 120 = .ok (.iconst 1, 1) := by decide +kernel
theorem dX3_why_121 : decode cX3_why 121 = .ok (.goto 4, 3) := by decide +kernel
theorem dX3_why_124 : decode cX3_why 124 = .ok (.iconst 0, 1) := by decide +kernel
theorem dX3_why_125 : decode cX3_why 125 = .ok (.istore 4, 2) := by decide +kernel
theorem dX3_why_127 : decode cX3_why 127 = .ok (.iinc 5 1, 3) := by decide +kernel
theorem dX3_why_130 : decode cX3_why 130 = .ok (.goto (-86), 3) := by decide +kernel
theorem dX3_why_133 : decode cX3_why 133 = .ok (.iload_n 3, 1) := by decide +kernel
theorem dX3_why_134 : decode cX3_why 134 = .ok (.ifCond .eq 7, 3) := by decide +kernel
theorem dX3_why_137 : decode cX3_why 137 = .ok (.iconst 2, 1) := by decide +kernel
theorem dX3_why_138 : decode cX3_why 138 = .ok (.goto 13, 3) := by decide +kernel
theorem dX3_why_141 : decode cX3_why 141 = .ok (.iload 4, 2) := by decide +kernel
theorem dX3_why_143 : decode cX3_why 143 = .ok (.ifCond .eq 7, 3) := by decide +kernel
theorem dX3_why_146 : decode cX3_why 146 = .ok (.iconst 3, 1) := by decide +kernel
theorem dX3_why_147 : decode cX3_why 147 = .ok (.goto 4, 3) := by decide +kernel
theorem dX3_why_150 : decode cX3_why 150 = .ok (.iconst 4, 1) := by decide +kernel
theorem dX3_why_151 : decode cX3_why 151 = .ok (.ireturn, 1) := by decide +kernel
set_option maxRecDepth 20000 in
theorem ggX3_state_X3_isModule : GoodIn wsX3_state wsX3_isModule := goodIn_r _ [8, 9, 10, 7, 11] (by decide +kernel) (by decide +kernel)
set_option maxRecDepth 20000 in
theorem gX3_state_X3_isModule : GoodIn wsX3_state (va_wsS RX3 67 yX3_isModule wsX3_isModule) := goodIn_app (goodIn_of _ (by decide +kernel)) ggX3_state_X3_isModule
set_option maxRecDepth 20000 in
theorem ggX3_state_X3_judge : GoodIn wsX3_state wsX3_judge := goodIn_r _ [15, 3, 4, 16, 17, 18, 19, 20, 21, 22, 23, 24, 25, 26, 27, 28, 29, 30, 31, 32, 33, 34, 35, 36, 37] (by decide +kernel) (by decide +kernel)
set_option maxRecDepth 20000 in
theorem gX3_state_X3_judge : GoodIn wsX3_state (wsV RX3 77 RX3 yX3_judge wsX3_judge) := goodIn_app (goodIn_of _ (by decide +kernel)) ggX3_state_X3_judge
theorem dX3_state_0 : decode cX3_state 0 = .ok (.aload_n 0, 1) := by decide +kernel
theorem dX3_state_1 : decode cX3_state 1 = .ok (.iconst 0, 1) := by decide +kernel
theorem dX3_state_2 : decode cX3_state 2 = .ok (.putfield 59, 3) := by decide +kernel
theorem dX3_state_5 : decode cX3_state 5 = .ok (.iload_n 1, 1) := by decide +kernel
theorem dX3_state_6 : decode cX3_state 6 = .ok (.invokestatic 67, 3) := by decide +kernel
theorem dX3_state_9 : decode cX3_state 9 = .ok (.ifCond .ne 5, 3) := by decide +kernel
theorem dX3_state_12 : decode cX3_state 12 = .ok (.iconst (-1), 1) := by decide +kernel
theorem dX3_state_13 : decode cX3_state 13 = .ok (.ireturn, 1) := by decide +kernel
theorem dX3_state_14 : decode cX3_state 14 = .ok (.aload_n 0, 1) := by decide +kernel
theorem dX3_state_15 : decode cX3_state 15 = .ok (.invokevirtual 77, 3) := by decide +kernel
theorem dX3_state_18 : decode cX3_state 18 = .ok (.aload_n 0, 1) := by decide +kernel
theorem dX3_state_19 : decode cX3_state 19 = .ok (.getfield 13, 3) := by decide +kernel
theorem dX3_state_22 : decode cX3_state 22 = .ok (.iload_n 1, 1) := by decide +kernel
theorem dX3_state_23 : decode cX3_state 23 = .ok (.baload, 1) := by decide +kernel
theorem dX3_state_24 : decode cX3_state 24 = .ok (.ifCond .eq 7, 3) := by decide +kernel
theorem dX3_state_27 : decode cX3_state 27 = .ok (.iconst 3, 1) := by decide +kernel
theorem dX3_state_28 : decode cX3_state 28 = .ok (.goto 30, 3) := by decide +kernel
theorem dX3_state_31 : decode cX3_state 31 = .ok (.aload_n 0, 1) := by decide +kernel
theorem dX3_state_32 : decode cX3_state 32 = .ok (.getfield 16, 3) := by decide +kernel
theorem dX3_state_35 : decode cX3_state 35 = .ok (.iload_n 1, 1) := by decide +kernel
theorem dX3_state_36 : decode cX3_state 36 = .ok (.baload, 1) := by decide +kernel
theorem dX3_state_37 : decode cX3_state 37 = .ok (.ifCond .eq 7, 3) := by decide +kernel
theorem dX3_state_40 : decode cX3_state 40 = .ok (.iconst 2, 1) := by decide +kernel
theorem dX3_state_41 : decode cX3_state 41 = .ok (.goto 17, 3) := by decide +kernel
theorem dX3_state_44 : decode cX3_state 44 = .ok (.aload_n 0, 1) := by decide +kernel
theorem dX3_state_45 : decode cX3_state 45 = .ok (.getfield 7, 3) := by decide +kernel
theorem dX3_state_48 : decode cX3_state 48 = .ok (.iload_n 1, 1) := by decide +kernel
theorem dX3_state_49 : decode cX3_state 49 = .ok (.baload, 1) := by decide +kernel
theorem dX3_state_50 : decode cX3_state 50 = .ok (.ifCond .eq 7, 3) := by decide +kernel
theorem dX3_state_53 : decode cX3_state 53 = .ok (.iconst 1, 1) := by decide +kernel
theorem dX3_state_54 : decode cX3_state 54 = .ok (.goto 4, 3) := by decide +kernel
theorem dX3_state_57 : decode cX3_state 57 = .ok (.iconst 0, 1) := by decide +kernel
theorem dX3_state_58 : decode cX3_state 58 = .ok (.ireturn, 1) := by decide +kernel
set_option maxRecDepth 20000 in
theorem ggX3_above_X3_isModule : GoodIn wsX3_above wsX3_isModule := goodIn_r _ [6, 7, 8, 5, 9] (by decide +kernel) (by decide +kernel)
set_option maxRecDepth 20000 in
theorem gX3_above_X3_isModule : GoodIn wsX3_above (va_wsS RX3 67 yX3_isModule wsX3_isModule) := goodIn_app (goodIn_of _ (by decide +kernel)) ggX3_above_X3_isModule
set_option maxRecDepth 20000 in
theorem ggX3_above_X3_in : GoodIn wsX3_above wsX3_in := goodIn_r _ [9] (by decide +kernel) (by decide +kernel)
set_option maxRecDepth 20000 in
theorem gX3_above_X3_in : GoodIn wsX3_above (va_wsS RX3 63 yX3_in wsX3_in) := goodIn_app (goodIn_of _ (by decide +kernel)) ggX3_above_X3_in
theorem dX3_above_0 : decode cX3_above 0 = .ok (.aload_n 0, 1) := by decide +kernel
theorem dX3_above_1 : decode cX3_above 1 = .ok (.iconst 0, 1) := by decide +kernel
theorem dX3_above_2 : decode cX3_above 2 = .ok (.putfield 59, 3) := by decide +kernel
theorem dX3_above_5 : decode cX3_above 5 = .ok (.iload_n 1, 1) := by decide +kernel
theorem dX3_above_6 : decode cX3_above 6 = .ok (.invokestatic 67, 3) := by decide +kernel
theorem dX3_above_9 : decode cX3_above 9 = .ok (.ifCond .eq 27, 3) := by decide +kernel
theorem dX3_above_12 : decode cX3_above 12 = .ok (.iload_n 2, 1) := by decide +kernel
theorem dX3_above_13 : decode cX3_above 13 = .ok (.iconst 0, 1) := by decide +kernel
theorem dX3_above_14 : decode cX3_above 14 = .ok (.bipush 23, 2) := by decide +kernel
theorem dX3_above_16 : decode cX3_above 16 = .ok (.invokestatic 63, 3) := by decide +kernel
theorem dX3_above_19 : decode cX3_above 19 = .ok (.ifCond .eq 17, 3) := by decide +kernel
theorem dX3_above_22 : decode cX3_above 22 = .ok (.aload_n 0, 1) := by decide +kernel
theorem dX3_above_23 : decode cX3_above 23 = .ok (.getfield 23, 3) := by decide +kernel
theorem dX3_above_26 : decode cX3_above 26 = .ok (.bipush 24, 2) := by decide +kernel
theorem dX3_above_28 : decode cX3_above 28 = .ok (.iload_n 1, 1) := by decide +kernel
theorem dX3_above_29 : decode cX3_above 29 = .ok (.imul, 1) := by decide +kernel
theorem dX3_above_30 : decode cX3_above 30 = .ok (.iload_n 2, 1) := by decide +kernel
theorem dX3_above_31 : decode cX3_above 31 = .ok (.iadd, 1) := by decide +kernel
theorem dX3_above_32 : decode cX3_above 32 = .ok (.iaload, 1) := by decide +kernel
theorem dX3_above_33 : decode cX3_above 33 = .ok (.goto 4, 3) := by decide +kernel
theorem dX3_above_36 : decode cX3_above 36 = .ok (.iconst (-1), 1) := by decide +kernel
theorem dX3_above_37 : decode cX3_above 37 = .ok (.ireturn, 1) := by decide +kernel
theorem dX3_defined_0 : decode cX3_defined 0 = .ok (.aload_n 0, 1) := by decide +kernel
theorem dX3_defined_1 : decode cX3_defined 1 = .ok (.iconst 0, 1) := by decide +kernel
theorem dX3_defined_2 : decode cX3_defined 2 = .ok (.putfield 59, 3) := by decide +kernel
theorem dX3_defined_5 : decode cX3_defined 5 = .ok (.aload_n 0, 1) := by decide +kernel
theorem dX3_defined_6 : decode cX3_defined 6 = .ok (.getfield 86, 3) := by decide +kernel
theorem dX3_defined_9 : decode cX3_defined 9 = .ok (.ireturn, 1) := by decide +kernel
theorem dJ6_bitCount_0f7a4_0 : decode cJ6_bitCount_0f7a4 0 = .ok (.iload_n 0, 1) := by decide +kernel
theorem dJ6_bitCount_0f7a4_1 : decode cJ6_bitCount_0f7a4 1 = .ok (.iload_n 0, 1) := by decide +kernel
theorem dJ6_bitCount_0f7a4_2 : decode cJ6_bitCount_0f7a4 2 = .ok (.iconst 1, 1) := by decide +kernel
theorem dJ6_bitCount_0f7a4_3 : decode cJ6_bitCount_0f7a4 3 = .ok (.iushr, 1) := by decide +kernel
theorem dJ6_bitCount_0f7a4_4 : decode cJ6_bitCount_0f7a4 4 = .ok (.ldc_w 265, 3) := by decide +kernel
theorem dJ6_bitCount_0f7a4_7 : decode cJ6_bitCount_0f7a4 7 = .ok (.iand, 1) := by decide +kernel
theorem dJ6_bitCount_0f7a4_8 : decode cJ6_bitCount_0f7a4 8 = .ok (.isub, 1) := by decide +kernel
theorem dJ6_bitCount_0f7a4_9 : decode cJ6_bitCount_0f7a4 9 = .ok (.istore_n 0, 1) := by decide +kernel
theorem dJ6_bitCount_0f7a4_10 : decode cJ6_bitCount_0f7a4 10 = .ok (.iload_n 0, 1) := by decide +kernel
theorem dJ6_bitCount_0f7a4_11 : decode cJ6_bitCount_0f7a4 11 = .ok (.ldc_w 266, 3) := by decide +kernel
theorem dJ6_bitCount_0f7a4_14 : decode cJ6_bitCount_0f7a4 14 = .ok (.iand, 1) := by decide +kernel
theorem dJ6_bitCount_0f7a4_15 : decode cJ6_bitCount_0f7a4 15 = .ok (.iload_n 0, 1) := by decide +kernel
theorem dJ6_bitCount_0f7a4_16 : decode cJ6_bitCount_0f7a4 16 = .ok (.iconst 2, 1) := by decide +kernel
theorem dJ6_bitCount_0f7a4_17 : decode cJ6_bitCount_0f7a4 17 = .ok (.iushr, 1) := by decide +kernel
theorem dJ6_bitCount_0f7a4_18 : decode cJ6_bitCount_0f7a4 18 = .ok (.ldc_w 266, 3) := by decide +kernel
theorem dJ6_bitCount_0f7a4_21 : decode cJ6_bitCount_0f7a4 21 = .ok (.iand, 1) := by decide +kernel
theorem dJ6_bitCount_0f7a4_22 : decode cJ6_bitCount_0f7a4 22 = .ok (.iadd, 1) := by decide +kernel
theorem dJ6_bitCount_0f7a4_23 : decode cJ6_bitCount_0f7a4 23 = .ok (.istore_n 0, 1) := by decide +kernel
theorem dJ6_bitCount_0f7a4_24 : decode cJ6_bitCount_0f7a4 24 = .ok (.iload_n 0, 1) := by decide +kernel
theorem dJ6_bitCount_0f7a4_25 : decode cJ6_bitCount_0f7a4 25 = .ok (.iload_n 0, 1) := by decide +kernel
theorem dJ6_bitCount_0f7a4_26 : decode cJ6_bitCount_0f7a4 26 = .ok (.iconst 4, 1) := by decide +kernel
theorem dJ6_bitCount_0f7a4_27 : decode cJ6_bitCount_0f7a4 27 = .ok (.iushr, 1) := by decide +kernel
theorem dJ6_bitCount_0f7a4_28 : decode cJ6_bitCount_0f7a4 28 = .ok (.iadd, 1) := by decide +kernel
theorem dJ6_bitCount_0f7a4_29 : decode cJ6_bitCount_0f7a4 29 = .ok (.ldc_w 267, 3) := by decide +kernel
theorem dJ6_bitCount_0f7a4_32 : decode cJ6_bitCount_0f7a4 32 = .ok (.iand, 1) := by decide +kernel
theorem dJ6_bitCount_0f7a4_33 : decode cJ6_bitCount_0f7a4 33 = .ok (.istore_n 0, 1) := by decide +kernel
theorem dJ6_bitCount_0f7a4_34 : decode cJ6_bitCount_0f7a4 34 = .ok (.iload_n 0, 1) := by decide +kernel
theorem dJ6_bitCount_0f7a4_35 : decode cJ6_bitCount_0f7a4 35 = .ok (.iload_n 0, 1) := by decide +kernel
theorem dJ6_bitCount_0f7a4_36 : decode cJ6_bitCount_0f7a4 36 = .ok (.bipush 8, 2) := by decide +kernel
theorem dJ6_bitCount_0f7a4_38 : decode cJ6_bitCount_0f7a4 38 = .ok (.iushr, 1) := by decide +kernel
theorem dJ6_bitCount_0f7a4_39 : decode cJ6_bitCount_0f7a4 39 = .ok (.iadd, 1) := by decide +kernel
theorem dJ6_bitCount_0f7a4_40 : decode cJ6_bitCount_0f7a4 40 = .ok (.istore_n 0, 1) := by decide +kernel
theorem dJ6_bitCount_0f7a4_41 : decode cJ6_bitCount_0f7a4 41 = .ok (.iload_n 0, 1) := by decide +kernel
theorem dJ6_bitCount_0f7a4_42 : decode cJ6_bitCount_0f7a4 42 = .ok (.iload_n 0, 1) := by decide +kernel
theorem dJ6_bitCount_0f7a4_43 : decode cJ6_bitCount_0f7a4 43 = .ok (.bipush 16, 2) := by decide +kernel
theorem dJ6_bitCount_0f7a4_45 : decode cJ6_bitCount_0f7a4 45 = .ok (.iushr, 1) := by decide +kernel
theorem dJ6_bitCount_0f7a4_46 : decode cJ6_bitCount_0f7a4 46 = .ok (.iadd, 1) := by decide +kernel
theorem dJ6_bitCount_0f7a4_47 : decode cJ6_bitCount_0f7a4 47 = .ok (.istore_n 0, 1) := by decide +kernel
theorem dJ6_bitCount_0f7a4_48 : decode cJ6_bitCount_0f7a4 48 = .ok (.iload_n 0, 1) := by decide +kernel
theorem dJ6_bitCount_0f7a4_49 : decode cJ6_bitCount_0f7a4 49 = .ok (.bipush 63, 2) := by decide +kernel
theorem dJ6_bitCount_0f7a4_51 : decode cJ6_bitCount_0f7a4 51 = .ok (.iand, 1) := by decide +kernel
theorem dJ6_bitCount_0f7a4_52 : decode cJ6_bitCount_0f7a4 52 = .ok (.ireturn, 1) := by decide +kernel
set_option maxRecDepth 20000 in
theorem ggL_present_X2_present : GoodIn wsL_present wsX2_present := goodIn_ca (goodIn_ca (goodIn_r _ [7, 8, 9, 10, 11, 12, 13, 14, 6, 15, 16, 17, 18, 19, 20, 21, 22, 23, 24, 25, 26, 27, 28, 29, 30, 31] (by decide +kernel) (by decide +kernel)) (goodIn_sub (fun _ h => List.mem_cons_of_mem _ (List.mem_append_left _ (List.mem_append_right _ h))) (by decide +kernel))) (goodIn_sub (fun _ h => List.mem_cons_of_mem _ (List.mem_append_right _ h)) (by decide +kernel))
set_option maxRecDepth 20000 in
theorem gL_present_X2_present : GoodIn wsL_present (wsV RL 7 RX2 yX2_present wsX2_present) := goodIn_app (goodIn_of _ (by decide +kernel)) ggL_present_X2_present
theorem dL_present_0 : decode cL_present 0 = .ok (.aload_n 0, 1) := by decide +kernel
theorem dL_present_1 : decode cL_present 1 = .ok (.iload_n 1, 1) := by decide +kernel
theorem dL_present_2 : decode cL_present 2 = .ok (.invokevirtual 7, 3) := by decide +kernel
theorem dL_present_5 : decode cL_present 5 = .ok (.goto 9, 3) := by decide +kernel
theorem dL_present_8 : decode cL_present 8 = .ok (.astore_n 2, 1) := by decide +kernel
theorem dL_present_9 : decode cL_present 9 = .ok (.iconst 1, 1) := by decide +kernel
theorem dL_present_10 : decode cL_present 10 = .ok (.ireturn, 1) := by decide +kernel
theorem dL_present_11 : decode cL_present 11 = .ok (.astore_n 2, 1) := by decide +kernel
theorem dL_present_12 : decode cL_present 12 = .ok (.iconst 2, 1) := by decide +kernel
theorem dL_present_13 : decode cL_present 13 = .ok (.ireturn, 1) := by decide +kernel
theorem dL_present_14 : decode cL_present 14 = .ok (.iconst 0, 1) := by decide +kernel
theorem dL_present_15 : decode cL_present 15 = .ok (.ireturn, 1) := by decide +kernel
set_option maxRecDepth 20000 in
theorem ggL_file_X2_file : GoodIn wsL_file wsX2_file := goodIn_ca (goodIn_ca (goodIn_r _ [7, 8, 9, 10, 11, 12, 13, 14, 15, 6, 16, 17, 18, 19, 20, 21, 22, 23, 24, 25, 26, 27, 28, 29, 30, 31, 32, 33, 34, 35, 36, 37, 38, 39, 40, 41, 42, 43, 44, 45, 46, 47, 48, 49, 50, 51, 52, 53] (by decide +kernel) (by decide +kernel)) (goodIn_sub (fun _ h => List.mem_cons_of_mem _ (List.mem_append_left _ (List.mem_append_right _ h))) (by decide +kernel))) (goodIn_sub (fun _ h => List.mem_cons_of_mem _ (List.mem_append_right _ h)) (by decide +kernel))
set_option maxRecDepth 20000 in
theorem gL_file_X2_file : GoodIn wsL_file (wsV RL 17 RX2 yX2_file wsX2_file) := goodIn_app (goodIn_of _ (by decide +kernel)) ggL_file_X2_file
theorem dL_file_0 : decode cL_file 0 = .ok (.aload_n 0, 1) := by decide +kernel
theorem dL_file_1 : decode cL_file 1 = .ok (.iload_n 1, 1) := by decide +kernel
theorem dL_file_2 : decode cL_file 2 = .ok (.iload_n 2, 1) := by decide +kernel
theorem dL_file_3 : decode cL_file 3 = .ok (.iload_n 3, 1) := by decide +kernel
end
section
theorem dL_file_4 : decode cL_file 4 = .ok (.invokevirtual 17, 3) := by decide +kernel
theorem dL_file_7 : decode cL_file 7 = .ok (.goto 11, 3) := by decide +kernel
theorem dL_file_10 : decode cL_file 10 = .ok (.astore 4, 2) := by decide +kernel
theorem dL_file_12 : decode cL_file 12 = .ok (.iconst 1, 1) := by decide +kernel
theorem dL_file_13 : decode cL_file 13 = .ok (.ireturn, 1) := by decide +kernel
theorem dL_file_14 : decode cL_file 14 = .ok (.astore 4, 2) := by decide +kernel
theorem dL_file_16 : decode cL_file 16 = .ok (.iconst 2, 1) := by decide +kernel
theorem dL_file_17 : decode cL_file 17 = .ok (.ireturn, 1) := by decide +kernel
theorem dL_file_18 : decode cL_file 18 = .ok (.iconst 0, 1) := by decide +kernel
theorem dL_file_19 : decode cL_file 19 = .ok (.ireturn, 1) := by decide +kernel
set_option maxRecDepth 20000 in
theorem ggL_depend_X2_depend : GoodIn wsL_depend wsX2_depend := goodIn_ca (goodIn_ca (goodIn_r _ [7, 8, 9, 10, 11, 12, 13, 14, 15, 6, 16, 17, 18, 19, 20, 21, 22, 23, 24, 25, 26, 27, 28, 29, 30, 31, 32, 33, 34, 35, 36, 37, 38, 39, 40, 41, 42, 43, 44, 45, 46, 47, 48, 49, 50, 51, 52, 53, 54, 55, 56, 57, 58, 59, 60] (by decide +kernel) (by decide +kernel)) (goodIn_sub (fun _ h => List.mem_cons_of_mem _ (List.mem_append_left _ (List.mem_append_right _ h))) (by decide +kernel))) (goodIn_sub (fun _ h => List.mem_cons_of_mem _ (List.mem_append_right _ h)) (by decide +kernel))
set_option maxRecDepth 20000 in
theorem gL_depend_X2_depend : GoodIn wsL_depend (wsV RL 21 RX2 yX2_depend wsX2_depend) := goodIn_app (goodIn_of _ (by decide +kernel)) ggL_depend_X2_depend
theorem dL_depend_0 : decode cL_depend 0 = .ok (.aload 6, 2) := by decide +kernel
theorem dL_depend_2 : decode cL_depend 2 = .ok (.iconst 0, 1) := by decide +kernel
theorem dL_depend_3 : decode cL_depend 3 = .ok (.aload_n 0, 1) := by decide +kernel
theorem dL_depend_4 : decode cL_depend 4 = .ok (.iload_n 1, 1) := by decide +kernel
theorem dL_depend_5 : decode cL_depend 5 = .ok (.iload_n 2, 1) := by decide +kernel
theorem dL_depend_6 : decode cL_depend 6 = .ok (.iload_n 3, 1) := by decide +kernel
theorem dL_depend_7 : decode cL_depend 7 = .ok (.iload 4, 2) := by decide +kernel
theorem dL_depend_9 : decode cL_depend 9 = .ok (.iload 5, 2) := by decide +kernel
theorem dL_depend_11 : decode cL_depend 11 = .ok (.invokevirtual 21, 3) := by decide +kernel
theorem dL_depend_14 : decode cL_depend 14 = .ok (.i2l, 1) := by decide +kernel
theorem dL_depend_15 : decode cL_depend 15 = .ok (.lastore, 1) := by decide +kernel
theorem dL_depend_16 : decode cL_depend 16 = .ok (.goto 11, 3) := by decide +kernel
theorem dL_depend_19 : decode cL_depend 19 = .ok (.astore 7, 2) := by decide +kernel
theorem dL_depend_21 : decode cL_depend 21 = .ok (.iconst 1, 1) := by decide +kernel
theorem dL_depend_22 : decode cL_depend 22 = .ok (.ireturn, 1) := by decide +kernel
theorem dL_depend_23 : decode cL_depend 23 = .ok (.astore 7, 2) := by decide +kernel
theorem dL_depend_25 : decode cL_depend 25 = .ok (.iconst 2, 1) := by decide +kernel
theorem dL_depend_26 : decode cL_depend 26 = .ok (.ireturn, 1) := by decide +kernel
theorem dL_depend_27 : decode cL_depend 27 = .ok (.iconst 0, 1) := by decide +kernel
theorem dL_depend_28 : decode cL_depend 28 = .ok (.ireturn, 1) := by decide +kernel
set_option maxRecDepth 20000 in
theorem ggL_relink_X2_relink : GoodIn wsL_relink wsX2_relink := goodIn_ca (goodIn_r _ [6, 7, 8, 9, 10, 11, 12, 5, 13, 14, 15, 16, 17, 18, 19, 20, 21, 22, 23, 24, 25, 26, 27, 28, 29, 30, 31, 32, 33, 34, 35, 36, 37, 38, 39, 40, 41] (by decide +kernel) (by decide +kernel)) (goodIn_sub (fun _ h => List.mem_cons_of_mem _ (List.mem_append_right _ h)) (by decide +kernel))
set_option maxRecDepth 20000 in
theorem gL_relink_X2_relink : GoodIn wsL_relink (wsV RL 25 RX2 yX2_relink wsX2_relink) := goodIn_app (goodIn_of _ (by decide +kernel)) ggL_relink_X2_relink
theorem dL_relink_0 : decode cL_relink 0 = .ok (.aload_n 2, 1) := by decide +kernel
theorem dL_relink_1 : decode cL_relink 1 = .ok (.iconst 0, 1) := by decide +kernel
theorem dL_relink_2 : decode cL_relink 2 = .ok (.aload_n 0, 1) := by decide +kernel
theorem dL_relink_3 : decode cL_relink 3 = .ok (.iload_n 1, 1) := by decide +kernel
theorem dL_relink_4 : decode cL_relink 4 = .ok (.invokevirtual 25, 3) := by decide +kernel
theorem dL_relink_7 : decode cL_relink 7 = .ok (.i2l, 1) := by decide +kernel
theorem dL_relink_8 : decode cL_relink 8 = .ok (.lastore, 1) := by decide +kernel
theorem dL_relink_9 : decode cL_relink 9 = .ok (.goto 6, 3) := by decide +kernel
theorem dL_relink_12 : decode cL_relink 12 = .ok (.astore_n 3, 1) := by decide +kernel
theorem dL_relink_13 : decode cL_relink 13 = .ok (.iconst 1, 1) := by decide +kernel
theorem dL_relink_14 : decode cL_relink 14 = .ok (.ireturn, 1) := by decide +kernel
theorem dL_relink_15 : decode cL_relink 15 = .ok (.iconst 0, 1) := by decide +kernel
theorem dL_relink_16 : decode cL_relink 16 = .ok (.ireturn, 1) := by decide +kernel
set_option maxRecDepth 20000 in
theorem ggL_load_X2_load : GoodIn wsL_load wsX2_load := goodIn_ca (goodIn_ca (goodIn_r _ [7, 8, 9, 10, 11, 12, 13, 14, 6, 15, 16, 17, 18, 19, 20, 21, 22, 23, 24, 25, 26, 27, 28, 29, 30, 31, 32, 33, 34, 35, 36, 37, 38, 39, 40, 41, 42, 43, 44, 45, 46, 47, 48, 49, 50, 51, 52, 53, 54, 55, 56, 57, 58, 59, 60] (by decide +kernel) (by decide +kernel)) (goodIn_sub (fun _ h => List.mem_cons_of_mem _ (List.mem_append_left _ (List.mem_append_right _ h))) (by decide +kernel))) (goodIn_sub (fun _ h => List.mem_cons_of_mem _ (List.mem_append_right _ h)) (by decide +kernel))
set_option maxRecDepth 20000 in
theorem gL_load_X2_load : GoodIn wsL_load (wsV RL 29 RX2 yX2_load wsX2_load) := goodIn_app (goodIn_of _ (by decide +kernel)) ggL_load_X2_load
theorem dL_load_0 : decode cL_load 0 = .ok (.aload_n 2, 1) := by decide +kernel
theorem dL_load_1 : decode cL_load 1 = .ok (.iconst 0, 1) := by decide +kernel
theorem dL_load_2 : decode cL_load 2 = .ok (.aload_n 0, 1) := by decide +kernel
theorem dL_load_3 : decode cL_load 3 = .ok (.iload_n 1, 1) := by decide +kernel
theorem dL_load_4 : decode cL_load 4 = .ok (.invokevirtual 29, 3) := by decide +kernel
theorem dL_load_7 : decode cL_load 7 = .ok (.i2l, 1) := by decide +kernel
theorem dL_load_8 : decode cL_load 8 = .ok (.lastore, 1) := by decide +kernel
theorem dL_load_9 : decode cL_load 9 = .ok (.goto 9, 3) := by decide +kernel
theorem dL_load_12 : decode cL_load 12 = .ok (.astore_n 3, 1) := by decide +kernel
theorem dL_load_13 : decode cL_load 13 = .ok (.iconst 1, 1) := by decide +kernel
theorem dL_load_14 : decode cL_load 14 = .ok (.ireturn, 1) := by decide +kernel
theorem dL_load_15 : decode cL_load 15 = .ok (.astore_n 3, 1) := by decide +kernel
theorem dL_load_16 : decode cL_load 16 = .ok (.iconst 2, 1) := by decide +kernel
theorem dL_load_17 : decode cL_load 17 = .ok (.ireturn, 1) := by decide +kernel
theorem dL_load_18 : decode cL_load 18 = .ok (.iconst 0, 1) := by decide +kernel
theorem dL_load_19 : decode cL_load 19 = .ok (.ireturn, 1) := by decide +kernel
set_option maxRecDepth 20000 in
theorem ggL_unload_X2_unload : GoodIn wsL_unload wsX2_unload := goodIn_ca (goodIn_ca (goodIn_r _ [7, 8, 9, 10, 11, 12, 13, 14, 15, 16, 6, 17, 18, 19, 20, 21, 22, 23, 24, 25, 26, 27, 28, 29, 30, 31, 32, 33, 34, 35, 36, 37, 38, 39, 40, 41, 42, 43, 44, 45, 46, 47, 48, 49, 50, 51, 52, 53, 54, 55, 56, 57, 58, 59] (by decide +kernel) (by decide +kernel)) (goodIn_sub (fun _ h => List.mem_cons_of_mem _ (List.mem_append_left _ (List.mem_append_right _ h))) (by decide +kernel))) (goodIn_sub (fun _ h => List.mem_cons_of_mem _ (List.mem_append_right _ h)) (by decide +kernel))
set_option maxRecDepth 20000 in
theorem gL_unload_X2_unload : GoodIn wsL_unload (wsV RL 34 RX2 yX2_unload wsX2_unload) := goodIn_app (goodIn_of _ (by decide +kernel)) ggL_unload_X2_unload
theorem dL_unload_0 : decode cL_unload 0 = .ok (.aload_n 2, 1) := by decide +kernel
theorem dL_unload_1 : decode cL_unload 1 = .ok (.iconst 0, 1) := by decide +kernel
theorem dL_unload_2 : decode cL_unload 2 = .ok (.aload_n 0, 1) := by decide +kernel
theorem dL_unload_3 : decode cL_unload 3 = .ok (.iload_n 1, 1) := by decide +kernel
theorem dL_unload_4 : decode cL_unload 4 = .ok (.invokevirtual 34, 3) := by decide +kernel
theorem dL_unload_7 : decode cL_unload 7 = .ok (.i2l, 1) := by decide +kernel
theorem dL_unload_8 : decode cL_unload 8 = .ok (.lastore, 1) := by decide +kernel
theorem dL_unload_9 : decode cL_unload 9 = .ok (.goto 9, 3) := by decide +kernel
theorem dL_unload_12 : decode cL_unload 12 = .ok (.astore_n 3, 1) := by decide +kernel
theorem dL_unload_13 : decode cL_unload 13 = .ok (.iconst 1, 1) := by decide +kernel
theorem dL_unload_14 : decode cL_unload 14 = .ok (.ireturn, 1) := by decide +kernel
theorem dL_unload_15 : decode cL_unload 15 = .ok (.astore_n 3, 1) := by decide +kernel
theorem dL_unload_16 : decode cL_unload 16 = .ok (.iconst 2, 1) := by decide +kernel
theorem dL_unload_17 : decode cL_unload 17 = .ok (.ireturn, 1) := by decide +kernel
theorem dL_unload_18 : decode cL_unload 18 = .ok (.iconst 0, 1) := by decide +kernel
theorem dL_unload_19 : decode cL_unload 19 = .ok (.ireturn, 1) := by decide +kernel
set_option maxRecDepth 20000 in
theorem ggL_find_X2_find : GoodIn wsL_find wsX2_find := goodIn_ca (goodIn_ca (goodIn_ca (goodIn_r _ [8, 9, 10, 11, 12, 13, 14, 15, 16, 17, 7, 18, 19, 20, 21, 22, 23, 24, 25, 26, 27, 28, 29, 30, 31, 32, 33, 34, 35, 36, 37, 38, 39, 40, 41, 42, 43, 44, 45, 46, 47, 48, 49, 50, 51, 52, 53, 54, 55, 56, 57, 58, 59, 60, 61, 62, 63, 64, 65, 66, 67, 68, 69, 70, 71, 72, 73, 74, 75, 76, 77, 78, 79, 80, 81, 82, 83, 84, 85, 86, 87, 88, 89, 90, 91, 92, 93, 94, 95, 96, 97, 98, 99, 100, 101] (by decide +kernel) (by decide +kernel)) (goodIn_sub (fun _ h => List.mem_cons_of_mem _ (List.mem_append_left _ (List.mem_append_left _ (List.mem_append_right _ h)))) (by decide +kernel))) (goodIn_sub (fun _ h => List.mem_cons_of_mem _ (List.mem_append_left _ (List.mem_append_right _ h))) (by decide +kernel))) (goodIn_sub (fun _ h => List.mem_cons_of_mem _ (List.mem_append_right _ h)) (by decide +kernel))
set_option maxRecDepth 20000 in
theorem gL_find_X2_find : GoodIn wsL_find (wsV RL 37 RX2 yX2_find wsX2_find) := goodIn_app (goodIn_of _ (by decide +kernel)) ggL_find_X2_find
theorem dL_find_0 : decode cL_find 0 = .ok (.aload_n 3, 1) := by decide +kernel
theorem dL_find_1 : decode cL_find 1 = .ok (.iconst 0, 1) := by decide +kernel
theorem dL_find_2 : decode cL_find 2 = .ok (.aload_n 0, 1) := by decide +kernel
theorem dL_find_3 : decode cL_find 3 = .ok (.iload_n 1, 1) := by decide +kernel
theorem dL_find_4 : decode cL_find 4 = .ok (.iload_n 2, 1) := by decide +kernel
theorem dL_find_5 : decode cL_find 5 = .ok (.invokevirtual 37, 3) := by decide +kernel
theorem dL_find_8 : decode cL_find 8 = .ok (.i2l, 1) := by decide +kernel
theorem dL_find_9 : decode cL_find 9 = .ok (.lastore, 1) := by decide +kernel
theorem dL_find_10 : decode cL_find 10 = .ok (.goto 15, 3) := by decide +kernel
theorem dL_find_13 : decode cL_find 13 = .ok (.astore 4, 2) := by decide +kernel
theorem dL_find_15 : decode cL_find 15 = .ok (.iconst 1, 1) := by decide +kernel
theorem dL_find_16 : decode cL_find 16 = .ok (.ireturn, 1) := by decide +kernel
theorem dL_find_17 : decode cL_find 17 = .ok (.astore 4, 2) := by decide +kernel
theorem dL_find_19 : decode cL_find 19 = .ok (.iconst 2, 1) := by decide +kernel
theorem dL_find_20 : decode cL_find 20 = .ok (.ireturn, 1) := by decide +kernel
theorem dL_find_21 : decode cL_find 21 = .ok (.astore 4, 2) := by decide +kernel
theorem dL_find_23 : decode cL_find 23 = .ok (.iconst 3, 1) := by decide +kernel
theorem dL_find_24 : decode cL_find 24 = .ok (.ireturn, 1) := by decide +kernel
theorem dL_find_25 : decode cL_find 25 = .ok (.iconst 0, 1) := by decide +kernel
theorem dL_find_26 : decode cL_find 26 = .ok (.ireturn, 1) := by decide +kernel
set_option maxRecDepth 20000 in
theorem ggL_law_X2_init : GoodIn wsL_law wsX2_init := goodIn_r _ [9, 10, 11, 12, 13, 14, 15, 16, 17, 18, 19, 20, 21, 22, 23, 24, 25, 26, 27, 28, 29, 30, 31, 32, 33, 34, 35, 36, 37, 38, 39, 40, 41, 42, 43, 44, 45, 46, 47, 366, 367, 368, 369, 370, 371, 391, 392, 393, 394, 395, 396, 397, 398, 399, 400, 401, 402] (by decide +kernel) (by decide +kernel)
set_option maxRecDepth 20000 in
theorem gL_law_X2_init : GoodIn wsL_law (wsX2_init) := ggL_law_X2_init
set_option maxRecDepth 20000 in
theorem ggL_law_X3_init : GoodIn wsL_law wsX3_init := goodIn_r _ [50, 51, 11, 12, 52, 53, 54, 55, 23, 56, 57, 58, 59, 60, 61, 62, 63, 64, 65, 66, 67, 68, 372, 373, 374, 375, 376, 377, 378, 379, 380, 381, 382, 383, 384, 385, 386, 387, 388, 389, 390] (by decide +kernel) (by decide +kernel)
set_option maxRecDepth 20000 in
theorem gL_law_X3_init : GoodIn wsL_law (wsX3_init) := ggL_law_X3_init
set_option maxRecDepth 20000 in
theorem ggL_law_L_present : GoodIn wsL_law wsL_present := goodIn_ca (goodIn_ca (goodIn_r _ [72, 73, 74, 75, 76, 77, 2, 78, 79, 80, 81, 82, 17, 83, 84, 85, 86, 87, 88, 89, 90, 91, 92, 93, 94, 95, 366, 367, 368, 369, 370, 371] (by decide +kernel) (by decide +kernel)) (goodIn_sub (fun _ h => List.mem_append_left _ (List.mem_append_left _ (List.mem_append_right _ h))) (by decide +kernel))) (goodIn_sub (fun _ h => List.mem_append_left _ (List.mem_append_right _ h)) (by decide +kernel))
set_option maxRecDepth 20000 in
theorem gL_law_L_present : GoodIn wsL_law (va_wsS RL 45 yL_present wsL_present) := goodIn_app (goodIn_of _ (by decide +kernel)) ggL_law_L_present
set_option maxRecDepth 20000 in
theorem ggL_law_X3_present : GoodIn wsL_law wsX3_present := goodIn_r _ [99, 53, 100, 101, 5, 102, 103, 104, 105, 106, 107, 108, 109, 110, 372, 373, 374, 375, 376, 377, 378, 379, 380, 381, 382, 383, 384, 385, 386, 387, 388, 389, 390] (by decide +kernel) (by decide +kernel)
set_option maxRecDepth 20000 in
theorem gL_law_X3_present : GoodIn wsL_law (wsV RL 50 RX3 yX3_present wsX3_present) := goodIn_app (goodIn_of _ (by decide +kernel)) ggL_law_X3_present
set_option maxRecDepth 20000 in
theorem ggL_law_X3_thrown : GoodIn wsL_law wsX3_thrown := goodIn_r _ [114, 110, 372, 373, 374, 375, 376, 377, 378, 379, 380, 381, 382, 383, 384, 385, 386, 387, 388, 389, 390] (by decide +kernel) (by decide +kernel)
set_option maxRecDepth 20000 in
theorem gL_law_X3_thrown : GoodIn wsL_law (wsV RL 51 RX3 yX3_thrown wsX3_thrown) := goodIn_app (goodIn_of _ (by decide +kernel)) ggL_law_X3_thrown
set_option maxRecDepth 20000 in
theorem ggL_law_L_file : GoodIn wsL_law wsL_file := goodIn_ca (goodIn_ca (goodIn_r _ [117, 73, 74, 118, 119, 120, 2, 121, 79, 80, 81, 82, 14, 86, 87, 88, 89, 17, 83, 84, 85, 90, 91, 92, 122, 123, 124, 125, 126, 127, 128, 129, 130, 131, 18, 132, 16, 133, 134, 29, 366, 367, 368, 369, 370, 371, 391, 392, 393, 394, 395, 396, 397, 398] (by decide +kernel) (by decide +kernel)) (goodIn_sub (fun _ h => List.mem_append_left _ (List.mem_append_left _ (List.mem_append_right _ h))) (by decide +kernel))) (goodIn_sub (fun _ h => List.mem_append_left _ (List.mem_append_right _ h)) (by decide +kernel))
set_option maxRecDepth 20000 in
theorem gL_law_L_file : GoodIn wsL_law (va_wsS RL 55 yL_file wsL_file) := goodIn_app (goodIn_of _ (by decide +kernel)) ggL_law_L_file
set_option maxRecDepth 20000 in
theorem ggL_law_X3_file : GoodIn wsL_law wsX3_file := goodIn_r _ [138, 54, 56, 139, 140, 141, 5, 142, 53, 100, 101, 102, 103, 104, 105, 106, 107, 108, 109, 110, 372, 373, 374, 375, 376, 377, 378, 379, 380, 381, 382, 383, 384, 385, 386, 387, 388, 389, 390] (by decide +kernel) (by decide +kernel)
set_option maxRecDepth 20000 in
theorem gL_law_X3_file : GoodIn wsL_law (wsV RL 58 RX3 yX3_file wsX3_file) := goodIn_app (goodIn_of _ (by decide +kernel)) ggL_law_X3_file
set_option maxRecDepth 20000 in
theorem ggL_law_L_depend : GoodIn wsL_law wsL_depend := goodIn_ca (goodIn_ca (goodIn_r _ [145, 73, 74, 146, 147, 148, 2, 149, 79, 80, 81, 82, 14, 86, 87, 88, 89, 17, 83, 84, 85, 90, 91, 92, 150, 151, 152, 153, 154, 155, 128, 129, 130, 131, 18, 156, 16, 157, 158, 31, 34, 32, 33, 35, 36, 94, 95, 366, 367, 368, 369, 370, 371, 391, 392, 393, 394, 395, 396, 397, 398] (by decide +kernel) (by decide +kernel)) (goodIn_sub (fun _ h => List.mem_append_left _ (List.mem_append_left _ (List.mem_append_right _ h))) (by decide +kernel))) (goodIn_sub (fun _ h => List.mem_append_left _ (List.mem_append_right _ h)) (by decide +kernel))
set_option maxRecDepth 20000 in
theorem gL_law_L_depend : GoodIn wsL_law (va_wsS RL 59 yL_depend wsL_depend) := goodIn_app (goodIn_of _ (by decide +kernel)) ggL_law_L_depend
set_option maxRecDepth 20000 in
theorem ggL_law_X3_depend : GoodIn wsL_law wsX3_depend := goodIn_r _ [162, 54, 58, 59, 60, 61, 62, 139, 140, 141, 5, 142, 53, 100, 101, 102, 103, 104, 105, 106, 107, 108, 109, 110, 372, 373, 374, 375, 376, 377, 378, 379, 380, 381, 382, 383, 384, 385, 386, 387, 388, 389, 390] (by decide +kernel) (by decide +kernel)
set_option maxRecDepth 20000 in
theorem gL_law_X3_depend : GoodIn wsL_law (wsV RL 62 RX3 yX3_depend wsX3_depend) := goodIn_app (goodIn_of _ (by decide +kernel)) ggL_law_X3_depend
set_option maxRecDepth 20000 in
theorem ggL_law_L_relink : GoodIn wsL_law wsL_relink := goodIn_ca (goodIn_r _ [165, 73, 166, 167, 168, 2, 169, 79, 80, 14, 86, 87, 88, 89, 17, 83, 84, 85, 90, 91, 92, 170, 16, 171, 172, 34, 35, 36, 366, 367, 368, 369, 370, 371, 391, 392, 393, 394, 395, 396, 397, 398] (by decide +kernel) (by decide +kernel)) (goodIn_sub (fun _ h => List.mem_append_left _ (List.mem_append_left _ (List.mem_append_right _ h))) (by decide +kernel))
set_option maxRecDepth 20000 in
theorem gL_law_L_relink : GoodIn wsL_law (va_wsS RL 63 yL_relink wsL_relink) := goodIn_app (goodIn_of _ (by decide +kernel)) ggL_law_L_relink
set_option maxRecDepth 20000 in
theorem ggL_law_X3_relink : GoodIn wsL_law wsX3_relink := goodIn_r _ [176, 58, 139, 140, 141, 5, 142, 53, 100, 101, 102, 103, 104, 105, 106, 107, 108, 109, 110, 372, 373, 374, 375, 376, 377, 378, 379, 380, 381, 382, 383, 384, 385, 386, 387, 388, 389, 390] (by decide +kernel) (by decide +kernel)
set_option maxRecDepth 20000 in
theorem gL_law_X3_relink : GoodIn wsL_law (wsV RL 66 RX3 yX3_relink wsX3_relink) := goodIn_app (goodIn_of _ (by decide +kernel)) ggL_law_X3_relink
set_option maxRecDepth 20000 in
theorem ggL_law_L_load : GoodIn wsL_law wsL_load := goodIn_ca (goodIn_ca (goodIn_r _ [179, 73, 180, 181, 182, 183, 2, 184, 79, 80, 185, 186, 18, 83, 84, 85, 187, 188, 189, 190, 17, 191, 192, 193, 194, 14, 93, 94, 95, 90, 91, 92, 195, 196, 197, 198, 199, 200, 201, 202, 203, 204, 205, 206, 207, 208, 209, 366, 367, 368, 369, 370, 371, 391, 392, 393, 394, 395, 396, 397, 398] (by decide +kernel) (by decide +kernel)) (goodIn_sub (fun _ h => List.mem_append_left _ (List.mem_append_left _ (List.mem_append_right _ h))) (by decide +kernel))) (goodIn_sub (fun _ h => List.mem_append_right _ h) (by decide +kernel))
set_option maxRecDepth 20000 in
theorem gL_law_L_load : GoodIn wsL_law (va_wsS RL 67 yL_load wsL_load) := goodIn_app (goodIn_of _ (by decide +kernel)) ggL_law_L_load
set_option maxRecDepth 20000 in
theorem ggL_law_X3_load : GoodIn wsL_law wsX3_load := goodIn_r _ [213, 55, 65, 58, 59, 54, 214, 215, 216, 5, 217, 53, 62, 100, 101, 102, 103, 104, 105, 106, 107, 108, 109, 110, 372, 373, 374, 375, 376, 377, 378, 379, 380, 381, 382, 383, 384, 385, 386, 387, 388, 389, 390] (by decide +kernel) (by decide +kernel)
set_option maxRecDepth 20000 in
theorem gL_law_X3_load : GoodIn wsL_law (wsV RL 69 RX3 yX3_load wsX3_load) := goodIn_app (goodIn_of _ (by decide +kernel)) ggL_law_X3_load
set_option maxRecDepth 20000 in
theorem ggL_law_L_unload : GoodIn wsL_law wsL_unload := goodIn_ca (goodIn_ca (goodIn_r _ [220, 73, 74, 221, 222, 223, 2, 224, 79, 80, 81, 82, 14, 18, 128, 129, 130, 131, 83, 84, 85, 90, 91, 92, 225, 226, 227, 228, 229, 16, 230, 231, 30, 232, 233, 234, 235, 236, 237, 238, 239, 240, 241, 93, 94, 95, 366, 367, 368, 369, 370, 371, 391, 392, 393, 394, 395, 396, 397, 398] (by decide +kernel) (by decide +kernel)) (goodIn_sub (fun _ h => List.mem_append_left _ (List.mem_append_left _ (List.mem_append_right _ h))) (by decide +kernel))) (goodIn_sub (fun _ h => List.mem_append_left _ (List.mem_append_right _ h)) (by decide +kernel))
set_option maxRecDepth 20000 in
theorem gL_law_L_unload : GoodIn wsL_law (va_wsS RL 70 yL_unload wsL_unload) := goodIn_app (goodIn_of _ (by decide +kernel)) ggL_law_L_unload
set_option maxRecDepth 20000 in
theorem ggL_law_X3_unload : GoodIn wsL_law wsX3_unload := goodIn_r _ [245, 57, 246, 54, 247, 248, 249, 5, 250, 100, 101, 102, 103, 104, 105, 251, 252, 253, 254, 58, 62, 59, 106, 107, 108, 109, 110, 372, 373, 374, 375, 376, 377, 378, 379, 380, 381, 382, 383, 384, 385, 386, 387, 388, 389, 390] (by decide +kernel) (by decide +kernel)
set_option maxRecDepth 20000 in
theorem gL_law_X3_unload : GoodIn wsL_law (wsV RL 72 RX3 yX3_unload wsX3_unload) := goodIn_app (goodIn_of _ (by decide +kernel)) ggL_law_X3_unload
set_option maxRecDepth 20000 in
theorem ggL_law_L_find : GoodIn wsL_law wsL_find := goodIn_ca (goodIn_ca (goodIn_ca (goodIn_r _ [257, 73, 180, 74, 258, 259, 260, 2, 261, 79, 80, 185, 186, 81, 82, 128, 129, 130, 131, 18, 83, 84, 85, 90, 91, 92, 122, 123, 124, 262, 263, 264, 265, 22, 14, 266, 267, 268, 269, 42, 21, 43, 44, 45, 46, 47, 270, 16, 271, 272, 273, 132, 133, 134, 29, 274, 275, 276, 40, 94, 95, 277, 278, 279, 280, 93, 281, 282, 283, 284, 24, 25, 285, 286, 287, 288, 236, 237, 238, 30, 289, 290, 291, 292, 366, 367, 368, 369, 370, 371, 399, 400, 401, 402, 391, 392, 393, 394, 395, 396, 397, 398] (by decide +kernel) (by decide +kernel)) (goodIn_sub (fun _ h => List.mem_append_left _ (List.mem_append_left _ (List.mem_append_right _ h))) (by decide +kernel))) (goodIn_sub (fun _ h => List.mem_append_right _ h) (by decide +kernel))) (goodIn_sub (fun _ h => List.mem_append_left _ (List.mem_append_right _ h)) (by decide +kernel))
set_option maxRecDepth 20000 in
theorem gL_law_L_find : GoodIn wsL_law (va_wsS RL 73 yL_find wsL_find) := goodIn_app (goodIn_of _ (by decide +kernel)) ggL_law_L_find
set_option maxRecDepth 20000 in
theorem ggL_law_X3_find : GoodIn wsL_law wsX3_find := goodIn_r _ [296, 68, 247, 248, 249, 5, 250, 54, 100, 101, 102, 103, 104, 105, 297, 298, 299, 300, 301, 56, 63, 302, 303, 304, 305, 64, 66, 67, 58, 59, 60, 61, 306, 307, 308, 309, 310, 311, 312, 313, 314, 315, 316, 317, 57, 106, 107, 108, 109, 110, 318, 319, 320, 321, 246, 372, 373, 374, 375, 376, 377, 378, 379, 380, 381, 382, 383, 384, 385, 386, 387, 388, 389, 390] (by decide +kernel) (by decide +kernel)
set_option maxRecDepth 20000 in
theorem gL_law_X3_find : GoodIn wsL_law (wsV RL 76 RX3 yX3_find wsX3_find) := goodIn_app (goodIn_of _ (by decide +kernel)) ggL_law_X3_find
set_option maxRecDepth 20000 in
theorem ggL_law_X2_visible : GoodIn wsL_law wsX2_visible := goodIn_r _ [325, 22, 128, 129, 130, 2, 131, 18, 83, 84, 85, 90, 91, 92, 266, 267, 268, 269, 14, 42, 21, 43, 44, 45, 46, 47, 270, 16, 271, 272, 273, 132, 133, 134, 29, 274, 275, 276, 40, 94, 95, 277, 278, 279, 280, 93, 366, 367, 368, 369, 370, 371, 399, 400, 401, 402, 391, 392, 393, 394, 395, 396, 397, 398] (by decide +kernel) (by decide +kernel)
set_option maxRecDepth 20000 in
theorem gL_law_X2_visible : GoodIn wsL_law (wsV RL 77 RX2 yX2_visible wsX2_visible) := goodIn_app (goodIn_of _ (by decide +kernel)) ggL_law_X2_visible
set_option maxRecDepth 20000 in
theorem ggL_law_X3_visible : GoodIn wsL_law wsX3_visible := goodIn_r _ [329, 110, 301, 63, 247, 248, 249, 5, 250, 54, 100, 101, 102, 103, 104, 105, 302, 303, 304, 305, 64, 66, 67, 58, 59, 60, 61, 306, 307, 308, 309, 56, 310, 311, 312, 313, 372, 373, 374, 375, 376, 377, 378, 379, 380, 381, 382, 383, 384, 385, 386, 387, 388, 389, 390] (by decide +kernel) (by decide +kernel)
set_option maxRecDepth 20000 in
theorem gL_law_X3_visible : GoodIn wsL_law (wsV RL 81 RX3 yX3_visible wsX3_visible) := goodIn_app (goodIn_of _ (by decide +kernel)) ggL_law_X3_visible
set_option maxRecDepth 20000 in
theorem ggL_law_X2_why : GoodIn wsL_law wsX2_why := goodIn_r _ [333, 18, 128, 129, 130, 2, 131, 83, 84, 85, 90, 91, 92, 122, 123, 124, 262, 263, 264, 265, 22, 14, 266, 267, 268, 269, 42, 21, 43, 44, 45, 46, 47, 270, 16, 271, 272, 273, 132, 133, 134, 29, 274, 275, 276, 40, 94, 95, 277, 278, 279, 280, 93, 334, 335, 336, 337, 366, 367, 368, 369, 370, 371, 399, 400, 401, 402, 391, 392, 393, 394, 395, 396, 397, 398] (by decide +kernel) (by decide +kernel)
set_option maxRecDepth 20000 in
theorem gL_law_X2_why : GoodIn wsL_law (wsV RL 82 RX2 yX2_why wsX2_why) := goodIn_app (goodIn_of _ (by decide +kernel)) ggL_law_X2_why
set_option maxRecDepth 20000 in
theorem ggL_law_X3_why : GoodIn wsL_law wsX3_why := goodIn_r _ [341, 110, 56, 54, 247, 248, 249, 5, 250, 100, 101, 102, 103, 104, 105, 297, 298, 299, 300, 301, 63, 302, 303, 304, 305, 64, 66, 67, 58, 59, 60, 61, 306, 307, 308, 309, 310, 311, 312, 313, 372, 373, 374, 375, 376, 377, 378, 379, 380, 381, 382, 383, 384, 385, 386, 387, 388, 389, 390] (by decide +kernel) (by decide +kernel)
set_option maxRecDepth 20000 in
theorem gL_law_X3_why : GoodIn wsL_law (wsV RL 85 RX3 yX3_why wsX3_why) := goodIn_app (goodIn_of _ (by decide +kernel)) ggL_law_X3_why
set_option maxRecDepth 20000 in
theorem ggL_law_X2_state : GoodIn wsL_law wsX2_state := goodIn_r _ [345, 83, 84, 2, 85, 86, 87, 88, 89, 17, 90, 91, 92, 128, 129, 130, 131, 18, 187, 188, 189, 190, 191, 192, 193, 194, 14, 93, 94, 95, 366, 367, 368, 369, 370, 371, 391, 392, 393, 394, 395, 396, 397, 398] (by decide +kernel) (by decide +kernel)
set_option maxRecDepth 20000 in
theorem gL_law_X2_state : GoodIn wsL_law (wsV RL 86 RX2 yX2_state wsX2_state) := goodIn_app (goodIn_of _ (by decide +kernel)) ggL_law_X2_state
set_option maxRecDepth 20000 in
theorem ggL_law_X3_state : GoodIn wsL_law wsX3_state := goodIn_r _ [349, 110, 54, 55, 53, 100, 101, 5, 102, 103, 104, 105, 214, 215, 216, 217, 58, 62, 59, 372, 373, 374, 375, 376, 377, 378, 379, 380, 381, 382, 383, 384, 385, 386, 387, 388, 389, 390] (by decide +kernel) (by decide +kernel)
set_option maxRecDepth 20000 in
theorem gL_law_X3_state : GoodIn wsL_law (wsV RL 89 RX3 yX3_state wsX3_state) := goodIn_app (goodIn_of _ (by decide +kernel)) ggL_law_X3_state
set_option maxRecDepth 20000 in
theorem ggL_law_X2_above : GoodIn wsL_law wsX2_above := goodIn_r _ [353, 14, 83, 84, 2, 85, 122, 123, 124, 366, 367, 368, 369, 370, 371, 391, 392, 393, 394, 395, 396, 397, 398] (by decide +kernel) (by decide +kernel)
set_option maxRecDepth 20000 in
theorem gL_law_X2_above : GoodIn wsL_law (wsV RL 90 RX2 yX2_above wsX2_above) := goodIn_app (goodIn_of _ (by decide +kernel)) ggL_law_X2_above
set_option maxRecDepth 20000 in
theorem ggL_law_X3_above : GoodIn wsL_law wsX3_above := goodIn_r _ [357, 110, 57, 100, 101, 5, 102, 103, 104, 105, 372, 373, 374, 375, 376, 377, 378, 379, 380, 381, 382, 383, 384, 385, 386, 387, 388, 389, 390] (by decide +kernel) (by decide +kernel)
set_option maxRecDepth 20000 in
theorem gL_law_X3_above : GoodIn wsL_law (wsV RL 93 RX3 yX3_above wsX3_above) := goodIn_app (goodIn_of _ (by decide +kernel)) ggL_law_X3_above
set_option maxRecDepth 20000 in
theorem ggL_law_X2_defined : GoodIn wsL_law wsX2_defined := goodIn_r _ [361, 14, 232, 16, 233, 234, 235, 236, 237, 238, 30, 366, 367, 368, 369, 370, 371, 391, 392, 393, 394, 395, 396, 397, 398] (by decide +kernel) (by decide +kernel)
set_option maxRecDepth 20000 in
theorem gL_law_X2_defined : GoodIn wsL_law (wsV RL 94 RX2 yX2_defined wsX2_defined) := goodIn_app (goodIn_of _ (by decide +kernel)) ggL_law_X2_defined
set_option maxRecDepth 20000 in
theorem ggL_law_X3_defined : GoodIn wsL_law wsX3_defined := goodIn_r _ [365, 110, 246, 372, 373, 374, 375, 376, 377, 378, 379, 380, 381, 382, 383, 384, 385, 386, 387, 388, 389, 390] (by decide +kernel) (by decide +kernel)
set_option maxRecDepth 20000 in
theorem gL_law_X3_defined : GoodIn wsL_law (wsV RL 97 RX3 yX3_defined wsX3_defined) := goodIn_app (goodIn_of _ (by decide +kernel)) ggL_law_X3_defined
theorem dL_law_0 : decode cL_law 0 = .ok (.new 8, 3) := by decide +kernel
theorem dL_law_3 : decode cL_law 3 = .ok (.dup, 1) := by decide +kernel
theorem dL_law_4 : decode cL_law 4 = .ok (.invokespecial 41, 3) := by decide +kernel
theorem dL_law_7 : decode cL_law 7 = .ok (.astore_n 1, 1) := by decide +kernel
theorem dL_law_8 : decode cL_law 8 = .ok (.new 42, 3) := by decide +kernel
theorem dL_law_11 : decode cL_law 11 = .ok (.dup, 1) := by decide +kernel
theorem dL_law_12 : decode cL_law 12 = .ok (.invokespecial 44, 3) := by decide +kernel
theorem dL_law_15 : decode cL_law 15 = .ok (.astore_n 2, 1) := by decide +kernel
theorem dL_law_16 : decode cL_law 16 = .ok (.iconst 1, 1) := by decide +kernel
theorem dL_law_17 : decode cL_law 17 = .ok (.newarray .long, 2) := by decide +kernel
theorem dL_law_19 : decode cL_law 19 = .ok (.astore_n 3, 1) := by decide +kernel
theorem dL_law_20 : decode cL_law 20 = .ok (.iconst 0, 1) := by decide +kernel
theorem dL_law_21 : decode cL_law 21 = .ok (.istore 4, 2) := by decide +kernel
theorem dL_law_23 : decode cL_law 23 = .ok (.iload 4, 2) := by decide +kernel
theorem dL_law_25 : decode cL_law 25 = .ok (.aload_n 0, 1) := by decide +kernel
theorem dL_law_26 : decode cL_law 26 = .ok (.arraylength, 1) := by decide +kernel
theorem dL_law_27 : decode cL_law 27 = .ok (.bipush 6, 2) := by decide +kernel
theorem dL_law_29 : decode cL_law 29 = .ok (.isub, 1) := by decide +kernel
theorem dL_law_30 : decode cL_law 30 = .ok (.if_icmp .gt 693, 3) := by decide +kernel
theorem dL_law_33 : decode cL_law 33 = .ok (.aload_n 0, 1) := by decide +kernel
theorem dL_law_34 : decode cL_law 34 = .ok (.iload 4, 2) := by decide +kernel
theorem dL_law_36 : decode cL_law 36 = .ok (.iaload, 1) := by decide +kernel
theorem dL_law_37 : decode cL_law 37 = .ok (.bipush 15, 2) := by decide +kernel
theorem dL_law_39 : decode cL_law 39 = .ok (.iand, 1) := by decide +kernel
theorem dL_law_40 : decode cL_law 40 = .ok (.tableswitch 677 0 11 #[64, 100, 160, 280, 336, 392, 448, 516, 565, 602, 627, 664], 64) := by decide +kernel
theorem dL_law_104 : decode cL_law 104 = .ok (.aload_n 1, 1) := by decide +kernel
theorem dL_law_105 : decode cL_law 105 = .ok (.aload_n 0, 1) := by decide +kernel
theorem dL_law_106 : decode cL_law 106 = .ok (.iload 4, 2) := by decide +kernel
theorem dL_law_108 : decode cL_law 108 = .ok (.iconst 1, 1) := by decide +kernel
theorem dL_law_109 : decode cL_law 109 = .ok (.iadd, 1) := by decide +kernel
theorem dL_law_110 : decode cL_law 110 = .ok (.iaload, 1) := by decide +kernel
theorem dL_law_111 : decode cL_law 111 = .ok (.invokestatic 45, 3) := by decide +kernel
theorem dL_law_114 : decode cL_law 114 = .ok (.istore 5, 2) := by decide +kernel
theorem dL_law_116 : decode cL_law 116 = .ok (.aload_n 2, 1) := by decide +kernel
theorem dL_law_117 : decode cL_law 117 = .ok (.aload_n 0, 1) := by decide +kernel
theorem dL_law_118 : decode cL_law 118 = .ok (.iload 4, 2) := by decide +kernel
theorem dL_law_120 : decode cL_law 120 = .ok (.iconst 1, 1) := by decide +kernel
theorem dL_law_121 : decode cL_law 121 = .ok (.iadd, 1) := by decide +kernel
theorem dL_law_122 : decode cL_law 122 = .ok (.iaload, 1) := by decide +kernel
theorem dL_law_123 : decode cL_law 123 = .ok (.invokevirtual 50, 3) := by decide +kernel
theorem dL_law_126 : decode cL_law 126 = .ok (.aload_n 2, 1) := by decide +kernel
theorem dL_law_127 : decode cL_law 127 = .ok (.invokevirtual 51, 3) := by decide +kernel
theorem dL_law_130 : decode cL_law 130 = .ok (.iload 5, 2) := by decide +kernel
theorem dL_law_132 : decode cL_law 132 = .ok (.if_icmp .eq 5, 3) := by decide +kernel
theorem dL_law_135 : decode cL_law 135 = .ok (.iconst 0, 1) := by decide +kernel
theorem dL_law_136 : decode cL_law 136 = .ok (.ireturn, 1) := by decide +kernel
theorem dL_law_137 : decode cL_law 137 = .ok (.goto 580, 3) := by decide +kernel
theorem dL_law_140 : decode cL_law 140 = .ok (.aload_n 1, 1) := by decide +kernel
theorem dL_law_141 : decode cL_law 141 = .ok (.aload_n 0, 1) := by decide +kernel
theorem dL_law_142 : decode cL_law 142 = .ok (.iload 4, 2) := by decide +kernel
theorem dL_law_144 : decode cL_law 144 = .ok (.iconst 1, 1) := by decide +kernel
theorem dL_law_145 : decode cL_law 145 = .ok (.iadd, 1) := by decide +kernel
theorem dL_law_146 : decode cL_law 146 = .ok (.iaload, 1) := by decide +kernel
theorem dL_law_147 : decode cL_law 147 = .ok (.aload_n 0, 1) := by decide +kernel
theorem dL_law_148 : decode cL_law 148 = .ok (.iload 4, 2) := by decide +kernel
theorem dL_law_150 : decode cL_law 150 = .ok (.iconst 2, 1) := by decide +kernel
theorem dL_law_151 : decode cL_law 151 = .ok (.iadd, 1) := by decide +kernel
theorem dL_law_152 : decode cL_law 152 = .ok (.iaload, 1) := by decide +kernel
theorem dL_law_153 : decode cL_law 153 = .ok (.aload_n 0, 1) := by decide +kernel
theorem dL_law_154 : decode cL_law 154 = .ok (.iload 4, 2) := by decide +kernel
theorem dL_law_156 : decode cL_law 156 = .ok (.iconst 3, 1) := by decide +kernel
theorem dL_law_157 : decode cL_law 157 = .ok (.iadd, 1) := by decide +kernel
theorem dL_law_158 : decode cL_law 158 = .ok (.iaload, 1) := by decide +kernel
theorem dL_law_159 : decode cL_law 159 = .ok (.invokestatic 55, 3) := by decide +kernel
theorem dL_law_162 : decode cL_law 162 = .ok (.istore 5, 2) := by decide +kernel
theorem dL_law_164 : decode cL_law 164 = .ok (.aload_n 2, 1) := by decide +kernel
theorem dL_law_165 : decode cL_law 165 = .ok (.aload_n 0, 1) := by decide +kernel
theorem dL_law_166 : decode cL_law 166 = .ok (.iload 4, 2) := by decide +kernel
theorem dL_law_168 : decode cL_law 168 = .ok (.iconst 1, 1) := by decide +kernel
theorem dL_law_169 : decode cL_law 169 = .ok (.iadd, 1) := by decide +kernel
theorem dL_law_170 : decode cL_law 170 = .ok (.iaload, 1) := by decide +kernel
theorem dL_law_171 : decode cL_law 171 = .ok (.aload_n 0, 1) := by decide +kernel
theorem dL_law_172 : decode cL_law 172 = .ok (.iload 4, 2) := by decide +kernel
theorem dL_law_174 : decode cL_law 174 = .ok (.iconst 2, 1) := by decide +kernel
theorem dL_law_175 : decode cL_law 175 = .ok (.iadd, 1) := by decide +kernel
theorem dL_law_176 : decode cL_law 176 = .ok (.iaload, 1) := by decide +kernel
theorem dL_law_177 : decode cL_law 177 = .ok (.aload_n 0, 1) := by decide +kernel
theorem dL_law_178 : decode cL_law 178 = .ok (.iload 4, 2) := by decide +kernel
theorem dL_law_180 : decode cL_law 180 = .ok (.iconst 3, 1) := by decide +kernel
theorem dL_law_181 : decode cL_law 181 = .ok (.iadd, 1) := by decide +kernel
theorem dL_law_182 : decode cL_law 182 = .ok (.iaload, 1) := by decide +kernel
theorem dL_law_183 : decode cL_law 183 = .ok (.invokevirtual 58, 3) := by decide +kernel
theorem dL_law_186 : decode cL_law 186 = .ok (.aload_n 2, 1) := by decide +kernel
theorem dL_law_187 : decode cL_law 187 = .ok (.invokevirtual 51, 3) := by decide +kernel
theorem dL_law_190 : decode cL_law 190 = .ok (.iload 5, 2) := by decide +kernel
theorem dL_law_192 : decode cL_law 192 = .ok (.if_icmp .eq 5, 3) := by decide +kernel
theorem dL_law_195 : decode cL_law 195 = .ok (.iconst 0, 1) := by decide +kernel
theorem dL_law_196 : decode cL_law 196 = .ok (.ireturn, 1) := by decide +kernel
theorem dL_law_197 : decode cL_law 197 = .ok (.goto 520, 3) := by decide +kernel
theorem dL_law_200 : decode cL_law 200 = .ok (.aload_n 1, 1) := by decide +kernel
theorem dL_law_201 : decode cL_law 201 = .ok (.aload_n 0, 1) := by decide +kernel
theorem dL_law_202 : decode cL_law 202 = .ok (.iload 4, 2) := by decide +kernel
theorem dL_law_204 : decode cL_law 204 = .ok (.iconst 1, 1) := by decide +kernel
theorem dL_law_205 : decode cL_law 205 = .ok (.iadd, 1) := by decide +kernel
theorem dL_law_206 : decode cL_law 206 = .ok (.iaload, 1) := by decide +kernel
theorem dL_law_207 : decode cL_law 207 = .ok (.aload_n 0, 1) := by decide +kernel
theorem dL_law_208 : decode cL_law 208 = .ok (.iload 4, 2) := by decide +kernel
theorem dL_law_210 : decode cL_law 210 = .ok (.iconst 2, 1) := by decide +kernel
theorem dL_law_211 : decode cL_law 211 = .ok (.iadd, 1) := by decide +kernel
theorem dL_law_212 : decode cL_law 212 = .ok (.iaload, 1) := by decide +kernel
theorem dL_law_213 : decode cL_law 213 = .ok (.aload_n 0, 1) := by decide +kernel
theorem dL_law_214 : decode cL_law 214 = .ok (.iload 4, 2) := by decide +kernel
theorem dL_law_216 : decode cL_law 216 = .ok (.iconst 3, 1) := by decide +kernel
theorem dL_law_217 : decode cL_law 217 = .ok (.iadd, 1) := by decide +kernel
theorem dL_law_218 : decode cL_law 218 = .ok (.iaload, 1) := by decide +kernel
theorem dL_law_219 : decode cL_law 219 = .ok (.aload_n 0, 1) := by decide +kernel
theorem dL_law_220 : decode cL_law 220 = .ok (.iload 4, 2) := by decide +kernel
theorem dL_law_222 : decode cL_law 222 = .ok (.iconst 4, 1) := by decide +kernel
theorem dL_law_223 : decode cL_law 223 = .ok (.iadd, 1) := by decide +kernel
theorem dL_law_224 : decode cL_law 224 = .ok (.iaload, 1) := by decide +kernel
theorem dL_law_225 : decode cL_law 225 = .ok (.aload_n 0, 1) := by decide +kernel
theorem dL_law_226 : decode cL_law 226 = .ok (.iload 4, 2) := by decide +kernel
theorem dL_law_228 : decode cL_law 228 = .ok (.iconst 5, 1) := by decide +kernel
theorem dL_law_229 : decode cL_law 229 = .ok (.iadd, 1) := by decide +kernel
theorem dL_law_230 : decode cL_law 230 = .ok (.iaload, 1) := by decide +kernel
theorem dL_law_231 : decode cL_law 231 = .ok (.ifCond .eq 7, 3) := by decide +kernel
theorem dL_law_234 : decode cL_law 234 = .ok (.iconst 1, 1) := by decide +kernel
theorem dL_law_235 : decode cL_law 235 = .ok (.goto 4, 3) := by decide +kernel
theorem dL_law_238 : decode cL_law 238 = .ok (.iconst 0, 1) := by decide +kernel
theorem dL_law_239 : decode cL_law 239 = .ok (.aload_n 3, 1) := by decide +kernel
theorem dL_law_240 : decode cL_law 240 = .ok (.invokestatic 59, 3) := by decide +kernel
theorem dL_law_243 : decode cL_law 243 = .ok (.istore 5, 2) := by decide +kernel
theorem dL_law_245 : decode cL_law 245 = .ok (.aload_n 2, 1) := by decide +kernel
theorem dL_law_246 : decode cL_law 246 = .ok (.aload_n 0, 1) := by decide +kernel
theorem dL_law_247 : decode cL_law 247 = .ok (.iload 4, 2) := by decide +kernel
theorem dL_law_249 : decode cL_law 249 = .ok (.iconst 1, 1) := by decide +kernel
theorem dL_law_250 : decode cL_law 250 = .ok (.iadd, 1) := by decide +kernel
theorem dL_law_251 : decode cL_law 251 = .ok (.iaload, 1) := by decide +kernel
theorem dL_law_252 : decode cL_law 252 = .ok (.aload_n 0, 1) := by decide +kernel
theorem dL_law_253 : decode cL_law 253 = .ok (.iload 4, 2) := by decide +kernel
theorem dL_law_255 : decode cL_law 255 = .ok (.iconst 2, 1) := by decide +kernel
theorem dL_law_256 : decode cL_law 256 = .ok (.iadd, 1) := by decide +kernel
theorem dL_law_257 : decode cL_law 257 = .ok (.iaload, 1) := by decide +kernel
theorem dL_law_258 : decode cL_law 258 = .ok (.aload_n 0, 1) := by decide +kernel
theorem dL_law_259 : decode cL_law 259 = .ok (.iload 4, 2) := by decide +kernel
theorem dL_law_261 : decode cL_law 261 = .ok (.iconst 3, 1) := by decide +kernel
theorem dL_law_262 : decode cL_law 262 = .ok (.iadd, 1) := by decide +kernel
theorem dL_law_263 : decode cL_law 263 = .ok (.iaload, 1) := by decide +kernel
theorem dL_law_264 : decode cL_law 264 = .ok (.aload_n 0, 1) := by decide +kernel
theorem dL_law_265 : decode cL_law 265 = .ok (.iload 4, 2) := by decide +kernel
theorem dL_law_267 : decode cL_law 267 = .ok (.iconst 4, 1) := by decide +kernel
theorem dL_law_268 : decode cL_law 268 = .ok (.iadd, 1) := by decide +kernel
theorem dL_law_269 : decode cL_law 269 = .ok (.iaload, 1) := by decide +kernel
theorem dL_law_270 : decode cL_law 270 = .ok (.aload_n 0, 1) := by decide +kernel
theorem dL_law_271 : decode cL_law 271 = .ok (.iload 4, 2) := by decide +kernel
theorem dL_law_273 : decode cL_law 273 = .ok (.iconst 5, 1) := by decide +kernel
theorem dL_law_274 : decode cL_law 274 = .ok (.iadd, 1) := by decide +kernel
theorem dL_law_275 : decode cL_law 275 = .ok (.iaload, 1) := by decide +kernel
theorem dL_law_276 : decode cL_law 276 = .ok (.ifCond .eq 7, 3) := by decide +kernel
theorem dL_law_279 : decode cL_law 279 = .ok (.iconst 1, 1) := by decide +kernel
theorem dL_law_280 : decode cL_law 280 = .ok (.goto 4, 3) := by decide +kernel
theorem dL_law_283 : decode cL_law 283 = .ok (.iconst 0, 1) := by decide +kernel
theorem dL_law_284 : decode cL_law 284 = .ok (.invokevirtual 62, 3) := by decide +kernel
theorem dL_law_287 : decode cL_law 287 = .ok (.istore 6, 2) := by decide +kernel
theorem dL_law_289 : decode cL_law 289 = .ok (.aload_n 2, 1) := by decide +kernel
theorem dL_law_290 : decode cL_law 290 = .ok (.invokevirtual 51, 3) := by decide +kernel
theorem dL_law_293 : decode cL_law 293 = .ok (.iload 5, 2) := by decide +kernel
theorem dL_law_295 : decode cL_law 295 = .ok (.if_icmp .eq 5, 3) := by decide +kernel
theorem dL_law_298 : decode cL_law 298 = .ok (.iconst 0, 1) := by decide +kernel
theorem dL_law_299 : decode cL_law 299 = .ok (.ireturn, 1) := by decide +kernel
theorem dL_law_300 : decode cL_law 300 = .ok (.iload 5, 2) := by decide +kernel
theorem dL_law_302 : decode cL_law 302 = .ok (.ifCond .ne 15, 3) := by decide +kernel
theorem dL_law_305 : decode cL_law 305 = .ok (.aload_n 3, 1) := by decide +kernel
theorem dL_law_306 : decode cL_law 306 = .ok (.iconst 0, 1) := by decide +kernel
theorem dL_law_307 : decode cL_law 307 = .ok (.laload, 1) := by decide +kernel
theorem dL_law_308 : decode cL_law 308 = .ok (.iload 6, 2) := by decide +kernel
theorem dL_law_310 : decode cL_law 310 = .ok (.i2l, 1) := by decide +kernel
theorem dL_law_311 : decode cL_law 311 = .ok (.lcmp, 1) := by decide +kernel
theorem dL_law_312 : decode cL_law 312 = .ok (.ifCond .eq 5, 3) := by decide +kernel
theorem dL_law_315 : decode cL_law 315 = .ok (.iconst 0, 1) := by decide +kernel
theorem dL_law_316 : decode cL_law 316 = .ok (.ireturn, 1) := by decide +kernel
theorem dL_law_317 : decode cL_law 317 = .ok (.goto 400, 3) := by decide +kernel
theorem dL_law_320 : decode cL_law 320 = .ok (.aload_n 1, 1) := by decide +kernel
theorem dL_law_321 : decode cL_law 321 = .ok (.aload_n 0, 1) := by decide +kernel
theorem dL_law_322 : decode cL_law 322 = .ok (.iload 4, 2) := by decide +kernel
theorem dL_law_324 : decode cL_law 324 = .ok (.iconst 1, 1) := by decide +kernel
theorem dL_law_325 : decode cL_law 325 = .ok (.iadd, 1) := by decide +kernel
theorem dL_law_326 : decode cL_law 326 = .ok (.iaload, 1) := by decide +kernel
theorem dL_law_327 : decode cL_law 327 = .ok (.aload_n 3, 1) := by decide +kernel
theorem dL_law_328 : decode cL_law 328 = .ok (.invokestatic 63, 3) := by decide +kernel
theorem dL_law_331 : decode cL_law 331 = .ok (.istore 5, 2) := by decide +kernel
theorem dL_law_333 : decode cL_law 333 = .ok (.aload_n 2, 1) := by decide +kernel
theorem dL_law_334 : decode cL_law 334 = .ok (.aload_n 0, 1) := by decide +kernel
theorem dL_law_335 : decode cL_law 335 = .ok (.iload 4, 2) := by decide +kernel
theorem dL_law_337 : decode cL_law 337 = .ok (.iconst 1, 1) := by decide +kernel
theorem dL_law_338 : decode cL_law 338 = .ok (.iadd, 1) := by decide +kernel
theorem dL_law_339 : decode cL_law 339 = .ok (.iaload, 1) := by decide +kernel
theorem dL_law_340 : decode cL_law 340 = .ok (.invokevirtual 66, 3) := by decide +kernel
theorem dL_law_343 : decode cL_law 343 = .ok (.istore 6, 2) := by decide +kernel
theorem dL_law_345 : decode cL_law 345 = .ok (.aload_n 2, 1) := by decide +kernel
theorem dL_law_346 : decode cL_law 346 = .ok (.invokevirtual 51, 3) := by decide +kernel
theorem dL_law_349 : decode cL_law 349 = .ok (.iload 5, 2) := by decide +kernel
theorem dL_law_351 : decode cL_law 351 = .ok (.if_icmp .eq 5, 3) := by decide +kernel
theorem dL_law_354 : decode cL_law 354 = .ok (.iconst 0, 1) := by decide +kernel
theorem dL_law_355 : decode cL_law 355 = .ok (.ireturn, 1) := by decide +kernel
theorem dL_law_356 : decode cL_law 356 = .ok (.iload 5, 2) := by decide +kernel
theorem dL_law_358 : decode cL_law 358 = .ok (.ifCond .ne 15, 3) := by decide +kernel
theorem dL_law_361 : decode cL_law 361 = .ok (.aload_n 3, 1) := by decide +kernel
theorem dL_law_362 : decode cL_law 362 = .ok (.iconst 0, 1) := by decide +kernel
theorem dL_law_363 : decode cL_law 363 = .ok (.laload, 1) := by decide +kernel
theorem dL_law_364 : decode cL_law 364 = .ok (.iload 6, 2) := by decide +kernel
theorem dL_law_366 : decode cL_law 366 = .ok (.i2l, 1) := by decide +kernel
theorem dL_law_367 : decode cL_law 367 = .ok (.lcmp, 1) := by decide +kernel
theorem dL_law_368 : decode cL_law 368 = .ok (.ifCond .eq 5, 3) := by decide +kernel
theorem dL_law_371 : decode cL_law 371 = .ok (.iconst 0, 1) := by decide +kernel
theorem dL_law_372 : decode cL_law 372 = .ok (.ireturn, 1) := by decide +kernel
theorem dL_law_373 : decode cL_law 373 = .ok (.goto 344, 3) := by decide +kernel
theorem dL_law_376 : decode cL_law 376 = .ok (.aload_n 1, 1) := by decide +kernel
theorem dL_law_377 : decode cL_law 377 = .ok (.aload_n 0, 1) := by decide +kernel
theorem dL_law_378 : decode cL_law 378 = .ok (.iload 4, 2) := by decide +kernel
theorem dL_law_380 : decode cL_law 380 = .ok (.iconst 1, 1) := by decide +kernel
theorem dL_law_381 : decode cL_law 381 = .ok (.iadd, 1) := by decide +kernel
theorem dL_law_382 : decode cL_law 382 = .ok (.iaload, 1) := by decide +kernel
theorem dL_law_383 : decode cL_law 383 = .ok (.aload_n 3, 1) := by decide +kernel
theorem dL_law_384 : decode cL_law 384 = .ok (.invokestatic 67, 3) := by decide +kernel
theorem dL_law_387 : decode cL_law 387 = .ok (.istore 5, 2) := by decide +kernel
theorem dL_law_389 : decode cL_law 389 = .ok (.aload_n 2, 1) := by decide +kernel
theorem dL_law_390 : decode cL_law 390 = .ok (.aload_n 0, 1) := by decide +kernel
theorem dL_law_391 : decode cL_law 391 = .ok (.iload 4, 2) := by decide +kernel
theorem dL_law_393 : decode cL_law 393 = .ok (.iconst 1, 1) := by decide +kernel
theorem dL_law_394 : decode cL_law 394 = .ok (.iadd, 1) := by decide +kernel
theorem dL_law_395 : decode cL_law 395 = .ok (.iaload, 1) := by decide +kernel
theorem dL_law_396 : decode cL_law 396 = .ok (.invokevirtual 69, 3) := by decide +kernel
theorem dL_law_399 : decode cL_law 399 = .ok (.istore 6, 2) := by decide +kernel
theorem dL_law_401 : decode cL_law 401 = .ok (.aload_n 2, 1) := by decide +kernel
theorem dL_law_402 : decode cL_law 402 = .ok (.invokevirtual 51, 3) := by decide +kernel
theorem dL_law_405 : decode cL_law 405 = .ok (.iload 5, 2) := by decide +kernel
theorem dL_law_407 : decode cL_law 407 = .ok (.if_icmp .eq 5, 3) := by decide +kernel
theorem dL_law_410 : decode cL_law 410 = .ok (.iconst 0, 1) := by decide +kernel
theorem dL_law_411 : decode cL_law 411 = .ok (.ireturn, 1) := by decide +kernel
theorem dL_law_412 : decode cL_law 412 = .ok (.iload 5, 2) := by decide +kernel
theorem dL_law_414 : decode cL_law 414 = .ok (.ifCond .ne 15, 3) := by decide +kernel
theorem dL_law_417 : decode cL_law 417 = .ok (.aload_n 3, 1) := by decide +kernel
theorem dL_law_418 : decode cL_law 418 = .ok (.iconst 0, 1) := by decide +kernel
theorem dL_law_419 : decode cL_law 419 = .ok (.laload, 1) := by decide +kernel
theorem dL_law_420 : decode cL_law 420 = .ok (.iload 6, 2) := by decide +kernel
theorem dL_law_422 : decode cL_law 422 = .ok (.i2l, 1) := by decide +kernel
theorem dL_law_423 : decode cL_law 423 = .ok (.lcmp, 1) := by decide +kernel
theorem dL_law_424 : decode cL_law 424 = .ok (.ifCond .eq 5, 3) := by decide +kernel
theorem dL_law_427 : decode cL_law 427 = .ok (.iconst 0, 1) := by decide +kernel
theorem dL_law_428 : decode cL_law 428 = .ok (.ireturn, 1) := by decide +kernel
theorem dL_law_429 : decode cL_law 429 = .ok (.goto 288, 3) := by decide +kernel
theorem dL_law_432 : decode cL_law 432 = .ok (.aload_n 1, 1) := by decide +kernel
theorem dL_law_433 : decode cL_law 433 = .ok (.aload_n 0, 1) := by decide +kernel
theorem dL_law_434 : decode cL_law 434 = .ok (.iload 4, 2) := by decide +kernel
theorem dL_law_436 : decode cL_law 436 = .ok (.iconst 1, 1) := by decide +kernel
theorem dL_law_437 : decode cL_law 437 = .ok (.iadd, 1) := by decide +kernel
theorem dL_law_438 : decode cL_law 438 = .ok (.iaload, 1) := by decide +kernel
theorem dL_law_439 : decode cL_law 439 = .ok (.aload_n 3, 1) := by decide +kernel
theorem dL_law_440 : decode cL_law 440 = .ok (.invokestatic 70, 3) := by decide +kernel
theorem dL_law_443 : decode cL_law 443 = .ok (.istore 5, 2) := by decide +kernel
theorem dL_law_445 : decode cL_law 445 = .ok (.aload_n 2, 1) := by decide +kernel
theorem dL_law_446 : decode cL_law 446 = .ok (.aload_n 0, 1) := by decide +kernel
theorem dL_law_447 : decode cL_law 447 = .ok (.iload 4, 2) := by decide +kernel
theorem dL_law_449 : decode cL_law 449 = .ok (.iconst 1, 1) := by decide +kernel
theorem dL_law_450 : decode cL_law 450 = .ok (.iadd, 1) := by decide +kernel
theorem dL_law_451 : decode cL_law 451 = .ok (.iaload, 1) := by decide +kernel
theorem dL_law_452 : decode cL_law 452 = .ok (.invokevirtual 72, 3) := by decide +kernel
theorem dL_law_455 : decode cL_law 455 = .ok (.istore 6, 2) := by decide +kernel
theorem dL_law_457 : decode cL_law 457 = .ok (.aload_n 2, 1) := by decide +kernel
theorem dL_law_458 : decode cL_law 458 = .ok (.invokevirtual 51, 3) := by decide +kernel
theorem dL_law_461 : decode cL_law 461 = .ok (.iload 5, 2) := by decide +kernel
theorem dL_law_463 : decode cL_law 463 = .ok (.if_icmp .eq 5, 3) := by decide +kernel
theorem dL_law_466 : decode cL_law 466 = .ok (.iconst 0, 1) := by decide +kernel
theorem dL_law_467 : decode cL_law 467 = .ok (.ireturn, 1) := by decide +kernel
theorem dL_law_468 : decode cL_law 468 = .ok (.iload 5, 2) := by decide +kernel
theorem dL_law_470 : decode cL_law 470 = .ok (.ifCond .ne 15, 3) := by decide +kernel
theorem dL_law_473 : decode cL_law 473 = .ok (.aload_n 3, 1) := by decide +kernel
theorem dL_law_474 : decode cL_law 474 = .ok (.iconst 0, 1) := by decide +kernel
theorem dL_law_475 : decode cL_law 475 = .ok (.laload, 1) := by decide +kernel
theorem dL_law_476 : decode cL_law 476 = .ok (.iload 6, 2) := by decide +kernel
theorem dL_law_478 : decode cL_law 478 = .ok (.i2l, 1) := by decide +kernel
theorem dL_law_479 : decode cL_law 479 = .ok (.lcmp, 1) := by decide +kernel
theorem dL_law_480 : decode cL_law 480 = .ok (.ifCond .eq 5, 3) := by decide +kernel
theorem dL_law_483 : decode cL_law 483 = .ok (.iconst 0, 1) := by decide +kernel
theorem dL_law_484 : decode cL_law 484 = .ok (.ireturn, 1) := by decide +kernel
theorem dL_law_485 : decode cL_law 485 = .ok (.goto 232, 3) := by decide +kernel
theorem dL_law_488 : decode cL_law 488 = .ok (.aload_n 1, 1) := by decide +kernel
theorem dL_law_489 : decode cL_law 489 = .ok (.aload_n 0, 1) := by decide +kernel
theorem dL_law_490 : decode cL_law 490 = .ok (.iload 4, 2) := by decide +kernel
theorem dL_law_492 : decode cL_law 492 = .ok (.iconst 1, 1) := by decide +kernel
theorem dL_law_493 : decode cL_law 493 = .ok (.iadd, 1) := by decide +kernel
theorem dL_law_494 : decode cL_law 494 = .ok (.iaload, 1) := by decide +kernel
theorem dL_law_495 : decode cL_law 495 = .ok (.aload_n 0, 1) := by decide +kernel
theorem dL_law_496 : decode cL_law 496 = .ok (.iload 4, 2) := by decide +kernel
theorem dL_law_498 : decode cL_law 498 = .ok (.iconst 2, 1) := by decide +kernel
theorem dL_law_499 : decode cL_law 499 = .ok (.iadd, 1) := by decide +kernel
theorem dL_law_500 : decode cL_law 500 = .ok (.iaload, 1) := by decide +kernel
theorem dL_law_501 : decode cL_law 501 = .ok (.aload_n 3, 1) := by decide +kernel
theorem dL_law_502 : decode cL_law 502 = .ok (.invokestatic 73, 3) := by decide +kernel
theorem dL_law_505 : decode cL_law 505 = .ok (.istore 5, 2) := by decide +kernel
theorem dL_law_507 : decode cL_law 507 = .ok (.aload_n 2, 1) := by decide +kernel
theorem dL_law_508 : decode cL_law 508 = .ok (.aload_n 0, 1) := by decide +kernel
theorem dL_law_509 : decode cL_law 509 = .ok (.iload 4, 2) := by decide +kernel
theorem dL_law_511 : decode cL_law 511 = .ok (.iconst 1, 1) := by decide +kernel
theorem dL_law_512 : decode cL_law 512 = .ok (.iadd, 1) := by decide +kernel
theorem dL_law_513 : decode cL_law 513 = .ok (.iaload, 1) := by decide +kernel
theorem dL_law_514 : decode cL_law 514 = .ok (.aload_n 0, 1) := by decide +kernel
theorem dL_law_515 : decode cL_law 515 = .ok (.iload 4, 2) := by decide +kernel
theorem dL_law_517 : decode cL_law 517 = .ok (.iconst 2, 1) := by decide +kernel
theorem dL_law_518 : decode cL_law 518 = .ok (.iadd, 1) := by decide +kernel
theorem dL_law_519 : decode cL_law 519 = .ok (.iaload, 1) := by decide +kernel
theorem dL_law_520 : decode cL_law 520 = .ok (.invokevirtual 76, 3) := by decide +kernel
theorem dL_law_523 : decode cL_law 523 = .ok (.istore 6, 2) := by decide +kernel
theorem dL_law_525 : decode cL_law 525 = .ok (.aload_n 2, 1) := by decide +kernel
theorem dL_law_526 : decode cL_law 526 = .ok (.invokevirtual 51, 3) := by decide +kernel
theorem dL_law_529 : decode cL_law 529 = .ok (.iload 5, 2) := by decide +kernel
theorem dL_law_531 : decode cL_law 531 = .ok (.if_icmp .eq 5, 3) := by decide +kernel
theorem dL_law_534 : decode cL_law 534 = .ok (.iconst 0, 1) := by decide +kernel
theorem dL_law_535 : decode cL_law 535 = .ok (.ireturn, 1) := by decide +kernel
theorem dL_law_536 : decode cL_law 536 = .ok (.iload 5, 2) := by decide +kernel
theorem dL_law_538 : decode cL_law 538 = .ok (.ifCond .ne 15, 3) := by decide +kernel
theorem dL_law_541 : decode cL_law 541 = .ok (.aload_n 3, 1) := by decide +kernel
theorem dL_law_542 : decode cL_law 542 = .ok (.iconst 0, 1) := by decide +kernel
theorem dL_law_543 : decode cL_law 543 = .ok (.laload, 1) := by decide +kernel
theorem dL_law_544 : decode cL_law 544 = .ok (.iload 6, 2) := by decide +kernel
theorem dL_law_546 : decode cL_law 546 = .ok (.i2l, 1) := by decide +kernel
theorem dL_law_547 : decode cL_law 547 = .ok (.lcmp, 1) := by decide +kernel
theorem dL_law_548 : decode cL_law 548 = .ok (.ifCond .eq 5, 3) := by decide +kernel
theorem dL_law_551 : decode cL_law 551 = .ok (.iconst 0, 1) := by decide +kernel
theorem dL_law_552 : decode cL_law 552 = .ok (.ireturn, 1) := by decide +kernel
theorem dL_law_553 : decode cL_law 553 = .ok (.goto 164, 3) := by decide +kernel
theorem dL_law_556 : decode cL_law 556 = .ok (.aload_n 1, 1) := by decide +kernel
theorem dL_law_557 : decode cL_law 557 = .ok (.aload_n 0, 1) := by decide +kernel
theorem dL_law_558 : decode cL_law 558 = .ok (.iload 4, 2) := by decide +kernel
theorem dL_law_560 : decode cL_law 560 = .ok (.iconst 1, 1) := by decide +kernel
theorem dL_law_561 : decode cL_law 561 = .ok (.iadd, 1) := by decide +kernel
theorem dL_law_562 : decode cL_law 562 = .ok (.iaload, 1) := by decide +kernel
theorem dL_law_563 : decode cL_law 563 = .ok (.aload_n 0, 1) := by decide +kernel
theorem dL_law_564 : decode cL_law 564 = .ok (.iload 4, 2) := by decide +kernel
theorem dL_law_566 : decode cL_law 566 = .ok (.iconst 2, 1) := by decide +kernel
theorem dL_law_567 : decode cL_law 567 = .ok (.iadd, 1) := by decide +kernel
theorem dL_law_568 : decode cL_law 568 = .ok (.iaload, 1) := by decide +kernel
theorem dL_law_569 : decode cL_law 569 = .ok (.aload_n 0, 1) := by decide +kernel
theorem dL_law_570 : decode cL_law 570 = .ok (.iload 4, 2) := by decide +kernel
theorem dL_law_572 : decode cL_law 572 = .ok (.iconst 3, 1) := by decide +kernel
theorem dL_law_573 : decode cL_law 573 = .ok (.iadd, 1) := by decide +kernel
theorem dL_law_574 : decode cL_law 574 = .ok (.iaload, 1) := by decide +kernel
theorem dL_law_575 : decode cL_law 575 = .ok (.invokevirtual 77, 3) := by decide +kernel
theorem dL_law_578 : decode cL_law 578 = .ok (.aload_n 2, 1) := by decide +kernel
theorem dL_law_579 : decode cL_law 579 = .ok (.aload_n 0, 1) := by decide +kernel
theorem dL_law_580 : decode cL_law 580 = .ok (.iload 4, 2) := by decide +kernel
theorem dL_law_582 : decode cL_law 582 = .ok (.iconst 1, 1) := by decide +kernel
theorem dL_law_583 : decode cL_law 583 = .ok (.iadd, 1) := by decide +kernel
theorem dL_law_584 : decode cL_law 584 = .ok (.iaload, 1) := by decide +kernel
theorem dL_law_585 : decode cL_law 585 = .ok (.aload_n 0, 1) := by decide +kernel
theorem dL_law_586 : decode cL_law 586 = .ok (.iload 4, 2) := by decide +kernel
theorem dL_law_588 : decode cL_law 588 = .ok (.iconst 2, 1) := by decide +kernel
theorem dL_law_589 : decode cL_law 589 = .ok (.iadd, 1) := by decide +kernel
theorem dL_law_590 : decode cL_law 590 = .ok (.iaload, 1) := by decide +kernel
theorem dL_law_591 : decode cL_law 591 = .ok (.aload_n 0, 1) := by decide +kernel
theorem dL_law_592 : decode cL_law 592 = .ok (.iload 4, 2) := by decide +kernel
theorem dL_law_594 : decode cL_law 594 = .ok (.iconst 3, 1) := by decide +kernel
theorem dL_law_595 : decode cL_law 595 = .ok (.iadd, 1) := by decide +kernel
theorem dL_law_596 : decode cL_law 596 = .ok (.iaload, 1) := by decide +kernel
theorem dL_law_597 : decode cL_law 597 = .ok (.invokevirtual 81, 3) := by decide +kernel
theorem dL_law_600 : decode cL_law 600 = .ok (.if_icmp .eq 117, 3) := by decide +kernel
theorem dL_law_603 : decode cL_law 603 = .ok (.iconst 0, 1) := by decide +kernel
theorem dL_law_604 : decode cL_law 604 = .ok (.ireturn, 1) := by decide +kernel
theorem dL_law_605 : decode cL_law 605 = .ok (.aload_n 1, 1) := by decide +kernel
theorem dL_law_606 : decode cL_law 606 = .ok (.aload_n 0, 1) := by decide +kernel
theorem dL_law_607 : decode cL_law 607 = .ok (.iload 4, 2) := by decide +kernel
theorem dL_law_609 : decode cL_law 609 = .ok (.iconst 1, 1) := by decide +kernel
theorem dL_law_610 : decode cL_law 610 = .ok (.iadd, 1) := by decide +kernel
theorem dL_law_611 : decode cL_law 611 = .ok (.iaload, 1) := by decide +kernel
theorem dL_law_612 : decode cL_law 612 = .ok (.aload_n 0, 1) := by decide +kernel
theorem dL_law_613 : decode cL_law 613 = .ok (.iload 4, 2) := by decide +kernel
theorem dL_law_615 : decode cL_law 615 = .ok (.iconst 2, 1) := by decide +kernel
theorem dL_law_616 : decode cL_law 616 = .ok (.iadd, 1) := by decide +kernel
theorem dL_law_617 : decode cL_law 617 = .ok (.iaload, 1) := by decide +kernel
theorem dL_law_618 : decode cL_law 618 = .ok (.invokevirtual 82, 3) := by decide +kernel
theorem dL_law_621 : decode cL_law 621 = .ok (.aload_n 2, 1) := by decide +kernel
theorem dL_law_622 : decode cL_law 622 = .ok (.aload_n 0, 1) := by decide +kernel
theorem dL_law_623 : decode cL_law 623 = .ok (.iload 4, 2) := by decide +kernel
theorem dL_law_625 : decode cL_law 625 = .ok (.iconst 1, 1) := by decide +kernel
theorem dL_law_626 : decode cL_law 626 = .ok (.iadd, 1) := by decide +kernel
theorem dL_law_627 : decode cL_law 627 = .ok (.iaload, 1) := by decide +kernel
theorem dL_law_628 : decode cL_law 628 = .ok (.aload_n 0, 1) := by decide +kernel
theorem dL_law_629 : decode cL_law 629 = .ok (.iload 4, 2) := by decide +kernel
theorem dL_law_631 : decode cL_law 631 = .ok (.iconst 2, 1) := by decide +kernel
theorem dL_law_632 : decode cL_law 632 = .ok (.iadd, 1) := by decide +kernel
theorem dL_law_633 : decode cL_law 633 = .ok (.iaload, 1) := by decide +kernel
theorem dL_law_634 : decode cL_law 634 = .ok (.invokevirtual 85, 3) := by decide +kernel
theorem dL_law_637 : decode cL_law 637 = .ok (.if_icmp .eq 80, 3) := by decide +kernel
theorem dL_law_640 : decode cL_law 640 = .ok (.iconst 0, 1) := by decide +kernel
theorem dL_law_641 : decode cL_law 641 = .ok (.ireturn, 1) := by decide +kernel
theorem dL_law_642 : decode cL_law 642 = .ok (.aload_n 1, 1) := by decide +kernel
theorem dL_law_643 : decode cL_law 643 = .ok (.aload_n 0, 1) := by decide +kernel
theorem dL_law_644 : decode cL_law 644 = .ok (.iload 4, 2) := by decide +kernel
theorem dL_law_646 : decode cL_law 646 = .ok (.iconst 1, 1) := by decide +kernel
theorem dL_law_647 : decode cL_law 647 = .ok (.iadd, 1) := by decide +kernel
theorem dL_law_648 : decode cL_law 648 = .ok (.iaload, 1) := by decide +kernel
theorem dL_law_649 : decode cL_law 649 = .ok (.invokevirtual 86, 3) := by decide +kernel
theorem dL_law_652 : decode cL_law 652 = .ok (.aload_n 2, 1) := by decide +kernel
theorem dL_law_653 : decode cL_law 653 = .ok (.aload_n 0, 1) := by decide +kernel
theorem dL_law_654 : decode cL_law 654 = .ok (.iload 4, 2) := by decide +kernel
theorem dL_law_656 : decode cL_law 656 = .ok (.iconst 1, 1) := by decide +kernel
theorem dL_law_657 : decode cL_law 657 = .ok (.iadd, 1) := by decide +kernel
theorem dL_law_658 : decode cL_law 658 = .ok (.iaload, 1) := by decide +kernel
theorem dL_law_659 : decode cL_law 659 = .ok (.invokevirtual 89, 3) := by decide +kernel
theorem dL_law_662 : decode cL_law 662 = .ok (.if_icmp .eq 55, 3) := by decide +kernel
theorem dL_law_665 : decode cL_law 665 = .ok (.iconst 0, 1) := by decide +kernel
theorem dL_law_666 : decode cL_law 666 = .ok (.ireturn, 1) := by decide +kernel
theorem dL_law_667 : decode cL_law 667 = .ok (.aload_n 1, 1) := by decide +kernel
theorem dL_law_668 : decode cL_law 668 = .ok (.aload_n 0, 1) := by decide +kernel
theorem dL_law_669 : decode cL_law 669 = .ok (.iload 4, 2) := by decide +kernel
theorem dL_law_671 : decode cL_law 671 = .ok (.iconst 1, 1) := by decide +kernel
theorem dL_law_672 : decode cL_law 672 = .ok (.iadd, 1) := by decide +kernel
theorem dL_law_673 : decode cL_law 673 = .ok (.iaload, 1) := by decide +kernel
theorem dL_law_674 : decode cL_law 674 = .ok (.aload_n 0, 1) := by decide +kernel
theorem dL_law_675 : decode cL_law 675 = .ok (.iload 4, 2) := by decide +kernel
theorem dL_law_677 : decode cL_law 677 = .ok (.iconst 2, 1) := by decide +kernel
theorem dL_law_678 : decode cL_law 678 = .ok (.iadd, 1) := by decide +kernel
theorem dL_law_679 : decode cL_law 679 = .ok (.iaload, 1) := by decide +kernel
theorem dL_law_680 : decode cL_law 680 = .ok (.invokevirtual 90, 3) := by decide +kernel
theorem dL_law_683 : decode cL_law 683 = .ok (.aload_n 2, 1) := by decide +kernel
theorem dL_law_684 : decode cL_law 684 = .ok (.aload_n 0, 1) := by decide +kernel
theorem dL_law_685 : decode cL_law 685 = .ok (.iload 4, 2) := by decide +kernel
theorem dL_law_687 : decode cL_law 687 = .ok (.iconst 1, 1) := by decide +kernel
theorem dL_law_688 : decode cL_law 688 = .ok (.iadd, 1) := by decide +kernel
theorem dL_law_689 : decode cL_law 689 = .ok (.iaload, 1) := by decide +kernel
theorem dL_law_690 : decode cL_law 690 = .ok (.aload_n 0, 1) := by decide +kernel
theorem dL_law_691 : decode cL_law 691 = .ok (.iload 4, 2) := by decide +kernel
theorem dL_law_693 : decode cL_law 693 = .ok (.iconst 2, 1) := by decide +kernel
theorem dL_law_694 : decode cL_law 694 = .ok (.iadd, 1) := by decide +kernel
theorem dL_law_695 : decode cL_law 695 = .ok (.iaload, 1) := by decide +kernel
theorem dL_law_696 : decode cL_law 696 = .ok (.invokevirtual 93, 3) := by decide +kernel
theorem dL_law_699 : decode cL_law 699 = .ok (.if_icmp .eq 18, 3) := by decide +kernel
theorem dL_law_702 : decode cL_law 702 = .ok (.iconst 0, 1) := by decide +kernel
theorem dL_law_703 : decode cL_law 703 = .ok (.ireturn, 1) := by decide +kernel
theorem dL_law_704 : decode cL_law 704 = .ok (.aload_n 1, 1) := by decide +kernel
theorem dL_law_705 : decode cL_law 705 = .ok (.invokevirtual 94, 3) := by decide +kernel
theorem dL_law_708 : decode cL_law 708 = .ok (.aload_n 2, 1) := by decide +kernel
theorem dL_law_709 : decode cL_law 709 = .ok (.invokevirtual 97, 3) := by decide +kernel
theorem dL_law_712 : decode cL_law 712 = .ok (.if_icmp .eq 5, 3) := by decide +kernel
theorem dL_law_715 : decode cL_law 715 = .ok (.iconst 0, 1) := by decide +kernel
theorem dL_law_716 : decode cL_law 716 = .ok (.ireturn, 1) := by decide +kernel
theorem dL_law_717 : decode cL_law 717 = .ok (.iinc 4 6, 3) := by decide +kernel
theorem dL_law_720 : decode cL_law 720 = .ok (.goto (-697), 3) := by decide +kernel
theorem dL_law_723 : decode cL_law 723 = .ok (.iconst 1, 1) := by decide +kernel
theorem dL_law_724 : decode cL_law 724 = .ok (.ireturn, 1) := by decide +kernel
abbrev vwCl : List vw_C := [(RX0, TX0, 8), (RX1, TX1, 4), (RX2, TX2, 6), (RX3, TX3, 19)]
end
section
/-! THE FLAT MEMORY: every int of the world, by the number of its cell and its place there; the world's shape beside it -/
abbrev Mem : Type := Nat → Nat → Int32
def mup (g : Mem) (k i : Nat) (v : Int32) : Mem := fun a b => if a = k ∧ b = i then v else g a b
theorem mup_row (g : Mem) (k i : Nat) (v : Int32) : mup g k i v k = upd (g k) i v := by
  funext b
  simp [mup, upd]
theorem mup_row_ne {g : Mem} {k i a : Nat} {v : Int32} (h : a ≠ k) : mup g k i v a = g a := by
  funext b
  simp [mup, h]
/-- a field: none: an int; some r: a reference, to the cell of that number, or null -/
abbrev Fd : Type := Option (Option Nat)
/-- a cell: an object (its class's number, its fields), or an array (its kind, its length, what it refers to) -/
abbrev Dsc : Type := (Nat × List Fd) ⊕ (Nat × Nat × (Nat → Option Nat))
def pcV (ad : Nat → Nat) (r : Nat → Int32) (j : Nat) (d : Fd) : Value := match d with
  | none => .int (r j)
  | some q => va_rf (q.map ad)
def pcA (ad : Nat → Nat) (r : Nat → Int32) (t : Nat) (g : Nat → Option Nat) : (Nat → Int32) ⊕ (Nat → Int64) ⊕ (Nat → UInt32) ⊕ (Nat → UInt64) ⊕ (Nat → Option Nat) := match t with
  | 0 => .inl r
  | 1 => .inl r
  | 2 => .inr (.inl (fun i => (r i).toInt64))
  | _ => .inr (.inr (.inr (.inr (fun i => (g i).map ad))))
def pcE (cA : Nat → ClassId) (ad : Nat → Nat) (r : Nat → Int32) (d : Dsc) : va_E := match d with
  | .inl (ci, fs) => .inr (ci, fs.mapIdx (fun j d => pcV ad r j d))
  | .inr (t, n, g) => .inl (cA t, n, pcA ad r t g)
def wld (cA : Nat → ClassId) (ad : Nat → Nat) (g : Mem) (lay : List Dsc) : va_W := lay.mapIdx (fun k d => (ad k, pcE cA ad (g k) d))
theorem wld_at {cA : Nat → ClassId} {ad : Nat → Nat} {g : Mem} {lay : List Dsc} {k : Nat} {d : Dsc} (h : lay[k]? = some d) : (wld cA ad g lay)[k]? = some (ad k, pcE cA ad (g k) d) := by
  simp [wld, h]
theorem wld_set {cA : Nat → ClassId} {ad : Nat → Nat} {g : Mem} {lay : List Dsc} {k i : Nat} {v : Int32} {d : Dsc} {e : va_E} (h : lay[k]? = some d) (he : e = pcE cA ad (upd (g k) i v) d) : (wld cA ad g lay).set k (ad k, e) = wld cA ad (mup g k i v) lay := by
  have hk : k < lay.length := (List.getElem?_eq_some_iff.mp h).1
  apply List.ext_getElem?
  intro j
  by_cases hj : j = k
  · subst hj
    rw [List.getElem?_set_self (by simpa [wld] using hk), wld_at h, mup_row, he]
  · rw [List.getElem?_set_ne (Ne.symm hj)]
    simp only [wld, List.getElem?_mapIdx]
    rw [mup_row_ne hj]
theorem fld_set {ad : Nat → Nat} {r : Nat → Int32} {fs : List Fd} {j : Nat} {v : Int32} (h : fs[j]? = some none) : (fs.mapIdx (fun i d => pcV ad r i d)).set j (.int v) = fs.mapIdx (fun i d => pcV ad (upd r j v) i d) := by
  have hk : j < fs.length := (List.getElem?_eq_some_iff.mp h).1
  apply List.ext_getElem?
  intro i
  by_cases hi : i = j
  · subst hi
    rw [List.getElem?_set_self (by simpa using hk)]
    simp [h, pcV, upd]
  · rw [List.getElem?_set_ne (Ne.symm hi)]
    simp only [List.getElem?_mapIdx]
    cases fs[i]? with
    | none => rfl
    | some d =>
      cases d with
      | none => simp [pcV, upd, hi]
      | some q => simp [pcV]
def gd {α : Type} (p : Prop) [Decidable p] (x : Option α) : Option α := if p then x else none
theorem gd_some {α : Type} {p : Prop} [Decidable p] {x : Option α} {y : α} (h : gd p x = some y) : p ∧ x = some y := by
  unfold gd at h
  split at h
  · exact ⟨by assumption, h⟩
  · cases h
theorem bd_some {α β : Type} {x : Option α} {f : α → Option β} {y : β} (h : x.bind f = some y) : ∃ a, x = some a ∧ f a = some y := by
  cases x with
  | none => cases h
  | some a => exact ⟨a, rfl, h⟩
/-- the addresses are apart, and none lies below lo -/
def AdOk (lo : Nat) (ad : Nat → Nat) (n : Nat) : Prop := (∀ i j, i < n → j < n → ad i = ad j → i = j) ∧ ∀ k, k < n → lo ≤ ad k
theorem AdOk.D {lo : Nat} {ad : Nat → Nat} {lay : List Dsc} (h : AdOk lo ad lay.length) (cA : Nat → ClassId) (g : Mem) : va_D (fun q => lo ≤ q) (wld cA ad g lay) := by
  refine ⟨fun i j p q hi hj hpq => ?_, fun k q hk => ?_⟩
  · simp only [wld, List.getElem?_mapIdx, Option.map_eq_some_iff] at hi hj
    obtain ⟨d1, h1, rfl⟩ := hi
    obtain ⟨d2, h2, rfl⟩ := hj
    exact h.1 i j (List.getElem?_eq_some_iff.mp h1).1 (List.getElem?_eq_some_iff.mp h2).1 hpq
  · simp only [wld, List.getElem?_mapIdx, Option.map_eq_some_iff] at hk
    obtain ⟨d1, h1, rfl⟩ := hk
    exact h.2 k (List.getElem?_eq_some_iff.mp h1).1
end
section
/-! THE CLAIM'S OWN WORLD: FlatLoader 0; its array of modules 1; module m at 2 + 6 m, its five rows behind it; Row 50, its members 51; the chain 52, 53; the reference 54, its rows 55 .. 70; the law's long[1] 71 -/
def ia (n : Nat) : Dsc := .inr (0, n, fun _ => none)
def za (n : Nat) : Dsc := .inr (1, n, fun _ => none)
def kM (m : Nat) : Nat := 2 + 6 * m
def fsM (k : Nat) : List Fd := [some (some (k + 1)), some (some (k + 2)), some (some (k + 3)), some (some (k + 4)), some (some (k + 5)), none, none, none]
def dM (k : Nat) : Dsc := .inl (0, fsM k)
def mdD (k : Nat) : List Dsc := [dM k, ia 24, ia 24, ia 6, ia 6, ia 6]
def fsF : List Fd := [some (some 1), none, none, some (some 50), some (some 52), some (some 53)]
def dF : Dsc := .inl (2, fsF)
def dA : Dsc := .inr (3, 8, fun i => some (kM i))
def fsR : List Fd := [some (some 51), none, none, none]
def dR : Dsc := .inl (1, fsR)
def fsX : List Fd := [none, some (some 55), some (some 56), some (some 57), some (some 58), some (some 59), some (some 60), some (some 61), some (some 62), some (some 63), some (some 64), none, none, some (some 65), some (some 66), some (some 67), some (some 68), some (some 69), some (some 70)]
def dX : Dsc := .inl (3, fsX)
def lay0 : List Dsc := [dF, dA] ++ (mdD 2 ++ (mdD 8 ++ (mdD 14 ++ (mdD 20 ++ (mdD 26 ++ (mdD 32 ++ (mdD 38 ++ (mdD 44 ++ ([dR, ia 8, ia 10, ia 10] ++ ([dX, za 8, za 8, za 8, ia 192, ia 192, ia 8, ia 48, ia 48, ia 48, za 48, ia 8, za 8, za 8, ia 10, ia 10, ia 11] ++ [.inr (2, 1, fun _ => none)]))))))))))
theorem lay0_len : lay0.length = 72 := rfl
theorem lt8 {m : Nat} (h : m < 8) : m = 0 ∨ m = 1 ∨ m = 2 ∨ m = 3 ∨ m = 4 ∨ m = 5 ∨ m = 6 ∨ m = 7 := by omega
theorem lyM {m : Nat} (h : m < 8) : lay0[kM m]? = some (dM (kM m)) := by
  rcases lt8 h with rfl | rfl | rfl | rfl | rfl | rfl | rfl | rfl <;> rfl
theorem lyM1 {m : Nat} (h : m < 8) : lay0[kM m + 1]? = some (ia 24) := by
  rcases lt8 h with rfl | rfl | rfl | rfl | rfl | rfl | rfl | rfl <;> rfl
theorem lyM2 {m : Nat} (h : m < 8) : lay0[kM m + 2]? = some (ia 24) := by
  rcases lt8 h with rfl | rfl | rfl | rfl | rfl | rfl | rfl | rfl <;> rfl
theorem lyM3 {m : Nat} (h : m < 8) : lay0[kM m + 3]? = some (ia 6) := by
  rcases lt8 h with rfl | rfl | rfl | rfl | rfl | rfl | rfl | rfl <;> rfl
theorem lyM4 {m : Nat} (h : m < 8) : lay0[kM m + 4]? = some (ia 6) := by
  rcases lt8 h with rfl | rfl | rfl | rfl | rfl | rfl | rfl | rfl <;> rfl
theorem lyM5 {m : Nat} (h : m < 8) : lay0[kM m + 5]? = some (ia 6) := by
  rcases lt8 h with rfl | rfl | rfl | rfl | rfl | rfl | rfl | rfl <;> rfl
def tysL (cA : Nat → ClassId) : List (ClassId × FieldType) := [(cA 0, .int), (cA 1, .boolean), (cA 2, .long), (cA 3, .object RX0)]
/-- the words on nest mates -/
def nestW : List Cond := [.fieldLinkNest "FlatLoader" 76 "FlatLoader$OneModule" "extended" "[I" "FlatLoader", .fieldLinkNest "FlatLoader" 163 "FlatLoader$OneModule" "definedAbove" "[I" "FlatLoader", .fieldLinkNest "FlatLoader" 184 "FlatLoader$OneModule" "on" "[I" "FlatLoader", .fieldLinkNest "FlatLoader" 194 "FlatLoader$OneModule" "imports" "[I" "FlatLoader", .fieldLinkNest "FlatLoader" 204 "FlatLoader$OneModule" "exports" "[I" "FlatLoader", .fieldLinkNest "FlatLoader" 88 "FlatLoader$OneModule" "dependencies" "I" "FlatLoader", .fieldLinkNest "FlatLoader" 175 "FlatLoader$OneModule" "dependedSet" "I" "FlatLoader", .fieldLinkNest "FlatLoader" 169 "FlatLoader$OneModule" "requiredSet" "I" "FlatLoader", .fieldLinkNest "FlatLoader" 157 "FlatLoader$Row" "members" "[I" "FlatLoader", .fieldLinkNest "FlatLoader" 154 "FlatLoader$Row" "size" "I" "FlatLoader", .fieldLinkNest "FlatLoader" 201 "FlatLoader$Row" "begun" "I" "FlatLoader", .methodLinkNest "FlatLoader" 15 ⟨"FlatLoader$OneModule", "<init>", "()V"⟩ "FlatLoader", .methodLinkNest "FlatLoader" 25 ⟨"FlatLoader$Row", "<init>", "()V"⟩ "FlatLoader", .methodLinkNest "FlatLoader" 181 ⟨"FlatLoader$Row", "clear", "()V"⟩ "FlatLoader", .methodLinkNest "FlatLoader" 187 ⟨"FlatLoader$OneModule", "hasPath", "(I)Z"⟩ "FlatLoader", .methodLinkNest "FlatLoader" 190 ⟨"FlatLoader$Row", "addOnceIf", "(ZI)V"⟩ "FlatLoader", .methodLinkNest "FlatLoader$Row" 28 ⟨"FlatLoader", "isIn", "(II)Z"⟩ "FlatLoader", .methodLinkNest "FlatLoader$Row" 32 ⟨"FlatLoader", "bit", "(I)I"⟩ "FlatLoader", .methodLinkNest "FlatLoader" 71 ⟨"FlatLoader$OneModule", "holds", "(I)Z"⟩ "FlatLoader", .methodLinkNest "FlatLoader" 132 ⟨"FlatLoader$OneModule", "countClasses", "()I"⟩ "FlatLoader", .methodLinkNest "FlatLoader" 95 ⟨"FlatLoader$OneModule", "addDependency", "(IIIZ)V"⟩ "FlatLoader", .methodLinkNest "FlatLoader$OneModule" 41 ⟨"FlatLoader", "bit", "(I)I"⟩ "FlatLoader", .methodLinkNest "FlatLoader" 101 ⟨"FlatLoader$OneModule", "dropDependencies", "()V"⟩ "FlatLoader", .methodLinkNest "FlatLoader" 178 ⟨"FlatLoader$OneModule", "hasClassBelow", "(I)Z"⟩ "FlatLoader", .methodLinkNest "FlatLoader" 135 ⟨"FlatLoader$OneModule", "dropClasses", "()V"⟩ "FlatLoader", .methodLinkNest "FlatLoader" 213 ⟨"FlatLoader$OneModule", "hasDefined", "(I)Z"⟩ "FlatLoader"]
def NWd (U : State) : Prop := ∀ w ∈ nestW, va_Nw w U
def nestOk (w : Cond) : Bool := match w with
  | .fieldLinkNest _ _ _ _ _ _ => true
  | .methodLinkNest _ _ _ _ => true
  | _ => false
theorem nestW_ok : ∀ w ∈ nestW, nestOk w = true := by decide +kernel
theorem NWd.warm {s U : State} (hW : s.WarmedH U.vm) (h : NWd s) : NWd U := by
  intro w hw
  have h1 := h w hw
  have h2 := nestW_ok w hw
  cases w <;> first | exact va_Nw.warmF hW h1 | exact va_Nw.warmM hW h1 | cases h2
theorem NWd.same {u U : State} (hvm : u.vm = U.vm) (h : NWd u) : NWd U := by
  intro w hw
  have h1 := h w hw
  have h2 := nestW_ok w hw
  cases w <;> first | exact va_Nw.same rfl hvm h1 | cases h2
/-- guards of a mirror -/
def gi {α : Type} (i : Int32) (n : Nat) (x : Option α) : Option α := if i < 0 then none else if n ≤ i.toNatClampNeg then none else x
theorem gi_some {α : Type} {i : Int32} {n : Nat} {x : Option α} {y : α} (h : gi i n x = some y) : vp_in i n ∧ i.toNatClampNeg < n ∧ x = some y := by
  unfold gi at h
  split at h
  · cases h
  · split at h
    · cases h
    · rename_i h1 h2
      exact ⟨fun q => q.elim h1 h2, Nat.not_le.mp h2, h⟩
def gz {α : Type} (v : Int32) (x : Option α) : Option α := if v = 0 then x else if v = 1 then x else none
theorem gz_some {α : Type} {v : Int32} {x : Option α} {y : α} (h : gz v x = some y) : narrow .boolean (.int v) = .int v ∧ x = some y := by
  unfold gz at h
  split at h
  · rename_i h1
    subst h1
    exact ⟨rfl, h⟩
  · split at h
    · rename_i h1 h2
      subst h2
      exact ⟨rfl, h⟩
    · cases h
/-- what a method's start holds -/
def Bw (D : va_G) (cA : Nat → ClassId) (ad : Nat → Nat) (lo : Nat) (g : Mem) (U : State) : Prop := lo ≤ U.heap.size ∧ va_P D vwCl (wld cA ad g lay0) U.heap ∧ va_K D vwCl (tysL cA) U ∧ NWd U
def Pw (av : List Value) (D : va_G) (cA : Nat → ClassId) (ad : Nat → Nat) (lo : Nat) (g : Mem) : Array Value → State → Prop := va_Pc av (Bw D cA ad lo g)
theorem Pw_blind {av : List Value} {D : va_G} {cA : Nat → ClassId} {ad : Nat → Nat} {lo : Nat} {g : Mem} : FrameBlind (Pw av D cA ad lo g) := by
  intro a U gg mk h
  obtain ⟨h0, h1, h2, h3, h4⟩ := h
  exact ⟨h0, h1, h2, va_K.moved (u := U) (U := U.calling gg mk a) (Vm.Alike.refl U.vm) h3, NWd.same (u := U) (U := U.calling gg mk a) rfl h4⟩
theorem Pw_at {av : List Value} {D : va_G} {cA : Nat → ClassId} {ad : Nat → Nat} {lo : Nat} {g : Mem} {s : State} {H : Heap} {locs : List Loc} (hlo : lo ≤ s.heap.size) (hS : va_S (fun q => lo ≤ q) s.heap H locs) (hP : va_P D vwCl (wld cA ad g lay0) H) (hK : va_K D vwCl (tysL cA) s) (hN : NWd s) : ∀ U : State, U.heap = H → s.WarmedH U.vm → Pw av D cA ad lo g av.toArray U := by
  intro U hU hW
  exact ⟨rfl, by rw [hU]; exact Nat.le_trans hlo hS.1, by rw [hU]; exact hP, va_K.moved hW.alike hK, hN.warm hW⟩
def Tr (_ : State) : Prop := True
theorem Tr_blind {av : List Value} : FrameBlind (va_Pc av Tr) := by
  intro a U gg mk h
  exact ⟨h.1, trivial⟩
theorem Tr_at {av : List Value} {s : State} {H : Heap} : ∀ U : State, U.heap = H → s.WarmedH U.vm → va_Pc av Tr av.toArray U := fun _ _ _ => ⟨rfl, trivial⟩
/-- what a method's end holds: a reader's, a writer's -/
def Qr (r : Int32) : Array Value → State → Outcome → State → Prop := fun _ st o t => o = .returned (some (.int r)) ∧ t.heap = st.heap
def Qw (D : va_G) (cA : Nat → ClassId) (ad : Nat → Nat) (lo : Nat) (g : Mem) (r : Option Int32) : Array Value → State → Outcome → State → Prop := fun _ st o t => o = .returned (r.map Value.int) ∧ va_P D vwCl (wld cA ad g lay0) t.heap ∧ va_F (fun q => lo ≤ q) st t
/-- a method's start -/
theorem startW {l : Launch} {y : MethodName} {ws ws' : List Cond} {rm : Room} {av : List Value} {B0 : State → Prop} {Qc : Array Value → State → Outcome → State → Prop} {mc ms : Nat} {free : Addr → Prop} {cc : ByteArray} {maxL : Nat} {ret : Option FieldType}
    (hy : plainName y.cls = true) (hw : ws = Cond.code y cc maxL ret :: ws') (hn : (lg_sl av).length ≤ maxL)
    (body : ∀ (p : Program) (e : Env) (s : State) (m : MethodId) (args : Array Value) (below : List Frame) (meth : Method) (c : Code) (ls : Array Slot), CallFix p m c cc maxL s args ws y.cls → meth.sig.returnType = ret → meth.locks = false → B0 s → lv_has ls maxL (lv_args 0 av) →
      W p l e rm s m args below meth c s.heap [] 0 0 (MQ below Qc args s mc ms free) (F0 m 0 ls [])) : Met l y ws rm (va_Pc av B0) Qc mc ms free := by
  refine Met.ofW (cc := cc) (maxL := maxL) (ret := ret) hy hw ?_
  intro p e s m args below meth c s₁ B hml hv
  obtain ⟨rfl, hB⟩ := hv
  have hl := lv_entry av (n := maxL) hn
  rw [lg_entry_eq]
  exact body p e s m _ below meth c _ ⟨B.exec, B.bytes, hml, findClass_of_methodNamed B.named, atoms_spec (ws := ws) B.pre⟩ B.returns B.notSynchronized hB hl
section FR
variable {p : Program} {l : Launch} {e : Env} {R : Room} {s : State} {m : MethodId} {args : Array Value} {below : List Frame} {meth : Method} {c : Code} {H : Heap} {locs : List Loc} {cells slots : Nat} {Q : State → Prop}
variable {cc : ByteArray} {pc nL : Nat} {ls : Array Slot} {rest : List Value} {D : va_G} {cA : Nat → ClassId} {ad : Nat → Nat} {lo : Nat} {g : Mem} {own : String} {Ts : List Cond} {H0 : Heap}
theorem r_get {C : String} {T : u_T} {N ci index k j : Nat} {fs : List Fd} {d : Fd} {v : Value} (S : CallFix p m c cc nL s args Ts own) (hK : va_K D vwCl (tysL cA) s) (hP : va_P D vwCl (wld cA ad g lay0) H) (hin : ∀ w ∈ u_ws C T N, w ∈ Ts) (hlink : (Cond.fieldLink own index (T j).1 (T j).2.1 (T j).2.2.1).before args s = true) (hc : vwCl[ci]? = some (C, T, N)) (hj : j < N) (hl : lay0[k]? = some (.inl (ci, fs))) (hf : fs[j]? = some d) (hv : pcV ad (g k) j d = v) (hd : decode cc pc = .ok (.getfield index, 3))
    (kk : W p l e R s m args below meth c H locs cells slots Q (F0 m (pc + 3) ls (v :: rest))) : W p l e R s m args below meth c H locs cells slots Q (F0 m pc ls (.ref (ad k) :: rest)) :=
  va_get (fs := fs.mapIdx (fun j d => pcV ad (g k) j d)) S.1 S.2.1 S.2.2.2.2 hin S.2.2.2.1 hK hP k (wld_at hl) hc j hj hlink (fun _ h => h) (by rw [List.getElem?_mapIdx, hf, Option.map_some, hv]) hd kk
theorem r_getN {C host : String} {T : u_T} {N ci index k j : Nat} {fs : List Fd} {d : Fd} {v : Value} (S : CallFix p m c cc nL s args Ts own) (hK : va_K D vwCl (tysL cA) s) (hP : va_P D vwCl (wld cA ad g lay0) H) (hin : ∀ w ∈ u_ws C T N, w ∈ Ts) (hlink : va_Nw (.fieldLinkNest own index (T j).1 (T j).2.1 (T j).2.2.1 host) s) (hc : vwCl[ci]? = some (C, T, N)) (hj : j < N) (hl : lay0[k]? = some (.inl (ci, fs))) (hf : fs[j]? = some d) (hv : pcV ad (g k) j d = v) (hd : decode cc pc = .ok (.getfield index, 3))
    (kk : W p l e R s m args below meth c H locs cells slots Q (F0 m (pc + 3) ls (v :: rest))) : W p l e R s m args below meth c H locs cells slots Q (F0 m pc ls (.ref (ad k) :: rest)) :=
  va_getN (fs := fs.mapIdx (fun j d => pcV ad (g k) j d)) S.1 S.2.1 S.2.2.2.2 hin S.2.2.2.1 hK hP k (wld_at hl) hc j hj (va_Nw.use rfl hlink) (fun _ h => h) (by rw [List.getElem?_mapIdx, hf, Option.map_some, hv]) hd kk
theorem r_put {C : String} {T : u_T} {N ci index k j : Nat} {fs : List Fd} {v : Int32} (ty0 : Nat → FieldType) (hty : ∀ k, k < N → parseFieldDescriptor (T k).2.2.1 = some (ty0 k)) (hnm : ∀ a, a < N → ∀ b, b < N → a ≠ b → (T a).2.1 ≠ (T b).2.1) (S : CallFix p m c cc nL s args Ts own) (hA : AdOk lo ad 72) (hK : va_K D vwCl (tysL cA) s) (hP : va_P D vwCl (wld cA ad g lay0) H) (hS : va_S (fun q => lo ≤ q) H0 H locs) (hin : ∀ w ∈ u_ws C T N, w ∈ Ts) (hlink : (Cond.fieldLink own index (T j).1 (T j).2.1 (T j).2.2.1).before args s = true) (hc : vwCl[ci]? = some (C, T, N)) (hj : j < N) (hfin : (T j).2.2.2 = false) (hd2 : parseFieldDescriptor (T j).2.2.1 = some .int) (hl : lay0[k]? = some (.inl (ci, fs))) (hf : fs[j]? = some none) (hd : decode cc pc = .ok (.putfield index, 3))
    (kk : ∀ (H1 : Heap) (locs1 : List Loc), va_P D vwCl (wld cA ad (mup g k j v) lay0) H1 → va_S (fun q => lo ≤ q) H0 H1 locs1 → W p l e R s m args below meth c H1 locs1 cells slots Q (F0 m (pc + 3) ls rest)) : W p l e R s m args below meth c H locs cells slots Q (F0 m pc ls (.int v :: .ref (ad k) :: rest)) := by
  refine va_put (fs := fs.mapIdx (fun j d => pcV ad (g k) j d)) S.1 S.2.1 S.2.2.2.2 hin ty0 hty hnm S.2.2.2.1 hK hP (hA.D cA g) hS k (wld_at hl) hc j hj hlink (fun _ h => h) hfin hd2 (vp_nar_int v) rfl (by rw [List.length_mapIdx]; exact (List.getElem?_eq_some_iff.mp hf).1) hd (fun H1 locs1 h1 _ h3 => kk H1 locs1 ?_ h3)
  rw [wld_set (i := j) (v := v) hl (by rw [fld_set hf]; rfl)] at h1
  exact h1
theorem r_putN {C host : String} {T : u_T} {N ci index k j : Nat} {fs : List Fd} {v : Int32} (ty0 : Nat → FieldType) (hty : ∀ k, k < N → parseFieldDescriptor (T k).2.2.1 = some (ty0 k)) (hnm : ∀ a, a < N → ∀ b, b < N → a ≠ b → (T a).2.1 ≠ (T b).2.1) (S : CallFix p m c cc nL s args Ts own) (hA : AdOk lo ad 72) (hK : va_K D vwCl (tysL cA) s) (hP : va_P D vwCl (wld cA ad g lay0) H) (hS : va_S (fun q => lo ≤ q) H0 H locs) (hin : ∀ w ∈ u_ws C T N, w ∈ Ts) (hlink : va_Nw (.fieldLinkNest own index (T j).1 (T j).2.1 (T j).2.2.1 host) s) (hc : vwCl[ci]? = some (C, T, N)) (hj : j < N) (hfin : (T j).2.2.2 = false) (hd2 : parseFieldDescriptor (T j).2.2.1 = some .int) (hl : lay0[k]? = some (.inl (ci, fs))) (hf : fs[j]? = some none) (hd : decode cc pc = .ok (.putfield index, 3))
    (kk : ∀ (H1 : Heap) (locs1 : List Loc), va_P D vwCl (wld cA ad (mup g k j v) lay0) H1 → va_S (fun q => lo ≤ q) H0 H1 locs1 → W p l e R s m args below meth c H1 locs1 cells slots Q (F0 m (pc + 3) ls rest)) : W p l e R s m args below meth c H locs cells slots Q (F0 m pc ls (.int v :: .ref (ad k) :: rest)) := by
  refine va_putN (fs := fs.mapIdx (fun j d => pcV ad (g k) j d)) S.1 S.2.1 S.2.2.2.2 hin ty0 hty hnm S.2.2.2.1 hK hP (hA.D cA g) hS k (wld_at hl) hc j hj (va_Nw.use rfl hlink) (fun _ h => h) hfin hd2 (vp_nar_int v) rfl (by rw [List.length_mapIdx]; exact (List.getElem?_eq_some_iff.mp hf).1) hd (fun H1 locs1 h1 _ h3 => kk H1 locs1 ?_ h3)
  rw [wld_set (i := j) (v := v) hl (by rw [fld_set hf]; rfl)] at h1
  exact h1
theorem r_ild {k n : Nat} {f : Nat → Option Nat} {i : Int32} (S : CallFix p m c cc nL s args Ts own) (hK : va_K D vwCl (tysL cA) s) (hP : va_P D vwCl (wld cA ad g lay0) H) (hl : lay0[k]? = some (.inr (0, n, f))) (hin : vp_in i n) (hd : decode cc pc = .ok (.iaload, 1))
    (kk : W p l e R s m args below meth c H locs cells slots Q (F0 m (pc + 1) ls (.int (g k i.toNatClampNeg) :: rest))) : W p l e R s m args below meth c H locs cells slots Q (F0 m pc ls (.int i :: .ref (ad k) :: rest)) :=
  va_iald (cA := cA 0) (n := n) (f := g k) S.1 S.2.1 hK hP k 0 (wld_at hl) rfl hin hd kk
theorem r_zld {k n : Nat} {f : Nat → Option Nat} {i : Int32} (S : CallFix p m c cc nL s args Ts own) (hK : va_K D vwCl (tysL cA) s) (hP : va_P D vwCl (wld cA ad g lay0) H) (hl : lay0[k]? = some (.inr (1, n, f))) (hin : vp_in i n) (hd : decode cc pc = .ok (.baload, 1))
    (kk : W p l e R s m args below meth c H locs cells slots Q (F0 m (pc + 1) ls (.int (g k i.toNatClampNeg) :: rest))) : W p l e R s m args below meth c H locs cells slots Q (F0 m pc ls (.int i :: .ref (ad k) :: rest)) :=
  va_zald (cA := cA 1) (n := n) (f := g k) S.1 S.2.1 hK hP k 1 (wld_at hl) rfl hin hd kk
theorem r_ist {k n : Nat} {f : Nat → Option Nat} {i x : Int32} (S : CallFix p m c cc nL s args Ts own) (hA : AdOk lo ad 72) (hK : va_K D vwCl (tysL cA) s) (hP : va_P D vwCl (wld cA ad g lay0) H) (hS : va_S (fun q => lo ≤ q) H0 H locs) (hl : lay0[k]? = some (.inr (0, n, f))) (hin : vp_in i n) (hd : decode cc pc = .ok (.iastore, 1))
    (kk : ∀ (H1 : Heap) (locs1 : List Loc), va_P D vwCl (wld cA ad (mup g k i.toNatClampNeg x) lay0) H1 → va_S (fun q => lo ≤ q) H0 H1 locs1 → W p l e R s m args below meth c H1 locs1 cells slots Q (F0 m (pc + 1) ls rest)) : W p l e R s m args below meth c H locs cells slots Q (F0 m pc ls (.int x :: .int i :: .ref (ad k) :: rest)) := by
  refine va_iast (cA := cA 0) (n := n) (f := g k) S.1 S.2.1 hK hP (hA.D cA g) hS k 0 (wld_at hl) rfl hin hd (fun H1 locs1 h1 _ h3 => kk H1 locs1 ?_ h3)
  rw [wld_set (i := i.toNatClampNeg) (v := x) hl rfl] at h1
  exact h1
theorem r_zst {k n : Nat} {f : Nat → Option Nat} {i x : Int32} (S : CallFix p m c cc nL s args Ts own) (hA : AdOk lo ad 72) (hK : va_K D vwCl (tysL cA) s) (hP : va_P D vwCl (wld cA ad g lay0) H) (hS : va_S (fun q => lo ≤ q) H0 H locs) (hl : lay0[k]? = some (.inr (1, n, f))) (hin : vp_in i n) (hd : decode cc pc = .ok (.bastore, 1))
    (kk : ∀ (H1 : Heap) (locs1 : List Loc), va_P D vwCl (wld cA ad (mup g k i.toNatClampNeg (vp_nar .boolean x)) lay0) H1 → va_S (fun q => lo ≤ q) H0 H1 locs1 → W p l e R s m args below meth c H1 locs1 cells slots Q (F0 m (pc + 1) ls rest)) : W p l e R s m args below meth c H locs cells slots Q (F0 m pc ls (.int x :: .int i :: .ref (ad k) :: rest)) := by
  refine va_zast (cA := cA 1) (n := n) (f := g k) S.1 S.2.1 hK hP (hA.D cA g) hS k 1 (wld_at hl) rfl hin hd (fun H1 locs1 h1 _ h3 => kk H1 locs1 ?_ h3)
  rw [wld_set (i := i.toNatClampNeg) (v := vp_nar .boolean x) hl rfl] at h1
  exact h1
theorem r_ald {i : Int32} (S : CallFix p m c cc nL s args Ts own) (hK : va_K D vwCl (tysL cA) s) (hP : va_P D vwCl (wld cA ad g lay0) H) (hin : vp_in i 8) (hd : decode cc pc = .ok (.aaload, 1))
    (kk : W p l e R s m args below meth c H locs cells slots Q (F0 m (pc + 1) ls (.ref (ad (kM i.toNatClampNeg)) :: rest))) : W p l e R s m args below meth c H locs cells slots Q (F0 m pc ls (.int i :: .ref (ad 1) :: rest)) :=
  va_aldq (cA := cA 3) (C := RX0) (n := 8) (f := fun i => (some (kM i)).map ad) S.1 S.2.1 hK hP 1 3 (wld_at (d := dA) rfl) rfl hin hd kk
/-- a call that leaves the heap as it is -/
theorem k_R {r : Int32} {a : Array Value} {st0 : List Value} (hr : va_Run p l e R s m args below meth c H locs cells slots 0 0 (F0 m pc ls st0) rest (Qr r a) (fun _ => False))
    (kk : W p l e R s m args below meth c H locs cells slots Q (F0 m (pc + 3) ls (.int r :: rest))) : W p l e R s m args below meth c H locs cells slots Q (F0 m pc ls st0) := by
  intro T hT X
  obtain ⟨v, st₀, t, T', L, h0, X', hL, e1, -, ⟨hv, hh⟩, st⟩ := hr T hT X
  cases hv
  obtain ⟨t2, a1, b1⟩ := kk T' (by rw [e1, hh, h0]) (Stand.forget X' (fun q h => (hL q h).elim))
  exact ⟨t2, st t2 a1, b1⟩
theorem k_W {g1 : Mem} {r : Option Int32} {a : Array Value} {st0 : List Value} (hr : va_Run p l e R s m args below meth c H locs cells slots 0 0 (F0 m pc ls st0) rest (Qw D cA ad lo g1 r a) (fun q => lo ≤ q)) (hS : va_S (fun q => lo ≤ q) H0 H locs)
    (kk : ∀ (H1 : Heap) (locs1 : List Loc), va_P D vwCl (wld cA ad g1 lay0) H1 → va_S (fun q => lo ≤ q) H0 H1 locs1 → W p l e R s m args below meth c H1 locs1 cells slots Q (F0 m (pc + 3) ls ((r.map Value.int).toList ++ rest))) : W p l e R s m args below meth c H locs cells slots Q (F0 m pc ls st0) := by
  intro T hT X
  obtain ⟨v, st₀, t, T', L, h0, X', hL, e1, -, ⟨hv, hP, hF⟩, st⟩ := hr T hT X
  cases hv
  refine (fun (q : ∃ t2, Steps p.tables e below (T'.setTop (F0 m (pc + 3) ls ((r.map Value.int).toList ++ rest))) t2 ∧ Q t2) => ?_) (kk t.heap (locs ++ L) hP ?_ T' e1 X')
  · obtain ⟨t2, a1, b1⟩ := q
    exact ⟨t2, st t2 a1, b1⟩
  · obtain ⟨f1, f2⟩ := hF
    rw [h0] at f1 f2
    refine ⟨Nat.le_trans hS.1 f1, fun q hq hn => ?_, fun q hq => ?_⟩
    · rw [f2 q (Nat.lt_of_lt_of_le hq hS.1) hn]
      exact hS.2.1 q hq hn
    · rcases List.mem_append.mp hq with h | h
      · exact hS.2.2 q h
      · exact hL q h
theorem k_Wi {g1 : Mem} {r : Int32} {a : Array Value} {st0 : List Value} (hr : va_Run p l e R s m args below meth c H locs cells slots 0 0 (F0 m pc ls st0) rest (Qw D cA ad lo g1 (some r) a) (fun q => lo ≤ q)) (hS : va_S (fun q => lo ≤ q) H0 H locs)
    (kk : ∀ (H1 : Heap) (locs1 : List Loc), va_P D vwCl (wld cA ad g1 lay0) H1 → va_S (fun q => lo ≤ q) H0 H1 locs1 → W p l e R s m args below meth c H1 locs1 cells slots Q (F0 m (pc + 3) ls (.int r :: rest))) : W p l e R s m args below meth c H locs cells slots Q (F0 m pc ls st0) := k_W hr hS kk
theorem k_Wv {g1 : Mem} {a : Array Value} {st0 : List Value} (hr : va_Run p l e R s m args below meth c H locs cells slots 0 0 (F0 m pc ls st0) rest (Qw D cA ad lo g1 none a) (fun q => lo ≤ q)) (hS : va_S (fun q => lo ≤ q) H0 H locs)
    (kk : ∀ (H1 : Heap) (locs1 : List Loc), va_P D vwCl (wld cA ad g1 lay0) H1 → va_S (fun q => lo ≤ q) H0 H1 locs1 → W p l e R s m args below meth c H1 locs1 cells slots Q (F0 m (pc + 3) ls rest)) : W p l e R s m args below meth c H locs cells slots Q (F0 m pc ls st0) := k_W hr hS kk
/-- ends -/
theorem e_R {v r : Int32} (S : CallFix p m c cc nL s args Ts own) (hr : meth.sig.returnType = some .int) (hlocks : meth.locks = false) (he : v = r) (hd : decode cc pc = .ok (.ireturn, 1)) : W p l e R s m args below meth c s.heap [] 0 0 (MQ below (Qr r) args s 0 0 (fun _ => False)) (F0 m pc ls [.int v]) :=
  W.iret (v := v) S.1 S.2.1 hr (fun t ht _ => ⟨by rw [he], ht⟩) (fun q h => by cases h) hd
theorem e_Rz {v r : Int32} (S : CallFix p m c cc nL s args Ts own) (hr : meth.sig.returnType = some .boolean) (hlocks : meth.locks = false) (hz : narrow .boolean (.int v) = .int v) (he : v = r) (hd : decode cc pc = .ok (.ireturn, 1)) : W p l e R s m args below meth c s.heap [] 0 0 (MQ below (Qr r) args s 0 0 (fun _ => False)) (F0 m pc ls [.int v]) :=
  W.zret (v := v) S.1 S.2.1 hr hz (fun t ht _ => ⟨by rw [he], ht⟩) (fun q h => by cases h) hd
theorem e_W {g1 : Mem} {v r : Int32} (S : CallFix p m c cc nL s args Ts own) (hr : meth.sig.returnType = some .int) (hlocks : meth.locks = false) (hP : va_P D vwCl (wld cA ad g lay0) H) (hS : va_S (fun q => lo ≤ q) s.heap H locs) (he : (g, v) = (g1, r)) (hd : decode cc pc = .ok (.ireturn, 1)) : W p l e R s m args below meth c H locs 0 0 (MQ below (Qw D cA ad lo g1 (some r)) args s 0 0 (fun q => lo ≤ q)) (F0 m pc ls [.int v]) := by
  cases he
  exact W.iret (v := v) S.1 S.2.1 hr (fun t ht _ => ⟨rfl, by rw [ht]; exact hP, hS.F ht⟩) hS.2.2 hd
theorem e_Wz {g1 : Mem} {v r : Int32} (S : CallFix p m c cc nL s args Ts own) (hr : meth.sig.returnType = some .boolean) (hlocks : meth.locks = false) (hz : narrow .boolean (.int v) = .int v) (hP : va_P D vwCl (wld cA ad g lay0) H) (hS : va_S (fun q => lo ≤ q) s.heap H locs) (he : (g, v) = (g1, r)) (hd : decode cc pc = .ok (.ireturn, 1)) : W p l e R s m args below meth c H locs 0 0 (MQ below (Qw D cA ad lo g1 (some r)) args s 0 0 (fun q => lo ≤ q)) (F0 m pc ls [.int v]) := by
  cases he
  exact W.zret (v := v) S.1 S.2.1 hr hz (fun t ht _ => ⟨rfl, by rw [ht]; exact hP, hS.F ht⟩) hS.2.2 hd
theorem e_Wv {g1 : Mem} (S : CallFix p m c cc nL s args Ts own) (hr : meth.sig.returnType = none) (hlocks : meth.locks = false) (hP : va_P D vwCl (wld cA ad g lay0) H) (hS : va_S (fun q => lo ≤ q) s.heap H locs) (he : g = g1) (hd : decode cc pc = .ok (.return_, 1)) : W p l e R s m args below meth c H locs 0 0 (MQ below (Qw D cA ad lo g1 none) args s 0 0 (fun q => lo ≤ q)) (F0 m pc ls []) := by
  cases he
  exact W.vret S.1 S.2.1 hr (fun t ht _ => ⟨rfl, by rw [ht]; exact hP, hS.F ht⟩) hS.2.2 hd
end FR
end
