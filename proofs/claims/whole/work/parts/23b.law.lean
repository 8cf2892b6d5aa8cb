/-! THE CLAIM OUT OF ONE WALK OF THE LAW'S BODY. Your part is whole_start (and what it stands on); all else here is the same for every law, but numbers. -/
def R_law : String := "FlatLoaderLaw"
def lw_P (b : Addr) (xs : List Int32) (args : Array Value) (s : State) : Prop := args = #[.ref b] ∧ s.IntsAt b xs ∧ xs.length ≤ 3072 ∧ (Jvm.Cond.and given_1 narrow_1).before args s = true
def lw_Q (_ : Array Value) (s : State) (o : Outcome) (t : State) : Prop := o = .returned (some (.int 1)) ∧ Framed s o t [] 612553 7258445
def lw_Z (below : List Frame) (a : Array Value) (s : State) : State → Prop := fun t => ∃ o, t.status = .running ∧ Ended t below o ∧ lw_Q a s o t
/-- the law's own end, with 1 on the stack, nothing written that was there before, its room as the claim has it -/
theorem lw_ret {p : Program} {l : Launch} {e : Env} {s : State} {m : MethodId} {below : List Frame} {meth : Method} {c : Code} {b : Nat} (hx : p.tables.exec = Jvm.exec) (hb : c.code = code) (hr : meth.sig.returnType = ret) (hlocks : meth.locks = false) {pc : Nat} {H : Heap} {ls : Array Slot} (hdg : decode code pc = .ok (.ireturn, 1)) : W p l e room_1 s m #[Value.ref b] below meth c H [] 612553 7258445 (lw_Z below #[Value.ref b] s) (F0 m pc ls [.int 1]) := by
  intro T hT X
  obtain ⟨fs, hret, hrun, hended, hW, hframe⟩ := X.leave (v := some (.int 1)) (hlocks := hlocks) (fun h => by rw [hr] at h; cases h)
  have hmeth' : T.vm.method? m = some meth := X.method'
  refine ⟨T.setFrames fs, ?_, .returned (some (.int 1)), hrun, hended, rfl, ⟨_, rfl⟩, hW, hframe⟩
  jvm_step X.here [X.here.top, hx, hb, hdg, hmeth', hr, ret, narrow_b1]
  (try refine ⟨rfl, ?_⟩); (try refine ⟨rfl, ?_⟩)
  first | (intro acts; rw [hret _ acts rfl rfl rfl]) | rw [hret _ _ rfl rfl rfl]
  exact Steps.refl _
/-- what holds at the law's entry: the machine, the code, the tables' words (any of lw_tbl by 'hts w (by decide +kernel)'), the script of L ints xs at the cell b, what the Statement gives of the start (any of its parts by flat_of_before) -/
def lw_At (p : Program) (s : State) (m : MethodId) (meth : Method) (c : Code) (b L : Nat) (xs : Nat → Int32) : Prop :=
  p.tables.exec = Jvm.exec ∧ c.code = code ∧ meth.sig.returnType = ret ∧ c.maxLocals = 7 ∧ s.vm.findClass R_law = some m.cls ∧ (∀ w ∈ lw_tbl, w.before #[Value.ref b] s = true) ∧ va_X b L xs s s.heap ∧ b < s.heap.size ∧ meth.locks = false ∧ (Jvm.Cond.and given_1 narrow_1).before #[Value.ref b] s = true

def gI : Mem := fil gF 58 192
theorem layF_len : layF.length = 54 := by
  simp only [layF, List.length_cons, List.length_append, mods_len, List.length_nil]
theorem lay0_eq : layF ++ (mdX 54 ++ [.inr (2, 1, fun _ => none)]) = lay0 := rfl

def m_law (xs : Nat → Int32) (L : Nat) (g : Mem) (x4 : Int32) : Option Mem := gi x4 L (if (xs x4.toNatClampNeg &&& 15) = 0 then m_law_0 xs L g x4 else if (xs x4.toNatClampNeg &&& 15) = 1 then m_law_1 xs L g x4 else if (xs x4.toNatClampNeg &&& 15) = 2 then m_law_2 xs L g x4 else if (xs x4.toNatClampNeg &&& 15) = 3 then m_law_3 xs L g x4 else if (xs x4.toNatClampNeg &&& 15) = 4 then m_law_4 xs L g x4 else if (xs x4.toNatClampNeg &&& 15) = 5 then m_law_5 xs L g x4 else if (xs x4.toNatClampNeg &&& 15) = 6 then m_law_6 xs L g x4 else if (xs x4.toNatClampNeg &&& 15) = 7 then m_law_7 xs L g x4 else if (xs x4.toNatClampNeg &&& 15) = 8 then m_law_8 xs L g x4 else if (xs x4.toNatClampNeg &&& 15) = 9 then m_law_9 xs L g x4 else if (xs x4.toNatClampNeg &&& 15) = 10 then m_law_10 xs L g x4 else if (xs x4.toNatClampNeg &&& 15) = 11 then m_law_11 xs L g x4 else some g)
set_option maxRecDepth 100000 in
set_option maxHeartbeats 4000000 in
theorem law_loop {p : Program} {l : Launch} {e : Env} {s : State} {m : MethodId} {below : List Frame} {meth : Method} {c : Code} {D : va_G} {cA : Nat → ClassId} {ad : Nat → Nat} {b L : Nat} {xs : Nat → Int32} (hL : L ≤ 3072) (hA : AdOk s.heap.size ad lay0.length) (hst : l.stackTraces = false) (S : CallFix p m c code 7 s #[Value.ref b] wvL_law RL) (hr : meth.sig.returnType = ret) (hlocks : meth.locks = false) (hX0 : va_X b L xs s s.heap) (hbl : b < s.heap.size) (hK : va_K D vwCl (tysL cA) s) (hN : NWd s) (hX : ZX s.heap.size s) (hC : NCd s)
    (Inv : Mem → Prop) (hstep : ∀ (g : Mem) (i : Nat), Inv g → i + 6 ≤ L → ∃ g1, m_law xs L g (nI i) = some g1 ∧ Inv g1) :
    ∀ (n j : Nat) (x4 : Int32) (g : Mem), 6 * j ≤ L → L < 6 * j + 6 * n → x4 = nI (6 * j) → Inv g → ∀ (H : Heap) (locs : List Loc), va_P D vwCl (wld cA ad g lay0) H → va_S (fun q : Nat => s.heap.size ≤ q) s.heap H locs → ∀ (ls : Array Slot), lv_has ls 7 [(0, .ref b), (1, .ref (ad 0)), (2, .ref (ad 54)), (3, .ref (ad 71)), (4, .int x4)] → W p l e room_1 s m #[Value.ref b] below meth c H locs (72 + j) (1321 + 6 * j) (lw_Z below #[Value.ref b] s) (F0 m 23 ls []) := by
  have hbA : ¬ (fun q : Nat => s.heap.size ≤ q) b := Nat.not_le.mpr hbl
  intro n
  induction n with
  | zero =>
    intro j x4 g h1 h2
    omega
  | succ n ih =>
    intro j x4 g hj hn ex hI H locs hP hS ls hl
    refine lv_iload S.1 S.2.1 dL_law_23 (lv_at hl 4 rfl) ?_
    refine lv_aload_n S.1 S.2.1 dL_law_25 rfl (lv_at hl 0 rfl) ?_
    refine va_slen S.1 S.2.1 hX0 hbl hbA hS dL_law_26 ?_
    refine lv_bipush (v := 6) S.1 S.2.1 dL_law_27 (by decide) ?_
    refine lv_isub S.1 S.2.1 dL_law_29 ?_
    have hsub : (Int32.ofNat L - 6).toInt = (L : Int) - 6 := pk_sub_toInt (a := L) (b := 6) (by omega) (by decide)
    have hxi : x4.toInt = ((6 * j : Nat) : Int) := by rw [ex]; exact nI_toInt (by omega)
    refine lv_icmp_gt (tgt := 723) S.1 S.2.1 dL_law_30 (by decide) (fun hc => ?_) (fun hc => ?_)
    · refine lv_iconst (v := 1) S.1 S.2.1 dL_law_723 (by decide) ?_
      refine va_forget (fun q hq => hS.2.2 q hq) ?_
      refine W.widen (k := 612553) (n := 7258445) (by omega) (by omega) ?_
      exact lw_ret S.1 S.2.1 hr hlocks dL_law_724
    · have h6 : 6 * j + 6 ≤ L := by
        rcases Nat.lt_or_ge L (6 * j + 6) with h | h
        · exact absurd (Int32.lt_iff_toInt_lt.mpr (by rw [hsub, hxi]; omega)) hc
        · exact h
      obtain ⟨g1, hg1, hI1⟩ := hstep g (6 * j) hI h6
      rw [← ex] at hg1
      unfold m_law at hg1
      obtain ⟨hv, hvb, hg1⟩ := gi_some hg1
      have kk : ∀ (H : Heap) (locs : List Loc) (ls : Array Slot), va_P D vwCl (wld cA ad g1 lay0) H → va_S (fun q : Nat => s.heap.size ≤ q) s.heap H locs → lv_has ls 7 [(0, .ref b), (1, .ref (ad 0)), (2, .ref (ad 54)), (3, .ref (ad 71)), (4, .int x4)] → W p l e room_1 s m #[Value.ref b] below meth c H locs (72 + j + 1) (1321 + 6 * j + 6) (lw_Z below #[Value.ref b] s) (F0 m 717 ls []) := by
        intro H locs ls hP hS hl
        refine lv_iinc (v := x4 + 6) (lv' := [(4, .int (x4 + 6)), (0, .ref b), (1, .ref (ad 0)), (2, .ref (ad 54)), (3, .ref (ad 71))]) S.1 S.2.1 dL_law_717 hl (k := 4) rfl rfl (by decide) rfl (fun ls hl => ?_)
        refine lv_goto (tgt := 23) S.1 S.2.1 dL_law_720 (by decide) ?_
        exact ih (j + 1) (x4 + 6) g1 (by omega) (by omega) (by rw [ex]; exact nI_add (6 * j) 6) hI1 H locs hP hS ls (lv_sub hl [1, 2, 3, 4, 0] rfl)
      refine lv_aload_n S.1 S.2.1 dL_law_33 rfl (lv_at hl 0 rfl) ?_
      refine lv_iload S.1 S.2.1 dL_law_34 (lv_at hl 4 rfl) ?_
      refine va_sld S.1 S.2.1 hX0 hbl hbA hS hv dL_law_36 ?_
      refine lv_bipush (v := 15) S.1 S.2.1 dL_law_37 (by decide) ?_
      refine lv_iand S.1 S.2.1 dL_law_39 ?_
      obtain ⟨q, hq, hqe⟩ := pk_andE (xs x4.toNatClampNeg) (m := 15) 4 (by decide)
      rw [hqe] at hg1 ⊢
      have hq : q < 16 := hq
      rcases (show q = 0 ∨ q = 1 ∨ q = 2 ∨ q = 3 ∨ q = 4 ∨ q = 5 ∨ q = 6 ∨ q = 7 ∨ q = 8 ∨ q = 9 ∨ q = 10 ∨ q = 11 ∨ q = 12 ∨ q = 13 ∨ q = 14 ∨ q = 15 by omega) with rfl | rfl | rfl | rfl | rfl | rfl | rfl | rfl | rfl | rfl | rfl | rfl | rfl | rfl | rfl | rfl
      · refine lv_tableIn (tgt := 104) (off := 64) S.1 S.2.1 dL_law_40 (by decide) (by decide) (by decide) (by decide) ?_
        rw [if_pos (by decide)] at hg1
        exact c_law_0 hA hst S hX0 hbl hbA (Nat.le_refl _) hK hN hX hC (by omega) (by omega) hg1 hP hS hl kk
      · refine lv_tableIn (tgt := 140) (off := 100) S.1 S.2.1 dL_law_40 (by decide) (by decide) (by decide) (by decide) ?_
        rw [if_neg (by decide), if_pos (by decide)] at hg1
        exact c_law_1 hA hst S hX0 hbl hbA (Nat.le_refl _) hK hN hX hC (by omega) (by omega) hg1 hP hS hl kk
      · refine lv_tableIn (tgt := 200) (off := 160) S.1 S.2.1 dL_law_40 (by decide) (by decide) (by decide) (by decide) ?_
        rw [if_neg (by decide), if_neg (by decide), if_pos (by decide)] at hg1
        exact c_law_2 hA hst S hX0 hbl hbA (Nat.le_refl _) hK hN hX hC (by omega) (by omega) hg1 hP hS hl kk
      · refine lv_tableIn (tgt := 320) (off := 280) S.1 S.2.1 dL_law_40 (by decide) (by decide) (by decide) (by decide) ?_
        rw [if_neg (by decide), if_neg (by decide), if_neg (by decide), if_pos (by decide)] at hg1
        exact c_law_3 hA hst S hX0 hbl hbA (Nat.le_refl _) hK hN hX hC (by omega) (by omega) hg1 hP hS hl kk
      · refine lv_tableIn (tgt := 376) (off := 336) S.1 S.2.1 dL_law_40 (by decide) (by decide) (by decide) (by decide) ?_
        rw [if_neg (by decide), if_neg (by decide), if_neg (by decide), if_neg (by decide), if_pos (by decide)] at hg1
        exact c_law_4 hA hst S hX0 hbl hbA (Nat.le_refl _) hK hN hX hC (by omega) (by omega) hg1 hP hS hl kk
      · refine lv_tableIn (tgt := 432) (off := 392) S.1 S.2.1 dL_law_40 (by decide) (by decide) (by decide) (by decide) ?_
        rw [if_neg (by decide), if_neg (by decide), if_neg (by decide), if_neg (by decide), if_neg (by decide), if_pos (by decide)] at hg1
        exact c_law_5 hA hst S hX0 hbl hbA (Nat.le_refl _) hK hN hX hC (by omega) (by omega) hg1 hP hS hl kk
      · refine lv_tableIn (tgt := 488) (off := 448) S.1 S.2.1 dL_law_40 (by decide) (by decide) (by decide) (by decide) ?_
        rw [if_neg (by decide), if_neg (by decide), if_neg (by decide), if_neg (by decide), if_neg (by decide), if_neg (by decide), if_pos (by decide)] at hg1
        exact c_law_6 hA hst S hX0 hbl hbA (Nat.le_refl _) hK hN hX hC (by omega) (by omega) hg1 hP hS hl kk
      · refine lv_tableIn (tgt := 556) (off := 516) S.1 S.2.1 dL_law_40 (by decide) (by decide) (by decide) (by decide) ?_
        rw [if_neg (by decide), if_neg (by decide), if_neg (by decide), if_neg (by decide), if_neg (by decide), if_neg (by decide), if_neg (by decide), if_pos (by decide)] at hg1
        exact c_law_7 hA hst S hX0 hbl hbA (Nat.le_refl _) hK hN hX hC (by omega) (by omega) hg1 hP hS hl kk
      · refine lv_tableIn (tgt := 605) (off := 565) S.1 S.2.1 dL_law_40 (by decide) (by decide) (by decide) (by decide) ?_
        rw [if_neg (by decide), if_neg (by decide), if_neg (by decide), if_neg (by decide), if_neg (by decide), if_neg (by decide), if_neg (by decide), if_neg (by decide), if_pos (by decide)] at hg1
        exact c_law_8 hA hst S hX0 hbl hbA (Nat.le_refl _) hK hN hX hC (by omega) (by omega) hg1 hP hS hl kk
      · refine lv_tableIn (tgt := 642) (off := 602) S.1 S.2.1 dL_law_40 (by decide) (by decide) (by decide) (by decide) ?_
        rw [if_neg (by decide), if_neg (by decide), if_neg (by decide), if_neg (by decide), if_neg (by decide), if_neg (by decide), if_neg (by decide), if_neg (by decide), if_neg (by decide), if_pos (by decide)] at hg1
        exact c_law_9 hA hst S hX0 hbl hbA (Nat.le_refl _) hK hN hX hC (by omega) (by omega) hg1 hP hS hl kk
      · refine lv_tableIn (tgt := 667) (off := 627) S.1 S.2.1 dL_law_40 (by decide) (by decide) (by decide) (by decide) ?_
        rw [if_neg (by decide), if_neg (by decide), if_neg (by decide), if_neg (by decide), if_neg (by decide), if_neg (by decide), if_neg (by decide), if_neg (by decide), if_neg (by decide), if_neg (by decide), if_pos (by decide)] at hg1
        exact c_law_10 hA hst S hX0 hbl hbA (Nat.le_refl _) hK hN hX hC (by omega) (by omega) hg1 hP hS hl kk
      · refine lv_tableIn (tgt := 704) (off := 664) S.1 S.2.1 dL_law_40 (by decide) (by decide) (by decide) (by decide) ?_
        rw [if_neg (by decide), if_neg (by decide), if_neg (by decide), if_neg (by decide), if_neg (by decide), if_neg (by decide), if_neg (by decide), if_neg (by decide), if_neg (by decide), if_neg (by decide), if_neg (by decide), if_pos (by decide)] at hg1
        exact c_law_11 hA hst S hX0 hbl hbA (Nat.le_refl _) hK hN hX hC (by omega) (by omega) hg1 hP hS hl kk
      · refine lv_tableOut (tgt := 717) S.1 S.2.1 dL_law_40 (by decide) (by decide) ?_
        rw [if_neg (by decide), if_neg (by decide), if_neg (by decide), if_neg (by decide), if_neg (by decide), if_neg (by decide), if_neg (by decide), if_neg (by decide), if_neg (by decide), if_neg (by decide), if_neg (by decide), if_neg (by decide)] at hg1
        cases hg1
        refine W.widen (k := 72 + j + 1) (n := 1321 + 6 * j + 6) (by omega) (by omega) ?_
        exact kk H locs ls hP hS hl
      · refine lv_tableOut (tgt := 717) S.1 S.2.1 dL_law_40 (by decide) (by decide) ?_
        rw [if_neg (by decide), if_neg (by decide), if_neg (by decide), if_neg (by decide), if_neg (by decide), if_neg (by decide), if_neg (by decide), if_neg (by decide), if_neg (by decide), if_neg (by decide), if_neg (by decide), if_neg (by decide)] at hg1
        cases hg1
        refine W.widen (k := 72 + j + 1) (n := 1321 + 6 * j + 6) (by omega) (by omega) ?_
        exact kk H locs ls hP hS hl
      · refine lv_tableOut (tgt := 717) S.1 S.2.1 dL_law_40 (by decide) (by decide) ?_
        rw [if_neg (by decide), if_neg (by decide), if_neg (by decide), if_neg (by decide), if_neg (by decide), if_neg (by decide), if_neg (by decide), if_neg (by decide), if_neg (by decide), if_neg (by decide), if_neg (by decide), if_neg (by decide)] at hg1
        cases hg1
        refine W.widen (k := 72 + j + 1) (n := 1321 + 6 * j + 6) (by omega) (by omega) ?_
        exact kk H locs ls hP hS hl
      · refine lv_tableOut (tgt := 717) S.1 S.2.1 dL_law_40 (by decide) (by decide) ?_
        rw [if_neg (by decide), if_neg (by decide), if_neg (by decide), if_neg (by decide), if_neg (by decide), if_neg (by decide), if_neg (by decide), if_neg (by decide), if_neg (by decide), if_neg (by decide), if_neg (by decide), if_neg (by decide)] at hg1
        cases hg1
        refine W.widen (k := 72 + j + 1) (n := 1321 + 6 * j + 6) (by omega) (by omega) ?_
        exact kk H locs ls hP hS hl
