/-! PURE: the calls, one by one -/
theorem axR {A : Mem} {c i k : Nat} {v : Int32} (h : k ≠ c) : mup A c i v k = A k := by funext z; exact mup_nk h
theorem axP {A : Mem} {c i : Nat} {v : Int32} (h : 55 ≠ c) : sP (mup A c i v) = sP A := by funext x; unfold sP; rw [axR h]
theorem axL {A : Mem} {c i : Nat} {v : Int32} (h : 56 ≠ c) : sL (mup A c i v) = sL A := by funext x; unfold sL; rw [axR h]
theorem axF {A : Mem} {c i : Nat} {v : Int32} (h : 58 ≠ c) : sF (mup A c i v) = sF A := by funext x y; unfold sF; rw [axR h]
theorem axE {A : Mem} {c i : Nat} {v : Int32} (h : 59 ≠ c) : sE (mup A c i v) = sE A := by funext x y; unfold sE; rw [axR h]
theorem axc {A : Mem} {c i : Nat} {v : Int32} (h : 60 ≠ c) : sc (mup A c i v) = sc A := by funext x; unfold sc; rw [axR h]
theorem axo {A : Mem} {c i : Nat} {v : Int32} (h : 61 ≠ c) : so (mup A c i v) = so A := by funext x y; unfold so; rw [axR h]
theorem axi {A : Mem} {c i : Nat} {v : Int32} (h : 62 ≠ c) : si (mup A c i v) = si A := by funext x y; unfold si; rw [axR h]
theorem axe {A : Mem} {c i : Nat} {v : Int32} (h : 63 ≠ c) : se (mup A c i v) = se A := by funext x y; unfold se; rw [axR h]
theorem axq {A : Mem} {c i : Nat} {v : Int32} (h : 64 ≠ c) : sq (mup A c i v) = sq A := by funext x y; unfold sq; rw [axR h]
theorem axd {A : Mem} {c i : Nat} {v : Int32} (h : 60 ≠ c) (h' : 61 ≠ c) : sdp (mup A c i v) = sdp A := by funext x y; unfold sdp; rw [axc h, axo h']
theorem axr {A : Mem} {c i : Nat} {v : Int32} (h : 60 ≠ c) (h' : 61 ≠ c) (h'' : 64 ≠ c) : srq (mup A c i v) = srq A := by funext x y; unfold srq; rw [axc h, axo h', axq h'']
theorem axt {A : Mem} {c i : Nat} {v : Int32} (h : 59 ≠ c) : tot (mup A c i v) = tot A := by
  funext M
  exact tot_same M (fun m _ => by unfold cnE; rw [axE h])
theorem RCm.h {h h' A : Mem} {m : Nat} (H : RCm h A m) (e : ∀ d, d < 6 → h' (kM m + d) = h (kM m + d)) : RCm h' A m := by
  have ek : h' (kM m) = h (kM m) := e 0 (by omega)
  unfold RCm
  rw [ek, e 1 (by omega), e 2 (by omega), e 3 (by omega), e 4 (by omega), e 5 (by omega)]
  exact H
theorem RR.f54 {h A : Mem} {v : Int32} (H : RR h A) : RR (mup h 54 0 v) A := by
  unfold RR
  rw [mup_ni (show (11 : Nat) ≠ 0 by decide), axR (show (55 : Nat) ≠ 54 by decide), axR (show (56 : Nat) ≠ 54 by decide), axR (show (58 : Nat) ≠ 54 by decide), axR (show (59 : Nat) ≠ 54 by decide), axR (show (60 : Nat) ≠ 54 by decide), axR (show (61 : Nat) ≠ 54 by decide), axR (show (62 : Nat) ≠ 54 by decide), axR (show (63 : Nat) ≠ 54 by decide), axR (show (64 : Nat) ≠ 54 by decide)]
  exact H
theorem row_up {h A : Mem} {k : Nat} (e : h k = A k) (c i : Nat) (v : Int32) : mup h c i v k = mup A c i v k := by
  funext z
  unfold mup
  rw [e]
theorem RR.up {h A : Mem} (H : RR h A) (c i : Nat) (v : Int32) : RR (mup h c i v) (mup A c i v) := by
  obtain ⟨r1, r2, r3, r4, r5, r6, r7, r8, r9, r10⟩ := H
  refine ⟨row_up r1 c i v, row_up r2 c i v, row_up r3 c i v, row_up r4 c i v, row_up r5 c i v, row_up r6 c i v, row_up r7 c i v, row_up r8 c i v, row_up r9 c i v, ?_⟩
  unfold mup
  rw [r10]
theorem RC.rf {h h' A : Mem} (H : RC h A) (f : Fq 54 71 h h') : RC h' A := H.fd (f.mono (by decide) (by decide))
theorem thr0 (h : Mem) : m_X3_throwsBy h 0 = some (mup h 54 0 0, 0) := rfl
theorem thr1 (h : Mem) : m_X3_throwsBy h 1 = some (mup h 54 0 1, 1) := rfl
theorem thr2 (h : Mem) : m_X3_throwsBy h 2 = some (mup h 54 0 2, 1) := rfl
theorem thr3 (h : Mem) : m_X3_throwsBy h 3 = some (mup h 54 0 3, 1) := rfl
theorem f54 {h : Mem} {v : Int32} : Fq 54 71 h (mup h 54 0 v) := Fq.up1 (by decide) (by decide)
def StV (cl : Option (Mem × Int32)) (rf : Mem → Option Mem) : Prop := ∃ g1 k g2 A', cl = some (g1, k) ∧ rf g1 = some g2 ∧ g2 54 0 = k ∧ WF A' ∧ RC g2 A' ∧ RR g2 A'
def StT (cl : Option (Mem × Int32)) (rf : Mem → Option (Mem × Int32)) : Prop := ∃ g1 k g2 b A', cl = some (g1, k) ∧ rf g1 = some (g2, b) ∧ g2 54 0 = k ∧ (k = 0 → g2 71 0 = b) ∧ WF A' ∧ RC g2 A' ∧ RR g2 A'
def StQ (cl : Option (Mem × Int32)) (rf : Mem → Option (Mem × Int32)) : Prop := ∃ g1 k g2 A', cl = some (g1, k) ∧ rf g1 = some (g2, k) ∧ WF A' ∧ RC g2 A' ∧ RR g2 A'
theorem r_mod {x : Int32} (h : 0 ≤ x ∧ x < 8) : ¬ m_X3_isModule x = 0 := by
  unfold m_X3_isModule
  rw [r_in, decide_eq_true (⟨h.1, (lt_succ (n := 7) (by decide)).mpr h.2⟩ : (0 : Int32) ≤ x ∧ x ≤ 7)]
  decide
theorem r_mod_no {x : Int32} (h : ¬ (0 ≤ x ∧ x < 8)) : m_X3_isModule x = 0 := by
  unfold m_X3_isModule
  rw [r_in, decide_eq_false (fun h2 => h ⟨h2.1, (lt_succ (n := 7) (by decide)).mp h2.2⟩)]
  decide
/-! present -/
theorem st_present {g A : Mem} (hA : WF A) (hC : RC g A) (hR : RR g A) (x : Int32) : StV (m_L_present g x) (fun g1 => m_X3_present g1 x) := by
  unfold m_L_present m_X2_present StV m_X3_present m_X3_present_26
  rw [c_mod, bI_if]
  by_cases hx : 0 ≤ x ∧ x < 8
  · obtain ⟨m, hm, rfl⟩ := ex_mod hx
    rw [decide_eq_true hx, if_pos rfl, c_isP hC, decide_eq_true hx, zI_nat (by omega), Bool.true_and, Option.bind_some, bI_if]
    simp only [if_neg (r_mod hx), gi_nI hm (show 8 < 2 ^ 31 by decide), thr0, thr2, Option.bind_some, nar_1]
    cases e : sP A m with
    | true =>
      refine ⟨g, 2, mup g 54 0 2, A, rfl, ?_, mup_eq _ _ _ _, hA, hC.rf f54, hR.f54⟩
      rw [hR.1, hA.1 m hm, e, show bI true = 1 from rfl, if_neg (by decide)]
      rfl
    | false =>
      refine ⟨mup g 0 1 (g 0 1 ||| m_X2_bit (nI m)), 0, mup (mup (mup g 0 1 (g 0 1 ||| m_X2_bit (nI m))) 54 0 0) 55 m (bI true), mup A 55 m (bI true), rfl, ?_, ?_, ?_, ?_, ?_⟩
      · rw [axR (by decide), hR.1, hA.1 m hm, e, show bI false = 0 from rfl, if_pos rfl]
        rfl
      · rw [mup_nk (by decide), mup_eq]
      · obtain ⟨w1, w2, w3, w4, w5, w6, w7, w8⟩ := hA
        have eP : ∀ y, sP (mup A 55 m (bI true)) y = if y = m then true else sP A y := fun y => by
          unfold sP
          by_cases h : y = m
          · subst h
            rw [mup_eq, if_pos rfl]
            rfl
          · rw [mup_ni h, if_neg h]
        unfold WF
        rw [axL (by decide), axF (by decide), axE (by decide), axc (by decide), axo (by decide), axq (by decide), axt (by decide), axR (show (56 : Nat) ≠ 55 by decide), axR (show (60 : Nat) ≠ 55 by decide), axR (show (61 : Nat) ≠ 55 by decide), axR (show (64 : Nat) ≠ 55 by decide), axR (show (54 : Nat) ≠ 55 by decide)]
        refine ⟨fun y hy => ?_, w2, fun y hy hl => ?_, w4, w5, w6, w7, w8⟩
        · rw [eP]
          by_cases h : y = m
          · subst h
            rw [mup_eq, if_pos rfl]
          · rw [mup_ni h, if_neg h]
            exact w1 y hy
        · rw [eP]
          split
          · rfl
          · exact w3 y hy hl
      · refine RC.rf ?_ (((Fq.up1 (by decide) (by decide)).up (by decide) (by decide)) : Fq 54 71 (mup g 0 1 (g 0 1 ||| m_X2_bit (nI m))) _)
        obtain ⟨h1, h2, h3, h4, h5⟩ := hC
        unfold RC
        rw [mup_eq, mup_ni (show (2 : Nat) ≠ 1 by decide), axL (by decide)]
        refine ⟨sm8_or h1 (sm8_bit hm), fun y hy => ?_, h3, h4, fun y hy => ?_⟩
        · rw [bt_or, h2 y hy, bt_bit (by omega) (by omega)]
          unfold sP
          by_cases h : y = m
          · subst h
            rw [mup_eq]
            simp [bI]
          · rw [mup_ni h]
            have : ¬ m = y := fun e => h e.symm
            simp [this]
        · have := (h5 y hy).h (h' := mup g 0 1 (g 0 1 ||| m_X2_bit (nI m))) (fun d hd => axR (by unfold kM; omega))
          unfold RCm at this ⊢
          rw [axF (by decide), axE (by decide), axc (by decide), axo (by decide), axi (by decide), axe (by decide), axd (by decide) (by decide), axr (by decide) (by decide) (by decide)]
          exact this
      · exact ((hR.fd (Fq.up1 (by decide) (by decide)) : RR (mup g 0 1 (g 0 1 ||| m_X2_bit (nI m))) A).f54).up 55 m _
  · rw [decide_eq_false hx, if_neg (by decide)]
    refine ⟨g, 1, mup g 54 0 1, A, rfl, ?_, mup_eq _ _ _ _, hA, hC.rf f54, hR.f54⟩
    simp only [r_mod_no hx, if_true, thr1, Option.bind_some]
    rfl
