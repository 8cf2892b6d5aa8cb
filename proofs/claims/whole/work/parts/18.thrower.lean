theorem t_N {p : Program} {l : Launch} {e : Env} {R : Room} {s : State} {m : MethodId} {args : Array Value} {below : List Frame} {meth : Method} {c : Code} {H : Heap} {locs : List Loc} {cc : ByteArray} {pc nL : Nat} {ls : Array Slot} {D : va_G} {cA : Nat → ClassId} {ad : Nat → Nat} {lo : Nat} {g : Mem} {Ts : List Cond} {Qc : Array Value → State → Outcome → State → Prop} {g1 : Mem} {o n : Nat} {r : Int32} {text : String} {ik is ic : Nat} (S : CallFix p m c cc nL s args Ts RX2) (hsz : ls.size = nL) (hlocks : meth.locks = false) (hT : ∀ x ∈ c.exceptionTable.toList, False) (hst : l.stackTraces = false) (hX : ZX lo s) (hP : va_P D vwCl (wld cA ad g lay0) H) (hS : va_S (fun q => lo ≤ q) s.heap H locs)
    (he : (g, n, (0 : Int32)) = (g1, o, r)) (hn : n ≠ 0) (hcls : nsC = exN n) (hstr : (is, text) ∈ strL) (hk : Cond.classLink RX2 ik nsC ∈ Ts) (hini : Cond.initialized nsC ∈ Ts) (hat : ∀ w ∈ (ns_at RX2 ic).filter goodWord, w ∈ Ts) (hxw : ∀ w ∈ (ns_at RX2 ic).filter (fun w => !goodWord w), w ∈ xW) (hgood : ∀ w ∈ Cond.classLink RX2 ik nsC :: Cond.initialized nsC :: ns_at RX2 ic, vx_ot w = true) (hRf : 5 < R.frames) (hRl : 82 ≤ R.locals) (hRc : 1 ≤ R.cells) (hRs : 6 ≤ R.slots)
    (d0 : decode cc pc = .ok (.new ik, 3)) (d3 : decode cc (pc + 3) = .ok (.dup, 1)) (d4 : decode cc (pc + 4) = .ok (.ldc is, 2)) (d6 : decode cc (pc + 6) = .ok (.invokespecial ic, 3)) (d9 : decode cc (pc + 9) = .ok (.athrow, 1)) :
    W p l e R s m args below meth c H locs 0 0 (vx_MQ below Qc (Qx D cA ad lo g1 o) args s 1 6 (fun q => lo ≤ q)) (F0 m pc ls []) := by
  cases he
  obtain ⟨hx, hb, hml, hown, hts⟩ := S
  obtain ⟨hU, hZ, hXW, hSW⟩ := hX
  obtain ⟨sa, hsa⟩ := hSW (is, text) hstr
  refine ns_throw (text := text) (sa := sa) hx hb hst hown (hts _ hk) (hts _ hini) hsa (fun w h => ?_) hgood hU hZ hS (by rw [hml]; exact hsz) d0 d3 d4 d6 d9 (fun x h => (hT x h).elim) hRf hRl (by omega) (by omega) hlocks ?_ hS.2.2 (Nat.le_refl _) (Nat.le_refl _)
  · by_cases h3 : goodWord w = true
    · exact hts w (hat w (List.mem_filter.mpr ⟨h, h3⟩))
    · have h4 := hxw w (List.mem_filter.mpr ⟨h, by simpa using h3⟩)
      refine va_Nw.use ?_ (hXW w h4)
      have h2 := xW_ok w h4
      cases w <;> first | rfl | cases h2
  · intro t _ hz hk
    refine ⟨hn, hcls, hP.kept (fun k q hq => hk q.1 ((hP k q hq).lt)), Nat.le_trans hS.1 hz, fun q hq hnq => ?_⟩
    rw [hk q (Nat.lt_of_lt_of_le hq hS.1)]
    exact hS.2.1 q hq hnq
theorem xw45 : ∀ w ∈ (vx_atS RX2 45 "java/lang/IllegalArgumentException" exUp).filter (fun w => !goodWord w), w ∈ xW := by decide +kernel
theorem xg45 : ∀ w ∈ Cond.classLink RX2 41 "java/lang/IllegalArgumentException" :: Cond.initialized "java/lang/IllegalArgumentException" :: vx_atS RX2 45 "java/lang/IllegalArgumentException" exUp, vx_ot w = true := by decide +kernel
theorem xw55 : ∀ w ∈ (vx_atS RX2 55 "java/lang/IllegalStateException" exUp).filter (fun w => !goodWord w), w ∈ xW := by decide +kernel
theorem xg55 : ∀ w ∈ Cond.classLink RX2 51 "java/lang/IllegalStateException" :: Cond.initialized "java/lang/IllegalStateException" :: vx_atS RX2 55 "java/lang/IllegalStateException" exUp, vx_ot w = true := by decide +kernel
theorem xw115 : ∀ w ∈ (ns_at RX2 115).filter (fun w => !goodWord w), w ∈ xW := by decide +kernel
theorem xg115 : ∀ w ∈ Cond.classLink RX2 111 nsC :: Cond.initialized nsC :: ns_at RX2 115, vx_ot w = true := by decide +kernel
def m_X2_present (g : Mem) (p1 : Int32) : Option (Mem × Nat × Int32) := (if (m_X2_isModule p1) = 0 then some (g, 1, 0) else (m_X2_isPresent g p1).bind fun r2 => (if r2 = 0 then some ((mup g 0 1 ((g 0 1) ||| (m_X2_bit p1))), 0, 0) else some (g, 2, 0)))
def rm_X2_present : Room := { frames := 6, cells := 1, slots := 6, locals := 82 }
set_option maxRecDepth 100000 in
set_option maxHeartbeats 4000000 in
theorem c_X2_present {l : Launch} {D : va_G} {cA : Nat → ClassId} {ad : Nat → Nat} {lo : Nat} (hA : AdOk lo ad lay0.length) (hst : l.stackTraces = false) {g : Mem} {p1 : Int32} {g1 : Mem} {o : Nat} {r : Int32} (h : m_X2_present g p1 = some (g1, o, r)) : vx_Met l yX2_present wsX2_present rm_X2_present (Px [.ref (ad 0), .int p1] D cA ad lo g) (Qt D cA ad lo g1 o none) (Qx D cA ad lo g1 o) 1 6 (fun q => lo ≤ q) := by
  refine startT (cc := cX2_present) (maxL := 2) (ret := none) (by decide) rfl (Nat.le_of_ble_eq_true rfl) ?_
  intro p e s m args below meth c ls S hr hlocks hT hB hl
  obtain ⟨⟨hlo, hP, hK, hN⟩, hX⟩ := hB
  have hS : va_S (fun q => lo ≤ q) s.heap s.heap [] := va_S.rf
  unfold m_X2_present at h
  have S : CallFix p m c cX2_present 2 s args wsX2_present RX2 := S
  have hl : lv_has ls 2 [(0, .ref (ad 0)), (1, .int p1)] := hl
  have hn2 : ∀ w ∈ wsX20, w ∈ wsX2_present := by decide +kernel
  have lk16 := S.2.2.2.2 (.fieldLink RX2 16 "FlatLoader" "presentSet" "I") (by decide +kernel)
  have ck45 : Cond.classLink RX2 41 "java/lang/IllegalArgumentException" ∈ wsX2_present := by decide +kernel
  have ci45 : Cond.initialized "java/lang/IllegalArgumentException" ∈ wsX2_present := by decide +kernel
  have at45 : ∀ w ∈ (vx_atS RX2 45 "java/lang/IllegalArgumentException" exUp).filter goodWord, w ∈ wsX2_present := by decide +kernel
  have ck55 : Cond.classLink RX2 51 "java/lang/IllegalStateException" ∈ wsX2_present := by decide +kernel
  have ci55 : Cond.initialized "java/lang/IllegalStateException" ∈ wsX2_present := by decide +kernel
  have at55 : ∀ w ∈ (vx_atS RX2 55 "java/lang/IllegalStateException" exUp).filter goodWord, w ∈ wsX2_present := by decide +kernel
  obtain ⟨H, hH⟩ : ∃ H, H = s.heap := ⟨_, rfl⟩
  obtain ⟨locs, hlocs⟩ : ∃ z : List Loc, z = [] := ⟨_, rfl⟩
  rw [← hH] at hP
  have hS : va_S (fun q => lo ≤ q) s.heap H locs := by rw [hH, hlocs]; exact hS
  have goal0 : W p l e (rm_X2_present) s m args below meth c H locs 0 0 (vx_MQ below (Qt D cA ad lo g1 o none) (Qx D cA ad lo g1 o) args s 1 6 (fun q => lo ≤ q)) (F0 m 0 ls []) := by
    refine lv_iload_n S.1 S.2.1 dX2_present_0 rfl (lv_at hl 1 rfl) ?_
    refine k_R (r := (m_X2_isModule p1)) (va_runS (As := [.int p1]) (rest := []) S c_X2_isModule (va_cwS 1 S.2.2.2.2 gX2_present_X2_isModule rfl rfl rfl (by decide +kernel) ⟨Nat.le_of_ble_eq_true rfl, Nat.le_of_ble_eq_true rfl⟩) ⟨Tr_blind, Tr_at⟩ rfl rfl hl.1 rfl (lv_room (Nat.le_of_ble_eq_true rfl)) dX2_present_1 ⟨Nat.zero_le _, Nat.zero_le _⟩) ?_
    refine lv_if_ne (tgt := 17) S.1 S.2.1 dX2_present_4 (by decide) (fun hc1 => ?_) (fun hc1 => ?_)
    · rw [if_neg hc1] at h
      refine lv_aload_n S.1 S.2.1 dX2_present_17 rfl (lv_at hl 0 rfl) ?_
      refine lv_iload_n S.1 S.2.1 dX2_present_18 rfl (lv_at hl 1 rfl) ?_
      obtain ⟨r2, h_3, h⟩ := bd_some h
      refine k_R (r := r2) (va_runV (As := [.int p1]) (rest := []) S (c_X2_isPresent h_3) (cwV 1 S.2.2.2.2 gX2_present_X2_isPresent rfl rfl rfl (by decide +kernel) ⟨Nat.le_of_ble_eq_true rfl, Nat.le_of_ble_eq_true rfl⟩) ⟨Pw_blind, va_recv hK hP (ci := 2) (q0 := 0) rfl (wld_at (d := dF) rfl), Pw_at hlo hS hP hK hN⟩ rfl rfl hl.1 rfl (lv_room (Nat.le_of_ble_eq_true rfl)) dX2_present_19 ⟨Nat.zero_le _, Nat.zero_le _⟩) ?_
      refine lv_if_eq (tgt := 35) S.1 S.2.1 dX2_present_22 (by decide) (fun hc4 => ?_) (fun hc4 => ?_)
      · rw [if_pos hc4] at h
        refine lv_aload_n S.1 S.2.1 dX2_present_35 rfl (lv_at hl 0 rfl) ?_
        refine lv_dup S.1 S.2.1 dX2_present_36 rfl ?_
        refine r_get (C := RX2) (T := TX2) (N := 6) (ci := 2) (k := 0) (j := 1) (fs := fsF) (d := none) (v := .int (g 0 1)) S hK hP hn2 lk16 rfl (by decide) rfl rfl rfl dX2_present_37 ?_
        refine lv_iload_n S.1 S.2.1 dX2_present_40 rfl (lv_at hl 1 rfl) ?_
        refine k_R (r := (m_X2_bit p1)) (va_runS (As := [.int p1]) (rest := [.int (g 0 1), .ref (ad 0)]) S c_X2_bit (va_cwS 1 S.2.2.2.2 gX2_present_X2_bit rfl rfl rfl (by decide +kernel) ⟨Nat.le_of_ble_eq_true rfl, Nat.le_of_ble_eq_true rfl⟩) ⟨Tr_blind, Tr_at⟩ rfl rfl hl.1 rfl (lv_room (Nat.le_of_ble_eq_true rfl)) dX2_present_41 ⟨Nat.zero_le _, Nat.zero_le _⟩) ?_
        refine lv_ior S.1 S.2.1 dX2_present_44 ?_
        refine r_put (C := RX2) (T := TX2) (N := 6) (ci := 2) (k := 0) (j := 1) (fs := fsF) (v := ((g 0 1) ||| (m_X2_bit p1))) tyX2 tyX2_ok nmX2 S hA hK hP hS hn2 lk16 rfl (by decide) rfl (by decide +kernel) rfl rfl dX2_present_45 (fun H locs hP hS => ?_)
        exact t_Wv S hr hlocks hP hS (Option.some.inj h) dX2_present_48
      · rw [if_neg hc4] at h
        exact t_X (n := 2) (text := "the module is present") S hl.1 hlocks hT hst hX hP hS (Option.some.inj h) (by decide) rfl (by decide +kernel) ck55 ci55 at55 xw55 xg55 (by decide +kernel) (Nat.le_of_ble_eq_true rfl) (Nat.le_of_ble_eq_true rfl) (Nat.le_of_ble_eq_true rfl) (Nat.le_of_ble_eq_true rfl) dX2_present_25 dX2_present_28 dX2_present_29 dX2_present_31 dX2_present_34
    · rw [if_pos hc1] at h
      exact t_X (n := 1) (text := "no such module") S hl.1 hlocks hT hst hX hP hS (Option.some.inj h) (by decide) rfl (by decide +kernel) ck45 ci45 at45 xw45 xg45 (by decide +kernel) (Nat.le_of_ble_eq_true rfl) (Nat.le_of_ble_eq_true rfl) (Nat.le_of_ble_eq_true rfl) (Nat.le_of_ble_eq_true rfl) dX2_present_7 dX2_present_10 dX2_present_11 dX2_present_13 dX2_present_16
  rw [hH, hlocs] at goal0
  exact goal0

def m_X2_file (g : Mem) (p1 p2 p3 : Int32) : Option (Mem × Nat × Int32) := (m_X2_isPresent g p1).bind fun r1 => (if r1 = 0 then some (g, 1, 0) else (if (m_X2_isName p2) = 0 then some (g, 1, 0) else (if (m_X2_isExtended p3) = 0 then some (g, 1, 0) else (m_X2_isLoaded g p1).bind fun r6 => (if r6 = 0 then gi p1 8 ((m_X0_holds g ((p1).toNatClampNeg) p2).bind fun r10 => (if r10 = 0 then gi p1 8 (gi p2 24 (some ((mup g ((kM (p1).toNatClampNeg) + 1) (p2).toNatClampNeg p3), 0, 0))) else some (g, 2, 0))) else some (g, 2, 0)))))
def rm_X2_file : Room := { frames := 6, cells := 1, slots := 6, locals := 82 }
set_option maxRecDepth 100000 in
set_option maxHeartbeats 4000000 in
theorem c_X2_file {l : Launch} {D : va_G} {cA : Nat → ClassId} {ad : Nat → Nat} {lo : Nat} (hA : AdOk lo ad lay0.length) (hst : l.stackTraces = false) {g : Mem} {p1 p2 p3 : Int32} {g1 : Mem} {o : Nat} {r : Int32} (h : m_X2_file g p1 p2 p3 = some (g1, o, r)) : vx_Met l yX2_file wsX2_file rm_X2_file (Px [.ref (ad 0), .int p1, .int p2, .int p3] D cA ad lo g) (Qt D cA ad lo g1 o none) (Qx D cA ad lo g1 o) 1 6 (fun q => lo ≤ q) := by
  refine startT (cc := cX2_file) (maxL := 4) (ret := none) (by decide) rfl (Nat.le_of_ble_eq_true rfl) ?_
  intro p e s m args below meth c ls S hr hlocks hT hB hl
  obtain ⟨⟨hlo, hP, hK, hN⟩, hX⟩ := hB
  have hS : va_S (fun q => lo ≤ q) s.heap s.heap [] := va_S.rf
  unfold m_X2_file at h
  have S : CallFix p m c cX2_file 4 s args wsX2_file RX2 := S
  have hl : lv_has ls 4 [(0, .ref (ad 0)), (1, .int p1), (2, .int p2), (3, .int p3)] := hl
  have hn0 : ∀ w ∈ wsX00, w ∈ wsX2_file := by decide +kernel
  have hn2 : ∀ w ∈ wsX20, w ∈ wsX2_file := by decide +kernel
  have lk11 := S.2.2.2.2 (.fieldLink RX2 11 "FlatLoader" "modules" "[LFlatLoader$OneModule;") (by decide +kernel)
  have lk76 : va_Nw (.fieldLinkNest RX2 76 "FlatLoader$OneModule" "extended" "[I" "FlatLoader") s := hN _ (by decide +kernel)
  have ck45 : Cond.classLink RX2 41 "java/lang/IllegalArgumentException" ∈ wsX2_file := by decide +kernel
  have ci45 : Cond.initialized "java/lang/IllegalArgumentException" ∈ wsX2_file := by decide +kernel
  have at45 : ∀ w ∈ (vx_atS RX2 45 "java/lang/IllegalArgumentException" exUp).filter goodWord, w ∈ wsX2_file := by decide +kernel
  have ck55 : Cond.classLink RX2 51 "java/lang/IllegalStateException" ∈ wsX2_file := by decide +kernel
  have ci55 : Cond.initialized "java/lang/IllegalStateException" ∈ wsX2_file := by decide +kernel
  have at55 : ∀ w ∈ (vx_atS RX2 55 "java/lang/IllegalStateException" exUp).filter goodWord, w ∈ wsX2_file := by decide +kernel
  obtain ⟨H, hH⟩ : ∃ H, H = s.heap := ⟨_, rfl⟩
  obtain ⟨locs, hlocs⟩ : ∃ z : List Loc, z = [] := ⟨_, rfl⟩
  rw [← hH] at hP
  have hS : va_S (fun q => lo ≤ q) s.heap H locs := by rw [hH, hlocs]; exact hS
  have goal0 : W p l e (rm_X2_file) s m args below meth c H locs 0 0 (vx_MQ below (Qt D cA ad lo g1 o none) (Qx D cA ad lo g1 o) args s 1 6 (fun q => lo ≤ q)) (F0 m 0 ls []) := by
    refine lv_aload_n S.1 S.2.1 dX2_file_0 rfl (lv_at hl 0 rfl) ?_
    refine lv_iload_n S.1 S.2.1 dX2_file_1 rfl (lv_at hl 1 rfl) ?_
    obtain ⟨r1, h_2, h⟩ := bd_some h
    refine k_R (r := r1) (va_runV (As := [.int p1]) (rest := []) S (c_X2_isPresent h_2) (cwV 1 S.2.2.2.2 gX2_file_X2_isPresent rfl rfl rfl (by decide +kernel) ⟨Nat.le_of_ble_eq_true rfl, Nat.le_of_ble_eq_true rfl⟩) ⟨Pw_blind, va_recv hK hP (ci := 2) (q0 := 0) rfl (wld_at (d := dF) rfl), Pw_at hlo hS hP hK hN⟩ rfl rfl hl.1 rfl (lv_room (Nat.le_of_ble_eq_true rfl)) dX2_file_2 ⟨Nat.zero_le _, Nat.zero_le _⟩) ?_
    refine lv_if_eq (tgt := 22) S.1 S.2.1 dX2_file_5 (by decide) (fun hc3 => ?_) (fun hc3 => ?_)
    · rw [if_pos hc3] at h
      exact t_X (n := 1) (text := "no present module or no such name") S hl.1 hlocks hT hst hX hP hS (Option.some.inj h) (by decide) rfl (by decide +kernel) ck45 ci45 at45 xw45 xg45 (by decide +kernel) (Nat.le_of_ble_eq_true rfl) (Nat.le_of_ble_eq_true rfl) (Nat.le_of_ble_eq_true rfl) (Nat.le_of_ble_eq_true rfl) dX2_file_22 dX2_file_25 dX2_file_26 dX2_file_28 dX2_file_31
    · rw [if_neg hc3] at h
      refine lv_iload_n S.1 S.2.1 dX2_file_8 rfl (lv_at hl 2 rfl) ?_
      refine k_R (r := (m_X2_isName p2)) (va_runS (As := [.int p2]) (rest := []) S c_X2_isName (va_cwS 1 S.2.2.2.2 gX2_file_X2_isName rfl rfl rfl (by decide +kernel) ⟨Nat.le_of_ble_eq_true rfl, Nat.le_of_ble_eq_true rfl⟩) ⟨Tr_blind, Tr_at⟩ rfl rfl hl.1 rfl (lv_room (Nat.le_of_ble_eq_true rfl)) dX2_file_9 ⟨Nat.zero_le _, Nat.zero_le _⟩) ?_
      refine lv_if_eq (tgt := 22) S.1 S.2.1 dX2_file_12 (by decide) (fun hc4 => ?_) (fun hc4 => ?_)
      · rw [if_pos hc4] at h
        exact t_X (n := 1) (text := "no present module or no such name") S hl.1 hlocks hT hst hX hP hS (Option.some.inj h) (by decide) rfl (by decide +kernel) ck45 ci45 at45 xw45 xg45 (by decide +kernel) (Nat.le_of_ble_eq_true rfl) (Nat.le_of_ble_eq_true rfl) (Nat.le_of_ble_eq_true rfl) (Nat.le_of_ble_eq_true rfl) dX2_file_22 dX2_file_25 dX2_file_26 dX2_file_28 dX2_file_31
      · rw [if_neg hc4] at h
        refine lv_iload_n S.1 S.2.1 dX2_file_15 rfl (lv_at hl 3 rfl) ?_
        refine k_R (r := (m_X2_isExtended p3)) (va_runS (As := [.int p3]) (rest := []) S c_X2_isExtended (va_cwS 1 S.2.2.2.2 gX2_file_X2_isExtended rfl rfl rfl (by decide +kernel) ⟨Nat.le_of_ble_eq_true rfl, Nat.le_of_ble_eq_true rfl⟩) ⟨Tr_blind, Tr_at⟩ rfl rfl hl.1 rfl (lv_room (Nat.le_of_ble_eq_true rfl)) dX2_file_16 ⟨Nat.zero_le _, Nat.zero_le _⟩) ?_
        refine lv_if_ne (tgt := 32) S.1 S.2.1 dX2_file_19 (by decide) (fun hc5 => ?_) (fun hc5 => ?_)
        · rw [if_neg hc5] at h
          refine lv_aload_n S.1 S.2.1 dX2_file_32 rfl (lv_at hl 0 rfl) ?_
          refine lv_iload_n S.1 S.2.1 dX2_file_33 rfl (lv_at hl 1 rfl) ?_
          obtain ⟨r6, h_7, h⟩ := bd_some h
          refine k_R (r := r6) (va_runV (As := [.int p1]) (rest := []) S (c_X2_isLoaded h_7) (cwV 1 S.2.2.2.2 gX2_file_X2_isLoaded rfl rfl rfl (by decide +kernel) ⟨Nat.le_of_ble_eq_true rfl, Nat.le_of_ble_eq_true rfl⟩) ⟨Pw_blind, va_recv hK hP (ci := 2) (q0 := 0) rfl (wld_at (d := dF) rfl), Pw_at hlo hS hP hK hN⟩ rfl rfl hl.1 rfl (lv_room (Nat.le_of_ble_eq_true rfl)) dX2_file_34 ⟨Nat.zero_le _, Nat.zero_le _⟩) ?_
          refine lv_if_ne (tgt := 53) S.1 S.2.1 dX2_file_37 (by decide) (fun hc8 => ?_) (fun hc8 => ?_)
          · rw [if_neg hc8] at h
            exact t_X (n := 2) (text := "the module is loaded or holds the name") S hl.1 hlocks hT hst hX hP hS (Option.some.inj h) (by decide) rfl (by decide +kernel) ck55 ci55 at55 xw55 xg55 (by decide +kernel) (Nat.le_of_ble_eq_true rfl) (Nat.le_of_ble_eq_true rfl) (Nat.le_of_ble_eq_true rfl) (Nat.le_of_ble_eq_true rfl) dX2_file_53 dX2_file_56 dX2_file_57 dX2_file_59 dX2_file_62
          · rw [if_pos hc8] at h
            refine lv_aload_n S.1 S.2.1 dX2_file_40 rfl (lv_at hl 0 rfl) ?_
            refine r_get (C := RX2) (T := TX2) (N := 6) (ci := 2) (k := 0) (j := 0) (fs := fsF) (d := (some (some 1))) (v := .ref (ad 1)) S hK hP hn2 lk11 rfl (by decide) rfl rfl rfl dX2_file_41 ?_
            refine lv_iload_n S.1 S.2.1 dX2_file_44 rfl (lv_at hl 1 rfl) ?_
            obtain ⟨hv9, hv9b, h⟩ := gi_some h
            refine r_ald S hK hP hv9 dX2_file_45 ?_
            refine lv_iload_n S.1 S.2.1 dX2_file_46 rfl (lv_at hl 2 rfl) ?_
            obtain ⟨r10, h_11, h⟩ := bd_some h
            refine k_R (r := r10) (va_runVN (C := RX0) (As := [.int p2]) (rest := []) S (c_X0_holds hv9b h_11) ⟨va_cnB 1 S.2.2.2.2 gX2_file_X0_holds_n71 rfl rfl rfl (hN (.methodLinkNest RX2 71 yX0_holds "FlatLoader") (by decide +kernel)) (S.2.2.2.2 (.initialized RX0) (by decide +kernel)) (by decide +kernel) ⟨Nat.le_of_ble_eq_true rfl, Nat.le_of_ble_eq_true rfl⟩, S.2.2.2.2 (.instanceMethod yX0_holds) (by decide +kernel), S.2.2.2.2 (.selects RX0 yX0_holds yX0_holds) (by decide +kernel)⟩ ⟨Pw_blind, va_recv hK hP (ci := 0) (q0 := (kM (p1).toNatClampNeg)) rfl (wld_at (d := dM (kM (p1).toNatClampNeg)) (lyM hv9b)), Pw_at hlo hS hP hK hN⟩ rfl rfl hl.1 rfl (lv_room (Nat.le_of_ble_eq_true rfl)) dX2_file_47 ⟨Nat.zero_le _, Nat.zero_le _⟩) ?_
            refine lv_if_eq (tgt := 63) S.1 S.2.1 dX2_file_50 (by decide) (fun hc12 => ?_) (fun hc12 => ?_)
            · rw [if_pos hc12] at h
              refine lv_aload_n S.1 S.2.1 dX2_file_63 rfl (lv_at hl 0 rfl) ?_
              refine r_get (C := RX2) (T := TX2) (N := 6) (ci := 2) (k := 0) (j := 0) (fs := fsF) (d := (some (some 1))) (v := .ref (ad 1)) S hK hP hn2 lk11 rfl (by decide) rfl rfl rfl dX2_file_64 ?_
              refine lv_iload_n S.1 S.2.1 dX2_file_67 rfl (lv_at hl 1 rfl) ?_
              obtain ⟨hv13, hv13b, h⟩ := gi_some h
              refine r_ald S hK hP hv13 dX2_file_68 ?_
              refine r_getN (C := RX0) (T := TX0) (N := 8) (ci := 0) (k := (kM (p1).toNatClampNeg)) (j := 0) (fs := (fsM (kM (p1).toNatClampNeg))) (d := (some (some ((kM (p1).toNatClampNeg) + 1)))) (v := .ref (ad ((kM (p1).toNatClampNeg) + 1))) S hK hP hn0 lk76 rfl (by decide) (lyM hv13b) rfl rfl dX2_file_69 ?_
              refine lv_iload_n S.1 S.2.1 dX2_file_72 rfl (lv_at hl 2 rfl) ?_
              refine lv_iload_n S.1 S.2.1 dX2_file_73 rfl (lv_at hl 3 rfl) ?_
              obtain ⟨hv14, hv14b, h⟩ := gi_some h
              refine r_ist (k := ((kM (p1).toNatClampNeg) + 1)) (n := 24) S hA hK hP hS (lyM1 hv13b) hv14 dX2_file_74 (fun H locs hP hS => ?_)
              exact t_Wv S hr hlocks hP hS (Option.some.inj h) dX2_file_75
            · rw [if_neg hc12] at h
              exact t_X (n := 2) (text := "the module is loaded or holds the name") S hl.1 hlocks hT hst hX hP hS (Option.some.inj h) (by decide) rfl (by decide +kernel) ck55 ci55 at55 xw55 xg55 (by decide +kernel) (Nat.le_of_ble_eq_true rfl) (Nat.le_of_ble_eq_true rfl) (Nat.le_of_ble_eq_true rfl) (Nat.le_of_ble_eq_true rfl) dX2_file_53 dX2_file_56 dX2_file_57 dX2_file_59 dX2_file_62
        · rw [if_pos hc5] at h
          exact t_X (n := 1) (text := "no present module or no such name") S hl.1 hlocks hT hst hX hP hS (Option.some.inj h) (by decide) rfl (by decide +kernel) ck45 ci45 at45 xw45 xg45 (by decide +kernel) (Nat.le_of_ble_eq_true rfl) (Nat.le_of_ble_eq_true rfl) (Nat.le_of_ble_eq_true rfl) (Nat.le_of_ble_eq_true rfl) dX2_file_22 dX2_file_25 dX2_file_26 dX2_file_28 dX2_file_31
  rw [hH, hlocs] at goal0
  exact goal0

def m_X2_depend_101 (p1 p2 p3 p4 p5 : Int32) (g : Mem) : Option (Mem × Nat × Int32) := gi p1 8 ((m_X0_addDependency g ((p1).toNatClampNeg) p2 p3 p4 p5).bind fun g_4 => gi p1 8 (some (g_4, 0, (g_4 (kM (p1).toNatClampNeg) 5))))
def m_X2_depend (g : Mem) (p1 p2 p3 p4 p5 : Int32) : Option (Mem × Nat × Int32) := (m_X2_isPresent g p1).bind fun r6 => (if r6 = 0 then some (g, 1, 0) else (if (m_X2_canDependOn p1 p2) = 0 then some (g, 1, 0) else (if (m_X2_isPathSet p3) = 0 then some (g, 1, 0) else (if (m_X2_isPathSet p4) = 0 then some (g, 1, 0) else gi p1 8 ((if (g (kM (p1).toNatClampNeg) 5) < 6 then (m_X2_isLoaded g p1).bind fun r14 => (if r14 = 0 then m_X2_depend_101 p1 p2 p3 p4 p5 (g)  else (if p5 = 0 then m_X2_depend_101 p1 p2 p3 p4 p5 (g)  else (if p2 = (-1) then m_X2_depend_101 p1 p2 p3 p4 p5 (g)  else (m_X2_isLoaded g p2).bind fun r19 => (if r19 = 0 then some (g, 2, 0) else m_X2_depend_101 p1 p2 p3 p4 p5 (g) )))) else some (g, 2, 0)))))))
def rm_X2_depend : Room := { frames := 6, cells := 1, slots := 6, locals := 82 }
set_option maxRecDepth 100000 in
set_option maxHeartbeats 4000000 in
theorem c_X2_depend {l : Launch} {D : va_G} {cA : Nat → ClassId} {ad : Nat → Nat} {lo : Nat} (hA : AdOk lo ad lay0.length) (hst : l.stackTraces = false) {g : Mem} {p1 p2 p3 p4 p5 : Int32} {g1 : Mem} {o : Nat} {r : Int32} (h : m_X2_depend g p1 p2 p3 p4 p5 = some (g1, o, r)) : vx_Met l yX2_depend wsX2_depend rm_X2_depend (Px [.ref (ad 0), .int p1, .int p2, .int p3, .int p4, .int p5] D cA ad lo g) (Qt D cA ad lo g1 o (some r)) (Qx D cA ad lo g1 o) 1 6 (fun q => lo ≤ q) := by
  refine startT (cc := cX2_depend) (maxL := 6) (ret := (some .int)) (by decide) rfl (Nat.le_of_ble_eq_true rfl) ?_
  intro p e s m args below meth c ls S hr hlocks hT hB hl
  obtain ⟨⟨hlo, hP, hK, hN⟩, hX⟩ := hB
  have hS : va_S (fun q => lo ≤ q) s.heap s.heap [] := va_S.rf
  unfold m_X2_depend at h
  have S : CallFix p m c cX2_depend 6 s args wsX2_depend RX2 := S
  have hl : lv_has ls 6 [(0, .ref (ad 0)), (1, .int p1), (2, .int p2), (3, .int p3), (4, .int p4), (5, .int p5)] := hl
  have hn0 : ∀ w ∈ wsX00, w ∈ wsX2_depend := by decide +kernel
  have hn2 : ∀ w ∈ wsX20, w ∈ wsX2_depend := by decide +kernel
  have lk11 := S.2.2.2.2 (.fieldLink RX2 11 "FlatLoader" "modules" "[LFlatLoader$OneModule;") (by decide +kernel)
  have lk88 : va_Nw (.fieldLinkNest RX2 88 "FlatLoader$OneModule" "dependencies" "I" "FlatLoader") s := hN _ (by decide +kernel)
  have ck45 : Cond.classLink RX2 41 "java/lang/IllegalArgumentException" ∈ wsX2_depend := by decide +kernel
  have ci45 : Cond.initialized "java/lang/IllegalArgumentException" ∈ wsX2_depend := by decide +kernel
  have at45 : ∀ w ∈ (vx_atS RX2 45 "java/lang/IllegalArgumentException" exUp).filter goodWord, w ∈ wsX2_depend := by decide +kernel
  have ck55 : Cond.classLink RX2 51 "java/lang/IllegalStateException" ∈ wsX2_depend := by decide +kernel
  have ci55 : Cond.initialized "java/lang/IllegalStateException" ∈ wsX2_depend := by decide +kernel
  have at55 : ∀ w ∈ (vx_atS RX2 55 "java/lang/IllegalStateException" exUp).filter goodWord, w ∈ wsX2_depend := by decide +kernel
  obtain ⟨H, hH⟩ : ∃ H, H = s.heap := ⟨_, rfl⟩
  obtain ⟨locs, hlocs⟩ : ∃ z : List Loc, z = [] := ⟨_, rfl⟩
  have key101 : ∀ (g : Mem) (H : Heap) (locs : List Loc), va_P D vwCl (wld cA ad g lay0) H → va_S (fun q => lo ≤ q) s.heap H locs → ∀ (ls : Array Slot), lv_has ls 6 [(0, .ref (ad 0)), (1, .int p1), (2, .int p2), (3, .int p3), (4, .int p4), (5, .int p5)] → m_X2_depend_101 p1 p2 p3 p4 p5 g = some (g1, o, r) → W p l e (rm_X2_depend) s m args below meth c H locs 0 0 (vx_MQ below (Qt D cA ad lo g1 o (some r)) (Qx D cA ad lo g1 o) args s 1 6 (fun q => lo ≤ q)) (F0 m 101 ls []) := by
    intro g H locs hP hS ls hl h
    unfold m_X2_depend_101 at h
    refine lv_aload_n S.1 S.2.1 dX2_depend_101 rfl (lv_at hl 0 rfl) ?_
    refine r_get (C := RX2) (T := TX2) (N := 6) (ci := 2) (k := 0) (j := 0) (fs := fsF) (d := (some (some 1))) (v := .ref (ad 1)) S hK hP hn2 lk11 rfl (by decide) rfl rfl rfl dX2_depend_102 ?_
    refine lv_iload_n S.1 S.2.1 dX2_depend_105 rfl (lv_at hl 1 rfl) ?_
    obtain ⟨hv1, hv1b, h⟩ := gi_some h
    refine r_ald S hK hP hv1 dX2_depend_106 ?_
    refine lv_iload_n S.1 S.2.1 dX2_depend_107 rfl (lv_at hl 2 rfl) ?_
    refine lv_iload_n S.1 S.2.1 dX2_depend_108 rfl (lv_at hl 3 rfl) ?_
    refine lv_iload S.1 S.2.1 dX2_depend_109 (lv_at hl 4 rfl) ?_
    refine lv_iload S.1 S.2.1 dX2_depend_111 (lv_at hl 5 rfl) ?_
    obtain ⟨g_4, h_3, h⟩ := bd_some h
    refine k_Wv (va_runVN (C := RX0) (As := [.int p2, .int p3, .int p4, .int p5]) (rest := []) S (c_X0_addDependency hA hv1b h_3) ⟨va_cnB 4 S.2.2.2.2 gX2_depend_X0_addDependency_n95 rfl rfl rfl (hN (.methodLinkNest RX2 95 yX0_addDependency "FlatLoader") (by decide +kernel)) (S.2.2.2.2 (.initialized RX0) (by decide +kernel)) (by decide +kernel) ⟨Nat.le_of_ble_eq_true rfl, Nat.le_of_ble_eq_true rfl⟩, S.2.2.2.2 (.instanceMethod yX0_addDependency) (by decide +kernel), S.2.2.2.2 (.selects RX0 yX0_addDependency yX0_addDependency) (by decide +kernel)⟩ ⟨Pw_blind, va_recv hK hP (ci := 0) (q0 := (kM (p1).toNatClampNeg)) rfl (wld_at (d := dM (kM (p1).toNatClampNeg)) (lyM hv1b)), Pw_at hlo hS hP hK hN⟩ rfl rfl hl.1 rfl (lv_room (Nat.le_of_ble_eq_true rfl)) dX2_depend_113 ⟨Nat.zero_le _, Nat.zero_le _⟩) hS (fun H locs hP hS => ?_)
    refine lv_aload_n S.1 S.2.1 dX2_depend_116 rfl (lv_at hl 0 rfl) ?_
    refine r_get (C := RX2) (T := TX2) (N := 6) (ci := 2) (k := 0) (j := 0) (fs := fsF) (d := (some (some 1))) (v := .ref (ad 1)) S hK hP hn2 lk11 rfl (by decide) rfl rfl rfl dX2_depend_117 ?_
    refine lv_iload_n S.1 S.2.1 dX2_depend_120 rfl (lv_at hl 1 rfl) ?_
    obtain ⟨hv5, hv5b, h⟩ := gi_some h
    refine r_ald S hK hP hv5 dX2_depend_121 ?_
    refine r_getN (C := RX0) (T := TX0) (N := 8) (ci := 0) (k := (kM (p1).toNatClampNeg)) (j := 5) (fs := (fsM (kM (p1).toNatClampNeg))) (d := none) (v := .int (g_4 (kM (p1).toNatClampNeg) 5)) S hK hP hn0 lk88 rfl (by decide) (lyM hv5b) rfl rfl dX2_depend_122 ?_
    exact t_W S hr hlocks hP hS (Option.some.inj h) dX2_depend_125
  rw [← hH] at hP
  have hS : va_S (fun q => lo ≤ q) s.heap H locs := by rw [hH, hlocs]; exact hS
  have goal0 : W p l e (rm_X2_depend) s m args below meth c H locs 0 0 (vx_MQ below (Qt D cA ad lo g1 o (some r)) (Qx D cA ad lo g1 o) args s 1 6 (fun q => lo ≤ q)) (F0 m 0 ls []) := by
    refine lv_aload_n S.1 S.2.1 dX2_depend_0 rfl (lv_at hl 0 rfl) ?_
    refine lv_iload_n S.1 S.2.1 dX2_depend_1 rfl (lv_at hl 1 rfl) ?_
    obtain ⟨r6, h_7, h⟩ := bd_some h
    refine k_R (r := r6) (va_runV (As := [.int p1]) (rest := []) S (c_X2_isPresent h_7) (cwV 1 S.2.2.2.2 gX2_depend_X2_isPresent rfl rfl rfl (by decide +kernel) ⟨Nat.le_of_ble_eq_true rfl, Nat.le_of_ble_eq_true rfl⟩) ⟨Pw_blind, va_recv hK hP (ci := 2) (q0 := 0) rfl (wld_at (d := dF) rfl), Pw_at hlo hS hP hK hN⟩ rfl rfl hl.1 rfl (lv_room (Nat.le_of_ble_eq_true rfl)) dX2_depend_2 ⟨Nat.zero_le _, Nat.zero_le _⟩) ?_
    refine lv_if_eq (tgt := 31) S.1 S.2.1 dX2_depend_5 (by decide) (fun hc8 => ?_) (fun hc8 => ?_)
    · rw [if_pos hc8] at h
      exact t_X (n := 1) (text := "no present module, nothing to depend on, or no set of paths") S hl.1 hlocks hT hst hX hP hS (Option.some.inj h) (by decide) rfl (by decide +kernel) ck45 ci45 at45 xw45 xg45 (by decide +kernel) (Nat.le_of_ble_eq_true rfl) (Nat.le_of_ble_eq_true rfl) (Nat.le_of_ble_eq_true rfl) (Nat.le_of_ble_eq_true rfl) dX2_depend_31 dX2_depend_34 dX2_depend_35 dX2_depend_37 dX2_depend_40
    · rw [if_neg hc8] at h
      refine lv_iload_n S.1 S.2.1 dX2_depend_8 rfl (lv_at hl 1 rfl) ?_
      refine lv_iload_n S.1 S.2.1 dX2_depend_9 rfl (lv_at hl 2 rfl) ?_
      refine k_R (r := (m_X2_canDependOn p1 p2)) (va_runS (As := [.int p1, .int p2]) (rest := []) S c_X2_canDependOn (va_cwS 2 S.2.2.2.2 gX2_depend_X2_canDependOn rfl rfl rfl (by decide +kernel) ⟨Nat.le_of_ble_eq_true rfl, Nat.le_of_ble_eq_true rfl⟩) ⟨Tr_blind, Tr_at⟩ rfl rfl hl.1 rfl (lv_room (Nat.le_of_ble_eq_true rfl)) dX2_depend_10 ⟨Nat.zero_le _, Nat.zero_le _⟩) ?_
      refine lv_if_eq (tgt := 31) S.1 S.2.1 dX2_depend_13 (by decide) (fun hc9 => ?_) (fun hc9 => ?_)
      · rw [if_pos hc9] at h
        exact t_X (n := 1) (text := "no present module, nothing to depend on, or no set of paths") S hl.1 hlocks hT hst hX hP hS (Option.some.inj h) (by decide) rfl (by decide +kernel) ck45 ci45 at45 xw45 xg45 (by decide +kernel) (Nat.le_of_ble_eq_true rfl) (Nat.le_of_ble_eq_true rfl) (Nat.le_of_ble_eq_true rfl) (Nat.le_of_ble_eq_true rfl) dX2_depend_31 dX2_depend_34 dX2_depend_35 dX2_depend_37 dX2_depend_40
      · rw [if_neg hc9] at h
        refine lv_iload_n S.1 S.2.1 dX2_depend_16 rfl (lv_at hl 3 rfl) ?_
        refine k_R (r := (m_X2_isPathSet p3)) (va_runS (As := [.int p3]) (rest := []) S c_X2_isPathSet (va_cwS 1 S.2.2.2.2 gX2_depend_X2_isPathSet rfl rfl rfl (by decide +kernel) ⟨Nat.le_of_ble_eq_true rfl, Nat.le_of_ble_eq_true rfl⟩) ⟨Tr_blind, Tr_at⟩ rfl rfl hl.1 rfl (lv_room (Nat.le_of_ble_eq_true rfl)) dX2_depend_17 ⟨Nat.zero_le _, Nat.zero_le _⟩) ?_
        refine lv_if_eq (tgt := 31) S.1 S.2.1 dX2_depend_20 (by decide) (fun hc10 => ?_) (fun hc10 => ?_)
        · rw [if_pos hc10] at h
          exact t_X (n := 1) (text := "no present module, nothing to depend on, or no set of paths") S hl.1 hlocks hT hst hX hP hS (Option.some.inj h) (by decide) rfl (by decide +kernel) ck45 ci45 at45 xw45 xg45 (by decide +kernel) (Nat.le_of_ble_eq_true rfl) (Nat.le_of_ble_eq_true rfl) (Nat.le_of_ble_eq_true rfl) (Nat.le_of_ble_eq_true rfl) dX2_depend_31 dX2_depend_34 dX2_depend_35 dX2_depend_37 dX2_depend_40
        · rw [if_neg hc10] at h
          refine lv_iload S.1 S.2.1 dX2_depend_23 (lv_at hl 4 rfl) ?_
          refine k_R (r := (m_X2_isPathSet p4)) (va_runS (As := [.int p4]) (rest := []) S c_X2_isPathSet (va_cwS 1 S.2.2.2.2 gX2_depend_X2_isPathSet rfl rfl rfl (by decide +kernel) ⟨Nat.le_of_ble_eq_true rfl, Nat.le_of_ble_eq_true rfl⟩) ⟨Tr_blind, Tr_at⟩ rfl rfl hl.1 rfl (lv_room (Nat.le_of_ble_eq_true rfl)) dX2_depend_25 ⟨Nat.zero_le _, Nat.zero_le _⟩) ?_
          refine lv_if_ne (tgt := 41) S.1 S.2.1 dX2_depend_28 (by decide) (fun hc11 => ?_) (fun hc11 => ?_)
          · rw [if_neg hc11] at h
            refine lv_aload_n S.1 S.2.1 dX2_depend_41 rfl (lv_at hl 0 rfl) ?_
            refine r_get (C := RX2) (T := TX2) (N := 6) (ci := 2) (k := 0) (j := 0) (fs := fsF) (d := (some (some 1))) (v := .ref (ad 1)) S hK hP hn2 lk11 rfl (by decide) rfl rfl rfl dX2_depend_42 ?_
            refine lv_iload_n S.1 S.2.1 dX2_depend_45 rfl (lv_at hl 1 rfl) ?_
            obtain ⟨hv12, hv12b, h⟩ := gi_some h
            refine r_ald S hK hP hv12 dX2_depend_46 ?_
            refine r_getN (C := RX0) (T := TX0) (N := 8) (ci := 0) (k := (kM (p1).toNatClampNeg)) (j := 5) (fs := (fsM (kM (p1).toNatClampNeg))) (d := none) (v := .int (g (kM (p1).toNatClampNeg) 5)) S hK hP hn0 lk88 rfl (by decide) (lyM hv12b) rfl rfl dX2_depend_47 ?_
            refine lv_bipush (v := 6) S.1 S.2.1 dX2_depend_50 (by decide) ?_
            refine lv_icmp_lt (tgt := 65) S.1 S.2.1 dX2_depend_52 (by decide) (fun hc13 => ?_) (fun hc13 => ?_)
            · rw [if_pos hc13] at h
              refine lv_aload_n S.1 S.2.1 dX2_depend_65 rfl (lv_at hl 0 rfl) ?_
              refine lv_iload_n S.1 S.2.1 dX2_depend_66 rfl (lv_at hl 1 rfl) ?_
              obtain ⟨r14, h_15, h⟩ := bd_some h
              refine k_R (r := r14) (va_runV (As := [.int p1]) (rest := []) S (c_X2_isLoaded h_15) (cwV 1 S.2.2.2.2 gX2_depend_X2_isLoaded rfl rfl rfl (by decide +kernel) ⟨Nat.le_of_ble_eq_true rfl, Nat.le_of_ble_eq_true rfl⟩) ⟨Pw_blind, va_recv hK hP (ci := 2) (q0 := 0) rfl (wld_at (d := dF) rfl), Pw_at hlo hS hP hK hN⟩ rfl rfl hl.1 rfl (lv_room (Nat.le_of_ble_eq_true rfl)) dX2_depend_67 ⟨Nat.zero_le _, Nat.zero_le _⟩) ?_
              refine lv_if_eq (tgt := 101) S.1 S.2.1 dX2_depend_70 (by decide) (fun hc16 => ?_) (fun hc16 => ?_)
              · rw [if_pos hc16] at h
                exact key101 (g) H locs hP hS ls (lv_sub hl [0, 1, 2, 3, 4, 5] rfl) h
              · rw [if_neg hc16] at h
                refine lv_iload S.1 S.2.1 dX2_depend_73 (lv_at hl 5 rfl) ?_
                refine lv_if_eq (tgt := 101) S.1 S.2.1 dX2_depend_75 (by decide) (fun hc17 => ?_) (fun hc17 => ?_)
                · rw [if_pos hc17] at h
                  exact key101 (g) H locs hP hS ls (lv_sub hl [0, 1, 2, 3, 4, 5] rfl) h
                · rw [if_neg hc17] at h
                  refine lv_iload_n S.1 S.2.1 dX2_depend_78 rfl (lv_at hl 2 rfl) ?_
                  refine lv_iconst (v := (-1)) S.1 S.2.1 dX2_depend_79 (by decide) ?_
                  refine lv_icmp_eq (tgt := 101) S.1 S.2.1 dX2_depend_80 (by decide) (fun hc18 => ?_) (fun hc18 => ?_)
                  · rw [if_pos hc18] at h
                    exact key101 (g) H locs hP hS ls (lv_sub hl [0, 1, 2, 3, 4, 5] rfl) h
                  · rw [if_neg hc18] at h
                    refine lv_aload_n S.1 S.2.1 dX2_depend_83 rfl (lv_at hl 0 rfl) ?_
                    refine lv_iload_n S.1 S.2.1 dX2_depend_84 rfl (lv_at hl 2 rfl) ?_
                    obtain ⟨r19, h_20, h⟩ := bd_some h
                    refine k_R (r := r19) (va_runV (As := [.int p2]) (rest := []) S (c_X2_isLoaded h_20) (cwV 1 S.2.2.2.2 gX2_depend_X2_isLoaded rfl rfl rfl (by decide +kernel) ⟨Nat.le_of_ble_eq_true rfl, Nat.le_of_ble_eq_true rfl⟩) ⟨Pw_blind, va_recv hK hP (ci := 2) (q0 := 0) rfl (wld_at (d := dF) rfl), Pw_at hlo hS hP hK hN⟩ rfl rfl hl.1 rfl (lv_room (Nat.le_of_ble_eq_true rfl)) dX2_depend_85 ⟨Nat.zero_le _, Nat.zero_le _⟩) ?_
                    refine lv_if_ne (tgt := 101) S.1 S.2.1 dX2_depend_88 (by decide) (fun hc21 => ?_) (fun hc21 => ?_)
                    · rw [if_neg hc21] at h
                      exact key101 (g) H locs hP hS ls (lv_sub hl [0, 1, 2, 3, 4, 5] rfl) h
                    · rw [if_pos hc21] at h
                      exact t_X (n := 2) (text := "a loaded module cannot require one that is not loaded") S hl.1 hlocks hT hst hX hP hS (Option.some.inj h) (by decide) rfl (by decide +kernel) ck55 ci55 at55 xw55 xg55 (by decide +kernel) (Nat.le_of_ble_eq_true rfl) (Nat.le_of_ble_eq_true rfl) (Nat.le_of_ble_eq_true rfl) (Nat.le_of_ble_eq_true rfl) dX2_depend_91 dX2_depend_94 dX2_depend_95 dX2_depend_97 dX2_depend_100
            · rw [if_neg hc13] at h
              exact t_X (n := 2) (text := "the module has all the dependencies that it can have") S hl.1 hlocks hT hst hX hP hS (Option.some.inj h) (by decide) rfl (by decide +kernel) ck55 ci55 at55 xw55 xg55 (by decide +kernel) (Nat.le_of_ble_eq_true rfl) (Nat.le_of_ble_eq_true rfl) (Nat.le_of_ble_eq_true rfl) (Nat.le_of_ble_eq_true rfl) dX2_depend_55 dX2_depend_58 dX2_depend_59 dX2_depend_61 dX2_depend_64
          · rw [if_pos hc11] at h
            exact t_X (n := 1) (text := "no present module, nothing to depend on, or no set of paths") S hl.1 hlocks hT hst hX hP hS (Option.some.inj h) (by decide) rfl (by decide +kernel) ck45 ci45 at45 xw45 xg45 (by decide +kernel) (Nat.le_of_ble_eq_true rfl) (Nat.le_of_ble_eq_true rfl) (Nat.le_of_ble_eq_true rfl) (Nat.le_of_ble_eq_true rfl) dX2_depend_31 dX2_depend_34 dX2_depend_35 dX2_depend_37 dX2_depend_40
  rw [hH, hlocs] at goal0
  exact goal0

def m_X2_relink (g : Mem) (p1 : Int32) : Option (Mem × Nat × Int32) := (m_X2_isPresent g p1).bind fun r1 => (if r1 = 0 then some (g, 1, 0) else gi p1 8 (gi p1 8 ((m_X0_dropDependencies g ((p1).toNatClampNeg)).bind fun g_8 => some (g_8, 0, (g (kM (p1).toNatClampNeg) 5)))))
def rm_X2_relink : Room := { frames := 6, cells := 1, slots := 6, locals := 82 }
set_option maxRecDepth 100000 in
set_option maxHeartbeats 4000000 in
theorem c_X2_relink {l : Launch} {D : va_G} {cA : Nat → ClassId} {ad : Nat → Nat} {lo : Nat} (hA : AdOk lo ad lay0.length) (hst : l.stackTraces = false) {g : Mem} {p1 : Int32} {g1 : Mem} {o : Nat} {r : Int32} (h : m_X2_relink g p1 = some (g1, o, r)) : vx_Met l yX2_relink wsX2_relink rm_X2_relink (Px [.ref (ad 0), .int p1] D cA ad lo g) (Qt D cA ad lo g1 o (some r)) (Qx D cA ad lo g1 o) 1 6 (fun q => lo ≤ q) := by
  refine startT (cc := cX2_relink) (maxL := 3) (ret := (some .int)) (by decide) rfl (Nat.le_of_ble_eq_true rfl) ?_
  intro p e s m args below meth c ls S hr hlocks hT hB hl
  obtain ⟨⟨hlo, hP, hK, hN⟩, hX⟩ := hB
  have hS : va_S (fun q => lo ≤ q) s.heap s.heap [] := va_S.rf
  unfold m_X2_relink at h
  have S : CallFix p m c cX2_relink 3 s args wsX2_relink RX2 := S
  have hl : lv_has ls 3 [(0, .ref (ad 0)), (1, .int p1)] := hl
  have hn0 : ∀ w ∈ wsX00, w ∈ wsX2_relink := by decide +kernel
  have hn2 : ∀ w ∈ wsX20, w ∈ wsX2_relink := by decide +kernel
  have lk11 := S.2.2.2.2 (.fieldLink RX2 11 "FlatLoader" "modules" "[LFlatLoader$OneModule;") (by decide +kernel)
  have lk88 : va_Nw (.fieldLinkNest RX2 88 "FlatLoader$OneModule" "dependencies" "I" "FlatLoader") s := hN _ (by decide +kernel)
  have ck45 : Cond.classLink RX2 41 "java/lang/IllegalArgumentException" ∈ wsX2_relink := by decide +kernel
  have ci45 : Cond.initialized "java/lang/IllegalArgumentException" ∈ wsX2_relink := by decide +kernel
  have at45 : ∀ w ∈ (vx_atS RX2 45 "java/lang/IllegalArgumentException" exUp).filter goodWord, w ∈ wsX2_relink := by decide +kernel
  obtain ⟨H, hH⟩ : ∃ H, H = s.heap := ⟨_, rfl⟩
  obtain ⟨locs, hlocs⟩ : ∃ z : List Loc, z = [] := ⟨_, rfl⟩
  rw [← hH] at hP
  have hS : va_S (fun q => lo ≤ q) s.heap H locs := by rw [hH, hlocs]; exact hS
  have goal0 : W p l e (rm_X2_relink) s m args below meth c H locs 0 0 (vx_MQ below (Qt D cA ad lo g1 o (some r)) (Qx D cA ad lo g1 o) args s 1 6 (fun q => lo ≤ q)) (F0 m 0 ls []) := by
    refine lv_aload_n S.1 S.2.1 dX2_relink_0 rfl (lv_at hl 0 rfl) ?_
    refine lv_iload_n S.1 S.2.1 dX2_relink_1 rfl (lv_at hl 1 rfl) ?_
    obtain ⟨r1, h_2, h⟩ := bd_some h
    refine k_R (r := r1) (va_runV (As := [.int p1]) (rest := []) S (c_X2_isPresent h_2) (cwV 1 S.2.2.2.2 gX2_relink_X2_isPresent rfl rfl rfl (by decide +kernel) ⟨Nat.le_of_ble_eq_true rfl, Nat.le_of_ble_eq_true rfl⟩) ⟨Pw_blind, va_recv hK hP (ci := 2) (q0 := 0) rfl (wld_at (d := dF) rfl), Pw_at hlo hS hP hK hN⟩ rfl rfl hl.1 rfl (lv_room (Nat.le_of_ble_eq_true rfl)) dX2_relink_2 ⟨Nat.zero_le _, Nat.zero_le _⟩) ?_
    refine lv_if_ne (tgt := 18) S.1 S.2.1 dX2_relink_5 (by decide) (fun hc3 => ?_) (fun hc3 => ?_)
    · rw [if_neg hc3] at h
      refine lv_aload_n S.1 S.2.1 dX2_relink_18 rfl (lv_at hl 0 rfl) ?_
      refine r_get (C := RX2) (T := TX2) (N := 6) (ci := 2) (k := 0) (j := 0) (fs := fsF) (d := (some (some 1))) (v := .ref (ad 1)) S hK hP hn2 lk11 rfl (by decide) rfl rfl rfl dX2_relink_19 ?_
      refine lv_iload_n S.1 S.2.1 dX2_relink_22 rfl (lv_at hl 1 rfl) ?_
      obtain ⟨hv4, hv4b, h⟩ := gi_some h
      refine r_ald S hK hP hv4 dX2_relink_23 ?_
      refine r_getN (C := RX0) (T := TX0) (N := 8) (ci := 0) (k := (kM (p1).toNatClampNeg)) (j := 5) (fs := (fsM (kM (p1).toNatClampNeg))) (d := none) (v := .int (g (kM (p1).toNatClampNeg) 5)) S hK hP hn0 lk88 rfl (by decide) (lyM hv4b) rfl rfl dX2_relink_24 ?_
      refine lv_istore_n (lv' := [(2, .int (g (kM (p1).toNatClampNeg) 5)), (0, .ref (ad 0)), (1, .int p1)]) S.1 S.2.1 dX2_relink_27 rfl hl (by decide) rfl (fun ls hl => ?_)
      refine lv_aload_n S.1 S.2.1 dX2_relink_28 rfl (lv_at hl 1 rfl) ?_
      refine r_get (C := RX2) (T := TX2) (N := 6) (ci := 2) (k := 0) (j := 0) (fs := fsF) (d := (some (some 1))) (v := .ref (ad 1)) S hK hP hn2 lk11 rfl (by decide) rfl rfl rfl dX2_relink_29 ?_
      refine lv_iload_n S.1 S.2.1 dX2_relink_32 rfl (lv_at hl 2 rfl) ?_
      obtain ⟨hv5, hv5b, h⟩ := gi_some h
      refine r_ald S hK hP hv5 dX2_relink_33 ?_
      obtain ⟨g_8, h_7, h⟩ := bd_some h
      refine k_Wv (va_runVN (C := RX0) (As := []) (rest := []) S (c_X0_dropDependencies hA hv5b h_7) ⟨va_cnB 0 S.2.2.2.2 gX2_relink_X0_dropDependencies_n101 rfl rfl rfl (hN (.methodLinkNest RX2 101 yX0_dropDependencies "FlatLoader") (by decide +kernel)) (S.2.2.2.2 (.initialized RX0) (by decide +kernel)) (by decide +kernel) ⟨Nat.le_of_ble_eq_true rfl, Nat.le_of_ble_eq_true rfl⟩, S.2.2.2.2 (.instanceMethod yX0_dropDependencies) (by decide +kernel), S.2.2.2.2 (.selects RX0 yX0_dropDependencies yX0_dropDependencies) (by decide +kernel)⟩ ⟨Pw_blind, va_recv hK hP (ci := 0) (q0 := (kM (p1).toNatClampNeg)) rfl (wld_at (d := dM (kM (p1).toNatClampNeg)) (lyM hv5b)), Pw_at hlo hS hP hK hN⟩ rfl rfl hl.1 rfl (lv_room (Nat.le_of_ble_eq_true rfl)) dX2_relink_34 ⟨Nat.zero_le _, Nat.zero_le _⟩) hS (fun H locs hP hS => ?_)
      refine lv_iload_n S.1 S.2.1 dX2_relink_37 rfl (lv_at hl 0 rfl) ?_
      exact t_W S hr hlocks hP hS (Option.some.inj h) dX2_relink_38
    · rw [if_pos hc3] at h
      exact t_X (n := 1) (text := "no present module") S hl.1 hlocks hT hst hX hP hS (Option.some.inj h) (by decide) rfl (by decide +kernel) ck45 ci45 at45 xw45 xg45 (by decide +kernel) (Nat.le_of_ble_eq_true rfl) (Nat.le_of_ble_eq_true rfl) (Nat.le_of_ble_eq_true rfl) (Nat.le_of_ble_eq_true rfl) dX2_relink_8 dX2_relink_11 dX2_relink_12 dX2_relink_14 dX2_relink_17
  rw [hH, hlocs] at goal0
  exact goal0

def m_X2_load (g : Mem) (p1 : Int32) : Option (Mem × Nat × Int32) := (if (m_X2_isModule p1) = 0 then some (g, 1, 0) else (m_X2_loadableSet g).bind fun r2 => (if (m_X2_isIn r2 p1) = 0 then some (g, 3, 0) else (m_X2_reachedSet g p1 r2).bind fun r5 => some ((mup g 0 2 ((g 0 2) ||| (r5 &&& ((g 0 2) ^^^ (-1))))), 0, (m_J6_bitCount_0f7a4 (r5 &&& ((g 0 2) ^^^ (-1)))))))
def rm_X2_load : Room := { frames := 6, cells := 1, slots := 6, locals := 82 }
set_option maxRecDepth 100000 in
set_option maxHeartbeats 4000000 in
theorem c_X2_load {l : Launch} {D : va_G} {cA : Nat → ClassId} {ad : Nat → Nat} {lo : Nat} (hA : AdOk lo ad lay0.length) (hst : l.stackTraces = false) {g : Mem} {p1 : Int32} {g1 : Mem} {o : Nat} {r : Int32} (h : m_X2_load g p1 = some (g1, o, r)) : vx_Met l yX2_load wvX2_load rm_X2_load (Px [.ref (ad 0), .int p1] D cA ad lo g) (Qt D cA ad lo g1 o (some r)) (Qx D cA ad lo g1 o) 1 6 (fun q => lo ≤ q) := by
  refine startT (cc := cX2_load) (maxL := 4) (ret := (some .int)) (by decide) rfl (Nat.le_of_ble_eq_true rfl) ?_
  intro p e s m args below meth c ls S hr hlocks hT hB hl
  obtain ⟨⟨hlo, hP, hK, hN⟩, hX⟩ := hB
  have hS : va_S (fun q => lo ≤ q) s.heap s.heap [] := va_S.rf
  unfold m_X2_load at h
  have S : CallFix p m c cX2_load 4 s args wvX2_load RX2 := S
  have hl : lv_has ls 4 [(0, .ref (ad 0)), (1, .int p1)] := hl
  have hn2 : ∀ w ∈ wsX20, w ∈ wvX2_load := by decide +kernel
  have lk20 := S.2.2.2.2 (.fieldLink RX2 20 "FlatLoader" "loadedSet" "I") (by decide +kernel)
  have ck45 : Cond.classLink RX2 41 "java/lang/IllegalArgumentException" ∈ wvX2_load := by decide +kernel
  have ci45 : Cond.initialized "java/lang/IllegalArgumentException" ∈ wvX2_load := by decide +kernel
  have at45 : ∀ w ∈ (vx_atS RX2 45 "java/lang/IllegalArgumentException" exUp).filter goodWord, w ∈ wvX2_load := by decide +kernel
  have ck115 : Cond.classLink RX2 111 "java/util/NoSuchElementException" ∈ wvX2_load := by decide +kernel
  have ci115 : Cond.initialized "java/util/NoSuchElementException" ∈ wvX2_load := by decide +kernel
  have at115 : ∀ w ∈ (ns_at RX2 115).filter goodWord, w ∈ wvX2_load := by decide +kernel
  obtain ⟨H, hH⟩ : ∃ H, H = s.heap := ⟨_, rfl⟩
  obtain ⟨locs, hlocs⟩ : ∃ z : List Loc, z = [] := ⟨_, rfl⟩
  rw [← hH] at hP
  have hS : va_S (fun q => lo ≤ q) s.heap H locs := by rw [hH, hlocs]; exact hS
  have goal0 : W p l e (rm_X2_load) s m args below meth c H locs 0 0 (vx_MQ below (Qt D cA ad lo g1 o (some r)) (Qx D cA ad lo g1 o) args s 1 6 (fun q => lo ≤ q)) (F0 m 0 ls []) := by
    refine lv_iload_n S.1 S.2.1 dX2_load_0 rfl (lv_at hl 1 rfl) ?_
    refine k_R (r := (m_X2_isModule p1)) (va_runS (As := [.int p1]) (rest := []) S c_X2_isModule (va_cwS 1 S.2.2.2.2 vgX2_load_X2_isModule rfl rfl rfl (by decide +kernel) ⟨Nat.le_of_ble_eq_true rfl, Nat.le_of_ble_eq_true rfl⟩) ⟨Tr_blind, Tr_at⟩ rfl rfl hl.1 rfl (lv_room (Nat.le_of_ble_eq_true rfl)) dX2_load_1 ⟨Nat.zero_le _, Nat.zero_le _⟩) ?_
    refine lv_if_ne (tgt := 17) S.1 S.2.1 dX2_load_4 (by decide) (fun hc1 => ?_) (fun hc1 => ?_)
    · rw [if_neg hc1] at h
      refine lv_aload_n S.1 S.2.1 dX2_load_17 rfl (lv_at hl 0 rfl) ?_
      obtain ⟨r2, h_3, h⟩ := bd_some h
      refine k_R (r := r2) (va_runV (As := []) (rest := []) S (c_X2_loadableSet h_3) (cwV 0 S.2.2.2.2 vgX2_load_X2_loadableSet rfl rfl rfl (by decide +kernel) ⟨Nat.le_of_ble_eq_true rfl, Nat.le_of_ble_eq_true rfl⟩) ⟨Pw_blind, va_recv hK hP (ci := 2) (q0 := 0) rfl (wld_at (d := dF) rfl), Pw_at hlo hS hP hK hN⟩ rfl rfl hl.1 rfl (lv_room (Nat.le_of_ble_eq_true rfl)) dX2_load_18 ⟨Nat.zero_le _, Nat.zero_le _⟩) ?_
      refine lv_istore_n (lv' := [(2, .int r2), (0, .ref (ad 0)), (1, .int p1)]) S.1 S.2.1 dX2_load_21 rfl hl (by decide) rfl (fun ls hl => ?_)
      refine lv_iload_n S.1 S.2.1 dX2_load_22 rfl (lv_at hl 0 rfl) ?_
      refine lv_iload_n S.1 S.2.1 dX2_load_23 rfl (lv_at hl 2 rfl) ?_
      refine k_R (r := (m_X2_isIn r2 p1)) (va_runS (As := [.int r2, .int p1]) (rest := []) S c_X2_isIn (va_cwS 2 S.2.2.2.2 vgX2_load_X2_isIn rfl rfl rfl (by decide +kernel) ⟨Nat.le_of_ble_eq_true rfl, Nat.le_of_ble_eq_true rfl⟩) ⟨Tr_blind, Tr_at⟩ rfl rfl hl.1 rfl (lv_room (Nat.le_of_ble_eq_true rfl)) dX2_load_24 ⟨Nat.zero_le _, Nat.zero_le _⟩) ?_
      refine lv_if_ne (tgt := 40) S.1 S.2.1 dX2_load_27 (by decide) (fun hc4 => ?_) (fun hc4 => ?_)
      · rw [if_neg hc4] at h
        refine lv_aload_n S.1 S.2.1 dX2_load_40 rfl (lv_at hl 1 rfl) ?_
        refine lv_iload_n S.1 S.2.1 dX2_load_41 rfl (lv_at hl 2 rfl) ?_
        refine lv_iload_n S.1 S.2.1 dX2_load_42 rfl (lv_at hl 0 rfl) ?_
        obtain ⟨r5, h_6, h⟩ := bd_some h
        refine k_R (r := r5) (va_runV (As := [.int p1, .int r2]) (rest := []) S (c_X2_reachedSet h_6) (cwV 2 S.2.2.2.2 vgX2_load_X2_reachedSet rfl rfl rfl (by decide +kernel) ⟨Nat.le_of_ble_eq_true rfl, Nat.le_of_ble_eq_true rfl⟩) ⟨Pw_blind, va_recv hK hP (ci := 2) (q0 := 0) rfl (wld_at (d := dF) rfl), Pw_at hlo hS hP hK hN⟩ rfl rfl hl.1 rfl (lv_room (Nat.le_of_ble_eq_true rfl)) dX2_load_43 ⟨Nat.zero_le _, Nat.zero_le _⟩) ?_
        refine lv_aload_n S.1 S.2.1 dX2_load_46 rfl (lv_at hl 1 rfl) ?_
        refine r_get (C := RX2) (T := TX2) (N := 6) (ci := 2) (k := 0) (j := 2) (fs := fsF) (d := none) (v := .int (g 0 2)) S hK hP hn2 lk20 rfl (by decide) rfl rfl rfl dX2_load_47 ?_
        refine lv_iconst (v := (-1)) S.1 S.2.1 dX2_load_50 (by decide) ?_
        refine lv_ixor S.1 S.2.1 dX2_load_51 ?_
        refine lv_iand S.1 S.2.1 dX2_load_52 ?_
        refine lv_istore_n (lv' := [(3, .int (r5 &&& ((g 0 2) ^^^ (-1)))), (2, .int r2), (0, .ref (ad 0)), (1, .int p1)]) S.1 S.2.1 dX2_load_53 rfl hl (by decide) rfl (fun ls hl => ?_)
        refine lv_aload_n S.1 S.2.1 dX2_load_54 rfl (lv_at hl 2 rfl) ?_
        refine lv_dup S.1 S.2.1 dX2_load_55 rfl ?_
        refine r_get (C := RX2) (T := TX2) (N := 6) (ci := 2) (k := 0) (j := 2) (fs := fsF) (d := none) (v := .int (g 0 2)) S hK hP hn2 lk20 rfl (by decide) rfl rfl rfl dX2_load_56 ?_
        refine lv_iload_n S.1 S.2.1 dX2_load_59 rfl (lv_at hl 0 rfl) ?_
        refine lv_ior S.1 S.2.1 dX2_load_60 ?_
        refine r_put (C := RX2) (T := TX2) (N := 6) (ci := 2) (k := 0) (j := 2) (fs := fsF) (v := ((g 0 2) ||| (r5 &&& ((g 0 2) ^^^ (-1))))) tyX2 tyX2_ok nmX2 S hA hK hP hS hn2 lk20 rfl (by decide) rfl (by decide +kernel) rfl rfl dX2_load_61 (fun H locs hP hS => ?_)
        refine lv_iload_n S.1 S.2.1 dX2_load_64 rfl (lv_at hl 0 rfl) ?_
        refine k_R (r := (m_J6_bitCount_0f7a4 (r5 &&& ((g 0 2) ^^^ (-1))))) (va_runS (As := [.int (r5 &&& ((g 0 2) ^^^ (-1)))]) (rest := []) S c_J6_bitCount_0f7a4 (va_cwS 1 S.2.2.2.2 vgX2_load_J6_bitCount_0f7a4 rfl rfl rfl (by decide +kernel) ⟨Nat.le_of_ble_eq_true rfl, Nat.le_of_ble_eq_true rfl⟩) ⟨Tr_blind, Tr_at⟩ rfl rfl hl.1 rfl (lv_room (Nat.le_of_ble_eq_true rfl)) dX2_load_65 ⟨Nat.zero_le _, Nat.zero_le _⟩) ?_
        exact t_W S hr hlocks hP hS (Option.some.inj h) dX2_load_68
      · rw [if_pos hc4] at h
        exact t_N (n := 3) (text := "the module is not loadable") S hl.1 hlocks hT hst hX hP hS (Option.some.inj h) (by decide) rfl (by decide +kernel) ck115 ci115 at115 xw115 xg115 (Nat.le_of_ble_eq_true rfl) (Nat.le_of_ble_eq_true rfl) (Nat.le_of_ble_eq_true rfl) (Nat.le_of_ble_eq_true rfl) dX2_load_30 dX2_load_33 dX2_load_34 dX2_load_36 dX2_load_39
    · rw [if_pos hc1] at h
      exact t_X (n := 1) (text := "no such module") S hl.1 hlocks hT hst hX hP hS (Option.some.inj h) (by decide) rfl (by decide +kernel) ck45 ci45 at45 xw45 xg45 (by decide +kernel) (Nat.le_of_ble_eq_true rfl) (Nat.le_of_ble_eq_true rfl) (Nat.le_of_ble_eq_true rfl) (Nat.le_of_ble_eq_true rfl) dX2_load_7 dX2_load_10 dX2_load_11 dX2_load_13 dX2_load_16
  rw [hH, hlocs] at goal0
  exact goal0

def m_X2_unload (g : Mem) (p1 : Int32) : Option (Mem × Nat × Int32) := (m_X2_isLoaded g p1).bind fun r1 => (if r1 = 0 then some (g, 1, 0) else (m_X2_isHeldByAnother g p1).bind fun r4 => (if r4 = 0 then gi p1 8 ((m_X0_countClasses g ((p1).toNatClampNeg)).bind fun r8 => gi p1 8 ((m_X0_dropClasses g ((p1).toNatClampNeg)).bind fun g_13 => some ((mup g_13 0 2 ((g_13 0 2) &&& ((m_X2_bit p1) ^^^ (-1)))), 0, r8))) else some (g, 2, 0)))
def rm_X2_unload : Room := { frames := 6, cells := 1, slots := 6, locals := 82 }
set_option maxRecDepth 100000 in
set_option maxHeartbeats 4000000 in
theorem c_X2_unload {l : Launch} {D : va_G} {cA : Nat → ClassId} {ad : Nat → Nat} {lo : Nat} (hA : AdOk lo ad lay0.length) (hst : l.stackTraces = false) {g : Mem} {p1 : Int32} {g1 : Mem} {o : Nat} {r : Int32} (h : m_X2_unload g p1 = some (g1, o, r)) : vx_Met l yX2_unload wsX2_unload rm_X2_unload (Px [.ref (ad 0), .int p1] D cA ad lo g) (Qt D cA ad lo g1 o (some r)) (Qx D cA ad lo g1 o) 1 6 (fun q => lo ≤ q) := by
  refine startT (cc := cX2_unload) (maxL := 3) (ret := (some .int)) (by decide) rfl (Nat.le_of_ble_eq_true rfl) ?_
  intro p e s m args below meth c ls S hr hlocks hT hB hl
  obtain ⟨⟨hlo, hP, hK, hN⟩, hX⟩ := hB
  have hS : va_S (fun q => lo ≤ q) s.heap s.heap [] := va_S.rf
  unfold m_X2_unload at h
  have S : CallFix p m c cX2_unload 3 s args wsX2_unload RX2 := S
  have hl : lv_has ls 3 [(0, .ref (ad 0)), (1, .int p1)] := hl
  have hn2 : ∀ w ∈ wsX20, w ∈ wsX2_unload := by decide +kernel
  have lk11 := S.2.2.2.2 (.fieldLink RX2 11 "FlatLoader" "modules" "[LFlatLoader$OneModule;") (by decide +kernel)
  have lk20 := S.2.2.2.2 (.fieldLink RX2 20 "FlatLoader" "loadedSet" "I") (by decide +kernel)
  have ck45 : Cond.classLink RX2 41 "java/lang/IllegalArgumentException" ∈ wsX2_unload := by decide +kernel
  have ci45 : Cond.initialized "java/lang/IllegalArgumentException" ∈ wsX2_unload := by decide +kernel
  have at45 : ∀ w ∈ (vx_atS RX2 45 "java/lang/IllegalArgumentException" exUp).filter goodWord, w ∈ wsX2_unload := by decide +kernel
  have ck55 : Cond.classLink RX2 51 "java/lang/IllegalStateException" ∈ wsX2_unload := by decide +kernel
  have ci55 : Cond.initialized "java/lang/IllegalStateException" ∈ wsX2_unload := by decide +kernel
  have at55 : ∀ w ∈ (vx_atS RX2 55 "java/lang/IllegalStateException" exUp).filter goodWord, w ∈ wsX2_unload := by decide +kernel
  obtain ⟨H, hH⟩ : ∃ H, H = s.heap := ⟨_, rfl⟩
  obtain ⟨locs, hlocs⟩ : ∃ z : List Loc, z = [] := ⟨_, rfl⟩
  rw [← hH] at hP
  have hS : va_S (fun q => lo ≤ q) s.heap H locs := by rw [hH, hlocs]; exact hS
  have goal0 : W p l e (rm_X2_unload) s m args below meth c H locs 0 0 (vx_MQ below (Qt D cA ad lo g1 o (some r)) (Qx D cA ad lo g1 o) args s 1 6 (fun q => lo ≤ q)) (F0 m 0 ls []) := by
    refine lv_aload_n S.1 S.2.1 dX2_unload_0 rfl (lv_at hl 0 rfl) ?_
    refine lv_iload_n S.1 S.2.1 dX2_unload_1 rfl (lv_at hl 1 rfl) ?_
    obtain ⟨r1, h_2, h⟩ := bd_some h
    refine k_R (r := r1) (va_runV (As := [.int p1]) (rest := []) S (c_X2_isLoaded h_2) (cwV 1 S.2.2.2.2 gX2_unload_X2_isLoaded rfl rfl rfl (by decide +kernel) ⟨Nat.le_of_ble_eq_true rfl, Nat.le_of_ble_eq_true rfl⟩) ⟨Pw_blind, va_recv hK hP (ci := 2) (q0 := 0) rfl (wld_at (d := dF) rfl), Pw_at hlo hS hP hK hN⟩ rfl rfl hl.1 rfl (lv_room (Nat.le_of_ble_eq_true rfl)) dX2_unload_2 ⟨Nat.zero_le _, Nat.zero_le _⟩) ?_
    refine lv_if_ne (tgt := 18) S.1 S.2.1 dX2_unload_5 (by decide) (fun hc3 => ?_) (fun hc3 => ?_)
    · rw [if_neg hc3] at h
      refine lv_aload_n S.1 S.2.1 dX2_unload_18 rfl (lv_at hl 0 rfl) ?_
      refine lv_iload_n S.1 S.2.1 dX2_unload_19 rfl (lv_at hl 1 rfl) ?_
      obtain ⟨r4, h_5, h⟩ := bd_some h
      refine k_R (r := r4) (va_runV (As := [.int p1]) (rest := []) S (c_X2_isHeldByAnother h_5) (cwV 1 S.2.2.2.2 gX2_unload_X2_isHeldByAnother rfl rfl rfl (by decide +kernel) ⟨Nat.le_of_ble_eq_true rfl, Nat.le_of_ble_eq_true rfl⟩) ⟨Pw_blind, va_recv hK hP (ci := 2) (q0 := 0) rfl (wld_at (d := dF) rfl), Pw_at hlo hS hP hK hN⟩ rfl rfl hl.1 rfl (lv_room (Nat.le_of_ble_eq_true rfl)) dX2_unload_20 ⟨Nat.zero_le _, Nat.zero_le _⟩) ?_
      refine lv_if_eq (tgt := 36) S.1 S.2.1 dX2_unload_23 (by decide) (fun hc6 => ?_) (fun hc6 => ?_)
      · rw [if_pos hc6] at h
        refine lv_aload_n S.1 S.2.1 dX2_unload_36 rfl (lv_at hl 0 rfl) ?_
        refine r_get (C := RX2) (T := TX2) (N := 6) (ci := 2) (k := 0) (j := 0) (fs := fsF) (d := (some (some 1))) (v := .ref (ad 1)) S hK hP hn2 lk11 rfl (by decide) rfl rfl rfl dX2_unload_37 ?_
        refine lv_iload_n S.1 S.2.1 dX2_unload_40 rfl (lv_at hl 1 rfl) ?_
        obtain ⟨hv7, hv7b, h⟩ := gi_some h
        refine r_ald S hK hP hv7 dX2_unload_41 ?_
        obtain ⟨r8, h_9, h⟩ := bd_some h
        refine k_R (r := r8) (va_runVN (C := RX0) (As := []) (rest := []) S (c_X0_countClasses hv7b h_9) ⟨va_cnB 0 S.2.2.2.2 gX2_unload_X0_countClasses_n132 rfl rfl rfl (hN (.methodLinkNest RX2 132 yX0_countClasses "FlatLoader") (by decide +kernel)) (S.2.2.2.2 (.initialized RX0) (by decide +kernel)) (by decide +kernel) ⟨Nat.le_of_ble_eq_true rfl, Nat.le_of_ble_eq_true rfl⟩, S.2.2.2.2 (.instanceMethod yX0_countClasses) (by decide +kernel), S.2.2.2.2 (.selects RX0 yX0_countClasses yX0_countClasses) (by decide +kernel)⟩ ⟨Pw_blind, va_recv hK hP (ci := 0) (q0 := (kM (p1).toNatClampNeg)) rfl (wld_at (d := dM (kM (p1).toNatClampNeg)) (lyM hv7b)), Pw_at hlo hS hP hK hN⟩ rfl rfl hl.1 rfl (lv_room (Nat.le_of_ble_eq_true rfl)) dX2_unload_42 ⟨Nat.zero_le _, Nat.zero_le _⟩) ?_
        refine lv_istore_n (lv' := [(2, .int r8), (0, .ref (ad 0)), (1, .int p1)]) S.1 S.2.1 dX2_unload_45 rfl hl (by decide) rfl (fun ls hl => ?_)
        refine lv_aload_n S.1 S.2.1 dX2_unload_46 rfl (lv_at hl 1 rfl) ?_
        refine r_get (C := RX2) (T := TX2) (N := 6) (ci := 2) (k := 0) (j := 0) (fs := fsF) (d := (some (some 1))) (v := .ref (ad 1)) S hK hP hn2 lk11 rfl (by decide) rfl rfl rfl dX2_unload_47 ?_
        refine lv_iload_n S.1 S.2.1 dX2_unload_50 rfl (lv_at hl 2 rfl) ?_
        obtain ⟨hv10, hv10b, h⟩ := gi_some h
        refine r_ald S hK hP hv10 dX2_unload_51 ?_
        obtain ⟨g_13, h_12, h⟩ := bd_some h
        refine k_Wv (va_runVN (C := RX0) (As := []) (rest := []) S (c_X0_dropClasses hA hv10b h_12) ⟨va_cnB 0 S.2.2.2.2 gX2_unload_X0_dropClasses_n135 rfl rfl rfl (hN (.methodLinkNest RX2 135 yX0_dropClasses "FlatLoader") (by decide +kernel)) (S.2.2.2.2 (.initialized RX0) (by decide +kernel)) (by decide +kernel) ⟨Nat.le_of_ble_eq_true rfl, Nat.le_of_ble_eq_true rfl⟩, S.2.2.2.2 (.instanceMethod yX0_dropClasses) (by decide +kernel), S.2.2.2.2 (.selects RX0 yX0_dropClasses yX0_dropClasses) (by decide +kernel)⟩ ⟨Pw_blind, va_recv hK hP (ci := 0) (q0 := (kM (p1).toNatClampNeg)) rfl (wld_at (d := dM (kM (p1).toNatClampNeg)) (lyM hv10b)), Pw_at hlo hS hP hK hN⟩ rfl rfl hl.1 rfl (lv_room (Nat.le_of_ble_eq_true rfl)) dX2_unload_52 ⟨Nat.zero_le _, Nat.zero_le _⟩) hS (fun H locs hP hS => ?_)
        refine lv_aload_n S.1 S.2.1 dX2_unload_55 rfl (lv_at hl 1 rfl) ?_
        refine lv_dup S.1 S.2.1 dX2_unload_56 rfl ?_
        refine r_get (C := RX2) (T := TX2) (N := 6) (ci := 2) (k := 0) (j := 2) (fs := fsF) (d := none) (v := .int (g_13 0 2)) S hK hP hn2 lk20 rfl (by decide) rfl rfl rfl dX2_unload_57 ?_
        refine lv_iload_n S.1 S.2.1 dX2_unload_60 rfl (lv_at hl 2 rfl) ?_
        refine k_R (r := (m_X2_bit p1)) (va_runS (As := [.int p1]) (rest := [.int (g_13 0 2), .ref (ad 0)]) S c_X2_bit (va_cwS 1 S.2.2.2.2 gX2_unload_X2_bit rfl rfl rfl (by decide +kernel) ⟨Nat.le_of_ble_eq_true rfl, Nat.le_of_ble_eq_true rfl⟩) ⟨Tr_blind, Tr_at⟩ rfl rfl hl.1 rfl (lv_room (Nat.le_of_ble_eq_true rfl)) dX2_unload_61 ⟨Nat.zero_le _, Nat.zero_le _⟩) ?_
        refine lv_iconst (v := (-1)) S.1 S.2.1 dX2_unload_64 (by decide) ?_
        refine lv_ixor S.1 S.2.1 dX2_unload_65 ?_
        refine lv_iand S.1 S.2.1 dX2_unload_66 ?_
        refine r_put (C := RX2) (T := TX2) (N := 6) (ci := 2) (k := 0) (j := 2) (fs := fsF) (v := ((g_13 0 2) &&& ((m_X2_bit p1) ^^^ (-1)))) tyX2 tyX2_ok nmX2 S hA hK hP hS hn2 lk20 rfl (by decide) rfl (by decide +kernel) rfl rfl dX2_unload_67 (fun H locs hP hS => ?_)
        refine lv_iload_n S.1 S.2.1 dX2_unload_70 rfl (lv_at hl 0 rfl) ?_
        exact t_W S hr hlocks hP hS (Option.some.inj h) dX2_unload_71
      · rw [if_neg hc6] at h
        exact t_X (n := 2) (text := "another module needs the module or extends a class of it") S hl.1 hlocks hT hst hX hP hS (Option.some.inj h) (by decide) rfl (by decide +kernel) ck55 ci55 at55 xw55 xg55 (by decide +kernel) (Nat.le_of_ble_eq_true rfl) (Nat.le_of_ble_eq_true rfl) (Nat.le_of_ble_eq_true rfl) (Nat.le_of_ble_eq_true rfl) dX2_unload_26 dX2_unload_29 dX2_unload_30 dX2_unload_32 dX2_unload_35
    · rw [if_pos hc3] at h
      exact t_X (n := 1) (text := "no loaded module") S hl.1 hlocks hT hst hX hP hS (Option.some.inj h) (by decide) rfl (by decide +kernel) ck45 ci45 at45 xw45 xg45 (by decide +kernel) (Nat.le_of_ble_eq_true rfl) (Nat.le_of_ble_eq_true rfl) (Nat.le_of_ble_eq_true rfl) (Nat.le_of_ble_eq_true rfl) dX2_unload_8 dX2_unload_11 dX2_unload_12 dX2_unload_14 dX2_unload_17
  rw [hH, hlocs] at goal0
  exact goal0

def m_X2_find (g : Mem) (p1 p2 : Int32) : Option (Mem × Nat × Int32) := (m_X2_isLoaded g p1).bind fun r1 => (if r1 = 0 then some (g, 1, 0) else (if (m_X2_isName p2) = 0 then some (g, 1, 0) else (m_X2_holderSeenFrom g p1 p2).bind fun qr5 => (if qr5.2 = (-1) then some (qr5.1, 3, 0) else (m_X2_defineWithAllAbove qr5.1 qr5.2 p2).bind fun qr9 => (if qr9.2 = 0 then some (qr9.1, 2, 0) else some (qr9.1, 0, qr5.2)))))
def rm_X2_find : Room := { frames := 18, cells := 1, slots := 6, locals := 440 }
set_option maxRecDepth 100000 in
set_option maxHeartbeats 4000000 in
theorem c_X2_find {l : Launch} {D : va_G} {cA : Nat → ClassId} {ad : Nat → Nat} {lo : Nat} (hA : AdOk lo ad lay0.length) (hst : l.stackTraces = false) {g : Mem} {p1 p2 : Int32} {g1 : Mem} {o : Nat} {r : Int32} (h : m_X2_find g p1 p2 = some (g1, o, r)) : vx_Met l yX2_find wvX2_find rm_X2_find (Px [.ref (ad 0), .int p1, .int p2] D cA ad lo g) (Qt D cA ad lo g1 o (some r)) (Qx D cA ad lo g1 o) 1 6 (fun q => lo ≤ q) := by
  refine startT (cc := cX2_find) (maxL := 4) (ret := (some .int)) (by decide) rfl (Nat.le_of_ble_eq_true rfl) ?_
  intro p e s m args below meth c ls S hr hlocks hT hB hl
  obtain ⟨⟨hlo, hP, hK, hN⟩, hX⟩ := hB
  have hS : va_S (fun q => lo ≤ q) s.heap s.heap [] := va_S.rf
  unfold m_X2_find at h
  have S : CallFix p m c cX2_find 4 s args wvX2_find RX2 := S
  have hl : lv_has ls 4 [(0, .ref (ad 0)), (1, .int p1), (2, .int p2)] := hl
  have ck45 : Cond.classLink RX2 41 "java/lang/IllegalArgumentException" ∈ wvX2_find := by decide +kernel
  have ci45 : Cond.initialized "java/lang/IllegalArgumentException" ∈ wvX2_find := by decide +kernel
  have at45 : ∀ w ∈ (vx_atS RX2 45 "java/lang/IllegalArgumentException" exUp).filter goodWord, w ∈ wvX2_find := by decide +kernel
  have ck55 : Cond.classLink RX2 51 "java/lang/IllegalStateException" ∈ wvX2_find := by decide +kernel
  have ci55 : Cond.initialized "java/lang/IllegalStateException" ∈ wvX2_find := by decide +kernel
  have at55 : ∀ w ∈ (vx_atS RX2 55 "java/lang/IllegalStateException" exUp).filter goodWord, w ∈ wvX2_find := by decide +kernel
  have ck115 : Cond.classLink RX2 111 "java/util/NoSuchElementException" ∈ wvX2_find := by decide +kernel
  have ci115 : Cond.initialized "java/util/NoSuchElementException" ∈ wvX2_find := by decide +kernel
  have at115 : ∀ w ∈ (ns_at RX2 115).filter goodWord, w ∈ wvX2_find := by decide +kernel
  obtain ⟨H, hH⟩ : ∃ H, H = s.heap := ⟨_, rfl⟩
  obtain ⟨locs, hlocs⟩ : ∃ z : List Loc, z = [] := ⟨_, rfl⟩
  rw [← hH] at hP
  have hS : va_S (fun q => lo ≤ q) s.heap H locs := by rw [hH, hlocs]; exact hS
  have goal0 : W p l e (rm_X2_find) s m args below meth c H locs 0 0 (vx_MQ below (Qt D cA ad lo g1 o (some r)) (Qx D cA ad lo g1 o) args s 1 6 (fun q => lo ≤ q)) (F0 m 0 ls []) := by
    refine lv_aload_n S.1 S.2.1 dX2_find_0 rfl (lv_at hl 0 rfl) ?_
    refine lv_iload_n S.1 S.2.1 dX2_find_1 rfl (lv_at hl 1 rfl) ?_
    obtain ⟨r1, h_2, h⟩ := bd_some h
    refine k_R (r := r1) (va_runV (As := [.int p1]) (rest := []) S (c_X2_isLoaded h_2) (cwV 1 S.2.2.2.2 vgX2_find_X2_isLoaded rfl rfl rfl (by decide +kernel) ⟨Nat.le_of_ble_eq_true rfl, Nat.le_of_ble_eq_true rfl⟩) ⟨Pw_blind, va_recv hK hP (ci := 2) (q0 := 0) rfl (wld_at (d := dF) rfl), Pw_at hlo hS hP hK hN⟩ rfl rfl hl.1 rfl (lv_room (Nat.le_of_ble_eq_true rfl)) dX2_find_2 ⟨Nat.zero_le _, Nat.zero_le _⟩) ?_
    refine lv_if_eq (tgt := 15) S.1 S.2.1 dX2_find_5 (by decide) (fun hc3 => ?_) (fun hc3 => ?_)
    · rw [if_pos hc3] at h
      exact t_X (n := 1) (text := "no loaded module or no such name") S hl.1 hlocks hT hst hX hP hS (Option.some.inj h) (by decide) rfl (by decide +kernel) ck45 ci45 at45 xw45 xg45 (by decide +kernel) (Nat.le_of_ble_eq_true rfl) (Nat.le_of_ble_eq_true rfl) (Nat.le_of_ble_eq_true rfl) (Nat.le_of_ble_eq_true rfl) dX2_find_15 dX2_find_18 dX2_find_19 dX2_find_21 dX2_find_24
    · rw [if_neg hc3] at h
      refine lv_iload_n S.1 S.2.1 dX2_find_8 rfl (lv_at hl 2 rfl) ?_
      refine k_R (r := (m_X2_isName p2)) (va_runS (As := [.int p2]) (rest := []) S c_X2_isName (va_cwS 1 S.2.2.2.2 vgX2_find_X2_isName rfl rfl rfl (by decide +kernel) ⟨Nat.le_of_ble_eq_true rfl, Nat.le_of_ble_eq_true rfl⟩) ⟨Tr_blind, Tr_at⟩ rfl rfl hl.1 rfl (lv_room (Nat.le_of_ble_eq_true rfl)) dX2_find_9 ⟨Nat.zero_le _, Nat.zero_le _⟩) ?_
      refine lv_if_ne (tgt := 25) S.1 S.2.1 dX2_find_12 (by decide) (fun hc4 => ?_) (fun hc4 => ?_)
      · rw [if_neg hc4] at h
        refine lv_aload_n S.1 S.2.1 dX2_find_25 rfl (lv_at hl 0 rfl) ?_
        refine lv_iload_n S.1 S.2.1 dX2_find_26 rfl (lv_at hl 1 rfl) ?_
        refine lv_iload_n S.1 S.2.1 dX2_find_27 rfl (lv_at hl 2 rfl) ?_
        obtain ⟨⟨g_7, r5⟩, h_6, h⟩ := bd_some h
        dsimp only at h
        refine k_Wi (va_runV (As := [.int p1, .int p2]) (rest := []) S (c_X2_holderSeenFrom hA h_6) (cwV 2 S.2.2.2.2 vgX2_find_X2_holderSeenFrom rfl rfl rfl (by decide +kernel) ⟨Nat.le_of_ble_eq_true rfl, Nat.le_of_ble_eq_true rfl⟩) ⟨Pw_blind, va_recv hK hP (ci := 2) (q0 := 0) rfl (wld_at (d := dF) rfl), Pw_at hlo hS hP hK hN⟩ rfl rfl hl.1 rfl (lv_room (Nat.le_of_ble_eq_true rfl)) dX2_find_28 ⟨Nat.zero_le _, Nat.zero_le _⟩) hS (fun H locs hP hS => ?_)
        refine lv_istore_n (lv' := [(3, .int r5), (0, .ref (ad 0)), (1, .int p1), (2, .int p2)]) S.1 S.2.1 dX2_find_31 rfl hl (by decide) rfl (fun ls hl => ?_)
        refine lv_iload_n S.1 S.2.1 dX2_find_32 rfl (lv_at hl 0 rfl) ?_
        refine lv_iconst (v := (-1)) S.1 S.2.1 dX2_find_33 (by decide) ?_
        refine lv_icmp_ne (tgt := 47) S.1 S.2.1 dX2_find_34 (by decide) (fun hc8 => ?_) (fun hc8 => ?_)
        · rw [if_neg hc8] at h
          refine lv_aload_n S.1 S.2.1 dX2_find_47 rfl (lv_at hl 1 rfl) ?_
          refine lv_iload_n S.1 S.2.1 dX2_find_48 rfl (lv_at hl 0 rfl) ?_
          refine lv_iload_n S.1 S.2.1 dX2_find_49 rfl (lv_at hl 3 rfl) ?_
          obtain ⟨⟨g_11, r9⟩, h_10, h⟩ := bd_some h
          dsimp only at h
          refine k_Wi (va_runV (As := [.int r5, .int p2]) (rest := []) S (c_X2_defineWithAllAbove hA h_10) (cwV 2 S.2.2.2.2 vgX2_find_X2_defineWithAllAbove rfl rfl rfl (by decide +kernel) ⟨Nat.le_of_ble_eq_true rfl, Nat.le_of_ble_eq_true rfl⟩) ⟨Pw_blind, va_recv hK hP (ci := 2) (q0 := 0) rfl (wld_at (d := dF) rfl), Pw_at hlo hS hP hK hN⟩ rfl rfl hl.1 rfl (lv_room (Nat.le_of_ble_eq_true rfl)) dX2_find_50 ⟨Nat.zero_le _, Nat.zero_le _⟩) hS (fun H locs hP hS => ?_)
          refine lv_if_ne (tgt := 66) S.1 S.2.1 dX2_find_53 (by decide) (fun hc12 => ?_) (fun hc12 => ?_)
          · rw [if_neg hc12] at h
            refine lv_iload_n S.1 S.2.1 dX2_find_66 rfl (lv_at hl 0 rfl) ?_
            exact t_W S hr hlocks hP hS (Option.some.inj h) dX2_find_67
          · rw [if_pos hc12] at h
            exact t_X (n := 2) (text := "the class cannot be defined") S hl.1 hlocks hT hst hX hP hS (Option.some.inj h) (by decide) rfl (by decide +kernel) ck55 ci55 at55 xw55 xg55 (by decide +kernel) (Nat.le_of_ble_eq_true rfl) (Nat.le_of_ble_eq_true rfl) (Nat.le_of_ble_eq_true rfl) (Nat.le_of_ble_eq_true rfl) dX2_find_56 dX2_find_59 dX2_find_60 dX2_find_62 dX2_find_65
        · rw [if_pos hc8] at h
          exact t_N (n := 3) (text := "the name is not found") S hl.1 hlocks hT hst hX hP hS (Option.some.inj h) (by decide) rfl (by decide +kernel) ck115 ci115 at115 xw115 xg115 (Nat.le_of_ble_eq_true rfl) (Nat.le_of_ble_eq_true rfl) (Nat.le_of_ble_eq_true rfl) (Nat.le_of_ble_eq_true rfl) dX2_find_37 dX2_find_40 dX2_find_41 dX2_find_43 dX2_find_46
      · rw [if_pos hc4] at h
        exact t_X (n := 1) (text := "no loaded module or no such name") S hl.1 hlocks hT hst hX hP hS (Option.some.inj h) (by decide) rfl (by decide +kernel) ck45 ci45 at45 xw45 xg45 (by decide +kernel) (Nat.le_of_ble_eq_true rfl) (Nat.le_of_ble_eq_true rfl) (Nat.le_of_ble_eq_true rfl) (Nat.le_of_ble_eq_true rfl) dX2_find_15 dX2_find_18 dX2_find_19 dX2_find_21 dX2_find_24
  rw [hH, hlocs] at goal0
  exact goal0
