def m_X2_addExportedRow_56 (rc : Mem → Int32 → Int32 → Int32 → Option Mem) (p1 p2 p3 : Int32) : Nat → Mem → Int32 → Option Mem
  | 0, _, _ => none
  | n + 1, g, x5 => (if (g (kM (p1).toNatClampNeg) 5) ≤ x5 then some g else gi x5 6 ((if (g ((kM (p1).toNatClampNeg) + 3) (x5).toNatClampNeg) = (-1) then (m_X0_hasPath g ((p1).toNatClampNeg) p2).bind fun r11 => (m_X1_addOnceIf g r11 p1).bind fun g_15 => m_X2_addExportedRow_56 rc p1 p2 p3 n (g_15) ((x5 + 1)) else gi x5 6 (gi x5 6 ((if (m_X2_isIn ((g ((kM (p1).toNatClampNeg) + 4) (x5).toNatClampNeg) &&& (g ((kM (p1).toNatClampNeg) + 5) (x5).toNatClampNeg)) p2) = 0 then m_X2_addExportedRow_56 rc p1 p2 p3 n (g) ((x5 + 1)) else gi x5 6 ((rc g (g ((kM (p1).toNatClampNeg) + 3) (x5).toNatClampNeg) p2 (p3 + 1)).bind fun g_10 => m_X2_addExportedRow_56 rc p1 p2 p3 n (g_10) ((x5 + 1)))))))))
def m_X2_addExportedRow : Nat → Mem → Int32 → Int32 → Int32 → Option Mem
  | 0, _, _, _, _ => none
  | d + 1, g, p1, p2, p3 => (if 8 < p3 then some g else (m_X2_isLoaded g p1).bind fun r17 => (if r17 = 0 then some g else (if (m_X2_isIn (g 50 3) p1) = 0 then gi p1 8 (m_X2_addExportedRow_56 (m_X2_addExportedRow d) p1 p2 p3 200 ((mup g 50 3 ((g 50 3) ||| (m_X2_bit p1)))) (0)) else some g)))
def rm_X2_addExportedRow (d : Nat) : Room := { frames := 2 + d, cells := 0, slots := 0, locals := 43 + 25 * d }
set_option maxRecDepth 100000 in
set_option maxHeartbeats 4000000 in
theorem c_X2_addExportedRow {l : Launch} {D : va_G} {cA : Nat → ClassId} {ad : Nat → Nat} {lo : Nat} : ∀ {d : Nat} {g : Mem} {p1 p2 p3 : Int32} {g1 : Mem}, AdOk lo ad lay0.length → m_X2_addExportedRow d g p1 p2 p3 = some g1 → Met l yX2_addExportedRow wsX2_addExportedRow (rm_X2_addExportedRow d) (Pw [.ref (ad 0), .int p1, .int p2, .int p3] D cA ad lo g) (Qw D cA ad lo g1 none) 0 0 (fun q => lo ≤ q) := by
  intro d
  induction d with
  | zero =>
    intro g p1 p2 p3 g1 hA h
    exact nomatch (show none = some g1 from h)
  | succ d ihd =>
  intro g p1 p2 p3 g1 hA h
  have ihd : ∀ {g : Mem} {p1 p2 p3 : Int32} {g1 : Mem}, AdOk lo ad lay0.length → m_X2_addExportedRow d g p1 p2 p3 = some g1 → Met l yX2_addExportedRow wsX2_addExportedRow (rm_X2_addExportedRow d) (Pw [.ref (ad 0), .int p1, .int p2, .int p3] D cA ad lo g) (Qw D cA ad lo g1 none) 0 0 (fun q => lo ≤ q) := @ihd
  refine startW (cc := cX2_addExportedRow) (maxL := 6) (ret := none) (by decide) rfl (Nat.le_of_ble_eq_true rfl) ?_
  intro p e s m args below meth c ls S hr hlocks hB hl
  obtain ⟨hlo, hP, hK, hN⟩ := hB
  have hS : va_S (fun q => lo ≤ q) s.heap s.heap [] := va_S.rf
  rw [m_X2_addExportedRow] at h
  have S : CallFix p m c cX2_addExportedRow 6 s args wsX2_addExportedRow RX2 := S
  have hl : lv_has ls 6 [(0, .ref (ad 0)), (1, .int p1), (2, .int p2), (3, .int p3)] := hl
  have hn0 : ∀ w ∈ wsX00, w ∈ wsX2_addExportedRow := by decide +kernel
  have hn1 : ∀ w ∈ wsX10, w ∈ wsX2_addExportedRow := by decide +kernel
  have hn2 : ∀ w ∈ wsX20, w ∈ wsX2_addExportedRow := by decide +kernel
  have lk11 := S.2.2.2.2 (.fieldLink RX2 11 "FlatLoader" "modules" "[LFlatLoader$OneModule;") (by decide +kernel)
  have lk26 := S.2.2.2.2 (.fieldLink RX2 26 "FlatLoader" "row" "LFlatLoader$Row;") (by decide +kernel)
  have lk88 : va_Nw (.fieldLinkNest RX2 88 "FlatLoader$OneModule" "dependencies" "I" "FlatLoader") s := hN _ (by decide +kernel)
  have lk184 : va_Nw (.fieldLinkNest RX2 184 "FlatLoader$OneModule" "on" "[I" "FlatLoader") s := hN _ (by decide +kernel)
  have lk194 : va_Nw (.fieldLinkNest RX2 194 "FlatLoader$OneModule" "imports" "[I" "FlatLoader") s := hN _ (by decide +kernel)
  have lk201 : va_Nw (.fieldLinkNest RX2 201 "FlatLoader$Row" "begun" "I" "FlatLoader") s := hN _ (by decide +kernel)
  have lk204 : va_Nw (.fieldLinkNest RX2 204 "FlatLoader$OneModule" "exports" "[I" "FlatLoader") s := hN _ (by decide +kernel)
  obtain ⟨H, hH⟩ : ∃ H, H = s.heap := ⟨_, rfl⟩
  obtain ⟨locs, hlocs⟩ : ∃ z : List Loc, z = [] := ⟨_, rfl⟩
  have key56 : ∀ (n : Nat), ∀ (g : Mem) (H : Heap) (locs : List Loc), va_P D vwCl (wld cA ad g lay0) H → va_S (fun q => lo ≤ q) s.heap H locs → ∀ (x5 : Int32), (p1).toNatClampNeg < 8 → ∀ (ls : Array Slot), lv_has ls 6 [(0, .ref (ad 0)), (1, .int p1), (2, .int p2), (3, .int p3), (4, .ref (ad (kM (p1).toNatClampNeg))), (5, .int x5)] → m_X2_addExportedRow_56 (m_X2_addExportedRow d) p1 p2 p3 n g x5 = some g1 → W p l e (rm_X2_addExportedRow (d + 1)) s m args below meth c H locs 0 0 (MQ below (Qw D cA ad lo g1 none) args s 0 0 (fun q => lo ≤ q)) (F0 m 56 ls []) := by
    intro n
    induction n with
    | zero =>
      intro g H locs hP hS x5 hM4 ls hl h
      exact nomatch (show none = some g1 from h)
    | succ n ih =>
      intro g H locs hP hS x5 hM4 ls hl h
      rw [m_X2_addExportedRow_56] at h
      refine lv_iload S.1 S.2.1 dX2_addExportedRow_56 (lv_at hl 5 rfl) ?_
      refine lv_aload S.1 S.2.1 dX2_addExportedRow_58 (lv_at hl 4 rfl) ?_
      refine r_getN (C := RX0) (T := TX0) (N := 8) (ci := 0) (k := (kM (p1).toNatClampNeg)) (j := 5) (fs := (fsM (kM (p1).toNatClampNeg))) (d := none) (v := .int (g (kM (p1).toNatClampNeg) 5)) S hK hP hn0 lk88 rfl (by decide) (lyM hM4) rfl rfl dX2_addExportedRow_60 ?_
      refine lv_icmp_ge (tgt := 141) S.1 S.2.1 dX2_addExportedRow_63 (by decide) (fun hc1 => ?_) (fun hc1 => ?_)
      · rw [if_pos hc1] at h
        exact e_Wv S hr hlocks hP hS (Option.some.inj h) dX2_addExportedRow_141
      · rw [if_neg hc1] at h
        refine lv_aload S.1 S.2.1 dX2_addExportedRow_66 (lv_at hl 4 rfl) ?_
        refine r_getN (C := RX0) (T := TX0) (N := 8) (ci := 0) (k := (kM (p1).toNatClampNeg)) (j := 2) (fs := (fsM (kM (p1).toNatClampNeg))) (d := (some (some ((kM (p1).toNatClampNeg) + 3)))) (v := .ref (ad ((kM (p1).toNatClampNeg) + 3))) S hK hP hn0 lk184 rfl (by decide) (lyM hM4) rfl rfl dX2_addExportedRow_68 ?_
        refine lv_iload S.1 S.2.1 dX2_addExportedRow_71 (lv_at hl 5 rfl) ?_
        obtain ⟨hv2, hv2b, h⟩ := gi_some h
        refine r_ild (k := ((kM (p1).toNatClampNeg) + 3)) (n := 6) S hK hP (lyM3 hM4) hv2 dX2_addExportedRow_73 ?_
        refine lv_iconst (v := (-1)) S.1 S.2.1 dX2_addExportedRow_74 (by decide) ?_
        refine lv_icmp_ne (tgt := 95) S.1 S.2.1 dX2_addExportedRow_75 (by decide) (fun hc3 => ?_) (fun hc3 => ?_)
        · rw [if_neg hc3] at h
          refine lv_aload S.1 S.2.1 dX2_addExportedRow_95 (lv_at hl 4 rfl) ?_
          refine r_getN (C := RX0) (T := TX0) (N := 8) (ci := 0) (k := (kM (p1).toNatClampNeg)) (j := 3) (fs := (fsM (kM (p1).toNatClampNeg))) (d := (some (some ((kM (p1).toNatClampNeg) + 4)))) (v := .ref (ad ((kM (p1).toNatClampNeg) + 4))) S hK hP hn0 lk194 rfl (by decide) (lyM hM4) rfl rfl dX2_addExportedRow_97 ?_
          refine lv_iload S.1 S.2.1 dX2_addExportedRow_100 (lv_at hl 5 rfl) ?_
          obtain ⟨hv4, hv4b, h⟩ := gi_some h
          refine r_ild (k := ((kM (p1).toNatClampNeg) + 4)) (n := 6) S hK hP (lyM4 hM4) hv4 dX2_addExportedRow_102 ?_
          refine lv_aload S.1 S.2.1 dX2_addExportedRow_103 (lv_at hl 4 rfl) ?_
          refine r_getN (C := RX0) (T := TX0) (N := 8) (ci := 0) (k := (kM (p1).toNatClampNeg)) (j := 4) (fs := (fsM (kM (p1).toNatClampNeg))) (d := (some (some ((kM (p1).toNatClampNeg) + 5)))) (v := .ref (ad ((kM (p1).toNatClampNeg) + 5))) S hK hP hn0 lk204 rfl (by decide) (lyM hM4) rfl rfl dX2_addExportedRow_105 ?_
          refine lv_iload S.1 S.2.1 dX2_addExportedRow_108 (lv_at hl 5 rfl) ?_
          obtain ⟨hv5, hv5b, h⟩ := gi_some h
          refine r_ild (k := ((kM (p1).toNatClampNeg) + 5)) (n := 6) S hK hP (lyM5 hM4) hv5 dX2_addExportedRow_110 ?_
          refine lv_iand S.1 S.2.1 dX2_addExportedRow_111 ?_
          refine lv_iload_n S.1 S.2.1 dX2_addExportedRow_112 rfl (lv_at hl 2 rfl) ?_
          refine k_R (r := (m_X2_isIn ((g ((kM (p1).toNatClampNeg) + 4) (x5).toNatClampNeg) &&& (g ((kM (p1).toNatClampNeg) + 5) (x5).toNatClampNeg)) p2)) (va_runS (As := [.int ((g ((kM (p1).toNatClampNeg) + 4) (x5).toNatClampNeg) &&& (g ((kM (p1).toNatClampNeg) + 5) (x5).toNatClampNeg)), .int p2]) (rest := []) S c_X2_isIn (va_cwS 2 S.2.2.2.2 gX2_addExportedRow_X2_isIn rfl rfl rfl (by decide +kernel) ⟨by simp only [rm_X2_addExportedRow, rm_X2_isIn]; omega, by simp only [rm_X2_addExportedRow, rm_X2_isIn]; omega⟩) ⟨Tr_blind, Tr_at⟩ rfl rfl hl.1 rfl (lv_room (Nat.le_of_ble_eq_true rfl)) dX2_addExportedRow_113 ⟨Nat.zero_le _, Nat.zero_le _⟩) ?_
          refine lv_if_eq (tgt := 135) S.1 S.2.1 dX2_addExportedRow_116 (by decide) (fun hc6 => ?_) (fun hc6 => ?_)
          · rw [if_pos hc6] at h
            refine lv_iinc (v := (x5 + 1)) (lv' := [(5, .int (x5 + 1)), (0, .ref (ad 0)), (1, .int p1), (2, .int p2), (3, .int p3), (4, .ref (ad (kM (p1).toNatClampNeg)))]) S.1 S.2.1 dX2_addExportedRow_135 hl (k := 5) rfl rfl (by decide) rfl (fun ls hl => ?_)
            refine lv_goto (tgt := 56) S.1 S.2.1 dX2_addExportedRow_138 (by decide) ?_
            exact ih (g) H locs hP hS ((x5 + 1)) hM4 ls (lv_sub hl [1, 2, 3, 4, 5, 0] rfl) h
          · rw [if_neg hc6] at h
            refine lv_aload_n S.1 S.2.1 dX2_addExportedRow_119 rfl (lv_at hl 0 rfl) ?_
            refine lv_aload S.1 S.2.1 dX2_addExportedRow_120 (lv_at hl 4 rfl) ?_
            refine r_getN (C := RX0) (T := TX0) (N := 8) (ci := 0) (k := (kM (p1).toNatClampNeg)) (j := 2) (fs := (fsM (kM (p1).toNatClampNeg))) (d := (some (some ((kM (p1).toNatClampNeg) + 3)))) (v := .ref (ad ((kM (p1).toNatClampNeg) + 3))) S hK hP hn0 lk184 rfl (by decide) (lyM hM4) rfl rfl dX2_addExportedRow_122 ?_
            refine lv_iload S.1 S.2.1 dX2_addExportedRow_125 (lv_at hl 5 rfl) ?_
            obtain ⟨hv7, hv7b, h⟩ := gi_some h
            refine r_ild (k := ((kM (p1).toNatClampNeg) + 3)) (n := 6) S hK hP (lyM3 hM4) hv7 dX2_addExportedRow_127 ?_
            refine lv_iload_n S.1 S.2.1 dX2_addExportedRow_128 rfl (lv_at hl 2 rfl) ?_
            refine lv_iload_n S.1 S.2.1 dX2_addExportedRow_129 rfl (lv_at hl 3 rfl) ?_
            refine lv_iconst (v := 1) S.1 S.2.1 dX2_addExportedRow_130 (by decide) ?_
            refine lv_iadd S.1 S.2.1 dX2_addExportedRow_131 ?_
            obtain ⟨g_10, h_9, h⟩ := bd_some h
            refine k_Wv (va_runV (As := [.int (g ((kM (p1).toNatClampNeg) + 3) (x5).toNatClampNeg), .int p2, .int (p3 + 1)]) (rest := []) S (ihd hA h_9) (cwV 3 S.2.2.2.2 gX2_addExportedRow_X2_addExportedRow rfl rfl rfl (by decide +kernel) ⟨by simp only [rm_X2_addExportedRow, rm_X2_addExportedRow]; omega, by simp only [rm_X2_addExportedRow, rm_X2_addExportedRow]; omega⟩) ⟨Pw_blind, va_recv hK hP (ci := 2) (q0 := 0) rfl (wld_at (d := dF) rfl), Pw_at hlo hS hP hK hN⟩ rfl rfl hl.1 rfl (lv_room (Nat.le_of_ble_eq_true rfl)) dX2_addExportedRow_132 ⟨Nat.zero_le _, Nat.zero_le _⟩) hS (fun H locs hP hS => ?_)
            refine lv_iinc (v := (x5 + 1)) (lv' := [(5, .int (x5 + 1)), (0, .ref (ad 0)), (1, .int p1), (2, .int p2), (3, .int p3), (4, .ref (ad (kM (p1).toNatClampNeg)))]) S.1 S.2.1 dX2_addExportedRow_135 hl (k := 5) rfl rfl (by decide) rfl (fun ls hl => ?_)
            refine lv_goto (tgt := 56) S.1 S.2.1 dX2_addExportedRow_138 (by decide) ?_
            exact ih (g_10) H locs hP hS ((x5 + 1)) hM4 ls (lv_sub hl [1, 2, 3, 4, 5, 0] rfl) h
        · rw [if_pos hc3] at h
          refine lv_aload_n S.1 S.2.1 dX2_addExportedRow_78 rfl (lv_at hl 0 rfl) ?_
          refine r_get (C := RX2) (T := TX2) (N := 6) (ci := 2) (k := 0) (j := 3) (fs := fsF) (d := (some (some 50))) (v := .ref (ad 50)) S hK hP hn2 lk26 rfl (by decide) rfl rfl rfl dX2_addExportedRow_79 ?_
          refine lv_aload S.1 S.2.1 dX2_addExportedRow_82 (lv_at hl 4 rfl) ?_
          refine lv_iload_n S.1 S.2.1 dX2_addExportedRow_84 rfl (lv_at hl 2 rfl) ?_
          obtain ⟨r11, h_12, h⟩ := bd_some h
          refine k_R (r := r11) (va_runVN (C := RX0) (As := [.int p2]) (rest := [.ref (ad 50)]) S (c_X0_hasPath hM4 h_12) ⟨va_cnB 1 S.2.2.2.2 gX2_addExportedRow_X0_hasPath_n187 rfl rfl rfl (hN (.methodLinkNest RX2 187 yX0_hasPath "FlatLoader") (by decide +kernel)) (S.2.2.2.2 (.initialized RX0) (by decide +kernel)) (by decide +kernel) ⟨by simp only [rm_X2_addExportedRow, rm_X0_hasPath]; omega, by simp only [rm_X2_addExportedRow, rm_X0_hasPath]; omega⟩, S.2.2.2.2 (.instanceMethod yX0_hasPath) (by decide +kernel), S.2.2.2.2 (.selects RX0 yX0_hasPath yX0_hasPath) (by decide +kernel)⟩ ⟨Pw_blind, va_recv hK hP (ci := 0) (q0 := (kM (p1).toNatClampNeg)) rfl (wld_at (d := dM (kM (p1).toNatClampNeg)) (lyM hM4)), Pw_at hlo hS hP hK hN⟩ rfl rfl hl.1 rfl (lv_room (Nat.le_of_ble_eq_true rfl)) dX2_addExportedRow_85 ⟨Nat.zero_le _, Nat.zero_le _⟩) ?_
          refine lv_iload_n S.1 S.2.1 dX2_addExportedRow_88 rfl (lv_at hl 1 rfl) ?_
          obtain ⟨g_15, h_14, h⟩ := bd_some h
          refine k_Wv (va_runVN (C := RX1) (As := [.int r11, .int p1]) (rest := []) S (c_X1_addOnceIf hA h_14) ⟨va_cnB 2 S.2.2.2.2 gX2_addExportedRow_X1_addOnceIf_n190 rfl rfl rfl (hN (.methodLinkNest RX2 190 yX1_addOnceIf "FlatLoader") (by decide +kernel)) (S.2.2.2.2 (.initialized RX1) (by decide +kernel)) (by decide +kernel) ⟨by simp only [rm_X2_addExportedRow, rm_X1_addOnceIf]; omega, by simp only [rm_X2_addExportedRow, rm_X1_addOnceIf]; omega⟩, S.2.2.2.2 (.instanceMethod yX1_addOnceIf) (by decide +kernel), S.2.2.2.2 (.selects RX1 yX1_addOnceIf yX1_addOnceIf) (by decide +kernel)⟩ ⟨Pw_blind, va_recv hK hP (ci := 1) (q0 := 50) rfl (wld_at (d := dR) rfl), Pw_at hlo hS hP hK hN⟩ rfl rfl hl.1 rfl (lv_room (Nat.le_of_ble_eq_true rfl)) dX2_addExportedRow_89 ⟨Nat.zero_le _, Nat.zero_le _⟩) hS (fun H locs hP hS => ?_)
          refine lv_goto (tgt := 135) S.1 S.2.1 dX2_addExportedRow_92 (by decide) ?_
          refine lv_iinc (v := (x5 + 1)) (lv' := [(5, .int (x5 + 1)), (0, .ref (ad 0)), (1, .int p1), (2, .int p2), (3, .int p3), (4, .ref (ad (kM (p1).toNatClampNeg)))]) S.1 S.2.1 dX2_addExportedRow_135 hl (k := 5) rfl rfl (by decide) rfl (fun ls hl => ?_)
          refine lv_goto (tgt := 56) S.1 S.2.1 dX2_addExportedRow_138 (by decide) ?_
          exact ih (g_15) H locs hP hS ((x5 + 1)) hM4 ls (lv_sub hl [1, 2, 3, 4, 5, 0] rfl) h
  rw [← hH] at hP
  have hS : va_S (fun q => lo ≤ q) s.heap H locs := by rw [hH, hlocs]; exact hS
  have goal0 : W p l e (rm_X2_addExportedRow (d + 1)) s m args below meth c H locs 0 0 (MQ below (Qw D cA ad lo g1 none) args s 0 0 (fun q => lo ≤ q)) (F0 m 0 ls []) := by
    refine lv_iload_n S.1 S.2.1 dX2_addExportedRow_0 rfl (lv_at hl 3 rfl) ?_
    refine lv_bipush (v := 8) S.1 S.2.1 dX2_addExportedRow_1 (by decide) ?_
    refine lv_icmp_gt (tgt := 28) S.1 S.2.1 dX2_addExportedRow_3 (by decide) (fun hc16 => ?_) (fun hc16 => ?_)
    · rw [if_pos hc16] at h
      exact e_Wv S hr hlocks hP hS (Option.some.inj h) dX2_addExportedRow_28
    · rw [if_neg hc16] at h
      refine lv_aload_n S.1 S.2.1 dX2_addExportedRow_6 rfl (lv_at hl 0 rfl) ?_
      refine lv_iload_n S.1 S.2.1 dX2_addExportedRow_7 rfl (lv_at hl 1 rfl) ?_
      obtain ⟨r17, h_18, h⟩ := bd_some h
      refine k_R (r := r17) (va_runV (As := [.int p1]) (rest := []) S (c_X2_isLoaded h_18) (cwV 1 S.2.2.2.2 gX2_addExportedRow_X2_isLoaded rfl rfl rfl (by decide +kernel) ⟨by simp only [rm_X2_addExportedRow, rm_X2_isLoaded]; omega, by simp only [rm_X2_addExportedRow, rm_X2_isLoaded]; omega⟩) ⟨Pw_blind, va_recv hK hP (ci := 2) (q0 := 0) rfl (wld_at (d := dF) rfl), Pw_at hlo hS hP hK hN⟩ rfl rfl hl.1 rfl (lv_room (Nat.le_of_ble_eq_true rfl)) dX2_addExportedRow_8 ⟨Nat.zero_le _, Nat.zero_le _⟩) ?_
      refine lv_if_eq (tgt := 28) S.1 S.2.1 dX2_addExportedRow_11 (by decide) (fun hc19 => ?_) (fun hc19 => ?_)
      · rw [if_pos hc19] at h
        exact e_Wv S hr hlocks hP hS (Option.some.inj h) dX2_addExportedRow_28
      · rw [if_neg hc19] at h
        refine lv_aload_n S.1 S.2.1 dX2_addExportedRow_14 rfl (lv_at hl 0 rfl) ?_
        refine r_get (C := RX2) (T := TX2) (N := 6) (ci := 2) (k := 0) (j := 3) (fs := fsF) (d := (some (some 50))) (v := .ref (ad 50)) S hK hP hn2 lk26 rfl (by decide) rfl rfl rfl dX2_addExportedRow_15 ?_
        refine r_getN (C := RX1) (T := TX1) (N := 4) (ci := 1) (k := 50) (j := 3) (fs := fsR) (d := none) (v := .int (g 50 3)) S hK hP hn1 lk201 rfl (by decide) rfl rfl rfl dX2_addExportedRow_18 ?_
        refine lv_iload_n S.1 S.2.1 dX2_addExportedRow_21 rfl (lv_at hl 1 rfl) ?_
        refine k_R (r := (m_X2_isIn (g 50 3) p1)) (va_runS (As := [.int (g 50 3), .int p1]) (rest := []) S c_X2_isIn (va_cwS 2 S.2.2.2.2 gX2_addExportedRow_X2_isIn rfl rfl rfl (by decide +kernel) ⟨by simp only [rm_X2_addExportedRow, rm_X2_isIn]; omega, by simp only [rm_X2_addExportedRow, rm_X2_isIn]; omega⟩) ⟨Tr_blind, Tr_at⟩ rfl rfl hl.1 rfl (lv_room (Nat.le_of_ble_eq_true rfl)) dX2_addExportedRow_22 ⟨Nat.zero_le _, Nat.zero_le _⟩) ?_
        refine lv_if_eq (tgt := 29) S.1 S.2.1 dX2_addExportedRow_25 (by decide) (fun hc20 => ?_) (fun hc20 => ?_)
        · rw [if_pos hc20] at h
          refine lv_aload_n S.1 S.2.1 dX2_addExportedRow_29 rfl (lv_at hl 0 rfl) ?_
          refine r_get (C := RX2) (T := TX2) (N := 6) (ci := 2) (k := 0) (j := 3) (fs := fsF) (d := (some (some 50))) (v := .ref (ad 50)) S hK hP hn2 lk26 rfl (by decide) rfl rfl rfl dX2_addExportedRow_30 ?_
          refine lv_dup S.1 S.2.1 dX2_addExportedRow_33 rfl ?_
          refine r_getN (C := RX1) (T := TX1) (N := 4) (ci := 1) (k := 50) (j := 3) (fs := fsR) (d := none) (v := .int (g 50 3)) S hK hP hn1 lk201 rfl (by decide) rfl rfl rfl dX2_addExportedRow_34 ?_
          refine lv_iload_n S.1 S.2.1 dX2_addExportedRow_37 rfl (lv_at hl 1 rfl) ?_
          refine k_R (r := (m_X2_bit p1)) (va_runS (As := [.int p1]) (rest := [.int (g 50 3), .ref (ad 50)]) S c_X2_bit (va_cwS 1 S.2.2.2.2 gX2_addExportedRow_X2_bit rfl rfl rfl (by decide +kernel) ⟨by simp only [rm_X2_addExportedRow, rm_X2_bit]; omega, by simp only [rm_X2_addExportedRow, rm_X2_bit]; omega⟩) ⟨Tr_blind, Tr_at⟩ rfl rfl hl.1 rfl (lv_room (Nat.le_of_ble_eq_true rfl)) dX2_addExportedRow_38 ⟨Nat.zero_le _, Nat.zero_le _⟩) ?_
          refine lv_ior S.1 S.2.1 dX2_addExportedRow_41 ?_
          refine r_putN (C := RX1) (T := TX1) (N := 4) (ci := 1) (k := 50) (j := 3) (fs := fsR) (v := ((g 50 3) ||| (m_X2_bit p1))) tyX1 tyX1_ok nmX1 S hA hK hP hS hn1 lk201 rfl (by decide) rfl (by decide +kernel) rfl rfl dX2_addExportedRow_42 (fun H locs hP hS => ?_)
          refine lv_aload_n S.1 S.2.1 dX2_addExportedRow_45 rfl (lv_at hl 0 rfl) ?_
          refine r_get (C := RX2) (T := TX2) (N := 6) (ci := 2) (k := 0) (j := 0) (fs := fsF) (d := (some (some 1))) (v := .ref (ad 1)) S hK hP hn2 lk11 rfl (by decide) rfl rfl rfl dX2_addExportedRow_46 ?_
          refine lv_iload_n S.1 S.2.1 dX2_addExportedRow_49 rfl (lv_at hl 1 rfl) ?_
          obtain ⟨hv21, hv21b, h⟩ := gi_some h
          refine r_ald S hK hP hv21 dX2_addExportedRow_50 ?_
          have hM4 := hv21b
          refine lv_astore (lv' := [(4, .ref (ad (kM (p1).toNatClampNeg))), (0, .ref (ad 0)), (1, .int p1), (2, .int p2), (3, .int p3)]) S.1 S.2.1 dX2_addExportedRow_51 hl (by decide) rfl (fun ls hl => ?_)
          refine lv_iconst (v := 0) S.1 S.2.1 dX2_addExportedRow_53 (by decide) ?_
          refine lv_istore (lv' := [(5, .int 0), (4, .ref (ad (kM (p1).toNatClampNeg))), (0, .ref (ad 0)), (1, .int p1), (2, .int p2), (3, .int p3)]) S.1 S.2.1 dX2_addExportedRow_54 hl (by decide) rfl (fun ls hl => ?_)
          exact key56 200 ((mup g 50 3 ((g 50 3) ||| (m_X2_bit p1)))) H locs hP hS (0) hM4 ls (lv_sub hl [2, 3, 4, 5, 1, 0] rfl) h
        · rw [if_neg hc20] at h
          exact e_Wv S hr hlocks hP hS (Option.some.inj h) dX2_addExportedRow_28
  rw [hH, hlocs] at goal0
  exact goal0

def m_X2_fillVisibleRow_17 (p1 p2 : Int32) : Nat → Mem → Int32 → Option Mem
  | 0, _, _ => none
  | n + 1, g, x4 => (if (g (kM (p1).toNatClampNeg) 5) ≤ x4 then some g else gi x4 6 ((if (g ((kM (p1).toNatClampNeg) + 3) (x4).toNatClampNeg) = (-1) then (m_X0_hasPath g ((p1).toNatClampNeg) p2).bind fun r10 => (m_X1_addOnceIf g r10 p1).bind fun g_14 => m_X2_fillVisibleRow_17 p1 p2 n (g_14) ((x4 + 1)) else gi x4 6 ((if (m_X2_isIn (g ((kM (p1).toNatClampNeg) + 4) (x4).toNatClampNeg) p2) = 0 then m_X2_fillVisibleRow_17 p1 p2 n (g) ((x4 + 1)) else gi x4 6 ((m_X2_addExportedRow 12 g (g ((kM (p1).toNatClampNeg) + 3) (x4).toNatClampNeg) p2 1).bind fun g_9 => m_X2_fillVisibleRow_17 p1 p2 n (g_9) ((x4 + 1))))))))
def m_X2_fillVisibleRow (g : Mem) (p1 p2 : Int32) : Option Mem := (m_X1_clear g).bind fun g_17 => gi p1 8 (m_X2_fillVisibleRow_17 p1 p2 200 (g_17) (0))
def rm_X2_fillVisibleRow : Room := { frames := 15, cells := 0, slots := 0, locals := 368 }
set_option maxRecDepth 100000 in
set_option maxHeartbeats 4000000 in
theorem c_X2_fillVisibleRow {l : Launch} {D : va_G} {cA : Nat → ClassId} {ad : Nat → Nat} {lo : Nat} (hA : AdOk lo ad lay0.length) {g : Mem} {p1 p2 : Int32} {g1 : Mem} (h : m_X2_fillVisibleRow g p1 p2 = some g1) : Met l yX2_fillVisibleRow wsX2_fillVisibleRow rm_X2_fillVisibleRow (Pw [.ref (ad 0), .int p1, .int p2] D cA ad lo g) (Qw D cA ad lo g1 none) 0 0 (fun q => lo ≤ q) := by
  refine startW (cc := cX2_fillVisibleRow) (maxL := 5) (ret := none) (by decide) rfl (Nat.le_of_ble_eq_true rfl) ?_
  intro p e s m args below meth c ls S hr hlocks hB hl
  obtain ⟨hlo, hP, hK, hN⟩ := hB
  have hS : va_S (fun q => lo ≤ q) s.heap s.heap [] := va_S.rf
  unfold m_X2_fillVisibleRow at h
  have S : CallFix p m c cX2_fillVisibleRow 5 s args wsX2_fillVisibleRow RX2 := S
  have hl : lv_has ls 5 [(0, .ref (ad 0)), (1, .int p1), (2, .int p2)] := hl
  have hn0 : ∀ w ∈ wsX00, w ∈ wsX2_fillVisibleRow := by decide +kernel
  have hn2 : ∀ w ∈ wsX20, w ∈ wsX2_fillVisibleRow := by decide +kernel
  have lk11 := S.2.2.2.2 (.fieldLink RX2 11 "FlatLoader" "modules" "[LFlatLoader$OneModule;") (by decide +kernel)
  have lk26 := S.2.2.2.2 (.fieldLink RX2 26 "FlatLoader" "row" "LFlatLoader$Row;") (by decide +kernel)
  have lk88 : va_Nw (.fieldLinkNest RX2 88 "FlatLoader$OneModule" "dependencies" "I" "FlatLoader") s := hN _ (by decide +kernel)
  have lk184 : va_Nw (.fieldLinkNest RX2 184 "FlatLoader$OneModule" "on" "[I" "FlatLoader") s := hN _ (by decide +kernel)
  have lk194 : va_Nw (.fieldLinkNest RX2 194 "FlatLoader$OneModule" "imports" "[I" "FlatLoader") s := hN _ (by decide +kernel)
  obtain ⟨H, hH⟩ : ∃ H, H = s.heap := ⟨_, rfl⟩
  obtain ⟨locs, hlocs⟩ : ∃ z : List Loc, z = [] := ⟨_, rfl⟩
  have key17 : ∀ (n : Nat), ∀ (g : Mem) (H : Heap) (locs : List Loc), va_P D vwCl (wld cA ad g lay0) H → va_S (fun q => lo ≤ q) s.heap H locs → ∀ (x4 : Int32), (p1).toNatClampNeg < 8 → ∀ (ls : Array Slot), lv_has ls 5 [(0, .ref (ad 0)), (1, .int p1), (2, .int p2), (3, .ref (ad (kM (p1).toNatClampNeg))), (4, .int x4)] → m_X2_fillVisibleRow_17 p1 p2 n g x4 = some g1 → W p l e (rm_X2_fillVisibleRow) s m args below meth c H locs 0 0 (MQ below (Qw D cA ad lo g1 none) args s 0 0 (fun q => lo ≤ q)) (F0 m 17 ls []) := by
    intro n
    induction n with
    | zero =>
      intro g H locs hP hS x4 hM3 ls hl h
      exact nomatch (show none = some g1 from h)
    | succ n ih =>
      intro g H locs hP hS x4 hM3 ls hl h
      rw [m_X2_fillVisibleRow_17] at h
      refine lv_iload S.1 S.2.1 dX2_fillVisibleRow_17 (lv_at hl 4 rfl) ?_
      refine lv_aload_n S.1 S.2.1 dX2_fillVisibleRow_19 rfl (lv_at hl 3 rfl) ?_
      refine r_getN (C := RX0) (T := TX0) (N := 8) (ci := 0) (k := (kM (p1).toNatClampNeg)) (j := 5) (fs := (fsM (kM (p1).toNatClampNeg))) (d := none) (v := .int (g (kM (p1).toNatClampNeg) 5)) S hK hP hn0 lk88 rfl (by decide) (lyM hM3) rfl rfl dX2_fillVisibleRow_20 ?_
      refine lv_icmp_ge (tgt := 86) S.1 S.2.1 dX2_fillVisibleRow_23 (by decide) (fun hc1 => ?_) (fun hc1 => ?_)
      · rw [if_pos hc1] at h
        exact e_Wv S hr hlocks hP hS (Option.some.inj h) dX2_fillVisibleRow_86
      · rw [if_neg hc1] at h
        refine lv_aload_n S.1 S.2.1 dX2_fillVisibleRow_26 rfl (lv_at hl 3 rfl) ?_
        refine r_getN (C := RX0) (T := TX0) (N := 8) (ci := 0) (k := (kM (p1).toNatClampNeg)) (j := 2) (fs := (fsM (kM (p1).toNatClampNeg))) (d := (some (some ((kM (p1).toNatClampNeg) + 3)))) (v := .ref (ad ((kM (p1).toNatClampNeg) + 3))) S hK hP hn0 lk184 rfl (by decide) (lyM hM3) rfl rfl dX2_fillVisibleRow_27 ?_
        refine lv_iload S.1 S.2.1 dX2_fillVisibleRow_30 (lv_at hl 4 rfl) ?_
        obtain ⟨hv2, hv2b, h⟩ := gi_some h
        refine r_ild (k := ((kM (p1).toNatClampNeg) + 3)) (n := 6) S hK hP (lyM3 hM3) hv2 dX2_fillVisibleRow_32 ?_
        refine lv_iconst (v := (-1)) S.1 S.2.1 dX2_fillVisibleRow_33 (by decide) ?_
        refine lv_icmp_ne (tgt := 53) S.1 S.2.1 dX2_fillVisibleRow_34 (by decide) (fun hc3 => ?_) (fun hc3 => ?_)
        · rw [if_neg hc3] at h
          refine lv_aload_n S.1 S.2.1 dX2_fillVisibleRow_53 rfl (lv_at hl 3 rfl) ?_
          refine r_getN (C := RX0) (T := TX0) (N := 8) (ci := 0) (k := (kM (p1).toNatClampNeg)) (j := 3) (fs := (fsM (kM (p1).toNatClampNeg))) (d := (some (some ((kM (p1).toNatClampNeg) + 4)))) (v := .ref (ad ((kM (p1).toNatClampNeg) + 4))) S hK hP hn0 lk194 rfl (by decide) (lyM hM3) rfl rfl dX2_fillVisibleRow_54 ?_
          refine lv_iload S.1 S.2.1 dX2_fillVisibleRow_57 (lv_at hl 4 rfl) ?_
          obtain ⟨hv4, hv4b, h⟩ := gi_some h
          refine r_ild (k := ((kM (p1).toNatClampNeg) + 4)) (n := 6) S hK hP (lyM4 hM3) hv4 dX2_fillVisibleRow_59 ?_
          refine lv_iload_n S.1 S.2.1 dX2_fillVisibleRow_60 rfl (lv_at hl 2 rfl) ?_
          refine k_R (r := (m_X2_isIn (g ((kM (p1).toNatClampNeg) + 4) (x4).toNatClampNeg) p2)) (va_runS (As := [.int (g ((kM (p1).toNatClampNeg) + 4) (x4).toNatClampNeg), .int p2]) (rest := []) S c_X2_isIn (va_cwS 2 S.2.2.2.2 gX2_fillVisibleRow_X2_isIn rfl rfl rfl (by decide +kernel) ⟨Nat.le_of_ble_eq_true rfl, Nat.le_of_ble_eq_true rfl⟩) ⟨Tr_blind, Tr_at⟩ rfl rfl hl.1 rfl (lv_room (Nat.le_of_ble_eq_true rfl)) dX2_fillVisibleRow_61 ⟨Nat.zero_le _, Nat.zero_le _⟩) ?_
          refine lv_if_eq (tgt := 80) S.1 S.2.1 dX2_fillVisibleRow_64 (by decide) (fun hc5 => ?_) (fun hc5 => ?_)
          · rw [if_pos hc5] at h
            refine lv_iinc (v := (x4 + 1)) (lv' := [(4, .int (x4 + 1)), (0, .ref (ad 0)), (1, .int p1), (2, .int p2), (3, .ref (ad (kM (p1).toNatClampNeg)))]) S.1 S.2.1 dX2_fillVisibleRow_80 hl (k := 4) rfl rfl (by decide) rfl (fun ls hl => ?_)
            refine lv_goto (tgt := 17) S.1 S.2.1 dX2_fillVisibleRow_83 (by decide) ?_
            exact ih (g) H locs hP hS ((x4 + 1)) hM3 ls (lv_sub hl [1, 2, 3, 4, 0] rfl) h
          · rw [if_neg hc5] at h
            refine lv_aload_n S.1 S.2.1 dX2_fillVisibleRow_67 rfl (lv_at hl 0 rfl) ?_
            refine lv_aload_n S.1 S.2.1 dX2_fillVisibleRow_68 rfl (lv_at hl 3 rfl) ?_
            refine r_getN (C := RX0) (T := TX0) (N := 8) (ci := 0) (k := (kM (p1).toNatClampNeg)) (j := 2) (fs := (fsM (kM (p1).toNatClampNeg))) (d := (some (some ((kM (p1).toNatClampNeg) + 3)))) (v := .ref (ad ((kM (p1).toNatClampNeg) + 3))) S hK hP hn0 lk184 rfl (by decide) (lyM hM3) rfl rfl dX2_fillVisibleRow_69 ?_
            refine lv_iload S.1 S.2.1 dX2_fillVisibleRow_72 (lv_at hl 4 rfl) ?_
            obtain ⟨hv6, hv6b, h⟩ := gi_some h
            refine r_ild (k := ((kM (p1).toNatClampNeg) + 3)) (n := 6) S hK hP (lyM3 hM3) hv6 dX2_fillVisibleRow_74 ?_
            refine lv_iload_n S.1 S.2.1 dX2_fillVisibleRow_75 rfl (lv_at hl 2 rfl) ?_
            refine lv_iconst (v := 1) S.1 S.2.1 dX2_fillVisibleRow_76 (by decide) ?_
            obtain ⟨g_9, h_8, h⟩ := bd_some h
            refine k_Wv (va_runV (As := [.int (g ((kM (p1).toNatClampNeg) + 3) (x4).toNatClampNeg), .int p2, .int 1]) (rest := []) S (c_X2_addExportedRow (d := 12) hA h_8) (cwV 3 S.2.2.2.2 gX2_fillVisibleRow_X2_addExportedRow rfl rfl rfl (by decide +kernel) ⟨Nat.le_of_ble_eq_true rfl, Nat.le_of_ble_eq_true rfl⟩) ⟨Pw_blind, va_recv hK hP (ci := 2) (q0 := 0) rfl (wld_at (d := dF) rfl), Pw_at hlo hS hP hK hN⟩ rfl rfl hl.1 rfl (lv_room (Nat.le_of_ble_eq_true rfl)) dX2_fillVisibleRow_77 ⟨Nat.zero_le _, Nat.zero_le _⟩) hS (fun H locs hP hS => ?_)
            refine lv_iinc (v := (x4 + 1)) (lv' := [(4, .int (x4 + 1)), (0, .ref (ad 0)), (1, .int p1), (2, .int p2), (3, .ref (ad (kM (p1).toNatClampNeg)))]) S.1 S.2.1 dX2_fillVisibleRow_80 hl (k := 4) rfl rfl (by decide) rfl (fun ls hl => ?_)
            refine lv_goto (tgt := 17) S.1 S.2.1 dX2_fillVisibleRow_83 (by decide) ?_
            exact ih (g_9) H locs hP hS ((x4 + 1)) hM3 ls (lv_sub hl [1, 2, 3, 4, 0] rfl) h
        · rw [if_pos hc3] at h
          refine lv_aload_n S.1 S.2.1 dX2_fillVisibleRow_37 rfl (lv_at hl 0 rfl) ?_
          refine r_get (C := RX2) (T := TX2) (N := 6) (ci := 2) (k := 0) (j := 3) (fs := fsF) (d := (some (some 50))) (v := .ref (ad 50)) S hK hP hn2 lk26 rfl (by decide) rfl rfl rfl dX2_fillVisibleRow_38 ?_
          refine lv_aload_n S.1 S.2.1 dX2_fillVisibleRow_41 rfl (lv_at hl 3 rfl) ?_
          refine lv_iload_n S.1 S.2.1 dX2_fillVisibleRow_42 rfl (lv_at hl 2 rfl) ?_
          obtain ⟨r10, h_11, h⟩ := bd_some h
          refine k_R (r := r10) (va_runVN (C := RX0) (As := [.int p2]) (rest := [.ref (ad 50)]) S (c_X0_hasPath hM3 h_11) ⟨va_cnB 1 S.2.2.2.2 gX2_fillVisibleRow_X0_hasPath_n187 rfl rfl rfl (hN (.methodLinkNest RX2 187 yX0_hasPath "FlatLoader") (by decide +kernel)) (S.2.2.2.2 (.initialized RX0) (by decide +kernel)) (by decide +kernel) ⟨Nat.le_of_ble_eq_true rfl, Nat.le_of_ble_eq_true rfl⟩, S.2.2.2.2 (.instanceMethod yX0_hasPath) (by decide +kernel), S.2.2.2.2 (.selects RX0 yX0_hasPath yX0_hasPath) (by decide +kernel)⟩ ⟨Pw_blind, va_recv hK hP (ci := 0) (q0 := (kM (p1).toNatClampNeg)) rfl (wld_at (d := dM (kM (p1).toNatClampNeg)) (lyM hM3)), Pw_at hlo hS hP hK hN⟩ rfl rfl hl.1 rfl (lv_room (Nat.le_of_ble_eq_true rfl)) dX2_fillVisibleRow_43 ⟨Nat.zero_le _, Nat.zero_le _⟩) ?_
          refine lv_iload_n S.1 S.2.1 dX2_fillVisibleRow_46 rfl (lv_at hl 1 rfl) ?_
          obtain ⟨g_14, h_13, h⟩ := bd_some h
          refine k_Wv (va_runVN (C := RX1) (As := [.int r10, .int p1]) (rest := []) S (c_X1_addOnceIf hA h_13) ⟨va_cnB 2 S.2.2.2.2 gX2_fillVisibleRow_X1_addOnceIf_n190 rfl rfl rfl (hN (.methodLinkNest RX2 190 yX1_addOnceIf "FlatLoader") (by decide +kernel)) (S.2.2.2.2 (.initialized RX1) (by decide +kernel)) (by decide +kernel) ⟨Nat.le_of_ble_eq_true rfl, Nat.le_of_ble_eq_true rfl⟩, S.2.2.2.2 (.instanceMethod yX1_addOnceIf) (by decide +kernel), S.2.2.2.2 (.selects RX1 yX1_addOnceIf yX1_addOnceIf) (by decide +kernel)⟩ ⟨Pw_blind, va_recv hK hP (ci := 1) (q0 := 50) rfl (wld_at (d := dR) rfl), Pw_at hlo hS hP hK hN⟩ rfl rfl hl.1 rfl (lv_room (Nat.le_of_ble_eq_true rfl)) dX2_fillVisibleRow_47 ⟨Nat.zero_le _, Nat.zero_le _⟩) hS (fun H locs hP hS => ?_)
          refine lv_goto (tgt := 80) S.1 S.2.1 dX2_fillVisibleRow_50 (by decide) ?_
          refine lv_iinc (v := (x4 + 1)) (lv' := [(4, .int (x4 + 1)), (0, .ref (ad 0)), (1, .int p1), (2, .int p2), (3, .ref (ad (kM (p1).toNatClampNeg)))]) S.1 S.2.1 dX2_fillVisibleRow_80 hl (k := 4) rfl rfl (by decide) rfl (fun ls hl => ?_)
          refine lv_goto (tgt := 17) S.1 S.2.1 dX2_fillVisibleRow_83 (by decide) ?_
          exact ih (g_14) H locs hP hS ((x4 + 1)) hM3 ls (lv_sub hl [1, 2, 3, 4, 0] rfl) h
  rw [← hH] at hP
  have hS : va_S (fun q => lo ≤ q) s.heap H locs := by rw [hH, hlocs]; exact hS
  have goal0 : W p l e (rm_X2_fillVisibleRow) s m args below meth c H locs 0 0 (MQ below (Qw D cA ad lo g1 none) args s 0 0 (fun q => lo ≤ q)) (F0 m 0 ls []) := by
    refine lv_aload_n S.1 S.2.1 dX2_fillVisibleRow_0 rfl (lv_at hl 0 rfl) ?_
    refine r_get (C := RX2) (T := TX2) (N := 6) (ci := 2) (k := 0) (j := 3) (fs := fsF) (d := (some (some 50))) (v := .ref (ad 50)) S hK hP hn2 lk26 rfl (by decide) rfl rfl rfl dX2_fillVisibleRow_1 ?_
    obtain ⟨g_17, h_16, h⟩ := bd_some h
    refine k_Wv (va_runVN (C := RX1) (As := []) (rest := []) S (c_X1_clear hA h_16) ⟨va_cnB 0 S.2.2.2.2 gX2_fillVisibleRow_X1_clear_n181 rfl rfl rfl (hN (.methodLinkNest RX2 181 yX1_clear "FlatLoader") (by decide +kernel)) (S.2.2.2.2 (.initialized RX1) (by decide +kernel)) (by decide +kernel) ⟨Nat.le_of_ble_eq_true rfl, Nat.le_of_ble_eq_true rfl⟩, S.2.2.2.2 (.instanceMethod yX1_clear) (by decide +kernel), S.2.2.2.2 (.selects RX1 yX1_clear yX1_clear) (by decide +kernel)⟩ ⟨Pw_blind, va_recv hK hP (ci := 1) (q0 := 50) rfl (wld_at (d := dR) rfl), Pw_at hlo hS hP hK hN⟩ rfl rfl hl.1 rfl (lv_room (Nat.le_of_ble_eq_true rfl)) dX2_fillVisibleRow_4 ⟨Nat.zero_le _, Nat.zero_le _⟩) hS (fun H locs hP hS => ?_)
    refine lv_aload_n S.1 S.2.1 dX2_fillVisibleRow_7 rfl (lv_at hl 0 rfl) ?_
    refine r_get (C := RX2) (T := TX2) (N := 6) (ci := 2) (k := 0) (j := 0) (fs := fsF) (d := (some (some 1))) (v := .ref (ad 1)) S hK hP hn2 lk11 rfl (by decide) rfl rfl rfl dX2_fillVisibleRow_8 ?_
    refine lv_iload_n S.1 S.2.1 dX2_fillVisibleRow_11 rfl (lv_at hl 1 rfl) ?_
    obtain ⟨hv18, hv18b, h⟩ := gi_some h
    refine r_ald S hK hP hv18 dX2_fillVisibleRow_12 ?_
    have hM3 := hv18b
    refine lv_astore_n (lv' := [(3, .ref (ad (kM (p1).toNatClampNeg))), (0, .ref (ad 0)), (1, .int p1), (2, .int p2)]) S.1 S.2.1 dX2_fillVisibleRow_13 rfl hl (by decide) rfl (fun ls hl => ?_)
    refine lv_iconst (v := 0) S.1 S.2.1 dX2_fillVisibleRow_14 (by decide) ?_
    refine lv_istore (lv' := [(4, .int 0), (3, .ref (ad (kM (p1).toNatClampNeg))), (0, .ref (ad 0)), (1, .int p1), (2, .int p2)]) S.1 S.2.1 dX2_fillVisibleRow_15 hl (by decide) rfl (fun ls hl => ?_)
    exact key17 200 (g_17) H locs hP hS (0) hM3 ls (lv_sub hl [2, 3, 4, 1, 0] rfl) h
  rw [hH, hlocs] at goal0
  exact goal0

def m_X2_holderSeenFrom_18 (p1 p2 : Int32) : Nat → Mem → Int32 → Option (Mem × Int32)
  | 0, _, _ => none
  | n + 1, g, x3 => (if (g 50 1) ≤ x3 then some (g, (-1)) else gi x3 8 (gi (g 51 (x3).toNatClampNeg) 8 ((m_X0_holds g (((g 51 (x3).toNatClampNeg)).toNatClampNeg) p2).bind fun r4 => (if r4 = 0 then m_X2_holderSeenFrom_18 p1 p2 n (g) ((x3 + 1)) else gi x3 8 (some (g, (g 51 (x3).toNatClampNeg)))))))
def m_X2_holderSeenFrom (g : Mem) (p1 p2 : Int32) : Option (Mem × Int32) := (if 2 ≤ p2 then (m_X2_fillVisibleRow g p1 (p2 / 4)).bind fun g_11 => m_X2_holderSeenFrom_18 p1 p2 200 (g_11) (0) else some (g, 8))
def rm_X2_holderSeenFrom : Room := { frames := 16, cells := 0, slots := 0, locals := 392 }
set_option maxRecDepth 100000 in
set_option maxHeartbeats 4000000 in
theorem c_X2_holderSeenFrom {l : Launch} {D : va_G} {cA : Nat → ClassId} {ad : Nat → Nat} {lo : Nat} (hA : AdOk lo ad lay0.length) {g : Mem} {p1 p2 : Int32} {g1 : Mem} {r : Int32} (h : m_X2_holderSeenFrom g p1 p2 = some (g1, r)) : Met l yX2_holderSeenFrom wsX2_holderSeenFrom rm_X2_holderSeenFrom (Pw [.ref (ad 0), .int p1, .int p2] D cA ad lo g) (Qw D cA ad lo g1 (some r)) 0 0 (fun q => lo ≤ q) := by
  refine startW (cc := cX2_holderSeenFrom) (maxL := 4) (ret := (some .int)) (by decide) rfl (Nat.le_of_ble_eq_true rfl) ?_
  intro p e s m args below meth c ls S hr hlocks hB hl
  obtain ⟨hlo, hP, hK, hN⟩ := hB
  have hS : va_S (fun q => lo ≤ q) s.heap s.heap [] := va_S.rf
  unfold m_X2_holderSeenFrom at h
  have S : CallFix p m c cX2_holderSeenFrom 4 s args wsX2_holderSeenFrom RX2 := S
  have hl : lv_has ls 4 [(0, .ref (ad 0)), (1, .int p1), (2, .int p2)] := hl
  have hn1 : ∀ w ∈ wsX10, w ∈ wsX2_holderSeenFrom := by decide +kernel
  have hn2 : ∀ w ∈ wsX20, w ∈ wsX2_holderSeenFrom := by decide +kernel
  have lk11 := S.2.2.2.2 (.fieldLink RX2 11 "FlatLoader" "modules" "[LFlatLoader$OneModule;") (by decide +kernel)
  have lk26 := S.2.2.2.2 (.fieldLink RX2 26 "FlatLoader" "row" "LFlatLoader$Row;") (by decide +kernel)
  have lk154 : va_Nw (.fieldLinkNest RX2 154 "FlatLoader$Row" "size" "I" "FlatLoader") s := hN _ (by decide +kernel)
  have lk157 : va_Nw (.fieldLinkNest RX2 157 "FlatLoader$Row" "members" "[I" "FlatLoader") s := hN _ (by decide +kernel)
  obtain ⟨H, hH⟩ : ∃ H, H = s.heap := ⟨_, rfl⟩
  obtain ⟨locs, hlocs⟩ : ∃ z : List Loc, z = [] := ⟨_, rfl⟩
  have key18 : ∀ (n : Nat), ∀ (g : Mem) (H : Heap) (locs : List Loc), va_P D vwCl (wld cA ad g lay0) H → va_S (fun q => lo ≤ q) s.heap H locs → ∀ (x3 : Int32), ∀ (ls : Array Slot), lv_has ls 4 [(0, .ref (ad 0)), (1, .int p1), (2, .int p2), (3, .int x3)] → m_X2_holderSeenFrom_18 p1 p2 n g x3 = some (g1, r) → W p l e (rm_X2_holderSeenFrom) s m args below meth c H locs 0 0 (MQ below (Qw D cA ad lo g1 (some r)) args s 0 0 (fun q => lo ≤ q)) (F0 m 18 ls []) := by
    intro n
    induction n with
    | zero =>
      intro g H locs hP hS x3 ls hl h
      exact nomatch (show none = some (g1, r) from h)
    | succ n ih =>
      intro g H locs hP hS x3 ls hl h
      rw [m_X2_holderSeenFrom_18] at h
      refine lv_iload_n S.1 S.2.1 dX2_holderSeenFrom_18 rfl (lv_at hl 3 rfl) ?_
      refine lv_aload_n S.1 S.2.1 dX2_holderSeenFrom_19 rfl (lv_at hl 0 rfl) ?_
      refine r_get (C := RX2) (T := TX2) (N := 6) (ci := 2) (k := 0) (j := 3) (fs := fsF) (d := (some (some 50))) (v := .ref (ad 50)) S hK hP hn2 lk26 rfl (by decide) rfl rfl rfl dX2_holderSeenFrom_20 ?_
      refine r_getN (C := RX1) (T := TX1) (N := 4) (ci := 1) (k := 50) (j := 1) (fs := fsR) (d := none) (v := .int (g 50 1)) S hK hP hn1 lk154 rfl (by decide) rfl rfl rfl dX2_holderSeenFrom_23 ?_
      refine lv_icmp_ge (tgt := 66) S.1 S.2.1 dX2_holderSeenFrom_26 (by decide) (fun hc1 => ?_) (fun hc1 => ?_)
      · rw [if_pos hc1] at h
        refine lv_iconst (v := (-1)) S.1 S.2.1 dX2_holderSeenFrom_66 (by decide) ?_
        exact e_W S hr hlocks hP hS (Option.some.inj h) dX2_holderSeenFrom_67
      · rw [if_neg hc1] at h
        refine lv_aload_n S.1 S.2.1 dX2_holderSeenFrom_29 rfl (lv_at hl 0 rfl) ?_
        refine r_get (C := RX2) (T := TX2) (N := 6) (ci := 2) (k := 0) (j := 0) (fs := fsF) (d := (some (some 1))) (v := .ref (ad 1)) S hK hP hn2 lk11 rfl (by decide) rfl rfl rfl dX2_holderSeenFrom_30 ?_
        refine lv_aload_n S.1 S.2.1 dX2_holderSeenFrom_33 rfl (lv_at hl 0 rfl) ?_
        refine r_get (C := RX2) (T := TX2) (N := 6) (ci := 2) (k := 0) (j := 3) (fs := fsF) (d := (some (some 50))) (v := .ref (ad 50)) S hK hP hn2 lk26 rfl (by decide) rfl rfl rfl dX2_holderSeenFrom_34 ?_
        refine r_getN (C := RX1) (T := TX1) (N := 4) (ci := 1) (k := 50) (j := 0) (fs := fsR) (d := (some (some 51))) (v := .ref (ad 51)) S hK hP hn1 lk157 rfl (by decide) rfl rfl rfl dX2_holderSeenFrom_37 ?_
        refine lv_iload_n S.1 S.2.1 dX2_holderSeenFrom_40 rfl (lv_at hl 3 rfl) ?_
        obtain ⟨hv2, hv2b, h⟩ := gi_some h
        refine r_ild (k := 51) (n := 8) S hK hP rfl hv2 dX2_holderSeenFrom_41 ?_
        obtain ⟨hv3, hv3b, h⟩ := gi_some h
        refine r_ald S hK hP hv3 dX2_holderSeenFrom_42 ?_
        refine lv_iload_n S.1 S.2.1 dX2_holderSeenFrom_43 rfl (lv_at hl 2 rfl) ?_
        obtain ⟨r4, h_5, h⟩ := bd_some h
        refine k_R (r := r4) (va_runVN (C := RX0) (As := [.int p2]) (rest := []) S (c_X0_holds hv3b h_5) ⟨va_cnB 1 S.2.2.2.2 gX2_holderSeenFrom_X0_holds_n71 rfl rfl rfl (hN (.methodLinkNest RX2 71 yX0_holds "FlatLoader") (by decide +kernel)) (S.2.2.2.2 (.initialized RX0) (by decide +kernel)) (by decide +kernel) ⟨Nat.le_of_ble_eq_true rfl, Nat.le_of_ble_eq_true rfl⟩, S.2.2.2.2 (.instanceMethod yX0_holds) (by decide +kernel), S.2.2.2.2 (.selects RX0 yX0_holds yX0_holds) (by decide +kernel)⟩ ⟨Pw_blind, va_recv hK hP (ci := 0) (q0 := (kM ((g 51 (x3).toNatClampNeg)).toNatClampNeg)) rfl (wld_at (d := dM (kM ((g 51 (x3).toNatClampNeg)).toNatClampNeg)) (lyM hv3b)), Pw_at hlo hS hP hK hN⟩ rfl rfl hl.1 rfl (lv_room (Nat.le_of_ble_eq_true rfl)) dX2_holderSeenFrom_44 ⟨Nat.zero_le _, Nat.zero_le _⟩) ?_
        refine lv_if_eq (tgt := 60) S.1 S.2.1 dX2_holderSeenFrom_47 (by decide) (fun hc6 => ?_) (fun hc6 => ?_)
        · rw [if_pos hc6] at h
          refine lv_iinc (v := (x3 + 1)) (lv' := [(3, .int (x3 + 1)), (0, .ref (ad 0)), (1, .int p1), (2, .int p2)]) S.1 S.2.1 dX2_holderSeenFrom_60 hl (k := 3) rfl rfl (by decide) rfl (fun ls hl => ?_)
          refine lv_goto (tgt := 18) S.1 S.2.1 dX2_holderSeenFrom_63 (by decide) ?_
          exact ih (g) H locs hP hS ((x3 + 1)) ls (lv_sub hl [1, 2, 3, 0] rfl) h
        · rw [if_neg hc6] at h
          refine lv_aload_n S.1 S.2.1 dX2_holderSeenFrom_50 rfl (lv_at hl 0 rfl) ?_
          refine r_get (C := RX2) (T := TX2) (N := 6) (ci := 2) (k := 0) (j := 3) (fs := fsF) (d := (some (some 50))) (v := .ref (ad 50)) S hK hP hn2 lk26 rfl (by decide) rfl rfl rfl dX2_holderSeenFrom_51 ?_
          refine r_getN (C := RX1) (T := TX1) (N := 4) (ci := 1) (k := 50) (j := 0) (fs := fsR) (d := (some (some 51))) (v := .ref (ad 51)) S hK hP hn1 lk157 rfl (by decide) rfl rfl rfl dX2_holderSeenFrom_54 ?_
          refine lv_iload_n S.1 S.2.1 dX2_holderSeenFrom_57 rfl (lv_at hl 3 rfl) ?_
          obtain ⟨hv7, hv7b, h⟩ := gi_some h
          refine r_ild (k := 51) (n := 8) S hK hP rfl hv7 dX2_holderSeenFrom_58 ?_
          exact e_W S hr hlocks hP hS (Option.some.inj h) dX2_holderSeenFrom_59
  rw [← hH] at hP
  have hS : va_S (fun q => lo ≤ q) s.heap H locs := by rw [hH, hlocs]; exact hS
  have goal0 : W p l e (rm_X2_holderSeenFrom) s m args below meth c H locs 0 0 (MQ below (Qw D cA ad lo g1 (some r)) args s 0 0 (fun q => lo ≤ q)) (F0 m 0 ls []) := by
    refine lv_iload_n S.1 S.2.1 dX2_holderSeenFrom_0 rfl (lv_at hl 2 rfl) ?_
    refine lv_iconst (v := 2) S.1 S.2.1 dX2_holderSeenFrom_1 (by decide) ?_
    refine lv_icmp_ge (tgt := 8) S.1 S.2.1 dX2_holderSeenFrom_2 (by decide) (fun hc8 => ?_) (fun hc8 => ?_)
    · rw [if_pos hc8] at h
      refine lv_aload_n S.1 S.2.1 dX2_holderSeenFrom_8 rfl (lv_at hl 0 rfl) ?_
      refine lv_iload_n S.1 S.2.1 dX2_holderSeenFrom_9 rfl (lv_at hl 1 rfl) ?_
      refine lv_iload_n S.1 S.2.1 dX2_holderSeenFrom_10 rfl (lv_at hl 2 rfl) ?_
      refine lv_iconst (v := 4) S.1 S.2.1 dX2_holderSeenFrom_11 (by decide) ?_
      refine lv_idiv S.1 S.2.1 dX2_holderSeenFrom_12 (by decide) ?_
      obtain ⟨g_11, h_10, h⟩ := bd_some h
      refine k_Wv (va_runV (As := [.int p1, .int (p2 / 4)]) (rest := []) S (c_X2_fillVisibleRow hA h_10) (cwV 2 S.2.2.2.2 gX2_holderSeenFrom_X2_fillVisibleRow rfl rfl rfl (by decide +kernel) ⟨Nat.le_of_ble_eq_true rfl, Nat.le_of_ble_eq_true rfl⟩) ⟨Pw_blind, va_recv hK hP (ci := 2) (q0 := 0) rfl (wld_at (d := dF) rfl), Pw_at hlo hS hP hK hN⟩ rfl rfl hl.1 rfl (lv_room (Nat.le_of_ble_eq_true rfl)) dX2_holderSeenFrom_13 ⟨Nat.zero_le _, Nat.zero_le _⟩) hS (fun H locs hP hS => ?_)
      refine lv_iconst (v := 0) S.1 S.2.1 dX2_holderSeenFrom_16 (by decide) ?_
      refine lv_istore_n (lv' := [(3, .int 0), (0, .ref (ad 0)), (1, .int p1), (2, .int p2)]) S.1 S.2.1 dX2_holderSeenFrom_17 rfl hl (by decide) rfl (fun ls hl => ?_)
      exact key18 200 (g_11) H locs hP hS (0) ls (lv_sub hl [1, 2, 3, 0] rfl) h
    · rw [if_neg hc8] at h
      refine lv_bipush (v := 8) S.1 S.2.1 dX2_holderSeenFrom_5 (by decide) ?_
      exact e_W S hr hlocks hP hS (Option.some.inj h) dX2_holderSeenFrom_7
  rw [hH, hlocs] at goal0
  exact goal0

def m_X2_visible (g : Mem) (p1 p2 p3 : Int32) : Option (Mem × Int32) := (m_X2_isLoaded g p1).bind fun r1 => (if r1 = 0 then some (g, (-1)) else (if p2 < 0 then some (g, (-1)) else (if p2 < 6 then (m_X2_fillVisibleRow g p1 p2).bind fun g_8 => (if p3 < 0 then some (g_8, (-1)) else (if (g_8 50 1) ≤ p3 then some (g_8, (-1)) else gi p3 8 (some (g_8, (g_8 51 (p3).toNatClampNeg))))) else some (g, (-1)))))
def rm_X2_visible : Room := { frames := 16, cells := 0, slots := 0, locals := 392 }
set_option maxRecDepth 100000 in
set_option maxHeartbeats 4000000 in
theorem c_X2_visible {l : Launch} {D : va_G} {cA : Nat → ClassId} {ad : Nat → Nat} {lo : Nat} (hA : AdOk lo ad lay0.length) {g : Mem} {p1 p2 p3 : Int32} {g1 : Mem} {r : Int32} (h : m_X2_visible g p1 p2 p3 = some (g1, r)) : Met l yX2_visible wsX2_visible rm_X2_visible (Pw [.ref (ad 0), .int p1, .int p2, .int p3] D cA ad lo g) (Qw D cA ad lo g1 (some r)) 0 0 (fun q => lo ≤ q) := by
  refine startW (cc := cX2_visible) (maxL := 4) (ret := (some .int)) (by decide) rfl (Nat.le_of_ble_eq_true rfl) ?_
  intro p e s m args below meth c ls S hr hlocks hB hl
  obtain ⟨hlo, hP, hK, hN⟩ := hB
  have hS : va_S (fun q => lo ≤ q) s.heap s.heap [] := va_S.rf
  unfold m_X2_visible at h
  have S : CallFix p m c cX2_visible 4 s args wsX2_visible RX2 := S
  have hl : lv_has ls 4 [(0, .ref (ad 0)), (1, .int p1), (2, .int p2), (3, .int p3)] := hl
  have hn1 : ∀ w ∈ wsX10, w ∈ wsX2_visible := by decide +kernel
  have hn2 : ∀ w ∈ wsX20, w ∈ wsX2_visible := by decide +kernel
  have lk26 := S.2.2.2.2 (.fieldLink RX2 26 "FlatLoader" "row" "LFlatLoader$Row;") (by decide +kernel)
  have lk154 : va_Nw (.fieldLinkNest RX2 154 "FlatLoader$Row" "size" "I" "FlatLoader") s := hN _ (by decide +kernel)
  have lk157 : va_Nw (.fieldLinkNest RX2 157 "FlatLoader$Row" "members" "[I" "FlatLoader") s := hN _ (by decide +kernel)
  obtain ⟨H, hH⟩ : ∃ H, H = s.heap := ⟨_, rfl⟩
  obtain ⟨locs, hlocs⟩ : ∃ z : List Loc, z = [] := ⟨_, rfl⟩
  rw [← hH] at hP
  have hS : va_S (fun q => lo ≤ q) s.heap H locs := by rw [hH, hlocs]; exact hS
  have goal0 : W p l e (rm_X2_visible) s m args below meth c H locs 0 0 (MQ below (Qw D cA ad lo g1 (some r)) args s 0 0 (fun q => lo ≤ q)) (F0 m 0 ls []) := by
    refine lv_aload_n S.1 S.2.1 dX2_visible_0 rfl (lv_at hl 0 rfl) ?_
    refine lv_iload_n S.1 S.2.1 dX2_visible_1 rfl (lv_at hl 1 rfl) ?_
    obtain ⟨r1, h_2, h⟩ := bd_some h
    refine k_R (r := r1) (va_runV (As := [.int p1]) (rest := []) S (c_X2_isLoaded h_2) (cwV 1 S.2.2.2.2 gX2_visible_X2_isLoaded rfl rfl rfl (by decide +kernel) ⟨Nat.le_of_ble_eq_true rfl, Nat.le_of_ble_eq_true rfl⟩) ⟨Pw_blind, va_recv hK hP (ci := 2) (q0 := 0) rfl (wld_at (d := dF) rfl), Pw_at hlo hS hP hK hN⟩ rfl rfl hl.1 rfl (lv_room (Nat.le_of_ble_eq_true rfl)) dX2_visible_2 ⟨Nat.zero_le _, Nat.zero_le _⟩) ?_
    refine lv_if_eq (tgt := 18) S.1 S.2.1 dX2_visible_5 (by decide) (fun hc3 => ?_) (fun hc3 => ?_)
    · rw [if_pos hc3] at h
      refine lv_iconst (v := (-1)) S.1 S.2.1 dX2_visible_18 (by decide) ?_
      exact e_W S hr hlocks hP hS (Option.some.inj h) dX2_visible_19
    · rw [if_neg hc3] at h
      refine lv_iload_n S.1 S.2.1 dX2_visible_8 rfl (lv_at hl 2 rfl) ?_
      refine lv_if_lt (tgt := 18) S.1 S.2.1 dX2_visible_9 (by decide) (fun hc4 => ?_) (fun hc4 => ?_)
      · rw [if_pos hc4] at h
        refine lv_iconst (v := (-1)) S.1 S.2.1 dX2_visible_18 (by decide) ?_
        exact e_W S hr hlocks hP hS (Option.some.inj h) dX2_visible_19
      · rw [if_neg hc4] at h
        refine lv_iload_n S.1 S.2.1 dX2_visible_12 rfl (lv_at hl 2 rfl) ?_
        refine lv_bipush (v := 6) S.1 S.2.1 dX2_visible_13 (by decide) ?_
        refine lv_icmp_lt (tgt := 20) S.1 S.2.1 dX2_visible_15 (by decide) (fun hc5 => ?_) (fun hc5 => ?_)
        · rw [if_pos hc5] at h
          refine lv_aload_n S.1 S.2.1 dX2_visible_20 rfl (lv_at hl 0 rfl) ?_
          refine lv_iload_n S.1 S.2.1 dX2_visible_21 rfl (lv_at hl 1 rfl) ?_
          refine lv_iload_n S.1 S.2.1 dX2_visible_22 rfl (lv_at hl 2 rfl) ?_
          obtain ⟨g_8, h_7, h⟩ := bd_some h
          refine k_Wv (va_runV (As := [.int p1, .int p2]) (rest := []) S (c_X2_fillVisibleRow hA h_7) (cwV 2 S.2.2.2.2 gX2_visible_X2_fillVisibleRow rfl rfl rfl (by decide +kernel) ⟨Nat.le_of_ble_eq_true rfl, Nat.le_of_ble_eq_true rfl⟩) ⟨Pw_blind, va_recv hK hP (ci := 2) (q0 := 0) rfl (wld_at (d := dF) rfl), Pw_at hlo hS hP hK hN⟩ rfl rfl hl.1 rfl (lv_room (Nat.le_of_ble_eq_true rfl)) dX2_visible_23 ⟨Nat.zero_le _, Nat.zero_le _⟩) hS (fun H locs hP hS => ?_)
          refine lv_iload_n S.1 S.2.1 dX2_visible_26 rfl (lv_at hl 3 rfl) ?_
          refine lv_if_lt (tgt := 53) S.1 S.2.1 dX2_visible_27 (by decide) (fun hc9 => ?_) (fun hc9 => ?_)
          · rw [if_pos hc9] at h
            refine lv_iconst (v := (-1)) S.1 S.2.1 dX2_visible_53 (by decide) ?_
            exact e_W S hr hlocks hP hS (Option.some.inj h) dX2_visible_54
          · rw [if_neg hc9] at h
            refine lv_iload_n S.1 S.2.1 dX2_visible_30 rfl (lv_at hl 3 rfl) ?_
            refine lv_aload_n S.1 S.2.1 dX2_visible_31 rfl (lv_at hl 0 rfl) ?_
            refine r_get (C := RX2) (T := TX2) (N := 6) (ci := 2) (k := 0) (j := 3) (fs := fsF) (d := (some (some 50))) (v := .ref (ad 50)) S hK hP hn2 lk26 rfl (by decide) rfl rfl rfl dX2_visible_32 ?_
            refine r_getN (C := RX1) (T := TX1) (N := 4) (ci := 1) (k := 50) (j := 1) (fs := fsR) (d := none) (v := .int (g_8 50 1)) S hK hP hn1 lk154 rfl (by decide) rfl rfl rfl dX2_visible_35 ?_
            refine lv_icmp_ge (tgt := 53) S.1 S.2.1 dX2_visible_38 (by decide) (fun hc10 => ?_) (fun hc10 => ?_)
            · rw [if_pos hc10] at h
              refine lv_iconst (v := (-1)) S.1 S.2.1 dX2_visible_53 (by decide) ?_
              exact e_W S hr hlocks hP hS (Option.some.inj h) dX2_visible_54
            · rw [if_neg hc10] at h
              refine lv_aload_n S.1 S.2.1 dX2_visible_41 rfl (lv_at hl 0 rfl) ?_
              refine r_get (C := RX2) (T := TX2) (N := 6) (ci := 2) (k := 0) (j := 3) (fs := fsF) (d := (some (some 50))) (v := .ref (ad 50)) S hK hP hn2 lk26 rfl (by decide) rfl rfl rfl dX2_visible_42 ?_
              refine r_getN (C := RX1) (T := TX1) (N := 4) (ci := 1) (k := 50) (j := 0) (fs := fsR) (d := (some (some 51))) (v := .ref (ad 51)) S hK hP hn1 lk157 rfl (by decide) rfl rfl rfl dX2_visible_45 ?_
              refine lv_iload_n S.1 S.2.1 dX2_visible_48 rfl (lv_at hl 3 rfl) ?_
              obtain ⟨hv11, hv11b, h⟩ := gi_some h
              refine r_ild (k := 51) (n := 8) S hK hP rfl hv11 dX2_visible_49 ?_
              refine lv_goto (tgt := 54) S.1 S.2.1 dX2_visible_50 (by decide) ?_
              exact e_W S hr hlocks hP hS (Option.some.inj h) dX2_visible_54
        · rw [if_neg hc5] at h
          refine lv_iconst (v := (-1)) S.1 S.2.1 dX2_visible_18 (by decide) ?_
          exact e_W S hr hlocks hP hS (Option.some.inj h) dX2_visible_19
  rw [hH, hlocs] at goal0
  exact goal0

def m_X2_why (g : Mem) (p1 p2 : Int32) : Option (Mem × Int32) := (m_X2_isLoaded g p1).bind fun r1 => (if r1 = 0 then some (g, 1) else (if (m_X2_isName p2) = 0 then some (g, 1) else (m_X2_holderSeenFrom g p1 p2).bind fun qr5 => (if qr5.2 = (-1) then (m_X2_holderSet qr5.1 p2).bind fun r9 => (if (r9 &&& (qr5.1 0 2)) = 0 then (if r9 = 0 then some (qr5.1, 4) else some (qr5.1, 3)) else some (qr5.1, 2)) else some (qr5.1, 0))))
def rm_X2_why : Room := { frames := 17, cells := 0, slots := 0, locals := 415 }
set_option maxRecDepth 100000 in
set_option maxHeartbeats 4000000 in
theorem c_X2_why {l : Launch} {D : va_G} {cA : Nat → ClassId} {ad : Nat → Nat} {lo : Nat} (hA : AdOk lo ad lay0.length) {g : Mem} {p1 p2 : Int32} {g1 : Mem} {r : Int32} (h : m_X2_why g p1 p2 = some (g1, r)) : Met l yX2_why wsX2_why rm_X2_why (Pw [.ref (ad 0), .int p1, .int p2] D cA ad lo g) (Qw D cA ad lo g1 (some r)) 0 0 (fun q => lo ≤ q) := by
  refine startW (cc := cX2_why) (maxL := 4) (ret := (some .int)) (by decide) rfl (Nat.le_of_ble_eq_true rfl) ?_
  intro p e s m args below meth c ls S hr hlocks hB hl
  obtain ⟨hlo, hP, hK, hN⟩ := hB
  have hS : va_S (fun q => lo ≤ q) s.heap s.heap [] := va_S.rf
  unfold m_X2_why at h
  have S : CallFix p m c cX2_why 4 s args wsX2_why RX2 := S
  have hl : lv_has ls 4 [(0, .ref (ad 0)), (1, .int p1), (2, .int p2)] := hl
  have hn2 : ∀ w ∈ wsX20, w ∈ wsX2_why := by decide +kernel
  have lk20 := S.2.2.2.2 (.fieldLink RX2 20 "FlatLoader" "loadedSet" "I") (by decide +kernel)
  obtain ⟨H, hH⟩ : ∃ H, H = s.heap := ⟨_, rfl⟩
  obtain ⟨locs, hlocs⟩ : ∃ z : List Loc, z = [] := ⟨_, rfl⟩
  rw [← hH] at hP
  have hS : va_S (fun q => lo ≤ q) s.heap H locs := by rw [hH, hlocs]; exact hS
  have goal0 : W p l e (rm_X2_why) s m args below meth c H locs 0 0 (MQ below (Qw D cA ad lo g1 (some r)) args s 0 0 (fun q => lo ≤ q)) (F0 m 0 ls []) := by
    refine lv_aload_n S.1 S.2.1 dX2_why_0 rfl (lv_at hl 0 rfl) ?_
    refine lv_iload_n S.1 S.2.1 dX2_why_1 rfl (lv_at hl 1 rfl) ?_
    obtain ⟨r1, h_2, h⟩ := bd_some h
    refine k_R (r := r1) (va_runV (As := [.int p1]) (rest := []) S (c_X2_isLoaded h_2) (cwV 1 S.2.2.2.2 gX2_why_X2_isLoaded rfl rfl rfl (by decide +kernel) ⟨Nat.le_of_ble_eq_true rfl, Nat.le_of_ble_eq_true rfl⟩) ⟨Pw_blind, va_recv hK hP (ci := 2) (q0 := 0) rfl (wld_at (d := dF) rfl), Pw_at hlo hS hP hK hN⟩ rfl rfl hl.1 rfl (lv_room (Nat.le_of_ble_eq_true rfl)) dX2_why_2 ⟨Nat.zero_le _, Nat.zero_le _⟩) ?_
    refine lv_if_eq (tgt := 15) S.1 S.2.1 dX2_why_5 (by decide) (fun hc3 => ?_) (fun hc3 => ?_)
    · rw [if_pos hc3] at h
      refine lv_iconst (v := 1) S.1 S.2.1 dX2_why_15 (by decide) ?_
      exact e_W S hr hlocks hP hS (Option.some.inj h) dX2_why_16
    · rw [if_neg hc3] at h
      refine lv_iload_n S.1 S.2.1 dX2_why_8 rfl (lv_at hl 2 rfl) ?_
      refine k_R (r := (m_X2_isName p2)) (va_runS (As := [.int p2]) (rest := []) S c_X2_isName (va_cwS 1 S.2.2.2.2 gX2_why_X2_isName rfl rfl rfl (by decide +kernel) ⟨Nat.le_of_ble_eq_true rfl, Nat.le_of_ble_eq_true rfl⟩) ⟨Tr_blind, Tr_at⟩ rfl rfl hl.1 rfl (lv_room (Nat.le_of_ble_eq_true rfl)) dX2_why_9 ⟨Nat.zero_le _, Nat.zero_le _⟩) ?_
      refine lv_if_ne (tgt := 17) S.1 S.2.1 dX2_why_12 (by decide) (fun hc4 => ?_) (fun hc4 => ?_)
      · rw [if_neg hc4] at h
        refine lv_aload_n S.1 S.2.1 dX2_why_17 rfl (lv_at hl 0 rfl) ?_
        refine lv_iload_n S.1 S.2.1 dX2_why_18 rfl (lv_at hl 1 rfl) ?_
        refine lv_iload_n S.1 S.2.1 dX2_why_19 rfl (lv_at hl 2 rfl) ?_
        obtain ⟨⟨g_7, r5⟩, h_6, h⟩ := bd_some h
        dsimp only at h
        refine k_Wi (va_runV (As := [.int p1, .int p2]) (rest := []) S (c_X2_holderSeenFrom hA h_6) (cwV 2 S.2.2.2.2 gX2_why_X2_holderSeenFrom rfl rfl rfl (by decide +kernel) ⟨Nat.le_of_ble_eq_true rfl, Nat.le_of_ble_eq_true rfl⟩) ⟨Pw_blind, va_recv hK hP (ci := 2) (q0 := 0) rfl (wld_at (d := dF) rfl), Pw_at hlo hS hP hK hN⟩ rfl rfl hl.1 rfl (lv_room (Nat.le_of_ble_eq_true rfl)) dX2_why_20 ⟨Nat.zero_le _, Nat.zero_le _⟩) hS (fun H locs hP hS => ?_)
        refine lv_iconst (v := (-1)) S.1 S.2.1 dX2_why_23 (by decide) ?_
        refine lv_icmp_eq (tgt := 29) S.1 S.2.1 dX2_why_24 (by decide) (fun hc8 => ?_) (fun hc8 => ?_)
        · rw [if_pos hc8] at h
          refine lv_aload_n S.1 S.2.1 dX2_why_29 rfl (lv_at hl 0 rfl) ?_
          refine lv_iload_n S.1 S.2.1 dX2_why_30 rfl (lv_at hl 2 rfl) ?_
          obtain ⟨r9, h_10, h⟩ := bd_some h
          refine k_R (r := r9) (va_runV (As := [.int p2]) (rest := []) S (c_X2_holderSet h_10) (cwV 1 S.2.2.2.2 gX2_why_X2_holderSet rfl rfl rfl (by decide +kernel) ⟨Nat.le_of_ble_eq_true rfl, Nat.le_of_ble_eq_true rfl⟩) ⟨Pw_blind, va_recv hK hP (ci := 2) (q0 := 0) rfl (wld_at (d := dF) rfl), Pw_at hlo hS hP hK hN⟩ rfl rfl hl.1 rfl (lv_room (Nat.le_of_ble_eq_true rfl)) dX2_why_31 ⟨Nat.zero_le _, Nat.zero_le _⟩) ?_
          refine lv_istore_n (lv' := [(3, .int r9), (0, .ref (ad 0)), (1, .int p1), (2, .int p2)]) S.1 S.2.1 dX2_why_34 rfl hl (by decide) rfl (fun ls hl => ?_)
          refine lv_iload_n S.1 S.2.1 dX2_why_35 rfl (lv_at hl 0 rfl) ?_
          refine lv_aload_n S.1 S.2.1 dX2_why_36 rfl (lv_at hl 1 rfl) ?_
          refine r_get (C := RX2) (T := TX2) (N := 6) (ci := 2) (k := 0) (j := 2) (fs := fsF) (d := none) (v := .int (g_7 0 2)) S hK hP hn2 lk20 rfl (by decide) rfl rfl rfl dX2_why_37 ?_
          refine lv_iand S.1 S.2.1 dX2_why_40 ?_
          refine lv_if_eq (tgt := 46) S.1 S.2.1 dX2_why_41 (by decide) (fun hc11 => ?_) (fun hc11 => ?_)
          · rw [if_pos hc11] at h
            refine lv_iload_n S.1 S.2.1 dX2_why_46 rfl (lv_at hl 0 rfl) ?_
            refine lv_if_eq (tgt := 54) S.1 S.2.1 dX2_why_47 (by decide) (fun hc12 => ?_) (fun hc12 => ?_)
            · rw [if_pos hc12] at h
              refine lv_iconst (v := 4) S.1 S.2.1 dX2_why_54 (by decide) ?_
              exact e_W S hr hlocks hP hS (Option.some.inj h) dX2_why_55
            · rw [if_neg hc12] at h
              refine lv_iconst (v := 3) S.1 S.2.1 dX2_why_50 (by decide) ?_
              refine lv_goto (tgt := 55) S.1 S.2.1 dX2_why_51 (by decide) ?_
              exact e_W S hr hlocks hP hS (Option.some.inj h) dX2_why_55
          · rw [if_neg hc11] at h
            refine lv_iconst (v := 2) S.1 S.2.1 dX2_why_44 (by decide) ?_
            exact e_W S hr hlocks hP hS (Option.some.inj h) dX2_why_45
        · rw [if_neg hc8] at h
          refine lv_iconst (v := 0) S.1 S.2.1 dX2_why_27 (by decide) ?_
          exact e_W S hr hlocks hP hS (Option.some.inj h) dX2_why_28
      · rw [if_pos hc4] at h
        refine lv_iconst (v := 1) S.1 S.2.1 dX2_why_15 (by decide) ?_
        exact e_W S hr hlocks hP hS (Option.some.inj h) dX2_why_16
  rw [hH, hlocs] at goal0
  exact goal0

def m_X2_defineWithAllAbove_94 (p1 p2 : Int32) (g : Mem) (x3 x4 x5 : Int32) : Option (Mem × Int32) := (m_X2_needsNoDefining g x3 x4).bind fun r1 => (if r1 = 0 then some (g, 0) else (m_X2_defineChain g x5 x3).bind fun g_6 => some (g_6, 1))
def m_X2_defineWithAllAbove_8 (p1 p2 : Int32) : Nat → Mem → Int32 → Int32 → Int32 → Option (Mem × Int32)
  | 0, _, _, _, _ => none
  | n + 1, g, x3, x4, x5 => (if 10 ≤ x5 then m_X2_defineWithAllAbove_94 p1 p2 (g) (x3) (x4) (x5) else (m_X2_needsNoDefining g x3 x4).bind fun r8 => (if r8 = 0 then gi x5 10 (gi x5 10 (gi x3 8 (gi x4 24 ((if ((mup (mup g 52 (x5).toNatClampNeg x3) 53 (x5).toNatClampNeg x4) ((kM (x3).toNatClampNeg) + 1) (x4).toNatClampNeg) = (-2) then some ((mup (mup g 52 (x5).toNatClampNeg x3) 53 (x5).toNatClampNeg x4), 0) else (if ((mup (mup g 52 (x5).toNatClampNeg x3) 53 (x5).toNatClampNeg x4) ((kM (x3).toNatClampNeg) + 1) (x4).toNatClampNeg) = (-1) then (if (9 : Int32) = (-1) then some ((mup (mup g 52 (x5).toNatClampNeg x3) 53 (x5).toNatClampNeg x4), 0) else m_X2_defineWithAllAbove_8 p1 p2 n ((mup (mup g 52 (x5).toNatClampNeg x3) 53 (x5).toNatClampNeg x4)) (9) (((mup (mup g 52 (x5).toNatClampNeg x3) 53 (x5).toNatClampNeg x4) ((kM (x3).toNatClampNeg) + 1) (x4).toNatClampNeg)) ((x5 + 1))) else (m_X2_holderSeenFrom (mup (mup g 52 (x5).toNatClampNeg x3) 53 (x5).toNatClampNeg x4) x3 ((mup (mup g 52 (x5).toNatClampNeg x3) 53 (x5).toNatClampNeg x4) ((kM (x3).toNatClampNeg) + 1) (x4).toNatClampNeg)).bind fun qr17 => (if qr17.2 = (-1) then some (qr17.1, 0) else m_X2_defineWithAllAbove_8 p1 p2 n (qr17.1) (qr17.2) (((mup (mup g 52 (x5).toNatClampNeg x3) 53 (x5).toNatClampNeg x4) ((kM (x3).toNatClampNeg) + 1) (x4).toNatClampNeg)) ((x5 + 1))))))))) else m_X2_defineWithAllAbove_94 p1 p2 (g) (x3) (x4) (x5)))
def m_X2_defineWithAllAbove (g : Mem) (p1 p2 : Int32) : Option (Mem × Int32) := m_X2_defineWithAllAbove_8 p1 p2 200 (g) (p1) (p2) (0)
def rm_X2_defineWithAllAbove : Room := { frames := 17, cells := 0, slots := 0, locals := 415 }
set_option maxRecDepth 100000 in
set_option maxHeartbeats 4000000 in
theorem c_X2_defineWithAllAbove {l : Launch} {D : va_G} {cA : Nat → ClassId} {ad : Nat → Nat} {lo : Nat} (hA : AdOk lo ad lay0.length) {g : Mem} {p1 p2 : Int32} {g1 : Mem} {r : Int32} (h : m_X2_defineWithAllAbove g p1 p2 = some (g1, r)) : Met l yX2_defineWithAllAbove wsX2_defineWithAllAbove rm_X2_defineWithAllAbove (Pw [.ref (ad 0), .int p1, .int p2] D cA ad lo g) (Qw D cA ad lo g1 (some r)) 0 0 (fun q => lo ≤ q) := by
  refine startW (cc := cX2_defineWithAllAbove) (maxL := 6) (ret := (some .boolean)) (by decide) rfl (Nat.le_of_ble_eq_true rfl) ?_
  intro p e s m args below meth c ls S hr hlocks hB hl
  obtain ⟨hlo, hP, hK, hN⟩ := hB
  have hS : va_S (fun q => lo ≤ q) s.heap s.heap [] := va_S.rf
  unfold m_X2_defineWithAllAbove at h
  have S : CallFix p m c cX2_defineWithAllAbove 6 s args wsX2_defineWithAllAbove RX2 := S
  have hl : lv_has ls 6 [(0, .ref (ad 0)), (1, .int p1), (2, .int p2)] := hl
  have hn0 : ∀ w ∈ wsX00, w ∈ wsX2_defineWithAllAbove := by decide +kernel
  have hn2 : ∀ w ∈ wsX20, w ∈ wsX2_defineWithAllAbove := by decide +kernel
  have lk11 := S.2.2.2.2 (.fieldLink RX2 11 "FlatLoader" "modules" "[LFlatLoader$OneModule;") (by decide +kernel)
  have lk30 := S.2.2.2.2 (.fieldLink RX2 30 "FlatLoader" "chainModules" "[I") (by decide +kernel)
  have lk34 := S.2.2.2.2 (.fieldLink RX2 34 "FlatLoader" "chainNames" "[I") (by decide +kernel)
  have lk76 : va_Nw (.fieldLinkNest RX2 76 "FlatLoader$OneModule" "extended" "[I" "FlatLoader") s := hN _ (by decide +kernel)
  obtain ⟨H, hH⟩ : ∃ H, H = s.heap := ⟨_, rfl⟩
  obtain ⟨locs, hlocs⟩ : ∃ z : List Loc, z = [] := ⟨_, rfl⟩
  have key94 : ∀ (g : Mem) (H : Heap) (locs : List Loc), va_P D vwCl (wld cA ad g lay0) H → va_S (fun q => lo ≤ q) s.heap H locs → ∀ (x3 x4 x5 : Int32), ∀ (ls : Array Slot), lv_has ls 6 [(0, .ref (ad 0)), (1, .int p1), (2, .int p2), (3, .int x3), (4, .int x4), (5, .int x5)] → m_X2_defineWithAllAbove_94 p1 p2 g x3 x4 x5 = some (g1, r) → W p l e (rm_X2_defineWithAllAbove) s m args below meth c H locs 0 0 (MQ below (Qw D cA ad lo g1 (some r)) args s 0 0 (fun q => lo ≤ q)) (F0 m 94 ls []) := by
    intro g H locs hP hS x3 x4 x5 ls hl h
    unfold m_X2_defineWithAllAbove_94 at h
    refine lv_aload_n S.1 S.2.1 dX2_defineWithAllAbove_94 rfl (lv_at hl 0 rfl) ?_
    refine lv_iload_n S.1 S.2.1 dX2_defineWithAllAbove_95 rfl (lv_at hl 3 rfl) ?_
    refine lv_iload S.1 S.2.1 dX2_defineWithAllAbove_96 (lv_at hl 4 rfl) ?_
    obtain ⟨r1, h_2, h⟩ := bd_some h
    refine k_R (r := r1) (va_runV (As := [.int x3, .int x4]) (rest := []) S (c_X2_needsNoDefining h_2) (cwV 2 S.2.2.2.2 gX2_defineWithAllAbove_X2_needsNoDefining rfl rfl rfl (by decide +kernel) ⟨Nat.le_of_ble_eq_true rfl, Nat.le_of_ble_eq_true rfl⟩) ⟨Pw_blind, va_recv hK hP (ci := 2) (q0 := 0) rfl (wld_at (d := dF) rfl), Pw_at hlo hS hP hK hN⟩ rfl rfl hl.1 rfl (lv_room (Nat.le_of_ble_eq_true rfl)) dX2_defineWithAllAbove_98 ⟨Nat.zero_le _, Nat.zero_le _⟩) ?_
    refine lv_if_ne (tgt := 106) S.1 S.2.1 dX2_defineWithAllAbove_101 (by decide) (fun hc3 => ?_) (fun hc3 => ?_)
    · rw [if_neg hc3] at h
      refine lv_aload_n S.1 S.2.1 dX2_defineWithAllAbove_106 rfl (lv_at hl 0 rfl) ?_
      refine lv_iload S.1 S.2.1 dX2_defineWithAllAbove_107 (lv_at hl 5 rfl) ?_
      refine lv_iload_n S.1 S.2.1 dX2_defineWithAllAbove_109 rfl (lv_at hl 3 rfl) ?_
      obtain ⟨g_6, h_5, h⟩ := bd_some h
      refine k_Wv (va_runV (As := [.int x5, .int x3]) (rest := []) S (c_X2_defineChain hA h_5) (cwV 2 S.2.2.2.2 gX2_defineWithAllAbove_X2_defineChain rfl rfl rfl (by decide +kernel) ⟨Nat.le_of_ble_eq_true rfl, Nat.le_of_ble_eq_true rfl⟩) ⟨Pw_blind, va_recv hK hP (ci := 2) (q0 := 0) rfl (wld_at (d := dF) rfl), Pw_at hlo hS hP hK hN⟩ rfl rfl hl.1 rfl (lv_room (Nat.le_of_ble_eq_true rfl)) dX2_defineWithAllAbove_110 ⟨Nat.zero_le _, Nat.zero_le _⟩) hS (fun H locs hP hS => ?_)
      refine lv_iconst (v := 1) S.1 S.2.1 dX2_defineWithAllAbove_113 (by decide) ?_
      exact e_Wz S hr hlocks rfl hP hS (Option.some.inj h) dX2_defineWithAllAbove_114
    · rw [if_pos hc3] at h
      refine lv_iconst (v := 0) S.1 S.2.1 dX2_defineWithAllAbove_104 (by decide) ?_
      exact e_Wz S hr hlocks rfl hP hS (Option.some.inj h) dX2_defineWithAllAbove_105
  have key8 : ∀ (n : Nat), ∀ (g : Mem) (H : Heap) (locs : List Loc), va_P D vwCl (wld cA ad g lay0) H → va_S (fun q => lo ≤ q) s.heap H locs → ∀ (x3 x4 x5 : Int32), ∀ (ls : Array Slot), lv_has ls 6 [(0, .ref (ad 0)), (1, .int p1), (2, .int p2), (3, .int x3), (4, .int x4), (5, .int x5)] → m_X2_defineWithAllAbove_8 p1 p2 n g x3 x4 x5 = some (g1, r) → W p l e (rm_X2_defineWithAllAbove) s m args below meth c H locs 0 0 (MQ below (Qw D cA ad lo g1 (some r)) args s 0 0 (fun q => lo ≤ q)) (F0 m 8 ls []) := by
    intro n
    induction n with
    | zero =>
      intro g H locs hP hS x3 x4 x5 ls hl h
      exact nomatch (show none = some (g1, r) from h)
    | succ n ih =>
      intro g H locs hP hS x3 x4 x5 ls hl h
      rw [m_X2_defineWithAllAbove_8] at h
      refine lv_iload S.1 S.2.1 dX2_defineWithAllAbove_8 (lv_at hl 5 rfl) ?_
      refine lv_bipush (v := 10) S.1 S.2.1 dX2_defineWithAllAbove_10 (by decide) ?_
      refine lv_icmp_ge (tgt := 94) S.1 S.2.1 dX2_defineWithAllAbove_12 (by decide) (fun hc7 => ?_) (fun hc7 => ?_)
      · rw [if_pos hc7] at h
        exact key94 (g) H locs hP hS (x3) (x4) (x5) ls (lv_sub hl [0, 1, 2, 3, 4, 5] rfl) h
      · rw [if_neg hc7] at h
        refine lv_aload_n S.1 S.2.1 dX2_defineWithAllAbove_15 rfl (lv_at hl 0 rfl) ?_
        refine lv_iload_n S.1 S.2.1 dX2_defineWithAllAbove_16 rfl (lv_at hl 3 rfl) ?_
        refine lv_iload S.1 S.2.1 dX2_defineWithAllAbove_17 (lv_at hl 4 rfl) ?_
        obtain ⟨r8, h_9, h⟩ := bd_some h
        refine k_R (r := r8) (va_runV (As := [.int x3, .int x4]) (rest := []) S (c_X2_needsNoDefining h_9) (cwV 2 S.2.2.2.2 gX2_defineWithAllAbove_X2_needsNoDefining rfl rfl rfl (by decide +kernel) ⟨Nat.le_of_ble_eq_true rfl, Nat.le_of_ble_eq_true rfl⟩) ⟨Pw_blind, va_recv hK hP (ci := 2) (q0 := 0) rfl (wld_at (d := dF) rfl), Pw_at hlo hS hP hK hN⟩ rfl rfl hl.1 rfl (lv_room (Nat.le_of_ble_eq_true rfl)) dX2_defineWithAllAbove_19 ⟨Nat.zero_le _, Nat.zero_le _⟩) ?_
        refine lv_if_ne (tgt := 94) S.1 S.2.1 dX2_defineWithAllAbove_22 (by decide) (fun hc10 => ?_) (fun hc10 => ?_)
        · rw [if_neg hc10] at h
          exact key94 (g) H locs hP hS (x3) (x4) (x5) ls (lv_sub hl [0, 1, 2, 3, 4, 5] rfl) h
        · rw [if_pos hc10] at h
          refine lv_aload_n S.1 S.2.1 dX2_defineWithAllAbove_25 rfl (lv_at hl 0 rfl) ?_
          refine r_get (C := RX2) (T := TX2) (N := 6) (ci := 2) (k := 0) (j := 4) (fs := fsF) (d := (some (some 52))) (v := .ref (ad 52)) S hK hP hn2 lk30 rfl (by decide) rfl rfl rfl dX2_defineWithAllAbove_26 ?_
          refine lv_iload S.1 S.2.1 dX2_defineWithAllAbove_29 (lv_at hl 5 rfl) ?_
          refine lv_iload_n S.1 S.2.1 dX2_defineWithAllAbove_31 rfl (lv_at hl 3 rfl) ?_
          obtain ⟨hv11, hv11b, h⟩ := gi_some h
          refine r_ist (k := 52) (n := 10) S hA hK hP hS rfl hv11 dX2_defineWithAllAbove_32 (fun H locs hP hS => ?_)
          refine lv_aload_n S.1 S.2.1 dX2_defineWithAllAbove_33 rfl (lv_at hl 0 rfl) ?_
          refine r_get (C := RX2) (T := TX2) (N := 6) (ci := 2) (k := 0) (j := 5) (fs := fsF) (d := (some (some 53))) (v := .ref (ad 53)) S hK hP hn2 lk34 rfl (by decide) rfl rfl rfl dX2_defineWithAllAbove_34 ?_
          refine lv_iload S.1 S.2.1 dX2_defineWithAllAbove_37 (lv_at hl 5 rfl) ?_
          refine lv_iload S.1 S.2.1 dX2_defineWithAllAbove_39 (lv_at hl 4 rfl) ?_
          obtain ⟨hv12, hv12b, h⟩ := gi_some h
          refine r_ist (k := 53) (n := 10) S hA hK hP hS rfl hv12 dX2_defineWithAllAbove_41 (fun H locs hP hS => ?_)
          refine lv_iinc (v := (x5 + 1)) (lv' := [(5, .int (x5 + 1)), (0, .ref (ad 0)), (1, .int p1), (2, .int p2), (3, .int x3), (4, .int x4)]) S.1 S.2.1 dX2_defineWithAllAbove_42 hl (k := 5) rfl rfl (by decide) rfl (fun ls hl => ?_)
          refine lv_aload_n S.1 S.2.1 dX2_defineWithAllAbove_45 rfl (lv_at hl 1 rfl) ?_
          refine r_get (C := RX2) (T := TX2) (N := 6) (ci := 2) (k := 0) (j := 0) (fs := fsF) (d := (some (some 1))) (v := .ref (ad 1)) S hK hP hn2 lk11 rfl (by decide) rfl rfl rfl dX2_defineWithAllAbove_46 ?_
          refine lv_iload_n S.1 S.2.1 dX2_defineWithAllAbove_49 rfl (lv_at hl 4 rfl) ?_
          obtain ⟨hv13, hv13b, h⟩ := gi_some h
          refine r_ald S hK hP hv13 dX2_defineWithAllAbove_50 ?_
          refine r_getN (C := RX0) (T := TX0) (N := 8) (ci := 0) (k := (kM (x3).toNatClampNeg)) (j := 0) (fs := (fsM (kM (x3).toNatClampNeg))) (d := (some (some ((kM (x3).toNatClampNeg) + 1)))) (v := .ref (ad ((kM (x3).toNatClampNeg) + 1))) S hK hP hn0 lk76 rfl (by decide) (lyM hv13b) rfl rfl dX2_defineWithAllAbove_51 ?_
          refine lv_iload S.1 S.2.1 dX2_defineWithAllAbove_54 (lv_at hl 5 rfl) ?_
          obtain ⟨hv14, hv14b, h⟩ := gi_some h
          refine r_ild (k := ((kM (x3).toNatClampNeg) + 1)) (n := 24) S hK hP (lyM1 hv13b) hv14 dX2_defineWithAllAbove_56 ?_
          refine lv_istore (lv' := [(4, .int ((mup (mup g 52 (x5).toNatClampNeg x3) 53 (x5).toNatClampNeg x4) ((kM (x3).toNatClampNeg) + 1) (x4).toNatClampNeg)), (5, .int (x5 + 1)), (0, .ref (ad 0)), (1, .int p1), (2, .int p2), (3, .int x3)]) S.1 S.2.1 dX2_defineWithAllAbove_57 hl (by decide) rfl (fun ls hl => ?_)
          refine lv_iload S.1 S.2.1 dX2_defineWithAllAbove_59 (lv_at hl 0 rfl) ?_
          refine lv_bipush (v := (-2)) S.1 S.2.1 dX2_defineWithAllAbove_61 (by decide) ?_
          refine lv_icmp_ne (tgt := 68) S.1 S.2.1 dX2_defineWithAllAbove_63 (by decide) (fun hc15 => ?_) (fun hc15 => ?_)
          · rw [if_neg hc15] at h
            refine lv_iload S.1 S.2.1 dX2_defineWithAllAbove_68 (lv_at hl 0 rfl) ?_
            refine lv_iconst (v := (-1)) S.1 S.2.1 dX2_defineWithAllAbove_70 (by decide) ?_
            refine lv_icmp_ne (tgt := 79) S.1 S.2.1 dX2_defineWithAllAbove_71 (by decide) (fun hc16 => ?_) (fun hc16 => ?_)
            · rw [if_neg hc16] at h
              refine lv_aload_n S.1 S.2.1 dX2_defineWithAllAbove_79 rfl (lv_at hl 2 rfl) ?_
              refine lv_iload_n S.1 S.2.1 dX2_defineWithAllAbove_80 rfl (lv_at hl 5 rfl) ?_
              refine lv_iload S.1 S.2.1 dX2_defineWithAllAbove_81 (lv_at hl 0 rfl) ?_
              obtain ⟨⟨g_19, r17⟩, h_18, h⟩ := bd_some h
              dsimp only at h
              refine k_Wi (va_runV (As := [.int x3, .int ((mup (mup g 52 (x5).toNatClampNeg x3) 53 (x5).toNatClampNeg x4) ((kM (x3).toNatClampNeg) + 1) (x4).toNatClampNeg)]) (rest := []) S (c_X2_holderSeenFrom hA h_18) (cwV 2 S.2.2.2.2 gX2_defineWithAllAbove_X2_holderSeenFrom rfl rfl rfl (by decide +kernel) ⟨Nat.le_of_ble_eq_true rfl, Nat.le_of_ble_eq_true rfl⟩) ⟨Pw_blind, va_recv hK hP (ci := 2) (q0 := 0) rfl (wld_at (d := dF) rfl), Pw_at hlo hS hP hK hN⟩ rfl rfl hl.1 rfl (lv_room (Nat.le_of_ble_eq_true rfl)) dX2_defineWithAllAbove_83 ⟨Nat.zero_le _, Nat.zero_le _⟩) hS (fun H locs hP hS => ?_)
              refine lv_istore_n (lv' := [(3, .int r17), (4, .int ((mup (mup g 52 (x5).toNatClampNeg x3) 53 (x5).toNatClampNeg x4) ((kM (x3).toNatClampNeg) + 1) (x4).toNatClampNeg)), (5, .int (x5 + 1)), (0, .ref (ad 0)), (1, .int p1), (2, .int p2)]) S.1 S.2.1 dX2_defineWithAllAbove_86 rfl hl (by decide) rfl (fun ls hl => ?_)
              refine lv_iload_n S.1 S.2.1 dX2_defineWithAllAbove_87 rfl (lv_at hl 0 rfl) ?_
              refine lv_iconst (v := (-1)) S.1 S.2.1 dX2_defineWithAllAbove_88 (by decide) ?_
              refine lv_icmp_ne (tgt := 8) S.1 S.2.1 dX2_defineWithAllAbove_89 (by decide) (fun hc20 => ?_) (fun hc20 => ?_)
              · rw [if_neg hc20] at h
                exact ih (g_19) H locs hP hS (r17) (((mup (mup g 52 (x5).toNatClampNeg x3) 53 (x5).toNatClampNeg x4) ((kM (x3).toNatClampNeg) + 1) (x4).toNatClampNeg)) ((x5 + 1)) ls (lv_sub hl [3, 4, 5, 0, 1, 2] rfl) h
              · rw [if_pos hc20] at h
                refine lv_iconst (v := 0) S.1 S.2.1 dX2_defineWithAllAbove_92 (by decide) ?_
                exact e_Wz S hr hlocks rfl hP hS (Option.some.inj h) dX2_defineWithAllAbove_93
            · rw [if_pos hc16] at h
              refine lv_bipush (v := 9) S.1 S.2.1 dX2_defineWithAllAbove_74 (by decide) ?_
              refine lv_goto (tgt := 86) S.1 S.2.1 dX2_defineWithAllAbove_76 (by decide) ?_
              refine lv_istore_n (lv' := [(3, .int 9), (4, .int ((mup (mup g 52 (x5).toNatClampNeg x3) 53 (x5).toNatClampNeg x4) ((kM (x3).toNatClampNeg) + 1) (x4).toNatClampNeg)), (5, .int (x5 + 1)), (0, .ref (ad 0)), (1, .int p1), (2, .int p2)]) S.1 S.2.1 dX2_defineWithAllAbove_86 rfl hl (by decide) rfl (fun ls hl => ?_)
              refine lv_iload_n S.1 S.2.1 dX2_defineWithAllAbove_87 rfl (lv_at hl 0 rfl) ?_
              refine lv_iconst (v := (-1)) S.1 S.2.1 dX2_defineWithAllAbove_88 (by decide) ?_
              refine lv_icmp_ne (tgt := 8) S.1 S.2.1 dX2_defineWithAllAbove_89 (by decide) (fun hc21 => ?_) (fun hc21 => ?_)
              · rw [if_neg hc21] at h
                exact ih ((mup (mup g 52 (x5).toNatClampNeg x3) 53 (x5).toNatClampNeg x4)) H locs hP hS (9) (((mup (mup g 52 (x5).toNatClampNeg x3) 53 (x5).toNatClampNeg x4) ((kM (x3).toNatClampNeg) + 1) (x4).toNatClampNeg)) ((x5 + 1)) ls (lv_sub hl [3, 4, 5, 0, 1, 2] rfl) h
              · rw [if_pos hc21] at h
                refine lv_iconst (v := 0) S.1 S.2.1 dX2_defineWithAllAbove_92 (by decide) ?_
                exact e_Wz S hr hlocks rfl hP hS (Option.some.inj h) dX2_defineWithAllAbove_93
          · rw [if_pos hc15] at h
            refine lv_iconst (v := 0) S.1 S.2.1 dX2_defineWithAllAbove_66 (by decide) ?_
            exact e_Wz S hr hlocks rfl hP hS (Option.some.inj h) dX2_defineWithAllAbove_67
  rw [← hH] at hP
  have hS : va_S (fun q => lo ≤ q) s.heap H locs := by rw [hH, hlocs]; exact hS
  have goal0 : W p l e (rm_X2_defineWithAllAbove) s m args below meth c H locs 0 0 (MQ below (Qw D cA ad lo g1 (some r)) args s 0 0 (fun q => lo ≤ q)) (F0 m 0 ls []) := by
    refine lv_iload_n S.1 S.2.1 dX2_defineWithAllAbove_0 rfl (lv_at hl 1 rfl) ?_
    refine lv_istore_n (lv' := [(3, .int p1), (0, .ref (ad 0)), (1, .int p1), (2, .int p2)]) S.1 S.2.1 dX2_defineWithAllAbove_1 rfl hl (by decide) rfl (fun ls hl => ?_)
    refine lv_iload_n S.1 S.2.1 dX2_defineWithAllAbove_2 rfl (lv_at hl 3 rfl) ?_
    refine lv_istore (lv' := [(4, .int p2), (3, .int p1), (0, .ref (ad 0)), (1, .int p1), (2, .int p2)]) S.1 S.2.1 dX2_defineWithAllAbove_3 hl (by decide) rfl (fun ls hl => ?_)
    refine lv_iconst (v := 0) S.1 S.2.1 dX2_defineWithAllAbove_5 (by decide) ?_
    refine lv_istore (lv' := [(5, .int 0), (4, .int p2), (3, .int p1), (0, .ref (ad 0)), (1, .int p1), (2, .int p2)]) S.1 S.2.1 dX2_defineWithAllAbove_6 hl (by decide) rfl (fun ls hl => ?_)
    exact key8 200 (g) H locs hP hS (p1) (p2) (0) ls (lv_sub hl [3, 4, 5, 2, 1, 0] rfl) h
  rw [hH, hlocs] at goal0
  exact goal0
