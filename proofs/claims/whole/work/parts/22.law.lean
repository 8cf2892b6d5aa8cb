theorem k_W1 {p : Program} {l : Launch} {e : Env} {R : Room} {s : State} {m : MethodId} {args : Array Value} {below : List Frame} {meth : Method} {c : Code} {H : Heap} {locs : List Loc} {cells slots : Nat} {Q : State → Prop} {pc : Nat} {ls : Array Slot} {rest : List Value} {D : va_G} {cA : Nat → ClassId} {ad : Nat → Nat} {lo : Nat} {H0 : Heap} {g1 : Mem} {r : Int32} {a : Array Value} {st0 : List Value} (hr : va_Run p l e R s m args below meth c H locs cells slots 1 6 (F0 m pc ls st0) rest (Qw D cA ad lo g1 (some r) a) (fun q => lo ≤ q)) (hS : va_S (fun q => lo ≤ q) H0 H locs)
    (kk : ∀ (H1 : Heap) (locs1 : List Loc), va_P D vwCl (wld cA ad g1 lay0) H1 → va_S (fun q => lo ≤ q) H0 H1 locs1 → W p l e R s m args below meth c H1 locs1 (cells + 1) (slots + 6) Q (F0 m (pc + 3) ls (.int r :: rest))) : W p l e R s m args below meth c H locs cells slots Q (F0 m pc ls st0) := by
  intro T hT X
  obtain ⟨v, st₀, t, T', L, h0, X', hL, e1, -, ⟨hv, hP, hF⟩, st⟩ := hr T hT X
  cases hv
  refine (fun (q : ∃ t2, Steps p.tables e below (T'.setTop (F0 m (pc + 3) ls (.int r :: rest))) t2 ∧ Q t2) => ?_) (kk t.heap (locs ++ L) hP ?_ T' e1 X')
  · obtain ⟨t2, a1, b1⟩ := q
    exact ⟨t2, st t2 a1, b1⟩
  · obtain ⟨f1, f2⟩ := hF
    rw [h0] at f1 f2
    refine ⟨Nat.le_trans hS.1 f1, fun q hq hn => ?_, fun q hq => ?_⟩
    · rw [f2 q (Nat.lt_of_lt_of_le hq hS.1) hn]
      exact hS.2.1 q hq hn
    · rcases List.mem_append.mp hq with h | h
      · exact hS.2.2 q h
      · exact hL q h

def m_law_0 (xs : Nat → Int32) (L : Nat) (g : Mem) (x4 : Int32) : Option Mem := gi (x4 + 1) L ((m_L_present g (xs ((x4 + 1)).toNatClampNeg)).bind fun qr2 => gi (x4 + 1) L ((m_X3_present qr2.1 (xs ((x4 + 1)).toNatClampNeg)).bind fun g_8 => (m_X3_thrown g_8).bind fun r9 => (if r9 = qr2.2 then some g_8 else none)))
set_option maxRecDepth 100000 in
set_option maxHeartbeats 4000000 in
theorem c_law_0 {p : Program} {l : Launch} {e : Env} {s : State} {m : MethodId} {args : Array Value} {below : List Frame} {meth : Method} {c : Code} {H : Heap} {locs : List Loc} {Q : State → Prop} {ls : Array Slot} {D : va_G} {cA : Nat → ClassId} {ad : Nat → Nat} {lo b L : Nat} {xs : Nat → Int32} {k z : Nat} (hA : AdOk lo ad lay0.length) (hst : l.stackTraces = false) (S : CallFix p m c code 7 s args wvL_law RL) (hX0 : va_X b L xs s s.heap) (hbl : b < s.heap.size) (hbA : ¬ (fun q : Nat => lo ≤ q) b) (hlo : lo ≤ s.heap.size) (hK : va_K D vwCl (tysL cA) s) (hN : NWd s) (hX : ZX lo s) (hC : NCd s) (hk : k + 1 ≤ 612553) (hz : z + 6 ≤ 7258445) {g g1 : Mem} {x4 : Int32} (h : m_law_0 xs L g x4 = some g1) (hP : va_P D vwCl (wld cA ad g lay0) H) (hS : va_S (fun q : Nat => lo ≤ q) s.heap H locs) (hl : lv_has ls 7 [(0, .ref b), (1, .ref (ad 0)), (2, .ref (ad 54)), (3, .ref (ad 71)), (4, .int x4)])
    (kk : ∀ (H : Heap) (locs : List Loc) (ls : Array Slot), va_P D vwCl (wld cA ad g1 lay0) H → va_S (fun q : Nat => lo ≤ q) s.heap H locs → lv_has ls 7 [(0, .ref b), (1, .ref (ad 0)), (2, .ref (ad 54)), (3, .ref (ad 71)), (4, .int x4)] → W p l e room_1 s m args below meth c H locs (k + 1) (z + 6) Q (F0 m 717 ls [])) : W p l e room_1 s m args below meth c H locs k z Q (F0 m 104 ls []) := by
  unfold m_law_0 at h
  refine lv_aload_n S.1 S.2.1 dL_law_104 rfl (lv_at hl 1 rfl) ?_
  refine lv_aload_n S.1 S.2.1 dL_law_105 rfl (lv_at hl 0 rfl) ?_
  refine lv_iload S.1 S.2.1 dL_law_106 (lv_at hl 4 rfl) ?_
  refine lv_iconst (v := 1) S.1 S.2.1 dL_law_108 (by decide) ?_
  refine lv_iadd S.1 S.2.1 dL_law_109 ?_
  obtain ⟨hv1, hv1b, h⟩ := gi_some h
  refine va_sld S.1 S.2.1 hX0 hbl hbA hS hv1 dL_law_110 ?_
  obtain ⟨⟨g_4, r2⟩, h_3, h⟩ := bd_some h
  dsimp only at h
  refine k_W1 (vx_runSW (As := [.ref (ad 0), .int (xs ((x4 + 1)).toNatClampNeg)]) (rest := []) S (c_L_present hA hst h_3) (vx_cwSW 2 S.2.2.2.2 vgL_law_L_present rfl rfl rfl (by decide +kernel) ⟨Nat.le_of_ble_eq_true rfl, Nat.le_of_ble_eq_true rfl⟩) ⟨Pz_blind, Pz_at hlo hS hP hK hN hX hC⟩ rfl rfl hl.1 rfl (lv_room (Nat.le_of_ble_eq_true rfl)) dL_law_111 ⟨by simp only [room_1]; omega, by simp only [room_1]; omega⟩) hS (fun H locs hP hS => ?_)
  refine lv_istore (lv' := [(5, .int r2), (0, .ref b), (1, .ref (ad 0)), (2, .ref (ad 54)), (3, .ref (ad 71)), (4, .int x4)]) S.1 S.2.1 dL_law_114 hl (by decide) rfl (fun ls hl => ?_)
  refine lv_aload_n S.1 S.2.1 dL_law_116 rfl (lv_at hl 3 rfl) ?_
  refine lv_aload_n S.1 S.2.1 dL_law_117 rfl (lv_at hl 1 rfl) ?_
  refine lv_iload S.1 S.2.1 dL_law_118 (lv_at hl 5 rfl) ?_
  refine lv_iconst (v := 1) S.1 S.2.1 dL_law_120 (by decide) ?_
  refine lv_iadd S.1 S.2.1 dL_law_121 ?_
  obtain ⟨hv5, hv5b, h⟩ := gi_some h
  refine va_sld S.1 S.2.1 hX0 hbl hbA hS hv5 dL_law_122 ?_
  obtain ⟨g_8, h_7, h⟩ := bd_some h
  refine k_Wv (va_runV (As := [.int (xs ((x4 + 1)).toNatClampNeg)]) (rest := []) S (c_X3_present hA h_7) (cwV 1 S.2.2.2.2 vgL_law_X3_present rfl rfl rfl (by decide +kernel) ⟨Nat.le_of_ble_eq_true rfl, Nat.le_of_ble_eq_true rfl⟩) ⟨Pw_blind, va_recv hK hP (ci := 3) (q0 := 54) rfl (wld_at (d := dX) rfl), Pw_at hlo hS hP hK hN⟩ rfl rfl hl.1 rfl (lv_room (Nat.le_of_ble_eq_true rfl)) dL_law_123 ⟨by simp only [room_1]; omega, by simp only [room_1]; omega⟩) hS (fun H locs hP hS => ?_)
  refine lv_aload_n S.1 S.2.1 dL_law_126 rfl (lv_at hl 3 rfl) ?_
  obtain ⟨r9, h_10, h⟩ := bd_some h
  refine k_R (r := r9) (va_runV (As := []) (rest := []) S (c_X3_thrown h_10) (cwV 0 S.2.2.2.2 vgL_law_X3_thrown rfl rfl rfl (by decide +kernel) ⟨Nat.le_of_ble_eq_true rfl, Nat.le_of_ble_eq_true rfl⟩) ⟨Pw_blind, va_recv hK hP (ci := 3) (q0 := 54) rfl (wld_at (d := dX) rfl), Pw_at hlo hS hP hK hN⟩ rfl rfl hl.1 rfl (lv_room (Nat.le_of_ble_eq_true rfl)) dL_law_127 ⟨by simp only [room_1]; omega, by simp only [room_1]; omega⟩) ?_
  refine lv_iload S.1 S.2.1 dL_law_130 (lv_at hl 0 rfl) ?_
  refine lv_icmp_eq (tgt := 137) S.1 S.2.1 dL_law_132 (by decide) (fun hc11 => ?_) (fun hc11 => ?_)
  · rw [if_pos hc11] at h
    refine lv_goto (tgt := 717) S.1 S.2.1 dL_law_137 (by decide) ?_
    exact kk H locs ls (by rw [← Option.some.inj h]; exact hP) hS (lv_sub hl [1, 2, 3, 4, 5] rfl)
  · rw [if_neg hc11] at h
    refine lv_iconst (v := 0) S.1 S.2.1 dL_law_135 (by decide) ?_
    exact nomatch h

def m_law_1 (xs : Nat → Int32) (L : Nat) (g : Mem) (x4 : Int32) : Option Mem := gi (x4 + 1) L (gi (x4 + 2) L (gi (x4 + 3) L ((m_L_file g (xs ((x4 + 1)).toNatClampNeg) (xs ((x4 + 2)).toNatClampNeg) (xs ((x4 + 3)).toNatClampNeg)).bind fun qr4 => gi (x4 + 1) L (gi (x4 + 2) L (gi (x4 + 3) L ((m_X3_file qr4.1 (xs ((x4 + 1)).toNatClampNeg) (xs ((x4 + 2)).toNatClampNeg) (xs ((x4 + 3)).toNatClampNeg)).bind fun g_12 => (m_X3_thrown g_12).bind fun r13 => (if r13 = qr4.2 then some g_12 else none)))))))
set_option maxRecDepth 100000 in
set_option maxHeartbeats 4000000 in
theorem c_law_1 {p : Program} {l : Launch} {e : Env} {s : State} {m : MethodId} {args : Array Value} {below : List Frame} {meth : Method} {c : Code} {H : Heap} {locs : List Loc} {Q : State → Prop} {ls : Array Slot} {D : va_G} {cA : Nat → ClassId} {ad : Nat → Nat} {lo b L : Nat} {xs : Nat → Int32} {k z : Nat} (hA : AdOk lo ad lay0.length) (hst : l.stackTraces = false) (S : CallFix p m c code 7 s args wvL_law RL) (hX0 : va_X b L xs s s.heap) (hbl : b < s.heap.size) (hbA : ¬ (fun q : Nat => lo ≤ q) b) (hlo : lo ≤ s.heap.size) (hK : va_K D vwCl (tysL cA) s) (hN : NWd s) (hX : ZX lo s) (hC : NCd s) (hk : k + 1 ≤ 612553) (hz : z + 6 ≤ 7258445) {g g1 : Mem} {x4 : Int32} (h : m_law_1 xs L g x4 = some g1) (hP : va_P D vwCl (wld cA ad g lay0) H) (hS : va_S (fun q : Nat => lo ≤ q) s.heap H locs) (hl : lv_has ls 7 [(0, .ref b), (1, .ref (ad 0)), (2, .ref (ad 54)), (3, .ref (ad 71)), (4, .int x4)])
    (kk : ∀ (H : Heap) (locs : List Loc) (ls : Array Slot), va_P D vwCl (wld cA ad g1 lay0) H → va_S (fun q : Nat => lo ≤ q) s.heap H locs → lv_has ls 7 [(0, .ref b), (1, .ref (ad 0)), (2, .ref (ad 54)), (3, .ref (ad 71)), (4, .int x4)] → W p l e room_1 s m args below meth c H locs (k + 1) (z + 6) Q (F0 m 717 ls [])) : W p l e room_1 s m args below meth c H locs k z Q (F0 m 140 ls []) := by
  unfold m_law_1 at h
  refine lv_aload_n S.1 S.2.1 dL_law_140 rfl (lv_at hl 1 rfl) ?_
  refine lv_aload_n S.1 S.2.1 dL_law_141 rfl (lv_at hl 0 rfl) ?_
  refine lv_iload S.1 S.2.1 dL_law_142 (lv_at hl 4 rfl) ?_
  refine lv_iconst (v := 1) S.1 S.2.1 dL_law_144 (by decide) ?_
  refine lv_iadd S.1 S.2.1 dL_law_145 ?_
  obtain ⟨hv1, hv1b, h⟩ := gi_some h
  refine va_sld S.1 S.2.1 hX0 hbl hbA hS hv1 dL_law_146 ?_
  refine lv_aload_n S.1 S.2.1 dL_law_147 rfl (lv_at hl 0 rfl) ?_
  refine lv_iload S.1 S.2.1 dL_law_148 (lv_at hl 4 rfl) ?_
  refine lv_iconst (v := 2) S.1 S.2.1 dL_law_150 (by decide) ?_
  refine lv_iadd S.1 S.2.1 dL_law_151 ?_
  obtain ⟨hv2, hv2b, h⟩ := gi_some h
  refine va_sld S.1 S.2.1 hX0 hbl hbA hS hv2 dL_law_152 ?_
  refine lv_aload_n S.1 S.2.1 dL_law_153 rfl (lv_at hl 0 rfl) ?_
  refine lv_iload S.1 S.2.1 dL_law_154 (lv_at hl 4 rfl) ?_
  refine lv_iconst (v := 3) S.1 S.2.1 dL_law_156 (by decide) ?_
  refine lv_iadd S.1 S.2.1 dL_law_157 ?_
  obtain ⟨hv3, hv3b, h⟩ := gi_some h
  refine va_sld S.1 S.2.1 hX0 hbl hbA hS hv3 dL_law_158 ?_
  obtain ⟨⟨g_6, r4⟩, h_5, h⟩ := bd_some h
  dsimp only at h
  refine k_W1 (vx_runSW (As := [.ref (ad 0), .int (xs ((x4 + 1)).toNatClampNeg), .int (xs ((x4 + 2)).toNatClampNeg), .int (xs ((x4 + 3)).toNatClampNeg)]) (rest := []) S (c_L_file hA hst h_5) (vx_cwSW 4 S.2.2.2.2 vgL_law_L_file rfl rfl rfl (by decide +kernel) ⟨Nat.le_of_ble_eq_true rfl, Nat.le_of_ble_eq_true rfl⟩) ⟨Pz_blind, Pz_at hlo hS hP hK hN hX hC⟩ rfl rfl hl.1 rfl (lv_room (Nat.le_of_ble_eq_true rfl)) dL_law_159 ⟨by simp only [room_1]; omega, by simp only [room_1]; omega⟩) hS (fun H locs hP hS => ?_)
  refine lv_istore (lv' := [(5, .int r4), (0, .ref b), (1, .ref (ad 0)), (2, .ref (ad 54)), (3, .ref (ad 71)), (4, .int x4)]) S.1 S.2.1 dL_law_162 hl (by decide) rfl (fun ls hl => ?_)
  refine lv_aload_n S.1 S.2.1 dL_law_164 rfl (lv_at hl 3 rfl) ?_
  refine lv_aload_n S.1 S.2.1 dL_law_165 rfl (lv_at hl 1 rfl) ?_
  refine lv_iload S.1 S.2.1 dL_law_166 (lv_at hl 5 rfl) ?_
  refine lv_iconst (v := 1) S.1 S.2.1 dL_law_168 (by decide) ?_
  refine lv_iadd S.1 S.2.1 dL_law_169 ?_
  obtain ⟨hv7, hv7b, h⟩ := gi_some h
  refine va_sld S.1 S.2.1 hX0 hbl hbA hS hv7 dL_law_170 ?_
  refine lv_aload_n S.1 S.2.1 dL_law_171 rfl (lv_at hl 1 rfl) ?_
  refine lv_iload S.1 S.2.1 dL_law_172 (lv_at hl 5 rfl) ?_
  refine lv_iconst (v := 2) S.1 S.2.1 dL_law_174 (by decide) ?_
  refine lv_iadd S.1 S.2.1 dL_law_175 ?_
  obtain ⟨hv8, hv8b, h⟩ := gi_some h
  refine va_sld S.1 S.2.1 hX0 hbl hbA hS hv8 dL_law_176 ?_
  refine lv_aload_n S.1 S.2.1 dL_law_177 rfl (lv_at hl 1 rfl) ?_
  refine lv_iload S.1 S.2.1 dL_law_178 (lv_at hl 5 rfl) ?_
  refine lv_iconst (v := 3) S.1 S.2.1 dL_law_180 (by decide) ?_
  refine lv_iadd S.1 S.2.1 dL_law_181 ?_
  obtain ⟨hv9, hv9b, h⟩ := gi_some h
  refine va_sld S.1 S.2.1 hX0 hbl hbA hS hv9 dL_law_182 ?_
  obtain ⟨g_12, h_11, h⟩ := bd_some h
  refine k_Wv (va_runV (As := [.int (xs ((x4 + 1)).toNatClampNeg), .int (xs ((x4 + 2)).toNatClampNeg), .int (xs ((x4 + 3)).toNatClampNeg)]) (rest := []) S (c_X3_file hA h_11) (cwV 3 S.2.2.2.2 vgL_law_X3_file rfl rfl rfl (by decide +kernel) ⟨Nat.le_of_ble_eq_true rfl, Nat.le_of_ble_eq_true rfl⟩) ⟨Pw_blind, va_recv hK hP (ci := 3) (q0 := 54) rfl (wld_at (d := dX) rfl), Pw_at hlo hS hP hK hN⟩ rfl rfl hl.1 rfl (lv_room (Nat.le_of_ble_eq_true rfl)) dL_law_183 ⟨by simp only [room_1]; omega, by simp only [room_1]; omega⟩) hS (fun H locs hP hS => ?_)
  refine lv_aload_n S.1 S.2.1 dL_law_186 rfl (lv_at hl 3 rfl) ?_
  obtain ⟨r13, h_14, h⟩ := bd_some h
  refine k_R (r := r13) (va_runV (As := []) (rest := []) S (c_X3_thrown h_14) (cwV 0 S.2.2.2.2 vgL_law_X3_thrown rfl rfl rfl (by decide +kernel) ⟨Nat.le_of_ble_eq_true rfl, Nat.le_of_ble_eq_true rfl⟩) ⟨Pw_blind, va_recv hK hP (ci := 3) (q0 := 54) rfl (wld_at (d := dX) rfl), Pw_at hlo hS hP hK hN⟩ rfl rfl hl.1 rfl (lv_room (Nat.le_of_ble_eq_true rfl)) dL_law_187 ⟨by simp only [room_1]; omega, by simp only [room_1]; omega⟩) ?_
  refine lv_iload S.1 S.2.1 dL_law_190 (lv_at hl 0 rfl) ?_
  refine lv_icmp_eq (tgt := 197) S.1 S.2.1 dL_law_192 (by decide) (fun hc15 => ?_) (fun hc15 => ?_)
  · rw [if_pos hc15] at h
    refine lv_goto (tgt := 717) S.1 S.2.1 dL_law_197 (by decide) ?_
    exact kk H locs ls (by rw [← Option.some.inj h]; exact hP) hS (lv_sub hl [1, 2, 3, 4, 5] rfl)
  · rw [if_neg hc15] at h
    refine lv_iconst (v := 0) S.1 S.2.1 dL_law_195 (by decide) ?_
    exact nomatch h

def m_law_2 (xs : Nat → Int32) (L : Nat) (g : Mem) (x4 : Int32) : Option Mem := gi (x4 + 1) L (gi (x4 + 2) L (gi (x4 + 3) L (gi (x4 + 4) L (gi (x4 + 5) L ((if (xs ((x4 + 5)).toNatClampNeg) = 0 then (m_L_depend g (xs ((x4 + 1)).toNatClampNeg) (xs ((x4 + 2)).toNatClampNeg) (xs ((x4 + 3)).toNatClampNeg) (xs ((x4 + 4)).toNatClampNeg) 0).bind fun qr7 => gi (x4 + 1) L (gi (x4 + 2) L (gi (x4 + 3) L (gi (x4 + 4) L (gi (x4 + 5) L ((if (xs ((x4 + 5)).toNatClampNeg) = 0 then (m_X3_depend qr7.1 (xs ((x4 + 1)).toNatClampNeg) (xs ((x4 + 2)).toNatClampNeg) (xs ((x4 + 3)).toNatClampNeg) (xs ((x4 + 4)).toNatClampNeg) 0).bind fun qr16 => (m_X3_thrown qr16.1).bind fun r19 => (if r19 = qr7.2 then (if qr7.2 = 0 then (if (lg_cmp ((qr16.1 71 0)).toInt64 (qr16.2).toInt64) = 0 then some qr16.1 else none) else some qr16.1) else none) else (m_X3_depend qr7.1 (xs ((x4 + 1)).toNatClampNeg) (xs ((x4 + 2)).toNatClampNeg) (xs ((x4 + 3)).toNatClampNeg) (xs ((x4 + 4)).toNatClampNeg) 1).bind fun qr24 => (m_X3_thrown qr24.1).bind fun r27 => (if r27 = qr7.2 then (if qr7.2 = 0 then (if (lg_cmp ((qr24.1 71 0)).toInt64 (qr24.2).toInt64) = 0 then some qr24.1 else none) else some qr24.1) else none))))))) else (m_L_depend g (xs ((x4 + 1)).toNatClampNeg) (xs ((x4 + 2)).toNatClampNeg) (xs ((x4 + 3)).toNatClampNeg) (xs ((x4 + 4)).toNatClampNeg) 1).bind fun qr32 => gi (x4 + 1) L (gi (x4 + 2) L (gi (x4 + 3) L (gi (x4 + 4) L (gi (x4 + 5) L ((if (xs ((x4 + 5)).toNatClampNeg) = 0 then (m_X3_depend qr32.1 (xs ((x4 + 1)).toNatClampNeg) (xs ((x4 + 2)).toNatClampNeg) (xs ((x4 + 3)).toNatClampNeg) (xs ((x4 + 4)).toNatClampNeg) 0).bind fun qr41 => (m_X3_thrown qr41.1).bind fun r44 => (if r44 = qr32.2 then (if qr32.2 = 0 then (if (lg_cmp ((qr41.1 71 0)).toInt64 (qr41.2).toInt64) = 0 then some qr41.1 else none) else some qr41.1) else none) else (m_X3_depend qr32.1 (xs ((x4 + 1)).toNatClampNeg) (xs ((x4 + 2)).toNatClampNeg) (xs ((x4 + 3)).toNatClampNeg) (xs ((x4 + 4)).toNatClampNeg) 1).bind fun qr49 => (m_X3_thrown qr49.1).bind fun r52 => (if r52 = qr32.2 then (if qr32.2 = 0 then (if (lg_cmp ((qr49.1 71 0)).toInt64 (qr49.2).toInt64) = 0 then some qr49.1 else none) else some qr49.1) else none)))))))))))))
set_option maxRecDepth 100000 in
set_option maxHeartbeats 4000000 in
theorem c_law_2 {p : Program} {l : Launch} {e : Env} {s : State} {m : MethodId} {args : Array Value} {below : List Frame} {meth : Method} {c : Code} {H : Heap} {locs : List Loc} {Q : State → Prop} {ls : Array Slot} {D : va_G} {cA : Nat → ClassId} {ad : Nat → Nat} {lo b L : Nat} {xs : Nat → Int32} {k z : Nat} (hA : AdOk lo ad lay0.length) (hst : l.stackTraces = false) (S : CallFix p m c code 7 s args wvL_law RL) (hX0 : va_X b L xs s s.heap) (hbl : b < s.heap.size) (hbA : ¬ (fun q : Nat => lo ≤ q) b) (hlo : lo ≤ s.heap.size) (hK : va_K D vwCl (tysL cA) s) (hN : NWd s) (hX : ZX lo s) (hC : NCd s) (hk : k + 1 ≤ 612553) (hz : z + 6 ≤ 7258445) {g g1 : Mem} {x4 : Int32} (h : m_law_2 xs L g x4 = some g1) (hP : va_P D vwCl (wld cA ad g lay0) H) (hS : va_S (fun q : Nat => lo ≤ q) s.heap H locs) (hl : lv_has ls 7 [(0, .ref b), (1, .ref (ad 0)), (2, .ref (ad 54)), (3, .ref (ad 71)), (4, .int x4)])
    (kk : ∀ (H : Heap) (locs : List Loc) (ls : Array Slot), va_P D vwCl (wld cA ad g1 lay0) H → va_S (fun q : Nat => lo ≤ q) s.heap H locs → lv_has ls 7 [(0, .ref b), (1, .ref (ad 0)), (2, .ref (ad 54)), (3, .ref (ad 71)), (4, .int x4)] → W p l e room_1 s m args below meth c H locs (k + 1) (z + 6) Q (F0 m 717 ls [])) : W p l e room_1 s m args below meth c H locs k z Q (F0 m 200 ls []) := by
  unfold m_law_2 at h
  refine lv_aload_n S.1 S.2.1 dL_law_200 rfl (lv_at hl 1 rfl) ?_
  refine lv_aload_n S.1 S.2.1 dL_law_201 rfl (lv_at hl 0 rfl) ?_
  refine lv_iload S.1 S.2.1 dL_law_202 (lv_at hl 4 rfl) ?_
  refine lv_iconst (v := 1) S.1 S.2.1 dL_law_204 (by decide) ?_
  refine lv_iadd S.1 S.2.1 dL_law_205 ?_
  obtain ⟨hv1, hv1b, h⟩ := gi_some h
  refine va_sld S.1 S.2.1 hX0 hbl hbA hS hv1 dL_law_206 ?_
  refine lv_aload_n S.1 S.2.1 dL_law_207 rfl (lv_at hl 0 rfl) ?_
  refine lv_iload S.1 S.2.1 dL_law_208 (lv_at hl 4 rfl) ?_
  refine lv_iconst (v := 2) S.1 S.2.1 dL_law_210 (by decide) ?_
  refine lv_iadd S.1 S.2.1 dL_law_211 ?_
  obtain ⟨hv2, hv2b, h⟩ := gi_some h
  refine va_sld S.1 S.2.1 hX0 hbl hbA hS hv2 dL_law_212 ?_
  refine lv_aload_n S.1 S.2.1 dL_law_213 rfl (lv_at hl 0 rfl) ?_
  refine lv_iload S.1 S.2.1 dL_law_214 (lv_at hl 4 rfl) ?_
  refine lv_iconst (v := 3) S.1 S.2.1 dL_law_216 (by decide) ?_
  refine lv_iadd S.1 S.2.1 dL_law_217 ?_
  obtain ⟨hv3, hv3b, h⟩ := gi_some h
  refine va_sld S.1 S.2.1 hX0 hbl hbA hS hv3 dL_law_218 ?_
  refine lv_aload_n S.1 S.2.1 dL_law_219 rfl (lv_at hl 0 rfl) ?_
  refine lv_iload S.1 S.2.1 dL_law_220 (lv_at hl 4 rfl) ?_
  refine lv_iconst (v := 4) S.1 S.2.1 dL_law_222 (by decide) ?_
  refine lv_iadd S.1 S.2.1 dL_law_223 ?_
  obtain ⟨hv4, hv4b, h⟩ := gi_some h
  refine va_sld S.1 S.2.1 hX0 hbl hbA hS hv4 dL_law_224 ?_
  refine lv_aload_n S.1 S.2.1 dL_law_225 rfl (lv_at hl 0 rfl) ?_
  refine lv_iload S.1 S.2.1 dL_law_226 (lv_at hl 4 rfl) ?_
  refine lv_iconst (v := 5) S.1 S.2.1 dL_law_228 (by decide) ?_
  refine lv_iadd S.1 S.2.1 dL_law_229 ?_
  obtain ⟨hv5, hv5b, h⟩ := gi_some h
  refine va_sld S.1 S.2.1 hX0 hbl hbA hS hv5 dL_law_230 ?_
  refine lv_if_eq (tgt := 238) S.1 S.2.1 dL_law_231 (by decide) (fun hc6 => ?_) (fun hc6 => ?_)
  · rw [if_pos hc6] at h
    refine lv_iconst (v := 0) S.1 S.2.1 dL_law_238 (by decide) ?_
    refine lv_aload_n S.1 S.2.1 dL_law_239 rfl (lv_at hl 3 rfl) ?_
    obtain ⟨⟨g_9, r7⟩, h_8, h⟩ := bd_some h
    dsimp only at h
    refine k_W1 (vx_runSW (As := [.ref (ad 0), .int (xs ((x4 + 1)).toNatClampNeg), .int (xs ((x4 + 2)).toNatClampNeg), .int (xs ((x4 + 3)).toNatClampNeg), .int (xs ((x4 + 4)).toNatClampNeg), .int 0, .ref (ad 71)]) (rest := []) S (c_L_depend hA hst h_8) (vx_cwSW 7 S.2.2.2.2 vgL_law_L_depend rfl rfl rfl (by decide +kernel) ⟨Nat.le_of_ble_eq_true rfl, Nat.le_of_ble_eq_true rfl⟩) ⟨Pz_blind, Pz_at hlo hS hP hK hN hX hC⟩ rfl rfl hl.1 rfl (lv_room (Nat.le_of_ble_eq_true rfl)) dL_law_240 ⟨by simp only [room_1]; omega, by simp only [room_1]; omega⟩) hS (fun H locs hP hS => ?_)
    refine lv_istore (lv' := [(5, .int r7), (0, .ref b), (1, .ref (ad 0)), (2, .ref (ad 54)), (3, .ref (ad 71)), (4, .int x4)]) S.1 S.2.1 dL_law_243 hl (by decide) rfl (fun ls hl => ?_)
    refine lv_aload_n S.1 S.2.1 dL_law_245 rfl (lv_at hl 3 rfl) ?_
    refine lv_aload_n S.1 S.2.1 dL_law_246 rfl (lv_at hl 1 rfl) ?_
    refine lv_iload S.1 S.2.1 dL_law_247 (lv_at hl 5 rfl) ?_
    refine lv_iconst (v := 1) S.1 S.2.1 dL_law_249 (by decide) ?_
    refine lv_iadd S.1 S.2.1 dL_law_250 ?_
    obtain ⟨hv10, hv10b, h⟩ := gi_some h
    refine va_sld S.1 S.2.1 hX0 hbl hbA hS hv10 dL_law_251 ?_
    refine lv_aload_n S.1 S.2.1 dL_law_252 rfl (lv_at hl 1 rfl) ?_
    refine lv_iload S.1 S.2.1 dL_law_253 (lv_at hl 5 rfl) ?_
    refine lv_iconst (v := 2) S.1 S.2.1 dL_law_255 (by decide) ?_
    refine lv_iadd S.1 S.2.1 dL_law_256 ?_
    obtain ⟨hv11, hv11b, h⟩ := gi_some h
    refine va_sld S.1 S.2.1 hX0 hbl hbA hS hv11 dL_law_257 ?_
    refine lv_aload_n S.1 S.2.1 dL_law_258 rfl (lv_at hl 1 rfl) ?_
    refine lv_iload S.1 S.2.1 dL_law_259 (lv_at hl 5 rfl) ?_
    refine lv_iconst (v := 3) S.1 S.2.1 dL_law_261 (by decide) ?_
    refine lv_iadd S.1 S.2.1 dL_law_262 ?_
    obtain ⟨hv12, hv12b, h⟩ := gi_some h
    refine va_sld S.1 S.2.1 hX0 hbl hbA hS hv12 dL_law_263 ?_
    refine lv_aload_n S.1 S.2.1 dL_law_264 rfl (lv_at hl 1 rfl) ?_
    refine lv_iload S.1 S.2.1 dL_law_265 (lv_at hl 5 rfl) ?_
    refine lv_iconst (v := 4) S.1 S.2.1 dL_law_267 (by decide) ?_
    refine lv_iadd S.1 S.2.1 dL_law_268 ?_
    obtain ⟨hv13, hv13b, h⟩ := gi_some h
    refine va_sld S.1 S.2.1 hX0 hbl hbA hS hv13 dL_law_269 ?_
    refine lv_aload_n S.1 S.2.1 dL_law_270 rfl (lv_at hl 1 rfl) ?_
    refine lv_iload S.1 S.2.1 dL_law_271 (lv_at hl 5 rfl) ?_
    refine lv_iconst (v := 5) S.1 S.2.1 dL_law_273 (by decide) ?_
    refine lv_iadd S.1 S.2.1 dL_law_274 ?_
    obtain ⟨hv14, hv14b, h⟩ := gi_some h
    refine va_sld S.1 S.2.1 hX0 hbl hbA hS hv14 dL_law_275 ?_
    refine lv_if_eq (tgt := 283) S.1 S.2.1 dL_law_276 (by decide) (fun hc15 => ?_) (fun hc15 => ?_)
    · rw [if_pos hc15] at h
      refine lv_iconst (v := 0) S.1 S.2.1 dL_law_283 (by decide) ?_
      obtain ⟨⟨g_18, r16⟩, h_17, h⟩ := bd_some h
      dsimp only at h
      refine k_Wi (va_runV (As := [.int (xs ((x4 + 1)).toNatClampNeg), .int (xs ((x4 + 2)).toNatClampNeg), .int (xs ((x4 + 3)).toNatClampNeg), .int (xs ((x4 + 4)).toNatClampNeg), .int 0]) (rest := []) S (c_X3_depend hA h_17) (cwV 5 S.2.2.2.2 vgL_law_X3_depend rfl rfl rfl (by decide +kernel) ⟨Nat.le_of_ble_eq_true rfl, Nat.le_of_ble_eq_true rfl⟩) ⟨Pw_blind, va_recv hK hP (ci := 3) (q0 := 54) rfl (wld_at (d := dX) rfl), Pw_at hlo hS hP hK hN⟩ rfl rfl hl.1 rfl (lv_room (Nat.le_of_ble_eq_true rfl)) dL_law_284 ⟨by simp only [room_1]; omega, by simp only [room_1]; omega⟩) hS (fun H locs hP hS => ?_)
      refine lv_istore (lv' := [(6, .int r16), (5, .int r7), (0, .ref b), (1, .ref (ad 0)), (2, .ref (ad 54)), (3, .ref (ad 71)), (4, .int x4)]) S.1 S.2.1 dL_law_287 hl (by decide) rfl (fun ls hl => ?_)
      refine lv_aload_n S.1 S.2.1 dL_law_289 rfl (lv_at hl 4 rfl) ?_
      obtain ⟨r19, h_20, h⟩ := bd_some h
      refine k_R (r := r19) (va_runV (As := []) (rest := []) S (c_X3_thrown h_20) (cwV 0 S.2.2.2.2 vgL_law_X3_thrown rfl rfl rfl (by decide +kernel) ⟨Nat.le_of_ble_eq_true rfl, Nat.le_of_ble_eq_true rfl⟩) ⟨Pw_blind, va_recv hK hP (ci := 3) (q0 := 54) rfl (wld_at (d := dX) rfl), Pw_at hlo hS hP hK hN⟩ rfl rfl hl.1 rfl (lv_room (Nat.le_of_ble_eq_true rfl)) dL_law_290 ⟨by simp only [room_1]; omega, by simp only [room_1]; omega⟩) ?_
      refine lv_iload S.1 S.2.1 dL_law_293 (lv_at hl 1 rfl) ?_
      refine lv_icmp_eq (tgt := 300) S.1 S.2.1 dL_law_295 (by decide) (fun hc21 => ?_) (fun hc21 => ?_)
      · rw [if_pos hc21] at h
        refine lv_iload S.1 S.2.1 dL_law_300 (lv_at hl 1 rfl) ?_
        refine lv_if_ne (tgt := 317) S.1 S.2.1 dL_law_302 (by decide) (fun hc22 => ?_) (fun hc22 => ?_)
        · rw [if_neg hc22] at h
          refine lv_goto (tgt := 717) S.1 S.2.1 dL_law_317 (by decide) ?_
          exact kk H locs ls (by rw [← Option.some.inj h]; exact hP) hS (lv_sub hl [2, 3, 4, 5, 6] rfl)
        · rw [if_pos hc22] at h
          refine lv_aload_n S.1 S.2.1 dL_law_305 rfl (lv_at hl 5 rfl) ?_
          refine lv_iconst (v := 0) S.1 S.2.1 dL_law_306 (by decide) ?_
          refine r_lld S hK hP dL_law_307 ?_
          refine lv_iload S.1 S.2.1 dL_law_308 (lv_at hl 0 rfl) ?_
          refine lv_i2l (v := (r16).toInt64) S.1 S.2.1 dL_law_310 rfl ?_
          refine W.lcmp S.1 S.2.1 dL_law_311 ?_
          refine lv_if_eq (tgt := 317) S.1 S.2.1 dL_law_312 (by decide) (fun hc23 => ?_) (fun hc23 => ?_)
          · rw [if_pos hc23] at h
            refine lv_goto (tgt := 717) S.1 S.2.1 dL_law_317 (by decide) ?_
            exact kk H locs ls (by rw [← Option.some.inj h]; exact hP) hS (lv_sub hl [2, 3, 4, 5, 6] rfl)
          · rw [if_neg hc23] at h
            refine lv_iconst (v := 0) S.1 S.2.1 dL_law_315 (by decide) ?_
            exact nomatch h
      · rw [if_neg hc21] at h
        refine lv_iconst (v := 0) S.1 S.2.1 dL_law_298 (by decide) ?_
        exact nomatch h
    · rw [if_neg hc15] at h
      refine lv_iconst (v := 1) S.1 S.2.1 dL_law_279 (by decide) ?_
      refine lv_goto (tgt := 284) S.1 S.2.1 dL_law_280 (by decide) ?_
      obtain ⟨⟨g_26, r24⟩, h_25, h⟩ := bd_some h
      dsimp only at h
      refine k_Wi (va_runV (As := [.int (xs ((x4 + 1)).toNatClampNeg), .int (xs ((x4 + 2)).toNatClampNeg), .int (xs ((x4 + 3)).toNatClampNeg), .int (xs ((x4 + 4)).toNatClampNeg), .int 1]) (rest := []) S (c_X3_depend hA h_25) (cwV 5 S.2.2.2.2 vgL_law_X3_depend rfl rfl rfl (by decide +kernel) ⟨Nat.le_of_ble_eq_true rfl, Nat.le_of_ble_eq_true rfl⟩) ⟨Pw_blind, va_recv hK hP (ci := 3) (q0 := 54) rfl (wld_at (d := dX) rfl), Pw_at hlo hS hP hK hN⟩ rfl rfl hl.1 rfl (lv_room (Nat.le_of_ble_eq_true rfl)) dL_law_284 ⟨by simp only [room_1]; omega, by simp only [room_1]; omega⟩) hS (fun H locs hP hS => ?_)
      refine lv_istore (lv' := [(6, .int r24), (5, .int r7), (0, .ref b), (1, .ref (ad 0)), (2, .ref (ad 54)), (3, .ref (ad 71)), (4, .int x4)]) S.1 S.2.1 dL_law_287 hl (by decide) rfl (fun ls hl => ?_)
      refine lv_aload_n S.1 S.2.1 dL_law_289 rfl (lv_at hl 4 rfl) ?_
      obtain ⟨r27, h_28, h⟩ := bd_some h
      refine k_R (r := r27) (va_runV (As := []) (rest := []) S (c_X3_thrown h_28) (cwV 0 S.2.2.2.2 vgL_law_X3_thrown rfl rfl rfl (by decide +kernel) ⟨Nat.le_of_ble_eq_true rfl, Nat.le_of_ble_eq_true rfl⟩) ⟨Pw_blind, va_recv hK hP (ci := 3) (q0 := 54) rfl (wld_at (d := dX) rfl), Pw_at hlo hS hP hK hN⟩ rfl rfl hl.1 rfl (lv_room (Nat.le_of_ble_eq_true rfl)) dL_law_290 ⟨by simp only [room_1]; omega, by simp only [room_1]; omega⟩) ?_
      refine lv_iload S.1 S.2.1 dL_law_293 (lv_at hl 1 rfl) ?_
      refine lv_icmp_eq (tgt := 300) S.1 S.2.1 dL_law_295 (by decide) (fun hc29 => ?_) (fun hc29 => ?_)
      · rw [if_pos hc29] at h
        refine lv_iload S.1 S.2.1 dL_law_300 (lv_at hl 1 rfl) ?_
        refine lv_if_ne (tgt := 317) S.1 S.2.1 dL_law_302 (by decide) (fun hc30 => ?_) (fun hc30 => ?_)
        · rw [if_neg hc30] at h
          refine lv_goto (tgt := 717) S.1 S.2.1 dL_law_317 (by decide) ?_
          exact kk H locs ls (by rw [← Option.some.inj h]; exact hP) hS (lv_sub hl [2, 3, 4, 5, 6] rfl)
        · rw [if_pos hc30] at h
          refine lv_aload_n S.1 S.2.1 dL_law_305 rfl (lv_at hl 5 rfl) ?_
          refine lv_iconst (v := 0) S.1 S.2.1 dL_law_306 (by decide) ?_
          refine r_lld S hK hP dL_law_307 ?_
          refine lv_iload S.1 S.2.1 dL_law_308 (lv_at hl 0 rfl) ?_
          refine lv_i2l (v := (r24).toInt64) S.1 S.2.1 dL_law_310 rfl ?_
          refine W.lcmp S.1 S.2.1 dL_law_311 ?_
          refine lv_if_eq (tgt := 317) S.1 S.2.1 dL_law_312 (by decide) (fun hc31 => ?_) (fun hc31 => ?_)
          · rw [if_pos hc31] at h
            refine lv_goto (tgt := 717) S.1 S.2.1 dL_law_317 (by decide) ?_
            exact kk H locs ls (by rw [← Option.some.inj h]; exact hP) hS (lv_sub hl [2, 3, 4, 5, 6] rfl)
          · rw [if_neg hc31] at h
            refine lv_iconst (v := 0) S.1 S.2.1 dL_law_315 (by decide) ?_
            exact nomatch h
      · rw [if_neg hc29] at h
        refine lv_iconst (v := 0) S.1 S.2.1 dL_law_298 (by decide) ?_
        exact nomatch h
  · rw [if_neg hc6] at h
    refine lv_iconst (v := 1) S.1 S.2.1 dL_law_234 (by decide) ?_
    refine lv_goto (tgt := 239) S.1 S.2.1 dL_law_235 (by decide) ?_
    refine lv_aload_n S.1 S.2.1 dL_law_239 rfl (lv_at hl 3 rfl) ?_
    obtain ⟨⟨g_34, r32⟩, h_33, h⟩ := bd_some h
    dsimp only at h
    refine k_W1 (vx_runSW (As := [.ref (ad 0), .int (xs ((x4 + 1)).toNatClampNeg), .int (xs ((x4 + 2)).toNatClampNeg), .int (xs ((x4 + 3)).toNatClampNeg), .int (xs ((x4 + 4)).toNatClampNeg), .int 1, .ref (ad 71)]) (rest := []) S (c_L_depend hA hst h_33) (vx_cwSW 7 S.2.2.2.2 vgL_law_L_depend rfl rfl rfl (by decide +kernel) ⟨Nat.le_of_ble_eq_true rfl, Nat.le_of_ble_eq_true rfl⟩) ⟨Pz_blind, Pz_at hlo hS hP hK hN hX hC⟩ rfl rfl hl.1 rfl (lv_room (Nat.le_of_ble_eq_true rfl)) dL_law_240 ⟨by simp only [room_1]; omega, by simp only [room_1]; omega⟩) hS (fun H locs hP hS => ?_)
    refine lv_istore (lv' := [(5, .int r32), (0, .ref b), (1, .ref (ad 0)), (2, .ref (ad 54)), (3, .ref (ad 71)), (4, .int x4)]) S.1 S.2.1 dL_law_243 hl (by decide) rfl (fun ls hl => ?_)
    refine lv_aload_n S.1 S.2.1 dL_law_245 rfl (lv_at hl 3 rfl) ?_
    refine lv_aload_n S.1 S.2.1 dL_law_246 rfl (lv_at hl 1 rfl) ?_
    refine lv_iload S.1 S.2.1 dL_law_247 (lv_at hl 5 rfl) ?_
    refine lv_iconst (v := 1) S.1 S.2.1 dL_law_249 (by decide) ?_
    refine lv_iadd S.1 S.2.1 dL_law_250 ?_
    obtain ⟨hv35, hv35b, h⟩ := gi_some h
    refine va_sld S.1 S.2.1 hX0 hbl hbA hS hv35 dL_law_251 ?_
    refine lv_aload_n S.1 S.2.1 dL_law_252 rfl (lv_at hl 1 rfl) ?_
    refine lv_iload S.1 S.2.1 dL_law_253 (lv_at hl 5 rfl) ?_
    refine lv_iconst (v := 2) S.1 S.2.1 dL_law_255 (by decide) ?_
    refine lv_iadd S.1 S.2.1 dL_law_256 ?_
    obtain ⟨hv36, hv36b, h⟩ := gi_some h
    refine va_sld S.1 S.2.1 hX0 hbl hbA hS hv36 dL_law_257 ?_
    refine lv_aload_n S.1 S.2.1 dL_law_258 rfl (lv_at hl 1 rfl) ?_
    refine lv_iload S.1 S.2.1 dL_law_259 (lv_at hl 5 rfl) ?_
    refine lv_iconst (v := 3) S.1 S.2.1 dL_law_261 (by decide) ?_
    refine lv_iadd S.1 S.2.1 dL_law_262 ?_
    obtain ⟨hv37, hv37b, h⟩ := gi_some h
    refine va_sld S.1 S.2.1 hX0 hbl hbA hS hv37 dL_law_263 ?_
    refine lv_aload_n S.1 S.2.1 dL_law_264 rfl (lv_at hl 1 rfl) ?_
    refine lv_iload S.1 S.2.1 dL_law_265 (lv_at hl 5 rfl) ?_
    refine lv_iconst (v := 4) S.1 S.2.1 dL_law_267 (by decide) ?_
    refine lv_iadd S.1 S.2.1 dL_law_268 ?_
    obtain ⟨hv38, hv38b, h⟩ := gi_some h
    refine va_sld S.1 S.2.1 hX0 hbl hbA hS hv38 dL_law_269 ?_
    refine lv_aload_n S.1 S.2.1 dL_law_270 rfl (lv_at hl 1 rfl) ?_
    refine lv_iload S.1 S.2.1 dL_law_271 (lv_at hl 5 rfl) ?_
    refine lv_iconst (v := 5) S.1 S.2.1 dL_law_273 (by decide) ?_
    refine lv_iadd S.1 S.2.1 dL_law_274 ?_
    obtain ⟨hv39, hv39b, h⟩ := gi_some h
    refine va_sld S.1 S.2.1 hX0 hbl hbA hS hv39 dL_law_275 ?_
    refine lv_if_eq (tgt := 283) S.1 S.2.1 dL_law_276 (by decide) (fun hc40 => ?_) (fun hc40 => ?_)
    · rw [if_pos hc40] at h
      refine lv_iconst (v := 0) S.1 S.2.1 dL_law_283 (by decide) ?_
      obtain ⟨⟨g_43, r41⟩, h_42, h⟩ := bd_some h
      dsimp only at h
      refine k_Wi (va_runV (As := [.int (xs ((x4 + 1)).toNatClampNeg), .int (xs ((x4 + 2)).toNatClampNeg), .int (xs ((x4 + 3)).toNatClampNeg), .int (xs ((x4 + 4)).toNatClampNeg), .int 0]) (rest := []) S (c_X3_depend hA h_42) (cwV 5 S.2.2.2.2 vgL_law_X3_depend rfl rfl rfl (by decide +kernel) ⟨Nat.le_of_ble_eq_true rfl, Nat.le_of_ble_eq_true rfl⟩) ⟨Pw_blind, va_recv hK hP (ci := 3) (q0 := 54) rfl (wld_at (d := dX) rfl), Pw_at hlo hS hP hK hN⟩ rfl rfl hl.1 rfl (lv_room (Nat.le_of_ble_eq_true rfl)) dL_law_284 ⟨by simp only [room_1]; omega, by simp only [room_1]; omega⟩) hS (fun H locs hP hS => ?_)
      refine lv_istore (lv' := [(6, .int r41), (5, .int r32), (0, .ref b), (1, .ref (ad 0)), (2, .ref (ad 54)), (3, .ref (ad 71)), (4, .int x4)]) S.1 S.2.1 dL_law_287 hl (by decide) rfl (fun ls hl => ?_)
      refine lv_aload_n S.1 S.2.1 dL_law_289 rfl (lv_at hl 4 rfl) ?_
      obtain ⟨r44, h_45, h⟩ := bd_some h
      refine k_R (r := r44) (va_runV (As := []) (rest := []) S (c_X3_thrown h_45) (cwV 0 S.2.2.2.2 vgL_law_X3_thrown rfl rfl rfl (by decide +kernel) ⟨Nat.le_of_ble_eq_true rfl, Nat.le_of_ble_eq_true rfl⟩) ⟨Pw_blind, va_recv hK hP (ci := 3) (q0 := 54) rfl (wld_at (d := dX) rfl), Pw_at hlo hS hP hK hN⟩ rfl rfl hl.1 rfl (lv_room (Nat.le_of_ble_eq_true rfl)) dL_law_290 ⟨by simp only [room_1]; omega, by simp only [room_1]; omega⟩) ?_
      refine lv_iload S.1 S.2.1 dL_law_293 (lv_at hl 1 rfl) ?_
      refine lv_icmp_eq (tgt := 300) S.1 S.2.1 dL_law_295 (by decide) (fun hc46 => ?_) (fun hc46 => ?_)
      · rw [if_pos hc46] at h
        refine lv_iload S.1 S.2.1 dL_law_300 (lv_at hl 1 rfl) ?_
        refine lv_if_ne (tgt := 317) S.1 S.2.1 dL_law_302 (by decide) (fun hc47 => ?_) (fun hc47 => ?_)
        · rw [if_neg hc47] at h
          refine lv_goto (tgt := 717) S.1 S.2.1 dL_law_317 (by decide) ?_
          exact kk H locs ls (by rw [← Option.some.inj h]; exact hP) hS (lv_sub hl [2, 3, 4, 5, 6] rfl)
        · rw [if_pos hc47] at h
          refine lv_aload_n S.1 S.2.1 dL_law_305 rfl (lv_at hl 5 rfl) ?_
          refine lv_iconst (v := 0) S.1 S.2.1 dL_law_306 (by decide) ?_
          refine r_lld S hK hP dL_law_307 ?_
          refine lv_iload S.1 S.2.1 dL_law_308 (lv_at hl 0 rfl) ?_
          refine lv_i2l (v := (r41).toInt64) S.1 S.2.1 dL_law_310 rfl ?_
          refine W.lcmp S.1 S.2.1 dL_law_311 ?_
          refine lv_if_eq (tgt := 317) S.1 S.2.1 dL_law_312 (by decide) (fun hc48 => ?_) (fun hc48 => ?_)
          · rw [if_pos hc48] at h
            refine lv_goto (tgt := 717) S.1 S.2.1 dL_law_317 (by decide) ?_
            exact kk H locs ls (by rw [← Option.some.inj h]; exact hP) hS (lv_sub hl [2, 3, 4, 5, 6] rfl)
          · rw [if_neg hc48] at h
            refine lv_iconst (v := 0) S.1 S.2.1 dL_law_315 (by decide) ?_
            exact nomatch h
      · rw [if_neg hc46] at h
        refine lv_iconst (v := 0) S.1 S.2.1 dL_law_298 (by decide) ?_
        exact nomatch h
    · rw [if_neg hc40] at h
      refine lv_iconst (v := 1) S.1 S.2.1 dL_law_279 (by decide) ?_
      refine lv_goto (tgt := 284) S.1 S.2.1 dL_law_280 (by decide) ?_
      obtain ⟨⟨g_51, r49⟩, h_50, h⟩ := bd_some h
      dsimp only at h
      refine k_Wi (va_runV (As := [.int (xs ((x4 + 1)).toNatClampNeg), .int (xs ((x4 + 2)).toNatClampNeg), .int (xs ((x4 + 3)).toNatClampNeg), .int (xs ((x4 + 4)).toNatClampNeg), .int 1]) (rest := []) S (c_X3_depend hA h_50) (cwV 5 S.2.2.2.2 vgL_law_X3_depend rfl rfl rfl (by decide +kernel) ⟨Nat.le_of_ble_eq_true rfl, Nat.le_of_ble_eq_true rfl⟩) ⟨Pw_blind, va_recv hK hP (ci := 3) (q0 := 54) rfl (wld_at (d := dX) rfl), Pw_at hlo hS hP hK hN⟩ rfl rfl hl.1 rfl (lv_room (Nat.le_of_ble_eq_true rfl)) dL_law_284 ⟨by simp only [room_1]; omega, by simp only [room_1]; omega⟩) hS (fun H locs hP hS => ?_)
      refine lv_istore (lv' := [(6, .int r49), (5, .int r32), (0, .ref b), (1, .ref (ad 0)), (2, .ref (ad 54)), (3, .ref (ad 71)), (4, .int x4)]) S.1 S.2.1 dL_law_287 hl (by decide) rfl (fun ls hl => ?_)
      refine lv_aload_n S.1 S.2.1 dL_law_289 rfl (lv_at hl 4 rfl) ?_
      obtain ⟨r52, h_53, h⟩ := bd_some h
      refine k_R (r := r52) (va_runV (As := []) (rest := []) S (c_X3_thrown h_53) (cwV 0 S.2.2.2.2 vgL_law_X3_thrown rfl rfl rfl (by decide +kernel) ⟨Nat.le_of_ble_eq_true rfl, Nat.le_of_ble_eq_true rfl⟩) ⟨Pw_blind, va_recv hK hP (ci := 3) (q0 := 54) rfl (wld_at (d := dX) rfl), Pw_at hlo hS hP hK hN⟩ rfl rfl hl.1 rfl (lv_room (Nat.le_of_ble_eq_true rfl)) dL_law_290 ⟨by simp only [room_1]; omega, by simp only [room_1]; omega⟩) ?_
      refine lv_iload S.1 S.2.1 dL_law_293 (lv_at hl 1 rfl) ?_
      refine lv_icmp_eq (tgt := 300) S.1 S.2.1 dL_law_295 (by decide) (fun hc54 => ?_) (fun hc54 => ?_)
      · rw [if_pos hc54] at h
        refine lv_iload S.1 S.2.1 dL_law_300 (lv_at hl 1 rfl) ?_
        refine lv_if_ne (tgt := 317) S.1 S.2.1 dL_law_302 (by decide) (fun hc55 => ?_) (fun hc55 => ?_)
        · rw [if_neg hc55] at h
          refine lv_goto (tgt := 717) S.1 S.2.1 dL_law_317 (by decide) ?_
          exact kk H locs ls (by rw [← Option.some.inj h]; exact hP) hS (lv_sub hl [2, 3, 4, 5, 6] rfl)
        · rw [if_pos hc55] at h
          refine lv_aload_n S.1 S.2.1 dL_law_305 rfl (lv_at hl 5 rfl) ?_
          refine lv_iconst (v := 0) S.1 S.2.1 dL_law_306 (by decide) ?_
          refine r_lld S hK hP dL_law_307 ?_
          refine lv_iload S.1 S.2.1 dL_law_308 (lv_at hl 0 rfl) ?_
          refine lv_i2l (v := (r49).toInt64) S.1 S.2.1 dL_law_310 rfl ?_
          refine W.lcmp S.1 S.2.1 dL_law_311 ?_
          refine lv_if_eq (tgt := 317) S.1 S.2.1 dL_law_312 (by decide) (fun hc56 => ?_) (fun hc56 => ?_)
          · rw [if_pos hc56] at h
            refine lv_goto (tgt := 717) S.1 S.2.1 dL_law_317 (by decide) ?_
            exact kk H locs ls (by rw [← Option.some.inj h]; exact hP) hS (lv_sub hl [2, 3, 4, 5, 6] rfl)
          · rw [if_neg hc56] at h
            refine lv_iconst (v := 0) S.1 S.2.1 dL_law_315 (by decide) ?_
            exact nomatch h
      · rw [if_neg hc54] at h
        refine lv_iconst (v := 0) S.1 S.2.1 dL_law_298 (by decide) ?_
        exact nomatch h

def m_law_3 (xs : Nat → Int32) (L : Nat) (g : Mem) (x4 : Int32) : Option Mem := gi (x4 + 1) L ((m_L_relink g (xs ((x4 + 1)).toNatClampNeg)).bind fun qr2 => gi (x4 + 1) L ((m_X3_relink qr2.1 (xs ((x4 + 1)).toNatClampNeg)).bind fun qr6 => (m_X3_thrown qr6.1).bind fun r9 => (if r9 = qr2.2 then (if qr2.2 = 0 then (if (lg_cmp ((qr6.1 71 0)).toInt64 (qr6.2).toInt64) = 0 then some qr6.1 else none) else some qr6.1) else none)))
set_option maxRecDepth 100000 in
set_option maxHeartbeats 4000000 in
theorem c_law_3 {p : Program} {l : Launch} {e : Env} {s : State} {m : MethodId} {args : Array Value} {below : List Frame} {meth : Method} {c : Code} {H : Heap} {locs : List Loc} {Q : State → Prop} {ls : Array Slot} {D : va_G} {cA : Nat → ClassId} {ad : Nat → Nat} {lo b L : Nat} {xs : Nat → Int32} {k z : Nat} (hA : AdOk lo ad lay0.length) (hst : l.stackTraces = false) (S : CallFix p m c code 7 s args wvL_law RL) (hX0 : va_X b L xs s s.heap) (hbl : b < s.heap.size) (hbA : ¬ (fun q : Nat => lo ≤ q) b) (hlo : lo ≤ s.heap.size) (hK : va_K D vwCl (tysL cA) s) (hN : NWd s) (hX : ZX lo s) (hC : NCd s) (hk : k + 1 ≤ 612553) (hz : z + 6 ≤ 7258445) {g g1 : Mem} {x4 : Int32} (h : m_law_3 xs L g x4 = some g1) (hP : va_P D vwCl (wld cA ad g lay0) H) (hS : va_S (fun q : Nat => lo ≤ q) s.heap H locs) (hl : lv_has ls 7 [(0, .ref b), (1, .ref (ad 0)), (2, .ref (ad 54)), (3, .ref (ad 71)), (4, .int x4)])
    (kk : ∀ (H : Heap) (locs : List Loc) (ls : Array Slot), va_P D vwCl (wld cA ad g1 lay0) H → va_S (fun q : Nat => lo ≤ q) s.heap H locs → lv_has ls 7 [(0, .ref b), (1, .ref (ad 0)), (2, .ref (ad 54)), (3, .ref (ad 71)), (4, .int x4)] → W p l e room_1 s m args below meth c H locs (k + 1) (z + 6) Q (F0 m 717 ls [])) : W p l e room_1 s m args below meth c H locs k z Q (F0 m 320 ls []) := by
  unfold m_law_3 at h
  refine lv_aload_n S.1 S.2.1 dL_law_320 rfl (lv_at hl 1 rfl) ?_
  refine lv_aload_n S.1 S.2.1 dL_law_321 rfl (lv_at hl 0 rfl) ?_
  refine lv_iload S.1 S.2.1 dL_law_322 (lv_at hl 4 rfl) ?_
  refine lv_iconst (v := 1) S.1 S.2.1 dL_law_324 (by decide) ?_
  refine lv_iadd S.1 S.2.1 dL_law_325 ?_
  obtain ⟨hv1, hv1b, h⟩ := gi_some h
  refine va_sld S.1 S.2.1 hX0 hbl hbA hS hv1 dL_law_326 ?_
  refine lv_aload_n S.1 S.2.1 dL_law_327 rfl (lv_at hl 3 rfl) ?_
  obtain ⟨⟨g_4, r2⟩, h_3, h⟩ := bd_some h
  dsimp only at h
  refine k_W1 (vx_runSW (As := [.ref (ad 0), .int (xs ((x4 + 1)).toNatClampNeg), .ref (ad 71)]) (rest := []) S (c_L_relink hA hst h_3) (vx_cwSW 3 S.2.2.2.2 vgL_law_L_relink rfl rfl rfl (by decide +kernel) ⟨Nat.le_of_ble_eq_true rfl, Nat.le_of_ble_eq_true rfl⟩) ⟨Pz_blind, Pz_at hlo hS hP hK hN hX hC⟩ rfl rfl hl.1 rfl (lv_room (Nat.le_of_ble_eq_true rfl)) dL_law_328 ⟨by simp only [room_1]; omega, by simp only [room_1]; omega⟩) hS (fun H locs hP hS => ?_)
  refine lv_istore (lv' := [(5, .int r2), (0, .ref b), (1, .ref (ad 0)), (2, .ref (ad 54)), (3, .ref (ad 71)), (4, .int x4)]) S.1 S.2.1 dL_law_331 hl (by decide) rfl (fun ls hl => ?_)
  refine lv_aload_n S.1 S.2.1 dL_law_333 rfl (lv_at hl 3 rfl) ?_
  refine lv_aload_n S.1 S.2.1 dL_law_334 rfl (lv_at hl 1 rfl) ?_
  refine lv_iload S.1 S.2.1 dL_law_335 (lv_at hl 5 rfl) ?_
  refine lv_iconst (v := 1) S.1 S.2.1 dL_law_337 (by decide) ?_
  refine lv_iadd S.1 S.2.1 dL_law_338 ?_
  obtain ⟨hv5, hv5b, h⟩ := gi_some h
  refine va_sld S.1 S.2.1 hX0 hbl hbA hS hv5 dL_law_339 ?_
  obtain ⟨⟨g_8, r6⟩, h_7, h⟩ := bd_some h
  dsimp only at h
  refine k_Wi (va_runV (As := [.int (xs ((x4 + 1)).toNatClampNeg)]) (rest := []) S (c_X3_relink hA h_7) (cwV 1 S.2.2.2.2 vgL_law_X3_relink rfl rfl rfl (by decide +kernel) ⟨Nat.le_of_ble_eq_true rfl, Nat.le_of_ble_eq_true rfl⟩) ⟨Pw_blind, va_recv hK hP (ci := 3) (q0 := 54) rfl (wld_at (d := dX) rfl), Pw_at hlo hS hP hK hN⟩ rfl rfl hl.1 rfl (lv_room (Nat.le_of_ble_eq_true rfl)) dL_law_340 ⟨by simp only [room_1]; omega, by simp only [room_1]; omega⟩) hS (fun H locs hP hS => ?_)
  refine lv_istore (lv' := [(6, .int r6), (5, .int r2), (0, .ref b), (1, .ref (ad 0)), (2, .ref (ad 54)), (3, .ref (ad 71)), (4, .int x4)]) S.1 S.2.1 dL_law_343 hl (by decide) rfl (fun ls hl => ?_)
  refine lv_aload_n S.1 S.2.1 dL_law_345 rfl (lv_at hl 4 rfl) ?_
  obtain ⟨r9, h_10, h⟩ := bd_some h
  refine k_R (r := r9) (va_runV (As := []) (rest := []) S (c_X3_thrown h_10) (cwV 0 S.2.2.2.2 vgL_law_X3_thrown rfl rfl rfl (by decide +kernel) ⟨Nat.le_of_ble_eq_true rfl, Nat.le_of_ble_eq_true rfl⟩) ⟨Pw_blind, va_recv hK hP (ci := 3) (q0 := 54) rfl (wld_at (d := dX) rfl), Pw_at hlo hS hP hK hN⟩ rfl rfl hl.1 rfl (lv_room (Nat.le_of_ble_eq_true rfl)) dL_law_346 ⟨by simp only [room_1]; omega, by simp only [room_1]; omega⟩) ?_
  refine lv_iload S.1 S.2.1 dL_law_349 (lv_at hl 1 rfl) ?_
  refine lv_icmp_eq (tgt := 356) S.1 S.2.1 dL_law_351 (by decide) (fun hc11 => ?_) (fun hc11 => ?_)
  · rw [if_pos hc11] at h
    refine lv_iload S.1 S.2.1 dL_law_356 (lv_at hl 1 rfl) ?_
    refine lv_if_ne (tgt := 373) S.1 S.2.1 dL_law_358 (by decide) (fun hc12 => ?_) (fun hc12 => ?_)
    · rw [if_neg hc12] at h
      refine lv_goto (tgt := 717) S.1 S.2.1 dL_law_373 (by decide) ?_
      exact kk H locs ls (by rw [← Option.some.inj h]; exact hP) hS (lv_sub hl [2, 3, 4, 5, 6] rfl)
    · rw [if_pos hc12] at h
      refine lv_aload_n S.1 S.2.1 dL_law_361 rfl (lv_at hl 5 rfl) ?_
      refine lv_iconst (v := 0) S.1 S.2.1 dL_law_362 (by decide) ?_
      refine r_lld S hK hP dL_law_363 ?_
      refine lv_iload S.1 S.2.1 dL_law_364 (lv_at hl 0 rfl) ?_
      refine lv_i2l (v := (r6).toInt64) S.1 S.2.1 dL_law_366 rfl ?_
      refine W.lcmp S.1 S.2.1 dL_law_367 ?_
      refine lv_if_eq (tgt := 373) S.1 S.2.1 dL_law_368 (by decide) (fun hc13 => ?_) (fun hc13 => ?_)
      · rw [if_pos hc13] at h
        refine lv_goto (tgt := 717) S.1 S.2.1 dL_law_373 (by decide) ?_
        exact kk H locs ls (by rw [← Option.some.inj h]; exact hP) hS (lv_sub hl [2, 3, 4, 5, 6] rfl)
      · rw [if_neg hc13] at h
        refine lv_iconst (v := 0) S.1 S.2.1 dL_law_371 (by decide) ?_
        exact nomatch h
  · rw [if_neg hc11] at h
    refine lv_iconst (v := 0) S.1 S.2.1 dL_law_354 (by decide) ?_
    exact nomatch h

def m_law_4 (xs : Nat → Int32) (L : Nat) (g : Mem) (x4 : Int32) : Option Mem := gi (x4 + 1) L ((m_L_load g (xs ((x4 + 1)).toNatClampNeg)).bind fun qr2 => gi (x4 + 1) L ((m_X3_load qr2.1 (xs ((x4 + 1)).toNatClampNeg)).bind fun qr6 => (m_X3_thrown qr6.1).bind fun r9 => (if r9 = qr2.2 then (if qr2.2 = 0 then (if (lg_cmp ((qr6.1 71 0)).toInt64 (qr6.2).toInt64) = 0 then some qr6.1 else none) else some qr6.1) else none)))
set_option maxRecDepth 100000 in
set_option maxHeartbeats 4000000 in
theorem c_law_4 {p : Program} {l : Launch} {e : Env} {s : State} {m : MethodId} {args : Array Value} {below : List Frame} {meth : Method} {c : Code} {H : Heap} {locs : List Loc} {Q : State → Prop} {ls : Array Slot} {D : va_G} {cA : Nat → ClassId} {ad : Nat → Nat} {lo b L : Nat} {xs : Nat → Int32} {k z : Nat} (hA : AdOk lo ad lay0.length) (hst : l.stackTraces = false) (S : CallFix p m c code 7 s args wvL_law RL) (hX0 : va_X b L xs s s.heap) (hbl : b < s.heap.size) (hbA : ¬ (fun q : Nat => lo ≤ q) b) (hlo : lo ≤ s.heap.size) (hK : va_K D vwCl (tysL cA) s) (hN : NWd s) (hX : ZX lo s) (hC : NCd s) (hk : k + 1 ≤ 612553) (hz : z + 6 ≤ 7258445) {g g1 : Mem} {x4 : Int32} (h : m_law_4 xs L g x4 = some g1) (hP : va_P D vwCl (wld cA ad g lay0) H) (hS : va_S (fun q : Nat => lo ≤ q) s.heap H locs) (hl : lv_has ls 7 [(0, .ref b), (1, .ref (ad 0)), (2, .ref (ad 54)), (3, .ref (ad 71)), (4, .int x4)])
    (kk : ∀ (H : Heap) (locs : List Loc) (ls : Array Slot), va_P D vwCl (wld cA ad g1 lay0) H → va_S (fun q : Nat => lo ≤ q) s.heap H locs → lv_has ls 7 [(0, .ref b), (1, .ref (ad 0)), (2, .ref (ad 54)), (3, .ref (ad 71)), (4, .int x4)] → W p l e room_1 s m args below meth c H locs (k + 1) (z + 6) Q (F0 m 717 ls [])) : W p l e room_1 s m args below meth c H locs k z Q (F0 m 376 ls []) := by
  unfold m_law_4 at h
  refine lv_aload_n S.1 S.2.1 dL_law_376 rfl (lv_at hl 1 rfl) ?_
  refine lv_aload_n S.1 S.2.1 dL_law_377 rfl (lv_at hl 0 rfl) ?_
  refine lv_iload S.1 S.2.1 dL_law_378 (lv_at hl 4 rfl) ?_
  refine lv_iconst (v := 1) S.1 S.2.1 dL_law_380 (by decide) ?_
  refine lv_iadd S.1 S.2.1 dL_law_381 ?_
  obtain ⟨hv1, hv1b, h⟩ := gi_some h
  refine va_sld S.1 S.2.1 hX0 hbl hbA hS hv1 dL_law_382 ?_
  refine lv_aload_n S.1 S.2.1 dL_law_383 rfl (lv_at hl 3 rfl) ?_
  obtain ⟨⟨g_4, r2⟩, h_3, h⟩ := bd_some h
  dsimp only at h
  refine k_W1 (vx_runSW (As := [.ref (ad 0), .int (xs ((x4 + 1)).toNatClampNeg), .ref (ad 71)]) (rest := []) S (c_L_load hA hst h_3) (vx_cwSW 3 S.2.2.2.2 vgL_law_L_load rfl rfl rfl (by decide +kernel) ⟨Nat.le_of_ble_eq_true rfl, Nat.le_of_ble_eq_true rfl⟩) ⟨Pz_blind, Pz_at hlo hS hP hK hN hX hC⟩ rfl rfl hl.1 rfl (lv_room (Nat.le_of_ble_eq_true rfl)) dL_law_384 ⟨by simp only [room_1]; omega, by simp only [room_1]; omega⟩) hS (fun H locs hP hS => ?_)
  refine lv_istore (lv' := [(5, .int r2), (0, .ref b), (1, .ref (ad 0)), (2, .ref (ad 54)), (3, .ref (ad 71)), (4, .int x4)]) S.1 S.2.1 dL_law_387 hl (by decide) rfl (fun ls hl => ?_)
  refine lv_aload_n S.1 S.2.1 dL_law_389 rfl (lv_at hl 3 rfl) ?_
  refine lv_aload_n S.1 S.2.1 dL_law_390 rfl (lv_at hl 1 rfl) ?_
  refine lv_iload S.1 S.2.1 dL_law_391 (lv_at hl 5 rfl) ?_
  refine lv_iconst (v := 1) S.1 S.2.1 dL_law_393 (by decide) ?_
  refine lv_iadd S.1 S.2.1 dL_law_394 ?_
  obtain ⟨hv5, hv5b, h⟩ := gi_some h
  refine va_sld S.1 S.2.1 hX0 hbl hbA hS hv5 dL_law_395 ?_
  obtain ⟨⟨g_8, r6⟩, h_7, h⟩ := bd_some h
  dsimp only at h
  refine k_Wi (va_runV (As := [.int (xs ((x4 + 1)).toNatClampNeg)]) (rest := []) S (c_X3_load hA h_7) (cwV 1 S.2.2.2.2 vgL_law_X3_load rfl rfl rfl (by decide +kernel) ⟨Nat.le_of_ble_eq_true rfl, Nat.le_of_ble_eq_true rfl⟩) ⟨Pw_blind, va_recv hK hP (ci := 3) (q0 := 54) rfl (wld_at (d := dX) rfl), Pw_at hlo hS hP hK hN⟩ rfl rfl hl.1 rfl (lv_room (Nat.le_of_ble_eq_true rfl)) dL_law_396 ⟨by simp only [room_1]; omega, by simp only [room_1]; omega⟩) hS (fun H locs hP hS => ?_)
  refine lv_istore (lv' := [(6, .int r6), (5, .int r2), (0, .ref b), (1, .ref (ad 0)), (2, .ref (ad 54)), (3, .ref (ad 71)), (4, .int x4)]) S.1 S.2.1 dL_law_399 hl (by decide) rfl (fun ls hl => ?_)
  refine lv_aload_n S.1 S.2.1 dL_law_401 rfl (lv_at hl 4 rfl) ?_
  obtain ⟨r9, h_10, h⟩ := bd_some h
  refine k_R (r := r9) (va_runV (As := []) (rest := []) S (c_X3_thrown h_10) (cwV 0 S.2.2.2.2 vgL_law_X3_thrown rfl rfl rfl (by decide +kernel) ⟨Nat.le_of_ble_eq_true rfl, Nat.le_of_ble_eq_true rfl⟩) ⟨Pw_blind, va_recv hK hP (ci := 3) (q0 := 54) rfl (wld_at (d := dX) rfl), Pw_at hlo hS hP hK hN⟩ rfl rfl hl.1 rfl (lv_room (Nat.le_of_ble_eq_true rfl)) dL_law_402 ⟨by simp only [room_1]; omega, by simp only [room_1]; omega⟩) ?_
  refine lv_iload S.1 S.2.1 dL_law_405 (lv_at hl 1 rfl) ?_
  refine lv_icmp_eq (tgt := 412) S.1 S.2.1 dL_law_407 (by decide) (fun hc11 => ?_) (fun hc11 => ?_)
  · rw [if_pos hc11] at h
    refine lv_iload S.1 S.2.1 dL_law_412 (lv_at hl 1 rfl) ?_
    refine lv_if_ne (tgt := 429) S.1 S.2.1 dL_law_414 (by decide) (fun hc12 => ?_) (fun hc12 => ?_)
    · rw [if_neg hc12] at h
      refine lv_goto (tgt := 717) S.1 S.2.1 dL_law_429 (by decide) ?_
      exact kk H locs ls (by rw [← Option.some.inj h]; exact hP) hS (lv_sub hl [2, 3, 4, 5, 6] rfl)
    · rw [if_pos hc12] at h
      refine lv_aload_n S.1 S.2.1 dL_law_417 rfl (lv_at hl 5 rfl) ?_
      refine lv_iconst (v := 0) S.1 S.2.1 dL_law_418 (by decide) ?_
      refine r_lld S hK hP dL_law_419 ?_
      refine lv_iload S.1 S.2.1 dL_law_420 (lv_at hl 0 rfl) ?_
      refine lv_i2l (v := (r6).toInt64) S.1 S.2.1 dL_law_422 rfl ?_
      refine W.lcmp S.1 S.2.1 dL_law_423 ?_
      refine lv_if_eq (tgt := 429) S.1 S.2.1 dL_law_424 (by decide) (fun hc13 => ?_) (fun hc13 => ?_)
      · rw [if_pos hc13] at h
        refine lv_goto (tgt := 717) S.1 S.2.1 dL_law_429 (by decide) ?_
        exact kk H locs ls (by rw [← Option.some.inj h]; exact hP) hS (lv_sub hl [2, 3, 4, 5, 6] rfl)
      · rw [if_neg hc13] at h
        refine lv_iconst (v := 0) S.1 S.2.1 dL_law_427 (by decide) ?_
        exact nomatch h
  · rw [if_neg hc11] at h
    refine lv_iconst (v := 0) S.1 S.2.1 dL_law_410 (by decide) ?_
    exact nomatch h

def m_law_5 (xs : Nat → Int32) (L : Nat) (g : Mem) (x4 : Int32) : Option Mem := gi (x4 + 1) L ((m_L_unload g (xs ((x4 + 1)).toNatClampNeg)).bind fun qr2 => gi (x4 + 1) L ((m_X3_unload qr2.1 (xs ((x4 + 1)).toNatClampNeg)).bind fun qr6 => (m_X3_thrown qr6.1).bind fun r9 => (if r9 = qr2.2 then (if qr2.2 = 0 then (if (lg_cmp ((qr6.1 71 0)).toInt64 (qr6.2).toInt64) = 0 then some qr6.1 else none) else some qr6.1) else none)))
set_option maxRecDepth 100000 in
set_option maxHeartbeats 4000000 in
theorem c_law_5 {p : Program} {l : Launch} {e : Env} {s : State} {m : MethodId} {args : Array Value} {below : List Frame} {meth : Method} {c : Code} {H : Heap} {locs : List Loc} {Q : State → Prop} {ls : Array Slot} {D : va_G} {cA : Nat → ClassId} {ad : Nat → Nat} {lo b L : Nat} {xs : Nat → Int32} {k z : Nat} (hA : AdOk lo ad lay0.length) (hst : l.stackTraces = false) (S : CallFix p m c code 7 s args wvL_law RL) (hX0 : va_X b L xs s s.heap) (hbl : b < s.heap.size) (hbA : ¬ (fun q : Nat => lo ≤ q) b) (hlo : lo ≤ s.heap.size) (hK : va_K D vwCl (tysL cA) s) (hN : NWd s) (hX : ZX lo s) (hC : NCd s) (hk : k + 1 ≤ 612553) (hz : z + 6 ≤ 7258445) {g g1 : Mem} {x4 : Int32} (h : m_law_5 xs L g x4 = some g1) (hP : va_P D vwCl (wld cA ad g lay0) H) (hS : va_S (fun q : Nat => lo ≤ q) s.heap H locs) (hl : lv_has ls 7 [(0, .ref b), (1, .ref (ad 0)), (2, .ref (ad 54)), (3, .ref (ad 71)), (4, .int x4)])
    (kk : ∀ (H : Heap) (locs : List Loc) (ls : Array Slot), va_P D vwCl (wld cA ad g1 lay0) H → va_S (fun q : Nat => lo ≤ q) s.heap H locs → lv_has ls 7 [(0, .ref b), (1, .ref (ad 0)), (2, .ref (ad 54)), (3, .ref (ad 71)), (4, .int x4)] → W p l e room_1 s m args below meth c H locs (k + 1) (z + 6) Q (F0 m 717 ls [])) : W p l e room_1 s m args below meth c H locs k z Q (F0 m 432 ls []) := by
  unfold m_law_5 at h
  refine lv_aload_n S.1 S.2.1 dL_law_432 rfl (lv_at hl 1 rfl) ?_
  refine lv_aload_n S.1 S.2.1 dL_law_433 rfl (lv_at hl 0 rfl) ?_
  refine lv_iload S.1 S.2.1 dL_law_434 (lv_at hl 4 rfl) ?_
  refine lv_iconst (v := 1) S.1 S.2.1 dL_law_436 (by decide) ?_
  refine lv_iadd S.1 S.2.1 dL_law_437 ?_
  obtain ⟨hv1, hv1b, h⟩ := gi_some h
  refine va_sld S.1 S.2.1 hX0 hbl hbA hS hv1 dL_law_438 ?_
  refine lv_aload_n S.1 S.2.1 dL_law_439 rfl (lv_at hl 3 rfl) ?_
  obtain ⟨⟨g_4, r2⟩, h_3, h⟩ := bd_some h
  dsimp only at h
  refine k_W1 (vx_runSW (As := [.ref (ad 0), .int (xs ((x4 + 1)).toNatClampNeg), .ref (ad 71)]) (rest := []) S (c_L_unload hA hst h_3) (vx_cwSW 3 S.2.2.2.2 vgL_law_L_unload rfl rfl rfl (by decide +kernel) ⟨Nat.le_of_ble_eq_true rfl, Nat.le_of_ble_eq_true rfl⟩) ⟨Pz_blind, Pz_at hlo hS hP hK hN hX hC⟩ rfl rfl hl.1 rfl (lv_room (Nat.le_of_ble_eq_true rfl)) dL_law_440 ⟨by simp only [room_1]; omega, by simp only [room_1]; omega⟩) hS (fun H locs hP hS => ?_)
  refine lv_istore (lv' := [(5, .int r2), (0, .ref b), (1, .ref (ad 0)), (2, .ref (ad 54)), (3, .ref (ad 71)), (4, .int x4)]) S.1 S.2.1 dL_law_443 hl (by decide) rfl (fun ls hl => ?_)
  refine lv_aload_n S.1 S.2.1 dL_law_445 rfl (lv_at hl 3 rfl) ?_
  refine lv_aload_n S.1 S.2.1 dL_law_446 rfl (lv_at hl 1 rfl) ?_
  refine lv_iload S.1 S.2.1 dL_law_447 (lv_at hl 5 rfl) ?_
  refine lv_iconst (v := 1) S.1 S.2.1 dL_law_449 (by decide) ?_
  refine lv_iadd S.1 S.2.1 dL_law_450 ?_
  obtain ⟨hv5, hv5b, h⟩ := gi_some h
  refine va_sld S.1 S.2.1 hX0 hbl hbA hS hv5 dL_law_451 ?_
  obtain ⟨⟨g_8, r6⟩, h_7, h⟩ := bd_some h
  dsimp only at h
  refine k_Wi (va_runV (As := [.int (xs ((x4 + 1)).toNatClampNeg)]) (rest := []) S (c_X3_unload hA h_7) (cwV 1 S.2.2.2.2 vgL_law_X3_unload rfl rfl rfl (by decide +kernel) ⟨Nat.le_of_ble_eq_true rfl, Nat.le_of_ble_eq_true rfl⟩) ⟨Pw_blind, va_recv hK hP (ci := 3) (q0 := 54) rfl (wld_at (d := dX) rfl), Pw_at hlo hS hP hK hN⟩ rfl rfl hl.1 rfl (lv_room (Nat.le_of_ble_eq_true rfl)) dL_law_452 ⟨by simp only [room_1]; omega, by simp only [room_1]; omega⟩) hS (fun H locs hP hS => ?_)
  refine lv_istore (lv' := [(6, .int r6), (5, .int r2), (0, .ref b), (1, .ref (ad 0)), (2, .ref (ad 54)), (3, .ref (ad 71)), (4, .int x4)]) S.1 S.2.1 dL_law_455 hl (by decide) rfl (fun ls hl => ?_)
  refine lv_aload_n S.1 S.2.1 dL_law_457 rfl (lv_at hl 4 rfl) ?_
  obtain ⟨r9, h_10, h⟩ := bd_some h
  refine k_R (r := r9) (va_runV (As := []) (rest := []) S (c_X3_thrown h_10) (cwV 0 S.2.2.2.2 vgL_law_X3_thrown rfl rfl rfl (by decide +kernel) ⟨Nat.le_of_ble_eq_true rfl, Nat.le_of_ble_eq_true rfl⟩) ⟨Pw_blind, va_recv hK hP (ci := 3) (q0 := 54) rfl (wld_at (d := dX) rfl), Pw_at hlo hS hP hK hN⟩ rfl rfl hl.1 rfl (lv_room (Nat.le_of_ble_eq_true rfl)) dL_law_458 ⟨by simp only [room_1]; omega, by simp only [room_1]; omega⟩) ?_
  refine lv_iload S.1 S.2.1 dL_law_461 (lv_at hl 1 rfl) ?_
  refine lv_icmp_eq (tgt := 468) S.1 S.2.1 dL_law_463 (by decide) (fun hc11 => ?_) (fun hc11 => ?_)
  · rw [if_pos hc11] at h
    refine lv_iload S.1 S.2.1 dL_law_468 (lv_at hl 1 rfl) ?_
    refine lv_if_ne (tgt := 485) S.1 S.2.1 dL_law_470 (by decide) (fun hc12 => ?_) (fun hc12 => ?_)
    · rw [if_neg hc12] at h
      refine lv_goto (tgt := 717) S.1 S.2.1 dL_law_485 (by decide) ?_
      exact kk H locs ls (by rw [← Option.some.inj h]; exact hP) hS (lv_sub hl [2, 3, 4, 5, 6] rfl)
    · rw [if_pos hc12] at h
      refine lv_aload_n S.1 S.2.1 dL_law_473 rfl (lv_at hl 5 rfl) ?_
      refine lv_iconst (v := 0) S.1 S.2.1 dL_law_474 (by decide) ?_
      refine r_lld S hK hP dL_law_475 ?_
      refine lv_iload S.1 S.2.1 dL_law_476 (lv_at hl 0 rfl) ?_
      refine lv_i2l (v := (r6).toInt64) S.1 S.2.1 dL_law_478 rfl ?_
      refine W.lcmp S.1 S.2.1 dL_law_479 ?_
      refine lv_if_eq (tgt := 485) S.1 S.2.1 dL_law_480 (by decide) (fun hc13 => ?_) (fun hc13 => ?_)
      · rw [if_pos hc13] at h
        refine lv_goto (tgt := 717) S.1 S.2.1 dL_law_485 (by decide) ?_
        exact kk H locs ls (by rw [← Option.some.inj h]; exact hP) hS (lv_sub hl [2, 3, 4, 5, 6] rfl)
      · rw [if_neg hc13] at h
        refine lv_iconst (v := 0) S.1 S.2.1 dL_law_483 (by decide) ?_
        exact nomatch h
  · rw [if_neg hc11] at h
    refine lv_iconst (v := 0) S.1 S.2.1 dL_law_466 (by decide) ?_
    exact nomatch h

def m_law_6 (xs : Nat → Int32) (L : Nat) (g : Mem) (x4 : Int32) : Option Mem := gi (x4 + 1) L (gi (x4 + 2) L ((m_L_find g (xs ((x4 + 1)).toNatClampNeg) (xs ((x4 + 2)).toNatClampNeg)).bind fun qr3 => gi (x4 + 1) L (gi (x4 + 2) L ((m_X3_find qr3.1 (xs ((x4 + 1)).toNatClampNeg) (xs ((x4 + 2)).toNatClampNeg)).bind fun qr8 => (m_X3_thrown qr8.1).bind fun r11 => (if r11 = qr3.2 then (if qr3.2 = 0 then (if (lg_cmp ((qr8.1 71 0)).toInt64 (qr8.2).toInt64) = 0 then some qr8.1 else none) else some qr8.1) else none)))))
set_option maxRecDepth 100000 in
set_option maxHeartbeats 4000000 in
theorem c_law_6 {p : Program} {l : Launch} {e : Env} {s : State} {m : MethodId} {args : Array Value} {below : List Frame} {meth : Method} {c : Code} {H : Heap} {locs : List Loc} {Q : State → Prop} {ls : Array Slot} {D : va_G} {cA : Nat → ClassId} {ad : Nat → Nat} {lo b L : Nat} {xs : Nat → Int32} {k z : Nat} (hA : AdOk lo ad lay0.length) (hst : l.stackTraces = false) (S : CallFix p m c code 7 s args wvL_law RL) (hX0 : va_X b L xs s s.heap) (hbl : b < s.heap.size) (hbA : ¬ (fun q : Nat => lo ≤ q) b) (hlo : lo ≤ s.heap.size) (hK : va_K D vwCl (tysL cA) s) (hN : NWd s) (hX : ZX lo s) (hC : NCd s) (hk : k + 1 ≤ 612553) (hz : z + 6 ≤ 7258445) {g g1 : Mem} {x4 : Int32} (h : m_law_6 xs L g x4 = some g1) (hP : va_P D vwCl (wld cA ad g lay0) H) (hS : va_S (fun q : Nat => lo ≤ q) s.heap H locs) (hl : lv_has ls 7 [(0, .ref b), (1, .ref (ad 0)), (2, .ref (ad 54)), (3, .ref (ad 71)), (4, .int x4)])
    (kk : ∀ (H : Heap) (locs : List Loc) (ls : Array Slot), va_P D vwCl (wld cA ad g1 lay0) H → va_S (fun q : Nat => lo ≤ q) s.heap H locs → lv_has ls 7 [(0, .ref b), (1, .ref (ad 0)), (2, .ref (ad 54)), (3, .ref (ad 71)), (4, .int x4)] → W p l e room_1 s m args below meth c H locs (k + 1) (z + 6) Q (F0 m 717 ls [])) : W p l e room_1 s m args below meth c H locs k z Q (F0 m 488 ls []) := by
  unfold m_law_6 at h
  refine lv_aload_n S.1 S.2.1 dL_law_488 rfl (lv_at hl 1 rfl) ?_
  refine lv_aload_n S.1 S.2.1 dL_law_489 rfl (lv_at hl 0 rfl) ?_
  refine lv_iload S.1 S.2.1 dL_law_490 (lv_at hl 4 rfl) ?_
  refine lv_iconst (v := 1) S.1 S.2.1 dL_law_492 (by decide) ?_
  refine lv_iadd S.1 S.2.1 dL_law_493 ?_
  obtain ⟨hv1, hv1b, h⟩ := gi_some h
  refine va_sld S.1 S.2.1 hX0 hbl hbA hS hv1 dL_law_494 ?_
  refine lv_aload_n S.1 S.2.1 dL_law_495 rfl (lv_at hl 0 rfl) ?_
  refine lv_iload S.1 S.2.1 dL_law_496 (lv_at hl 4 rfl) ?_
  refine lv_iconst (v := 2) S.1 S.2.1 dL_law_498 (by decide) ?_
  refine lv_iadd S.1 S.2.1 dL_law_499 ?_
  obtain ⟨hv2, hv2b, h⟩ := gi_some h
  refine va_sld S.1 S.2.1 hX0 hbl hbA hS hv2 dL_law_500 ?_
  refine lv_aload_n S.1 S.2.1 dL_law_501 rfl (lv_at hl 3 rfl) ?_
  obtain ⟨⟨g_5, r3⟩, h_4, h⟩ := bd_some h
  dsimp only at h
  refine k_W1 (vx_runSW (As := [.ref (ad 0), .int (xs ((x4 + 1)).toNatClampNeg), .int (xs ((x4 + 2)).toNatClampNeg), .ref (ad 71)]) (rest := []) S (c_L_find hA hst h_4) (vx_cwSW 4 S.2.2.2.2 vgL_law_L_find rfl rfl rfl (by decide +kernel) ⟨Nat.le_of_ble_eq_true rfl, Nat.le_of_ble_eq_true rfl⟩) ⟨Pz_blind, Pz_at hlo hS hP hK hN hX hC⟩ rfl rfl hl.1 rfl (lv_room (Nat.le_of_ble_eq_true rfl)) dL_law_502 ⟨by simp only [room_1]; omega, by simp only [room_1]; omega⟩) hS (fun H locs hP hS => ?_)
  refine lv_istore (lv' := [(5, .int r3), (0, .ref b), (1, .ref (ad 0)), (2, .ref (ad 54)), (3, .ref (ad 71)), (4, .int x4)]) S.1 S.2.1 dL_law_505 hl (by decide) rfl (fun ls hl => ?_)
  refine lv_aload_n S.1 S.2.1 dL_law_507 rfl (lv_at hl 3 rfl) ?_
  refine lv_aload_n S.1 S.2.1 dL_law_508 rfl (lv_at hl 1 rfl) ?_
  refine lv_iload S.1 S.2.1 dL_law_509 (lv_at hl 5 rfl) ?_
  refine lv_iconst (v := 1) S.1 S.2.1 dL_law_511 (by decide) ?_
  refine lv_iadd S.1 S.2.1 dL_law_512 ?_
  obtain ⟨hv6, hv6b, h⟩ := gi_some h
  refine va_sld S.1 S.2.1 hX0 hbl hbA hS hv6 dL_law_513 ?_
  refine lv_aload_n S.1 S.2.1 dL_law_514 rfl (lv_at hl 1 rfl) ?_
  refine lv_iload S.1 S.2.1 dL_law_515 (lv_at hl 5 rfl) ?_
  refine lv_iconst (v := 2) S.1 S.2.1 dL_law_517 (by decide) ?_
  refine lv_iadd S.1 S.2.1 dL_law_518 ?_
  obtain ⟨hv7, hv7b, h⟩ := gi_some h
  refine va_sld S.1 S.2.1 hX0 hbl hbA hS hv7 dL_law_519 ?_
  obtain ⟨⟨g_10, r8⟩, h_9, h⟩ := bd_some h
  dsimp only at h
  refine k_Wi (va_runV (As := [.int (xs ((x4 + 1)).toNatClampNeg), .int (xs ((x4 + 2)).toNatClampNeg)]) (rest := []) S (c_X3_find hA h_9) (cwV 2 S.2.2.2.2 vgL_law_X3_find rfl rfl rfl (by decide +kernel) ⟨Nat.le_of_ble_eq_true rfl, Nat.le_of_ble_eq_true rfl⟩) ⟨Pw_blind, va_recv hK hP (ci := 3) (q0 := 54) rfl (wld_at (d := dX) rfl), Pw_at hlo hS hP hK hN⟩ rfl rfl hl.1 rfl (lv_room (Nat.le_of_ble_eq_true rfl)) dL_law_520 ⟨by simp only [room_1]; omega, by simp only [room_1]; omega⟩) hS (fun H locs hP hS => ?_)
  refine lv_istore (lv' := [(6, .int r8), (5, .int r3), (0, .ref b), (1, .ref (ad 0)), (2, .ref (ad 54)), (3, .ref (ad 71)), (4, .int x4)]) S.1 S.2.1 dL_law_523 hl (by decide) rfl (fun ls hl => ?_)
  refine lv_aload_n S.1 S.2.1 dL_law_525 rfl (lv_at hl 4 rfl) ?_
  obtain ⟨r11, h_12, h⟩ := bd_some h
  refine k_R (r := r11) (va_runV (As := []) (rest := []) S (c_X3_thrown h_12) (cwV 0 S.2.2.2.2 vgL_law_X3_thrown rfl rfl rfl (by decide +kernel) ⟨Nat.le_of_ble_eq_true rfl, Nat.le_of_ble_eq_true rfl⟩) ⟨Pw_blind, va_recv hK hP (ci := 3) (q0 := 54) rfl (wld_at (d := dX) rfl), Pw_at hlo hS hP hK hN⟩ rfl rfl hl.1 rfl (lv_room (Nat.le_of_ble_eq_true rfl)) dL_law_526 ⟨by simp only [room_1]; omega, by simp only [room_1]; omega⟩) ?_
  refine lv_iload S.1 S.2.1 dL_law_529 (lv_at hl 1 rfl) ?_
  refine lv_icmp_eq (tgt := 536) S.1 S.2.1 dL_law_531 (by decide) (fun hc13 => ?_) (fun hc13 => ?_)
  · rw [if_pos hc13] at h
    refine lv_iload S.1 S.2.1 dL_law_536 (lv_at hl 1 rfl) ?_
    refine lv_if_ne (tgt := 553) S.1 S.2.1 dL_law_538 (by decide) (fun hc14 => ?_) (fun hc14 => ?_)
    · rw [if_neg hc14] at h
      refine lv_goto (tgt := 717) S.1 S.2.1 dL_law_553 (by decide) ?_
      exact kk H locs ls (by rw [← Option.some.inj h]; exact hP) hS (lv_sub hl [2, 3, 4, 5, 6] rfl)
    · rw [if_pos hc14] at h
      refine lv_aload_n S.1 S.2.1 dL_law_541 rfl (lv_at hl 5 rfl) ?_
      refine lv_iconst (v := 0) S.1 S.2.1 dL_law_542 (by decide) ?_
      refine r_lld S hK hP dL_law_543 ?_
      refine lv_iload S.1 S.2.1 dL_law_544 (lv_at hl 0 rfl) ?_
      refine lv_i2l (v := (r8).toInt64) S.1 S.2.1 dL_law_546 rfl ?_
      refine W.lcmp S.1 S.2.1 dL_law_547 ?_
      refine lv_if_eq (tgt := 553) S.1 S.2.1 dL_law_548 (by decide) (fun hc15 => ?_) (fun hc15 => ?_)
      · rw [if_pos hc15] at h
        refine lv_goto (tgt := 717) S.1 S.2.1 dL_law_553 (by decide) ?_
        exact kk H locs ls (by rw [← Option.some.inj h]; exact hP) hS (lv_sub hl [2, 3, 4, 5, 6] rfl)
      · rw [if_neg hc15] at h
        refine lv_iconst (v := 0) S.1 S.2.1 dL_law_551 (by decide) ?_
        exact nomatch h
  · rw [if_neg hc13] at h
    refine lv_iconst (v := 0) S.1 S.2.1 dL_law_534 (by decide) ?_
    exact nomatch h

def m_law_7 (xs : Nat → Int32) (L : Nat) (g : Mem) (x4 : Int32) : Option Mem := gi (x4 + 1) L (gi (x4 + 2) L (gi (x4 + 3) L ((m_X2_visible g (xs ((x4 + 1)).toNatClampNeg) (xs ((x4 + 2)).toNatClampNeg) (xs ((x4 + 3)).toNatClampNeg)).bind fun qr4 => gi (x4 + 1) L (gi (x4 + 2) L (gi (x4 + 3) L ((m_X3_visible qr4.1 (xs ((x4 + 1)).toNatClampNeg) (xs ((x4 + 2)).toNatClampNeg) (xs ((x4 + 3)).toNatClampNeg)).bind fun qr10 => (if qr4.2 = qr10.2 then some qr10.1 else none)))))))
set_option maxRecDepth 100000 in
set_option maxHeartbeats 4000000 in
theorem c_law_7 {p : Program} {l : Launch} {e : Env} {s : State} {m : MethodId} {args : Array Value} {below : List Frame} {meth : Method} {c : Code} {H : Heap} {locs : List Loc} {Q : State → Prop} {ls : Array Slot} {D : va_G} {cA : Nat → ClassId} {ad : Nat → Nat} {lo b L : Nat} {xs : Nat → Int32} {k z : Nat} (hA : AdOk lo ad lay0.length) (hst : l.stackTraces = false) (S : CallFix p m c code 7 s args wvL_law RL) (hX0 : va_X b L xs s s.heap) (hbl : b < s.heap.size) (hbA : ¬ (fun q : Nat => lo ≤ q) b) (hlo : lo ≤ s.heap.size) (hK : va_K D vwCl (tysL cA) s) (hN : NWd s) (hX : ZX lo s) (hC : NCd s) (hk : k + 1 ≤ 612553) (hz : z + 6 ≤ 7258445) {g g1 : Mem} {x4 : Int32} (h : m_law_7 xs L g x4 = some g1) (hP : va_P D vwCl (wld cA ad g lay0) H) (hS : va_S (fun q : Nat => lo ≤ q) s.heap H locs) (hl : lv_has ls 7 [(0, .ref b), (1, .ref (ad 0)), (2, .ref (ad 54)), (3, .ref (ad 71)), (4, .int x4)])
    (kk : ∀ (H : Heap) (locs : List Loc) (ls : Array Slot), va_P D vwCl (wld cA ad g1 lay0) H → va_S (fun q : Nat => lo ≤ q) s.heap H locs → lv_has ls 7 [(0, .ref b), (1, .ref (ad 0)), (2, .ref (ad 54)), (3, .ref (ad 71)), (4, .int x4)] → W p l e room_1 s m args below meth c H locs (k + 1) (z + 6) Q (F0 m 717 ls [])) : W p l e room_1 s m args below meth c H locs k z Q (F0 m 556 ls []) := by
  unfold m_law_7 at h
  refine lv_aload_n S.1 S.2.1 dL_law_556 rfl (lv_at hl 1 rfl) ?_
  refine lv_aload_n S.1 S.2.1 dL_law_557 rfl (lv_at hl 0 rfl) ?_
  refine lv_iload S.1 S.2.1 dL_law_558 (lv_at hl 4 rfl) ?_
  refine lv_iconst (v := 1) S.1 S.2.1 dL_law_560 (by decide) ?_
  refine lv_iadd S.1 S.2.1 dL_law_561 ?_
  obtain ⟨hv1, hv1b, h⟩ := gi_some h
  refine va_sld S.1 S.2.1 hX0 hbl hbA hS hv1 dL_law_562 ?_
  refine lv_aload_n S.1 S.2.1 dL_law_563 rfl (lv_at hl 0 rfl) ?_
  refine lv_iload S.1 S.2.1 dL_law_564 (lv_at hl 4 rfl) ?_
  refine lv_iconst (v := 2) S.1 S.2.1 dL_law_566 (by decide) ?_
  refine lv_iadd S.1 S.2.1 dL_law_567 ?_
  obtain ⟨hv2, hv2b, h⟩ := gi_some h
  refine va_sld S.1 S.2.1 hX0 hbl hbA hS hv2 dL_law_568 ?_
  refine lv_aload_n S.1 S.2.1 dL_law_569 rfl (lv_at hl 0 rfl) ?_
  refine lv_iload S.1 S.2.1 dL_law_570 (lv_at hl 4 rfl) ?_
  refine lv_iconst (v := 3) S.1 S.2.1 dL_law_572 (by decide) ?_
  refine lv_iadd S.1 S.2.1 dL_law_573 ?_
  obtain ⟨hv3, hv3b, h⟩ := gi_some h
  refine va_sld S.1 S.2.1 hX0 hbl hbA hS hv3 dL_law_574 ?_
  obtain ⟨⟨g_6, r4⟩, h_5, h⟩ := bd_some h
  dsimp only at h
  refine k_Wi (va_runV (As := [.int (xs ((x4 + 1)).toNatClampNeg), .int (xs ((x4 + 2)).toNatClampNeg), .int (xs ((x4 + 3)).toNatClampNeg)]) (rest := []) S (c_X2_visible hA h_5) (cwV 3 S.2.2.2.2 vgL_law_X2_visible rfl rfl rfl (by decide +kernel) ⟨Nat.le_of_ble_eq_true rfl, Nat.le_of_ble_eq_true rfl⟩) ⟨Pw_blind, va_recv hK hP (ci := 2) (q0 := 0) rfl (wld_at (d := dF) rfl), Pw_at hlo hS hP hK hN⟩ rfl rfl hl.1 rfl (lv_room (Nat.le_of_ble_eq_true rfl)) dL_law_575 ⟨by simp only [room_1]; omega, by simp only [room_1]; omega⟩) hS (fun H locs hP hS => ?_)
  refine lv_aload_n S.1 S.2.1 dL_law_578 rfl (lv_at hl 2 rfl) ?_
  refine lv_aload_n S.1 S.2.1 dL_law_579 rfl (lv_at hl 0 rfl) ?_
  refine lv_iload S.1 S.2.1 dL_law_580 (lv_at hl 4 rfl) ?_
  refine lv_iconst (v := 1) S.1 S.2.1 dL_law_582 (by decide) ?_
  refine lv_iadd S.1 S.2.1 dL_law_583 ?_
  obtain ⟨hv7, hv7b, h⟩ := gi_some h
  refine va_sld S.1 S.2.1 hX0 hbl hbA hS hv7 dL_law_584 ?_
  refine lv_aload_n S.1 S.2.1 dL_law_585 rfl (lv_at hl 0 rfl) ?_
  refine lv_iload S.1 S.2.1 dL_law_586 (lv_at hl 4 rfl) ?_
  refine lv_iconst (v := 2) S.1 S.2.1 dL_law_588 (by decide) ?_
  refine lv_iadd S.1 S.2.1 dL_law_589 ?_
  obtain ⟨hv8, hv8b, h⟩ := gi_some h
  refine va_sld S.1 S.2.1 hX0 hbl hbA hS hv8 dL_law_590 ?_
  refine lv_aload_n S.1 S.2.1 dL_law_591 rfl (lv_at hl 0 rfl) ?_
  refine lv_iload S.1 S.2.1 dL_law_592 (lv_at hl 4 rfl) ?_
  refine lv_iconst (v := 3) S.1 S.2.1 dL_law_594 (by decide) ?_
  refine lv_iadd S.1 S.2.1 dL_law_595 ?_
  obtain ⟨hv9, hv9b, h⟩ := gi_some h
  refine va_sld S.1 S.2.1 hX0 hbl hbA hS hv9 dL_law_596 ?_
  obtain ⟨⟨g_12, r10⟩, h_11, h⟩ := bd_some h
  dsimp only at h
  refine k_Wi (va_runV (As := [.int (xs ((x4 + 1)).toNatClampNeg), .int (xs ((x4 + 2)).toNatClampNeg), .int (xs ((x4 + 3)).toNatClampNeg)]) (rest := [.int r4]) S (c_X3_visible hA h_11) (cwV 3 S.2.2.2.2 vgL_law_X3_visible rfl rfl rfl (by decide +kernel) ⟨Nat.le_of_ble_eq_true rfl, Nat.le_of_ble_eq_true rfl⟩) ⟨Pw_blind, va_recv hK hP (ci := 3) (q0 := 54) rfl (wld_at (d := dX) rfl), Pw_at hlo hS hP hK hN⟩ rfl rfl hl.1 rfl (lv_room (Nat.le_of_ble_eq_true rfl)) dL_law_597 ⟨by simp only [room_1]; omega, by simp only [room_1]; omega⟩) hS (fun H locs hP hS => ?_)
  refine lv_icmp_eq (tgt := 717) S.1 S.2.1 dL_law_600 (by decide) (fun hc13 => ?_) (fun hc13 => ?_)
  · rw [if_pos hc13] at h
    refine W.widen (k := k + 1) (n := z + 6) (by omega) (by omega) ?_
    exact kk H locs ls (by rw [← Option.some.inj h]; exact hP) hS (lv_sub hl [0, 1, 2, 3, 4] rfl)
  · rw [if_neg hc13] at h
    refine lv_iconst (v := 0) S.1 S.2.1 dL_law_603 (by decide) ?_
    exact nomatch h

def m_law_8 (xs : Nat → Int32) (L : Nat) (g : Mem) (x4 : Int32) : Option Mem := gi (x4 + 1) L (gi (x4 + 2) L ((m_X2_why g (xs ((x4 + 1)).toNatClampNeg) (xs ((x4 + 2)).toNatClampNeg)).bind fun qr3 => gi (x4 + 1) L (gi (x4 + 2) L ((m_X3_why qr3.1 (xs ((x4 + 1)).toNatClampNeg) (xs ((x4 + 2)).toNatClampNeg)).bind fun qr8 => (if qr3.2 = qr8.2 then some qr8.1 else none)))))
set_option maxRecDepth 100000 in
set_option maxHeartbeats 4000000 in
theorem c_law_8 {p : Program} {l : Launch} {e : Env} {s : State} {m : MethodId} {args : Array Value} {below : List Frame} {meth : Method} {c : Code} {H : Heap} {locs : List Loc} {Q : State → Prop} {ls : Array Slot} {D : va_G} {cA : Nat → ClassId} {ad : Nat → Nat} {lo b L : Nat} {xs : Nat → Int32} {k z : Nat} (hA : AdOk lo ad lay0.length) (hst : l.stackTraces = false) (S : CallFix p m c code 7 s args wvL_law RL) (hX0 : va_X b L xs s s.heap) (hbl : b < s.heap.size) (hbA : ¬ (fun q : Nat => lo ≤ q) b) (hlo : lo ≤ s.heap.size) (hK : va_K D vwCl (tysL cA) s) (hN : NWd s) (hX : ZX lo s) (hC : NCd s) (hk : k + 1 ≤ 612553) (hz : z + 6 ≤ 7258445) {g g1 : Mem} {x4 : Int32} (h : m_law_8 xs L g x4 = some g1) (hP : va_P D vwCl (wld cA ad g lay0) H) (hS : va_S (fun q : Nat => lo ≤ q) s.heap H locs) (hl : lv_has ls 7 [(0, .ref b), (1, .ref (ad 0)), (2, .ref (ad 54)), (3, .ref (ad 71)), (4, .int x4)])
    (kk : ∀ (H : Heap) (locs : List Loc) (ls : Array Slot), va_P D vwCl (wld cA ad g1 lay0) H → va_S (fun q : Nat => lo ≤ q) s.heap H locs → lv_has ls 7 [(0, .ref b), (1, .ref (ad 0)), (2, .ref (ad 54)), (3, .ref (ad 71)), (4, .int x4)] → W p l e room_1 s m args below meth c H locs (k + 1) (z + 6) Q (F0 m 717 ls [])) : W p l e room_1 s m args below meth c H locs k z Q (F0 m 605 ls []) := by
  unfold m_law_8 at h
  refine lv_aload_n S.1 S.2.1 dL_law_605 rfl (lv_at hl 1 rfl) ?_
  refine lv_aload_n S.1 S.2.1 dL_law_606 rfl (lv_at hl 0 rfl) ?_
  refine lv_iload S.1 S.2.1 dL_law_607 (lv_at hl 4 rfl) ?_
  refine lv_iconst (v := 1) S.1 S.2.1 dL_law_609 (by decide) ?_
  refine lv_iadd S.1 S.2.1 dL_law_610 ?_
  obtain ⟨hv1, hv1b, h⟩ := gi_some h
  refine va_sld S.1 S.2.1 hX0 hbl hbA hS hv1 dL_law_611 ?_
  refine lv_aload_n S.1 S.2.1 dL_law_612 rfl (lv_at hl 0 rfl) ?_
  refine lv_iload S.1 S.2.1 dL_law_613 (lv_at hl 4 rfl) ?_
  refine lv_iconst (v := 2) S.1 S.2.1 dL_law_615 (by decide) ?_
  refine lv_iadd S.1 S.2.1 dL_law_616 ?_
  obtain ⟨hv2, hv2b, h⟩ := gi_some h
  refine va_sld S.1 S.2.1 hX0 hbl hbA hS hv2 dL_law_617 ?_
  obtain ⟨⟨g_5, r3⟩, h_4, h⟩ := bd_some h
  dsimp only at h
  refine k_Wi (va_runV (As := [.int (xs ((x4 + 1)).toNatClampNeg), .int (xs ((x4 + 2)).toNatClampNeg)]) (rest := []) S (c_X2_why hA h_4) (cwV 2 S.2.2.2.2 vgL_law_X2_why rfl rfl rfl (by decide +kernel) ⟨Nat.le_of_ble_eq_true rfl, Nat.le_of_ble_eq_true rfl⟩) ⟨Pw_blind, va_recv hK hP (ci := 2) (q0 := 0) rfl (wld_at (d := dF) rfl), Pw_at hlo hS hP hK hN⟩ rfl rfl hl.1 rfl (lv_room (Nat.le_of_ble_eq_true rfl)) dL_law_618 ⟨by simp only [room_1]; omega, by simp only [room_1]; omega⟩) hS (fun H locs hP hS => ?_)
  refine lv_aload_n S.1 S.2.1 dL_law_621 rfl (lv_at hl 2 rfl) ?_
  refine lv_aload_n S.1 S.2.1 dL_law_622 rfl (lv_at hl 0 rfl) ?_
  refine lv_iload S.1 S.2.1 dL_law_623 (lv_at hl 4 rfl) ?_
  refine lv_iconst (v := 1) S.1 S.2.1 dL_law_625 (by decide) ?_
  refine lv_iadd S.1 S.2.1 dL_law_626 ?_
  obtain ⟨hv6, hv6b, h⟩ := gi_some h
  refine va_sld S.1 S.2.1 hX0 hbl hbA hS hv6 dL_law_627 ?_
  refine lv_aload_n S.1 S.2.1 dL_law_628 rfl (lv_at hl 0 rfl) ?_
  refine lv_iload S.1 S.2.1 dL_law_629 (lv_at hl 4 rfl) ?_
  refine lv_iconst (v := 2) S.1 S.2.1 dL_law_631 (by decide) ?_
  refine lv_iadd S.1 S.2.1 dL_law_632 ?_
  obtain ⟨hv7, hv7b, h⟩ := gi_some h
  refine va_sld S.1 S.2.1 hX0 hbl hbA hS hv7 dL_law_633 ?_
  obtain ⟨⟨g_10, r8⟩, h_9, h⟩ := bd_some h
  dsimp only at h
  refine k_Wi (va_runV (As := [.int (xs ((x4 + 1)).toNatClampNeg), .int (xs ((x4 + 2)).toNatClampNeg)]) (rest := [.int r3]) S (c_X3_why hA h_9) (cwV 2 S.2.2.2.2 vgL_law_X3_why rfl rfl rfl (by decide +kernel) ⟨Nat.le_of_ble_eq_true rfl, Nat.le_of_ble_eq_true rfl⟩) ⟨Pw_blind, va_recv hK hP (ci := 3) (q0 := 54) rfl (wld_at (d := dX) rfl), Pw_at hlo hS hP hK hN⟩ rfl rfl hl.1 rfl (lv_room (Nat.le_of_ble_eq_true rfl)) dL_law_634 ⟨by simp only [room_1]; omega, by simp only [room_1]; omega⟩) hS (fun H locs hP hS => ?_)
  refine lv_icmp_eq (tgt := 717) S.1 S.2.1 dL_law_637 (by decide) (fun hc11 => ?_) (fun hc11 => ?_)
  · rw [if_pos hc11] at h
    refine W.widen (k := k + 1) (n := z + 6) (by omega) (by omega) ?_
    exact kk H locs ls (by rw [← Option.some.inj h]; exact hP) hS (lv_sub hl [0, 1, 2, 3, 4] rfl)
  · rw [if_neg hc11] at h
    refine lv_iconst (v := 0) S.1 S.2.1 dL_law_640 (by decide) ?_
    exact nomatch h

def m_law_9 (xs : Nat → Int32) (L : Nat) (g : Mem) (x4 : Int32) : Option Mem := gi (x4 + 1) L ((m_X2_state g (xs ((x4 + 1)).toNatClampNeg)).bind fun r2 => gi (x4 + 1) L ((m_X3_state g (xs ((x4 + 1)).toNatClampNeg)).bind fun qr5 => (if r2 = qr5.2 then some qr5.1 else none)))
set_option maxRecDepth 100000 in
set_option maxHeartbeats 4000000 in
theorem c_law_9 {p : Program} {l : Launch} {e : Env} {s : State} {m : MethodId} {args : Array Value} {below : List Frame} {meth : Method} {c : Code} {H : Heap} {locs : List Loc} {Q : State → Prop} {ls : Array Slot} {D : va_G} {cA : Nat → ClassId} {ad : Nat → Nat} {lo b L : Nat} {xs : Nat → Int32} {k z : Nat} (hA : AdOk lo ad lay0.length) (hst : l.stackTraces = false) (S : CallFix p m c code 7 s args wvL_law RL) (hX0 : va_X b L xs s s.heap) (hbl : b < s.heap.size) (hbA : ¬ (fun q : Nat => lo ≤ q) b) (hlo : lo ≤ s.heap.size) (hK : va_K D vwCl (tysL cA) s) (hN : NWd s) (hX : ZX lo s) (hC : NCd s) (hk : k + 1 ≤ 612553) (hz : z + 6 ≤ 7258445) {g g1 : Mem} {x4 : Int32} (h : m_law_9 xs L g x4 = some g1) (hP : va_P D vwCl (wld cA ad g lay0) H) (hS : va_S (fun q : Nat => lo ≤ q) s.heap H locs) (hl : lv_has ls 7 [(0, .ref b), (1, .ref (ad 0)), (2, .ref (ad 54)), (3, .ref (ad 71)), (4, .int x4)])
    (kk : ∀ (H : Heap) (locs : List Loc) (ls : Array Slot), va_P D vwCl (wld cA ad g1 lay0) H → va_S (fun q : Nat => lo ≤ q) s.heap H locs → lv_has ls 7 [(0, .ref b), (1, .ref (ad 0)), (2, .ref (ad 54)), (3, .ref (ad 71)), (4, .int x4)] → W p l e room_1 s m args below meth c H locs (k + 1) (z + 6) Q (F0 m 717 ls [])) : W p l e room_1 s m args below meth c H locs k z Q (F0 m 642 ls []) := by
  unfold m_law_9 at h
  refine lv_aload_n S.1 S.2.1 dL_law_642 rfl (lv_at hl 1 rfl) ?_
  refine lv_aload_n S.1 S.2.1 dL_law_643 rfl (lv_at hl 0 rfl) ?_
  refine lv_iload S.1 S.2.1 dL_law_644 (lv_at hl 4 rfl) ?_
  refine lv_iconst (v := 1) S.1 S.2.1 dL_law_646 (by decide) ?_
  refine lv_iadd S.1 S.2.1 dL_law_647 ?_
  obtain ⟨hv1, hv1b, h⟩ := gi_some h
  refine va_sld S.1 S.2.1 hX0 hbl hbA hS hv1 dL_law_648 ?_
  obtain ⟨r2, h_3, h⟩ := bd_some h
  refine k_R (r := r2) (va_runV (As := [.int (xs ((x4 + 1)).toNatClampNeg)]) (rest := []) S (c_X2_state h_3) (cwV 1 S.2.2.2.2 vgL_law_X2_state rfl rfl rfl (by decide +kernel) ⟨Nat.le_of_ble_eq_true rfl, Nat.le_of_ble_eq_true rfl⟩) ⟨Pw_blind, va_recv hK hP (ci := 2) (q0 := 0) rfl (wld_at (d := dF) rfl), Pw_at hlo hS hP hK hN⟩ rfl rfl hl.1 rfl (lv_room (Nat.le_of_ble_eq_true rfl)) dL_law_649 ⟨by simp only [room_1]; omega, by simp only [room_1]; omega⟩) ?_
  refine lv_aload_n S.1 S.2.1 dL_law_652 rfl (lv_at hl 2 rfl) ?_
  refine lv_aload_n S.1 S.2.1 dL_law_653 rfl (lv_at hl 0 rfl) ?_
  refine lv_iload S.1 S.2.1 dL_law_654 (lv_at hl 4 rfl) ?_
  refine lv_iconst (v := 1) S.1 S.2.1 dL_law_656 (by decide) ?_
  refine lv_iadd S.1 S.2.1 dL_law_657 ?_
  obtain ⟨hv4, hv4b, h⟩ := gi_some h
  refine va_sld S.1 S.2.1 hX0 hbl hbA hS hv4 dL_law_658 ?_
  obtain ⟨⟨g_7, r5⟩, h_6, h⟩ := bd_some h
  dsimp only at h
  refine k_Wi (va_runV (As := [.int (xs ((x4 + 1)).toNatClampNeg)]) (rest := [.int r2]) S (c_X3_state hA h_6) (cwV 1 S.2.2.2.2 vgL_law_X3_state rfl rfl rfl (by decide +kernel) ⟨Nat.le_of_ble_eq_true rfl, Nat.le_of_ble_eq_true rfl⟩) ⟨Pw_blind, va_recv hK hP (ci := 3) (q0 := 54) rfl (wld_at (d := dX) rfl), Pw_at hlo hS hP hK hN⟩ rfl rfl hl.1 rfl (lv_room (Nat.le_of_ble_eq_true rfl)) dL_law_659 ⟨by simp only [room_1]; omega, by simp only [room_1]; omega⟩) hS (fun H locs hP hS => ?_)
  refine lv_icmp_eq (tgt := 717) S.1 S.2.1 dL_law_662 (by decide) (fun hc8 => ?_) (fun hc8 => ?_)
  · rw [if_pos hc8] at h
    refine W.widen (k := k + 1) (n := z + 6) (by omega) (by omega) ?_
    exact kk H locs ls (by rw [← Option.some.inj h]; exact hP) hS (lv_sub hl [0, 1, 2, 3, 4] rfl)
  · rw [if_neg hc8] at h
    refine lv_iconst (v := 0) S.1 S.2.1 dL_law_665 (by decide) ?_
    exact nomatch h

def m_law_10 (xs : Nat → Int32) (L : Nat) (g : Mem) (x4 : Int32) : Option Mem := gi (x4 + 1) L (gi (x4 + 2) L ((m_X2_above g (xs ((x4 + 1)).toNatClampNeg) (xs ((x4 + 2)).toNatClampNeg)).bind fun r3 => gi (x4 + 1) L (gi (x4 + 2) L ((m_X3_above g (xs ((x4 + 1)).toNatClampNeg) (xs ((x4 + 2)).toNatClampNeg)).bind fun qr7 => (if r3 = qr7.2 then some qr7.1 else none)))))
set_option maxRecDepth 100000 in
set_option maxHeartbeats 4000000 in
theorem c_law_10 {p : Program} {l : Launch} {e : Env} {s : State} {m : MethodId} {args : Array Value} {below : List Frame} {meth : Method} {c : Code} {H : Heap} {locs : List Loc} {Q : State → Prop} {ls : Array Slot} {D : va_G} {cA : Nat → ClassId} {ad : Nat → Nat} {lo b L : Nat} {xs : Nat → Int32} {k z : Nat} (hA : AdOk lo ad lay0.length) (hst : l.stackTraces = false) (S : CallFix p m c code 7 s args wvL_law RL) (hX0 : va_X b L xs s s.heap) (hbl : b < s.heap.size) (hbA : ¬ (fun q : Nat => lo ≤ q) b) (hlo : lo ≤ s.heap.size) (hK : va_K D vwCl (tysL cA) s) (hN : NWd s) (hX : ZX lo s) (hC : NCd s) (hk : k + 1 ≤ 612553) (hz : z + 6 ≤ 7258445) {g g1 : Mem} {x4 : Int32} (h : m_law_10 xs L g x4 = some g1) (hP : va_P D vwCl (wld cA ad g lay0) H) (hS : va_S (fun q : Nat => lo ≤ q) s.heap H locs) (hl : lv_has ls 7 [(0, .ref b), (1, .ref (ad 0)), (2, .ref (ad 54)), (3, .ref (ad 71)), (4, .int x4)])
    (kk : ∀ (H : Heap) (locs : List Loc) (ls : Array Slot), va_P D vwCl (wld cA ad g1 lay0) H → va_S (fun q : Nat => lo ≤ q) s.heap H locs → lv_has ls 7 [(0, .ref b), (1, .ref (ad 0)), (2, .ref (ad 54)), (3, .ref (ad 71)), (4, .int x4)] → W p l e room_1 s m args below meth c H locs (k + 1) (z + 6) Q (F0 m 717 ls [])) : W p l e room_1 s m args below meth c H locs k z Q (F0 m 667 ls []) := by
  unfold m_law_10 at h
  refine lv_aload_n S.1 S.2.1 dL_law_667 rfl (lv_at hl 1 rfl) ?_
  refine lv_aload_n S.1 S.2.1 dL_law_668 rfl (lv_at hl 0 rfl) ?_
  refine lv_iload S.1 S.2.1 dL_law_669 (lv_at hl 4 rfl) ?_
  refine lv_iconst (v := 1) S.1 S.2.1 dL_law_671 (by decide) ?_
  refine lv_iadd S.1 S.2.1 dL_law_672 ?_
  obtain ⟨hv1, hv1b, h⟩ := gi_some h
  refine va_sld S.1 S.2.1 hX0 hbl hbA hS hv1 dL_law_673 ?_
  refine lv_aload_n S.1 S.2.1 dL_law_674 rfl (lv_at hl 0 rfl) ?_
  refine lv_iload S.1 S.2.1 dL_law_675 (lv_at hl 4 rfl) ?_
  refine lv_iconst (v := 2) S.1 S.2.1 dL_law_677 (by decide) ?_
  refine lv_iadd S.1 S.2.1 dL_law_678 ?_
  obtain ⟨hv2, hv2b, h⟩ := gi_some h
  refine va_sld S.1 S.2.1 hX0 hbl hbA hS hv2 dL_law_679 ?_
  obtain ⟨r3, h_4, h⟩ := bd_some h
  refine k_R (r := r3) (va_runV (As := [.int (xs ((x4 + 1)).toNatClampNeg), .int (xs ((x4 + 2)).toNatClampNeg)]) (rest := []) S (c_X2_above h_4) (cwV 2 S.2.2.2.2 vgL_law_X2_above rfl rfl rfl (by decide +kernel) ⟨Nat.le_of_ble_eq_true rfl, Nat.le_of_ble_eq_true rfl⟩) ⟨Pw_blind, va_recv hK hP (ci := 2) (q0 := 0) rfl (wld_at (d := dF) rfl), Pw_at hlo hS hP hK hN⟩ rfl rfl hl.1 rfl (lv_room (Nat.le_of_ble_eq_true rfl)) dL_law_680 ⟨by simp only [room_1]; omega, by simp only [room_1]; omega⟩) ?_
  refine lv_aload_n S.1 S.2.1 dL_law_683 rfl (lv_at hl 2 rfl) ?_
  refine lv_aload_n S.1 S.2.1 dL_law_684 rfl (lv_at hl 0 rfl) ?_
  refine lv_iload S.1 S.2.1 dL_law_685 (lv_at hl 4 rfl) ?_
  refine lv_iconst (v := 1) S.1 S.2.1 dL_law_687 (by decide) ?_
  refine lv_iadd S.1 S.2.1 dL_law_688 ?_
  obtain ⟨hv5, hv5b, h⟩ := gi_some h
  refine va_sld S.1 S.2.1 hX0 hbl hbA hS hv5 dL_law_689 ?_
  refine lv_aload_n S.1 S.2.1 dL_law_690 rfl (lv_at hl 0 rfl) ?_
  refine lv_iload S.1 S.2.1 dL_law_691 (lv_at hl 4 rfl) ?_
  refine lv_iconst (v := 2) S.1 S.2.1 dL_law_693 (by decide) ?_
  refine lv_iadd S.1 S.2.1 dL_law_694 ?_
  obtain ⟨hv6, hv6b, h⟩ := gi_some h
  refine va_sld S.1 S.2.1 hX0 hbl hbA hS hv6 dL_law_695 ?_
  obtain ⟨⟨g_9, r7⟩, h_8, h⟩ := bd_some h
  dsimp only at h
  refine k_Wi (va_runV (As := [.int (xs ((x4 + 1)).toNatClampNeg), .int (xs ((x4 + 2)).toNatClampNeg)]) (rest := [.int r3]) S (c_X3_above hA h_8) (cwV 2 S.2.2.2.2 vgL_law_X3_above rfl rfl rfl (by decide +kernel) ⟨Nat.le_of_ble_eq_true rfl, Nat.le_of_ble_eq_true rfl⟩) ⟨Pw_blind, va_recv hK hP (ci := 3) (q0 := 54) rfl (wld_at (d := dX) rfl), Pw_at hlo hS hP hK hN⟩ rfl rfl hl.1 rfl (lv_room (Nat.le_of_ble_eq_true rfl)) dL_law_696 ⟨by simp only [room_1]; omega, by simp only [room_1]; omega⟩) hS (fun H locs hP hS => ?_)
  refine lv_icmp_eq (tgt := 717) S.1 S.2.1 dL_law_699 (by decide) (fun hc10 => ?_) (fun hc10 => ?_)
  · rw [if_pos hc10] at h
    refine W.widen (k := k + 1) (n := z + 6) (by omega) (by omega) ?_
    exact kk H locs ls (by rw [← Option.some.inj h]; exact hP) hS (lv_sub hl [0, 1, 2, 3, 4] rfl)
  · rw [if_neg hc10] at h
    refine lv_iconst (v := 0) S.1 S.2.1 dL_law_702 (by decide) ?_
    exact nomatch h

def m_law_11 (xs : Nat → Int32) (L : Nat) (g : Mem) (x4 : Int32) : Option Mem := (m_X2_defined g).bind fun r1 => (m_X3_defined g).bind fun qr3 => (if r1 = qr3.2 then some qr3.1 else none)
set_option maxRecDepth 100000 in
set_option maxHeartbeats 4000000 in
theorem c_law_11 {p : Program} {l : Launch} {e : Env} {s : State} {m : MethodId} {args : Array Value} {below : List Frame} {meth : Method} {c : Code} {H : Heap} {locs : List Loc} {Q : State → Prop} {ls : Array Slot} {D : va_G} {cA : Nat → ClassId} {ad : Nat → Nat} {lo b L : Nat} {xs : Nat → Int32} {k z : Nat} (hA : AdOk lo ad lay0.length) (hst : l.stackTraces = false) (S : CallFix p m c code 7 s args wvL_law RL) (hX0 : va_X b L xs s s.heap) (hbl : b < s.heap.size) (hbA : ¬ (fun q : Nat => lo ≤ q) b) (hlo : lo ≤ s.heap.size) (hK : va_K D vwCl (tysL cA) s) (hN : NWd s) (hX : ZX lo s) (hC : NCd s) (hk : k + 1 ≤ 612553) (hz : z + 6 ≤ 7258445) {g g1 : Mem} {x4 : Int32} (h : m_law_11 xs L g x4 = some g1) (hP : va_P D vwCl (wld cA ad g lay0) H) (hS : va_S (fun q : Nat => lo ≤ q) s.heap H locs) (hl : lv_has ls 7 [(0, .ref b), (1, .ref (ad 0)), (2, .ref (ad 54)), (3, .ref (ad 71)), (4, .int x4)])
    (kk : ∀ (H : Heap) (locs : List Loc) (ls : Array Slot), va_P D vwCl (wld cA ad g1 lay0) H → va_S (fun q : Nat => lo ≤ q) s.heap H locs → lv_has ls 7 [(0, .ref b), (1, .ref (ad 0)), (2, .ref (ad 54)), (3, .ref (ad 71)), (4, .int x4)] → W p l e room_1 s m args below meth c H locs (k + 1) (z + 6) Q (F0 m 717 ls [])) : W p l e room_1 s m args below meth c H locs k z Q (F0 m 704 ls []) := by
  unfold m_law_11 at h
  refine lv_aload_n S.1 S.2.1 dL_law_704 rfl (lv_at hl 1 rfl) ?_
  obtain ⟨r1, h_2, h⟩ := bd_some h
  refine k_R (r := r1) (va_runV (As := []) (rest := []) S (c_X2_defined h_2) (cwV 0 S.2.2.2.2 vgL_law_X2_defined rfl rfl rfl (by decide +kernel) ⟨Nat.le_of_ble_eq_true rfl, Nat.le_of_ble_eq_true rfl⟩) ⟨Pw_blind, va_recv hK hP (ci := 2) (q0 := 0) rfl (wld_at (d := dF) rfl), Pw_at hlo hS hP hK hN⟩ rfl rfl hl.1 rfl (lv_room (Nat.le_of_ble_eq_true rfl)) dL_law_705 ⟨by simp only [room_1]; omega, by simp only [room_1]; omega⟩) ?_
  refine lv_aload_n S.1 S.2.1 dL_law_708 rfl (lv_at hl 2 rfl) ?_
  obtain ⟨⟨g_5, r3⟩, h_4, h⟩ := bd_some h
  dsimp only at h
  refine k_Wi (va_runV (As := []) (rest := [.int r1]) S (c_X3_defined hA h_4) (cwV 0 S.2.2.2.2 vgL_law_X3_defined rfl rfl rfl (by decide +kernel) ⟨Nat.le_of_ble_eq_true rfl, Nat.le_of_ble_eq_true rfl⟩) ⟨Pw_blind, va_recv hK hP (ci := 3) (q0 := 54) rfl (wld_at (d := dX) rfl), Pw_at hlo hS hP hK hN⟩ rfl rfl hl.1 rfl (lv_room (Nat.le_of_ble_eq_true rfl)) dL_law_709 ⟨by simp only [room_1]; omega, by simp only [room_1]; omega⟩) hS (fun H locs hP hS => ?_)
  refine lv_icmp_eq (tgt := 717) S.1 S.2.1 dL_law_712 (by decide) (fun hc6 => ?_) (fun hc6 => ?_)
  · rw [if_pos hc6] at h
    refine W.widen (k := k + 1) (n := z + 6) (by omega) (by omega) ?_
    exact kk H locs ls (by rw [← Option.some.inj h]; exact hP) hS (lv_sub hl [0, 1, 2, 3, 4] rfl)
  · rw [if_neg hc6] at h
    refine lv_iconst (v := 0) S.1 S.2.1 dL_law_715 (by decide) ?_
    exact nomatch h
