def m_X3_holder_26 (p1 p2 : Int32) : Nat → Mem → Int32 → Int32 → Option (Mem × Int32)
  | 0, _, _, _ => none
  | n + 1, g, x3, x4 => (if x4 < 0 then some (g, x3) else gi x4 8 (gi ((24 * (g 65 (x4).toNatClampNeg)) + p2) 192 ((if (g 58 (((24 * (g 65 (x4).toNatClampNeg)) + p2)).toNatClampNeg) = (-3) then m_X3_holder_26 p1 p2 n (g) (x3) ((x4 + (-1))) else gi x4 8 (m_X3_holder_26 p1 p2 n (g) ((g 65 (x4).toNatClampNeg)) ((x4 + (-1))))))))
def m_X3_holder (g : Mem) (p1 p2 : Int32) : Option (Mem × Int32) := (if 2 ≤ p2 then (m_X3_see g p1 (p2 / 4)).bind fun g_9 => m_X3_holder_26 p1 p2 200 (g_9) ((-1)) (((g_9 54 12) - 1)) else some (g, 8))
def rm_X3_holder : Room := { frames := 2, cells := 0, slots := 0, locals := 50 }
set_option maxRecDepth 100000 in
set_option maxHeartbeats 4000000 in
theorem c_X3_holder {l : Launch} {D : va_G} {cA : Nat → ClassId} {ad : Nat → Nat} {lo : Nat} (hA : AdOk lo ad lay0.length) {g : Mem} {p1 p2 : Int32} {g1 : Mem} {r : Int32} (h : m_X3_holder g p1 p2 = some (g1, r)) : Met l yX3_holder wsX3_holder rm_X3_holder (Pw [.ref (ad 54), .int p1, .int p2] D cA ad lo g) (Qw D cA ad lo g1 (some r)) 0 0 (fun q => lo ≤ q) := by
  refine startW (cc := cX3_holder) (maxL := 5) (ret := (some .int)) (by decide) rfl (Nat.le_of_ble_eq_true rfl) ?_
  intro p e s m args below meth c ls S hr hlocks hB hl
  obtain ⟨hlo, hP, hK, hN⟩ := hB
  have hS : va_S (fun q => lo ≤ q) s.heap s.heap [] := va_S.rf
  unfold m_X3_holder at h
  have S : CallFix p m c cX3_holder 5 s args wsX3_holder RX3 := S
  have hl : lv_has ls 5 [(0, .ref (ad 54)), (1, .int p1), (2, .int p2)] := hl
  have hn3 : ∀ w ∈ wsX30, w ∈ wsX3_holder := by decide +kernel
  have lk19 := S.2.2.2.2 (.fieldLink RX3 19 "FlatLoaderModel" "files" "[I") (by decide +kernel)
  have lk41 := S.2.2.2.2 (.fieldLink RX3 41 "FlatLoaderModel" "row" "[I") (by decide +kernel)
  have lk89 := S.2.2.2.2 (.fieldLink RX3 89 "FlatLoaderModel" "size" "I") (by decide +kernel)
  obtain ⟨H, hH⟩ : ∃ H, H = s.heap := ⟨_, rfl⟩
  obtain ⟨locs, hlocs⟩ : ∃ z : List Loc, z = [] := ⟨_, rfl⟩
  have key26 : ∀ (n : Nat), ∀ (g : Mem) (H : Heap) (locs : List Loc), va_P D vwCl (wld cA ad g lay0) H → va_S (fun q => lo ≤ q) s.heap H locs → ∀ (x3 x4 : Int32), ∀ (ls : Array Slot), lv_has ls 5 [(0, .ref (ad 54)), (1, .int p1), (2, .int p2), (3, .int x3), (4, .int x4)] → m_X3_holder_26 p1 p2 n g x3 x4 = some (g1, r) → W p l e (rm_X3_holder) s m args below meth c H locs 0 0 (MQ below (Qw D cA ad lo g1 (some r)) args s 0 0 (fun q => lo ≤ q)) (F0 m 26 ls []) := by
    intro n
    induction n with
    | zero =>
      intro g H locs hP hS x3 x4 ls hl h
      exact nomatch (show none = some (g1, r) from h)
    | succ n ih =>
      intro g H locs hP hS x3 x4 ls hl h
      rw [m_X3_holder_26] at h
      refine lv_iload S.1 S.2.1 dX3_holder_26 (lv_at hl 4 rfl) ?_
      refine lv_if_lt (tgt := 71) S.1 S.2.1 dX3_holder_28 (by decide) (fun hc1 => ?_) (fun hc1 => ?_)
      · rw [if_pos hc1] at h
        refine lv_iload_n S.1 S.2.1 dX3_holder_71 rfl (lv_at hl 3 rfl) ?_
        exact e_W S hr hlocks hP hS (Option.some.inj h) dX3_holder_72
      · rw [if_neg hc1] at h
        refine lv_aload_n S.1 S.2.1 dX3_holder_31 rfl (lv_at hl 0 rfl) ?_
        refine r_get (C := RX3) (T := TX3) (N := 19) (ci := 3) (k := 54) (j := 4) (fs := fsX) (d := (some (some 58))) (v := .ref (ad 58)) S hK hP hn3 lk19 rfl (by decide) rfl rfl rfl dX3_holder_32 ?_
        refine lv_bipush (v := 24) S.1 S.2.1 dX3_holder_35 (by decide) ?_
        refine lv_aload_n S.1 S.2.1 dX3_holder_37 rfl (lv_at hl 0 rfl) ?_
        refine r_get (C := RX3) (T := TX3) (N := 19) (ci := 3) (k := 54) (j := 13) (fs := fsX) (d := (some (some 65))) (v := .ref (ad 65)) S hK hP hn3 lk41 rfl (by decide) rfl rfl rfl dX3_holder_38 ?_
        refine lv_iload S.1 S.2.1 dX3_holder_41 (lv_at hl 4 rfl) ?_
        obtain ⟨hv2, hv2b, h⟩ := gi_some h
        refine r_ild (k := 65) (n := 8) S hK hP rfl hv2 dX3_holder_43 ?_
        refine lv_imul S.1 S.2.1 dX3_holder_44 ?_
        refine lv_iload_n S.1 S.2.1 dX3_holder_45 rfl (lv_at hl 2 rfl) ?_
        refine lv_iadd S.1 S.2.1 dX3_holder_46 ?_
        obtain ⟨hv3, hv3b, h⟩ := gi_some h
        refine r_ild (k := 58) (n := 192) S hK hP rfl hv3 dX3_holder_47 ?_
        refine lv_bipush (v := (-3)) S.1 S.2.1 dX3_holder_48 (by decide) ?_
        refine lv_icmp_eq (tgt := 63) S.1 S.2.1 dX3_holder_50 (by decide) (fun hc4 => ?_) (fun hc4 => ?_)
        · rw [if_pos hc4] at h
          refine lv_iload_n S.1 S.2.1 dX3_holder_63 rfl (lv_at hl 3 rfl) ?_
          refine lv_istore_n (lv' := [(3, .int x3), (0, .ref (ad 54)), (1, .int p1), (2, .int p2), (4, .int x4)]) S.1 S.2.1 dX3_holder_64 rfl hl (by decide) rfl (fun ls hl => ?_)
          refine lv_iinc (v := (x4 + (-1))) (lv' := [(4, .int (x4 + (-1))), (3, .int x3), (0, .ref (ad 54)), (1, .int p1), (2, .int p2)]) S.1 S.2.1 dX3_holder_65 hl (k := 4) rfl rfl (by decide) rfl (fun ls hl => ?_)
          refine lv_goto (tgt := 26) S.1 S.2.1 dX3_holder_68 (by decide) ?_
          exact ih (g) H locs hP hS (x3) ((x4 + (-1))) ls (lv_sub hl [2, 3, 4, 1, 0] rfl) h
        · rw [if_neg hc4] at h
          refine lv_aload_n S.1 S.2.1 dX3_holder_53 rfl (lv_at hl 0 rfl) ?_
          refine r_get (C := RX3) (T := TX3) (N := 19) (ci := 3) (k := 54) (j := 13) (fs := fsX) (d := (some (some 65))) (v := .ref (ad 65)) S hK hP hn3 lk41 rfl (by decide) rfl rfl rfl dX3_holder_54 ?_
          refine lv_iload S.1 S.2.1 dX3_holder_57 (lv_at hl 4 rfl) ?_
          obtain ⟨hv5, hv5b, h⟩ := gi_some h
          refine r_ild (k := 65) (n := 8) S hK hP rfl hv5 dX3_holder_59 ?_
          refine lv_goto (tgt := 64) S.1 S.2.1 dX3_holder_60 (by decide) ?_
          refine lv_istore_n (lv' := [(3, .int (g 65 (x4).toNatClampNeg)), (0, .ref (ad 54)), (1, .int p1), (2, .int p2), (4, .int x4)]) S.1 S.2.1 dX3_holder_64 rfl hl (by decide) rfl (fun ls hl => ?_)
          refine lv_iinc (v := (x4 + (-1))) (lv' := [(4, .int (x4 + (-1))), (3, .int (g 65 (x4).toNatClampNeg)), (0, .ref (ad 54)), (1, .int p1), (2, .int p2)]) S.1 S.2.1 dX3_holder_65 hl (k := 4) rfl rfl (by decide) rfl (fun ls hl => ?_)
          refine lv_goto (tgt := 26) S.1 S.2.1 dX3_holder_68 (by decide) ?_
          exact ih (g) H locs hP hS ((g 65 (x4).toNatClampNeg)) ((x4 + (-1))) ls (lv_sub hl [2, 3, 4, 1, 0] rfl) h
  rw [← hH] at hP
  have hS : va_S (fun q => lo ≤ q) s.heap H locs := by rw [hH, hlocs]; exact hS
  have goal0 : W p l e (rm_X3_holder) s m args below meth c H locs 0 0 (MQ below (Qw D cA ad lo g1 (some r)) args s 0 0 (fun q => lo ≤ q)) (F0 m 0 ls []) := by
    refine lv_iload_n S.1 S.2.1 dX3_holder_0 rfl (lv_at hl 2 rfl) ?_
    refine lv_iconst (v := 2) S.1 S.2.1 dX3_holder_1 (by decide) ?_
    refine lv_icmp_ge (tgt := 8) S.1 S.2.1 dX3_holder_2 (by decide) (fun hc6 => ?_) (fun hc6 => ?_)
    · rw [if_pos hc6] at h
      refine lv_aload_n S.1 S.2.1 dX3_holder_8 rfl (lv_at hl 0 rfl) ?_
      refine lv_iload_n S.1 S.2.1 dX3_holder_9 rfl (lv_at hl 1 rfl) ?_
      refine lv_iload_n S.1 S.2.1 dX3_holder_10 rfl (lv_at hl 2 rfl) ?_
      refine lv_iconst (v := 4) S.1 S.2.1 dX3_holder_11 (by decide) ?_
      refine lv_idiv S.1 S.2.1 dX3_holder_12 (by decide) ?_
      obtain ⟨g_9, h_8, h⟩ := bd_some h
      refine k_Wv (va_runV (As := [.int p1, .int (p2 / 4)]) (rest := []) S (c_X3_see hA h_8) (cwV 2 S.2.2.2.2 gX3_holder_X3_see rfl rfl rfl (by decide +kernel) ⟨Nat.le_of_ble_eq_true rfl, Nat.le_of_ble_eq_true rfl⟩) ⟨Pw_blind, va_recv hK hP (ci := 3) (q0 := 54) rfl (wld_at (d := dX) rfl), Pw_at hlo hS hP hK hN⟩ rfl rfl hl.1 rfl (lv_room (Nat.le_of_ble_eq_true rfl)) dX3_holder_13 ⟨Nat.zero_le _, Nat.zero_le _⟩) hS (fun H locs hP hS => ?_)
      refine lv_iconst (v := (-1)) S.1 S.2.1 dX3_holder_16 (by decide) ?_
      refine lv_istore_n (lv' := [(3, .int (-1)), (0, .ref (ad 54)), (1, .int p1), (2, .int p2)]) S.1 S.2.1 dX3_holder_17 rfl hl (by decide) rfl (fun ls hl => ?_)
      refine lv_aload_n S.1 S.2.1 dX3_holder_18 rfl (lv_at hl 1 rfl) ?_
      refine r_get (C := RX3) (T := TX3) (N := 19) (ci := 3) (k := 54) (j := 12) (fs := fsX) (d := none) (v := .int (g_9 54 12)) S hK hP hn3 lk89 rfl (by decide) rfl rfl rfl dX3_holder_19 ?_
      refine lv_iconst (v := 1) S.1 S.2.1 dX3_holder_22 (by decide) ?_
      refine lv_isub S.1 S.2.1 dX3_holder_23 ?_
      refine lv_istore (lv' := [(4, .int ((g_9 54 12) - 1)), (3, .int (-1)), (0, .ref (ad 54)), (1, .int p1), (2, .int p2)]) S.1 S.2.1 dX3_holder_24 hl (by decide) rfl (fun ls hl => ?_)
      exact key26 200 (g_9) H locs hP hS ((-1)) (((g_9 54 12) - 1)) ls (lv_sub hl [2, 3, 4, 1, 0] rfl) h
    · rw [if_neg hc6] at h
      refine lv_bipush (v := 8) S.1 S.2.1 dX3_holder_5 (by decide) ?_
      exact e_W S hr hlocks hP hS (Option.some.inj h) dX3_holder_7
  rw [hH, hlocs] at goal0
  exact goal0

def m_X3_needs_147 (k8 : Mem → Int32 → Int32 → Int32 → Option (Mem × Int32)) (p1 p2 : Int32) (g : Mem) (x3 x4 x5 x6 x7 x8 s0 : Int32) : Option (Mem × Int32) := (if 0 ≤ s0 then k8 (g) (x3) (s0) (x8) else some (g, (-1)))
def m_X3_needs_47 (k8 : Mem → Int32 → Int32 → Int32 → Option (Mem × Int32)) (p1 p2 : Int32) : Nat → Mem → Int32 → Int32 → Int32 → Int32 → Int32 → Int32 → Option (Mem × Int32)
  | 0, _, _, _, _, _, _, _ => none
  | n + 1, g, x3, x4, x5, x6, x7, x8 => (if x3 ≤ x8 then gi x6 192 ((if (g 58 (x6).toNatClampNeg) = (-2) then some (g, (-1)) else (if x7 = 0 then (if x3 < 10 then gi x3 11 (gi x6 192 ((if 0 ≤ ((mup g 70 (x3).toNatClampNeg x6) 58 (x6).toNatClampNeg) then (m_X3_holder (mup g 70 (x3).toNatClampNeg x6) x4 ((mup g 70 (x3).toNatClampNeg x6) 58 (x6).toNatClampNeg)).bind fun qr10 => m_X3_needs_147 k8 p1 p2 (qr10.1) ((x3 + 1)) (x4) (x5) (x6) (x7) (((mup g 70 (x3).toNatClampNeg x6) 58 (x6).toNatClampNeg)) (qr10.2) else m_X3_needs_147 k8 p1 p2 ((mup g 70 (x3).toNatClampNeg x6)) ((x3 + 1)) (x4) (x5) (x6) (x7) (((mup g 70 (x3).toNatClampNeg x6) 58 (x6).toNatClampNeg)) (8)))) else some (g, (-1))) else some (g, (-1))))) else (if x7 = 0 then gi x8 11 ((if (g 70 (x8).toNatClampNeg) = x6 then m_X3_needs_47 k8 p1 p2 n (g) (x3) (x4) (x5) (x6) (1) ((x8 + 1)) else m_X3_needs_47 k8 p1 p2 n (g) (x3) (x4) (x5) (x6) (0) ((x8 + 1)))) else m_X3_needs_47 k8 p1 p2 n (g) (x3) (x4) (x5) (x6) (1) ((x8 + 1))))
def m_X3_needs_8 (p1 p2 : Int32) : Nat → Mem → Int32 → Int32 → Int32 → Option (Mem × Int32)
  | 0, _, _, _, _ => none
  | n + 1, g, x3, x4, x5 => (if 8 ≤ x4 then some (g, x3) else gi ((24 * x4) + x5) 192 ((if 0 ≤ (g 59 (((24 * x4) + x5)).toNatClampNeg) then some (g, x3) else m_X3_needs_47 (fun gy yx3 yx4 yx5 => m_X3_needs_8 p1 p2 n gy yx3 yx4 yx5) p1 p2 200 (g) (x3) (x4) (x5) (((24 * x4) + x5)) (0) (0))))
def m_X3_needs (g : Mem) (p1 p2 : Int32) : Option (Mem × Int32) := m_X3_needs_8 p1 p2 200 (g) (0) (p1) (p2)
def rm_X3_needs : Room := { frames := 3, cells := 0, slots := 0, locals := 74 }
set_option maxRecDepth 100000 in
set_option maxHeartbeats 4000000 in
theorem c_X3_needs {l : Launch} {D : va_G} {cA : Nat → ClassId} {ad : Nat → Nat} {lo : Nat} (hA : AdOk lo ad lay0.length) {g : Mem} {p1 p2 : Int32} {g1 : Mem} {r : Int32} (h : m_X3_needs g p1 p2 = some (g1, r)) : Met l yX3_needs wsX3_needs rm_X3_needs (Pw [.ref (ad 54), .int p1, .int p2] D cA ad lo g) (Qw D cA ad lo g1 (some r)) 0 0 (fun q => lo ≤ q) := by
  refine startW (cc := cX3_needs) (maxL := 9) (ret := (some .int)) (by decide) rfl (Nat.le_of_ble_eq_true rfl) ?_
  intro p e s m args below meth c ls S hr hlocks hB hl
  obtain ⟨hlo, hP, hK, hN⟩ := hB
  have hS : va_S (fun q => lo ≤ q) s.heap s.heap [] := va_S.rf
  unfold m_X3_needs at h
  have S : CallFix p m c cX3_needs 9 s args wsX3_needs RX3 := S
  have hl : lv_has ls 9 [(0, .ref (ad 54)), (1, .int p1), (2, .int p2)] := hl
  have hn3 : ∀ w ∈ wsX30, w ∈ wsX3_needs := by decide +kernel
  have lk19 := S.2.2.2.2 (.fieldLink RX3 19 "FlatLoaderModel" "files" "[I") (by decide +kernel)
  have lk23 := S.2.2.2.2 (.fieldLink RX3 23 "FlatLoaderModel" "extended" "[I") (by decide +kernel)
  have lk56 := S.2.2.2.2 (.fieldLink RX3 56 "FlatLoaderModel" "chain" "[I") (by decide +kernel)
  obtain ⟨H, hH⟩ : ∃ H, H = s.heap := ⟨_, rfl⟩
  obtain ⟨locs, hlocs⟩ : ∃ z : List Loc, z = [] := ⟨_, rfl⟩
  have key147 : ∀ (k8 : Mem → Int32 → Int32 → Int32 → Option (Mem × Int32)), (∀ (g : Mem) (H : Heap) (locs : List Loc), va_P D vwCl (wld cA ad g lay0) H → va_S (fun q => lo ≤ q) s.heap H locs → ∀ (x3 x4 x5 : Int32), ∀ (ls : Array Slot), lv_has ls 9 [(0, .ref (ad 54)), (1, .int p1), (2, .int p2), (3, .int x3), (4, .int x4), (5, .int x5)] → k8 g x3 x4 x5 = some (g1, r) → W p l e (rm_X3_needs) s m args below meth c H locs 0 0 (MQ below (Qw D cA ad lo g1 (some r)) args s 0 0 (fun q => lo ≤ q)) (F0 m 8 ls [])) → ∀ (g : Mem) (H : Heap) (locs : List Loc), va_P D vwCl (wld cA ad g lay0) H → va_S (fun q => lo ≤ q) s.heap H locs → ∀ (x3 x4 x5 x6 x7 x8 s0 : Int32), ∀ (ls : Array Slot), lv_has ls 9 [(0, .ref (ad 54)), (1, .int p1), (2, .int p2), (3, .int x3), (4, .int x4), (5, .int x5), (6, .int x6), (7, .int x7), (8, .int x8)] → m_X3_needs_147 k8 p1 p2 g x3 x4 x5 x6 x7 x8 s0 = some (g1, r) → W p l e (rm_X3_needs) s m args below meth c H locs 0 0 (MQ below (Qw D cA ad lo g1 (some r)) args s 0 0 (fun q => lo ≤ q)) (F0 m 147 ls [.int s0]) := by
    intro k8 hk8
    intro g H locs hP hS x3 x4 x5 x6 x7 x8 s0 ls hl h
    unfold m_X3_needs_147 at h
    refine lv_istore (lv' := [(4, .int s0), (0, .ref (ad 54)), (1, .int p1), (2, .int p2), (3, .int x3), (5, .int x5), (6, .int x6), (7, .int x7), (8, .int x8)]) S.1 S.2.1 dX3_needs_147 hl (by decide) rfl (fun ls hl => ?_)
    refine lv_iload S.1 S.2.1 dX3_needs_149 (lv_at hl 0 rfl) ?_
    refine lv_if_ge (tgt := 156) S.1 S.2.1 dX3_needs_151 (by decide) (fun hc1 => ?_) (fun hc1 => ?_)
    · rw [if_pos hc1] at h
      refine lv_iload S.1 S.2.1 dX3_needs_156 (lv_at hl 8 rfl) ?_
      refine lv_istore (lv' := [(5, .int x8), (4, .int s0), (0, .ref (ad 54)), (1, .int p1), (2, .int p2), (3, .int x3), (6, .int x6), (7, .int x7), (8, .int x8)]) S.1 S.2.1 dX3_needs_158 hl (by decide) rfl (fun ls hl => ?_)
      refine lv_goto (tgt := 8) S.1 S.2.1 dX3_needs_160 (by decide) ?_
      exact hk8 (g) H locs hP hS (x3) (s0) (x8) ls (lv_sub hl [2, 3, 4, 5, 1, 0] rfl) h
    · rw [if_neg hc1] at h
      refine lv_iconst (v := (-1)) S.1 S.2.1 dX3_needs_154 (by decide) ?_
      exact e_W S hr hlocks hP hS (Option.some.inj h) dX3_needs_155
  have key47 : ∀ (k8 : Mem → Int32 → Int32 → Int32 → Option (Mem × Int32)), (∀ (g : Mem) (H : Heap) (locs : List Loc), va_P D vwCl (wld cA ad g lay0) H → va_S (fun q => lo ≤ q) s.heap H locs → ∀ (x3 x4 x5 : Int32), ∀ (ls : Array Slot), lv_has ls 9 [(0, .ref (ad 54)), (1, .int p1), (2, .int p2), (3, .int x3), (4, .int x4), (5, .int x5)] → k8 g x3 x4 x5 = some (g1, r) → W p l e (rm_X3_needs) s m args below meth c H locs 0 0 (MQ below (Qw D cA ad lo g1 (some r)) args s 0 0 (fun q => lo ≤ q)) (F0 m 8 ls [])) → ∀ (n : Nat), ∀ (g : Mem) (H : Heap) (locs : List Loc), va_P D vwCl (wld cA ad g lay0) H → va_S (fun q => lo ≤ q) s.heap H locs → ∀ (x3 x4 x5 x6 x7 x8 : Int32), ∀ (ls : Array Slot), lv_has ls 9 [(0, .ref (ad 54)), (1, .int p1), (2, .int p2), (3, .int x3), (4, .int x4), (5, .int x5), (6, .int x6), (7, .int x7), (8, .int x8)] → m_X3_needs_47 k8 p1 p2 n g x3 x4 x5 x6 x7 x8 = some (g1, r) → W p l e (rm_X3_needs) s m args below meth c H locs 0 0 (MQ below (Qw D cA ad lo g1 (some r)) args s 0 0 (fun q => lo ≤ q)) (F0 m 47 ls []) := by
    intro k8 hk8 n
    induction n with
    | zero =>
      intro g H locs hP hS x3 x4 x5 x6 x7 x8 ls hl h
      exact nomatch (show none = some (g1, r) from h)
    | succ n ih =>
      intro g H locs hP hS x3 x4 x5 x6 x7 x8 ls hl h
      rw [m_X3_needs_47] at h
      refine lv_iload S.1 S.2.1 dX3_needs_47 (lv_at hl 8 rfl) ?_
      refine lv_iload_n S.1 S.2.1 dX3_needs_49 rfl (lv_at hl 3 rfl) ?_
      refine lv_icmp_ge (tgt := 83) S.1 S.2.1 dX3_needs_50 (by decide) (fun hc2 => ?_) (fun hc2 => ?_)
      · rw [if_pos hc2] at h
        refine lv_aload_n S.1 S.2.1 dX3_needs_83 rfl (lv_at hl 0 rfl) ?_
        refine r_get (C := RX3) (T := TX3) (N := 19) (ci := 3) (k := 54) (j := 4) (fs := fsX) (d := (some (some 58))) (v := .ref (ad 58)) S hK hP hn3 lk19 rfl (by decide) rfl rfl rfl dX3_needs_84 ?_
        refine lv_iload S.1 S.2.1 dX3_needs_87 (lv_at hl 6 rfl) ?_
        obtain ⟨hv3, hv3b, h⟩ := gi_some h
        refine r_ild (k := 58) (n := 192) S hK hP rfl hv3 dX3_needs_89 ?_
        refine lv_bipush (v := (-2)) S.1 S.2.1 dX3_needs_90 (by decide) ?_
        refine lv_icmp_eq (tgt := 106) S.1 S.2.1 dX3_needs_92 (by decide) (fun hc4 => ?_) (fun hc4 => ?_)
        · rw [if_pos hc4] at h
          refine lv_iconst (v := (-1)) S.1 S.2.1 dX3_needs_106 (by decide) ?_
          exact e_W S hr hlocks hP hS (Option.some.inj h) dX3_needs_107
        · rw [if_neg hc4] at h
          refine lv_iload S.1 S.2.1 dX3_needs_95 (lv_at hl 7 rfl) ?_
          refine lv_if_ne (tgt := 106) S.1 S.2.1 dX3_needs_97 (by decide) (fun hc5 => ?_) (fun hc5 => ?_)
          · rw [if_neg hc5] at h
            refine lv_iconst (v := (-1)) S.1 S.2.1 dX3_needs_106 (by decide) ?_
            exact e_W S hr hlocks hP hS (Option.some.inj h) dX3_needs_107
          · rw [if_pos hc5] at h
            refine lv_iload_n S.1 S.2.1 dX3_needs_100 rfl (lv_at hl 3 rfl) ?_
            refine lv_bipush (v := 10) S.1 S.2.1 dX3_needs_101 (by decide) ?_
            refine lv_icmp_lt (tgt := 108) S.1 S.2.1 dX3_needs_103 (by decide) (fun hc6 => ?_) (fun hc6 => ?_)
            · rw [if_pos hc6] at h
              refine lv_aload_n S.1 S.2.1 dX3_needs_108 rfl (lv_at hl 0 rfl) ?_
              refine r_get (C := RX3) (T := TX3) (N := 19) (ci := 3) (k := 54) (j := 18) (fs := fsX) (d := (some (some 70))) (v := .ref (ad 70)) S hK hP hn3 lk56 rfl (by decide) rfl rfl rfl dX3_needs_109 ?_
              refine lv_iload_n S.1 S.2.1 dX3_needs_112 rfl (lv_at hl 3 rfl) ?_
              refine lv_iload S.1 S.2.1 dX3_needs_113 (lv_at hl 6 rfl) ?_
              obtain ⟨hv7, hv7b, h⟩ := gi_some h
              refine r_ist (k := 70) (n := 11) S hA hK hP hS rfl hv7 dX3_needs_115 (fun H locs hP hS => ?_)
              refine lv_iload_n S.1 S.2.1 dX3_needs_116 rfl (lv_at hl 3 rfl) ?_
              refine lv_iconst (v := 1) S.1 S.2.1 dX3_needs_117 (by decide) ?_
              refine lv_iadd S.1 S.2.1 dX3_needs_118 ?_
              refine lv_istore_n (lv' := [(3, .int (x3 + 1)), (0, .ref (ad 54)), (1, .int p1), (2, .int p2), (4, .int x4), (5, .int x5), (6, .int x6), (7, .int x7), (8, .int x8)]) S.1 S.2.1 dX3_needs_119 rfl hl (by decide) rfl (fun ls hl => ?_)
              refine lv_aload_n S.1 S.2.1 dX3_needs_120 rfl (lv_at hl 1 rfl) ?_
              refine r_get (C := RX3) (T := TX3) (N := 19) (ci := 3) (k := 54) (j := 4) (fs := fsX) (d := (some (some 58))) (v := .ref (ad 58)) S hK hP hn3 lk19 rfl (by decide) rfl rfl rfl dX3_needs_121 ?_
              refine lv_iload S.1 S.2.1 dX3_needs_124 (lv_at hl 6 rfl) ?_
              obtain ⟨hv8, hv8b, h⟩ := gi_some h
              refine r_ild (k := 58) (n := 192) S hK hP rfl hv8 dX3_needs_126 ?_
              refine lv_istore (lv' := [(8, .int ((mup g 70 (x3).toNatClampNeg x6) 58 (x6).toNatClampNeg)), (3, .int (x3 + 1)), (0, .ref (ad 54)), (1, .int p1), (2, .int p2), (4, .int x4), (5, .int x5), (6, .int x6), (7, .int x7)]) S.1 S.2.1 dX3_needs_127 hl (by decide) rfl (fun ls hl => ?_)
              refine lv_iload S.1 S.2.1 dX3_needs_129 (lv_at hl 0 rfl) ?_
              refine lv_if_ge (tgt := 139) S.1 S.2.1 dX3_needs_131 (by decide) (fun hc9 => ?_) (fun hc9 => ?_)
              · rw [if_pos hc9] at h
                refine lv_aload_n S.1 S.2.1 dX3_needs_139 rfl (lv_at hl 2 rfl) ?_
                refine lv_iload S.1 S.2.1 dX3_needs_140 (lv_at hl 5 rfl) ?_
                refine lv_iload S.1 S.2.1 dX3_needs_142 (lv_at hl 0 rfl) ?_
                obtain ⟨⟨g_12, r10⟩, h_11, h⟩ := bd_some h
                dsimp only at h
                refine k_Wi (va_runV (As := [.int x4, .int ((mup g 70 (x3).toNatClampNeg x6) 58 (x6).toNatClampNeg)]) (rest := []) S (c_X3_holder hA h_11) (cwV 2 S.2.2.2.2 gX3_needs_X3_holder rfl rfl rfl (by decide +kernel) ⟨Nat.le_of_ble_eq_true rfl, Nat.le_of_ble_eq_true rfl⟩) ⟨Pw_blind, va_recv hK hP (ci := 3) (q0 := 54) rfl (wld_at (d := dX) rfl), Pw_at hlo hS hP hK hN⟩ rfl rfl hl.1 rfl (lv_room (Nat.le_of_ble_eq_true rfl)) dX3_needs_144 ⟨Nat.zero_le _, Nat.zero_le _⟩) hS (fun H locs hP hS => ?_)
                exact key147 k8 hk8 (g_12) H locs hP hS ((x3 + 1)) (x4) (x5) (x6) (x7) (((mup g 70 (x3).toNatClampNeg x6) 58 (x6).toNatClampNeg)) (r10) ls (lv_sub hl [2, 3, 4, 1, 5, 6, 7, 8, 0] rfl) h
              · rw [if_neg hc9] at h
                refine lv_bipush (v := 8) S.1 S.2.1 dX3_needs_134 (by decide) ?_
                refine lv_goto (tgt := 147) S.1 S.2.1 dX3_needs_136 (by decide) ?_
                exact key147 k8 hk8 ((mup g 70 (x3).toNatClampNeg x6)) H locs hP hS ((x3 + 1)) (x4) (x5) (x6) (x7) (((mup g 70 (x3).toNatClampNeg x6) 58 (x6).toNatClampNeg)) (8) ls (lv_sub hl [2, 3, 4, 1, 5, 6, 7, 8, 0] rfl) h
            · rw [if_neg hc6] at h
              refine lv_iconst (v := (-1)) S.1 S.2.1 dX3_needs_106 (by decide) ?_
              exact e_W S hr hlocks hP hS (Option.some.inj h) dX3_needs_107
      · rw [if_neg hc2] at h
        refine lv_iload S.1 S.2.1 dX3_needs_53 (lv_at hl 7 rfl) ?_
        refine lv_if_ne (tgt := 70) S.1 S.2.1 dX3_needs_55 (by decide) (fun hc13 => ?_) (fun hc13 => ?_)
        · rw [if_neg hc13] at h
          refine lv_iconst (v := 1) S.1 S.2.1 dX3_needs_70 (by decide) ?_
          refine lv_goto (tgt := 75) S.1 S.2.1 dX3_needs_71 (by decide) ?_
          refine lv_istore (lv' := [(7, .int 1), (0, .ref (ad 54)), (1, .int p1), (2, .int p2), (3, .int x3), (4, .int x4), (5, .int x5), (6, .int x6), (8, .int x8)]) S.1 S.2.1 dX3_needs_75 hl (by decide) rfl (fun ls hl => ?_)
          refine lv_iinc (v := (x8 + 1)) (lv' := [(8, .int (x8 + 1)), (7, .int 1), (0, .ref (ad 54)), (1, .int p1), (2, .int p2), (3, .int x3), (4, .int x4), (5, .int x5), (6, .int x6)]) S.1 S.2.1 dX3_needs_77 hl (k := 8) rfl rfl (by decide) rfl (fun ls hl => ?_)
          refine lv_goto (tgt := 47) S.1 S.2.1 dX3_needs_80 (by decide) ?_
          exact ih (g) H locs hP hS (x3) (x4) (x5) (x6) (1) ((x8 + 1)) ls (lv_sub hl [2, 3, 4, 5, 6, 7, 8, 1, 0] rfl) h
        · rw [if_pos hc13] at h
          refine lv_aload_n S.1 S.2.1 dX3_needs_58 rfl (lv_at hl 0 rfl) ?_
          refine r_get (C := RX3) (T := TX3) (N := 19) (ci := 3) (k := 54) (j := 18) (fs := fsX) (d := (some (some 70))) (v := .ref (ad 70)) S hK hP hn3 lk56 rfl (by decide) rfl rfl rfl dX3_needs_59 ?_
          refine lv_iload S.1 S.2.1 dX3_needs_62 (lv_at hl 8 rfl) ?_
          obtain ⟨hv14, hv14b, h⟩ := gi_some h
          refine r_ild (k := 70) (n := 11) S hK hP rfl hv14 dX3_needs_64 ?_
          refine lv_iload S.1 S.2.1 dX3_needs_65 (lv_at hl 6 rfl) ?_
          refine lv_icmp_ne (tgt := 74) S.1 S.2.1 dX3_needs_67 (by decide) (fun hc15 => ?_) (fun hc15 => ?_)
          · rw [if_neg hc15] at h
            refine lv_iconst (v := 0) S.1 S.2.1 dX3_needs_74 (by decide) ?_
            refine lv_istore (lv' := [(7, .int 0), (0, .ref (ad 54)), (1, .int p1), (2, .int p2), (3, .int x3), (4, .int x4), (5, .int x5), (6, .int x6), (8, .int x8)]) S.1 S.2.1 dX3_needs_75 hl (by decide) rfl (fun ls hl => ?_)
            refine lv_iinc (v := (x8 + 1)) (lv' := [(8, .int (x8 + 1)), (7, .int 0), (0, .ref (ad 54)), (1, .int p1), (2, .int p2), (3, .int x3), (4, .int x4), (5, .int x5), (6, .int x6)]) S.1 S.2.1 dX3_needs_77 hl (k := 8) rfl rfl (by decide) rfl (fun ls hl => ?_)
            refine lv_goto (tgt := 47) S.1 S.2.1 dX3_needs_80 (by decide) ?_
            exact ih (g) H locs hP hS (x3) (x4) (x5) (x6) (0) ((x8 + 1)) ls (lv_sub hl [2, 3, 4, 5, 6, 7, 8, 1, 0] rfl) h
          · rw [if_pos hc15] at h
            refine lv_iconst (v := 1) S.1 S.2.1 dX3_needs_70 (by decide) ?_
            refine lv_goto (tgt := 75) S.1 S.2.1 dX3_needs_71 (by decide) ?_
            refine lv_istore (lv' := [(7, .int 1), (0, .ref (ad 54)), (1, .int p1), (2, .int p2), (3, .int x3), (4, .int x4), (5, .int x5), (6, .int x6), (8, .int x8)]) S.1 S.2.1 dX3_needs_75 hl (by decide) rfl (fun ls hl => ?_)
            refine lv_iinc (v := (x8 + 1)) (lv' := [(8, .int (x8 + 1)), (7, .int 1), (0, .ref (ad 54)), (1, .int p1), (2, .int p2), (3, .int x3), (4, .int x4), (5, .int x5), (6, .int x6)]) S.1 S.2.1 dX3_needs_77 hl (k := 8) rfl rfl (by decide) rfl (fun ls hl => ?_)
            refine lv_goto (tgt := 47) S.1 S.2.1 dX3_needs_80 (by decide) ?_
            exact ih (g) H locs hP hS (x3) (x4) (x5) (x6) (1) ((x8 + 1)) ls (lv_sub hl [2, 3, 4, 5, 6, 7, 8, 1, 0] rfl) h
  have key8 : ∀ (n : Nat), ∀ (g : Mem) (H : Heap) (locs : List Loc), va_P D vwCl (wld cA ad g lay0) H → va_S (fun q => lo ≤ q) s.heap H locs → ∀ (x3 x4 x5 : Int32), ∀ (ls : Array Slot), lv_has ls 9 [(0, .ref (ad 54)), (1, .int p1), (2, .int p2), (3, .int x3), (4, .int x4), (5, .int x5)] → m_X3_needs_8 p1 p2 n g x3 x4 x5 = some (g1, r) → W p l e (rm_X3_needs) s m args below meth c H locs 0 0 (MQ below (Qw D cA ad lo g1 (some r)) args s 0 0 (fun q => lo ≤ q)) (F0 m 8 ls []) := by
    intro n
    induction n with
    | zero =>
      intro g H locs hP hS x3 x4 x5 ls hl h
      exact nomatch (show none = some (g1, r) from h)
    | succ n ih =>
      intro g H locs hP hS x3 x4 x5 ls hl h
      rw [m_X3_needs_8] at h
      refine lv_iload S.1 S.2.1 dX3_needs_8 (lv_at hl 4 rfl) ?_
      refine lv_bipush (v := 8) S.1 S.2.1 dX3_needs_10 (by decide) ?_
      refine lv_icmp_ge (tgt := 163) S.1 S.2.1 dX3_needs_12 (by decide) (fun hc16 => ?_) (fun hc16 => ?_)
      · rw [if_pos hc16] at h
        refine lv_iload_n S.1 S.2.1 dX3_needs_163 rfl (lv_at hl 3 rfl) ?_
        exact e_W S hr hlocks hP hS (Option.some.inj h) dX3_needs_164
      · rw [if_neg hc16] at h
        refine lv_aload_n S.1 S.2.1 dX3_needs_15 rfl (lv_at hl 0 rfl) ?_
        refine r_get (C := RX3) (T := TX3) (N := 19) (ci := 3) (k := 54) (j := 5) (fs := fsX) (d := (some (some 59))) (v := .ref (ad 59)) S hK hP hn3 lk23 rfl (by decide) rfl rfl rfl dX3_needs_16 ?_
        refine lv_bipush (v := 24) S.1 S.2.1 dX3_needs_19 (by decide) ?_
        refine lv_iload S.1 S.2.1 dX3_needs_21 (lv_at hl 4 rfl) ?_
        refine lv_imul S.1 S.2.1 dX3_needs_23 ?_
        refine lv_iload S.1 S.2.1 dX3_needs_24 (lv_at hl 5 rfl) ?_
        refine lv_iadd S.1 S.2.1 dX3_needs_26 ?_
        obtain ⟨hv17, hv17b, h⟩ := gi_some h
        refine r_ild (k := 59) (n := 192) S hK hP rfl hv17 dX3_needs_27 ?_
        refine lv_if_ge (tgt := 163) S.1 S.2.1 dX3_needs_28 (by decide) (fun hc18 => ?_) (fun hc18 => ?_)
        · rw [if_pos hc18] at h
          refine lv_iload_n S.1 S.2.1 dX3_needs_163 rfl (lv_at hl 3 rfl) ?_
          exact e_W S hr hlocks hP hS (Option.some.inj h) dX3_needs_164
        · rw [if_neg hc18] at h
          refine lv_bipush (v := 24) S.1 S.2.1 dX3_needs_31 (by decide) ?_
          refine lv_iload S.1 S.2.1 dX3_needs_33 (lv_at hl 4 rfl) ?_
          refine lv_imul S.1 S.2.1 dX3_needs_35 ?_
          refine lv_iload S.1 S.2.1 dX3_needs_36 (lv_at hl 5 rfl) ?_
          refine lv_iadd S.1 S.2.1 dX3_needs_38 ?_
          refine lv_istore (lv' := [(6, .int ((24 * x4) + x5)), (0, .ref (ad 54)), (1, .int p1), (2, .int p2), (3, .int x3), (4, .int x4), (5, .int x5)]) S.1 S.2.1 dX3_needs_39 hl (by decide) rfl (fun ls hl => ?_)
          refine lv_iconst (v := 0) S.1 S.2.1 dX3_needs_41 (by decide) ?_
          refine lv_istore (lv' := [(7, .int 0), (6, .int ((24 * x4) + x5)), (0, .ref (ad 54)), (1, .int p1), (2, .int p2), (3, .int x3), (4, .int x4), (5, .int x5)]) S.1 S.2.1 dX3_needs_42 hl (by decide) rfl (fun ls hl => ?_)
          refine lv_iconst (v := 0) S.1 S.2.1 dX3_needs_44 (by decide) ?_
          refine lv_istore (lv' := [(8, .int 0), (7, .int 0), (6, .int ((24 * x4) + x5)), (0, .ref (ad 54)), (1, .int p1), (2, .int p2), (3, .int x3), (4, .int x4), (5, .int x5)]) S.1 S.2.1 dX3_needs_45 hl (by decide) rfl (fun ls hl => ?_)
          exact key47 _ ih 200 (g) H locs hP hS (x3) (x4) (x5) (((24 * x4) + x5)) (0) (0) ls (lv_sub hl [3, 4, 5, 6, 7, 8, 2, 1, 0] rfl) h
  rw [← hH] at hP
  have hS : va_S (fun q => lo ≤ q) s.heap H locs := by rw [hH, hlocs]; exact hS
  have goal0 : W p l e (rm_X3_needs) s m args below meth c H locs 0 0 (MQ below (Qw D cA ad lo g1 (some r)) args s 0 0 (fun q => lo ≤ q)) (F0 m 0 ls []) := by
    refine lv_iconst (v := 0) S.1 S.2.1 dX3_needs_0 (by decide) ?_
    refine lv_istore_n (lv' := [(3, .int 0), (0, .ref (ad 54)), (1, .int p1), (2, .int p2)]) S.1 S.2.1 dX3_needs_1 rfl hl (by decide) rfl (fun ls hl => ?_)
    refine lv_iload_n S.1 S.2.1 dX3_needs_2 rfl (lv_at hl 2 rfl) ?_
    refine lv_istore (lv' := [(4, .int p1), (3, .int 0), (0, .ref (ad 54)), (1, .int p1), (2, .int p2)]) S.1 S.2.1 dX3_needs_3 hl (by decide) rfl (fun ls hl => ?_)
    refine lv_iload_n S.1 S.2.1 dX3_needs_5 rfl (lv_at hl 4 rfl) ?_
    refine lv_istore (lv' := [(5, .int p2), (4, .int p1), (3, .int 0), (0, .ref (ad 54)), (1, .int p1), (2, .int p2)]) S.1 S.2.1 dX3_needs_6 hl (by decide) rfl (fun ls hl => ?_)
    exact key8 200 (g) H locs hP hS (0) (p1) (p2) ls (lv_sub hl [3, 4, 5, 2, 1, 0] rfl) h
  rw [hH, hlocs] at goal0
  exact goal0

def m_X3_define_30 (p1 : Int32) (g : Mem) (x2 s0 s1 : Int32) : Option Mem := gi s1 192 (some (mup (mup g 59 (s1).toNatClampNeg s0) 54 11 (((mup g 59 (s1).toNatClampNeg s0) 54 11) + 1)))
def m_X3_define (g : Mem) (p1 : Int32) : Option Mem := gi p1 192 ((if 0 ≤ (g 58 (p1).toNatClampNeg) then (m_X3_holder g (p1 / 24) (g 58 (p1).toNatClampNeg)).bind fun qr4 => m_X3_define_30 p1 (qr4.1) ((g 58 (p1).toNatClampNeg)) (qr4.2) (p1) else m_X3_define_30 p1 (g) ((g 58 (p1).toNatClampNeg)) (9) (p1)))
def rm_X3_define : Room := { frames := 3, cells := 0, slots := 0, locals := 74 }
set_option maxRecDepth 100000 in
set_option maxHeartbeats 4000000 in
theorem c_X3_define {l : Launch} {D : va_G} {cA : Nat → ClassId} {ad : Nat → Nat} {lo : Nat} (hA : AdOk lo ad lay0.length) {g : Mem} {p1 : Int32} {g1 : Mem} (h : m_X3_define g p1 = some g1) : Met l yX3_define wsX3_define rm_X3_define (Pw [.ref (ad 54), .int p1] D cA ad lo g) (Qw D cA ad lo g1 none) 0 0 (fun q => lo ≤ q) := by
  refine startW (cc := cX3_define) (maxL := 3) (ret := none) (by decide) rfl (Nat.le_of_ble_eq_true rfl) ?_
  intro p e s m args below meth c ls S hr hlocks hB hl
  obtain ⟨hlo, hP, hK, hN⟩ := hB
  have hS : va_S (fun q => lo ≤ q) s.heap s.heap [] := va_S.rf
  unfold m_X3_define at h
  have S : CallFix p m c cX3_define 3 s args wsX3_define RX3 := S
  have hl : lv_has ls 3 [(0, .ref (ad 54)), (1, .int p1)] := hl
  have hn3 : ∀ w ∈ wsX30, w ∈ wsX3_define := by decide +kernel
  have lk19 := S.2.2.2.2 (.fieldLink RX3 19 "FlatLoaderModel" "files" "[I") (by decide +kernel)
  have lk23 := S.2.2.2.2 (.fieldLink RX3 23 "FlatLoaderModel" "extended" "[I") (by decide +kernel)
  have lk86 := S.2.2.2.2 (.fieldLink RX3 86 "FlatLoaderModel" "classes" "I") (by decide +kernel)
  obtain ⟨H, hH⟩ : ∃ H, H = s.heap := ⟨_, rfl⟩
  obtain ⟨locs, hlocs⟩ : ∃ z : List Loc, z = [] := ⟨_, rfl⟩
  have key30 : ∀ (g : Mem) (H : Heap) (locs : List Loc), va_P D vwCl (wld cA ad g lay0) H → va_S (fun q => lo ≤ q) s.heap H locs → ∀ (x2 s0 s1 : Int32), ∀ (ls : Array Slot), lv_has ls 3 [(0, .ref (ad 54)), (1, .int p1), (2, .int x2)] → m_X3_define_30 p1 g x2 s0 s1 = some g1 → W p l e (rm_X3_define) s m args below meth c H locs 0 0 (MQ below (Qw D cA ad lo g1 none) args s 0 0 (fun q => lo ≤ q)) (F0 m 30 ls [.int s0, .int s1, .ref (ad 59)]) := by
    intro g H locs hP hS x2 s0 s1 ls hl h
    unfold m_X3_define_30 at h
    obtain ⟨hv1, hv1b, h⟩ := gi_some h
    refine r_ist (k := 59) (n := 192) S hA hK hP hS rfl hv1 dX3_define_30 (fun H locs hP hS => ?_)
    refine lv_aload_n S.1 S.2.1 dX3_define_31 rfl (lv_at hl 0 rfl) ?_
    refine lv_aload_n S.1 S.2.1 dX3_define_32 rfl (lv_at hl 0 rfl) ?_
    refine r_get (C := RX3) (T := TX3) (N := 19) (ci := 3) (k := 54) (j := 11) (fs := fsX) (d := none) (v := .int ((mup g 59 (s1).toNatClampNeg s0) 54 11)) S hK hP hn3 lk86 rfl (by decide) rfl rfl rfl dX3_define_33 ?_
    refine lv_iconst (v := 1) S.1 S.2.1 dX3_define_36 (by decide) ?_
    refine lv_iadd S.1 S.2.1 dX3_define_37 ?_
    refine r_put (C := RX3) (T := TX3) (N := 19) (ci := 3) (k := 54) (j := 11) (fs := fsX) (v := (((mup g 59 (s1).toNatClampNeg s0) 54 11) + 1)) tyX3 tyX3_ok nmX3 S hA hK hP hS hn3 lk86 rfl (by decide) rfl (by decide +kernel) rfl rfl dX3_define_38 (fun H locs hP hS => ?_)
    exact e_Wv S hr hlocks hP hS (Option.some.inj h) dX3_define_41
  rw [← hH] at hP
  have hS : va_S (fun q => lo ≤ q) s.heap H locs := by rw [hH, hlocs]; exact hS
  have goal0 : W p l e (rm_X3_define) s m args below meth c H locs 0 0 (MQ below (Qw D cA ad lo g1 none) args s 0 0 (fun q => lo ≤ q)) (F0 m 0 ls []) := by
    refine lv_aload_n S.1 S.2.1 dX3_define_0 rfl (lv_at hl 0 rfl) ?_
    refine r_get (C := RX3) (T := TX3) (N := 19) (ci := 3) (k := 54) (j := 4) (fs := fsX) (d := (some (some 58))) (v := .ref (ad 58)) S hK hP hn3 lk19 rfl (by decide) rfl rfl rfl dX3_define_1 ?_
    refine lv_iload_n S.1 S.2.1 dX3_define_4 rfl (lv_at hl 1 rfl) ?_
    obtain ⟨hv2, hv2b, h⟩ := gi_some h
    refine r_ild (k := 58) (n := 192) S hK hP rfl hv2 dX3_define_5 ?_
    refine lv_istore_n (lv' := [(2, .int (g 58 (p1).toNatClampNeg)), (0, .ref (ad 54)), (1, .int p1)]) S.1 S.2.1 dX3_define_6 rfl hl (by decide) rfl (fun ls hl => ?_)
    refine lv_aload_n S.1 S.2.1 dX3_define_7 rfl (lv_at hl 1 rfl) ?_
    refine r_get (C := RX3) (T := TX3) (N := 19) (ci := 3) (k := 54) (j := 5) (fs := fsX) (d := (some (some 59))) (v := .ref (ad 59)) S hK hP hn3 lk23 rfl (by decide) rfl rfl rfl dX3_define_8 ?_
    refine lv_iload_n S.1 S.2.1 dX3_define_11 rfl (lv_at hl 2 rfl) ?_
    refine lv_iload_n S.1 S.2.1 dX3_define_12 rfl (lv_at hl 0 rfl) ?_
    refine lv_if_ge (tgt := 21) S.1 S.2.1 dX3_define_13 (by decide) (fun hc3 => ?_) (fun hc3 => ?_)
    · rw [if_pos hc3] at h
      refine lv_aload_n S.1 S.2.1 dX3_define_21 rfl (lv_at hl 1 rfl) ?_
      refine lv_iload_n S.1 S.2.1 dX3_define_22 rfl (lv_at hl 2 rfl) ?_
      refine lv_bipush (v := 24) S.1 S.2.1 dX3_define_23 (by decide) ?_
      refine lv_idiv S.1 S.2.1 dX3_define_25 (by decide) ?_
      refine lv_iload_n S.1 S.2.1 dX3_define_26 rfl (lv_at hl 0 rfl) ?_
      obtain ⟨⟨g_6, r4⟩, h_5, h⟩ := bd_some h
      dsimp only at h
      refine k_Wi (va_runV (As := [.int (p1 / 24), .int (g 58 (p1).toNatClampNeg)]) (rest := [.int p1, .ref (ad 59)]) S (c_X3_holder hA h_5) (cwV 2 S.2.2.2.2 gX3_define_X3_holder rfl rfl rfl (by decide +kernel) ⟨Nat.le_of_ble_eq_true rfl, Nat.le_of_ble_eq_true rfl⟩) ⟨Pw_blind, va_recv hK hP (ci := 3) (q0 := 54) rfl (wld_at (d := dX) rfl), Pw_at hlo hS hP hK hN⟩ rfl rfl hl.1 rfl (lv_room (Nat.le_of_ble_eq_true rfl)) dX3_define_27 ⟨Nat.zero_le _, Nat.zero_le _⟩) hS (fun H locs hP hS => ?_)
      exact key30 (g_6) H locs hP hS ((g 58 (p1).toNatClampNeg)) (r4) (p1) ls (lv_sub hl [1, 2, 0] rfl) h
    · rw [if_neg hc3] at h
      refine lv_bipush (v := 9) S.1 S.2.1 dX3_define_16 (by decide) ?_
      refine lv_goto (tgt := 30) S.1 S.2.1 dX3_define_18 (by decide) ?_
      exact key30 (g) H locs hP hS ((g 58 (p1).toNatClampNeg)) (9) (p1) ls (lv_sub hl [1, 2, 0] rfl) h
  rw [hH, hlocs] at goal0
  exact goal0

def m_X3_find_110 (p1 p2 : Int32) : Nat → Mem → Int32 → Int32 → Int32 → Int32 → Option (Mem × Int32)
  | 0, _, _, _, _, _ => none
  | n + 1, g, x3, x4, x5, x6 => (if x6 < 0 then some (g, x4) else gi x6 11 ((m_X3_define g (g 70 (x6).toNatClampNeg)).bind fun g_5 => m_X3_find_110 p1 p2 n (g_5) (x3) (x4) (x5) ((x6 + (-1)))))
def m_X3_find_96 (p1 p2 : Int32) (g : Mem) (x3 x4 x5 s0 : Int32) : Option (Mem × Int32) := (m_X3_throwsBy g s0).bind fun qr6 => (if qr6.2 = 0 then m_X3_find_110 p1 p2 200 (qr6.1) (x3) (x4) (x5) ((x5 - 1)) else some (qr6.1, 0))
def m_X3_find_66 (p1 p2 : Int32) (g : Mem) (x3 x4 s0 : Int32) : Option (Mem × Int32) := (if x3 = 0 then m_X3_find_96 p1 p2 (g) (x3) (x4) (s0) (1) else (if 0 ≤ x4 then (if 0 ≤ s0 then m_X3_find_96 p1 p2 (g) (x3) (x4) (s0) (0) else m_X3_find_96 p1 p2 (g) (x3) (x4) (s0) (3)) else m_X3_find_96 p1 p2 (g) (x3) (x4) (s0) (2)))
def m_X3_find_38 (p1 p2 : Int32) (g : Mem) (x3 s0 : Int32) : Option (Mem × Int32) := (if x3 = 0 then m_X3_find_66 p1 p2 (g) (x3) (s0) (0) else (if (m_X3_in s0 0 7) = 0 then m_X3_find_66 p1 p2 (g) (x3) (s0) (0) else (m_X3_needs g s0 p2).bind fun qr15 => m_X3_find_66 p1 p2 (qr15.1) (x3) (s0) (qr15.2)))
def m_X3_find_23 (p1 p2 : Int32) (g : Mem) (s0 : Int32) : Option (Mem × Int32) := (if s0 = 0 then m_X3_find_38 p1 p2 (g) (s0) (0) else (m_X3_holder g p1 p2).bind fun qr19 => m_X3_find_38 p1 p2 (qr19.1) (s0) (qr19.2))
def m_X3_find (g : Mem) (p1 p2 : Int32) : Option (Mem × Int32) := (m_X3_isLoaded g p1).bind fun r22 => (if r22 = 0 then m_X3_find_23 p1 p2 (g) (0) else (if (m_X3_in p2 0 23) = 0 then m_X3_find_23 p1 p2 (g) (0) else m_X3_find_23 p1 p2 (g) (1)))
def rm_X3_find : Room := { frames := 4, cells := 0, slots := 0, locals := 102 }
set_option maxRecDepth 100000 in
set_option maxHeartbeats 4000000 in
theorem c_X3_find {l : Launch} {D : va_G} {cA : Nat → ClassId} {ad : Nat → Nat} {lo : Nat} (hA : AdOk lo ad lay0.length) {g : Mem} {p1 p2 : Int32} {g1 : Mem} {r : Int32} (h : m_X3_find g p1 p2 = some (g1, r)) : Met l yX3_find wsX3_find rm_X3_find (Pw [.ref (ad 54), .int p1, .int p2] D cA ad lo g) (Qw D cA ad lo g1 (some r)) 0 0 (fun q => lo ≤ q) := by
  refine startW (cc := cX3_find) (maxL := 7) (ret := (some .int)) (by decide) rfl (Nat.le_of_ble_eq_true rfl) ?_
  intro p e s m args below meth c ls S hr hlocks hB hl
  obtain ⟨hlo, hP, hK, hN⟩ := hB
  have hS : va_S (fun q => lo ≤ q) s.heap s.heap [] := va_S.rf
  unfold m_X3_find at h
  have S : CallFix p m c cX3_find 7 s args wsX3_find RX3 := S
  have hl : lv_has ls 7 [(0, .ref (ad 54)), (1, .int p1), (2, .int p2)] := hl
  have hn3 : ∀ w ∈ wsX30, w ∈ wsX3_find := by decide +kernel
  have lk56 := S.2.2.2.2 (.fieldLink RX3 56 "FlatLoaderModel" "chain" "[I") (by decide +kernel)
  obtain ⟨H, hH⟩ : ∃ H, H = s.heap := ⟨_, rfl⟩
  obtain ⟨locs, hlocs⟩ : ∃ z : List Loc, z = [] := ⟨_, rfl⟩
  have key110 : ∀ (n : Nat), ∀ (g : Mem) (H : Heap) (locs : List Loc), va_P D vwCl (wld cA ad g lay0) H → va_S (fun q => lo ≤ q) s.heap H locs → ∀ (x3 x4 x5 x6 : Int32), ∀ (ls : Array Slot), lv_has ls 7 [(0, .ref (ad 54)), (1, .int p1), (2, .int p2), (3, .int x3), (4, .int x4), (5, .int x5), (6, .int x6)] → m_X3_find_110 p1 p2 n g x3 x4 x5 x6 = some (g1, r) → W p l e (rm_X3_find) s m args below meth c H locs 0 0 (MQ below (Qw D cA ad lo g1 (some r)) args s 0 0 (fun q => lo ≤ q)) (F0 m 110 ls []) := by
    intro n
    induction n with
    | zero =>
      intro g H locs hP hS x3 x4 x5 x6 ls hl h
      exact nomatch (show none = some (g1, r) from h)
    | succ n ih =>
      intro g H locs hP hS x3 x4 x5 x6 ls hl h
      rw [m_X3_find_110] at h
      refine lv_iload S.1 S.2.1 dX3_find_110 (lv_at hl 6 rfl) ?_
      refine lv_if_lt (tgt := 132) S.1 S.2.1 dX3_find_112 (by decide) (fun hc1 => ?_) (fun hc1 => ?_)
      · rw [if_pos hc1] at h
        refine lv_iload S.1 S.2.1 dX3_find_132 (lv_at hl 4 rfl) ?_
        exact e_W S hr hlocks hP hS (Option.some.inj h) dX3_find_134
      · rw [if_neg hc1] at h
        refine lv_aload_n S.1 S.2.1 dX3_find_115 rfl (lv_at hl 0 rfl) ?_
        refine lv_aload_n S.1 S.2.1 dX3_find_116 rfl (lv_at hl 0 rfl) ?_
        refine r_get (C := RX3) (T := TX3) (N := 19) (ci := 3) (k := 54) (j := 18) (fs := fsX) (d := (some (some 70))) (v := .ref (ad 70)) S hK hP hn3 lk56 rfl (by decide) rfl rfl rfl dX3_find_117 ?_
        refine lv_iload S.1 S.2.1 dX3_find_120 (lv_at hl 6 rfl) ?_
        obtain ⟨hv2, hv2b, h⟩ := gi_some h
        refine r_ild (k := 70) (n := 11) S hK hP rfl hv2 dX3_find_122 ?_
        obtain ⟨g_5, h_4, h⟩ := bd_some h
        refine k_Wv (va_runV (As := [.int (g 70 (x6).toNatClampNeg)]) (rest := []) S (c_X3_define hA h_4) (cwV 1 S.2.2.2.2 gX3_find_X3_define rfl rfl rfl (by decide +kernel) ⟨Nat.le_of_ble_eq_true rfl, Nat.le_of_ble_eq_true rfl⟩) ⟨Pw_blind, va_recv hK hP (ci := 3) (q0 := 54) rfl (wld_at (d := dX) rfl), Pw_at hlo hS hP hK hN⟩ rfl rfl hl.1 rfl (lv_room (Nat.le_of_ble_eq_true rfl)) dX3_find_123 ⟨Nat.zero_le _, Nat.zero_le _⟩) hS (fun H locs hP hS => ?_)
        refine lv_iinc (v := (x6 + (-1))) (lv' := [(6, .int (x6 + (-1))), (0, .ref (ad 54)), (1, .int p1), (2, .int p2), (3, .int x3), (4, .int x4), (5, .int x5)]) S.1 S.2.1 dX3_find_126 hl (k := 6) rfl rfl (by decide) rfl (fun ls hl => ?_)
        refine lv_goto (tgt := 110) S.1 S.2.1 dX3_find_129 (by decide) ?_
        exact ih (g_5) H locs hP hS (x3) (x4) (x5) ((x6 + (-1))) ls (lv_sub hl [1, 2, 3, 4, 5, 6, 0] rfl) h
  have key96 : ∀ (g : Mem) (H : Heap) (locs : List Loc), va_P D vwCl (wld cA ad g lay0) H → va_S (fun q => lo ≤ q) s.heap H locs → ∀ (x3 x4 x5 s0 : Int32), ∀ (ls : Array Slot), lv_has ls 7 [(0, .ref (ad 54)), (1, .int p1), (2, .int p2), (3, .int x3), (4, .int x4), (5, .int x5)] → m_X3_find_96 p1 p2 g x3 x4 x5 s0 = some (g1, r) → W p l e (rm_X3_find) s m args below meth c H locs 0 0 (MQ below (Qw D cA ad lo g1 (some r)) args s 0 0 (fun q => lo ≤ q)) (F0 m 96 ls [.int s0, .ref (ad 54)]) := by
    intro g H locs hP hS x3 x4 x5 s0 ls hl h
    unfold m_X3_find_96 at h
    obtain ⟨⟨g_8, r6⟩, h_7, h⟩ := bd_some h
    dsimp only at h
    refine k_Wi (va_runV (As := [.int s0]) (rest := []) S (c_X3_throwsBy hA h_7) (cwV 1 S.2.2.2.2 gX3_find_X3_throwsBy rfl rfl rfl (by decide +kernel) ⟨Nat.le_of_ble_eq_true rfl, Nat.le_of_ble_eq_true rfl⟩) ⟨Pw_blind, va_recv hK hP (ci := 3) (q0 := 54) rfl (wld_at (d := dX) rfl), Pw_at hlo hS hP hK hN⟩ rfl rfl hl.1 rfl (lv_room (Nat.le_of_ble_eq_true rfl)) dX3_find_96 ⟨Nat.zero_le _, Nat.zero_le _⟩) hS (fun H locs hP hS => ?_)
    refine lv_if_eq (tgt := 104) S.1 S.2.1 dX3_find_99 (by decide) (fun hc9 => ?_) (fun hc9 => ?_)
    · rw [if_pos hc9] at h
      refine lv_iload S.1 S.2.1 dX3_find_104 (lv_at hl 5 rfl) ?_
      refine lv_iconst (v := 1) S.1 S.2.1 dX3_find_106 (by decide) ?_
      refine lv_isub S.1 S.2.1 dX3_find_107 ?_
      refine lv_istore (lv' := [(6, .int (x5 - 1)), (0, .ref (ad 54)), (1, .int p1), (2, .int p2), (3, .int x3), (4, .int x4), (5, .int x5)]) S.1 S.2.1 dX3_find_108 hl (by decide) rfl (fun ls hl => ?_)
      exact key110 200 (g_8) H locs hP hS (x3) (x4) (x5) ((x5 - 1)) ls (lv_sub hl [1, 2, 3, 4, 5, 6, 0] rfl) h
    · rw [if_neg hc9] at h
      refine lv_iconst (v := 0) S.1 S.2.1 dX3_find_102 (by decide) ?_
      exact e_W S hr hlocks hP hS (Option.some.inj h) dX3_find_103
  have key66 : ∀ (g : Mem) (H : Heap) (locs : List Loc), va_P D vwCl (wld cA ad g lay0) H → va_S (fun q => lo ≤ q) s.heap H locs → ∀ (x3 x4 s0 : Int32), ∀ (ls : Array Slot), lv_has ls 7 [(0, .ref (ad 54)), (1, .int p1), (2, .int p2), (3, .int x3), (4, .int x4)] → m_X3_find_66 p1 p2 g x3 x4 s0 = some (g1, r) → W p l e (rm_X3_find) s m args below meth c H locs 0 0 (MQ below (Qw D cA ad lo g1 (some r)) args s 0 0 (fun q => lo ≤ q)) (F0 m 66 ls [.int s0]) := by
    intro g H locs hP hS x3 x4 s0 ls hl h
    unfold m_X3_find_66 at h
    refine lv_istore (lv' := [(5, .int s0), (0, .ref (ad 54)), (1, .int p1), (2, .int p2), (3, .int x3), (4, .int x4)]) S.1 S.2.1 dX3_find_66 hl (by decide) rfl (fun ls hl => ?_)
    refine lv_aload_n S.1 S.2.1 dX3_find_68 rfl (lv_at hl 1 rfl) ?_
    refine lv_iload_n S.1 S.2.1 dX3_find_69 rfl (lv_at hl 4 rfl) ?_
    refine lv_if_ne (tgt := 77) S.1 S.2.1 dX3_find_70 (by decide) (fun hc10 => ?_) (fun hc10 => ?_)
    · rw [if_neg hc10] at h
      refine lv_iload S.1 S.2.1 dX3_find_77 (lv_at hl 5 rfl) ?_
      refine lv_if_ge (tgt := 86) S.1 S.2.1 dX3_find_79 (by decide) (fun hc11 => ?_) (fun hc11 => ?_)
      · rw [if_pos hc11] at h
        refine lv_iload S.1 S.2.1 dX3_find_86 (lv_at hl 0 rfl) ?_
        refine lv_if_ge (tgt := 95) S.1 S.2.1 dX3_find_88 (by decide) (fun hc12 => ?_) (fun hc12 => ?_)
        · rw [if_pos hc12] at h
          refine lv_iconst (v := 0) S.1 S.2.1 dX3_find_95 (by decide) ?_
          exact key96 (g) H locs hP hS (x3) (x4) (s0) (0) ls (lv_sub hl [1, 2, 3, 4, 5, 0] rfl) h
        · rw [if_neg hc12] at h
          refine lv_iconst (v := 3) S.1 S.2.1 dX3_find_91 (by decide) ?_
          refine lv_goto (tgt := 96) S.1 S.2.1 dX3_find_92 (by decide) ?_
          exact key96 (g) H locs hP hS (x3) (x4) (s0) (3) ls (lv_sub hl [1, 2, 3, 4, 5, 0] rfl) h
      · rw [if_neg hc11] at h
        refine lv_iconst (v := 2) S.1 S.2.1 dX3_find_82 (by decide) ?_
        refine lv_goto (tgt := 96) S.1 S.2.1 dX3_find_83 (by decide) ?_
        exact key96 (g) H locs hP hS (x3) (x4) (s0) (2) ls (lv_sub hl [1, 2, 3, 4, 5, 0] rfl) h
    · rw [if_pos hc10] at h
      refine lv_iconst (v := 1) S.1 S.2.1 dX3_find_73 (by decide) ?_
      refine lv_goto (tgt := 96) S.1 S.2.1 dX3_find_74 (by decide) ?_
      exact key96 (g) H locs hP hS (x3) (x4) (s0) (1) ls (lv_sub hl [1, 2, 3, 4, 5, 0] rfl) h
  have key38 : ∀ (g : Mem) (H : Heap) (locs : List Loc), va_P D vwCl (wld cA ad g lay0) H → va_S (fun q => lo ≤ q) s.heap H locs → ∀ (x3 s0 : Int32), ∀ (ls : Array Slot), lv_has ls 7 [(0, .ref (ad 54)), (1, .int p1), (2, .int p2), (3, .int x3)] → m_X3_find_38 p1 p2 g x3 s0 = some (g1, r) → W p l e (rm_X3_find) s m args below meth c H locs 0 0 (MQ below (Qw D cA ad lo g1 (some r)) args s 0 0 (fun q => lo ≤ q)) (F0 m 38 ls [.int s0]) := by
    intro g H locs hP hS x3 s0 ls hl h
    unfold m_X3_find_38 at h
    refine lv_istore (lv' := [(4, .int s0), (0, .ref (ad 54)), (1, .int p1), (2, .int p2), (3, .int x3)]) S.1 S.2.1 dX3_find_38 hl (by decide) rfl (fun ls hl => ?_)
    refine lv_iload_n S.1 S.2.1 dX3_find_40 rfl (lv_at hl 4 rfl) ?_
    refine lv_if_eq (tgt := 65) S.1 S.2.1 dX3_find_41 (by decide) (fun hc13 => ?_) (fun hc13 => ?_)
    · rw [if_pos hc13] at h
      refine lv_iconst (v := 0) S.1 S.2.1 dX3_find_65 (by decide) ?_
      exact key66 (g) H locs hP hS (x3) (s0) (0) ls (lv_sub hl [1, 2, 3, 4, 0] rfl) h
    · rw [if_neg hc13] at h
      refine lv_iload S.1 S.2.1 dX3_find_44 (lv_at hl 0 rfl) ?_
      refine lv_iconst (v := 0) S.1 S.2.1 dX3_find_46 (by decide) ?_
      refine lv_bipush (v := 7) S.1 S.2.1 dX3_find_47 (by decide) ?_
      refine k_R (r := (m_X3_in s0 0 7)) (va_runS (As := [.int s0, .int 0, .int 7]) (rest := []) S c_X3_in (va_cwS 3 S.2.2.2.2 gX3_find_X3_in rfl rfl rfl (by decide +kernel) ⟨Nat.le_of_ble_eq_true rfl, Nat.le_of_ble_eq_true rfl⟩) ⟨Tr_blind, Tr_at⟩ rfl rfl hl.1 rfl (lv_room (Nat.le_of_ble_eq_true rfl)) dX3_find_49 ⟨Nat.zero_le _, Nat.zero_le _⟩) ?_
      refine lv_if_eq (tgt := 65) S.1 S.2.1 dX3_find_52 (by decide) (fun hc14 => ?_) (fun hc14 => ?_)
      · rw [if_pos hc14] at h
        refine lv_iconst (v := 0) S.1 S.2.1 dX3_find_65 (by decide) ?_
        exact key66 (g) H locs hP hS (x3) (s0) (0) ls (lv_sub hl [1, 2, 3, 4, 0] rfl) h
      · rw [if_neg hc14] at h
        refine lv_aload_n S.1 S.2.1 dX3_find_55 rfl (lv_at hl 1 rfl) ?_
        refine lv_iload S.1 S.2.1 dX3_find_56 (lv_at hl 0 rfl) ?_
        refine lv_iload_n S.1 S.2.1 dX3_find_58 rfl (lv_at hl 3 rfl) ?_
        obtain ⟨⟨g_17, r15⟩, h_16, h⟩ := bd_some h
        dsimp only at h
        refine k_Wi (va_runV (As := [.int s0, .int p2]) (rest := []) S (c_X3_needs hA h_16) (cwV 2 S.2.2.2.2 gX3_find_X3_needs rfl rfl rfl (by decide +kernel) ⟨Nat.le_of_ble_eq_true rfl, Nat.le_of_ble_eq_true rfl⟩) ⟨Pw_blind, va_recv hK hP (ci := 3) (q0 := 54) rfl (wld_at (d := dX) rfl), Pw_at hlo hS hP hK hN⟩ rfl rfl hl.1 rfl (lv_room (Nat.le_of_ble_eq_true rfl)) dX3_find_59 ⟨Nat.zero_le _, Nat.zero_le _⟩) hS (fun H locs hP hS => ?_)
        refine lv_goto (tgt := 66) S.1 S.2.1 dX3_find_62 (by decide) ?_
        exact key66 (g_17) H locs hP hS (x3) (s0) (r15) ls (lv_sub hl [1, 2, 3, 4, 0] rfl) h
  have key23 : ∀ (g : Mem) (H : Heap) (locs : List Loc), va_P D vwCl (wld cA ad g lay0) H → va_S (fun q => lo ≤ q) s.heap H locs → ∀ (s0 : Int32), ∀ (ls : Array Slot), lv_has ls 7 [(0, .ref (ad 54)), (1, .int p1), (2, .int p2)] → m_X3_find_23 p1 p2 g s0 = some (g1, r) → W p l e (rm_X3_find) s m args below meth c H locs 0 0 (MQ below (Qw D cA ad lo g1 (some r)) args s 0 0 (fun q => lo ≤ q)) (F0 m 23 ls [.int s0]) := by
    intro g H locs hP hS s0 ls hl h
    unfold m_X3_find_23 at h
    refine lv_istore_n (lv' := [(3, .int s0), (0, .ref (ad 54)), (1, .int p1), (2, .int p2)]) S.1 S.2.1 dX3_find_23 rfl hl (by decide) rfl (fun ls hl => ?_)
    refine lv_iload_n S.1 S.2.1 dX3_find_24 rfl (lv_at hl 0 rfl) ?_
    refine lv_if_eq (tgt := 37) S.1 S.2.1 dX3_find_25 (by decide) (fun hc18 => ?_) (fun hc18 => ?_)
    · rw [if_pos hc18] at h
      refine lv_iconst (v := 0) S.1 S.2.1 dX3_find_37 (by decide) ?_
      exact key38 (g) H locs hP hS (s0) (0) ls (lv_sub hl [1, 2, 3, 0] rfl) h
    · rw [if_neg hc18] at h
      refine lv_aload_n S.1 S.2.1 dX3_find_28 rfl (lv_at hl 1 rfl) ?_
      refine lv_iload_n S.1 S.2.1 dX3_find_29 rfl (lv_at hl 2 rfl) ?_
      refine lv_iload_n S.1 S.2.1 dX3_find_30 rfl (lv_at hl 3 rfl) ?_
      obtain ⟨⟨g_21, r19⟩, h_20, h⟩ := bd_some h
      dsimp only at h
      refine k_Wi (va_runV (As := [.int p1, .int p2]) (rest := []) S (c_X3_holder hA h_20) (cwV 2 S.2.2.2.2 gX3_find_X3_holder rfl rfl rfl (by decide +kernel) ⟨Nat.le_of_ble_eq_true rfl, Nat.le_of_ble_eq_true rfl⟩) ⟨Pw_blind, va_recv hK hP (ci := 3) (q0 := 54) rfl (wld_at (d := dX) rfl), Pw_at hlo hS hP hK hN⟩ rfl rfl hl.1 rfl (lv_room (Nat.le_of_ble_eq_true rfl)) dX3_find_31 ⟨Nat.zero_le _, Nat.zero_le _⟩) hS (fun H locs hP hS => ?_)
      refine lv_goto (tgt := 38) S.1 S.2.1 dX3_find_34 (by decide) ?_
      exact key38 (g_21) H locs hP hS (s0) (r19) ls (lv_sub hl [1, 2, 3, 0] rfl) h
  rw [← hH] at hP
  have hS : va_S (fun q => lo ≤ q) s.heap H locs := by rw [hH, hlocs]; exact hS
  have goal0 : W p l e (rm_X3_find) s m args below meth c H locs 0 0 (MQ below (Qw D cA ad lo g1 (some r)) args s 0 0 (fun q => lo ≤ q)) (F0 m 0 ls []) := by
    refine lv_aload_n S.1 S.2.1 dX3_find_0 rfl (lv_at hl 0 rfl) ?_
    refine lv_iload_n S.1 S.2.1 dX3_find_1 rfl (lv_at hl 1 rfl) ?_
    obtain ⟨r22, h_23, h⟩ := bd_some h
    refine k_R (r := r22) (va_runV (As := [.int p1]) (rest := []) S (c_X3_isLoaded h_23) (cwV 1 S.2.2.2.2 gX3_find_X3_isLoaded rfl rfl rfl (by decide +kernel) ⟨Nat.le_of_ble_eq_true rfl, Nat.le_of_ble_eq_true rfl⟩) ⟨Pw_blind, va_recv hK hP (ci := 3) (q0 := 54) rfl (wld_at (d := dX) rfl), Pw_at hlo hS hP hK hN⟩ rfl rfl hl.1 rfl (lv_room (Nat.le_of_ble_eq_true rfl)) dX3_find_2 ⟨Nat.zero_le _, Nat.zero_le _⟩) ?_
    refine lv_if_eq (tgt := 22) S.1 S.2.1 dX3_find_5 (by decide) (fun hc24 => ?_) (fun hc24 => ?_)
    · rw [if_pos hc24] at h
      refine lv_iconst (v := 0) S.1 S.2.1 dX3_find_22 (by decide) ?_
      exact key23 (g) H locs hP hS (0) ls (lv_sub hl [0, 1, 2] rfl) h
    · rw [if_neg hc24] at h
      refine lv_iload_n S.1 S.2.1 dX3_find_8 rfl (lv_at hl 2 rfl) ?_
      refine lv_iconst (v := 0) S.1 S.2.1 dX3_find_9 (by decide) ?_
      refine lv_bipush (v := 23) S.1 S.2.1 dX3_find_10 (by decide) ?_
      refine k_R (r := (m_X3_in p2 0 23)) (va_runS (As := [.int p2, .int 0, .int 23]) (rest := []) S c_X3_in (va_cwS 3 S.2.2.2.2 gX3_find_X3_in rfl rfl rfl (by decide +kernel) ⟨Nat.le_of_ble_eq_true rfl, Nat.le_of_ble_eq_true rfl⟩) ⟨Tr_blind, Tr_at⟩ rfl rfl hl.1 rfl (lv_room (Nat.le_of_ble_eq_true rfl)) dX3_find_12 ⟨Nat.zero_le _, Nat.zero_le _⟩) ?_
      refine lv_if_eq (tgt := 22) S.1 S.2.1 dX3_find_15 (by decide) (fun hc25 => ?_) (fun hc25 => ?_)
      · rw [if_pos hc25] at h
        refine lv_iconst (v := 0) S.1 S.2.1 dX3_find_22 (by decide) ?_
        exact key23 (g) H locs hP hS (0) ls (lv_sub hl [0, 1, 2] rfl) h
      · rw [if_neg hc25] at h
        refine lv_iconst (v := 1) S.1 S.2.1 dX3_find_18 (by decide) ?_
        refine lv_goto (tgt := 23) S.1 S.2.1 dX3_find_19 (by decide) ?_
        exact key23 (g) H locs hP hS (1) ls (lv_sub hl [0, 1, 2] rfl) h
  rw [hH, hlocs] at goal0
  exact goal0

def m_X3_visible (g : Mem) (p1 p2 p3 : Int32) : Option (Mem × Int32) := (m_X3_isLoaded (mup g 54 0 0) p1).bind fun r1 => (if r1 = 0 then some ((mup g 54 0 0), (-1)) else (if (m_X3_in p2 0 5) = 0 then some ((mup g 54 0 0), (-1)) else (m_X3_see (mup g 54 0 0) p1 p2).bind fun g_7 => (if (m_X3_in p3 0 ((g_7 54 12) - 1)) = 0 then some (g_7, (-1)) else gi p3 8 (some (g_7, (g_7 65 (p3).toNatClampNeg))))))
def rm_X3_visible : Room := { frames := 3, cells := 0, slots := 0, locals := 63 }
set_option maxRecDepth 100000 in
set_option maxHeartbeats 4000000 in
theorem c_X3_visible {l : Launch} {D : va_G} {cA : Nat → ClassId} {ad : Nat → Nat} {lo : Nat} (hA : AdOk lo ad lay0.length) {g : Mem} {p1 p2 p3 : Int32} {g1 : Mem} {r : Int32} (h : m_X3_visible g p1 p2 p3 = some (g1, r)) : Met l yX3_visible wsX3_visible rm_X3_visible (Pw [.ref (ad 54), .int p1, .int p2, .int p3] D cA ad lo g) (Qw D cA ad lo g1 (some r)) 0 0 (fun q => lo ≤ q) := by
  refine startW (cc := cX3_visible) (maxL := 4) (ret := (some .int)) (by decide) rfl (Nat.le_of_ble_eq_true rfl) ?_
  intro p e s m args below meth c ls S hr hlocks hB hl
  obtain ⟨hlo, hP, hK, hN⟩ := hB
  have hS : va_S (fun q => lo ≤ q) s.heap s.heap [] := va_S.rf
  unfold m_X3_visible at h
  have S : CallFix p m c cX3_visible 4 s args wsX3_visible RX3 := S
  have hl : lv_has ls 4 [(0, .ref (ad 54)), (1, .int p1), (2, .int p2), (3, .int p3)] := hl
  have hn3 : ∀ w ∈ wsX30, w ∈ wsX3_visible := by decide +kernel
  have lk41 := S.2.2.2.2 (.fieldLink RX3 41 "FlatLoaderModel" "row" "[I") (by decide +kernel)
  have lk59 := S.2.2.2.2 (.fieldLink RX3 59 "FlatLoaderModel" "thrown" "I") (by decide +kernel)
  have lk89 := S.2.2.2.2 (.fieldLink RX3 89 "FlatLoaderModel" "size" "I") (by decide +kernel)
  obtain ⟨H, hH⟩ : ∃ H, H = s.heap := ⟨_, rfl⟩
  obtain ⟨locs, hlocs⟩ : ∃ z : List Loc, z = [] := ⟨_, rfl⟩
  rw [← hH] at hP
  have hS : va_S (fun q => lo ≤ q) s.heap H locs := by rw [hH, hlocs]; exact hS
  have goal0 : W p l e (rm_X3_visible) s m args below meth c H locs 0 0 (MQ below (Qw D cA ad lo g1 (some r)) args s 0 0 (fun q => lo ≤ q)) (F0 m 0 ls []) := by
    refine lv_aload_n S.1 S.2.1 dX3_visible_0 rfl (lv_at hl 0 rfl) ?_
    refine lv_iconst (v := 0) S.1 S.2.1 dX3_visible_1 (by decide) ?_
    refine r_put (C := RX3) (T := TX3) (N := 19) (ci := 3) (k := 54) (j := 0) (fs := fsX) (v := 0) tyX3 tyX3_ok nmX3 S hA hK hP hS hn3 lk59 rfl (by decide) rfl (by decide +kernel) rfl rfl dX3_visible_2 (fun H locs hP hS => ?_)
    refine lv_aload_n S.1 S.2.1 dX3_visible_5 rfl (lv_at hl 0 rfl) ?_
    refine lv_iload_n S.1 S.2.1 dX3_visible_6 rfl (lv_at hl 1 rfl) ?_
    obtain ⟨r1, h_2, h⟩ := bd_some h
    refine k_R (r := r1) (va_runV (As := [.int p1]) (rest := []) S (c_X3_isLoaded h_2) (cwV 1 S.2.2.2.2 gX3_visible_X3_isLoaded rfl rfl rfl (by decide +kernel) ⟨Nat.le_of_ble_eq_true rfl, Nat.le_of_ble_eq_true rfl⟩) ⟨Pw_blind, va_recv hK hP (ci := 3) (q0 := 54) rfl (wld_at (d := dX) rfl), Pw_at hlo hS hP hK hN⟩ rfl rfl hl.1 rfl (lv_room (Nat.le_of_ble_eq_true rfl)) dX3_visible_7 ⟨Nat.zero_le _, Nat.zero_le _⟩) ?_
    refine lv_if_eq (tgt := 22) S.1 S.2.1 dX3_visible_10 (by decide) (fun hc3 => ?_) (fun hc3 => ?_)
    · rw [if_pos hc3] at h
      refine lv_iconst (v := (-1)) S.1 S.2.1 dX3_visible_22 (by decide) ?_
      exact e_W S hr hlocks hP hS (Option.some.inj h) dX3_visible_23
    · rw [if_neg hc3] at h
      refine lv_iload_n S.1 S.2.1 dX3_visible_13 rfl (lv_at hl 2 rfl) ?_
      refine lv_iconst (v := 0) S.1 S.2.1 dX3_visible_14 (by decide) ?_
      refine lv_iconst (v := 5) S.1 S.2.1 dX3_visible_15 (by decide) ?_
      refine k_R (r := (m_X3_in p2 0 5)) (va_runS (As := [.int p2, .int 0, .int 5]) (rest := []) S c_X3_in (va_cwS 3 S.2.2.2.2 gX3_visible_X3_in rfl rfl rfl (by decide +kernel) ⟨Nat.le_of_ble_eq_true rfl, Nat.le_of_ble_eq_true rfl⟩) ⟨Tr_blind, Tr_at⟩ rfl rfl hl.1 rfl (lv_room (Nat.le_of_ble_eq_true rfl)) dX3_visible_16 ⟨Nat.zero_le _, Nat.zero_le _⟩) ?_
      refine lv_if_ne (tgt := 24) S.1 S.2.1 dX3_visible_19 (by decide) (fun hc4 => ?_) (fun hc4 => ?_)
      · rw [if_neg hc4] at h
        refine lv_aload_n S.1 S.2.1 dX3_visible_24 rfl (lv_at hl 0 rfl) ?_
        refine lv_iload_n S.1 S.2.1 dX3_visible_25 rfl (lv_at hl 1 rfl) ?_
        refine lv_iload_n S.1 S.2.1 dX3_visible_26 rfl (lv_at hl 2 rfl) ?_
        obtain ⟨g_7, h_6, h⟩ := bd_some h
        refine k_Wv (va_runV (As := [.int p1, .int p2]) (rest := []) S (c_X3_see hA h_6) (cwV 2 S.2.2.2.2 gX3_visible_X3_see rfl rfl rfl (by decide +kernel) ⟨Nat.le_of_ble_eq_true rfl, Nat.le_of_ble_eq_true rfl⟩) ⟨Pw_blind, va_recv hK hP (ci := 3) (q0 := 54) rfl (wld_at (d := dX) rfl), Pw_at hlo hS hP hK hN⟩ rfl rfl hl.1 rfl (lv_room (Nat.le_of_ble_eq_true rfl)) dX3_visible_27 ⟨Nat.zero_le _, Nat.zero_le _⟩) hS (fun H locs hP hS => ?_)
        refine lv_iload_n S.1 S.2.1 dX3_visible_30 rfl (lv_at hl 3 rfl) ?_
        refine lv_iconst (v := 0) S.1 S.2.1 dX3_visible_31 (by decide) ?_
        refine lv_aload_n S.1 S.2.1 dX3_visible_32 rfl (lv_at hl 0 rfl) ?_
        refine r_get (C := RX3) (T := TX3) (N := 19) (ci := 3) (k := 54) (j := 12) (fs := fsX) (d := none) (v := .int (g_7 54 12)) S hK hP hn3 lk89 rfl (by decide) rfl rfl rfl dX3_visible_33 ?_
        refine lv_iconst (v := 1) S.1 S.2.1 dX3_visible_36 (by decide) ?_
        refine lv_isub S.1 S.2.1 dX3_visible_37 ?_
        refine k_R (r := (m_X3_in p3 0 ((g_7 54 12) - 1))) (va_runS (As := [.int p3, .int 0, .int ((g_7 54 12) - 1)]) (rest := []) S c_X3_in (va_cwS 3 S.2.2.2.2 gX3_visible_X3_in rfl rfl rfl (by decide +kernel) ⟨Nat.le_of_ble_eq_true rfl, Nat.le_of_ble_eq_true rfl⟩) ⟨Tr_blind, Tr_at⟩ rfl rfl hl.1 rfl (lv_room (Nat.le_of_ble_eq_true rfl)) dX3_visible_38 ⟨Nat.zero_le _, Nat.zero_le _⟩) ?_
        refine lv_if_eq (tgt := 53) S.1 S.2.1 dX3_visible_41 (by decide) (fun hc8 => ?_) (fun hc8 => ?_)
        · rw [if_pos hc8] at h
          refine lv_iconst (v := (-1)) S.1 S.2.1 dX3_visible_53 (by decide) ?_
          exact e_W S hr hlocks hP hS (Option.some.inj h) dX3_visible_54
        · rw [if_neg hc8] at h
          refine lv_aload_n S.1 S.2.1 dX3_visible_44 rfl (lv_at hl 0 rfl) ?_
          refine r_get (C := RX3) (T := TX3) (N := 19) (ci := 3) (k := 54) (j := 13) (fs := fsX) (d := (some (some 65))) (v := .ref (ad 65)) S hK hP hn3 lk41 rfl (by decide) rfl rfl rfl dX3_visible_45 ?_
          refine lv_iload_n S.1 S.2.1 dX3_visible_48 rfl (lv_at hl 3 rfl) ?_
          obtain ⟨hv9, hv9b, h⟩ := gi_some h
          refine r_ild (k := 65) (n := 8) S hK hP rfl hv9 dX3_visible_49 ?_
          refine lv_goto (tgt := 54) S.1 S.2.1 dX3_visible_50 (by decide) ?_
          exact e_W S hr hlocks hP hS (Option.some.inj h) dX3_visible_54
      · rw [if_pos hc4] at h
        refine lv_iconst (v := (-1)) S.1 S.2.1 dX3_visible_22 (by decide) ?_
        exact e_W S hr hlocks hP hS (Option.some.inj h) dX3_visible_23
  rw [hH, hlocs] at goal0
  exact goal0

def m_X3_why_87 (k44 : Mem → Int32 → Int32 → Int32 → Option (Mem × Int32)) (p1 p2 : Int32) (g : Mem) (x3 x4 x5 s0 : Int32) : Option (Mem × Int32) := (if x4 = 0 then gi ((24 * x5) + p2) 192 ((if (g 58 (((24 * x5) + p2)).toNatClampNeg) = (-3) then k44 (g) (s0) (0) ((x5 + 1)) else gi x5 8 ((if (g 56 (x5).toNatClampNeg) = 0 then k44 (g) (s0) (1) ((x5 + 1)) else k44 (g) (s0) (0) ((x5 + 1)))))) else k44 (g) (s0) (1) ((x5 + 1)))
def m_X3_why_44 (p1 p2 : Int32) : Nat → Mem → Int32 → Int32 → Int32 → Option (Mem × Int32)
  | 0, _, _, _, _ => none
  | n + 1, g, x3, x4, x5 => (if 8 ≤ x5 then (if x3 = 0 then (if x4 = 0 then some (g, 4) else some (g, 3)) else some (g, 2)) else (if x3 = 0 then gi ((24 * x5) + p2) 192 ((if (g 58 (((24 * x5) + p2)).toNatClampNeg) = (-3) then m_X3_why_87 (fun gy yx3 yx4 yx5 => m_X3_why_44 p1 p2 n gy yx3 yx4 yx5) p1 p2 (g) (x3) (x4) (x5) (0) else gi x5 8 ((if (g 56 (x5).toNatClampNeg) = 0 then m_X3_why_87 (fun gy yx3 yx4 yx5 => m_X3_why_44 p1 p2 n gy yx3 yx4 yx5) p1 p2 (g) (x3) (x4) (x5) (0) else m_X3_why_87 (fun gy yx3 yx4 yx5 => m_X3_why_44 p1 p2 n gy yx3 yx4 yx5) p1 p2 (g) (x3) (x4) (x5) (1))))) else m_X3_why_87 (fun gy yx3 yx4 yx5 => m_X3_why_44 p1 p2 n gy yx3 yx4 yx5) p1 p2 (g) (x3) (x4) (x5) (1)))
def m_X3_why (g : Mem) (p1 p2 : Int32) : Option (Mem × Int32) := (m_X3_isLoaded (mup g 54 0 0) p1).bind fun r14 => (if r14 = 0 then some ((mup g 54 0 0), 1) else (if (m_X3_in p2 0 23) = 0 then some ((mup g 54 0 0), 1) else (m_X3_holder (mup g 54 0 0) p1 p2).bind fun qr18 => (if qr18.2 < 0 then m_X3_why_44 p1 p2 200 (qr18.1) (0) (0) (0) else some (qr18.1, 0))))
def rm_X3_why : Room := { frames := 3, cells := 0, slots := 0, locals := 74 }
set_option maxRecDepth 100000 in
set_option maxHeartbeats 4000000 in
theorem c_X3_why {l : Launch} {D : va_G} {cA : Nat → ClassId} {ad : Nat → Nat} {lo : Nat} (hA : AdOk lo ad lay0.length) {g : Mem} {p1 p2 : Int32} {g1 : Mem} {r : Int32} (h : m_X3_why g p1 p2 = some (g1, r)) : Met l yX3_why wsX3_why rm_X3_why (Pw [.ref (ad 54), .int p1, .int p2] D cA ad lo g) (Qw D cA ad lo g1 (some r)) 0 0 (fun q => lo ≤ q) := by
  refine startW (cc := cX3_why) (maxL := 6) (ret := (some .int)) (by decide) rfl (Nat.le_of_ble_eq_true rfl) ?_
  intro p e s m args below meth c ls S hr hlocks hB hl
  obtain ⟨hlo, hP, hK, hN⟩ := hB
  have hS : va_S (fun q => lo ≤ q) s.heap s.heap [] := va_S.rf
  unfold m_X3_why at h
  have S : CallFix p m c cX3_why 6 s args wsX3_why RX3 := S
  have hl : lv_has ls 6 [(0, .ref (ad 54)), (1, .int p1), (2, .int p2)] := hl
  have hn3 : ∀ w ∈ wsX30, w ∈ wsX3_why := by decide +kernel
  have lk13 := S.2.2.2.2 (.fieldLink RX3 13 "FlatLoaderModel" "loaded" "[Z") (by decide +kernel)
  have lk19 := S.2.2.2.2 (.fieldLink RX3 19 "FlatLoaderModel" "files" "[I") (by decide +kernel)
  have lk59 := S.2.2.2.2 (.fieldLink RX3 59 "FlatLoaderModel" "thrown" "I") (by decide +kernel)
  obtain ⟨H, hH⟩ : ∃ H, H = s.heap := ⟨_, rfl⟩
  obtain ⟨locs, hlocs⟩ : ∃ z : List Loc, z = [] := ⟨_, rfl⟩
  have key87 : ∀ (k44 : Mem → Int32 → Int32 → Int32 → Option (Mem × Int32)), (∀ (g : Mem) (H : Heap) (locs : List Loc), va_P D vwCl (wld cA ad g lay0) H → va_S (fun q => lo ≤ q) s.heap H locs → ∀ (x3 x4 x5 : Int32), ∀ (ls : Array Slot), lv_has ls 6 [(0, .ref (ad 54)), (1, .int p1), (2, .int p2), (3, .int x3), (4, .int x4), (5, .int x5)] → k44 g x3 x4 x5 = some (g1, r) → W p l e (rm_X3_why) s m args below meth c H locs 0 0 (MQ below (Qw D cA ad lo g1 (some r)) args s 0 0 (fun q => lo ≤ q)) (F0 m 44 ls [])) → ∀ (g : Mem) (H : Heap) (locs : List Loc), va_P D vwCl (wld cA ad g lay0) H → va_S (fun q => lo ≤ q) s.heap H locs → ∀ (x3 x4 x5 s0 : Int32), ∀ (ls : Array Slot), lv_has ls 6 [(0, .ref (ad 54)), (1, .int p1), (2, .int p2), (3, .int x3), (4, .int x4), (5, .int x5)] → m_X3_why_87 k44 p1 p2 g x3 x4 x5 s0 = some (g1, r) → W p l e (rm_X3_why) s m args below meth c H locs 0 0 (MQ below (Qw D cA ad lo g1 (some r)) args s 0 0 (fun q => lo ≤ q)) (F0 m 87 ls [.int s0]) := by
    intro k44 hk44
    intro g H locs hP hS x3 x4 x5 s0 ls hl h
    unfold m_X3_why_87 at h
    refine lv_istore_n (lv' := [(3, .int s0), (0, .ref (ad 54)), (1, .int p1), (2, .int p2), (4, .int x4), (5, .int x5)]) S.1 S.2.1 dX3_why_87 rfl hl (by decide) rfl (fun ls hl => ?_)
    refine lv_iload S.1 S.2.1 dX3_why_88 (lv_at hl 4 rfl) ?_
    refine lv_if_ne (tgt := 120) S.1 S.2.1 dX3_why_90 (by decide) (fun hc1 => ?_) (fun hc1 => ?_)
    · rw [if_neg hc1] at h
      refine lv_iconst (v := 1) S.1 S.2.1 dX3_why_120 (by decide) ?_
      refine lv_goto (tgt := 125) S.1 S.2.1 dX3_why_121 (by decide) ?_
      refine lv_istore (lv' := [(4, .int 1), (3, .int s0), (0, .ref (ad 54)), (1, .int p1), (2, .int p2), (5, .int x5)]) S.1 S.2.1 dX3_why_125 hl (by decide) rfl (fun ls hl => ?_)
      refine lv_iinc (v := (x5 + 1)) (lv' := [(5, .int (x5 + 1)), (4, .int 1), (3, .int s0), (0, .ref (ad 54)), (1, .int p1), (2, .int p2)]) S.1 S.2.1 dX3_why_127 hl (k := 5) rfl rfl (by decide) rfl (fun ls hl => ?_)
      refine lv_goto (tgt := 44) S.1 S.2.1 dX3_why_130 (by decide) ?_
      exact hk44 (g) H locs hP hS (s0) (1) ((x5 + 1)) ls (lv_sub hl [3, 4, 5, 2, 1, 0] rfl) h
    · rw [if_pos hc1] at h
      refine lv_aload_n S.1 S.2.1 dX3_why_93 rfl (lv_at hl 1 rfl) ?_
      refine r_get (C := RX3) (T := TX3) (N := 19) (ci := 3) (k := 54) (j := 4) (fs := fsX) (d := (some (some 58))) (v := .ref (ad 58)) S hK hP hn3 lk19 rfl (by decide) rfl rfl rfl dX3_why_94 ?_
      refine lv_bipush (v := 24) S.1 S.2.1 dX3_why_97 (by decide) ?_
      refine lv_iload S.1 S.2.1 dX3_why_99 (lv_at hl 5 rfl) ?_
      refine lv_imul S.1 S.2.1 dX3_why_101 ?_
      refine lv_iload_n S.1 S.2.1 dX3_why_102 rfl (lv_at hl 3 rfl) ?_
      refine lv_iadd S.1 S.2.1 dX3_why_103 ?_
      obtain ⟨hv2, hv2b, h⟩ := gi_some h
      refine r_ild (k := 58) (n := 192) S hK hP rfl hv2 dX3_why_104 ?_
      refine lv_bipush (v := (-3)) S.1 S.2.1 dX3_why_105 (by decide) ?_
      refine lv_icmp_eq (tgt := 124) S.1 S.2.1 dX3_why_107 (by decide) (fun hc3 => ?_) (fun hc3 => ?_)
      · rw [if_pos hc3] at h
        refine lv_iconst (v := 0) S.1 S.2.1 dX3_why_124 (by decide) ?_
        refine lv_istore (lv' := [(4, .int 0), (3, .int s0), (0, .ref (ad 54)), (1, .int p1), (2, .int p2), (5, .int x5)]) S.1 S.2.1 dX3_why_125 hl (by decide) rfl (fun ls hl => ?_)
        refine lv_iinc (v := (x5 + 1)) (lv' := [(5, .int (x5 + 1)), (4, .int 0), (3, .int s0), (0, .ref (ad 54)), (1, .int p1), (2, .int p2)]) S.1 S.2.1 dX3_why_127 hl (k := 5) rfl rfl (by decide) rfl (fun ls hl => ?_)
        refine lv_goto (tgt := 44) S.1 S.2.1 dX3_why_130 (by decide) ?_
        exact hk44 (g) H locs hP hS (s0) (0) ((x5 + 1)) ls (lv_sub hl [3, 4, 5, 2, 1, 0] rfl) h
      · rw [if_neg hc3] at h
        refine lv_aload_n S.1 S.2.1 dX3_why_110 rfl (lv_at hl 1 rfl) ?_
        refine r_get (C := RX3) (T := TX3) (N := 19) (ci := 3) (k := 54) (j := 2) (fs := fsX) (d := (some (some 56))) (v := .ref (ad 56)) S hK hP hn3 lk13 rfl (by decide) rfl rfl rfl dX3_why_111 ?_
        refine lv_iload S.1 S.2.1 dX3_why_114 (lv_at hl 5 rfl) ?_
        obtain ⟨hv4, hv4b, h⟩ := gi_some h
        refine r_zld (k := 56) (n := 8) S hK hP rfl hv4 dX3_why_116 ?_
        refine lv_if_ne (tgt := 124) S.1 S.2.1 dX3_why_117 (by decide) (fun hc5 => ?_) (fun hc5 => ?_)
        · rw [if_neg hc5] at h
          refine lv_iconst (v := 0) S.1 S.2.1 dX3_why_124 (by decide) ?_
          refine lv_istore (lv' := [(4, .int 0), (3, .int s0), (0, .ref (ad 54)), (1, .int p1), (2, .int p2), (5, .int x5)]) S.1 S.2.1 dX3_why_125 hl (by decide) rfl (fun ls hl => ?_)
          refine lv_iinc (v := (x5 + 1)) (lv' := [(5, .int (x5 + 1)), (4, .int 0), (3, .int s0), (0, .ref (ad 54)), (1, .int p1), (2, .int p2)]) S.1 S.2.1 dX3_why_127 hl (k := 5) rfl rfl (by decide) rfl (fun ls hl => ?_)
          refine lv_goto (tgt := 44) S.1 S.2.1 dX3_why_130 (by decide) ?_
          exact hk44 (g) H locs hP hS (s0) (0) ((x5 + 1)) ls (lv_sub hl [3, 4, 5, 2, 1, 0] rfl) h
        · rw [if_pos hc5] at h
          refine lv_iconst (v := 1) S.1 S.2.1 dX3_why_120 (by decide) ?_
          refine lv_goto (tgt := 125) S.1 S.2.1 dX3_why_121 (by decide) ?_
          refine lv_istore (lv' := [(4, .int 1), (3, .int s0), (0, .ref (ad 54)), (1, .int p1), (2, .int p2), (5, .int x5)]) S.1 S.2.1 dX3_why_125 hl (by decide) rfl (fun ls hl => ?_)
          refine lv_iinc (v := (x5 + 1)) (lv' := [(5, .int (x5 + 1)), (4, .int 1), (3, .int s0), (0, .ref (ad 54)), (1, .int p1), (2, .int p2)]) S.1 S.2.1 dX3_why_127 hl (k := 5) rfl rfl (by decide) rfl (fun ls hl => ?_)
          refine lv_goto (tgt := 44) S.1 S.2.1 dX3_why_130 (by decide) ?_
          exact hk44 (g) H locs hP hS (s0) (1) ((x5 + 1)) ls (lv_sub hl [3, 4, 5, 2, 1, 0] rfl) h
  have key44 : ∀ (n : Nat), ∀ (g : Mem) (H : Heap) (locs : List Loc), va_P D vwCl (wld cA ad g lay0) H → va_S (fun q => lo ≤ q) s.heap H locs → ∀ (x3 x4 x5 : Int32), ∀ (ls : Array Slot), lv_has ls 6 [(0, .ref (ad 54)), (1, .int p1), (2, .int p2), (3, .int x3), (4, .int x4), (5, .int x5)] → m_X3_why_44 p1 p2 n g x3 x4 x5 = some (g1, r) → W p l e (rm_X3_why) s m args below meth c H locs 0 0 (MQ below (Qw D cA ad lo g1 (some r)) args s 0 0 (fun q => lo ≤ q)) (F0 m 44 ls []) := by
    intro n
    induction n with
    | zero =>
      intro g H locs hP hS x3 x4 x5 ls hl h
      exact nomatch (show none = some (g1, r) from h)
    | succ n ih =>
      intro g H locs hP hS x3 x4 x5 ls hl h
      rw [m_X3_why_44] at h
      refine lv_iload S.1 S.2.1 dX3_why_44 (lv_at hl 5 rfl) ?_
      refine lv_bipush (v := 8) S.1 S.2.1 dX3_why_46 (by decide) ?_
      refine lv_icmp_ge (tgt := 133) S.1 S.2.1 dX3_why_48 (by decide) (fun hc6 => ?_) (fun hc6 => ?_)
      · rw [if_pos hc6] at h
        refine lv_iload_n S.1 S.2.1 dX3_why_133 rfl (lv_at hl 3 rfl) ?_
        refine lv_if_eq (tgt := 141) S.1 S.2.1 dX3_why_134 (by decide) (fun hc7 => ?_) (fun hc7 => ?_)
        · rw [if_pos hc7] at h
          refine lv_iload S.1 S.2.1 dX3_why_141 (lv_at hl 4 rfl) ?_
          refine lv_if_eq (tgt := 150) S.1 S.2.1 dX3_why_143 (by decide) (fun hc8 => ?_) (fun hc8 => ?_)
          · rw [if_pos hc8] at h
            refine lv_iconst (v := 4) S.1 S.2.1 dX3_why_150 (by decide) ?_
            exact e_W S hr hlocks hP hS (Option.some.inj h) dX3_why_151
          · rw [if_neg hc8] at h
            refine lv_iconst (v := 3) S.1 S.2.1 dX3_why_146 (by decide) ?_
            refine lv_goto (tgt := 151) S.1 S.2.1 dX3_why_147 (by decide) ?_
            exact e_W S hr hlocks hP hS (Option.some.inj h) dX3_why_151
        · rw [if_neg hc7] at h
          refine lv_iconst (v := 2) S.1 S.2.1 dX3_why_137 (by decide) ?_
          refine lv_goto (tgt := 151) S.1 S.2.1 dX3_why_138 (by decide) ?_
          exact e_W S hr hlocks hP hS (Option.some.inj h) dX3_why_151
      · rw [if_neg hc6] at h
        refine lv_iload_n S.1 S.2.1 dX3_why_51 rfl (lv_at hl 3 rfl) ?_
        refine lv_if_ne (tgt := 82) S.1 S.2.1 dX3_why_52 (by decide) (fun hc9 => ?_) (fun hc9 => ?_)
        · rw [if_neg hc9] at h
          refine lv_iconst (v := 1) S.1 S.2.1 dX3_why_82 (by decide) ?_
          refine lv_goto (tgt := 87) S.1 S.2.1 dX3_why_83 (by decide) ?_
          exact key87 _ ih (g) H locs hP hS (x3) (x4) (x5) (1) ls (lv_sub hl [0, 1, 2, 3, 4, 5] rfl) h
        · rw [if_pos hc9] at h
          refine lv_aload_n S.1 S.2.1 dX3_why_55 rfl (lv_at hl 0 rfl) ?_
          refine r_get (C := RX3) (T := TX3) (N := 19) (ci := 3) (k := 54) (j := 4) (fs := fsX) (d := (some (some 58))) (v := .ref (ad 58)) S hK hP hn3 lk19 rfl (by decide) rfl rfl rfl dX3_why_56 ?_
          refine lv_bipush (v := 24) S.1 S.2.1 dX3_why_59 (by decide) ?_
          refine lv_iload S.1 S.2.1 dX3_why_61 (lv_at hl 5 rfl) ?_
          refine lv_imul S.1 S.2.1 dX3_why_63 ?_
          refine lv_iload_n S.1 S.2.1 dX3_why_64 rfl (lv_at hl 2 rfl) ?_
          refine lv_iadd S.1 S.2.1 dX3_why_65 ?_
          obtain ⟨hv10, hv10b, h⟩ := gi_some h
          refine r_ild (k := 58) (n := 192) S hK hP rfl hv10 dX3_why_66 ?_
          refine lv_bipush (v := (-3)) S.1 S.2.1 dX3_why_67 (by decide) ?_
          refine lv_icmp_eq (tgt := 86) S.1 S.2.1 dX3_why_69 (by decide) (fun hc11 => ?_) (fun hc11 => ?_)
          · rw [if_pos hc11] at h
            refine lv_iconst (v := 0) S.1 S.2.1 dX3_why_86 (by decide) ?_
            exact key87 _ ih (g) H locs hP hS (x3) (x4) (x5) (0) ls (lv_sub hl [0, 1, 2, 3, 4, 5] rfl) h
          · rw [if_neg hc11] at h
            refine lv_aload_n S.1 S.2.1 dX3_why_72 rfl (lv_at hl 0 rfl) ?_
            refine r_get (C := RX3) (T := TX3) (N := 19) (ci := 3) (k := 54) (j := 2) (fs := fsX) (d := (some (some 56))) (v := .ref (ad 56)) S hK hP hn3 lk13 rfl (by decide) rfl rfl rfl dX3_why_73 ?_
            refine lv_iload S.1 S.2.1 dX3_why_76 (lv_at hl 5 rfl) ?_
            obtain ⟨hv12, hv12b, h⟩ := gi_some h
            refine r_zld (k := 56) (n := 8) S hK hP rfl hv12 dX3_why_78 ?_
            refine lv_if_eq (tgt := 86) S.1 S.2.1 dX3_why_79 (by decide) (fun hc13 => ?_) (fun hc13 => ?_)
            · rw [if_pos hc13] at h
              refine lv_iconst (v := 0) S.1 S.2.1 dX3_why_86 (by decide) ?_
              exact key87 _ ih (g) H locs hP hS (x3) (x4) (x5) (0) ls (lv_sub hl [0, 1, 2, 3, 4, 5] rfl) h
            · rw [if_neg hc13] at h
              refine lv_iconst (v := 1) S.1 S.2.1 dX3_why_82 (by decide) ?_
              refine lv_goto (tgt := 87) S.1 S.2.1 dX3_why_83 (by decide) ?_
              exact key87 _ ih (g) H locs hP hS (x3) (x4) (x5) (1) ls (lv_sub hl [0, 1, 2, 3, 4, 5] rfl) h
  rw [← hH] at hP
  have hS : va_S (fun q => lo ≤ q) s.heap H locs := by rw [hH, hlocs]; exact hS
  have goal0 : W p l e (rm_X3_why) s m args below meth c H locs 0 0 (MQ below (Qw D cA ad lo g1 (some r)) args s 0 0 (fun q => lo ≤ q)) (F0 m 0 ls []) := by
    refine lv_aload_n S.1 S.2.1 dX3_why_0 rfl (lv_at hl 0 rfl) ?_
    refine lv_iconst (v := 0) S.1 S.2.1 dX3_why_1 (by decide) ?_
    refine r_put (C := RX3) (T := TX3) (N := 19) (ci := 3) (k := 54) (j := 0) (fs := fsX) (v := 0) tyX3 tyX3_ok nmX3 S hA hK hP hS hn3 lk59 rfl (by decide) rfl (by decide +kernel) rfl rfl dX3_why_2 (fun H locs hP hS => ?_)
    refine lv_aload_n S.1 S.2.1 dX3_why_5 rfl (lv_at hl 0 rfl) ?_
    refine lv_iload_n S.1 S.2.1 dX3_why_6 rfl (lv_at hl 1 rfl) ?_
    obtain ⟨r14, h_15, h⟩ := bd_some h
    refine k_R (r := r14) (va_runV (As := [.int p1]) (rest := []) S (c_X3_isLoaded h_15) (cwV 1 S.2.2.2.2 gX3_why_X3_isLoaded rfl rfl rfl (by decide +kernel) ⟨Nat.le_of_ble_eq_true rfl, Nat.le_of_ble_eq_true rfl⟩) ⟨Pw_blind, va_recv hK hP (ci := 3) (q0 := 54) rfl (wld_at (d := dX) rfl), Pw_at hlo hS hP hK hN⟩ rfl rfl hl.1 rfl (lv_room (Nat.le_of_ble_eq_true rfl)) dX3_why_7 ⟨Nat.zero_le _, Nat.zero_le _⟩) ?_
    refine lv_if_eq (tgt := 23) S.1 S.2.1 dX3_why_10 (by decide) (fun hc16 => ?_) (fun hc16 => ?_)
    · rw [if_pos hc16] at h
      refine lv_iconst (v := 1) S.1 S.2.1 dX3_why_23 (by decide) ?_
      exact e_W S hr hlocks hP hS (Option.some.inj h) dX3_why_24
    · rw [if_neg hc16] at h
      refine lv_iload_n S.1 S.2.1 dX3_why_13 rfl (lv_at hl 2 rfl) ?_
      refine lv_iconst (v := 0) S.1 S.2.1 dX3_why_14 (by decide) ?_
      refine lv_bipush (v := 23) S.1 S.2.1 dX3_why_15 (by decide) ?_
      refine k_R (r := (m_X3_in p2 0 23)) (va_runS (As := [.int p2, .int 0, .int 23]) (rest := []) S c_X3_in (va_cwS 3 S.2.2.2.2 gX3_why_X3_in rfl rfl rfl (by decide +kernel) ⟨Nat.le_of_ble_eq_true rfl, Nat.le_of_ble_eq_true rfl⟩) ⟨Tr_blind, Tr_at⟩ rfl rfl hl.1 rfl (lv_room (Nat.le_of_ble_eq_true rfl)) dX3_why_17 ⟨Nat.zero_le _, Nat.zero_le _⟩) ?_
      refine lv_if_ne (tgt := 25) S.1 S.2.1 dX3_why_20 (by decide) (fun hc17 => ?_) (fun hc17 => ?_)
      · rw [if_neg hc17] at h
        refine lv_aload_n S.1 S.2.1 dX3_why_25 rfl (lv_at hl 0 rfl) ?_
        refine lv_iload_n S.1 S.2.1 dX3_why_26 rfl (lv_at hl 1 rfl) ?_
        refine lv_iload_n S.1 S.2.1 dX3_why_27 rfl (lv_at hl 2 rfl) ?_
        obtain ⟨⟨g_20, r18⟩, h_19, h⟩ := bd_some h
        dsimp only at h
        refine k_Wi (va_runV (As := [.int p1, .int p2]) (rest := []) S (c_X3_holder hA h_19) (cwV 2 S.2.2.2.2 gX3_why_X3_holder rfl rfl rfl (by decide +kernel) ⟨Nat.le_of_ble_eq_true rfl, Nat.le_of_ble_eq_true rfl⟩) ⟨Pw_blind, va_recv hK hP (ci := 3) (q0 := 54) rfl (wld_at (d := dX) rfl), Pw_at hlo hS hP hK hN⟩ rfl rfl hl.1 rfl (lv_room (Nat.le_of_ble_eq_true rfl)) dX3_why_28 ⟨Nat.zero_le _, Nat.zero_le _⟩) hS (fun H locs hP hS => ?_)
        refine lv_if_lt (tgt := 36) S.1 S.2.1 dX3_why_31 (by decide) (fun hc21 => ?_) (fun hc21 => ?_)
        · rw [if_pos hc21] at h
          refine lv_iconst (v := 0) S.1 S.2.1 dX3_why_36 (by decide) ?_
          refine lv_istore_n (lv' := [(3, .int 0), (0, .ref (ad 54)), (1, .int p1), (2, .int p2)]) S.1 S.2.1 dX3_why_37 rfl hl (by decide) rfl (fun ls hl => ?_)
          refine lv_iconst (v := 0) S.1 S.2.1 dX3_why_38 (by decide) ?_
          refine lv_istore (lv' := [(4, .int 0), (3, .int 0), (0, .ref (ad 54)), (1, .int p1), (2, .int p2)]) S.1 S.2.1 dX3_why_39 hl (by decide) rfl (fun ls hl => ?_)
          refine lv_iconst (v := 0) S.1 S.2.1 dX3_why_41 (by decide) ?_
          refine lv_istore (lv' := [(5, .int 0), (4, .int 0), (3, .int 0), (0, .ref (ad 54)), (1, .int p1), (2, .int p2)]) S.1 S.2.1 dX3_why_42 hl (by decide) rfl (fun ls hl => ?_)
          exact key44 200 (g_20) H locs hP hS (0) (0) (0) ls (lv_sub hl [3, 4, 5, 2, 1, 0] rfl) h
        · rw [if_neg hc21] at h
          refine lv_iconst (v := 0) S.1 S.2.1 dX3_why_34 (by decide) ?_
          exact e_W S hr hlocks hP hS (Option.some.inj h) dX3_why_35
      · rw [if_pos hc17] at h
        refine lv_iconst (v := 1) S.1 S.2.1 dX3_why_23 (by decide) ?_
        exact e_W S hr hlocks hP hS (Option.some.inj h) dX3_why_24
  rw [hH, hlocs] at goal0
  exact goal0

def m_X3_state (g : Mem) (p1 : Int32) : Option (Mem × Int32) := (if (m_X3_isModule p1) = 0 then some ((mup g 54 0 0), (-1)) else (m_X3_judge (mup g 54 0 0)).bind fun g_4 => gi p1 8 ((if (g_4 56 (p1).toNatClampNeg) = 0 then gi p1 8 ((if (g_4 57 (p1).toNatClampNeg) = 0 then gi p1 8 ((if (g_4 55 (p1).toNatClampNeg) = 0 then some (g_4, 0) else some (g_4, 1))) else some (g_4, 2))) else some (g_4, 3))))
def rm_X3_state : Room := { frames := 2, cells := 0, slots := 0, locals := 42 }
set_option maxRecDepth 100000 in
set_option maxHeartbeats 4000000 in
theorem c_X3_state {l : Launch} {D : va_G} {cA : Nat → ClassId} {ad : Nat → Nat} {lo : Nat} (hA : AdOk lo ad lay0.length) {g : Mem} {p1 : Int32} {g1 : Mem} {r : Int32} (h : m_X3_state g p1 = some (g1, r)) : Met l yX3_state wsX3_state rm_X3_state (Pw [.ref (ad 54), .int p1] D cA ad lo g) (Qw D cA ad lo g1 (some r)) 0 0 (fun q => lo ≤ q) := by
  refine startW (cc := cX3_state) (maxL := 2) (ret := (some .int)) (by decide) rfl (Nat.le_of_ble_eq_true rfl) ?_
  intro p e s m args below meth c ls S hr hlocks hB hl
  obtain ⟨hlo, hP, hK, hN⟩ := hB
  have hS : va_S (fun q => lo ≤ q) s.heap s.heap [] := va_S.rf
  unfold m_X3_state at h
  have S : CallFix p m c cX3_state 2 s args wsX3_state RX3 := S
  have hl : lv_has ls 2 [(0, .ref (ad 54)), (1, .int p1)] := hl
  have hn3 : ∀ w ∈ wsX30, w ∈ wsX3_state := by decide +kernel
  have lk7 := S.2.2.2.2 (.fieldLink RX3 7 "FlatLoaderModel" "present" "[Z") (by decide +kernel)
  have lk13 := S.2.2.2.2 (.fieldLink RX3 13 "FlatLoaderModel" "loaded" "[Z") (by decide +kernel)
  have lk16 := S.2.2.2.2 (.fieldLink RX3 16 "FlatLoaderModel" "loadable" "[Z") (by decide +kernel)
  have lk59 := S.2.2.2.2 (.fieldLink RX3 59 "FlatLoaderModel" "thrown" "I") (by decide +kernel)
  obtain ⟨H, hH⟩ : ∃ H, H = s.heap := ⟨_, rfl⟩
  obtain ⟨locs, hlocs⟩ : ∃ z : List Loc, z = [] := ⟨_, rfl⟩
  rw [← hH] at hP
  have hS : va_S (fun q => lo ≤ q) s.heap H locs := by rw [hH, hlocs]; exact hS
  have goal0 : W p l e (rm_X3_state) s m args below meth c H locs 0 0 (MQ below (Qw D cA ad lo g1 (some r)) args s 0 0 (fun q => lo ≤ q)) (F0 m 0 ls []) := by
    refine lv_aload_n S.1 S.2.1 dX3_state_0 rfl (lv_at hl 0 rfl) ?_
    refine lv_iconst (v := 0) S.1 S.2.1 dX3_state_1 (by decide) ?_
    refine r_put (C := RX3) (T := TX3) (N := 19) (ci := 3) (k := 54) (j := 0) (fs := fsX) (v := 0) tyX3 tyX3_ok nmX3 S hA hK hP hS hn3 lk59 rfl (by decide) rfl (by decide +kernel) rfl rfl dX3_state_2 (fun H locs hP hS => ?_)
    refine lv_iload_n S.1 S.2.1 dX3_state_5 rfl (lv_at hl 1 rfl) ?_
    refine k_R (r := (m_X3_isModule p1)) (va_runS (As := [.int p1]) (rest := []) S c_X3_isModule (va_cwS 1 S.2.2.2.2 gX3_state_X3_isModule rfl rfl rfl (by decide +kernel) ⟨Nat.le_of_ble_eq_true rfl, Nat.le_of_ble_eq_true rfl⟩) ⟨Tr_blind, Tr_at⟩ rfl rfl hl.1 rfl (lv_room (Nat.le_of_ble_eq_true rfl)) dX3_state_6 ⟨Nat.zero_le _, Nat.zero_le _⟩) ?_
    refine lv_if_ne (tgt := 14) S.1 S.2.1 dX3_state_9 (by decide) (fun hc1 => ?_) (fun hc1 => ?_)
    · rw [if_neg hc1] at h
      refine lv_aload_n S.1 S.2.1 dX3_state_14 rfl (lv_at hl 0 rfl) ?_
      obtain ⟨g_4, h_3, h⟩ := bd_some h
      refine k_Wv (va_runV (As := []) (rest := []) S (c_X3_judge hA h_3) (cwV 0 S.2.2.2.2 gX3_state_X3_judge rfl rfl rfl (by decide +kernel) ⟨Nat.le_of_ble_eq_true rfl, Nat.le_of_ble_eq_true rfl⟩) ⟨Pw_blind, va_recv hK hP (ci := 3) (q0 := 54) rfl (wld_at (d := dX) rfl), Pw_at hlo hS hP hK hN⟩ rfl rfl hl.1 rfl (lv_room (Nat.le_of_ble_eq_true rfl)) dX3_state_15 ⟨Nat.zero_le _, Nat.zero_le _⟩) hS (fun H locs hP hS => ?_)
      refine lv_aload_n S.1 S.2.1 dX3_state_18 rfl (lv_at hl 0 rfl) ?_
      refine r_get (C := RX3) (T := TX3) (N := 19) (ci := 3) (k := 54) (j := 2) (fs := fsX) (d := (some (some 56))) (v := .ref (ad 56)) S hK hP hn3 lk13 rfl (by decide) rfl rfl rfl dX3_state_19 ?_
      refine lv_iload_n S.1 S.2.1 dX3_state_22 rfl (lv_at hl 1 rfl) ?_
      obtain ⟨hv5, hv5b, h⟩ := gi_some h
      refine r_zld (k := 56) (n := 8) S hK hP rfl hv5 dX3_state_23 ?_
      refine lv_if_eq (tgt := 31) S.1 S.2.1 dX3_state_24 (by decide) (fun hc6 => ?_) (fun hc6 => ?_)
      · rw [if_pos hc6] at h
        refine lv_aload_n S.1 S.2.1 dX3_state_31 rfl (lv_at hl 0 rfl) ?_
        refine r_get (C := RX3) (T := TX3) (N := 19) (ci := 3) (k := 54) (j := 3) (fs := fsX) (d := (some (some 57))) (v := .ref (ad 57)) S hK hP hn3 lk16 rfl (by decide) rfl rfl rfl dX3_state_32 ?_
        refine lv_iload_n S.1 S.2.1 dX3_state_35 rfl (lv_at hl 1 rfl) ?_
        obtain ⟨hv7, hv7b, h⟩ := gi_some h
        refine r_zld (k := 57) (n := 8) S hK hP rfl hv7 dX3_state_36 ?_
        refine lv_if_eq (tgt := 44) S.1 S.2.1 dX3_state_37 (by decide) (fun hc8 => ?_) (fun hc8 => ?_)
        · rw [if_pos hc8] at h
          refine lv_aload_n S.1 S.2.1 dX3_state_44 rfl (lv_at hl 0 rfl) ?_
          refine r_get (C := RX3) (T := TX3) (N := 19) (ci := 3) (k := 54) (j := 1) (fs := fsX) (d := (some (some 55))) (v := .ref (ad 55)) S hK hP hn3 lk7 rfl (by decide) rfl rfl rfl dX3_state_45 ?_
          refine lv_iload_n S.1 S.2.1 dX3_state_48 rfl (lv_at hl 1 rfl) ?_
          obtain ⟨hv9, hv9b, h⟩ := gi_some h
          refine r_zld (k := 55) (n := 8) S hK hP rfl hv9 dX3_state_49 ?_
          refine lv_if_eq (tgt := 57) S.1 S.2.1 dX3_state_50 (by decide) (fun hc10 => ?_) (fun hc10 => ?_)
          · rw [if_pos hc10] at h
            refine lv_iconst (v := 0) S.1 S.2.1 dX3_state_57 (by decide) ?_
            exact e_W S hr hlocks hP hS (Option.some.inj h) dX3_state_58
          · rw [if_neg hc10] at h
            refine lv_iconst (v := 1) S.1 S.2.1 dX3_state_53 (by decide) ?_
            refine lv_goto (tgt := 58) S.1 S.2.1 dX3_state_54 (by decide) ?_
            exact e_W S hr hlocks hP hS (Option.some.inj h) dX3_state_58
        · rw [if_neg hc8] at h
          refine lv_iconst (v := 2) S.1 S.2.1 dX3_state_40 (by decide) ?_
          refine lv_goto (tgt := 58) S.1 S.2.1 dX3_state_41 (by decide) ?_
          exact e_W S hr hlocks hP hS (Option.some.inj h) dX3_state_58
      · rw [if_neg hc6] at h
        refine lv_iconst (v := 3) S.1 S.2.1 dX3_state_27 (by decide) ?_
        refine lv_goto (tgt := 58) S.1 S.2.1 dX3_state_28 (by decide) ?_
        exact e_W S hr hlocks hP hS (Option.some.inj h) dX3_state_58
    · rw [if_pos hc1] at h
      refine lv_iconst (v := (-1)) S.1 S.2.1 dX3_state_12 (by decide) ?_
      exact e_W S hr hlocks hP hS (Option.some.inj h) dX3_state_13
  rw [hH, hlocs] at goal0
  exact goal0

def m_X3_above (g : Mem) (p1 p2 : Int32) : Option (Mem × Int32) := (if (m_X3_isModule p1) = 0 then some ((mup g 54 0 0), (-1)) else (if (m_X3_in p2 0 23) = 0 then some ((mup g 54 0 0), (-1)) else gi ((24 * p1) + p2) 192 (some ((mup g 54 0 0), ((mup g 54 0 0) 59 (((24 * p1) + p2)).toNatClampNeg)))))
def rm_X3_above : Room := { frames := 2, cells := 0, slots := 0, locals := 42 }
set_option maxRecDepth 100000 in
set_option maxHeartbeats 4000000 in
theorem c_X3_above {l : Launch} {D : va_G} {cA : Nat → ClassId} {ad : Nat → Nat} {lo : Nat} (hA : AdOk lo ad lay0.length) {g : Mem} {p1 p2 : Int32} {g1 : Mem} {r : Int32} (h : m_X3_above g p1 p2 = some (g1, r)) : Met l yX3_above wsX3_above rm_X3_above (Pw [.ref (ad 54), .int p1, .int p2] D cA ad lo g) (Qw D cA ad lo g1 (some r)) 0 0 (fun q => lo ≤ q) := by
  refine startW (cc := cX3_above) (maxL := 3) (ret := (some .int)) (by decide) rfl (Nat.le_of_ble_eq_true rfl) ?_
  intro p e s m args below meth c ls S hr hlocks hB hl
  obtain ⟨hlo, hP, hK, hN⟩ := hB
  have hS : va_S (fun q => lo ≤ q) s.heap s.heap [] := va_S.rf
  unfold m_X3_above at h
  have S : CallFix p m c cX3_above 3 s args wsX3_above RX3 := S
  have hl : lv_has ls 3 [(0, .ref (ad 54)), (1, .int p1), (2, .int p2)] := hl
  have hn3 : ∀ w ∈ wsX30, w ∈ wsX3_above := by decide +kernel
  have lk23 := S.2.2.2.2 (.fieldLink RX3 23 "FlatLoaderModel" "extended" "[I") (by decide +kernel)
  have lk59 := S.2.2.2.2 (.fieldLink RX3 59 "FlatLoaderModel" "thrown" "I") (by decide +kernel)
  obtain ⟨H, hH⟩ : ∃ H, H = s.heap := ⟨_, rfl⟩
  obtain ⟨locs, hlocs⟩ : ∃ z : List Loc, z = [] := ⟨_, rfl⟩
  rw [← hH] at hP
  have hS : va_S (fun q => lo ≤ q) s.heap H locs := by rw [hH, hlocs]; exact hS
  have goal0 : W p l e (rm_X3_above) s m args below meth c H locs 0 0 (MQ below (Qw D cA ad lo g1 (some r)) args s 0 0 (fun q => lo ≤ q)) (F0 m 0 ls []) := by
    refine lv_aload_n S.1 S.2.1 dX3_above_0 rfl (lv_at hl 0 rfl) ?_
    refine lv_iconst (v := 0) S.1 S.2.1 dX3_above_1 (by decide) ?_
    refine r_put (C := RX3) (T := TX3) (N := 19) (ci := 3) (k := 54) (j := 0) (fs := fsX) (v := 0) tyX3 tyX3_ok nmX3 S hA hK hP hS hn3 lk59 rfl (by decide) rfl (by decide +kernel) rfl rfl dX3_above_2 (fun H locs hP hS => ?_)
    refine lv_iload_n S.1 S.2.1 dX3_above_5 rfl (lv_at hl 1 rfl) ?_
    refine k_R (r := (m_X3_isModule p1)) (va_runS (As := [.int p1]) (rest := []) S c_X3_isModule (va_cwS 1 S.2.2.2.2 gX3_above_X3_isModule rfl rfl rfl (by decide +kernel) ⟨Nat.le_of_ble_eq_true rfl, Nat.le_of_ble_eq_true rfl⟩) ⟨Tr_blind, Tr_at⟩ rfl rfl hl.1 rfl (lv_room (Nat.le_of_ble_eq_true rfl)) dX3_above_6 ⟨Nat.zero_le _, Nat.zero_le _⟩) ?_
    refine lv_if_eq (tgt := 36) S.1 S.2.1 dX3_above_9 (by decide) (fun hc1 => ?_) (fun hc1 => ?_)
    · rw [if_pos hc1] at h
      refine lv_iconst (v := (-1)) S.1 S.2.1 dX3_above_36 (by decide) ?_
      exact e_W S hr hlocks hP hS (Option.some.inj h) dX3_above_37
    · rw [if_neg hc1] at h
      refine lv_iload_n S.1 S.2.1 dX3_above_12 rfl (lv_at hl 2 rfl) ?_
      refine lv_iconst (v := 0) S.1 S.2.1 dX3_above_13 (by decide) ?_
      refine lv_bipush (v := 23) S.1 S.2.1 dX3_above_14 (by decide) ?_
      refine k_R (r := (m_X3_in p2 0 23)) (va_runS (As := [.int p2, .int 0, .int 23]) (rest := []) S c_X3_in (va_cwS 3 S.2.2.2.2 gX3_above_X3_in rfl rfl rfl (by decide +kernel) ⟨Nat.le_of_ble_eq_true rfl, Nat.le_of_ble_eq_true rfl⟩) ⟨Tr_blind, Tr_at⟩ rfl rfl hl.1 rfl (lv_room (Nat.le_of_ble_eq_true rfl)) dX3_above_16 ⟨Nat.zero_le _, Nat.zero_le _⟩) ?_
      refine lv_if_eq (tgt := 36) S.1 S.2.1 dX3_above_19 (by decide) (fun hc2 => ?_) (fun hc2 => ?_)
      · rw [if_pos hc2] at h
        refine lv_iconst (v := (-1)) S.1 S.2.1 dX3_above_36 (by decide) ?_
        exact e_W S hr hlocks hP hS (Option.some.inj h) dX3_above_37
      · rw [if_neg hc2] at h
        refine lv_aload_n S.1 S.2.1 dX3_above_22 rfl (lv_at hl 0 rfl) ?_
        refine r_get (C := RX3) (T := TX3) (N := 19) (ci := 3) (k := 54) (j := 5) (fs := fsX) (d := (some (some 59))) (v := .ref (ad 59)) S hK hP hn3 lk23 rfl (by decide) rfl rfl rfl dX3_above_23 ?_
        refine lv_bipush (v := 24) S.1 S.2.1 dX3_above_26 (by decide) ?_
        refine lv_iload_n S.1 S.2.1 dX3_above_28 rfl (lv_at hl 1 rfl) ?_
        refine lv_imul S.1 S.2.1 dX3_above_29 ?_
        refine lv_iload_n S.1 S.2.1 dX3_above_30 rfl (lv_at hl 2 rfl) ?_
        refine lv_iadd S.1 S.2.1 dX3_above_31 ?_
        obtain ⟨hv3, hv3b, h⟩ := gi_some h
        refine r_ild (k := 59) (n := 192) S hK hP rfl hv3 dX3_above_32 ?_
        refine lv_goto (tgt := 37) S.1 S.2.1 dX3_above_33 (by decide) ?_
        exact e_W S hr hlocks hP hS (Option.some.inj h) dX3_above_37
  rw [hH, hlocs] at goal0
  exact goal0

def m_X3_defined (g : Mem) : Option (Mem × Int32) := some ((mup g 54 0 0), ((mup g 54 0 0) 54 11))
def rm_X3_defined : Room := { frames := 0, cells := 0, slots := 0, locals := 0 }
set_option maxRecDepth 100000 in
set_option maxHeartbeats 4000000 in
theorem c_X3_defined {l : Launch} {D : va_G} {cA : Nat → ClassId} {ad : Nat → Nat} {lo : Nat} (hA : AdOk lo ad lay0.length) {g : Mem} {g1 : Mem} {r : Int32} (h : m_X3_defined g = some (g1, r)) : Met l yX3_defined wsX3_defined rm_X3_defined (Pw [.ref (ad 54)] D cA ad lo g) (Qw D cA ad lo g1 (some r)) 0 0 (fun q => lo ≤ q) := by
  refine startW (cc := cX3_defined) (maxL := 1) (ret := (some .int)) (by decide) rfl (Nat.le_of_ble_eq_true rfl) ?_
  intro p e s m args below meth c ls S hr hlocks hB hl
  obtain ⟨hlo, hP, hK, hN⟩ := hB
  have hS : va_S (fun q => lo ≤ q) s.heap s.heap [] := va_S.rf
  unfold m_X3_defined at h
  have S : CallFix p m c cX3_defined 1 s args wsX3_defined RX3 := S
  have hl : lv_has ls 1 [(0, .ref (ad 54))] := hl
  have hn3 : ∀ w ∈ wsX30, w ∈ wsX3_defined := by decide +kernel
  have lk59 := S.2.2.2.2 (.fieldLink RX3 59 "FlatLoaderModel" "thrown" "I") (by decide +kernel)
  have lk86 := S.2.2.2.2 (.fieldLink RX3 86 "FlatLoaderModel" "classes" "I") (by decide +kernel)
  obtain ⟨H, hH⟩ : ∃ H, H = s.heap := ⟨_, rfl⟩
  obtain ⟨locs, hlocs⟩ : ∃ z : List Loc, z = [] := ⟨_, rfl⟩
  rw [← hH] at hP
  have hS : va_S (fun q => lo ≤ q) s.heap H locs := by rw [hH, hlocs]; exact hS
  have goal0 : W p l e (rm_X3_defined) s m args below meth c H locs 0 0 (MQ below (Qw D cA ad lo g1 (some r)) args s 0 0 (fun q => lo ≤ q)) (F0 m 0 ls []) := by
    refine lv_aload_n S.1 S.2.1 dX3_defined_0 rfl (lv_at hl 0 rfl) ?_
    refine lv_iconst (v := 0) S.1 S.2.1 dX3_defined_1 (by decide) ?_
    refine r_put (C := RX3) (T := TX3) (N := 19) (ci := 3) (k := 54) (j := 0) (fs := fsX) (v := 0) tyX3 tyX3_ok nmX3 S hA hK hP hS hn3 lk59 rfl (by decide) rfl (by decide +kernel) rfl rfl dX3_defined_2 (fun H locs hP hS => ?_)
    refine lv_aload_n S.1 S.2.1 dX3_defined_5 rfl (lv_at hl 0 rfl) ?_
    refine r_get (C := RX3) (T := TX3) (N := 19) (ci := 3) (k := 54) (j := 11) (fs := fsX) (d := none) (v := .int ((mup g 54 0 0) 54 11)) S hK hP hn3 lk86 rfl (by decide) rfl rfl rfl dX3_defined_6 ?_
    exact e_W S hr hlocks hP hS (Option.some.inj h) dX3_defined_9
  rw [hH, hlocs] at goal0
  exact goal0
