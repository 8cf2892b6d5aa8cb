def m_X3_load_78 (k70 : Mem → Int32 → Option (Mem × Int32)) (p1 : Int32) : Nat → Mem → Int32 → Int32 → Option (Mem × Int32)
  | 0, _, _, _ => none
  | n + 1, g, x2, x3 => (if 48 ≤ x3 then k70 (g) ((x2 + 1)) else gi (x3 / 6) 8 ((if (g 67 ((x3 / 6)).toNatClampNeg) = 0 then m_X3_load_78 k70 p1 n (g) (x2) ((x3 + 1)) else gi (x3 / 6) 8 ((if (g 60 ((x3 / 6)).toNatClampNeg) ≤ (x3 - x3 / 6 * 6) then m_X3_load_78 k70 p1 n (g) (x2) ((x3 + 1)) else gi x3 48 (gi (g 61 (x3).toNatClampNeg) 8 ((if (g 57 ((g 61 (x3).toNatClampNeg)).toNatClampNeg) = 0 then m_X3_load_78 k70 p1 n (g) (x2) ((x3 + 1)) else gi x3 48 (gi (g 61 (x3).toNatClampNeg) 8 (m_X3_load_78 k70 p1 n ((mup g 67 ((g 61 (x3).toNatClampNeg)).toNatClampNeg (vp_nar .boolean 1))) (x2) ((x3 + 1))))))))))))
def m_X3_load_185 (k154 : Mem → Int32 → Int32 → Option (Mem × Int32)) (p1 : Int32) (g : Mem) (x2 x3 s0 : Int32) : Option (Mem × Int32) := gi x3 8 ((if (g 56 (x3).toNatClampNeg) = 0 then gi x3 8 ((if (g 67 (x3).toNatClampNeg) = 0 then gi x3 8 (k154 ((mup g 56 (x3).toNatClampNeg (vp_nar .boolean 0))) (s0) ((x3 + 1))) else gi x3 8 (k154 ((mup g 56 (x3).toNatClampNeg (vp_nar .boolean 1))) (s0) ((x3 + 1))))) else gi x3 8 (k154 ((mup g 56 (x3).toNatClampNeg (vp_nar .boolean 1))) (s0) ((x3 + 1)))))
def m_X3_load_154 (p1 : Int32) : Nat → Mem → Int32 → Int32 → Option (Mem × Int32)
  | 0, _, _, _ => none
  | n + 1, g, x2, x3 => (if 8 ≤ x3 then some (g, x2) else gi x3 8 ((if (g 67 (x3).toNatClampNeg) = 0 then m_X3_load_185 (fun gy yx2 yx3 => m_X3_load_154 p1 n gy yx2 yx3) p1 (g) (x2) (x3) (x2) else gi x3 8 ((if (g 56 (x3).toNatClampNeg) = 0 then m_X3_load_185 (fun gy yx2 yx3 => m_X3_load_154 p1 n gy yx2 yx3) p1 (g) (x2) (x3) ((x2 + 1)) else m_X3_load_185 (fun gy yx2 yx3 => m_X3_load_154 p1 n gy yx2 yx3) p1 (g) (x2) (x3) (x2))))))
def m_X3_load_70 (p1 : Int32) : Nat → Mem → Int32 → Option (Mem × Int32)
  | 0, _, _ => none
  | n + 1, g, x2 => (if 8 ≤ x2 then m_X3_load_154 p1 200 (g) (0) (0) else m_X3_load_78 (fun gy yx2 => m_X3_load_70 p1 n gy yx2) p1 200 (g) (x2) (0))
def m_X3_load_40 (p1 : Int32) : Nat → Mem → Int32 → Option (Mem × Int32)
  | 0, _, _ => none
  | n + 1, g, x2 => (if 8 ≤ x2 then m_X3_load_70 p1 200 (g) (0) else (if x2 = p1 then gi x2 8 (m_X3_load_40 p1 n ((mup g 67 (x2).toNatClampNeg (vp_nar .boolean 1))) ((x2 + 1))) else gi x2 8 (m_X3_load_40 p1 n ((mup g 67 (x2).toNatClampNeg (vp_nar .boolean 0))) ((x2 + 1)))))
def m_X3_load (g : Mem) (p1 : Int32) : Option (Mem × Int32) := (m_X3_judge g).bind fun g_30 => (if (m_X3_isModule p1) = 0 then (m_X3_throwsBy g_30 1).bind fun qr42 => (if qr42.2 = 0 then m_X3_load_40 p1 200 (qr42.1) (0) else some (qr42.1, 0)) else gi p1 8 ((if (g_30 57 (p1).toNatClampNeg) = 0 then (m_X3_throwsBy g_30 2).bind fun qr38 => (if qr38.2 = 0 then m_X3_load_40 p1 200 (qr38.1) (0) else some (qr38.1, 0)) else (m_X3_throwsBy g_30 0).bind fun qr34 => (if qr34.2 = 0 then m_X3_load_40 p1 200 (qr34.1) (0) else some (qr34.1, 0)))))
def rm_X3_load : Room := { frames := 2, cells := 0, slots := 0, locals := 42 }
set_option maxRecDepth 100000 in
set_option maxHeartbeats 4000000 in
theorem c_X3_load {l : Launch} {D : va_G} {cA : Nat → ClassId} {ad : Nat → Nat} {lo : Nat} (hA : AdOk lo ad lay0.length) {g : Mem} {p1 : Int32} {g1 : Mem} {r : Int32} (h : m_X3_load g p1 = some (g1, r)) : Met l yX3_load wsX3_load rm_X3_load (Pw [.ref (ad 54), .int p1] D cA ad lo g) (Qw D cA ad lo g1 (some r)) 0 0 (fun q => lo ≤ q) := by
  refine startW (cc := cX3_load) (maxL := 4) (ret := (some .int)) (by decide) rfl (Nat.le_of_ble_eq_true rfl) ?_
  intro p e s m args below meth c ls S hr hlocks hB hl
  obtain ⟨hlo, hP, hK, hN⟩ := hB
  have hS : va_S (fun q => lo ≤ q) s.heap s.heap [] := va_S.rf
  unfold m_X3_load at h
  have S : CallFix p m c cX3_load 4 s args wsX3_load RX3 := S
  have hl : lv_has ls 4 [(0, .ref (ad 54)), (1, .int p1)] := hl
  have hn3 : ∀ w ∈ wsX30, w ∈ wsX3_load := by decide +kernel
  have lk13 := S.2.2.2.2 (.fieldLink RX3 13 "FlatLoaderModel" "loaded" "[Z") (by decide +kernel)
  have lk16 := S.2.2.2.2 (.fieldLink RX3 16 "FlatLoaderModel" "loadable" "[Z") (by decide +kernel)
  have lk26 := S.2.2.2.2 (.fieldLink RX3 26 "FlatLoaderModel" "many" "[I") (by decide +kernel)
  have lk29 := S.2.2.2.2 (.fieldLink RX3 29 "FlatLoaderModel" "on" "[I") (by decide +kernel)
  have lk47 := S.2.2.2.2 (.fieldLink RX3 47 "FlatLoaderModel" "come" "[Z") (by decide +kernel)
  obtain ⟨H, hH⟩ : ∃ H, H = s.heap := ⟨_, rfl⟩
  obtain ⟨locs, hlocs⟩ : ∃ z : List Loc, z = [] := ⟨_, rfl⟩
  have key78 : ∀ (k70 : Mem → Int32 → Option (Mem × Int32)), (∀ (g : Mem) (H : Heap) (locs : List Loc), va_P D vwCl (wld cA ad g lay0) H → va_S (fun q => lo ≤ q) s.heap H locs → ∀ (x2 : Int32), ∀ (ls : Array Slot), lv_has ls 4 [(0, .ref (ad 54)), (1, .int p1), (2, .int x2)] → k70 g x2 = some (g1, r) → W p l e (rm_X3_load) s m args below meth c H locs 0 0 (MQ below (Qw D cA ad lo g1 (some r)) args s 0 0 (fun q => lo ≤ q)) (F0 m 70 ls [])) → ∀ (n : Nat), ∀ (g : Mem) (H : Heap) (locs : List Loc), va_P D vwCl (wld cA ad g lay0) H → va_S (fun q => lo ≤ q) s.heap H locs → ∀ (x2 x3 : Int32), ∀ (ls : Array Slot), lv_has ls 4 [(0, .ref (ad 54)), (1, .int p1), (2, .int x2), (3, .int x3)] → m_X3_load_78 k70 p1 n g x2 x3 = some (g1, r) → W p l e (rm_X3_load) s m args below meth c H locs 0 0 (MQ below (Qw D cA ad lo g1 (some r)) args s 0 0 (fun q => lo ≤ q)) (F0 m 78 ls []) := by
    intro k70 hk70 n
    induction n with
    | zero =>
      intro g H locs hP hS x2 x3 ls hl h
      exact nomatch (show none = some (g1, r) from h)
    | succ n ih =>
      intro g H locs hP hS x2 x3 ls hl h
      rw [m_X3_load_78] at h
      refine lv_iload_n S.1 S.2.1 dX3_load_78 rfl (lv_at hl 3 rfl) ?_
      refine lv_bipush (v := 48) S.1 S.2.1 dX3_load_79 (by decide) ?_
      refine lv_icmp_ge (tgt := 144) S.1 S.2.1 dX3_load_81 (by decide) (fun hc1 => ?_) (fun hc1 => ?_)
      · rw [if_pos hc1] at h
        refine lv_iinc (v := (x2 + 1)) (lv' := [(2, .int (x2 + 1)), (0, .ref (ad 54)), (1, .int p1), (3, .int x3)]) S.1 S.2.1 dX3_load_144 hl (k := 2) rfl rfl (by decide) rfl (fun ls hl => ?_)
        refine lv_goto (tgt := 70) S.1 S.2.1 dX3_load_147 (by decide) ?_
        exact hk70 (g) H locs hP hS ((x2 + 1)) ls (lv_sub hl [1, 2, 0] rfl) h
      · rw [if_neg hc1] at h
        refine lv_aload_n S.1 S.2.1 dX3_load_84 rfl (lv_at hl 0 rfl) ?_
        refine r_get (C := RX3) (T := TX3) (N := 19) (ci := 3) (k := 54) (j := 15) (fs := fsX) (d := (some (some 67))) (v := .ref (ad 67)) S hK hP hn3 lk47 rfl (by decide) rfl rfl rfl dX3_load_85 ?_
        refine lv_iload_n S.1 S.2.1 dX3_load_88 rfl (lv_at hl 3 rfl) ?_
        refine lv_bipush (v := 6) S.1 S.2.1 dX3_load_89 (by decide) ?_
        refine lv_idiv S.1 S.2.1 dX3_load_91 (by decide) ?_
        obtain ⟨hv2, hv2b, h⟩ := gi_some h
        refine r_zld (k := 67) (n := 8) S hK hP rfl hv2 dX3_load_92 ?_
        refine lv_if_eq (tgt := 138) S.1 S.2.1 dX3_load_93 (by decide) (fun hc3 => ?_) (fun hc3 => ?_)
        · rw [if_pos hc3] at h
          refine lv_iinc (v := (x3 + 1)) (lv' := [(3, .int (x3 + 1)), (0, .ref (ad 54)), (1, .int p1), (2, .int x2)]) S.1 S.2.1 dX3_load_138 hl (k := 3) rfl rfl (by decide) rfl (fun ls hl => ?_)
          refine lv_goto (tgt := 78) S.1 S.2.1 dX3_load_141 (by decide) ?_
          exact ih (g) H locs hP hS (x2) ((x3 + 1)) ls (lv_sub hl [1, 2, 3, 0] rfl) h
        · rw [if_neg hc3] at h
          refine lv_iload_n S.1 S.2.1 dX3_load_96 rfl (lv_at hl 3 rfl) ?_
          refine lv_bipush (v := 6) S.1 S.2.1 dX3_load_97 (by decide) ?_
          refine lv_irem S.1 S.2.1 dX3_load_99 (by decide) ?_
          refine lv_aload_n S.1 S.2.1 dX3_load_100 rfl (lv_at hl 0 rfl) ?_
          refine r_get (C := RX3) (T := TX3) (N := 19) (ci := 3) (k := 54) (j := 6) (fs := fsX) (d := (some (some 60))) (v := .ref (ad 60)) S hK hP hn3 lk26 rfl (by decide) rfl rfl rfl dX3_load_101 ?_
          refine lv_iload_n S.1 S.2.1 dX3_load_104 rfl (lv_at hl 3 rfl) ?_
          refine lv_bipush (v := 6) S.1 S.2.1 dX3_load_105 (by decide) ?_
          refine lv_idiv S.1 S.2.1 dX3_load_107 (by decide) ?_
          obtain ⟨hv4, hv4b, h⟩ := gi_some h
          refine r_ild (k := 60) (n := 8) S hK hP rfl hv4 dX3_load_108 ?_
          refine lv_icmp_ge (tgt := 138) S.1 S.2.1 dX3_load_109 (by decide) (fun hc5 => ?_) (fun hc5 => ?_)
          · rw [if_pos hc5] at h
            refine lv_iinc (v := (x3 + 1)) (lv' := [(3, .int (x3 + 1)), (0, .ref (ad 54)), (1, .int p1), (2, .int x2)]) S.1 S.2.1 dX3_load_138 hl (k := 3) rfl rfl (by decide) rfl (fun ls hl => ?_)
            refine lv_goto (tgt := 78) S.1 S.2.1 dX3_load_141 (by decide) ?_
            exact ih (g) H locs hP hS (x2) ((x3 + 1)) ls (lv_sub hl [1, 2, 3, 0] rfl) h
          · rw [if_neg hc5] at h
            refine lv_aload_n S.1 S.2.1 dX3_load_112 rfl (lv_at hl 0 rfl) ?_
            refine r_get (C := RX3) (T := TX3) (N := 19) (ci := 3) (k := 54) (j := 3) (fs := fsX) (d := (some (some 57))) (v := .ref (ad 57)) S hK hP hn3 lk16 rfl (by decide) rfl rfl rfl dX3_load_113 ?_
            refine lv_aload_n S.1 S.2.1 dX3_load_116 rfl (lv_at hl 0 rfl) ?_
            refine r_get (C := RX3) (T := TX3) (N := 19) (ci := 3) (k := 54) (j := 7) (fs := fsX) (d := (some (some 61))) (v := .ref (ad 61)) S hK hP hn3 lk29 rfl (by decide) rfl rfl rfl dX3_load_117 ?_
            refine lv_iload_n S.1 S.2.1 dX3_load_120 rfl (lv_at hl 3 rfl) ?_
            obtain ⟨hv6, hv6b, h⟩ := gi_some h
            refine r_ild (k := 61) (n := 48) S hK hP rfl hv6 dX3_load_121 ?_
            obtain ⟨hv7, hv7b, h⟩ := gi_some h
            refine r_zld (k := 57) (n := 8) S hK hP rfl hv7 dX3_load_122 ?_
            refine lv_if_eq (tgt := 138) S.1 S.2.1 dX3_load_123 (by decide) (fun hc8 => ?_) (fun hc8 => ?_)
            · rw [if_pos hc8] at h
              refine lv_iinc (v := (x3 + 1)) (lv' := [(3, .int (x3 + 1)), (0, .ref (ad 54)), (1, .int p1), (2, .int x2)]) S.1 S.2.1 dX3_load_138 hl (k := 3) rfl rfl (by decide) rfl (fun ls hl => ?_)
              refine lv_goto (tgt := 78) S.1 S.2.1 dX3_load_141 (by decide) ?_
              exact ih (g) H locs hP hS (x2) ((x3 + 1)) ls (lv_sub hl [1, 2, 3, 0] rfl) h
            · rw [if_neg hc8] at h
              refine lv_aload_n S.1 S.2.1 dX3_load_126 rfl (lv_at hl 0 rfl) ?_
              refine r_get (C := RX3) (T := TX3) (N := 19) (ci := 3) (k := 54) (j := 15) (fs := fsX) (d := (some (some 67))) (v := .ref (ad 67)) S hK hP hn3 lk47 rfl (by decide) rfl rfl rfl dX3_load_127 ?_
              refine lv_aload_n S.1 S.2.1 dX3_load_130 rfl (lv_at hl 0 rfl) ?_
              refine r_get (C := RX3) (T := TX3) (N := 19) (ci := 3) (k := 54) (j := 7) (fs := fsX) (d := (some (some 61))) (v := .ref (ad 61)) S hK hP hn3 lk29 rfl (by decide) rfl rfl rfl dX3_load_131 ?_
              refine lv_iload_n S.1 S.2.1 dX3_load_134 rfl (lv_at hl 3 rfl) ?_
              obtain ⟨hv9, hv9b, h⟩ := gi_some h
              refine r_ild (k := 61) (n := 48) S hK hP rfl hv9 dX3_load_135 ?_
              refine lv_iconst (v := 1) S.1 S.2.1 dX3_load_136 (by decide) ?_
              obtain ⟨hv10, hv10b, h⟩ := gi_some h
              refine r_zst (k := 67) (n := 8) S hA hK hP hS rfl hv10 dX3_load_137 (fun H locs hP hS => ?_)
              refine lv_iinc (v := (x3 + 1)) (lv' := [(3, .int (x3 + 1)), (0, .ref (ad 54)), (1, .int p1), (2, .int x2)]) S.1 S.2.1 dX3_load_138 hl (k := 3) rfl rfl (by decide) rfl (fun ls hl => ?_)
              refine lv_goto (tgt := 78) S.1 S.2.1 dX3_load_141 (by decide) ?_
              exact ih ((mup g 67 ((g 61 (x3).toNatClampNeg)).toNatClampNeg (vp_nar .boolean 1))) H locs hP hS (x2) ((x3 + 1)) ls (lv_sub hl [1, 2, 3, 0] rfl) h
  have key185 : ∀ (k154 : Mem → Int32 → Int32 → Option (Mem × Int32)), (∀ (g : Mem) (H : Heap) (locs : List Loc), va_P D vwCl (wld cA ad g lay0) H → va_S (fun q => lo ≤ q) s.heap H locs → ∀ (x2 x3 : Int32), ∀ (ls : Array Slot), lv_has ls 4 [(0, .ref (ad 54)), (1, .int p1), (2, .int x2), (3, .int x3)] → k154 g x2 x3 = some (g1, r) → W p l e (rm_X3_load) s m args below meth c H locs 0 0 (MQ below (Qw D cA ad lo g1 (some r)) args s 0 0 (fun q => lo ≤ q)) (F0 m 154 ls [])) → ∀ (g : Mem) (H : Heap) (locs : List Loc), va_P D vwCl (wld cA ad g lay0) H → va_S (fun q => lo ≤ q) s.heap H locs → ∀ (x2 x3 s0 : Int32), ∀ (ls : Array Slot), lv_has ls 4 [(0, .ref (ad 54)), (1, .int p1), (2, .int x2), (3, .int x3)] → m_X3_load_185 k154 p1 g x2 x3 s0 = some (g1, r) → W p l e (rm_X3_load) s m args below meth c H locs 0 0 (MQ below (Qw D cA ad lo g1 (some r)) args s 0 0 (fun q => lo ≤ q)) (F0 m 185 ls [.int s0]) := by
    intro k154 hk154
    intro g H locs hP hS x2 x3 s0 ls hl h
    unfold m_X3_load_185 at h
    refine lv_istore_n (lv' := [(2, .int s0), (0, .ref (ad 54)), (1, .int p1), (3, .int x3)]) S.1 S.2.1 dX3_load_185 rfl hl (by decide) rfl (fun ls hl => ?_)
    refine lv_aload_n S.1 S.2.1 dX3_load_186 rfl (lv_at hl 1 rfl) ?_
    refine r_get (C := RX3) (T := TX3) (N := 19) (ci := 3) (k := 54) (j := 2) (fs := fsX) (d := (some (some 56))) (v := .ref (ad 56)) S hK hP hn3 lk13 rfl (by decide) rfl rfl rfl dX3_load_187 ?_
    refine lv_iload_n S.1 S.2.1 dX3_load_190 rfl (lv_at hl 3 rfl) ?_
    refine lv_aload_n S.1 S.2.1 dX3_load_191 rfl (lv_at hl 1 rfl) ?_
    refine r_get (C := RX3) (T := TX3) (N := 19) (ci := 3) (k := 54) (j := 2) (fs := fsX) (d := (some (some 56))) (v := .ref (ad 56)) S hK hP hn3 lk13 rfl (by decide) rfl rfl rfl dX3_load_192 ?_
    refine lv_iload_n S.1 S.2.1 dX3_load_195 rfl (lv_at hl 3 rfl) ?_
    obtain ⟨hv11, hv11b, h⟩ := gi_some h
    refine r_zld (k := 56) (n := 8) S hK hP rfl hv11 dX3_load_196 ?_
    refine lv_if_ne (tgt := 209) S.1 S.2.1 dX3_load_197 (by decide) (fun hc12 => ?_) (fun hc12 => ?_)
    · rw [if_neg hc12] at h
      refine lv_iconst (v := 1) S.1 S.2.1 dX3_load_209 (by decide) ?_
      refine lv_goto (tgt := 214) S.1 S.2.1 dX3_load_210 (by decide) ?_
      obtain ⟨hv13, hv13b, h⟩ := gi_some h
      refine r_zst (k := 56) (n := 8) S hA hK hP hS rfl hv13 dX3_load_214 (fun H locs hP hS => ?_)
      refine lv_iinc (v := (x3 + 1)) (lv' := [(3, .int (x3 + 1)), (2, .int s0), (0, .ref (ad 54)), (1, .int p1)]) S.1 S.2.1 dX3_load_215 hl (k := 3) rfl rfl (by decide) rfl (fun ls hl => ?_)
      refine lv_goto (tgt := 154) S.1 S.2.1 dX3_load_218 (by decide) ?_
      exact hk154 ((mup g 56 (x3).toNatClampNeg (vp_nar .boolean 1))) H locs hP hS (s0) ((x3 + 1)) ls (lv_sub hl [2, 3, 1, 0] rfl) h
    · rw [if_pos hc12] at h
      refine lv_aload_n S.1 S.2.1 dX3_load_200 rfl (lv_at hl 1 rfl) ?_
      refine r_get (C := RX3) (T := TX3) (N := 19) (ci := 3) (k := 54) (j := 15) (fs := fsX) (d := (some (some 67))) (v := .ref (ad 67)) S hK hP hn3 lk47 rfl (by decide) rfl rfl rfl dX3_load_201 ?_
      refine lv_iload_n S.1 S.2.1 dX3_load_204 rfl (lv_at hl 3 rfl) ?_
      obtain ⟨hv14, hv14b, h⟩ := gi_some h
      refine r_zld (k := 67) (n := 8) S hK hP rfl hv14 dX3_load_205 ?_
      refine lv_if_eq (tgt := 213) S.1 S.2.1 dX3_load_206 (by decide) (fun hc15 => ?_) (fun hc15 => ?_)
      · rw [if_pos hc15] at h
        refine lv_iconst (v := 0) S.1 S.2.1 dX3_load_213 (by decide) ?_
        obtain ⟨hv16, hv16b, h⟩ := gi_some h
        refine r_zst (k := 56) (n := 8) S hA hK hP hS rfl hv16 dX3_load_214 (fun H locs hP hS => ?_)
        refine lv_iinc (v := (x3 + 1)) (lv' := [(3, .int (x3 + 1)), (2, .int s0), (0, .ref (ad 54)), (1, .int p1)]) S.1 S.2.1 dX3_load_215 hl (k := 3) rfl rfl (by decide) rfl (fun ls hl => ?_)
        refine lv_goto (tgt := 154) S.1 S.2.1 dX3_load_218 (by decide) ?_
        exact hk154 ((mup g 56 (x3).toNatClampNeg (vp_nar .boolean 0))) H locs hP hS (s0) ((x3 + 1)) ls (lv_sub hl [2, 3, 1, 0] rfl) h
      · rw [if_neg hc15] at h
        refine lv_iconst (v := 1) S.1 S.2.1 dX3_load_209 (by decide) ?_
        refine lv_goto (tgt := 214) S.1 S.2.1 dX3_load_210 (by decide) ?_
        obtain ⟨hv17, hv17b, h⟩ := gi_some h
        refine r_zst (k := 56) (n := 8) S hA hK hP hS rfl hv17 dX3_load_214 (fun H locs hP hS => ?_)
        refine lv_iinc (v := (x3 + 1)) (lv' := [(3, .int (x3 + 1)), (2, .int s0), (0, .ref (ad 54)), (1, .int p1)]) S.1 S.2.1 dX3_load_215 hl (k := 3) rfl rfl (by decide) rfl (fun ls hl => ?_)
        refine lv_goto (tgt := 154) S.1 S.2.1 dX3_load_218 (by decide) ?_
        exact hk154 ((mup g 56 (x3).toNatClampNeg (vp_nar .boolean 1))) H locs hP hS (s0) ((x3 + 1)) ls (lv_sub hl [2, 3, 1, 0] rfl) h
  have key154 : ∀ (n : Nat), ∀ (g : Mem) (H : Heap) (locs : List Loc), va_P D vwCl (wld cA ad g lay0) H → va_S (fun q => lo ≤ q) s.heap H locs → ∀ (x2 x3 : Int32), ∀ (ls : Array Slot), lv_has ls 4 [(0, .ref (ad 54)), (1, .int p1), (2, .int x2), (3, .int x3)] → m_X3_load_154 p1 n g x2 x3 = some (g1, r) → W p l e (rm_X3_load) s m args below meth c H locs 0 0 (MQ below (Qw D cA ad lo g1 (some r)) args s 0 0 (fun q => lo ≤ q)) (F0 m 154 ls []) := by
    intro n
    induction n with
    | zero =>
      intro g H locs hP hS x2 x3 ls hl h
      exact nomatch (show none = some (g1, r) from h)
    | succ n ih =>
      intro g H locs hP hS x2 x3 ls hl h
      rw [m_X3_load_154] at h
      refine lv_iload_n S.1 S.2.1 dX3_load_154 rfl (lv_at hl 3 rfl) ?_
      refine lv_bipush (v := 8) S.1 S.2.1 dX3_load_155 (by decide) ?_
      refine lv_icmp_ge (tgt := 221) S.1 S.2.1 dX3_load_157 (by decide) (fun hc18 => ?_) (fun hc18 => ?_)
      · rw [if_pos hc18] at h
        refine lv_iload_n S.1 S.2.1 dX3_load_221 rfl (lv_at hl 2 rfl) ?_
        exact e_W S hr hlocks hP hS (Option.some.inj h) dX3_load_222
      · rw [if_neg hc18] at h
        refine lv_aload_n S.1 S.2.1 dX3_load_160 rfl (lv_at hl 0 rfl) ?_
        refine r_get (C := RX3) (T := TX3) (N := 19) (ci := 3) (k := 54) (j := 15) (fs := fsX) (d := (some (some 67))) (v := .ref (ad 67)) S hK hP hn3 lk47 rfl (by decide) rfl rfl rfl dX3_load_161 ?_
        refine lv_iload_n S.1 S.2.1 dX3_load_164 rfl (lv_at hl 3 rfl) ?_
        obtain ⟨hv19, hv19b, h⟩ := gi_some h
        refine r_zld (k := 67) (n := 8) S hK hP rfl hv19 dX3_load_165 ?_
        refine lv_if_eq (tgt := 184) S.1 S.2.1 dX3_load_166 (by decide) (fun hc20 => ?_) (fun hc20 => ?_)
        · rw [if_pos hc20] at h
          refine lv_iload_n S.1 S.2.1 dX3_load_184 rfl (lv_at hl 2 rfl) ?_
          exact key185 _ ih (g) H locs hP hS (x2) (x3) (x2) ls (lv_sub hl [0, 1, 2, 3] rfl) h
        · rw [if_neg hc20] at h
          refine lv_aload_n S.1 S.2.1 dX3_load_169 rfl (lv_at hl 0 rfl) ?_
          refine r_get (C := RX3) (T := TX3) (N := 19) (ci := 3) (k := 54) (j := 2) (fs := fsX) (d := (some (some 56))) (v := .ref (ad 56)) S hK hP hn3 lk13 rfl (by decide) rfl rfl rfl dX3_load_170 ?_
          refine lv_iload_n S.1 S.2.1 dX3_load_173 rfl (lv_at hl 3 rfl) ?_
          obtain ⟨hv21, hv21b, h⟩ := gi_some h
          refine r_zld (k := 56) (n := 8) S hK hP rfl hv21 dX3_load_174 ?_
          refine lv_if_ne (tgt := 184) S.1 S.2.1 dX3_load_175 (by decide) (fun hc22 => ?_) (fun hc22 => ?_)
          · rw [if_neg hc22] at h
            refine lv_iload_n S.1 S.2.1 dX3_load_184 rfl (lv_at hl 2 rfl) ?_
            exact key185 _ ih (g) H locs hP hS (x2) (x3) (x2) ls (lv_sub hl [0, 1, 2, 3] rfl) h
          · rw [if_pos hc22] at h
            refine lv_iload_n S.1 S.2.1 dX3_load_178 rfl (lv_at hl 2 rfl) ?_
            refine lv_iconst (v := 1) S.1 S.2.1 dX3_load_179 (by decide) ?_
            refine lv_iadd S.1 S.2.1 dX3_load_180 ?_
            refine lv_goto (tgt := 185) S.1 S.2.1 dX3_load_181 (by decide) ?_
            exact key185 _ ih (g) H locs hP hS (x2) (x3) ((x2 + 1)) ls (lv_sub hl [0, 1, 2, 3] rfl) h
  have key70 : ∀ (n : Nat), ∀ (g : Mem) (H : Heap) (locs : List Loc), va_P D vwCl (wld cA ad g lay0) H → va_S (fun q => lo ≤ q) s.heap H locs → ∀ (x2 : Int32), ∀ (ls : Array Slot), lv_has ls 4 [(0, .ref (ad 54)), (1, .int p1), (2, .int x2)] → m_X3_load_70 p1 n g x2 = some (g1, r) → W p l e (rm_X3_load) s m args below meth c H locs 0 0 (MQ below (Qw D cA ad lo g1 (some r)) args s 0 0 (fun q => lo ≤ q)) (F0 m 70 ls []) := by
    intro n
    induction n with
    | zero =>
      intro g H locs hP hS x2 ls hl h
      exact nomatch (show none = some (g1, r) from h)
    | succ n ih =>
      intro g H locs hP hS x2 ls hl h
      rw [m_X3_load_70] at h
      refine lv_iload_n S.1 S.2.1 dX3_load_70 rfl (lv_at hl 2 rfl) ?_
      refine lv_bipush (v := 8) S.1 S.2.1 dX3_load_71 (by decide) ?_
      refine lv_icmp_ge (tgt := 150) S.1 S.2.1 dX3_load_73 (by decide) (fun hc23 => ?_) (fun hc23 => ?_)
      · rw [if_pos hc23] at h
        refine lv_iconst (v := 0) S.1 S.2.1 dX3_load_150 (by decide) ?_
        refine lv_istore_n (lv' := [(2, .int 0), (0, .ref (ad 54)), (1, .int p1)]) S.1 S.2.1 dX3_load_151 rfl hl (by decide) rfl (fun ls hl => ?_)
        refine lv_iconst (v := 0) S.1 S.2.1 dX3_load_152 (by decide) ?_
        refine lv_istore_n (lv' := [(3, .int 0), (2, .int 0), (0, .ref (ad 54)), (1, .int p1)]) S.1 S.2.1 dX3_load_153 rfl hl (by decide) rfl (fun ls hl => ?_)
        exact key154 200 (g) H locs hP hS (0) (0) ls (lv_sub hl [2, 3, 1, 0] rfl) h
      · rw [if_neg hc23] at h
        refine lv_iconst (v := 0) S.1 S.2.1 dX3_load_76 (by decide) ?_
        refine lv_istore_n (lv' := [(3, .int 0), (0, .ref (ad 54)), (1, .int p1), (2, .int x2)]) S.1 S.2.1 dX3_load_77 rfl hl (by decide) rfl (fun ls hl => ?_)
        exact key78 _ ih 200 (g) H locs hP hS (x2) (0) ls (lv_sub hl [1, 2, 3, 0] rfl) h
  have key40 : ∀ (n : Nat), ∀ (g : Mem) (H : Heap) (locs : List Loc), va_P D vwCl (wld cA ad g lay0) H → va_S (fun q => lo ≤ q) s.heap H locs → ∀ (x2 : Int32), ∀ (ls : Array Slot), lv_has ls 4 [(0, .ref (ad 54)), (1, .int p1), (2, .int x2)] → m_X3_load_40 p1 n g x2 = some (g1, r) → W p l e (rm_X3_load) s m args below meth c H locs 0 0 (MQ below (Qw D cA ad lo g1 (some r)) args s 0 0 (fun q => lo ≤ q)) (F0 m 40 ls []) := by
    intro n
    induction n with
    | zero =>
      intro g H locs hP hS x2 ls hl h
      exact nomatch (show none = some (g1, r) from h)
    | succ n ih =>
      intro g H locs hP hS x2 ls hl h
      rw [m_X3_load_40] at h
      refine lv_iload_n S.1 S.2.1 dX3_load_40 rfl (lv_at hl 2 rfl) ?_
      refine lv_bipush (v := 8) S.1 S.2.1 dX3_load_41 (by decide) ?_
      refine lv_icmp_ge (tgt := 68) S.1 S.2.1 dX3_load_43 (by decide) (fun hc24 => ?_) (fun hc24 => ?_)
      · rw [if_pos hc24] at h
        refine lv_iconst (v := 0) S.1 S.2.1 dX3_load_68 (by decide) ?_
        refine lv_istore_n (lv' := [(2, .int 0), (0, .ref (ad 54)), (1, .int p1)]) S.1 S.2.1 dX3_load_69 rfl hl (by decide) rfl (fun ls hl => ?_)
        exact key70 200 (g) H locs hP hS (0) ls (lv_sub hl [1, 2, 0] rfl) h
      · rw [if_neg hc24] at h
        refine lv_aload_n S.1 S.2.1 dX3_load_46 rfl (lv_at hl 0 rfl) ?_
        refine r_get (C := RX3) (T := TX3) (N := 19) (ci := 3) (k := 54) (j := 15) (fs := fsX) (d := (some (some 67))) (v := .ref (ad 67)) S hK hP hn3 lk47 rfl (by decide) rfl rfl rfl dX3_load_47 ?_
        refine lv_iload_n S.1 S.2.1 dX3_load_50 rfl (lv_at hl 2 rfl) ?_
        refine lv_iload_n S.1 S.2.1 dX3_load_51 rfl (lv_at hl 2 rfl) ?_
        refine lv_iload_n S.1 S.2.1 dX3_load_52 rfl (lv_at hl 1 rfl) ?_
        refine lv_icmp_ne (tgt := 60) S.1 S.2.1 dX3_load_53 (by decide) (fun hc25 => ?_) (fun hc25 => ?_)
        · rw [if_neg hc25] at h
          refine lv_iconst (v := 0) S.1 S.2.1 dX3_load_60 (by decide) ?_
          obtain ⟨hv26, hv26b, h⟩ := gi_some h
          refine r_zst (k := 67) (n := 8) S hA hK hP hS rfl hv26 dX3_load_61 (fun H locs hP hS => ?_)
          refine lv_iinc (v := (x2 + 1)) (lv' := [(2, .int (x2 + 1)), (0, .ref (ad 54)), (1, .int p1)]) S.1 S.2.1 dX3_load_62 hl (k := 2) rfl rfl (by decide) rfl (fun ls hl => ?_)
          refine lv_goto (tgt := 40) S.1 S.2.1 dX3_load_65 (by decide) ?_
          exact ih ((mup g 67 (x2).toNatClampNeg (vp_nar .boolean 0))) H locs hP hS ((x2 + 1)) ls (lv_sub hl [1, 2, 0] rfl) h
        · rw [if_pos hc25] at h
          refine lv_iconst (v := 1) S.1 S.2.1 dX3_load_56 (by decide) ?_
          refine lv_goto (tgt := 61) S.1 S.2.1 dX3_load_57 (by decide) ?_
          obtain ⟨hv27, hv27b, h⟩ := gi_some h
          refine r_zst (k := 67) (n := 8) S hA hK hP hS rfl hv27 dX3_load_61 (fun H locs hP hS => ?_)
          refine lv_iinc (v := (x2 + 1)) (lv' := [(2, .int (x2 + 1)), (0, .ref (ad 54)), (1, .int p1)]) S.1 S.2.1 dX3_load_62 hl (k := 2) rfl rfl (by decide) rfl (fun ls hl => ?_)
          refine lv_goto (tgt := 40) S.1 S.2.1 dX3_load_65 (by decide) ?_
          exact ih ((mup g 67 (x2).toNatClampNeg (vp_nar .boolean 1))) H locs hP hS ((x2 + 1)) ls (lv_sub hl [1, 2, 0] rfl) h
  rw [← hH] at hP
  have hS : va_S (fun q => lo ≤ q) s.heap H locs := by rw [hH, hlocs]; exact hS
  have goal0 : W p l e (rm_X3_load) s m args below meth c H locs 0 0 (MQ below (Qw D cA ad lo g1 (some r)) args s 0 0 (fun q => lo ≤ q)) (F0 m 0 ls []) := by
    refine lv_aload_n S.1 S.2.1 dX3_load_0 rfl (lv_at hl 0 rfl) ?_
    obtain ⟨g_30, h_29, h⟩ := bd_some h
    refine k_Wv (va_runV (As := []) (rest := []) S (c_X3_judge hA h_29) (cwV 0 S.2.2.2.2 gX3_load_X3_judge rfl rfl rfl (by decide +kernel) ⟨Nat.le_of_ble_eq_true rfl, Nat.le_of_ble_eq_true rfl⟩) ⟨Pw_blind, va_recv hK hP (ci := 3) (q0 := 54) rfl (wld_at (d := dX) rfl), Pw_at hlo hS hP hK hN⟩ rfl rfl hl.1 rfl (lv_room (Nat.le_of_ble_eq_true rfl)) dX3_load_1 ⟨Nat.zero_le _, Nat.zero_le _⟩) hS (fun H locs hP hS => ?_)
    refine lv_aload_n S.1 S.2.1 dX3_load_4 rfl (lv_at hl 0 rfl) ?_
    refine lv_iload_n S.1 S.2.1 dX3_load_5 rfl (lv_at hl 1 rfl) ?_
    refine k_R (r := (m_X3_isModule p1)) (va_runS (As := [.int p1]) (rest := [.ref (ad 54)]) S c_X3_isModule (va_cwS 1 S.2.2.2.2 gX3_load_X3_isModule rfl rfl rfl (by decide +kernel) ⟨Nat.le_of_ble_eq_true rfl, Nat.le_of_ble_eq_true rfl⟩) ⟨Tr_blind, Tr_at⟩ rfl rfl hl.1 rfl (lv_room (Nat.le_of_ble_eq_true rfl)) dX3_load_6 ⟨Nat.zero_le _, Nat.zero_le _⟩) ?_
    refine lv_if_ne (tgt := 16) S.1 S.2.1 dX3_load_9 (by decide) (fun hc31 => ?_) (fun hc31 => ?_)
    · rw [if_neg hc31] at h
      refine lv_aload_n S.1 S.2.1 dX3_load_16 rfl (lv_at hl 0 rfl) ?_
      refine r_get (C := RX3) (T := TX3) (N := 19) (ci := 3) (k := 54) (j := 3) (fs := fsX) (d := (some (some 57))) (v := .ref (ad 57)) S hK hP hn3 lk16 rfl (by decide) rfl rfl rfl dX3_load_17 ?_
      refine lv_iload_n S.1 S.2.1 dX3_load_20 rfl (lv_at hl 1 rfl) ?_
      obtain ⟨hv32, hv32b, h⟩ := gi_some h
      refine r_zld (k := 57) (n := 8) S hK hP rfl hv32 dX3_load_21 ?_
      refine lv_if_ne (tgt := 29) S.1 S.2.1 dX3_load_22 (by decide) (fun hc33 => ?_) (fun hc33 => ?_)
      · rw [if_neg hc33] at h
        refine lv_iconst (v := 0) S.1 S.2.1 dX3_load_29 (by decide) ?_
        obtain ⟨⟨g_36, r34⟩, h_35, h⟩ := bd_some h
        dsimp only at h
        refine k_Wi (va_runV (As := [.int 0]) (rest := []) S (c_X3_throwsBy hA h_35) (cwV 1 S.2.2.2.2 gX3_load_X3_throwsBy rfl rfl rfl (by decide +kernel) ⟨Nat.le_of_ble_eq_true rfl, Nat.le_of_ble_eq_true rfl⟩) ⟨Pw_blind, va_recv hK hP (ci := 3) (q0 := 54) rfl (wld_at (d := dX) rfl), Pw_at hlo hS hP hK hN⟩ rfl rfl hl.1 rfl (lv_room (Nat.le_of_ble_eq_true rfl)) dX3_load_30 ⟨Nat.zero_le _, Nat.zero_le _⟩) hS (fun H locs hP hS => ?_)
        refine lv_if_eq (tgt := 38) S.1 S.2.1 dX3_load_33 (by decide) (fun hc37 => ?_) (fun hc37 => ?_)
        · rw [if_pos hc37] at h
          refine lv_iconst (v := 0) S.1 S.2.1 dX3_load_38 (by decide) ?_
          refine lv_istore_n (lv' := [(2, .int 0), (0, .ref (ad 54)), (1, .int p1)]) S.1 S.2.1 dX3_load_39 rfl hl (by decide) rfl (fun ls hl => ?_)
          exact key40 200 (g_36) H locs hP hS (0) ls (lv_sub hl [1, 2, 0] rfl) h
        · rw [if_neg hc37] at h
          refine lv_iconst (v := 0) S.1 S.2.1 dX3_load_36 (by decide) ?_
          exact e_W S hr hlocks hP hS (Option.some.inj h) dX3_load_37
      · rw [if_pos hc33] at h
        refine lv_iconst (v := 2) S.1 S.2.1 dX3_load_25 (by decide) ?_
        refine lv_goto (tgt := 30) S.1 S.2.1 dX3_load_26 (by decide) ?_
        obtain ⟨⟨g_40, r38⟩, h_39, h⟩ := bd_some h
        dsimp only at h
        refine k_Wi (va_runV (As := [.int 2]) (rest := []) S (c_X3_throwsBy hA h_39) (cwV 1 S.2.2.2.2 gX3_load_X3_throwsBy rfl rfl rfl (by decide +kernel) ⟨Nat.le_of_ble_eq_true rfl, Nat.le_of_ble_eq_true rfl⟩) ⟨Pw_blind, va_recv hK hP (ci := 3) (q0 := 54) rfl (wld_at (d := dX) rfl), Pw_at hlo hS hP hK hN⟩ rfl rfl hl.1 rfl (lv_room (Nat.le_of_ble_eq_true rfl)) dX3_load_30 ⟨Nat.zero_le _, Nat.zero_le _⟩) hS (fun H locs hP hS => ?_)
        refine lv_if_eq (tgt := 38) S.1 S.2.1 dX3_load_33 (by decide) (fun hc41 => ?_) (fun hc41 => ?_)
        · rw [if_pos hc41] at h
          refine lv_iconst (v := 0) S.1 S.2.1 dX3_load_38 (by decide) ?_
          refine lv_istore_n (lv' := [(2, .int 0), (0, .ref (ad 54)), (1, .int p1)]) S.1 S.2.1 dX3_load_39 rfl hl (by decide) rfl (fun ls hl => ?_)
          exact key40 200 (g_40) H locs hP hS (0) ls (lv_sub hl [1, 2, 0] rfl) h
        · rw [if_neg hc41] at h
          refine lv_iconst (v := 0) S.1 S.2.1 dX3_load_36 (by decide) ?_
          exact e_W S hr hlocks hP hS (Option.some.inj h) dX3_load_37
    · rw [if_pos hc31] at h
      refine lv_iconst (v := 1) S.1 S.2.1 dX3_load_12 (by decide) ?_
      refine lv_goto (tgt := 30) S.1 S.2.1 dX3_load_13 (by decide) ?_
      obtain ⟨⟨g_44, r42⟩, h_43, h⟩ := bd_some h
      dsimp only at h
      refine k_Wi (va_runV (As := [.int 1]) (rest := []) S (c_X3_throwsBy hA h_43) (cwV 1 S.2.2.2.2 gX3_load_X3_throwsBy rfl rfl rfl (by decide +kernel) ⟨Nat.le_of_ble_eq_true rfl, Nat.le_of_ble_eq_true rfl⟩) ⟨Pw_blind, va_recv hK hP (ci := 3) (q0 := 54) rfl (wld_at (d := dX) rfl), Pw_at hlo hS hP hK hN⟩ rfl rfl hl.1 rfl (lv_room (Nat.le_of_ble_eq_true rfl)) dX3_load_30 ⟨Nat.zero_le _, Nat.zero_le _⟩) hS (fun H locs hP hS => ?_)
      refine lv_if_eq (tgt := 38) S.1 S.2.1 dX3_load_33 (by decide) (fun hc45 => ?_) (fun hc45 => ?_)
      · rw [if_pos hc45] at h
        refine lv_iconst (v := 0) S.1 S.2.1 dX3_load_38 (by decide) ?_
        refine lv_istore_n (lv' := [(2, .int 0), (0, .ref (ad 54)), (1, .int p1)]) S.1 S.2.1 dX3_load_39 rfl hl (by decide) rfl (fun ls hl => ?_)
        exact key40 200 (g_44) H locs hP hS (0) ls (lv_sub hl [1, 2, 0] rfl) h
      · rw [if_neg hc45] at h
        refine lv_iconst (v := 0) S.1 S.2.1 dX3_load_36 (by decide) ?_
        exact e_W S hr hlocks hP hS (Option.some.inj h) dX3_load_37
  rw [hH, hlocs] at goal0
  exact goal0

def m_X3_isNeeded_83 (g : Mem) (p1 : Int32) : Nat → Int32 → Int32 → Option Int32
  | 0, _, _ => none
  | n + 1, x2, x3 => (if 192 ≤ x3 then gz x2 (some x2) else (if x2 = 0 then (if (x3 / 24) = p1 then m_X3_isNeeded_83 g p1 n (0) ((x3 + 1)) else gi x3 192 ((if (g 59 (x3).toNatClampNeg) = p1 then m_X3_isNeeded_83 g p1 n (1) ((x3 + 1)) else m_X3_isNeeded_83 g p1 n (0) ((x3 + 1))))) else m_X3_isNeeded_83 g p1 n (1) ((x3 + 1))))
def m_X3_isNeeded_4 (g : Mem) (p1 : Int32) : Nat → Int32 → Int32 → Option Int32
  | 0, _, _ => none
  | n + 1, x2, x3 => (if 48 ≤ x3 then m_X3_isNeeded_83 g p1 200 (x2) (0) else (if x2 = 0 then (if (x3 / 6) = p1 then m_X3_isNeeded_4 g p1 n (0) ((x3 + 1)) else gi (x3 / 6) 8 ((if (g 56 ((x3 / 6)).toNatClampNeg) = 0 then m_X3_isNeeded_4 g p1 n (0) ((x3 + 1)) else gi (x3 / 6) 8 ((if (g 60 ((x3 / 6)).toNatClampNeg) ≤ (x3 - x3 / 6 * 6) then m_X3_isNeeded_4 g p1 n (0) ((x3 + 1)) else gi x3 48 ((if (g 64 (x3).toNatClampNeg) = 0 then m_X3_isNeeded_4 g p1 n (0) ((x3 + 1)) else gi x3 48 ((if (g 61 (x3).toNatClampNeg) = p1 then m_X3_isNeeded_4 g p1 n (1) ((x3 + 1)) else m_X3_isNeeded_4 g p1 n (0) ((x3 + 1))))))))))) else m_X3_isNeeded_4 g p1 n (1) ((x3 + 1))))
def m_X3_isNeeded (g : Mem) (p1 : Int32) : Option Int32 := m_X3_isNeeded_4 g p1 200 (0) (0)
def rm_X3_isNeeded : Room := { frames := 0, cells := 0, slots := 0, locals := 0 }
set_option maxRecDepth 100000 in
set_option maxHeartbeats 4000000 in
theorem c_X3_isNeeded {l : Launch} {D : va_G} {cA : Nat → ClassId} {ad : Nat → Nat} {lo : Nat} {g : Mem} {p1 : Int32} {r : Int32} (h : m_X3_isNeeded g p1 = some r) : Met l yX3_isNeeded wsX3_isNeeded rm_X3_isNeeded (Pw [.ref (ad 54), .int p1] D cA ad lo g) (Qr r) 0 0 (fun _ => False) := by
  refine startW (cc := cX3_isNeeded) (maxL := 5) (ret := (some .boolean)) (by decide) rfl (Nat.le_of_ble_eq_true rfl) ?_
  intro p e s m args below meth c ls S hr hlocks hB hl
  obtain ⟨hlo, hP, hK, hN⟩ := hB
  have hS : va_S (fun q => lo ≤ q) s.heap s.heap [] := va_S.rf
  unfold m_X3_isNeeded at h
  have S : CallFix p m c cX3_isNeeded 5 s args wsX3_isNeeded RX3 := S
  have hl : lv_has ls 5 [(0, .ref (ad 54)), (1, .int p1)] := hl
  have hn3 : ∀ w ∈ wsX30, w ∈ wsX3_isNeeded := by decide +kernel
  have lk13 := S.2.2.2.2 (.fieldLink RX3 13 "FlatLoaderModel" "loaded" "[Z") (by decide +kernel)
  have lk23 := S.2.2.2.2 (.fieldLink RX3 23 "FlatLoaderModel" "extended" "[I") (by decide +kernel)
  have lk26 := S.2.2.2.2 (.fieldLink RX3 26 "FlatLoaderModel" "many" "[I") (by decide +kernel)
  have lk29 := S.2.2.2.2 (.fieldLink RX3 29 "FlatLoaderModel" "on" "[I") (by decide +kernel)
  have lk38 := S.2.2.2.2 (.fieldLink RX3 38 "FlatLoaderModel" "required" "[Z") (by decide +kernel)
  have key83 : ∀ (n : Nat), ∀ (x2 x3 : Int32), ∀ (ls : Array Slot), lv_has ls 5 [(0, .ref (ad 54)), (1, .int p1), (2, .int x2), (3, .int x3)] → m_X3_isNeeded_83 g p1 n x2 x3 = some r → W p l e (rm_X3_isNeeded) s m args below meth c s.heap [] 0 0 (MQ below (Qr r) args s 0 0 (fun _ => False)) (F0 m 83 ls []) := by
    intro n
    induction n with
    | zero =>
      intro x2 x3 ls hl h
      exact nomatch (show none = some r from h)
    | succ n ih =>
      intro x2 x3 ls hl h
      rw [m_X3_isNeeded_83] at h
      refine lv_iload_n S.1 S.2.1 dX3_isNeeded_83 rfl (lv_at hl 3 rfl) ?_
      refine lv_sipush (v := 192) S.1 S.2.1 dX3_isNeeded_84 (by decide) ?_
      refine lv_icmp_ge (tgt := 124) S.1 S.2.1 dX3_isNeeded_87 (by decide) (fun hc1 => ?_) (fun hc1 => ?_)
      · rw [if_pos hc1] at h
        refine lv_iload_n S.1 S.2.1 dX3_isNeeded_124 rfl (lv_at hl 2 rfl) ?_
        obtain ⟨hz, h⟩ := gz_some h
        exact e_Rz S hr hlocks hz (Option.some.inj h) dX3_isNeeded_125
      · rw [if_neg hc1] at h
        refine lv_iload_n S.1 S.2.1 dX3_isNeeded_90 rfl (lv_at hl 2 rfl) ?_
        refine lv_if_ne (tgt := 112) S.1 S.2.1 dX3_isNeeded_91 (by decide) (fun hc2 => ?_) (fun hc2 => ?_)
        · rw [if_neg hc2] at h
          refine lv_iconst (v := 1) S.1 S.2.1 dX3_isNeeded_112 (by decide) ?_
          refine lv_goto (tgt := 117) S.1 S.2.1 dX3_isNeeded_113 (by decide) ?_
          refine lv_istore_n (lv' := [(2, .int 1), (0, .ref (ad 54)), (1, .int p1), (3, .int x3)]) S.1 S.2.1 dX3_isNeeded_117 rfl hl (by decide) rfl (fun ls hl => ?_)
          refine lv_iinc (v := (x3 + 1)) (lv' := [(3, .int (x3 + 1)), (2, .int 1), (0, .ref (ad 54)), (1, .int p1)]) S.1 S.2.1 dX3_isNeeded_118 hl (k := 3) rfl rfl (by decide) rfl (fun ls hl => ?_)
          refine lv_goto (tgt := 83) S.1 S.2.1 dX3_isNeeded_121 (by decide) ?_
          exact ih (1) ((x3 + 1)) ls (lv_sub hl [2, 3, 1, 0] rfl) h
        · rw [if_pos hc2] at h
          refine lv_iload_n S.1 S.2.1 dX3_isNeeded_94 rfl (lv_at hl 3 rfl) ?_
          refine lv_bipush (v := 24) S.1 S.2.1 dX3_isNeeded_95 (by decide) ?_
          refine lv_idiv S.1 S.2.1 dX3_isNeeded_97 (by decide) ?_
          refine lv_iload_n S.1 S.2.1 dX3_isNeeded_98 rfl (lv_at hl 1 rfl) ?_
          refine lv_icmp_eq (tgt := 116) S.1 S.2.1 dX3_isNeeded_99 (by decide) (fun hc3 => ?_) (fun hc3 => ?_)
          · rw [if_pos hc3] at h
            refine lv_iconst (v := 0) S.1 S.2.1 dX3_isNeeded_116 (by decide) ?_
            refine lv_istore_n (lv' := [(2, .int 0), (0, .ref (ad 54)), (1, .int p1), (3, .int x3)]) S.1 S.2.1 dX3_isNeeded_117 rfl hl (by decide) rfl (fun ls hl => ?_)
            refine lv_iinc (v := (x3 + 1)) (lv' := [(3, .int (x3 + 1)), (2, .int 0), (0, .ref (ad 54)), (1, .int p1)]) S.1 S.2.1 dX3_isNeeded_118 hl (k := 3) rfl rfl (by decide) rfl (fun ls hl => ?_)
            refine lv_goto (tgt := 83) S.1 S.2.1 dX3_isNeeded_121 (by decide) ?_
            exact ih (0) ((x3 + 1)) ls (lv_sub hl [2, 3, 1, 0] rfl) h
          · rw [if_neg hc3] at h
            refine lv_aload_n S.1 S.2.1 dX3_isNeeded_102 rfl (lv_at hl 0 rfl) ?_
            refine r_get (C := RX3) (T := TX3) (N := 19) (ci := 3) (k := 54) (j := 5) (fs := fsX) (d := (some (some 59))) (v := .ref (ad 59)) S hK hP hn3 lk23 rfl (by decide) rfl rfl rfl dX3_isNeeded_103 ?_
            refine lv_iload_n S.1 S.2.1 dX3_isNeeded_106 rfl (lv_at hl 3 rfl) ?_
            obtain ⟨hv4, hv4b, h⟩ := gi_some h
            refine r_ild (k := 59) (n := 192) S hK hP rfl hv4 dX3_isNeeded_107 ?_
            refine lv_iload_n S.1 S.2.1 dX3_isNeeded_108 rfl (lv_at hl 1 rfl) ?_
            refine lv_icmp_ne (tgt := 116) S.1 S.2.1 dX3_isNeeded_109 (by decide) (fun hc5 => ?_) (fun hc5 => ?_)
            · rw [if_neg hc5] at h
              refine lv_iconst (v := 0) S.1 S.2.1 dX3_isNeeded_116 (by decide) ?_
              refine lv_istore_n (lv' := [(2, .int 0), (0, .ref (ad 54)), (1, .int p1), (3, .int x3)]) S.1 S.2.1 dX3_isNeeded_117 rfl hl (by decide) rfl (fun ls hl => ?_)
              refine lv_iinc (v := (x3 + 1)) (lv' := [(3, .int (x3 + 1)), (2, .int 0), (0, .ref (ad 54)), (1, .int p1)]) S.1 S.2.1 dX3_isNeeded_118 hl (k := 3) rfl rfl (by decide) rfl (fun ls hl => ?_)
              refine lv_goto (tgt := 83) S.1 S.2.1 dX3_isNeeded_121 (by decide) ?_
              exact ih (0) ((x3 + 1)) ls (lv_sub hl [2, 3, 1, 0] rfl) h
            · rw [if_pos hc5] at h
              refine lv_iconst (v := 1) S.1 S.2.1 dX3_isNeeded_112 (by decide) ?_
              refine lv_goto (tgt := 117) S.1 S.2.1 dX3_isNeeded_113 (by decide) ?_
              refine lv_istore_n (lv' := [(2, .int 1), (0, .ref (ad 54)), (1, .int p1), (3, .int x3)]) S.1 S.2.1 dX3_isNeeded_117 rfl hl (by decide) rfl (fun ls hl => ?_)
              refine lv_iinc (v := (x3 + 1)) (lv' := [(3, .int (x3 + 1)), (2, .int 1), (0, .ref (ad 54)), (1, .int p1)]) S.1 S.2.1 dX3_isNeeded_118 hl (k := 3) rfl rfl (by decide) rfl (fun ls hl => ?_)
              refine lv_goto (tgt := 83) S.1 S.2.1 dX3_isNeeded_121 (by decide) ?_
              exact ih (1) ((x3 + 1)) ls (lv_sub hl [2, 3, 1, 0] rfl) h
  have key4 : ∀ (n : Nat), ∀ (x2 x3 : Int32), ∀ (ls : Array Slot), lv_has ls 5 [(0, .ref (ad 54)), (1, .int p1), (2, .int x2), (3, .int x3)] → m_X3_isNeeded_4 g p1 n x2 x3 = some r → W p l e (rm_X3_isNeeded) s m args below meth c s.heap [] 0 0 (MQ below (Qr r) args s 0 0 (fun _ => False)) (F0 m 4 ls []) := by
    intro n
    induction n with
    | zero =>
      intro x2 x3 ls hl h
      exact nomatch (show none = some r from h)
    | succ n ih =>
      intro x2 x3 ls hl h
      rw [m_X3_isNeeded_4] at h
      refine lv_iload_n S.1 S.2.1 dX3_isNeeded_4 rfl (lv_at hl 3 rfl) ?_
      refine lv_bipush (v := 48) S.1 S.2.1 dX3_isNeeded_5 (by decide) ?_
      refine lv_icmp_ge (tgt := 81) S.1 S.2.1 dX3_isNeeded_7 (by decide) (fun hc6 => ?_) (fun hc6 => ?_)
      · rw [if_pos hc6] at h
        refine lv_iconst (v := 0) S.1 S.2.1 dX3_isNeeded_81 (by decide) ?_
        refine lv_istore_n (lv' := [(3, .int 0), (0, .ref (ad 54)), (1, .int p1), (2, .int x2)]) S.1 S.2.1 dX3_isNeeded_82 rfl hl (by decide) rfl (fun ls hl => ?_)
        exact key83 200 (x2) (0) ls (lv_sub hl [1, 2, 3, 0] rfl) h
      · rw [if_neg hc6] at h
        refine lv_iload_n S.1 S.2.1 dX3_isNeeded_10 rfl (lv_at hl 3 rfl) ?_
        refine lv_bipush (v := 6) S.1 S.2.1 dX3_isNeeded_11 (by decide) ?_
        refine lv_idiv S.1 S.2.1 dX3_isNeeded_13 (by decide) ?_
        refine lv_istore (lv' := [(4, .int (x3 / 6)), (0, .ref (ad 54)), (1, .int p1), (2, .int x2), (3, .int x3)]) S.1 S.2.1 dX3_isNeeded_14 hl (by decide) rfl (fun ls hl => ?_)
        refine lv_iload_n S.1 S.2.1 dX3_isNeeded_16 rfl (lv_at hl 3 rfl) ?_
        refine lv_if_ne (tgt := 69) S.1 S.2.1 dX3_isNeeded_17 (by decide) (fun hc7 => ?_) (fun hc7 => ?_)
        · rw [if_neg hc7] at h
          refine lv_iconst (v := 1) S.1 S.2.1 dX3_isNeeded_69 (by decide) ?_
          refine lv_goto (tgt := 74) S.1 S.2.1 dX3_isNeeded_70 (by decide) ?_
          refine lv_istore_n (lv' := [(2, .int 1), (4, .int (x3 / 6)), (0, .ref (ad 54)), (1, .int p1), (3, .int x3)]) S.1 S.2.1 dX3_isNeeded_74 rfl hl (by decide) rfl (fun ls hl => ?_)
          refine lv_iinc (v := (x3 + 1)) (lv' := [(3, .int (x3 + 1)), (2, .int 1), (4, .int (x3 / 6)), (0, .ref (ad 54)), (1, .int p1)]) S.1 S.2.1 dX3_isNeeded_75 hl (k := 4) rfl rfl (by decide) rfl (fun ls hl => ?_)
          refine lv_goto (tgt := 4) S.1 S.2.1 dX3_isNeeded_78 (by decide) ?_
          exact ih (1) ((x3 + 1)) ls (lv_sub hl [3, 4, 1, 0] rfl) h
        · rw [if_pos hc7] at h
          refine lv_iload S.1 S.2.1 dX3_isNeeded_20 (lv_at hl 0 rfl) ?_
          refine lv_iload_n S.1 S.2.1 dX3_isNeeded_22 rfl (lv_at hl 2 rfl) ?_
          refine lv_icmp_eq (tgt := 73) S.1 S.2.1 dX3_isNeeded_23 (by decide) (fun hc8 => ?_) (fun hc8 => ?_)
          · rw [if_pos hc8] at h
            refine lv_iconst (v := 0) S.1 S.2.1 dX3_isNeeded_73 (by decide) ?_
            refine lv_istore_n (lv' := [(2, .int 0), (4, .int (x3 / 6)), (0, .ref (ad 54)), (1, .int p1), (3, .int x3)]) S.1 S.2.1 dX3_isNeeded_74 rfl hl (by decide) rfl (fun ls hl => ?_)
            refine lv_iinc (v := (x3 + 1)) (lv' := [(3, .int (x3 + 1)), (2, .int 0), (4, .int (x3 / 6)), (0, .ref (ad 54)), (1, .int p1)]) S.1 S.2.1 dX3_isNeeded_75 hl (k := 4) rfl rfl (by decide) rfl (fun ls hl => ?_)
            refine lv_goto (tgt := 4) S.1 S.2.1 dX3_isNeeded_78 (by decide) ?_
            exact ih (0) ((x3 + 1)) ls (lv_sub hl [3, 4, 1, 0] rfl) h
          · rw [if_neg hc8] at h
            refine lv_aload_n S.1 S.2.1 dX3_isNeeded_26 rfl (lv_at hl 1 rfl) ?_
            refine r_get (C := RX3) (T := TX3) (N := 19) (ci := 3) (k := 54) (j := 2) (fs := fsX) (d := (some (some 56))) (v := .ref (ad 56)) S hK hP hn3 lk13 rfl (by decide) rfl rfl rfl dX3_isNeeded_27 ?_
            refine lv_iload S.1 S.2.1 dX3_isNeeded_30 (lv_at hl 0 rfl) ?_
            obtain ⟨hv9, hv9b, h⟩ := gi_some h
            refine r_zld (k := 56) (n := 8) S hK hP rfl hv9 dX3_isNeeded_32 ?_
            refine lv_if_eq (tgt := 73) S.1 S.2.1 dX3_isNeeded_33 (by decide) (fun hc10 => ?_) (fun hc10 => ?_)
            · rw [if_pos hc10] at h
              refine lv_iconst (v := 0) S.1 S.2.1 dX3_isNeeded_73 (by decide) ?_
              refine lv_istore_n (lv' := [(2, .int 0), (4, .int (x3 / 6)), (0, .ref (ad 54)), (1, .int p1), (3, .int x3)]) S.1 S.2.1 dX3_isNeeded_74 rfl hl (by decide) rfl (fun ls hl => ?_)
              refine lv_iinc (v := (x3 + 1)) (lv' := [(3, .int (x3 + 1)), (2, .int 0), (4, .int (x3 / 6)), (0, .ref (ad 54)), (1, .int p1)]) S.1 S.2.1 dX3_isNeeded_75 hl (k := 4) rfl rfl (by decide) rfl (fun ls hl => ?_)
              refine lv_goto (tgt := 4) S.1 S.2.1 dX3_isNeeded_78 (by decide) ?_
              exact ih (0) ((x3 + 1)) ls (lv_sub hl [3, 4, 1, 0] rfl) h
            · rw [if_neg hc10] at h
              refine lv_iload_n S.1 S.2.1 dX3_isNeeded_36 rfl (lv_at hl 4 rfl) ?_
              refine lv_bipush (v := 6) S.1 S.2.1 dX3_isNeeded_37 (by decide) ?_
              refine lv_irem S.1 S.2.1 dX3_isNeeded_39 (by decide) ?_
              refine lv_aload_n S.1 S.2.1 dX3_isNeeded_40 rfl (lv_at hl 1 rfl) ?_
              refine r_get (C := RX3) (T := TX3) (N := 19) (ci := 3) (k := 54) (j := 6) (fs := fsX) (d := (some (some 60))) (v := .ref (ad 60)) S hK hP hn3 lk26 rfl (by decide) rfl rfl rfl dX3_isNeeded_41 ?_
              refine lv_iload S.1 S.2.1 dX3_isNeeded_44 (lv_at hl 0 rfl) ?_
              obtain ⟨hv11, hv11b, h⟩ := gi_some h
              refine r_ild (k := 60) (n := 8) S hK hP rfl hv11 dX3_isNeeded_46 ?_
              refine lv_icmp_ge (tgt := 73) S.1 S.2.1 dX3_isNeeded_47 (by decide) (fun hc12 => ?_) (fun hc12 => ?_)
              · rw [if_pos hc12] at h
                refine lv_iconst (v := 0) S.1 S.2.1 dX3_isNeeded_73 (by decide) ?_
                refine lv_istore_n (lv' := [(2, .int 0), (4, .int (x3 / 6)), (0, .ref (ad 54)), (1, .int p1), (3, .int x3)]) S.1 S.2.1 dX3_isNeeded_74 rfl hl (by decide) rfl (fun ls hl => ?_)
                refine lv_iinc (v := (x3 + 1)) (lv' := [(3, .int (x3 + 1)), (2, .int 0), (4, .int (x3 / 6)), (0, .ref (ad 54)), (1, .int p1)]) S.1 S.2.1 dX3_isNeeded_75 hl (k := 4) rfl rfl (by decide) rfl (fun ls hl => ?_)
                refine lv_goto (tgt := 4) S.1 S.2.1 dX3_isNeeded_78 (by decide) ?_
                exact ih (0) ((x3 + 1)) ls (lv_sub hl [3, 4, 1, 0] rfl) h
              · rw [if_neg hc12] at h
                refine lv_aload_n S.1 S.2.1 dX3_isNeeded_50 rfl (lv_at hl 1 rfl) ?_
                refine r_get (C := RX3) (T := TX3) (N := 19) (ci := 3) (k := 54) (j := 10) (fs := fsX) (d := (some (some 64))) (v := .ref (ad 64)) S hK hP hn3 lk38 rfl (by decide) rfl rfl rfl dX3_isNeeded_51 ?_
                refine lv_iload_n S.1 S.2.1 dX3_isNeeded_54 rfl (lv_at hl 4 rfl) ?_
                obtain ⟨hv13, hv13b, h⟩ := gi_some h
                refine r_zld (k := 64) (n := 48) S hK hP rfl hv13 dX3_isNeeded_55 ?_
                refine lv_if_eq (tgt := 73) S.1 S.2.1 dX3_isNeeded_56 (by decide) (fun hc14 => ?_) (fun hc14 => ?_)
                · rw [if_pos hc14] at h
                  refine lv_iconst (v := 0) S.1 S.2.1 dX3_isNeeded_73 (by decide) ?_
                  refine lv_istore_n (lv' := [(2, .int 0), (4, .int (x3 / 6)), (0, .ref (ad 54)), (1, .int p1), (3, .int x3)]) S.1 S.2.1 dX3_isNeeded_74 rfl hl (by decide) rfl (fun ls hl => ?_)
                  refine lv_iinc (v := (x3 + 1)) (lv' := [(3, .int (x3 + 1)), (2, .int 0), (4, .int (x3 / 6)), (0, .ref (ad 54)), (1, .int p1)]) S.1 S.2.1 dX3_isNeeded_75 hl (k := 4) rfl rfl (by decide) rfl (fun ls hl => ?_)
                  refine lv_goto (tgt := 4) S.1 S.2.1 dX3_isNeeded_78 (by decide) ?_
                  exact ih (0) ((x3 + 1)) ls (lv_sub hl [3, 4, 1, 0] rfl) h
                · rw [if_neg hc14] at h
                  refine lv_aload_n S.1 S.2.1 dX3_isNeeded_59 rfl (lv_at hl 1 rfl) ?_
                  refine r_get (C := RX3) (T := TX3) (N := 19) (ci := 3) (k := 54) (j := 7) (fs := fsX) (d := (some (some 61))) (v := .ref (ad 61)) S hK hP hn3 lk29 rfl (by decide) rfl rfl rfl dX3_isNeeded_60 ?_
                  refine lv_iload_n S.1 S.2.1 dX3_isNeeded_63 rfl (lv_at hl 4 rfl) ?_
                  obtain ⟨hv15, hv15b, h⟩ := gi_some h
                  refine r_ild (k := 61) (n := 48) S hK hP rfl hv15 dX3_isNeeded_64 ?_
                  refine lv_iload_n S.1 S.2.1 dX3_isNeeded_65 rfl (lv_at hl 2 rfl) ?_
                  refine lv_icmp_ne (tgt := 73) S.1 S.2.1 dX3_isNeeded_66 (by decide) (fun hc16 => ?_) (fun hc16 => ?_)
                  · rw [if_neg hc16] at h
                    refine lv_iconst (v := 0) S.1 S.2.1 dX3_isNeeded_73 (by decide) ?_
                    refine lv_istore_n (lv' := [(2, .int 0), (4, .int (x3 / 6)), (0, .ref (ad 54)), (1, .int p1), (3, .int x3)]) S.1 S.2.1 dX3_isNeeded_74 rfl hl (by decide) rfl (fun ls hl => ?_)
                    refine lv_iinc (v := (x3 + 1)) (lv' := [(3, .int (x3 + 1)), (2, .int 0), (4, .int (x3 / 6)), (0, .ref (ad 54)), (1, .int p1)]) S.1 S.2.1 dX3_isNeeded_75 hl (k := 4) rfl rfl (by decide) rfl (fun ls hl => ?_)
                    refine lv_goto (tgt := 4) S.1 S.2.1 dX3_isNeeded_78 (by decide) ?_
                    exact ih (0) ((x3 + 1)) ls (lv_sub hl [3, 4, 1, 0] rfl) h
                  · rw [if_pos hc16] at h
                    refine lv_iconst (v := 1) S.1 S.2.1 dX3_isNeeded_69 (by decide) ?_
                    refine lv_goto (tgt := 74) S.1 S.2.1 dX3_isNeeded_70 (by decide) ?_
                    refine lv_istore_n (lv' := [(2, .int 1), (4, .int (x3 / 6)), (0, .ref (ad 54)), (1, .int p1), (3, .int x3)]) S.1 S.2.1 dX3_isNeeded_74 rfl hl (by decide) rfl (fun ls hl => ?_)
                    refine lv_iinc (v := (x3 + 1)) (lv' := [(3, .int (x3 + 1)), (2, .int 1), (4, .int (x3 / 6)), (0, .ref (ad 54)), (1, .int p1)]) S.1 S.2.1 dX3_isNeeded_75 hl (k := 4) rfl rfl (by decide) rfl (fun ls hl => ?_)
                    refine lv_goto (tgt := 4) S.1 S.2.1 dX3_isNeeded_78 (by decide) ?_
                    exact ih (1) ((x3 + 1)) ls (lv_sub hl [3, 4, 1, 0] rfl) h
  refine lv_iconst (v := 0) S.1 S.2.1 dX3_isNeeded_0 (by decide) ?_
  refine lv_istore_n (lv' := [(2, .int 0), (0, .ref (ad 54)), (1, .int p1)]) S.1 S.2.1 dX3_isNeeded_1 rfl hl (by decide) rfl (fun ls hl => ?_)
  refine lv_iconst (v := 0) S.1 S.2.1 dX3_isNeeded_2 (by decide) ?_
  refine lv_istore_n (lv' := [(3, .int 0), (2, .int 0), (0, .ref (ad 54)), (1, .int p1)]) S.1 S.2.1 dX3_isNeeded_3 rfl hl (by decide) rfl (fun ls hl => ?_)
  exact key4 200 (0) (0) ls (lv_sub hl [2, 3, 1, 0] rfl) h

def m_X3_unload_68 (k41 : Mem → Int32 → Int32 → Option (Mem × Int32)) (p1 : Int32) (g : Mem) (x2 x3 s0 : Int32) : Option (Mem × Int32) := gi x3 192 (k41 ((mup g 59 (x3).toNatClampNeg (-1))) (s0) ((x3 + 1)))
def m_X3_unload_41 (p1 : Int32) : Nat → Mem → Int32 → Int32 → Option (Mem × Int32)
  | 0, _, _, _ => none
  | n + 1, g, x2, x3 => (if ((24 * p1) + 24) ≤ x3 then gi p1 8 (some ((mup (mup g 54 11 ((g 54 11) - x2)) 56 (p1).toNatClampNeg (vp_nar .boolean 0)), x2)) else gi x3 192 ((if (g 59 (x3).toNatClampNeg) < 0 then m_X3_unload_68 (fun gy yx2 yx3 => m_X3_unload_41 p1 n gy yx2 yx3) p1 (g) (x2) (x3) (x2) else m_X3_unload_68 (fun gy yx2 yx3 => m_X3_unload_41 p1 n gy yx2 yx3) p1 (g) (x2) (x3) ((x2 + 1)))))
def m_X3_unload_26 (p1 : Int32) (g : Mem) (s0 : Int32) : Option (Mem × Int32) := (m_X3_throwsBy g s0).bind fun qr6 => (if qr6.2 = 0 then m_X3_unload_41 p1 200 (qr6.1) (0) ((24 * p1)) else some (qr6.1, 0))
def m_X3_unload (g : Mem) (p1 : Int32) : Option (Mem × Int32) := (m_X3_isLoaded g p1).bind fun r10 => (if r10 = 0 then m_X3_unload_26 p1 (g) (1) else (m_X3_isNeeded g p1).bind fun r13 => (if r13 = 0 then m_X3_unload_26 p1 (g) (0) else m_X3_unload_26 p1 (g) (2)))
def rm_X3_unload : Room := { frames := 3, cells := 0, slots := 0, locals := 63 }
set_option maxRecDepth 100000 in
set_option maxHeartbeats 4000000 in
theorem c_X3_unload {l : Launch} {D : va_G} {cA : Nat → ClassId} {ad : Nat → Nat} {lo : Nat} (hA : AdOk lo ad lay0.length) {g : Mem} {p1 : Int32} {g1 : Mem} {r : Int32} (h : m_X3_unload g p1 = some (g1, r)) : Met l yX3_unload wsX3_unload rm_X3_unload (Pw [.ref (ad 54), .int p1] D cA ad lo g) (Qw D cA ad lo g1 (some r)) 0 0 (fun q => lo ≤ q) := by
  refine startW (cc := cX3_unload) (maxL := 4) (ret := (some .int)) (by decide) rfl (Nat.le_of_ble_eq_true rfl) ?_
  intro p e s m args below meth c ls S hr hlocks hB hl
  obtain ⟨hlo, hP, hK, hN⟩ := hB
  have hS : va_S (fun q => lo ≤ q) s.heap s.heap [] := va_S.rf
  unfold m_X3_unload at h
  have S : CallFix p m c cX3_unload 4 s args wsX3_unload RX3 := S
  have hl : lv_has ls 4 [(0, .ref (ad 54)), (1, .int p1)] := hl
  have hn3 : ∀ w ∈ wsX30, w ∈ wsX3_unload := by decide +kernel
  have lk13 := S.2.2.2.2 (.fieldLink RX3 13 "FlatLoaderModel" "loaded" "[Z") (by decide +kernel)
  have lk23 := S.2.2.2.2 (.fieldLink RX3 23 "FlatLoaderModel" "extended" "[I") (by decide +kernel)
  have lk86 := S.2.2.2.2 (.fieldLink RX3 86 "FlatLoaderModel" "classes" "I") (by decide +kernel)
  obtain ⟨H, hH⟩ : ∃ H, H = s.heap := ⟨_, rfl⟩
  obtain ⟨locs, hlocs⟩ : ∃ z : List Loc, z = [] := ⟨_, rfl⟩
  have key68 : ∀ (k41 : Mem → Int32 → Int32 → Option (Mem × Int32)), (∀ (g : Mem) (H : Heap) (locs : List Loc), va_P D vwCl (wld cA ad g lay0) H → va_S (fun q => lo ≤ q) s.heap H locs → ∀ (x2 x3 : Int32), ∀ (ls : Array Slot), lv_has ls 4 [(0, .ref (ad 54)), (1, .int p1), (2, .int x2), (3, .int x3)] → k41 g x2 x3 = some (g1, r) → W p l e (rm_X3_unload) s m args below meth c H locs 0 0 (MQ below (Qw D cA ad lo g1 (some r)) args s 0 0 (fun q => lo ≤ q)) (F0 m 41 ls [])) → ∀ (g : Mem) (H : Heap) (locs : List Loc), va_P D vwCl (wld cA ad g lay0) H → va_S (fun q => lo ≤ q) s.heap H locs → ∀ (x2 x3 s0 : Int32), ∀ (ls : Array Slot), lv_has ls 4 [(0, .ref (ad 54)), (1, .int p1), (2, .int x2), (3, .int x3)] → m_X3_unload_68 k41 p1 g x2 x3 s0 = some (g1, r) → W p l e (rm_X3_unload) s m args below meth c H locs 0 0 (MQ below (Qw D cA ad lo g1 (some r)) args s 0 0 (fun q => lo ≤ q)) (F0 m 68 ls [.int s0]) := by
    intro k41 hk41
    intro g H locs hP hS x2 x3 s0 ls hl h
    unfold m_X3_unload_68 at h
    refine lv_istore_n (lv' := [(2, .int s0), (0, .ref (ad 54)), (1, .int p1), (3, .int x3)]) S.1 S.2.1 dX3_unload_68 rfl hl (by decide) rfl (fun ls hl => ?_)
    refine lv_aload_n S.1 S.2.1 dX3_unload_69 rfl (lv_at hl 1 rfl) ?_
    refine r_get (C := RX3) (T := TX3) (N := 19) (ci := 3) (k := 54) (j := 5) (fs := fsX) (d := (some (some 59))) (v := .ref (ad 59)) S hK hP hn3 lk23 rfl (by decide) rfl rfl rfl dX3_unload_70 ?_
    refine lv_iload_n S.1 S.2.1 dX3_unload_73 rfl (lv_at hl 3 rfl) ?_
    refine lv_iconst (v := (-1)) S.1 S.2.1 dX3_unload_74 (by decide) ?_
    obtain ⟨hv1, hv1b, h⟩ := gi_some h
    refine r_ist (k := 59) (n := 192) S hA hK hP hS rfl hv1 dX3_unload_75 (fun H locs hP hS => ?_)
    refine lv_iinc (v := (x3 + 1)) (lv' := [(3, .int (x3 + 1)), (2, .int s0), (0, .ref (ad 54)), (1, .int p1)]) S.1 S.2.1 dX3_unload_76 hl (k := 3) rfl rfl (by decide) rfl (fun ls hl => ?_)
    refine lv_goto (tgt := 41) S.1 S.2.1 dX3_unload_79 (by decide) ?_
    exact hk41 ((mup g 59 (x3).toNatClampNeg (-1))) H locs hP hS (s0) ((x3 + 1)) ls (lv_sub hl [2, 3, 1, 0] rfl) h
  have key41 : ∀ (n : Nat), ∀ (g : Mem) (H : Heap) (locs : List Loc), va_P D vwCl (wld cA ad g lay0) H → va_S (fun q => lo ≤ q) s.heap H locs → ∀ (x2 x3 : Int32), ∀ (ls : Array Slot), lv_has ls 4 [(0, .ref (ad 54)), (1, .int p1), (2, .int x2), (3, .int x3)] → m_X3_unload_41 p1 n g x2 x3 = some (g1, r) → W p l e (rm_X3_unload) s m args below meth c H locs 0 0 (MQ below (Qw D cA ad lo g1 (some r)) args s 0 0 (fun q => lo ≤ q)) (F0 m 41 ls []) := by
    intro n
    induction n with
    | zero =>
      intro g H locs hP hS x2 x3 ls hl h
      exact nomatch (show none = some (g1, r) from h)
    | succ n ih =>
      intro g H locs hP hS x2 x3 ls hl h
      rw [m_X3_unload_41] at h
      refine lv_iload_n S.1 S.2.1 dX3_unload_41 rfl (lv_at hl 3 rfl) ?_
      refine lv_bipush (v := 24) S.1 S.2.1 dX3_unload_42 (by decide) ?_
      refine lv_iload_n S.1 S.2.1 dX3_unload_44 rfl (lv_at hl 1 rfl) ?_
      refine lv_imul S.1 S.2.1 dX3_unload_45 ?_
      refine lv_bipush (v := 24) S.1 S.2.1 dX3_unload_46 (by decide) ?_
      refine lv_iadd S.1 S.2.1 dX3_unload_48 ?_
      refine lv_icmp_ge (tgt := 82) S.1 S.2.1 dX3_unload_49 (by decide) (fun hc2 => ?_) (fun hc2 => ?_)
      · rw [if_pos hc2] at h
        refine lv_aload_n S.1 S.2.1 dX3_unload_82 rfl (lv_at hl 0 rfl) ?_
        refine lv_aload_n S.1 S.2.1 dX3_unload_83 rfl (lv_at hl 0 rfl) ?_
        refine r_get (C := RX3) (T := TX3) (N := 19) (ci := 3) (k := 54) (j := 11) (fs := fsX) (d := none) (v := .int (g 54 11)) S hK hP hn3 lk86 rfl (by decide) rfl rfl rfl dX3_unload_84 ?_
        refine lv_iload_n S.1 S.2.1 dX3_unload_87 rfl (lv_at hl 2 rfl) ?_
        refine lv_isub S.1 S.2.1 dX3_unload_88 ?_
        refine r_put (C := RX3) (T := TX3) (N := 19) (ci := 3) (k := 54) (j := 11) (fs := fsX) (v := ((g 54 11) - x2)) tyX3 tyX3_ok nmX3 S hA hK hP hS hn3 lk86 rfl (by decide) rfl (by decide +kernel) rfl rfl dX3_unload_89 (fun H locs hP hS => ?_)
        refine lv_aload_n S.1 S.2.1 dX3_unload_92 rfl (lv_at hl 0 rfl) ?_
        refine r_get (C := RX3) (T := TX3) (N := 19) (ci := 3) (k := 54) (j := 2) (fs := fsX) (d := (some (some 56))) (v := .ref (ad 56)) S hK hP hn3 lk13 rfl (by decide) rfl rfl rfl dX3_unload_93 ?_
        refine lv_iload_n S.1 S.2.1 dX3_unload_96 rfl (lv_at hl 1 rfl) ?_
        refine lv_iconst (v := 0) S.1 S.2.1 dX3_unload_97 (by decide) ?_
        obtain ⟨hv3, hv3b, h⟩ := gi_some h
        refine r_zst (k := 56) (n := 8) S hA hK hP hS rfl hv3 dX3_unload_98 (fun H locs hP hS => ?_)
        refine lv_iload_n S.1 S.2.1 dX3_unload_99 rfl (lv_at hl 2 rfl) ?_
        exact e_W S hr hlocks hP hS (Option.some.inj h) dX3_unload_100
      · rw [if_neg hc2] at h
        refine lv_aload_n S.1 S.2.1 dX3_unload_52 rfl (lv_at hl 0 rfl) ?_
        refine r_get (C := RX3) (T := TX3) (N := 19) (ci := 3) (k := 54) (j := 5) (fs := fsX) (d := (some (some 59))) (v := .ref (ad 59)) S hK hP hn3 lk23 rfl (by decide) rfl rfl rfl dX3_unload_53 ?_
        refine lv_iload_n S.1 S.2.1 dX3_unload_56 rfl (lv_at hl 3 rfl) ?_
        obtain ⟨hv4, hv4b, h⟩ := gi_some h
        refine r_ild (k := 59) (n := 192) S hK hP rfl hv4 dX3_unload_57 ?_
        refine lv_if_lt (tgt := 67) S.1 S.2.1 dX3_unload_58 (by decide) (fun hc5 => ?_) (fun hc5 => ?_)
        · rw [if_pos hc5] at h
          refine lv_iload_n S.1 S.2.1 dX3_unload_67 rfl (lv_at hl 2 rfl) ?_
          exact key68 _ ih (g) H locs hP hS (x2) (x3) (x2) ls (lv_sub hl [0, 1, 2, 3] rfl) h
        · rw [if_neg hc5] at h
          refine lv_iload_n S.1 S.2.1 dX3_unload_61 rfl (lv_at hl 2 rfl) ?_
          refine lv_iconst (v := 1) S.1 S.2.1 dX3_unload_62 (by decide) ?_
          refine lv_iadd S.1 S.2.1 dX3_unload_63 ?_
          refine lv_goto (tgt := 68) S.1 S.2.1 dX3_unload_64 (by decide) ?_
          exact key68 _ ih (g) H locs hP hS (x2) (x3) ((x2 + 1)) ls (lv_sub hl [0, 1, 2, 3] rfl) h
  have key26 : ∀ (g : Mem) (H : Heap) (locs : List Loc), va_P D vwCl (wld cA ad g lay0) H → va_S (fun q => lo ≤ q) s.heap H locs → ∀ (s0 : Int32), ∀ (ls : Array Slot), lv_has ls 4 [(0, .ref (ad 54)), (1, .int p1)] → m_X3_unload_26 p1 g s0 = some (g1, r) → W p l e (rm_X3_unload) s m args below meth c H locs 0 0 (MQ below (Qw D cA ad lo g1 (some r)) args s 0 0 (fun q => lo ≤ q)) (F0 m 26 ls [.int s0, .ref (ad 54)]) := by
    intro g H locs hP hS s0 ls hl h
    unfold m_X3_unload_26 at h
    obtain ⟨⟨g_8, r6⟩, h_7, h⟩ := bd_some h
    dsimp only at h
    refine k_Wi (va_runV (As := [.int s0]) (rest := []) S (c_X3_throwsBy hA h_7) (cwV 1 S.2.2.2.2 gX3_unload_X3_throwsBy rfl rfl rfl (by decide +kernel) ⟨Nat.le_of_ble_eq_true rfl, Nat.le_of_ble_eq_true rfl⟩) ⟨Pw_blind, va_recv hK hP (ci := 3) (q0 := 54) rfl (wld_at (d := dX) rfl), Pw_at hlo hS hP hK hN⟩ rfl rfl hl.1 rfl (lv_room (Nat.le_of_ble_eq_true rfl)) dX3_unload_26 ⟨Nat.zero_le _, Nat.zero_le _⟩) hS (fun H locs hP hS => ?_)
    refine lv_if_eq (tgt := 34) S.1 S.2.1 dX3_unload_29 (by decide) (fun hc9 => ?_) (fun hc9 => ?_)
    · rw [if_pos hc9] at h
      refine lv_iconst (v := 0) S.1 S.2.1 dX3_unload_34 (by decide) ?_
      refine lv_istore_n (lv' := [(2, .int 0), (0, .ref (ad 54)), (1, .int p1)]) S.1 S.2.1 dX3_unload_35 rfl hl (by decide) rfl (fun ls hl => ?_)
      refine lv_bipush (v := 24) S.1 S.2.1 dX3_unload_36 (by decide) ?_
      refine lv_iload_n S.1 S.2.1 dX3_unload_38 rfl (lv_at hl 2 rfl) ?_
      refine lv_imul S.1 S.2.1 dX3_unload_39 ?_
      refine lv_istore_n (lv' := [(3, .int (24 * p1)), (2, .int 0), (0, .ref (ad 54)), (1, .int p1)]) S.1 S.2.1 dX3_unload_40 rfl hl (by decide) rfl (fun ls hl => ?_)
      exact key41 200 (g_8) H locs hP hS (0) ((24 * p1)) ls (lv_sub hl [2, 3, 1, 0] rfl) h
    · rw [if_neg hc9] at h
      refine lv_iconst (v := 0) S.1 S.2.1 dX3_unload_32 (by decide) ?_
      exact e_W S hr hlocks hP hS (Option.some.inj h) dX3_unload_33
  rw [← hH] at hP
  have hS : va_S (fun q => lo ≤ q) s.heap H locs := by rw [hH, hlocs]; exact hS
  have goal0 : W p l e (rm_X3_unload) s m args below meth c H locs 0 0 (MQ below (Qw D cA ad lo g1 (some r)) args s 0 0 (fun q => lo ≤ q)) (F0 m 0 ls []) := by
    refine lv_aload_n S.1 S.2.1 dX3_unload_0 rfl (lv_at hl 0 rfl) ?_
    refine lv_aload_n S.1 S.2.1 dX3_unload_1 rfl (lv_at hl 0 rfl) ?_
    refine lv_iload_n S.1 S.2.1 dX3_unload_2 rfl (lv_at hl 1 rfl) ?_
    obtain ⟨r10, h_11, h⟩ := bd_some h
    refine k_R (r := r10) (va_runV (As := [.int p1]) (rest := [.ref (ad 54)]) S (c_X3_isLoaded h_11) (cwV 1 S.2.2.2.2 gX3_unload_X3_isLoaded rfl rfl rfl (by decide +kernel) ⟨Nat.le_of_ble_eq_true rfl, Nat.le_of_ble_eq_true rfl⟩) ⟨Pw_blind, va_recv hK hP (ci := 3) (q0 := 54) rfl (wld_at (d := dX) rfl), Pw_at hlo hS hP hK hN⟩ rfl rfl hl.1 rfl (lv_room (Nat.le_of_ble_eq_true rfl)) dX3_unload_3 ⟨Nat.zero_le _, Nat.zero_le _⟩) ?_
    refine lv_if_ne (tgt := 13) S.1 S.2.1 dX3_unload_6 (by decide) (fun hc12 => ?_) (fun hc12 => ?_)
    · rw [if_neg hc12] at h
      refine lv_aload_n S.1 S.2.1 dX3_unload_13 rfl (lv_at hl 0 rfl) ?_
      refine lv_iload_n S.1 S.2.1 dX3_unload_14 rfl (lv_at hl 1 rfl) ?_
      obtain ⟨r13, h_14, h⟩ := bd_some h
      refine k_R (r := r13) (va_runV (As := [.int p1]) (rest := [.ref (ad 54)]) S (c_X3_isNeeded h_14) (cwV 1 S.2.2.2.2 gX3_unload_X3_isNeeded rfl rfl rfl (by decide +kernel) ⟨Nat.le_of_ble_eq_true rfl, Nat.le_of_ble_eq_true rfl⟩) ⟨Pw_blind, va_recv hK hP (ci := 3) (q0 := 54) rfl (wld_at (d := dX) rfl), Pw_at hlo hS hP hK hN⟩ rfl rfl hl.1 rfl (lv_room (Nat.le_of_ble_eq_true rfl)) dX3_unload_15 ⟨Nat.zero_le _, Nat.zero_le _⟩) ?_
      refine lv_if_eq (tgt := 25) S.1 S.2.1 dX3_unload_18 (by decide) (fun hc15 => ?_) (fun hc15 => ?_)
      · rw [if_pos hc15] at h
        refine lv_iconst (v := 0) S.1 S.2.1 dX3_unload_25 (by decide) ?_
        exact key26 (g) H locs hP hS (0) ls (lv_sub hl [0, 1] rfl) h
      · rw [if_neg hc15] at h
        refine lv_iconst (v := 2) S.1 S.2.1 dX3_unload_21 (by decide) ?_
        refine lv_goto (tgt := 26) S.1 S.2.1 dX3_unload_22 (by decide) ?_
        exact key26 (g) H locs hP hS (2) ls (lv_sub hl [0, 1] rfl) h
    · rw [if_pos hc12] at h
      refine lv_iconst (v := 1) S.1 S.2.1 dX3_unload_9 (by decide) ?_
      refine lv_goto (tgt := 26) S.1 S.2.1 dX3_unload_10 (by decide) ?_
      exact key26 (g) H locs hP hS (1) ls (lv_sub hl [0, 1] rfl) h
  rw [hH, hlocs] at goal0
  exact goal0

def m_X3_hasPath_12 (g : Mem) (p1 p2 : Int32) : Nat → Int32 → Int32 → Option Int32
  | 0, _, _ => none
  | n + 1, x3, x4 => (if (((24 * p1) + (4 * p2)) + 4) ≤ x4 then gz x3 (some x3) else (if x3 = 0 then gi x4 192 ((if (g 58 (x4).toNatClampNeg) = (-3) then m_X3_hasPath_12 g p1 p2 n (0) ((x4 + 1)) else m_X3_hasPath_12 g p1 p2 n (1) ((x4 + 1)))) else m_X3_hasPath_12 g p1 p2 n (1) ((x4 + 1))))
def m_X3_hasPath (g : Mem) (p1 p2 : Int32) : Option Int32 := m_X3_hasPath_12 g p1 p2 200 (0) (((24 * p1) + (4 * p2)))
def rm_X3_hasPath : Room := { frames := 0, cells := 0, slots := 0, locals := 0 }
set_option maxRecDepth 100000 in
set_option maxHeartbeats 4000000 in
theorem c_X3_hasPath {l : Launch} {D : va_G} {cA : Nat → ClassId} {ad : Nat → Nat} {lo : Nat} {g : Mem} {p1 p2 : Int32} {r : Int32} (h : m_X3_hasPath g p1 p2 = some r) : Met l yX3_hasPath wsX3_hasPath rm_X3_hasPath (Pw [.ref (ad 54), .int p1, .int p2] D cA ad lo g) (Qr r) 0 0 (fun _ => False) := by
  refine startW (cc := cX3_hasPath) (maxL := 5) (ret := (some .boolean)) (by decide) rfl (Nat.le_of_ble_eq_true rfl) ?_
  intro p e s m args below meth c ls S hr hlocks hB hl
  obtain ⟨hlo, hP, hK, hN⟩ := hB
  have hS : va_S (fun q => lo ≤ q) s.heap s.heap [] := va_S.rf
  unfold m_X3_hasPath at h
  have S : CallFix p m c cX3_hasPath 5 s args wsX3_hasPath RX3 := S
  have hl : lv_has ls 5 [(0, .ref (ad 54)), (1, .int p1), (2, .int p2)] := hl
  have hn3 : ∀ w ∈ wsX30, w ∈ wsX3_hasPath := by decide +kernel
  have lk19 := S.2.2.2.2 (.fieldLink RX3 19 "FlatLoaderModel" "files" "[I") (by decide +kernel)
  have key12 : ∀ (n : Nat), ∀ (x3 x4 : Int32), ∀ (ls : Array Slot), lv_has ls 5 [(0, .ref (ad 54)), (1, .int p1), (2, .int p2), (3, .int x3), (4, .int x4)] → m_X3_hasPath_12 g p1 p2 n x3 x4 = some r → W p l e (rm_X3_hasPath) s m args below meth c s.heap [] 0 0 (MQ below (Qr r) args s 0 0 (fun _ => False)) (F0 m 12 ls []) := by
    intro n
    induction n with
    | zero =>
      intro x3 x4 ls hl h
      exact nomatch (show none = some r from h)
    | succ n ih =>
      intro x3 x4 ls hl h
      rw [m_X3_hasPath_12] at h
      refine lv_iload S.1 S.2.1 dX3_hasPath_12 (lv_at hl 4 rfl) ?_
      refine lv_bipush (v := 24) S.1 S.2.1 dX3_hasPath_14 (by decide) ?_
      refine lv_iload_n S.1 S.2.1 dX3_hasPath_16 rfl (lv_at hl 1 rfl) ?_
      refine lv_imul S.1 S.2.1 dX3_hasPath_17 ?_
      refine lv_iconst (v := 4) S.1 S.2.1 dX3_hasPath_18 (by decide) ?_
      refine lv_iload_n S.1 S.2.1 dX3_hasPath_19 rfl (lv_at hl 2 rfl) ?_
      refine lv_imul S.1 S.2.1 dX3_hasPath_20 ?_
      refine lv_iadd S.1 S.2.1 dX3_hasPath_21 ?_
      refine lv_iconst (v := 4) S.1 S.2.1 dX3_hasPath_22 (by decide) ?_
      refine lv_iadd S.1 S.2.1 dX3_hasPath_23 ?_
      refine lv_icmp_ge (tgt := 55) S.1 S.2.1 dX3_hasPath_24 (by decide) (fun hc1 => ?_) (fun hc1 => ?_)
      · rw [if_pos hc1] at h
        refine lv_iload_n S.1 S.2.1 dX3_hasPath_55 rfl (lv_at hl 3 rfl) ?_
        obtain ⟨hz, h⟩ := gz_some h
        exact e_Rz S hr hlocks hz (Option.some.inj h) dX3_hasPath_56
      · rw [if_neg hc1] at h
        refine lv_iload_n S.1 S.2.1 dX3_hasPath_27 rfl (lv_at hl 3 rfl) ?_
        refine lv_if_ne (tgt := 43) S.1 S.2.1 dX3_hasPath_28 (by decide) (fun hc2 => ?_) (fun hc2 => ?_)
        · rw [if_neg hc2] at h
          refine lv_iconst (v := 1) S.1 S.2.1 dX3_hasPath_43 (by decide) ?_
          refine lv_goto (tgt := 48) S.1 S.2.1 dX3_hasPath_44 (by decide) ?_
          refine lv_istore_n (lv' := [(3, .int 1), (0, .ref (ad 54)), (1, .int p1), (2, .int p2), (4, .int x4)]) S.1 S.2.1 dX3_hasPath_48 rfl hl (by decide) rfl (fun ls hl => ?_)
          refine lv_iinc (v := (x4 + 1)) (lv' := [(4, .int (x4 + 1)), (3, .int 1), (0, .ref (ad 54)), (1, .int p1), (2, .int p2)]) S.1 S.2.1 dX3_hasPath_49 hl (k := 4) rfl rfl (by decide) rfl (fun ls hl => ?_)
          refine lv_goto (tgt := 12) S.1 S.2.1 dX3_hasPath_52 (by decide) ?_
          exact ih (1) ((x4 + 1)) ls (lv_sub hl [2, 3, 4, 1, 0] rfl) h
        · rw [if_pos hc2] at h
          refine lv_aload_n S.1 S.2.1 dX3_hasPath_31 rfl (lv_at hl 0 rfl) ?_
          refine r_get (C := RX3) (T := TX3) (N := 19) (ci := 3) (k := 54) (j := 4) (fs := fsX) (d := (some (some 58))) (v := .ref (ad 58)) S hK hP hn3 lk19 rfl (by decide) rfl rfl rfl dX3_hasPath_32 ?_
          refine lv_iload S.1 S.2.1 dX3_hasPath_35 (lv_at hl 4 rfl) ?_
          obtain ⟨hv3, hv3b, h⟩ := gi_some h
          refine r_ild (k := 58) (n := 192) S hK hP rfl hv3 dX3_hasPath_37 ?_
          refine lv_bipush (v := (-3)) S.1 S.2.1 dX3_hasPath_38 (by decide) ?_
          refine lv_icmp_eq (tgt := 47) S.1 S.2.1 dX3_hasPath_40 (by decide) (fun hc4 => ?_) (fun hc4 => ?_)
          · rw [if_pos hc4] at h
            refine lv_iconst (v := 0) S.1 S.2.1 dX3_hasPath_47 (by decide) ?_
            refine lv_istore_n (lv' := [(3, .int 0), (0, .ref (ad 54)), (1, .int p1), (2, .int p2), (4, .int x4)]) S.1 S.2.1 dX3_hasPath_48 rfl hl (by decide) rfl (fun ls hl => ?_)
            refine lv_iinc (v := (x4 + 1)) (lv' := [(4, .int (x4 + 1)), (3, .int 0), (0, .ref (ad 54)), (1, .int p1), (2, .int p2)]) S.1 S.2.1 dX3_hasPath_49 hl (k := 4) rfl rfl (by decide) rfl (fun ls hl => ?_)
            refine lv_goto (tgt := 12) S.1 S.2.1 dX3_hasPath_52 (by decide) ?_
            exact ih (0) ((x4 + 1)) ls (lv_sub hl [2, 3, 4, 1, 0] rfl) h
          · rw [if_neg hc4] at h
            refine lv_iconst (v := 1) S.1 S.2.1 dX3_hasPath_43 (by decide) ?_
            refine lv_goto (tgt := 48) S.1 S.2.1 dX3_hasPath_44 (by decide) ?_
            refine lv_istore_n (lv' := [(3, .int 1), (0, .ref (ad 54)), (1, .int p1), (2, .int p2), (4, .int x4)]) S.1 S.2.1 dX3_hasPath_48 rfl hl (by decide) rfl (fun ls hl => ?_)
            refine lv_iinc (v := (x4 + 1)) (lv' := [(4, .int (x4 + 1)), (3, .int 1), (0, .ref (ad 54)), (1, .int p1), (2, .int p2)]) S.1 S.2.1 dX3_hasPath_49 hl (k := 4) rfl rfl (by decide) rfl (fun ls hl => ?_)
            refine lv_goto (tgt := 12) S.1 S.2.1 dX3_hasPath_52 (by decide) ?_
            exact ih (1) ((x4 + 1)) ls (lv_sub hl [2, 3, 4, 1, 0] rfl) h
  refine lv_iconst (v := 0) S.1 S.2.1 dX3_hasPath_0 (by decide) ?_
  refine lv_istore_n (lv' := [(3, .int 0), (0, .ref (ad 54)), (1, .int p1), (2, .int p2)]) S.1 S.2.1 dX3_hasPath_1 rfl hl (by decide) rfl (fun ls hl => ?_)
  refine lv_bipush (v := 24) S.1 S.2.1 dX3_hasPath_2 (by decide) ?_
  refine lv_iload_n S.1 S.2.1 dX3_hasPath_4 rfl (lv_at hl 2 rfl) ?_
  refine lv_imul S.1 S.2.1 dX3_hasPath_5 ?_
  refine lv_iconst (v := 4) S.1 S.2.1 dX3_hasPath_6 (by decide) ?_
  refine lv_iload_n S.1 S.2.1 dX3_hasPath_7 rfl (lv_at hl 3 rfl) ?_
  refine lv_imul S.1 S.2.1 dX3_hasPath_8 ?_
  refine lv_iadd S.1 S.2.1 dX3_hasPath_9 ?_
  refine lv_istore (lv' := [(4, .int ((24 * p1) + (4 * p2))), (3, .int 0), (0, .ref (ad 54)), (1, .int p1), (2, .int p2)]) S.1 S.2.1 dX3_hasPath_10 hl (by decide) rfl (fun ls hl => ?_)
  exact key12 200 (0) (((24 * p1) + (4 * p2))) ls (lv_sub hl [2, 3, 4, 1, 0] rfl) h

def m_X3_append_4 (p1 : Int32) : Nat → Mem → Int32 → Int32 → Option Mem
  | 0, _, _, _ => none
  | n + 1, g, x2, x3 => (if (g 54 12) ≤ x3 then (if x2 = 0 then gi (g 54 12) 8 (some (mup (mup g 65 ((g 54 12)).toNatClampNeg p1) 54 12 (((mup g 65 ((g 54 12)).toNatClampNeg p1) 54 12) + 1))) else some g) else (if x2 = 0 then gi x3 8 ((if (g 65 (x3).toNatClampNeg) = p1 then m_X3_append_4 p1 n (g) (1) ((x3 + 1)) else m_X3_append_4 p1 n (g) (0) ((x3 + 1)))) else m_X3_append_4 p1 n (g) (1) ((x3 + 1))))
def m_X3_append (g : Mem) (p1 : Int32) : Option Mem := m_X3_append_4 p1 200 (g) (0) (0)
def rm_X3_append : Room := { frames := 0, cells := 0, slots := 0, locals := 0 }
set_option maxRecDepth 100000 in
set_option maxHeartbeats 4000000 in
theorem c_X3_append {l : Launch} {D : va_G} {cA : Nat → ClassId} {ad : Nat → Nat} {lo : Nat} (hA : AdOk lo ad lay0.length) {g : Mem} {p1 : Int32} {g1 : Mem} (h : m_X3_append g p1 = some g1) : Met l yX3_append wsX3_append rm_X3_append (Pw [.ref (ad 54), .int p1] D cA ad lo g) (Qw D cA ad lo g1 none) 0 0 (fun q => lo ≤ q) := by
  refine startW (cc := cX3_append) (maxL := 4) (ret := none) (by decide) rfl (Nat.le_of_ble_eq_true rfl) ?_
  intro p e s m args below meth c ls S hr hlocks hB hl
  obtain ⟨hlo, hP, hK, hN⟩ := hB
  have hS : va_S (fun q => lo ≤ q) s.heap s.heap [] := va_S.rf
  unfold m_X3_append at h
  have S : CallFix p m c cX3_append 4 s args wsX3_append RX3 := S
  have hl : lv_has ls 4 [(0, .ref (ad 54)), (1, .int p1)] := hl
  have hn3 : ∀ w ∈ wsX30, w ∈ wsX3_append := by decide +kernel
  have lk41 := S.2.2.2.2 (.fieldLink RX3 41 "FlatLoaderModel" "row" "[I") (by decide +kernel)
  have lk89 := S.2.2.2.2 (.fieldLink RX3 89 "FlatLoaderModel" "size" "I") (by decide +kernel)
  obtain ⟨H, hH⟩ : ∃ H, H = s.heap := ⟨_, rfl⟩
  obtain ⟨locs, hlocs⟩ : ∃ z : List Loc, z = [] := ⟨_, rfl⟩
  have key4 : ∀ (n : Nat), ∀ (g : Mem) (H : Heap) (locs : List Loc), va_P D vwCl (wld cA ad g lay0) H → va_S (fun q => lo ≤ q) s.heap H locs → ∀ (x2 x3 : Int32), ∀ (ls : Array Slot), lv_has ls 4 [(0, .ref (ad 54)), (1, .int p1), (2, .int x2), (3, .int x3)] → m_X3_append_4 p1 n g x2 x3 = some g1 → W p l e (rm_X3_append) s m args below meth c H locs 0 0 (MQ below (Qw D cA ad lo g1 none) args s 0 0 (fun q => lo ≤ q)) (F0 m 4 ls []) := by
    intro n
    induction n with
    | zero =>
      intro g H locs hP hS x2 x3 ls hl h
      exact nomatch (show none = some g1 from h)
    | succ n ih =>
      intro g H locs hP hS x2 x3 ls hl h
      rw [m_X3_append_4] at h
      refine lv_iload_n S.1 S.2.1 dX3_append_4 rfl (lv_at hl 3 rfl) ?_
      refine lv_aload_n S.1 S.2.1 dX3_append_5 rfl (lv_at hl 0 rfl) ?_
      refine r_get (C := RX3) (T := TX3) (N := 19) (ci := 3) (k := 54) (j := 12) (fs := fsX) (d := none) (v := .int (g 54 12)) S hK hP hn3 lk89 rfl (by decide) rfl rfl rfl dX3_append_6 ?_
      refine lv_icmp_ge (tgt := 38) S.1 S.2.1 dX3_append_9 (by decide) (fun hc1 => ?_) (fun hc1 => ?_)
      · rw [if_pos hc1] at h
        refine lv_iload_n S.1 S.2.1 dX3_append_38 rfl (lv_at hl 2 rfl) ?_
        refine lv_if_eq (tgt := 43) S.1 S.2.1 dX3_append_39 (by decide) (fun hc2 => ?_) (fun hc2 => ?_)
        · rw [if_pos hc2] at h
          refine lv_aload_n S.1 S.2.1 dX3_append_43 rfl (lv_at hl 0 rfl) ?_
          refine r_get (C := RX3) (T := TX3) (N := 19) (ci := 3) (k := 54) (j := 13) (fs := fsX) (d := (some (some 65))) (v := .ref (ad 65)) S hK hP hn3 lk41 rfl (by decide) rfl rfl rfl dX3_append_44 ?_
          refine lv_aload_n S.1 S.2.1 dX3_append_47 rfl (lv_at hl 0 rfl) ?_
          refine r_get (C := RX3) (T := TX3) (N := 19) (ci := 3) (k := 54) (j := 12) (fs := fsX) (d := none) (v := .int (g 54 12)) S hK hP hn3 lk89 rfl (by decide) rfl rfl rfl dX3_append_48 ?_
          refine lv_iload_n S.1 S.2.1 dX3_append_51 rfl (lv_at hl 1 rfl) ?_
          obtain ⟨hv3, hv3b, h⟩ := gi_some h
          refine r_ist (k := 65) (n := 8) S hA hK hP hS rfl hv3 dX3_append_52 (fun H locs hP hS => ?_)
          refine lv_aload_n S.1 S.2.1 dX3_append_53 rfl (lv_at hl 0 rfl) ?_
          refine lv_aload_n S.1 S.2.1 dX3_append_54 rfl (lv_at hl 0 rfl) ?_
          refine r_get (C := RX3) (T := TX3) (N := 19) (ci := 3) (k := 54) (j := 12) (fs := fsX) (d := none) (v := .int ((mup g 65 ((g 54 12)).toNatClampNeg p1) 54 12)) S hK hP hn3 lk89 rfl (by decide) rfl rfl rfl dX3_append_55 ?_
          refine lv_iconst (v := 1) S.1 S.2.1 dX3_append_58 (by decide) ?_
          refine lv_iadd S.1 S.2.1 dX3_append_59 ?_
          refine r_put (C := RX3) (T := TX3) (N := 19) (ci := 3) (k := 54) (j := 12) (fs := fsX) (v := (((mup g 65 ((g 54 12)).toNatClampNeg p1) 54 12) + 1)) tyX3 tyX3_ok nmX3 S hA hK hP hS hn3 lk89 rfl (by decide) rfl (by decide +kernel) rfl rfl dX3_append_60 (fun H locs hP hS => ?_)
          exact e_Wv S hr hlocks hP hS (Option.some.inj h) dX3_append_63
        · rw [if_neg hc2] at h
          exact e_Wv S hr hlocks hP hS (Option.some.inj h) dX3_append_42
      · rw [if_neg hc1] at h
        refine lv_iload_n S.1 S.2.1 dX3_append_12 rfl (lv_at hl 2 rfl) ?_
        refine lv_if_ne (tgt := 26) S.1 S.2.1 dX3_append_13 (by decide) (fun hc4 => ?_) (fun hc4 => ?_)
        · rw [if_neg hc4] at h
          refine lv_iconst (v := 1) S.1 S.2.1 dX3_append_26 (by decide) ?_
          refine lv_goto (tgt := 31) S.1 S.2.1 dX3_append_27 (by decide) ?_
          refine lv_istore_n (lv' := [(2, .int 1), (0, .ref (ad 54)), (1, .int p1), (3, .int x3)]) S.1 S.2.1 dX3_append_31 rfl hl (by decide) rfl (fun ls hl => ?_)
          refine lv_iinc (v := (x3 + 1)) (lv' := [(3, .int (x3 + 1)), (2, .int 1), (0, .ref (ad 54)), (1, .int p1)]) S.1 S.2.1 dX3_append_32 hl (k := 3) rfl rfl (by decide) rfl (fun ls hl => ?_)
          refine lv_goto (tgt := 4) S.1 S.2.1 dX3_append_35 (by decide) ?_
          exact ih (g) H locs hP hS (1) ((x3 + 1)) ls (lv_sub hl [2, 3, 1, 0] rfl) h
        · rw [if_pos hc4] at h
          refine lv_aload_n S.1 S.2.1 dX3_append_16 rfl (lv_at hl 0 rfl) ?_
          refine r_get (C := RX3) (T := TX3) (N := 19) (ci := 3) (k := 54) (j := 13) (fs := fsX) (d := (some (some 65))) (v := .ref (ad 65)) S hK hP hn3 lk41 rfl (by decide) rfl rfl rfl dX3_append_17 ?_
          refine lv_iload_n S.1 S.2.1 dX3_append_20 rfl (lv_at hl 3 rfl) ?_
          obtain ⟨hv5, hv5b, h⟩ := gi_some h
          refine r_ild (k := 65) (n := 8) S hK hP rfl hv5 dX3_append_21 ?_
          refine lv_iload_n S.1 S.2.1 dX3_append_22 rfl (lv_at hl 1 rfl) ?_
          refine lv_icmp_ne (tgt := 30) S.1 S.2.1 dX3_append_23 (by decide) (fun hc6 => ?_) (fun hc6 => ?_)
          · rw [if_neg hc6] at h
            refine lv_iconst (v := 0) S.1 S.2.1 dX3_append_30 (by decide) ?_
            refine lv_istore_n (lv' := [(2, .int 0), (0, .ref (ad 54)), (1, .int p1), (3, .int x3)]) S.1 S.2.1 dX3_append_31 rfl hl (by decide) rfl (fun ls hl => ?_)
            refine lv_iinc (v := (x3 + 1)) (lv' := [(3, .int (x3 + 1)), (2, .int 0), (0, .ref (ad 54)), (1, .int p1)]) S.1 S.2.1 dX3_append_32 hl (k := 3) rfl rfl (by decide) rfl (fun ls hl => ?_)
            refine lv_goto (tgt := 4) S.1 S.2.1 dX3_append_35 (by decide) ?_
            exact ih (g) H locs hP hS (0) ((x3 + 1)) ls (lv_sub hl [2, 3, 1, 0] rfl) h
          · rw [if_pos hc6] at h
            refine lv_iconst (v := 1) S.1 S.2.1 dX3_append_26 (by decide) ?_
            refine lv_goto (tgt := 31) S.1 S.2.1 dX3_append_27 (by decide) ?_
            refine lv_istore_n (lv' := [(2, .int 1), (0, .ref (ad 54)), (1, .int p1), (3, .int x3)]) S.1 S.2.1 dX3_append_31 rfl hl (by decide) rfl (fun ls hl => ?_)
            refine lv_iinc (v := (x3 + 1)) (lv' := [(3, .int (x3 + 1)), (2, .int 1), (0, .ref (ad 54)), (1, .int p1)]) S.1 S.2.1 dX3_append_32 hl (k := 3) rfl rfl (by decide) rfl (fun ls hl => ?_)
            refine lv_goto (tgt := 4) S.1 S.2.1 dX3_append_35 (by decide) ?_
            exact ih (g) H locs hP hS (1) ((x3 + 1)) ls (lv_sub hl [2, 3, 1, 0] rfl) h
  rw [← hH] at hP
  have hS : va_S (fun q => lo ≤ q) s.heap H locs := by rw [hH, hlocs]; exact hS
  have goal0 : W p l e (rm_X3_append) s m args below meth c H locs 0 0 (MQ below (Qw D cA ad lo g1 none) args s 0 0 (fun q => lo ≤ q)) (F0 m 0 ls []) := by
    refine lv_iconst (v := 0) S.1 S.2.1 dX3_append_0 (by decide) ?_
    refine lv_istore_n (lv' := [(2, .int 0), (0, .ref (ad 54)), (1, .int p1)]) S.1 S.2.1 dX3_append_1 rfl hl (by decide) rfl (fun ls hl => ?_)
    refine lv_iconst (v := 0) S.1 S.2.1 dX3_append_2 (by decide) ?_
    refine lv_istore_n (lv' := [(3, .int 0), (2, .int 0), (0, .ref (ad 54)), (1, .int p1)]) S.1 S.2.1 dX3_append_3 rfl hl (by decide) rfl (fun ls hl => ?_)
    exact key4 200 (g) H locs hP hS (0) (0) ls (lv_sub hl [2, 3, 1, 0] rfl) h
  rw [hH, hlocs] at goal0
  exact goal0

def m_X3_see_223 (k42 : Mem → Int32 → Option Mem) (p1 p2 : Int32) (g : Mem) (x3 x4 x5 x6 : Int32) : Option Mem := gi x5 48 (gi (g 61 (x5).toNatClampNeg) 8 (gi x5 48 (gi x3 10 (gi x3 10 (k42 ((mup (mup (mup g 66 ((g 61 (x5).toNatClampNeg)).toNatClampNeg (vp_nar .boolean 1)) 68 (x3).toNatClampNeg ((mup g 66 ((g 61 (x5).toNatClampNeg)).toNatClampNeg (vp_nar .boolean 1)) 61 (x5).toNatClampNeg)) 69 (x3).toNatClampNeg 0)) ((x3 + 1)))))))
def m_X3_see_95 (k42 : Mem → Int32 → Option Mem) (p1 p2 : Int32) (g : Mem) (x3 x4 x5 s0 : Int32) : Option Mem := gi (x3 - 1) 10 (gi (x3 - 1) 10 ((if s0 = 0 then k42 ((mup g 69 ((x3 - 1)).toNatClampNeg ((g 69 ((x3 - 1)).toNatClampNeg) + 1))) ((x3 - 1)) else gi x5 48 ((if ((mup g 69 ((x3 - 1)).toNatClampNeg ((g 69 ((x3 - 1)).toNatClampNeg) + 1)) 61 (x5).toNatClampNeg) = x4 then (m_X3_hasPath (mup g 69 ((x3 - 1)).toNatClampNeg ((g 69 ((x3 - 1)).toNatClampNeg) + 1)) x4 p2).bind fun r22 => (if r22 = 0 then k42 ((mup g 69 ((x3 - 1)).toNatClampNeg ((g 69 ((x3 - 1)).toNatClampNeg) + 1))) (x3) else (m_X3_append (mup g 69 ((x3 - 1)).toNatClampNeg ((g 69 ((x3 - 1)).toNatClampNeg) + 1)) x4).bind fun g_27 => k42 (g_27) (x3)) else gi x5 48 (gi ((mup g 69 ((x3 - 1)).toNatClampNeg ((g 69 ((x3 - 1)).toNatClampNeg) + 1)) 61 (x5).toNatClampNeg) 8 ((if ((mup g 69 ((x3 - 1)).toNatClampNeg ((g 69 ((x3 - 1)).toNatClampNeg) + 1)) 56 (((mup g 69 ((x3 - 1)).toNatClampNeg ((g 69 ((x3 - 1)).toNatClampNeg) + 1)) 61 (x5).toNatClampNeg)).toNatClampNeg) = 0 then k42 ((mup g 69 ((x3 - 1)).toNatClampNeg ((g 69 ((x3 - 1)).toNatClampNeg) + 1))) (x3) else gi x5 48 (gi ((mup g 69 ((x3 - 1)).toNatClampNeg ((g 69 ((x3 - 1)).toNatClampNeg) + 1)) 61 (x5).toNatClampNeg) 8 ((if ((mup g 69 ((x3 - 1)).toNatClampNeg ((g 69 ((x3 - 1)).toNatClampNeg) + 1)) 66 (((mup g 69 ((x3 - 1)).toNatClampNeg ((g 69 ((x3 - 1)).toNatClampNeg) + 1)) 61 (x5).toNatClampNeg)).toNatClampNeg) = 0 then gi x5 48 ((if ((((mup g 69 ((x3 - 1)).toNatClampNeg ((g 69 ((x3 - 1)).toNatClampNeg) + 1)) 62 (x5).toNatClampNeg) >>> (p2 &&& 31)) &&& 1) = 1 then (if x3 = 1 then m_X3_see_223 k42 p1 p2 ((mup g 69 ((x3 - 1)).toNatClampNeg ((g 69 ((x3 - 1)).toNatClampNeg) + 1))) (x3) (x4) (x5) (s0) else gi x5 48 ((if ((((mup g 69 ((x3 - 1)).toNatClampNeg ((g 69 ((x3 - 1)).toNatClampNeg) + 1)) 63 (x5).toNatClampNeg) >>> (p2 &&& 31)) &&& 1) = 1 then m_X3_see_223 k42 p1 p2 ((mup g 69 ((x3 - 1)).toNatClampNeg ((g 69 ((x3 - 1)).toNatClampNeg) + 1))) (x3) (x4) (x5) (s0) else k42 ((mup g 69 ((x3 - 1)).toNatClampNeg ((g 69 ((x3 - 1)).toNatClampNeg) + 1))) (x3)))) else k42 ((mup g 69 ((x3 - 1)).toNatClampNeg ((g 69 ((x3 - 1)).toNatClampNeg) + 1))) (x3))) else k42 ((mup g 69 ((x3 - 1)).toNatClampNeg ((g 69 ((x3 - 1)).toNatClampNeg) + 1))) (x3))))))))))))
def m_X3_see_42 (p1 p2 : Int32) : Nat → Mem → Int32 → Option Mem
  | 0, _, _ => none
  | n + 1, g, x3 => (if x3 ≤ 0 then some g else gi (x3 - 1) 10 (gi (x3 - 1) 10 (gi (x3 - 1) 10 (gi (g 68 ((x3 - 1)).toNatClampNeg) 8 ((if (g 60 ((g 68 ((x3 - 1)).toNatClampNeg)).toNatClampNeg) ≤ (g 69 ((x3 - 1)).toNatClampNeg) then m_X3_see_95 (fun gy yx3 => m_X3_see_42 p1 p2 n gy yx3) p1 p2 (g) (x3) ((g 68 ((x3 - 1)).toNatClampNeg)) (((6 * (g 68 ((x3 - 1)).toNatClampNeg)) + (g 69 ((x3 - 1)).toNatClampNeg))) (0) else m_X3_see_95 (fun gy yx3 => m_X3_see_42 p1 p2 n gy yx3) p1 p2 (g) (x3) ((g 68 ((x3 - 1)).toNatClampNeg)) (((6 * (g 68 ((x3 - 1)).toNatClampNeg)) + (g 69 ((x3 - 1)).toNatClampNeg))) (1)))))))
def m_X3_see_7 (p1 p2 : Int32) : Nat → Mem → Int32 → Option Mem
  | 0, _, _ => none
  | n + 1, g, x3 => (if 8 ≤ x3 then gi 0 10 (gi 0 10 (m_X3_see_42 p1 p2 200 ((mup (mup g 68 (0 : Int32).toNatClampNeg p1) 69 (0 : Int32).toNatClampNeg 0)) (1))) else gi x3 8 (m_X3_see_7 p1 p2 n ((mup g 66 (x3).toNatClampNeg (vp_nar .boolean 0))) ((x3 + 1))))
def m_X3_see (g : Mem) (p1 p2 : Int32) : Option Mem := m_X3_see_7 p1 p2 200 ((mup g 54 12 0)) (0)
def rm_X3_see : Room := { frames := 1, cells := 0, slots := 0, locals := 24 }
set_option maxRecDepth 100000 in
set_option maxHeartbeats 4000000 in
theorem c_X3_see {l : Launch} {D : va_G} {cA : Nat → ClassId} {ad : Nat → Nat} {lo : Nat} (hA : AdOk lo ad lay0.length) {g : Mem} {p1 p2 : Int32} {g1 : Mem} (h : m_X3_see g p1 p2 = some g1) : Met l yX3_see wsX3_see rm_X3_see (Pw [.ref (ad 54), .int p1, .int p2] D cA ad lo g) (Qw D cA ad lo g1 none) 0 0 (fun q => lo ≤ q) := by
  refine startW (cc := cX3_see) (maxL := 7) (ret := none) (by decide) rfl (Nat.le_of_ble_eq_true rfl) ?_
  intro p e s m args below meth c ls S hr hlocks hB hl
  obtain ⟨hlo, hP, hK, hN⟩ := hB
  have hS : va_S (fun q => lo ≤ q) s.heap s.heap [] := va_S.rf
  unfold m_X3_see at h
  have S : CallFix p m c cX3_see 7 s args wsX3_see RX3 := S
  have hl : lv_has ls 7 [(0, .ref (ad 54)), (1, .int p1), (2, .int p2)] := hl
  have hn3 : ∀ w ∈ wsX30, w ∈ wsX3_see := by decide +kernel
  have lk13 := S.2.2.2.2 (.fieldLink RX3 13 "FlatLoaderModel" "loaded" "[Z") (by decide +kernel)
  have lk26 := S.2.2.2.2 (.fieldLink RX3 26 "FlatLoaderModel" "many" "[I") (by decide +kernel)
  have lk29 := S.2.2.2.2 (.fieldLink RX3 29 "FlatLoaderModel" "on" "[I") (by decide +kernel)
  have lk32 := S.2.2.2.2 (.fieldLink RX3 32 "FlatLoaderModel" "imports" "[I") (by decide +kernel)
  have lk35 := S.2.2.2.2 (.fieldLink RX3 35 "FlatLoaderModel" "exports" "[I") (by decide +kernel)
  have lk44 := S.2.2.2.2 (.fieldLink RX3 44 "FlatLoaderModel" "begun" "[Z") (by decide +kernel)
  have lk50 := S.2.2.2.2 (.fieldLink RX3 50 "FlatLoaderModel" "through" "[I") (by decide +kernel)
  have lk53 := S.2.2.2.2 (.fieldLink RX3 53 "FlatLoaderModel" "place" "[I") (by decide +kernel)
  have lk89 := S.2.2.2.2 (.fieldLink RX3 89 "FlatLoaderModel" "size" "I") (by decide +kernel)
  obtain ⟨H, hH⟩ : ∃ H, H = s.heap := ⟨_, rfl⟩
  obtain ⟨locs, hlocs⟩ : ∃ z : List Loc, z = [] := ⟨_, rfl⟩
  have key223 : ∀ (k42 : Mem → Int32 → Option Mem), (∀ (g : Mem) (H : Heap) (locs : List Loc), va_P D vwCl (wld cA ad g lay0) H → va_S (fun q => lo ≤ q) s.heap H locs → ∀ (x3 : Int32), ∀ (ls : Array Slot), lv_has ls 7 [(0, .ref (ad 54)), (1, .int p1), (2, .int p2), (3, .int x3)] → k42 g x3 = some g1 → W p l e (rm_X3_see) s m args below meth c H locs 0 0 (MQ below (Qw D cA ad lo g1 none) args s 0 0 (fun q => lo ≤ q)) (F0 m 42 ls [])) → ∀ (g : Mem) (H : Heap) (locs : List Loc), va_P D vwCl (wld cA ad g lay0) H → va_S (fun q => lo ≤ q) s.heap H locs → ∀ (x3 x4 x5 x6 : Int32), ∀ (ls : Array Slot), lv_has ls 7 [(0, .ref (ad 54)), (1, .int p1), (2, .int p2), (3, .int x3), (4, .int x4), (5, .int x5), (6, .int x6)] → m_X3_see_223 k42 p1 p2 g x3 x4 x5 x6 = some g1 → W p l e (rm_X3_see) s m args below meth c H locs 0 0 (MQ below (Qw D cA ad lo g1 none) args s 0 0 (fun q => lo ≤ q)) (F0 m 223 ls []) := by
    intro k42 hk42
    intro g H locs hP hS x3 x4 x5 x6 ls hl h
    unfold m_X3_see_223 at h
    refine lv_aload_n S.1 S.2.1 dX3_see_223 rfl (lv_at hl 0 rfl) ?_
    refine r_get (C := RX3) (T := TX3) (N := 19) (ci := 3) (k := 54) (j := 14) (fs := fsX) (d := (some (some 66))) (v := .ref (ad 66)) S hK hP hn3 lk44 rfl (by decide) rfl rfl rfl dX3_see_224 ?_
    refine lv_aload_n S.1 S.2.1 dX3_see_227 rfl (lv_at hl 0 rfl) ?_
    refine r_get (C := RX3) (T := TX3) (N := 19) (ci := 3) (k := 54) (j := 7) (fs := fsX) (d := (some (some 61))) (v := .ref (ad 61)) S hK hP hn3 lk29 rfl (by decide) rfl rfl rfl dX3_see_228 ?_
    refine lv_iload S.1 S.2.1 dX3_see_231 (lv_at hl 5 rfl) ?_
    obtain ⟨hv1, hv1b, h⟩ := gi_some h
    refine r_ild (k := 61) (n := 48) S hK hP rfl hv1 dX3_see_233 ?_
    refine lv_iconst (v := 1) S.1 S.2.1 dX3_see_234 (by decide) ?_
    obtain ⟨hv2, hv2b, h⟩ := gi_some h
    refine r_zst (k := 66) (n := 8) S hA hK hP hS rfl hv2 dX3_see_235 (fun H locs hP hS => ?_)
    refine lv_aload_n S.1 S.2.1 dX3_see_236 rfl (lv_at hl 0 rfl) ?_
    refine r_get (C := RX3) (T := TX3) (N := 19) (ci := 3) (k := 54) (j := 16) (fs := fsX) (d := (some (some 68))) (v := .ref (ad 68)) S hK hP hn3 lk50 rfl (by decide) rfl rfl rfl dX3_see_237 ?_
    refine lv_iload_n S.1 S.2.1 dX3_see_240 rfl (lv_at hl 3 rfl) ?_
    refine lv_aload_n S.1 S.2.1 dX3_see_241 rfl (lv_at hl 0 rfl) ?_
    refine r_get (C := RX3) (T := TX3) (N := 19) (ci := 3) (k := 54) (j := 7) (fs := fsX) (d := (some (some 61))) (v := .ref (ad 61)) S hK hP hn3 lk29 rfl (by decide) rfl rfl rfl dX3_see_242 ?_
    refine lv_iload S.1 S.2.1 dX3_see_245 (lv_at hl 5 rfl) ?_
    obtain ⟨hv3, hv3b, h⟩ := gi_some h
    refine r_ild (k := 61) (n := 48) S hK hP rfl hv3 dX3_see_247 ?_
    obtain ⟨hv4, hv4b, h⟩ := gi_some h
    refine r_ist (k := 68) (n := 10) S hA hK hP hS rfl hv4 dX3_see_248 (fun H locs hP hS => ?_)
    refine lv_aload_n S.1 S.2.1 dX3_see_249 rfl (lv_at hl 0 rfl) ?_
    refine r_get (C := RX3) (T := TX3) (N := 19) (ci := 3) (k := 54) (j := 17) (fs := fsX) (d := (some (some 69))) (v := .ref (ad 69)) S hK hP hn3 lk53 rfl (by decide) rfl rfl rfl dX3_see_250 ?_
    refine lv_iload_n S.1 S.2.1 dX3_see_253 rfl (lv_at hl 3 rfl) ?_
    refine lv_iconst (v := 0) S.1 S.2.1 dX3_see_254 (by decide) ?_
    obtain ⟨hv5, hv5b, h⟩ := gi_some h
    refine r_ist (k := 69) (n := 10) S hA hK hP hS rfl hv5 dX3_see_255 (fun H locs hP hS => ?_)
    refine lv_iload_n S.1 S.2.1 dX3_see_256 rfl (lv_at hl 3 rfl) ?_
    refine lv_iconst (v := 1) S.1 S.2.1 dX3_see_257 (by decide) ?_
    refine lv_iadd S.1 S.2.1 dX3_see_258 ?_
    refine lv_istore_n (lv' := [(3, .int (x3 + 1)), (0, .ref (ad 54)), (1, .int p1), (2, .int p2), (4, .int x4), (5, .int x5), (6, .int x6)]) S.1 S.2.1 dX3_see_259 rfl hl (by decide) rfl (fun ls hl => ?_)
    refine lv_goto (tgt := 42) S.1 S.2.1 dX3_see_260 (by decide) ?_
    exact hk42 ((mup (mup (mup g 66 ((g 61 (x5).toNatClampNeg)).toNatClampNeg (vp_nar .boolean 1)) 68 (x3).toNatClampNeg ((mup g 66 ((g 61 (x5).toNatClampNeg)).toNatClampNeg (vp_nar .boolean 1)) 61 (x5).toNatClampNeg)) 69 (x3).toNatClampNeg 0)) H locs hP hS ((x3 + 1)) ls (lv_sub hl [1, 2, 3, 0] rfl) h
  have key95 : ∀ (k42 : Mem → Int32 → Option Mem), (∀ (g : Mem) (H : Heap) (locs : List Loc), va_P D vwCl (wld cA ad g lay0) H → va_S (fun q => lo ≤ q) s.heap H locs → ∀ (x3 : Int32), ∀ (ls : Array Slot), lv_has ls 7 [(0, .ref (ad 54)), (1, .int p1), (2, .int p2), (3, .int x3)] → k42 g x3 = some g1 → W p l e (rm_X3_see) s m args below meth c H locs 0 0 (MQ below (Qw D cA ad lo g1 none) args s 0 0 (fun q => lo ≤ q)) (F0 m 42 ls [])) → ∀ (g : Mem) (H : Heap) (locs : List Loc), va_P D vwCl (wld cA ad g lay0) H → va_S (fun q => lo ≤ q) s.heap H locs → ∀ (x3 x4 x5 s0 : Int32), ∀ (ls : Array Slot), lv_has ls 7 [(0, .ref (ad 54)), (1, .int p1), (2, .int p2), (3, .int x3), (4, .int x4), (5, .int x5)] → m_X3_see_95 k42 p1 p2 g x3 x4 x5 s0 = some g1 → W p l e (rm_X3_see) s m args below meth c H locs 0 0 (MQ below (Qw D cA ad lo g1 none) args s 0 0 (fun q => lo ≤ q)) (F0 m 95 ls [.int s0]) := by
    intro k42 hk42
    intro g H locs hP hS x3 x4 x5 s0 ls hl h
    unfold m_X3_see_95 at h
    refine lv_istore (lv' := [(6, .int s0), (0, .ref (ad 54)), (1, .int p1), (2, .int p2), (3, .int x3), (4, .int x4), (5, .int x5)]) S.1 S.2.1 dX3_see_95 hl (by decide) rfl (fun ls hl => ?_)
    refine lv_aload_n S.1 S.2.1 dX3_see_97 rfl (lv_at hl 1 rfl) ?_
    refine r_get (C := RX3) (T := TX3) (N := 19) (ci := 3) (k := 54) (j := 17) (fs := fsX) (d := (some (some 69))) (v := .ref (ad 69)) S hK hP hn3 lk53 rfl (by decide) rfl rfl rfl dX3_see_98 ?_
    refine lv_iload_n S.1 S.2.1 dX3_see_101 rfl (lv_at hl 4 rfl) ?_
    refine lv_iconst (v := 1) S.1 S.2.1 dX3_see_102 (by decide) ?_
    refine lv_isub S.1 S.2.1 dX3_see_103 ?_
    refine lv_aload_n S.1 S.2.1 dX3_see_104 rfl (lv_at hl 1 rfl) ?_
    refine r_get (C := RX3) (T := TX3) (N := 19) (ci := 3) (k := 54) (j := 17) (fs := fsX) (d := (some (some 69))) (v := .ref (ad 69)) S hK hP hn3 lk53 rfl (by decide) rfl rfl rfl dX3_see_105 ?_
    refine lv_iload_n S.1 S.2.1 dX3_see_108 rfl (lv_at hl 4 rfl) ?_
    refine lv_iconst (v := 1) S.1 S.2.1 dX3_see_109 (by decide) ?_
    refine lv_isub S.1 S.2.1 dX3_see_110 ?_
    obtain ⟨hv6, hv6b, h⟩ := gi_some h
    refine r_ild (k := 69) (n := 10) S hK hP rfl hv6 dX3_see_111 ?_
    refine lv_iconst (v := 1) S.1 S.2.1 dX3_see_112 (by decide) ?_
    refine lv_iadd S.1 S.2.1 dX3_see_113 ?_
    obtain ⟨hv7, hv7b, h⟩ := gi_some h
    refine r_ist (k := 69) (n := 10) S hA hK hP hS rfl hv7 dX3_see_114 (fun H locs hP hS => ?_)
    refine lv_iload S.1 S.2.1 dX3_see_115 (lv_at hl 0 rfl) ?_
    refine lv_if_ne (tgt := 127) S.1 S.2.1 dX3_see_117 (by decide) (fun hc8 => ?_) (fun hc8 => ?_)
    · rw [if_neg hc8] at h
      refine lv_aload_n S.1 S.2.1 dX3_see_127 rfl (lv_at hl 1 rfl) ?_
      refine r_get (C := RX3) (T := TX3) (N := 19) (ci := 3) (k := 54) (j := 7) (fs := fsX) (d := (some (some 61))) (v := .ref (ad 61)) S hK hP hn3 lk29 rfl (by decide) rfl rfl rfl dX3_see_128 ?_
      refine lv_iload S.1 S.2.1 dX3_see_131 (lv_at hl 6 rfl) ?_
      obtain ⟨hv9, hv9b, h⟩ := gi_some h
      refine r_ild (k := 61) (n := 48) S hK hP rfl hv9 dX3_see_133 ?_
      refine lv_iload S.1 S.2.1 dX3_see_134 (lv_at hl 5 rfl) ?_
      refine lv_icmp_ne (tgt := 158) S.1 S.2.1 dX3_see_136 (by decide) (fun hc10 => ?_) (fun hc10 => ?_)
      · rw [if_neg hc10] at h
        refine lv_aload_n S.1 S.2.1 dX3_see_158 rfl (lv_at hl 1 rfl) ?_
        refine r_get (C := RX3) (T := TX3) (N := 19) (ci := 3) (k := 54) (j := 2) (fs := fsX) (d := (some (some 56))) (v := .ref (ad 56)) S hK hP hn3 lk13 rfl (by decide) rfl rfl rfl dX3_see_159 ?_
        refine lv_aload_n S.1 S.2.1 dX3_see_162 rfl (lv_at hl 1 rfl) ?_
        refine r_get (C := RX3) (T := TX3) (N := 19) (ci := 3) (k := 54) (j := 7) (fs := fsX) (d := (some (some 61))) (v := .ref (ad 61)) S hK hP hn3 lk29 rfl (by decide) rfl rfl rfl dX3_see_163 ?_
        refine lv_iload S.1 S.2.1 dX3_see_166 (lv_at hl 6 rfl) ?_
        obtain ⟨hv11, hv11b, h⟩ := gi_some h
        refine r_ild (k := 61) (n := 48) S hK hP rfl hv11 dX3_see_168 ?_
        obtain ⟨hv12, hv12b, h⟩ := gi_some h
        refine r_zld (k := 56) (n := 8) S hK hP rfl hv12 dX3_see_169 ?_
        refine lv_if_eq (tgt := 260) S.1 S.2.1 dX3_see_170 (by decide) (fun hc13 => ?_) (fun hc13 => ?_)
        · rw [if_pos hc13] at h
          refine lv_goto (tgt := 42) S.1 S.2.1 dX3_see_260 (by decide) ?_
          exact hk42 ((mup g 69 ((x3 - 1)).toNatClampNeg ((g 69 ((x3 - 1)).toNatClampNeg) + 1))) H locs hP hS (x3) ls (lv_sub hl [1, 2, 3, 4] rfl) h
        · rw [if_neg hc13] at h
          refine lv_aload_n S.1 S.2.1 dX3_see_173 rfl (lv_at hl 1 rfl) ?_
          refine r_get (C := RX3) (T := TX3) (N := 19) (ci := 3) (k := 54) (j := 14) (fs := fsX) (d := (some (some 66))) (v := .ref (ad 66)) S hK hP hn3 lk44 rfl (by decide) rfl rfl rfl dX3_see_174 ?_
          refine lv_aload_n S.1 S.2.1 dX3_see_177 rfl (lv_at hl 1 rfl) ?_
          refine r_get (C := RX3) (T := TX3) (N := 19) (ci := 3) (k := 54) (j := 7) (fs := fsX) (d := (some (some 61))) (v := .ref (ad 61)) S hK hP hn3 lk29 rfl (by decide) rfl rfl rfl dX3_see_178 ?_
          refine lv_iload S.1 S.2.1 dX3_see_181 (lv_at hl 6 rfl) ?_
          obtain ⟨hv14, hv14b, h⟩ := gi_some h
          refine r_ild (k := 61) (n := 48) S hK hP rfl hv14 dX3_see_183 ?_
          obtain ⟨hv15, hv15b, h⟩ := gi_some h
          refine r_zld (k := 66) (n := 8) S hK hP rfl hv15 dX3_see_184 ?_
          refine lv_if_ne (tgt := 260) S.1 S.2.1 dX3_see_185 (by decide) (fun hc16 => ?_) (fun hc16 => ?_)
          · rw [if_neg hc16] at h
            refine lv_goto (tgt := 42) S.1 S.2.1 dX3_see_260 (by decide) ?_
            exact hk42 ((mup g 69 ((x3 - 1)).toNatClampNeg ((g 69 ((x3 - 1)).toNatClampNeg) + 1))) H locs hP hS (x3) ls (lv_sub hl [1, 2, 3, 4] rfl) h
          · rw [if_pos hc16] at h
            refine lv_aload_n S.1 S.2.1 dX3_see_188 rfl (lv_at hl 1 rfl) ?_
            refine r_get (C := RX3) (T := TX3) (N := 19) (ci := 3) (k := 54) (j := 8) (fs := fsX) (d := (some (some 62))) (v := .ref (ad 62)) S hK hP hn3 lk32 rfl (by decide) rfl rfl rfl dX3_see_189 ?_
            refine lv_iload S.1 S.2.1 dX3_see_192 (lv_at hl 6 rfl) ?_
            obtain ⟨hv17, hv17b, h⟩ := gi_some h
            refine r_ild (k := 62) (n := 48) S hK hP rfl hv17 dX3_see_194 ?_
            refine lv_iload_n S.1 S.2.1 dX3_see_195 rfl (lv_at hl 3 rfl) ?_
            refine lv_ishr S.1 S.2.1 dX3_see_196 ?_
            refine lv_iconst (v := 1) S.1 S.2.1 dX3_see_197 (by decide) ?_
            refine lv_iand S.1 S.2.1 dX3_see_198 ?_
            refine lv_iconst (v := 1) S.1 S.2.1 dX3_see_199 (by decide) ?_
            refine lv_icmp_ne (tgt := 260) S.1 S.2.1 dX3_see_200 (by decide) (fun hc18 => ?_) (fun hc18 => ?_)
            · rw [if_neg hc18] at h
              refine lv_goto (tgt := 42) S.1 S.2.1 dX3_see_260 (by decide) ?_
              exact hk42 ((mup g 69 ((x3 - 1)).toNatClampNeg ((g 69 ((x3 - 1)).toNatClampNeg) + 1))) H locs hP hS (x3) ls (lv_sub hl [1, 2, 3, 4] rfl) h
            · rw [if_pos hc18] at h
              refine lv_iload_n S.1 S.2.1 dX3_see_203 rfl (lv_at hl 4 rfl) ?_
              refine lv_iconst (v := 1) S.1 S.2.1 dX3_see_204 (by decide) ?_
              refine lv_icmp_eq (tgt := 223) S.1 S.2.1 dX3_see_205 (by decide) (fun hc19 => ?_) (fun hc19 => ?_)
              · rw [if_pos hc19] at h
                exact key223 k42 hk42 ((mup g 69 ((x3 - 1)).toNatClampNeg ((g 69 ((x3 - 1)).toNatClampNeg) + 1))) H locs hP hS (x3) (x4) (x5) (s0) ls (lv_sub hl [1, 2, 3, 4, 5, 6, 0] rfl) h
              · rw [if_neg hc19] at h
                refine lv_aload_n S.1 S.2.1 dX3_see_208 rfl (lv_at hl 1 rfl) ?_
                refine r_get (C := RX3) (T := TX3) (N := 19) (ci := 3) (k := 54) (j := 9) (fs := fsX) (d := (some (some 63))) (v := .ref (ad 63)) S hK hP hn3 lk35 rfl (by decide) rfl rfl rfl dX3_see_209 ?_
                refine lv_iload S.1 S.2.1 dX3_see_212 (lv_at hl 6 rfl) ?_
                obtain ⟨hv20, hv20b, h⟩ := gi_some h
                refine r_ild (k := 63) (n := 48) S hK hP rfl hv20 dX3_see_214 ?_
                refine lv_iload_n S.1 S.2.1 dX3_see_215 rfl (lv_at hl 3 rfl) ?_
                refine lv_ishr S.1 S.2.1 dX3_see_216 ?_
                refine lv_iconst (v := 1) S.1 S.2.1 dX3_see_217 (by decide) ?_
                refine lv_iand S.1 S.2.1 dX3_see_218 ?_
                refine lv_iconst (v := 1) S.1 S.2.1 dX3_see_219 (by decide) ?_
                refine lv_icmp_ne (tgt := 260) S.1 S.2.1 dX3_see_220 (by decide) (fun hc21 => ?_) (fun hc21 => ?_)
                · rw [if_neg hc21] at h
                  refine lv_goto (tgt := 42) S.1 S.2.1 dX3_see_260 (by decide) ?_
                  exact hk42 ((mup g 69 ((x3 - 1)).toNatClampNeg ((g 69 ((x3 - 1)).toNatClampNeg) + 1))) H locs hP hS (x3) ls (lv_sub hl [1, 2, 3, 4] rfl) h
                · rw [if_pos hc21] at h
                  exact key223 k42 hk42 ((mup g 69 ((x3 - 1)).toNatClampNeg ((g 69 ((x3 - 1)).toNatClampNeg) + 1))) H locs hP hS (x3) (x4) (x5) (s0) ls (lv_sub hl [1, 2, 3, 4, 5, 6, 0] rfl) h
      · rw [if_pos hc10] at h
        refine lv_aload_n S.1 S.2.1 dX3_see_139 rfl (lv_at hl 1 rfl) ?_
        refine lv_iload S.1 S.2.1 dX3_see_140 (lv_at hl 5 rfl) ?_
        refine lv_iload_n S.1 S.2.1 dX3_see_142 rfl (lv_at hl 3 rfl) ?_
        obtain ⟨r22, h_23, h⟩ := bd_some h
        refine k_R (r := r22) (va_runV (As := [.int x4, .int p2]) (rest := []) S (c_X3_hasPath h_23) (cwV 2 S.2.2.2.2 gX3_see_X3_hasPath rfl rfl rfl (by decide +kernel) ⟨Nat.le_of_ble_eq_true rfl, Nat.le_of_ble_eq_true rfl⟩) ⟨Pw_blind, va_recv hK hP (ci := 3) (q0 := 54) rfl (wld_at (d := dX) rfl), Pw_at hlo hS hP hK hN⟩ rfl rfl hl.1 rfl (lv_room (Nat.le_of_ble_eq_true rfl)) dX3_see_143 ⟨Nat.zero_le _, Nat.zero_le _⟩) ?_
        refine lv_if_eq (tgt := 260) S.1 S.2.1 dX3_see_146 (by decide) (fun hc24 => ?_) (fun hc24 => ?_)
        · rw [if_pos hc24] at h
          refine lv_goto (tgt := 42) S.1 S.2.1 dX3_see_260 (by decide) ?_
          exact hk42 ((mup g 69 ((x3 - 1)).toNatClampNeg ((g 69 ((x3 - 1)).toNatClampNeg) + 1))) H locs hP hS (x3) ls (lv_sub hl [1, 2, 3, 4] rfl) h
        · rw [if_neg hc24] at h
          refine lv_aload_n S.1 S.2.1 dX3_see_149 rfl (lv_at hl 1 rfl) ?_
          refine lv_iload S.1 S.2.1 dX3_see_150 (lv_at hl 5 rfl) ?_
          obtain ⟨g_27, h_26, h⟩ := bd_some h
          refine k_Wv (va_runV (As := [.int x4]) (rest := []) S (c_X3_append hA h_26) (cwV 1 S.2.2.2.2 gX3_see_X3_append rfl rfl rfl (by decide +kernel) ⟨Nat.le_of_ble_eq_true rfl, Nat.le_of_ble_eq_true rfl⟩) ⟨Pw_blind, va_recv hK hP (ci := 3) (q0 := 54) rfl (wld_at (d := dX) rfl), Pw_at hlo hS hP hK hN⟩ rfl rfl hl.1 rfl (lv_room (Nat.le_of_ble_eq_true rfl)) dX3_see_152 ⟨Nat.zero_le _, Nat.zero_le _⟩) hS (fun H locs hP hS => ?_)
          refine lv_goto (tgt := 260) S.1 S.2.1 dX3_see_155 (by decide) ?_
          refine lv_goto (tgt := 42) S.1 S.2.1 dX3_see_260 (by decide) ?_
          exact hk42 (g_27) H locs hP hS (x3) ls (lv_sub hl [1, 2, 3, 4] rfl) h
    · rw [if_pos hc8] at h
      refine lv_iload_n S.1 S.2.1 dX3_see_120 rfl (lv_at hl 4 rfl) ?_
      refine lv_iconst (v := 1) S.1 S.2.1 dX3_see_121 (by decide) ?_
      refine lv_isub S.1 S.2.1 dX3_see_122 ?_
      refine lv_istore_n (lv' := [(3, .int (x3 - 1)), (6, .int s0), (0, .ref (ad 54)), (1, .int p1), (2, .int p2), (4, .int x4), (5, .int x5)]) S.1 S.2.1 dX3_see_123 rfl hl (by decide) rfl (fun ls hl => ?_)
      refine lv_goto (tgt := 260) S.1 S.2.1 dX3_see_124 (by decide) ?_
      refine lv_goto (tgt := 42) S.1 S.2.1 dX3_see_260 (by decide) ?_
      exact hk42 ((mup g 69 ((x3 - 1)).toNatClampNeg ((g 69 ((x3 - 1)).toNatClampNeg) + 1))) H locs hP hS ((x3 - 1)) ls (lv_sub hl [2, 3, 4, 0] rfl) h
  have key42 : ∀ (n : Nat), ∀ (g : Mem) (H : Heap) (locs : List Loc), va_P D vwCl (wld cA ad g lay0) H → va_S (fun q => lo ≤ q) s.heap H locs → ∀ (x3 : Int32), ∀ (ls : Array Slot), lv_has ls 7 [(0, .ref (ad 54)), (1, .int p1), (2, .int p2), (3, .int x3)] → m_X3_see_42 p1 p2 n g x3 = some g1 → W p l e (rm_X3_see) s m args below meth c H locs 0 0 (MQ below (Qw D cA ad lo g1 none) args s 0 0 (fun q => lo ≤ q)) (F0 m 42 ls []) := by
    intro n
    induction n with
    | zero =>
      intro g H locs hP hS x3 ls hl h
      exact nomatch (show none = some g1 from h)
    | succ n ih =>
      intro g H locs hP hS x3 ls hl h
      rw [m_X3_see_42] at h
      refine lv_iload_n S.1 S.2.1 dX3_see_42 rfl (lv_at hl 3 rfl) ?_
      refine lv_if_le (tgt := 263) S.1 S.2.1 dX3_see_43 (by decide) (fun hc28 => ?_) (fun hc28 => ?_)
      · rw [if_pos hc28] at h
        exact e_Wv S hr hlocks hP hS (Option.some.inj h) dX3_see_263
      · rw [if_neg hc28] at h
        refine lv_aload_n S.1 S.2.1 dX3_see_46 rfl (lv_at hl 0 rfl) ?_
        refine r_get (C := RX3) (T := TX3) (N := 19) (ci := 3) (k := 54) (j := 16) (fs := fsX) (d := (some (some 68))) (v := .ref (ad 68)) S hK hP hn3 lk50 rfl (by decide) rfl rfl rfl dX3_see_47 ?_
        refine lv_iload_n S.1 S.2.1 dX3_see_50 rfl (lv_at hl 3 rfl) ?_
        refine lv_iconst (v := 1) S.1 S.2.1 dX3_see_51 (by decide) ?_
        refine lv_isub S.1 S.2.1 dX3_see_52 ?_
        obtain ⟨hv29, hv29b, h⟩ := gi_some h
        refine r_ild (k := 68) (n := 10) S hK hP rfl hv29 dX3_see_53 ?_
        refine lv_istore (lv' := [(4, .int (g 68 ((x3 - 1)).toNatClampNeg)), (0, .ref (ad 54)), (1, .int p1), (2, .int p2), (3, .int x3)]) S.1 S.2.1 dX3_see_54 hl (by decide) rfl (fun ls hl => ?_)
        refine lv_bipush (v := 6) S.1 S.2.1 dX3_see_56 (by decide) ?_
        refine lv_iload S.1 S.2.1 dX3_see_58 (lv_at hl 0 rfl) ?_
        refine lv_imul S.1 S.2.1 dX3_see_60 ?_
        refine lv_aload_n S.1 S.2.1 dX3_see_61 rfl (lv_at hl 1 rfl) ?_
        refine r_get (C := RX3) (T := TX3) (N := 19) (ci := 3) (k := 54) (j := 17) (fs := fsX) (d := (some (some 69))) (v := .ref (ad 69)) S hK hP hn3 lk53 rfl (by decide) rfl rfl rfl dX3_see_62 ?_
        refine lv_iload_n S.1 S.2.1 dX3_see_65 rfl (lv_at hl 4 rfl) ?_
        refine lv_iconst (v := 1) S.1 S.2.1 dX3_see_66 (by decide) ?_
        refine lv_isub S.1 S.2.1 dX3_see_67 ?_
        obtain ⟨hv30, hv30b, h⟩ := gi_some h
        refine r_ild (k := 69) (n := 10) S hK hP rfl hv30 dX3_see_68 ?_
        refine lv_iadd S.1 S.2.1 dX3_see_69 ?_
        refine lv_istore (lv' := [(5, .int ((6 * (g 68 ((x3 - 1)).toNatClampNeg)) + (g 69 ((x3 - 1)).toNatClampNeg))), (4, .int (g 68 ((x3 - 1)).toNatClampNeg)), (0, .ref (ad 54)), (1, .int p1), (2, .int p2), (3, .int x3)]) S.1 S.2.1 dX3_see_70 hl (by decide) rfl (fun ls hl => ?_)
        refine lv_aload_n S.1 S.2.1 dX3_see_72 rfl (lv_at hl 2 rfl) ?_
        refine r_get (C := RX3) (T := TX3) (N := 19) (ci := 3) (k := 54) (j := 17) (fs := fsX) (d := (some (some 69))) (v := .ref (ad 69)) S hK hP hn3 lk53 rfl (by decide) rfl rfl rfl dX3_see_73 ?_
        refine lv_iload_n S.1 S.2.1 dX3_see_76 rfl (lv_at hl 5 rfl) ?_
        refine lv_iconst (v := 1) S.1 S.2.1 dX3_see_77 (by decide) ?_
        refine lv_isub S.1 S.2.1 dX3_see_78 ?_
        obtain ⟨hv31, hv31b, h⟩ := gi_some h
        refine r_ild (k := 69) (n := 10) S hK hP rfl hv31 dX3_see_79 ?_
        refine lv_aload_n S.1 S.2.1 dX3_see_80 rfl (lv_at hl 2 rfl) ?_
        refine r_get (C := RX3) (T := TX3) (N := 19) (ci := 3) (k := 54) (j := 6) (fs := fsX) (d := (some (some 60))) (v := .ref (ad 60)) S hK hP hn3 lk26 rfl (by decide) rfl rfl rfl dX3_see_81 ?_
        refine lv_iload S.1 S.2.1 dX3_see_84 (lv_at hl 1 rfl) ?_
        obtain ⟨hv32, hv32b, h⟩ := gi_some h
        refine r_ild (k := 60) (n := 8) S hK hP rfl hv32 dX3_see_86 ?_
        refine lv_icmp_ge (tgt := 94) S.1 S.2.1 dX3_see_87 (by decide) (fun hc33 => ?_) (fun hc33 => ?_)
        · rw [if_pos hc33] at h
          refine lv_iconst (v := 0) S.1 S.2.1 dX3_see_94 (by decide) ?_
          exact key95 _ ih (g) H locs hP hS (x3) ((g 68 ((x3 - 1)).toNatClampNeg)) (((6 * (g 68 ((x3 - 1)).toNatClampNeg)) + (g 69 ((x3 - 1)).toNatClampNeg))) (0) ls (lv_sub hl [2, 3, 4, 5, 1, 0] rfl) h
        · rw [if_neg hc33] at h
          refine lv_iconst (v := 1) S.1 S.2.1 dX3_see_90 (by decide) ?_
          refine lv_goto (tgt := 95) S.1 S.2.1 dX3_see_91 (by decide) ?_
          exact key95 _ ih (g) H locs hP hS (x3) ((g 68 ((x3 - 1)).toNatClampNeg)) (((6 * (g 68 ((x3 - 1)).toNatClampNeg)) + (g 69 ((x3 - 1)).toNatClampNeg))) (1) ls (lv_sub hl [2, 3, 4, 5, 1, 0] rfl) h
  have key7 : ∀ (n : Nat), ∀ (g : Mem) (H : Heap) (locs : List Loc), va_P D vwCl (wld cA ad g lay0) H → va_S (fun q => lo ≤ q) s.heap H locs → ∀ (x3 : Int32), ∀ (ls : Array Slot), lv_has ls 7 [(0, .ref (ad 54)), (1, .int p1), (2, .int p2), (3, .int x3)] → m_X3_see_7 p1 p2 n g x3 = some g1 → W p l e (rm_X3_see) s m args below meth c H locs 0 0 (MQ below (Qw D cA ad lo g1 none) args s 0 0 (fun q => lo ≤ q)) (F0 m 7 ls []) := by
    intro n
    induction n with
    | zero =>
      intro g H locs hP hS x3 ls hl h
      exact nomatch (show none = some g1 from h)
    | succ n ih =>
      intro g H locs hP hS x3 ls hl h
      rw [m_X3_see_7] at h
      refine lv_iload_n S.1 S.2.1 dX3_see_7 rfl (lv_at hl 3 rfl) ?_
      refine lv_bipush (v := 8) S.1 S.2.1 dX3_see_8 (by decide) ?_
      refine lv_icmp_ge (tgt := 26) S.1 S.2.1 dX3_see_10 (by decide) (fun hc34 => ?_) (fun hc34 => ?_)
      · rw [if_pos hc34] at h
        refine lv_iconst (v := 1) S.1 S.2.1 dX3_see_26 (by decide) ?_
        refine lv_istore_n (lv' := [(3, .int 1), (0, .ref (ad 54)), (1, .int p1), (2, .int p2)]) S.1 S.2.1 dX3_see_27 rfl hl (by decide) rfl (fun ls hl => ?_)
        refine lv_aload_n S.1 S.2.1 dX3_see_28 rfl (lv_at hl 1 rfl) ?_
        refine r_get (C := RX3) (T := TX3) (N := 19) (ci := 3) (k := 54) (j := 16) (fs := fsX) (d := (some (some 68))) (v := .ref (ad 68)) S hK hP hn3 lk50 rfl (by decide) rfl rfl rfl dX3_see_29 ?_
        refine lv_iconst (v := 0) S.1 S.2.1 dX3_see_32 (by decide) ?_
        refine lv_iload_n S.1 S.2.1 dX3_see_33 rfl (lv_at hl 2 rfl) ?_
        obtain ⟨hv35, hv35b, h⟩ := gi_some h
        refine r_ist (k := 68) (n := 10) S hA hK hP hS rfl hv35 dX3_see_34 (fun H locs hP hS => ?_)
        refine lv_aload_n S.1 S.2.1 dX3_see_35 rfl (lv_at hl 1 rfl) ?_
        refine r_get (C := RX3) (T := TX3) (N := 19) (ci := 3) (k := 54) (j := 17) (fs := fsX) (d := (some (some 69))) (v := .ref (ad 69)) S hK hP hn3 lk53 rfl (by decide) rfl rfl rfl dX3_see_36 ?_
        refine lv_iconst (v := 0) S.1 S.2.1 dX3_see_39 (by decide) ?_
        refine lv_iconst (v := 0) S.1 S.2.1 dX3_see_40 (by decide) ?_
        obtain ⟨hv36, hv36b, h⟩ := gi_some h
        refine r_ist (k := 69) (n := 10) S hA hK hP hS rfl hv36 dX3_see_41 (fun H locs hP hS => ?_)
        exact key42 200 ((mup (mup g 68 (0 : Int32).toNatClampNeg p1) 69 (0 : Int32).toNatClampNeg 0)) H locs hP hS (1) ls (lv_sub hl [1, 2, 3, 0] rfl) h
      · rw [if_neg hc34] at h
        refine lv_aload_n S.1 S.2.1 dX3_see_13 rfl (lv_at hl 0 rfl) ?_
        refine r_get (C := RX3) (T := TX3) (N := 19) (ci := 3) (k := 54) (j := 14) (fs := fsX) (d := (some (some 66))) (v := .ref (ad 66)) S hK hP hn3 lk44 rfl (by decide) rfl rfl rfl dX3_see_14 ?_
        refine lv_iload_n S.1 S.2.1 dX3_see_17 rfl (lv_at hl 3 rfl) ?_
        refine lv_iconst (v := 0) S.1 S.2.1 dX3_see_18 (by decide) ?_
        obtain ⟨hv37, hv37b, h⟩ := gi_some h
        refine r_zst (k := 66) (n := 8) S hA hK hP hS rfl hv37 dX3_see_19 (fun H locs hP hS => ?_)
        refine lv_iinc (v := (x3 + 1)) (lv' := [(3, .int (x3 + 1)), (0, .ref (ad 54)), (1, .int p1), (2, .int p2)]) S.1 S.2.1 dX3_see_20 hl (k := 3) rfl rfl (by decide) rfl (fun ls hl => ?_)
        refine lv_goto (tgt := 7) S.1 S.2.1 dX3_see_23 (by decide) ?_
        exact ih ((mup g 66 (x3).toNatClampNeg (vp_nar .boolean 0))) H locs hP hS ((x3 + 1)) ls (lv_sub hl [1, 2, 3, 0] rfl) h
  rw [← hH] at hP
  have hS : va_S (fun q => lo ≤ q) s.heap H locs := by rw [hH, hlocs]; exact hS
  have goal0 : W p l e (rm_X3_see) s m args below meth c H locs 0 0 (MQ below (Qw D cA ad lo g1 none) args s 0 0 (fun q => lo ≤ q)) (F0 m 0 ls []) := by
    refine lv_aload_n S.1 S.2.1 dX3_see_0 rfl (lv_at hl 0 rfl) ?_
    refine lv_iconst (v := 0) S.1 S.2.1 dX3_see_1 (by decide) ?_
    refine r_put (C := RX3) (T := TX3) (N := 19) (ci := 3) (k := 54) (j := 12) (fs := fsX) (v := 0) tyX3 tyX3_ok nmX3 S hA hK hP hS hn3 lk89 rfl (by decide) rfl (by decide +kernel) rfl rfl dX3_see_2 (fun H locs hP hS => ?_)
    refine lv_iconst (v := 0) S.1 S.2.1 dX3_see_5 (by decide) ?_
    refine lv_istore_n (lv' := [(3, .int 0), (0, .ref (ad 54)), (1, .int p1), (2, .int p2)]) S.1 S.2.1 dX3_see_6 rfl hl (by decide) rfl (fun ls hl => ?_)
    exact key7 200 ((mup g 54 12 0)) H locs hP hS (0) ls (lv_sub hl [1, 2, 3, 0] rfl) h
  rw [hH, hlocs] at goal0
  exact goal0
