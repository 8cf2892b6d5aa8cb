theorem md_def (lo : Nat) : ∀ j, j < 19 → defaultValue (tyX3 j) = vp_V (([none, some none, some none, some none, some none, some none, some none, some none, some none, some none, some none, none, none, some none, some none, some none, some none, some none, some none] : List Fdx).mapIdx (fun j d => pcV (adL lo) (fun _ => 0) j d)) j := by
  intro j hj
  unfold vp_V
  simp only [List.mapIdx_cons, List.mapIdx_nil, pcV, Option.map_none]
  match j, hj with
  | 0, _ => rfl
  | 1, _ => rfl
  | 2, _ => rfl
  | 3, _ => rfl
  | 4, _ => rfl
  | 5, _ => rfl
  | 6, _ => rfl
  | 7, _ => rfl
  | 8, _ => rfl
  | 9, _ => rfl
  | 10, _ => rfl
  | 11, _ => rfl
  | 12, _ => rfl
  | 13, _ => rfl
  | 14, _ => rfl
  | 15, _ => rfl
  | 16, _ => rfl
  | 17, _ => rfl
  | 18, _ => rfl
  | n + 19, h => exact absurd h (by omega)
set_option maxRecDepth 100000 in
set_option maxHeartbeats 4000000 in
theorem whole_start {p : Program} {e : Env} {s : State} {m : MethodId} {below : List Frame} {meth : Method} {c : Code} (l : Launch) (hst : l.stackTraces = false) {b L : Nat} {xs : Nat → Int32} (hL : L ≤ 3072) (C0 : lw_At p s m meth c b L xs) : W p l e room_1 s m #[Value.ref b] below meth c s.heap [] 0 0 (lw_Z below #[Value.ref b] s) (entryFrame m ([Value.ref b] : List Value).toArray 7) := by
  obtain ⟨D, cA, hK, hN, hO, hZ, hNC⟩ := whole_facts C0
  obtain ⟨hx, hb, hr, hml, hown, hts, hX, hbl, hlocks, hgv⟩ := C0
  have S : CallFix p m c code 7 s #[Value.ref b] wvL_law RL := ⟨hx, hb, hml, hown, fun w hw => hts w (lw_law w hw)⟩
  have hS : va_S (fun q : Nat => s.heap.size ≤ q) s.heap s.heap [] := va_S.rf
  have hP : va_P D vwCl (wld cA (adL s.heap.size) (fun _ _ => 0) []) s.heap := fun k q h => by simp [wld] at h
  have hlo : s.heap.size ≤ s.heap.size := Nat.le_refl _
  have hl := lv_entry ([.ref b]) (n := 7) (Nat.le_of_ble_eq_true rfl)
  rw [lg_entry_eq]
  generalize (lg_sl ([.ref b]) ++ List.replicate (7 - (lg_sl ([.ref b])).length) Slot.unset).toArray = ls at hl ⊢
  have hl : lv_has ls 7 [(0, .ref b)] := hl
  refine n_new (C := RX2) (T := TX2) (N := 6) (ci := 2) (fs := [some none, none, none, some none, some none, some none]) (lay := []) (g := fun _ _ => 0) tyX2 tyX2_ok S hK vinlX2 (by decide +kernel) (by decide +kernel) (by decide +kernel) hlo rfl hP hS (fun i => rfl) rfl (fun j hj => by rcases (show j = 0 ∨ j = 1 ∨ j = 2 ∨ j = 3 ∨ j = 4 ∨ j = 5 by omega) with rfl | rfl | rfl | rfl | rfl | rfl <;> rfl) (Nat.le_of_ble_eq_true rfl) (Nat.le_of_ble_eq_true rfl) dL_law_0 (fun H hP hS => ?_)
  have hP : va_P D vwCl (wld cA (adL s.heap.size) (fun _ _ => 0) [.inl (2, [some none, none, none, some none, some none, some none])]) H := hP
  refine lv_dup S.1 S.2.1 dL_law_3 rfl ?_
  refine n_sz (lay := [.inl (2, [some none, none, none, some none, some none, some none])]) hlo rfl hP hS (fun hHz => ?_)
  refine k_I (va_runI (As := []) (rest := [.ref (adL s.heap.size 0)]) S c_X2_init (cwI 0 S.2.2.2.2 vgL_law_X2_init rfl rfl rfl (S.2.2.2.2 (.initialized RX2) (by decide +kernel)) (S.2.2.2.2 (.methodLink RL 41 yX2_init) (by decide +kernel)) (S.2.2.2.2 (.instanceMethod yX2_init) (by decide +kernel)) rfl (by decide +kernel) ⟨Nat.le_of_ble_eq_true rfl, Nat.le_of_ble_eq_true rfl⟩) ⟨Pi_blind, Pi_at hHz hP hK hN hO⟩ rfl rfl hl.1 rfl (lv_room (Nat.le_of_ble_eq_true rfl)) dL_law_4 ⟨Nat.le_of_ble_eq_true rfl, Nat.le_of_ble_eq_true rfl⟩) hS (fun H locs hP hS => ?_)
  refine lv_astore_n (lv' := [(1, .ref (adL s.heap.size 0)), (0, .ref b)]) S.1 S.2.1 dL_law_7 rfl hl (by decide) rfl (fun ls hl => ?_)
  have gFz : ∀ k, layF.length ≤ k → ∀ i, gF k i = 0 := fun k hk i => gFm_hi 8 k (by rw [layF_len] at hk; unfold kM; omega) i
  refine n_new (C := RX3) (T := TX3) (N := 19) (ci := 3) (fs := [none, some none, some none, some none, some none, some none, some none, some none, some none, some none, some none, none, none, some none, some none, some none, some none, some none, some none]) (lay := layF) (g := gF) tyX3 tyX3_ok S hK vinlX3 (by decide +kernel) (by decide +kernel) (by decide +kernel) hlo (by rw [layF_len]) hP hS (fun i => gFz _ (Nat.le_refl _) i) rfl (md_def _) (Nat.le_of_ble_eq_true rfl) (Nat.le_of_ble_eq_true rfl) dL_law_8 (fun H hP hS => ?_)
  refine lv_dup S.1 S.2.1 dL_law_11 rfl ?_
  refine n_sz hlo (by rw [List.length_append, layF_len]; rfl) hP hS (fun hHz => ?_)
  refine k_I (va_runI (As := []) (rest := [.ref (adL s.heap.size layF.length)]) S (c_X3_init (L := layF) gFz) (cwI 0 S.2.2.2.2 vgL_law_X3_init rfl rfl rfl (S.2.2.2.2 (.initialized RX3) (by decide +kernel)) (S.2.2.2.2 (.methodLink RL 44 yX3_init) (by decide +kernel)) (S.2.2.2.2 (.instanceMethod yX3_init) (by decide +kernel)) rfl (by decide +kernel) ⟨Nat.le_of_ble_eq_true rfl, Nat.le_of_ble_eq_true rfl⟩) ⟨Pi_blind, Pi_at hHz hP hK hN hO⟩ rfl rfl hl.1 rfl (lv_room (Nat.le_of_ble_eq_true rfl)) dL_law_12 ⟨Nat.le_of_ble_eq_true rfl, Nat.le_of_ble_eq_true rfl⟩) hS (fun H locs hP hS => ?_)
  rw [layF_len] at hP
  rw [layF_len]
  have hP : va_P D vwCl (wld cA (adL s.heap.size) gI (layF ++ mdX 54)) H := hP
  have hlen : (layF ++ mdX 54).length = 71 := by
    rw [List.length_append, layF_len]
    rfl
  refine lv_astore_n (lv' := [(2, .ref (adL s.heap.size 54)), (1, .ref (adL s.heap.size 0)), (0, .ref b)]) S.1 S.2.1 dL_law_15 rfl hl (by decide) rfl (fun ls hl => ?_)
  refine lv_iconst (v := 1) S.1 S.2.1 dL_law_16 (by decide) ?_
  refine n_arr (atype := .long) (cA := cA) (t := 2) (N := 1) S (by decide +kernel) (hK.2 2 _ rfl).2 (cell_l _ _ _) hlo (by rw [hlen]) hP hS (fun i => by rw [hlen]; exact gI_z (by decide) (by decide) (by decide)) (by decide) rfl (by decide) (Nat.le_of_ble_eq_true rfl) (Nat.le_of_ble_eq_true rfl) dL_law_17 (fun H hP hS => ?_)
  rw [hlen]
  rw [List.append_assoc, lay0_eq] at hP
  refine lv_astore_n (lv' := [(3, .ref (adL s.heap.size 71)), (2, .ref (adL s.heap.size 54)), (1, .ref (adL s.heap.size 0)), (0, .ref b)]) S.1 S.2.1 dL_law_19 rfl hl (by decide) rfl (fun ls hl => ?_)
  refine lv_iconst (v := 0) S.1 S.2.1 dL_law_20 (by decide) ?_
  refine lv_istore (lv' := [(4, .int 0), (3, .ref (adL s.heap.size 71)), (2, .ref (adL s.heap.size 54)), (1, .ref (adL s.heap.size 0)), (0, .ref b)]) S.1 S.2.1 dL_law_21 hl (by decide) rfl (fun ls hl => ?_)
  exact law_loop hL (adL_ok s.heap.size lay0.length) hst S hr hlocks hX hbl hK hN hZ hNC Inv (law_step xs L hL) 600 0 0 gI (by omega) (by omega) rfl inv_gI H locs hP hS ls (lv_sub hl [4, 3, 2, 1, 0] rfl)
