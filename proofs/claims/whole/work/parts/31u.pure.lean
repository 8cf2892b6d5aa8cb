/-! PURE: the beginning -/
theorem gFm_in : ∀ (N m i : Nat), m < N → i < 24 → gFm N (kM m + 1) i = -3 ∧ gFm N (kM m + 2) i = -1
  | 0, _, _, h, _ => absurd h (Nat.not_lt_zero _)
  | N + 1, m, i, h, hi => by
    show fil (gFm N) (kM N + 1) 24 (kM m + 1) i = -3 ∧ fil (gFm N) (kM N + 1) 24 (kM m + 2) i = -1
    by_cases e : m = N
    · subst e
      constructor
      · unfold fil
        rw [if_pos ⟨rfl, hi⟩]
      · unfold fil
        rw [if_neg (by omega), if_pos ⟨rfl, hi⟩]
    · rw [fil_lo (by unfold kM; omega), fil_lo (by unfold kM; omega)]
      exact gFm_in N m i (by omega) hi
theorem gFm_z : ∀ (N m d i : Nat), (d = 0 ∨ d = 3 ∨ d = 4 ∨ d = 5) → gFm N (kM m + d) i = 0
  | 0, _, _, _, _ => rfl
  | N + 1, m, d, i, h => by
    show fil (gFm N) (kM N + 1) 24 (kM m + d) i = 0
    unfold fil
    rw [if_neg (by unfold kM; omega), if_neg (by unfold kM; omega)]
    exact gFm_z N m d i h
theorem gI_lo {k i : Nat} (h : k < 58) : gI k i = gFm 8 k i := fil_lo h
theorem gI_z {k i : Nat} (h : 50 ≤ k) (h1 : k ≠ 58) (h2 : k ≠ 59) : gI k i = 0 := by
  unfold gI fil
  rw [if_neg (by omega), if_neg (by omega)]
  exact gFm_hi 8 k (by unfold kM; omega) i
theorem inv_gI : Inv gI := by
  have z : ∀ k i, 50 ≤ k → k ≠ 58 → k ≠ 59 → gI k i = 0 := fun k i => gI_z
  have hP : ∀ m, sP gI m = false := fun m => by
    unfold sP
    rw [z 55 m (by decide) (by decide) (by decide)]
    rfl
  have hL : ∀ m, sL gI m = false := fun m => by
    unfold sL
    rw [z 56 m (by decide) (by decide) (by decide)]
    rfl
  have hc : ∀ m, sc gI m = 0 := fun m => by
    unfold sc
    rw [z 60 m (by decide) (by decide) (by decide)]
    rfl
  have hF : ∀ m n, m < 8 → n < 24 → sF gI m n = -3 := fun m n hm hn => by
    unfold sF gI fil
    rw [if_pos ⟨rfl, by omega⟩]
  have hE : ∀ m n, m < 8 → n < 24 → sE gI m n = -1 := fun m n hm hn => by
    unfold sE gI fil
    rw [if_neg (by omega), if_pos ⟨rfl, by omega⟩]
  have ht : ∀ M, M ≤ 8 → tot gI M = 0 := by
    intro M
    induction M with
    | zero => intro _; rfl
    | succ M ih =>
      intro h
      rw [tot, ih (by omega)]
      have : cnE gI M = 0 := cnt_none (fun k hk => by rw [hE M k (by omega) hk]; decide)
      rw [this]
  refine ⟨gI, ⟨fun m hm => ?_, fun m hm => ?_, fun m hm h => ?_, fun m hm n hn => .inl (hF m n hm hn), fun m hm n hn => .inl (hE m n hm hn), fun m hm => ?_, fun m hm j hj => ?_, ?_⟩, ⟨?_, fun m hm => ?_, ?_, fun m hm => ?_, fun m hm => ⟨fun n hn => ?_, fun n hn => ?_, ?_, fun j hj => ?_, ?_, fun t ht => ?_, ?_, fun t ht => ?_⟩⟩, rfl, rfl, rfl, rfl, rfl, rfl, rfl, rfl, rfl, rfl⟩
  · rw [hP, z 55 m (by decide) (by decide) (by decide)]
    rfl
  · rw [hL, z 56 m (by decide) (by decide) (by decide)]
    rfl
  · rw [hL] at h
    cases h
  · rw [hc, z 60 m (by decide) (by decide) (by decide)]
    exact ⟨by decide, rfl⟩
  · rw [hc] at hj
    omega
  · rw [ht 8 (by decide), z 54 11 (by decide) (by decide) (by decide)]
    rfl
  · rw [gI_lo (by decide), gFm_0]
    exact sm8_zero
  · rw [gI_lo (by decide), gFm_0, hP, bt_zero]
  · rw [gI_lo (by decide), gFm_0]
    exact sm8_zero
  · rw [gI_lo (by decide), gFm_0, hL, bt_zero]
  · rw [gI_lo (by unfold kM; omega), (gFm_in 8 m n hm hn).1, hF m n hm hn]
  · rw [gI_lo (by unfold kM; omega), (gFm_in 8 m n hm hn).2, hE m n hm hn]
  · rw [gI_lo (by unfold kM; omega), show gFm 8 (kM m) 5 = 0 from gFm_z 8 m 0 5 (by omega), hc]
    rfl
  · rw [hc] at hj
    omega
  · rw [gI_lo (by unfold kM; omega), show gFm 8 (kM m) 6 = 0 from gFm_z 8 m 0 6 (by omega)]
    exact sm8_zero
  · rw [gI_lo (by unfold kM; omega), show gFm 8 (kM m) 6 = 0 from gFm_z 8 m 0 6 (by omega), bt_zero]
    unfold sdp
    rw [hc]
    rfl
  · rw [gI_lo (by unfold kM; omega), show gFm 8 (kM m) 7 = 0 from gFm_z 8 m 0 7 (by omega)]
    exact sm8_zero
  · rw [gI_lo (by unfold kM; omega), show gFm 8 (kM m) 7 = 0 from gFm_z 8 m 0 7 (by omega), bt_zero]
    unfold srq
    rw [hc]
    rfl
