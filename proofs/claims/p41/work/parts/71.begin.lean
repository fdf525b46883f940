/-! ===== the invariant of the fresh objects ===== -/
theorem hk_F0_z {p q : Nat} (h : p = 5 ∨ p = 21 ∨ p = 22 ∨ p = 3 ∨ p = 11 ∨ p = 13 ∨ p = 15 ∨ p = 17 ∨ p = 19) : hk_F0s p q = 0 := by
  unfold hk_F0s
  rw [hk_st0_o (by omega)]
  rcases h with h | h | h | h | h | h | h | h | h <;> subst h <;> rfl
theorem hk_F0_Rel : hk_Rel hk_F0s 1 (hk_F0s 41) := by
  intro a i q hl
  unfold hk_LP at hl
  rcases hl with ⟨rfl, rfl, rfl⟩ | ⟨rfl, rfl, rfl⟩ | ⟨rfl, rfl, rfl⟩ | ⟨rfl, rfl, rfl⟩ | ⟨rfl, rfl, rfl⟩ | ⟨rfl, rfl, rfl⟩ | ⟨rfl, l1, l2, l3⟩ | ⟨rfl, l1, rfl⟩ | ⟨rfl, l1, rfl⟩ | ⟨rfl, l1, rfl⟩ | ⟨rfl, l1, rfl⟩ | ⟨rfl, l1, rfl⟩ | ⟨rfl, l1, rfl⟩ | ⟨rfl, l1, rfl⟩ | ⟨rfl, l1, rfl⟩ | ⟨rfl, l1, rfl⟩ | ⟨rfl, l1, rfl⟩ | ⟨rfl, l1, rfl⟩
  · rfl
  · rfl
  · rfl
  · rfl
  · rfl
  · rfl
  · have hc : i = 12 ∨ i = 13 ∨ i = 14 ∨ i = 15 ∨ i = 16 := by omega
    rcases hc with rfl | rfl | rfl | rfl | rfl
    · have : q = 7 := by omega
      subst this; rfl
    · have : q = 8 := by omega
      subst this; rfl
    · have : q = 9 := by omega
      subst this; rfl
    · have : q = 10 := by omega
      subst this; rfl
    · have : q = 11 := by omega
      subst this; rfl
  · match i, l1 with
    | 0, _ => rfl
    | 1, _ => rfl
    | 2, _ => rfl
  · rw [hk_F0_z (by omega), hk_st0_z (by omega)]
  · rw [hk_F0_z (by omega), hk_st0_z (by omega)]
  · match i, l1 with
    | 0, _ => rfl
    | 1, _ => rfl
    | 2, _ => rfl
    | 3, _ => rfl
    | 4, _ => rfl
    | 5, _ => rfl
    | 6, _ => rfl
    | 7, _ => rfl
    | 8, _ => rfl
    | 9, _ => rfl
    | 10, _ => rfl
    | 11, _ => rfl
  · rw [hk_F0_z (by omega), hk_st0_z (by omega)]
  · rw [hk_F0_z (by omega), hk_st0_z (by omega)]
  · rw [hk_F0_z (by omega), hk_st0_z (by omega)]
  · rw [hk_F0_z (by omega), hk_st0_z (by omega)]
  · rw [hk_F0_z (by omega), hk_st0_z (by omega)]
  · rw [hk_F0_z (by omega), hk_st0_z (by omega)]
  · rw [hk_F0_z (by omega), hk_st0_z (by omega)]
theorem hk_F0_RP : hk_RP (hk_F0s 41) := by
  refine ⟨fun z hz => ?_, fun n hn en i hi => ?_, fun n hn en i hi => ?_⟩
  · match z, hz with
    | 0, _ => exact ⟨1, by omega, rfl⟩
    | 1, _ => exact ⟨4, by omega, rfl⟩
    | 2, _ => exact ⟨2, by omega, rfl⟩
  · have en : nI 0 = nI n := en
    rw [nI_eq (by omega) (by omega)] at en
    omega
  · have en : nI 0 = nI n := en
    rw [nI_eq (by omega) (by omega)] at en
    omega
theorem hk_F0_RI : hk_RI (hk_F0s 41) 0 0 0 := by
  refine ⟨⟨by omega, by omega, by omega⟩, ⟨rfl, rfl, rfl⟩, fun i hi => absurd hi (Nat.not_lt_zero i), fun i hi => absurd hi (Nat.not_lt_zero i), fun i hi => absurd hi (Nat.not_lt_zero i), fun i hi => absurd hi (Nat.not_lt_zero i), ⟨0, by omega, rfl⟩, fun t ht => ⟨0, by omega, ?_⟩, ⟨0, by omega, rfl, fun i hi => absurd hi (Nat.not_lt_zero i)⟩, ⟨0, by omega, rfl⟩, ⟨0, by omega, rfl⟩, ⟨0, by omega, rfl, fun n hn en i hi => ?_, fun n hn en i hi => ?_, fun q q1 q2 => by rw [hk_st0_z (by omega)]; decide⟩, ⟨1, by omega, rfl, hk_F0_RP⟩, ⟨100, by omega, rfl⟩⟩
  · rw [hk_st0_z (by omega)]
    rfl
  · have en : nI 0 = nI n := en
    rw [nI_eq (by omega) (by omega)] at en
    omega
  · have en : nI 0 = nI n := en
    rw [nI_eq (by omega) (by omega)] at en
    omega
theorem hk_Inv0 : hk_Inv hk_FH := by
  refine ⟨hk_F0s, hk_F0l, 0, 0, 35, List.range 51, rfl, Or.inl ⟨rfl, rfl, Or.inl ⟨rfl, rfl⟩⟩, ⟨fun t ht => ?_, ⟨rfl, rfl, rfl, by decide⟩, ⟨rfl, rfl, rfl, by decide⟩⟩, hk_F0_Rel, ⟨0, 0, 0, hk_F0_RI⟩, Or.inl ⟨rfl, rfl⟩, Or.inl ⟨rfl, rfl⟩⟩
  have h := hk_fS ((t - 2) / 2) (by unfold hk_tb at ht; omega)
  rwa [show 1 + 1 + 2 * ((t - 2) / 2) = t by unfold hk_tb at ht; omega] at h
theorem hk_Inv_rm {h : hk_H} (hi : hk_Inv h) : hk_rmo h.2.2.2 := by
  obtain ⟨s, lm, i0, i1, b, al, rfl, hc, _⟩ := hi
  exact hk_cfg_rm hc
