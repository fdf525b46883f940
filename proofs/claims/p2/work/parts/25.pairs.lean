/-! ===== one call on fresh objects, both sides ===== -/
def hk_rmo (al : List Nat) : Prop := al.length ≤ 600000 ∧ hk_sl hk_SH hk_cls al ≤ 7302250
theorem hk_rmo0 : hk_rmo (List.range 51) := ⟨by decide +kernel, by decide +kernel⟩
/-- the two calls answer the same number -/
def hk_P2 (X M : Nat) (a : List Value) : Prop := hk_Cl 1000 X (.ref 0 :: a) hk_FH (fun r1 h1 => ∃ x, r1 = some (.int x) ∧ hk_Cl 1000 M (.ref 40 :: a) h1 (fun r2 h2 => r2 = some (.int x) ∧ hk_rmo h2.2.2.2))
theorem hk_st0_o {s : Nat → Nat → Int32} {p q : Nat} (h : p ≠ 41 ∨ 1421 < q ∨ (14 < q ∧ q < 1412)) : hk_st0 s p q = s p q := by
  unfold hk_st0
  iterate 11 rw [hk_u2o (by omega)]
theorem hk_st0_z {q : Nat} (h : 1421 < q ∨ (14 < q ∧ q < 1412)) : hk_F0s 41 q = 0 := by
  unfold hk_F0s
  rw [hk_st0_o (Or.inr h)]
  rfl
theorem hk_wr {z v : Int32} {j : Nat} (e : z = nI j) (hj : j < 3) (h1 : ¬ v < 0) (h2 : ¬ 50 < v) : ¬ (z < 0 ∨ 2 < z ∨ v < 0 ∨ 50 < v) := by
  subst e
  rintro (h | h | h | h)
  · exact nI_pos (by omega) h
  · have h5 : nI 2 < nI j := h
    rw [nI_ltI (by omega) (by omega)] at h5
    omega
  · exact h1 h
  · exact h2 h
section HKP
variable {v w x z y : Int32}
theorem p_bound : hk_P2 20 145 [.int v] :=
  c_bound (d := 998) (fun hb => ⟨_, rfl, m_bound (d := 998) (fun _ => ⟨rfl, hk_rmo0⟩) (fun hg => absurd hg hb)⟩) (fun hg => ⟨_, rfl, m_bound (d := 998) (fun hb => absurd hg hb) (fun _ => ⟨rfl, hk_rmo0⟩)⟩)
theorem p_wire : hk_P2 21 146 [.int v] :=
  c_wire (d := 998) (fun hb => ⟨_, rfl, m_wire (d := 998) (fun _ => ⟨rfl, hk_rmo0⟩) (fun hg => absurd hg hb)⟩) (fun hg => ⟨_, rfl, m_wire (d := 998) (fun hb => absurd hg hb) (fun _ => ⟨rfl, hk_rmo0⟩)⟩)
theorem p_docks : hk_P2 80 194 [.int v, .int w] :=
  c_docks (d := 998) (fun hb => ⟨_, rfl, m_docks (d := 998) (fun _ => ⟨rfl, hk_rmo0⟩) (fun hg => absurd hg hb)⟩) (fun hg => ⟨_, rfl, m_docks (d := 998) (fun hb => absurd hg hb) (fun _ => ⟨rfl, hk_rmo0⟩)⟩)
theorem p_storm : hk_P2 24 148 [.int z, .int v] :=
  c_storm (d := 997) (fun hb => ⟨_, rfl, m_storm (d := 997) (fun _ => ⟨rfl, hk_rmo0⟩) (fun _ _ _ hg => absurd hg hb)⟩) (fun j ej hj hg => ⟨_, rfl, m_storm (d := 997) (fun hb => absurd hg hb) (fun i ei hi _ => ⟨by
    rw [hk_u2o (by omega), hk_st0_z (by omega)]
    rfl, hk_rmo0⟩)⟩)
theorem p_wave : hk_P2 108 210 [.int z, .int v] :=
  c_wave (d := 998) (fun hb => ⟨_, rfl, m_wave (d := 998) (fun _ => ⟨rfl, hk_rmo0⟩) (fun _ _ _ hg => absurd hg hb)⟩) (fun j ej hj hg => ⟨_, rfl, m_wave (d := 998) (fun hb => absurd hg hb) (fun i ei hi _ => ⟨by
    rw [hk_u2o (by omega), hk_st0_z (by omega)]
    rfl, hk_rmo0⟩)⟩)
theorem p_clear : hk_P2 99 205 [] := c_clear (d := 998) ⟨_, rfl, m_clear (d := 998) ⟨rfl, hk_rmo0⟩⟩
theorem p_drain : hk_P2 102 207 [] := c_drain (d := 998) ⟨_, rfl, m_drain (d := 998) ⟨rfl, hk_rmo0⟩⟩
theorem p_ship : hk_P2 11 135 [.int v, .int z, .int w, .int x] :=
  c_ship (d := 997) (n := 0) ⟨rfl, rfl, rfl, by decide⟩ (fun hb => ⟨_, rfl, m_ship (d := 997) (n := 0) (by decide) rfl (fun _ => ⟨rfl, hk_rmo0⟩) (fun hg => absurd hg hb) (fun hg => absurd hg hb)⟩) (fun _ h0 => absurd h0 (by decide)) (fun hg _ s2 h2 => ⟨_, rfl, m_ship (d := 997) (n := 0) (by decide) (by
    rw [hk_u2o (by omega), h2.1 41 0 (by omega) (by omega)]
    rfl) (fun hb => absurd hg hb) (fun _ h0 => absurd h0 (by decide)) (fun _ _ => ⟨rfl, hk_rmo0⟩)⟩)
theorem p_hull : hk_P2 78 193 [.int v, .int z, .int w] :=
  c_hull (d := 997) (n := 0) ⟨rfl, rfl, rfl, by decide⟩ (fun hb => ⟨_, rfl, m_hull (d := 997) (n := 0) (by decide) rfl (fun _ => ⟨rfl, hk_rmo0⟩) (fun hg => absurd hg hb) (fun hg => absurd hg hb)⟩) (fun _ h0 => absurd h0 (by decide)) (fun hg _ s2 h2 => ⟨_, rfl, m_hull (d := 997) (n := 0) (by decide) (by rw [h2.1 41 3 (by omega) (by omega), hk_u2o (by omega)]; rfl) (fun hb => absurd hg hb) (fun _ h0 => absurd h0 (by decide)) (fun _ _ => ⟨rfl, hk_rmo0⟩)⟩)
theorem p_hand : hk_P2 110 212 [.int v, .int z] :=
  c_hand (d := 997) (n := 0) ⟨rfl, rfl, rfl, by decide⟩ (fun hb => ⟨_, rfl, m_hand (d := 997) (n := 0) (by decide) rfl (fun _ => ⟨rfl, hk_rmo0⟩) (fun hg => absurd hg hb) (fun hg => absurd hg hb)⟩) (fun _ h0 => absurd h0 (by decide)) (fun hg _ s2 h2 => ⟨_, rfl, m_hand (d := 997) (n := 0) (by decide) (by rw [h2.1 41 5 (by omega) (by omega)]; rfl) (fun hb => absurd hg hb) (fun _ h0 => absurd h0 (by decide)) (fun _ _ => ⟨rfl, hk_rmo0⟩)⟩)
theorem p_work : hk_P2 111 213 [.int v, .int z, .int w] :=
  c_work (d := 997) (n := 0) ⟨rfl, rfl, rfl, by decide⟩ (fun hb => ⟨_, rfl, m_work (d := 997) (n := 0) (by decide) rfl (fun _ => ⟨rfl, hk_rmo0⟩) (fun hg => absurd hg hb) (fun hg => absurd hg hb)⟩) (fun _ h0 => absurd h0 (by decide)) (fun hg _ s2 h2 => ⟨_, rfl, m_work (d := 997) (n := 0) (by decide) (by rw [h2.1 41 6 (by omega) (by omega)]; rfl) (fun hb => absurd hg hb) (fun _ h0 => absurd h0 (by decide)) (fun _ _ => ⟨rfl, hk_rmo0⟩)⟩)
theorem p_wear : hk_P2 19 143 [.int z, .int v] :=
  c_wear (d := 998) (fun hb => ⟨_, rfl, m_wear (d := 998) (fun _ => ⟨rfl, hk_rmo0⟩) (fun j e hj h1 h2 => absurd hb (hk_wr e hj h1 h2))⟩) (fun j e hj h1 h2 => ⟨_, rfl, m_wear (d := 998) (fun hb => absurd hb (hk_wr e hj h1 h2)) (fun i ei hi _ _ => ⟨by
    have : i = j := by
      rw [e] at ei
      exact ((nI_eq (by omega) (by omega)).mp ei).symm
    subst this
    match i, hi with
    | 0, _ => rfl
    | 1, _ => rfl
    | 2, _ => rfl, hk_rmo0⟩)⟩)
end HKP
