/-! ===== fault of an empty text ===== -/
section HKF1
variable {d t c n : Nat} {r v w x y z : Int32} {s : Nat → Nat → Int32} {lm : Nat → Nat → Int64} {i0 i1 b : Nat} {al : List Nat} {k : Option Value → hk_H → Prop} {hp : hk_H}
theorem c_hasFlaw (h0 : s 24 5 = -1 → k (some (.int 0)) (s, lm, hk_RH i0 i1 b, al)) (h1 : ¬ s 24 5 = -1 → k (some (.int 1)) (s, lm, hk_RH i0 i1 b, al)) : hk_Cl (d + 1) 52 [.ref 24] (s, lm, hk_RH i0 i1 b, al) k := by
  refine hk_mth hk_m52 rfl rfl (n := 1000) ?_
  refine And.intro (fun c1 => ?_) (fun c1 => ?_)
  · exact And.intro (Or.inl rfl) (h0 c1)
  · exact And.intro (Or.inr rfl) (h1 c1)
theorem c_peekE (h : ¬ s 24 5 = -1 ∨ s 24 3 ≤ s 24 4) (h1 : k (some (.int (-1))) (s, lm, hk_RH i0 i1 b, al)) : hk_Cl (d + 2) 51 [.ref 24] (s, lm, hk_RH i0 i1 b, al) k := by
  refine hk_mth hk_m51 rfl rfl (n := 1000) ?_
  refine c_hasFlaw (fun e => ?_) (fun e => ?_)
  · have h2 : s 24 3 ≤ s 24 4 := h.elim (fun q => absurd e q) id
    refine And.intro (fun _ => ?_) (fun hc => absurd (by decide) hc)
    refine hk_hd (n := 1000) (t := 9) rfl ?_
    refine And.intro (fun _ => ?_) (fun hc => absurd h2 hc)
    refine And.intro (fun _ => ?_) (fun hc => absurd h2 hc)
    exact h1
  · refine And.intro (fun hc => absurd hc (by decide)) (fun _ => ?_)
    exact h1
theorem c_fail0 {a c : Int32} (h : s 24 5 = -1) (h1 : k none (hk_u2 s 24 5 (10 * a + c), lm, hk_RH i0 i1 b, al)) : hk_Cl (d + 1) 56 [.ref 24, .int a, .int c] (s, lm, hk_RH i0 i1 b, al) k := by
  refine hk_mth hk_m56 rfl rfl (n := 1000) ?_
  refine And.intro (fun hc => absurd hc (fun q : ¬ s 24 5 = -1 => q h)) (fun _ => ?_)
  exact h1
/-- an empty text, not read yet -/
def hk_em (s : Nat → Nat → Int32) : Prop := s 24 5 = -1 ∧ s 24 4 = 0 ∧ s 24 3 = 0
theorem hk_em_le (h : hk_em s) : s 24 3 ≤ s 24 4 := by
  rw [h.2.1, h.2.2]
  decide
theorem hk_em_fl : ¬ hk_u2 s 24 5 1 24 5 = -1 := by
  rw [hk_u2s]
  decide
theorem c_coreE (h : hk_em s) (h1 : k (some (.long 0)) (hk_u2 s 24 5 1, lm, hk_RH i0 i1 b, al)) : hk_Cl (d + 3) 54 [.ref 24, .int v] (s, lm, hk_RH i0 i1 b, al) k := by
  have e1 : (10 * s 24 4 + 1 : Int32) = 1 := by rw [h.2.1]; decide
  refine hk_mth hk_m54 rfl rfl (n := 1000) ?_
  refine c_peekE (Or.inr (hk_em_le h)) ?_
  refine And.intro (fun _ => ?_) (fun hc => absurd (by decide) hc)
  refine And.intro (fun hc => absurd hc (by decide)) (fun _ => ?_)
  refine And.intro (fun hc => absurd hc (by decide)) (fun _ => ?_)
  refine And.intro (fun hc => absurd hc (by decide)) (fun _ => ?_)
  refine And.intro (fun hc => absurd hc (by decide)) (fun _ => ?_)
  refine And.intro (fun hc => absurd hc (by decide)) (fun _ => ?_)
  refine And.intro (fun hc => absurd hc (by decide)) (fun _ => ?_)
  refine And.intro (fun hc => absurd hc (by decide)) (fun _ => ?_)
  refine c_fail0 h.1 ?_
  have h2 : k (some (.long 0)) (hk_u2 s 24 5 (10 * s 24 4 + 1), lm, hk_RH i0 i1 b, al) := by rw [e1]; exact h1
  exact h2
theorem c_unitE (h : hk_em s) (h1 : k (some (.long 0)) (hk_u2 s 24 5 1, lm, hk_RH i0 i1 b, al)) : hk_Cl (d + 4) 50 [.ref 24, .int v] (s, lm, hk_RH i0 i1 b, al) k := by
  have a1 : s 24 4 - 1 < s 24 4 := by rw [h.2.1]; decide
  refine hk_mth hk_m50 rfl rfl (n := 1000) ?_
  refine c_peekE (Or.inr (hk_em_le h)) ?_
  refine hk_hd (n := 1000) (t := 13) rfl ?_
  refine And.intro (fun hc => absurd hc (by decide)) (fun _ => ?_)
  refine And.intro (fun hc => absurd hc (by decide)) (fun _ => ?_)
  refine And.intro (fun _ => ?_) (fun hc => absurd (by decide) hc)
  refine c_coreE h ?_
  refine hk_hd (n := 1000) (t := 72) rfl ?_
  refine And.intro (fun _ => ?_) (fun hc => absurd a1 hc)
  exact h1
theorem c_termE (h : hk_em s) (h1 : k (some (.long 0)) (hk_u2 s 24 5 1, lm, hk_RH i0 i1 b, al)) : hk_Cl (d + 5) 49 [.ref 24, .int v] (s, lm, hk_RH i0 i1 b, al) k := by
  refine hk_mth hk_m49 rfl rfl (n := 1000) ?_
  refine c_unitE h ?_
  refine c_peekE (Or.inl hk_em_fl) ?_
  refine hk_hd (n := 1000) (t := 15) rfl ?_
  refine And.intro (fun hc => absurd hc (by decide)) (fun _ => ?_)
  refine And.intro (fun hc => absurd hc (by decide)) (fun _ => ?_)
  refine And.intro (fun _ => ?_) (fun hc => absurd (by decide) hc)
  exact h1
theorem c_sumE (h : hk_em s) (h1 : k (some (.long 0)) (hk_u2 s 24 5 1, lm, hk_RH i0 i1 b, al)) : hk_Cl (d + 6) 48 [.ref 24, .int v] (s, lm, hk_RH i0 i1 b, al) k := by
  refine hk_mth hk_m48 rfl rfl (n := 1000) ?_
  refine c_termE h ?_
  refine c_peekE (Or.inl hk_em_fl) ?_
  refine hk_hd (n := 1000) (t := 15) rfl ?_
  refine And.intro (fun hc => absurd hc (by decide)) (fun _ => ?_)
  refine And.intro (fun hc => absurd hc (by decide)) (fun _ => ?_)
  refine And.intro (fun _ => ?_) (fun hc => absurd (by decide) hc)
  exact h1
theorem c_heldE (h : hk_em s) (h1 : k (some (.long 0)) (hk_u2 s 24 5 1, lm, hk_RH i0 i1 b, al)) : hk_Cl (d + 7) 47 [.ref 24, .int v] (s, lm, hk_RH i0 i1 b, al) k := by
  refine hk_mth hk_m47 rfl rfl (n := 1000) ?_
  refine c_sumE h ?_
  refine c_peekE (Or.inl hk_em_fl) ?_
  refine And.intro (fun hc => absurd hc (by decide)) (fun _ => ?_)
  refine And.intro (fun hc => absurd hc (by decide)) (fun _ => ?_)
  refine And.intro (fun hc => absurd hc (by decide)) (fun _ => ?_)
  exact h1
theorem c_bothE (h : hk_em s) (h1 : k (some (.long 0)) (hk_u2 s 24 5 1, lm, hk_RH i0 i1 b, al)) : hk_Cl (d + 8) 46 [.ref 24, .int v] (s, lm, hk_RH i0 i1 b, al) k := by
  refine hk_mth hk_m46 rfl rfl (n := 1000) ?_
  refine c_heldE h ?_
  refine hk_hd (n := 1000) (t := 9) rfl ?_
  refine And.intro (fun hc => absurd hc (by decide)) (fun _ => ?_)
  refine c_peekE (Or.inl hk_em_fl) ?_
  refine And.intro (fun _ => ?_) (fun hc => absurd (by decide) hc)
  exact h1
theorem c_valueE (h : hk_em s) (h1 : k (some (.long 0)) (hk_u2 s 24 5 1, lm, hk_RH i0 i1 b, al)) : hk_Cl (d + 9) 45 [.ref 24, .int v] (s, lm, hk_RH i0 i1 b, al) k := by
  refine hk_mth hk_m45 rfl rfl (n := 1000) ?_
  refine c_bothE h ?_
  refine hk_hd (n := 1000) (t := 9) rfl ?_
  refine And.intro (fun hc => absurd hc (by decide)) (fun _ => ?_)
  refine c_peekE (Or.inl hk_em_fl) ?_
  refine And.intro (fun _ => ?_) (fun hc => absurd (by decide) hc)
  exact h1
theorem c_flawE (hw : hk_tw s 10 4) {j : Nat} (hj : j < 4) (hz : s 11 (j * 61) = 0) (h1 : ∀ s2, (∀ p q, p ≠ 24 → s2 p q = s p q) → k (some (.int 1)) (s2, lm, hk_RH i0 i1 b, al)) : hk_Cl (d + 11) 74 [.ref 24, .int (nI j)] (s, lm, hk_RH i0 i1 b, al) k := by
  have ht : hk_tb 10 := by simp [hk_tb]
  refine hk_mth hk_m74 rfl rfl (n := 1000) ?_
  refine hk_mth hk_m44 rfl rfl (n := 1000) ?_
  refine c_get_in (n := 4) ht ⟨?_, ?_, ?_, hw.2.2.2⟩ hj (j := 0) (by decide) ?_
  · exact hw.1
  · exact hw.2.1
  · exact hw.2.2.1
  have hz2 : hk_u2 (hk_u2 s 24 1 (nI j)) 24 2 (-1) (10 + 1) (j * hk_co 10 + 0) = 0 := by
    rw [hk_u2o (by omega), hk_u2o (by omega)]
    exact hz
  refine c_valueE (s := hk_u2 (hk_u2 (hk_u2 (hk_u2 (hk_u2 s 24 1 (nI j)) 24 2 (-1)) 24 3 (hk_u2 (hk_u2 s 24 1 (nI j)) 24 2 (-1) (10 + 1) (j * hk_co 10 + 0))) 24 4 0) 24 5 (-1)) ⟨hk_u2s, ?_, ?_⟩ ?_
  · rw [hk_u2o (by omega), hk_u2s]
  · rw [hk_u2o (by omega), hk_u2o (by omega), hk_u2s]
    exact hz2
  refine c_peekE (Or.inl hk_em_fl) ?_
  refine And.intro (fun _ => ?_) (fun hc => absurd (by decide) hc)
  refine c_hasFlaw (fun e => absurd e hk_em_fl) (fun _ => ?_)
  refine And.intro (fun hc => absurd hc (by decide)) (fun _ => ?_)
  exact h1 (hk_u2 (hk_u2 (hk_u2 (hk_u2 (hk_u2 (hk_u2 s 24 1 (nI j)) 24 2 (-1)) 24 3 (hk_u2 (hk_u2 s 24 1 (nI j)) 24 2 (-1) (10 + 1) (j * hk_co 10 + 0))) 24 4 0) 24 5 (-1)) 24 5 1) (fun p q hp => by
    rw [hk_u2o (by omega), hk_u2o (by omega), hk_u2o (by omega), hk_u2o (by omega), hk_u2o (by omega), hk_u2o (by omega)])
theorem c_faultE (hw : hk_tw s 10 4) (hz : ∀ j, j < 4 → s 11 (j * 61) = 0) (hb : (∀ j, z = nI j → ¬ j < 4) → k (some (.int (-2))) (s, lm, hk_RH i0 i1 b, al)) (hg : ∀ j, z = nI j → j < 4 → ∀ s2, (∀ p q, p ≠ 24 → s2 p q = s p q) → k (some (.int 1)) (s2, lm, hk_RH i0 i1 b, al)) : hk_Cl (d + 12) 73 [.ref 0, .int z] (s, lm, hk_RH i0 i1 b, al) k := by
  have ht : hk_tb 10 := by simp [hk_tb]
  refine hk_mth hk_m73 rfl rfl (n := 1000) ?_
  refine c_hasn ht hw (fun j e hj => ?_) (fun a => ?_)
  rotate_left
  · refine And.intro (fun _ => ?_) (fun hc => absurd (by decide) hc)
    exact hb a
  refine And.intro (fun hc => absurd hc (by decide)) (fun _ => ?_)
  subst e
  exact c_flawE hw hj (hz j hj) (hg j rfl hj)
theorem m_settles0 (h : s 40 7 = 0) (h1 : k none (s, lm, hk_RH i0 i1 b, al)) : hk_Cl (d + 1) 163 [.ref 40, .int v] (s, lm, hk_RH i0 i1 b, al) k := by
  have a1 : s 40 7 ≤ 0 := by rw [h]; decide
  refine hk_mth hk_m163 rfl rfl (n := 1000) ?_
  refine And.intro (fun _ => ?_) (fun hc => absurd a1 hc)
  exact h1
theorem m_readsE {j : Nat} (hj : j < 4) (hz : s 41 (1422 + 61 * j) = 0) (h1 : ∀ s2, (∀ p q, p ≠ 40 → s2 p q = s p q) → k (some (.int 1)) (s2, lm, hk_RH i0 i1 b, al)) : hk_Cl (d + 2) 162 [.ref 40, .int (nI j)] (s, lm, hk_RH i0 i1 b, al) k := by
  refine hk_mth hk_m162 rfl rfl (n := 1000) ?_
  refine hk_ldi (i := 1422 + 61 * nI j) (j := 1422 + 61 * j) (by simp only [hk_lit, pk_mul, nI_add]) (by omega) (by decide) hz ?_
  refine hk_hd (n := 1000) (t := 35) rfl ?_
  refine And.intro (fun _ => ?_) (fun hc => absurd (by decide) hc)
  refine m_settles0 hk_u2s ?_
  refine And.intro (fun _ => ?_) (fun hc => absurd (by decide) hc)
  exact h1 (hk_u2 (hk_u2 s 40 4 0) 40 7 0) (fun p q hp => by rw [hk_u2o (by omega), hk_u2o (by omega)])
theorem m_faultE (hz : ∀ j, j < 4 → s 41 (1422 + 61 * j) = 0) (hb : (∀ j, z = nI j → ¬ j < 4) → k (some (.int (-2))) (s, lm, hk_RH i0 i1 b, al)) (hg : ∀ j, z = nI j → j < 4 → ∀ s2, (∀ p q, p ≠ 40 → s2 p q = s p q) → k (some (.int 1)) (s2, lm, hk_RH i0 i1 b, al)) : hk_Cl (d + 3) 189 [.ref 40, .int z] (s, lm, hk_RH i0 i1 b, al) k := by
  refine hk_mth hk_m189 rfl rfl (n := 1000) ?_
  refine m_isText2 (fun a => ?_) (fun j e hj => ?_)
  · refine And.intro (fun _ => ?_) (fun hc => absurd (by decide) hc)
    exact hb a
  refine And.intro (fun hc => absurd hc (by decide)) (fun _ => ?_)
  subst e
  exact m_readsE hj (hz j hj) (hg j rfl hj)
theorem p_fault : hk_P2 73 189 [.int z] :=
  c_faultE (d := 988) ⟨rfl, rfl, rfl, by decide⟩ (fun j hj => hk_f11 hj) (fun hb => ⟨_, rfl, m_faultE (d := 997) (fun j hj => hk_ft hj) (fun _ => ⟨rfl, hk_rmo0⟩) (fun j e hj => absurd hj (hb j e))⟩) (fun j e hj s2 h2 => ⟨_, rfl, m_faultE (d := 997) (fun j hj => by rw [h2 _ _ (by omega)]; exact hk_ft hj) (fun hb => absurd hj (hb j e)) (fun i _ hi s3 h3 => ⟨rfl, hk_rmo0⟩)⟩)
end HKF1
