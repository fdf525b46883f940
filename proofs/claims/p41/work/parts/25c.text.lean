/-! ===== gauges and texts: bias, right, write, erase, test ===== -/
theorem hk_v4 {r a v : Value} {x x2 : Int32} (e : x = x2) : [r, a, .int x, v] = [r, a, .int x2, v] := by rw [e]
theorem hk_v4l {r a v : Value} {x x2 : Int32} (e : x = x2) : [r, a, v, .int x] = [r, a, v, .int x2] := by rw [e]
section HKG
variable {d t c n : Nat} {r v w x y z : Int32} {s : Nat → Nat → Int32} {lm : Nat → Nat → Int64} {i0 i1 b : Nat} {al : List Nat} {k : Option Value → hk_H → Prop}
theorem c_hasn (ht : hk_tb t) (hw : hk_tw s t n) (h1 : ∀ j, r = nI j → j < n → k (some (.int 1)) (s, lm, hk_RH i0 i1 b, al)) (h0 : (∀ j, r = nI j → ¬ j < n) → k (some (.int 0)) (s, lm, hk_RH i0 i1 b, al)) : hk_Cl (d + 1) 14 [.ref t, .int r] (s, lm, hk_RH i0 i1 b, al) k := by
  have hn : n < 2 ^ 30 := by have := hk_mo31 ht; have := hw.2.2.2; omega
  refine c_has ht (fun a1 a2 => ?_) (fun a => h0 fun j e hj => ?_)
  · obtain ⟨j, hj, rfl⟩ := nI_of a1
    refine h1 j rfl ?_
    rw [hw.2.2.1, nI_leI (by omega) hj] at a2
    omega
  · subst e
    rcases a with a | a
    · exact nI_pos (by omega) a
    · rw [hw.2.2.1] at a
      exact hk_nlt hj (by omega) a
theorem c_bias (hw : hk_tw s 8 4) (hb : (∀ j, z = nI j → j < 4 → ¬ hk_rg v (-100) 100) → k (some (.int (-1000))) (s, lm, hk_RH i0 i1 b, al)) (hn : ∀ j, z = nI j → j < 4 → hk_rg v (-100) 100 → ¬ s 9 (j * 3 + 2) = -1 → k (some (.int (-2000))) (s, lm, hk_RH i0 i1 b, al)) (hg : ∀ j, z = nI j → j < 4 → hk_rg v (-100) 100 → s 9 (j * 3 + 2) = -1 → k (some (.int (s 9 (j * 3)))) (hk_u2 s 9 (j * 3) v, lm, hk_RH i0 i1 b, al)) : hk_Cl (d + 3) 61 [.ref 0, .int z, .int v] (s, lm, hk_RH i0 i1 b, al) k := by
  have ht : hk_tb 8 := by simp [hk_tb]
  refine hk_mth hk_m61 rfl rfl (n := 1000) ?_
  refine c_hasn ht hw (fun j e hj => ?_) (fun a => ?_)
  rotate_left
  · refine And.intro (fun _ => ?_) (fun hc => absurd (by decide) hc)
    exact hb (fun j e hj => absurd hj (a j e))
  refine And.intro (fun hc => absurd hc (by decide)) (fun _ => ?_)
  refine c_within (fun p0 q0 => ?_) (fun a => ?_)
  rotate_left
  · refine And.intro (fun hc => absurd hc (by decide)) (fun _ => ?_)
    exact hb (fun _ _ _ q => a.elim q.1 q.2)
  refine And.intro (fun _ => ?_) (fun hc => absurd (by decide) hc)
  subst e
  refine c_get_in ht hw hj (j := 2) (by decide) ?_
  refine And.intro (fun c1 => ?_) (fun c1 => ?_)
  · refine c_swap_in ht hw hj (j := 0) (by decide) ?_
    exact hg j rfl hj ⟨p0, q0⟩ c1
  · exact hn j rfl hj ⟨p0, q0⟩ c1
theorem c_right (hw : hk_tw s 8 4) (hb : (∀ j, z = nI j → j < 4 → ¬ (hk_rg v (-100) 100 ∧ hk_rg w 0 599)) → k (some (.int (-2))) (s, lm, hk_RH i0 i1 b, al)) (hn : ∀ j, z = nI j → j < 4 → hk_rg v (-100) 100 ∧ hk_rg w 0 599 → ¬ s 9 (j * 3 + 2) = -1 → k (some (.int (-3))) (s, lm, hk_RH i0 i1 b, al)) (hg : ∀ j, z = nI j → j < 4 → hk_rg v (-100) 100 ∧ hk_rg w 0 599 → s 9 (j * 3 + 2) = -1 → k (some (.int 1)) (hk_u2 (hk_u2 s 9 (j * 3 + 1) v) 9 (j * 3 + 2) w, lm, hk_RH i0 i1 b, al)) : hk_Cl (d + 3) 62 [.ref 0, .int z, .int v, .int w] (s, lm, hk_RH i0 i1 b, al) k := by
  have ht : hk_tb 8 := by simp [hk_tb]
  refine hk_mth hk_m62 rfl rfl (n := 1000) ?_
  refine c_hasn ht hw (fun j e hj => ?_) (fun a => ?_)
  rotate_left
  · refine And.intro (fun _ => ?_) (fun hc => absurd (by decide) hc)
    exact hb (fun j e hj => absurd hj (a j e))
  refine And.intro (fun hc => absurd hc (by decide)) (fun _ => ?_)
  refine c_within (fun p0 q0 => ?_) (fun a => ?_)
  rotate_left
  · refine And.intro (fun _ => ?_) (fun hc => absurd (by decide) hc)
    exact hb (fun _ _ _ q => a.elim q.1.1 q.1.2)
  refine And.intro (fun hc => absurd hc (by decide)) (fun _ => ?_)
  refine c_isMonth (fun p1 q1 => ?_) (fun a => ?_)
  rotate_left
  · refine And.intro (fun hc => absurd hc (by decide)) (fun _ => ?_)
    exact hb (fun _ _ _ q => a.elim q.2.1 q.2.2)
  refine And.intro (fun _ => ?_) (fun hc => absurd (by decide) hc)
  subst e
  refine c_get_in ht hw hj (j := 2) (by decide) ?_
  refine And.intro (fun c1 => ?_) (fun c1 => ?_)
  rotate_left
  · exact hn j rfl hj ⟨⟨p0, q0⟩, ⟨p1, q1⟩⟩ c1
  refine c_put_in ht hw (i := j) hj (j := 1) (by decide) ?_
  refine c_put_in ht (n := 4) ⟨?_, ?_, ?_, hw.2.2.2⟩ (i := j) hj (j := 2) (by decide) ?_
  · rw [hk_u2o (by omega)]; exact hw.1
  · rw [hk_u2o (by omega)]; exact hw.2.1
  · rw [hk_u2o (by omega)]; exact hw.2.2.1
  exact hg j rfl hj ⟨⟨p0, q0⟩, ⟨p1, q1⟩⟩ c1
theorem c_write (hw : hk_tw s 10 4) (hb : (∀ j, z = nI j → j < 4 → ¬ hk_rg v 0 127) → k (some (.int (-2))) (s, lm, hk_RH i0 i1 b, al)) (hf : ∀ j, z = nI j → j < 4 → hk_rg v 0 127 → ¬ s 11 (j * 61) < 60 → k (some (.int (-4))) (s, lm, hk_RH i0 i1 b, al)) (hs : ∀ j, j < 4 → ∃ m, m ≤ 60 ∧ s 11 (j * 61) = nI m) (hg : ∀ j m, z = nI j → j < 4 → hk_rg v 0 127 → m < 60 → s 11 (j * 61) = nI m → k (some (.int (nI (m + 1)))) (hk_u2 (hk_u2 s 11 (j * 61 + (1 + m)) v) 11 (j * 61) (nI (m + 1)), lm, hk_RH i0 i1 b, al)) : hk_Cl (d + 3) 71 [.ref 0, .int z, .int v] (s, lm, hk_RH i0 i1 b, al) k := by
  have ht : hk_tb 10 := by simp [hk_tb]
  refine hk_mth hk_m71 rfl rfl (n := 1000) ?_
  refine c_hasn ht hw (fun j e hj => ?_) (fun a => ?_)
  rotate_left
  · refine And.intro (fun _ => ?_) (fun hc => absurd (by decide) hc)
    exact hb (fun j e hj => absurd hj (a j e))
  refine And.intro (fun hc => absurd hc (by decide)) (fun _ => ?_)
  refine c_within (fun p0 q0 => ?_) (fun a => ?_)
  rotate_left
  · refine And.intro (fun hc => absurd hc (by decide)) (fun _ => ?_)
    exact hb (fun _ _ _ q => a.elim q.1 q.2)
  refine And.intro (fun _ => ?_) (fun hc => absurd (by decide) hc)
  subst e
  obtain ⟨m, hm, em⟩ := hs j hj
  refine c_get_in ht hw hj (j := 0) (by decide) ?_
  refine And.intro (fun c1 => ?_) (fun c1 => ?_)
  rotate_left
  · exact hf j rfl hj ⟨p0, q0⟩ c1
  have em2 : s (10 + 1) (j * hk_co 10 + 0) = nI m := em
  have hm2 : m < 60 := by
    have c2 : s 11 (j * 61) < nI 60 := c1
    rw [em, nI_ltI (by omega) (by omega)] at c2
    exact c2
  rw [em2]
  refine hk_Cl_arg (hk_v4 (show (1 : Int32) + nI m = nI (1 + m) from nI_add 1 m)) ?_
  refine c_put_in ht hw (i := j) hj (j := 1 + m) (by show 1 + m < 61; omega) ?_
  refine hk_Cl_arg (hk_v4l (show nI m + (1 : Int32) = nI (m + 1) from nI_1 m)) ?_
  refine c_put_in ht (n := 4) ⟨?_, ?_, ?_, hw.2.2.2⟩ (i := j) hj (j := 0) (by decide) ?_
  · rw [hk_u2o (by omega)]; exact hw.1
  · rw [hk_u2o (by omega)]; exact hw.2.1
  · rw [hk_u2o (by omega)]; exact hw.2.2.1
  have := hg j m rfl hj ⟨p0, q0⟩ hm2 em
  rw [← nI_1] at this ⊢
  exact this
theorem c_erase (hw : hk_tw s 10 4) (hb : (∀ j, z = nI j → ¬ j < 4) → k (some (.int (-2))) (s, lm, hk_RH i0 i1 b, al)) (hg : ∀ j, z = nI j → j < 4 → k (some (.int (s 11 (j * 61)))) (hk_u2 s 11 (j * 61) 0, lm, hk_RH i0 i1 b, al)) : hk_Cl (d + 3) 72 [.ref 0, .int z] (s, lm, hk_RH i0 i1 b, al) k := by
  have ht : hk_tb 10 := by simp [hk_tb]
  refine hk_mth hk_m72 rfl rfl (n := 1000) ?_
  refine c_hasn ht hw (fun j e hj => ?_) (fun a => ?_)
  rotate_left
  · refine And.intro (fun _ => ?_) (fun hc => absurd (by decide) hc)
    exact hb a
  refine And.intro (fun hc => absurd hc (by decide)) (fun _ => ?_)
  subst e
  exact c_swap_in ht hw hj (j := 0) (by decide) (hg j rfl hj)
end HKG
section HKG2
variable {d t c n : Nat} {r v w x y z : Int32} {s : Nat → Nat → Int32} {lm : Nat → Nat → Int64} {i0 i1 b : Nat} {al : List Nat} {k : Option Value → hk_H → Prop}
theorem m_isBias (h0 : (∀ j, z = nI j → j < 4 → ¬ hk_rg v (-100) 100) → k (some (.int 0)) (s, lm, hk_RH i0 i1 b, al)) (h1 : ∀ j, z = nI j → j < 4 → hk_rg v (-100) 100 → k (some (.int 1)) (s, lm, hk_RH i0 i1 b, al)) : hk_Cl (d + 2) 176 [.int z, .int v] (s, lm, hk_RH i0 i1 b, al) k := by
  refine hk_mth hk_m176 rfl rfl (n := 1000) ?_
  refine m_in (fun (a1 : ¬ z < 0) (a2 : ¬ 3 < z) => ?_) (fun (a : z < 0 ∨ 3 < z) => ?_)
  rotate_left
  · refine And.intro (fun _ => ?_) (fun hc => absurd (by decide) hc)
    refine And.intro (Or.inl rfl) (h0 fun j e hj _ => ?_)
    subst e
    rcases a with a | a
    · exact nI_pos (by omega) a
    · have a : nI 3 < nI j := a
      rw [nI_ltI (by omega) (by omega)] at a
      omega
  refine And.intro (fun hc => absurd hc (by decide)) (fun _ => ?_)
  obtain ⟨j, hj, e⟩ := hk_rng (n := 3) (by decide) a1 a2
  refine m_in (fun p0 q0 => ?_) (fun a => ?_)
  · refine And.intro (fun hc => absurd hc (by decide)) (fun _ => ?_)
    exact And.intro (Or.inr rfl) (h1 j e (by omega) ⟨p0, q0⟩)
  · refine And.intro (fun _ => ?_) (fun hc => absurd (by decide) hc)
    exact And.intro (Or.inl rfl) (h0 fun _ _ _ q => a.elim q.1 q.2)
theorem m_bias (hb : (∀ j, z = nI j → j < 4 → ¬ hk_rg v (-100) 100) → k (some (.int (-1000))) (s, lm, hk_RH i0 i1 b, al)) (hn : ∀ j, z = nI j → j < 4 → hk_rg v (-100) 100 → ¬ s 41 (1410 + 3 * j + 2) = -1 → k (some (.int (-2000))) (s, lm, hk_RH i0 i1 b, al)) (hg : ∀ j, z = nI j → j < 4 → hk_rg v (-100) 100 → s 41 (1410 + 3 * j + 2) = -1 → k (some (.int (s 41 (1410 + 3 * j)))) (hk_u2 s 41 (1410 + 3 * j) v, lm, hk_RH i0 i1 b, al)) : hk_Cl (d + 3) 175 [.ref 40, .int z, .int v] (s, lm, hk_RH i0 i1 b, al) k := by
  refine hk_mth hk_m175 rfl rfl (n := 1000) ?_
  refine m_isBias (fun a => ?_) (fun j e hj p => ?_)
  · refine And.intro (fun hc => absurd hc (by decide)) (fun _ => ?_)
    exact hb a
  refine And.intro (fun _ => ?_) (fun hc => absurd (by decide) hc)
  subst e
  refine hk_ldi (i := 1410 + 3 * nI j + 2) (j := 1410 + 3 * j + 2) (by simp only [hk_lit, pk_mul, nI_add]) (by omega) (by decide) rfl ?_
  refine And.intro (fun c1 => ?_) (fun c1 => ?_)
  · refine hk_Cl_arg (hk_v3 (show (1410 : Int32) + 3 * nI j = nI (1410 + 3 * j) by simp only [hk_lit, pk_mul, nI_add])) ?_
    exact m_puts (by omega) (hg j rfl hj p c1)
  · exact hn j rfl hj p c1
theorem m_right (hb : (∀ j, z = nI j → j < 4 → ¬ (hk_rg v (-100) 100 ∧ hk_rg w 0 599)) → k (some (.int (-2))) (s, lm, hk_RH i0 i1 b, al)) (hn : ∀ j, z = nI j → j < 4 → hk_rg v (-100) 100 ∧ hk_rg w 0 599 → ¬ s 41 (1410 + 3 * j + 2) = -1 → k (some (.int (-3))) (s, lm, hk_RH i0 i1 b, al)) (hg : ∀ j, z = nI j → j < 4 → hk_rg v (-100) 100 ∧ hk_rg w 0 599 → s 41 (1410 + 3 * j + 2) = -1 → k (some (.int 1)) (hk_u2 (hk_u2 s 41 (1410 + 3 * j + 1) v) 41 (1410 + 3 * j + 2) w, lm, hk_RH i0 i1 b, al)) : hk_Cl (d + 3) 177 [.ref 40, .int z, .int v, .int w] (s, lm, hk_RH i0 i1 b, al) k := by
  refine hk_mth hk_m177 rfl rfl (n := 1000) ?_
  refine m_isBias (fun a => ?_) (fun j e hj p => ?_)
  · refine And.intro (fun _ => ?_) (fun hc => absurd (by decide) hc)
    exact hb (fun j e hj q => a j e hj q.1)
  refine And.intro (fun hc => absurd hc (by decide)) (fun _ => ?_)
  refine m_in (fun p1 q1 => ?_) (fun a => ?_)
  rotate_left
  · refine And.intro (fun hc => absurd hc (by decide)) (fun _ => ?_)
    exact hb (fun _ _ _ q => a.elim q.2.1 q.2.2)
  refine And.intro (fun _ => ?_) (fun hc => absurd (by decide) hc)
  subst e
  refine hk_ldi (i := 1410 + 3 * nI j + 2) (j := 1410 + 3 * j + 2) (by simp only [hk_lit, pk_mul, nI_add]) (by omega) (by decide) rfl ?_
  refine And.intro (fun c1 => ?_) (fun c1 => ?_)
  rotate_left
  · exact hn j rfl hj ⟨p, ⟨p1, q1⟩⟩ c1
  refine hk_stn (i := 1410 + 3 * nI j + 1) (j := 1410 + 3 * j + 1) (by simp only [hk_lit, pk_mul, nI_add]) (by omega) (by decide) (fun s1 (hs1 : s1 = hk_u2 s 41 (1410 + 3 * j + 1) v) => ?_)
  refine hk_stn (i := 1410 + 3 * nI j + 2) (j := 1410 + 3 * j + 2) (by simp only [hk_lit, pk_mul, nI_add]) (by omega) (by decide) (fun s2 (hs2 : s2 = hk_u2 s1 41 (1410 + 3 * j + 2) w) => ?_)
  subst hs2 hs1
  exact hg j rfl hj ⟨p, ⟨p1, q1⟩⟩ c1
theorem m_isText2 (h0 : (∀ j, v = nI j → ¬ j < 4) → k (some (.int 0)) (s, lm, hk_RH i0 i1 b, al)) (h1 : ∀ j, v = nI j → j < 4 → k (some (.int 1)) (s, lm, hk_RH i0 i1 b, al)) : hk_Cl (d + 2) 187 [.int v] (s, lm, hk_RH i0 i1 b, al) k := by
  refine hk_mth hk_m187 rfl rfl (n := 1000) ?_
  refine m_in (fun (a1 : ¬ v < 0) (a2 : ¬ 3 < v) => ?_) (fun (a : v < 0 ∨ 3 < v) => ?_)
  · obtain ⟨j, hj, e⟩ := hk_rng (n := 3) (by decide) a1 a2
    exact And.intro (Or.inr rfl) (h1 j e (by omega))
  · refine And.intro (Or.inl rfl) (h0 fun j e hj => ?_)
    subst e
    rcases a with a | a
    · exact nI_pos (by omega) a
    · have a : nI 3 < nI j := a
      rw [nI_ltI (by omega) (by omega)] at a
      omega
theorem m_write (hb : (∀ j, z = nI j → j < 4 → ¬ hk_rg v 0 127) → k (some (.int (-2))) (s, lm, hk_RH i0 i1 b, al)) (hs : ∀ j, j < 4 → ∃ m, m ≤ 60 ∧ s 41 (1422 + 61 * j) = nI m) (hf : ∀ j, z = nI j → j < 4 → hk_rg v 0 127 → s 41 (1422 + 61 * j) = nI 60 → k (some (.int (-4))) (s, lm, hk_RH i0 i1 b, al)) (hg : ∀ j m, z = nI j → j < 4 → hk_rg v 0 127 → m < 60 → s 41 (1422 + 61 * j) = nI m → k (some (.int (nI (m + 1)))) (hk_u2 (hk_u2 s 41 (1422 + 61 * j) (nI (m + 1))) 41 (1422 + 61 * j + (m + 1)) v, lm, hk_RH i0 i1 b, al)) : hk_Cl (d + 3) 186 [.ref 40, .int z, .int v] (s, lm, hk_RH i0 i1 b, al) k := by
  refine hk_mth hk_m186 rfl rfl (n := 1000) ?_
  refine m_isText2 (fun a => ?_) (fun j e hj => ?_)
  · refine And.intro (fun _ => ?_) (fun hc => absurd (by decide) hc)
    exact hb (fun j e hj => absurd hj (a j e))
  refine And.intro (fun hc => absurd hc (by decide)) (fun _ => ?_)
  refine m_in (fun p0 q0 => ?_) (fun a => ?_)
  rotate_left
  · refine And.intro (fun hc => absurd hc (by decide)) (fun _ => ?_)
    exact hb (fun _ _ _ q => a.elim q.1 q.2)
  refine And.intro (fun _ => ?_) (fun hc => absurd (by decide) hc)
  subst e
  obtain ⟨m, hm, em⟩ := hs j hj
  refine hk_ldi (i := 1422 + 61 * nI j) (j := 1422 + 61 * j) (by simp only [hk_lit, pk_mul, nI_add]) (by omega) (by decide) em ?_
  refine And.intro (fun c1 => ?_) (fun c1 => ?_)
  rotate_left
  · have c1 : ¬ ¬ nI m = nI 60 := c1
    exact hf j rfl hj ⟨p0, q0⟩ (em.trans (Classical.not_not.mp c1))
  have hm2 : m < 60 := by
    have c1 : ¬ nI m = nI 60 := c1
    rw [nI_eq (by omega) (by omega)] at c1
    omega
  refine hk_ldi (i := 1422 + 61 * nI j) (j := 1422 + 61 * j) (by simp only [hk_lit, pk_mul, nI_add]) (by omega) (by decide) em ?_
  refine hk_stn (i := 1422 + 61 * nI j) (j := 1422 + 61 * j) (x := nI m + 1) (by simp only [hk_lit, pk_mul, nI_add]) (by omega) (by decide) (fun s1 hs1 => ?_)
  rw [nI_1] at hs1
  have e1 : s1 41 (1422 + 61 * j) = nI (m + 1) := by rw [hs1, hk_u2s]
  refine hk_ldi (i := 1422 + 61 * nI j) (j := 1422 + 61 * j) (by simp only [hk_lit, pk_mul, nI_add]) (by omega) (by decide) e1 ?_
  refine hk_stn (i := 1422 + 61 * nI j + nI (m + 1)) (j := 1422 + 61 * j + (m + 1)) (by simp only [hk_lit, pk_mul, nI_add]) (by omega) (by decide) (fun s2 (hs2 : s2 = hk_u2 s1 41 (1422 + 61 * j + (m + 1)) v) => ?_)
  have e2 : s2 41 (1422 + 61 * j) = nI (m + 1) := by rw [hs2, hk_u2o (by omega), e1]
  refine hk_ldi (i := 1422 + 61 * nI j) (j := 1422 + 61 * j) (by simp only [hk_lit, pk_mul, nI_add]) (by omega) (by decide) e2 ?_
  subst hs2 hs1
  exact hg j m rfl hj ⟨p0, q0⟩ hm2 em
theorem m_erase (hb : (∀ j, z = nI j → ¬ j < 4) → k (some (.int (-2))) (s, lm, hk_RH i0 i1 b, al)) (hg : ∀ j, z = nI j → j < 4 → k (some (.int (s 41 (1422 + 61 * j)))) (hk_u2 s 41 (1422 + 61 * j) 0, lm, hk_RH i0 i1 b, al)) : hk_Cl (d + 3) 188 [.ref 40, .int z] (s, lm, hk_RH i0 i1 b, al) k := by
  refine hk_mth hk_m188 rfl rfl (n := 1000) ?_
  refine m_isText2 (fun a => ?_) (fun j e hj => ?_)
  · refine And.intro (fun _ => ?_) (fun hc => absurd (by decide) hc)
    exact hb a
  refine And.intro (fun hc => absurd hc (by decide)) (fun _ => ?_)
  subst e
  refine hk_Cl_arg (hk_v3 (show (1422 : Int32) + 61 * nI j = nI (1422 + 61 * j) by simp only [hk_lit, pk_mul, nI_add])) ?_
  exact m_puts (by omega) (hg j rfl hj)
theorem m_test (hn : n ≤ 20) (hs : s 41 4 = nI n) (hz : z = 0 ∨ z = 1) (hb : ¬ hk_rg v 0 4095 → k (some (.int (-2))) (s, lm, hk_RH i0 i1 b, al)) (hf : hk_rg v 0 4095 → n = 20 → k (some (.int (-4))) (s, lm, hk_RH i0 i1 b, al))
    (hg : hk_rg v 0 4095 → n < 20 → k (some (.int (nI n))) (hk_u2 (hk_u2 (hk_u2 s 41 (1678 + 2 * n) v) 41 (1678 + 2 * n + 1) z) 41 4 (nI (n + 1)), lm, hk_RH i0 i1 b, al)) : hk_Cl (d + 3) 206 [.ref 40, .int v, .int z] (s, lm, hk_RH i0 i1 b, al) k := by
  refine hk_mth hk_m206 rfl rfl (n := 1000) ?_
  refine m_in0 (fun (a : v < 0 ∨ 4095 < v) => ?_) (fun (p0 : ¬ v < 0) (q0 : ¬ 4095 < v) => ?_)
  · refine And.intro (fun hc => absurd hc (by decide)) (fun _ => ?_)
    exact hb (fun q => a.elim q.1 q.2)
  refine And.intro (fun _ => ?_) (fun hc => absurd (by decide) hc)
  refine hk_ldi (i := nI 4) (j := 4) (by simp only [hk_lit, pk_mul, nI_add]) (by omega) (by decide) hs ?_
  refine And.intro (fun c1 => ?_) (fun c1 => ?_)
  rotate_left
  · have c1 : ¬ ¬ nI n = nI 20 := c1
    exact hf ⟨p0, q0⟩ (by
      rw [Classical.not_not, nI_eq (by omega) (by omega)] at c1
      exact c1)
  have hn6 : n < 20 := by
    have c1 : ¬ nI n = nI 20 := c1
    rw [nI_eq (by omega) (by omega)] at c1
    omega
  refine hk_ldi (i := nI 4) (j := 4) (by simp only [hk_lit, pk_mul, nI_add]) (by omega) (by decide) hs ?_
  refine hk_stn (i := 1678 + 2 * nI n) (j := 1678 + 2 * n) (by simp only [hk_lit, pk_mul, nI_add]) (by omega) (by decide) (fun s1 (hs1 : s1 = hk_u2 s 41 (1678 + 2 * n) v) => ?_)
  have e1 : s1 41 4 = nI n := by rw [hs1, hk_u2o (by omega)]; exact hs
  refine hk_ldi (i := nI 4) (j := 4) (by simp only [hk_lit, pk_mul, nI_add]) (by omega) (by decide) e1 ?_
  rcases hz with rfl | rfl
  · refine And.intro (fun _ => ?_) (fun hc => absurd (by decide) hc)
    refine hk_stn (i := 1678 + 2 * nI n + 1) (j := 1678 + 2 * n + 1) (by simp only [hk_lit, pk_mul, nI_add]) (by omega) (by decide) (fun s2 (hs2 : s2 = hk_u2 s1 41 (1678 + 2 * n + 1) 0) => ?_)
    refine m_one (c := 4) (n := n) (by omega) ?_ ?_
    · show s2 41 4 = nI n
      rw [hs2, hk_u2o (by omega)]
      exact e1
    subst hs2 hs1
    exact hg ⟨p0, q0⟩ hn6
  · refine And.intro (fun hc => absurd hc (by decide)) (fun _ => ?_)
    refine hk_stn (i := 1678 + 2 * nI n + 1) (j := 1678 + 2 * n + 1) (by simp only [hk_lit, pk_mul, nI_add]) (by omega) (by decide) (fun s2 (hs2 : s2 = hk_u2 s1 41 (1678 + 2 * n + 1) 1) => ?_)
    refine m_one (c := 4) (n := n) (by omega) ?_ ?_
    · show s2 41 4 = nI n
      rw [hs2, hk_u2o (by omega)]
      exact e1
    subst hs2 hs1
    exact hg ⟨p0, q0⟩ hn6
end HKG2
/-! ===== pairs ===== -/
section HKP3
variable {v w x z y : Int32}
end HKP3
