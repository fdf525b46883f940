/-! ===== calls that name a ship or a plate: on fresh objects there is none ===== -/
section HKN
variable {d t c : Nat} {r v w x y z : Int32} {s : Nat → Nat → Int32} {lm : Nat → Nat → Int64} {i0 i1 b : Nat} {al : List Nat} {k : Option Value → hk_H → Prop}
theorem c_nohas (ht : hk_tb t) (h0 : s t 3 = 0) (h1 : k (some (.int 0)) (s, lm, hk_RH i0 i1 b, al)) : hk_Cl (d + 1) 14 [.ref t, .int r] (s, lm, hk_RH i0 i1 b, al) k :=
  c_has ht (fun a1 a2 => absurd (by rw [h0]; exact Int32.not_lt.mp a1) a2) (fun _ => h1)
theorem m_nois (hc : c < 7) (h0 : s 41 c = 0) (h1 : k (some (.int 0)) (s, lm, hk_RH i0 i1 b, al)) : hk_Cl (d + 2) 139 [.ref 40, .int (nI c), .int r] (s, lm, hk_RH i0 i1 b, al) k :=
  m_is (n := 0) hc h0 (by omega) (fun _ _ hj => absurd hj (Nat.not_lt_zero _)) (fun _ => h1)
theorem c_fhas (h0 : s 4 3 = 0) (h1 : k (some (.int 0)) (s, lm, hk_RH i0 i1 b, al)) : hk_Cl (d + 1) 14 [.ref 4, .int r] (s, lm, hk_RH i0 i1 b, al) k := c_nohas (by simp [hk_tb]) h0 h1
theorem c_shas (h0 : s 2 3 = 0) (h1 : k (some (.int 0)) (s, lm, hk_RH i0 i1 b, al)) : hk_Cl (d + 1) 14 [.ref 2, .int r] (s, lm, hk_RH i0 i1 b, al) k := c_nohas (by simp [hk_tb]) h0 h1
theorem m_fis (h0 : s 41 1 = 0) (h1 : k (some (.int 0)) (s, lm, hk_RH i0 i1 b, al)) : hk_Cl (d + 2) 139 [.ref 40, .int 1, .int r] (s, lm, hk_RH i0 i1 b, al) k := m_nois (c := 1) (by omega) h0 h1
theorem m_sis (h0 : s 41 0 = 0) (h1 : k (some (.int 0)) (s, lm, hk_RH i0 i1 b, al)) : hk_Cl (d + 2) 139 [.ref 40, .int 0, .int r] (s, lm, hk_RH i0 i1 b, al) k := m_nois (c := 0) (by omega) h0 h1
theorem cn_plate (h0 : s 2 3 = 0) (h1 : k (some (.int (-2))) (s, lm, hk_RH i0 i1 b, al)) : hk_Cl (d + 3) 13 [.ref 0, .int v, .int w, .int x, .int y, .int z] (s, lm, hk_RH i0 i1 b, al) k := by
  refine hk_mth hk_m13 rfl rfl (n := 1000) ?_
  refine c_shas h0 ?_
  refine And.intro (fun _ => ?_) (fun hc => absurd (by decide) hc)
  exact h1
theorem mn_plate (h0 : s 41 0 = 0) (h1 : k (some (.int (-2))) (s, lm, hk_RH i0 i1 b, al)) : hk_Cl (d + 3) 138 [.ref 40, .int v, .int w, .int x, .int y, .int z] (s, lm, hk_RH i0 i1 b, al) k := by
  refine hk_mth hk_m138 rfl rfl (n := 1000) ?_
  refine m_sis h0 ?_
  refine And.intro (fun _ => ?_) (fun hc => absurd (by decide) hc)
  exact h1
theorem cn_lay (h0 : s 2 3 = 0) (h1 : k (some (.int (-2))) (s, lm, hk_RH i0 i1 b, al)) : hk_Cl (d + 3) 15 [.ref 0, .int v] (s, lm, hk_RH i0 i1 b, al) k := by
  refine hk_mth hk_m15 rfl rfl (n := 1000) ?_
  refine c_shas h0 ?_
  refine And.intro (fun hc => absurd hc (by decide)) (fun _ => ?_)
  exact h1
theorem mn_lay (h0 : s 41 0 = 0) (h1 : k (some (.int (-2))) (s, lm, hk_RH i0 i1 b, al)) : hk_Cl (d + 3) 140 [.ref 40, .int v] (s, lm, hk_RH i0 i1 b, al) k := by
  refine hk_mth hk_m140 rfl rfl (n := 1000) ?_
  refine m_sis h0 ?_
  refine And.intro (fun hc => absurd hc (by decide)) (fun _ => ?_)
  exact h1
theorem cn_crowd (h0 : s 2 3 = 0) (h1 : k (some (.int (-2))) (s, lm, hk_RH i0 i1 b, al)) : hk_Cl (d + 3) 22 [.ref 0, .int v, .int w] (s, lm, hk_RH i0 i1 b, al) k := by
  refine hk_mth hk_m22 rfl rfl (n := 1000) ?_
  refine c_shas h0 ?_
  refine And.intro (fun _ => ?_) (fun hc => absurd (by decide) hc)
  exact h1
theorem mn_crowd (h0 : s 41 0 = 0) (h1 : k (some (.int (-2))) (s, lm, hk_RH i0 i1 b, al)) : hk_Cl (d + 3) 147 [.ref 40, .int v, .int w] (s, lm, hk_RH i0 i1 b, al) k := by
  refine hk_mth hk_m147 rfl rfl (n := 1000) ?_
  refine m_sis h0 ?_
  refine And.intro (fun _ => ?_) (fun hc => absurd (by decide) hc)
  exact h1
theorem cn_about (h0 : s 2 3 = 0) (h1 : k (some (.int (-2))) (s, lm, hk_RH i0 i1 b, al)) : hk_Cl (d + 3) 38 [.ref 0, .int v, .int w] (s, lm, hk_RH i0 i1 b, al) k := by
  refine hk_mth hk_m38 rfl rfl (n := 1000) ?_
  refine c_shas h0 ?_
  refine And.intro (fun _ => ?_) (fun hc => absurd (by decide) hc)
  exact h1
theorem mn_about (h0 : s 41 0 = 0) (h1 : k (some (.int (-2))) (s, lm, hk_RH i0 i1 b, al)) : hk_Cl (d + 3) 155 [.ref 40, .int v, .int w] (s, lm, hk_RH i0 i1 b, al) k := by
  refine hk_mth hk_m155 rfl rfl (n := 1000) ?_
  refine m_sis h0 ?_
  refine And.intro (fun _ => ?_) (fun hc => absurd (by decide) hc)
  exact h1
theorem cn_plateAt (h0 : s 4 3 = 0) (h1 : k (some (.int (-10000))) (s, lm, hk_RH i0 i1 b, al)) : hk_Cl (d + 3) 41 [.ref 0, .int v, .int w] (s, lm, hk_RH i0 i1 b, al) k := by
  refine hk_mth hk_m41 rfl rfl (n := 1000) ?_
  refine c_fhas h0 ?_
  refine And.intro (fun _ => ?_) (fun hc => absurd (by decide) hc)
  exact h1
theorem mn_plateAt (h0 : s 41 1 = 0) (h1 : k (some (.int (-10000))) (s, lm, hk_RH i0 i1 b, al)) : hk_Cl (d + 3) 159 [.ref 40, .int v, .int w] (s, lm, hk_RH i0 i1 b, al) k := by
  refine hk_mth hk_m159 rfl rfl (n := 1000) ?_
  refine m_fis h0 ?_
  refine And.intro (fun _ => ?_) (fun hc => absurd (by decide) hc)
  exact h1
theorem cn_replace (h0 : s 4 3 = 0) (h1 : k (some (.int (-2))) (s, lm, hk_RH i0 i1 b, al)) : hk_Cl (d + 3) 42 [.ref 0, .int v, .int w] (s, lm, hk_RH i0 i1 b, al) k := by
  refine hk_mth hk_m42 rfl rfl (n := 1000) ?_
  refine c_fhas h0 ?_
  refine And.intro (fun _ => ?_) (fun hc => absurd (by decide) hc)
  exact h1
theorem mn_replace (h0 : s 41 1 = 0) (h1 : k (some (.int (-2))) (s, lm, hk_RH i0 i1 b, al)) : hk_Cl (d + 3) 160 [.ref 40, .int v, .int w] (s, lm, hk_RH i0 i1 b, al) k := by
  refine hk_mth hk_m160 rfl rfl (n := 1000) ?_
  refine m_fis h0 ?_
  refine And.intro (fun _ => ?_) (fun hc => absurd (by decide) hc)
  exact h1
theorem cn_move (h0 : s 4 3 = 0) (h1 : k (some (.int (-2))) (s, lm, hk_RH i0 i1 b, al)) : hk_Cl (d + 3) 59 [.ref 0, .int v, .int w] (s, lm, hk_RH i0 i1 b, al) k := by
  refine hk_mth hk_m59 rfl rfl (n := 1000) ?_
  refine c_fhas h0 ?_
  refine And.intro (fun _ => ?_) (fun hc => absurd (by decide) hc)
  exact h1
theorem mn_move (h0 : s 41 1 = 0) (h1 : k (some (.int (-2))) (s, lm, hk_RH i0 i1 b, al)) : hk_Cl (d + 3) 173 [.ref 40, .int v, .int w] (s, lm, hk_RH i0 i1 b, al) k := by
  refine hk_mth hk_m173 rfl rfl (n := 1000) ?_
  refine m_fis h0 ?_
  refine And.intro (fun _ => ?_) (fun hc => absurd (by decide) hc)
  exact h1
theorem cn_reading (h0 : s 4 3 = 0) (h1 : k (some (.int (-2))) (s, lm, hk_RH i0 i1 b, al)) : hk_Cl (d + 3) 60 [.ref 0, .int v, .int w, .int x, .int y, .int z] (s, lm, hk_RH i0 i1 b, al) k := by
  refine hk_mth hk_m60 rfl rfl (n := 1000) ?_
  refine c_fhas h0 ?_
  refine And.intro (fun _ => ?_) (fun hc => absurd (by decide) hc)
  exact h1
theorem mn_reading (h0 : s 41 1 = 0) (h1 : k (some (.int (-2))) (s, lm, hk_RH i0 i1 b, al)) : hk_Cl (d + 3) 174 [.ref 40, .int v, .int w, .int x, .int y, .int z] (s, lm, hk_RH i0 i1 b, al) k := by
  refine hk_mth hk_m174 rfl rfl (n := 1000) ?_
  refine m_fis h0 ?_
  refine And.intro (fun _ => ?_) (fun hc => absurd (by decide) hc)
  exact h1
theorem cn_guess (h0 : s 4 3 = 0) (h1 : k (some (.int (-2))) (s, lm, hk_RH i0 i1 b, al)) : hk_Cl (d + 3) 63 [.ref 0, .int v, .int w, .int x] (s, lm, hk_RH i0 i1 b, al) k := by
  refine hk_mth hk_m63 rfl rfl (n := 1000) ?_
  refine c_fhas h0 ?_
  refine And.intro (fun _ => ?_) (fun hc => absurd (by decide) hc)
  exact h1
theorem mn_guess (h0 : s 41 1 = 0) (h1 : k (some (.int (-2))) (s, lm, hk_RH i0 i1 b, al)) : hk_Cl (d + 3) 178 [.ref 40, .int v, .int w, .int x] (s, lm, hk_RH i0 i1 b, al) k := by
  refine hk_mth hk_m178 rfl rfl (n := 1000) ?_
  refine m_fis h0 ?_
  refine And.intro (fun _ => ?_) (fun hc => absurd (by decide) hc)
  exact h1
theorem cn_due (h0 : s 4 3 = 0) (h1 : k (some (.int (-2))) (s, lm, hk_RH i0 i1 b, al)) : hk_Cl (d + 3) 67 [.ref 0, .int v, .int w] (s, lm, hk_RH i0 i1 b, al) k := by
  refine hk_mth hk_m67 rfl rfl (n := 1000) ?_
  refine c_fhas h0 ?_
  refine And.intro (fun _ => ?_) (fun hc => absurd (by decide) hc)
  exact h1
theorem mn_due (h0 : s 41 1 = 0) (h1 : k (some (.int (-2))) (s, lm, hk_RH i0 i1 b, al)) : hk_Cl (d + 3) 183 [.ref 40, .int v, .int w] (s, lm, hk_RH i0 i1 b, al) k := by
  refine hk_mth hk_m183 rfl rfl (n := 1000) ?_
  refine m_fis h0 ?_
  refine And.intro (fun _ => ?_) (fun hc => absurd (by decide) hc)
  exact h1
theorem cn_first (h0 : s 2 3 = 0) (h1 : k (some (.int (-2))) (s, lm, hk_RH i0 i1 b, al)) : hk_Cl (d + 3) 69 [.ref 0, .int v, .int w] (s, lm, hk_RH i0 i1 b, al) k := by
  refine hk_mth hk_m69 rfl rfl (n := 1000) ?_
  refine c_shas h0 ?_
  refine And.intro (fun _ => ?_) (fun hc => absurd (by decide) hc)
  exact h1
theorem mn_first (h0 : s 41 0 = 0) (h1 : k (some (.int (-2))) (s, lm, hk_RH i0 i1 b, al)) : hk_Cl (d + 3) 185 [.ref 40, .int v, .int w] (s, lm, hk_RH i0 i1 b, al) k := by
  refine hk_mth hk_m185 rfl rfl (n := 1000) ?_
  refine m_sis h0 ?_
  refine And.intro (fun _ => ?_) (fun hc => absurd (by decide) hc)
  exact h1
theorem cn_charter (h0 : s 2 3 = 0) (h1 : k (some (.int (-10))) (s, lm, hk_RH i0 i1 b, al)) : hk_Cl (d + 3) 76 [.ref 0, .int v, .int w] (s, lm, hk_RH i0 i1 b, al) k := by
  refine hk_mth hk_m76 rfl rfl (n := 1000) ?_
  refine c_shas h0 ?_
  refine And.intro (fun _ => ?_) (fun hc => absurd (by decide) hc)
  exact h1
theorem mn_charter (h0 : s 41 0 = 0) (h1 : k (some (.int (-10))) (s, lm, hk_RH i0 i1 b, al)) : hk_Cl (d + 3) 191 [.ref 40, .int v, .int w] (s, lm, hk_RH i0 i1 b, al) k := by
  refine hk_mth hk_m191 rfl rfl (n := 1000) ?_
  refine m_sis h0 ?_
  refine And.intro (fun _ => ?_) (fun hc => absurd (by decide) hc)
  exact h1
theorem cn_unlike (h0 : s 2 3 = 0) (h1 : k (some (.int (-2))) (s, lm, hk_RH i0 i1 b, al)) : hk_Cl (d + 3) 77 [.ref 0, .int v, .int w, .int x, .int y] (s, lm, hk_RH i0 i1 b, al) k := by
  refine hk_mth hk_m77 rfl rfl (n := 1000) ?_
  refine c_shas h0 ?_
  refine And.intro (fun _ => ?_) (fun hc => absurd (by decide) hc)
  exact h1
theorem mn_unlike (h0 : s 41 0 = 0) (h1 : k (some (.int (-2))) (s, lm, hk_RH i0 i1 b, al)) : hk_Cl (d + 3) 192 [.ref 40, .int v, .int w, .int x, .int y] (s, lm, hk_RH i0 i1 b, al) k := by
  refine hk_mth hk_m192 rfl rfl (n := 1000) ?_
  refine m_sis h0 ?_
  refine And.intro (fun _ => ?_) (fun hc => absurd (by decide) hc)
  exact h1
/-- the two calls answer the same long -/
def hk_PJ (X M : Nat) (a : List Value) : Prop := hk_Cl 1000 X (.ref 0 :: a) hk_FH (fun r1 h1 => ∃ x, r1 = some (.long x) ∧ hk_Cl 1000 M (.ref 40 :: a) h1 (fun r2 h2 => r2 = some (.long x) ∧ hk_rmo h2.2.2.2))
theorem cn_tells (h0 : s 4 3 = 0) (h1 : k (some (.long (-2000000000000000000))) (s, lm, hk_RH i0 i1 b, al)) : hk_Cl (d + 3) 75 [.ref 0, .int v, .int w] (s, lm, hk_RH i0 i1 b, al) k := by
  refine hk_mth hk_m75 rfl rfl (n := 1000) ?_
  refine c_has (by simp [hk_tb]) (fun _ _ => ?_) (fun _ => ?_)
  · refine And.intro (fun hc => absurd hc (by decide)) (fun _ => ?_)
    refine c_fhas h0 ?_
    refine And.intro (fun hc => absurd hc (by decide)) (fun _ => ?_)
    exact h1
  · refine And.intro (fun _ => ?_) (fun hc => absurd (by decide) hc)
    exact h1
theorem m_isText (h0 : k (some (.int 0)) (s, lm, hk_RH i0 i1 b, al)) (h1 : ∀ j, v = nI j → j < 4 → k (some (.int 1)) (s, lm, hk_RH i0 i1 b, al)) : hk_Cl (d + 2) 187 [.int v] (s, lm, hk_RH i0 i1 b, al) k := by
  refine hk_mth hk_m187 rfl rfl (n := 1000) ?_
  refine m_in (fun (a1 : ¬ v < 0) (a2 : ¬ 3 < v) => ?_) (fun _ => ?_)
  · obtain ⟨j, hj, e⟩ := hk_rng (n := 3) (by decide) a1 a2
    exact And.intro (Or.inr rfl) (h1 j e (by omega))
  · exact And.intro (Or.inl rfl) h0
theorem mn_tells (h0 : s 41 1 = 0) (h1 : k (some (.long (-2000000000000000000))) (s, lm, hk_RH i0 i1 b, al)) : hk_Cl (d + 3) 190 [.ref 40, .int v, .int w] (s, lm, hk_RH i0 i1 b, al) k := by
  refine hk_mth hk_m190 rfl rfl (n := 1000) ?_
  refine m_isText ?_ (fun _ _ _ => ?_)
  · refine And.intro (fun _ => ?_) (fun hc => absurd (by decide) hc)
    exact h1
  · refine And.intro (fun hc => absurd hc (by decide)) (fun _ => ?_)
    refine m_fis h0 ?_
    refine And.intro (fun hc => absurd hc (by decide)) (fun _ => ?_)
    exact h1
theorem p_plate : hk_P2 13 138 [.int v, .int w, .int x, .int y, .int z] := cn_plate (d := 997) rfl ⟨_, rfl, mn_plate (d := 997) rfl ⟨rfl, hk_rmo0⟩⟩
theorem p_lay : hk_P2 15 140 [.int v] := cn_lay (d := 997) rfl ⟨_, rfl, mn_lay (d := 997) rfl ⟨rfl, hk_rmo0⟩⟩
theorem p_crowd : hk_P2 22 147 [.int v, .int w] := cn_crowd (d := 997) rfl ⟨_, rfl, mn_crowd (d := 997) rfl ⟨rfl, hk_rmo0⟩⟩
theorem p_about : hk_P2 38 155 [.int v, .int w] := cn_about (d := 997) rfl ⟨_, rfl, mn_about (d := 997) rfl ⟨rfl, hk_rmo0⟩⟩
theorem p_plateAt : hk_P2 41 159 [.int v, .int w] := cn_plateAt (d := 997) rfl ⟨_, rfl, mn_plateAt (d := 997) rfl ⟨rfl, hk_rmo0⟩⟩
theorem p_replace : hk_P2 42 160 [.int v, .int w] := cn_replace (d := 997) rfl ⟨_, rfl, mn_replace (d := 997) rfl ⟨rfl, hk_rmo0⟩⟩
theorem p_move : hk_P2 59 173 [.int v, .int w] := cn_move (d := 997) rfl ⟨_, rfl, mn_move (d := 997) rfl ⟨rfl, hk_rmo0⟩⟩
theorem p_reading : hk_P2 60 174 [.int v, .int w, .int x, .int y, .int z] := cn_reading (d := 997) rfl ⟨_, rfl, mn_reading (d := 997) rfl ⟨rfl, hk_rmo0⟩⟩
theorem p_guess : hk_P2 63 178 [.int v, .int w, .int x] := cn_guess (d := 997) rfl ⟨_, rfl, mn_guess (d := 997) rfl ⟨rfl, hk_rmo0⟩⟩
theorem p_due : hk_P2 67 183 [.int v, .int w] := cn_due (d := 997) rfl ⟨_, rfl, mn_due (d := 997) rfl ⟨rfl, hk_rmo0⟩⟩
theorem p_first : hk_P2 69 185 [.int v, .int w] := cn_first (d := 997) rfl ⟨_, rfl, mn_first (d := 997) rfl ⟨rfl, hk_rmo0⟩⟩
theorem p_charter : hk_P2 76 191 [.int v, .int w] := cn_charter (d := 997) rfl ⟨_, rfl, mn_charter (d := 997) rfl ⟨rfl, hk_rmo0⟩⟩
theorem p_unlike : hk_P2 77 192 [.int v, .int w, .int x, .int y] := cn_unlike (d := 997) rfl ⟨_, rfl, mn_unlike (d := 997) rfl ⟨rfl, hk_rmo0⟩⟩
theorem p_tells : hk_PJ 75 190 [.int v, .int w] := cn_tells (d := 997) rfl ⟨_, rfl, mn_tells (d := 997) rfl ⟨rfl, hk_rmo0⟩⟩
end HKN
