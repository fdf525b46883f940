/-! ===== the small methods of both ===== -/
section HKS
variable {d : Nat} {v lo hi : Int32} {s : Nat → Nat → Int32} {lm : Nat → Nat → Int64} {i0 i1 b : Nat} {al : List Nat} {k : Option Value → hk_H → Prop} {h : hk_H}
theorem c_within (h1 : ¬ v < lo → ¬ hi < v → k (some (.int 1)) h) (h0 : v < lo ∨ hi < v → k (some (.int 0)) h) : hk_Cl (d + 1) 12 [.int v, .int lo, .int hi] h k := by
  refine hk_mth hk_m12 rfl rfl (n := 1000) ?_
  refine And.intro (fun c1 => ?_) (fun c1 => ?_)
  · exact And.intro (Or.inl rfl) (h0 (Or.inl c1))
  refine And.intro (fun c2 => ?_) (fun c2 => ?_)
  · exact And.intro (Or.inl rfl) (h0 (Or.inr c2))
  exact And.intro (Or.inr rfl) (h1 c1 c2)
theorem m_in (h1 : ¬ v < lo → ¬ hi < v → k (some (.int 1)) h) (h0 : v < lo ∨ hi < v → k (some (.int 0)) h) : hk_Cl (d + 1) 136 [.int v, .int lo, .int hi] h k := by
  refine hk_mth hk_m136 rfl rfl (n := 1000) ?_
  refine And.intro (fun c1 => ?_) (fun c1 => ?_)
  · exact And.intro (Or.inl rfl) (h0 (Or.inl c1))
  refine And.intro (fun c2 => ?_) (fun c2 => ?_)
  · exact And.intro (Or.inl rfl) (h0 (Or.inr c2))
  exact And.intro (Or.inr rfl) (h1 c1 c2)
theorem c_isMonth (h1 : ¬ v < 0 → ¬ 599 < v → k (some (.int 1)) h) (h0 : v < 0 ∨ 599 < v → k (some (.int 0)) h) : hk_Cl (d + 2) 25 [.int v] h k := by
  refine hk_mth hk_m25 rfl rfl (n := 1000) ?_
  refine c_within (fun a1 a2 => ?_) (fun a => ?_)
  · exact And.intro (Or.inr rfl) (h1 a1 a2)
  · exact And.intro (Or.inl rfl) (h0 a)
theorem c_within0 (h0 : v < lo ∨ hi < v → k (some (.int 0)) h) (h1 : ¬ v < lo → ¬ hi < v → k (some (.int 1)) h) : hk_Cl (d + 1) 12 [.int v, .int lo, .int hi] h k := c_within h1 h0
theorem m_in0 (h0 : v < lo ∨ hi < v → k (some (.int 0)) h) (h1 : ¬ v < lo → ¬ hi < v → k (some (.int 1)) h) : hk_Cl (d + 1) 136 [.int v, .int lo, .int hi] h k := m_in h1 h0
/-- the reference: row i of a kind is there -/
theorem m_is {c n : Nat} (hc : c < 7) (hs : s 41 c = nI n) (hn : n < 2 ^ 30) (h1 : ∀ j, v = nI j → j < n → k (some (.int 1)) (s, lm, hk_RH i0 i1 b, al)) (h0 : v < 0 ∨ nI n ≤ v → k (some (.int 0)) (s, lm, hk_RH i0 i1 b, al)) : hk_Cl (d + 2) 139 [.ref 40, .int (nI c), .int v] (s, lm, hk_RH i0 i1 b, al) k := by
  refine hk_mth hk_m139 rfl rfl (n := 1000) ?_
  refine hk_ldi (i := nI c) (j := c) (by simp only [hk_lit, pk_mul, nI_add]) (by omega) (by decide) hs ?_
  refine m_in (fun (a1 : ¬ v < 0) (a2 : ¬ nI n - 1 < v) => ?_) (fun (a : v < 0 ∨ nI n - 1 < v) => ?_)
  · obtain ⟨j, hj, rfl⟩ := nI_of a1
    refine And.intro (Or.inr rfl) (h1 j rfl ?_)
    by_cases hjn : j < n
    · exact hjn
    · exfalso
      refine a2 ?_
      cases n with
      | zero =>
        show nI 0 - 1 < nI j
        refine Int32.lt_iff_toInt_lt.mpr ?_
        rw [nI_toInt hj]
        show (-1 : Int) < _
        omega
      | succ n =>
        rw [nI_pred]
        exact nI_lt (by omega) hj
  · refine And.intro (Or.inl rfl) (h0 ?_)
    rcases a with a | a
    · exact Or.inl a
    · cases n with
      | zero =>
        by_cases hv : v < 0
        · exact Or.inl hv
        · exact Or.inr (Int32.not_lt.mp hv)
      | succ n =>
        rw [nI_pred] at a
        by_cases hv : v < 0
        · exact Or.inl hv
        · obtain ⟨j, hj, rfl⟩ := nI_of hv
          rw [nI_ltI (by omega) hj] at a
          exact Or.inr (nI_le (by omega) hj)
theorem m_one {c n : Nat} (hc : c < 7) (hs : s 41 c = nI n) (h1 : k (some (.int (nI n))) (hk_u2 s 41 c (nI (n + 1)), lm, hk_RH i0 i1 b, al)) : hk_Cl (d + 1) 137 [.ref 40, .int (nI c)] (s, lm, hk_RH i0 i1 b, al) k := by
  refine hk_mth hk_m137 rfl rfl (n := 1000) ?_
  refine hk_ldi (i := nI c) (j := c) (by simp only [hk_lit, pk_mul, nI_add]) (by omega) (by decide) hs ?_
  refine hk_sti2 (i := nI c) (j := c) (by simp only [hk_lit, pk_mul, nI_add]) (by omega) (by decide) (nI_1 n) ?_
  refine hk_ldi (i := nI c) (j := c) (by simp only [hk_lit, pk_mul, nI_add]) (by omega) (by decide) (hk_u2s : hk_u2 s 41 c (nI (n + 1)) 41 c = _) ?_
  have h1 : k (some (.int (nI (n + 1) - 1))) (hk_u2 s 41 c (nI (n + 1)), lm, hk_RH i0 i1 b, al) := by rw [nI_pred]; exact h1
  exact h1
theorem m_puts {j : Nat} (hj : j < 2448) (h1 : k (some (.int (s 41 j))) (hk_u2 s 41 j v, lm, hk_RH i0 i1 b, al)) : hk_Cl (d + 1) 144 [.ref 40, .int (nI j), .int v] (s, lm, hk_RH i0 i1 b, al) k := by
  refine hk_mth hk_m144 rfl rfl (n := 1000) ?_
  refine hk_ldi (i := nI j) (j := j) (by simp only [hk_lit, pk_mul, nI_add]) (by omega) (by decide) rfl ?_
  refine hk_sti (i := nI j) (j := j) (by simp only [hk_lit, pk_mul, nI_add]) (by omega) (by decide) ?_
  exact h1
theorem c_forget {s : Nat → Nat → Int32} (h1 : k none (hk_u2 s 29 11 0, lm, hk_RH i0 i1 b, al)) : hk_Cl (d + 1) 79 [.ref 29] (s, lm, hk_RH i0 i1 b, al) k := by
  refine hk_mth hk_m79 rfl rfl (n := 1000) ?_
  exact And.intro (Or.inl rfl) h1
end HKS
