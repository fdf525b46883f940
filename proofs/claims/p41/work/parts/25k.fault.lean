/-! ===== fault of an empty text ===== -/
section HKF1
variable {d t c n : Nat} {r v w x y z : Int32} {s : Nat → Nat → Int32} {lm : Nat → Nat → Int64} {i0 i1 b : Nat} {al : List Nat} {k : Option Value → hk_H → Prop} {hp : hk_H}
theorem c_hasFlaw (h0 : s 24 5 = -1 → k (some (.int 0)) (s, lm, hk_RH i0 i1 b, al)) (h1 : ¬ s 24 5 = -1 → k (some (.int 1)) (s, lm, hk_RH i0 i1 b, al)) : hk_Cl (d + 1) 52 [.ref 24] (s, lm, hk_RH i0 i1 b, al) k := by
  refine hk_mth hk_m52 rfl rfl (n := 1000) ?_
  refine And.intro (fun c1 => ?_) (fun c1 => ?_)
  · exact And.intro (Or.inl rfl) (h0 c1)
  · exact And.intro (Or.inr rfl) (h1 c1)
theorem c_peekE (h : ¬ s 24 5 = -1 ∨ s 24 3 ≤ s 24 4) (h1 : k (some (.int (-1))) (s, lm, hk_RH i0 i1 b, al)) : hk_Cl (d + 2) 51 [.ref 24] (s, lm, hk_RH i0 i1 b, al) k := by
  refine hk_mth hk_m51 rfl rfl (n := 1000) ?_
  refine c_hasFlaw (fun e => ?_) (fun e => ?_)
  · have h2 : s 24 3 ≤ s 24 4 := h.elim (fun q => absurd e q) id
    refine And.intro (fun _ => ?_) (fun hc => absurd (by decide) hc)
    refine hk_hd (n := 1000) (t := 9) rfl ?_
    refine And.intro (fun _ => ?_) (fun hc => absurd h2 hc)
    refine And.intro (fun _ => ?_) (fun hc => absurd h2 hc)
    exact h1
  · refine And.intro (fun hc => absurd hc (by decide)) (fun _ => ?_)
    exact h1
theorem c_fail0 {a c : Int32} (h : s 24 5 = -1) (h1 : k none (hk_u2 s 24 5 (10 * a + c), lm, hk_RH i0 i1 b, al)) : hk_Cl (d + 1) 56 [.ref 24, .int a, .int c] (s, lm, hk_RH i0 i1 b, al) k := by
  refine hk_mth hk_m56 rfl rfl (n := 1000) ?_
  refine And.intro (fun hc => absurd hc (fun q : ¬ s 24 5 = -1 => q h)) (fun _ => ?_)
  exact h1
end HKF1
