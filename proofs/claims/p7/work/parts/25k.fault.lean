/-! ===== fault of an empty text ===== -/
section HKF1
variable {d t c n : Nat} {r v w x y z : Int32} {s : Nat → Nat → Int32} {lm : Nat → Nat → Int64} {i0 i1 b : Nat} {al : List Nat} {k : Option Value → hk_H → Prop} {hp : hk_H}
theorem c_hasFlaw (h0 : s 24 5 = -1 → k (some (.int 0)) (s, lm, hk_RH i0 i1 b, al)) (h1 : ¬ s 24 5 = -1 → k (some (.int 1)) (s, lm, hk_RH i0 i1 b, al)) : hk_Cl (d + 1) 52 [.ref 24] (s, lm, hk_RH i0 i1 b, al) k := by
  refine hk_mth hk_m52 rfl rfl (n := 1000) ?_
  refine And.intro (fun c1 => ?_) (fun c1 => ?_)
  · exact And.intro (Or.inl rfl) (h0 c1)
  · exact And.intro (Or.inr rfl) (h1 c1)
end HKF1
