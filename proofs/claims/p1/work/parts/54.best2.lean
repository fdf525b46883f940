/-! ===== the reference's plan: the row of bests ===== -/
section HKD3
variable {d n a bb r : Nat} {v w x z : Int32} {s : Nat → Nat → Int32} {lm : Nat → Nat → Int64} {i0 i1 b : Nat} {al : List Nat} {k : Option Value → hk_H → Prop} {hp : hk_H}
theorem hk_Hu_fr {f g : Nat → Int32} {fl gn cn : Nat → Nat} {N D I : Nat} (h : hk_Hu f fl gn cn N D I) (e : ∀ q, g q = f q) : hk_Hu g fl gn cn N D I := by
  rw [show g = f from funext e]
  exact h
/-- one state of a year: its best -/
def hk_gF (s s3 : Nat → Nat → Int32) : Prop := ∀ p q, p ≠ 49 → p ≠ 50 → s3 p q = s p q
set_option maxHeartbeats 1000000 in
theorem m_best_x {fl gn cn : Nat → Nat} {N D I y X : Nat} (H : hk_Hu (s 41) fl gn cn N D I) (hy : y ≤ 9) (hX : X < 14641) (hB : ∀ X2, hk_Gd cn N I (y + 1) X2 → ∃ v, v ≤ 256 * (9 - y) ∧ s 49 ((y + 1) * 14641 + X2) = nI v) {l4 l5 l6 l7 l8 l9 : Option Value} (h1 : ∀ (s5 : Nat → Nat → Int32) (l4 l5 l6 l7 l8 l9 : Option Value), hk_gF s s5 → (∀ q, q ≠ y * 14641 + X → s5 49 q = s 49 q) → (hk_Gd cn N I y X → hk_Bq (s5 49) fl gn cn N D I y X) → hk_Rn (d + 4) none hk_c196 (hk_sfx 43 hk_c196) [some (.ref 40), some (.int (nI (2 ^ N))), some (.int (nI y)), some (.int (nI (X + 1))), l4, l5, l6, l7, l8, l9] [] (s5, lm, hk_RH i0 i1 b, al) k) : hk_Rn (d + 4) none hk_c196 (hk_sfx 43 hk_c196) [some (.ref 40), some (.int (nI (2 ^ N))), some (.int (nI y)), some (.int (nI X)), l4, l5, l6, l7, l8, l9] [] (s, lm, hk_RH i0 i1 b, al) k := by
  have hN := H.1
  have h2N : 2 ^ N ≤ 16 := Nat.pow_le_pow_right (n := 2) (by omega) hN
  have h2N1 : 1 ≤ 2 ^ N := Nat.one_le_two_pow
  have b1 : ¬ nI 14641 ≤ nI X := hk_nlt (by omega) (by omega)
  refine hk_hd (n := 1000) (t := 43) rfl ?_
  refine And.intro (fun hc => absurd hc b1) (fun _ => ?_)
  refine m_findD (u := X) (by omega) (fun s4 h4 hd => ?_)
  have H4 : hk_Hu (s4 41) fl gn cn N D I := hk_Hu_fr H (fun q => h4 41 q (by omega))
  have e3 : s4 41 3 = nI N := H4.2.2.2.1
  have f49 : ∀ q, s4 49 q = s 49 q := fun q => h4 49 q (by omega)
  have fcl : ∀ h, hk_fc fl gn X y h ≤ h := fun h => hk_fc_le h
  -- the store
  have st : ∀ (q : Nat) (M : Int32) (l4 l7 l8 l9 : Option Value), (hk_Gd cn N I y X → ∃ set m', set < 2 ^ N ∧ hk_dr fl gn cn N D I X y set ∧ s 49 ((y + 1) * 14641 + hk_dt X set N) - nI (hk_pc set) = M ∧ M = nI m' ∧ m' ≤ 256 * (9 - y)) → hk_wp (d + 4) none hk_c196 k (q + 60) (hk_sfx 229 hk_c196) [some (.ref 40), some (.int (nI (2 ^ N))), some (.int (nI y)), some (.int (nI X)), l4, some (.int (nI (hk_fc fl gn X y N))), some (.int M), l7, l8, l9] [] (s4, lm, hk_RH i0 i1 b, al) := by
    intro q M l4 l7 l8 l9 hg
    refine hk_stn (i := nI y * 14641 + nI X) (j := y * 14641 + X) hk_yx (by omega) (by decide) (fun s5 hs5 => ?_)
    have o5 : ∀ q, q ≠ y * 14641 + X → s5 49 q = s 49 q := fun q hq => by rw [hs5, hk_u2o (fun e => hq e.2)]; exact f49 q
    refine hk_Rn_cast (by rw [← nI_1 X]; rfl) (h1 s5 l4 (some (.int (nI (hk_fc fl gn X y N)))) (some (.int M)) l7 l8 l9 (fun p q p1 p2 => by rw [hs5, hk_u2o (fun e => p1 e.1)]; exact h4 p q p2) o5 (fun hG => ?_))
    obtain ⟨set, m', q1, q2, q3, q4, q5⟩ := hg hG
    have hnx := hk_Gd_next hN hy hG q2
    have eM : M + 64 * nI (hk_fc fl gn X y N) = nI (m' + 64 * hk_fc fl gn X y N) := by
      rw [q4, show (64 : Int32) * nI (hk_fc fl gn X y N) = nI (64 * hk_fc fl gn X y N) from pk_mul 64 _, nI_add]
    have hs : s5 49 (y * 14641 + X) = nI (m' + 64 * hk_fc fl gn X y N) := by rw [hs5, hk_u2s, ← eM]
    refine ⟨m' + 64 * hk_fc fl gn X y N, by have := fcl N; omega, hs, fun _ => ⟨set, q1, q2, ?_⟩⟩
    rw [o5 _ (by have := hnx.1; omega), q3, hs, eM]
  -- the sets
  have l152 : ∀ (g j : Nat) (M : Int32) (ma : Int32) (l8 l9 : Option Value), j + g = 2 ^ N → (ma = 0 → ¬ hk_Gd cn N I y X) → (¬ ma = 0 → ∀ h, h < 4 → hk_dg X h ≤ 9) → (hk_Gd cn N I y X → (j = 0 ∧ M = -100000) ∨ (0 < j ∧ ∃ set m', set < 2 ^ N ∧ hk_dr fl gn cn N D I X y set ∧ s 49 ((y + 1) * 14641 + hk_dt X set N) - nI (hk_pc set) = M ∧ M = nI m' ∧ m' ≤ 256 * (9 - y))) → hk_Rn (d + 4) none hk_c196 (hk_sfx 152 hk_c196) [some (.ref 40), some (.int (nI (2 ^ N))), some (.int (nI y)), some (.int (nI X)), some (.int ma), some (.int (nI (hk_fc fl gn X y N))), some (.int M), some (.int (nI j)), l8, l9] [] (s4, lm, hk_RH i0 i1 b, al) k := by
    intro g
    induction g with
    | zero =>
      intro j M ma l8 l9 hj hm0 hm9 hI
      have ej : j = 2 ^ N := by omega
      have a1 : nI (2 ^ N) ≤ nI j := by rw [ej]; exact Int32.le_refl _
      refine hk_hd (n := 1000) (t := 152) rfl ?_
      refine And.intro (fun _ => ?_) (fun hc => absurd a1 hc)
      exact st _ M _ _ l8 l9 (fun hG => (hI hG).elim (fun e => by omega) (fun e => e.2))
    | succ g ih =>
      intro j M ma l8 l9 hj hm0 hm9 hI
      have a1 : ¬ nI (2 ^ N) ≤ nI j := hk_nlt (by omega) (by omega)
      refine hk_hd (n := 1000) (t := 152) rfl ?_
      refine And.intro (fun hc => absurd hc a1) (fun _ => ?_)
      refine And.intro (fun cm => ?_) (fun cm => ?_)
      · have cm : ma = 0 := cm
        exact st _ M _ _ l8 l9 (fun hG => absurd hG (hm0 cm))
      have cm : ¬ ma = 0 := cm
      have h9 := hm9 cm
      obtain ⟨tb, _⟩ := hk_dg_dt (y := y) (set := j) hN hX h9
      have nx : ∀ (M2 : Int32) (v8 v9 : Int32), (hk_Gd cn N I y X → ∃ set m', set < 2 ^ N ∧ hk_dr fl gn cn N D I X y set ∧ s 49 ((y + 1) * 14641 + hk_dt X set N) - nI (hk_pc set) = M2 ∧ M2 = nI m' ∧ m' ≤ 256 * (9 - y)) → hk_Rn (d + 4) none hk_c196 (hk_sfx 152 hk_c196) [some (.ref 40), some (.int (nI (2 ^ N))), some (.int (nI y)), some (.int (nI X)), some (.int ma), some (.int (nI (hk_fc fl gn X y N))), some (.int M2), some (.int (nI j + 1)), some (.int v8), some (.int v9)] [] (s4, lm, hk_RH i0 i1 b, al) k := fun M2 v8 v9 hh => hk_Rn_cast (by rw [nI_1]) (ih (j + 1) M2 ma _ _ (by omega) hm0 hm9 (fun hG => Or.inr ⟨by omega, hh hG⟩))
      sorry
  -- the places
  have l64 : ∀ (g h : Nat) (ma : Int32), h + g = 4 → (ma = 0 ∨ ma = 1) → (ma = 1 ↔ ∀ h', h' < h → hk_dg X h' ≤ hk_cap N y h') → hk_Rn (d + 4) none hk_c196 (hk_sfx 64 hk_c196) [some (.ref 40), some (.int (nI (2 ^ N))), some (.int (nI y)), some (.int (nI X)), some (.int ma), some (.int (nI (hk_fc fl gn X y (min h N)))), some (.int (nI h)), l7, l8, l9] [] (s4, lm, hk_RH i0 i1 b, al) k := by
    sorry
  exact l64 4 0 1 (by omega) (Or.inr rfl) ⟨fun _ h' hh => absurd hh (Nat.not_lt_zero _), fun _ => rfl⟩
end HKD3
