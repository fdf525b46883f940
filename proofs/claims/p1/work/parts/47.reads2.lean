/-! ===== the reference reads any text: the loop ===== -/
section HKC3
variable {d n a bb r i k m o : Nat} {v w x y z : Int32} {s : Nat → Nat → Int32} {lm : Nat → Nat → Int64} {i0 i1 b : Nat} {al : List Nat} {K : Option Value → hk_H → Prop}
/-- what a reading leaves -/
def hk_Rd (s s2 : Nat → Nat → Int32) (u : Int32) : Prop := hk_FP s s2 ∧ (u = -1 → ∃ k h, k ≤ 60 ∧ s2 40 4 = nI k ∧ hk_vh (s2 45) k = some h)
theorem hk_Rd_p {s s2 : Nat → Nat → Int32} {q : Nat} (h : hk_FP s s2) (hq : q < 2 ^ 31) : hk_Rd s s2 (nI q) := ⟨h, fun e => absurd (show (-1 : Int32) < 0 by decide) (by rw [← e]; exact nI_pos hq)⟩
set_option maxHeartbeats 1000000 in
theorem m_reads_l {t n : Nat} (ht : t < 4) (hn : n ≤ 60) (hK : ∀ s2 u, hk_Rd s s2 u → K (some (.int u)) (s2, lm, hk_RH i0 i1 b, al)) : ∀ (g i k m o wh : Nat) (s3 : Nat → Nat → Int32) (l7 l8 l9 : Option Value), n ≤ i + g → i ≤ n → wh ≤ 1 → hk_Pa s3 i k m o (some wh) → hk_FP s s3 → hk_Rn (d + 4) none hk_c162 (hk_sfx 35 hk_c162) [some (.ref 40), some (.int (nI t)), some (.int (nI (1422 + 61 * t))), some (.int (nI n)), some (.int (nI o)), some (.int (nI wh)), some (.int (nI i)), l7, l8, l9] [] (s3, lm, hk_RH i0 i1 b, al) K := by
  have he : ∀ x, some 1 = some x → x = 1 := fun x hx => by cases hx; rfl
  have hn1 : ∀ x : Nat, (none : Option Nat) = some x → x = 1 := fun x hx => by cases hx
  intro g
  induction g with
  | zero =>
    intro i k m o wh s3 l7 l8 l9 hg hi hwh h3 f3
    have e : i = n := by omega
    subst e
    have hm := h3.2.2.1
    refine hk_hd (n := 1000) (t := 35) rfl ?_
    refine And.intro (fun _ => ?_) (fun hc => absurd (Int32.le_refl _) hc)
    have cl : wh = 0 ∨ wh = 1 := by omega
    rcases cl with rfl | rfl
    · have h4 : hk_Pa s3 i k m o none := ⟨h3.1, h3.2.1, h3.2.2.1, h3.2.2.2.1, h3.2.2.2.2.1, fun x hx => by cases hx⟩
      refine m_settles (t := 1) (by omega) (by omega) hn1 (by omega) h4 (fun s4 k4 m4 h5 f5 _ => ?_)
      refine And.intro (fun _ => ?_) (fun hc => absurd (by decide) hc)
      have fin := hK s4 (nI (10 * i + 1)) (hk_Rd_p (hk_FP_t f3 f5) (by omega))
      rw [← nI_1, ← pk_mul] at fin
      exact fin
    · refine m_settles (t := 1) (by omega) (by omega) he (by omega) h3 (fun s4 k4 m4 h5 f5 _ => ?_)
      refine And.intro (fun hc => absurd hc (by decide)) (fun _ => ?_)
      refine And.intro (fun c1 => ?_) (fun c1 => ?_)
      · have fin := hK s4 (nI (10 * i + 1)) (hk_Rd_p (hk_FP_t f3 f5) (by omega))
        rw [← nI_1, ← pk_mul] at fin
        exact fin
      · exact hK s4 (-1) ⟨hk_FP_t f3 f5, fun _ => ⟨k4, _, by have := h5.2.2.1; omega, h5.1, h5.2.2.2.2.2 1 rfl⟩⟩
  | succ g ih =>
    intro i k m o wh s3 l7 l8 l9 hg hi hwh h3 f3
    have hm := h3.2.2.1
    by_cases hin : i = n
    · exact ih i k m o wh s3 l7 l8 l9 (by omega) hi hwh h3 f3
    have a1 : ¬ nI n ≤ nI i := hk_nlt (by omega) (by omega)
    sorry
end HKC3
