/-! ===== the class's reader ends on any text ===== -/
theorem hk_lc0 (x : Int64) : lg_cmp x x = 0 := by
  unfold lg_cmp
  rw [if_neg Int64.lt_irrefl, if_pos rfl]
/-- the reader stands in a text of L signs -/
def hk_PS (L : Nat) (s : Nat → Nat → Int32) : Prop := hk_TW s ∧ s 24 3 = nI L ∧ ∃ b, b ≤ L ∧ s 24 4 = nI b
def hk_R24 (s s2 : Nat → Nat → Int32) : Prop := ∀ p q, p ≠ 24 → s2 p q = s p q
theorem hk_R24_t {s s2 s3 : Nat → Nat → Int32} (a : hk_R24 s s2) (c : hk_R24 s2 s3) : hk_R24 s s3 := fun p q h => (c p q h).trans (a p q h)
theorem hk_R24_u {s s2 : Nat → Nat → Int32} {q : Nat} {v : Int32} (a : hk_R24 s s2) : hk_R24 s (hk_u2 s2 24 q v) := fun p q h => by
  rw [hk_u2o (fun e => h e.1)]
  exact a p q h
theorem hk_R24_r (s : Nat → Nat → Int32) : hk_R24 s s := fun _ _ _ => rfl
theorem hk_ntb24 : ¬ hk_tb 24 := by simp [hk_tb]
/-- the place goes on by one -/
theorem hk_PS_u {L b : Nat} {s : Nat → Nat → Int32} (h : hk_PS L s) (hb : b ≤ L) : hk_PS L (hk_u2 s 24 4 (nI b)) :=
  ⟨hk_TW_u h.1 hk_ntb24, by rw [hk_u2o (by omega)]; exact h.2.1, b, hb, hk_u2s⟩
theorem hk_PS_f {L q : Nat} {v : Int32} {s : Nat → Nat → Int32} (h : hk_PS L s) (hq : q ≠ 3 ∧ q ≠ 4) : hk_PS L (hk_u2 s 24 q v) := by
  obtain ⟨h1, h2, b, h3, h4⟩ := h
  exact ⟨hk_TW_u h1 hk_ntb24, by rw [hk_u2o (by omega)]; exact h2, b, h3, by rw [hk_u2o (by omega)]; exact h4⟩
section HKA2
variable {d L o : Nat} {v w : Int32} {s : Nat → Nat → Int32} {lm : Nat → Nat → Int64} {i0 i1 b : Nat} {al : List Nat} {k : Option Value → hk_H → Prop}
theorem c_signAt (hw : hk_TW s) (h1 : ∀ x, k (some (.int x)) (s, lm, hk_RH i0 i1 b, al)) : hk_Cl (d + 2) 53 [.ref 24, .int v] (s, lm, hk_RH i0 i1 b, al) k := by
  refine hk_mth hk_m53 rfl rfl (n := 1000) ?_
  exact c_g10 hw h1
theorem c_peek (hL : L ≤ 60) (h : hk_PS L s) (h1 : ∀ s2 x, hk_PS L s2 → hk_R24 s s2 → (∃ y, y ≤ L ∧ s2 24 4 = nI y ∧ (x ≠ -1 → y < L)) → k (some (.int x)) (s2, lm, hk_RH i0 i1 b, al)) : hk_Cl (d + 3) 51 [.ref 24] (s, lm, hk_RH i0 i1 b, al) k := by
  have loop : ∀ (g y : Nat) (s3 : Nat → Nat → Int32), y + g = L → hk_PS L s3 → s3 24 4 = nI y → hk_R24 s s3 → hk_Rn (d + 2) none hk_c51 (hk_sfx 9 hk_c51) [some (.ref 24)] [] (s3, lm, hk_RH i0 i1 b, al) k := by
    intro g
    induction g with
    | zero =>
      intro y s3 hb h2 hp hr
      have a1 : s3 24 3 ≤ s3 24 4 := by rw [h2.2.1, hp]; exact nI_le (by omega) (by omega)
      refine hk_hd (n := 1000) (t := 9) rfl ?_
      refine And.intro (fun _ => ?_) (fun hc => absurd a1 hc)
      refine And.intro (fun _ => ?_) (fun hc => absurd a1 hc)
      exact h1 s3 _ h2 hr ⟨y, by omega, hp, fun q => absurd rfl q⟩
    | succ g ih =>
      intro y s3 hb h2 hp hr
      have a1 : ¬ s3 24 3 ≤ s3 24 4 := by rw [h2.2.1, hp]; exact hk_nlt (by omega) (by omega)
      refine hk_hd (n := 1000) (t := 9) rfl ?_
      refine And.intro (fun hc => absurd hc a1) (fun _ => ?_)
      refine c_signAt h2.1 (fun x => ?_)
      refine And.intro (fun c1 => ?_) (fun c1 => ?_)
      · refine And.intro (fun hc => absurd hc a1) (fun _ => ?_)
        refine c_signAt h2.1 (fun x => ?_)
        exact h1 s3 _ h2 hr ⟨y, by omega, hp, fun _ => by omega⟩
      · have e : s3 24 4 + 1 = nI (y + 1) := by rw [hp, nI_1]
        have r := ih (y + 1) (hk_u2 s3 24 4 (nI (y + 1))) (by omega) (hk_PS_u h2 (by omega)) hk_u2s (hk_R24_u hr)
        rw [← e] at r
        exact r
  obtain ⟨y, hb, hp⟩ := h.2.2
  refine hk_mth hk_m51 rfl rfl (n := 1000) ?_
  refine c_hasFlaw (fun e => ?_) (fun e => ?_)
  · refine And.intro (fun _ => ?_) (fun hc => absurd (by decide) hc)
    exact loop (L - y) y s (by omega) h hp (hk_R24_r s)
  · refine And.intro (fun hc => absurd hc (by decide)) (fun _ => ?_)
    exact h1 s _ h (hk_R24_r s) ⟨y, hb, hp, fun q => absurd rfl q⟩
theorem c_failA (h : hk_PS L s) (h1 : ∀ s2, hk_PS L s2 → hk_R24 s s2 → k none (s2, lm, hk_RH i0 i1 b, al)) : hk_Cl (d + 1) 56 [.ref 24, .int v, .int w] (s, lm, hk_RH i0 i1 b, al) k := by
  refine hk_mth hk_m56 rfl rfl (n := 1000) ?_
  refine And.intro (fun c1 => ?_) (fun c1 => ?_)
  · exact h1 s h (hk_R24_r s)
  · exact h1 (hk_u2 s 24 5 (10 * v + w)) (hk_PS_f h (by omega)) (hk_R24_u (hk_R24_r s))
theorem c_letter (hw : hk_TW s) (h1 : ∀ x, k (some (.long x)) (s, lm, hk_RH i0 i1 b, al)) : hk_Cl (d + 3) 58 [.ref 24, .int v] (s, lm, hk_RH i0 i1 b, al) k := by
  refine hk_mth hk_m58 rfl rfl (n := 1000) ?_
  refine And.intro (fun c0 => ?_) (fun c0 => ?_)
  rotate_left
  · exact h1 _
  refine And.intro (fun c0 => ?_) (fun c0 => ?_)
  · refine c_g4 hw (fun x => ?_)
    exact h1 _
  refine And.intro (fun c0 => ?_) (fun c0 => ?_)
  · refine c_g4 hw (fun x => ?_)
    refine c_firstStuff hw (fun x => ?_)
    exact h1 _
  refine And.intro (fun c0 => ?_) (fun c0 => ?_)
  · refine c_g4 hw (fun x => ?_)
    exact h1 _
  refine And.intro (fun c0 => ?_) (fun c0 => ?_)
  · refine c_g4 hw (fun x => ?_)
    exact h1 _
  refine And.intro (fun c0 => ?_) (fun c0 => ?_)
  · refine c_g4 hw (fun x => ?_)
    exact h1 _
  refine c_g4 hw (fun x => ?_)
  exact h1 _
theorem c_digits (hL : L ≤ 60) (h : hk_PS L s) (h1 : ∀ s2 x, hk_PS L s2 → hk_R24 s s2 → k (some (.long x)) (s2, lm, hk_RH i0 i1 b, al)) : hk_Cl (d + 3) 55 [.ref 24] (s, lm, hk_RH i0 i1 b, al) k := by
  have fin : ∀ (m : Nat) (s3 : Nat → Nat → Int32) (g : Int32) (u : Int64), hk_PS L s3 → hk_R24 s s3 → hk_wp (d + 2) none hk_c55 k (m + 60) (hk_sfx 76 hk_c55) [some (.ref 24), some (.int g), some (.long u), none] [] (s3, lm, hk_RH i0 i1 b, al) := by
    intro m s3 g u h2 hr
    refine And.intro (fun c1 => ?_) (fun c1 => ?_)
    · exact h1 s3 _ h2 hr
    refine c_failA h2 (fun s4 h3 hr2 => ?_)
    exact h1 s4 _ h3 (hk_R24_t hr hr2)
  have loop : ∀ (g y : Nat) (s3 : Nat → Nat → Int32) (a : Int32) (u : Int64), y + g = L → hk_PS L s3 → s3 24 4 = nI y → hk_R24 s s3 → hk_Rn (d + 2) none hk_c55 (hk_sfx 7 hk_c55) [some (.ref 24), some (.int a), some (.long u), none] [] (s3, lm, hk_RH i0 i1 b, al) k := by
    intro g
    induction g with
    | zero =>
      intro y s3 a u hb h2 hp hr
      have a1 : s3 24 3 ≤ s3 24 4 := by rw [h2.2.1, hp]; exact nI_le (by omega) (by omega)
      refine hk_hd (n := 1000) (t := 7) rfl ?_
      refine And.intro (fun _ => ?_) (fun hc => absurd a1 hc)
      exact fin _ s3 a u h2 hr
    | succ g ih =>
      intro y s3 a u hb h2 hp hr
      have a1 : ¬ s3 24 3 ≤ s3 24 4 := by rw [h2.2.1, hp]; exact hk_nlt (by omega) (by omega)
      refine hk_hd (n := 1000) (t := 7) rfl ?_
      refine And.intro (fun hc => absurd hc a1) (fun _ => ?_)
      refine c_signAt h2.1 (fun x => ?_)
      refine And.intro (fun c1 => ?_) (fun c1 => ?_)
      · exact fin _ s3 a u h2 hr
      refine c_signAt h2.1 (fun x => ?_)
      refine And.intro (fun c1 => ?_) (fun c1 => ?_)
      · exact fin _ s3 a u h2 hr
      refine c_signAt h2.1 (fun x => ?_)
      have e : s3 24 4 + 1 = nI (y + 1) := by rw [hp, nI_1]
      have r := fun u => ih (y + 1) (hk_u2 s3 24 4 (nI (y + 1))) a u (by omega) (hk_PS_u h2 (by omega)) hk_u2s (hk_R24_u hr)
      rw [← e] at r
      exact r _
  obtain ⟨y, hb, hp⟩ := h.2.2
  refine hk_mth hk_m55 rfl rfl (n := 1000) ?_
  exact loop (L - y) y s _ 0 (by omega) h hp (hk_R24_r s)
end HKA2
