/-! ===== calls that no part of ours compares keep the invariant ===== -/
/-- both calls end; the invariant stands; E: the answers agree -/
def hk_SI (X M : Nat) (a : List Value) (E : Prop) : Prop := ∀ h, hk_Inv h → hk_Cl 1000 X (.ref 0 :: a) h (fun r1 h1 => ∃ x, r1 = some (.int x) ∧ hk_Cl 1000 M (.ref 40 :: a) h1 (fun r2 h2 => ∃ y, r2 = some (.int y) ∧ (E → x = y) ∧ hk_Inv h2))
def hk_SJ (X M : Nat) (a : List Value) (E : Prop) : Prop := ∀ h, hk_Inv h → hk_Cl 1000 X (.ref 0 :: a) h (fun r1 h1 => ∃ x, r1 = some (.long x) ∧ hk_Cl 1000 M (.ref 40 :: a) h1 (fun r2 h2 => ∃ y, r2 = some (.long y) ∧ (E → x = y) ∧ hk_Inv h2))
theorem hk_CF_41 {s s1 : Nat → Nat → Int32} (c : hk_CF s s1) : s1 41 = s 41 := funext fun q => c.1 41 q (by omega) (by omega)
theorem hk_Gw_r (s : Nat → Nat → Int32) : hk_Gw s s := ⟨fun _ _ _ => rfl, fun _ _ => rfl⟩
theorem hk_Gw_of {s s2 : Nat → Nat → Int32} (g : hk_Gm s s2) : hk_Gw s s2 := ⟨fun p q h => g.1 p q (by omega), g.2⟩
theorem hk_SI_safe {X M : Nat} {a : List Value} (c : ∀ (s : Nat → Nat → Int32) (lm : Nat → Nat → Int64) (i0 i1 b : Nat) (al : List Nat) (k : Option Value → hk_H → Prop), hk_IS s i0 i1 → (∀ s1 x, hk_CF s s1 → k (some (.int x)) (s1, lm, hk_RH i0 i1 b, al)) → hk_Cl 1000 X (.ref 0 :: a) (s, lm, hk_RH i0 i1 b, al) k) (m : ∀ (s : Nat → Nat → Int32) (lm : Nat → Nat → Int64) (i0 i1 b : Nat) (al : List Nat) (k : Option Value → hk_H → Prop) (aa bb r : Nat), hk_RI (s 41) aa bb r → (∀ s2 lm2 x, hk_Gw s s2 → (∃ a b r, hk_RI (s2 41) a b r) → k (some (.int x)) (s2, lm2, hk_RH i0 i1 b, al)) → hk_Cl 1000 M (.ref 40 :: a) (s, lm, hk_RH i0 i1 b, al) k) : hk_SI X M a False := by
  rintro h ⟨s, lm, i0, i1, b, al, rfl, hc, hi⟩
  refine c s lm i0 i1 b al _ hi (fun s1 x hcf => ⟨x, rfl, ?_⟩)
  obtain ⟨aa, bb, r, hr⟩ := hi.2.2.1
  rw [← hk_CF_41 hcf] at hr
  exact m s1 lm i0 i1 b al _ aa bb r hr (fun s2 lm2 y g r2 => ⟨y, rfl, fun f => f.elim, s2, lm2, i0, i1, b, al, rfl, hc, hk_safe hi hcf g r2⟩)
theorem hk_SJ_safe {X M : Nat} {a : List Value} (c : ∀ (s : Nat → Nat → Int32) (lm : Nat → Nat → Int64) (i0 i1 b : Nat) (al : List Nat) (k : Option Value → hk_H → Prop), hk_IS s i0 i1 → (∀ s1 x, hk_CF s s1 → k (some (.long x)) (s1, lm, hk_RH i0 i1 b, al)) → hk_Cl 1000 X (.ref 0 :: a) (s, lm, hk_RH i0 i1 b, al) k) (m : ∀ (s : Nat → Nat → Int32) (lm : Nat → Nat → Int64) (i0 i1 b : Nat) (al : List Nat) (k : Option Value → hk_H → Prop) (aa bb r : Nat), hk_RI (s 41) aa bb r → (∀ s2 lm2 x, hk_Gw s s2 → (∃ a b r, hk_RI (s2 41) a b r) → k (some (.long x)) (s2, lm2, hk_RH i0 i1 b, al)) → hk_Cl 1000 M (.ref 40 :: a) (s, lm, hk_RH i0 i1 b, al) k) : hk_SJ X M a False := by
  rintro h ⟨s, lm, i0, i1, b, al, rfl, hc, hi⟩
  refine c s lm i0 i1 b al _ hi (fun s1 x hcf => ⟨x, rfl, ?_⟩)
  obtain ⟨aa, bb, r, hr⟩ := hi.2.2.1
  rw [← hk_CF_41 hcf] at hr
  exact m s1 lm i0 i1 b al _ aa bb r hr (fun s2 lm2 y g r2 => ⟨y, rfl, fun f => f.elim, s2, lm2, i0, i1, b, al, rfl, hc, hk_safe hi hcf g r2⟩)
section HKE1
variable {v w x y z : Int32}
theorem q_reading : hk_SI 60 174 [.int v, .int w, .int x, .int y, .int z] False := hk_SI_safe (fun s lm i0 i1 b al k hi hk => c_reading (d := 997) hi.1 (fun s2 u f tw => hk s2 u (hk_CF_67 f tw))) (fun s lm i0 i1 b al k aa bb r hr hk => m_reading (d := 997) hr (fun s2 u r2 g r => hk s2 lm u (hk_Gw_of g) ⟨_, _, _, r⟩))
theorem q_guess : hk_SI 63 178 [.int v, .int w, .int x] False := hk_SI_safe (fun s lm i0 i1 b al k hi hk => c_guess (d := 996) hi.1 (fun u => hk s u (hk_CF_r hi.1))) (fun s lm i0 i1 b al k aa bb r hr hk => m_guess (d := 997) hr (fun u => hk s lm u (hk_Gw_r s) ⟨_, _, _, hr⟩))
theorem q_due : hk_SI 67 183 [.int v, .int w] False := hk_SI_safe (fun s lm i0 i1 b al k hi hk => c_due (d := 996) hi.1 (fun u => hk s u (hk_CF_r hi.1))) (fun s lm i0 i1 b al k aa bb r hr hk => m_due (d := 996) hr (fun u => hk s lm u (hk_Gw_r s) ⟨_, _, _, hr⟩))
theorem q_first : hk_SI 69 185 [.int v, .int w] False := hk_SI_safe (fun s lm i0 i1 b al k hi hk => c_first (d := 995) hi.1 (fun u => hk s u (hk_CF_r hi.1))) (fun s lm i0 i1 b al k aa bb r hr hk => m_first (d := 996) hr (fun u => hk s lm u (hk_Gw_r s) ⟨_, _, _, hr⟩))
theorem q_count : hk_SI 127 219 [.int v] False := hk_SI_safe (fun s lm i0 i1 b al k hi hk => c_count (d := 996) hi.1 (fun u => hk s u (hk_CF_r hi.1))) (fun s lm i0 i1 b al k aa bb r hr hk => m_count (d := 997) hr (fun u => hk s lm u (hk_Gw_r s) ⟨_, _, _, hr⟩))
theorem q_digest : hk_SJ 130 221 [] False := hk_SJ_safe (fun s lm i0 i1 b al k hi hk => c_digest (d := 994) hi.1 (hk_IS_TL hi) (fun u => hk s u (hk_CF_r hi.1))) (fun s lm i0 i1 b al k aa bb r hr hk => m_digest (d := 994) hr (fun u => hk s lm u (hk_Gw_r s) ⟨_, _, _, hr⟩))
end HKE1
