/-! ===== the class ends on any contents: the house's own methods ===== -/
/-- all tables of the house are in order -/
def hk_TW (s : Nat → Nat → Int32) : Prop := (∀ t, hk_tb t → ∃ n, hk_tw s t n) ∧ hk_tw s 8 4 ∧ hk_tw s 10 4
theorem hk_TW_fr {s s2 : Nat → Nat → Int32} (h : hk_TW s) (e : ∀ t q, hk_tb t → s2 t q = s t q) : hk_TW s2 := by
  have f : ∀ t n, hk_tb t → hk_tw s t n → hk_tw s2 t n := fun t n ht ⟨a1, a2, a3, a4⟩ => ⟨by rw [e t 0 ht]; exact a1, by rw [e t 1 ht]; exact a2, by rw [e t 3 ht]; exact a3, a4⟩
  exact ⟨fun t ht => (h.1 t ht).elim fun n hn => ⟨n, f t n ht hn⟩, f 8 4 (by simp [hk_tb]) h.2.1, f 10 4 (by simp [hk_tb]) h.2.2⟩
theorem hk_TW_u {s : Nat → Nat → Int32} {p q : Nat} {v : Int32} (h : hk_TW s) (hp : ¬ hk_tb p) : hk_TW (hk_u2 s p q v) :=
  hk_TW_fr h (fun t j ht => hk_u2o (fun e => hp (e.1 ▸ ht)))
section HKA1
variable {d t c n : Nat} {r v w x y z : Int32} {s : Nat → Nat → Int32} {lm : Nat → Nat → Int64} {i0 i1 b : Nat} {al : List Nat} {k : Option Value → hk_H → Prop} {hp : hk_H}
/-- any cell -/
theorem c_get_any {cc : Int32} (ht : hk_tb t) (hw : hk_tw s t n) (h1 : ∀ x, k (some (.int x)) (s, lm, hk_RH i0 i1 b, al)) : hk_Cl (d + 1) 16 [.ref t, .int r, .int cc] (s, lm, hk_RH i0 i1 b, al) k := by
  by_cases hr : r < 0 ∨ s t 3 ≤ r
  · exact c_get_out ht hr (h1 0)
  have c1 : ¬ r < 0 := fun q => hr (Or.inl q)
  have c2 : ¬ s t 3 ≤ r := fun q => hr (Or.inr q)
  have hmo := hk_mo31 ht
  obtain ⟨i, hi, rfl⟩ := nI_of c1
  have c2' := c2
  rw [hw.2.2.1, nI_leI (by have := hw.2.2.2; omega) hi] at c2'
  by_cases c3 : cc < 0
  · rcases ht with rfl | rfl | rfl | rfl | rfl | rfl | rfl | rfl | rfl
    all_goals
      refine hk_mth hk_m16 rfl rfl (n := 1000) ?_
      refine And.intro (fun hc => absurd hc c1) (fun _ => ?_)
      refine And.intro (fun hc => absurd hc c2) (fun _ => ?_)
      refine And.intro (fun _ => ?_) (fun hc => absurd c3 hc)
      exact h1 0
  obtain ⟨j, hj, rfl⟩ := nI_of c3
  by_cases c4 : nI j < s t 1
  · have c4' := c4
    rw [hw.2.1, nI_ltI hj (by omega)] at c4'
    exact c_get_in ht hw (by omega) c4' (h1 _)
  · rcases ht with rfl | rfl | rfl | rfl | rfl | rfl | rfl | rfl | rfl
    all_goals
      refine hk_mth hk_m16 rfl rfl (n := 1000) ?_
      refine And.intro (fun hc => absurd hc c1) (fun _ => ?_)
      refine And.intro (fun hc => absurd hc c2) (fun _ => ?_)
      refine And.intro (fun hc => absurd hc c3) (fun _ => ?_)
      refine And.intro (fun hc => absurd hc c4) (fun _ => ?_)
      exact h1 0
theorem c_g2 {cc : Int32} (hw : hk_TW s) (h1 : ∀ x, k (some (.int x)) (s, lm, hk_RH i0 i1 b, al)) : hk_Cl (d + 1) 16 [.ref 2, .int r, .int cc] (s, lm, hk_RH i0 i1 b, al) k :=
  (hw.1 2 (by simp [hk_tb])).elim fun _ h => c_get_any (by simp [hk_tb]) h h1
theorem c_h2 (hw : hk_TW s) (h0 : k (some (.int 0)) (s, lm, hk_RH i0 i1 b, al)) (h1 : ∀ j n, r = nI j → j < n → hk_tw s 2 n → k (some (.int 1)) (s, lm, hk_RH i0 i1 b, al)) : hk_Cl (d + 1) 14 [.ref 2, .int r] (s, lm, hk_RH i0 i1 b, al) k :=
  (hw.1 2 (by simp [hk_tb])).elim fun n h => c_hasn (by simp [hk_tb]) h (fun j e hj => h1 j n e hj h) (fun _ => h0)
theorem c_g4 {cc : Int32} (hw : hk_TW s) (h1 : ∀ x, k (some (.int x)) (s, lm, hk_RH i0 i1 b, al)) : hk_Cl (d + 1) 16 [.ref 4, .int r, .int cc] (s, lm, hk_RH i0 i1 b, al) k :=
  (hw.1 4 (by simp [hk_tb])).elim fun _ h => c_get_any (by simp [hk_tb]) h h1
theorem c_h4 (hw : hk_TW s) (h0 : k (some (.int 0)) (s, lm, hk_RH i0 i1 b, al)) (h1 : ∀ j n, r = nI j → j < n → hk_tw s 4 n → k (some (.int 1)) (s, lm, hk_RH i0 i1 b, al)) : hk_Cl (d + 1) 14 [.ref 4, .int r] (s, lm, hk_RH i0 i1 b, al) k :=
  (hw.1 4 (by simp [hk_tb])).elim fun n h => c_hasn (by simp [hk_tb]) h (fun j e hj => h1 j n e hj h) (fun _ => h0)
theorem c_g6 {cc : Int32} (hw : hk_TW s) (h1 : ∀ x, k (some (.int x)) (s, lm, hk_RH i0 i1 b, al)) : hk_Cl (d + 1) 16 [.ref 6, .int r, .int cc] (s, lm, hk_RH i0 i1 b, al) k :=
  (hw.1 6 (by simp [hk_tb])).elim fun _ h => c_get_any (by simp [hk_tb]) h h1
theorem c_g8 {cc : Int32} (hw : hk_TW s) (h1 : ∀ x, k (some (.int x)) (s, lm, hk_RH i0 i1 b, al)) : hk_Cl (d + 1) 16 [.ref 8, .int r, .int cc] (s, lm, hk_RH i0 i1 b, al) k :=
  (hw.1 8 (by simp [hk_tb])).elim fun _ h => c_get_any (by simp [hk_tb]) h h1
theorem c_h8 (hw : hk_TW s) (h0 : k (some (.int 0)) (s, lm, hk_RH i0 i1 b, al)) (h1 : ∀ j n, r = nI j → j < n → hk_tw s 8 n → k (some (.int 1)) (s, lm, hk_RH i0 i1 b, al)) : hk_Cl (d + 1) 14 [.ref 8, .int r] (s, lm, hk_RH i0 i1 b, al) k :=
  (hw.1 8 (by simp [hk_tb])).elim fun n h => c_hasn (by simp [hk_tb]) h (fun j e hj => h1 j n e hj h) (fun _ => h0)
theorem c_g12 {cc : Int32} (hw : hk_TW s) (h1 : ∀ x, k (some (.int x)) (s, lm, hk_RH i0 i1 b, al)) : hk_Cl (d + 1) 16 [.ref 12, .int r, .int cc] (s, lm, hk_RH i0 i1 b, al) k :=
  (hw.1 12 (by simp [hk_tb])).elim fun _ h => c_get_any (by simp [hk_tb]) h h1
theorem c_wearOf (hw : hk_TW s) (h1 : ∀ x, k (some (.int x)) (s, lm, hk_RH i0 i1 b, al)) : hk_Cl (d + 2) 33 [.ref 1, .int v] (s, lm, hk_RH i0 i1 b, al) k := by
  refine hk_mth hk_m33 rfl rfl (n := 1000) ?_
  refine c_g4 hw (fun x => ?_)
  refine c_within (fun p q => ?_) (fun a => ?_)
  · refine And.intro (fun hc => absurd hc (by decide)) (fun _ => ?_)
    obtain ⟨j, hj, e⟩ := hk_rng (n := 2) (by decide) p q
    refine hk_ldi (i := x) (j := j) e (by omega) (by decide) rfl ?_
    exact h1 _
  · refine And.intro (fun _ => ?_) (fun hc => absurd (by decide) hc)
    exact h1 _
theorem c_thickAfter (hw : hk_TW s) (h1 : ∀ x, k (some (.int x)) (s, lm, hk_RH i0 i1 b, al)) : hk_Cl (d + 3) 32 [.ref 1, .int v, .int w] (s, lm, hk_RH i0 i1 b, al) k := by
  refine hk_mth hk_m32 rfl rfl (n := 1000) ?_
  refine c_g4 hw (fun x => ?_)
  refine c_wearOf hw (fun x => ?_)
  exact h1 _
/-- a loop over a table's rows ends -/
theorem hk_rows (hw : hk_TW s) (ht : hk_tb t) : ∃ n, hk_tw s t n ∧ n < 200 ∧ ∀ j, j < 2 ^ 30 → (s t 3 ≤ nI j ↔ n ≤ j) := by
  obtain ⟨n, h⟩ := hw.1 t ht
  have h2 : hk_mo t < 200 := by rcases ht with rfl | rfl | rfl | rfl | rfl | rfl | rfl | rfl | rfl <;> decide
  have h3 := h.2.2.2
  refine ⟨n, h, by omega, fun j hj => ?_⟩
  rw [h.2.2.1]
  exact nI_leI (by omega) (by omega)
theorem c_platesOf (hw : hk_TW s) (h1 : ∀ x, k (some (.int x)) (s, lm, hk_RH i0 i1 b, al)) : hk_Cl (d + 2) 17 [.ref 1, .int v] (s, lm, hk_RH i0 i1 b, al) k := by
  obtain ⟨n, hn, hn2, hr⟩ := hk_rows hw (t := 4) (by simp [hk_tb])
  have loop : ∀ (q j : Nat) (a : Int32), j + q = n → hk_Rn (d + 1) none hk_c17 (hk_sfx 4 hk_c17) [some (.ref 1), some (.int v), some (.int a), some (.int (nI j))] [] (s, lm, hk_RH i0 i1 b, al) k := by
    intro q
    induction q with
    | zero =>
      intro j a hj
      refine hk_hd (n := 1000) (t := 4) rfl ?_
      refine And.intro (fun _ => ?_) (fun hc => absurd ((hr j (by omega)).mpr (by omega)) hc)
      exact h1 _
    | succ q ih =>
      intro j a hj
      refine hk_hd (n := 1000) (t := 4) rfl ?_
      refine And.intro (fun hc => absurd hc (fun q => absurd ((hr j (by omega)).mp q) (by omega))) (fun _ => ?_)
      refine c_g4 hw (fun x => ?_)
      refine And.intro (fun c1 => ?_) (fun c1 => ?_)
      · exact hk_Rn_cast (by rw [← nI_1]; rfl) (ih (j + 1) _ (by omega))
      · exact hk_Rn_cast (by rw [← nI_1]; rfl) (ih (j + 1) _ (by omega))
  refine hk_mth hk_m17 rfl rfl (n := 1000) ?_
  exact loop n 0 0 (by omega)
theorem c_firstStuff (hw : hk_TW s) (h1 : ∀ x, k (some (.int x)) (s, lm, hk_RH i0 i1 b, al)) : hk_Cl (d + 2) 40 [.ref 1, .int v] (s, lm, hk_RH i0 i1 b, al) k := by
  obtain ⟨n, hn, hn2, hr⟩ := hk_rows hw (t := 4) (by simp [hk_tb])
  have loop : ∀ (q j : Nat) (a e : Int32), j + q = n → ¬ e = 0 → hk_Rn (d + 1) none hk_c40 (hk_sfx 22 hk_c40) [some (.ref 1), some (.int v), some (.int e), some (.int a), some (.int (nI j))] [] (s, lm, hk_RH i0 i1 b, al) k := by
    intro q
    induction q with
    | zero =>
      intro j a e hj he
      refine hk_hd (n := 1000) (t := 22) rfl ?_
      refine And.intro (fun _ => ?_) (fun hc => absurd ((hr j (by omega)).mpr (by omega)) hc)
      refine And.intro he ?_
      exact h1 _
    | succ q ih =>
      intro j a e hj he
      refine hk_hd (n := 1000) (t := 22) rfl ?_
      refine And.intro (fun hc => absurd hc (fun q => absurd ((hr j (by omega)).mp q) (by omega))) (fun _ => ?_)
      refine c_g4 hw (fun x => ?_)
      refine And.intro (fun c1 => ?_) (fun c1 => ?_)
      · exact hk_Rn_cast (by rw [← nI_1]; rfl) (ih (j + 1) _ e (by omega) he)
      refine c_g4 hw (fun x => ?_)
      refine And.intro (fun c2 => ?_) (fun c2 => ?_)
      · exact hk_Rn_cast (by rw [← nI_1]; rfl) (ih (j + 1) _ e (by omega) he)
      refine c_g4 hw (fun x => ?_)
      exact hk_Rn_cast (by rw [← nI_1]; rfl) (ih (j + 1) _ e (by omega) he)
  refine hk_mth hk_m40 rfl rfl (n := 1000) ?_
  refine c_g2 hw (fun e => ?_)
  refine And.intro (fun c1 => ?_) (fun c1 => ?_)
  · have c1 : (0 : Int32) < e := c1
    exact loop n 0 0 e (by omega) (fun h => absurd c1 (by rw [h]; decide))
  · exact h1 _
theorem c_leaksAfter (hw : hk_TW s) (h1 : ∀ x, k (some (.int x)) (s, lm, hk_RH i0 i1 b, al)) : hk_Cl (d + 4) 31 [.ref 1, .int v, .int w] (s, lm, hk_RH i0 i1 b, al) k := by
  obtain ⟨n, hn, hn2, hr⟩ := hk_rows hw (t := 4) (by simp [hk_tb])
  have loop : ∀ (q j : Nat) (a : Int32) (l5 l6 : Option Value), j + q = n → hk_Rn (d + 3) none hk_c31 (hk_sfx 5 hk_c31) [some (.ref 1), some (.int v), some (.int w), some (.int a), some (.int (nI j)), l5, l6] [] (s, lm, hk_RH i0 i1 b, al) k := by
    intro q
    induction q with
    | zero =>
      intro j a l5 l6 hj
      refine hk_hd (n := 1000) (t := 5) rfl ?_
      refine And.intro (fun _ => ?_) (fun hc => absurd ((hr j (by omega)).mpr (by omega)) hc)
      exact h1 _
    | succ q ih =>
      intro j a l5 l6 hj
      refine hk_hd (n := 1000) (t := 5) rfl ?_
      refine And.intro (fun hc => absurd hc (fun q => absurd ((hr j (by omega)).mp q) (by omega))) (fun _ => ?_)
      refine c_g4 hw (fun x => ?_)
      refine c_g4 hw (fun y => ?_)
      refine And.intro (fun c1 => ?_) (fun c1 => ?_)
      · exact hk_Rn_cast (by rw [← nI_1]; rfl) (ih (j + 1) _ _ _ (by omega))
      refine And.intro (fun c2 => ?_) (fun c2 => ?_)
      · exact hk_Rn_cast (by rw [← nI_1]; rfl) (ih (j + 1) _ _ _ (by omega))
      refine c_thickAfter hw (fun z => ?_)
      refine And.intro (fun c3 => ?_) (fun c3 => ?_)
      · exact hk_Rn_cast (by rw [← nI_1]; rfl) (ih (j + 1) _ _ _ (by omega))
      · exact hk_Rn_cast (by rw [← nI_1]; rfl) (ih (j + 1) _ _ _ (by omega))
  refine hk_mth hk_m31 rfl rfl (n := 1000) ?_
  exact loop n 0 0 none none (by omega)
theorem c_liesWith (hw : hk_TW s) (h1 : ∀ x, k (some (.int x)) (s, lm, hk_RH i0 i1 b, al)) : hk_Cl (d + 2) 37 [.ref 1, .int v, .int w] (s, lm, hk_RH i0 i1 b, al) k := by
  refine hk_mth hk_m37 rfl rfl (n := 1000) ?_
  refine c_g2 hw (fun e => ?_)
  refine And.intro (fun c1 => ?_) (fun c1 => ?_)
  · have c1 : (0 : Int32) < e := c1
    refine c_g2 hw (fun x => ?_)
    refine c_g2 hw (fun y => ?_)
    refine And.intro (fun h => absurd c1 (by rw [h]; decide)) ?_
    exact h1 _
  · exact h1 _
theorem c_shipAt (hw : hk_TW s) (h1 : ∀ x, k (some (.int x)) (s, lm, hk_RH i0 i1 b, al)) : hk_Cl (d + 5) 39 [.ref 1, .int v, .int w] (s, lm, hk_RH i0 i1 b, al) k := by
  refine hk_mth hk_m39 rfl rfl (n := 1000) ?_
  refine And.intro (fun c0 => ?_) (fun c0 => ?_)
  · exact c_g2 hw h1
  refine And.intro (fun c0 => ?_) (fun c0 => ?_)
  · refine c_g2 hw (fun x => ?_)
    exact c_liesWith hw h1
  refine And.intro (fun c0 => ?_) (fun c0 => ?_)
  · exact c_g2 hw h1
  refine And.intro (fun c0 => ?_) (fun c0 => ?_)
  · exact c_platesOf hw h1
  refine And.intro (fun c0 => ?_) (fun c0 => ?_)
  · exact c_firstStuff hw h1
  refine And.intro (fun c0 => ?_) (fun c0 => ?_)
  · exact c_leaksAfter hw h1
  exact c_g2 hw h1
theorem c_latest (hw : hk_TW s) (h1 : ∀ x, k (some (.int x)) (s, lm, hk_RH i0 i1 b, al)) : hk_Cl (d + 2) 65 [.ref 1, .int v, .int w, .int z] (s, lm, hk_RH i0 i1 b, al) k := by
  obtain ⟨n, hn, hn2, hr⟩ := hk_rows hw (t := 6) (by simp [hk_tb])
  have loop : ∀ (q j : Nat) (a : Int32), j + q = n → hk_Rn (d + 1) none hk_c65 (hk_sfx 6 hk_c65) [some (.ref 1), some (.int v), some (.int w), some (.int z), some (.int a), some (.int (nI j))] [] (s, lm, hk_RH i0 i1 b, al) k := by
    intro q
    induction q with
    | zero =>
      intro j a hj
      refine hk_hd (n := 1000) (t := 6) rfl ?_
      refine And.intro (fun _ => ?_) (fun hc => absurd ((hr j (by omega)).mpr (by omega)) hc)
      exact h1 _
    | succ q ih =>
      intro j a hj
      have nx : ∀ a, hk_Rn (d + 1) none hk_c65 (hk_sfx 6 hk_c65) [some (.ref 1), some (.int v), some (.int w), some (.int z), some (.int a), some (.int (nI j + 1))] [] (s, lm, hk_RH i0 i1 b, al) k := fun a => hk_Rn_cast (by rw [nI_1]) (ih (j + 1) a (by omega))
      refine hk_hd (n := 1000) (t := 6) rfl ?_
      refine And.intro (fun hc => absurd hc (fun q => absurd ((hr j (by omega)).mp q) (by omega))) (fun _ => ?_)
      refine c_g6 hw (fun x => ?_)
      refine And.intro (fun c1 => ?_) (fun c1 => ?_)
      · exact nx _
      refine c_g6 hw (fun x => ?_)
      refine And.intro (fun c1 => ?_) (fun c1 => ?_)
      · exact nx _
      refine c_g6 hw (fun x => ?_)
      refine And.intro (fun c1 => ?_) (fun c1 => ?_)
      · exact nx _
      refine And.intro (fun c1 => ?_) (fun c1 => ?_)
      · exact nx _
      refine c_g6 hw (fun x => ?_)
      refine c_g6 hw (fun y => ?_)
      refine And.intro (fun c1 => ?_) (fun c1 => ?_)
      · exact nx _
      · exact nx _
  refine hk_mth hk_m65 rfl rfl (n := 1000) ?_
  exact loop n 0 (-1) (by omega)
theorem c_corrected (hw : hk_TW s) (h1 : ∀ x, k (some (.long x)) (s, lm, hk_RH i0 i1 b, al)) : hk_Cl (d + 2) 66 [.ref 1, .int v, .int w] (s, lm, hk_RH i0 i1 b, al) k := by
  refine hk_mth hk_m66 rfl rfl (n := 1000) ?_
  refine c_g6 hw (fun x => ?_)
  refine c_g8 hw (fun y => ?_)
  refine And.intro (fun c1 => ?_) (fun c1 => ?_)
  · refine c_g6 hw (fun x => ?_)
    refine And.intro (fun _ => ?_) (fun hc => absurd (by decide) hc)
    refine c_g8 hw (fun x => ?_)
    exact h1 _
  refine And.intro (fun c2 => ?_) (fun c2 => ?_)
  · refine c_g6 hw (fun x => ?_)
    refine And.intro (fun _ => ?_) (fun hc => absurd (by decide) hc)
    refine c_g8 hw (fun x => ?_)
    exact h1 _
  refine c_g6 hw (fun x => ?_)
  refine And.intro (fun hc => absurd hc (by decide)) (fun _ => ?_)
  refine c_g8 hw (fun x => ?_)
  exact h1 _
theorem c_guessFor (hw : hk_TW s) (h1 : ∀ x, k (some (.int x)) (s, lm, hk_RH i0 i1 b, al)) : hk_Cl (d + 3) 64 [.ref 1, .int v, .int w, .int z] (s, lm, hk_RH i0 i1 b, al) k := by
  refine hk_mth hk_m64 rfl rfl (n := 1000) ?_
  refine c_latest hw (fun x => ?_)
  refine And.intro (fun c1 => ?_) (fun c1 => ?_)
  · refine c_wearOf hw (fun x => ?_)
    refine c_g6 hw (fun x => ?_)
    refine c_corrected hw (fun x => ?_)
    exact h1 _
  · exact h1 _
theorem c_dueMonth (hw : hk_TW s) (h1 : ∀ x, k (some (.int x)) (s, lm, hk_RH i0 i1 b, al)) : hk_Cl (d + 3) 68 [.ref 1, .int v, .int w] (s, lm, hk_RH i0 i1 b, al) k := by
  refine hk_mth hk_m68 rfl rfl (n := 1000) ?_
  refine c_latest hw (fun x => ?_)
  refine And.intro (fun c1 => ?_) (fun c1 => ?_)
  · exact h1 _
  refine And.intro (fun c2 => ?_) (fun c2 => ?_)
  rotate_left
  · exact h1 _
  refine c_g6 hw (fun x => ?_)
  refine c_corrected hw (fun y => ?_)
  refine And.intro (fun c3 => ?_) (fun c3 => ?_)
  rotate_left
  · exact h1 _
  refine c_wearOf hw (fun z => ?_)
  refine And.intro (fun c4 => ?_) (fun c4 => ?_)
  rotate_left
  · exact h1 _
  have c4 : ¬ z = 0 := c4
  refine And.intro (fun h => c4 ?_) ?_
  · have h : z.toInt64 = (0 : Int32).toInt64 := h
    exact Int32.toInt_inj.mp (by
      have h2 := congrArg Int64.toInt h
      rwa [Int32.toInt_toInt64, Int32.toInt_toInt64] at h2)
  refine And.intro (fun c5 => ?_) (fun c5 => ?_)
  · exact h1 _
  · exact h1 _
theorem c_firstDue (hw : hk_TW s) (h1 : ∀ x, k (some (.int x)) (s, lm, hk_RH i0 i1 b, al)) : hk_Cl (d + 4) 70 [.ref 1, .int v, .int w] (s, lm, hk_RH i0 i1 b, al) k := by
  obtain ⟨n, hn, hn2, hr⟩ := hk_rows hw (t := 4) (by simp [hk_tb])
  have loop : ∀ (q j : Nat) (a e : Int32) (l6 : Option Value), j + q = n → hk_Rn (d + 3) none hk_c70 (hk_sfx 10 hk_c70) [some (.ref 1), some (.int v), some (.int w), some (.int a), some (.int e), some (.int (nI j)), l6] [] (s, lm, hk_RH i0 i1 b, al) k := by
    intro q
    induction q with
    | zero =>
      intro j a e l6 hj
      refine hk_hd (n := 1000) (t := 10) rfl ?_
      refine And.intro (fun _ => ?_) (fun hc => absurd ((hr j (by omega)).mpr (by omega)) hc)
      exact h1 _
    | succ q ih =>
      intro j a e l6 hj
      have nx : ∀ (a e : Int32) (l6 : Option Value), hk_Rn (d + 3) none hk_c70 (hk_sfx 10 hk_c70) [some (.ref 1), some (.int v), some (.int w), some (.int a), some (.int e), some (.int (nI j + 1)), l6] [] (s, lm, hk_RH i0 i1 b, al) k := fun a e l6 => hk_Rn_cast (by rw [nI_1]) (ih (j + 1) a e l6 (by omega))
      refine hk_hd (n := 1000) (t := 10) rfl ?_
      refine And.intro (fun hc => absurd hc (fun q => absurd ((hr j (by omega)).mp q) (by omega))) (fun _ => ?_)
      refine c_g4 hw (fun x => ?_)
      refine And.intro (fun c1 => ?_) (fun c1 => ?_)
      · exact nx _ _ _
      refine c_dueMonth hw (fun x => ?_)
      refine And.intro (fun c1 => ?_) (fun c1 => ?_)
      · exact nx _ _ _
      refine And.intro (fun c1 => ?_) (fun c1 => ?_)
      · exact nx _ _ _
      · exact nx _ _ _
  refine hk_mth hk_m70 rfl rfl (n := 1000) ?_
  exact loop n 0 (-1) 600 none (by omega)
end HKA1
