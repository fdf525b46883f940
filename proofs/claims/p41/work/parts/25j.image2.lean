/-! ===== image, from: every state of the images ===== -/
theorem hk_ov_o {α : Type} {z : α} {B n a x : Nat} {R : List (List α)} {f : Nat → Nat → α} (h : a < B ∨ B + n ≤ a) : hk_ov z B n R f a x = f a x := by
  unfold hk_ov
  rw [if_neg (by omega)]
theorem hk_tw_ov {s : Nat → Nat → Int32} {B m t n : Nat} {R : List (List Int32)} (ht : t < B) (h : hk_tw s t n) : hk_tw (hk_ov 0 B m R s) t n := by
  obtain ⟨a1, a2, a3, a4⟩ := h
  exact ⟨by rw [hk_ov_o (by omega)]; exact a1, by rw [hk_ov_o (by omega)]; exact a2, by rw [hk_ov_o (by omega)]; exact a3, a4⟩
theorem hk_Cl_rr {d y : Nat} {a : List Value} {s : Nat → Nat → Int32} {lm : Nat → Nat → Int64} {rr rr2 : Nat → Nat → Nat} {al : List Nat} {k : Option Value → hk_H → Prop} (e : rr = rr2) (c : hk_Cl d y a (s, lm, rr2, al) k) : hk_Cl d y a (s, lm, rr, al) k := e ▸ c
theorem hk_f9x {P : Nat → Prop} (h0 : P 0) (h1 : P 1) (h2 : P 2) (h3 : P 3) (h4 : P 4) (h5 : P 5) (h6 : P 6) (h7 : P 7) (h8 : P 8) {j : Nat} (hj : j < 9) : P j := match j, hj with
  | 0, _ => h0
  | 1, _ => h1
  | 2, _ => h2
  | 3, _ => h3
  | 4, _ => h4
  | 5, _ => h5
  | 6, _ => h6
  | 7, _ => h7
  | 8, _ => h8
theorem hk_rN_0_0_0 {b : Nat} : hk_uR (hk_ov 0 51 22 hk_hr51 (hk_RH 0 0 b)) 23 0 51 = hk_RH 51 0 b := by
  funext p q
  match p with
  | 0 => rfl
  | 1 => rfl
  | 2 => rfl
  | 3 => rfl
  | 4 => rfl
  | 5 => rfl
  | 6 => rfl
  | 7 => rfl
  | 8 => rfl
  | 9 => rfl
  | 10 => rfl
  | 11 => rfl
  | 12 => rfl
  | 13 => rfl
  | 14 => rfl
  | 15 => rfl
  | 16 => rfl
  | 17 => rfl
  | 18 => rfl
  | 19 => rfl
  | 20 => rfl
  | 21 => rfl
  | 22 => rfl
  | 23 => match q with | 0 => rfl | 1 => rfl | q + 2 => rfl
  | 24 => rfl
  | 25 => rfl
  | 26 => rfl
  | 27 => rfl
  | 28 => rfl
  | 29 => rfl
  | 30 => rfl
  | 31 => rfl
  | 32 => rfl
  | 33 => rfl
  | 34 => rfl
  | 35 => rfl
  | 36 => rfl
  | 37 => rfl
  | 38 => rfl
  | 39 => rfl
  | 40 => rfl
  | 41 => rfl
  | 42 => rfl
  | 43 => rfl
  | 44 => rfl
  | 45 => rfl
  | 46 => rfl
  | 47 => rfl
  | 48 => rfl
  | 49 => rfl
  | 50 => rfl
  | 51 => rfl
  | 52 => rfl
  | 53 => rfl
  | 54 => rfl
  | 55 => rfl
  | 56 => rfl
  | 57 => rfl
  | 58 => rfl
  | 59 => rfl
  | 60 => rfl
  | 61 => rfl
  | 62 => rfl
  | 63 => rfl
  | 64 => rfl
  | 65 => rfl
  | 66 => rfl
  | 67 => rfl
  | 68 => rfl
  | 69 => rfl
  | 70 => rfl
  | 71 => rfl
  | 72 => rfl
  | p + 73 => rfl
theorem hk_rN_0_0_1 {b : Nat} : hk_uR (hk_ov 0 51 22 hk_hr51 (hk_RH 0 0 b)) 23 1 51 = hk_RH 0 51 b := by
  funext p q
  match p with
  | 0 => rfl
  | 1 => rfl
  | 2 => rfl
  | 3 => rfl
  | 4 => rfl
  | 5 => rfl
  | 6 => rfl
  | 7 => rfl
  | 8 => rfl
  | 9 => rfl
  | 10 => rfl
  | 11 => rfl
  | 12 => rfl
  | 13 => rfl
  | 14 => rfl
  | 15 => rfl
  | 16 => rfl
  | 17 => rfl
  | 18 => rfl
  | 19 => rfl
  | 20 => rfl
  | 21 => rfl
  | 22 => rfl
  | 23 => match q with | 0 => rfl | 1 => rfl | q + 2 => rfl
  | 24 => rfl
  | 25 => rfl
  | 26 => rfl
  | 27 => rfl
  | 28 => rfl
  | 29 => rfl
  | 30 => rfl
  | 31 => rfl
  | 32 => rfl
  | 33 => rfl
  | 34 => rfl
  | 35 => rfl
  | 36 => rfl
  | 37 => rfl
  | 38 => rfl
  | 39 => rfl
  | 40 => rfl
  | 41 => rfl
  | 42 => rfl
  | 43 => rfl
  | 44 => rfl
  | 45 => rfl
  | 46 => rfl
  | 47 => rfl
  | 48 => rfl
  | 49 => rfl
  | 50 => rfl
  | 51 => rfl
  | 52 => rfl
  | 53 => rfl
  | 54 => rfl
  | 55 => rfl
  | 56 => rfl
  | 57 => rfl
  | 58 => rfl
  | 59 => rfl
  | 60 => rfl
  | 61 => rfl
  | 62 => rfl
  | 63 => rfl
  | 64 => rfl
  | 65 => rfl
  | 66 => rfl
  | 67 => rfl
  | 68 => rfl
  | 69 => rfl
  | 70 => rfl
  | 71 => rfl
  | 72 => rfl
  | p + 73 => rfl
theorem hk_rN_51_0_1 {b : Nat} : hk_uR (hk_ov 0 73 22 hk_hr73 (hk_RH 51 0 b)) 23 1 73 = hk_RH 51 73 b := by
  funext p q
  match p with
  | 0 => rfl
  | 1 => rfl
  | 2 => rfl
  | 3 => rfl
  | 4 => rfl
  | 5 => rfl
  | 6 => rfl
  | 7 => rfl
  | 8 => rfl
  | 9 => rfl
  | 10 => rfl
  | 11 => rfl
  | 12 => rfl
  | 13 => rfl
  | 14 => rfl
  | 15 => rfl
  | 16 => rfl
  | 17 => rfl
  | 18 => rfl
  | 19 => rfl
  | 20 => rfl
  | 21 => rfl
  | 22 => rfl
  | 23 => match q with | 0 => rfl | 1 => rfl | q + 2 => rfl
  | 24 => rfl
  | 25 => rfl
  | 26 => rfl
  | 27 => rfl
  | 28 => rfl
  | 29 => rfl
  | 30 => rfl
  | 31 => rfl
  | 32 => rfl
  | 33 => rfl
  | 34 => rfl
  | 35 => rfl
  | 36 => rfl
  | 37 => rfl
  | 38 => rfl
  | 39 => rfl
  | 40 => rfl
  | 41 => rfl
  | 42 => rfl
  | 43 => rfl
  | 44 => rfl
  | 45 => rfl
  | 46 => rfl
  | 47 => rfl
  | 48 => rfl
  | 49 => rfl
  | 50 => rfl
  | 51 => rfl
  | 52 => rfl
  | 53 => rfl
  | 54 => rfl
  | 55 => rfl
  | 56 => rfl
  | 57 => rfl
  | 58 => rfl
  | 59 => rfl
  | 60 => rfl
  | 61 => rfl
  | 62 => rfl
  | 63 => rfl
  | 64 => rfl
  | 65 => rfl
  | 66 => rfl
  | 67 => rfl
  | 68 => rfl
  | 69 => rfl
  | 70 => rfl
  | 71 => rfl
  | 72 => rfl
  | 73 => rfl
  | 74 => rfl
  | 75 => rfl
  | 76 => rfl
  | 77 => rfl
  | 78 => rfl
  | 79 => rfl
  | 80 => rfl
  | 81 => rfl
  | 82 => rfl
  | 83 => rfl
  | 84 => rfl
  | 85 => rfl
  | 86 => rfl
  | 87 => rfl
  | 88 => rfl
  | 89 => rfl
  | 90 => rfl
  | 91 => rfl
  | 92 => rfl
  | 93 => rfl
  | 94 => rfl
  | p + 95 => rfl
theorem hk_rN_0_51_0 {b : Nat} : hk_uR (hk_ov 0 73 22 hk_hr73 (hk_RH 0 51 b)) 23 0 73 = hk_RH 73 51 b := by
  funext p q
  match p with
  | 0 => rfl
  | 1 => rfl
  | 2 => rfl
  | 3 => rfl
  | 4 => rfl
  | 5 => rfl
  | 6 => rfl
  | 7 => rfl
  | 8 => rfl
  | 9 => rfl
  | 10 => rfl
  | 11 => rfl
  | 12 => rfl
  | 13 => rfl
  | 14 => rfl
  | 15 => rfl
  | 16 => rfl
  | 17 => rfl
  | 18 => rfl
  | 19 => rfl
  | 20 => rfl
  | 21 => rfl
  | 22 => rfl
  | 23 => match q with | 0 => rfl | 1 => rfl | q + 2 => rfl
  | 24 => rfl
  | 25 => rfl
  | 26 => rfl
  | 27 => rfl
  | 28 => rfl
  | 29 => rfl
  | 30 => rfl
  | 31 => rfl
  | 32 => rfl
  | 33 => rfl
  | 34 => rfl
  | 35 => rfl
  | 36 => rfl
  | 37 => rfl
  | 38 => rfl
  | 39 => rfl
  | 40 => rfl
  | 41 => rfl
  | 42 => rfl
  | 43 => rfl
  | 44 => rfl
  | 45 => rfl
  | 46 => rfl
  | 47 => rfl
  | 48 => rfl
  | 49 => rfl
  | 50 => rfl
  | 51 => rfl
  | 52 => rfl
  | 53 => rfl
  | 54 => rfl
  | 55 => rfl
  | 56 => rfl
  | 57 => rfl
  | 58 => rfl
  | 59 => rfl
  | 60 => rfl
  | 61 => rfl
  | 62 => rfl
  | 63 => rfl
  | 64 => rfl
  | 65 => rfl
  | 66 => rfl
  | 67 => rfl
  | 68 => rfl
  | 69 => rfl
  | 70 => rfl
  | 71 => rfl
  | 72 => rfl
  | 73 => rfl
  | 74 => rfl
  | 75 => rfl
  | 76 => rfl
  | 77 => rfl
  | 78 => rfl
  | 79 => rfl
  | 80 => rfl
  | 81 => rfl
  | 82 => rfl
  | 83 => rfl
  | 84 => rfl
  | 85 => rfl
  | 86 => rfl
  | 87 => rfl
  | 88 => rfl
  | 89 => rfl
  | 90 => rfl
  | 91 => rfl
  | 92 => rfl
  | 93 => rfl
  | 94 => rfl
  | p + 95 => rfl
section HKJ
variable {d t c n : Nat} {s : Nat → Nat → Int32} {lm : Nat → Nat → Int64} {b : Nat} {al : List Nat} {k : Option Value → hk_H → Prop}
theorem c_imgN_0_0_0 (u : hk_up al 51) (hS : ∀ j, j < 9 → ∃ n, hk_tw s (1 + 1 + 2 * j) n) (h1 : ∀ s1 s2 al2, hk_up al2 73 → (∀ a x, a < 51 ∨ 73 ≤ a → s1 a x = s a x) → (∀ j, j < 9 → s1 (51 + 1 + 2 * j) 0 = nI (hk_mo (2 + 2 * j)) ∧ s1 (51 + 1 + 2 * j) 1 = nI (hk_co (2 + 2 * j))) → hk_cpA 1 51 s1 s2 → al2 = al ++ List.range' 51 22 → k (some (.int 1)) (s2, hk_ov 0 51 22 [] lm, hk_RH 51 0 b, al2)) : hk_Cl (d + 4) 123 [.ref 0, .int 0] (s, lm, hk_RH 0 0 b, al) k := by
  refine hk_mth hk_m123 rfl rfl (n := 1000) ?_
  refine c_within (fun _ _ => ?_) (fun a => absurd a (by decide))
  refine And.intro (fun _ => ?_) (fun hc => absurd (by decide) hc)
  refine hk_lda (i := 0) (j := 0) (q := 0) rfl (by omega) (by decide) rfl ?_
  refine hk_mkI u rfl rfl ?_
  have u2 := hk_up_nx u (q := 52) rfl (by decide)
  refine n_house_51 u2 (fun al2 ua ea => ?_)
  refine And.intro (show vp_in (nI 0) 2 from vp_in_nI (by omega) (by decide)) ?_
  refine hk_Cl_rr hk_rN_0_0_0 ?_
  have ea2 : al2 = al ++ List.range' 51 22 := by rw [ea]; simp [List.append_assoc, List.range']
  have hD : ∀ j, j < 9 → hk_ov 0 51 22 hk_hi s (51 + 1 + 2 * j) 0 = nI (hk_mo (2 + 2 * j)) ∧ hk_ov 0 51 22 hk_hi s (51 + 1 + 2 * j) 1 = nI (hk_co (2 + 2 * j)) := fun j hj => hk_f9x (P := fun j => hk_ov 0 51 22 hk_hi s (51 + 1 + 2 * j) 0 = nI (hk_mo (2 + 2 * j)) ∧ hk_ov 0 51 22 hk_hi s (51 + 1 + 2 * j) 1 = nI (hk_co (2 + 2 * j))) ⟨rfl, rfl⟩ ⟨rfl, rfl⟩ ⟨rfl, rfl⟩ ⟨rfl, rfl⟩ ⟨rfl, rfl⟩ ⟨rfl, rfl⟩ ⟨rfl, rfl⟩ ⟨rfl, rfl⟩ ⟨rfl, rfl⟩ hj
  refine c_cpH_1_51 (R := []) (fun j hj => (hS j hj).elim fun n h => ⟨n, hk_tw_ov (by omega) h⟩) (fun j hj => (hD j hj).1) (fun s2 h2 => ?_)
  exact h1 _ s2 al2 ua (fun a x h => hk_ov_o h) hD h2 ea2
theorem c_imgN_0_0_1 (u : hk_up al 51) (hS : ∀ j, j < 9 → ∃ n, hk_tw s (1 + 1 + 2 * j) n) (h1 : ∀ s1 s2 al2, hk_up al2 73 → (∀ a x, a < 51 ∨ 73 ≤ a → s1 a x = s a x) → (∀ j, j < 9 → s1 (51 + 1 + 2 * j) 0 = nI (hk_mo (2 + 2 * j)) ∧ s1 (51 + 1 + 2 * j) 1 = nI (hk_co (2 + 2 * j))) → hk_cpA 1 51 s1 s2 → al2 = al ++ List.range' 51 22 → k (some (.int 1)) (s2, hk_ov 0 51 22 [] lm, hk_RH 0 51 b, al2)) : hk_Cl (d + 4) 123 [.ref 0, .int 1] (s, lm, hk_RH 0 0 b, al) k := by
  refine hk_mth hk_m123 rfl rfl (n := 1000) ?_
  refine c_within (fun _ _ => ?_) (fun a => absurd a (by decide))
  refine And.intro (fun _ => ?_) (fun hc => absurd (by decide) hc)
  refine hk_lda (i := 1) (j := 1) (q := 0) rfl (by omega) (by decide) rfl ?_
  refine hk_mkI u rfl rfl ?_
  have u2 := hk_up_nx u (q := 52) rfl (by decide)
  refine n_house_51 u2 (fun al2 ua ea => ?_)
  refine And.intro (show vp_in (nI 1) 2 from vp_in_nI (by omega) (by decide)) ?_
  refine hk_Cl_rr hk_rN_0_0_1 ?_
  have ea2 : al2 = al ++ List.range' 51 22 := by rw [ea]; simp [List.append_assoc, List.range']
  have hD : ∀ j, j < 9 → hk_ov 0 51 22 hk_hi s (51 + 1 + 2 * j) 0 = nI (hk_mo (2 + 2 * j)) ∧ hk_ov 0 51 22 hk_hi s (51 + 1 + 2 * j) 1 = nI (hk_co (2 + 2 * j)) := fun j hj => hk_f9x (P := fun j => hk_ov 0 51 22 hk_hi s (51 + 1 + 2 * j) 0 = nI (hk_mo (2 + 2 * j)) ∧ hk_ov 0 51 22 hk_hi s (51 + 1 + 2 * j) 1 = nI (hk_co (2 + 2 * j))) ⟨rfl, rfl⟩ ⟨rfl, rfl⟩ ⟨rfl, rfl⟩ ⟨rfl, rfl⟩ ⟨rfl, rfl⟩ ⟨rfl, rfl⟩ ⟨rfl, rfl⟩ ⟨rfl, rfl⟩ ⟨rfl, rfl⟩ hj
  refine c_cpH_1_51 (R := []) (fun j hj => (hS j hj).elim fun n h => ⟨n, hk_tw_ov (by omega) h⟩) (fun j hj => (hD j hj).1) (fun s2 h2 => ?_)
  exact h1 _ s2 al2 ua (fun a x h => hk_ov_o h) hD h2 ea2
theorem c_imgN_51_0_1 (u : hk_up al 73) (hS : ∀ j, j < 9 → ∃ n, hk_tw s (1 + 1 + 2 * j) n) (h1 : ∀ s1 s2 al2, (∀ a x, a < 73 ∨ 95 ≤ a → s1 a x = s a x) → (∀ j, j < 9 → s1 (73 + 1 + 2 * j) 0 = nI (hk_mo (2 + 2 * j)) ∧ s1 (73 + 1 + 2 * j) 1 = nI (hk_co (2 + 2 * j))) → hk_cpA 1 73 s1 s2 → al2 = al ++ List.range' 73 22 → k (some (.int 1)) (s2, hk_ov 0 73 22 [] lm, hk_RH 51 73 b, al2)) : hk_Cl (d + 4) 123 [.ref 0, .int 1] (s, lm, hk_RH 51 0 b, al) k := by
  refine hk_mth hk_m123 rfl rfl (n := 1000) ?_
  refine c_within (fun _ _ => ?_) (fun a => absurd a (by decide))
  refine And.intro (fun _ => ?_) (fun hc => absurd (by decide) hc)
  refine hk_lda (i := 1) (j := 1) (q := 0) rfl (by omega) (by decide) rfl ?_
  refine hk_mkI u rfl rfl ?_
  have u2 := hk_up_nx u (q := 74) rfl (by decide)
  refine n_house_73 u2 (fun al2 ea => ?_)
  refine And.intro (show vp_in (nI 1) 2 from vp_in_nI (by omega) (by decide)) ?_
  refine hk_Cl_rr hk_rN_51_0_1 ?_
  have ea2 : al2 = al ++ List.range' 73 22 := by rw [ea]; simp [List.append_assoc, List.range']
  have hD : ∀ j, j < 9 → hk_ov 0 73 22 hk_hi s (73 + 1 + 2 * j) 0 = nI (hk_mo (2 + 2 * j)) ∧ hk_ov 0 73 22 hk_hi s (73 + 1 + 2 * j) 1 = nI (hk_co (2 + 2 * j)) := fun j hj => hk_f9x (P := fun j => hk_ov 0 73 22 hk_hi s (73 + 1 + 2 * j) 0 = nI (hk_mo (2 + 2 * j)) ∧ hk_ov 0 73 22 hk_hi s (73 + 1 + 2 * j) 1 = nI (hk_co (2 + 2 * j))) ⟨rfl, rfl⟩ ⟨rfl, rfl⟩ ⟨rfl, rfl⟩ ⟨rfl, rfl⟩ ⟨rfl, rfl⟩ ⟨rfl, rfl⟩ ⟨rfl, rfl⟩ ⟨rfl, rfl⟩ ⟨rfl, rfl⟩ hj
  refine c_cpH_1_73 (fun j hj => (hS j hj).elim fun n h => ⟨n, hk_tw_ov (by omega) h⟩) (fun j hj => (hD j hj).1) (fun s2 h2 => ?_)
  exact h1 _ s2 al2 (fun a x h => hk_ov_o h) hD h2 ea2
theorem c_imgN_0_51_0 (u : hk_up al 73) (hS : ∀ j, j < 9 → ∃ n, hk_tw s (1 + 1 + 2 * j) n) (h1 : ∀ s1 s2 al2, (∀ a x, a < 73 ∨ 95 ≤ a → s1 a x = s a x) → (∀ j, j < 9 → s1 (73 + 1 + 2 * j) 0 = nI (hk_mo (2 + 2 * j)) ∧ s1 (73 + 1 + 2 * j) 1 = nI (hk_co (2 + 2 * j))) → hk_cpA 1 73 s1 s2 → al2 = al ++ List.range' 73 22 → k (some (.int 1)) (s2, hk_ov 0 73 22 [] lm, hk_RH 73 51 b, al2)) : hk_Cl (d + 4) 123 [.ref 0, .int 0] (s, lm, hk_RH 0 51 b, al) k := by
  refine hk_mth hk_m123 rfl rfl (n := 1000) ?_
  refine c_within (fun _ _ => ?_) (fun a => absurd a (by decide))
  refine And.intro (fun _ => ?_) (fun hc => absurd (by decide) hc)
  refine hk_lda (i := 0) (j := 0) (q := 0) rfl (by omega) (by decide) rfl ?_
  refine hk_mkI u rfl rfl ?_
  have u2 := hk_up_nx u (q := 74) rfl (by decide)
  refine n_house_73 u2 (fun al2 ea => ?_)
  refine And.intro (show vp_in (nI 0) 2 from vp_in_nI (by omega) (by decide)) ?_
  refine hk_Cl_rr hk_rN_0_51_0 ?_
  have ea2 : al2 = al ++ List.range' 73 22 := by rw [ea]; simp [List.append_assoc, List.range']
  have hD : ∀ j, j < 9 → hk_ov 0 73 22 hk_hi s (73 + 1 + 2 * j) 0 = nI (hk_mo (2 + 2 * j)) ∧ hk_ov 0 73 22 hk_hi s (73 + 1 + 2 * j) 1 = nI (hk_co (2 + 2 * j)) := fun j hj => hk_f9x (P := fun j => hk_ov 0 73 22 hk_hi s (73 + 1 + 2 * j) 0 = nI (hk_mo (2 + 2 * j)) ∧ hk_ov 0 73 22 hk_hi s (73 + 1 + 2 * j) 1 = nI (hk_co (2 + 2 * j))) ⟨rfl, rfl⟩ ⟨rfl, rfl⟩ ⟨rfl, rfl⟩ ⟨rfl, rfl⟩ ⟨rfl, rfl⟩ ⟨rfl, rfl⟩ ⟨rfl, rfl⟩ ⟨rfl, rfl⟩ ⟨rfl, rfl⟩ hj
  refine c_cpH_1_73 (fun j hj => (hS j hj).elim fun n h => ⟨n, hk_tw_ov (by omega) h⟩) (fun j hj => (hD j hj).1) (fun s2 h2 => ?_)
  exact h1 _ s2 al2 (fun a x h => hk_ov_o h) hD h2 ea2
theorem c_imgC_51_0_0 (hS : ∀ j, j < 9 → ∃ n, hk_tw s (1 + 1 + 2 * j) n) (hD : ∀ j, j < 9 → s (51 + 1 + 2 * j) 0 = nI (hk_mo (2 + 2 * j))) (h1 : ∀ s2, hk_cpA 1 51 s s2 → k (some (.int 1)) (s2, lm, hk_RH 51 0 b, al)) : hk_Cl (d + 4) 123 [.ref 0, .int 0] (s, lm, hk_RH 51 0 b, al) k := by
  refine hk_mth hk_m123 rfl rfl (n := 1000) ?_
  refine c_within (fun _ _ => ?_) (fun a => absurd a (by decide))
  refine And.intro (fun _ => ?_) (fun hc => absurd (by decide) hc)
  refine hk_lda (i := 0) (j := 0) (q := 51) rfl (by omega) (by decide) rfl ?_
  refine c_cpH_1_51 (R := []) hS hD (fun s2 h2 => ?_)
  exact h1 s2 h2
theorem c_frm_51_0_0 (hS : ∀ j, j < 9 → ∃ n, hk_tw s (51 + 1 + 2 * j) n) (hD : ∀ j, j < 9 → s (1 + 1 + 2 * j) 0 = nI (hk_mo (2 + 2 * j))) (h1 : ∀ s2, hk_cpA 51 1 s s2 → k (some (.int 1)) (hk_u2 s2 29 11 0, lm, hk_RH 51 0 b, al)) : hk_Cl (d + 4) 126 [.ref 0, .int 0] (s, lm, hk_RH 51 0 b, al) k := by
  refine hk_mth hk_m126 rfl rfl (n := 1000) ?_
  refine c_within (fun _ _ => ?_) (fun a => absurd a (by decide))
  refine And.intro (fun _ => ?_) (fun hc => absurd (by decide) hc)
  refine hk_lda (i := 0) (j := 0) (q := 51) rfl (by omega) (by decide) rfl ?_
  refine c_cpH_51_1 (R := []) hS hD (fun s2 h2 => ?_)
  refine c_forget ?_
  exact h1 s2 h2
theorem c_imgC_51_73_0 (hS : ∀ j, j < 9 → ∃ n, hk_tw s (1 + 1 + 2 * j) n) (hD : ∀ j, j < 9 → s (51 + 1 + 2 * j) 0 = nI (hk_mo (2 + 2 * j))) (h1 : ∀ s2, hk_cpA 1 51 s s2 → k (some (.int 1)) (s2, lm, hk_RH 51 73 b, al)) : hk_Cl (d + 4) 123 [.ref 0, .int 0] (s, lm, hk_RH 51 73 b, al) k := by
  refine hk_mth hk_m123 rfl rfl (n := 1000) ?_
  refine c_within (fun _ _ => ?_) (fun a => absurd a (by decide))
  refine And.intro (fun _ => ?_) (fun hc => absurd (by decide) hc)
  refine hk_lda (i := 0) (j := 0) (q := 51) rfl (by omega) (by decide) rfl ?_
  refine c_cpH_1_51 (R := hk_hx 73) hS hD (fun s2 h2 => ?_)
  exact h1 s2 h2
theorem c_frm_51_73_0 (hS : ∀ j, j < 9 → ∃ n, hk_tw s (51 + 1 + 2 * j) n) (hD : ∀ j, j < 9 → s (1 + 1 + 2 * j) 0 = nI (hk_mo (2 + 2 * j))) (h1 : ∀ s2, hk_cpA 51 1 s s2 → k (some (.int 1)) (hk_u2 s2 29 11 0, lm, hk_RH 51 73 b, al)) : hk_Cl (d + 4) 126 [.ref 0, .int 0] (s, lm, hk_RH 51 73 b, al) k := by
  refine hk_mth hk_m126 rfl rfl (n := 1000) ?_
  refine c_within (fun _ _ => ?_) (fun a => absurd a (by decide))
  refine And.intro (fun _ => ?_) (fun hc => absurd (by decide) hc)
  refine hk_lda (i := 0) (j := 0) (q := 51) rfl (by omega) (by decide) rfl ?_
  refine c_cpH_51_1 (R := hk_hx 73) hS hD (fun s2 h2 => ?_)
  refine c_forget ?_
  exact h1 s2 h2
theorem c_imgC_73_51_0 (hS : ∀ j, j < 9 → ∃ n, hk_tw s (1 + 1 + 2 * j) n) (hD : ∀ j, j < 9 → s (73 + 1 + 2 * j) 0 = nI (hk_mo (2 + 2 * j))) (h1 : ∀ s2, hk_cpA 1 73 s s2 → k (some (.int 1)) (s2, lm, hk_RH 73 51 b, al)) : hk_Cl (d + 4) 123 [.ref 0, .int 0] (s, lm, hk_RH 73 51 b, al) k := by
  refine hk_mth hk_m123 rfl rfl (n := 1000) ?_
  refine c_within (fun _ _ => ?_) (fun a => absurd a (by decide))
  refine And.intro (fun _ => ?_) (fun hc => absurd (by decide) hc)
  refine hk_lda (i := 0) (j := 0) (q := 73) rfl (by omega) (by decide) rfl ?_
  refine c_cpH_1_73 hS hD (fun s2 h2 => ?_)
  exact h1 s2 h2
theorem c_frm_73_51_0 (hS : ∀ j, j < 9 → ∃ n, hk_tw s (73 + 1 + 2 * j) n) (hD : ∀ j, j < 9 → s (1 + 1 + 2 * j) 0 = nI (hk_mo (2 + 2 * j))) (h1 : ∀ s2, hk_cpA 73 1 s s2 → k (some (.int 1)) (hk_u2 s2 29 11 0, lm, hk_RH 73 51 b, al)) : hk_Cl (d + 4) 126 [.ref 0, .int 0] (s, lm, hk_RH 73 51 b, al) k := by
  refine hk_mth hk_m126 rfl rfl (n := 1000) ?_
  refine c_within (fun _ _ => ?_) (fun a => absurd a (by decide))
  refine And.intro (fun _ => ?_) (fun hc => absurd (by decide) hc)
  refine hk_lda (i := 0) (j := 0) (q := 73) rfl (by omega) (by decide) rfl ?_
  refine c_cpH_73_1 hS hD (fun s2 h2 => ?_)
  refine c_forget ?_
  exact h1 s2 h2
theorem c_imgC_0_51_1 (hS : ∀ j, j < 9 → ∃ n, hk_tw s (1 + 1 + 2 * j) n) (hD : ∀ j, j < 9 → s (51 + 1 + 2 * j) 0 = nI (hk_mo (2 + 2 * j))) (h1 : ∀ s2, hk_cpA 1 51 s s2 → k (some (.int 1)) (s2, lm, hk_RH 0 51 b, al)) : hk_Cl (d + 4) 123 [.ref 0, .int 1] (s, lm, hk_RH 0 51 b, al) k := by
  refine hk_mth hk_m123 rfl rfl (n := 1000) ?_
  refine c_within (fun _ _ => ?_) (fun a => absurd a (by decide))
  refine And.intro (fun _ => ?_) (fun hc => absurd (by decide) hc)
  refine hk_lda (i := 1) (j := 1) (q := 51) rfl (by omega) (by decide) rfl ?_
  refine c_cpH_1_51 (R := []) hS hD (fun s2 h2 => ?_)
  exact h1 s2 h2
theorem c_frm_0_51_1 (hS : ∀ j, j < 9 → ∃ n, hk_tw s (51 + 1 + 2 * j) n) (hD : ∀ j, j < 9 → s (1 + 1 + 2 * j) 0 = nI (hk_mo (2 + 2 * j))) (h1 : ∀ s2, hk_cpA 51 1 s s2 → k (some (.int 1)) (hk_u2 s2 29 11 0, lm, hk_RH 0 51 b, al)) : hk_Cl (d + 4) 126 [.ref 0, .int 1] (s, lm, hk_RH 0 51 b, al) k := by
  refine hk_mth hk_m126 rfl rfl (n := 1000) ?_
  refine c_within (fun _ _ => ?_) (fun a => absurd a (by decide))
  refine And.intro (fun _ => ?_) (fun hc => absurd (by decide) hc)
  refine hk_lda (i := 1) (j := 1) (q := 51) rfl (by omega) (by decide) rfl ?_
  refine c_cpH_51_1 (R := []) hS hD (fun s2 h2 => ?_)
  refine c_forget ?_
  exact h1 s2 h2
theorem c_imgC_51_73_1 (hS : ∀ j, j < 9 → ∃ n, hk_tw s (1 + 1 + 2 * j) n) (hD : ∀ j, j < 9 → s (73 + 1 + 2 * j) 0 = nI (hk_mo (2 + 2 * j))) (h1 : ∀ s2, hk_cpA 1 73 s s2 → k (some (.int 1)) (s2, lm, hk_RH 51 73 b, al)) : hk_Cl (d + 4) 123 [.ref 0, .int 1] (s, lm, hk_RH 51 73 b, al) k := by
  refine hk_mth hk_m123 rfl rfl (n := 1000) ?_
  refine c_within (fun _ _ => ?_) (fun a => absurd a (by decide))
  refine And.intro (fun _ => ?_) (fun hc => absurd (by decide) hc)
  refine hk_lda (i := 1) (j := 1) (q := 73) rfl (by omega) (by decide) rfl ?_
  refine c_cpH_1_73 hS hD (fun s2 h2 => ?_)
  exact h1 s2 h2
theorem c_frm_51_73_1 (hS : ∀ j, j < 9 → ∃ n, hk_tw s (73 + 1 + 2 * j) n) (hD : ∀ j, j < 9 → s (1 + 1 + 2 * j) 0 = nI (hk_mo (2 + 2 * j))) (h1 : ∀ s2, hk_cpA 73 1 s s2 → k (some (.int 1)) (hk_u2 s2 29 11 0, lm, hk_RH 51 73 b, al)) : hk_Cl (d + 4) 126 [.ref 0, .int 1] (s, lm, hk_RH 51 73 b, al) k := by
  refine hk_mth hk_m126 rfl rfl (n := 1000) ?_
  refine c_within (fun _ _ => ?_) (fun a => absurd a (by decide))
  refine And.intro (fun _ => ?_) (fun hc => absurd (by decide) hc)
  refine hk_lda (i := 1) (j := 1) (q := 73) rfl (by omega) (by decide) rfl ?_
  refine c_cpH_73_1 hS hD (fun s2 h2 => ?_)
  refine c_forget ?_
  exact h1 s2 h2
theorem c_imgC_73_51_1 (hS : ∀ j, j < 9 → ∃ n, hk_tw s (1 + 1 + 2 * j) n) (hD : ∀ j, j < 9 → s (51 + 1 + 2 * j) 0 = nI (hk_mo (2 + 2 * j))) (h1 : ∀ s2, hk_cpA 1 51 s s2 → k (some (.int 1)) (s2, lm, hk_RH 73 51 b, al)) : hk_Cl (d + 4) 123 [.ref 0, .int 1] (s, lm, hk_RH 73 51 b, al) k := by
  refine hk_mth hk_m123 rfl rfl (n := 1000) ?_
  refine c_within (fun _ _ => ?_) (fun a => absurd a (by decide))
  refine And.intro (fun _ => ?_) (fun hc => absurd (by decide) hc)
  refine hk_lda (i := 1) (j := 1) (q := 51) rfl (by omega) (by decide) rfl ?_
  refine c_cpH_1_51 (R := hk_hx 73) hS hD (fun s2 h2 => ?_)
  exact h1 s2 h2
theorem c_frm_73_51_1 (hS : ∀ j, j < 9 → ∃ n, hk_tw s (51 + 1 + 2 * j) n) (hD : ∀ j, j < 9 → s (1 + 1 + 2 * j) 0 = nI (hk_mo (2 + 2 * j))) (h1 : ∀ s2, hk_cpA 51 1 s s2 → k (some (.int 1)) (hk_u2 s2 29 11 0, lm, hk_RH 73 51 b, al)) : hk_Cl (d + 4) 126 [.ref 0, .int 1] (s, lm, hk_RH 73 51 b, al) k := by
  refine hk_mth hk_m126 rfl rfl (n := 1000) ?_
  refine c_within (fun _ _ => ?_) (fun a => absurd a (by decide))
  refine And.intro (fun _ => ?_) (fun hc => absurd (by decide) hc)
  refine hk_lda (i := 1) (j := 1) (q := 51) rfl (by omega) (by decide) rfl ?_
  refine c_cpH_51_1 (R := hk_hx 73) hS hD (fun s2 h2 => ?_)
  refine c_forget ?_
  exact h1 s2 h2
theorem c_imgB {z : Int32} {i0 i1 : Nat} (hb : ¬ hk_rg z 0 1) (h1 : k (some (.int (-2))) (s, lm, hk_RH i0 i1 b, al)) : hk_Cl (d + 2) 123 [.ref 0, .int z] (s, lm, hk_RH i0 i1 b, al) k := by
  refine hk_mth hk_m123 rfl rfl (n := 1000) ?_
  refine c_within (fun p q => absurd ⟨p, q⟩ hb) (fun _ => ?_)
  refine And.intro (fun hc => absurd hc (by decide)) (fun _ => ?_)
  exact h1
/-- the reference keeps its row -/
theorem m_image {z : Int32} {i0 i1 : Nat} (hb : ¬ hk_rg z 0 1 → k (some (.int (-2))) (s, lm, hk_RH i0 i1 b, al)) (hg : ∀ j, z = nI j → j < 2 → ∀ s2, (∀ p q, p ≠ 43 → p ≠ 44 → s2 p q = s p q) → s2 44 j = 1 → (∀ i, i ≠ j → s2 44 i = s 44 i) → (∀ q, q < 2448 → s2 43 (2448 * j + q) = s 41 q) → (∀ q, q < 2448 * j ∨ 2448 * j + 2448 ≤ q → s2 43 q = s 43 q) → k (some (.int 1)) (s2, lm, hk_RH i0 i1 b, al)) : hk_Cl (d + 2) 217 [.ref 40, .int z] (s, lm, hk_RH i0 i1 b, al) k := by
  refine hk_mth hk_m217 rfl rfl (n := 1000) ?_
  refine m_in0 (fun (a : z < 0 ∨ 1 < z) => ?_) (fun (p0 : ¬ z < 0) (q0 : ¬ 1 < z) => ?_)
  · refine And.intro (fun hc => absurd hc (by decide)) (fun _ => ?_)
    exact hb (fun q => a.elim q.1 q.2)
  refine And.intro (fun _ => ?_) (fun hc => absurd (by decide) hc)
  obtain ⟨j, hj, rfl⟩ := hk_rng (n := 1) (by decide) p0 q0
  have hg2 := hg j rfl (by omega)
  clear hg
  have loop : ∀ (g i : Nat) (s3 : Nat → Nat → Int32), i + g = 2448 → (∀ p q, p ≠ 43 → p ≠ 44 → s3 p q = s p q) → s3 44 j = 1 → (∀ i, i ≠ j → s3 44 i = s 44 i) → (∀ q, q < i → s3 43 (2448 * j + q) = s 41 q) → (∀ q, q < 2448 * j ∨ 2448 * j + 2448 ≤ q → s3 43 q = s 43 q) → hk_Rn (d + 1) none hk_c217 (hk_sfx 21 hk_c217) [some (.ref 40), some (.int (nI j)), some (.int (nI i))] [] (s3, lm, hk_RH i0 i1 b, al) k := by
    intro g
    induction g with
    | zero =>
      intro i s3 hi h1 h2 h3 h4 h5
      have e : i = 2448 := by omega
      subst e
      refine hk_hd (n := 1000) (t := 21) rfl ?_
      refine And.intro (fun _ => ?_) (fun hc => absurd (show (2448 : Int32) ≤ nI 2448 by decide) hc)
      exact hg2 s3 h1 h2 h3 h4 h5
    | succ g ih =>
      intro i s3 hi h1 h2 h3 h4 h5
      have b1 : ¬ nI 2448 ≤ nI i := hk_nlt (by omega) (by omega)
      refine hk_hd (n := 1000) (t := 21) rfl ?_
      refine And.intro (fun hc => absurd hc b1) (fun _ => ?_)
      refine hk_ldi (i := nI i) (j := i) (by simp only [hk_lit, pk_mul, nI_add]) (by omega) (by decide) (h1 41 i (by omega) (by omega)) ?_
      refine hk_stn (i := 2448 * nI j + nI i) (j := 2448 * j + i) (by simp only [hk_lit, pk_mul, nI_add]) (by omega) (by decide) (fun s4 (hs4 : s4 = hk_u2 s3 43 (2448 * j + i) (s 41 i)) => ?_)
      refine hk_Rn_cast (by rw [← nI_1]; rfl) (ih (i + 1) s4 (by omega) (fun p q a1 a2 => ?_) ?_ (fun x hx => ?_) (fun q hq => ?_) (fun q hq => ?_))
      · rw [hs4, hk_u2o (by omega)]; exact h1 p q a1 a2
      · rw [hs4, hk_u2o (by omega)]; exact h2
      · rw [hs4, hk_u2o (by omega)]; exact h3 x hx
      · rw [hs4]
        by_cases e : q = i
        · subst e; rw [hk_u2s]
        · rw [hk_u2o (by omega)]; exact h4 q (by omega)
      · rw [hs4, hk_u2o (by omega)]; exact h5 q hq
  refine hk_stn (i := nI j) (j := j) (by simp only [hk_lit, pk_mul, nI_add]) (by omega) (by decide) (fun s3 (hs3 : s3 = hk_u2 s 44 (j) (vp_nar .boolean 1)) => ?_)
  refine loop 2448 0 s3 (by omega) (fun p q a1 a2 => ?_) ?_ (fun x hx => ?_) (fun q hq => absurd hq (Nat.not_lt_zero q)) (fun q hq => ?_)
  · rw [hs3, hk_u2o (by omega)]
  · rw [hs3, hk_u2s]; rfl
  · rw [hs3, hk_u2o (by omega)]
  · rw [hs3, hk_u2o (by omega)]
end HKJ
/-! ===== p1's pair ===== -/
theorem hk_fS : ∀ j, j < 9 → ∃ n, hk_tw hk_F0s (1 + 1 + 2 * j) n := fun j hj => hk_f9x (P := fun j => ∃ n, hk_tw hk_F0s (1 + 1 + 2 * j) n) ⟨0, rfl, rfl, rfl, by decide⟩ ⟨0, rfl, rfl, rfl, by decide⟩ ⟨0, rfl, rfl, rfl, by decide⟩ ⟨4, rfl, rfl, rfl, by decide⟩ ⟨4, rfl, rfl, rfl, by decide⟩ ⟨0, rfl, rfl, rfl, by decide⟩ ⟨0, rfl, rfl, rfl, by decide⟩ ⟨0, rfl, rfl, rfl, by decide⟩ ⟨0, rfl, rfl, rfl, by decide⟩ hj
