/-! ===== the reference: calls that change ships and plates ===== -/
/-- a cell that RI doesn't speak of, or as before -/
theorem hk_RI_v {f : Nat → Int32} {a b r q : Nat} {v : Int32} (h : hk_RI f a b r) (h1 : 12 ≤ q ∧ q < 20 ∨ q = 8 ∨ q = 9 ∨ (20 ≤ q ∧ q < 80 ∧ q % 10 ≠ 0 ∧ q % 10 ≠ 8) ∨ (80 ≤ q ∧ q < 656 ∧ q % 6 ≠ 2 ∧ q % 6 ≠ 3) ∨ (1410 ≤ q ∧ q < 1422) ∨ 1678 ≤ q ∧ (q < 1808 ∨ 1848 ≤ q)) (hP : hk_RP (fun j => if j = q then v else f j)) : hk_RI (fun j => if j = q then v else f j) a b r := by
  obtain ⟨⟨p1, p2, p3⟩, ⟨c0, c1, c2⟩, har, hch, hpl, hrd, ⟨n7, hn7, e7⟩, htx, ⟨h3, hh3, e3, hhu⟩, ⟨h4, hh4, e4⟩, ⟨h5, hh5, e5⟩, ⟨h6, hh6, e6, x6⟩, ⟨h10, hh10, e10, x10⟩, ⟨h11, hh11, e11⟩⟩ := h
  have g : ∀ j, j ≠ q → (fun j => if j = q then v else f j) j = f j := fun j hj => if_neg hj
  have g1 : ∀ {j : Nat} {x : Int32}, f j = x → j ≠ q → (if j = q then v else f j) = x := fun e hj => (if_neg hj).trans e
  refine ⟨⟨p1, p2, p3⟩, ⟨g1 c0 (by omega), g1 c1 (by omega), g1 c2 (by omega)⟩, fun i hi => ?_, fun i hi => ?_, fun p hp => ?_, fun j hj => ?_, ⟨n7, hn7, g1 e7 (by omega)⟩, fun t ht => ?_, ⟨h3, hh3, g1 e3 (by omega), fun i hi => ?_⟩, ⟨h4, hh4, g1 e4 (by omega)⟩, ⟨h5, hh5, g1 e5 (by omega)⟩, ⟨h6, hh6, g1 e6 (by omega), hk_RZ_e x6 (fun j hj => if_neg (by omega))⟩, ⟨h10, hh10, g1 e10 (by omega), hP⟩, ⟨h11, hh11, g1 e11 (by omega)⟩⟩
  · show ¬ (if 20 + 10 * i = q then v else f (20 + 10 * i)) = 0
    rw [if_neg (by omega)]
    exact har i hi
  · show (if 20 + 10 * i + 8 = q then v else f (20 + 10 * i + 8)) = -1 ∨ ∃ j, j < 4 ∧ (if 20 + 10 * i + 8 = q then v else f (20 + 10 * i + 8)) = nI j
    rw [if_neg (by omega)]
    exact hch i hi
  · show (∃ i, i < a ∧ (if 80 + 6 * p = q then v else f (80 + 6 * p)) = nI i) ∧ ∃ z, z < 3 ∧ (if 80 + 6 * p + 1 = q then v else f (80 + 6 * p + 1)) = nI z
    rw [if_neg (by omega), if_neg (by omega)]
    exact hpl p hp
  · show (∃ p, p < b ∧ (if 660 + 5 * j = q then v else f (660 + 5 * j)) = nI p) ∧ (∃ m, m < 600 ∧ (if 660 + 5 * j + 1 = q then v else f (660 + 5 * j + 1)) = nI m) ∧ ∃ g, g < 4 ∧ (if 660 + 5 * j + 2 = q then v else f (660 + 5 * j + 2)) = nI g
    rw [if_neg (by omega), if_neg (by omega), if_neg (by omega)]
    exact hrd j hj
  · show ∃ m, m ≤ 60 ∧ (if 1422 + 61 * t = q then v else f (1422 + 61 * t)) = nI m
    rw [if_neg (by omega)]
    exact htx t ht
  · show ∃ x y z, x ≤ 10 ∧ 1 ≤ y ∧ y ≤ 10 ∧ z ≤ 1000 ∧ (if 1666 + 3 * i = q then v else f (1666 + 3 * i)) = nI x ∧ (if 1666 + 3 * i + 1 = q then v else f (1666 + 3 * i + 1)) = nI y ∧ (if 1666 + 3 * i + 2 = q then v else f (1666 + 3 * i + 2)) = nI z
    rw [if_neg (by omega), if_neg (by omega), if_neg (by omega)]
    exact hhu i hi
theorem hk_RI_u {f : Nat → Int32} {a b r q : Nat} {v : Int32} (h : hk_RI f a b r) (h1 : 15 ≤ q ∧ q < 20 ∨ q = 8 ∨ q = 9 ∨ (20 ≤ q ∧ q < 80 ∧ 1 ≤ q % 10 ∧ q % 10 ≤ 5) ∨ (80 ≤ q ∧ q < 656 ∧ (q % 6 = 0 ∨ q % 6 = 1)) ∨ (1410 ≤ q ∧ q < 1422) ∨ 1678 ≤ q ∧ (q < 1808 ∨ 1848 ≤ q)) : hk_RI (fun j => if j = q then v else f j) a b r := hk_RI_v h (by omega) (hk_RP_e (h.2.2.2.2.2.2.2.2.2.2.2.2.1.elim fun _ q => q.2.2) (fun j hj => if_neg (by omega)))
theorem hk_RI_P {f : Nat → Int32} {a b r : Nat} (h : hk_RI f a b r) : hk_RP f := h.2.2.2.2.2.2.2.2.2.2.2.2.1.elim fun _ q => q.2.2
/-- a plate's ship -/
theorem hk_RI_of {f : Nat → Int32} {a b r p i : Nat} (h : hk_RI f a b r) (hi : i < a) (hp : p < b) : hk_RI (fun j => if j = 80 + 6 * p then nI i else f j) a b r := by
  obtain ⟨⟨p1, p2, p3⟩, ⟨c0, c1, c2⟩, har, hch, hpl, hrd, ⟨n7, hn7, e7⟩, htx, ⟨h3, hh3, e3, hhu⟩, ⟨h4, hh4, e4⟩, ⟨h5, hh5, e5⟩, ⟨h6, hh6, e6, x6⟩, ⟨h10, hh10, e10, x10⟩, ⟨h11, hh11, e11⟩⟩ := h
  have g1 : ∀ {j : Nat} {x : Int32}, f j = x → j ≠ 80 + 6 * p → (if j = 80 + 6 * p then nI i else f j) = x := fun e hj => (if_neg hj).trans e
  refine ⟨⟨p1, p2, p3⟩, ⟨g1 c0 (by omega), g1 c1 (by omega), g1 c2 (by omega)⟩, fun i hi => ?_, fun i hi => ?_, fun p2 hp2 => ⟨?_, ?_⟩, fun j hj => ?_, ⟨n7, hn7, g1 e7 (by omega)⟩, fun t ht => ?_, ⟨h3, hh3, g1 e3 (by omega), fun i hi => ?_⟩, ⟨h4, hh4, g1 e4 (by omega)⟩, ⟨h5, hh5, g1 e5 (by omega)⟩, ⟨h6, hh6, g1 e6 (by omega), hk_RZ_e x6 (fun j hj => if_neg (by omega))⟩, ⟨h10, hh10, g1 e10 (by omega), hk_RP_e x10 (fun j hj => if_neg (by omega))⟩, ⟨h11, hh11, g1 e11 (by omega)⟩⟩
  · dsimp only
    rw [if_neg (by omega)]
    exact har i hi
  · dsimp only
    rw [if_neg (by omega)]
    exact hch i hi
  · dsimp only
    by_cases e : p2 = p
    · subst e
      rw [if_pos rfl]
      exact ⟨i, hi, rfl⟩
    · rw [if_neg (by omega)]
      exact (hpl p2 hp2).1
  · dsimp only
    rw [if_neg (by omega)]
    exact (hpl p2 hp2).2
  · dsimp only
    rw [if_neg (by omega), if_neg (by omega), if_neg (by omega)]
    exact hrd j hj
  · dsimp only
    rw [if_neg (by omega)]
    exact htx t ht
  · dsimp only
    rw [if_neg (by omega), if_neg (by omega), if_neg (by omega)]
    exact hhu i hi
theorem hk_u2f {s : Nat → Nat → Int32} {p q : Nat} {v : Int32} : hk_u2 s p q v p = fun j => if j = q then v else s p j := by
  funext j
  by_cases e : j = q
  · subst e; rw [hk_u2s, if_pos rfl]
  · rw [hk_u2o (fun h => e h.2), if_neg e]
theorem hk_RI_41 {s : Nat → Nat → Int32} {a b r q : Nat} {v : Int32} (h : hk_RI (s 41) a b r) (h1 : 15 ≤ q ∧ q < 20 ∨ q = 8 ∨ q = 9 ∨ (20 ≤ q ∧ q < 80 ∧ 1 ≤ q % 10 ∧ q % 10 ≤ 5) ∨ (80 ≤ q ∧ q < 656 ∧ (q % 6 = 0 ∨ q % 6 = 1)) ∨ (1410 ≤ q ∧ q < 1422) ∨ 1678 ≤ q ∧ (q < 1808 ∨ 1848 ≤ q)) : hk_RI (hk_u2 s 41 q v 41) a b r := by
  rw [hk_u2f]
  exact hk_RI_u h h1
theorem hk_RI_o {s : Nat → Nat → Int32} {a b r p q : Nat} {v : Int32} (h : hk_RI (s 41) a b r) (hp : p ≠ 41) : hk_RI (hk_u2 s p q v 41) a b r := by
  have e : hk_u2 s p q v 41 = s 41 := by
    funext j
    exact hk_u2o (fun e => hp e.1.symm)
  rw [e]
  exact h
theorem hk_Gm_u {s s2 : Nat → Nat → Int32} {p q : Nat} {v : Int32} (g : hk_Gm s s2) (h1 : 40 ≤ p ∧ p ≤ 50 ∧ p ≠ 42 ∧ p ≠ 43 ∧ p ≠ 44) (h2 : p = 41 → ¬ hk_ez q) : hk_Gm s (hk_u2 s2 p q v) :=
  ⟨fun p' q' h => by rw [hk_u2o (by omega)]; exact g.1 p' q' h, fun q' h => by
    by_cases e : p = 41
    · subst e
      rw [hk_u2o (fun e => h2 rfl (by rw [← e.2]; exact h))]
      exact g.2 q' h
    · rw [hk_u2o (fun e2 => e e2.1.symm)]
      exact g.2 q' h⟩
theorem hk_nez {q : Nat} (h : 660 ≤ q ∧ q < 1410 ∨ q = 2) : ¬ hk_ez q := fun e => by
  unfold hk_ez at e
  omega
