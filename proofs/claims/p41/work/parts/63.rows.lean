/-! ===== rows added on both sides ===== -/
theorem hk_RI_test {f g : Nat → Int32} {a b r n : Nat} (h : hk_RI f a b r) (hn : n ≤ 20) (en : g 4 = nI n) (e : ∀ q, q ≠ 4 → ¬ (1678 ≤ q ∧ q < 1718) → g q = f q) : hk_RI g a b r := by
  obtain ⟨⟨p1, p2, p3⟩, ⟨c0, c1, c2⟩, har, hch, hpl, hrd, ⟨n7, hn7, e7⟩, htx, ⟨h3, hh3, e3, hhu⟩, ⟨h4, hh4, e4⟩, ⟨h5, hh5, e5⟩, ⟨h6, hh6, e6, x6⟩, ⟨h10, hh10, e10, x10⟩, ⟨h11, hh11, e11⟩⟩ := h
  exact ⟨⟨p1, p2, p3⟩, ⟨by rw [e _ (by omega) (by omega)]; exact c0, by rw [e _ (by omega) (by omega)]; exact c1, by rw [e _ (by omega) (by omega)]; exact c2⟩, fun i hi => by rw [e _ (by omega) (by omega)]; exact har i hi, fun i hi => by rw [e _ (by omega) (by omega)]; exact hch i hi, fun p hp => by rw [e _ (by omega) (by omega), e _ (by omega) (by omega)]; exact hpl p hp, fun j hj => by rw [e _ (by omega) (by omega), e _ (by omega) (by omega), e _ (by omega) (by omega)]; exact hrd j hj, ⟨n7, hn7, by rw [e _ (by omega) (by omega)]; exact e7⟩, fun t ht => by rw [e _ (by omega) (by omega)]; exact htx t ht, ⟨h3, hh3, by rw [e _ (by omega) (by omega)]; exact e3, fun i hi => by rw [e _ (by omega) (by omega), e _ (by omega) (by omega), e _ (by omega) (by omega)]; exact hhu i hi⟩, ⟨n, hn, en⟩, ⟨h5, hh5, by rw [e _ (by omega) (by omega)]; exact e5⟩, ⟨h6, hh6, by rw [e _ (by omega) (by omega)]; exact e6, hk_RZ_e x6 (fun j hj => e j (by omega) (by omega))⟩, ⟨h10, hh10, by rw [e _ (by omega) (by omega)]; exact e10, hk_RP_e x10 (fun j hj => e j (by omega) (by omega))⟩, ⟨h11, hh11, by rw [e _ (by omega) (by omega)]; exact e11⟩⟩
theorem hk_RI_hand {f g : Nat → Int32} {a b r n : Nat} (h : hk_RI f a b r) (hn : n ≤ 8) (en : g 5 = nI n) (hx : hk_RZ g) (e : ∀ q, q ≠ 5 → ¬ (1808 ≤ q ∧ q < 1824) → g q = f q) : hk_RI g a b r := by
  obtain ⟨⟨p1, p2, p3⟩, ⟨c0, c1, c2⟩, har, hch, hpl, hrd, ⟨n7, hn7, e7⟩, htx, ⟨h3, hh3, e3, hhu⟩, ⟨h4, hh4, e4⟩, ⟨h5, hh5, e5⟩, ⟨h6, hh6, e6, x6⟩, ⟨h10, hh10, e10, x10⟩, ⟨h11, hh11, e11⟩⟩ := h
  exact ⟨⟨p1, p2, p3⟩, ⟨by rw [e _ (by omega) (by omega)]; exact c0, by rw [e _ (by omega) (by omega)]; exact c1, by rw [e _ (by omega) (by omega)]; exact c2⟩, fun i hi => by rw [e _ (by omega) (by omega)]; exact har i hi, fun i hi => by rw [e _ (by omega) (by omega)]; exact hch i hi, fun p hp => by rw [e _ (by omega) (by omega), e _ (by omega) (by omega)]; exact hpl p hp, fun j hj => by rw [e _ (by omega) (by omega), e _ (by omega) (by omega), e _ (by omega) (by omega)]; exact hrd j hj, ⟨n7, hn7, by rw [e _ (by omega) (by omega)]; exact e7⟩, fun t ht => by rw [e _ (by omega) (by omega)]; exact htx t ht, ⟨h3, hh3, by rw [e _ (by omega) (by omega)]; exact e3, fun i hi => by rw [e _ (by omega) (by omega), e _ (by omega) (by omega), e _ (by omega) (by omega)]; exact hhu i hi⟩, ⟨h4, hh4, by rw [e _ (by omega) (by omega)]; exact e4⟩, ⟨n, hn, en⟩, ⟨h6, hh6, by rw [e _ (by omega) (by omega)]; exact e6, hx⟩, ⟨h10, hh10, by rw [e _ (by omega) (by omega)]; exact e10, hk_RP_e x10 (fun j hj => e j (by omega) (by omega))⟩, ⟨h11, hh11, by rw [e _ (by omega) (by omega)]; exact e11⟩⟩
theorem hk_RI_work {f g : Nat → Int32} {a b r n : Nat} (h : hk_RI f a b r) (hn : n ≤ 8) (en : g 6 = nI n) (hx : hk_RZ g) (e : ∀ q, q ≠ 6 → ¬ (1824 ≤ q ∧ q < 1848) → g q = f q) : hk_RI g a b r := by
  obtain ⟨⟨p1, p2, p3⟩, ⟨c0, c1, c2⟩, har, hch, hpl, hrd, ⟨n7, hn7, e7⟩, htx, ⟨h3, hh3, e3, hhu⟩, ⟨h4, hh4, e4⟩, ⟨h5, hh5, e5⟩, ⟨h6, hh6, e6, x6⟩, ⟨h10, hh10, e10, x10⟩, ⟨h11, hh11, e11⟩⟩ := h
  exact ⟨⟨p1, p2, p3⟩, ⟨by rw [e _ (by omega) (by omega)]; exact c0, by rw [e _ (by omega) (by omega)]; exact c1, by rw [e _ (by omega) (by omega)]; exact c2⟩, fun i hi => by rw [e _ (by omega) (by omega)]; exact har i hi, fun i hi => by rw [e _ (by omega) (by omega)]; exact hch i hi, fun p hp => by rw [e _ (by omega) (by omega), e _ (by omega) (by omega)]; exact hpl p hp, fun j hj => by rw [e _ (by omega) (by omega), e _ (by omega) (by omega), e _ (by omega) (by omega)]; exact hrd j hj, ⟨n7, hn7, by rw [e _ (by omega) (by omega)]; exact e7⟩, fun t ht => by rw [e _ (by omega) (by omega)]; exact htx t ht, ⟨h3, hh3, by rw [e _ (by omega) (by omega)]; exact e3, fun i hi => by rw [e _ (by omega) (by omega), e _ (by omega) (by omega), e _ (by omega) (by omega)]; exact hhu i hi⟩, ⟨h4, hh4, by rw [e _ (by omega) (by omega)]; exact e4⟩, ⟨h5, hh5, by rw [e _ (by omega) (by omega)]; exact e5⟩, ⟨n, hn, en, hx⟩, ⟨h10, hh10, by rw [e _ (by omega) (by omega)]; exact e10, hk_RP_e x10 (fun j hj => e j (by omega) (by omega))⟩, ⟨h11, hh11, by rw [e _ (by omega) (by omega)]; exact e11⟩⟩
theorem hk_RI_hull {f g : Nat → Int32} {a b r n : Nat} (h : hk_RI f a b r) (hn : n ≤ 4) (en : g 3 = nI n) (hu : ∀ i, i < n → ∃ x y z, x ≤ 10 ∧ 1 ≤ y ∧ y ≤ 10 ∧ z ≤ 1000 ∧ g (1666 + 3 * i) = nI x ∧ g (1666 + 3 * i + 1) = nI y ∧ g (1666 + 3 * i + 2) = nI z) (e : ∀ q, q ≠ 3 → ¬ (1666 ≤ q ∧ q < 1678) → g q = f q) : hk_RI g a b r := by
  obtain ⟨⟨p1, p2, p3⟩, ⟨c0, c1, c2⟩, har, hch, hpl, hrd, ⟨n7, hn7, e7⟩, htx, ⟨h3, hh3, e3, hhu⟩, ⟨h4, hh4, e4⟩, ⟨h5, hh5, e5⟩, ⟨h6, hh6, e6, x6⟩, ⟨h10, hh10, e10, x10⟩, ⟨h11, hh11, e11⟩⟩ := h
  exact ⟨⟨p1, p2, p3⟩, ⟨by rw [e _ (by omega) (by omega)]; exact c0, by rw [e _ (by omega) (by omega)]; exact c1, by rw [e _ (by omega) (by omega)]; exact c2⟩, fun i hi => by rw [e _ (by omega) (by omega)]; exact har i hi, fun i hi => by rw [e _ (by omega) (by omega)]; exact hch i hi, fun p hp => by rw [e _ (by omega) (by omega), e _ (by omega) (by omega)]; exact hpl p hp, fun j hj => by rw [e _ (by omega) (by omega), e _ (by omega) (by omega), e _ (by omega) (by omega)]; exact hrd j hj, ⟨n7, hn7, by rw [e _ (by omega) (by omega)]; exact e7⟩, fun t ht => by rw [e _ (by omega) (by omega)]; exact htx t ht, ⟨n, hn, en, hu⟩, ⟨h4, hh4, by rw [e _ (by omega) (by omega)]; exact e4⟩, ⟨h5, hh5, by rw [e _ (by omega) (by omega)]; exact e5⟩, ⟨h6, hh6, by rw [e _ (by omega) (by omega)]; exact e6, hk_RZ_e x6 (fun j hj => e j (by omega) (by omega))⟩, ⟨h10, hh10, by rw [e _ (by omega) (by omega)]; exact e10, hk_RP_e x10 (fun j hj => e j (by omega) (by omega))⟩, ⟨h11, hh11, by rw [e _ (by omega) (by omega)]; exact e11⟩⟩
theorem hk_RI_dock {f g : Nat → Int32} {a b r x y : Nat} (h : hk_RI f a b r) (hx : x ≤ 3) (hy : y ≤ 1000) (ex : g 10 = nI x) (ey : g 11 = nI y) (e : ∀ q, q ≠ 10 → q ≠ 11 → g q = f q) : hk_RI g a b r := by
  obtain ⟨⟨p1, p2, p3⟩, ⟨c0, c1, c2⟩, har, hch, hpl, hrd, ⟨n7, hn7, e7⟩, htx, ⟨h3, hh3, e3, hhu⟩, ⟨h4, hh4, e4⟩, ⟨h5, hh5, e5⟩, ⟨h6, hh6, e6, x6⟩, ⟨h10, hh10, e10, x10⟩, ⟨h11, hh11, e11⟩⟩ := h
  exact ⟨⟨p1, p2, p3⟩, ⟨by rw [e _ (by omega) (by omega)]; exact c0, by rw [e _ (by omega) (by omega)]; exact c1, by rw [e _ (by omega) (by omega)]; exact c2⟩, fun i hi => by rw [e _ (by omega) (by omega)]; exact har i hi, fun i hi => by rw [e _ (by omega) (by omega)]; exact hch i hi, fun p hp => by rw [e _ (by omega) (by omega), e _ (by omega) (by omega)]; exact hpl p hp, fun j hj => by rw [e _ (by omega) (by omega), e _ (by omega) (by omega), e _ (by omega) (by omega)]; exact hrd j hj, ⟨n7, hn7, by rw [e _ (by omega) (by omega)]; exact e7⟩, fun t ht => by rw [e _ (by omega) (by omega)]; exact htx t ht, ⟨h3, hh3, by rw [e _ (by omega) (by omega)]; exact e3, fun i hi => by rw [e _ (by omega) (by omega), e _ (by omega) (by omega), e _ (by omega) (by omega)]; exact hhu i hi⟩, ⟨h4, hh4, by rw [e _ (by omega) (by omega)]; exact e4⟩, ⟨h5, hh5, by rw [e _ (by omega) (by omega)]; exact e5⟩, ⟨h6, hh6, by rw [e _ (by omega) (by omega)]; exact e6, hk_RZ_e x6 (fun j hj => e j (by omega) (by omega))⟩, ⟨x, hx, ex, hk_RP_e x10 (fun j hj => e j (by omega) (by omega))⟩, ⟨y, hy, ey⟩⟩
theorem hk_RI_ch {f g : Nat → Int32} {a b r w : Nat} (h : hk_RI f a b r) (hw : w < 6) (ev : g (20 + 10 * w + 8) = -1 ∨ ∃ j, j < 4 ∧ g (20 + 10 * w + 8) = nI j) (e : ∀ q, q ≠ 20 + 10 * w + 8 → g q = f q) : hk_RI g a b r := by
  obtain ⟨⟨p1, p2, p3⟩, ⟨c0, c1, c2⟩, har, hch, hpl, hrd, ⟨n7, hn7, e7⟩, htx, ⟨h3, hh3, e3, hhu⟩, ⟨h4, hh4, e4⟩, ⟨h5, hh5, e5⟩, ⟨h6, hh6, e6, x6⟩, ⟨h10, hh10, e10, x10⟩, ⟨h11, hh11, e11⟩⟩ := h
  refine ⟨⟨p1, p2, p3⟩, ⟨by rw [e _ (by omega)]; exact c0, by rw [e _ (by omega)]; exact c1, by rw [e _ (by omega)]; exact c2⟩, fun i hi => by rw [e _ (by omega)]; exact har i hi, fun i hi => ?_, fun p hp => by rw [e _ (by omega), e _ (by omega)]; exact hpl p hp, fun j hj => by rw [e _ (by omega), e _ (by omega), e _ (by omega)]; exact hrd j hj, ⟨n7, hn7, by rw [e _ (by omega)]; exact e7⟩, fun t ht => by rw [e _ (by omega)]; exact htx t ht, ⟨h3, hh3, by rw [e _ (by omega)]; exact e3, fun i hi => by rw [e _ (by omega), e _ (by omega), e _ (by omega)]; exact hhu i hi⟩, ⟨h4, hh4, by rw [e _ (by omega)]; exact e4⟩, ⟨h5, hh5, by rw [e _ (by omega)]; exact e5⟩, ⟨h6, hh6, by rw [e _ (by omega)]; exact e6, hk_RZ_e x6 (fun j hj => e j (by omega))⟩, ⟨h10, hh10, by rw [e _ (by omega)]; exact e10, hk_RP_e x10 (fun j hj => e j (by omega))⟩, ⟨h11, hh11, by rw [e _ (by omega)]; exact e11⟩⟩
  by_cases ei : i = w
  · subst ei
    exact ev
  · rw [e _ (by omega)]
    exact hch i hi
theorem hk_RI_tx {f g : Nat → Int32} {a b r w m : Nat} (h : hk_RI f a b r) (hw : w < 4) (hm : m ≤ 60) (ev : g (1422 + 61 * w) = nI m) (hx : ∀ q, 1422 ≤ q → q < 1666 → ¬ g q = -1) (e : ∀ q, ¬ (1422 + 61 * w ≤ q ∧ q < 1422 + 61 * w + 61) → g q = f q) : hk_RI g a b r := by
  obtain ⟨⟨p1, p2, p3⟩, ⟨c0, c1, c2⟩, har, hch, hpl, hrd, ⟨n7, hn7, e7⟩, htx, ⟨h3, hh3, e3, hhu⟩, ⟨h4, hh4, e4⟩, ⟨h5, hh5, e5⟩, ⟨h6, hh6, e6, x6⟩, ⟨h10, hh10, e10, x10⟩, ⟨h11, hh11, e11⟩⟩ := h
  refine ⟨⟨p1, p2, p3⟩, ⟨by rw [e _ (by omega)]; exact c0, by rw [e _ (by omega)]; exact c1, by rw [e _ (by omega)]; exact c2⟩, fun i hi => by rw [e _ (by omega)]; exact har i hi, fun i hi => by rw [e _ (by omega)]; exact hch i hi, fun p hp => by rw [e _ (by omega), e _ (by omega)]; exact hpl p hp, fun j hj => by rw [e _ (by omega), e _ (by omega), e _ (by omega)]; exact hrd j hj, ⟨n7, hn7, by rw [e _ (by omega)]; exact e7⟩, fun t ht => ?_, ⟨h3, hh3, by rw [e _ (by omega)]; exact e3, fun i hi => by rw [e _ (by omega), e _ (by omega), e _ (by omega)]; exact hhu i hi⟩, ⟨h4, hh4, by rw [e _ (by omega)]; exact e4⟩, ⟨h5, hh5, by rw [e _ (by omega)]; exact e5⟩, ⟨h6, hh6, by rw [e _ (by omega)]; exact e6, hk_RZ_t x6 hx (fun j hj => e j (by omega))⟩, ⟨h10, hh10, by rw [e _ (by omega)]; exact e10, hk_RP_e x10 (fun j hj => e j (by omega))⟩, ⟨h11, hh11, by rw [e _ (by omega)]; exact e11⟩⟩
  by_cases ei : t = w
  · subst ei
    exact ⟨m, hm, ev⟩
  · rw [e _ (by omega)]
    exact htx t ht
theorem hk_RI_plate {f g : Nat → Int32} {a b r i z : Nat} (h : hk_RI f a b r) (hb : b < 96) (hi : i < a) (hz : z < 3) (e0 : g (80 + 6 * b) = nI i) (e1 : g (80 + 6 * b + 1) = nI z) (en : g 1 = nI (b + 1)) (hT : ∃ m, m ≤ 5000 ∧ g (80 + 6 * b + 2) = nI m) (hM : ∃ m, m ≤ 1000 ∧ g (80 + 6 * b + 3) = nI m) (e : ∀ q, q ≠ 1 → ¬ (80 + 6 * b ≤ q ∧ q < 86 + 6 * b) → g q = f q) : hk_RI g a (b + 1) r := by
  obtain ⟨⟨p1, p2, p3⟩, ⟨c0, c1, c2⟩, har, hch, hpl, hrd, ⟨n7, hn7, e7⟩, htx, ⟨h3, hh3, e3, hhu⟩, ⟨h4, hh4, e4⟩, ⟨h5, hh5, e5⟩, ⟨h6, hh6, e6, x6⟩, ⟨h10, hh10, e10, x10⟩, ⟨h11, hh11, e11⟩⟩ := h
  refine ⟨⟨p1, by omega, p3⟩, ⟨by rw [e _ (by omega) (by omega)]; exact c0, en, by rw [e _ (by omega) (by omega)]; exact c2⟩, fun i hi => by rw [e _ (by omega) (by omega)]; exact har i hi, fun i hi => by rw [e _ (by omega) (by omega)]; exact hch i hi, fun p hp => ?_, fun j hj => ?_, ⟨n7, hn7, by rw [e _ (by omega) (by omega)]; exact e7⟩, fun t ht => by rw [e _ (by omega) (by omega)]; exact htx t ht, ⟨h3, hh3, by rw [e _ (by omega) (by omega)]; exact e3, fun i hi => by rw [e _ (by omega) (by omega), e _ (by omega) (by omega), e _ (by omega) (by omega)]; exact hhu i hi⟩, ⟨h4, hh4, by rw [e _ (by omega) (by omega)]; exact e4⟩, ⟨h5, hh5, by rw [e _ (by omega) (by omega)]; exact e5⟩, ⟨h6, hh6, by rw [e _ (by omega) (by omega)]; exact e6, hk_RZ_e x6 (fun j hj => e j (by omega) (by omega))⟩, ⟨h10, hh10, by rw [e _ (by omega) (by omega)]; exact e10, ?_⟩, ⟨h11, hh11, by rw [e _ (by omega) (by omega)]; exact e11⟩⟩
  · by_cases ep : p = b
    · subst ep
      exact ⟨⟨i, hi, e0⟩, z, hz, e1⟩
    · rw [e _ (by omega) (by omega), e _ (by omega) (by omega)]
      exact hpl p (by omega)
  · rw [e _ (by omega) (by omega), e _ (by omega) (by omega), e _ (by omega) (by omega)]
    obtain ⟨⟨p, hp, ep⟩, q⟩ := hrd j hj
    exact ⟨⟨p, by omega, ep⟩, q⟩
  · refine ⟨fun z hz => by rw [e _ (by omega) (by omega)]; exact x10.1 z hz, fun n hn e0 i hi => ?_, fun n hn e1 p hp => ?_⟩
    · rw [e _ (by omega) (by omega)] at e0
      rw [e _ (by omega) (by omega), e _ (by omega) (by omega), e _ (by omega) (by omega)]
      exact x10.2.1 n hn e0 i hi
    · rw [en, nI_eq (by omega) (by omega)] at e1
      by_cases ep : p = b
      · subst ep
        exact ⟨hT, hM⟩
      · rw [e _ (by omega) (by omega), e _ (by omega) (by omega)]
        exact x10.2.2 b (by omega) c1 p (by omega)
theorem hk_RI_ship {f g : Nat → Int32} {a b r : Nat} (h : hk_RI f a b r) (ha : a < 6) (e0 : ¬ g (20 + 10 * a) = 0) (e8 : g (20 + 10 * a + 8) = -1) (en : g 0 = nI (a + 1)) (hA : ∃ m, 1 ≤ m ∧ m ≤ 1000 ∧ g (20 + 10 * a) = nI m) (hK : g (20 + 10 * a + 6) = 0) (hL : g (20 + 10 * a + 7) = 0) (e : ∀ q, q ≠ 0 → ¬ (20 + 10 * a ≤ q ∧ q < 30 + 10 * a) → g q = f q) : hk_RI g (a + 1) b r := by
  obtain ⟨⟨p1, p2, p3⟩, ⟨c0, c1, c2⟩, har, hch, hpl, hrd, ⟨n7, hn7, e7⟩, htx, ⟨h3, hh3, e3, hhu⟩, ⟨h4, hh4, e4⟩, ⟨h5, hh5, e5⟩, ⟨h6, hh6, e6, x6⟩, ⟨h10, hh10, e10, x10⟩, ⟨h11, hh11, e11⟩⟩ := h
  refine ⟨⟨by omega, p2, p3⟩, ⟨en, by rw [e _ (by omega) (by omega)]; exact c1, by rw [e _ (by omega) (by omega)]; exact c2⟩, fun i hi => ?_, fun i hi => ?_, fun p hp => ?_, fun j hj => by rw [e _ (by omega) (by omega), e _ (by omega) (by omega), e _ (by omega) (by omega)]; exact hrd j hj, ⟨n7, hn7, by rw [e _ (by omega) (by omega)]; exact e7⟩, fun t ht => by rw [e _ (by omega) (by omega)]; exact htx t ht, ⟨h3, hh3, by rw [e _ (by omega) (by omega)]; exact e3, fun i hi => by rw [e _ (by omega) (by omega), e _ (by omega) (by omega), e _ (by omega) (by omega)]; exact hhu i hi⟩, ⟨h4, hh4, by rw [e _ (by omega) (by omega)]; exact e4⟩, ⟨h5, hh5, by rw [e _ (by omega) (by omega)]; exact e5⟩, ⟨h6, hh6, by rw [e _ (by omega) (by omega)]; exact e6, hk_RZ_e x6 (fun j hj => e j (by omega) (by omega))⟩, ⟨h10, hh10, by rw [e _ (by omega) (by omega)]; exact e10, ?_⟩, ⟨h11, hh11, by rw [e _ (by omega) (by omega)]; exact e11⟩⟩
  · by_cases ei : i = a
    · subst ei
      exact e0
    · rw [e _ (by omega) (by omega)]
      exact har i (by omega)
  · by_cases ei : i = a
    · subst ei
      exact Or.inl e8
    · rw [e _ (by omega) (by omega)]
      exact hch i (by omega)
  · rw [e _ (by omega) (by omega), e _ (by omega) (by omega)]
    obtain ⟨⟨i, hi, ei⟩, q⟩ := hpl p hp
    exact ⟨⟨i, by omega, ei⟩, q⟩
  · refine ⟨fun z hz => by rw [e _ (by omega) (by omega)]; exact x10.1 z hz, fun n hn e1 i hi => ?_, fun n hn e1 p hp => ?_⟩
    · rw [en, nI_eq (by omega) (by omega)] at e1
      by_cases ei : i = a
      · subst ei
        exact ⟨hA, Or.inl hK, 0, by omega, hL⟩
      · rw [e _ (by omega) (by omega), e _ (by omega) (by omega), e _ (by omega) (by omega)]
        exact x10.2.1 a (by omega) c0 i (by omega)
    · rw [e _ (by omega) (by omega)] at e1
      rw [e _ (by omega) (by omega), e _ (by omega) (by omega)]
      exact x10.2.2 n hn e1 p hp
/-- a row more: the invariant, out of both sides' effects -/
theorem hk_IS_add {s s2 s3 : Nat → Nat → Int32} {i0 i1 t n B Q : Nat} {L : List Int32} (h : hk_IS s i0 i1) (ht : hk_tb t) (hn : n < hk_mo t) (hw : hk_tw s t n) (hlq : hk_LP (t - 1) 3 Q) (hlc : ∀ i, i < hk_mo t * hk_co t → hk_LP t i (B + i)) (ha : hk_add s s2 t n L) (ho : ∀ p q, p ≠ 41 → s3 p q = s2 p q) (gQ : s3 41 Q = nI (n + 1)) (gc : ∀ c, c < hk_co t → s3 41 (B + (n * hk_co t + c)) = L.getD c 0) (ge : ∀ q, q ≠ Q → ¬ (B + n * hk_co t ≤ q ∧ q < B + n * hk_co t + hk_co t) → s3 41 q = s 41 q) (r : ∃ a b r, hk_RI (s3 41) a b r) (h810 : t ≠ 8 ∧ t ≠ 10) : hk_IS s3 i0 i1 := by
  obtain ⟨h1, h2, h3, h4, h5⟩ := h
  have htb := hk_tb35 ht
  have hin : n * hk_co t + hk_co t ≤ hk_mo t * hk_co t := by
    have := Nat.mul_le_mul_right (hk_co t) (show n + 1 ≤ hk_mo t by omega)
    rw [Nat.add_mul] at this
    omega
  have e : ∀ p q, 51 ≤ p ∧ p < 95 ∨ p = 43 ∨ p = 44 → s3 p q = s p q := fun p q hp => by
    rw [ho p q (by omega), ha.1 p q (by omega) (by omega)]
  have fr : ∀ t2 q, hk_tb t2 → ¬ (t2 = t ∧ q = 3) → s3 t2 q = s t2 q := fun t2 q ht2 hne => by
    have := hk_tb35 ht2
    rw [ho _ _ (by omega), ha.1 _ _ (fun c => ?_) hne]
    have c1 := c.1
    unfold hk_tb at ht ht2
    omega
  have tws : ∀ t2 n2, hk_tb t2 → t2 ≠ t → hk_tw s t2 n2 → hk_tw s3 t2 n2 := fun t2 n2 ht2 hne ⟨b1, b2, b3, b4⟩ => ⟨by rw [fr _ _ ht2 (by omega)]; exact b1, by rw [fr _ _ ht2 (by omega)]; exact b2, by rw [fr _ _ ht2 (by omega)]; exact b3, b4⟩
  refine ⟨⟨fun t2 ht2 => ?_, tws 8 4 (by simp [hk_tb]) (by omega) h1.2.1, tws 10 4 (by simp [hk_tb]) (by omega) h1.2.2⟩, fun a i q hl => ?_, r, hk_Img_fr h4 (by omega) e, hk_Img_fr h5 (by omega) e⟩
  · by_cases et : t2 = t
    · subst et
      exact ⟨n + 1, by rw [fr _ _ ht (by omega)]; exact hw.1, by rw [fr _ _ ht (by omega)]; exact hw.2.1, by rw [ho _ _ (by omega)]; exact ha.2.1, hn⟩
    · exact (h1.1 t2 ht2).elim fun n2 hn2 => ⟨n2, tws t2 n2 ht2 et hn2⟩
  · have hla := hk_LP_b hl
    rw [ho _ _ (by omega)]
    have t1 : 1 ≤ t := by unfold hk_tb at ht; omega
    by_cases c1 : q = Q
    · obtain ⟨e1, e2⟩ := (hk_LP_inj hl hlq).mpr c1
      subst e1 e2 c1
      rw [gQ, show 1 + (t - 1) = t by omega]
      exact ha.2.1
    · by_cases c2 : B + n * hk_co t ≤ q ∧ q < B + n * hk_co t + hk_co t
      · have hl2 := hlc (q - B) (by omega)
        obtain ⟨e1, e2⟩ := (hk_LP_inj hl hl2).mpr (by omega)
        obtain ⟨c, hc⟩ : ∃ c, q = B + (n * hk_co t + c) := ⟨q - B - n * hk_co t, by omega⟩
        have hc2 : c < hk_co t := by omega
        rw [hc, gc c hc2, e1, e2, hc, show 1 + t = t + 1 by omega, show B + (n * hk_co t + c) - B = n * hk_co t + c by omega]
        exact ha.2.2 c hc2
      · rw [ge q c1 c2, ha.1 _ _ (fun c => ?_) (fun c => ?_)]
        · exact h2 a i q hl
        · have ea : a = t := by omega
          subst ea
          have := (hk_LP_inj hl (hlc i (by omega))).mp ⟨rfl, rfl⟩
          omega
        · have ea : a = t - 1 := by omega
          exact c1 ((hk_LP_inj hl hlq).mp ⟨ea, c.2⟩)
