/-! ===== the reference reads a text: what comes of it ===== -/
def hk_ev (nm : Int32 → Int64) (f w : Nat → Int32) : Nat → List Int64
  | 0 => []
  | j + 1 => if f j = 0 then (w j).toInt64 :: hk_ev nm f w j else if f j = 1 then nm (w j) :: hk_ev nm f w j else hk_ap (f j).toNatClampNeg (hk_ev nm f w j)
theorem hk_ev_eq {nm : Int32 → Int64} {f w f2 w2 : Nat → Int32} : ∀ {m : Nat}, (∀ j, j < m → f2 j = f j) → (∀ j, j < m → w2 j = w j) → hk_ev nm f2 w2 m = hk_ev nm f w m
  | 0, _, _ => rfl
  | m + 1, h, h2 => by rw [hk_ev, hk_ev, hk_ev_eq (fun j hj => h j (by omega)) (fun j hj => h2 j (by omega)), h m (by omega), h2 m (by omega)]
def hk_sk (f : Nat → Int32) : Nat → List Nat
  | 0 => []
  | m + 1 => (f m).toNatClampNeg :: hk_sk f m
theorem hk_sk_eq {f f2 : Nat → Int32} : ∀ {m : Nat}, (∀ j, j < m → f2 j = f j) → hk_sk f2 m = hk_sk f m
  | 0, _ => rfl
  | m + 1, h => by rw [hk_sk, hk_sk, hk_sk_eq (fun j hj => h j (by omega)), h m (by omega)]
/-- the reading stands so -/
def hk_VS (nm : Int32 → Int64) (s : Nat → Nat → Int32) (k m : Nat) (V : List Int64) (S : List Nat) : Prop := hk_ev nm (s 45) (s 46) k = V ∧ hk_sk (s 47) m = S
section HKED
variable {d n a bb r i k m o : Nat} {v w x y z : Int32} {s : Nat → Nat → Int32} {lm : Nat → Nat → Int64} {i0 i1 b : Nat} {al : List Nat} {K : Option Value → hk_H → Prop} {nm : Int32 → Int64} {V : List Int64} {S : List Nat}
theorem hk_VS_pop {v : Nat} (h : hk_VS nm s k (m + 1) V (v :: S)) (ev : s 47 m = nI v) (h2 : 2 ≤ v) (h3 : v ≤ 13) : hk_VS nm (hk_u2 (hk_u2 (hk_u2 (hk_u2 s 40 7 (nI m)) 45 k (nI v)) 46 k 0) 40 4 (nI (k + 1))) (k + 1) m (hk_ap v V) S := by
  obtain ⟨h4, h5⟩ := h
  obtain ⟨s1, s2, s3, s4⟩ := hk_sgn h2 h3
  refine ⟨?_, ?_⟩
  · rw [hk_ev, hk_u2o (by omega), hk_u2o (by omega), hk_u2s, if_neg (fun q => s3 (Or.inl q)), if_neg (fun q => s3 (Or.inr q)), nI_clamp (by omega), hk_ev_eq (f := s 45) (w := s 46) (fun j hj => ?_) (fun j hj => ?_), h4]
    · rw [hk_u2o (by omega), hk_u2o (by omega), hk_u2o (by omega), hk_u2o (by omega)]
    · rw [hk_u2o (by omega), hk_u2o (by omega), hk_u2o (by omega), hk_u2o (by omega)]
  · rw [hk_sk_eq (f := s 47) (fun j hj => ?_)]
    · rw [hk_sk] at h5
      exact (List.cons.inj h5).2
    · rw [hk_u2o (by omega), hk_u2o (by omega), hk_u2o (by omega), hk_u2o (by omega)]
theorem hk_VS_top {v : Nat} (h : hk_VS nm s k (m + 1) V S) (ev : s 47 m = nI v) (h3 : v ≤ 13) : S = v :: hk_sk (s 47) m := by
  rw [← h.2, hk_sk, ev, nI_clamp (by omega)]
set_option maxHeartbeats 400000 in
theorem m_stx_w {t : Nat} (ht : 1 ≤ t) (ht2 : t < 10) {e : Option Nat} (he : ∀ x, e = some x → x = 1) (hi : i ≤ 60) : ∀ (m k : Nat) (s : Nat → Nat → Int32) (V : List Int64) (S : List Nat), hk_Pa s i k m o e → hk_VS nm s k m V S → (∀ s2 k2 m2, hk_Pa s2 i k2 m2 o e → hk_FP s s2 → (m2 = 0 ∨ ∃ v, 2 ≤ v ∧ v ≤ 13 ∧ s2 47 (m2 - 1) = nI v ∧ hk_tg v < t) → hk_VS nm s2 k2 m2 (hk_stl t S V).1 (hk_stl t S V).2 → K none (s2, lm, hk_RH i0 i1 b, al)) → hk_w1 (d + 1) none hk_c163 K 1000 (hk_sfx 0 hk_c163) [some (.ref 40), some (.int (nI t))] [] (s, lm, hk_RH i0 i1 b, al) := by
  intro m
  induction m with
  | zero =>
    intro k s V S h hv h1
    have a1 : s 40 7 ≤ 0 := by rw [h.2.1]; decide
    have eS : S = [] := hv.2.symm
    refine And.intro (fun _ => ?_) (fun hc => absurd a1 hc)
    subst eS
    exact h1 s k 0 h (hk_FP_r s) (Or.inl rfl) hv
  | succ m ih =>
    intro k s V S h hv h1
    obtain ⟨v, h2, h3, ev⟩ := h.2.2.2.1 m (by omega)
    have eS := hk_VS_top hv ev h3
    generalize hk_sk (s 47) m = S2 at eS
    subst eS
    have hmi : k + (m + 1) ≤ i := h.2.2.1
    have a1 : ¬ s 40 7 ≤ 0 := by rw [h.2.1]; exact nI_nle (by omega) (by omega)
    have e1 : s 40 7 - 1 = nI m := by rw [h.2.1, nI_pred]
    have hh : hk_tg v ≤ 6 := by
      match v, h2, h3 with
      | 2, _, _ => decide
      | 3, _, _ => decide
      | 4, _, _ => decide
      | 5, _, _ => decide
      | 6, _, _ => decide
      | 7, _, _ => decide
      | 8, _, _ => decide
      | 9, _, _ => decide
      | 10, _, _ => decide
      | 11, _, _ => decide
      | 12, _, _ => decide
      | 13, _, _ => decide
    refine And.intro (fun hc => absurd hc a1) (fun _ => ?_)
    refine hk_ldi (i := s 40 7 - 1) (j := m) e1 (by omega) (by decide) ev ?_
    refine m_holds h2 h3 ?_
    refine And.intro (fun c1 => ?_) (fun c1 => ?_)
    · have c1 : nI (hk_tg v) < nI t := c1
      rw [nI_ltI (by omega) (by omega)] at c1
      rw [hk_stl, if_neg (Nat.not_le.mpr c1)] at h1
      exact h1 s k (m + 1) h (hk_FP_r s) (Or.inr ⟨v, h2, h3, ev, c1⟩) hv
    · have c1 : ¬ nI (hk_tg v) < nI t := c1
      rw [nI_ltI (by omega) (by omega)] at c1
      rw [hk_stl, if_pos (Nat.not_lt.mp c1)] at h1
      have hv12 : v ≤ 12 := by
        by_cases e : v = 13
        · subst e
          have : hk_tg 13 = 0 := rfl
          omega
        · omega
      have p := hk_Pa_pop h he ev h2 hv12
      have pv := hk_VS_pop hv ev h2 h3
      have e2 : hk_u2 s 40 7 (s 40 7 - 1) 40 7 = nI m := by rw [hk_u2s, e1]
      have e3 : hk_u2 s 40 7 (s 40 7 - 1) 47 m = nI v := by rw [hk_u2o (by omega)]; exact ev
      refine hk_ldi (i := hk_u2 s 40 7 (s 40 7 - 1) 40 7) (j := m) e2 (by omega) (by decide) e3 ?_
      have e4 : hk_u2 s 40 7 (s 40 7 - 1) 40 4 = nI k := by rw [hk_u2o (by omega)]; exact h.1
      have fr : hk_FP s (hk_u2 (hk_u2 (hk_u2 (hk_u2 s 40 7 (nI m)) 45 k (nI v)) 46 k 0) 40 4 (nI (k + 1))) := hk_FP_u (hk_FP_u (hk_FP_u (hk_FP_u (hk_FP_r s) (by omega)) (by omega)) (by omega)) (by omega)
      have rr := hk_w1_run _ _ _ _ (ih (k + 1) _ _ _ p pv (fun s2 k2 m2 q1 q2 q3 q4 => h1 s2 k2 m2 q1 (hk_FP_t fr q2) q3 q4))
      rw [← e1] at rr
      refine m_emits (k := k) e4 (by omega) ?_
      exact rr
theorem m_stx {t : Nat} (ht : 1 ≤ t) (ht2 : t < 10) {e : Option Nat} (he : ∀ x, e = some x → x = 1) (hi : i ≤ 60) (h : hk_Pa s i k m o e) (hv : hk_VS nm s k m V S) (h1 : ∀ s2 k2 m2, hk_Pa s2 i k2 m2 o e → hk_FP s s2 → (m2 = 0 ∨ ∃ v, 2 ≤ v ∧ v ≤ 13 ∧ s2 47 (m2 - 1) = nI v ∧ hk_tg v < t) → hk_VS nm s2 k2 m2 (hk_stl t S V).1 (hk_stl t S V).2 → K none (s2, lm, hk_RH i0 i1 b, al)) : hk_Cl (d + 2) 163 [.ref 40, .int (nI t)] (s, lm, hk_RH i0 i1 b, al) K :=
  hk_mth hk_m163 rfl rfl (n := 1000) (m_stx_w ht ht2 he hi m k s V S h hv h1)
theorem hk_VS_push {v : Nat} (h : hk_VS nm s k m V S) (h3 : v ≤ 13) : hk_VS nm (hk_u2 (hk_u2 s 47 m (nI v)) 40 7 (nI (m + 1))) k (m + 1) V (v :: S) := by
  refine ⟨?_, ?_⟩
  · rw [hk_ev_eq (f := s 45) (w := s 46) (fun j hj => ?_) (fun j hj => ?_)]
    · exact h.1
    · rw [hk_u2o (by omega), hk_u2o (by omega)]
    · rw [hk_u2o (by omega), hk_u2o (by omega)]
  · rw [hk_sk, hk_u2o (by omega), hk_u2s, nI_clamp (by omega), hk_sk_eq (f := s 47) (fun j hj => ?_), h.2]
    rw [hk_u2o (by omega), hk_u2o (by omega)]
theorem hk_VS_val0 (h : hk_VS nm s k m V S) : hk_VS nm (hk_u2 (hk_u2 (hk_u2 s 45 k 0) 46 k w) 40 4 (nI (k + 1))) (k + 1) m (w.toInt64 :: V) S := by
  refine ⟨?_, ?_⟩
  · rw [hk_ev, hk_u2o (by omega), hk_u2o (by omega), hk_u2s, if_pos rfl, hk_u2o (by omega), hk_u2s, hk_ev_eq (f := s 45) (w := s 46) (fun j hj => ?_) (fun j hj => ?_), h.1]
    · rw [hk_u2o (by omega), hk_u2o (by omega), hk_u2o (by omega)]
    · rw [hk_u2o (by omega), hk_u2o (by omega), hk_u2o (by omega)]
  · rw [hk_sk_eq (f := s 47) (fun j hj => ?_)]
    · exact h.2
    · rw [hk_u2o (by omega), hk_u2o (by omega), hk_u2o (by omega)]
theorem hk_VS_val1 (h : hk_VS nm s k m V S) : hk_VS nm (hk_u2 (hk_u2 (hk_u2 s 45 k 1) 46 k w) 40 4 (nI (k + 1))) (k + 1) m (nm w :: V) S := by
  refine ⟨?_, ?_⟩
  · rw [hk_ev, hk_u2o (by omega), hk_u2o (by omega), hk_u2s, if_neg (by decide), if_pos rfl, hk_u2o (by omega), hk_u2s, hk_ev_eq (f := s 45) (w := s 46) (fun j hj => ?_) (fun j hj => ?_), h.1]
    · rw [hk_u2o (by omega), hk_u2o (by omega), hk_u2o (by omega)]
    · rw [hk_u2o (by omega), hk_u2o (by omega), hk_u2o (by omega)]
  · rw [hk_sk_eq (f := s 47) (fun j hj => ?_)]
    · exact h.2
    · rw [hk_u2o (by omega), hk_u2o (by omega), hk_u2o (by omega)]
theorem hk_VS_open (h : hk_VS nm s k (m + 1) V S) : hk_VS nm (hk_u2 s 40 7 (nI m)) k m V S.tail := by
  refine ⟨?_, ?_⟩
  · rw [hk_ev_eq (f := s 45) (w := s 46) (fun j hj => hk_u2o (by omega)) (fun j hj => hk_u2o (by omega))]
    exact h.1
  · rw [hk_sk_eq (f := s 47) (fun j hj => hk_u2o (by omega)), ← h.2]
    rfl
theorem m_nameOfX {hp : hk_H} (h1 : K (some (.int (hk_nmo v))) hp) : hk_Cl (d + 1) 169 [.int v] hp K := by
  unfold hk_nmo at h1
  refine hk_mth hk_m169 rfl rfl (n := 1000) ?_
  refine And.intro (fun c1 => ?_) (fun c1 => ?_)
  · have c1 : v = 102 := c1
    rw [if_pos c1] at h1
    exact h1
  have c1 : ¬ v = 102 := c1
  rw [if_neg c1] at h1
  refine And.intro (fun c2 => ?_) (fun c2 => ?_)
  · have c2 : v = 109 := c2
    rw [if_pos c2] at h1
    exact h1
  have c2 : ¬ v = 109 := c2
  rw [if_neg c2] at h1
  refine And.intro (fun c3 => ?_) (fun c3 => ?_)
  · have c3 : v = 115 := c3
    rw [if_pos c3] at h1
    exact h1
  have c3 : ¬ v = 115 := c3
  rw [if_neg c3] at h1
  refine And.intro (fun c4 => ?_) (fun c4 => ?_)
  · have c4 : v = 116 := c4
    rw [if_pos c4] at h1
    exact h1
  have c4 : ¬ v = 116 := c4
  rw [if_neg c4] at h1
  refine And.intro (fun c5 => ?_) (fun c5 => ?_)
  · have c5 : v = 121 := c5
    rw [if_pos c5] at h1
    exact h1
  have c5 : ¬ v = 121 := c5
  rw [if_neg c5] at h1
  refine And.intro (fun c6 => ?_) (fun c6 => ?_)
  · have c6 : v = 122 := c6
    rw [if_pos c6] at h1
    exact h1
  have c6 : ¬ v = 122 := c6
  rw [if_neg c6] at h1
  exact h1
theorem hk_top3_v {v : Nat} {S : List Nat} : hk_top3 (v :: S) = true ↔ hk_tg v = 3 := by
  show (hk_tg v == 3) = true ↔ _
  exact beq_iff_eq
set_option maxHeartbeats 400000 in
theorem m_goesOnX {t : Nat} (h4 : 4 ≤ t) (h12 : t ≤ 12) (hi : i < 60) (h : hk_Pa s i k m o (some 1)) (hv : hk_VS nm s k m V S) (h0 : ∀ s2, hk_FP s s2 → hk_gf t V S → K (some (.int 0)) (s2, lm, hk_RH i0 i1 b, al)) (h1 : ∀ s2 k2 m2, hk_Pa s2 (i + 1) k2 m2 o (some 0) → hk_FP s s2 → ¬ hk_gf t V S → hk_VS nm s2 k2 m2 (hk_stl (hk_tg t) S V).1 (t :: (hk_stl (hk_tg t) S V).2) → K (some (.int 1)) (s2, lm, hk_RH i0 i1 b, al)) : hk_Cl (d + 3) 167 [.ref 40, .int (nI t)] (s, lm, hk_RH i0 i1 b, al) K := by
  obtain ⟨g1, g2⟩ := hk_tg_r h4 h12
  have he : ∀ x, some 1 = some x → x = 1 := fun x hx => by cases hx; rfl
  have fin : ∀ (q : Nat) (s3 : Nat → Nat → Int32) (k3 m3 : Nat) (V3 : List Int64) (S3 : List Nat), hk_Pa s3 i k3 m3 o (some 1) → hk_FP s s3 → ¬ hk_gf t V S → hk_VS nm s3 k3 m3 V3 S3 → hk_stl (hk_tg t) S3 V3 = hk_stl (hk_tg t) S V → hk_wp (d + 2) none hk_c167 K (q + 60) (hk_sfx 42 hk_c167) [some (.ref 40), some (.int (nI t)), some (.int (nI (hk_tg t)))] [] (s3, lm, hk_RH i0 i1 b, al) := by
    intro q s3 k3 m3 V3 S3 h3 f3 hg hv3 e3
    refine m_stx g1 g2 he (by omega) h3 hv3 (fun s4 k4 m4 h5 f5 _ hv4 => ?_)
    rw [e3] at hv4
    have hm4 := h5.2.2.1
    refine m_waits (m := m4) h5.2.1 (by omega) ?_
    have p := hk_Pa_push (v := t) (e2 := some 0) h5 (by omega) (by omega) (fun x hx => by cases hx; rw [if_pos ⟨h4, h12⟩])
    rw [if_neg (by omega)] at p
    exact And.intro (Or.inr rfl) (h1 _ k4 (m4 + 1) p (hk_FP_u (hk_FP_u (hk_FP_t f3 f5) (by omega)) (by omega)) hg (hk_VS_push hv4 (by omega)))
  refine hk_mth hk_m167 rfl rfl (n := 1000) ?_
  refine m_holds (by omega) (by omega) ?_
  refine And.intro (fun c1 => ?_) (fun c1 => ?_)
  · have c1 : ¬ nI (hk_tg t) = nI 3 := c1
    rw [nI_eq (by omega) (by omega)] at c1
    exact fin _ s k m V S h (hk_FP_r s) (fun q => c1 q.1) hv rfl
  have c1 : ¬ ¬ nI (hk_tg t) = nI 3 := c1
  rw [nI_eq (by omega) (by omega)] at c1
  have c1 := Classical.not_not.mp c1
  refine m_stx (t := 4) (by omega) (by omega) he (by omega) h hv (fun s4 k4 m4 h5 f5 _ hv4 => ?_)
  have e4 : hk_stl (hk_tg t) (hk_stl 4 S V).2 (hk_stl 4 S V).1 = hk_stl (hk_tg t) S V := hk_stl_le (by omega) S V
  refine And.intro (fun c2 => ?_) (fun c2 => ?_)
  · have c2 : s4 40 7 ≤ 0 := c2
    have em : m4 = 0 := by
      rw [h5.2.1] at c2
      have c2 : nI m4 ≤ nI 0 := c2
      rw [nI_leI (by have := h5.2.2.1; omega) (by omega)] at c2
      omega
    subst em
    have eS : (hk_stl 4 S V).2 = [] := hv4.2.symm
    exact fin _ s4 k4 0 _ _ h5 f5 (fun q => by have q2 := q.2; rw [eS] at q2; exact absurd q2 (by decide)) hv4 e4
  have c2 : ¬ s4 40 7 ≤ 0 := c2
  have hm4 := h5.2.2.1
  cases m4 with
  | zero => exact absurd (show s4 40 7 ≤ 0 by rw [h5.2.1]; decide) c2
  | succ m4 =>
    obtain ⟨v, hv2, hv3, ev⟩ := h5.2.2.2.1 m4 (by omega)
    have eS := hk_VS_top hv4 ev hv3
    have htg : hk_tg v ≤ 6 := by
      match v, hv2, hv3 with
      | 2, _, _ => decide
      | 3, _, _ => decide
      | 4, _, _ => decide
      | 5, _, _ => decide
      | 6, _, _ => decide
      | 7, _, _ => decide
      | 8, _, _ => decide
      | 9, _, _ => decide
      | 10, _, _ => decide
      | 11, _, _ => decide
      | 12, _, _ => decide
      | 13, _, _ => decide
    refine hk_ldi (i := s4 40 7 - 1) (j := m4) (by rw [h5.2.1, nI_pred]) (by omega) (by decide) ev ?_
    refine m_holds hv2 hv3 ?_
    refine And.intro (fun c3 => ?_) (fun c3 => ?_)
    · have c3 : ¬ nI (hk_tg v) = nI 3 := c3
      rw [nI_eq (by omega) (by omega)] at c3
      exact fin _ s4 k4 (m4 + 1) _ _ h5 f5 (fun q => by have q2 := q.2; rw [eS] at q2; exact c3 (hk_top3_v.mp q2)) hv4 e4
    · have c3 : ¬ ¬ nI (hk_tg v) = nI 3 := c3
      rw [nI_eq (by omega) (by omega)] at c3
      exact And.intro (Or.inl rfl) (h0 s4 f5 ⟨c1, by rw [eS]; exact hk_top3_v.mpr (Classical.not_not.mp c3)⟩)
/-- what a reading leaves -/
def hk_Rdx (nm : Int32 → Int64) (s s2 : Nat → Nat → Int32) (R : Int32 × List Int64) : Prop := hk_FP s s2 ∧ (R.1 = -1 → ∃ k, k ≤ 60 ∧ s2 40 4 = nI k ∧ hk_vh (s2 45) k = some 1 ∧ hk_ev nm (s2 45) (s2 46) k = R.2)
theorem hk_dv_s {G : Nat → Int32} {i c : Nat} (hc : ∀ j, j < c + 1 → ¬ G (i + j) < 48 ∧ ¬ 57 < G (i + j)) (h6 : c < 7) : (10 : Int32) * nI (hk_dv G i c) + G (i + c) - 48 = nI (hk_dv G i (c + 1)) := by
  obtain ⟨m, hm, e⟩ := hk_rng (n := 57) (by decide) (v := G (i + c)) (fun q => (hc c (by omega)).1 (Int32.lt_trans q (by decide))) (hc c (by omega)).2
  have h48 : 48 ≤ m := by
    have q := (hc c (by omega)).1
    rw [e] at q
    have q : ¬ nI m < nI 48 := q
    rw [nI_ltI (by omega) (by omega)] at q
    omega
  rw [hk_dv, e, nI_clamp (by omega), show (10 : Int32) = nI 10 from rfl, pk_mul, nI_add, show (48 : Int32) = nI 48 from rfl, pk_sub (by omega)]
  congr 1
  omega
set_option maxHeartbeats 2000000 in
theorem m_reads_x {t n : Nat} {R : Int32 × List Int64} {G : Nat → Int32} (ht : t < 4) (hn : n ≤ 60) (hGG : ∀ i, s 41 (1422 + 61 * t + 1 + i) = G i) (hK : ∀ s2 u, u = R.1 → hk_Rdx nm s s2 R → K (some (.int u)) (s2, lm, hk_RH i0 i1 b, al)) : ∀ (g i k m o wh : Nat) (s3 : Nat → Nat → Int32) (l7 l8 l9 : Option Value) (V : List Int64) (S : List Nat), n ≤ i + g → i ≤ n → wh ≤ 1 → o ≤ 8 → hk_Pa s3 i k m o (some wh) → hk_FP s s3 → hk_VS nm s3 k m V S → hk_sy G n nm i V S o wh = R → hk_Rn (d + 4) none hk_c162 (hk_sfx 35 hk_c162) [some (.ref 40), some (.int (nI t)), some (.int (nI (1422 + 61 * t))), some (.int (nI n)), some (.int (nI o)), some (.int (nI wh)), some (.int (nI i)), l7, l8, l9] [] (s3, lm, hk_RH i0 i1 b, al) K := by
  have he : ∀ x, some 1 = some x → x = 1 := fun x hx => by cases hx; rfl
  have hn1 : ∀ x : Nat, (none : Option Nat) = some x → x = 1 := fun x hx => by cases hx
  have flt : ∀ (s2 : Nat → Nat → Int32) (q : Nat), q < 2 ^ 31 → hk_FP s s2 → (nI q, []) = R → K (some (.int (nI q))) (s2, lm, hk_RH i0 i1 b, al) := fun s2 q hq hf e => by
    subst e
    exact hK s2 _ rfl ⟨hf, fun e => absurd e (hk_nm1 hq)⟩
  intro g
  induction g with
  | zero =>
    intro i k m o wh s3 l7 l8 l9 V S hg hi hwh ho h3 f3 hv hR
    have e : i = n := by omega
    subst e
    have hm := h3.2.2.1
    rw [hk_sy_end (by omega)] at hR
    refine hk_hd (n := 1000) (t := 35) rfl ?_
    refine And.intro (fun _ => ?_) (fun hc => absurd (Int32.le_refl _) hc)
    have cl : wh = 0 ∨ wh = 1 := by omega
    rcases cl with rfl | rfl
    · have h4 : hk_Pa s3 i k m o none := ⟨h3.1, h3.2.1, h3.2.2.1, h3.2.2.2.1, h3.2.2.2.2.1, fun x hx => by cases hx⟩
      rw [if_neg (fun q => absurd q.1 (by decide))] at hR
      refine m_settles (t := 1) (by omega) (by omega) hn1 (by omega) h4 (fun s4 k4 m4 h5 f5 _ => ?_)
      refine And.intro (fun _ => ?_) (fun hc => absurd (by decide) hc)
      have fin := flt s4 (10 * i + 1) (by omega) (hk_FP_t f3 f5) hR
      rw [← nI_1, ← pk_mul] at fin
      exact fin
    · refine m_stx (t := 1) (by omega) (by omega) he (by omega) h3 hv (fun s4 k4 m4 h5 f5 htop hv4 => ?_)
      refine And.intro (fun hc => absurd hc (by decide)) (fun _ => ?_)
      refine And.intro (fun c1 => ?_) (fun c1 => ?_)
      · have c1 : ¬ nI o = nI 0 := c1
        rw [nI_eq (by omega) (by omega)] at c1
        rw [if_neg (fun q => c1 q.2)] at hR
        have fin := flt s4 (10 * i + 1) (by omega) (hk_FP_t f3 f5) hR
        rw [← nI_1, ← pk_mul] at fin
        exact fin
      · have c1 : ¬ ¬ nI o = nI 0 := c1
        rw [nI_eq (by omega) (by omega)] at c1
        rw [if_pos ⟨rfl, Classical.not_not.mp c1⟩] at hR
        subst hR
        have em : m4 = 0 := by
          rcases htop with e | ⟨v, q2, q3, qe, qt⟩
          · exact e
          · have h13 : v = 13 := by
              by_cases e : v = 13
              · exact e
              · have := hk_tg_p q2 (show v ≤ 12 by omega)
                omega
            subst h13
            cases m4 with
            | zero => rfl
            | succ m4 =>
              have h0 := h5.2.2.2.2.1
              rw [Classical.not_not.mp c1, hk_on, show s4 47 m4 = nI 13 from qe, if_pos (show nI 13 = 13 from rfl)] at h0
              omega
        subst em
        exact hK s4 (-1) rfl ⟨hk_FP_t f3 f5, fun _ => ⟨k4, by have := h5.2.2.1; omega, h5.1, h5.2.2.2.2.2 1 rfl, hv4.1⟩⟩
  | succ g ih =>
    intro i k m o wh s3 l7 l8 l9 V S hg hi hwh ho h3 f3 hv hR
    have hm := h3.2.2.1
    by_cases hin : i = n
    · exact ih i k m o wh s3 l7 l8 l9 V S (by omega) hi hwh ho h3 f3 hv hR
    have hlt : i < n := by omega
    have a1 : ¬ nI n ≤ nI i := hk_nlt (by omega) (by omega)
    have e41 : ∀ q, s3 41 q = s 41 q := fun q => f3 41 q (by omega) (by omega) (by omega) (by omega)
    obtain ⟨c, hc⟩ : ∃ c, s 41 (1422 + 61 * t + 1 + i) = c := ⟨_, rfl⟩
    have hc3 : s3 41 (1422 + 61 * t + 1 + i) = c := (e41 _).trans hc
    have hG : G i = c := (hGG i).symm.trans hc
    have nx : ∀ (s4 : Nat → Nat → Int32) (k4 m4 o4 wh4 : Nat) (l8 l9 : Option Value) (V4 : List Int64) (S4 : List Nat), hk_Pa s4 (i + 1) k4 m4 o4 (some wh4) → hk_FP s s4 → wh4 ≤ 1 → o4 ≤ 8 → hk_VS nm s4 k4 m4 V4 S4 → hk_sy G n nm (i + 1) V4 S4 o4 wh4 = R → hk_Rn (d + 4) none hk_c162 (hk_sfx 35 hk_c162) [some (.ref 40), some (.int (nI t)), some (.int (nI (1422 + 61 * t))), some (.int (nI n)), some (.int (nI o4)), some (.int (nI wh4)), some (.int (nI i + 1)), some (.int c), l8, l9] [] (s4, lm, hk_RH i0 i1 b, al) K := fun s4 k4 m4 o4 wh4 l8 l9 V4 S4 h4 f4 hw4 ho4 hv4 hR4 => hk_Rn_cast (by rw [nI_1]) (ih (i + 1) k4 m4 o4 wh4 s4 _ l8 l9 V4 S4 (by omega) (by omega) hw4 ho4 h4 f4 hv4 hR4)
    have er : ∀ s4, hk_FP s s4 → (nI (10 * i + 1), []) = R → K (some (.int (10 * nI i + 1))) (s4, lm, hk_RH i0 i1 b, al) := fun s4 f4 e => by
      have fin := flt s4 (10 * i + 1) (by omega) f4 e
      rw [← nI_1, ← pk_mul] at fin
      exact fin
    have el : nI (1422 + 61 * t) + 1 + nI i = nI (1422 + 61 * t + 1 + i) := by rw [nI_1, nI_add]
    refine hk_hd (n := 1000) (t := 35) rfl ?_
    refine And.intro (fun hc => absurd hc a1) (fun _ => ?_)
    refine hk_ldi (i := nI (1422 + 61 * t) + 1 + nI i) (j := 1422 + 61 * t + 1 + i) el (by omega) (by decide) hc3 ?_
    refine And.intro (fun c0 => ?_) (fun c0 => ?_)
    rotate_left
    · have c0 : ¬ ¬ c = 32 := c0
      have c0 := Classical.not_not.mp c0
      rw [hk_sy_sp hlt (hG.trans c0)] at hR
      exact nx s3 k m o wh l8 l9 V S (hk_Pa_i h3 (by omega)) f3 hwh ho hv hR
    have c0 : ¬ c = 32 := c0
    have cl : wh = 0 ∨ wh = 1 := by omega
    rcases cl with rfl | rfl
    · refine And.intro (fun _ => ?_) (fun hc => absurd (by decide) hc)
      have pu : ∀ (q v : Nat), 2 ≤ v → v ≤ 3 → (c = 45 ∧ v = 3 ∨ c = 33 ∧ v = 2) → hk_Cl (d + 4) 168 [.ref 40, .int (nI v)] (s3, lm, hk_RH i0 i1 b, al) (fun r h => r = none ∧ hk_Rn (d + 4) none hk_c162 (hk_sfx 35 hk_c162) [some (.ref 40), some (.int (nI t)), some (.int (nI (1422 + 61 * t))), some (.int (nI n)), some (.int (nI o)), some (.int (nI 0)), some (.int (nI i + 1)), some (.int c), l8, l9] [] h K) := fun q v q2 q3 hcv => m_waits (m := m) h3.2.1 (by omega) ⟨rfl, nx _ k (m + 1) o 0 l8 l9 V (v :: S) (by
        have p := hk_Pa_push (v := v) (e2 := some 0) h3 (by omega) (by omega) (fun x hx => by cases hx; rw [if_neg (by omega)])
        rw [if_neg (by omega)] at p
        exact p) (hk_FP_u (hk_FP_u f3 (by omega)) (by omega)) (by omega) ho (hk_VS_push hv (by omega)) (by
        rw [hk_sy_pre hlt (hcv.imp (fun q => ⟨hG.trans q.1, q.2⟩) (fun q => ⟨hG.trans q.1, q.2⟩))] at hR
        exact hR)⟩
      refine m_in (fun (p0 : ¬ c < 48) (q0 : ¬ 57 < c) => ?_) (fun hnd => ?_)
      · refine And.intro (fun hc => absurd hc (by decide)) (fun _ => ?_)
        have hd : ¬ G i < 48 ∧ ¬ 57 < G i := by rw [hG]; exact ⟨p0, q0⟩
        have l171 : ∀ (g2 i2 : Nat) (v9 : Int32), i < i2 → i2 ≤ n → n ≤ i2 + g2 → i2 ≤ i + 6 → hk_de G n i = hk_de G n i2 → (∀ j, j < i2 - i → ¬ G (i + j) < 48 ∧ ¬ 57 < G (i + j)) → v9 = nI (hk_dv G i (i2 - i)) → hk_Rn (d + 4) none hk_c162 (hk_sfx 171 hk_c162) [some (.ref 40), some (.int (nI t)), some (.int (nI (1422 + 61 * t))), some (.int (nI n)), some (.int (nI o)), some (.int (nI 0)), some (.int (nI i2)), some (.int c), some (.int (nI i)), some (.int v9)] [] (s3, lm, hk_RH i0 i1 b, al) K := by
          intro g2
          have out : ∀ (q i2 : Nat) (v9 : Int32), i < i2 → i2 ≤ n → i2 ≤ i + 6 → hk_de G n i = i2 → v9 = nI (hk_dv G i (i2 - i)) → hk_wp (d + 4) none hk_c162 K (q + 60) (hk_sfx 244 hk_c162) [some (.ref 40), some (.int (nI t)), some (.int (nI (1422 + 61 * t))), some (.int (nI n)), some (.int (nI o)), some (.int (nI 0)), some (.int (nI i2)), some (.int c), some (.int (nI i)), some (.int v9)] [] (s3, lm, hk_RH i0 i1 b, al) := by
            intro q i2 v9 b1 b2 b3 b4 b5
            rw [hk_sy_dig hlt hd (by omega), b4, ← b5] at hR
            have p := hk_Pa_val (v := 0) (w := v9) h3 (Or.inl rfl)
            have pv := hk_VS_val0 (w := v9) hv
            refine m_emits h3.1 (by omega) ?_
            refine m_stx (t := 6) (by omega) (by omega) he (by omega) p pv (fun s6 k6 m6 h7 f7 _ hv7 => ?_)
            exact ih i2 k6 m6 o 1 s6 _ _ _ _ _ (by omega) b2 (by omega) ho (hk_Pa_i h7 (by omega)) (hk_FP_t (hk_FP_u (hk_FP_u (hk_FP_u f3 (by omega)) (by omega)) (by omega)) f7) hv7 hR
          induction g2 with
          | zero =>
            intro i2 v9 b1 b2 b3 b4 b5 b6 b7
            have e : i2 = n := by omega
            subst e
            refine hk_hd (n := 1000) (t := 171) rfl ?_
            refine And.intro (fun _ => ?_) (fun hc => absurd (Int32.le_refl _) hc)
            exact out _ i2 v9 b1 b2 b4 (by rw [b5, hk_de_n (fun q => by omega)]) b7
          | succ g2 ih2 =>
            intro i2 v9 b1 b2 b3 b4 b5 b6 b7
            by_cases hin2 : i2 = n
            · exact ih2 i2 v9 b1 b2 (by omega) b4 b5 b6 b7
            have a2 : ¬ nI n ≤ nI i2 := hk_nlt (by omega) (by omega)
            have el2 : nI (1422 + 61 * t) + 1 + nI i2 = nI (1422 + 61 * t + 1 + i2) := by rw [nI_1, nI_add]
            refine hk_hd (n := 1000) (t := 171) rfl ?_
            refine And.intro (fun hc => absurd hc a2) (fun _ => ?_)
            refine hk_ldi (i := nI (1422 + 61 * t) + 1 + nI i2) (j := 1422 + 61 * t + 1 + i2) el2 (by omega) (by decide) ((e41 _).trans (hGG i2)) ?_
            refine m_in (fun (p3 : ¬ G i2 < 48) (q3 : ¬ 57 < G i2) => ?_) (fun hnd2 => ?_)
            rotate_left
            · refine And.intro (fun _ => ?_) (fun hc => absurd (by decide) hc)
              have hnd2 : G i2 < 48 ∨ 57 < G i2 := hnd2
              exact out _ i2 v9 b1 b2 b4 (by rw [b5, hk_de_n (fun q => hnd2.elim q.2.1 q.2.2)]) b7
            refine And.intro (fun hc => absurd hc (by decide)) (fun _ => ?_)
            refine And.intro (fun c6 => ?_) (fun c6 => ?_)
            · have c6 : ¬ nI i2 - nI i = nI 6 := c6
              rw [pk_sub (by omega), nI_eq (by omega) (by omega)] at c6
              refine hk_ldi (i := nI (1422 + 61 * t) + 1 + nI i2) (j := 1422 + 61 * t + 1 + i2) el2 (by omega) (by decide) ((e41 _).trans (hGG i2)) ?_
              have b6' : ∀ j, j < (i2 - i) + 1 → ¬ G (i + j) < 48 ∧ ¬ 57 < G (i + j) := fun j hj => by
                by_cases e : j = i2 - i
                · subst e
                  rw [show i + (i2 - i) = i2 by omega]
                  exact ⟨p3, q3⟩
                · exact b6 j (by omega)
              have ds := hk_dv_s (G := G) (i := i) (c := i2 - i) b6' (by omega)
              rw [show i + (i2 - i) = i2 by omega, ← b7] at ds
              refine hk_Rn_cast (by rw [← nI_1 i2]; rfl) (ih2 (i2 + 1) (10 * v9 + G i2 - 48) (by omega) (by omega) (by omega) (by omega) ?_ ?_ ?_)
              · rw [b5, hk_de_y (by omega) p3 q3]
              · intro j hj
                exact b6' j (by omega)
              · rw [show i2 + 1 - i = i2 - i + 1 by omega]
                exact ds
            · have c6 : ¬ ¬ nI i2 - nI i = nI 6 := c6
              rw [pk_sub (by omega), nI_eq (by omega) (by omega)] at c6
              have c6 := Classical.not_not.mp c6
              have h7 : 6 < hk_de G n i - i := by
                rw [b5]
                have := hk_de_s (g := G) (n := n) (i := i2) (by omega) p3 q3
                omega
              rw [hk_sy_dig6 hlt hd h7] at hR
              have fin := flt s3 (10 * i + 2) (by omega) f3 hR
              rw [← nI_add, ← pk_mul] at fin
              exact fin
        refine hk_hd (n := 1000) (t := 171) rfl ?_
        refine And.intro (fun hc => absurd hc a1) (fun _ => ?_)
        refine hk_ldi (i := nI (1422 + 61 * t) + 1 + nI i) (j := 1422 + 61 * t + 1 + i) el (by omega) (by decide) hc3 ?_
        refine m_in (fun _ _ => ?_) (fun q => absurd q (fun q => q.elim p0 q0))
        refine And.intro (fun hc => absurd hc (by decide)) (fun _ => ?_)
        have c6 : ¬ nI i - nI i = 6 := by rw [Int32.sub_self]; decide
        refine And.intro (fun _ => ?_) (fun hc => absurd c6 hc)
        refine hk_ldi (i := nI (1422 + 61 * t) + 1 + nI i) (j := 1422 + 61 * t + 1 + i) el (by omega) (by decide) hc3 ?_
        refine hk_Rn_cast (by rw [← nI_1 i]; rfl) (l171 n (i + 1) _ (by omega) (by omega) (by omega) (by omega) (hk_de_y hlt hd.1 hd.2) (fun j hj => ?_) ?_)
        · have e : j = 0 := by omega
          subst e
          exact hd
        · have ds := hk_dv_s (G := G) (i := i) (c := 0) (fun j hj => by
            have e : j = 0 := by omega
            subst e
            exact hd) (by omega)
          rw [show i + 1 - i = 0 + 1 by omega, ← ds]
          rw [Nat.add_zero, hG]
          rfl
      · have hnd : ¬ (¬ c < 48 ∧ ¬ 57 < c) := fun q => hnd.elim q.1 q.2
        refine And.intro (fun _ => ?_) (fun hc => absurd (by decide) hc)
        refine m_nameOfX ?_
        refine And.intro (fun c1 => ?_) (fun c1 => ?_)
        rotate_left
        · have c1 : ¬ hk_nmo c = -1 := c1
          refine m_nameOfX ?_
          have p := hk_Pa_val (v := 1) (w := hk_nmo c) h3 (Or.inr rfl)
          have pv := hk_VS_val1 (w := hk_nmo c) hv
          rw [hk_sy_name hlt (by rw [hG]; exact c1), hG] at hR
          refine m_emits h3.1 (by omega) ?_
          refine m_stx (t := 6) (by omega) (by omega) he (by omega) p pv (fun s6 k6 m6 h7 f7 _ hv7 => ?_)
          exact nx s6 k6 m6 o 1 l8 l9 _ _ h7 (hk_FP_t (hk_FP_u (hk_FP_u (hk_FP_u f3 (by omega)) (by omega)) (by omega)) f7) (by omega) ho hv7 hR
        have c1 : hk_nmo c = -1 := c1
        refine And.intro (fun c2 => ?_) (fun c2 => ?_)
        rotate_left
        · have c2 : ¬ ¬ c = 40 := c2
          have c2 := Classical.not_not.mp c2
          refine And.intro (fun c3 => ?_) (fun c3 => ?_)
          · have c3 : ¬ nI o = nI 8 := c3
            rw [nI_eq (by omega) (by omega)] at c3
            rw [hk_sy_open hlt (hG.trans c2) c3] at hR
            refine m_waits (m := m) (v := 13) h3.2.1 (by omega) ?_
            have p := hk_Pa_push (v := 13) (e2 := some 0) h3 (by omega) (by omega) (fun x hx => by cases hx; rw [if_neg (by omega)])
            rw [if_pos rfl] at p
            exact hk_Rn_cast (by rw [← nI_1 o]; rfl) (nx _ k (m + 1) (o + 1) 0 l8 l9 V (13 :: S) p (hk_FP_u (hk_FP_u f3 (by omega)) (by omega)) (by omega) (by omega) (hk_VS_push (v := 13) hv (by omega)) hR)
          · have c3 : ¬ ¬ nI o = nI 8 := c3
            rw [nI_eq (by omega) (by omega)] at c3
            rw [hk_sy_deep hlt (hG.trans c2) (Classical.not_not.mp c3)] at hR
            have fin := flt s3 (10 * i + 3) (by omega) f3 hR
            rw [← nI_add, ← pk_mul] at fin
            exact fin
        have c2 : ¬ c = 40 := c2
        have sg : ∀ (q : Nat), c = 45 ∨ c = 33 → hk_wp (d + 4) none hk_c162 K (q + 60) (hk_sfx 348 hk_c162) [some (.ref 40), some (.int (nI t)), some (.int (nI (1422 + 61 * t))), some (.int (nI n)), some (.int (nI o)), some (.int (nI 0)), some (.int (nI i)), some (.int c), l8, l9] [] (s3, lm, hk_RH i0 i1 b, al) := by
          intro q hcc
          refine And.intro (fun c5 => ?_) (fun c5 => ?_)
          · have c5 : ¬ c = 45 := c5
            refine hk_Cl_mono (fun r h => ?_) (pu 0 2 (by omega) (by omega) (Or.inr ⟨hcc.elim (fun e => absurd e c5) id, rfl⟩))
            rintro ⟨rfl, hh⟩
            exact hh
          · have c5 : ¬ ¬ c = 45 := c5
            refine hk_Cl_mono (fun r h => ?_) (pu 0 3 (by omega) (by omega) (Or.inl ⟨Classical.not_not.mp c5, rfl⟩))
            rintro ⟨rfl, hh⟩
            exact hh
        refine And.intro (fun c3 => ?_) (fun c3 => ?_)
        · exact sg _ (Or.inl c3)
        have c3 : ¬ c = 45 := c3
        refine And.intro (fun c4 => ?_) (fun c4 => ?_)
        · have c4 : ¬ c = 33 := c4
          rw [hk_sy_bad0 hlt (by rw [hG]; exact c0) (by rw [hG]; exact hnd) (by rw [hG]; exact c1) (by rw [hG]; exact c2) (by rw [hG]; exact c3) (by rw [hG]; exact c4)] at hR
          exact er s3 f3 hR
        · have c4 : ¬ ¬ c = 33 := c4
          exact sg _ (Or.inr (Classical.not_not.mp c4))
    · refine And.intro (fun hc => absurd hc (by decide)) (fun _ => ?_)
      have so : ∀ (q : Nat), ¬ (c = 41 ∧ 0 < o) → hk_wp (d + 4) none hk_c162 K (q + 60) (hk_sfx 111 hk_c162) [some (.ref 40), some (.int (nI t)), some (.int (nI (1422 + 61 * t))), some (.int (nI n)), some (.int (nI o)), some (.int (nI 1)), some (.int (nI i)), some (.int c), l8, l9] [] (s3, lm, hk_RH i0 i1 b, al) := by
        intro q h41
        refine m_signOf ?_
        refine And.intro (fun c1 => ?_) (fun c1 => ?_)
        · have c1 : hk_so c = -1 := c1
          rw [hk_sy_bad hlt (by rw [hG]; exact c0) (by rw [hG]; exact h41) (Or.inl (by rw [hG]; exact c1))] at hR
          exact er s3 f3 hR
        have c1 : ¬ hk_so c = -1 := c1
        obtain ⟨tt, h4, h12, et⟩ := (hk_so_r c).elim (fun e => absurd e c1) id
        refine m_signOf ?_
        rw [et]
        refine m_goesOnX h4 h12 (by omega) h3 hv (fun s4 f4 hg4 => ?_) (fun s4 k4 m4 h5 f4 hg4 hv4 => ?_)
        · rw [hk_sy_bad hlt (by rw [hG]; exact c0) (by rw [hG]; exact h41) (Or.inr ⟨tt, by rw [hG]; exact et, h4, h12, hg4⟩)] at hR
          refine And.intro (fun _ => ?_) (fun hc => absurd (by decide) hc)
          exact er s4 (hk_FP_t f3 f4) hR
        · rw [hk_sy_op hlt (by rw [hG]; exact et) h4 h12 hg4] at hR
          refine And.intro (fun hc => absurd hc (by decide)) (fun _ => ?_)
          exact nx s4 k4 m4 o 0 l8 l9 _ _ h5 (hk_FP_t f3 f4) (by omega) ho hv4 hR
      refine And.intro (fun c1 => ?_) (fun c1 => ?_)
      · have c1 : ¬ c = 41 := c1
        exact so _ (fun q => c1 q.1)
      have c1 : ¬ ¬ c = 41 := c1
      have c1 := Classical.not_not.mp c1
      refine And.intro (fun c2 => ?_) (fun c2 => ?_)
      · have c2 : nI o ≤ nI 0 := c2
        rw [nI_leI (by omega) (by omega)] at c2
        exact so _ (fun q => by omega)
      have c2 : ¬ nI o ≤ nI 0 := c2
      rw [nI_leI (by omega) (by omega)] at c2
      rw [hk_sy_close hlt (hG.trans c1) (by omega)] at hR
      refine m_stx (t := 1) (by omega) (by omega) he (by omega) h3 hv (fun s4 k4 m4 h5 f5 htop hv5 => ?_)
      cases o with
      | zero => exact absurd (Nat.le_refl 0) c2
      | succ o =>
        have hm4 : ∃ m5, m4 = m5 + 1 := by
          cases m4 with
          | zero =>
            have := h5.2.2.2.2.1
            cases this
          | succ m5 => exact ⟨m5, rfl⟩
        obtain ⟨m5, rfl⟩ := hm4
        have ev : s4 47 m5 = nI 13 := by
          rcases htop with e | ⟨v, q2, q3, qe, qt⟩
          · omega
          · by_cases e : v = 13
            · rw [← e]; exact qe
            · exfalso
              exact absurd qt (by have := hk_tg_p q2 (show v ≤ 12 by omega); omega)
        have p := hk_Pa_open h5 ev
        have pv := hk_VS_open hv5
        have e1 : s4 40 7 - 1 = nI m5 := by rw [h5.2.1, nI_pred]
        rw [← e1] at p pv
        have f6 : hk_FP s (hk_u2 s4 40 7 (s4 40 7 - 1)) := hk_FP_u (hk_FP_t f3 f5) (by omega)
        refine m_stx (t := 6) (by omega) (by omega) he (by omega) p pv (fun s6 k6 m6 h7 f7 _ hv7 => ?_)
        exact hk_Rn_cast (by rw [← pk_m1 o]; rfl) (nx s6 k6 m6 o 1 l8 l9 _ _ (hk_Pa_i h7 (by omega)) (hk_FP_t f6 f7) (by omega) (by omega) hv7 hR)
theorem m_readsX {t n : Nat} (ht : t < 4) (hn : n ≤ 60) (hl : s 41 (1422 + 61 * t) = nI n) (hK : ∀ s2, hk_Rdx nm s s2 (hk_sy (fun i => s 41 (1422 + 61 * t + 1 + i)) n nm 0 [] [] 0 0) → K (some (.int (hk_sy (fun i => s 41 (1422 + 61 * t + 1 + i)) n nm 0 [] [] 0 0).1)) (s2, lm, hk_RH i0 i1 b, al)) : hk_Cl (d + 5) 162 [.ref 40, .int (nI t)] (s, lm, hk_RH i0 i1 b, al) K := by
  have p : hk_Pa (hk_u2 (hk_u2 s 40 4 0) 40 7 0) 0 0 0 0 (some 0) := ⟨by rw [hk_u2o (by omega), hk_u2s]; rfl, hk_u2s, by omega, fun j hj => absurd hj (Nat.not_lt_zero j), rfl, fun h hx => by cases hx; rfl⟩
  have e1 : (1422 : Int32) + 61 * nI t = nI (1422 + 61 * t) := by simp only [hk_lit, pk_mul, nI_add]
  have r := m_reads_x (d := d) (lm := lm) (i0 := i0) (i1 := i1) (b := b) (al := al) (nm := nm) (K := K) (s := s) (G := fun i => s 41 (1422 + 61 * t + 1 + i)) ht hn (fun _ => rfl) (fun s2 u e h => by rw [e]; exact hK s2 h) n 0 0 0 0 0 (hk_u2 (hk_u2 s 40 4 0) 40 7 0) none none none [] [] (by omega) (by omega) (by omega) (by omega) p (hk_FP_u (hk_FP_u (hk_FP_r s) (by omega)) (by omega)) ⟨rfl, rfl⟩ rfl
  rw [← e1] at r
  refine hk_mth hk_m162 rfl rfl (n := 1000) ?_
  refine hk_ldi (i := 1422 + 61 * nI t) (j := 1422 + 61 * t) (by simp only [hk_lit, pk_mul, nI_add]) (by omega) (by decide) hl ?_
  exact r
end HKED
