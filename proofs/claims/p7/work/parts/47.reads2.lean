/-! ===== the reference reads any text: the loop ===== -/
section HKC3
variable {d n a bb r i k m o : Nat} {v w x y z : Int32} {s : Nat → Nat → Int32} {lm : Nat → Nat → Int64} {i0 i1 b : Nat} {al : List Nat} {K : Option Value → hk_H → Prop}
/-- what a reading leaves -/
def hk_Rd (s s2 : Nat → Nat → Int32) (u : Int32) : Prop := hk_FP s s2 ∧ (u = -1 → ∃ k h, k ≤ 60 ∧ s2 40 4 = nI k ∧ hk_vh (s2 45) k = some h)
theorem hk_Rd_p {s s2 : Nat → Nat → Int32} {q : Nat} (h : hk_FP s s2) (hq : q < 2 ^ 31) : hk_Rd s s2 (nI q) := ⟨h, fun e => absurd (show (-1 : Int32) < 0 by decide) (by rw [← e]; exact nI_pos hq)⟩
theorem hk_tg_p {v : Nat} (h2 : 2 ≤ v) (h3 : v ≤ 12) : 1 ≤ hk_tg v := by
  match v, h2, h3 with
  | 2, _, _ => decide
  | 3, _, _ => decide
  | 4, _, _ => decide
  | 5, _, _ => decide
  | 6, _, _ => decide
  | 7, _, _ => decide
  | 8, _, _ => decide
  | 9, _, _ => decide
  | 10, _, _ => decide
  | 11, _, _ => decide
  | 12, _, _ => decide
set_option maxHeartbeats 1000000 in
theorem m_reads_l {t n : Nat} (ht : t < 4) (hn : n ≤ 60) (hK : ∀ s2 u, hk_Rd s s2 u → K (some (.int u)) (s2, lm, hk_RH i0 i1 b, al)) : ∀ (g i k m o wh : Nat) (s3 : Nat → Nat → Int32) (l7 l8 l9 : Option Value), n ≤ i + g → i ≤ n → wh ≤ 1 → hk_Pa s3 i k m o (some wh) → hk_FP s s3 → hk_Rn (d + 4) none hk_c162 (hk_sfx 35 hk_c162) [some (.ref 40), some (.int (nI t)), some (.int (nI (1422 + 61 * t))), some (.int (nI n)), some (.int (nI o)), some (.int (nI wh)), some (.int (nI i)), l7, l8, l9] [] (s3, lm, hk_RH i0 i1 b, al) K := by
  have he : ∀ x, some 1 = some x → x = 1 := fun x hx => by cases hx; rfl
  have hn1 : ∀ x : Nat, (none : Option Nat) = some x → x = 1 := fun x hx => by cases hx
  intro g
  induction g with
  | zero =>
    intro i k m o wh s3 l7 l8 l9 hg hi hwh h3 f3
    have e : i = n := by omega
    subst e
    have hm := h3.2.2.1
    refine hk_hd (n := 1000) (t := 35) rfl ?_
    refine And.intro (fun _ => ?_) (fun hc => absurd (Int32.le_refl _) hc)
    have cl : wh = 0 ∨ wh = 1 := by omega
    rcases cl with rfl | rfl
    · have h4 : hk_Pa s3 i k m o none := ⟨h3.1, h3.2.1, h3.2.2.1, h3.2.2.2.1, h3.2.2.2.2.1, fun x hx => by cases hx⟩
      refine m_settles (t := 1) (by omega) (by omega) hn1 (by omega) h4 (fun s4 k4 m4 h5 f5 _ => ?_)
      refine And.intro (fun _ => ?_) (fun hc => absurd (by decide) hc)
      have fin := hK s4 (nI (10 * i + 1)) (hk_Rd_p (hk_FP_t f3 f5) (by omega))
      rw [← nI_1, ← pk_mul] at fin
      exact fin
    · refine m_settles (t := 1) (by omega) (by omega) he (by omega) h3 (fun s4 k4 m4 h5 f5 _ => ?_)
      refine And.intro (fun hc => absurd hc (by decide)) (fun _ => ?_)
      refine And.intro (fun c1 => ?_) (fun c1 => ?_)
      · have fin := hK s4 (nI (10 * i + 1)) (hk_Rd_p (hk_FP_t f3 f5) (by omega))
        rw [← nI_1, ← pk_mul] at fin
        exact fin
      · exact hK s4 (-1) ⟨hk_FP_t f3 f5, fun _ => ⟨k4, _, by have := h5.2.2.1; omega, h5.1, h5.2.2.2.2.2 1 rfl⟩⟩
  | succ g ih =>
    intro i k m o wh s3 l7 l8 l9 hg hi hwh h3 f3
    have hm := h3.2.2.1
    by_cases hin : i = n
    · exact ih i k m o wh s3 l7 l8 l9 (by omega) hi hwh h3 f3
    have a1 : ¬ nI n ≤ nI i := hk_nlt (by omega) (by omega)
    obtain ⟨c, hc⟩ : ∃ c, s3 41 (1422 + 61 * t + 1 + i) = c := ⟨_, rfl⟩
    have nx : ∀ (s4 : Nat → Nat → Int32) (k4 m4 o4 wh4 : Nat) (l8 l9 : Option Value), hk_Pa s4 (i + 1) k4 m4 o4 (some wh4) → hk_FP s s4 → wh4 ≤ 1 → hk_Rn (d + 4) none hk_c162 (hk_sfx 35 hk_c162) [some (.ref 40), some (.int (nI t)), some (.int (nI (1422 + 61 * t))), some (.int (nI n)), some (.int (nI o4)), some (.int (nI wh4)), some (.int (nI i + 1)), some (.int c), l8, l9] [] (s4, lm, hk_RH i0 i1 b, al) K := fun s4 k4 m4 o4 wh4 l8 l9 h4 f4 hw4 => hk_Rn_cast (by rw [nI_1]) (ih (i + 1) k4 m4 o4 wh4 s4 _ l8 l9 (by omega) (by omega) hw4 h4 f4)
    have er : ∀ s4, hk_FP s s4 → K (some (.int (10 * nI i + 1))) (s4, lm, hk_RH i0 i1 b, al) := fun s4 f4 => by
      have fin := hK s4 (nI (10 * i + 1)) (hk_Rd_p f4 (by omega))
      rw [← nI_1, ← pk_mul] at fin
      exact fin
    have el : nI (1422 + 61 * t) + 1 + nI i = nI (1422 + 61 * t + 1 + i) := by rw [nI_1, nI_add]
    refine hk_hd (n := 1000) (t := 35) rfl ?_
    refine And.intro (fun hc => absurd hc a1) (fun _ => ?_)
    refine hk_ldi (i := nI (1422 + 61 * t) + 1 + nI i) (j := 1422 + 61 * t + 1 + i) el (by omega) (by decide) hc ?_
    refine And.intro (fun c0 => ?_) (fun c0 => ?_)
    rotate_left
    · exact nx s3 k m o wh l8 l9 (hk_Pa_i h3 (by omega)) f3 hwh
    have cl : wh = 0 ∨ wh = 1 := by omega
    rcases cl with rfl | rfl
    · refine And.intro (fun _ => ?_) (fun hc => absurd (by decide) hc)
      have pu : ∀ (q v : Nat), 2 ≤ v → v ≤ 3 → hk_Cl (d + 4) 168 [.ref 40, .int (nI v)] (s3, lm, hk_RH i0 i1 b, al) (fun r h => r = none ∧ hk_Rn (d + 4) none hk_c162 (hk_sfx 35 hk_c162) [some (.ref 40), some (.int (nI t)), some (.int (nI (1422 + 61 * t))), some (.int (nI n)), some (.int (nI o)), some (.int (nI 0)), some (.int (nI i + 1)), some (.int c), l8, l9] [] h K) := fun q v q2 q3 => m_waits (m := m) h3.2.1 (by omega) ⟨rfl, nx _ k (m + 1) o 0 l8 l9 (by
        have p := hk_Pa_push (v := v) (e2 := some 0) h3 (by omega) (by omega) (fun x hx => by cases hx; rw [if_neg (by omega)])
        rw [if_neg (by omega)] at p
        exact p) (hk_FP_u (hk_FP_u f3 (by omega)) (by omega)) (by omega)⟩
      refine m_in (fun (p0 : ¬ c < 48) (q0 : ¬ 57 < c) => ?_) (fun _ => ?_)
      · refine And.intro (fun hc => absurd hc (by decide)) (fun _ => ?_)
        have l171 : ∀ (g2 i2 : Nat) (v9 : Int32), i < i2 → i2 ≤ n → n ≤ i2 + g2 → hk_Rn (d + 4) none hk_c162 (hk_sfx 171 hk_c162) [some (.ref 40), some (.int (nI t)), some (.int (nI (1422 + 61 * t))), some (.int (nI n)), some (.int (nI o)), some (.int (nI 0)), some (.int (nI i2)), some (.int c), some (.int (nI i)), some (.int v9)] [] (s3, lm, hk_RH i0 i1 b, al) K := by
          intro g2
          have out : ∀ (q i2 : Nat) (v9 : Int32), i < i2 → i2 ≤ n → hk_wp (d + 4) none hk_c162 K (q + 60) (hk_sfx 244 hk_c162) [some (.ref 40), some (.int (nI t)), some (.int (nI (1422 + 61 * t))), some (.int (nI n)), some (.int (nI o)), some (.int (nI 0)), some (.int (nI i2)), some (.int c), some (.int (nI i)), some (.int v9)] [] (s3, lm, hk_RH i0 i1 b, al) := by
            intro q i2 v9 b1 b2
            have p := hk_Pa_val (v := 0) (w := v9) h3 (Or.inl rfl)
            refine m_emits h3.1 (by omega) ?_
            refine m_settles (t := 6) (by omega) (by omega) he (by omega) p (fun s6 k6 m6 h7 f7 _ => ?_)
            exact ih i2 k6 m6 o 1 s6 _ _ _ (by omega) b2 (by omega) (hk_Pa_i h7 (by omega)) (hk_FP_t (hk_FP_u (hk_FP_u (hk_FP_u f3 (by omega)) (by omega)) (by omega)) f7)
          induction g2 with
          | zero =>
            intro i2 v9 b1 b2 b3
            have e : i2 = n := by omega
            subst e
            refine hk_hd (n := 1000) (t := 171) rfl ?_
            refine And.intro (fun _ => ?_) (fun hc => absurd (Int32.le_refl _) hc)
            exact out _ i2 v9 b1 b2
          | succ g2 ih2 =>
            intro i2 v9 b1 b2 b3
            by_cases hin2 : i2 = n
            · exact ih2 i2 v9 b1 b2 (by omega)
            have a2 : ¬ nI n ≤ nI i2 := hk_nlt (by omega) (by omega)
            have el2 : nI (1422 + 61 * t) + 1 + nI i2 = nI (1422 + 61 * t + 1 + i2) := by rw [nI_1, nI_add]
            refine hk_hd (n := 1000) (t := 171) rfl ?_
            refine And.intro (fun hc => absurd hc a2) (fun _ => ?_)
            refine hk_ldi (i := nI (1422 + 61 * t) + 1 + nI i2) (j := 1422 + 61 * t + 1 + i2) el2 (by omega) (by decide) rfl ?_
            refine m_in (fun _ _ => ?_) (fun _ => ?_)
            rotate_left
            · refine And.intro (fun _ => ?_) (fun hc => absurd (by decide) hc)
              exact out _ i2 v9 b1 b2
            refine And.intro (fun hc => absurd hc (by decide)) (fun _ => ?_)
            refine And.intro (fun c6 => ?_) (fun c6 => ?_)
            · refine hk_ldi (i := nI (1422 + 61 * t) + 1 + nI i2) (j := 1422 + 61 * t + 1 + i2) el2 (by omega) (by decide) rfl ?_
              exact hk_Rn_cast (by rw [← nI_1 i2]; rfl) (ih2 (i2 + 1) _ (by omega) (by omega) (by omega))
            · have fin := hK s3 (nI (10 * i + 2)) (hk_Rd_p f3 (by omega))
              rw [← nI_add, ← pk_mul] at fin
              exact fin
        refine hk_hd (n := 1000) (t := 171) rfl ?_
        refine And.intro (fun hc => absurd hc a1) (fun _ => ?_)
        refine hk_ldi (i := nI (1422 + 61 * t) + 1 + nI i) (j := 1422 + 61 * t + 1 + i) el (by omega) (by decide) hc ?_
        refine m_in (fun _ _ => ?_) (fun q => absurd q (fun q => q.elim p0 q0))
        refine And.intro (fun hc => absurd hc (by decide)) (fun _ => ?_)
        have c6 : ¬ nI i - nI i = 6 := by rw [Int32.sub_self]; decide
        refine And.intro (fun _ => ?_) (fun hc => absurd c6 hc)
        refine hk_ldi (i := nI (1422 + 61 * t) + 1 + nI i) (j := 1422 + 61 * t + 1 + i) el (by omega) (by decide) hc ?_
        exact hk_Rn_cast (by rw [← nI_1 i]; rfl) (l171 n (i + 1) _ (by omega) (by omega) (by omega))
      · refine And.intro (fun _ => ?_) (fun hc => absurd (by decide) hc)
        refine m_nameOf (fun x => ?_)
        refine And.intro (fun c1 => ?_) (fun c1 => ?_)
        rotate_left
        · refine m_nameOf (fun x => ?_)
          have p := hk_Pa_val (v := 1) (w := x) h3 (Or.inr rfl)
          refine m_emits h3.1 (by omega) ?_
          refine m_settles (t := 6) (by omega) (by omega) he (by omega) p (fun s6 k6 m6 h7 f7 _ => ?_)
          exact nx s6 k6 m6 o 1 l8 l9 h7 (hk_FP_t (hk_FP_u (hk_FP_u (hk_FP_u f3 (by omega)) (by omega)) (by omega)) f7) (by omega)
        refine And.intro (fun c2 => ?_) (fun c2 => ?_)
        rotate_left
        · refine And.intro (fun c3 => ?_) (fun c3 => ?_)
          · refine m_waits (m := m) (v := 13) h3.2.1 (by omega) ?_
            have p := hk_Pa_push (v := 13) (e2 := some 0) h3 (by omega) (by omega) (fun x hx => by cases hx; rw [if_neg (by omega)])
            rw [if_pos rfl] at p
            exact hk_Rn_cast (by rw [← nI_1 o]; rfl) (nx _ k (m + 1) (o + 1) 0 l8 l9 p (hk_FP_u (hk_FP_u f3 (by omega)) (by omega)) (by omega))
          · have fin := hK s3 (nI (10 * i + 3)) (hk_Rd_p f3 (by omega))
            rw [← nI_add, ← pk_mul] at fin
            exact fin
        have sg : ∀ (q : Nat), hk_wp (d + 4) none hk_c162 K (q + 60) (hk_sfx 348 hk_c162) [some (.ref 40), some (.int (nI t)), some (.int (nI (1422 + 61 * t))), some (.int (nI n)), some (.int (nI o)), some (.int (nI 0)), some (.int (nI i)), some (.int c), l8, l9] [] (s3, lm, hk_RH i0 i1 b, al) := by
          intro q
          refine And.intro (fun c5 => ?_) (fun c5 => ?_)
          · refine hk_Cl_mono (fun r h => ?_) (pu 0 2 (by omega) (by omega))
            rintro ⟨rfl, hh⟩
            exact hh
          · refine hk_Cl_mono (fun r h => ?_) (pu 0 3 (by omega) (by omega))
            rintro ⟨rfl, hh⟩
            exact hh
        refine And.intro (fun c3 => ?_) (fun c3 => ?_)
        · exact sg _
        refine And.intro (fun c4 => ?_) (fun c4 => ?_)
        · exact er s3 f3
        · exact sg _
    · refine And.intro (fun hc => absurd hc (by decide)) (fun _ => ?_)
      have so : ∀ (q : Nat), hk_wp (d + 4) none hk_c162 K (q + 60) (hk_sfx 111 hk_c162) [some (.ref 40), some (.int (nI t)), some (.int (nI (1422 + 61 * t))), some (.int (nI n)), some (.int (nI o)), some (.int (nI 1)), some (.int (nI i)), some (.int c), l8, l9] [] (s3, lm, hk_RH i0 i1 b, al) := by
        intro q
        refine m_signOf ?_
        refine And.intro (fun c1 => ?_) (fun c1 => ?_)
        · exact er s3 f3
        have c1 : ¬ hk_so c = -1 := c1
        obtain ⟨tt, h4, h12, et⟩ := (hk_so_r c).elim (fun e => absurd e c1) id
        refine m_signOf ?_
        rw [et]
        refine m_goesOn h4 h12 (by omega) h3 (fun s4 f4 => ?_) (fun s4 k4 m4 h5 f4 => ?_)
        · refine And.intro (fun _ => ?_) (fun hc => absurd (by decide) hc)
          exact er s4 (hk_FP_t f3 f4)
        · refine And.intro (fun hc => absurd hc (by decide)) (fun _ => ?_)
          exact nx s4 k4 m4 o 0 l8 l9 h5 (hk_FP_t f3 f4) (by omega)
      refine And.intro (fun c1 => ?_) (fun c1 => ?_)
      · exact so _
      refine And.intro (fun c2 => ?_) (fun c2 => ?_)
      · exact so _
      have c2 : ¬ nI o ≤ 0 := c2
      refine m_settles (t := 1) (by omega) (by omega) he (by omega) h3 (fun s4 k4 m4 h5 f5 htop => ?_)
      cases o with
      | zero => exact absurd (show nI 0 ≤ 0 by decide) c2
      | succ o =>
        have hm4 : ∃ m5, m4 = m5 + 1 := by
          cases m4 with
          | zero =>
            have := h5.2.2.2.2.1
            cases this
          | succ m5 => exact ⟨m5, rfl⟩
        obtain ⟨m5, rfl⟩ := hm4
        have ev : s4 47 m5 = nI 13 := by
          rcases htop with e | ⟨v, q2, q3, qe, qt⟩
          · omega
          · by_cases e : v = 13
            · rw [← e]; exact qe
            · exfalso
              exact absurd qt (by have := hk_tg_p q2 (show v ≤ 12 by omega); omega)
        have p := hk_Pa_open h5 ev
        have e1 : s4 40 7 - 1 = nI m5 := by rw [h5.2.1, nI_pred]
        rw [← e1] at p
        have f6 : hk_FP s (hk_u2 s4 40 7 (s4 40 7 - 1)) := hk_FP_u (hk_FP_t f3 f5) (by omega)
        refine m_settles (t := 6) (by omega) (by omega) he (by omega) p (fun s6 k6 m6 h7 f7 _ => ?_)
        exact hk_Rn_cast (by rw [← pk_m1 o]; rfl) (nx s6 k6 m6 o 1 l8 l9 (hk_Pa_i h7 (by omega)) (hk_FP_t f6 f7) (by omega))
theorem m_reads {t n : Nat} (ht : t < 4) (hn : n ≤ 60) (hl : s 41 (1422 + 61 * t) = nI n) (hK : ∀ s2 u, hk_Rd s s2 u → K (some (.int u)) (s2, lm, hk_RH i0 i1 b, al)) : hk_Cl (d + 5) 162 [.ref 40, .int (nI t)] (s, lm, hk_RH i0 i1 b, al) K := by
  have p : hk_Pa (hk_u2 (hk_u2 s 40 4 0) 40 7 0) 0 0 0 0 (some 0) := ⟨by rw [hk_u2o (by omega), hk_u2s]; rfl, hk_u2s, by omega, fun j hj => absurd hj (Nat.not_lt_zero j), rfl, fun h hx => by cases hx; rfl⟩
  have e1 : (1422 : Int32) + 61 * nI t = nI (1422 + 61 * t) := by simp only [hk_lit, pk_mul, nI_add]
  have r := m_reads_l (d := d) (lm := lm) (i0 := i0) (i1 := i1) (b := b) (al := al) ht hn hK n 0 0 0 0 0 (hk_u2 (hk_u2 s 40 4 0) 40 7 0) none none none (by omega) (by omega) (by omega) p (hk_FP_u (hk_FP_u (hk_FP_r s) (by omega)) (by omega))
  rw [← e1] at r
  refine hk_mth hk_m162 rfl rfl (n := 1000) ?_
  refine hk_ldi (i := 1422 + 61 * nI t) (j := 1422 + 61 * t) (by simp only [hk_lit, pk_mul, nI_add]) (by omega) (by decide) hl ?_
  exact r
end HKC3
