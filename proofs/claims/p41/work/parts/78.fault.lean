/-! ===== fault: both sides name the same ===== -/
section HKEG
variable {d L t n a bb r : Nat} {v w x z : Int32} {s : Nat → Nat → Int32} {lm : Nat → Nat → Int64} {i0 i1 b : Nat} {al : List Nat} {k : Option Value → hk_H → Prop} {nm : Int32 → Int64} {G : Nat → Int32}
theorem c_tellX (hw : hk_TG s t G) (ht : t < 4) (hl : s 11 (t * 61) = nI L) (hL : L ≤ 60) (hneg : ∀ j, j < L → ¬ G j = -1) (hLt : ∀ (d : Nat) (s2 : Nat → Nat → Int32) (v : Int32) (k : Option Value → hk_H → Prop), hk_R24 s s2 → s2 24 2 = w → ¬ hk_nmo v = -1 → k (some (.long (nm (hk_nmo v)))) (s2, lm, hk_RH i0 i1 b, al) → hk_Cl (d + 3) 58 [.ref 24, .int v] (s2, lm, hk_RH i0 i1 b, al) k) (h1 : ∀ s2 x, hk_R24 s s2 → s2 24 5 = (hk_sy G L nm 0 [] [] 0 0).1 → ((hk_sy G L nm 0 [] [] 0 0).1 = -1 → (hk_sy G L nm 0 [] [] 0 0).2 = [x]) → (¬ (hk_sy G L nm 0 [] [] 0 0).1 = -1 → x = 0) → k (some (.long x)) (s2, lm, hk_RH i0 i1 b, al)) : hk_Cl (d + 81) 44 [.ref 24, .int (nI t), .int w] (s, lm, hk_RH i0 i1 b, al) k := by
  have hw2 : hk_tw (hk_u2 (hk_u2 s 24 1 (nI t)) 24 2 w) 10 4 := ⟨by rw [hk_u2o (by omega), hk_u2o (by omega)]; exact hw.1.2.2.1, by rw [hk_u2o (by omega), hk_u2o (by omega)]; exact hw.1.2.2.2.1, by rw [hk_u2o (by omega), hk_u2o (by omega)]; exact hw.1.2.2.2.2.1, hw.1.2.2.2.2.2⟩
  have e2 : hk_u2 (hk_u2 s 24 1 (nI t)) 24 2 w (10 + 1) (t * hk_co 10 + 0) = nI L := by
    rw [hk_u2o (by omega), hk_u2o (by omega)]
    exact hl
  refine hk_mth hk_m44 rfl rfl (n := 1000) ?_
  refine c_get_in (j := 0) (by simp [hk_tb]) hw2 ht (by decide) ?_
  rw [e2]
  have hp : hk_PX t L w (hk_u2 (hk_u2 (hk_u2 (hk_u2 (hk_u2 s 24 1 (nI t)) 24 2 w) 24 3 (nI L)) 24 4 0) 24 5 (-1)) 0 := by
    refine ⟨?_, ?_, ?_, ?_, by omega, hk_u2s⟩
    · rw [hk_u2o (by omega), hk_u2o (by omega), hk_u2o (by omega), hk_u2o (by omega), hk_u2s]
    · rw [hk_u2o (by omega), hk_u2o (by omega), hk_u2o (by omega), hk_u2s]
    · rw [hk_u2o (by omega), hk_u2o (by omega), hk_u2s]
    · rw [hk_u2o (by omega), hk_u2s]
      rfl
  have hr : hk_R24 s (hk_u2 (hk_u2 (hk_u2 (hk_u2 (hk_u2 s 24 1 (nI t)) 24 2 w) 24 3 (nI L)) 24 4 0) 24 5 (-1)) := hk_R24_u (hk_R24_u (hk_R24_u (hk_R24_u (hk_R24_u (hk_R24_r s)))))
  refine c_valueAX hw hL ht hLt 8 0 (by omega) d _ _ 0 [] [] hr hp trivial (fun s3 u hr3 hR => ?_)
  rcases hR with ⟨j, V1, S1, hP3, _, hst, hnn, hsy⟩ | ⟨F, hF, hsy⟩
  · have hj := hP3.2.2.2.2.1
    obtain ⟨n1, n2, n3, n4⟩ := hk_nx_b (g := G) hj
    have sy2 := hsy.trans (n4 nm V1 S1 0 1)
    refine c_peekX hw hL ht hr3 hP3 (fun s4 hr4 hP4 => ?_)
    by_cases hlt : hk_nx G L j < L
    · rw [if_pos hlt]
      refine And.intro (fun hc => absurd hc (hneg _ hlt)) (fun _ => ?_)
      refine c_failP (c := 1) hP4 hL (by omega) (fun hF => ?_)
      have e : hk_sy G L nm 0 [] [] 0 0 = (nI (10 * hk_nx G L j + 1), []) := by
        refine sy2.trans (hk_sy_bad hlt (n3 hlt) (fun q => absurd q.2 (Nat.lt_irrefl 0)) ?_)
        rcases hk_so_r (G (hk_nx G L j)) with e | ⟨tt, q4, q12, e⟩
        · exact Or.inl e
        · refine Or.inr ⟨tt, e, q4, q12, hnn tt hlt e q4 q12 ?_⟩
          have := hk_tg_r q4 q12
          omega
      refine c_hasFlaw (fun e => absurd e (by rw [hF.2.1]; exact hF.2.2)) (fun _ => ?_)
      refine And.intro (fun hc => absurd hc (by decide)) (fun _ => ?_)
      refine h1 _ _ (hk_R24_u hr4) ?_ ?_ ?_
      · rw [e]; exact hF.2.1
      · rw [e]; exact fun q => absurd q hF.2.2
      · exact fun _ => rfl
    · have e : hk_sy G L nm 0 [] [] 0 0 = (-1, [u]) := by
        refine sy2.trans ?_
        rw [hk_sy_end hlt, if_pos ⟨rfl, rfl⟩, hst]
      rw [if_neg hlt]
      refine And.intro (fun _ => ?_) (fun hc => absurd (by decide) hc)
      refine c_hasFlaw (fun _ => ?_) (fun q => absurd hP4.2.2.2.2.2 q)
      refine And.intro (fun _ => ?_) (fun hc => absurd (by decide) hc)
      refine h1 s4 u hr4 ?_ ?_ ?_
      · rw [e]; exact hP4.2.2.2.2.2
      · rw [e]; exact fun _ => rfl
      · rw [e]; exact fun q => absurd rfl q
  · refine c_peekE (Or.inl (by rw [hF.2.1]; exact hF.2.2)) ?_
    refine And.intro (fun _ => ?_) (fun hc => absurd (by decide) hc)
    refine c_hasFlaw (fun e => absurd e (by rw [hF.2.1]; exact hF.2.2)) (fun _ => ?_)
    refine And.intro (fun hc => absurd hc (by decide)) (fun _ => ?_)
    refine h1 s3 _ hr3 ?_ ?_ ?_
    · rw [hsy]; exact hF.2.1
    · rw [hsy]; exact fun q => absurd q hF.2.2
    · exact fun _ => rfl
theorem c_letter0 (e : s 24 2 = -1) (h1 : k (some (.long 0)) (s, lm, hk_RH i0 i1 b, al)) : hk_Cl (d + 3) 58 [.ref 24, .int v] (s, lm, hk_RH i0 i1 b, al) k := by
  refine hk_mth hk_m58 rfl rfl (n := 1000) ?_
  refine And.intro (fun hc => absurd hc (fun q : ¬ s 24 2 = -1 => q e)) (fun _ => ?_)
  exact h1
theorem c_flawOfX (hw : hk_TG s t G) (ht : t < 4) (hl : s 11 (t * 61) = nI L) (hL : L ≤ 60) (hneg : ∀ j, j < L → ¬ G j = -1) (h1 : ∀ s2, hk_R24 s s2 → k (some (.int (hk_sy G L (fun _ => 0) 0 [] [] 0 0).1)) (s2, lm, hk_RH i0 i1 b, al)) : hk_Cl (d + 82) 74 [.ref 24, .int (nI t)] (s, lm, hk_RH i0 i1 b, al) k := by
  refine hk_mth hk_m74 rfl rfl (n := 1000) ?_
  refine c_tellX (nm := fun _ => 0) hw ht hl hL hneg (fun d s2 v k hr e _ hk => c_letter0 e hk) (fun s2 x hr e5 _ _ => ?_)
  have key := h1 s2 hr
  rw [← e5] at key
  exact key
theorem c_fault_y (hw : hk_TG s t G) (ht : t < 4) (hl : s 11 (t * 61) = nI L) (hL : L ≤ 60) (hneg : ∀ j, j < L → ¬ G j = -1) (h1 : ∀ s2, hk_R24 s s2 → k (some (.int (hk_sy G L (fun _ => 0) 0 [] [] 0 0).1)) (s2, lm, hk_RH i0 i1 b, al)) : hk_Cl (d + 83) 73 [.ref 0, .int (nI t)] (s, lm, hk_RH i0 i1 b, al) k := by
  refine hk_mth hk_m73 rfl rfl (n := 1000) ?_
  refine c_has (by simp [hk_tb]) (fun _ _ => ?_) (fun a => ?_)
  · refine And.intro (fun hc => absurd hc (by decide)) (fun _ => ?_)
    exact c_flawOfX hw ht hl hL hneg h1
  · exfalso
    rw [hw.1.2.2.2.2.1, nI_leI (by omega) (by omega)] at a
    exact a.elim (nI_pos (by omega)) (fun q => by omega)
theorem c_fault_b (hw : hk_TW s) (hv : ∀ j, v = nI j → ¬ j < 4) (h1 : k (some (.int (-2))) (s, lm, hk_RH i0 i1 b, al)) : hk_Cl (d + 83) 73 [.ref 0, .int v] (s, lm, hk_RH i0 i1 b, al) k := by
  refine hk_mth hk_m73 rfl rfl (n := 1000) ?_
  refine c_has (by simp [hk_tb]) (fun a1 a2 => ?_) (fun a => ?_)
  · exfalso
    obtain ⟨j, hj, e⟩ := nI_of a1
    rw [hw.2.2.2.2.1, e, nI_leI (by omega) hj] at a2
    exact hv j e (by omega)
  · refine And.intro (fun _ => ?_) (fun hc => absurd (by decide) hc)
    exact h1
theorem m_fault_y (ht : t < 4) (hl : s 41 (1422 + 61 * t) = nI n) (hn : n ≤ 60) (h1 : ∀ s2, hk_FP s s2 → k (some (.int (hk_sy (fun i => s 41 (1422 + 61 * t + 1 + i)) n nm 0 [] [] 0 0).1)) (s2, lm, hk_RH i0 i1 b, al)) : hk_Cl (d + 6) 189 [.ref 40, .int (nI t)] (s, lm, hk_RH i0 i1 b, al) k := by
  refine hk_mth hk_m189 rfl rfl (n := 1000) ?_
  refine m_isText2 (fun q => absurd ht (q t rfl)) (fun j e hj => ?_)
  refine And.intro (fun hc => absurd hc (by decide)) (fun _ => ?_)
  exact m_readsX ht hn hl (fun s2 h => h1 s2 h.1)
theorem m_fault_b (hv : ∀ j, v = nI j → ¬ j < 4) (h1 : k (some (.int (-2))) (s, lm, hk_RH i0 i1 b, al)) : hk_Cl (d + 6) 189 [.ref 40, .int v] (s, lm, hk_RH i0 i1 b, al) k := by
  refine hk_mth hk_m189 rfl rfl (n := 1000) ?_
  refine m_isText2 (fun _ => ?_) (fun j e hj => absurd hj (hv j e))
  refine And.intro (fun _ => ?_) (fun hc => absurd (by decide) hc)
  exact h1
/-- a text's signs on both sides -/
theorem hk_tx_G {i0 i1 t : Nat} (hi : hk_IS s i0 i1) (ht : t < 4) : ∃ L, L ≤ 60 ∧ s 41 (1422 + 61 * t) = nI L ∧ s 11 (t * 61) = nI L ∧ hk_TG s t (fun i => s 41 (1422 + 61 * t + 1 + i)) ∧ ∀ j, j < 60 → ¬ s 41 (1422 + 61 * t + 1 + j) = -1 := by
  obtain ⟨a, b, r, hr⟩ := hi.2.2.1
  obtain ⟨m, hm, em⟩ := hr.2.2.2.2.2.2.2.1 t ht
  have hx : ∀ q, 1422 ≤ q → q < 1666 → ¬ s 41 q = -1 := hr.2.2.2.2.2.2.2.2.2.2.2.1.elim (fun _ q => q.2.2.2.2)
  exact ⟨m, hm, em, (hi.2.1 10 _ _ (hk_lp11 (by omega) (by omega))).trans em, ⟨hi.1, fun j hj => hi.2.1 10 _ _ (hk_lp11 (by omega) (by omega))⟩, fun j hj => hx _ (by omega) (by omega)⟩
theorem q_faultE : hk_SI 73 189 [.int v] True := by
  rintro h ⟨s, lm, i0, i1, b, al, rfl, hc, hi⟩
  by_cases hv : ∃ t, t < 4 ∧ v = nI t
  · obtain ⟨t, ht, rfl⟩ := hv
    obtain ⟨L, hL, e1, e2, hG, hneg⟩ := hk_tx_G hi ht
    refine c_fault_y (d := 917) hG ht e2 hL (fun j hj => hneg j (by omega)) (fun s2 hr2 => ⟨_, rfl, ?_⟩)
    have e41 : s2 41 = s 41 := funext fun q => hr2 41 q (by omega)
    refine m_fault_y (d := 994) (nm := fun _ => 0) (n := L) ht (by rw [e41]; exact e1) hL (fun s3 hf => ⟨_, rfl, fun _ => by rw [e41], hk_Inv_mk hc ?_⟩)
    exact hk_safe hi (hk_CF_p hi.1 (fun p q hp => hr2 p q (by omega))) (hk_Gw_of (hk_FP_G hf)) (by rw [hk_FP_41 hf, e41]; exact hi.2.2.1)
  · have hv : ∀ j, v = nI j → ¬ j < 4 := fun j e hj => hv ⟨j, hj, e⟩
    exact c_fault_b (d := 917) hi.1 hv ⟨_, rfl, m_fault_b (d := 994) hv ⟨_, rfl, fun _ => rfl, hk_Inv_mk hc hi⟩⟩
end HKEG
