/-! ===== the reference's month ===== -/
section HKB3
variable {d n a bb r : Nat} {v w x y z : Int32} {s : Nat → Nat → Int32} {lm : Nat → Nat → Int64} {i0 i1 b : Nat} {al : List Nat} {k : Option Value → hk_H → Prop}
set_option maxHeartbeats 300000 in
theorem m_goes_176 {q j m : Nat} {s3 : Nat → Nat → Int32} {e f wt wa : Int32} (hI : hk_gI s s3 a bb r q) (hj : j < a) (nx : ∀ (s4 : Nat → Nat → Int32) (e f v4 v5 : Int32), hk_gI s s4 a bb r q → hk_Rn (d + 3) none hk_c151 (hk_sfx 90 hk_c151) [some (.ref 40), some (.int e), some (.int f), some (.int (nI (j + 1))), some (.int v4), some (.int v5)] [] (s4, lm, hk_RH i0 i1 b, al) k) : hk_wp (d + 3) none hk_c151 k (m + 160) (hk_sfx 176 hk_c151) [some (.ref 40), some (.int e), some (.int f), some (.int (nI j)), some (.int wt), some (.int wa)] [] (s3, lm, hk_RH i0 i1 b, al) := by
  have ha := hI.2.1.1.1
  refine hk_stn (i := 20 + 10 * nI j + 5) (j := 20 + 10 * j + 5) (by simp only [hk_lit, pk_mul, nI_add]) (by omega) (by decide) (fun s4 (hs4 : s4 = hk_u2 s3 41 (20 + 10 * j + 5) (wt - e)) => ?_)
  have h4 : hk_gI s s4 a bb r q := by rw [hs4]; exact hk_gI_u hI (by omega)
  refine m_lies (by omega) (h4.2.1.2.2.1 j hj) (fun u => ?_)
  refine m_shipOf (c := 1) (by omega) ?_
  refine And.intro (fun c2 => ?_) (fun c2 => ?_)
  · exact hk_Rn_cast (by rw [← nI_1 j]; rfl) (nx s4 (e - e) f wt e h4)
  refine hk_stn (i := 20 + 10 * nI j + 6) (j := 20 + 10 * j + 6) (by simp only [hk_lit, pk_mul, nI_add]) (by omega) (by decide) (fun s5 (hs5 : s5 = hk_u2 s4 41 (20 + 10 * j + 6) 1) => ?_)
  exact hk_Rn_cast (by rw [← nI_1 j]; rfl) (nx s5 (e - e) (f + 1) wt e (by rw [hs5]; exact hk_gI_u h4 (by omega)))
set_option maxHeartbeats 300000 in
theorem m_goes_171 {q j m : Nat} {s3 : Nat → Nat → Int32} {e f wt wa : Int32} (hI : hk_gI s s3 a bb r q) (hj : j < a) (nx : ∀ (s4 : Nat → Nat → Int32) (e f v4 v5 : Int32), hk_gI s s4 a bb r q → hk_Rn (d + 3) none hk_c151 (hk_sfx 90 hk_c151) [some (.ref 40), some (.int e), some (.int f), some (.int (nI (j + 1))), some (.int v4), some (.int v5)] [] (s4, lm, hk_RH i0 i1 b, al) k) : hk_wp (d + 3) none hk_c151 k (m + 160) (hk_sfx 171 hk_c151) [some (.ref 40), some (.int e), some (.int f), some (.int (nI j)), some (.int wt), some (.int wa)] [] (s3, lm, hk_RH i0 i1 b, al) := by
  have ha := hI.2.1.1.1
  refine hk_stn (i := 20 + 10 * nI j + 5) (j := 20 + 10 * j + 5) (by simp only [hk_lit, pk_mul, nI_add]) (by omega) (by decide) (fun s4 (hs4 : s4 = hk_u2 s3 41 (20 + 10 * j + 5) (wt - wa)) => ?_)
  have h4 : hk_gI s s4 a bb r q := by rw [hs4]; exact hk_gI_u hI (by omega)
  refine m_lies (by omega) (h4.2.1.2.2.1 j hj) (fun u => ?_)
  refine m_shipOf (c := 1) (by omega) ?_
  refine And.intro (fun c2 => ?_) (fun c2 => ?_)
  · exact hk_Rn_cast (by rw [← nI_1 j]; rfl) (nx s4 (e - wa) f wt wa h4)
  refine hk_stn (i := 20 + 10 * nI j + 6) (j := 20 + 10 * j + 6) (by simp only [hk_lit, pk_mul, nI_add]) (by omega) (by decide) (fun s5 (hs5 : s5 = hk_u2 s4 41 (20 + 10 * j + 6) 1) => ?_)
  exact hk_Rn_cast (by rw [← nI_1 j]; rfl) (nx s5 (e - wa) (f + 1) wt wa (by rw [hs5]; exact hk_gI_u h4 (by omega)))
set_option maxHeartbeats 300000 in
theorem m_goes_ship {q j : Nat} {s3 : Nat → Nat → Int32} {e f : Int32} {l4 l5 : Option Value} (hI : hk_gI s s3 a bb r q) (hq : q < 600) (hj : j < a) (nx : ∀ (s4 : Nat → Nat → Int32) (e f v4 v5 : Int32), hk_gI s s4 a bb r q → hk_Rn (d + 3) none hk_c151 (hk_sfx 90 hk_c151) [some (.ref 40), some (.int e), some (.int f), some (.int (nI (j + 1))), some (.int v4), some (.int v5)] [] (s4, lm, hk_RH i0 i1 b, al) k) (nx0 : hk_Rn (d + 3) none hk_c151 (hk_sfx 90 hk_c151) [some (.ref 40), some (.int e), some (.int f), some (.int (nI (j + 1))), l4, l5] [] (s3, lm, hk_RH i0 i1 b, al) k) : hk_Rn (d + 3) none hk_c151 (hk_sfx 90 hk_c151) [some (.ref 40), some (.int e), some (.int f), some (.int (nI j)), l4, l5] [] (s3, lm, hk_RH i0 i1 b, al) k := by
  have ha := hI.2.1.1.1
  have hb := hI.2.1.1.2.1
  have a1 : ¬ nI a ≤ nI j := hk_nlt (by omega) (by omega)
  refine hk_hd (n := 1000) (t := 90) rfl ?_
  refine hk_ldi (i := nI 0) (j := 0) (by simp only [hk_lit, pk_mul, nI_add]) (by omega) (by decide) hI.2.1.2.1.1 ?_
  refine And.intro (fun hc => absurd hc a1) (fun _ => ?_)
  refine m_shipOf (c := 6) (by omega) ?_
  refine And.intro (fun c1 => ?_) (fun c1 => ?_)
  · exact hk_Rn_cast (by rw [← nI_1 j]; rfl) nx0
  refine m_shipOf (c := 5) (by omega) ?_
  refine m_leaksOf hI.2.1.2.1.2.1 hb (fun u => ?_)
  refine hk_ldi (i := nI 7) (j := 7) (by simp only [hk_lit, pk_mul, nI_add]) (by omega) (by decide) hI.2.2 ?_
  refine hk_ldi (i := 1848 + nI q) (j := 1848 + q) (by simp only [hk_lit, pk_mul, nI_add]) (by omega) (by decide) rfl ?_
  refine m_shipOf (c := 3) (by omega) ?_
  refine And.intro (fun c2 => ?_) (fun c2 => ?_)
  · refine m_shipOf (c := 3) (by omega) ?_
    refine And.intro (fun c3 => ?_) (fun c3 => ?_)
    · exact m_goes_176 hI hj nx
    · exact m_goes_171 hI hj nx
  · refine And.intro (fun c3 => ?_) (fun c3 => ?_)
    · exact m_goes_176 hI hj nx
    · exact m_goes_171 hI hj nx
end HKB3
