/-! ===== what a run comes to, as a statement computed along the code ===== -/
/-- a call, so deep, comes to an end with k -/
def hk_Cl (d y : Nat) (a : List Value) (h : hk_H) (k : Option Value → hk_H → Prop) : Prop := ∃ (F : Nat) (r : Option Value) (h' : hk_H), hk_call hk_SH 95 100000 1 hk_mt F d y a h = some (r, h') ∧ k r h'
/-- a body, from a row of its code on, comes to its end with k -/
def hk_Rn (d : Nat) (scr : Option (Nat × (Nat → Int32))) (cd cs : List hk_E) (L : hk_L) (st : List Value) (h : hk_H) (k : Option Value → hk_H → Prop) : Prop := ∃ (F n : Nat) (r : Option Value) (h' : hk_H), hk_run hk_SH 95 100000 1 (hk_call hk_SH 95 100000 1 hk_mt F d) scr cd n cs L st h = some (r, h') ∧ k r h'
def hk_wp (d : Nat) (scr : Option (Nat × (Nat → Int32))) (cd : List hk_E) (k : Option Value → hk_H → Prop) : Nat → List hk_E → hk_L → List Value → hk_H → Prop
  | 0, _, _, _, _ => False
  | _ + 1, [], _, _, _ => False
  | n + 1, e :: cs, L, st, h => match e.2.2.2.1 with
    | 0 => hk_stp hk_SH 95 100000 (R := Prop) False (fun L st h => hk_wp d scr cd k n cs L st h) (fun t L st h => hk_wp d scr cd k n (hk_sfx t cd) L st h) (fun P _ q => P ∧ q) (fun P _ q1 q2 => (P → q1) ∧ (¬ P → q2)) (fun y a h q => hk_Cl d y a h q) (fun r h => k r h) scr 1 e.2.1 e.2.2.2.2.1.1 e.2.2.2.2.1.2.2.1 e.2.2.2.2.1.2.2.2 e.2.2.2.2.2.1 e.2.2.2.2.2.2.1 e.2.2.2.2.2.2.2 L st h
    | _ => hk_Rn d scr cd (e :: cs) L st h k
/-- the same, its first row done whatever it is -/
def hk_w1 (d : Nat) (scr : Option (Nat × (Nat → Int32))) (cd : List hk_E) (k : Option Value → hk_H → Prop) (n : Nat) : List hk_E → hk_L → List Value → hk_H → Prop
  | [], _, _, _ => False
  | e :: cs, L, st, h => hk_stp hk_SH 95 100000 (R := Prop) False (fun L st h => hk_wp d scr cd k n cs L st h) (fun t L st h => hk_wp d scr cd k n (hk_sfx t cd) L st h) (fun P _ q => P ∧ q) (fun P _ q1 q2 => (P → q1) ∧ (¬ P → q2)) (fun y a h q => hk_Cl d y a h q) (fun r h => k r h) scr 1 e.2.1 e.2.2.2.2.1.1 e.2.2.2.2.1.2.2.1 e.2.2.2.2.1.2.2.2 e.2.2.2.2.2.1 e.2.2.2.2.2.2.1 e.2.2.2.2.2.2.2 L st h
theorem hk_Cl_mono {d y : Nat} {a : List Value} {h : hk_H} {k k' : Option Value → hk_H → Prop} (hk : ∀ r h', k r h' → k' r h') (c : hk_Cl d y a h k) : hk_Cl d y a h k' := by
  obtain ⟨F, r, h', e, q⟩ := c
  exact ⟨F, r, h', e, hk _ _ q⟩
theorem hk_Cl_deep {d d' y : Nat} (hd : d ≤ d') {a : List Value} {h : hk_H} {k : Option Value → hk_H → Prop} (c : hk_Cl d y a h k) : hk_Cl d' y a h k := by
  obtain ⟨F, r, h', e, q⟩ := c
  exact ⟨F, r, h', hk_call_deep d d' hd _ _ _ _ e, q⟩
theorem hk_Rn_mono {d : Nat} {scr : Option (Nat × (Nat → Int32))} {cd cs : List hk_E} {L : hk_L} {st : List Value} {h : hk_H} {k k' : Option Value → hk_H → Prop} (hk : ∀ r h', k r h' → k' r h') (c : hk_Rn d scr cd cs L st h k) : hk_Rn d scr cd cs L st h k' := by
  obtain ⟨F, n, r, h', e, q⟩ := c
  exact ⟨F, n, r, h', e, hk _ _ q⟩
/-- runs at large bounds -/
def hk_G2 (d : Nat) (k : Option Value → hk_H → Prop) (P : Prop) (g : Nat → Nat → hk_O) : Prop := P → ∃ (N : Nat) (r : Option Value) (h' : hk_H), (∀ F n, N ≤ F → N ≤ n → g F n = some (r, h')) ∧ k r h'
theorem hk_stp_run {d : Nat} {scr : Option (Nat × (Nat → Int32))} {cd cs : List hk_E} {k : Option Value → hk_H → Prop} {nxP : hk_L → List Value → hk_H → Prop} {jmP : Nat → hk_L → List Value → hk_H → Prop} (hnx : ∀ L st h, nxP L st h → hk_Rn d scr cd cs L st h k) (hjm : ∀ t L st h, jmP t L st h → hk_Rn d scr cd (hk_sfx t cd) L st h k) (e : hk_E) (L : hk_L) (st : List Value) (h : hk_H)
    (hw : hk_stp hk_SH 95 100000 (R := Prop) False nxP jmP (fun P _ q => P ∧ q) (fun P _ q1 q2 => (P → q1) ∧ (¬ P → q2)) (fun y a h q => hk_Cl d y a h q) (fun r h => k r h) scr 1 e.2.1 e.2.2.2.2.1.1 e.2.2.2.2.1.2.2.1 e.2.2.2.2.1.2.2.2 e.2.2.2.2.2.1 e.2.2.2.2.2.2.1 e.2.2.2.2.2.2.2 L st h) : hk_Rn d scr cd (e :: cs) L st h k := by
  have hR : ∀ (cs' : List hk_E) (L : hk_L) (st : List Value) (h : hk_H) (P : Prop), (P → hk_Rn d scr cd cs' L st h k) → hk_G2 d k P (fun F n => hk_run hk_SH 95 100000 1 (hk_call hk_SH 95 100000 1 hk_mt F d) scr cd n cs' L st h) := by
    intro cs' L st h P hP p
    obtain ⟨F, n, r, h', e, q⟩ := hP p
    refine ⟨max F n, r, h', fun F' n' h1 h2 => ?_, q⟩
    exact hk_run_mono (hk_call_ge F d) (fun y a h q e => hk_call_mono (by omega) d y a h q e) n n' (by omega) _ _ _ _ _ e
  have h0 := hk_stp_rel (SH := hk_SH) (pb := 95) (big := 100000) (scr := scr) (R1 := Prop) (R2 := Nat → Nat → hk_O) (T := hk_G2 d k) (sk1 := False) (sk2 := fun _ _ => none) (nx1 := nxP) (nx2 := fun L st h F n => hk_run hk_SH 95 100000 1 (hk_call hk_SH 95 100000 1 hk_mt F d) scr cd n cs L st h) (jm1 := jmP) (jm2 := fun t L st h F n => hk_run hk_SH 95 100000 1 (hk_call hk_SH 95 100000 1 hk_mt F d) scr cd n (hk_sfx t cd) L st h) (as1 := fun P _ q => P ∧ q) (as2 := fun P dP g F n => @ite _ P dP (g F n) none) (br1 := fun P _ q1 q2 => (P → q1) ∧ (¬ P → q2)) (br2 := fun P dP g1 g2 F n => @ite _ P dP (g1 F n) (g2 F n)) (cl1 := fun y a h q => hk_Cl d y a h q) (cl2 := fun y a h g F n => (hk_call hk_SH 95 100000 1 hk_mt F d y a h).bind (fun q => g q.1 q.2 F n)) (rt1 := fun r h => k r h) (rt2 := fun r h _ _ => some (r, h)) (h := h) (fun p => p.elim) (fun L st h' _ => hR cs L st h' _ (hnx L st h')) (fun t L st => hR _ L st h _ (hjm t L st h)) (fun P dP k1 k2 hk p => ?_) (fun P dP a1 a2 b1 b2 ha hb p => ?_) (fun y a k1 k2 hk p => ?_) (fun r p => ⟨0, r, h, fun _ _ _ _ => rfl, p⟩) 1 e.2.1 e.2.2.2.2.1.1 e.2.2.2.2.1.2.2.1 e.2.2.2.2.1.2.2.2 e.2.2.2.2.2.1 e.2.2.2.2.2.2.1 e.2.2.2.2.2.2.2 L st
  · obtain ⟨N, r, h', e1, q⟩ := h0 hw
    refine ⟨N, N + 1, r, h', ?_, q⟩
    rw [hk_run, ← e1 N N (Nat.le_refl _) (Nat.le_refl _)]
    refine hk_stp_rel (SH := hk_SH) (pb := 95) (big := 100000) (scr := scr) (R1 := hk_O) (R2 := Nat → Nat → hk_O) (T := fun x (g : Nat → Nat → hk_O) => x = g N N) (sk1 := none) (sk2 := fun _ _ => none) (nx1 := fun L st h => hk_run hk_SH 95 100000 1 (hk_call hk_SH 95 100000 1 hk_mt N d) scr cd N cs L st h) (nx2 := fun L st h F n => hk_run hk_SH 95 100000 1 (hk_call hk_SH 95 100000 1 hk_mt F d) scr cd n cs L st h) (jm1 := fun t L st h => hk_run hk_SH 95 100000 1 (hk_call hk_SH 95 100000 1 hk_mt N d) scr cd N (hk_sfx t cd) L st h) (jm2 := fun t L st h F n => hk_run hk_SH 95 100000 1 (hk_call hk_SH 95 100000 1 hk_mt F d) scr cd n (hk_sfx t cd) L st h) (as1 := fun P dP k => @ite _ P dP k none) (as2 := fun P dP g F n => @ite _ P dP (g F n) none) (br1 := fun P dP k0 k1 => @ite _ P dP k0 k1) (br2 := fun P dP g1 g2 F n => @ite _ P dP (g1 F n) (g2 F n)) (cl1 := fun y a h k => (hk_call hk_SH 95 100000 1 hk_mt N d y a h).bind (fun q => k q.1 q.2)) (cl2 := fun y a h g F n => (hk_call hk_SH 95 100000 1 hk_mt F d y a h).bind (fun q => g q.1 q.2 F n)) (rt1 := fun r h => some (r, h)) (rt2 := fun r h _ _ => some (r, h)) (h := h) rfl (fun L st h' _ => rfl) (fun t L st => rfl) (fun P dP k1 k2 hk => by rw [hk]) (fun P dP a1 a2 b1 b2 ha hb => by rw [ha, hb]) (fun y a k1 k2 hk => ?_) (fun r => rfl) _ _ _ _ _ _ _ _ _ _
    cases hq : hk_call hk_SH 95 100000 1 hk_mt N d y a h with
    | none => rfl
    | some q2 => exact hk _ _ (hk_call_ge N d y a h q2 hq)
  · obtain ⟨N, r, h', e1, q⟩ := hk p.2
    exact ⟨N, r, h', fun F n h1 h2 => by dsimp only; rw [if_pos p.1]; exact e1 F n h1 h2, q⟩
  · by_cases hP : P
    · obtain ⟨N, r, h', e1, q⟩ := ha (p.1 hP)
      exact ⟨N, r, h', fun F n h1 h2 => by dsimp only; rw [if_pos hP]; exact e1 F n h1 h2, q⟩
    · obtain ⟨N, r, h', e1, q⟩ := hb (p.2 hP)
      exact ⟨N, r, h', fun F n h1 h2 => by dsimp only; rw [if_neg hP]; exact e1 F n h1 h2, q⟩
  · obtain ⟨F0, r0, h0', e0, q0⟩ := p
    obtain ⟨N, r, h', e1, q⟩ := hk r0 h0' (hk_call_ge F0 d y a h _ e0) q0
    refine ⟨max F0 N, r, h', fun F n h1 h2 => ?_, q⟩
    dsimp only
    rw [hk_call_mono (F := F0) (F' := F) (by omega) d y a h _ e0]
    exact e1 F n (by omega) (by omega)
theorem hk_wp_run {d : Nat} {scr : Option (Nat × (Nat → Int32))} {cd : List hk_E} {k : Option Value → hk_H → Prop} : ∀ (n : Nat) (cs : List hk_E) (L : hk_L) (st : List Value) (h : hk_H), hk_wp d scr cd k n cs L st h → hk_Rn d scr cd cs L st h k := by
  intro n
  induction n with
  | zero => intro cs L st h hw; exact hw.elim
  | succ n ih =>
    intro cs L st h hw
    cases cs with
    | nil => exact hw.elim
    | cons e cs =>
      rw [hk_wp] at hw
      split at hw
      · exact hk_stp_run (fun L st h p => ih cs L st h p) (fun t L st h p => ih _ L st h p) e L st h hw
      · exact hw
theorem hk_w1_run {d n : Nat} {scr : Option (Nat × (Nat → Int32))} {cd : List hk_E} {k : Option Value → hk_H → Prop} : ∀ (cs : List hk_E) (L : hk_L) (st : List Value) (h : hk_H), hk_w1 d scr cd k n cs L st h → hk_Rn d scr cd cs L st h k
  | [], _, _, _, hw => hw.elim
  | e :: cs, L, st, h, hw => hk_stp_run (fun L st h p => hk_wp_run n cs L st h p) (fun t L st h p => hk_wp_run n _ L st h p) e L st h hw
/-- a method's contract, from its code -/
theorem hk_mth {d y n : Nat} {a : List Value} {h : hk_H} {k : Option Value → hk_H → Prop} (q : hk_Q) (hq : hk_mt y = some q) (hc : (Nat.ble (hk_as a).length q.2.2.1 && Nat.beq a.length q.2.2.2.2.1.1) = true) (hw : hk_w1 d none q.2.2.2.2.2 k n q.2.2.2.2.2 (hk_loc q.2.2.1 a) [] h) : hk_Cl (d + 1) y a h k := by
  obtain ⟨F, n, r, h', e, p⟩ := hk_w1_run _ _ _ _ hw
  refine ⟨max F n, r, h', ?_, p⟩
  rw [hk_call, hq]
  simp only
  rw [hc]
  exact hk_run_mono (hk_call_ge F d) (fun y a h q e => hk_call_mono (by omega) d y a h q e) n _ (by omega) _ _ _ _ _ e
/-- a loop's head -/
theorem hk_hd {d t n : Nat} {scr : Option (Nat × (Nat → Int32))} {cd cs : List hk_E} {L : hk_L} {st : List Value} {h : hk_H} {k : Option Value → hk_H → Prop} (hcs : cs = hk_sfx t cd) (hw : hk_w1 d scr cd k n (hk_sfx t cd) L st h) : hk_Rn d scr cd cs L st h k := hcs ▸ hk_w1_run _ _ _ _ hw
