/-! ===== the abstract machine's step, under two readings of its ends ===== -/
def hk_ge (h h' : hk_H) : Prop := ∃ ext : List Nat, h'.2.2.2 = h.2.2.2 ++ ext
theorem hk_ge_rf (h : hk_H) : hk_ge h h := ⟨[], by simp⟩
theorem hk_ge_of {h h' : hk_H} (e : h'.2.2.2 = h.2.2.2) : hk_ge h h' := ⟨[], by simp [e]⟩
theorem hk_ge_tr {h h1 h2 : hk_H} (a : hk_ge h h1) (b : hk_ge h1 h2) : hk_ge h h2 := by
  obtain ⟨x, hx⟩ := a
  obtain ⟨y, hy⟩ := b
  exact ⟨x ++ y, by rw [hy, hx, List.append_assoc]⟩
section HKT
variable {R1 R2 : Type} {SH : Nat → hk_Sh} {pb big : Nat} (T : R1 → R2 → Prop) {sk1 : R1} {sk2 : R2} {nx1 : hk_L → List Value → hk_H → R1} {nx2 : hk_L → List Value → hk_H → R2} {jm1 : Nat → hk_L → List Value → hk_H → R1} {jm2 : Nat → hk_L → List Value → hk_H → R2} {as1 : (P : Prop) → Decidable P → R1 → R1} {as2 : (P : Prop) → Decidable P → R2 → R2} {br1 : (P : Prop) → Decidable P → R1 → R1 → R1} {br2 : (P : Prop) → Decidable P → R2 → R2 → R2} {cl1 : Nat → List Value → hk_H → (Option Value → hk_H → R1) → R1} {cl2 : Nat → List Value → hk_H → (Option Value → hk_H → R2) → R2} {rt1 : Option Value → hk_H → R1} {rt2 : Option Value → hk_H → R2} {scr : Option (Nat × (Nat → Int32))} {h : hk_H}
theorem hk_sw_rel (hbr : ∀ P d a1 a2 b1 b2, T a1 a2 → T b1 b2 → T (br1 P d a1 b1) (br2 P d a2 b2)) (x : Int32) {k1 : R1} {k2 : R2} {f1 : Nat → R1} {f2 : Nat → R2} (hk : T k1 k2) (hf : ∀ t, T (f1 t) (f2 t)) : ∀ l : List (Int32 × Nat), T (hk_sw br1 x k1 f1 l) (hk_sw br2 x k2 f2 l)
  | [] => hk
  | q :: r => hbr _ _ _ _ _ _ (hf _) (hk_sw_rel hbr x hk hf r)
theorem hk_cmp_rel (hbr : ∀ P d a1 a2 b1 b2, T a1 a2 → T b1 b2 → T (br1 P d a1 b1) (br2 P d a2 b2)) (cnd : ClassFile.Cond) (x y : Int32) {k1 j1 : R1} {k2 j2 : R2} (hk : T k1 k2) (hj : T j1 j2) : T (hk_cmp br1 cnd x y k1 j1) (hk_cmp br2 cnd x y k2 j2) := by
  cases cnd <;> exact hbr _ _ _ _ _ _ hk hj
theorem hk_i2_rel (hsk : T sk1 sk2) {f1 : List Value → R1} {f2 : List Value → R2} (hf : ∀ r, T (f1 r) (f2 r)) (f : Int32 → Int32 → Int32) (st : List Value) : T (hk_i2 sk1 f1 f st) (hk_i2 sk2 f2 f st) := by
  unfold hk_i2
  split
  · exact hf _
  · exact hsk
theorem hk_l2_rel (hsk : T sk1 sk2) {f1 : List Value → R1} {f2 : List Value → R2} (hf : ∀ r, T (f1 r) (f2 r)) (f : Int64 → Int64 → Int64) (st : List Value) : T (hk_l2 sk1 f1 f st) (hk_l2 sk2 f2 f st) := by
  unfold hk_l2
  split
  · exact hf _
  · exact hsk
theorem hk_mk_rel (hsk : T sk1 sk2) (hnx : ∀ L st h', hk_ge h h' → T (nx1 L st h') (nx2 L st h')) (L : hk_L) (r : List Value) (k n : Nat) : T (hk_mk SH pb big sk1 nx1 L r h k n) (hk_mk SH pb big sk2 nx2 L r h k n) := by
  unfold hk_mk
  split
  · exact hnx _ _ _ ⟨[_], rfl⟩
  · exact hsk
theorem hk_inv_rel (hsk : T sk1 sk2) (hnx : ∀ L st h', hk_ge h h' → T (nx1 L st h') (nx2 L st h')) (hcl : ∀ y a k1 k2, (∀ r h', hk_ge h h' → T (k1 r h') (k2 r h')) → T (cl1 y a h k1) (cl2 y a h k2)) (a c d : Nat) (L : hk_L) (st : List Value) : T (hk_inv SH sk1 nx1 cl1 a c d L st h) (hk_inv SH sk2 nx2 cl2 a c d L st h) := by
  unfold hk_inv
  split
  · refine hcl _ _ _ _ fun r h' hg => ?_
    cases r with
    | none => exact hnx _ _ _ hg
    | some v => exact hnx _ _ _ hg
  · exact hsk
theorem hk_stp_rel (hsk : T sk1 sk2) (hnx : ∀ L st h', hk_ge h h' → T (nx1 L st h') (nx2 L st h')) (hjm : ∀ t L st, T (jm1 t L st h) (jm2 t L st h)) (has : ∀ P d k1 k2, T k1 k2 → T (as1 P d k1) (as2 P d k2)) (hbr : ∀ P d a1 a2 b1 b2, T a1 a2 → T b1 b2 → T (br1 P d a1 b1) (br2 P d a2 b2)) (hcl : ∀ y a k1 k2, (∀ r h', hk_ge h h' → T (k1 r h') (k2 r h')) → T (cl1 y a h k1) (cl2 y a h k2)) (hrt : ∀ r, T (rt1 r h) (rt2 r h)) (ch : Nat) (ins : Instr) (a c d : Nat) (v : Int32) (w : Int64) (sw : List (Int32 × Nat)) (L : hk_L) (st : List Value) :
    T (hk_stp SH pb big sk1 nx1 jm1 as1 br1 cl1 rt1 scr ch ins a c d v w sw L st h) (hk_stp SH pb big sk2 nx2 jm2 as2 br2 cl2 rt2 scr ch ins a c d v w sw L st h) := by
  have hn0 : ∀ L st, T (nx1 L st h) (nx2 L st h) := fun L st => hnx L st h (hk_ge_rf h)
  have hne : ∀ L st h', h'.2.2.2 = h.2.2.2 → T (nx1 L st h') (nx2 L st h') := fun L st h' e => hnx L st h' (hk_ge_of e)
  have hca : T (hk_call1 SH sk1 nx1 as1 cl1 a c d L st h) (hk_call1 SH sk2 nx2 as2 cl2 a c d L st h) := by
    unfold hk_call1
    split
    · exact hsk
    · split
      · split
        · exact hn0 _ _
        · exact hsk
      · exact hsk
    · unfold hk_acp
      split
      · split
        · split
          · exact has _ _ _ _ (hne _ _ _ rfl)
          · exact hsk
        · exact hsk
      · exact hsk
    · unfold hk_mi
      (repeat' split) <;> first | exact hsk | exact hn0 _ _
    · unfold hk_mi
      (repeat' split) <;> first | exact hsk | exact hn0 _ _
    · unfold hk_mj
      (repeat' split) <;> first | exact hsk | exact hn0 _ _
    · unfold hk_mj
      (repeat' split) <;> first | exact hsk | exact hn0 _ _
    · exact hk_inv_rel T hsk hnx hcl _ _ _ _ _
  unfold hk_stp
  split
  all_goals first
    | exact hsk
    | exact hn0 _ _
    | exact hca
    | exact hjm _ _ _
    | exact hk_i2_rel T hsk (fun r => hn0 _ _) _ _
    | exact hk_l2_rel T hsk (fun r => hn0 _ _) _ _
    | (unfold hk_new; exact hk_mk_rel T hsk hnx _ _ _ _)
    | (unfold hk_newa; split <;> first | exact hsk | (refine has _ _ _ _ ?_; split <;> first | exact hsk | exact hk_mk_rel T hsk hnx _ _ _ _))
    | (unfold hk_newq; split <;> first | exact hsk | (refine has _ _ _ _ ?_; exact hk_mk_rel T hsk hnx _ _ _ _))
    | (split <;> first | exact hsk | exact hn0 _ _ | exact hjm _ _ _ | exact has _ _ _ _ (hn0 _ _) | exact hk_cmp_rel T hbr _ _ _ (hjm _ _ _) (hn0 _ _) | exact hk_sw_rel T hbr _ (hjm _ _ _) (fun t => hjm _ _ _) _ | exact hrt _)
    | (split <;> first | exact hsk | (split <;> first | exact hrt _ | exact has _ _ _ _ (hrt _)))
    | (first | unfold hk_getf | unfold hk_putf | unfold hk_len | unfold hk_ial | unfold hk_ias | unfold hk_bal | unfold hk_bas | unfold hk_lal | unfold hk_las | unfold hk_aal | unfold hk_aas
       (repeat' split) <;> first | exact hsk | exact hne _ _ _ rfl | exact has _ _ _ _ (hne _ _ _ rfl))
end HKT
section HKM
variable {SH : Nat → hk_Sh} {pb big ch : Nat}
theorem hk_run_ge {cl : Nat → List Value → hk_H → hk_O} (hg : ∀ y a h q, cl y a h = some q → hk_ge h q.2) {scr : Option (Nat × (Nat → Int32))} {cd : List hk_E} : ∀ (n : Nat) cs L st h q, hk_run SH pb big ch cl scr cd n cs L st h = some q → hk_ge h q.2 := by
  intro n
  induction n with
  | zero => intro cs L st h q e; simp [hk_run] at e
  | succ n ih =>
    intro cs L st h q e
    cases cs with
    | nil => simp [hk_run] at e
    | cons e0 cs =>
      rw [hk_run] at e
      revert e
      refine hk_stp_rel (R2 := Unit) (nx2 := fun _ _ _ => ()) (jm2 := fun _ _ _ _ => ()) (as2 := fun _ _ _ => ()) (br2 := fun _ _ _ _ => ()) (cl2 := fun _ _ _ _ => ()) (rt2 := fun _ _ => ()) (sk2 := ()) (T := fun x _ => x = some q → hk_ge h q.2) (fun e => by cases e) (fun L st h' hh e => hk_ge_tr hh (ih _ _ _ _ _ e)) (fun t L st e => ih _ _ _ _ _ e) (fun P d k1 k2 hk e => ?_) (fun P d a1 a2 b1 b2 ha hb e => ?_) (fun y a k1 k2 hk e => ?_) (fun r e => ?_) _ _ _ _ _ _ _ _ _ _
      · by_cases hP : P
        · rw [if_pos hP] at e; exact hk e
        · rw [if_neg hP] at e; cases e
      · by_cases hP : P
        · rw [if_pos hP] at e; exact ha e
        · rw [if_neg hP] at e; exact hb e
      · cases hq : cl y a h with
        | none => rw [hq] at e; cases e
        | some x => rw [hq] at e; exact hk _ _ (hg _ _ _ _ hq) e
      · cases e
        exact hk_ge_rf h
theorem hk_run_mono {cl cl' : Nat → List Value → hk_H → hk_O} (hg : ∀ y a h q, cl y a h = some q → hk_ge h q.2) (hc : ∀ y a h q, cl y a h = some q → cl' y a h = some q) {scr : Option (Nat × (Nat → Int32))} {cd : List hk_E} : ∀ (n n' : Nat), n ≤ n' → ∀ cs L st h q, hk_run SH pb big ch cl scr cd n cs L st h = some q → hk_run SH pb big ch cl' scr cd n' cs L st h = some q := by
  intro n
  induction n with
  | zero => intro n' _ cs L st h q e; simp [hk_run] at e
  | succ n ih =>
    intro n' hn cs L st h q e
    obtain ⟨n', rfl⟩ : ∃ k, n' = k + 1 := ⟨n' - 1, by omega⟩
    cases cs with
    | nil => simp [hk_run] at e
    | cons e0 cs =>
      rw [hk_run] at e ⊢
      revert e
      refine hk_stp_rel (T := fun x y => x = some q → y = some q) (fun e => by cases e) (fun L st h' _ e => ih n' (by omega) _ _ _ _ _ e) (fun t L st e => ih n' (by omega) _ _ _ _ _ e) (fun P d k1 k2 hk e => ?_) (fun P d a1 a2 b1 b2 ha hb e => ?_) (fun y a k1 k2 hk e => ?_) (fun r e => e) _ _ _ _ _ _ _ _ _ _
      · by_cases hP : P
        · rw [if_pos hP] at e ⊢; exact hk e
        · rw [if_neg hP] at e; cases e
      · by_cases hP : P
        · rw [if_pos hP] at e ⊢; exact ha e
        · rw [if_neg hP] at e ⊢; exact hb e
      · cases hq : cl y a h with
        | none => rw [hq] at e; cases e
        | some x =>
          rw [hq] at e
          rw [hc _ _ _ _ hq]
          exact hk _ _ (hg _ _ _ _ hq) e
variable {mt : Nat → Option hk_Q}
theorem hk_call_ge (F : Nat) : ∀ (d : Nat) y a h q, hk_call SH pb big ch mt F d y a h = some q → hk_ge h q.2 := by
  intro d
  induction d with
  | zero => intro y a h q e; simp [hk_call] at e
  | succ d ih =>
    intro y a h q e
    rw [hk_call] at e
    split at e
    · cases e
    · split at e
      · exact hk_run_ge ih _ _ _ _ _ _ e
      · cases e
theorem hk_call_mono {F F' : Nat} (hF : F ≤ F') : ∀ (d : Nat) y a h q, hk_call SH pb big ch mt F d y a h = some q → hk_call SH pb big ch mt F' d y a h = some q := by
  intro d
  induction d with
  | zero => intro y a h q e; simp [hk_call] at e
  | succ d ih =>
    intro y a h q e
    rw [hk_call] at e ⊢
    split at e
    · cases e
    · split at e
      · exact hk_run_mono (hk_call_ge F d) ih _ _ hF _ _ _ _ _ e
      · cases e
theorem hk_call_deep {F : Nat} : ∀ (d d' : Nat), d ≤ d' → ∀ y a h q, hk_call SH pb big ch mt F d y a h = some q → hk_call SH pb big ch mt F d' y a h = some q := by
  intro d
  induction d with
  | zero => intro d' _ y a h q e; simp [hk_call] at e
  | succ d ih =>
    intro d' hd y a h q e
    obtain ⟨d', rfl⟩ : ∃ k, d' = k + 1 := ⟨d' - 1, by omega⟩
    rw [hk_call] at e ⊢
    split at e
    · cases e
    · split at e
      · exact hk_run_mono (hk_call_ge F d) (ih d' (by omega)) _ _ (Nat.le_refl _) _ _ _ _ _ e
      · cases e
end HKM
