/-! the group of expressions, by its depth -/
section PG
variable {t : List Int32} {tk : List (Nat × Nat × Nat)} {N : Nat}
theorem gex_0 (N d : Nat) (a : Int32) (s : jS) : gex N (d + 1) 0 a s = fR_expression N (gex N d) a s := rfl
theorem gex_1 (N d : Nat) (a : Int32) (s : jS) : gex N (d + 1) 1 a s = fR_operand N (gex N d) a s := rfl
theorem gex_2 (N d : Nat) (a : Int32) (s : jS) : gex N (d + 1) 2 a s = fR_parentheses N (gex N d) a s := rfl
theorem gex_3 (N d : Nat) (a : Int32) (s : jS) : gex N (d + 1) 3 a s = fR_negative N (gex N d) a s := rfl
/-- take, for the group -/
theorem pG_take {s : jS} {l : List Nd} {g : Sg} {op : List (Nat × Nat)} (hN : 100 ≤ N) (hW : TkW tk) (h : RdR t tk s l g op) (hB : SgB tk g op) (hk : ¬ qK tk g.1 = 17) (hl : l.length + (qTake tk g).1.length ≤ 362) (hf : (fls (l ++ (qTake tk g).1)).length ≤ 180) : ∃ s', (jB (fR_take N s) fun _ s1 => some ((0 : Int32), s1)) = some (0, s') ∧ RdR t tk s' (l ++ (qTake tk g).1) (qTake tk g).2 op ∧ SgB tk (qTake tk g).2 op := by
  obtain ⟨s', e, r, b⟩ := pR_take (N := N) h hW hB hN hk hl hf
  rw [e, jB_s]
  exact ⟨s', rfl, r, b⟩
theorem pG_miss {s : jS} {l : List Nd} {g : Sg} {op : List (Nat × Nat)} {k f : Nat} (h : RdR t tk s l g op) (hB : SgB tk g op) (hl : l.length + (qMiss k f g).1.length ≤ 362) (hf : (fls (l ++ (qMiss k f g).1)).length ≤ 180) : ∃ s', (jB (fR_miss N (nI k) (nI f) s) fun _ s1 => some ((0 : Int32), s1)) = some (0, s') ∧ RdR t tk s' (l ++ (qMiss k f g).1) (qMiss k f g).2 op ∧ SgB tk (qMiss k f g).2 op := by
  obtain ⟨s', e, r⟩ := pR_miss (N := N) h hB hl hf
  rw [e, jB_s]
  exact ⟨s', rfl, r, hB⟩
theorem pG_fwd {s : jS} {f : jS → Option (Int32 × jS)} {P : jS → Prop} (h : ∃ s', f s = some (0, s') ∧ P s') : ∃ s', (jB (f s) fun _ s1 => some ((0 : Int32), s1)) = some (0, s') ∧ P s' := by
  obtain ⟨s', e, r⟩ := h
  exact ⟨s', by rw [e, jB_s], r⟩
theorem qOpd_take (tk : List (Nat × Nat × Nat)) (q : Nat) (g : Sg) (h : qK tk g.1 = 1 ∨ qK tk g.1 = 2) : qOpd tk q g = qTake tk g := by
  cases q with
  | zero => rw [qOpd, if_pos h]
  | succ q => rw [qOpd, if_pos h]
theorem qOpd_z (tk : List (Nat × Nat × Nat)) (g : Sg) (h : qK tk g.1 = 9 ∨ qK tk g.1 = 12) : qOpd tk 0 g = qMiss 1 3 g := by
  rw [qOpd, if_neg (show ¬ (qK tk g.1 = 1 ∨ qK tk g.1 = 2) by omega), if_pos h]
theorem qOpd_m (tk : List (Nat × Nat × Nat)) (q : Nat) (g : Sg) (h1 : ¬ qK tk g.1 = 1) (h2 : ¬ qK tk g.1 = 2) (h9 : ¬ qK tk g.1 = 9) (h12 : ¬ qK tk g.1 = 12) : qOpd tk q g = qMiss 1 2 g := by
  cases q with
  | zero => rw [qOpd, if_neg (show ¬ (qK tk g.1 = 1 ∨ qK tk g.1 = 2) by omega), if_neg (show ¬ (qK tk g.1 = 9 ∨ qK tk g.1 = 12) by omega)]
  | succ q => rw [qOpd, if_neg (show ¬ (qK tk g.1 = 1 ∨ qK tk g.1 = 2) by omega), if_neg h9, if_neg h12]
theorem qOpd_par (tk : List (Nat × Nat × Nat)) (q : Nat) (g : Sg) (h : qK tk g.1 = 9) : qOpd tk (q + 1) g = (let a := qTake tk g; let x := qExpr tk (qOpd tk q) a.2; let z := qExp tk 10 x.2; (qNode 28 3 (a.1 ++ (x.1 ++ z.1)) z.2.2.1, z.2)) := by
  rw [qOpd, if_neg (show ¬ (qK tk g.1 = 1 ∨ qK tk g.1 = 2) by omega), if_pos h]
theorem qOpd_neg (tk : List (Nat × Nat × Nat)) (q : Nat) (g : Sg) (h : qK tk g.1 = 12) : qOpd tk (q + 1) g = (let a := qTake tk g; let x := qOpd tk q a.2; (qNode 27 2 (a.1 ++ x.1) x.2.2.1, x.2)) := by
  rw [qOpd, if_neg (show ¬ (qK tk g.1 = 1 ∨ qK tk g.1 = 2) by omega), if_neg (show ¬ qK tk g.1 = 9 by omega), if_pos h]
theorem pG_opd (hN : 100 ≤ N) (hW : TkW tk) : ∀ (q d : Nat), q ≤ 6 → 3 * q + 1 ≤ d → CtG t tk (gex N d 1 (nI (6 - q))) (qOpd tk q) (fun _ => True) := by
  intro q
  induction q with
  | zero =>
    intro d _ hd s l g op _ h hB hl hf
    obtain ⟨d, rfl⟩ : ∃ e, d = e + 1 := ⟨d - 1, by omega⟩
    have h17 := (hW.2.2.2.2 g.1).1
    have hne : ∀ k : Nat, k ≤ 17 → ¬ qK tk g.1 = k → ¬ nI (qK tk g.1) = nI k := fun k hk hq z => hq ((nI_eq (by omega) (by omega)).mp z)
    rw [gex_1]
    unfold fR_operand
    rw [pK_kind h hW hB, jB_s]
    by_cases h9 : qK tk g.1 = 9
    · rw [qOpd_z tk g (Or.inl h9)] at hl hf ⊢
      rw [if_pos (show nI (qK tk g.1) = 9 by rw [h9]; rfl)]
      unfold fR_operand_20 fR_operand_25
      rw [if_neg (show ¬ nI (qK tk g.1) = 1 from hne 1 (by decide) (by omega)), if_neg (show ¬ nI (qK tk g.1) = 2 from hne 2 (by decide) (by omega)), if_neg (show ¬ (1 : Int32) = 0 by decide), if_neg (show ¬ nI (6 - 0) < (6 : Int32) by decide)]
      exact pG_miss (k := 1) (f := 3) h hB hl hf
    · rw [if_neg (show ¬ nI (qK tk g.1) = 9 from hne 9 (by decide) h9)]
      by_cases h12 : qK tk g.1 = 12
      · rw [qOpd_z tk g (Or.inr h12)] at hl hf ⊢
        rw [if_pos (show nI (qK tk g.1) = 12 by rw [h12]; rfl)]
        unfold fR_operand_20 fR_operand_25
        rw [if_neg (show ¬ nI (qK tk g.1) = 1 from hne 1 (by decide) (by omega)), if_neg (show ¬ nI (qK tk g.1) = 2 from hne 2 (by decide) (by omega)), if_neg (show ¬ (1 : Int32) = 0 by decide), if_neg (show ¬ nI (6 - 0) < (6 : Int32) by decide)]
        exact pG_miss (k := 1) (f := 3) h hB hl hf
      · rw [if_neg (show ¬ nI (qK tk g.1) = 12 from hne 12 (by decide) h12)]
        unfold fR_operand_25
        by_cases h1 : qK tk g.1 = 1
        · rw [qOpd_take tk 0 g (Or.inl h1)] at hl hf ⊢
          rw [if_pos (show nI (qK tk g.1) = 1 by rw [h1]; rfl)]
          exact pG_take hN hW h hB (by omega) hl hf
        · rw [if_neg (show ¬ nI (qK tk g.1) = 1 from hne 1 (by decide) h1)]
          by_cases h2 : qK tk g.1 = 2
          · rw [qOpd_take tk 0 g (Or.inr h2)] at hl hf ⊢
            rw [if_pos (show nI (qK tk g.1) = 2 by rw [h2]; rfl)]
            exact pG_take hN hW h hB (by omega) hl hf
          · rw [qOpd_m tk 0 g h1 h2 h9 h12] at hl hf ⊢
            rw [if_neg (show ¬ nI (qK tk g.1) = 2 from hne 2 (by decide) h2), if_pos rfl]
            exact pG_miss (k := 1) (f := 2) h hB hl hf
  | succ q ih =>
    intro d hq6 hd s l g op _ h hB hl hf
    obtain ⟨d, rfl⟩ : ∃ e, d = e + 4 := ⟨d - 4, by omega⟩
    have h17 := (hW.2.2.2.2 g.1).1
    have hne : ∀ k : Nat, k ≤ 17 → ¬ qK tk g.1 = k → ¬ nI (qK tk g.1) = nI k := fun k hk hq z => hq ((nI_eq (by omega) (by omega)).mp z)
    have hp6 : nI (6 - (q + 1)) < (6 : Int32) := nI_lt (b := 6) (by omega) (by decide)
    have hpe : 6 - (q + 1) + 1 = 6 - q := by omega
    rw [gex_1]
    unfold fR_operand
    rw [pK_kind h hW hB, jB_s]
    by_cases h9 : qK tk g.1 = 9
    · rw [qOpd_par tk q g h9] at hl hf ⊢
      rw [if_pos (show nI (qK tk g.1) = 9 by rw [h9]; rfl)]
      unfold fR_operand_20 fR_operand_25
      rw [if_neg (show ¬ nI (qK tk g.1) = 1 from hne 1 (by decide) (by omega)), if_neg (show ¬ nI (qK tk g.1) = 2 from hne 2 (by decide) (by omega)), if_neg (show ¬ (1 : Int32) = 0 by decide), if_pos hp6, if_pos (show nI (qK tk g.1) = 9 by rw [h9]; rfl)]
      have hx : CtG t tk (gex N (d + 2) 0 (nI (6 - (q + 1) + 1))) (qExpr tk (qOpd tk q)) (fun _ => True) := by
        rw [hpe]
        exact pR_expr (qOpd_ne tk q) hN hW (ih (d + 1) (by omega) (by omega))
      exact pG_fwd (f := gex N (d + 3) 2 (nI (6 - (q + 1)))) (pR_paren hN hW hx s l g op (by omega) h hB hl hf)
    · rw [if_neg (show ¬ nI (qK tk g.1) = 9 from hne 9 (by decide) h9)]
      by_cases h12 : qK tk g.1 = 12
      · rw [qOpd_neg tk q g h12] at hl hf ⊢
        rw [if_pos (show nI (qK tk g.1) = 12 by rw [h12]; rfl)]
        unfold fR_operand_20 fR_operand_25
        rw [if_neg (show ¬ nI (qK tk g.1) = 1 from hne 1 (by decide) (by omega)), if_neg (show ¬ nI (qK tk g.1) = 2 from hne 2 (by decide) (by omega)), if_neg (show ¬ (1 : Int32) = 0 by decide), if_pos hp6, if_neg (show ¬ nI (qK tk g.1) = 9 from hne 9 (by decide) h9)]
        have hx : CtG t tk (gex N (d + 2) 1 (nI (6 - (q + 1) + 1))) (qOpd tk q) (fun _ => True) := by
          rw [hpe]
          exact ih (d + 2) (by omega) (by omega)
        exact pG_fwd (f := gex N (d + 3) 3 (nI (6 - (q + 1)))) (pR_neg hN hW hx s l g op (by omega) h hB hl hf)
      · rw [if_neg (show ¬ nI (qK tk g.1) = 12 from hne 12 (by decide) h12)]
        unfold fR_operand_25
        by_cases h1 : qK tk g.1 = 1
        · rw [qOpd_take tk (q + 1) g (Or.inl h1)] at hl hf ⊢
          rw [if_pos (show nI (qK tk g.1) = 1 by rw [h1]; rfl)]
          exact pG_take hN hW h hB (by omega) hl hf
        · rw [if_neg (show ¬ nI (qK tk g.1) = 1 from hne 1 (by decide) h1)]
          by_cases h2 : qK tk g.1 = 2
          · rw [qOpd_take tk (q + 1) g (Or.inr h2)] at hl hf ⊢
            rw [if_pos (show nI (qK tk g.1) = 2 by rw [h2]; rfl)]
            exact pG_take hN hW h hB (by omega) hl hf
          · rw [qOpd_m tk (q + 1) g h1 h2 h9 h12] at hl hf ⊢
            rw [if_neg (show ¬ nI (qK tk g.1) = 2 from hne 2 (by decide) h2), if_pos rfl]
            exact pG_miss (k := 1) (f := 2) h hB hl hf
/-- expression(0), as the statements call it -/
theorem pG_ex (hN : 100 ≤ N) (hW : TkW tk) : CtG t tk (gex N 30 0 0) (qEx tk) (fun _ => True) :=
  pR_expr (p := 0) (qOpd_ne tk 6) hN hW (pG_opd hN hW 6 29 (by decide) (by decide))
end PG
