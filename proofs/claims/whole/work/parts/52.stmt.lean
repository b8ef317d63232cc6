/-! statements, by how deep they may still go -/
theorem qBeg_0 {tk : List (Nat × Nat × Nat)} {g : Sg} (h : qBeg tk 0 g = true) : ¬ qK tk g.1 = 3 ∧ ¬ qK tk g.1 = 5 ∧ ¬ qK tk g.1 = 7 := by
  unfold qBeg at h
  generalize qK tk g.1 = k at h
  refine ⟨?_, ?_, ?_⟩ <;> (intro e; subst e; exact absurd h (by decide))
theorem qStmt_e (tk : List (Nat × Nat × Nat)) (r : Nat) (g : Sg) (h : qK tk g.1 = 6) : qStmt tk r g = qEmpty tk g := by
  cases r <;> rw [qStmt, if_pos h]
theorem qStmt_s (tk : List (Nat × Nat × Nat)) (r : Nat) (g : Sg) (h6 : ¬ qK tk g.1 = 6) (h3 : ¬ qK tk g.1 = 3) (h5 : ¬ qK tk g.1 = 5) (h7 : ¬ qK tk g.1 = 7) : qStmt tk r g = qSimple tk g := by
  cases r with
  | zero => rw [qStmt, if_neg h6]
  | succ r => rw [qStmt, if_neg h6, if_neg h7, if_neg h3, if_neg h5]
theorem qStmt_7 (tk : List (Nat × Nat × Nat)) (r : Nat) (g : Sg) (h : qK tk g.1 = 7) : qStmt tk (r + 1) g = (qNode 21 ((qList tk (qStmt tk r) r true 60 (qTake tk g).2).2.1 + 2) ((qTake tk g).1 ++ ((qList tk (qStmt tk r) r true 60 (qTake tk g).2).1 ++ (qExp tk 8 (qList tk (qStmt tk r) r true 60 (qTake tk g).2).2.2).1)) (qExp tk 8 (qList tk (qStmt tk r) r true 60 (qTake tk g).2).2.2).2.2.1, (qExp tk 8 (qList tk (qStmt tk r) r true 60 (qTake tk g).2).2.2).2) := by
  rw [qStmt, if_neg (show ¬ qK tk g.1 = 6 by omega), if_pos h]
theorem qStmt_5 (tk : List (Nat × Nat × Nat)) (r : Nat) (g : Sg) (h : qK tk g.1 = 5) : qStmt tk (r + 1) g = qOver 23 (fun _ => 5) (qSeq (qTake tk) (qSeq (qCond tk) (qPart tk (qStmt tk r) r))) g := by
  rw [qStmt, if_neg (show ¬ qK tk g.1 = 6 by omega), if_neg (show ¬ qK tk g.1 = 7 by omega), if_neg (show ¬ qK tk g.1 = 3 by omega), if_pos h]
  rfl
theorem qStmt_3 (tk : List (Nat × Nat × Nat)) (r : Nat) (g : Sg) (h : qK tk g.1 = 3) : qStmt tk (r + 1) g = qOver 22 (fun g => if qK tk (qPart tk (qStmt tk r) r (qCond tk (qTake tk g).2).2).2.1 = 4 then 7 else 5) (qSeq (qTake tk) (qSeq (qCond tk) (qSeq (qPart tk (qStmt tk r) r) (qElse tk (qPart tk (qStmt tk r) r))))) g := by
  rw [qStmt, if_neg (show ¬ qK tk g.1 = 6 by omega), if_neg (show ¬ qK tk g.1 = 7 by omega), if_pos h]
  dsimp only
  unfold qOver qSeq qElse
  dsimp only
  by_cases h4 : qK tk (qPart tk (qStmt tk r) r (qCond tk (qTake tk g).2).2).2.1 = 4
  · simp only [if_pos h4]
    rfl
  · simp only [if_neg h4, List.append_nil]
section PJ
variable {t : List Int32} {tk : List (Nat × Nat × Nat)} {N : Nat}
theorem pI_main (hN : 100 ≤ N) (hW : TkW tk) (r : Nat) : ∀ (G : Nat → Int32 → jS → Option (Int32 × jS)), r ≤ 6 → (∀ q, r = q + 1 → CtG t tk (G 2 (nI (6 - r))) (fun g => (qNode 21 ((qList tk (qStmt tk q) q true 60 (qTake tk g).2).2.1 + 2) ((qTake tk g).1 ++ ((qList tk (qStmt tk q) q true 60 (qTake tk g).2).1 ++ (qExp tk 8 (qList tk (qStmt tk q) q true 60 (qTake tk g).2).2.2).1)) (qExp tk 8 (qList tk (qStmt tk q) q true 60 (qTake tk g).2).2.2).2.2.1, (qExp tk 8 (qList tk (qStmt tk q) q true 60 (qTake tk g).2).2.2).2)) (fun g => ¬ qK tk g.1 = 17) ∧ CtG t tk (G 3 (nI (6 - r))) (qOver 22 (fun g => if qK tk (qPart tk (qStmt tk q) q (qCond tk (qTake tk g).2).2).2.1 = 4 then 7 else 5) (qSeq (qTake tk) (qSeq (qCond tk) (qSeq (qPart tk (qStmt tk q) q) (qElse tk (qPart tk (qStmt tk q) q)))))) (fun g => ¬ qK tk g.1 = 17) ∧ CtG t tk (G 4 (nI (6 - r))) (qOver 23 (fun _ => 5) (qSeq (qTake tk) (qSeq (qCond tk) (qPart tk (qStmt tk q) q)))) (fun g => ¬ qK tk g.1 = 17)) → CtG t tk (fun s => fR_statement N G (nI (6 - r)) s) (qStmt tk r) (fun g => qBeg tk r g = true) := by
  intro G hr hq s l g op hb h hB hl hf
  show ∃ s', fR_statement N G (nI (6 - r)) s = some (0, s') ∧ _
  have h17 := (hW.2.2.2.2 g.1).1
  have hne : ∀ k : Nat, k ≤ 17 → ¬ qK tk g.1 = k → ¬ nI (qK tk g.1) = nI k := fun k hk hq z => hq ((nI_eq (by omega) (by omega)).mp z)
  unfold fR_statement
  rw [pK_kind h hW hB, jB_s]
  have hrs : (qK tk g.1 = 3 ∨ qK tk g.1 = 5 ∨ qK tk g.1 = 7) → ∃ q, r = q + 1 := by
    intro z
    cases r with
    | zero => have := qBeg_0 hb; omega
    | succ q => exact ⟨q, rfl⟩
  by_cases h3 : qK tk g.1 = 3
  · obtain ⟨q, rfl⟩ := hrs (Or.inl h3)
    rw [qStmt_3 tk q g h3] at hl hf ⊢
    rw [if_pos (show nI (qK tk g.1) = 3 by rw [h3]; rfl)]
    exact (hq q rfl).2.1.fin s l g op (qBeg_17 hb) h hB hl hf
  · rw [if_neg (show ¬ nI (qK tk g.1) = 3 from hne 3 (by decide) h3)]
    by_cases h4 : qK tk g.1 = 4
    · exact absurd (qBeg_can hb) (by rw [h4]; decide)
    · rw [if_neg (show ¬ nI (qK tk g.1) = 4 from hne 4 (by decide) h4)]
      by_cases h5 : qK tk g.1 = 5
      · obtain ⟨q, rfl⟩ := hrs (Or.inr (Or.inl h5))
        rw [qStmt_5 tk q g h5] at hl hf ⊢
        rw [if_pos (show nI (qK tk g.1) = 5 by rw [h5]; rfl)]
        exact (hq q rfl).2.2.fin s l g op (qBeg_17 hb) h hB hl hf
      · rw [if_neg (show ¬ nI (qK tk g.1) = 5 from hne 5 (by decide) h5)]
        by_cases h6 : qK tk g.1 = 6
        · rw [qStmt_e tk r g h6] at hl hf ⊢
          rw [if_pos (show nI (qK tk g.1) = 6 by rw [h6]; rfl)]
          exact (ct_empty hN hW).fin s l g op (qBeg_17 hb) h hB hl hf
        · rw [if_neg (show ¬ nI (qK tk g.1) = 6 from hne 6 (by decide) h6)]
          by_cases h7 : qK tk g.1 = 7
          · obtain ⟨q, rfl⟩ := hrs (Or.inr (Or.inr h7))
            rw [qStmt_7 tk q g h7] at hl hf ⊢
            rw [if_pos (show nI (qK tk g.1) = 7 by rw [h7]; rfl)]
            exact (hq q rfl).1.fin s l g op (qBeg_17 hb) h hB hl hf
          · rw [if_neg (show ¬ nI (qK tk g.1) = 7 from hne 7 (by decide) h7)]
            rw [qStmt_s tk r g h6 h3 h5 h7] at hl hf ⊢
            exact (ct_simple hN hW).fin s l g op trivial h hB hl hf
theorem pI_stmt (hN : 100 ≤ N) (hW : TkW tk) : ∀ (r d : Nat), r ≤ 6 → 3 * r + 1 ≤ d → CtG t tk (gst N d 1 (nI (6 - r))) (qStmt tk r) (fun g => qBeg tk r g = true) := by
  intro r
  induction r with
  | zero =>
    intro d hr hd
    obtain ⟨d, rfl⟩ : ∃ e, d = e + 1 := ⟨d - 1, by omega⟩
    exact pI_main hN hW _ (gst N d) hr (fun q hq => absurd hq (by omega))
  | succ r ih0 =>
    intro d hr hd
    obtain ⟨d, rfl⟩ : ∃ e, d = e + 4 := ⟨d - 4, by omega⟩
    have hpe : 6 - (r + 1) + 1 = 6 - r := by omega
    have hs : ∀ d, 3 * r + 1 ≤ d → CtG t tk (gst N d 1 (nI (6 - r))) (qStmt tk r) (fun g => qBeg tk r g = true) := fun d hd => ih0 d (by omega) hd
    have hL : CtG t tk (gst N (d + 2) 0 (nI (6 - (r + 1) + 1))) (qListG tk (qStmt tk r) r true 60) (fun _ => True) := by
      rw [hpe]
      have z := ct_list (N := N) (G := gst N (d + 1)) hN (by omega) hW (hs (d + 1) (by omega))
      rw [show decide (r < 6) = true from decide_eq_true (by omega)] at z
      exact z
    have hP : CtG t tk (gst N (d + 2) 5 (nI (6 - (r + 1) + 1))) (qPart tk (qStmt tk r) r) (fun _ => True) := by
      rw [hpe]
      exact ct_part (N := N) (G := gst N (d + 1)) (by omega) hW (hs (d + 1) (by omega))
    exact pI_main hN hW _ (gst N (d + 3)) hr (fun q hq => by
      obtain rfl : r = q := by omega
      exact ⟨ct_block hN hW hL, ct_if hN hW hP, ct_while hN hW hP⟩)
end PJ
