/-! the class's operands and expressions, by how many parentheses and signs may still come -/
theorem qNode_len (k kids to : Nat) (cs : List Nd) : (qNode k kids cs to).length = cs.length + 1 := rfl
theorem qNode_fls (k kids to : Nat) (cs : List Nd) : fls (qNode k kids cs to) = fls cs := by
  unfold qNode
  rw [fls_cons]
  rfl
theorem qTake_len (tk : List (Nat × Nat × Nat)) (g : Sg) : (qTake tk g).1.length = 1 := rfl
theorem qMiss_len (k f : Nat) (g : Sg) : (qMiss k f g).1.length = 1 := rfl
theorem qOpd_ne (tk : List (Nat × Nat × Nat)) : ∀ (q : Nat) (g : Sg), (qOpd tk q g).1 ≠ []
  | 0, g => by
    unfold qOpd
    split
    · simp [qTake]
    · split <;> simp [qMiss]
  | q + 1, g => by
    unfold qOpd
    split
    · simp [qTake]
    · split
      · simp [qNode]
      · split
        · simp [qNode]
        · simp [qMiss]
section PO
variable {t : List Int32} {tk : List (Nat × Nat × Nat)} {N : Nat}
theorem pR_expr {G : Nat → Int32 → jS → Option (Int32 × jS)} {F : Sg → List Nd × Sg} {p : Nat} (hF : ∀ g, (F g).1 ≠ []) (hN : 100 ≤ N) (hW : TkW tk) (hop : CtG t tk (G 1 (nI p)) F (fun _ => True)) : CtG t tk (fun s => fR_expression N G (nI p) s) (qExpr tk F) (fun _ => True) := by
  intro s l g op _ h hB hl hf
  show ∃ s', fR_expression N G (nI p) s = some (0, s') ∧ _
  have hl : l.length + (qLoop tk F 60 [] (F g).1 (F g).2).1.length ≤ 362 := hl
  have hf : (fls (l ++ (qLoop tk F 60 [] (F g).1 (F g).2).1)).length ≤ 180 := hf
  have hS : StkOk [] := fun q hq => absurd hq List.not_mem_nil
  have hlen := qLoop_len tk F hF 60 [] (F g).1 (F g).2 hS (hF g)
  have h1 : (F g).1.length ≤ (qLoop tk F 60 [] (F g).1 (F g).2).1.length := by have := hlen.1; simp [qFlat] at this; exact this
  have h2 : (fls (F g).1).length ≤ (fls (qLoop tk F 60 [] (F g).1 (F g).2).1).length := hlen.2.1
  rw [fls_len_app] at hf
  obtain ⟨s1, e1, r1, b1⟩ := hop s l g op trivial h hB (by omega) (by rw [fls_len_app]; omega)
  unfold fR_expression
  rw [e1, jB_s, h.2.2.2.2.2.2.1, h.2.2.1.1]
  have z := pR_exL (N := N) hF hN hW hop (l := l) (op0 := op) N 0 [] (F g).1 (F g).2 s1 (by omega) (by decide) hS (hF g) (by simpa [qFlat, qOps] using r1) (by simpa [qOps] using b1) hl (by rw [fls_len_app]; omega)
  exact z
theorem pR_paren {G : Nat → Int32 → jS → Option (Int32 × jS)} {F : Sg → List Nd × Sg} {p : Nat} (hN : 100 ≤ N) (hW : TkW tk) (hx : CtG t tk (G 0 (nI (p + 1))) F (fun _ => True)) : CtG t tk (fun s => fR_parentheses N G (nI p) s) (fun g => (qNode 28 3 ((qTake tk g).1 ++ ((F (qTake tk g).2).1 ++ (qExp tk 10 (F (qTake tk g).2).2).1)) (qExp tk 10 (F (qTake tk g).2).2).2.2.1, (qExp tk 10 (F (qTake tk g).2).2).2)) (fun g => ¬ qK tk g.1 = 17) := by
  intro s l g op hk h hB hl hf
  show ∃ s', fR_parentheses N G (nI p) s = some (0, s') ∧ _
  dsimp only at hl hf ⊢
  rw [qNode_len, List.length_append, List.length_append, qTake_len] at hl
  rw [fls_len_app, qNode_fls, fls_len_app, fls_len_app] at hf
  unfold fR_parentheses
  obtain ⟨s1, e1, r1⟩ := pR_begin (N := N) (k := 28) h (by omega) 0 0 0
  rw [show (28 : Int32) = nI 28 from rfl, e1, jB_s]
  obtain ⟨s2, e2, r2, b2⟩ := pR_take (N := N) r1 hW hB hN hk (by simp; omega) (by rw [fls_len_app, fls_len_app, fls_one]; simp only [nL, List.length_nil]; omega)
  rw [e2, jB_s, nI_1]
  obtain ⟨s3, e3, r3, b3⟩ := hx s2 _ _ op trivial r2 b2 (by simp [qTake_len]; omega) (by rw [fls_len_app, fls_len_app, fls_len_app, fls_one]; simp only [nL, List.length_nil]; omega)
  rw [e3, jB_s]
  obtain ⟨s4, e4, r4, b4⟩ := pR_expect (N := N) (k := 10) r3 hW b3 hN (by decide) (by simp [qTake_len]; omega) (by rw [fls_len_app, fls_len_app, fls_len_app, fls_len_app, fls_one]; simp only [nL, List.length_nil]; omega)
  rw [show (10 : Int32) = nI 10 from rfl, e4, jB_s]
  have r4' : RdR t tk s4 (l ++ (28, g.2.1, 0, g.2.1, 0, 0, 1, []) :: ((qTake tk g).1 ++ ((F (qTake tk g).2).1 ++ (qExp tk 10 (F (qTake tk g).2).2).1))) (qExp tk 10 (F (qTake tk g).2).2).2 op := by
    simpa using r4
  obtain ⟨s5, e5, r5⟩ := pR_close (N := N) (n' := (28, g.2.1, (qExp tk 10 (F (qTake tk g).2).2).2.2.1, qO tk g.1, 0, 3, ((qTake tk g).1 ++ ((F (qTake tk g).2).1 ++ (qExp tk 10 (F (qTake tk g).2).2).1)).length + 1, [])) r4' (by simp [qTake_len]; omega) ⟨rfl, rfl, rfl, fun q => absurd (show (28 : Nat) < 20 from q) (by decide), rfl⟩
  rw [e5, jB_s]
  exact ⟨s5, rfl, r5, b4⟩
theorem pR_neg {G : Nat → Int32 → jS → Option (Int32 × jS)} {F : Sg → List Nd × Sg} {p : Nat} (hN : 100 ≤ N) (hW : TkW tk) (hx : CtG t tk (G 1 (nI (p + 1))) F (fun _ => True)) : CtG t tk (fun s => fR_negative N G (nI p) s) (fun g => (qNode 27 2 ((qTake tk g).1 ++ (F (qTake tk g).2).1) (F (qTake tk g).2).2.2.1, (F (qTake tk g).2).2)) (fun g => ¬ qK tk g.1 = 17) := by
  intro s l g op hk h hB hl hf
  show ∃ s', fR_negative N G (nI p) s = some (0, s') ∧ _
  dsimp only at hl hf ⊢
  rw [qNode_len, List.length_append, qTake_len] at hl
  rw [fls_len_app, qNode_fls, fls_len_app] at hf
  unfold fR_negative
  obtain ⟨s1, e1, r1⟩ := pR_begin (N := N) (k := 27) h (by omega) 0 0 0
  rw [show (27 : Int32) = nI 27 from rfl, e1, jB_s]
  obtain ⟨s2, e2, r2, b2⟩ := pR_take (N := N) r1 hW hB hN hk (by simp; omega) (by rw [fls_len_app, fls_len_app, fls_one]; simp only [nL, List.length_nil]; omega)
  rw [e2, jB_s, nI_1]
  obtain ⟨s3, e3, r3, b3⟩ := hx s2 _ _ op trivial r2 b2 (by simp [qTake_len]; omega) (by rw [fls_len_app, fls_len_app, fls_len_app, fls_one]; simp only [nL, List.length_nil]; omega)
  rw [e3, jB_s]
  have r3' : RdR t tk s3 (l ++ (27, g.2.1, 0, g.2.1, 0, 0, 1, []) :: ((qTake tk g).1 ++ (F (qTake tk g).2).1)) (F (qTake tk g).2).2 op := by
    simpa using r3
  obtain ⟨s5, e5, r5⟩ := pR_close (N := N) (n' := (27, g.2.1, (F (qTake tk g).2).2.2.1, qO tk g.1, 0, 2, ((qTake tk g).1 ++ (F (qTake tk g).2).1).length + 1, [])) r3' (by simp [qTake_len]; omega) ⟨rfl, rfl, rfl, fun q => absurd (show (27 : Nat) < 20 from q) (by decide), rfl⟩
  rw [e5, jB_s]
  exact ⟨s5, rfl, r5, b3⟩
end PO
