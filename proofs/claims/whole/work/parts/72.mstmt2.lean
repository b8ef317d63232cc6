/-! the reference's statements, by their depth -/
theorem cur_same {N : Nat} {B : Int32 → Int32 → jS → Option (Int32 × jS)} {s : jS} : (jB (fM_current N s) fun r s1 => B r (jgI s 9) s1) = jB (fM_current N s) fun r s1 => B r (jgI s1 9) s1 := by
  unfold fM_current
  split <;> rfl
/-- what a statement does, by its token -/
def sB (N : Nat) (a0 r1 h : Int32) (s1 : jS) : Option (Int32 × jS) := (if r1 = (6 : Int32) then (jB (fM_add N (0 : Int32) (25 : Int32) h s1) fun r13 s13 => (jB (fM_take N s13) fun r14 s14 => some (0, s14))) else (if r1 = (7 : Int32) then (jB (fM_add N (0 : Int32) (21 : Int32) h s1) fun r9 s9 => (jB (fM_add N (4 : Int32) (8 : Int32) (0 : Int32) s9) fun r10 s10 => (jB (fM_add N (2 : Int32) (a0 + (1 : Int32)) (1 : Int32) s10) fun r11 s11 => (jB (fM_take N s11) fun r12 s12 => some (0, s12))))) else (if r1 = (3 : Int32) then fM_statement_79 N a0 h r1 s1 else (if r1 = (5 : Int32) then fM_statement_79 N a0 h r1 s1 else (jB (fM_add N (0 : Int32) (24 : Int32) h s1) fun r6 s6 => (jB (fM_add N (4 : Int32) (6 : Int32) (0 : Int32) s6) fun r7 s7 => (jB (fM_add N (7 : Int32) (0 : Int32) (0 : Int32) s7) fun r8 s8 => some (0, s8))))))))
section MS2
variable {tk : List (Nat × Nat × Nat)} {N k : Nat}
theorem st_run {a b c : Int32} {s : jS} : fM_perform N a (nI 3) b c s = jB (jB (fM_current N s) fun r1 s1 => sB N b r1 (jgI s1 9) s1) fun _ s1 => some (0, s1) := by
  rw [pf_3]
  show jB (jB (fM_current N s) fun r1 s1 => sB N b r1 (jgI s 9) s1) _ = _
  rw [cur_same (B := sB N b)]
theorem cp_simple (hT : TkA tk) (hN : 500 ≤ N) {P : Sg → Prop} : CpM tk N k (fun s => jB (fM_add N (0 : Int32) (24 : Int32) (jgI s 9) s) fun r6 s6 => (jB (fM_add N (4 : Int32) (6 : Int32) (0 : Int32) s6) fun r7 s7 => (jB (fM_add N (7 : Int32) (0 : Int32) (0 : Int32) s7) fun r8 s8 => some ((0 : Int32), s8)))) (qSimple tk) (fun _ => 1) P 24 6 := by
  have z := ((cp_id (tk := tk) (N := N) (k := k)).add (t := (7, 0, 0)) (ck_ex hT hN) (fun _ _ => trivial) (w := 22) (u := 4) (by omega) (by omega) (by omega)).add (t := (4, 6, 0)) (ck_exp (kd := 6) hT (by decide)) (fun _ _ => trivial) (w := 23) (u := 7) (by omega) (by omega) (by omega)
  exact ((z.red (kd := 24) (w := 24) (u := 6) hN (by decide) (by decide) (fun _ _ => by omega) (by omega) (by omega)).wk (Q := P) (fun _ _ => trivial) (Nat.le_refl _) (Nat.le_refl _)).of (fun s => rfl) (fun g hg => rfl) (fun _ _ => rfl)
theorem cp_empty (hT : TkA tk) (hN : 500 ≤ N) : CpM tk N k (fun s => jB (fM_add N (0 : Int32) (25 : Int32) (jgI s 9) s) fun r13 s13 => (jB (fM_take N s13) fun r14 s14 => some ((0 : Int32), s14))) (qEmpty tk) (fun _ => 1) (fun g => ¬ qK tk g.1 = 17) 24 6 :=
  ((cp_take (N := N) (k := k) hT).fin.red (kd := 25) (w := 24) (u := 6) hN (by decide) (by decide) (fun _ _ => by omega) (by omega) (by omega)).of (fun s => rfl) (fun g hg => rfl) (fun _ _ => rfl)
theorem cp_111 (hT : TkA tk) (hN : 500 ≤ N) {r w : Nat} (hw : 26 ≤ w) {F : Sg → List Nd × Sg} {a : Int32} (ha : a + 1 = nI (6 - r)) (hp : CkM tk N k (6, 6 - r, 0) F (fun _ => 1) (fun _ => True) w 4) : CpM tk N k (fun s => fM_statement_111 N a s) (qSeq (qSeq (qSeq (qSeq (qTake tk) (qExp tk 9)) (qEx tk)) (qExp tk 10)) F) (fun _ => 5) (fun g => ¬ qK tk g.1 = 17) w 12 := by
  have z := (((((cp_take (N := N) (k := k) hT).fin.add (t := (4, 9, 0)) (ck_exp (kd := 9) hT (by decide)) (fun _ _ => trivial) (w := 2) (u := 12) (by omega) (by omega) (by omega)).add (t := (7, 0, 0)) (ck_ex hT hN) (fun _ _ => trivial) (w := 22) (u := 12) (by omega) (by omega) (by omega)).add (t := (4, 10, 0)) (ck_exp (kd := 10) hT (by decide)) (fun _ _ => trivial) (w := 23) (u := 12) (by omega) (by omega) (by omega)).add (t := (6, 6 - r, 0)) hp (fun _ _ => trivial) (w := w) (u := 12) (by omega) (by omega) (by omega))
  refine z.of (fun s => ?_) (fun _ _ => rfl) (fun _ _ => rfl)
  unfold fM_statement_111
  rw [ha]
  rfl
theorem ck_stmt (hT : TkA tk) (hN : 500 ≤ N) (hk2 : k < 2) : ∀ r : Nat, r ≤ 6 → CkM tk N k (3, 6 - r, 0) (qStmt tk r) (fun _ => 1) (fun g => qBeg tk r g = true) (4 * r + 30) 5 := by
  intro r
  have hnot : ∀ (r x : Nat) (a0 : Int32), x ≤ 17 → (x = 6 ∨ (¬ x = 6 ∧ ¬ x = 7 ∧ ¬ x = 3 ∧ ¬ x = 5)) → CpM tk N k (fun s => sB N a0 (nI x) (jgI s 9) s) (qStmt tk r) (fun _ => 1) (fun g => qBeg tk r g = true ∧ qK tk g.1 = x) (4 * r + 30) 6 := by
    intro r x a0 hx hc
    rcases hc with rfl | ⟨h6, h7, h3, h5⟩
    · refine ((cp_empty (N := N) (k := k) hT hN).wk (Q := fun g => qBeg tk r g = true ∧ qK tk g.1 = 6) (fun g hg => by omega) (by omega) (Nat.le_refl _)).of (fun s => ?_) (fun g hg => qStmt_e tk r g hg.2) (fun _ _ => rfl)
      unfold sB
      rw [if_pos (by decide)]
    · refine ((cp_simple (N := N) (k := k) hT hN (P := fun g => qBeg tk r g = true ∧ qK tk g.1 = x)).wk (fun g hg => hg) (by omega) (Nat.le_refl _)).of (fun s => ?_) (fun g hg => qStmt_s tk r g (by omega) (by omega) (by omega) (by omega)) (fun _ _ => rfl)
      unfold sB
      rw [if_neg (show ¬ nI x = 6 from nIe (c := 6) hx (by decide) h6), if_neg (show ¬ nI x = 7 from nIe (c := 7) hx (by decide) h7), if_neg (show ¬ nI x = 3 from nIe (c := 3) hx (by decide) h3), if_neg (show ¬ nI x = 5 from nIe (c := 5) hx (by decide) h5)]
  induction r with
  | zero =>
    intro _
    refine CpM.task (t := (3, 6, 0)) ?_ (by decide)
    refine (CpM.fin (CpM.cur hT (b := fun r1 s1 => sB N (nI 6) r1 (jgI s1 9) s1) (P := fun g => qBeg tk 0 g = true) (F := qStmt tk 0) (C := fun _ => 1) (w := 4 * 0 + 30) (u := 6) (fun x hx => ?_))).of (fun s => st_run) (fun _ _ => rfl) (fun _ _ => rfl)
    by_cases hc : x = 6 ∨ (¬ x = 6 ∧ ¬ x = 7 ∧ ¬ x = 3 ∧ ¬ x = 5)
    · exact hnot 0 x (nI 6) hx hc
    · intro s g m h X hP
      have hb := hP.1
      unfold qBeg at hb
      rw [hP.2] at hb
      rcases (show x = 7 ∨ x = 3 ∨ x = 5 by omega) with rfl | rfl | rfl <;> exact absurd hb (by decide)
  | succ r ih =>
    intro hr
    have ih := ih (by omega)
    have hx1 : nI (6 - (r + 1)) + 1 = nI (6 - r) := by rw [nI_1]; exact congrArg nI (by omega)
    have hpart := ck_part (N := N) (k := k) hT hN (show r ≤ 6 by omega) (show 1 ≤ 4 * r + 30 by omega) ih
    have helse := ck_else (N := N) (k := k) hT (show 1 ≤ 4 * r + 30 by omega) hpart
    have hlist := ck_list (N := N) (k := k) hT hk2 (show r ≤ 6 by omega) (i := 1) (by decide) ih (fun g hg hb => qStmt_go hT r g hg hb) 60
    have h111 := cp_111 (N := N) (k := k) hT hN (show 26 ≤ 4 * r + 30 by omega) hx1 hpart
    refine CpM.task (t := (3, 6 - (r + 1), 0)) ?_ (by omega)
    refine (CpM.fin (CpM.cur hT (b := fun r1 s1 => sB N (nI (6 - (r + 1))) r1 (jgI s1 9) s1) (P := fun g => qBeg tk (r + 1) g = true) (F := qStmt tk (r + 1)) (C := fun _ => 1) (w := 4 * (r + 1) + 30) (u := 6) (fun x hx => ?_))).of (fun s => st_run) (fun _ _ => rfl) (fun _ _ => rfl)
    by_cases hc : x = 6 ∨ (¬ x = 6 ∧ ¬ x = 7 ∧ ¬ x = 3 ∧ ¬ x = 5)
    · exact hnot (r + 1) x (nI (6 - (r + 1))) hx hc
    · have htl := hT.2.1.2.1
      by_cases h7 : x = 7
      · subst h7
        have z := (((cp_take (N := N) (k := k) hT).fin.wk (Q := fun g => (g.1 < tk.length ∧ qBeg tk (r + 1) g = true) ∧ qK tk g.1 = 7) (w' := 0) (u' := 9) (fun g hg => by omega) (by decide) (by decide)).add (t := (2, 6 - r, 1)) hlist (fun g hg => by
          show g.1 + 1 < tk.length ∧ tk.length ≤ g.1 + 1 + 60 + 1
          have := (hT.lt hg.1.1 (by omega)).2.1
          omega) (w := 4 * r + 32) (u := 8) (by omega) (by omega) (by omega)).add (t := (4, 8, 0)) (ck_exp (kd := 8) hT (by decide)) (fun _ _ => trivial) (w := 4 * r + 33) (u := 11) (by omega) (by omega) (by omega)
        have z2 := z.red (kd := 21) (w := 4 * (r + 1) + 30) (u := 6) hN (by decide) (by decide) (fun _ _ => by omega) (by omega) (by omega)
        have z3 : CpM tk N k (fun s => sB N (nI (6 - (r + 1))) (nI 7) (jgI s 9) s) (qStmt tk (r + 1)) (fun _ => 1) (fun g => (g.1 < tk.length ∧ qBeg tk (r + 1) g = true) ∧ qK tk g.1 = 7) (4 * (r + 1) + 30) 6 := by
          refine z2.of (fun s => ?_) (fun g hg => ?_) (fun _ _ => rfl)
          · unfold sB
            rw [if_neg (by decide), if_pos (by decide), hx1]
            rfl
          · rw [qStmt_7 tk r g hg.2]
            simp only [qOver, qSeq, qListG, List.append_assoc]
            refine Prod.ext ?_ rfl
            dsimp only
            congr 1
            have : ((1 : Nat) == 1) = true := rfl
            rw [this]
            omega
        intro s g m h X hP hg
        exact z3 s g m h X ⟨⟨hg, hP.1⟩, hP.2⟩ hg
      · by_cases h3 : x = 3
        · subst h3
          have z := (h111.add (t := (5, 6 - r, 0)) helse (fun _ _ => trivial) (w := 4 * r + 31) (u := 11) (by omega) (by omega) (by omega)).red (kd := 22) (w := 4 * (r + 1) + 30) (u := 6) hN (by decide) (by decide) (fun _ _ => by omega) (by omega) (by omega)
          refine (z.wk (Q := fun g => qBeg tk (r + 1) g = true ∧ qK tk g.1 = 3) (fun g hg => by omega) (Nat.le_refl _) (Nat.le_refl _)).of (fun s => ?_) (fun g hg => ?_) (fun _ _ => rfl)
          · unfold sB
            rw [if_neg (by decide), if_neg (by decide), if_pos (by decide)]
            unfold fM_statement_79 fM_statement_93
            simp only [if_pos (show nI 3 = (3 : Int32) from rfl), hx1]
            rfl
          · rw [qStmt_3 tk r g hg.2]
            unfold qOver
            have hk5 : (5 + if qK tk (qSeq (qSeq (qSeq (qSeq (qTake tk) (qExp tk 9)) (qEx tk)) (qExp tk 10)) (qPart tk (qStmt tk r) r) g).2.1 = 4 then 2 else 0) = if qK tk (qPart tk (qStmt tk r) r (qCond tk (qTake tk g).2).2).2.1 = 4 then 7 else 5 := by
              show (5 + if qK tk (qPart tk (qStmt tk r) r (qCond tk (qTake tk g).2).2).2.1 = 4 then 2 else 0) = _
              split <;> rfl
            dsimp only
            rw [hk5]
            simp only [qSeq, qCond, List.append_assoc]
        · have h5 : x = 5 := by omega
          subst h5
          have z := h111.red (kd := 23) (w := 4 * (r + 1) + 30) (u := 6) hN (by decide) (by decide) (fun _ _ => by omega) (by omega) (by omega)
          refine (z.wk (Q := fun g => qBeg tk (r + 1) g = true ∧ qK tk g.1 = 5) (fun g hg => by omega) (Nat.le_refl _) (Nat.le_refl _)).of (fun s => ?_) (fun g hg => ?_) (fun _ _ => rfl)
          · unfold sB
            rw [if_neg (by decide), if_neg (by decide), if_neg (by decide), if_pos (by decide)]
            unfold fM_statement_79 fM_statement_93
            simp only [if_neg (show ¬ nI 5 = (3 : Int32) by decide)]
            rfl
          · rw [qStmt_5 tk r g hg.2]
            simp only [qOver, qSeq, qCond, List.append_assoc]
theorem ck_prog (hT : TkA tk) (hN : 500 ≤ N) (hk2 : k < 2) : CkM tk N k (2, 0, 0) (qListG tk (qStmt tk 6) 6 false 60) (fun g => (qList tk (qStmt tk 6) 6 false 60 g).2.1) (fun g => g.1 < tk.length ∧ tk.length ≤ g.1 + 60 + 1) 56 3 :=
  ck_list (N := N) (k := k) (r := 6) hT hk2 (by decide) (i := 0) (by decide) (ck_stmt hT hN hk2 6 (by decide)) (fun g hg hb => qStmt_go hT 6 g hg hb) 60
end MS2
