/-! lists, parts, blocks, if, while; statements by their depth -/
theorem qBeg_can {tk : List (Nat × Nat × Nat)} {r : Nat} {g : Sg} (h : qBeg tk r g = true) : qCan (qK tk g.1) = true := by
  unfold qBeg at h
  exact (Bool.and_eq_true_iff.mp h).1
theorem qBeg_17 {tk : List (Nat × Nat × Nat)} {r : Nat} {g : Sg} (h : qBeg tk r g = true) : ¬ qK tk g.1 = 17 := fun e => by
  have z := qBeg_can h
  rw [e] at z
  exact absurd z (by decide)
section PI
variable {t : List Int32} {tk : List (Nat × Nat × Nat)} {N : Nat}
theorem gst_0 (N d : Nat) (a : Int32) (s : jS) : gst N (d + 1) 0 a s = fR_list N (gst N d) a s := rfl
theorem gst_1 (N d : Nat) (a : Int32) (s : jS) : gst N (d + 1) 1 a s = fR_statement N (gst N d) a s := rfl
theorem gst_2 (N d : Nat) (a : Int32) (s : jS) : gst N (d + 1) 2 a s = fR_block N (gst N d) a s := rfl
theorem gst_3 (N d : Nat) (a : Int32) (s : jS) : gst N (d + 1) 3 a s = fR_ifStatement N (gst N d) a s := rfl
theorem gst_4 (N d : Nat) (a : Int32) (s : jS) : gst N (d + 1) 4 a s = fR_whileStatement N (gst N d) a s := rfl
theorem gst_5 (N d : Nat) (a : Int32) (s : jS) : gst N (d + 1) 5 a s = fR_part N (gst N d) a s := rfl
/-- what a list is, as the group's methods are -/
def qListG (tk : List (Nat × Nat × Nat)) (st : Sg → List Nd × Sg) (r : Nat) (inner : Bool) (n : Nat) (g : Sg) : List Nd × Sg := ((qList tk st r inner n g).1, (qList tk st r inner n g).2.2)
theorem ct_listL {G : Nat → Int32 → jS → Option (Int32 × jS)} {st : Sg → List Nd × Sg} {r : Nat} (hr : r ≤ 6) (hW : TkW tk) (hst : CtG t tk (G 1 (nI (6 - r))) st (fun g => qBeg tk r g = true)) : ∀ (m i : Nat), 60 < i + m → i ≤ 60 → CtG t tk (fun s => fR_list_2 N m G (nI (6 - r)) (nI i) s) (qListG tk st r (decide (r < 6)) (60 - i)) (fun _ => True) := by
  intro m
  induction m with
  | zero => intro i h1 h2; omega
  | succ m ih =>
    intro i hm hi s l g op _ h hB hl hf
    show ∃ s', fR_list_b2 N (fR_list_2 N m G) G (nI (6 - r)) (nI i) s = some (0, s') ∧ _
    unfold fR_list_b2
    by_cases h60 : i = 60
    · subst h60
      rw [if_pos (show (60 : Int32) ≤ nI 60 by decide)]
      refine ⟨s, rfl, ?_, hB⟩
      show RdR t tk s (l ++ []) g op
      rw [List.append_nil]
      exact h
    · rw [if_neg (show ¬ (60 : Int32) ≤ nI i from nI_ge (b := 60) (by omega) (by decide))]
      rw [pH_end hr h hW hB, jB_s]
      have hz : 60 - i = (60 - (i + 1)) + 1 := by omega
      rw [hz] at hl hf ⊢
      unfold qListG at hl hf ⊢
      rw [qList] at hl hf ⊢
      by_cases he : qK tk g.1 = 17 ∨ (decide (r < 6) = true ∧ qK tk g.1 = 8)
      · rw [if_pos he] at hl hf
        rw [if_pos he, if_pos he, if_neg (show ¬ (1 : Int32) = 0 by decide)]
        refine ⟨s, rfl, ?_, hB⟩
        show RdR t tk s (l ++ []) g op
        rw [List.append_nil]
        exact h
      · rw [if_neg he] at hl hf
        rw [if_neg he, if_neg he, if_pos rfl, pH_fol hr h hW hB, jB_s]
        by_cases hb : qBeg tk r g = true
        · rw [if_pos hb] at hl hf
          rw [if_pos hb, if_pos hb, if_neg (show ¬ (1 : Int32) = 0 by decide)]
          dsimp only at hl hf ⊢
          rw [List.length_append] at hl
          rw [fls_len_app, fls_len_app] at hf
          obtain ⟨s1, e1, r1, b1⟩ := hst s l g op hb h hB (by omega) (by rw [fls_len_app]; omega)
          rw [e1, jB_s, nI_1]
          obtain ⟨s2, e2, r2, b2⟩ := ih (i + 1) (by omega) (by omega) s1 _ (st g).2 op trivial r1 b1 (by unfold qListG; rw [List.length_append]; dsimp only; omega) (by unfold qListG; dsimp only; rw [fls_len_app, fls_len_app]; omega)
          refine ⟨s2, e2, ?_, b2⟩
          rw [List.append_assoc] at r2
          exact r2
        · rw [if_neg hb] at hl hf
          rw [if_neg hb, if_neg hb, if_pos rfl]
          obtain ⟨s1, e1, r1, b1⟩ := pR_skip (N := N) h hW hB (fun z => he (Or.inl z))
          rw [e1, jB_s, nI_1]
          exact ih (i + 1) (by omega) (by omega) s1 l (qSkip tk g) op trivial r1 b1 hl hf
theorem ct_list {G : Nat → Int32 → jS → Option (Int32 × jS)} {st : Sg → List Nd × Sg} {r : Nat} (hN : 100 ≤ N) (hr : r ≤ 6) (hW : TkW tk) (hst : CtG t tk (G 1 (nI (6 - r))) st (fun g => qBeg tk r g = true)) : CtG t tk (fun s => fR_list N G (nI (6 - r)) s) (qListG tk st r (decide (r < 6)) 60) (fun _ => True) :=
  ct_listL hr hW hst N 0 (by omega) (by decide)
theorem ct_part {G : Nat → Int32 → jS → Option (Int32 × jS)} {st : Sg → List Nd × Sg} {r : Nat} (hr : r ≤ 6) (hW : TkW tk) (hst : CtG t tk (G 1 (nI (6 - r))) st (fun g => qBeg tk r g = true)) : CtG t tk (fun s => fR_part N G (nI (6 - r)) s) (qPart tk st r) (fun _ => True) := by
  intro s l g op _ h hB hl hf
  show ∃ s', fR_part N G (nI (6 - r)) s = some (0, s') ∧ _
  unfold fR_part
  unfold qPart at hl hf ⊢
  rw [pH_fol hr h hW hB, jB_s]
  by_cases hb : qBeg tk r g = true
  · rw [if_pos hb] at hl hf
    rw [if_pos hb, if_pos hb, if_neg (show ¬ (1 : Int32) = 0 by decide)]
    exact hst.fin s l g op hb h hB hl hf
  · rw [if_neg hb] at hl hf
    rw [if_neg hb, if_neg hb, if_pos rfl]
    dsimp only at hl hf ⊢
    have hl2 : l.length + 2 ≤ 362 := hl
    rw [fls_len_app, qNode_fls] at hf
    obtain ⟨s1, e1, r1⟩ := pR_begin (N := N) (k := 25) h (by omega) 0 0 0
    rw [show (25 : Int32) = nI 25 from rfl, e1, jB_s, pK_kind r1 hW hB, jB_s, pH_can _ (hW.2.2.2.2 g.1).1, jB_s]
    have key : ∀ m : Nat, (fls (l ++ (qMiss 6 m g).1)).length ≤ 180 → ∃ s', (jB (fR_miss N (nI 6) (nI m) s1) fun _ s7 => (jB (fT_close N (nI l.length) s7) fun _ s8 => some ((0 : Int32), s8))) = some (0, s') ∧ RdR t tk s' (l ++ qNode 25 1 (qMiss 6 m g).1 (qMiss 6 m g).2.2.1) (qMiss 6 m g).2 op ∧ SgB tk (qMiss 6 m g).2 op := by
      intro m hm
      rw [fls_len_app] at hm
      obtain ⟨s2, e2, r2⟩ := pR_miss (N := N) (k := 6) (f := m) r1 hB (by simp; omega) (by rw [fls_len_app, fls_len_app, fls_one]; simp only [nL, List.length_nil]; omega)
      rw [e2, jB_s]
      have r2' : RdR t tk s2 (l ++ (25, g.2.1, 0, g.2.1, 0, 0, 1, []) :: (qMiss 6 m g).1) (qMiss 6 m g).2 op := by simpa using r2
      obtain ⟨s3, e3, r3⟩ := pR_close (N := N) (n' := (25, g.2.1, g.2.1, g.2.1, 0, 1, (qMiss 6 m g).1.length + 1, [])) r2' (by simp [qMiss_len]; omega) ⟨rfl, rfl, rfl, fun q => absurd (show (25 : Nat) < 20 from q) (by decide), rfl⟩
      rw [e3, jB_s]
      exact ⟨s3, rfl, r3, hB⟩
    by_cases hc : qCan (qK tk g.1) = true
    · rw [if_pos hc] at hf
      rw [if_pos hc, if_pos hc, if_neg (show ¬ (1 : Int32) = 0 by decide)]
      exact key 3 (by rw [fls_len_app]; omega)
    · rw [if_neg hc] at hf
      rw [if_neg hc, if_neg hc, if_pos rfl]
      exact key 2 (by rw [fls_len_app]; omega)
/-- how many statements a block's list has, and two signs -/
theorem ct_block {G : Nat → Int32 → jS → Option (Int32 × jS)} {st : Sg → List Nd × Sg} {p r : Nat} (hN : 100 ≤ N) (hW : TkW tk) (hx : CtG t tk (G 0 (nI (p + 1))) (qListG tk st r true 60) (fun _ => True)) : CtG t tk (fun s => fR_block N G (nI p) s) (fun g => (qNode 21 ((qList tk st r true 60 (qTake tk g).2).2.1 + 2) ((qTake tk g).1 ++ ((qList tk st r true 60 (qTake tk g).2).1 ++ (qExp tk 8 (qList tk st r true 60 (qTake tk g).2).2.2).1)) (qExp tk 8 (qList tk st r true 60 (qTake tk g).2).2.2).2.2.1, (qExp tk 8 (qList tk st r true 60 (qTake tk g).2).2.2).2)) (fun g => ¬ qK tk g.1 = 17) :=
  (CtG.node (N := N) (k := 21) (c := fun g => (qList tk st r true 60 (qTake tk g).2).2.1 + 2) (by decide) ((ct_take hN hW).seq (hx.seq (ct_exp (k := 8) hN hW (by decide)) (fun _ _ => trivial)) (fun _ _ => trivial)) (fun g _ => rfl)).of (fun s => by simp only [jB_assoc]; show fR_block N G (nI p) s = _; unfold fR_block; rw [nI_1]; rfl) (fun _ _ => rfl)
theorem ct_while {G : Nat → Int32 → jS → Option (Int32 × jS)} {F : Sg → List Nd × Sg} {p : Nat} (hN : 100 ≤ N) (hW : TkW tk) (hx : CtG t tk (G 5 (nI (p + 1))) F (fun _ => True)) : CtG t tk (fun s => fR_whileStatement N G (nI p) s) (qOver 23 (fun _ => 5) (qSeq (qTake tk) (qSeq (qCond tk) F))) (fun g => ¬ qK tk g.1 = 17) :=
  (CtG.node (N := N) (k := 23) (c := fun _ => 5) (by decide) ((ct_take hN hW).seq ((ct_cond hN hW).seq hx (fun _ _ => trivial)) (fun _ _ => trivial)) (fun g _ => rfl)).of (fun s => by simp only [jB_assoc]; show fR_whileStatement N G (nI p) s = _; unfold fR_whileStatement; rw [nI_1]; rfl) (fun _ _ => rfl)
/-- behind the part: perhaps else and another part -/
def qElse (tk : List (Nat × Nat × Nat)) (F : Sg → List Nd × Sg) (g : Sg) : List Nd × Sg := if qK tk g.1 = 4 then qSeq (qTake tk) F g else ([], g)
theorem ct_else {G : Nat → Int32 → jS → Option (Int32 × jS)} {F : Sg → List Nd × Sg} {p : Nat} (hN : 100 ≤ N) (hW : TkW tk) (hx : CtG t tk (G 5 (nI p)) F (fun _ => True)) : CtG t tk (fun s => jB (fK_kind N s) fun r5 s5 => if r5 = (4 : Int32) then (jB (fR_take N s5) fun _ s8 => G 5 (nI p) s8) else some (0, s5)) (qElse tk F) (fun _ => True) := by
  intro s l g op _ h hB hl hf
  show ∃ s', (jB (fK_kind N s) fun r5 s5 => if r5 = (4 : Int32) then (jB (fR_take N s5) fun _ s8 => G 5 (nI p) s8) else some (0, s5)) = some (0, s') ∧ _
  rw [pK_kind h hW hB, jB_s]
  unfold qElse at hl hf ⊢
  by_cases h4 : qK tk g.1 = 4
  · rw [if_pos h4] at hl hf
    rw [if_pos h4, if_pos (show nI (qK tk g.1) = 4 by rw [h4]; rfl)]
    exact ((ct_take hN hW).seq hx (fun _ _ => trivial)) s l g op (by omega) h hB hl hf
  · rw [if_neg h4, if_neg (show ¬ nI (qK tk g.1) = 4 from fun z => h4 ((nI_eq (b := 4) (by have := (hW.2.2.2.2 g.1).1; omega) (by decide)).mp z))]
    refine ⟨s, rfl, ?_, hB⟩
    show RdR t tk s (l ++ []) g op
    rw [List.append_nil]
    exact h
theorem ct_if {G : Nat → Int32 → jS → Option (Int32 × jS)} {F : Sg → List Nd × Sg} {p : Nat} (hN : 100 ≤ N) (hW : TkW tk) (hx : CtG t tk (G 5 (nI (p + 1))) F (fun _ => True)) : CtG t tk (fun s => fR_ifStatement N G (nI p) s) (qOver 22 (fun g => if qK tk (F (qCond tk (qTake tk g).2).2).2.1 = 4 then 7 else 5) (qSeq (qTake tk) (qSeq (qCond tk) (qSeq F (qElse tk F))))) (fun g => ¬ qK tk g.1 = 17) :=
  (CtG.node (N := N) (k := 22) (c := fun g => if qK tk (F (qCond tk (qTake tk g).2).2).2.1 = 4 then 7 else 5) (by decide) ((ct_take hN hW).seq ((ct_cond hN hW).seq (hx.seq (ct_else hN hW hx) (fun _ _ => trivial)) (fun _ _ => trivial)) (fun _ _ => trivial)) (fun g _ => rfl)).of (fun s => by
    simp only [jB_assoc]
    show fR_ifStatement N G (nI p) s = _
    unfold fR_ifStatement
    rw [nI_1]
    congr 1
    funext r1 s1
    congr 1
    funext r2 s2
    congr 1
    funext r3 s3
    congr 1
    funext r4 s4
    congr 1
    funext r5 s5
    by_cases h4 : r5 = (4 : Int32)
    · rw [if_pos h4, if_pos h4, jB_assoc]
    · rw [if_neg h4, if_neg h4, jB_s]) (fun _ _ => rfl)
end PI
