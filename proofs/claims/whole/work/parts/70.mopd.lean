/-! the reference's operands and expressions -/
theorem nIe {x c : Nat} (hx : x ≤ 17) (hc : c ≤ 17) (h : ¬ x = c) : ¬ nI x = nI c := fun z => h ((nI_eq (by omega) (by omega)).mp z)
section MP
variable {tk : List (Nat × Nat × Nat)} {N k : Nat} {op : Sg → List Nd × Sg}
theorem ck_expr {p w : Nat} (hT : TkA tk) (hN : 500 ≤ N) (hop : CkM tk N k (9, p, 0) op (fun _ => 1) (fun _ => True) w 7) (hw : 1 ≤ w) (hne : ∀ g, (op g).1 ≠ []) : CkM tk N k (7, p, 0) (qExpr tk op) (fun _ => 1) (fun _ => True) (w + 1) 4 := by
  intro s g m h X _ hg hi hm hl
  have hm : m + (qLoop tk op 60 [] (op g).1 (op g).2).1.length ≤ 399 := hm
  have hll := (qLoop_len tk op hne 60 [] (op g).1 (op g).2 (fun q hq => absurd hq List.not_mem_nil) (hne g)).1
  have hz : (qFlat []).length = 0 := rfl
  have hip := hi.pop
  obtain ⟨s1, e1, hi1, hs1⟩ := hip.push (N := N) (by omega) (8, p, h)
  obtain ⟨s2, e2, hi2, hs2⟩ := hi1.push (N := N) (by simp; omega) (9, p, 0)
  have hone : Rch N k s s2 1 := Rch.one hi.2.2.2.2.2.2.1 (by omega) (by
    show fM_perform N (nI k) (nI 7) (nI p) (nI 0) _ = _
    have e1 : fM_add N (8 : Int32) (nI p) (nI h) (jsI s 10 (nI X.length)) = some (0, s1) := e1
    have e2 : fM_add N (9 : Int32) (nI p) (0 : Int32) s1 = some (0, s2) := e2
    rw [pf_7, hip.2.2.2.2.1, e1, jB_s, e2, jB_s])
  obtain ⟨s3, R3, j3, r3, z1, z2, z3, z4, z5, z6, z7, z8⟩ := hop s2 g m h (X ++ [(8, p, h)]) trivial hg hi2 (by omega) (by simp; omega)
  obtain ⟨e3, rfl⟩ : ∃ e3, R3 = [e3] := by
    cases R3 with
    | nil => simp at z7
    | cons q R =>
      cases R with
      | nil => exact ⟨q, rfl⟩
      | cons q' R => simp at z7
  have htl := hT.2.1.2.1
  obtain ⟨s4, j4, e4, r4, x1, x2, x3, x4, x5, x6, x7⟩ := pM_moreL (h := h) hT hN hop hw hne 60 [] (op g).1 (op g).2 s3 m g.2.1 g.2.1 e3 X (by omega) z2 hi.2.2.2.2.2.1 z1 rfl (fun q hq => absurd hq List.not_mem_nil) z4 (by
    have := z5 0 (by simp)
    exact this) hm hl
  have hz2 : (qFl []).length = 0 := rfl
  refine ⟨s4, [e4], 1 + j3 + j4, (hone.tr r3).tr r4, x1, x2, Nat.le_trans z3 x3, x4, ?_, ?_, rfl, ?_⟩
  · intro i hi
    obtain rfl : i = 0 := by simp at hi; omega
    exact x5
  · exact (((fm_pop.tr (fm_task hs1) (Nat.le_refl _) (Nat.le_refl _) (Nat.le_refl _)).tr (fm_task hs2) (Nat.le_refl _) (Nat.le_refl _) (Nat.le_refl _)).tr z6 (Nat.le_refl _) (Nat.le_refl _) (Nat.le_refl _)).tr x6 (Nat.le_refl _) (Nat.le_refl _) (Nat.le_refl _)
  · show 1 + j3 + j4 + 4 ≤ 4 * (qLoop tk op 60 [] (op g).1 (op g).2).1.length + ((qLoop tk op 60 [] (op g).1 (op g).2).2.1 - g.1) + 4
    omega
theorem ck_opd (hT : TkA tk) (hN : 500 ≤ N) : ∀ q : Nat, q ≤ 6 → CkM tk N k (9, 6 - q, 0) (qOpd tk q) (fun _ => 1) (fun _ => True) (3 * q + 3) 7 := by
  intro q
  have h12 : ∀ (q x : Nat), x ≤ 17 → (x = 1 ∨ x = 2) → ∀ (a0 : Int32), CpM tk N k (fun s => (if nI x = (1 : Int32) then (jB (fM_take N s) fun r3 s3 => some (0, s3)) else (if nI x = (2 : Int32) then (jB (fM_take N s) fun r11 s11 => some (0, s11)) else (if a0 = (6 : Int32) then fM_operand_70 N a0 (nI x) s else (if nI x = (9 : Int32) then (jB (fM_add N (0 : Int32) (28 : Int32) (jgI s 9) s) fun r7 s7 => (jB (fM_add N (4 : Int32) (10 : Int32) (0 : Int32) s7) fun r8 s8 => (jB (fM_add N (7 : Int32) (a0 + (1 : Int32)) (0 : Int32) s8) fun r9 s9 => (jB (fM_take N s9) fun r10 s10 => some (0, s10))))) else fM_operand_70 N a0 (nI x) s))))) (qOpd tk q) (fun _ => 1) (fun g => True ∧ qK tk g.1 = x) (3 * q + 3) 8 := by
    intro q x hx hc a0
    refine ((cp_take (N := N) (k := k) hT).fin.wk (Q := fun g => True ∧ qK tk g.1 = x) (fun g hg => by omega) (by omega) (by decide)).of (fun s => ?_) (fun g hg => qOpd_take tk q g (by omega)) (fun _ _ => rfl)
    rcases hc with rfl | rfl
    · rw [if_pos (by decide)]
    · rw [if_neg (by decide), if_pos (by decide)]
  have h110 : ∀ (q x : Nat), x ≤ 17 → ¬ x = 1 → ¬ x = 2 → ¬ x = 9 → ¬ x = 12 → CpM tk N k (fun s => fM_operand_110 N (nI x) s) (qOpd tk q) (fun _ => 1) (fun g => True ∧ qK tk g.1 = x) (3 * q + 3) 8 := by
    intro q x hx h1 h2 h9 h12
    refine ((cp_lack (tk := tk) (N := N) (k := k) (kd := 1) (f := 2) (by decide) (Or.inl rfl)).fin.wk (Q := fun g => True ∧ qK tk g.1 = x) (fun g hg => trivial) (by omega) (by decide)).of (fun s => ?_) (fun g hg => qOpd_m tk q g (by omega) (by omega) (by omega) (by omega)) (fun _ _ => rfl)
    unfold fM_operand_110
    rw [if_neg (show ¬ nI x = 9 from nIe (c := 9) hx (by decide) h9), if_neg (show ¬ nI x = 12 from nIe (c := 12) hx (by decide) h12)]
    rfl
  induction q with
  | zero =>
    intro _
    refine CpM.task (t := (9, 6, 0)) ?_ (by decide)
    refine (CpM.fin (CpM.cur hT (b := fun r1 s1 => (if r1 = (1 : Int32) then (jB (fM_take N s1) fun r3 s3 => some (0, s3)) else (if r1 = (2 : Int32) then (jB (fM_take N s1) fun r11 s11 => some (0, s11)) else (if nI 6 = (6 : Int32) then fM_operand_70 N (nI 6) r1 s1 else (if r1 = (9 : Int32) then (jB (fM_add N (0 : Int32) (28 : Int32) (jgI s1 9) s1) fun r7 s7 => (jB (fM_add N (4 : Int32) (10 : Int32) (0 : Int32) s7) fun r8 s8 => (jB (fM_add N (7 : Int32) (nI 6 + (1 : Int32)) (0 : Int32) s8) fun r9 s9 => (jB (fM_take N s9) fun r10 s10 => some (0, s10))))) else fM_operand_70 N (nI 6) r1 s1))))) (P := fun _ => True) (F := qOpd tk 0) (C := fun _ => 1) (w := 3) (u := 8) (fun x hx => ?_))).of (fun s => pf_9) (fun _ _ => rfl) (fun _ _ => rfl)
    by_cases hc : x = 1 ∨ x = 2
    · exact h12 0 x hx hc (nI 6)
    · have e : ∀ s, (if nI x = (1 : Int32) then (jB (fM_take N s) fun r3 s3 => some (0, s3)) else (if nI x = (2 : Int32) then (jB (fM_take N s) fun r11 s11 => some (0, s11)) else (if nI 6 = (6 : Int32) then fM_operand_70 N (nI 6) (nI x) s else (if nI x = (9 : Int32) then (jB (fM_add N (0 : Int32) (28 : Int32) (jgI s 9) s) fun r7 s7 => (jB (fM_add N (4 : Int32) (10 : Int32) (0 : Int32) s7) fun r8 s8 => (jB (fM_add N (7 : Int32) (nI 6 + (1 : Int32)) (0 : Int32) s8) fun r9 s9 => (jB (fM_take N s9) fun r10 s10 => some ((0 : Int32), s10))))) else fM_operand_70 N (nI 6) (nI x) s)))) = fM_operand_110 N (nI x) s := by
        intro s
        rw [if_neg (show ¬ nI x = 1 from nIe (c := 1) hx (by decide) (by omega)), if_neg (show ¬ nI x = 2 from nIe (c := 2) hx (by decide) (by omega)), if_pos (by decide)]
        unfold fM_operand_70
        rw [if_pos (by decide)]
      by_cases h9 : x = 9 ∨ x = 12
      · refine ((cp_lack (tk := tk) (N := N) (k := k) (kd := 1) (f := 3) (by decide) (Or.inr rfl)).fin.wk (Q := fun g => True ∧ qK tk g.1 = x) (fun g hg => trivial) (by omega) (by decide)).of (fun s => ?_) (fun g hg => qOpd_z tk g (by omega)) (fun _ _ => rfl)
        rw [e s]
        unfold fM_operand_110
        rcases h9 with rfl | rfl
        · rw [if_pos (by decide)]
          rfl
        · rw [if_neg (by decide), if_pos (by decide)]
          rfl
      · exact (h110 0 x hx (by omega) (by omega) (by omega) (by omega)).of e (fun _ _ => rfl) (fun _ _ => rfl)
  | succ q ih =>
    intro hq
    have ih := ih (by omega)
    have hx1 : nI (6 - (q + 1)) + 1 = nI (6 - q) := by rw [nI_1]; exact congrArg nI (by omega)
    have hn6 : ¬ nI (6 - (q + 1)) = (6 : Int32) := fun z => by
      have := (nI_eq (b := 6) (by omega) (by decide)).mp z
      omega
    refine CpM.task (t := (9, 6 - (q + 1), 0)) ?_ (by omega)
    refine (CpM.fin (CpM.cur hT (b := fun r1 s1 => (if r1 = (1 : Int32) then (jB (fM_take N s1) fun r3 s3 => some (0, s3)) else (if r1 = (2 : Int32) then (jB (fM_take N s1) fun r11 s11 => some (0, s11)) else (if nI (6 - (q + 1)) = (6 : Int32) then fM_operand_70 N (nI (6 - (q + 1))) r1 s1 else (if r1 = (9 : Int32) then (jB (fM_add N (0 : Int32) (28 : Int32) (jgI s1 9) s1) fun r7 s7 => (jB (fM_add N (4 : Int32) (10 : Int32) (0 : Int32) s7) fun r8 s8 => (jB (fM_add N (7 : Int32) (nI (6 - (q + 1)) + (1 : Int32)) (0 : Int32) s8) fun r9 s9 => (jB (fM_take N s9) fun r10 s10 => some (0, s10))))) else fM_operand_70 N (nI (6 - (q + 1))) r1 s1))))) (P := fun _ => True) (F := qOpd tk (q + 1)) (C := fun _ => 1) (w := 3 * (q + 1) + 3) (u := 8) (fun x hx => ?_))).of (fun s => pf_9) (fun _ _ => rfl) (fun _ _ => rfl)
    by_cases hc : x = 1 ∨ x = 2
    · exact h12 (q + 1) x hx hc (nI (6 - (q + 1)))
    · have n1 : ¬ nI x = 1 := nIe (c := 1) hx (by decide) (by omega)
      have n2 : ¬ nI x = 2 := nIe (c := 2) hx (by decide) (by omega)
      by_cases h9 : x = 9
      · subst h9
        have z := (((cp_take (N := N) (k := k) hT).fin.add (t := (7, 6 - q, 0)) (ck_expr hT hN ih (by omega) (qOpd_ne tk q)) (fun _ _ => trivial) (w := 3 * q + 4) (u := 9) (by omega) (by omega) (by omega)).add (t := (4, 10, 0)) (ck_exp (kd := 10) hT (by decide)) (fun _ _ => trivial) (w := 3 * q + 5) (u := 12) (by omega) (by omega) (by omega)).red (kd := 28) (w := 3 * (q + 1) + 3) (u := 8) hN (by decide) (by decide) (fun _ _ => by omega) (by omega) (by omega)
        refine (z.wk (Q := fun g => True ∧ qK tk g.1 = 9) (fun g hg => by omega) (Nat.le_refl _) (Nat.le_refl _)).of (fun s => ?_) (fun g hg => ?_) (fun _ _ => rfl)
        · rw [if_neg n1, if_neg n2, if_neg hn6, if_pos (by decide), hx1]
          rfl
        · rw [qOpd_par tk q g hg.2]
          simp only [qOver, qSeq, List.append_assoc]
      · by_cases h12 : x = 12
        · subst h12
          have z := ((cp_take (N := N) (k := k) hT).fin.add (t := (9, 6 - q, 0)) ih (fun _ _ => trivial) (w := 3 * q + 4) (u := 12) (by omega) (by omega) (by omega)).red (kd := 27) (w := 3 * (q + 1) + 3) (u := 8) hN (by decide) (by decide) (fun _ _ => by omega) (by omega) (by omega)
          refine (z.wk (Q := fun g => True ∧ qK tk g.1 = 12) (fun g hg => by omega) (Nat.le_refl _) (Nat.le_refl _)).of (fun s => ?_) (fun g hg => ?_) (fun _ _ => rfl)
          · rw [if_neg n1, if_neg n2, if_neg hn6, if_neg (by decide)]
            unfold fM_operand_70
            rw [if_neg hn6, if_pos (by decide), hx1]
            rfl
          · rw [qOpd_neg tk q g hg.2]
            simp only [qOver, qSeq]
        · refine (h110 (q + 1) x hx (by omega) (by omega) h9 h12).of (fun s => ?_) (fun _ _ => rfl) (fun _ _ => rfl)
          rw [if_neg n1, if_neg n2, if_neg hn6, if_neg (show ¬ nI x = 9 from nIe (c := 9) hx (by decide) h9)]
          unfold fM_operand_70
          rw [if_neg hn6, if_neg (show ¬ nI x = 12 from nIe (c := 12) hx (by decide) h12)]
theorem ck_ex (hT : TkA tk) (hN : 500 ≤ N) : CkM tk N k (7, 0, 0) (qEx tk) (fun _ => 1) (fun _ => True) 22 4 := ck_expr hT hN (ck_opd hT hN 6 (by decide)) (by decide) (qOpd_ne tk 6)
end MP
