/-! the class's expressions -/
theorem qClose_ok {b to : Nat} : ∀ (st : Stk) (cur : List Nd), StkOk st → cur ≠ [] → (qFlat (qClose b to st cur).1).length + (qClose b to st cur).2.length = (qFlat st).length + cur.length ∧ (fls (qFlat (qClose b to st cur).1 ++ (qClose b to st cur).2)).length = (fls (qFlat st ++ cur)).length ∧ StkOk (qClose b to st cur).1 ∧ (qClose b to st cur).1.length ≤ st.length ∧ (qClose b to st cur).2 ≠ []
  | [], cur, hS, hc => ⟨rfl, rfl, hS, Nat.le_refl _, hc⟩
  | (L, S, x) :: r, cur, hS, hc => by
    rw [qClose]
    by_cases hb : b ≤ x
    · rw [if_pos hb]
      obtain ⟨h1, h2, h3, h4, h5⟩ := qClose_ok (b := b) (to := to) r (qNode 26 3 (L ++ (S ++ cur)) to) (fun q hq => hS q (List.mem_cons_of_mem _ hq)) (by simp [qNode])
      refine ⟨?_, ?_, h3, Nat.le_succ_of_le h4, h5⟩
      · rw [h1]
        simp [qNode, qFlat]
        omega
      · rw [h2]
        simp [qNode, qFlat, fls, nL, qW]
    · rw [if_neg hb]
      exact ⟨rfl, rfl, hS, Nat.le_refl _, hc⟩
theorem qClose_0 {to : Nat} : ∀ (st : Stk) (cur : List Nd), (qClose 0 to st cur).1 = []
  | [], _ => rfl
  | (L, S, x) :: r, cur => by
    rw [qClose, if_pos (Nat.zero_le _)]
    exact qClose_0 r _
theorem qLoop_len (tk : List (Nat × Nat × Nat)) (F : Sg → List Nd × Sg) (hF : ∀ g, (F g).1 ≠ []) : ∀ (n : Nat) (st : Stk) (cur : List Nd) (g : Sg), StkOk st → cur ≠ [] → (qFlat st).length + cur.length ≤ (qLoop tk F n st cur g).1.length ∧ (fls (qFlat st ++ cur)).length ≤ (fls (qLoop tk F n st cur g).1).length ∧ (qLoop tk F n st cur g).1 ≠ [] := by
  intro n
  have fin : ∀ (st : Stk) (cur : List Nd) (g : Sg), StkOk st → cur ≠ [] → (qFlat st).length + cur.length ≤ (qClose 0 g.2.1 st cur).2.length ∧ (fls (qFlat st ++ cur)).length ≤ (fls (qClose 0 g.2.1 st cur).2).length ∧ (qClose 0 g.2.1 st cur).2 ≠ [] := by
    intro st cur g hS hc
    obtain ⟨h1, h2, -, -, h5⟩ := qClose_ok (b := 0) (to := g.2.1) st cur hS hc
    rw [qClose_0] at h1 h2
    simp only [qFlat, List.length_nil, Nat.zero_add, List.nil_append] at h1 h2
    exact ⟨by omega, by omega, h5⟩
  induction n with
  | zero => exact fin
  | succ n ih =>
    intro st cur g hS hc
    rw [qLoop]
    by_cases hl : qLvl (qK tk g.1) = 0
    · rw [if_pos hl]
      exact fin st cur g hS hc
    · rw [if_neg hl]
      obtain ⟨h1, h2, h3, h4, h5⟩ := qClose_ok (b := if qK tk g.1 = 15 then 2 else qLvl (qK tk g.1)) (to := g.2.1) st cur hS hc
      have hlv : qLvl (qK tk g.1) ≤ 4 := by unfold qLvl; repeat' (first | apply ite_le' | decide)
      generalize qClose (if qK tk g.1 = 15 then 2 else qLvl (qK tk g.1)) g.2.1 st cur = c at h1 h2 h3 h4 h5
      obtain ⟨g1, g2, g3⟩ := ih ((c.2, (qTake tk g).1, qLvl (qK tk g.1)) :: c.1) (F (qTake tk g).2).1 (F (qTake tk g).2).2 (fun q hq => by
        rcases List.mem_cons.mp hq with e | e
        · rw [e]; exact ⟨h5, hlv⟩
        · exact h3 q e) (hF _)
      refine ⟨?_, ?_, g3⟩
      · refine Nat.le_trans ?_ g1
        simp only [qFlat, List.length_append, List.length_cons]
        omega
      · refine Nat.le_trans ?_ g2
        rw [← h2]
        simp only [qFlat, fls_app, fls_cons, List.length_append]
        omega
section PE
variable {t : List Int32} {tk : List (Nat × Nat × Nat)} {N : Nat}
theorem pR_bind {s : jS} : ∀ k : Nat, k ≤ 17 → fR_bindingOf N (nI k) s = some (nI (qLvl k), s) := by
  intro n hn
  rcases (show n = 0 ∨ n = 1 ∨ n = 2 ∨ n = 3 ∨ n = 4 ∨ n = 5 ∨ n = 6 ∨ n = 7 ∨ n = 8 ∨ n = 9 ∨ n = 10 ∨ n = 11 ∨ n = 12 ∨ n = 13 ∨ n = 14 ∨ n = 15 ∨ n = 16 ∨ n = 17 by omega) with rfl | rfl | rfl | rfl | rfl | rfl | rfl | rfl | rfl | rfl | rfl | rfl | rfl | rfl | rfl | rfl | rfl | rfl <;> rfl
/-- a method of the group does what F says -/
def CtG (t : List Int32) (tk : List (Nat × Nat × Nat)) (f : jS → Option (Int32 × jS)) (F : Sg → List Nd × Sg) (P : Sg → Prop) : Prop := ∀ (s : jS) (l : List Nd) (g : Sg) (op : List (Nat × Nat)), P g → RdR t tk s l g op → SgB tk g op → l.length + (F g).1.length ≤ 362 → (fls (l ++ (F g).1)).length ≤ 180 → ∃ s', f s = some (0, s') ∧ RdR t tk s' (l ++ (F g).1) (F g).2 op ∧ SgB tk (F g).2 op
theorem fls_len_app (l m : List Nd) : (fls (l ++ m)).length = (fls l).length + (fls m).length := by rw [fls_app, List.length_append]
theorem pR_ex125 {G : Nat → Int32 → jS → Option (Int32 × jS)} {l : List Nd} {g : Sg} {op0 : List (Nat × Nat)} {s : jS} {st : Stk} {cur : List Nd} (hN : 100 ≤ N) (hS : StkOk st) (hc : cur ≠ []) (h : RdR t tk s (l ++ (qFlat st ++ cur)) g (op0 ++ qOps l.length st)) (hW : TkW tk) (hB : SgB tk g (op0 ++ qOps l.length st)) (hl : (l ++ (qFlat st ++ cur)).length ≤ 362) : ∃ s', fR_expression_125 N G (nI op0.length) (nI (l.length + (qFlat st).length)) s = some (0, s') ∧ RdR t tk s' (l ++ (qClose 0 g.2.1 st cur).2) g op0 ∧ SgB tk g op0 := by
  have h60 : (op0 ++ qOps l.length st).length ≤ 60 := by have := hB.2.2.2; have := hB.1; have := hW.2.1; omega
  have hst : st.length ≤ 60 := by rw [List.length_append, qOps_len] at h60; omega
  obtain ⟨s', e, r⟩ := pR_closeL (N := N) (b := 0) (by decide) st cur s N (by omega) hS h hl h60
  unfold fR_expression_125 fR_closeSigns
  rw [show (0 : Int32) = nI 0 from rfl, e, jB_s]
  rw [qClose_0] at r
  simp only [qFlat, qOps, List.append_nil, List.nil_append] at r
  refine ⟨s', rfl, r, hB.1, hB.2.1, hB.2.2.1, ?_⟩
  have := hB.2.2.2
  rw [List.length_append] at this
  omega
theorem pR_exL {G : Nat → Int32 → jS → Option (Int32 × jS)} {F : Sg → List Nd × Sg} {p : Nat} (hF : ∀ g, (F g).1 ≠ []) (hN : 100 ≤ N) (hW : TkW tk) (hop : CtG t tk (G 1 (nI p)) F (fun _ => True)) {l : List Nd} {op0 : List (Nat × Nat)} : ∀ (m i : Nat) (st : Stk) (cur : List Nd) (g : Sg) (s : jS), 60 < i + m → i ≤ 60 → StkOk st → cur ≠ [] → RdR t tk s (l ++ (qFlat st ++ cur)) g (op0 ++ qOps l.length st) → SgB tk g (op0 ++ qOps l.length st) → l.length + (qLoop tk F (60 - i) st cur g).1.length ≤ 362 → (fls (l ++ (qLoop tk F (60 - i) st cur g).1)).length ≤ 180 →
    ∃ s', fR_expression_21 N m G (nI p) (nI op0.length) (nI (l.length + (qFlat st).length)) (nI i) s = some (0, s') ∧ RdR t tk s' (l ++ (qLoop tk F (60 - i) st cur g).1) (qLoop tk F (60 - i) st cur g).2 op0 ∧ SgB tk (qLoop tk F (60 - i) st cur g).2 op0 := by
  intro m
  induction m with
  | zero => intro i st cur g s h1 h2; omega
  | succ m ih =>
    intro i st cur g s h1 h2 hS hc h hB hl hf
    have hlen := qLoop_len tk F hF (60 - i) st cur g hS hc
    have hl0 : (l ++ (qFlat st ++ cur)).length ≤ 362 := by rw [List.length_append, List.length_append]; omega
    have hB1 := hB.1
    have hW2 := hW.2.1
    show ∃ s', fR_expression_b21 N (fR_expression_21 N m G) G _ _ _ (nI i) s = _ ∧ _
    unfold fR_expression_b21
    by_cases hi : i < 60
    · rw [if_neg (show ¬ (60 : Int32) ≤ nI i from nI_ge (b := 60) hi (by decide)), pK_kind h hW hB, jB_s, pR_bind _ (hW.2.2.2.2 g.1).1, jB_s]
      obtain ⟨d, hd⟩ : ∃ d, 60 - i = d + 1 := ⟨60 - i - 1, by omega⟩
      rw [hd] at hl hf hlen ⊢
      rw [qLoop] at hl hf hlen ⊢
      by_cases hv : qLvl (qK tk g.1) = 0
      · rw [if_pos hv] at hl hf hlen ⊢
        rw [if_pos (show nI (qLvl (qK tk g.1)) ≤ 0 by rw [hv]; decide)]
        exact pR_ex125 hN hS hc h hW hB hl0
      · rw [if_neg hv] at hl hf hlen ⊢
        have hlv : qLvl (qK tk g.1) ≤ 4 := by unfold qLvl; repeat' (first | apply ite_le' | decide)
        have hk17 : ¬ qK tk g.1 = 17 := fun q => hv (by rw [q]; rfl)
        rw [if_neg (nI_nle (by omega) (by omega)), pK_kind h hW hB, jB_s, pR_bind _ (hW.2.2.2.2 g.1).1, jB_s, pK_kind h hW hB, jB_s]
        have go : ∃ s', fR_expression_74 N (fR_expression_21 N m G) G (nI p) (nI op0.length) (nI (l.length + (qFlat st).length)) (nI i) (nI (qLvl (qK tk g.1))) (nI (if qK tk g.1 = 15 then 2 else qLvl (qK tk g.1))) s = some (0, s') ∧ RdR t tk s' (l ++ (qLoop tk F d ((((qClose (if qK tk g.1 = 15 then 2 else qLvl (qK tk g.1)) g.2.1 st cur)).2, (qTake tk g).1, qLvl (qK tk g.1)) :: ((qClose (if qK tk g.1 = 15 then 2 else qLvl (qK tk g.1)) g.2.1 st cur)).1) (F (qTake tk g).2).1 (F (qTake tk g).2).2).1) (qLoop tk F d ((((qClose (if qK tk g.1 = 15 then 2 else qLvl (qK tk g.1)) g.2.1 st cur)).2, (qTake tk g).1, qLvl (qK tk g.1)) :: ((qClose (if qK tk g.1 = 15 then 2 else qLvl (qK tk g.1)) g.2.1 st cur)).1) (F (qTake tk g).2).1 (F (qTake tk g).2).2).2 op0 ∧ SgB tk (qLoop tk F d ((((qClose (if qK tk g.1 = 15 then 2 else qLvl (qK tk g.1)) g.2.1 st cur)).2, (qTake tk g).1, qLvl (qK tk g.1)) :: ((qClose (if qK tk g.1 = 15 then 2 else qLvl (qK tk g.1)) g.2.1 st cur)).1) (F (qTake tk g).2).1 (F (qTake tk g).2).2).2 op0 := by
          have hBl : (if qK tk g.1 = 15 then 2 else qLvl (qK tk g.1)) ≤ 5 := by
            refine ite_le' (by decide) (by omega)
          obtain ⟨q1, q2, q3, q4, q5⟩ := qClose_ok (b := if qK tk g.1 = 15 then 2 else qLvl (qK tk g.1)) (to := g.2.1) st cur hS hc
          have hat := at_lt hW hB hk17
          have h60 : (op0 ++ qOps l.length st).length ≤ 59 := by have := hB.2.2.2; omega
          have hst : st.length ≤ 59 := by rw [List.length_append, qOps_len] at h60; omega
          obtain ⟨s1, e1, r1⟩ := pR_closeL (N := N) hBl st cur s N (by omega) hS h hl0 (by omega)
          unfold fR_expression_74 fR_closeSigns
          rw [e1, jB_s]
          generalize qClose (if qK tk g.1 = 15 then 2 else qLvl (qK tk g.1)) g.2.1 st cur = c at q1 q2 q3 q4 q5 r1 hl hf hlen ⊢
          have hl : l.length + (qLoop tk F d ((c.2, (qTake tk g).1, qLvl (qK tk g.1)) :: c.1) (F (qTake tk g).2).1 (F (qTake tk g).2).2).1.length ≤ 362 := hl
          have hf : (fls (l ++ (qLoop tk F d ((c.2, (qTake tk g).1, qLvl (qK tk g.1)) :: c.1) (F (qTake tk g).2).1 (F (qTake tk g).2).2).1)).length ≤ 180 := hf
          have hS2 : StkOk ((c.2, (qTake tk g).1, qLvl (qK tk g.1)) :: c.1) := fun q hq => by
            rcases List.mem_cons.mp hq with e | e
            · rw [e]; exact ⟨q5, hlv⟩
            · exact q3 q e
          have hlen2 := qLoop_len tk F hF d ((c.2, (qTake tk g).1, qLvl (qK tk g.1)) :: c.1) (F (qTake tk g).2).1 (F (qTake tk g).2).2 hS2 (hF _)
          have hfl : (qFlat ((c.2, (qTake tk g).1, qLvl (qK tk g.1)) :: c.1)).length = (qFlat c.1).length + c.2.length + 2 := by
            simp [qFlat, qTake]
            omega
          obtain ⟨n, m', hcm⟩ : ∃ n m', c.2 = n :: m' := by
            cases hc2 : c.2 with
            | nil => exact absurd hc2 q5
            | cons n m' => exact ⟨n, m', rfl⟩
          have r1' : RdR t tk s1 ((l ++ qFlat c.1) ++ n :: m') g (op0 ++ qOps l.length c.1) := by
            rw [List.append_assoc, ← hcm]
            exact r1
          have hpos : (l ++ qFlat c.1).length = l.length + (qFlat c.1).length := List.length_append
          obtain ⟨s2, e2, r2⟩ := pR_wrap (N := N) (kd := 26) (w := qW c.2) r1' (by rw [← hcm, List.length_append, hpos]; omega) ⟨rfl, by decide, by rw [hcm]; rfl, by rw [hcm]; rfl, rfl⟩
          rw [hpos] at e2
          rw [show (26 : Int32) = nI 26 from rfl, e2, jB_s]
          have hol : (op0 ++ qOps l.length c.1).length ≤ (op0 ++ qOps l.length st).length := by
            rw [List.length_append, List.length_append, qOps_len, qOps_len]
            omega
          obtain ⟨s3, e3, r3⟩ := pR_open (N := N) (k := l.length + (qFlat c.1).length) (b := qLvl (qK tk g.1)) r2 (by omega)
          rw [e3, jB_s]
          have r3' : RdR t tk s3 ((l ++ qFlat c.1) ++ (qW c.2 :: c.2)) g (op0 ++ qOps l.length ((c.2, (qTake tk g).1, qLvl (qK tk g.1)) :: c.1)) := by
            rw [← hcm, List.append_assoc op0] at r3
            exact r3
          have efl : ((l ++ qFlat c.1) ++ (qW c.2 :: c.2)) ++ (qTake tk g).1 = l ++ qFlat ((c.2, (qTake tk g).1, qLvl (qK tk g.1)) :: c.1) := by simp [qFlat]
          have hfb : (fls (l ++ qFlat ((c.2, (qTake tk g).1, qLvl (qK tk g.1)) :: c.1))).length + (fls (F (qTake tk g).2).1).length ≤ 180 := by
            have a := hlen2.2.1
            rw [fls_len_app] at a
            rw [fls_len_app] at hf
            rw [fls_len_app]
            omega
          obtain ⟨s4, e4, r4⟩ := pR_take0 (N := N) r3' hW hB hN (by
            rw [List.length_append, hpos, List.length_cons]
            have := hlen2.1
            omega) (by rw [efl]; omega)
          rw [e4, jB_s]
          rw [efl, if_pos hat] at r4
          have hB4 : SgB tk (qTake tk g).2 (op0 ++ qOps l.length ((c.2, (qTake tk g).1, qLvl (qK tk g.1)) :: c.1)) := by
            refine ⟨hat, (hW.2.2.2.2 g.1).2.2, Nat.zero_le _, ?_⟩
            have a := hB.2.2.2
            show _ ≤ g.1 + 1
            rw [List.length_append, qOps_len] at a ⊢
            rw [List.length_cons]
            omega
          obtain ⟨s5, e5, r5, b5⟩ := hop s4 (l ++ qFlat ((c.2, (qTake tk g).1, qLvl (qK tk g.1)) :: c.1)) (qTake tk g).2 (op0 ++ qOps l.length ((c.2, (qTake tk g).1, qLvl (qK tk g.1)) :: c.1)) trivial r4 hB4 (by
            rw [List.length_append]
            have := hlen2.1
            omega) (by rw [fls_len_app]; exact hfb)
          rw [e5, jB_s, r4.2.2.1.1, List.length_append, nI_1]
          rw [List.append_assoc] at r5
          have hd2 : 60 - (i + 1) = d := by omega
          have z := ih (i + 1) ((c.2, (qTake tk g).1, qLvl (qK tk g.1)) :: c.1) (F (qTake tk g).2).1 (F (qTake tk g).2).2 s5 (by omega) (by omega) hS2 (hF _) r5 b5
          rw [hd2] at z
          exact z hl hf
        by_cases h15 : qK tk g.1 = 15
        · rw [if_pos (show nI (qK tk g.1) = 15 by rw [h15]; rfl)]
          have e2 : nI (qLvl (qK tk g.1)) + 1 = nI (if qK tk g.1 = 15 then 2 else qLvl (qK tk g.1)) := by rw [if_pos h15, h15]; rfl
          rw [e2]
          exact go
        · rw [if_neg (show ¬ nI (qK tk g.1) = 15 from fun q => h15 ((nI_eq (by have := (hW.2.2.2.2 g.1).1; omega) (by decide)).mp q))]
          have e2 : nI (qLvl (qK tk g.1)) = nI (if qK tk g.1 = 15 then 2 else qLvl (qK tk g.1)) := by rw [if_neg h15]
          have go2 := go
          rw [← e2] at go2
          exact go2
    · have hi60 : i = 60 := by omega
      subst hi60
      rw [if_pos (by decide)]
      exact pR_ex125 hN hS hc h hW hB hl0
end PE
