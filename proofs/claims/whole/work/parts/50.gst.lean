/-! the group of statements, by its depth -/
theorem jB_assoc {σ τ ρ : Type} (x : Option (Int32 × σ)) (f : Int32 → σ → Option (Int32 × τ)) (k : Int32 → τ → Option ρ) : jB (jB x f) k = jB x fun r s => jB (f r s) k := by cases x <;> rfl
theorem hdF_app {a x y : List Nd} (h : nF (ndA x 0) = nF (ndA y 0)) : nF (ndA (a ++ x) 0) = nF (ndA (a ++ y) 0) := by
  cases a with
  | nil => exact h
  | cons n a => rfl
theorem hd_app {a x : List Nd} (h : a ≠ []) : ndA (a ++ x) 0 = ndA a 0 := by
  cases a with
  | nil => exact absurd rfl h
  | cons n a => rfl
theorem qClose_hd {b to : Nat} : ∀ (st : Stk) (cur : List Nd), StkOk st → nF (ndA (qFlat (qClose b to st cur).1 ++ (qClose b to st cur).2) 0) = nF (ndA (qFlat st ++ cur) 0)
  | [], cur, _ => rfl
  | (L, S, x) :: r, cur, hS => by
    rw [qClose]
    by_cases hb : b ≤ x
    · rw [if_pos hb, qClose_hd (b := b) (to := to) r (qNode 26 3 (L ++ (S ++ cur)) to) (fun q hq => hS q (List.mem_cons_of_mem _ hq))]
      rw [qFlat, List.append_assoc]
      refine hdF_app ?_
      show nF ((L ++ (S ++ cur)).headD (0, 0, 0, 0, 0, 0, 0, [])) = nF (ndA L 0)
      rw [headD_ndA, hd_app (hS (L, S, x) List.mem_cons_self).1]
    · rw [if_neg hb]
theorem qLoop_hd (tk : List (Nat × Nat × Nat)) (F : Sg → List Nd × Sg) (hF : ∀ g, (F g).1 ≠ []) : ∀ (n : Nat) (st : Stk) (cur : List Nd) (g : Sg), StkOk st → cur ≠ [] → nF (ndA (qLoop tk F n st cur g).1 0) = nF (ndA (qFlat st ++ cur) 0) := by
  intro n
  have fin : ∀ (st : Stk) (cur : List Nd) (g : Sg), StkOk st → cur ≠ [] → nF (ndA (qClose 0 g.2.1 st cur).2 0) = nF (ndA (qFlat st ++ cur) 0) := by
    intro st cur g hS hc
    have h := qClose_hd (b := 0) (to := g.2.1) st cur hS
    rw [qClose_0] at h
    exact h
  induction n with
  | zero => exact fin
  | succ n ih =>
    intro st cur g hS hc
    rw [qLoop]
    by_cases hl : qLvl (qK tk g.1) = 0
    · rw [if_pos hl]
      exact fin st cur g hS hc
    · rw [if_neg hl]
      have hh := qClose_hd (b := if qK tk g.1 = 15 then 2 else qLvl (qK tk g.1)) (to := g.2.1) st cur hS
      obtain ⟨h1, h2, h3, h4, h5⟩ := qClose_ok (b := if qK tk g.1 = 15 then 2 else qLvl (qK tk g.1)) (to := g.2.1) st cur hS hc
      have hlv : qLvl (qK tk g.1) ≤ 4 := by unfold qLvl; repeat' (first | apply ite_le' | decide)
      generalize qClose (if qK tk g.1 = 15 then 2 else qLvl (qK tk g.1)) g.2.1 st cur = c at h1 h2 h3 h4 h5 hh
      have z := ih ((c.2, (qTake tk g).1, qLvl (qK tk g.1)) :: c.1) (F (qTake tk g).2).1 (F (qTake tk g).2).2 (fun q hq => by
        rcases List.mem_cons.mp hq with e | e
        · rw [e]; exact ⟨h5, hlv⟩
        · exact h3 q e) (hF _)
      refine z.trans ?_
      rw [← hh, qFlat, List.append_assoc]
      refine hdF_app ?_
      rfl
theorem qOpd_hd (tk : List (Nat × Nat × Nat)) (q : Nat) (g : Sg) : nF (ndA (qOpd tk q g).1 0) = g.2.1 := by
  cases q with
  | zero =>
    rw [qOpd]
    split
    · rfl
    · split <;> rfl
  | succ q =>
    rw [qOpd]
    split
    · rfl
    · split
      · rfl
      · split <;> rfl
theorem qEx_hd (tk : List (Nat × Nat × Nat)) (g : Sg) : nF (ndA (qEx tk g).1 0) = g.2.1 := by
  have h := qLoop_hd tk (qOpd tk 6) (qOpd_ne tk 6) 60 [] (qOpd tk 6 g).1 (qOpd tk 6 g).2 (fun q hq => absurd hq List.not_mem_nil) (qOpd_ne tk 6 g)
  exact h.trans (qOpd_hd tk 6 g)
theorem qEx_ne (tk : List (Nat × Nat × Nat)) (g : Sg) : (qEx tk g).1 ≠ [] :=
  (qLoop_len tk (qOpd tk 6) (qOpd_ne tk 6) 60 [] (qOpd tk 6 g).1 (qOpd tk 6 g).2 (fun q hq => absurd hq List.not_mem_nil) (qOpd_ne tk 6 g)).2.2
def qSeq (A B : Sg → List Nd × Sg) (g : Sg) : List Nd × Sg := ((A g).1 ++ (B (A g).2).1, (B (A g).2).2)
def qOver (k : Nat) (c : Sg → Nat) (A : Sg → List Nd × Sg) (g : Sg) : List Nd × Sg := (qNode k (c g) (A g).1 (A g).2.2.1, (A g).2)
section PH
variable {t : List Int32} {tk : List (Nat × Nat × Nat)} {N : Nat} {f h : jS → Option (Int32 × jS)} {A B : Sg → List Nd × Sg} {P Q : Sg → Prop}
theorem CtG.of {f' : jS → Option (Int32 × jS)} {A' : Sg → List Nd × Sg} (ha : CtG t tk f A P) (h1 : ∀ s, f' s = f s) (h2 : ∀ g, P g → A' g = A g) : CtG t tk f' A' P := by
  intro s l g op hp hr hB hl hf
  rw [h2 g hp] at hl hf ⊢
  rw [h1 s]
  exact ha s l g op hp hr hB hl hf
theorem CtG.pre (ha : CtG t tk f A P) (hq : ∀ g, Q g → P g) : CtG t tk f A Q := fun s l g op hp hr hB hl hf => ha s l g op (hq g hp) hr hB hl hf
theorem CtG.seq (ha : CtG t tk f A P) (hb : CtG t tk h B Q) (hPQ : ∀ g, P g → Q (A g).2) : CtG t tk (fun s => jB (f s) fun _ s1 => h s1) (qSeq A B) P := by
  intro s l g op hp hr hB hl hf
  have hl : l.length + ((A g).1 ++ (B (A g).2).1).length ≤ 362 := hl
  have hf : (fls (l ++ ((A g).1 ++ (B (A g).2).1))).length ≤ 180 := hf
  rw [List.length_append] at hl
  rw [fls_len_app, fls_len_app] at hf
  obtain ⟨s1, e1, r1, b1⟩ := ha s l g op hp hr hB (by omega) (by rw [fls_len_app]; omega)
  obtain ⟨s2, e2, r2, b2⟩ := hb s1 _ (A g).2 op (hPQ g hp) r1 b1 (by rw [List.length_append]; omega) (by rw [fls_len_app, fls_len_app]; omega)
  refine ⟨s2, ?_, ?_, b2⟩
  · show jB (f s) (fun _ s1 => h s1) = _
    rw [e1, jB_s, e2]
  · rw [List.append_assoc] at r2
    exact r2
theorem CtG.fin (ha : CtG t tk f A P) : CtG t tk (fun s => jB (f s) fun _ s1 => some ((0 : Int32), s1)) A P := by
  intro s l g op hp hr hB hl hf
  obtain ⟨s1, e1, r1, b1⟩ := ha s l g op hp hr hB hl hf
  refine ⟨s1, ?_, r1, b1⟩
  show jB (f s) (fun _ s1 => some ((0 : Int32), s1)) = _
  rw [e1, jB_s]
theorem CtG.node {k : Nat} {c : Sg → Nat} (hk : 20 ≤ k) (ha : CtG t tk f A P) (hA : ∀ g, P g → nF (ndA (A g).1 0) = g.2.1) : CtG t tk (fun s => jB (fR_begin N (nI k) s) fun r s1 => jB (f s1) fun _ s2 => jB (fT_close N r s2) fun _ s3 => some ((0 : Int32), s3)) (qOver k c A) P := by
  intro s l g op hp hr hB hl hf
  have hl : l.length + (qNode k (c g) (A g).1 (A g).2.2.1).length ≤ 362 := hl
  have hf : (fls (l ++ qNode k (c g) (A g).1 (A g).2.2.1)).length ≤ 180 := hf
  rw [qNode_len] at hl
  rw [fls_len_app, qNode_fls] at hf
  obtain ⟨s1, e1, r1⟩ := pR_begin (N := N) (k := k) hr (by omega) 0 0 0
  obtain ⟨s2, e2, r2, b2⟩ := ha s1 _ g op hp r1 hB (by simp; omega) (by rw [fls_len_app, fls_len_app, fls_one]; simp only [nL, List.length_nil]; omega)
  have r2' : RdR t tk s2 (l ++ (k, g.2.1, 0, g.2.1, 0, 0, 1, []) :: (A g).1) (A g).2 op := by simpa using r2
  obtain ⟨s3, e3, r3⟩ := pR_close (N := N) (n' := (k, g.2.1, (A g).2.2.1, nO ((A g).1.headD (0, 0, 0, 0, 0, 0, 0, [])), 0, c g, (A g).1.length + 1, [])) r2' (by simp; omega) ⟨rfl, rfl, rfl, fun q => absurd (show k < 20 from q) (by omega), rfl⟩
  refine ⟨s3, ?_, ?_, b2⟩
  · show jB (fR_begin N (nI k) s) _ = _
    rw [e1, jB_s]
    show jB (f s1) _ = _
    rw [e2, jB_s, e3, jB_s]
  · show RdR t tk s3 (l ++ qNode k (c g) (A g).1 (A g).2.2.1) (A g).2 op
    unfold qNode
    rw [headD_ndA, hA g hp, ← headD_ndA]
    exact r3
theorem ct_take (hN : 100 ≤ N) (hW : TkW tk) : CtG t tk (fun s => fR_take N s) (qTake tk) (fun g => ¬ qK tk g.1 = 17) := fun _ _ _ _ hk h hB hl hf => pR_take h hW hB hN hk hl hf
theorem ct_exp {k : Nat} (hN : 100 ≤ N) (hW : TkW tk) (hk : k ≤ 16) : CtG t tk (fun s => fR_expect N (nI k) s) (qExp tk k) (fun _ => True) := fun _ _ _ _ _ h hB hl hf => pR_expect h hW hB hN hk hl hf
theorem ct_miss {k m : Nat} : CtG t tk (fun s => fR_miss N (nI k) (nI m) s) (qMiss k m) (fun _ => True) := fun _ _ _ _ _ h hB hl hf => by
  obtain ⟨s', e, r⟩ := pR_miss (N := N) h hB hl hf
  exact ⟨s', e, r, hB⟩
theorem ct_cond (hN : 100 ≤ N) (hW : TkW tk) : CtG t tk (fun s => fR_condition N s) (qCond tk) (fun _ => True) :=
  ((ct_exp (k := 9) hN hW (by decide)).seq ((pG_ex hN hW).seq (ct_exp (k := 10) hN hW (by decide)).fin (fun _ _ => trivial)) (fun _ _ => trivial)).of (fun _ => rfl) (fun _ _ => rfl)
theorem ct_simple (hN : 100 ≤ N) (hW : TkW tk) : CtG t tk (fun s => fR_simpleStatement N s) (qSimple tk) (fun _ => True) :=
  (CtG.node (N := N) (k := 24) (c := fun _ => 2) (by decide) ((pG_ex hN hW).seq (ct_exp (k := 6) hN hW (by decide)) (fun _ _ => trivial)) (fun g _ => by
    show nF (ndA ((qEx tk g).1 ++ _) 0) = _
    rw [hd_app (qEx_ne tk g), qEx_hd])).of (fun s => by simp only [jB_assoc]; rfl) (fun _ _ => rfl)
theorem ct_empty (hN : 100 ≤ N) (hW : TkW tk) : CtG t tk (fun s => fR_emptyStatement N s) (qEmpty tk) (fun g => ¬ qK tk g.1 = 17) :=
  (CtG.node (N := N) (k := 25) (c := fun _ => 1) (by decide) (ct_take hN hW) (fun g _ => rfl)).of (fun s => rfl) (fun _ _ => rfl)
theorem pH_can {s : jS} : ∀ k : Nat, k ≤ 17 → fR_canBegin N (nI k) s = some (if qCan k = true then 1 else 0, s) := by
  intro n hn
  rcases (show n = 0 ∨ n = 1 ∨ n = 2 ∨ n = 3 ∨ n = 4 ∨ n = 5 ∨ n = 6 ∨ n = 7 ∨ n = 8 ∨ n = 9 ∨ n = 10 ∨ n = 11 ∨ n = 12 ∨ n = 13 ∨ n = 14 ∨ n = 15 ∨ n = 16 ∨ n = 17 by omega) with rfl | rfl | rfl | rfl | rfl | rfl | rfl | rfl | rfl | rfl | rfl | rfl | rfl | rfl | rfl | rfl | rfl | rfl <;> rfl
theorem pH_fol {s : jS} {l : List Nd} {g : Sg} {op : List (Nat × Nat)} {r : Nat} (hr : r ≤ 6) (h : RdR t tk s l g op) (hW : TkW tk) (hB : SgB tk g op) : fR_statementFollows N (nI (6 - r)) s = some (if qBeg tk r g = true then 1 else 0, s) := by
  unfold fR_statementFollows qBeg
  rw [pK_kind h hW hB, jB_s]
  have hk := (hW.2.2.2.2 g.1).1
  generalize qK tk g.1 = n at hk ⊢
  rcases (show n = 0 ∨ n = 1 ∨ n = 2 ∨ n = 3 ∨ n = 4 ∨ n = 5 ∨ n = 6 ∨ n = 7 ∨ n = 8 ∨ n = 9 ∨ n = 10 ∨ n = 11 ∨ n = 12 ∨ n = 13 ∨ n = 14 ∨ n = 15 ∨ n = 16 ∨ n = 17 by omega) with rfl | rfl | rfl | rfl | rfl | rfl | rfl | rfl | rfl | rfl | rfl | rfl | rfl | rfl | rfl | rfl | rfl | rfl <;> rcases (show r = 0 ∨ r = 1 ∨ r = 2 ∨ r = 3 ∨ r = 4 ∨ r = 5 ∨ r = 6 by omega) with rfl | rfl | rfl | rfl | rfl | rfl | rfl <;> rfl
theorem pH_end {s : jS} {l : List Nd} {g : Sg} {op : List (Nat × Nat)} {r : Nat} (hr : r ≤ 6) (h : RdR t tk s l g op) (hW : TkW tk) (hB : SgB tk g op) : fR_listEnds N (nI (6 - r)) s = some (if qK tk g.1 = 17 ∨ (decide (r < 6) = true ∧ qK tk g.1 = 8) then 1 else 0, s) := by
  unfold fR_listEnds fR_listEnds_9
  simp only [pK_kind h hW hB, jB_s]
  have hk := (hW.2.2.2.2 g.1).1
  generalize qK tk g.1 = n at hk ⊢
  rcases (show n = 0 ∨ n = 1 ∨ n = 2 ∨ n = 3 ∨ n = 4 ∨ n = 5 ∨ n = 6 ∨ n = 7 ∨ n = 8 ∨ n = 9 ∨ n = 10 ∨ n = 11 ∨ n = 12 ∨ n = 13 ∨ n = 14 ∨ n = 15 ∨ n = 16 ∨ n = 17 by omega) with rfl | rfl | rfl | rfl | rfl | rfl | rfl | rfl | rfl | rfl | rfl | rfl | rfl | rfl | rfl | rfl | rfl | rfl <;> rcases (show r = 0 ∨ r = 1 ∨ r = 2 ∨ r = 3 ∨ r = 4 ∨ r = 5 ∨ r = 6 by omega) with rfl | rfl | rfl | rfl | rfl | rfl | rfl <;> rfl
end PH
