/-! the reference's statements -/
section MS
variable {tk : List (Nat × Nat × Nat)} {N k : Nat}
theorem cp_skip (hT : TkA tk) (hk2 : k < 2) : CpM tk N k (fun s => fM_leaveOut N (nI k) s) (fun g => ([], qSkip tk g)) (fun _ => 0) (fun g => ¬ qK tk g.1 = 17) 0 5 := by
  intro s g m h X hk hg hi hm hl
  obtain ⟨hK, h6, h7, h8, h9, hh, hX, hS⟩ := hi
  obtain ⟨t1, t2, t3⟩ := hT.lt hg hk
  have hb := hT.2.1.2.2.2.2 g.1
  have h61 := hT.2.1.2.1
  have key : ∀ f : Nat, (f = 1 ∨ f = 3) → (jL (jsA s 2 (61 * k + qO tk g.1) (nI f)) fun s5 => (jL (jsI s5 6 (jgI s5 6 + (1 : Int32))) fun s6 => some ((0 : Int32), s6))) = some (0, jsI (jsA s 2 (61 * k + qO tk g.1) (nI f)) 6 (nI (g.1 + 1))) ∧ PoM tk N k (fun g => ([], (g.1 + 1, g.2.1, g.2.2 ++ [4 * qO tk g.1 + f]))) (fun _ => 0) 5 g m h X s (jsI (jsA s 2 (61 * k + qO tk g.1) (nI f)) 6 (nI (g.1 + 1))) := by
    intro f hf
    refine ⟨by rw [jL_e, jL_e, show jgI (jsA s 2 (61 * k + qO tk g.1) (nI f)) 6 = nI g.1 from h6, nI_1], ?_⟩
    have hs : jSm [6] [2] s (jsI (jsA s 2 (61 * k + qO tk g.1) (nI f)) 6 (nI (g.1 + 1))) := (jSm.rf.sA (by decide)).sI (by decide)
    have a2 : ∀ i, jgA (jsI (jsA s 2 (61 * k + qO tk g.1) (nI f)) 6 (nI (g.1 + 1))) 2 i = upd (jgA s 2) (61 * k + qO tk g.1) (nI f) i := fun i => rfl
    have i6 : jgI (jsI (jsA s 2 (61 * k + qO tk g.1) (nI f)) 6 (nI (g.1 + 1))) 6 = nI (g.1 + 1) := rfl
    generalize jsI (jsA s 2 (61 * k + qO tk g.1) (nI f)) 6 (nI (g.1 + 1)) = s' at hs a2 i6 ⊢
    have hmn : ∀ p, p ≠ qO tk g.1 → mkM s' k p = mkM s k p := fun p hp => by
      show jgA s' 2 _ = jgA s 2 _
      rw [a2, pk_un (by omega)]
    have hms : mkM s' k (qO tk g.1) = nI f := by
      show jgA s' 2 _ = _
      rw [a2, pk_us]
    refine ⟨s', [], 0, Rch.rf, ⟨hK.sm hs (by decide) (by decide) (by decide) (by decide), i6, by rw [hs.1 7 (by decide)]; exact h7, by rw [hs.1 8 (by decide)]; exact h8, by rw [hs.1 9 (by decide)]; exact h9, hh, hX.sm hs (by decide) (by decide) (by decide) (by decide), ?_, ?_, ?_, ?_⟩, t2, Nat.le_succ _, FoG.nil _ _, fun i hi => absurd hi (by simp), ⟨hs.wk (by decide) (by decide), fun x x1 x2 i _ => by rw [hs.2 x (by simp; omega)], fun i _ => by rw [hs.2 28 (by decide)], fun i hi => by rw [a2, pk_un (by have := hS.2.2.1; omega)]⟩, rfl, ?_⟩
    · show g.2.2 ++ [4 * qO tk g.1 + f] = mks (mkM s' k) g.2.1 (61 - g.2.1)
      have hle := hS.2.2.1
      have e1 : g.2.2 = mks (mkM s k) g.2.1 (qO tk g.1 - g.2.1) := by
        rw [hS.1, show 61 - g.2.1 = (qO tk g.1 - g.2.1) + (61 - qO tk g.1) by omega, mks_app, mks_0 (61 - qO tk g.1) _ (fun p p1 p2 => hS.2.1 p (by omega) (by omega)), List.append_nil]
      have e2 : mks (mkM s' k) (qO tk g.1) (60 - qO tk g.1 + 1) = [4 * qO tk g.1 + f] := by
        rw [mks, hms, if_neg (nI_ne0 (by omega) (by omega)), nI_clamp (by omega), mks_0 _ _ (fun p p1 p2 => by rw [hmn p (by omega)]; exact hS.2.1 p (by omega) (by omega))]
        rfl
      rw [e1, show 61 - g.2.1 = (qO tk g.1 - g.2.1) + (60 - qO tk g.1 + 1) by omega, mks_app, show g.2.1 + (qO tk g.1 - g.2.1) = qO tk g.1 by omega, e2]
      exact congrArg (· ++ _) (mks_ext _ _ (fun p p1 p2 => (hmn p (by omega)).symm))
    · intro p p1 p2
      have p1 : qO tk (g.1 + 1) ≤ p := p1
      rw [hmn p (by omega)]
      exact hS.2.1 p (by omega) p2
    · show g.2.1 ≤ qO tk (g.1 + 1)
      have := hS.2.2.1
      omega
    · intro p hp
      by_cases hq : p = qO tk g.1
      · subst hq
        rw [hms]
        rcases hf with rfl | rfl
        · exact Or.inr (Or.inl rfl)
        · exact Or.inr (Or.inr rfl)
      · rw [hmn p hq]
        exact hS.2.2.2 p hp
    · show 0 + 5 ≤ 4 * 0 + (g.1 + 1 - g.1) + 4
      omega
  have hd : ∃ s0, fM_leaveOut N (nI k) s = some (0, s0) ∧ PoM tk N k (fun g => ([], (g.1 + 1, g.2.1, g.2.2 ++ [4 * qO tk g.1 + (if qCan (qK tk g.1) = true then 3 else 1)]))) (fun _ => 0) 5 g m h X s s0 := by
    unfold fM_leaveOut
    have hidx : (61 : Int32) * nI k + nI (qO tk g.1) = nI (61 * k + qO tk g.1) := by
      rw [show (61 : Int32) = nI 61 from rfl, pk_mul, nI_add]
    rw [h6, if_pos (jIn_nI (show g.1 < 61 by omega) (by decide)), nI_clamp (show g.1 < 2 ^ 31 by omega), (hK.2 g.1 hg).2.1, hidx, pM_cur hK hT.2.1 h6 hg, jB_s, pM_starts _ hb.1, jB_s, if_pos (jIn_nI (show 61 * k + qO tk g.1 < 122 by omega) (by decide)), if_pos (jIn_nI (show 61 * k + qO tk g.1 < 122 by omega) (by decide)), nI_clamp (show 61 * k + qO tk g.1 < 2 ^ 31 by omega)]
    by_cases hc : qCan (qK tk g.1) = true
    · rw [if_pos hc, if_neg (by decide)]
      obtain ⟨e, s', R, j, r⟩ := key 3 (Or.inr rfl)
      refine ⟨_, e, s', R, j, ?_⟩
      dsimp only at r ⊢
      rw [if_pos hc]
      exact r
    · rw [if_neg hc, if_pos rfl]
      obtain ⟨e, s', R, j, r⟩ := key 1 (Or.inl rfl)
      refine ⟨_, e, s', R, j, ?_⟩
      dsimp only at r ⊢
      rw [if_neg hc]
      exact r
  exact hd
theorem qO_mono (hP : TkP tk) (hW : TkW tk) : ∀ (d i : Nat), i + d < tk.length → qO tk i + d ≤ qO tk (i + d)
  | 0, i, _ => Nat.le_refl _
  | d + 1, i, h => by
    have := qO_mono hP hW d i (by omega)
    have := (hP (i + d) (by omega) (hW.2.2.1 (i + d) (by omega))).2.1
    rw [show i + (d + 1) = i + d + 1 by omega]
    omega
theorem qStmt_go (hT : TkA tk) (r : Nat) (g : Sg) (hg : g.1 < tk.length) (hb : qBeg tk r g = true) : g.1 + 1 ≤ (qStmt tk r g).2.1 ∧ (qStmt tk r g).2.1 < tk.length := by
  obtain ⟨d, d1, d2, d3, _⟩ := qStmt_co hT.2.2 r g hg hb
  refine ⟨?_, d1⟩
  have hne := (qStmt_hd tk r g).1
  have hl : 1 ≤ (qStmt tk r g).1.length := by
    cases hq : (qStmt tk r g).1 with
    | nil => exact absurd hq hne
    | cons x y => simp
  by_cases hx : g.1 + 1 ≤ (qStmt tk r g).2.1
  · exact hx
  · have := qO_mono hT.2.2 hT.2.1 (g.1 - (qStmt tk r g).2.1) (qStmt tk r g).2.1 (by omega)
    rw [show (qStmt tk r g).2.1 + (g.1 - (qStmt tk r g).2.1) = g.1 by omega] at this
    omega
variable {st : Sg → List Nd × Sg} {r w : Nat}
theorem ck_list (hT : TkA tk) (hk2 : k < 2) (hr : r ≤ 6) {i : Nat} (hi2 : i < 2) (hst : CkM tk N k (3, 6 - r, 0) st (fun _ => 1) (fun g => qBeg tk r g = true) w 5) (hgo : ∀ g, g.1 < tk.length → qBeg tk r g = true → g.1 + 1 ≤ (st g).2.1 ∧ (st g).2.1 < tk.length) : ∀ n : Nat, CkM tk N k (2, 6 - r, i) (qListG tk st r (i == 1) n) (fun g => (qList tk st r (i == 1) n g).2.1) (fun g => g.1 < tk.length ∧ tk.length ≤ g.1 + n + 1) (w + 2) 3 := by
  intro n
  induction n with
  | zero =>
    refine CpM.task (t := (2, 6 - r, i)) ?_ (by omega)
    refine (CpM.fin (CpM.cur hT (b := fun r1 s1 => (if r1 = (17 : Int32) then some (0, s1) else (if nI i = (1 : Int32) then (if r1 = (8 : Int32) then some (0, s1) else fM_list_26 N (nI k) (nI (6 - r)) (nI i) s1) else fM_list_26 N (nI k) (nI (6 - r)) (nI i) s1))) (P := fun g => g.1 < tk.length ∧ tk.length ≤ g.1 + 0 + 1) (F := qListG tk st r (i == 1) 0) (C := fun g => (qList tk st r (i == 1) 0 g).2.1) (w := w + 2) (u := 4) (fun x hx => ?_))).of (fun s => pf_2) (fun _ _ => rfl) (fun _ _ => rfl)
    have h17 : ∀ g : Sg, (g.1 < tk.length ∧ tk.length ≤ g.1 + 0 + 1) ∧ qK tk g.1 = x → x = 17 := fun g hg => by
      have := hT.2.1.2.2.2.1
      rw [show tk.length - 1 = g.1 by omega] at this
      omega
    by_cases hx17 : x = 17
    · subst hx17
      exact (cp_id.wk (Q := fun g => (g.1 < tk.length ∧ tk.length ≤ g.1 + 0 + 1) ∧ qK tk g.1 = 17) (fun _ _ => trivial) (by omega) (by decide)).of (fun s => if_pos (by decide)) (fun _ _ => rfl) (fun _ _ => rfl)
    · intro s g m h X hP
      exact absurd (h17 g hP) hx17
  | succ n ih =>
    refine CpM.task (t := (2, 6 - r, i)) ?_ (by omega)
    refine (CpM.fin (CpM.cur hT (b := fun r1 s1 => (if r1 = (17 : Int32) then some (0, s1) else (if nI i = (1 : Int32) then (if r1 = (8 : Int32) then some (0, s1) else fM_list_26 N (nI k) (nI (6 - r)) (nI i) s1) else fM_list_26 N (nI k) (nI (6 - r)) (nI i) s1))) (P := fun g => g.1 < tk.length ∧ tk.length ≤ g.1 + (n + 1) + 1) (F := qListG tk st r (i == 1) (n + 1)) (C := fun g => (qList tk st r (i == 1) (n + 1) g).2.1) (w := w + 2) (u := 4) (fun x hx => ?_))).of (fun s => pf_2) (fun _ _ => rfl) (fun _ _ => rfl)
    by_cases hend : x = 17 ∨ ((i == 1) = true ∧ x = 8)
    · refine (cp_id.wk (Q := fun g => (g.1 < tk.length ∧ tk.length ≤ g.1 + (n + 1) + 1) ∧ qK tk g.1 = x) (fun _ _ => trivial) (by omega) (by decide)).of (fun s => ?_) (fun g hg => ?_) (fun g hg => ?_)
      · rcases hend with rfl | ⟨h1, rfl⟩
        · exact if_pos (by decide)
        · have : i = 1 := by simpa using h1
          subst this
          rw [if_neg (by decide), if_pos (by decide), if_pos (by decide)]
      · unfold qListG
        rw [qList, if_pos (by rw [hg.2]; exact hend)]
      · rw [qList, if_pos (by rw [hg.2]; exact hend)]
    · have hrun : ∀ s, (if nI x = (17 : Int32) then some ((0 : Int32), s) else (if nI i = (1 : Int32) then (if nI x = (8 : Int32) then some (0, s) else fM_list_26 N (nI k) (nI (6 - r)) (nI i) s) else fM_list_26 N (nI k) (nI (6 - r)) (nI i) s)) = fM_list_26 N (nI k) (nI (6 - r)) (nI i) s := by
        intro s
        rw [if_neg (show ¬ nI x = 17 from nIe (c := 17) hx (by decide) (fun z => hend (Or.inl z)))]
        by_cases h1 : i = 1
        · subst h1
          rw [if_pos (by decide), if_neg (show ¬ nI x = 8 from nIe (c := 8) hx (by decide) (fun z => hend (Or.inr ⟨rfl, z⟩)))]
        · rw [if_neg (show ¬ nI i = 1 from nIe (c := 1) (by omega) (by decide) h1)]
      have hb : CpM tk N k (fun s => jB (fM_begins N (nI (6 - r)) s) fun r2602 s2602 => (if r2602 = 0 then (jB (fM_leaveOut N (nI k) s2602) fun r2604 s2604 => some ((0 : Int32), s2604)) else (jB (fM_add N (3 : Int32) (nI (6 - r)) (0 : Int32) s2602) fun r2605 s2605 => some (0, s2605)))) (fun g => if qBeg tk r g = true then st g else ([], qSkip tk g)) (fun g => if qBeg tk r g = true then 1 else 0) (fun g => (g.1 < tk.length ∧ tk.length ≤ g.1 + (n + 1) + 1) ∧ qK tk g.1 = x) (w + 1) 5 := by
        refine CpM.beg hT hr (b := fun r2602 s2602 => (if r2602 = 0 then (jB (fM_leaveOut N (nI k) s2602) fun r2604 s2604 => some ((0 : Int32), s2604)) else (jB (fM_add N (3 : Int32) (nI (6 - r)) (0 : Int32) s2602) fun r2605 s2605 => some (0, s2605)))) ?_ ?_
        · have z := cp_id.wk (tk := tk) (N := N) (k := k) (Q := fun g => ((g.1 < tk.length ∧ tk.length ≤ g.1 + (n + 1) + 1) ∧ qK tk g.1 = x) ∧ qBeg tk r g = true) (w' := 0) (u' := 4) (fun _ _ => trivial) (Nat.le_refl _) (Nat.le_refl _)
          refine (z.add (t := (3, 6 - r, 0)) hst (fun g hg => hg.2) (w := w + 1) (u := 5) (by omega) (by omega) (by omega)).of (fun s => if_neg (by decide)) (fun g hg => ?_) (fun g hg => ?_)
          · rw [if_pos hg.2]
            rfl
          · rw [if_pos hg.2]
        · refine ((cp_skip (N := N) hT hk2).fin.wk (Q := fun g => ((g.1 < tk.length ∧ tk.length ≤ g.1 + (n + 1) + 1) ∧ qK tk g.1 = x) ∧ ¬ qBeg tk r g = true) (fun g hg z => hend (Or.inl (by omega))) (by omega) (by decide)).of (fun s => if_pos rfl) (fun g hg => ?_) (fun g hg => ?_)
          · rw [if_neg hg.2]
          · rw [if_neg hg.2]
      refine (hb.add (t := (2, 6 - r, i)) ih (fun g hg => ?_) (w := w + 2) (u := 4) (by omega) (by omega) (by omega)).of (fun s => ?_) (fun g hg => ?_) (fun g hg => ?_)
      · by_cases hq : qBeg tk r g = true
        · rw [if_pos hq]
          have := hgo g hg.1.1 hq
          omega
        · rw [if_neg hq]
          show g.1 + 1 < tk.length ∧ tk.length ≤ g.1 + 1 + n + 1
          have := (hT.lt hg.1.1 (fun z => hend (Or.inl (by omega)))).2.1
          omega
      · rw [hrun s]
        rfl
      · unfold qListG qSeq
        dsimp only
        rw [qList, if_neg (by rw [hg.2]; exact hend)]
        by_cases hq : qBeg tk r g = true
        · simp only [if_pos hq]
        · simp only [if_neg hq]
          rfl
      · rw [qList, if_neg (by rw [hg.2]; exact hend)]
        by_cases hq : qBeg tk r g = true
        · simp only [if_pos hq]
          omega
        · simp only [if_neg hq]
          omega
theorem ck_part (hT : TkA tk) (hN : 500 ≤ N) (hr : r ≤ 6) (hw : 1 ≤ w) (hst : CkM tk N k (3, 6 - r, 0) st (fun _ => 1) (fun g => qBeg tk r g = true) w 5) : CkM tk N k (6, 6 - r, 0) (qPart tk st r) (fun _ => 1) (fun _ => True) w 4 := by
  refine CpM.task (t := (6, 6 - r, 0)) ?_ hw
  refine (CpM.fin (CpM.beg hT hr (b := fun r1 s1 => (if r1 = 0 then (jB (fM_add N (0 : Int32) (25 : Int32) (jgI s1 9) s1) fun r3 s3 => (jB (fM_current N s3) fun r4 s4 => (jB (fM_starts N r4 s4) fun r5 s5 => (if r5 = 0 then (jB (fM_lack N (6 : Int32) (2 : Int32) s5) fun r7 s7 => some (0, s7)) else (jB (fM_lack N (6 : Int32) (3 : Int32) s5) fun r8 s8 => some (0, s8)))))) else (jB (fM_add N (3 : Int32) (nI (6 - r)) (0 : Int32) s1) fun r9 s9 => some (0, s9)))) (P := fun _ => True) (F := qPart tk st r) (C := fun _ => 1) (w := w) (u := 5) ?_ ?_)).of (fun s => pf_6) (fun _ _ => rfl) (fun _ _ => rfl)
  · have z := cp_id.wk (tk := tk) (N := N) (k := k) (Q := fun g => True ∧ qBeg tk r g = true) (w' := 0) (u' := 4) (fun _ _ => trivial) (Nat.le_refl _) (Nat.le_refl _)
    refine (z.add (t := (3, 6 - r, 0)) hst (fun g hg => hg.2) (w := w) (u := 5) (by omega) (by omega) (by omega)).of (fun s => if_neg (by decide)) (fun g hg => ?_) (fun g hg => rfl)
    unfold qPart
    rw [if_pos hg.2]
    rfl
  · have z : CpM tk N k (fun s => jB (fM_current N s) fun r4 s4 => (jB (fM_starts N r4 s4) fun r5 s5 => (if r5 = 0 then (jB (fM_lack N (6 : Int32) (2 : Int32) s5) fun r7 s7 => some ((0 : Int32), s7)) else (jB (fM_lack N (6 : Int32) (3 : Int32) s5) fun r8 s8 => some (0, s8))))) (fun g => qMiss 6 (if qCan (qK tk g.1) = true then 3 else 2) g) (fun _ => 1) (fun g => True ∧ ¬ qBeg tk r g = true) 0 8 := by
      refine CpM.cur hT (b := fun r4 s4 => (jB (fM_starts N r4 s4) fun r5 s5 => (if r5 = 0 then (jB (fM_lack N (6 : Int32) (2 : Int32) s5) fun r7 s7 => some ((0 : Int32), s7)) else (jB (fM_lack N (6 : Int32) (3 : Int32) s5) fun r8 s8 => some (0, s8))))) (fun x hx => ?_)
      by_cases hc : qCan x = true
      · refine ((cp_lack (tk := tk) (N := N) (k := k) (kd := 6) (f := 3) (by decide) (Or.inr rfl)).fin.wk (fun _ _ => trivial) (Nat.le_refl _) (Nat.le_refl _)).of (fun s => ?_) (fun g hg => ?_) (fun _ _ => rfl)
        · rw [pM_starts x hx, jB_s, if_pos hc, if_neg (by decide)]
          rfl
        · rw [hg.2, if_pos hc]
      · refine ((cp_lack (tk := tk) (N := N) (k := k) (kd := 6) (f := 2) (by decide) (Or.inl rfl)).fin.wk (fun _ _ => trivial) (Nat.le_refl _) (Nat.le_refl _)).of (fun s => ?_) (fun g hg => ?_) (fun _ _ => rfl)
        · rw [pM_starts x hx, jB_s, if_neg hc, if_pos rfl]
          rfl
        · rw [hg.2, if_neg hc]
    refine (z.red (kd := 25) (w := w) (u := 5) hN (by decide) (by decide) (fun _ _ => by omega) (by omega) (by omega)).of (fun s => ?_) (fun g hg => ?_) (fun _ _ => rfl)
    · rw [if_pos rfl]
      rfl
    · unfold qPart
      rw [if_neg hg.2]
      rfl
theorem ck_else (hT : TkA tk) (hw : 1 ≤ w) {F : Sg → List Nd × Sg} (hp : CkM tk N k (6, 6 - r, 0) F (fun _ => 1) (fun _ => True) w 4) : CkM tk N k (5, 6 - r, 0) (qElse tk F) (fun g => if qK tk g.1 = 4 then 2 else 0) (fun _ => True) w 3 := by
  refine CpM.task (t := (5, 6 - r, 0)) ?_ hw
  refine (CpM.fin (CpM.cur hT (b := fun r1 s1 => (if r1 = (4 : Int32) then (jB (fM_take N s1) fun r3 s3 => (jB (fM_add N (6 : Int32) (nI (6 - r)) (0 : Int32) s3) fun r4 s4 => some (0, s4))) else some (0, s1))) (P := fun _ => True) (F := qElse tk F) (C := fun g => if qK tk g.1 = 4 then 2 else 0) (w := w) (u := 4) (fun x hx => ?_))).of (fun s => pf_5) (fun _ _ => rfl) (fun _ _ => rfl)
  by_cases h4 : x = 4
  · subst h4
    have z := (cp_id (tk := tk) (N := N) (k := k)).add (t := (6, 6 - r, 0)) hp (fun _ _ => trivial) (w := w) (u := 4) (by omega) (by omega) (by omega)
    refine ((CpM.tak hT z (u := 4) (fun _ _ => trivial) (by omega)).wk (Q := fun g => True ∧ qK tk g.1 = 4) (fun g hg => by omega) (Nat.le_refl _) (Nat.le_refl _)).of (fun s => if_pos (by decide)) (fun g hg => ?_) (fun g hg => ?_)
    · unfold qElse
      rw [if_pos hg.2]
      rfl
    · rw [if_pos hg.2]
  · refine (cp_id.wk (fun _ _ => trivial) (by omega) (by decide)).of (fun s => if_neg (show ¬ nI x = 4 from nIe (c := 4) hx (by decide) h4)) (fun g hg => ?_) (fun g hg => ?_)
    · unfold qElse
      rw [if_neg (by omega)]
    · rw [if_neg (by omega)]
end MS
