/-! the class's reading: where it stands -/
def PnR (s : jS) (pd : List Nat) : Prop := jgI s 6 = nI pd.length ∧ ∀ i, i < pd.length → jgA s 10 i = nI (pd.getD i 0 / 4) ∧ jgA s 11 i = nI (pd.getD i 0 % 4)
def OpR (s : jS) (op : List (Nat × Nat)) : Prop := jgI s 7 = nI op.length ∧ ∀ i, i < op.length → jgA s 12 i = nI (op.getD i (0, 0)).1 ∧ jgA s 13 i = nI (op.getD i (0, 0)).2
theorem PnR.sm {s s' : jS} {pd : List Nat} {ks as : List Nat} (h : PnR s pd) (hs : jSm ks as s s') (h6 : 6 ∉ ks) (a1 : 10 ∉ as) (a2 : 11 ∉ as) : PnR s' pd := ⟨by rw [hs.1 6 h6]; exact h.1, fun i hi => by rw [hs.2 10 a1, hs.2 11 a2]; exact h.2 i hi⟩
theorem OpR.sm {s s' : jS} {op : List (Nat × Nat)} {ks as : List Nat} (h : OpR s op) (hs : jSm ks as s s') (h6 : 7 ∉ ks) (a1 : 12 ∉ as) (a2 : 13 ∉ as) : OpR s' op := ⟨by rw [hs.1 7 h6]; exact h.1, fun i hi => by rw [hs.2 12 a1, hs.2 13 a2]; exact h.2 i hi⟩
/-- the tokens: the END is the last, and only there -/
def TkW (tk : List (Nat × Nat × Nat)) : Prop := 1 ≤ tk.length ∧ tk.length ≤ 61 ∧ (∀ i, i + 1 < tk.length → ¬ qK tk i = 17) ∧ qK tk (tk.length - 1) = 17 ∧ ∀ i, qK tk i ≤ 17 ∧ qO tk i ≤ 60 ∧ qE tk i ≤ 60
/-- the reading stands at g, with the nodes l and the open signs op -/
def RdR (t : List Int32) (tk : List (Nat × Nat × Nat)) (s : jS) (l : List Nd) (g : Sg) (op : List (Nat × Nat)) : Prop := TxR s t ∧ TkR s tk ∧ TrR s l ∧ jgI s 2 = nI g.1 ∧ jgI s 5 = nI g.2.1 ∧ PnR s g.2.2 ∧ OpR s op
/-- bounds of such a place -/
def SgB (tk : List (Nat × Nat × Nat)) (g : Sg) (op : List (Nat × Nat)) : Prop := g.1 < tk.length ∧ g.2.1 ≤ 60 ∧ g.2.2.length ≤ g.1 ∧ op.length ≤ g.1
section PR
variable {t : List Int32} {tk : List (Nat × Nat × Nat)} {s : jS} {l : List Nd} {g : Sg} {op : List (Nat × Nat)} {N : Nat}
theorem pK_kind {op' : List (Nat × Nat)} (h : RdR t tk s l g op) (hW : TkW tk) (hB : SgB tk g op') : fK_kind N s = some (nI (qK tk g.1), s) := by
  obtain ⟨hT, hK, hR, h2, h5, hP, hO⟩ := h
  have := hW.2.1
  have := hB.1
  unfold fK_kind
  rw [hK.1, h2, if_neg (nI_ge hB.1 (by omega)), if_pos (jIn_nI (by omega) (by decide)), nI_clamp (by omega), (hK.2 g.1 hB.1).1]
theorem pK_own {op' : List (Nat × Nat)} (h : RdR t tk s l g op) (hW : TkW tk) (hB : SgB tk g op') : fK_own N s = some (nI (qO tk g.1), s) := by
  obtain ⟨hT, hK, hR, h2, h5, hP, hO⟩ := h
  have := hW.2.1
  have := hB.1
  unfold fK_own
  rw [hK.1, h2, if_neg (nI_ge hB.1 (by omega)), if_pos (jIn_nI (by omega) (by decide)), nI_clamp (by omega), (hK.2 g.1 hB.1).2.1]
theorem pK_end (hK : TkR s tk) {a : Nat} (h2 : jgI s 2 = nI a) (hW : TkW tk) (hB : a < tk.length) : fK_end N s = some (nI (qE tk a), s) := by
  have := hW.2.1
  unfold fK_end
  rw [hK.1, h2, if_neg (nI_ge hB (by omega)), if_pos (jIn_nI (by omega) (by decide)), nI_clamp (by omega), (hK.2 a hB).2.2]
theorem pK_adv (hK : TkR s tk) {a : Nat} (h2 : jgI s 2 = nI a) (hW : TkW tk) (hB : a < tk.length) : ∃ s', fK_advance N s = some (0, s') ∧ jgI s' 2 = nI (if a + 1 < tk.length then a + 1 else a) ∧ jSm [2] [] s s' := by
  have := hW.2.1
  have := hW.1
  unfold fK_advance
  rw [hK.1, h2, show nI tk.length - 1 = nI (tk.length - 1) from pk_sub (b := 1) hW.1]
  by_cases hq : a + 1 < tk.length
  · rw [if_neg (nI_ge (by omega) (by omega)), jL_e, nI_1, if_pos hq]
    exact ⟨_, rfl, by rw [jgI_sI, if_pos rfl], jSm.rf.sI (by decide)⟩
  · rw [if_pos (nI_le (by omega) (by omega)), if_neg hq]
    exact ⟨_, rfl, h2, jSm.rf⟩
theorem take_snoc {pd : List Nat} {i : Nat} (h : i < pd.length) : pd.take (i + 1) = pd.take i ++ [pd.getD i 0] := by
  rw [List.take_succ]
  simp [List.getD, h]
theorem pR_takeL (hT : TkW tk) {n : Nd} {a : Nat} (ha : a < tk.length) {pd : List Nat} (hpd : pd.length ≤ 60) : ∀ (m i : Nat) (s : jS), pd.length < i + m → i ≤ pd.length → TkR s tk → TrR s (l ++ [sL n (pd.take i)]) → jgI s 2 = nI a → PnR s pd → (fls (l ++ [sL n pd])).length ≤ 180 → ∃ s', fR_take_28 N m (nI i) s = some (0, s') ∧ TrR s' (l ++ [sL n pd]) ∧ jgI s' 6 = 0 ∧ jgI s' 5 = nI (qE tk a) ∧ jgI s' 2 = nI (if a + 1 < tk.length then a + 1 else a) ∧ jSm [2, 4, 5, 6] [9] s s' := by
  intro m
  induction m with
  | zero => intro i s h1 h2; omega
  | succ m ih =>
    intro i s h1 h2 hK hR h2a hP hF
    show ∃ s', fR_take_b28 N (fR_take_28 N m) (nI i) s = some (0, s') ∧ _
    unfold fR_take_b28
    rw [hP.1]
    by_cases hi : i < pd.length
    · rw [if_neg (nI_ge hi (by omega)), if_pos (jIn_nI (by omega) (by decide)), if_pos (jIn_nI (by omega) (by decide)), nI_clamp (by omega), (hP.2 i hi).1, (hP.2 i hi).2]
      have hlt : (fls (l ++ [sL n (pd.take i)])).length < 180 := by
        rw [fls_app, fls_one, List.length_append] at hF ⊢
        have e1 : (nL (sL n pd)).length = pd.length := rfl
        have e2 : (nL (sL n (pd.take i))).length = i := by
          show (pd.take i).length = i
          rw [List.length_take]
          omega
        omega
      obtain ⟨s1, e1, r1, m1⟩ := pT_addFault (N := N) (p := pd.getD i 0 / 4) (f := pd.getD i 0 % 4) hR hlt
      rw [e1, jB_s, nI_1]
      have e4 : 4 * (pd.getD i 0 / 4) + pd.getD i 0 % 4 = pd.getD i 0 := by omega
      rw [e4] at r1
      have r1 : TrR s1 (l ++ [sL n (pd.take (i + 1))]) := by
        rw [take_snoc hi]
        exact r1
      obtain ⟨s2, e2, r2, a6, a5, a2, m2⟩ := ih (i + 1) s1 (by omega) (by omega) (hK.sm m1 (by decide) (by decide) (by decide) (by decide)) r1 (by rw [m1.1 2 (by decide)]; exact h2a) (hP.sm m1 (by decide) (by decide) (by decide)) hF
      exact ⟨s2, e2, r2, a6, a5, a2, (m1.wk (by decide) (by decide)).tr m2⟩
    · rw [if_pos (nI_le (by omega) (by omega)), jL_e]
      have m1 : jSm [2, 4, 5, 6] [9] s (jsI s 6 0) := jSm.rf.sI (by decide)
      have z6 : jgI (jsI s 6 0) 6 = 0 := rfl
      have z2 : jgI (jsI s 6 0) 2 = nI a := h2a
      have zK : TkR (jsI s 6 0) tk := hK.sm (jSm.rf.sI (ks := [6]) (as := []) (by decide)) (by decide) (by decide) (by decide) (by decide)
      have zR : TrR (jsI s 6 0) (l ++ [sL n pd]) := by
        rw [show pd.take i = pd from List.take_of_length_le (by omega)] at hR
        exact hR.sm (jSm.rf.sI (ks := [6]) (as := []) (by decide)) (by decide) (by decide) (by decide) (by decide) (by decide) (by decide) (by decide) (by decide)
      generalize jsI s 6 0 = s1 at m1 z6 z2 zK zR ⊢
      rw [pK_end zK z2 hT ha, jB_s, jL_e]
      have m2 : jSm [5] [] s1 (jsI s1 5 (nI (qE tk a))) := jSm.rf.sI (by decide)
      have y5 : jgI (jsI s1 5 (nI (qE tk a))) 5 = nI (qE tk a) := rfl
      generalize jsI s1 5 (nI (qE tk a)) = s2 at m2 y5 ⊢
      obtain ⟨s3, e3, a2, m3⟩ := pK_adv (N := N) (zK.sm m2 (by decide) (by decide) (by decide) (by decide)) (by rw [m2.1 2 (by decide)]; exact z2) hT ha
      rw [e3, jB_s]
      refine ⟨s3, rfl, (zR.sm m2 (by decide) (by decide) (by decide) (by decide) (by decide) (by decide) (by decide) (by decide)).sm m3 (by decide) (by decide) (by decide) (by decide) (by decide) (by decide) (by decide) (by decide), ?_, ?_, a2, (m1.tr (m2.wk (by decide) (by decide))).tr (m3.wk (by decide) (by decide))⟩
      · rw [m3.1 6 (by decide), m2.1 6 (by decide)]; exact z6
      · rw [m3.1 5 (by decide)]; exact y5
/-- take(), at any token: where it is the END, the number of the current one stays -/
theorem pR_take0 {op' : List (Nat × Nat)} (h : RdR t tk s l g op) (hW : TkW tk) (hB : SgB tk g op') (hN : 100 ≤ N) (hn : l.length + 1 ≤ 362) (hf : (fls (l ++ (qTake tk g).1)).length ≤ 180) : ∃ s', fR_take N s = some (0, s') ∧ RdR t tk s' (l ++ (qTake tk g).1) ((if g.1 + 1 < tk.length then g.1 + 1 else g.1), qE tk g.1, []) op := by
  have hk := pK_kind (N := N) h hW hB
  have ho := pK_own (N := N) h hW hB
  obtain ⟨hT, hK, hR, h2, h5, hP, hO⟩ := h
  have hp60 : g.2.2.length ≤ 60 := by have := hB.1; have := hB.2.2.1; have := hW.2.1; omega
  unfold fR_take
  rw [hk, jB_s, ho, jB_s, h5]
  obtain ⟨s1, e1, r1, m1⟩ := pT_add (N := N) (k := qK tk g.1) (b := g.2.1) (o := qO tk g.1) hR (by omega) (qE tk g.1) 0 0
  rw [e1, jB_s]
  obtain ⟨s2, e2, r2, a6, a5, a2, m2⟩ := pR_takeL (N := N) (l := l) hW (n := (qK tk g.1, g.2.1, qE tk g.1, qO tk g.1, 0, 0, 1, [])) hB.1 hp60 N 0 s1 (by omega) (Nat.zero_le _) (hK.sm m1 (by decide) (by decide) (by decide) (by decide)) r1 (by rw [m1.1 2 (by decide)]; exact h2) (hP.sm m1 (by decide) (by decide) (by decide)) hf
  refine ⟨s2, e2, (hT.sm m1 (by decide) (by decide)).sm m2 (by decide) (by decide), (hK.sm m1 (by decide) (by decide) (by decide) (by decide)).sm m2 (by decide) (by decide) (by decide) (by decide), r2, a2, a5, ⟨a6, fun i hi => by simp at hi⟩, (hO.sm m1 (by decide) (by decide) (by decide)).sm m2 (by decide) (by decide) (by decide)⟩
theorem at_lt (hW : TkW tk) (hB : SgB tk g op) (hk : ¬ qK tk g.1 = 17) : g.1 + 1 < tk.length := by
  rcases Nat.lt_or_ge (g.1 + 1) tk.length with q | q
  · exact q
  · have := hB.1
    exact absurd (by rw [show g.1 = tk.length - 1 by omega]; exact hW.2.2.2.1) hk
theorem pR_take (h : RdR t tk s l g op) (hW : TkW tk) (hB : SgB tk g op) (hN : 100 ≤ N) (hk : ¬ qK tk g.1 = 17) (hn : l.length + 1 ≤ 362) (hf : (fls (l ++ (qTake tk g).1)).length ≤ 180) : ∃ s', fR_take N s = some (0, s') ∧ RdR t tk s' (l ++ (qTake tk g).1) (qTake tk g).2 op ∧ SgB tk (qTake tk g).2 op := by
  have hl := at_lt hW hB hk
  obtain ⟨s', e, r⟩ := pR_take0 h hW hB hN hn hf
  rw [if_pos hl] at r
  exact ⟨s', e, r, hl, (hW.2.2.2.2 g.1).2.2, Nat.zero_le _, Nat.le_succ_of_le hB.2.2.2⟩
theorem pR_miss {k f : Nat} (h : RdR t tk s l g op) (hB : SgB tk g op) (hn : l.length + 1 ≤ 362) (hf : (fls (l ++ (qMiss k f g).1)).length ≤ 180) : ∃ s', fR_miss N (nI k) (nI f) s = some (0, s') ∧ RdR t tk s' (l ++ (qMiss k f g).1) (qMiss k f g).2 op := by
  obtain ⟨hT, hK, hR, h2, h5, hP, hO⟩ := h
  unfold fR_miss
  rw [h5]
  obtain ⟨s1, e1, r1, m1⟩ := pT_add (N := N) (k := k) (b := g.2.1) (o := g.2.1) hR (by omega) g.2.1 f 0
  rw [e1, jB_s, m1.1 5 (by decide), h5]
  obtain ⟨s2, e2, r2, m2⟩ := pT_addFault (N := N) (p := g.2.1) (f := f) r1 (by
    have hf : (fls (l ++ [(k, g.2.1, g.2.1, g.2.1, f, 0, 1, [4 * g.2.1 + f])])).length ≤ 180 := hf
    rw [fls_app, fls_one, List.length_append] at hf ⊢
    have e1 : (nL (k, g.2.1, g.2.1, g.2.1, f, 0, 1, [4 * g.2.1 + f])).length = 1 := rfl
    have e2 : (nL (k, g.2.1, g.2.1, g.2.1, f, 0, 1, [])).length = 0 := rfl
    omega)
  rw [e2, jB_s]
  refine ⟨s2, rfl, (hT.sm m1 (by decide) (by decide)).sm m2 (by decide) (by decide), (hK.sm m1 (by decide) (by decide) (by decide) (by decide)).sm m2 (by decide) (by decide) (by decide) (by decide), r2, ?_, ?_, (hP.sm m1 (by decide) (by decide) (by decide)).sm m2 (by decide) (by decide) (by decide), (hO.sm m1 (by decide) (by decide) (by decide)).sm m2 (by decide) (by decide) (by decide)⟩
  · rw [m2.1 2 (by decide), m1.1 2 (by decide)]; exact h2
  · rw [m2.1 5 (by decide), m1.1 5 (by decide)]; exact h5
theorem pR_expect {k : Nat} (h : RdR t tk s l g op) (hW : TkW tk) (hB : SgB tk g op) (hN : 100 ≤ N) (hk : k ≤ 16) (hn : l.length + (qExp tk k g).1.length ≤ 362) (hf : (fls (l ++ (qExp tk k g).1)).length ≤ 180) : ∃ s', fR_expect N (nI k) s = some (0, s') ∧ RdR t tk s' (l ++ (qExp tk k g).1) (qExp tk k g).2 op ∧ SgB tk (qExp tk k g).2 op := by
  have h17 := (hW.2.2.2.2 g.1).1
  unfold fR_expect
  unfold qExp at hn hf ⊢
  rw [pK_kind h hW hB, jB_s]
  by_cases hq : qK tk g.1 = k
  · rw [if_pos hq] at hn hf ⊢
    rw [if_pos (show nI (qK tk g.1) = nI k by rw [hq])]
    obtain ⟨s', e, r, b⟩ := pR_take (N := N) h hW hB hN (by omega) hn hf
    rw [e, jB_s]
    exact ⟨s', rfl, r, b⟩
  · rw [if_neg hq] at hn hf ⊢
    rw [if_neg (fun q => hq ((nI_eq (by omega) (by omega)).mp q))]
    obtain ⟨s', e, r⟩ := pR_miss (N := N) (k := k) (f := 2) h hB hn hf
    rw [show (2 : Int32) = nI 2 from rfl, e, jB_s]
    exact ⟨s', rfl, r, hB⟩
theorem pR_begin {k : Nat} (h : RdR t tk s l g op) (hn : l.length + 1 ≤ 362) (to ms kd : Nat) : ∃ s', fR_begin N (nI k) s = some (nI l.length, s') ∧ RdR t tk s' (l ++ [(k, g.2.1, to, g.2.1, ms, kd, 1, [])]) g op := by
  obtain ⟨hT, hK, hR, h2, h5, hP, hO⟩ := h
  unfold fR_begin
  rw [h5]
  obtain ⟨s1, e1, r1, m1⟩ := pT_add (N := N) (k := k) (b := g.2.1) (o := g.2.1) hR (by omega) to ms kd
  rw [e1, jB_s]
  exact ⟨s1, rfl, hT.sm m1 (by decide) (by decide), hK.sm m1 (by decide) (by decide) (by decide) (by decide), r1, by rw [m1.1 2 (by decide)]; exact h2, by rw [m1.1 5 (by decide)]; exact h5, hP.sm m1 (by decide) (by decide) (by decide), hO.sm m1 (by decide) (by decide) (by decide)⟩
theorem pR_close {l' m : List Nd} {n n' : Nd} (h : RdR t tk s (l' ++ n :: m) g op) (hl : (l' ++ n :: m).length ≤ 362) (hS : nK n' = nK n ∧ nZ n' = m.length + 1 ∧ nF n' = nF n ∧ (nK n < 20 → nO n' = nO n) ∧ nL n' = nL n) : ∃ s', fT_close N (nI l'.length) s = some (0, s') ∧ RdR t tk s' (l' ++ n' :: m) g op := by
  obtain ⟨hT, hK, hR, h2, h5, hP, hO⟩ := h
  obtain ⟨s1, e1, r1, m1⟩ := pT_close (N := N) hR hl hS
  exact ⟨s1, e1, hT.sm m1 (by decide) (by decide), hK.sm m1 (by decide) (by decide) (by decide) (by decide), r1, by rw [m1.1 2 (by decide)]; exact h2, by rw [m1.1 5 (by decide)]; exact h5, hP.sm m1 (by decide) (by decide) (by decide), hO.sm m1 (by decide) (by decide) (by decide)⟩
theorem pR_wrap {kd : Nat} {l' m : List Nd} {n w : Nd} (h : RdR t tk s (l' ++ n :: m) g op) (hl : (l' ++ n :: m).length < 362) (hw : nK w = kd ∧ 20 ≤ kd ∧ nZ w = nZ n ∧ nF w = nF n ∧ nL w = []) : ∃ s', fT_wrap N (nI l'.length) (nI kd) s = some (0, s') ∧ RdR t tk s' (l' ++ w :: n :: m) g op := by
  obtain ⟨hT, hK, hR, h2, h5, hP, hO⟩ := h
  obtain ⟨s1, e1, r1, m1⟩ := pT_wrap (N := N) hR hl hw
  exact ⟨s1, e1, hT.sm m1 (by decide) (by decide), hK.sm m1 (by decide) (by decide) (by decide) (by decide), r1, by rw [m1.1 2 (by decide)]; exact h2, by rw [m1.1 5 (by decide)]; exact h5, hP.sm m1 (by decide) (by decide) (by decide), hO.sm m1 (by decide) (by decide) (by decide)⟩
end PR
