/-! the reference's tasks: what one does, how they follow each other -/
def TkA (tk : List (Nat × Nat × Nat)) : Prop := (∃ n, n ≤ 60 ∧ TkC n 0 tk) ∧ TkW tk ∧ TkP tk
theorem TkA.oe {tk : List (Nat × Nat × Nat)} (h : TkA tk) {i : Nat} (hi : i < tk.length) : qO tk i ≤ qE tk i := by
  obtain ⟨⟨n, _, c⟩, _, _⟩ := h
  by_cases h17 : qK tk i = 17
  · have := c.2.2.2.2.2.2.2.1 i hi h17
    omega
  · have := c.2.2.2.2.2.2.1 i hi h17
    omega
theorem TkA.lt {tk : List (Nat × Nat × Nat)} (h : TkA tk) {i : Nat} (hi : i < tk.length) (hk : ¬ qK tk i = 17) : qO tk i < qE tk i ∧ i + 1 < tk.length ∧ qE tk i ≤ qO tk (i + 1) := by
  obtain ⟨⟨n, _, c⟩, _, p⟩ := h
  have h1 := (p i hi hk).1
  exact ⟨c.2.2.2.2.2.2.1 i hi hk, h1, c.2.2.2.2.2.2.2.2 i h1⟩
/-- marks are 1 or 3, or none -/
def MkV (f : Nat → Int32) : Prop := ∀ p, p < 61 → f p = 0 ∨ f p = 1 ∨ f p = 3
/-- the marks of skipped tokens, as far as the place g -/
def SkM (tk : List (Nat × Nat × Nat)) (k : Nat) (s : jS) (g : Sg) : Prop := g.2.2 = mks (mkM s k) g.2.1 (61 - g.2.1) ∧ (∀ p, qO tk g.1 ≤ p → p < 61 → mkM s k p = 0) ∧ g.2.1 ≤ qO tk g.1 ∧ MkV (mkM s k)
def MiM (tk : List (Nat × Nat × Nat)) (k : Nat) (s : jS) (g : Sg) (m h : Nat) (ts : List (Nat × Nat × Nat)) : Prop := TkM s tk ∧ jgI s 6 = nI g.1 ∧ jgI s 7 = nI g.2.1 ∧ jgI s 8 = nI m ∧ jgI s 9 = nI h ∧ h ≤ m ∧ TsM s ts ∧ SkM tk k s g
theorem RwM.app {s : jS} {h : Nat} {R R' : List Nat} (h1 : RwM s h R) (h2 : RwM s (h + R.length) R') : RwM s h (R ++ R') := by
  intro i hi
  rw [List.length_append] at hi
  by_cases hl : i < R.length
  · rw [getD_app_l hl]
    exact h1 i hl
  · rw [getD_app_r (by omega)]
    have := h2 (i - R.length) (by omega)
    rw [show h + R.length + (i - R.length) = h + i by omega] at this
    exact this
section MT
variable {tk : List (Nat × Nat × Nat)} {N k : Nat}
theorem pM_tk0 {s : jS} {g : Sg} {m h : Nat} {X : List (Nat × Nat × Nat)} (hT : TkA tk) (hg : g.1 < tk.length) (hi : MiM tk k s g m h X) (hm : m < 399) : ∃ s', fM_take N s = some (0, s') ∧ jgI s' 6 = nI (g.1 + 1) ∧ jgI s' 7 = nI (qE tk g.1) ∧ jgI s' 8 = nI (m + 1) ∧ jgI s' 9 = nI (h + 1) ∧ TsM s' X ∧ TkM s' tk ∧ jgA s' 2 = jgA s 2 ∧ FoM s' k g.2.1 (qE tk g.1) m (qTake tk g).1 [m] ∧ RwM s' h [m] ∧ FmM k m h g.2.1 s s' := by
  obtain ⟨hK, h6, h7, h8, h9, hh, hX, hS⟩ := hi
  have hW := hT.2.1
  have hoe := hT.oe hg
  have hb := hW.2.2.2.2 g.1
  obtain ⟨s', e, q6, q7, q8, q9, w18, w19, w20, w21, w22, w23, w24, w25, w26, w28, hs⟩ := pM_take (N := N) hK hW h6 h7 hg h8 h9 (show m < 400 by omega) (show h < 400 by omega)
  have a2 : jgA s' 2 = jgA s 2 := hs.2 2 (by decide)
  refine ⟨s', e, q6, q7, q8, q9, hX.sm hs (by decide) (by decide) (by decide) (by decide), hK.sm hs (by decide) (by decide) (by decide) (by decide), a2, ?_, ?_, ⟨hs.wk (by decide) (by decide), ?_, ?_, fun i _ => by rw [a2]⟩⟩
  · refine FoG.leaf ⟨⟨rfl, rfl, by have := hS.2.2.1; show g.2.1 ≤ qE tk g.1; omega, by show qK tk g.1 < 20; omega, rfl, rfl, Or.inl ⟨rfl, ?_, ?_⟩⟩, ⟨?_, ?_, ?_, ?_, ?_, ?_⟩, ?_⟩ (FoG.nil _ _)
    · show g.2.2 = mks (mkM s' k) g.2.1 (qE tk g.1 - g.2.1)
      have e2 : mkM s' k = mkM s k := by
        funext p
        show jgA s' 2 _ = jgA s 2 _
        rw [a2]
      rw [e2, hS.1]
      have := hS.2.2.1
      rw [show 61 - g.2.1 = (qE tk g.1 - g.2.1) + (61 - qE tk g.1) by omega, mks_app, mks_0 (61 - qE tk g.1) _ (fun p p1 p2 => hS.2.1 p (by omega) (by omega)), List.append_nil]
    · show qK tk g.1 = 17 ∨ g.2.1 < qE tk g.1
      by_cases h17 : qK tk g.1 = 17
      · exact Or.inl h17
      · have := (hT.lt hg h17).1
        have := hS.2.2.1
        exact Or.inr (by omega)
    · rw [w18, pk_us]; rfl
    · rw [w19, pk_us]; rfl
    · rw [w20, pk_us]; rfl
    · rw [w21, pk_us]; rfl
    · rw [w22, pk_us]; rfl
    · rw [w23, pk_us]; rfl
    · rw [w24, pk_us]
  · intro i hi
    obtain rfl : i = 0 := by simp at hi; omega
    rw [w28]
    exact pk_us
  · intro x x1 x2 i hi
    have hi : i ≠ m := by omega
    rcases (show x = 18 ∨ x = 19 ∨ x = 20 ∨ x = 21 ∨ x = 22 ∨ x = 23 ∨ x = 24 ∨ x = 25 ∨ x = 26 by omega) with rfl | rfl | rfl | rfl | rfl | rfl | rfl | rfl | rfl
    · rw [w18, pk_un hi]
    · rw [w19, pk_un hi]
    · rw [w20, pk_un hi]
    · rw [w21, pk_un hi]
    · rw [w22, pk_un hi]
    · rw [w23, pk_un hi]
    · rw [w24, pk_un hi]
    · rw [w25, pk_un hi]
    · rw [w26, pk_un hi]
  · intro i hi
    rw [w28, pk_un (by omega)]
theorem pM_tk {s : jS} {g : Sg} {m h : Nat} {X : List (Nat × Nat × Nat)} (hT : TkA tk) (hg : g.1 < tk.length) (hk : ¬ qK tk g.1 = 17) (hi : MiM tk k s g m h X) (hm : m < 399) : ∃ s', fM_take N s = some (0, s') ∧ MiM tk k s' (qTake tk g).2 (m + 1) (h + 1) X ∧ FoM s' k g.2.1 (qE tk g.1) m (qTake tk g).1 [m] ∧ RwM s' h [m] ∧ FmM k m h g.2.1 s s' := by
  obtain ⟨s', e, q6, q7, q8, q9, hX, hK, a2, hF, hR, hf⟩ := pM_tk0 (N := N) hT hg hi hm
  obtain ⟨t1, t2, t3⟩ := hT.lt hg hk
  have hS := hi.2.2.2.2.2.2.2
  have hh := hi.2.2.2.2.2.1
  have z : ∀ p, qE tk g.1 ≤ p → p < 61 → mkM s' k p = 0 := fun p p1 p2 => by
    show jgA s' 2 _ = 0
    rw [a2]
    exact hS.2.1 p (by omega) p2
  have hb := hT.2.1.2.2.2.2 g.1
  exact ⟨s', e, ⟨hK, q6, q7, q8, q9, by omega, hX, (mks_0 (61 - qE tk g.1) (qE tk g.1) (fun p p1 p2 => z p p1 (by have := hb.2.2; omega))).symm, fun p p1 p2 => z p (Nat.le_trans t3 p1) p2, t3, fun p hp => by
    show jgA s' 2 _ = 0 ∨ jgA s' 2 _ = 1 ∨ jgA s' 2 _ = 3
    rw [a2]
    exact hS.2.2.2 p hp⟩, hF, hR, hf⟩
theorem pM_lk {s : jS} {g : Sg} {m h kd f : Nat} {X : List (Nat × Nat × Nat)} (hk : kd ≤ 16) (hf : f = 2 ∨ f = 3) (hi : MiM tk k s g m h X) (hm : m < 399) : ∃ s', fM_lack N (nI kd) (nI f) s = some (0, s') ∧ MiM tk k s' g (m + 1) (h + 1) X ∧ FoM s' k g.2.1 g.2.1 m (qMiss kd f g).1 [m] ∧ RwM s' h [m] ∧ FmM k m h g.2.1 s s' := by
  obtain ⟨hK, h6, h7, h8, h9, hh, hX, hS⟩ := hi
  unfold fM_lack
  rw [h7]
  obtain ⟨s', e, q8, q9, ⟨v18, v19, v20, v21, v22, v23, v24, v25, v26⟩, fr, r28, fr28, hs⟩ := pM_mk (N := N) (k := kd) (a := g.2.1) (o := g.2.1) (c := g.2.1) (f := f) h8 h9 (show m < 400 by omega) (show h < 400 by omega)
  have a2 : jgA s' 2 = jgA s 2 := hs.2 2 (by decide)
  have e2 : mkM s' k = mkM s k := by
    funext p
    show jgA s' 2 _ = jgA s 2 _
    rw [a2]
  rw [e, jB_s]
  refine ⟨s', rfl, ⟨hK.sm hs (by decide) (by decide) (by decide) (by decide), by rw [hs.1 6 (by decide)]; exact h6, by rw [hs.1 7 (by decide)]; exact h7, q8, q9, by omega, hX.sm hs (by decide) (by decide) (by decide) (by decide), ?_⟩, ?_, ?_, ⟨hs.wk (by decide) (by decide), fun x x1 x2 i hi => fr x x1 x2 i (by omega), fun i hi => fr28 i (by omega), fun i _ => by rw [a2]⟩⟩
  · unfold SkM
    rw [e2]
    exact hS
  · exact FoG.leaf ⟨⟨rfl, rfl, Nat.le_refl _, by show kd < 20; omega, rfl, rfl, Or.inr ⟨hf, rfl, by show ¬ kd = 17; omega, rfl⟩⟩, ⟨v18, v19, v20, v21, v22, v23⟩, v24⟩ (FoG.nil _ _)
  · intro i hi
    obtain rfl : i = 0 := by simp at hi; omega
    exact r28
def Rch (N k : Nat) (s s' : jS) (j : Nat) : Prop := ∀ n i, i + j ≤ 100000 → fM_parse_80 N (n + j) (nI k) (nI i) s = fM_parse_80 N n (nI k) (nI (i + j)) s'
theorem Rch.rf {s : jS} : Rch N k s s 0 := fun _ _ _ => rfl
theorem Rch.tr {s s1 s2 : jS} {i j : Nat} (h1 : Rch N k s s1 i) (h2 : Rch N k s1 s2 j) : Rch N k s s2 (i + j) := fun n x hx => by
  rw [show n + (i + j) = (n + j) + i by omega, h1 (n + j) x (by omega), h2 n (x + i) (by omega), Nat.add_assoc]
theorem Rch.one {s s' : jS} {X : List (Nat × Nat × Nat)} {t : Nat × Nat × Nat} (hX : TsM s (X ++ [t])) (hl : X.length < 200) (hp : fM_perform N (nI k) (nI t.1) (nI t.2.1) (nI t.2.2) (jsI s 10 (nI X.length)) = some (0, s')) : Rch N k s s' 1 := by
  intro n i hi
  show fM_parse_b80 N (fM_parse_80 N n) (nI k) (nI i) s = _
  have h10 : jgI s 10 = nI (X.length + 1) := by rw [hX.1, List.length_append]; rfl
  obtain ⟨t1, t2, t3⟩ := hX.2 X.length (by simp)
  rw [getD_app_r (Nat.le_refl _), Nat.sub_self] at t1 t2 t3
  have t1 : jgA s 29 X.length = nI t.1 := t1
  have t2 : jgA s 30 X.length = nI t.2.1 := t2
  have t3 : jgA s 31 X.length = nI t.2.2 := t3
  unfold fM_parse_b80
  rw [if_neg (show ¬ (100000 : Int32) ≤ nI i from nI_ge (b := 100000) (by omega) (by decide)), h10, if_neg (nI_nle (by omega) (by omega)), nI_pred, jL_e]
  rw [show jgI (jsI s 10 (nI X.length)) 10 = nI X.length from rfl, if_pos (jIn_nI hl (by decide)), if_pos (jIn_nI hl (by decide)), if_pos (jIn_nI hl (by decide)), nI_clamp (by omega)]
  rw [show jgA (jsI s 10 (nI X.length)) 29 X.length = nI t.1 from t1, show jgA (jsI s 10 (nI X.length)) 30 X.length = nI t.2.1 from t2, show jgA (jsI s 10 (nI X.length)) 31 X.length = nI t.2.2 from t3, hp, jB_s, nI_1]
theorem MiM.pop {s : jS} {g : Sg} {m h : Nat} {X : List (Nat × Nat × Nat)} {t : Nat × Nat × Nat} (hi : MiM tk k s g m h (X ++ [t])) : MiM tk k (jsI s 10 (nI X.length)) g m h X := by
  obtain ⟨hK, h6, h7, h8, h9, hh, hX, hS⟩ := hi
  have hs : jSm [10] [] s (jsI s 10 (nI X.length)) := jSm.rf.sI (by decide)
  refine ⟨hK.sm hs (by decide) (by decide) (by decide) (by decide), h6, h7, h8, h9, hh, ⟨rfl, fun i hi => ?_⟩, hS⟩
  have := hX.2 i (by rw [List.length_append]; omega)
  rw [getD_app_l hi] at this
  exact this
theorem MiM.push {s : jS} {g : Sg} {m h : Nat} {X : List (Nat × Nat × Nat)} (hi : MiM tk k s g m h X) (hl : X.length < 200) (t : Nat × Nat × Nat) : ∃ s', fM_add N (nI t.1) (nI t.2.1) (nI t.2.2) s = some (0, s') ∧ MiM tk k s' g m h (X ++ [t]) ∧ jSm [10] [29, 30, 31] s s' := by
  obtain ⟨hK, h6, h7, h8, h9, hh, hX, hS⟩ := hi
  obtain ⟨s', e, hX', hs⟩ := pM_addT (N := N) (k := t.1) (a := t.2.1) (b := t.2.2) hX hl
  have e2 : mkM s' k = mkM s k := by
    funext p
    show jgA s' 2 _ = jgA s 2 _
    rw [hs.2 2 (by decide)]
  refine ⟨s', e, ⟨hK.sm hs (by decide) (by decide) (by decide) (by decide), by rw [hs.1 6 (by decide)]; exact h6, by rw [hs.1 7 (by decide)]; exact h7, by rw [hs.1 8 (by decide)]; exact h8, by rw [hs.1 9 (by decide)]; exact h9, hh, hX', ?_⟩, hs⟩
  unfold SkM
  rw [e2]
  exact hS
theorem fm_task {m h p : Nat} {s s' : jS} (hs : jSm [10] [29, 30, 31] s s') : FmM k m h p s s' := ⟨hs.wk (by decide) (by decide), fun x x1 x2 i _ => by rw [hs.2 x (by simp; omega)], fun i _ => by rw [hs.2 28 (by decide)], fun i _ => by rw [hs.2 2 (by decide)]⟩
theorem fm_pop {m h p : Nat} {s : jS} {v : Int32} : FmM k m h p s (jsI s 10 v) := fm_task ((jSm.rf.sI (by decide)))
def PoM (tk : List (Nat × Nat × Nat)) (N k : Nat) (F : Sg → List Nd × Sg) (C : Sg → Nat) (u : Nat) (g : Sg) (m h : Nat) (X : List (Nat × Nat × Nat)) (s s0 : jS) : Prop := ∃ (s' : jS) (R : List Nat) (j : Nat), Rch N k s0 s' j ∧ MiM tk k s' (F g).2 (m + (F g).1.length) (h + R.length) X ∧ (F g).2.1 < tk.length ∧ g.1 ≤ (F g).2.1 ∧ FoM s' k g.2.1 (F g).2.2.1 m (F g).1 R ∧ RwM s' h R ∧ FmM k m h g.2.1 s s' ∧ R.length = C g ∧ j + u ≤ 4 * (F g).1.length + ((F g).2.1 - g.1) + 4
def CpM (tk : List (Nat × Nat × Nat)) (N k : Nat) (p : jS → Option (Int32 × jS)) (F : Sg → List Nd × Sg) (C : Sg → Nat) (P : Sg → Prop) (w u : Nat) : Prop := ∀ (s : jS) (g : Sg) (m h : Nat) (X : List (Nat × Nat × Nat)), P g → g.1 < tk.length → MiM tk k s g m h X → m + (F g).1.length ≤ 399 → X.length + w ≤ 200 → ∃ s0, p s = some (0, s0) ∧ PoM tk N k F C u g m h X s s0
def CkM (tk : List (Nat × Nat × Nat)) (N k : Nat) (t : Nat × Nat × Nat) (F : Sg → List Nd × Sg) (C : Sg → Nat) (P : Sg → Prop) (w u : Nat) : Prop := ∀ (s : jS) (g : Sg) (m h : Nat) (X : List (Nat × Nat × Nat)), P g → g.1 < tk.length → MiM tk k s g m h (X ++ [t]) → m + (F g).1.length ≤ 399 → X.length + w ≤ 200 → PoM tk N k F C u g m h X s s
variable {F G : Sg → List Nd × Sg} {C D : Sg → Nat} {P Q : Sg → Prop} {p : jS → Option (Int32 × jS)} {w u w1 w2 u1 u2 : Nat}
theorem CpM.task {t : Nat × Nat × Nat} (hp : CpM tk N k (fun s => fM_perform N (nI k) (nI t.1) (nI t.2.1) (nI t.2.2) s) F C P w (u + 1)) (hw : 1 ≤ w) : CkM tk N k t F C P w u := by
  intro s g m h X hP hg hi hm hl
  obtain ⟨s0, e0, s', R, j, r, q1, q2, q3, q4, q5, q6, q7, q8⟩ := hp (jsI s 10 (nI X.length)) g m h X hP hg hi.pop hm hl
  exact ⟨s', R, 1 + j, (Rch.one hi.2.2.2.2.2.2.1 (by omega) e0).tr r, q1, q2, q3, q4, q5, fm_pop.tr q6 (Nat.le_refl _) (Nat.le_refl _) (Nat.le_refl _), q7, by omega⟩
theorem CpM.of {p' : jS → Option (Int32 × jS)} {F' : Sg → List Nd × Sg} {C' : Sg → Nat} (hp : CpM tk N k p F C P w u) (h1 : ∀ s, p' s = p s) (h2 : ∀ g, P g → F' g = F g) (h3 : ∀ g, P g → C' g = C g) : CpM tk N k p' F' C' P w u := by
  intro s g m h X hP hg hi hm hl
  rw [h2 g hP] at hm
  rw [h1 s]
  obtain ⟨s0, e0, s', R, j, r, q1, q2, q3, q4, q5, q6, q7, q8⟩ := hp s g m h X hP hg hi hm hl
  refine ⟨s0, e0, s', R, j, r, ?_⟩
  rw [h2 g hP, h3 g hP]
  exact ⟨q1, q2, q3, q4, q5, q6, q7, q8⟩
theorem CkM.of {t : Nat × Nat × Nat} {F' : Sg → List Nd × Sg} {C' : Sg → Nat} (hp : CkM tk N k t F C P w u) (h2 : ∀ g, P g → F' g = F g) (h3 : ∀ g, P g → C' g = C g) : CkM tk N k t F' C' P w u := by
  intro s g m h X hP hg hi hm hl
  rw [h2 g hP] at hm
  obtain ⟨s', R, j, r, q1, q2, q3, q4, q5, q6, q7, q8⟩ := hp s g m h X hP hg hi hm hl
  refine ⟨s', R, j, r, ?_⟩
  rw [h2 g hP, h3 g hP]
  exact ⟨q1, q2, q3, q4, q5, q6, q7, q8⟩
theorem CpM.wk {w' u' : Nat} (hp : CpM tk N k p F C P w u) (hQ : ∀ g, Q g → P g) (hw : w ≤ w') (hu : u' ≤ u) : CpM tk N k p F C Q w' u' := by
  intro s g m h X hP hg hi hm hl
  obtain ⟨s0, e0, s', R, j, r, q1, q2, q3, q4, q5, q6, q7, q8⟩ := hp s g m h X (hQ g hP) hg hi hm (by omega)
  exact ⟨s0, e0, s', R, j, r, q1, q2, q3, q4, q5, q6, q7, by omega⟩
theorem CkM.wk {t : Nat × Nat × Nat} {w' u' : Nat} (hp : CkM tk N k t F C P w u) (hQ : ∀ g, Q g → P g) (hw : w ≤ w') (hu : u' ≤ u) : CkM tk N k t F C Q w' u' := by
  intro s g m h X hP hg hi hm hl
  obtain ⟨s', R, j, r, q1, q2, q3, q4, q5, q6, q7, q8⟩ := hp s g m h X (hQ g hP) hg hi hm (by omega)
  exact ⟨s', R, j, r, q1, q2, q3, q4, q5, q6, q7, by omega⟩
theorem cp_id : CpM tk N k (fun s => some (0, s)) (fun g => ([], g)) (fun _ => 0) (fun _ => True) 0 4 := by
  intro s g m h X _ hg hi hm hl
  exact ⟨s, rfl, s, [], 0, Rch.rf, hi, hg, Nat.le_refl _, FoG.nil _ _, fun i hi => absurd hi (by simp), FmM.rf, rfl, by simp⟩
theorem cp_take (hT : TkA tk) : CpM tk N k (fun s => fM_take N s) (qTake tk) (fun _ => 1) (fun g => ¬ qK tk g.1 = 17) 0 9 := by
  intro s g m h X hk hg hi hm hl
  have hm : m + 1 ≤ 399 := hm
  obtain ⟨s', e, hi', hF, hR, hf⟩ := pM_tk (N := N) hT hg hk hi (by omega)
  refine ⟨s', e, s', [m], 0, Rch.rf, hi', (hT.lt hg hk).2.1, Nat.le_succ _, hF, hR, hf, rfl, ?_⟩
  show 0 + 9 ≤ 4 * 1 + (g.1 + 1 - g.1) + 4
  omega
theorem cp_lack {kd f : Nat} (hk : kd ≤ 16) (hf : f = 2 ∨ f = 3) : CpM tk N k (fun s => fM_lack N (nI kd) (nI f) s) (qMiss kd f) (fun _ => 1) (fun _ => True) 0 8 := by
  intro s g m h X _ hg hi hm hl
  have hm : m + 1 ≤ 399 := hm
  obtain ⟨s', e, hi', hF, hR, hfm⟩ := pM_lk (N := N) hk hf hi (by omega)
  refine ⟨s', e, s', [m], 0, Rch.rf, hi', hg, Nat.le_refl _, hF, hR, hfm, rfl, ?_⟩
  show 0 + 8 ≤ 4 * 1 + (g.1 - g.1) + 4
  omega
theorem PoM.seq {t : Nat × Nat × Nat} {g : Sg} {m h : Nat} {X : List (Nat × Nat × Nat)} {s s0 : jS} (h1 : PoM tk N k F C u1 g m h (X ++ [t]) s s0) (ht : CkM tk N k t G D Q w2 u2) (hQ : Q (F g).2) (hm : m + (qSeq F G g).1.length ≤ 399) (hl : X.length + w2 ≤ 200) (hu : u + 4 ≤ u1 + u2) : PoM tk N k (qSeq F G) (fun g => C g + D (F g).2) u g m h X s s0 := by
  obtain ⟨s1, R1, j1, r1, q1, q2, q3, q4, q5, q6, q7, q8⟩ := h1
  have hm : m + ((F g).1 ++ (G (F g).2).1).length ≤ 399 := hm
  rw [List.length_append] at hm
  obtain ⟨s2, R2, j2, r2, z1, z2, z3, z4, z5, z6, z7, z8⟩ := ht s1 (F g).2 _ _ X hQ q2 q1 (by omega) hl
  have hle := (FoM.pu q4).le.1
  refine ⟨s2, R1 ++ R2, j1 + j2, r1.tr r2, ?_, z2, Nat.le_trans q3 z3, ?_, ?_, q6.tr z6 (by omega) (by omega) hle, ?_, ?_⟩
  · show MiM tk k s2 (G (F g).2).2 (m + ((F g).1 ++ (G (F g).2).1).length) _ X
    rw [List.length_append, List.length_append, ← Nat.add_assoc, ← Nat.add_assoc]
    exact z1
  · exact (q4.fm z6 (Nat.le_refl _) (Nat.le_refl _)).app z4
  · exact (q5.fm z6 (Nat.le_refl _)).app z5
  · rw [List.length_append, q7, z7]
  · show j1 + j2 + u ≤ 4 * ((F g).1 ++ (G (F g).2).1).length + ((G (F g).2).2.1 - g.1) + 4
    rw [List.length_append]
    omega
theorem CpM.add (hp : CpM tk N k p F C P w1 u1) {t : Nat × Nat × Nat} (ht : CkM tk N k t G D Q w2 u2) (hPQ : ∀ g, P g → Q (F g).2) (hw1 : w1 + 1 ≤ w) (hw2 : w2 ≤ w) (hu : u + 4 ≤ u1 + u2) : CpM tk N k (fun s => jB (fM_add N (nI t.1) (nI t.2.1) (nI t.2.2) s) fun _ s1 => p s1) (qSeq F G) (fun g => C g + D (F g).2) P w u := by
  intro s g m h X hP hg hi hm hl
  obtain ⟨s1, e1, hi1, hs1⟩ := hi.push (N := N) (by omega) t
  have hm' : m + ((F g).1 ++ (G (F g).2).1).length ≤ 399 := hm
  rw [List.length_append] at hm'
  obtain ⟨s0, e0, po⟩ := hp s1 g m h (X ++ [t]) hP hg hi1 (by omega) (by rw [List.length_append, List.length_singleton]; omega)
  obtain ⟨s2, R, j, r, q1, q2, q3, q4, q5, q6, q7, q8⟩ := po.seq (w2 := w2) (u := u) ht (hPQ g hP) hm (by omega) hu
  refine ⟨s0, ?_, s2, R, j, r, q1, q2, q3, q4, q5, (fm_task hs1).tr q6 (Nat.le_refl _) (Nat.le_refl _) (Nat.le_refl _), q7, q8⟩
  show jB (fM_add N (nI t.1) (nI t.2.1) (nI t.2.2) s) (fun _ s1 => p s1) = _
  rw [e1, jB_s, e0]
theorem CpM.red (hp : CpM tk N k p F C P w1 u1) {kd : Nat} (hN : 500 ≤ N) (hk1 : 20 ≤ kd) (hk2 : kd ≤ 28) (hC : ∀ g, P g → 1 ≤ C g) (hw : w1 + 1 ≤ w) (hu : u ≤ u1 + 3) : CpM tk N k (fun s => jB (fM_add N (0 : Int32) (nI kd) (jgI s 9) s) fun _ s1 => p s1) (qOver kd C F) (fun _ => 1) P w u := by
  intro s g m h X hP hg hi hm hl
  have hm : m + (qNode kd (C g) (F g).1 (F g).2.2.1).length ≤ 399 := hm
  rw [qNode_len] at hm
  obtain ⟨s1, e1, hi1, hs1⟩ := hi.push (N := N) (by omega) (0, kd, h)
  obtain ⟨s0, e0, s2, R, j, r, q1, q2, q3, q4, q5, q6, q7, q8⟩ := hp s1 g m h (X ++ [(0, kd, h)]) hP hg hi1 (by omega) (by rw [List.length_append, List.length_singleton]; omega)
  have hC1 := hC g hP
  have hR : R ≠ [] := fun z => by rw [z] at q7; simp at q7; omega
  have hhm := hi.2.2.2.2.2.1
  have q1p := q1.pop
  obtain ⟨s3, e3, z1, z2, z3, z4, z5, z6⟩ := pM_reduce (N := N) (s := jsI s2 10 (nI X.length)) hN hk1 hk2 (q4.fm (fm_pop (m := m + (F g).1.length) (h := 0) (p := (F g).2.2.1)) (Nat.le_refl _) (Nat.le_refl _)) hR q5 q1p.2.2.2.1 q1p.2.2.2.2.1 (by omega) hhm g.2.1
  have hone : Rch N k s2 s3 1 := Rch.one q1.2.2.2.2.2.2.1 (by omega) (by
    show fM_perform N (nI k) (nI 0) (nI kd) (nI h) _ = _
    unfold fM_perform
    rw [if_pos (show nI 0 = (0 : Int32) from rfl), e3, jB_s])
  refine ⟨s0, ?_, s3, [m + (F g).1.length], j + 1, r.tr hone, ?_, q2, q3, ?_, z2, ?_, rfl, ?_⟩
  · show jB (fM_add N (0 : Int32) (nI kd) (jgI s 9) s) (fun _ s1 => p s1) = _
    rw [hi.2.2.2.2.1]
    have e1 : fM_add N (0 : Int32) (nI kd) (nI h) s = some (0, s1) := e1
    rw [e1, jB_s, e0]
  · show MiM tk k s3 (F g).2 (m + (qNode kd (C g) (F g).1 (F g).2.2.1).length) (h + 1) X
    rw [qNode_len, ← Nat.add_assoc]
    obtain ⟨y1, y2, y3, y4, y5, y6, y7, y8⟩ := q1p
    have e2 : mkM s3 k = mkM (jsI s2 10 (nI X.length)) k := by
      funext p
      show jgA s3 2 _ = _
      rw [z6.2 2 (by decide)]
      rfl
    refine ⟨y1.sm z6 (by decide) (by decide) (by decide) (by decide), by rw [z6.1 6 (by decide)]; exact y2, by rw [z6.1 7 (by decide)]; exact y3, z3, z4, by omega, y7.sm z6 (by decide) (by decide) (by decide) (by decide), ?_⟩
    unfold SkM
    rw [e2]
    exact y8
  · show FoM s3 k g.2.1 (F g).2.2.1 m (qNode kd (C g) (F g).1 (F g).2.2.1) _
    rw [← q7]
    exact z1
  · exact (((fm_task hs1).tr q6 (Nat.le_refl _) (Nat.le_refl _) (Nat.le_refl _)).tr fm_pop (Nat.le_refl _) (Nat.le_refl _) (Nat.le_refl _)).tr z5 (Nat.le_refl _) (Nat.le_refl _) (Nat.le_refl _)
  · show j + 1 + u ≤ 4 * (qNode kd (C g) (F g).1 (F g).2.2.1).length + ((F g).2.1 - g.1) + 4
    rw [qNode_len]
    omega
/-- a token is taken, then p goes on -/
theorem CpM.tak (hT : TkA tk) (hp : CpM tk N k p G D Q w u1) (hQ : ∀ g, ¬ qK tk g.1 = 17 → Q (qTake tk g).2) (hu : u ≤ u1 + 5) : CpM tk N k (fun s => jB (fM_take N s) fun _ s1 => p s1) (qSeq (qTake tk) G) (fun g => 1 + D (qTake tk g).2) (fun g => ¬ qK tk g.1 = 17) w u := by
  intro s g m h X hk hg hi hm hl
  have hm : m + ((qTake tk g).1 ++ (G (qTake tk g).2).1).length ≤ 399 := hm
  rw [List.length_append, qTake_len] at hm
  obtain ⟨s1, e1, hi1, hF, hR, hf⟩ := pM_tk (N := N) hT hg hk hi (by omega)
  obtain ⟨s0, e0, s2, R, j, r, z1, z2, z3, z4, z5, z6, z7, z8⟩ := hp s1 (qTake tk g).2 (m + 1) (h + 1) X (hQ g hk) (hT.lt hg hk).2.1 hi1 (by omega) hl
  have hle := (FoM.pu hF).le.1
  refine ⟨s0, ?_, s2, [m] ++ R, j, r, ?_, z2, Nat.le_trans (Nat.le_succ _) z3, ?_, ?_, hf.tr z6 (by omega) (by omega) hle, ?_, ?_⟩
  · show jB (fM_take N s) (fun _ s1 => p s1) = _
    rw [e1, jB_s, e0]
  · show MiM tk k s2 (G (qTake tk g).2).2 (m + ((qTake tk g).1 ++ (G (qTake tk g).2).1).length) _ X
    rw [List.length_append, List.length_append, qTake_len, List.length_singleton, ← Nat.add_assoc, ← Nat.add_assoc]
    exact z1
  · exact FoG.app (hF.fm z6 (Nat.le_refl _) (Nat.le_refl _)) z4
  · exact RwM.app (hR.fm z6 (Nat.le_refl _)) z5
  · rw [List.length_append, z7, List.length_singleton]
  · show j + u ≤ 4 * ((qTake tk g).1 ++ (G (qTake tk g).2).1).length + ((G (qTake tk g).2).2.1 - g.1) + 4
    rw [List.length_append, qTake_len]
    have : (qTake tk g).2.1 = g.1 + 1 := rfl
    omega
end MT
