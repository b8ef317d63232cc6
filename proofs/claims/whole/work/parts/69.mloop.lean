/-! the reference's expression: operands and signs in turn -/
theorem qLvl_0 {ks : Nat} (h : ks < 11 ∨ 15 < ks) : qLvl ks = 0 := by
  unfold qLvl
  rw [if_neg (by omega), if_neg (by omega), if_neg (by omega), if_neg (by omega)]
theorem qLvl_p {ks : Nat} (h1 : 11 ≤ ks) (h2 : ks ≤ 15) : 1 ≤ qLvl ks ∧ qLvl ks ≤ 4 := by
  rcases (show ks = 11 ∨ ks = 12 ∨ ks = 13 ∨ ks = 14 ∨ ks = 15 by omega) with rfl | rfl | rfl | rfl | rfl <;> exact ⟨by decide, by decide⟩
section ML
variable {tk : List (Nat × Nat × Nat)} {N k : Nat} {op : Sg → List Nd × Sg}
theorem MiM.of {s s' : jS} {g : Sg} {m h m' h' : Nat} {X : List (Nat × Nat × Nat)} (hi : MiM tk k s g m h X) (hs : jSm [8, 9] [18, 19, 20, 21, 22, 23, 24, 25, 26, 28] s s') (h8 : jgI s' 8 = nI m') (h9 : jgI s' 9 = nI h') (hh : h' ≤ m') : MiM tk k s' g m' h' X := by
  obtain ⟨y1, y2, y3, y4, y5, y6, y7, y8⟩ := hi
  have e2 : mkM s' k = mkM s k := by
    funext p
    show jgA s' 2 _ = jgA s 2 _
    rw [hs.2 2 (by decide)]
  refine ⟨y1.sm hs (by decide) (by decide) (by decide) (by decide), by rw [hs.1 6 (by decide)]; exact y2, by rw [hs.1 7 (by decide)]; exact y3, h8, h9, hh, y7.sm hs (by decide) (by decide) (by decide) (by decide), ?_⟩
  unfold SkM
  rw [e2]
  exact y8
theorem pM_more0 {ks p h : Nat} {s : jS} (hT : TkA tk) {g : Sg} {m h' : Nat} {X : List (Nat × Nat × Nat)} (hi : MiM tk k s g m h' X) (hg : g.1 < tk.length) (hks : ks = qK tk g.1) : fM_more N (nI p) (nI h) s = fM_more_27 N N (nI p) (nI h) (nI ks) (if 11 ≤ ks ∧ ks ≤ 15 then 1 else 0) 1 s := by
  have hb := (hT.2.1.2.2.2.2 g.1).1
  unfold fM_more
  rw [pM_cur hi.1 hT.2.1 hi.2.1 hg, jB_s, ← hks]
  by_cases h1 : ks < 11
  · rw [if_pos (show nI ks < 11 from nI_lt (b := 11) h1 (by decide)), if_neg (show ¬ (11 ≤ ks ∧ ks ≤ 15) by omega)]
  · rw [if_neg (show ¬ nI ks < 11 from nI_nlt (b := 11) (by omega) (by omega))]
    by_cases h2 : 15 < ks
    · rw [if_pos (show (15 : Int32) < nI ks from nI_lt (a := 15) h2 (by omega)), if_neg (show ¬ (11 ≤ ks ∧ ks ≤ 15) by omega)]
    · rw [if_neg (show ¬ (15 : Int32) < nI ks from nI_nlt (a := 15) (by omega) (by decide)), if_pos (show 11 ≤ ks ∧ ks ≤ 15 by omega)]
theorem pM_moreL {p w h : Nat} (hT : TkA tk) (hN : 500 ≤ N) (hop : CkM tk N k (9, p, 0) op (fun _ => 1) (fun _ => True) w 7) (hw : 1 ≤ w) (hne : ∀ g, (op g).1 ≠ []) : ∀ (n : Nat) (st : Stk) (cur : List Nd) (g : Sg) (s : jS) (m a c e : Nat) (X : List (Nat × Nat × Nat)), tk.length ≤ g.1 + n + 1 → g.1 < tk.length → h ≤ m → MiM tk k s g (m + (qFl st).length + cur.length) (h + 2 * st.length + 1) (X ++ [(8, p, h)]) → SkSt s k m h a st c → StkOk st → FoM s k c g.2.1 (m + (qFl st).length) cur [e] → jgA s 28 (h + 2 * st.length) = nI e → m + (qLoop tk op n st cur g).1.length ≤ 399 → X.length + (w + 1) ≤ 200 → ∃ s' j e', Rch N k s s' j ∧ MiM tk k s' (qLoop tk op n st cur g).2 (m + (qLoop tk op n st cur g).1.length) (h + 1) X ∧ (qLoop tk op n st cur g).2.1 < tk.length ∧ g.1 ≤ (qLoop tk op n st cur g).2.1 ∧ FoM s' k a (qLoop tk op n st cur g).2.2.1 m (qLoop tk op n st cur g).1 [e'] ∧ jgA s' 28 h = nI e' ∧ FmM k m h a s s' ∧ j + 3 + 4 * ((qFl st).length + cur.length) ≤ 4 * (qLoop tk op n st cur g).1.length + ((qLoop tk op n st cur g).2.1 - g.1) + 4 := by
  have hend : ∀ (st : Stk) (cur : List Nd) (g : Sg) (s : jS) (m a c e : Nat) (X : List (Nat × Nat × Nat)), qLvl (qK tk g.1) = 0 → g.1 < tk.length → h ≤ m → MiM tk k s g (m + (qFl st).length + cur.length) (h + 2 * st.length + 1) (X ++ [(8, p, h)]) → SkSt s k m h a st c → StkOk st → FoM s k c g.2.1 (m + (qFl st).length) cur [e] → jgA s 28 (h + 2 * st.length) = nI e → m + (qClose 0 g.2.1 st cur).2.length ≤ 399 → X.length + (w + 1) ≤ 200 → ∃ s' j e', Rch N k s s' j ∧ MiM tk k s' g (m + (qClose 0 g.2.1 st cur).2.length) (h + 1) X ∧ g.1 < tk.length ∧ g.1 ≤ g.1 ∧ FoM s' k a g.2.1 m (qClose 0 g.2.1 st cur).2 [e'] ∧ jgA s' 28 h = nI e' ∧ FmM k m h a s s' ∧ j + 3 + 4 * ((qFl st).length + cur.length) ≤ 4 * (qClose 0 g.2.1 st cur).2.length + (g.1 - g.1) + 4 := by
    intro st cur g s m a c e X h0 hg hh hi hS hO hF hr hm hl
    have hks : ¬ (11 ≤ qK tk g.1 ∧ qK tk g.1 ≤ 15) := fun z => by
      have := (qLvl_p z.1 z.2).1
      omega
    have hco := qClose_ok (b := 0) (to := g.2.1) st cur hO hF.one.2.2.2.2
    have hc0 : (qClose 0 g.2.1 st cur).1 = [] := qClose_0 st cur
    have hfl := qFl_len st
    rw [hc0] at hco
    have hlen : (qClose 0 g.2.1 st cur).2.length = (qFlat st).length + cur.length := by
      have := hco.1
      simpa [qFlat] using this
    have hip := hi.pop
    have hsl := hS.le
    obtain ⟨s', c', e', y1, y2, y3, y4, y5, y6, y7, y8⟩ := pM_close (N := N) (k := k) (ks := qK tk g.1) (p := p) (to := g.2.1) (a := a) (x4 := 0) hN (Or.inl rfl) hh st N cur c e (jsI s 10 (nI X.length)) (by omega) hip.2.2.2.1 hip.2.2.2.2.1 (hS.fm (fm_pop (m := m + (qFl st).length) (h := h + 2 * st.length) (p := c)) (Nat.le_refl _) (Nat.le_refl _) (Nat.le_refl _)) (hF.fm (fm_pop (m := m + (qFl st).length + cur.length) (h := 0) (p := g.2.1)) (Nat.le_refl _) (Nat.le_refl _)) hr (by omega)
    rw [show qCl 0 (qK tk g.1) = 0 from rfl] at y2 y3 y4 y5 y6
    rw [hc0] at y2 y3 y4 y5 y6
    have hone : Rch N k s s' 1 := Rch.one hi.2.2.2.2.2.2.1 (by omega) (by
      show fM_perform N (nI k) (nI 8) (nI p) (nI h) _ = _
      rw [pf_8, pM_more0 hT hip hg rfl, if_neg hks, y1]
      unfold fM_more_119
      rw [if_pos rfl, jB_s])
    have y4 : c' = a := y4
    subst y4
    refine ⟨s', 1, e', hone, hip.of y8 y2 y3 (by have := hsl.2; have := hF.one.2.1; simp; omega), hg, Nat.le_refl _, y5, y6, fm_pop.tr y7 (Nat.le_refl _) (Nat.le_refl _) (Nat.le_refl _), ?_⟩
    omega
  intro n
  induction n with
  | zero =>
    intro st cur g s m a c e X hn hg hh hi hS hO hF hr hm hl
    have h17 : qK tk g.1 = 17 := by
      have := hT.2.1.2.2.2.1
      rw [show g.1 = tk.length - 1 by omega]
      exact this
    exact hend st cur g s m a c e X (by rw [h17]; rfl) hg hh hi hS hO hF hr hm hl
  | succ n ih =>
    intro st cur g s m a c e X hn hg hh hi hS hO hF hr hm hl
    rw [qLoop] at hm ⊢
    by_cases h0 : qLvl (qK tk g.1) = 0
    · rw [if_pos h0] at hm ⊢
      exact hend st cur g s m a c e X h0 hg hh hi hS hO hF hr hm hl
    · rw [if_neg h0] at hm ⊢
      dsimp only at hm ⊢
      have hks : 11 ≤ qK tk g.1 ∧ qK tk g.1 ≤ 15 := by
        by_cases hx : 11 ≤ qK tk g.1 ∧ qK tk g.1 ≤ 15
        · exact hx
        · exact absurd (qLvl_0 (by omega)) h0
      have hk17 : ¬ qK tk g.1 = 17 := by omega
      have hco := qClose_ok (b := if qK tk g.1 = 15 then 2 else qLvl (qK tk g.1)) (to := g.2.1) st cur hO hF.one.2.2.2.2
      have hfl := qFl_len st
      have hip := hi.pop
      have hsl := hS.le
      have hlv := qLvl_p hks.1 hks.2
      have hlt := hT.lt hg hk17
      have hll := qLoop_len tk op hne n (((qClose (if qK tk g.1 = 15 then 2 else qLvl (qK tk g.1)) g.2.1 st cur).2, (qTake tk g).1, qLvl (qK tk g.1)) :: (qClose (if qK tk g.1 = 15 then 2 else qLvl (qK tk g.1)) g.2.1 st cur).1) (op (qTake tk g).2).1 (op (qTake tk g).2).2 (fun q hq => by
        rcases List.mem_cons.mp hq with e | e
        · rw [e]; exact ⟨hco.2.2.2.2, hlv.2⟩
        · exact hco.2.2.1 q e) (hne _)
      have hqa : (qFlat (((qClose (if qK tk g.1 = 15 then 2 else qLvl (qK tk g.1)) g.2.1 st cur).2, (qTake tk g).1, qLvl (qK tk g.1)) :: (qClose (if qK tk g.1 = 15 then 2 else qLvl (qK tk g.1)) g.2.1 st cur).1)).length = (qFlat (qClose (if qK tk g.1 = 15 then 2 else qLvl (qK tk g.1)) g.2.1 st cur).1).length + ((qClose (if qK tk g.1 = 15 then 2 else qLvl (qK tk g.1)) g.2.1 st cur).2.length + 1 + 1) := by rw [qFlat, List.length_append, List.length_cons, List.length_append, qTake_len]
      have hbd : m + (qFlat st).length + cur.length + 2 + (op (qTake tk g).2).1.length ≤ 399 := by
        have := hll.1
        have := hco.1
        omega
      obtain ⟨s1, c1, e1, y1, y2, y3, y4, y5, y6, y7, y8⟩ := pM_close (N := N) (k := k) (ks := qK tk g.1) (p := p) (to := g.2.1) (a := a) (x4 := 1) hN (Or.inr ⟨rfl, hks.1, hks.2⟩) hh st N cur c e (jsI s 10 (nI X.length)) (by omega) hip.2.2.2.1 hip.2.2.2.2.1 (hS.fm (fm_pop (m := m + (qFl st).length) (h := h + 2 * st.length) (p := c)) (Nat.le_refl _) (Nat.le_refl _) (Nat.le_refl _)) (hF.fm (fm_pop (m := m + (qFl st).length + cur.length) (h := 0) (p := g.2.1)) (Nat.le_refl _) (Nat.le_refl _)) hr (by omega)
      rw [show qCl 1 (qK tk g.1) = (if qK tk g.1 = 15 then 2 else qLvl (qK tk g.1)) from rfl] at y2 y3 y4 y5 y6
      generalize qClose (if qK tk g.1 = 15 then 2 else qLvl (qK tk g.1)) g.2.1 st cur = cl at *
      have hfl1 := qFl_len cl.1
      have hsl1 := y4.le
      have hcl := y5.one
      have hi1 : MiM tk k s1 g (m + (qFl cl.1).length + cl.2.length) (h + 2 * cl.1.length + 1) X := hip.of y8 y2 y3 (by omega)
      obtain ⟨s2, e2, hi2, hF2, hR2, hf2⟩ := pM_tk (N := N) hT hg hk17 hi1 (by have := hco.1; omega)
      obtain ⟨s3, e3, hi3, hs3⟩ := hi2.push (N := N) (by omega) (8, p, h)
      obtain ⟨s4, e4, hi4, hs4⟩ := hi3.push (N := N) (by simp; omega) (9, p, 0)
      have hone : Rch N k s s4 1 := Rch.one hi.2.2.2.2.2.2.1 (by omega) (by
        show fM_perform N (nI k) (nI 8) (nI p) (nI h) _ = _
        rw [pf_8, pM_more0 hT hip hg rfl, if_pos hks, y1]
        unfold fM_more_119
        have e3 : fM_add N (8 : Int32) (nI p) (nI h) s2 = some (0, s3) := e3
        have e4 : fM_add N (9 : Int32) (nI p) (0 : Int32) s3 = some (0, s4) := e4
        rw [if_neg (by decide), e2, jB_s, e3, jB_s, e4, jB_s, jB_s])
      have hf24 : FmM k (m + (qFl cl.1).length + cl.2.length) (h + 2 * cl.1.length + 1) g.2.1 s1 s4 := (hf2.tr (fm_task hs3) (Nat.le_refl _) (Nat.le_refl _) (Nat.le_refl _)).tr (fm_task hs4) (Nat.le_refl _) (Nat.le_refl _) (Nat.le_refl _)
      obtain ⟨s5, R5, j5, r5, z1, z2, z3, z4, z5, z6, z7, z8⟩ := hop s4 (qTake tk g).2 _ _ (X ++ [(8, p, h)]) trivial hlt.2.1 hi4 (by have := hco.1; omega) (by simp; omega)
      obtain ⟨e6, rfl⟩ : ∃ e6, R5 = [e6] := by
        cases R5 with
        | nil => simp at z7
        | cons q R =>
          cases R with
          | nil => exact ⟨q, rfl⟩
          | cons q' R => simp at z7
      have hgE : g.2.1 ≤ qE tk g.1 := hF2.one.1
      have hF24 : FoM s4 k g.2.1 (qE tk g.1) (m + (qFl cl.1).length + cl.2.length) (qTake tk g).1 [m + (qFl cl.1).length + cl.2.length] := (hF2.fm (fm_task (m := m + (qFl cl.1).length + cl.2.length + 1) (h := 0) (p := qE tk g.1) hs3) (by rw [qTake_len]; omega) (Nat.le_refl _)).fm (fm_task (m := m + (qFl cl.1).length + cl.2.length + 1) (h := 0) (p := qE tk g.1) hs4) (by rw [qTake_len]; omega) (Nat.le_refl _)
      have hR24 : jgA s4 28 (h + 2 * cl.1.length + 1) = nI (m + (qFl cl.1).length + cl.2.length) := by
        rw [hs4.2 28 (by decide), hs3.2 28 (by decide)]
        exact hR2 0 (by simp)
      have hK24 : jgA s4 18 (m + (qFl cl.1).length + cl.2.length) = nI (qK tk g.1) := (hF24.hd.1 (by simp)).1.1
      have hqf : (qFl ((cl.2, (qTake tk g).1, qLvl (qK tk g.1)) :: cl.1)).length = (qFl cl.1).length + (cl.2.length + 1) := by rw [qFl, List.length_append, List.length_append, qTake_len]
      have hT1 : (qTake tk g).2.2.1 = qE tk g.1 := rfl
      have hT2 : (qTake tk g).2.1 = g.1 + 1 := rfl
      obtain ⟨s6, j6, e6', r6, x1, x2, x3, x4, x5, x6, x7⟩ := ih ((cl.2, (qTake tk g).1, qLvl (qK tk g.1)) :: cl.1) (op (qTake tk g).2).1 (op (qTake tk g).2).2 s5 m a (qE tk g.1) e6 X (by omega) z2 hh (by
        rw [hqf, List.length_cons]
        rw [show m + ((qFl cl.1).length + (cl.2.length + 1)) + (op (qTake tk g).2).1.length = m + (qFl cl.1).length + cl.2.length + 1 + (op (qTake tk g).2).1.length by omega, show h + 2 * (cl.1.length + 1) + 1 = h + 2 * cl.1.length + 1 + 1 + 1 by omega]
        exact z1) (by
        refine ⟨c1, g.2.1, e1, m + (qFl cl.1).length + cl.2.length, qK tk g.1, ?_, ?_, ?_, ?_, ?_, ?_, hks.1, hks.2, rfl⟩
        · exact (y4.fm hf24 (by omega) (by omega) hcl.1).fm z6 (by omega) (by omega) (by rw [hT1]; omega)
        · exact (y5.fm hf24 (by omega) (by omega)).fm z6 (by omega) (by rw [hT1]; omega)
        · exact hF24.fm z6 (by rw [qTake_len]; omega) (by rw [hT1]; omega)
        · rw [z6.2.2.1 _ (by omega), hf24.2.2.1 _ (by omega)]
          exact y6
        · rw [z6.2.2.1 _ (by omega)]
          exact hR24
        · rw [z6.2.1 18 (by decide) (by decide) _ (by omega)]
          exact hK24) (fun q hq => by
        rcases List.mem_cons.mp hq with e | e
        · rw [e]; exact ⟨hco.2.2.2.2, hlv.2⟩
        · exact hco.2.2.1 q e) (by
        rw [hqf, show m + ((qFl cl.1).length + (cl.2.length + 1)) = m + (qFl cl.1).length + cl.2.length + 1 by omega]
        exact z4) (by
        have := z5 0 (by simp)
        rw [List.length_cons, show h + 2 * (cl.1.length + 1) = h + 2 * cl.1.length + 1 + 1 by omega]
        exact this) hm hl
      refine ⟨s6, 1 + j5 + j6, e6', (hone.tr r5).tr r6, x1, x2, by omega, x4, x5, ?_, ?_⟩
      · exact ((fm_pop.tr y7 (Nat.le_refl _) (Nat.le_refl _) (Nat.le_refl _)).tr (hf24.tr z6 (by omega) (by omega) (by rw [hT1]; omega)) (by omega) (by omega) (by omega)).tr x6 (Nat.le_refl _) (Nat.le_refl _) (Nat.le_refl _)
      · rw [hqf] at x7
        have := hco.1
        omega
end ML
