/-! counting: expressions -/
theorem qLoop_co {tk : List (Nat × Nat × Nat)} (hP : TkP tk) {F : Sg → List Nd × Sg} (hF : ∀ g, (F g).1 ≠ []) (hC : CoX tk 1 1 F) : ∀ (n : Nat) (st : Stk) (cur : List Nd) (g : Sg), StkOk st → cur ≠ [] → g.1 < tk.length → ∃ δ, (qLoop tk F n st cur g).2.1 < tk.length ∧ qO tk (qLoop tk F n st cur g).2.1 = qO tk g.1 + δ ∧ (qLoop tk F n st cur g).1.length ≤ (qFlat st).length + cur.length + 3 * δ ∧ (fls (qLoop tk F n st cur g).1).length + (qLoop tk F n st cur g).2.2.2.length ≤ (fls (qFlat st ++ cur)).length + g.2.2.length + δ := by
  intro n
  have fin : ∀ (st : Stk) (cur : List Nd) (g : Sg), StkOk st → cur ≠ [] → g.1 < tk.length → ∃ δ, g.1 < tk.length ∧ qO tk g.1 = qO tk g.1 + δ ∧ (qClose 0 g.2.1 st cur).2.length ≤ (qFlat st).length + cur.length + 3 * δ ∧ (fls (qClose 0 g.2.1 st cur).2).length + g.2.2.length ≤ (fls (qFlat st ++ cur)).length + g.2.2.length + δ := by
    intro st cur g hS hc hg
    obtain ⟨h1, h2, -, -, h5⟩ := qClose_ok (b := 0) (to := g.2.1) st cur hS hc
    rw [qClose_0] at h1 h2
    simp only [qFlat, List.length_nil, Nat.zero_add, List.nil_append] at h1 h2
    exact ⟨0, hg, rfl, by omega, by omega⟩
  induction n with
  | zero => exact fin
  | succ n ih =>
    intro st cur g hS hc hg
    rw [qLoop]
    by_cases hl : qLvl (qK tk g.1) = 0
    · rw [if_pos hl]
      exact fin st cur g hS hc hg
    · rw [if_neg hl]
      have h17 : ¬ qK tk g.1 = 17 := fun e => hl (by rw [e]; rfl)
      obtain ⟨h1, h2, h3, h4, h5⟩ := qClose_ok (b := if qK tk g.1 = 15 then 2 else qLvl (qK tk g.1)) (to := g.2.1) st cur hS hc
      have hlv : qLvl (qK tk g.1) ≤ 4 := by unfold qLvl; repeat' (first | apply ite_le' | decide)
      generalize qClose (if qK tk g.1 = 15 then 2 else qLvl (qK tk g.1)) g.2.1 st cur = c at h1 h2 h3 h4 h5
      obtain ⟨d1, t1, t2, t3, t4, t5, t6⟩ := co_take hP hg h17
      obtain ⟨d2, o1, o2, o3, o4⟩ := hC (qTake tk g).2 t2
      obtain ⟨d3, l1, l2, l3, l4⟩ := ih ((c.2, (qTake tk g).1, qLvl (qK tk g.1)) :: c.1) (F (qTake tk g).2).1 (F (qTake tk g).2).2 (fun q hq => by
        rcases List.mem_cons.mp hq with e | e
        · rw [e]; exact ⟨h5, hlv⟩
        · exact h3 q e) (hF _) o1
      simp only [qFlat, List.length_append, List.length_cons] at l3
      simp only [qFlat, fls_app, fls_cons, List.length_append, qW, nL, List.length_nil] at l4
      rw [fls_len_app] at h2
      refine ⟨d1 + d2 + d3, l1, ?_, ?_, ?_⟩
      · dsimp only
        omega
      · dsimp only
        omega
      · dsimp only
        omega
theorem qExpr_co {tk : List (Nat × Nat × Nat)} (hP : TkP tk) {F : Sg → List Nd × Sg} (hF : ∀ g, (F g).1 ≠ []) (hC : CoX tk 1 1 F) : CoX tk 1 1 (qExpr tk F) := by
  intro g hg
  obtain ⟨d1, o1, o2, o3, o4⟩ := hC g hg
  obtain ⟨d2, l1, l2, l3, l4⟩ := qLoop_co hP hF hC 60 [] (F g).1 (F g).2 (fun q hq => absurd hq List.not_mem_nil) (hF g) o1
  simp only [qFlat, List.length_nil, List.nil_append] at l3 l4
  refine ⟨d1 + d2, l1, ?_, ?_, ?_⟩
  · show qO tk (qLoop tk F 60 [] (F g).1 (F g).2).2.1 = _
    omega
  · show (qLoop tk F 60 [] (F g).1 (F g).2).1.length ≤ _
    omega
  · show (fls (qLoop tk F 60 [] (F g).1 (F g).2).1).length + (qLoop tk F 60 [] (F g).1 (F g).2).2.2.2.length ≤ _
    omega
theorem qOpd_co {tk : List (Nat × Nat × Nat)} (hP : TkP tk) : ∀ q : Nat, CoX tk 1 1 (qOpd tk q) := by
  have tke : ∀ g : Sg, g.1 < tk.length → ¬ qK tk g.1 = 17 → ∃ δ, (qTake tk g).2.1 < tk.length ∧ qO tk (qTake tk g).2.1 = qO tk g.1 + δ ∧ (qTake tk g).1.length ≤ 1 + 3 * δ ∧ (fls (qTake tk g).1).length + (qTake tk g).2.2.2.length ≤ g.2.2.length + 1 + δ := by
    intro g hg h
    obtain ⟨d1, t1, t2, t3, t4, t5, t6⟩ := co_take hP hg h
    exact ⟨d1, t2, t3, by omega, by omega⟩
  have mis : ∀ (k f : Nat) (g : Sg), g.1 < tk.length → ∃ δ, (qMiss k f g).2.1 < tk.length ∧ qO tk (qMiss k f g).2.1 = qO tk g.1 + δ ∧ (qMiss k f g).1.length ≤ 1 + 3 * δ ∧ (fls (qMiss k f g).1).length + (qMiss k f g).2.2.2.length ≤ g.2.2.length + 1 + δ := by
    intro k f g hg
    refine ⟨0, hg, rfl, Nat.le_refl _, ?_⟩
    show 1 + g.2.2.length ≤ _
    omega
  intro q
  induction q with
  | zero =>
    intro g hg
    by_cases h1 : qK tk g.1 = 1 ∨ qK tk g.1 = 2
    · rw [qOpd_take tk 0 g h1]
      exact tke g hg (by omega)
    · by_cases h9 : qK tk g.1 = 9 ∨ qK tk g.1 = 12
      · rw [qOpd_z tk g h9]
        exact mis 1 3 g hg
      · rw [qOpd_m tk 0 g (by omega) (by omega) (by omega) (by omega)]
        exact mis 1 2 g hg
  | succ q ih =>
    intro g hg
    by_cases h1 : qK tk g.1 = 1 ∨ qK tk g.1 = 2
    · rw [qOpd_take tk (q + 1) g h1]
      exact tke g hg (by omega)
    · by_cases h9 : qK tk g.1 = 9
      · rw [qOpd_par tk q g h9]
        dsimp only
        obtain ⟨d1, t1, t2, t3, t4, t5, t6⟩ := co_take hP hg (by omega)
        obtain ⟨d2, x1, x2, x3, x4⟩ := qExpr_co hP (qOpd_ne tk q) ih (qTake tk g).2 t2
        obtain ⟨d3, e1, e2, e3, e4⟩ := co_exp hP (k := 10) (by decide) (qExpr tk (qOpd tk q) (qTake tk g).2).2 x1
        rw [qNode_len, qNode_fls, List.length_append, List.length_append, fls_len_app, fls_len_app]
        exact ⟨d1 + d2 + d3, e1, by omega, by omega, by omega⟩
      · by_cases h12 : qK tk g.1 = 12
        · rw [qOpd_neg tk q g h12]
          dsimp only
          obtain ⟨d1, t1, t2, t3, t4, t5, t6⟩ := co_take hP hg (by omega)
          obtain ⟨d2, x1, x2, x3, x4⟩ := ih (qTake tk g).2 t2
          rw [qNode_len, qNode_fls, List.length_append, fls_len_app]
          exact ⟨d1 + d2, x1, by omega, by omega, by omega⟩
        · rw [qOpd_m tk (q + 1) g (by omega) (by omega) h9 h12]
          exact mis 1 2 g hg
theorem qEx_co {tk : List (Nat × Nat × Nat)} (hP : TkP tk) : CoX tk 1 1 (qEx tk) := qExpr_co hP (qOpd_ne tk 6) (qOpd_co hP 6)
