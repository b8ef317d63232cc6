/-! counting: statements, 6 nodes and 3 faults a character; the whole tree: 362 nodes, 180 faults at most -/
theorem qOpd_adv {tk : List (Nat × Nat × Nat)} (hP : TkP tk) (q : Nat) {g : Sg} (hg : g.1 < tk.length) (hk : qK tk g.1 = 1 ∨ qK tk g.1 = 2 ∨ qK tk g.1 = 9 ∨ qK tk g.1 = 12) : qO tk g.1 + 1 ≤ qO tk (qOpd tk (q + 1) g).2.1 := by
  obtain ⟨d1, t1, t2, t3, t4, t5, t6⟩ := co_take hP hg (show ¬ qK tk g.1 = 17 by omega)
  by_cases h1 : qK tk g.1 = 1 ∨ qK tk g.1 = 2
  · rw [qOpd_take tk (q + 1) g h1]
    omega
  · by_cases h9 : qK tk g.1 = 9
    · rw [qOpd_par tk q g h9]
      dsimp only
      obtain ⟨d2, x1, x2, x3, x4⟩ := qExpr_co hP (qOpd_ne tk q) (qOpd_co hP q) (qTake tk g).2 t2
      obtain ⟨d3, e1, e2, e3, e4⟩ := co_exp hP (k := 10) (by decide) (qExpr tk (qOpd tk q) (qTake tk g).2).2 x1
      omega
    · rw [qOpd_neg tk q g (by omega)]
      dsimp only
      obtain ⟨d2, x1, x2, x3, x4⟩ := qOpd_co hP q (qTake tk g).2 t2
      omega
theorem qEx_adv {tk : List (Nat × Nat × Nat)} (hP : TkP tk) {g : Sg} (hg : g.1 < tk.length) (hk : qK tk g.1 = 1 ∨ qK tk g.1 = 2 ∨ qK tk g.1 = 9 ∨ qK tk g.1 = 12) : qO tk g.1 + 1 ≤ qO tk (qEx tk g).2.1 := by
  have h : qO tk g.1 + 1 ≤ qO tk (qOpd tk 6 g).2.1 := qOpd_adv hP 5 hg hk
  obtain ⟨d1, o1, o2, o3, o4⟩ := qOpd_co hP 6 g hg
  obtain ⟨d2, l1, l2, l3, l4⟩ := qLoop_co hP (qOpd_ne tk 6) (qOpd_co hP 6) 60 [] (qOpd tk 6 g).1 (qOpd tk 6 g).2 (fun q hq => absurd hq List.not_mem_nil) (qOpd_ne tk 6 g) o1
  show qO tk g.1 + 1 ≤ qO tk (qLoop tk (qOpd tk 6) 60 [] (qOpd tk 6 g).1 (qOpd tk 6 g).2).2.1
  omega
def CoS (tk : List (Nat × Nat × Nat)) (r : Nat) (F : Sg → List Nd × Sg) : Prop := ∀ g : Sg, g.1 < tk.length → qBeg tk r g = true → ∃ δ, (F g).2.1 < tk.length ∧ qO tk (F g).2.1 = qO tk g.1 + δ ∧ (F g).1.length ≤ 6 * δ ∧ (fls (F g).1).length + (F g).2.2.2.length ≤ g.2.2.length + 3 * δ
theorem qList_co {tk : List (Nat × Nat × Nat)} (hP : TkP tk) {st : Sg → List Nd × Sg} {r : Nat} (hS : CoS tk r st) (inner : Bool) : ∀ (n : Nat) (g : Sg), g.1 < tk.length → ∃ δ, (qList tk st r inner n g).2.2.1 < tk.length ∧ qO tk (qList tk st r inner n g).2.2.1 = qO tk g.1 + δ ∧ (qList tk st r inner n g).1.length ≤ 6 * δ ∧ (fls (qList tk st r inner n g).1).length + (qList tk st r inner n g).2.2.2.2.length ≤ g.2.2.length + 3 * δ := by
  intro n
  have nil : ∀ g : Sg, g.1 < tk.length → ∃ δ, g.1 < tk.length ∧ qO tk g.1 = qO tk g.1 + δ ∧ ([] : List Nd).length ≤ 6 * δ ∧ (fls []).length + g.2.2.length ≤ g.2.2.length + 3 * δ := fun g hg => ⟨0, hg, rfl, Nat.le_refl _, by simp [fls]⟩
  induction n with
  | zero => exact nil
  | succ n ih =>
    intro g hg
    rw [qList]
    by_cases he : qK tk g.1 = 17 ∨ (inner = true ∧ qK tk g.1 = 8)
    · rw [if_pos he]
      exact nil g hg
    · rw [if_neg he]
      by_cases hb : qBeg tk r g = true
      · rw [if_pos hb]
        dsimp only
        obtain ⟨d1, s1, s2, s3, s4⟩ := hS g hg hb
        obtain ⟨d2, l1, l2, l3, l4⟩ := ih (st g).2 s1
        rw [List.length_append, fls_len_app]
        exact ⟨d1 + d2, l1, by omega, by omega, by omega⟩
      · rw [if_neg hb]
        obtain ⟨h1, h2, -⟩ := hP g.1 hg (fun z => he (Or.inl z))
        obtain ⟨d2, l1, l2, l3, l4⟩ := ih (qSkip tk g) h1
        have e1 : qO tk (qSkip tk g).1 = qO tk (g.1 + 1) := rfl
        have e2 : (qSkip tk g).2.2.length = g.2.2.length + 1 := by simp [qSkip]
        exact ⟨qO tk (g.1 + 1) - qO tk g.1 + d2, l1, by omega, by omega, by omega⟩
theorem qPart_co {tk : List (Nat × Nat × Nat)} {st : Sg → List Nd × Sg} {r : Nat} (hS : CoS tk r st) (g : Sg) (hg : g.1 < tk.length) : ∃ δ, (qPart tk st r g).2.1 < tk.length ∧ qO tk (qPart tk st r g).2.1 = qO tk g.1 + δ ∧ (qPart tk st r g).1.length ≤ 2 + 6 * δ ∧ (fls (qPart tk st r g).1).length + (qPart tk st r g).2.2.2.length ≤ g.2.2.length + 1 + 3 * δ := by
  unfold qPart
  by_cases hb : qBeg tk r g = true
  · rw [if_pos hb]
    obtain ⟨d1, s1, s2, s3, s4⟩ := hS g hg hb
    exact ⟨d1, s1, s2, by omega, by omega⟩
  · rw [if_neg hb]
    dsimp only
    rw [qNode_fls, qNode_len, co_miss.2.1]
    refine ⟨0, hg, rfl, Nat.le_refl _, ?_⟩
    show 1 + g.2.2.length ≤ _
    omega
theorem qCond_co {tk : List (Nat × Nat × Nat)} (hP : TkP tk) (g : Sg) (hg : g.1 < tk.length) : ∃ δ, (qCond tk g).2.1 < tk.length ∧ qO tk (qCond tk g).2.1 = qO tk g.1 + δ ∧ (qCond tk g).1.length ≤ 3 + 3 * δ ∧ (fls (qCond tk g).1).length + (qCond tk g).2.2.2.length ≤ g.2.2.length + 3 + δ := by
  unfold qCond
  dsimp only
  obtain ⟨d1, a1, a2, a3, a4⟩ := co_exp hP (k := 9) (by decide) g hg
  obtain ⟨d2, x1, x2, x3, x4⟩ := qEx_co hP _ a1
  obtain ⟨d3, e1, e2, e3, e4⟩ := co_exp hP (k := 10) (by decide) _ x1
  rw [List.length_append, List.length_append, fls_len_app, fls_len_app]
  exact ⟨d1 + d2 + d3, e1, by omega, by omega, by omega⟩
theorem qStmt_co {tk : List (Nat × Nat × Nat)} (hP : TkP tk) : ∀ r : Nat, CoS tk r (qStmt tk r) := by
  intro r
  induction r with
  | zero =>
    intro g hg hb
    obtain ⟨n3, n5, n7⟩ := qBeg_0 hb
    by_cases h6 : qK tk g.1 = 6
    · rw [qStmt_e tk 0 g h6]
      obtain ⟨d1, t1, t2, t3, t4, t5, t6⟩ := co_take hP hg (show ¬ qK tk g.1 = 17 by omega)
      unfold qEmpty
      dsimp only
      rw [qNode_fls, qNode_len]
      exact ⟨d1, t2, t3, by omega, by omega⟩
    · rw [qStmt_s tk 0 g h6 n3 n5 n7]
      have hc := qBeg_can hb
      simp only [qCan, Bool.or_eq_true, beq_iff_eq] at hc
      have ha := qEx_adv hP hg (by omega)
      obtain ⟨d2, x1, x2, x3, x4⟩ := qEx_co hP g hg
      obtain ⟨d3, e1, e2, e3, e4⟩ := co_exp hP (k := 6) (by decide) _ x1
      unfold qSimple
      dsimp only
      rw [qNode_fls, qNode_len, List.length_append, fls_len_app]
      exact ⟨d2 + d3, e1, by omega, by omega, by omega⟩
  | succ r ih =>
    intro g hg hb
    obtain ⟨d1, t1, t2, t3, t4, t5, t6⟩ := co_take hP hg (qBeg_17 hb)
    have hw := hP g.1 hg (qBeg_17 hb)
    have ht : (qTake tk g).2.1 = g.1 + 1 := rfl
    by_cases h6 : qK tk g.1 = 6
    · rw [qStmt_e tk (r + 1) g h6]
      unfold qEmpty
      dsimp only
      rw [qNode_fls, qNode_len]
      exact ⟨d1, t2, t3, by omega, by omega⟩
    · by_cases h7 : qK tk g.1 = 7
      · rw [qStmt_7 tk r g h7]
        obtain ⟨d2, l1, l2, l3, l4⟩ := qList_co hP ih true 60 _ t2
        obtain ⟨d3, e1, e2, e3, e4⟩ := co_exp hP (k := 8) (by decide) _ l1
        dsimp only
        rw [qNode_fls, qNode_len, List.length_append, List.length_append, fls_len_app, fls_len_app]
        exact ⟨d1 + d2 + d3, e1, by omega, by omega, by omega⟩
      · by_cases h3 : qK tk g.1 = 3
        · rw [qStmt_3 tk r g h3]
          have h32 := hw.2.2.1 h3
          rw [ht] at t3
          obtain ⟨d2, c1, c2, c3, c4⟩ := qCond_co hP _ t2
          obtain ⟨d3, p1, p2, p3, p4⟩ := qPart_co ih _ c1
          have hE : ∃ δ, (qElse tk (qPart tk (qStmt tk r) r) (qPart tk (qStmt tk r) r (qCond tk (qTake tk g).2).2).2).2.1 < tk.length ∧ qO tk (qElse tk (qPart tk (qStmt tk r) r) (qPart tk (qStmt tk r) r (qCond tk (qTake tk g).2).2).2).2.1 = qO tk (qPart tk (qStmt tk r) r (qCond tk (qTake tk g).2).2).2.1 + δ ∧ (qElse tk (qPart tk (qStmt tk r) r) (qPart tk (qStmt tk r) r (qCond tk (qTake tk g).2).2).2).1.length ≤ 6 * δ ∧ (fls (qElse tk (qPart tk (qStmt tk r) r) (qPart tk (qStmt tk r) r (qCond tk (qTake tk g).2).2).2).1).length + (qElse tk (qPart tk (qStmt tk r) r) (qPart tk (qStmt tk r) r (qCond tk (qTake tk g).2).2).2).2.2.2.length ≤ (qPart tk (qStmt tk r) r (qCond tk (qTake tk g).2).2).2.2.2.length + 3 * δ := by
            generalize (qPart tk (qStmt tk r) r (qCond tk (qTake tk g).2).2).2 = y at p1
            unfold qElse
            by_cases h4 : qK tk y.1 = 4
            · rw [if_pos h4]
              unfold qSeq
              dsimp only
              obtain ⟨f1, u1, u2, u3, u4, u5, u6⟩ := co_take hP p1 (show ¬ qK tk y.1 = 17 by omega)
              have h44 := (hP y.1 p1 (by omega)).2.2.2.1 h4
              have hu : (qTake tk y).2.1 = y.1 + 1 := rfl
              obtain ⟨f2, v1, v2, v3, v4⟩ := qPart_co ih _ u2
              rw [hu] at u3 v2
              rw [List.length_append, fls_len_app]
              exact ⟨f1 + f2, v1, by omega, by omega, by omega⟩
            · rw [if_neg h4]
              exact ⟨0, p1, rfl, Nat.le_refl _, by simp [fls]⟩
          obtain ⟨d4, q1, q2, q3, q4⟩ := hE
          rw [ht] at c2
          unfold qOver
          dsimp only
          unfold qSeq
          dsimp only
          rw [qNode_fls, qNode_len, List.length_append, List.length_append, List.length_append, fls_len_app, fls_len_app, fls_len_app]
          exact ⟨d1 + d2 + d3 + d4, q1, by omega, by omega, by omega⟩
        · by_cases h5 : qK tk g.1 = 5
          · rw [qStmt_5 tk r g h5]
            have h55 := hw.2.2.2.2 h5
            rw [ht] at t3
            obtain ⟨d2, c1, c2, c3, c4⟩ := qCond_co hP _ t2
            obtain ⟨d3, p1, p2, p3, p4⟩ := qPart_co ih _ c1
            rw [ht] at c2
            unfold qOver
            dsimp only
            unfold qSeq
            dsimp only
            rw [qNode_fls, qNode_len, List.length_append, List.length_append, fls_len_app, fls_len_app]
            exact ⟨d1 + d2 + d3, p1, by omega, by omega, by omega⟩
          · rw [qStmt_s tk (r + 1) g h6 h3 h5 h7]
            have hc := qBeg_can hb
            simp only [qCan, Bool.or_eq_true, beq_iff_eq] at hc
            have ha := qEx_adv hP hg (by omega)
            obtain ⟨d2, x1, x2, x3, x4⟩ := qEx_co hP g hg
            obtain ⟨d3, e1, e2, e3, e4⟩ := co_exp hP (k := 6) (by decide) _ x1
            unfold qSimple
            dsimp only
            rw [qNode_fls, qNode_len, List.length_append, fls_len_app]
            exact ⟨d2 + d3, e1, by omega, by omega, by omega⟩
theorem qTr_co {t : List Int32} (h : t.length ≤ 60) : (qTr t).length ≤ 362 ∧ (fls (qTr t)).length ≤ 180 := by
  obtain ⟨c1, c2, c3, c4, c5, -⟩ := qToks_C h
  obtain ⟨d, l1, l2, l3, l4⟩ := qList_co (qToks_P h) (qStmt_co (qToks_P h) 6) false 60 (0, 0, []) (by show 0 < _; omega)
  have h60 := (c5 (qList (qToks t 61 0) (qStmt (qToks t 61 0) 6) 6 false 60 (0, 0, [])).2.2.1).2.1
  unfold qTr qTree
  dsimp only
  rw [qNode_fls, qNode_len, List.length_append, fls_len_app, qTake_len]
  have hq : (fls (qTake (qToks t 61 0) (qList (qToks t 61 0) (qStmt (qToks t 61 0) 6) 6 false 60 (0, 0, [])).2.2).1).length = (qList (qToks t 61 0) (qStmt (qToks t 61 0) 6) 6 false 60 (0, 0, [])).2.2.2.2.length := by rw [qTake, fls_one]; rfl
  rw [hq]
  simp only [List.length_nil] at l4
  exact ⟨by omega, by omega⟩
/-- THE CLASS READS: any text of at most 60 good characters -/
theorem pR_readAll {N : Nat} {s : jS} {t : List Int32} (h : TxR s t) (hok : TxOk t) (hN : 100 ≤ N) : ∃ s', fR_read N s = some (0, s') ∧ RdF s' t :=
  pR_read h hok hN (qToks_W h.2.1) (qTr_co h.2.1).1 (qTr_co h.2.1).2
