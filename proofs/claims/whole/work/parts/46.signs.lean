/-! open signs: what the class's nodes and its stack are while an expression is read -/
/-- a 26 that is not closed yet, over the left operand L -/
def qW (L : List Nd) : Nd := (26, nF (ndA L 0), 0, nO (ndA L 0), 0, 0, nZ (ndA L 0), [])
def qFlat : Stk → List Nd
  | [] => []
  | (L, S, _) :: r => qFlat r ++ (qW L :: (L ++ S))
def qOps (b : Nat) : Stk → List (Nat × Nat)
  | [] => []
  | (_, _, x) :: r => qOps b r ++ [(b + (qFlat r).length, x)]
theorem qOps_len (b : Nat) : ∀ st : Stk, (qOps b st).length = st.length
  | [] => rfl
  | (_, _, _) :: r => by simp [qOps, qOps_len b r]
def StkOk (st : Stk) : Prop := ∀ q ∈ st, q.1 ≠ [] ∧ q.2.2 ≤ 4
theorem headD_ndA {l : List Nd} : l.headD (0, 0, 0, 0, 0, 0, 0, []) = ndA l 0 := by cases l <;> rfl
section PS
variable {t : List Int32} {tk : List (Nat × Nat × Nat)} {s : jS} {l : List Nd} {g : Sg} {op : List (Nat × Nat)} {N : Nat}
theorem pR_open {k b : Nat} (h : RdR t tk s l g op) (ho : op.length < 60) : ∃ s', fR_openSign N (nI k) (nI b) s = some (0, s') ∧ RdR t tk s' l g (op ++ [(k, b)]) := by
  obtain ⟨hT, hK, hR, h2, h5, hP, hO⟩ := h
  unfold fR_openSign
  rw [hO.1, if_neg (show ¬ (60 : Int32) ≤ nI _ from nI_ge (b := 60) ho (by decide)), if_pos (jIn_nI ho (by decide)), jL_e, nI_clamp (by omega)]
  simp only [jgI_sA, hO.1]
  rw [if_pos (jIn_nI ho (by decide)), jL_e, jL_e, nI_clamp (by omega)]
  simp only [jgI_sA, hO.1]
  rw [nI_1]
  have m1 : jSm [7] [12, 13] s (jsI (jsA (jsA s 12 op.length (nI k)) 13 op.length (nI b)) 7 (nI (op.length + 1))) := ((jSm.rf.sA (by decide)).sA (by decide)).sI (by decide)
  have hO2 : OpR (jsI (jsA (jsA s 12 op.length (nI k)) 13 op.length (nI b)) 7 (nI (op.length + 1))) (op ++ [(k, b)]) := by
    refine ⟨by rw [jgI_sI, if_pos rfl, List.length_append]; rfl, fun i hi => ?_⟩
    simp only [List.length_append, List.length_cons, List.length_nil] at hi
    show upd (jgA s 12) op.length (nI k) i = _ ∧ upd (jgA s 13) op.length (nI b) i = _
    by_cases hq : i < op.length
    · rw [pk_un (by omega), pk_un (by omega), getD_app_l hq]
      exact hO.2 i hq
    · have he : i = op.length := by omega
      subst he
      rw [pk_us, pk_us, getD_app_r (Nat.le_refl _), Nat.sub_self]
      exact ⟨rfl, rfl⟩
  exact ⟨_, rfl, hT.sm m1 (by decide) (by decide), hK.sm m1 (by decide) (by decide) (by decide) (by decide), hR.sm m1 (by decide) (by decide) (by decide) (by decide) (by decide) (by decide) (by decide) (by decide), by rw [m1.1 2 (by decide)]; exact h2, by rw [m1.1 5 (by decide)]; exact h5, hP.sm m1 (by decide) (by decide) (by decide), hO2⟩
theorem pR_skip (h : RdR t tk s l g op) (hW : TkW tk) (hB : SgB tk g op) (hk : ¬ qK tk g.1 = 17) : ∃ s', fR_skip N s = some (0, s') ∧ RdR t tk s' l (qSkip tk g) op ∧ SgB tk (qSkip tk g) op := by
  have hl := at_lt hW hB hk
  have hkk := pK_kind (N := N) h hW hB
  have hoo := pK_own (N := N) h hW hB
  have h0 := h
  obtain ⟨hT, hK, hR, h2, h5, hP, hO⟩ := h
  have hp : g.2.2.length < 60 := by have := hB.2.2.1; have := hW.2.1; omega
  unfold fR_skip
  rw [hP.1, if_neg (show ¬ (60 : Int32) ≤ nI _ from nI_ge (b := 60) hp (by decide)), hoo, jB_s, if_pos (jIn_nI hp (by decide)), jL_e, nI_clamp (by omega)]
  have m1 : jSm [6] [10, 11] s (jsA s 10 g.2.2.length (nI (qO tk g.1))) := jSm.rf.sA (by decide)
  have x10 : jgA (jsA s 10 g.2.2.length (nI (qO tk g.1))) 10 = upd (jgA s 10) g.2.2.length (nI (qO tk g.1)) := rfl
  have x11 : jgA (jsA s 10 g.2.2.length (nI (qO tk g.1))) 11 = jgA s 11 := rfl
  have x6 : jgI (jsA s 10 g.2.2.length (nI (qO tk g.1))) 6 = nI g.2.2.length := hP.1
  have x1 : fK_kind N (jsA s 10 g.2.2.length (nI (qO tk g.1))) = some (nI (qK tk g.1), jsA s 10 g.2.2.length (nI (qO tk g.1))) := by
    have := hW.2.1
    have := hB.1
    unfold fK_kind
    show (if jgI s 1 ≤ jgI s 2 then _ else _) = _
    rw [hK.1, h2, if_neg (nI_ge hB.1 (by omega))]
    show (if jIn (jgI s 2) 61 = true then some (jgA s 1 (jgI s 2).toNatClampNeg, _) else none) = _
    rw [h2, if_pos (jIn_nI (by omega) (by decide)), nI_clamp (by omega), (hK.2 g.1 hB.1).1]
  generalize jsA s 10 g.2.2.length (nI (qO tk g.1)) = s1 at m1 x10 x11 x6 x1 ⊢
  have hcan : ∀ n : Nat, n ≤ 17 → fR_canBegin N (nI n) s1 = some ((if qCan n = true then 1 else 0), s1) := by
    intro n hn
    rcases (show n = 0 ∨ n = 1 ∨ n = 2 ∨ n = 3 ∨ n = 4 ∨ n = 5 ∨ n = 6 ∨ n = 7 ∨ n = 8 ∨ n = 9 ∨ n = 10 ∨ n = 11 ∨ n = 12 ∨ n = 13 ∨ n = 14 ∨ n = 15 ∨ n = 16 ∨ n = 17 by omega) with rfl | rfl | rfl | rfl | rfl | rfl | rfl | rfl | rfl | rfl | rfl | rfl | rfl | rfl | rfl | rfl | rfl | rfl <;> rfl
  rw [x1, jB_s, hcan _ (hW.2.2.2.2 g.1).1, jB_s, x6, if_pos (jIn_nI hp (by decide)), if_pos (jIn_nI hp (by decide)), nI_clamp (by omega)]
  have fin : ∀ f : Nat, f < 4 → ∃ s', (jL (jsA s1 11 g.2.2.length (nI f)) fun s8 => (jL (jsI s8 6 (jgI s8 6 + (1 : Int32))) fun s9 => (jB (fK_advance N s9) fun r10 s10 => some ((0 : Int32), s10)))) = some (0, s') ∧ RdR t tk s' l (g.1 + 1, g.2.1, g.2.2 ++ [4 * qO tk g.1 + f]) op := by
    intro f hf
    rw [jL_e, jL_e, jgI_sA, x6, nI_1]
    have m2 : jSm [6] [10, 11] s (jsI (jsA s1 11 g.2.2.length (nI f)) 6 (nI (g.2.2.length + 1))) := (m1.sA (by decide)).sI (by decide)
    have hP2 : PnR (jsI (jsA s1 11 g.2.2.length (nI f)) 6 (nI (g.2.2.length + 1))) (g.2.2 ++ [4 * qO tk g.1 + f]) := by
      refine ⟨by rw [jgI_sI, if_pos rfl, List.length_append]; rfl, fun i hi => ?_⟩
      simp only [List.length_append, List.length_cons, List.length_nil] at hi
      show jgA s1 10 i = _ ∧ upd (jgA s1 11) g.2.2.length (nI f) i = _
      rw [x10, x11]
      by_cases hq : i < g.2.2.length
      · rw [pk_un (by omega), pk_un (by omega), getD_app_l hq]
        exact hP.2 i hq
      · have he : i = g.2.2.length := by omega
        subst he
        rw [pk_us, pk_us, getD_app_r (Nat.le_refl _), Nat.sub_self]
        show nI (qO tk g.1) = nI ((4 * qO tk g.1 + f) / 4) ∧ nI f = nI ((4 * qO tk g.1 + f) % 4)
        rw [show (4 * qO tk g.1 + f) / 4 = qO tk g.1 by omega, show (4 * qO tk g.1 + f) % 4 = f by omega]
        exact ⟨rfl, rfl⟩
    generalize jsI (jsA s1 11 g.2.2.length (nI f)) 6 (nI (g.2.2.length + 1)) = s2 at m2 hP2 ⊢
    obtain ⟨s3, e3, a2, m3⟩ := pK_adv (N := N) (hK.sm m2 (by decide) (by decide) (by decide) (by decide)) (by rw [m2.1 2 (by decide)]; exact h2) hW hB.1
    rw [e3, jB_s]
    rw [if_pos hl] at a2
    refine ⟨s3, rfl, (hT.sm m2 (by decide) (by decide)).sm m3 (by decide) (by decide), (hK.sm m2 (by decide) (by decide) (by decide) (by decide)).sm m3 (by decide) (by decide) (by decide) (by decide), (hR.sm m2 (by decide) (by decide) (by decide) (by decide) (by decide) (by decide) (by decide) (by decide)).sm m3 (by decide) (by decide) (by decide) (by decide) (by decide) (by decide) (by decide) (by decide), a2, ?_, hP2.sm m3 (by decide) (by decide) (by decide), (hO.sm m2 (by decide) (by decide) (by decide)).sm m3 (by decide) (by decide) (by decide)⟩
    rw [m3.1 5 (by decide), m2.1 5 (by decide)]
    exact h5
  have hb2 : SgB tk (qSkip tk g) op := ⟨hl, hB.2.1, by show (g.2.2 ++ _).length ≤ _; rw [List.length_append]; exact Nat.succ_le_succ hB.2.2.1, Nat.le_succ_of_le hB.2.2.2⟩
  cases hc : qCan (qK tk g.1)
  · rw [if_pos (show (if false = true then (1 : Int32) else 0) = 0 from rfl)]
    obtain ⟨s', e, r⟩ := fin 1 (by decide)
    refine ⟨s', e, ?_, hb2⟩
    show RdR t tk s' l (g.1 + 1, g.2.1, g.2.2 ++ [4 * qO tk g.1 + (if qCan (qK tk g.1) = true then 3 else 1)]) op
    rw [hc]
    exact r
  · rw [if_neg (by decide)]
    obtain ⟨s', e, r⟩ := fin 3 (by decide)
    refine ⟨s', e, ?_, hb2⟩
    show RdR t tk s' l (g.1 + 1, g.2.1, g.2.2 ++ [4 * qO tk g.1 + (if qCan (qK tk g.1) = true then 3 else 1)]) op
    rw [hc]
    exact r
theorem pR_closeL {op0 : List (Nat × Nat)} {b : Nat} (hb : b ≤ 5) : ∀ (st : Stk) (cur : List Nd) (s : jS) (m : Nat), st.length < m → StkOk st → RdR t tk s (l ++ (qFlat st ++ cur)) g (op0 ++ qOps l.length st) → (l ++ (qFlat st ++ cur)).length ≤ 362 → (op0 ++ qOps l.length st).length ≤ 60 → ∃ s', fR_closeSigns_3 N m (nI op0.length) (nI b) (nI (l.length + (qFlat st).length)) s = some (nI (l.length + (qFlat (qClose b g.2.1 st cur).1).length), s') ∧ RdR t tk s' (l ++ (qFlat (qClose b g.2.1 st cur).1 ++ (qClose b g.2.1 st cur).2)) g (op0 ++ qOps l.length (qClose b g.2.1 st cur).1) := by
  intro st
  induction st with
  | nil =>
    intro cur s m hm hS h hl ho
    cases m with
    | zero => omega
    | succ m =>
      show ∃ s', fR_closeSigns_b3 N (fR_closeSigns_3 N m) _ _ _ s = _ ∧ _
      unfold fR_closeSigns_b3
      have hO := h.2.2.2.2.2.2.1
      rw [show op0 ++ qOps l.length [] = op0 from List.append_nil _] at hO ho
      rw [hO, if_pos (nI_le (Nat.le_refl _) (by omega))]
      exact ⟨s, rfl, h⟩
  | cons q r ih =>
    obtain ⟨L, S, x⟩ := q
    intro cur s m hm hS h hl ho
    cases m with
    | zero => omega
    | succ m =>
      show ∃ s', fR_closeSigns_b3 N (fR_closeSigns_3 N m) _ _ _ s = _ ∧ _
      unfold fR_closeSigns_b3
      have hLx := hS (L, S, x) List.mem_cons_self
      have hx4 : x ≤ 4 := hLx.2
      obtain ⟨hT, hK, hR, h2, h5, hP, hO⟩ := h
      have elen : (op0 ++ qOps l.length ((L, S, x) :: r)).length = op0.length + r.length + 1 := by simp [qOps, qOps_len]; omega
      have hO1 := hO.1
      rw [elen] at hO1 ho
      have hget : (op0 ++ qOps l.length ((L, S, x) :: r)).getD (op0.length + r.length) (0, 0) = (l.length + (qFlat r).length, x) := by
        rw [getD_app_r (by omega), qOps, getD_app_r (by rw [qOps_len]; omega), qOps_len, show op0.length + r.length - op0.length - r.length = 0 by omega]
        rfl
      obtain ⟨o1, o2⟩ := hO.2 (op0.length + r.length) (by rw [elen]; omega)
      rw [hget] at o1 o2
      rw [hO1, if_neg (nI_ge (by omega) (by omega)), if_neg (nI_nle (by omega) (by omega)), show nI (op0.length + r.length + 1) - 1 = nI (op0.length + r.length) from nI_pred _, if_pos (jIn_nI (by omega) (by decide)), nI_clamp (by omega), o2]
      rw [qClose]
      by_cases hbx : b ≤ x
      · rw [if_pos hbx, if_neg (show ¬ nI x < nI b from nI_nlt hbx (by omega)), jL_e]
        have m1 : jSm [7] [] s (jsI s 7 (nI (op0.length + r.length))) := jSm.rf.sI (by decide)
        have z7 : jgI (jsI s 7 (nI (op0.length + r.length))) 7 = nI (op0.length + r.length) := rfl
        generalize jsI s 7 (nI (op0.length + r.length)) = s1 at m1 z7 ⊢
        have hR1 : RdR t tk s1 ((l ++ qFlat r) ++ (qW L :: (L ++ (S ++ cur)))) g (op0 ++ qOps l.length r) := by
          refine ⟨hT.sm m1 (by decide) (by decide), hK.sm m1 (by decide) (by decide) (by decide) (by decide), ?_, by rw [m1.1 2 (by decide)]; exact h2, by rw [m1.1 5 (by decide)]; exact h5, hP.sm m1 (by decide) (by decide) (by decide), ?_, ?_⟩
          · have e : (l ++ qFlat r) ++ (qW L :: (L ++ (S ++ cur))) = l ++ (qFlat ((L, S, x) :: r) ++ cur) := by simp [qFlat]
            rw [e]
            exact hR.sm m1 (by decide) (by decide) (by decide) (by decide) (by decide) (by decide) (by decide) (by decide)
          · rw [z7, List.length_append, qOps_len]
          · intro i hi
            rw [m1.2 12 (by decide), m1.2 13 (by decide)]
            have hi2 : i < (op0 ++ qOps l.length ((L, S, x) :: r)).length := by rw [elen]; rw [List.length_append, qOps_len] at hi; omega
            have e : (op0 ++ qOps l.length ((L, S, x) :: r)).getD i (0, 0) = (op0 ++ qOps l.length r).getD i (0, 0) := by
              rw [show op0 ++ qOps l.length ((L, S, x) :: r) = (op0 ++ qOps l.length r) ++ [(l.length + (qFlat r).length, x)] by simp [qOps], getD_app_l hi]
            have := hO.2 i hi2
            rw [e] at this
            exact this
        have hlen2 : ((l ++ qFlat r) ++ (qW L :: (L ++ (S ++ cur)))).length ≤ 362 := by
          have e : (l ++ qFlat r) ++ (qW L :: (L ++ (S ++ cur))) = l ++ (qFlat ((L, S, x) :: r) ++ cur) := by simp [qFlat]
          rw [e]
          exact hl
        rw [z7, if_pos (jIn_nI (by omega) (by decide)), nI_clamp (by omega), m1.2 12 (by decide), o1]
        have hne : L ≠ [] := hLx.1
        have hhd : (L ++ (S ++ cur)).headD (0, 0, 0, 0, 0, 0, 0, []) = ndA L 0 := by
          rw [headD_ndA]
          exact ndA_l (List.length_pos_iff.mpr hne)
        obtain ⟨s2, e2, r2⟩ := pR_close (N := N) (n' := (26, nF (ndA L 0), g.2.1, nO (ndA L 0), 0, 3, (L ++ (S ++ cur)).length + 1, [])) hR1 hlen2 ⟨rfl, rfl, rfl, fun q => absurd (show (26 : Nat) < 20 from q) (by decide), rfl⟩
        rw [List.length_append] at e2
        rw [e2, jB_s]
        have r3 : RdR t tk s2 (l ++ (qFlat r ++ qNode 26 3 (L ++ (S ++ cur)) g.2.1)) g (op0 ++ qOps l.length r) := by
          unfold qNode
          rw [hhd, ← List.append_assoc]
          exact r2
        have hl3 : (l ++ (qFlat r ++ qNode 26 3 (L ++ (S ++ cur)) g.2.1)).length ≤ 362 := by
          have e : (l ++ (qFlat r ++ qNode 26 3 (L ++ (S ++ cur)) g.2.1)).length = ((l ++ qFlat r) ++ (qW L :: (L ++ (S ++ cur)))).length := by simp [qNode]
          rw [e]
          exact hlen2
        exact ih (qNode 26 3 (L ++ (S ++ cur)) g.2.1) s2 m (by simp at hm; omega) (fun q hq => hS q (List.mem_cons_of_mem _ hq)) r3 hl3 (by rw [List.length_append, qOps_len]; omega)
      · rw [if_neg hbx, if_pos (show nI x < nI b from nI_lt (by omega) (by omega))]
        exact ⟨s, rfl, hT, hK, hR, h2, h5, hP, hO⟩
end PS
