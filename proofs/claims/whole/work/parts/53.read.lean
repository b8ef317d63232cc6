/-! the class reads a text: its nodes are the tree's -/
theorem qStmt_hd (tk : List (Nat × Nat × Nat)) (r : Nat) (g : Sg) : (qStmt tk r g).1 ≠ [] ∧ nF (ndA (qStmt tk r g).1 0) = g.2.1 := by
  have hs : (qSimple tk g).1 ≠ [] ∧ nF (ndA (qSimple tk g).1 0) = g.2.1 := by
    refine ⟨by simp [qSimple, qNode], ?_⟩
    show nF (((qEx tk g).1 ++ _).headD (0, 0, 0, 0, 0, 0, 0, [])) = _
    rw [headD_ndA, hd_app (qEx_ne tk g), qEx_hd]
  by_cases h6 : qK tk g.1 = 6
  · rw [qStmt_e tk r g h6]
    exact ⟨by simp [qEmpty, qNode], rfl⟩
  · cases r with
    | zero =>
      rw [qStmt, if_neg h6]
      exact hs
    | succ r =>
      by_cases h7 : qK tk g.1 = 7
      · rw [qStmt_7 tk r g h7]
        exact ⟨by simp [qNode], rfl⟩
      · by_cases h3 : qK tk g.1 = 3
        · rw [qStmt_3 tk r g h3]
          exact ⟨by simp [qOver, qNode], rfl⟩
        · by_cases h5 : qK tk g.1 = 5
          · rw [qStmt_5 tk r g h5]
            exact ⟨by simp [qOver, qNode], rfl⟩
          · rw [qStmt_s tk (r + 1) g h6 h3 h5 h7]
            exact hs
theorem qList_hd (tk : List (Nat × Nat × Nat)) (st : Sg → List Nd × Sg) (hst : ∀ g, (st g).1 ≠ [] ∧ nF (ndA (st g).1 0) = g.2.1) (r : Nat) (inner : Bool) : ∀ (n : Nat) (g : Sg), ((qList tk st r inner n g).1 ≠ [] → nF (ndA (qList tk st r inner n g).1 0) = g.2.1) ∧ ((qList tk st r inner n g).1 = [] → (qList tk st r inner n g).2.2.2.1 = g.2.1) := by
  intro n
  induction n with
  | zero => intro g; exact ⟨fun h => absurd rfl h, fun _ => rfl⟩
  | succ n ih =>
    intro g
    rw [qList]
    split
    · exact ⟨fun h => absurd rfl h, fun _ => rfl⟩
    · split
      · dsimp only
        refine ⟨fun _ => by rw [hd_app (hst g).1]; exact (hst g).2, fun h => absurd (List.append_eq_nil_iff.mp h).1 (hst g).1⟩
      · exact ih (qSkip tk g)
/-- a reading that is done: its text, its tree -/
def RdF (s : jS) (t : List Int32) : Prop := TxR s t ∧ TrR s (qTr t) ∧ jgA s 6 (qTr t).length = nI t.length ∧ jgA s 8 (qTr t).length = nI (fls (qTr t)).length
theorem pT_fin {N : Nat} {s : jS} {t : List Int32} {l : List Nd} (hT : TxR s t) (h : TrR s l) (hl : l.length ≤ 362) : ∃ s', fT_finish N s = some (0, s') ∧ TxR s' t ∧ TrR s' l ∧ jgA s' 6 l.length = nI t.length ∧ jgA s' 8 l.length = nI (fls l).length := by
  unfold fT_finish
  rw [h.1, if_pos (jIn_nI (by omega) (by decide)), jL_e, nI_clamp (by omega)]
  simp only [jgI_sA, h.1]
  rw [if_pos (jIn_nI (by omega) (by decide)), jL_e, nI_clamp (by omega), h.2.1, hT.1]
  have e : ∀ a, a ≠ 6 → a ≠ 8 → jgA (jsA (jsA s 6 l.length (nI t.length)) 8 l.length (nI (fls l).length)) a = jgA s a := fun a h6 h8 => by rw [jgA_sA, if_neg h8, jgA_sA, if_neg h6]
  have e6 : ∀ i, jgA (jsA (jsA s 6 l.length (nI t.length)) 8 l.length (nI (fls l).length)) 6 i = upd (jgA s 6) l.length (nI t.length) i := fun i => by rw [jgA_sA, if_neg (by decide), jgA_sA, if_pos rfl]
  have e8 : ∀ i, jgA (jsA (jsA s 6 l.length (nI t.length)) 8 l.length (nI (fls l).length)) 8 i = upd (jgA s 8) l.length (nI (fls l).length) i := fun i => by rw [jgA_sA, if_pos rfl, jgA_sA, if_neg (by decide)]
  refine ⟨_, rfl, ⟨hT.1, hT.2.1, fun p hp => by rw [e 0 (by decide) (by decide)]; exact hT.2.2 p hp⟩, ⟨h.1, h.2.1, fun i hi => ?_, fun j hj => by rw [e 9 (by decide) (by decide)]; exact h.2.2.2 j hj⟩, by rw [e6]; simp [upd], by rw [e8]; simp [upd]⟩
  have hne : ¬ i = l.length := by omega
  obtain ⟨a1, a2, a3, a4, a5⟩ := h.2.2.1 i hi
  rw [e 4 (by decide) (by decide), e 5 (by decide) (by decide), e 7 (by decide) (by decide), e6, e8]
  refine ⟨a1, a2, ?_, a4, ?_⟩
  · simp only [upd, if_neg hne]
    exact a3
  · simp only [upd, if_neg hne]
    exact a5
theorem pR_read {N : Nat} {s : jS} {t : List Int32} (h : TxR s t) (hok : TxOk t) (hN : 100 ≤ N) (hW : TkW (qToks t 61 0)) (hl : (qTr t).length ≤ 362) (hf : (fls (qTr t)).length ≤ 180) : ∃ s', fR_read N s = some (0, s') ∧ RdF s' t := by
  unfold fR_read fT_clear
  rw [jL_e, jL_e, jB_s]
  have m0 : jSm [3, 4] [] s (jsI (jsI s 3 0) 4 0) := (jSm.rf.sI (by decide)).sI (by decide)
  have t0 : jgI (jsI (jsI s 3 0) 4 0) 3 = 0 := rfl
  have t1 : jgI (jsI (jsI s 3 0) 4 0) 4 = 0 := rfl
  generalize jsI (jsI s 3 0) 4 0 = s0 at m0 t0 t1 ⊢
  obtain ⟨s2, e2, k2, a2, m2⟩ := pK_cut (N := N) (h.sm m0 (by decide) (by decide)) hok hN
  rw [e2, jB_s, jL_e, jL_e, jL_e]
  have m3 : jSm [5, 6, 7] [] s2 (jsI (jsI (jsI s2 5 0) 6 0) 7 0) := ((jSm.rf.sI (by decide)).sI (by decide)).sI (by decide)
  have u5 : jgI (jsI (jsI (jsI s2 5 0) 6 0) 7 0) 5 = 0 := rfl
  have u6 : jgI (jsI (jsI (jsI s2 5 0) 6 0) 7 0) 6 = 0 := rfl
  have u7 : jgI (jsI (jsI (jsI s2 5 0) 6 0) 7 0) 7 = 0 := rfl
  generalize jsI (jsI (jsI s2 5 0) 6 0) 7 0 = s3 at m3 u5 u6 u7 ⊢
  have r3 : RdR t (qToks t 61 0) s3 [] (0, 0, []) [] := by
    refine ⟨((h.sm m0 (by decide) (by decide)).sm m2 (by decide) (by decide)).sm m3 (by decide) (by decide), k2.sm m3 (by decide) (by decide) (by decide) (by decide), ⟨?_, ?_, fun i hi => absurd hi (by simp), fun j hj => absurd hj (by simp [fls])⟩, ?_, u5, ⟨u6, fun i hi => absurd hi (by simp)⟩, ⟨u7, fun i hi => absurd hi (by simp)⟩⟩
    · rw [m3.1 3 (by decide), m2.1 3 (by decide), t0]
      rfl
    · rw [m3.1 4 (by decide), m2.1 4 (by decide), t1]
      rfl
    · rw [m3.1 2 (by decide), a2]
      rfl
  have b3 : SgB (qToks t 61 0) (0, 0, []) [] := ⟨hW.1, by decide, by decide, by decide⟩
  have hT : qTr t = qNode 20 ((qList (qToks t 61 0) (qStmt (qToks t 61 0) 6) 6 false 60 (0, 0, [])).2.1 + 1) ((qList (qToks t 61 0) (qStmt (qToks t 61 0) 6) 6 false 60 (0, 0, [])).1 ++ (qTake (qToks t 61 0) (qList (qToks t 61 0) (qStmt (qToks t 61 0) 6) 6 false 60 (0, 0, [])).2.2).1) (qTake (qToks t 61 0) (qList (qToks t 61 0) (qStmt (qToks t 61 0) 6) 6 false 60 (0, 0, [])).2.2).2.2.1 := rfl
  unfold RdF
  rw [hT] at hl hf ⊢
  have hh := qList_hd (qToks t 61 0) (qStmt (qToks t 61 0) 6) (qStmt_hd (qToks t 61 0) 6) 6 false 60 (0, 0, [])
  have hL := ct_list (t := t) (N := N) (G := gst N 39) (r := 6) hN (by decide) hW (pI_stmt hN hW 6 39 (by decide) (by decide))
  have hL : CtG t (qToks t 61 0) (fun s => gst N 40 0 0 s) (qListG (qToks t 61 0) (qStmt (qToks t 61 0) 6) 6 false 60) (fun _ => True) := hL
  generalize qToks t 61 0 = tk at *
  obtain ⟨s4, e4, r4⟩ := pR_begin (N := N) (k := 20) r3 (by decide) 0 0 0
  rw [show (20 : Int32) = nI 20 from rfl, e4, jB_s]
  rw [qNode_len, List.length_append, qTake_len] at hl
  rw [qNode_fls, fls_len_app] at hf
  obtain ⟨s5, e5, r5, b5⟩ := hL s4 _ (0, 0, []) [] trivial r4 b3 (by unfold qListG; simp; omega) (by unfold qListG; rw [fls_len_app, fls_len_app, fls_one]; simp only [nL, List.length_nil, fls, List.map_nil, List.flatten_nil]; simp only [fls] at hf; omega)
  have e5 : gst N 40 0 0 s4 = some (0, s5) := e5
  rw [e5, jB_s]
  unfold qListG at r5 b5
  dsimp only at r5 b5
  generalize qList tk (qStmt tk 6) 6 false 60 (0, 0, []) = b at *
  obtain ⟨s6, e6, r6⟩ := pR_take0 (N := N) r5 hW b5 hN (by simp; omega) (by rw [fls_len_app, fls_len_app, fls_len_app, fls_one]; simp only [nL, List.length_nil, fls, List.map_nil, List.flatten_nil]; simp only [fls] at hf; omega)
  rw [e6, jB_s]
  have r6' : RdR t tk s6 ([] ++ (20, 0, 0, 0, 0, 0, 1, []) :: (b.1 ++ (qTake tk b.2.2).1)) ((if b.2.2.1 + 1 < tk.length then b.2.2.1 + 1 else b.2.2.1), qE tk b.2.2.1, []) [] := by
    rw [List.append_assoc, List.append_assoc] at r6
    exact r6
  obtain ⟨s7, e7, r7⟩ := pR_close (N := N) (n' := (20, 0, (qTake tk b.2.2).2.2.1, nO ((b.1 ++ (qTake tk b.2.2).1).headD (0, 0, 0, 0, 0, 0, 0, [])), 0, b.2.1 + 1, (b.1 ++ (qTake tk b.2.2).1).length + 1, [])) r6' (by simp [qTake_len]; omega) ⟨rfl, rfl, rfl, fun q => absurd (show (20 : Nat) < 20 from q) (by decide), rfl⟩
  rw [e7, jB_s]
  have hF : nF ((b.1 ++ (qTake tk b.2.2).1).headD (0, 0, 0, 0, 0, 0, 0, [])) = 0 := by
    rw [headD_ndA]
    by_cases hb : b.1 = []
    · rw [hb]
      exact hh.2 hb
    · rw [hd_app hb]
      exact hh.1 hb
  have r8 : TrR s7 (qNode 20 (b.2.1 + 1) (b.1 ++ (qTake tk b.2.2).1) (qTake tk b.2.2).2.2.1) := by
    unfold qNode
    rw [hF]
    exact r7.2.2.1
  obtain ⟨s8, e8, q1, q2, q3, q4⟩ := pT_fin (N := N) r7.1 r8 (by rw [qNode_len, List.length_append, qTake_len]; omega)
  rw [e8, jB_s]
  exact ⟨s8, rfl, q1, q2, q3, q4⟩
