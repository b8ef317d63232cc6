/-! the reference's loop over its tasks, from the beginning to the end -/
section MR
variable {tk : List (Nat × Nat × Nat)} {N k : Nat}
theorem pf_1 {a b c : Int32} {s : jS} : fM_perform N a (nI 1) b c s = jB (fM_take N s) fun _ s1 => some (0, s1) := by
  unfold fM_perform
  rw [if_neg (by decide), if_pos (by decide)]
theorem pf_0 {a b c : Int32} {s : jS} : fM_perform N a (nI 0) b c s = jB (fM_reduce N b c s) fun _ s1 => some (0, s1) := by
  unfold fM_perform
  rw [if_pos (by decide)]
theorem pM_parseL {s : jS} (hT : TkA tk) (hN : 500 ≤ N) (hk2 : k < 2) (hi : MiM tk k s (0, 0, []) 0 0 [(0, 20, 0), (1, 0, 0), (2, 0, 0)]) (hl : (qTree tk).length ≤ 362) : ∃ s' j c, Rch N k s s' j ∧ j ≤ 3000 ∧ jgI s' 10 = nI 0 ∧ FoM s' k 0 c 0 (qTree tk) [(qTree tk).length - 1] ∧ jgA s' 28 0 = nI ((qTree tk).length - 1) ∧ jgA s' 25 ((qTree tk).length - 1) = -1 ∧ jgA s' 26 ((qTree tk).length - 1) = -1 ∧ FmM k 0 0 0 s s' ∧ c = (qTake tk (qList tk (qStmt tk 6) 6 false 60 (0, 0, [])).2.2).2.2.1 ∧ (qList tk (qStmt tk 6) 6 false 60 (0, 0, [])).2.2.1 < tk.length ∧ MkV (mkM s' k) := by
  have hqt : qTree tk = qNode 20 ((qList tk (qStmt tk 6) 6 false 60 (0, 0, [])).2.1 + 1) ((qList tk (qStmt tk 6) 6 false 60 (0, 0, [])).1 ++ (qTake tk (qList tk (qStmt tk 6) 6 false 60 (0, 0, [])).2.2).1) (qTake tk (qList tk (qStmt tk 6) 6 false 60 (0, 0, [])).2.2).2.2.1 := rfl
  have htl := hT.2.1.2.1
  have ht1 := hT.2.1.1
  have hb : CkM tk N k (2, 0, 0) (qListG tk (qStmt tk 6) 6 false 60) (fun g => (qList tk (qStmt tk 6) 6 false 60 g).2.1) (fun g => g.1 < tk.length ∧ tk.length ≤ g.1 + 60 + 1) 56 3 := ck_prog hT hN hk2
  rw [hqt] at hl ⊢
  rw [qNode_len, List.length_append, qTake_len] at hl
  obtain ⟨s1, R1, j1, r1, z1, z2, z3, z4, z5, z6, z7, z8⟩ := hb s (0, 0, []) 0 0 [(0, 20, 0), (1, 0, 0)] ⟨ht1, by show tk.length ≤ 0 + 60 + 1; omega⟩ ht1 hi (by show 0 + (qList tk (qStmt tk 6) 6 false 60 (0, 0, [])).1.length ≤ 399; omega) (by decide)
  unfold qListG at z1 z2 z3 z4 z8
  dsimp only at z1 z2 z3 z4 z7 z8
  generalize qList tk (qStmt tk 6) 6 false 60 (0, 0, []) = b at *
  have z1p := MiM.pop (X := [(0, 20, 0)]) (t := (1, 0, 0)) z1
  obtain ⟨s2, e2, y6, y7, y8, y9, yX, yK, ya2, yF, yR, yf⟩ := pM_tk0 (N := N) hT z2 z1p (by omega)
  have hone : Rch N k s1 s2 1 := Rch.one (X := [(0, 20, 0)]) (t := (1, 0, 0)) z1.2.2.2.2.2.2.1 (by decide) (by
    show fM_perform N (nI k) (nI 1) _ _ _ = _
    rw [pf_1]
    have e2 : fM_take N (jsI s1 10 (nI ([(0, 20, 0)] : List (Nat × Nat × Nat)).length)) = some (0, s2) := e2
    rw [e2, jB_s])
  have hF2 : FoM s2 k 0 (qE tk b.2.2.1) 0 (b.1 ++ (qTake tk b.2.2).1) (R1 ++ [0 + b.1.length]) := FoG.app (FoM.fm (FoM.fm z4 (fm_pop (m := 0 + b.1.length) (h := 0) (p := b.2.2.2.1)) (Nat.le_refl _) (Nat.le_refl _)) yf (Nat.le_refl _) (Nat.le_refl _)) yF
  have hR2 : RwM s2 0 (R1 ++ [0 + b.1.length]) := RwM.app (z5.fm (FmM.tr (fm_pop (m := 0 + b.1.length) (h := 0 + R1.length) (p := b.2.2.2.1)) yf (Nat.le_refl _) (Nat.le_refl _) (Nat.le_refl _)) (Nat.le_refl _)) yR
  have hlen : (b.1 ++ (qTake tk b.2.2).1).length = b.1.length + 1 := by rw [List.length_append, qTake_len]
  have hs2p : jgI (jsI s2 10 (nI 0)) 10 = nI 0 := rfl
  obtain ⟨s3, e3, x1, x2, x3, x4, x5, x6, x7, x8⟩ := pM_reduceR (N := N) (s := jsI s2 10 (nI 0)) (kd := 20) (h := 0) hN (by decide) (by decide) (hF2.fm (fm_pop (m := 0 + (b.1 ++ (qTake tk b.2.2).1).length) (h := 0) (p := qE tk b.2.2.1)) (Nat.le_refl _) (Nat.le_refl _)) (by simp) hR2 (by
    show jgI s2 8 = _
    rw [y8, hlen]
    exact congrArg nI (by omega)) (by
    show jgI s2 9 = _
    rw [y9]
    exact congrArg nI (by simp)) (by omega) (Nat.le_refl _) 0
  have hone3 : Rch N k s2 s3 1 := Rch.one (X := []) (t := (0, 20, 0)) yX (by decide) (by
    show fM_perform N (nI k) (nI 0) (nI 20) (nI 0) (jsI s2 10 (nI 0)) = _
    rw [pf_0, e3, jB_s])
  have hnl : (qNode 20 (b.2.1 + 1) (b.1 ++ (qTake tk b.2.2).1) (qTake tk b.2.2).2.2.1).length - 1 = 0 + (b.1 ++ (qTake tk b.2.2).1).length := by rw [qNode_len]; omega
  rw [hnl]
  refine ⟨s3, j1 + 1 + 1, qE tk b.2.2.1, (r1.tr hone).tr hone3, by omega, by rw [x6.1 10 (by decide)]; rfl, ?_, x2 0 (by simp), x7, x8, ?_, rfl, z2, ?_⟩
  · have hRl : (R1 ++ [0 + b.1.length]).length = b.2.1 + 1 := by rw [List.length_append, z7]; rfl
    rw [hRl] at x1
    exact x1
  · exact ((z6.tr (fm_pop.tr yf (Nat.le_refl _) (Nat.le_refl _) (Nat.le_refl _)) (by omega) (by omega) (Nat.zero_le _)).tr fm_pop (Nat.le_refl _) (Nat.le_refl _) (Nat.le_refl _)).tr x5 (Nat.le_refl _) (Nat.le_refl _) (Nat.le_refl _)
  · intro p hp
    show jgA s3 2 _ = 0 ∨ jgA s3 2 _ = 1 ∨ jgA s3 2 _ = 3
    rw [x6.2 2 (by decide)]
    show jgA s2 2 _ = 0 ∨ jgA s2 2 _ = 1 ∨ jgA s2 2 _ = 3
    rw [ya2]
    exact z1.2.2.2.2.2.2.2.2.2.2 p hp
end MR
