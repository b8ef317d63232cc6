/-! the reference takes a token, lacks one, adds a task -/
theorem pM_take {N m h a e : Nat} {tk : List (Nat × Nat × Nat)} {s : jS} (hK : TkM s tk) (hW : TkW tk) (h6 : jgI s 6 = nI a) (h7 : jgI s 7 = nI e) (ha : a < tk.length) (h8 : jgI s 8 = nI m) (h9 : jgI s 9 = nI h) (hm : m < 400) (hh : h < 400) : ∃ s', fM_take N s = some (0, s') ∧ jgI s' 6 = nI (a + 1) ∧ jgI s' 7 = nI (qE tk a) ∧ jgI s' 8 = nI (m + 1) ∧ jgI s' 9 = nI (h + 1) ∧ jgA s' 18 = upd (jgA s 18) m (nI (qK tk a)) ∧ jgA s' 19 = upd (jgA s 19) m (nI e) ∧ jgA s' 20 = upd (jgA s 20) m (nI (qE tk a)) ∧ jgA s' 21 = upd (jgA s 21) m (nI (qO tk a)) ∧ jgA s' 22 = upd (jgA s 22) m 0 ∧ jgA s' 23 = upd (jgA s 23) m 0 ∧ jgA s' 24 = upd (jgA s 24) m (-1) ∧ jgA s' 25 = upd (jgA s 25) m (-1) ∧ jgA s' 26 = upd (jgA s 26) m (-1) ∧ jgA s' 28 = upd (jgA s 28) h (nI m) ∧ jSm [6, 7, 8, 9] [18, 19, 20, 21, 22, 23, 24, 25, 26, 28] s s' := by
  have h61 := hW.2.1
  have j6 : jIn (nI a) 61 = true := jIn_nI (by omega) (by decide)
  have c6 : (nI a).toNatClampNeg = a := nI_clamp (by omega)
  obtain ⟨k1, k2, k3⟩ := hK.2 a ha
  unfold fM_take
  rw [h6, if_pos j6, if_pos j6, if_pos j6, c6, k1, k2, k3, h7]
  obtain ⟨s1, e1, q8, q9, w18, w19, w20, w21, w22, w23, w24, w25, w26, w28, hs⟩ := pM_make (N := N) (a0 := nI (qK tk a)) (a1 := nI e) (a2 := nI (qO tk a)) (a3 := nI (qE tk a)) (a4 := 0) h8 h9 hm hh
  have g6 : jgI s1 6 = nI a := (hs.1 6 (by decide)).trans h6
  have g17 : jgA s1 17 a = nI (qE tk a) := by rw [hs.2 17 (by decide)]; exact k3
  rw [e1, jB_s, g6, if_pos j6, c6, g17, jL_e, jL_e]
  refine ⟨_, rfl, ?_, ?_, ?_, ?_, w18, w19, w20, w21, w22, w23, w24, w25, w26, w28, ((hs.wk (by decide) (by decide)).sI (by decide)).sI (by decide)⟩
  · rw [jgI_sI, if_pos rfl, jgI_sI, if_neg (by decide), g6, nI_1]
  · rw [jgI_sI, if_neg (by decide), jgI_sI, if_pos rfl]
  · rw [jgI_sI, if_neg (by decide), jgI_sI, if_neg (by decide), q8]
  · rw [jgI_sI, if_neg (by decide), jgI_sI, if_neg (by decide), q9]
