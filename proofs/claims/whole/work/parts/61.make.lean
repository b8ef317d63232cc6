/-! the reference makes an entry and puts it on its row -/
theorem pM_make {N m h : Nat} {a0 a1 a2 a3 a4 : Int32} {s : jS} (h8 : jgI s 8 = nI m) (h9 : jgI s 9 = nI h) (hm : m < 400) (hh : h < 400) : ∃ s', fM_make N a0 a1 a2 a3 a4 s = some (0, s') ∧ jgI s' 8 = nI (m + 1) ∧ jgI s' 9 = nI (h + 1) ∧ jgA s' 18 = upd (jgA s 18) m a0 ∧ jgA s' 19 = upd (jgA s 19) m a1 ∧ jgA s' 20 = upd (jgA s 20) m a3 ∧ jgA s' 21 = upd (jgA s 21) m a2 ∧ jgA s' 22 = upd (jgA s 22) m a4 ∧ jgA s' 23 = upd (jgA s 23) m 0 ∧ jgA s' 24 = upd (jgA s 24) m (-1) ∧ jgA s' 25 = upd (jgA s 25) m (-1) ∧ jgA s' 26 = upd (jgA s 26) m (-1) ∧ jgA s' 28 = upd (jgA s 28) h (nI m) ∧ jSm [8, 9] [18, 19, 20, 21, 22, 23, 24, 25, 26, 28] s s' := by
  have j8 : jIn (nI m) 400 = true := jIn_nI hm (by decide)
  have j9 : jIn (nI h) 400 = true := jIn_nI hh (by decide)
  have c8 : (nI m).toNatClampNeg = m := nI_clamp (by omega)
  have c9 : (nI h).toNatClampNeg = h := nI_clamp (by omega)
  unfold fM_make
  simp only [jL_e, jgI_sA, h8, h9, j8, j9, c8, c9, if_true]
  refine ⟨_, rfl, ?_, ?_, rfl, rfl, rfl, rfl, rfl, rfl, rfl, rfl, rfl, rfl, ((((((((((((jSm.rf.sA (by decide)).sA (by decide)).sA (by decide)).sA (by decide)).sA (by decide)).sA (by decide)).sA (by decide)).sA (by decide)).sA (by decide)).sA (by decide)).sI (by decide)).sI (by decide))⟩
  · rw [jgI_sI, if_pos rfl, jgI_sI, if_neg (by decide)]
    simp only [jgI_sA, h8, nI_1]
  · rw [jgI_sI, if_neg (by decide), jgI_sI, if_pos rfl, nI_1]
