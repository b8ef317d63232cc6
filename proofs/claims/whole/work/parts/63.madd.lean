/-! the reference adds a task -/
theorem pM_add {N m : Nat} {a0 a1 a2 : Int32} {s : jS} (h10 : jgI s 10 = nI m) (hm : m < 200) : ∃ s', fM_add N a0 a1 a2 s = some (0, s') ∧ jgI s' 10 = nI (m + 1) ∧ jgA s' 29 = upd (jgA s 29) m a0 ∧ jgA s' 30 = upd (jgA s 30) m a1 ∧ jgA s' 31 = upd (jgA s 31) m a2 ∧ jSm [10] [29, 30, 31] s s' := by
  have j : jIn (nI m) 200 = true := jIn_nI hm (by decide)
  have c : (nI m).toNatClampNeg = m := nI_clamp (by omega)
  unfold fM_add
  simp only [jL_e, jgI_sA, h10, j, c, if_true]
  refine ⟨_, rfl, ?_, rfl, rfl, rfl, (((jSm.rf.sA (by decide)).sA (by decide)).sA (by decide)).sI (by decide)⟩
  rw [jgI_sI, if_pos rfl, nI_1]
/-- the tasks that wait, the next one last -/
def TsM (s : jS) (ts : List (Nat × Nat × Nat)) : Prop := jgI s 10 = nI ts.length ∧ ∀ i, i < ts.length → jgA s 29 i = nI (ts.getD i (0, 0, 0)).1 ∧ jgA s 30 i = nI (ts.getD i (0, 0, 0)).2.1 ∧ jgA s 31 i = nI (ts.getD i (0, 0, 0)).2.2
theorem TsM.sm {s s' : jS} {ts : List (Nat × Nat × Nat)} {ks as : List Nat} (h : TsM s ts) (hs : jSm ks as s s') (h6 : 10 ∉ ks) (a1 : 29 ∉ as) (a2 : 30 ∉ as) (a3 : 31 ∉ as) : TsM s' ts := ⟨by rw [hs.1 10 h6]; exact h.1, fun i hi => by rw [hs.2 29 a1, hs.2 30 a2, hs.2 31 a3]; exact h.2 i hi⟩
theorem pM_addT {N k a b : Nat} {ts : List (Nat × Nat × Nat)} {s : jS} (h : TsM s ts) (hm : ts.length < 200) : ∃ s', fM_add N (nI k) (nI a) (nI b) s = some (0, s') ∧ TsM s' (ts ++ [(k, a, b)]) ∧ jSm [10] [29, 30, 31] s s' := by
  obtain ⟨s', e, q, w1, w2, w3, hs⟩ := pM_add (N := N) (a0 := nI k) (a1 := nI a) (a2 := nI b) h.1 hm
  refine ⟨s', e, ⟨by rw [q, List.length_append]; rfl, fun i hi => ?_⟩, hs⟩
  rw [List.length_append, List.length_singleton] at hi
  rw [w1, w2, w3]
  by_cases hl : i < ts.length
  · rw [getD_app_l hl]
    simp only [upd, if_neg (show ¬ i = ts.length by omega)]
    exact h.2 i hl
  · obtain rfl : i = ts.length := by omega
    rw [getD_app_r (Nat.le_refl _), Nat.sub_self]
    simp only [upd, if_pos]
    exact ⟨rfl, rfl, rfl⟩
