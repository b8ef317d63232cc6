/-! the reference's parse: what it asks of the current token -/
section MQ
variable {tk : List (Nat × Nat × Nat)} {N a : Nat} {s : jS}
theorem pM_cur (hK : TkM s tk) (hW : TkW tk) (h6 : jgI s 6 = nI a) (ha : a < tk.length) : fM_current N s = some (nI (qK tk a), s) := by
  have := hW.2.1
  unfold fM_current
  rw [h6, if_pos (jIn_nI (by omega) (by decide)), nI_clamp (by omega), (hK.2 a ha).1]
theorem pM_starts : ∀ k : Nat, k ≤ 17 → fM_starts N (nI k) s = some (if qCan k = true then 1 else 0, s) := by
  intro n hn
  rcases (show n = 0 ∨ n = 1 ∨ n = 2 ∨ n = 3 ∨ n = 4 ∨ n = 5 ∨ n = 6 ∨ n = 7 ∨ n = 8 ∨ n = 9 ∨ n = 10 ∨ n = 11 ∨ n = 12 ∨ n = 13 ∨ n = 14 ∨ n = 15 ∨ n = 16 ∨ n = 17 by omega) with rfl | rfl | rfl | rfl | rfl | rfl | rfl | rfl | rfl | rfl | rfl | rfl | rfl | rfl | rfl | rfl | rfl | rfl <;> rfl
theorem pM_level : ∀ k : Nat, 11 ≤ k → k ≤ 15 → fM_level N (nI k) s = some (nI (qLvl k), s) := by
  intro n h1 h2
  rcases (show n = 11 ∨ n = 12 ∨ n = 13 ∨ n = 14 ∨ n = 15 by omega) with rfl | rfl | rfl | rfl | rfl <;> rfl
theorem pM_begins {g : Sg} {r : Nat} (hr : r ≤ 6) (hK : TkM s tk) (hW : TkW tk) (h6 : jgI s 6 = nI g.1) (ha : g.1 < tk.length) : fM_begins N (nI (6 - r)) s = some (if qBeg tk r g = true then 1 else 0, s) := by
  unfold fM_begins qBeg
  rw [pM_cur hK hW h6 ha, jB_s]
  have hk := (hW.2.2.2.2 g.1).1
  generalize qK tk g.1 = n at hk ⊢
  rcases (show n = 0 ∨ n = 1 ∨ n = 2 ∨ n = 3 ∨ n = 4 ∨ n = 5 ∨ n = 6 ∨ n = 7 ∨ n = 8 ∨ n = 9 ∨ n = 10 ∨ n = 11 ∨ n = 12 ∨ n = 13 ∨ n = 14 ∨ n = 15 ∨ n = 16 ∨ n = 17 by omega) with rfl | rfl | rfl | rfl | rfl | rfl | rfl | rfl | rfl | rfl | rfl | rfl | rfl | rfl | rfl | rfl | rfl | rfl <;> rcases (show r = 0 ∨ r = 1 ∨ r = 2 ∨ r = 3 ∨ r = 4 ∨ r = 5 ∨ r = 6 by omega) with rfl | rfl | rfl | rfl | rfl | rfl | rfl <;> rfl
end MQ
