/-! the reference's expression: signs that wait for their right operands -/
def qFl : Stk → List Nd
  | [] => []
  | (L, S, _) :: r => qFl r ++ (L ++ S)
theorem qFl_len : ∀ st : Stk, (qFlat st).length = (qFl st).length + st.length
  | [] => rfl
  | (L, S, x) :: r => by
    rw [qFlat, qFl, List.length_append, List.length_append, List.length_cons, List.length_append, List.length_cons, qFl_len r]
    omega
/-- the stack's trees in the entries and on the row, from a to c -/
def SkSt (s : jS) (k m h a : Nat) : Stk → Nat → Prop
  | [], c => c = a
  | (L, S, x) :: r, c => ∃ c1 c2 e1 e2 ks, SkSt s k m h a r c1 ∧ FoM s k c1 c2 (m + (qFl r).length) L [e1] ∧ FoM s k c2 c (m + (qFl r).length + L.length) S [e2] ∧ jgA s 28 (h + 2 * r.length) = nI e1 ∧ jgA s 28 (h + 2 * r.length + 1) = nI e2 ∧ jgA s 18 e2 = nI ks ∧ 11 ≤ ks ∧ ks ≤ 15 ∧ x = qLvl ks
theorem FoM.one {s : jS} {k a c b e : Nat} {l : List Nd} (h : FoM s k a c b l [e]) : a ≤ c ∧ 1 ≤ l.length ∧ b ≤ e ∧ e < b + l.length ∧ l ≠ [] := by
  obtain ⟨h1, h2, h3, _, _⟩ := (FoM.pu h).le
  have := h3 e List.mem_cons_self
  refine ⟨h1, h2, this.1, this.2, fun z => ?_⟩
  rw [z] at h2
  exact absurd h2 (by simp)
theorem SkSt.le {s : jS} {k m h a : Nat} : ∀ {st : Stk} {c : Nat}, SkSt s k m h a st c → a ≤ c ∧ 2 * st.length ≤ (qFl st).length
  | [], c, hs => ⟨Nat.le_of_eq hs.symm, Nat.le_refl _⟩
  | (L, S, x) :: r, c, hs => by
    obtain ⟨c1, c2, e1, e2, ks, h1, h2, h3, _⟩ := hs
    have i1 := SkSt.le h1
    have i2 := h2.one
    have i3 := h3.one
    rw [qFl, List.length_append, List.length_append, List.length_cons]
    omega
theorem SkSt.fm {s s' : jS} {k m h a m' h' p : Nat} (hf : FmM k m' h' p s s') : ∀ {st : Stk} {c : Nat}, SkSt s k m h a st c → m + (qFl st).length ≤ m' → h + 2 * st.length ≤ h' → c ≤ p → SkSt s' k m h a st c
  | [], c, hs, _, _, _ => hs
  | (L, S, x) :: r, c, hs, hm, hh, hp => by
    obtain ⟨c1, c2, e1, e2, ks, h1, h2, h3, h4, h5, h6, h7⟩ := hs
    rw [qFl, List.length_append, List.length_append] at hm
    rw [List.length_cons] at hh
    have i2 := h2.one
    have i3 := h3.one
    exact ⟨c1, c2, e1, e2, ks, SkSt.fm hf h1 (by omega) (by omega) (by omega), h2.fm hf (by omega) (by omega), h3.fm hf (by omega) (by omega), by rw [hf.2.2.1 _ (by omega)]; exact h4, by rw [hf.2.2.1 _ (by omega)]; exact h5, by rw [hf.2.1 18 (by decide) (by decide) _ (by omega)]; exact h6, h7⟩
section MO
variable {tk : List (Nat × Nat × Nat)} {N k : Nat}
/-- does the sign ks' close before the sign ks -/
theorem more_dec {k27 : Int32 → Int32 → Int32 → Int32 → Int32 → jS → Option (Int32 × jS)} {x1 x2 : Int32} {s : jS} {ks ks' : Nat} (h1 : 11 ≤ ks) (h2 : ks ≤ 15) (h3 : 11 ≤ ks') (h4 : ks' ≤ 15) : (jB (fM_level N (nI ks') s) fun r2705 s2705 => (if (1 : Int32) = 0 then fM_more_92 N k27 x1 x2 (nI ks) 1 s2705 else (jB (fM_level N (nI ks) s2705) fun r2707 s2707 => (if r2707 < r2705 then fM_more_92 N k27 x1 x2 (nI ks) 1 s2707 else (jB (fM_level N (nI ks) s2707) fun r2709 s2709 => (if r2705 = r2709 then (if nI ks = (15 : Int32) then fM_more_96 N k27 x1 x2 (nI ks) 1 s2709 else fM_more_92 N k27 x1 x2 (nI ks) 1 s2709) else fM_more_96 N k27 x1 x2 (nI ks) 1 s2709)))))) = if (if ks = 15 then 2 else qLvl ks) ≤ qLvl ks' then fM_more_92 N k27 x1 x2 (nI ks) 1 s else fM_more_96 N k27 x1 x2 (nI ks) 1 s := by
  rcases (show ks = 11 ∨ ks = 12 ∨ ks = 13 ∨ ks = 14 ∨ ks = 15 by omega) with rfl | rfl | rfl | rfl | rfl <;> rcases (show ks' = 11 ∨ ks' = 12 ∨ ks' = 13 ∨ ks' = 14 ∨ ks' = 15 by omega) with rfl | rfl | rfl | rfl | rfl <;> rfl
/-- how much a sign closes: all, where no sign follows -/
def qCl (x4 : Int32) (ks : Nat) : Nat := if x4 = 0 then 0 else if ks = 15 then 2 else qLvl ks
theorem pM_close {ks p to a m h : Nat} {x4 : Int32} (hN : 500 ≤ N) (hx : x4 = 0 ∨ (x4 = 1 ∧ 11 ≤ ks ∧ ks ≤ 15)) (hh : h ≤ m) : ∀ (st : Stk) (n : Nat) (cur : List Nd) (c e : Nat) (s : jS), st.length + 1 < n → jgI s 8 = nI (m + (qFl st).length + cur.length) → jgI s 9 = nI (h + 2 * st.length + 1) → SkSt s k m h a st c → FoM s k c to (m + (qFl st).length) cur [e] → jgA s 28 (h + 2 * st.length) = nI e → m + (qFlat st).length + cur.length ≤ 399 → ∃ s' c' e', fM_more_27 N n (nI p) (nI h) (nI ks) x4 1 s = fM_more_119 N (nI p) (nI h) x4 s' ∧ jgI s' 8 = nI (m + (qFl (qClose (qCl x4 ks) to st cur).1).length + (qClose (qCl x4 ks) to st cur).2.length) ∧ jgI s' 9 = nI (h + 2 * (qClose (qCl x4 ks) to st cur).1.length + 1) ∧ SkSt s' k m h a (qClose (qCl x4 ks) to st cur).1 c' ∧ FoM s' k c' to (m + (qFl (qClose (qCl x4 ks) to st cur).1).length) (qClose (qCl x4 ks) to st cur).2 [e'] ∧ jgA s' 28 (h + 2 * (qClose (qCl x4 ks) to st cur).1.length) = nI e' ∧ FmM k m h a s s' ∧ jSm [8, 9] [18, 19, 20, 21, 22, 23, 24, 25, 26, 28] s s' := by
  intro st
  induction st with
  | nil =>
    intro n cur c e s hn h8 h9 hs hF hr hb
    obtain ⟨n, rfl⟩ : ∃ n', n = n' + 1 := ⟨n - 1, by omega⟩
    refine ⟨s, c, e, ?_, h8, h9, hs, hF, hr, FmM.rf, jSm.rf⟩
    show fM_more_b27 N (fM_more_27 N n) (nI p) (nI h) (nI ks) x4 1 s = _
    unfold fM_more_b27
    have h9 : jgI s 9 = nI (h + 1) := h9
    rw [if_neg (by decide), h9, pk_sub (show h ≤ h + 1 by omega), show h + 1 - h = 1 by omega, if_pos (by decide)]
  | cons q r ih =>
    obtain ⟨L, S, x⟩ := q
    intro n cur c e s hn h8 h9 hs hF hr hb
    obtain ⟨n, rfl⟩ : ∃ n', n = n' + 1 := ⟨n - 1, by omega⟩
    rw [List.length_cons] at hn h9 hr
    obtain ⟨c1, c2, e1, e2, k', s1, s2, s3, s4, s5, s6, s7, s8, s9⟩ := hs
    have i1 := s1.le
    have i2 := s2.one
    have i3 := s3.one
    have i4 := hF.one
    have hfl := qFl_len r
    have hqf : (qFl ((L, S, x) :: r)).length = (qFl r).length + (L.length + S.length) := by rw [qFl, List.length_append, List.length_append]
    have hqa : (qFlat ((L, S, x) :: r)).length = (qFlat r).length + (L.length + S.length + 1) := by rw [qFlat, List.length_append, List.length_cons, List.length_append]
    rw [hqf] at h8 hF
    rw [hqa] at hb
    have hrun : fM_more_27 N (n + 1) (nI p) (nI h) (nI ks) x4 1 s = (if qCl x4 ks ≤ x then fM_more_92 N (fM_more_27 N n) (nI p) (nI h) (nI ks) x4 s else fM_more_96 N (fM_more_27 N n) (nI p) (nI h) (nI ks) x4 s) := by
      show fM_more_b27 N (fM_more_27 N n) (nI p) (nI h) (nI ks) x4 1 s = _
      unfold fM_more_b27
      rw [if_neg (by decide), h9, pk_sub (show h ≤ h + 2 * (r.length + 1) + 1 by omega), if_neg (show ¬ nI (h + 2 * (r.length + 1) + 1 - h) < 3 from nI_nlt (b := 3) (by omega) (by omega)), show nI (h + 2 * (r.length + 1) + 1) - 2 = nI (h + 2 * r.length + 1) from (pk_sub (b := 2) (by omega)).trans (congrArg nI (by omega)), if_pos (jIn_nI (show h + 2 * r.length + 1 < 400 by omega) (by decide)), nI_clamp (show h + 2 * r.length + 1 < 2 ^ 31 by omega), s5, if_pos (jIn_nI (show e2 < 400 by omega) (by decide)), nI_clamp (show e2 < 2 ^ 31 by omega), s6]
      rcases hx with rfl | ⟨rfl, x1, x2⟩
      · rw [pM_level k' s7 s8, jB_s, if_pos rfl, if_pos (show qCl 0 ks ≤ x from Nat.zero_le _)]
      · rw [more_dec x1 x2 s7 s8, s9]
        rfl
    by_cases hq : qCl x4 ks ≤ x
    · have hcl : qClose (qCl x4 ks) to ((L, S, x) :: r) cur = qClose (qCl x4 ks) to r (qNode 26 3 (L ++ (S ++ cur)) to) := by rw [qClose, if_pos hq]
      rw [hcl]
      have hall : FoM s k c1 to (m + (qFl r).length) (L ++ (S ++ cur)) ([e1] ++ ([e2] ++ [e])) := FoG.app s2 (FoG.app s3 (by rw [show m + (qFl r).length + L.length + S.length = m + ((qFl r).length + (L.length + S.length)) by omega]; exact hF))
      have hlen : (L ++ (S ++ cur)).length = L.length + (S.length + cur.length) := by rw [List.length_append, List.length_append]
      obtain ⟨s', e', z1, z2, z3, z4, z5, z6⟩ := pM_reduce (N := N) (kd := 26) (h := h + 2 * r.length) hN (by decide) (by decide) hall (by simp) (by
        intro i hi
        rcases (show i = 0 ∨ i = 1 ∨ i = 2 by simp at hi; omega) with rfl | rfl | rfl
        · exact s4
        · exact s5
        · rw [show h + 2 * r.length + 2 = h + 2 * (r.length + 1) by omega]
          exact hr) (by rw [h8, hlen]; exact congrArg nI (by omega)) (by rw [h9]; exact congrArg nI (by simp; omega)) (by rw [hlen]; omega) (by omega) to
      obtain ⟨s'', c'', e'', y1, y2, y3, y4, y5, y6, y7, y8⟩ := ih n (qNode 26 3 (L ++ (S ++ cur)) to) c1 (m + (qFl r).length + (L ++ (S ++ cur)).length) s' (by omega) (by rw [z3, qNode_len]; exact congrArg nI (by omega)) z4 (s1.fm z5 (Nat.le_refl _) (Nat.le_refl _) (by omega)) z1 (by
        have := z2 0 (by simp)
        exact this) (by rw [qNode_len, hlen]; omega)
      refine ⟨s'', c'', e'', ?_, y2, y3, y4, y5, y6, ?_, z6.tr y8⟩
      · refine hrun.trans ?_
        rw [if_pos hq]
        unfold fM_more_92
        rw [h9, show nI (h + 2 * (r.length + 1) + 1) - 3 = nI (h + 2 * r.length) from (pk_sub (b := 3) (by omega)).trans (congrArg nI (by omega)), show (26 : Int32) = nI 26 from rfl, e', jB_s]
        exact y1
      · exact FmM.tr ⟨z6.wk (by decide) (by decide), fun x x1 x2 i hi => z5.2.1 x x1 x2 i (by omega), fun i hi => z5.2.2.1 i (by omega), fun i _ => by rw [z6.2 2 (by decide)]⟩ y7 (Nat.le_refl _) (Nat.le_refl _) (Nat.le_refl _)
    · have hcl : qClose (qCl x4 ks) to ((L, S, x) :: r) cur = ((L, S, x) :: r, cur) := by rw [qClose, if_neg hq]
      rw [hcl]
      refine ⟨s, c, e, ?_, by rw [hqf]; exact h8, h9, ⟨c1, c2, e1, e2, k', s1, s2, s3, s4, s5, s6, s7, s8, s9⟩, by rw [hqf]; exact hF, hr, FmM.rf, jSm.rf⟩
      refine hrun.trans ?_
      rw [if_neg hq]
      unfold fM_more_96
      obtain ⟨n, rfl⟩ : ∃ n', n = n' + 1 := ⟨n - 1, by omega⟩
      show fM_more_b27 N (fM_more_27 N n) (nI p) (nI h) (nI ks) x4 0 s = _
      unfold fM_more_b27
      rw [if_pos rfl]
end MO
