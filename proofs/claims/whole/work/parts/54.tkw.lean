/-! what holds of the tokens of a text -/
/-- tokens from place p on of a text of n characters -/
def TkC (n p : Nat) (tk : List (Nat × Nat × Nat)) : Prop := 1 ≤ tk.length ∧ tk.length ≤ n - p + 1 ∧ (∀ i, i + 1 < tk.length → ¬ qK tk i = 17) ∧ qK tk (tk.length - 1) = 17 ∧ (∀ i, qK tk i ≤ 17 ∧ qO tk i ≤ n ∧ qE tk i ≤ n) ∧ p ≤ qO tk 0 ∧ (∀ i, i < tk.length → ¬ qK tk i = 17 → qO tk i < qE tk i) ∧ (∀ i, i < tk.length → qK tk i = 17 → qO tk i = n ∧ qE tk i = n) ∧ ∀ i, i + 1 < tk.length → qE tk i ≤ qO tk (i + 1)
theorem qOwn_ge (t : List Int32) (p : Nat) : p ≤ qOwn t p := Nat.le_add_right _ _
theorem qToks_c (t : List Int32) : ∀ (n p : Nat), p ≤ t.length → t.length - p < n → TkC t.length p (qToks t n p) := by
  intro n
  induction n with
  | zero => intro p _ h; omega
  | succ n ih =>
    intro p hp hn
    have ho := qOwn_le hp
    have hg := qOwn_ge t p
    have he := qEnd_le ho
    have hk := qKind_le t (qOwn t p) (qEnd t (qOwn t p))
    rw [qToks]
    by_cases h17 : qKind t (qOwn t p) (qEnd t (qOwn t p)) = 17
    · rw [if_pos h17]
      have hon : qOwn t p = t.length := by
        by_cases hlt : qOwn t p < t.length
        · have := qKind_lt (e := qEnd t (qOwn t p)) hlt
          omega
        · omega
      have hen : qEnd t (qOwn t p) = t.length := by have := qEnd_ge t (qOwn t p); omega
      refine ⟨by simp, by simp, fun i hi => absurd hi (by simp), h17, fun i => ?_, hg, fun i hi hq => ?_, fun i hi _ => ?_, fun i hi => absurd hi (by simp)⟩
      · cases i with
        | zero => exact ⟨hk, ho, he⟩
        | succ i => exact ⟨Nat.le_refl 17, Nat.zero_le _, Nat.zero_le _⟩
      · obtain rfl : i = 0 := by simpa using hi
        exact absurd h17 hq
      · obtain rfl : i = 0 := by simpa using hi
        exact ⟨hon, hen⟩
    · rw [if_neg h17]
      have hlt : qOwn t p < t.length := by
        by_cases hlt : qOwn t p < t.length
        · exact hlt
        · exact absurd (show qKind t (qOwn t p) (qEnd t (qOwn t p)) = 17 by unfold qKind; rw [if_pos (by omega)]) h17
      have hgt := qEnd_gt hlt
      obtain ⟨c1, c2, c3, c4, c5, c6, c7, c8, c9⟩ := ih (qEnd t (qOwn t p)) he (by omega)
      generalize qToks t n (qEnd t (qOwn t p)) = r at *
      refine ⟨by simp, by rw [List.length_cons]; omega, fun i hi => ?_, ?_, fun i => ?_, hg, fun i hi hq => ?_, fun i hi hq => ?_, fun i hi => ?_⟩
      · rw [List.length_cons] at hi
        cases i with
        | zero => exact h17
        | succ i => exact c3 i (by omega)
      · rw [List.length_cons]
        obtain ⟨m, hm⟩ : ∃ m, r.length = m + 1 := ⟨r.length - 1, by omega⟩
        rw [hm] at c4 ⊢
        exact c4
      · cases i with
        | zero => exact ⟨hk, ho, he⟩
        | succ i => exact c5 i
      · rw [List.length_cons] at hi
        cases i with
        | zero => exact hgt
        | succ i => exact c7 i (by omega) hq
      · rw [List.length_cons] at hi
        cases i with
        | zero => exact absurd hq h17
        | succ i => exact c8 i (by omega) hq
      · rw [List.length_cons] at hi
        cases i with
        | zero => exact c6
        | succ i => exact c9 i (by omega)
theorem qToks_C {t : List Int32} (h : t.length ≤ 60) : TkC t.length 0 (qToks t 61 0) := qToks_c t 61 0 (Nat.zero_le _) (by omega)
theorem qToks_W {t : List Int32} (h : t.length ≤ 60) : TkW (qToks t 61 0) := by
  obtain ⟨c1, c2, c3, c4, c5, -⟩ := qToks_C h
  exact ⟨c1, by omega, c3, c4, fun i => ⟨(c5 i).1, by have := (c5 i).2.1; omega, by have := (c5 i).2.2; omega⟩⟩
