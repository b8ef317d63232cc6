/-! counting: each own character of a token that is taken pays for nodes and faults -/
/-- of words: if, else, while are as long as they are -/
theorem qToks_wd (t : List Int32) : ∀ (n p i : Nat), i < (qToks t n p).length → (qK (qToks t n p) i = 3 → qO (qToks t n p) i + 2 ≤ qE (qToks t n p) i) ∧ (qK (qToks t n p) i = 4 → qO (qToks t n p) i + 4 ≤ qE (qToks t n p) i) ∧ (qK (qToks t n p) i = 5 → qO (qToks t n p) i + 5 ≤ qE (qToks t n p) i) := by
  intro n
  induction n with
  | zero => intro p i h; exact absurd h (by simp [qToks])
  | succ n ih =>
    intro p i hi
    rw [qToks] at hi ⊢
    cases i with
    | zero =>
      show (qKind t (qOwn t p) (qEnd t (qOwn t p)) = 3 → qOwn t p + 2 ≤ qEnd t (qOwn t p)) ∧ (qKind t (qOwn t p) (qEnd t (qOwn t p)) = 4 → qOwn t p + 4 ≤ qEnd t (qOwn t p)) ∧ (qKind t (qOwn t p) (qEnd t (qOwn t p)) = 5 → qOwn t p + 5 ≤ qEnd t (qOwn t p))
      generalize qOwn t p = o
      generalize qEnd t o = e
      have hs : ∀ c : Int32, 6 ≤ qSign c := by
        intro c
        unfold qSign
        repeat' (first | split | decide)
      unfold qKind
      by_cases h1 : t.length ≤ o
      · rw [if_pos h1]
        exact ⟨fun h => absurd h (by decide), fun h => absurd h (by decide), fun h => absurd h (by decide)⟩
      · rw [if_neg h1]
        by_cases h2 : qSm (qAt t o) = true
        · rw [if_pos h2]
          unfold qWord
          by_cases w1 : e - o = 2 ∧ qAt t o = 105 ∧ qAt t (o + 1) = 102
          · rw [if_pos w1]
            exact ⟨fun _ => by omega, fun h => absurd h (by decide), fun h => absurd h (by decide)⟩
          · rw [if_neg w1]
            by_cases w2 : e - o = 4 ∧ qAt t o = 101 ∧ qAt t (o + 1) = 108 ∧ qAt t (o + 2) = 115 ∧ qAt t (o + 3) = 101
            · rw [if_pos w2]
              exact ⟨fun h => absurd h (by decide), fun _ => by omega, fun h => absurd h (by decide)⟩
            · rw [if_neg w2]
              by_cases w3 : e - o = 5 ∧ qAt t o = 119 ∧ qAt t (o + 1) = 104 ∧ qAt t (o + 2) = 105 ∧ qAt t (o + 3) = 108 ∧ qAt t (o + 4) = 101
              · rw [if_pos w3]
                exact ⟨fun h => absurd h (by decide), fun h => absurd h (by decide), fun _ => by omega⟩
              · rw [if_neg w3]
                exact ⟨fun h => absurd h (by decide), fun h => absurd h (by decide), fun h => absurd h (by decide)⟩
        · rw [if_neg h2]
          by_cases h3 : qDg (qAt t o) = true
          · rw [if_pos h3]
            exact ⟨fun h => absurd h (by decide), fun h => absurd h (by decide), fun h => absurd h (by decide)⟩
          · rw [if_neg h3]
            have := hs (qAt t o)
            exact ⟨fun h => by omega, fun h => by omega, fun h => by omega⟩
    | succ i =>
      by_cases h17 : qKind t (qOwn t p) (qEnd t (qOwn t p)) = 17
      · rw [if_pos h17] at hi
        exact absurd hi (by simp)
      · rw [if_neg h17] at hi ⊢
        exact ih (qEnd t (qOwn t p)) i (by simpa using hi)
/-- what the tokens give to the counting: w characters go by when a token is taken -/
def TkP (tk : List (Nat × Nat × Nat)) : Prop := ∀ i, i < tk.length → ¬ qK tk i = 17 → i + 1 < tk.length ∧ qO tk i + 1 ≤ qO tk (i + 1) ∧ (qK tk i = 3 → qO tk i + 2 ≤ qO tk (i + 1)) ∧ (qK tk i = 4 → qO tk i + 4 ≤ qO tk (i + 1)) ∧ (qK tk i = 5 → qO tk i + 5 ≤ qO tk (i + 1))
theorem qToks_P {t : List Int32} (h : t.length ≤ 60) : TkP (qToks t 61 0) := by
  intro i hi hk
  obtain ⟨c1, c2, c3, c4, c5, c6, c7, c8, c9⟩ := qToks_C h
  have hw := qToks_wd t 61 0 i hi
  have hn : i + 1 < (qToks t 61 0).length := by
    by_cases hq : i + 1 < (qToks t 61 0).length
    · exact hq
    · exact absurd (show qK (qToks t 61 0) i = 17 by rw [show i = (qToks t 61 0).length - 1 by omega]; exact c4) hk
  have h9 := c9 i hn
  have h7 := c7 i hi hk
  exact ⟨hn, by omega, fun q => by have := hw.1 q; omega, fun q => by have := hw.2.1 q; omega, fun q => by have := hw.2.2 q; omega⟩
/-- expressions: 3 nodes and 1 fault a character -/
def CoX (tk : List (Nat × Nat × Nat)) (a b : Nat) (F : Sg → List Nd × Sg) : Prop := ∀ g : Sg, g.1 < tk.length → ∃ δ, (F g).2.1 < tk.length ∧ qO tk (F g).2.1 = qO tk g.1 + δ ∧ (F g).1.length ≤ a + 3 * δ ∧ (fls (F g).1).length + (F g).2.2.2.length ≤ g.2.2.length + b + δ
theorem co_take {tk : List (Nat × Nat × Nat)} (hP : TkP tk) {g : Sg} (hg : g.1 < tk.length) (hk : ¬ qK tk g.1 = 17) : ∃ δ, 1 ≤ δ ∧ (qTake tk g).2.1 < tk.length ∧ qO tk (qTake tk g).2.1 = qO tk g.1 + δ ∧ (qTake tk g).1.length = 1 ∧ (fls (qTake tk g).1).length = g.2.2.length ∧ (qTake tk g).2.2.2.length = 0 := by
  obtain ⟨h1, h2, -⟩ := hP g.1 hg hk
  exact ⟨qO tk (g.1 + 1) - qO tk g.1, by omega, h1, show qO tk (g.1 + 1) = _ by omega, rfl, by rw [qTake, fls_one]; rfl, rfl⟩
theorem co_miss {k f : Nat} {g : Sg} : (qMiss k f g).1.length = 1 ∧ (fls (qMiss k f g).1).length = 1 ∧ (qMiss k f g).2 = g := ⟨rfl, rfl, rfl⟩
theorem co_exp {tk : List (Nat × Nat × Nat)} (hP : TkP tk) {k : Nat} (hk : k ≤ 16) : ∀ g : Sg, g.1 < tk.length → ∃ δ, (qExp tk k g).2.1 < tk.length ∧ qO tk (qExp tk k g).2.1 = qO tk g.1 + δ ∧ (qExp tk k g).1.length = 1 ∧ (fls (qExp tk k g).1).length + (qExp tk k g).2.2.2.length ≤ g.2.2.length + 1 := by
  intro g hg
  unfold qExp
  by_cases h : qK tk g.1 = k
  · rw [if_pos h]
    obtain ⟨δ, -, h2, h3, h4, h5, h6⟩ := co_take hP hg (by omega)
    exact ⟨δ, h2, h3, h4, by omega⟩
  · rw [if_neg h]
    refine ⟨0, hg, rfl, rfl, ?_⟩
    rw [co_miss.2.1]
    show 1 + g.2.2.length ≤ _
    omega
