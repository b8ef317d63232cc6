/-! answers yes or no -/
def Ans (r : Int32) (P : Prop) : Prop := (r = 1 ∧ P) ∨ (r = 0 ∧ ¬ P)
theorem Ans.y {P : Prop} (h : P) : Ans 1 P := Or.inl ⟨rfl, h⟩
theorem Ans.n {P : Prop} (h : ¬ P) : Ans 0 P := Or.inr ⟨rfl, h⟩
theorem Ans.of {r : Int32} {P Q : Prop} (h : Ans r P) (e : P ↔ Q) : Ans r Q := by
  rcases h with ⟨a, b⟩ | ⟨a, b⟩
  · exact Or.inl ⟨a, e.mp b⟩
  · exact Or.inr ⟨a, fun z => b (e.mpr z)⟩
theorem nI_sub4 {A B F G : Nat} (hA : A < 1000) (hB : B < 1000) (hF : F < 1000) (hG : G < 1000) : nI A - nI B = (4 : Int32) * (nI F - nI G) ↔ A + 4 * G = B + 4 * F := by
  have e : (4 : Int32) * (nI F - nI G) = nI (4 * F) - nI (4 * G) := by
    rw [show (4 : Int32) = nI 4 from rfl, ← pk_mul, ← pk_mul, Int32.mul_sub]
  rw [e, ← Int32.toInt_inj, pk_sub_toInt (by omega) (by omega), pk_sub_toInt (by omega) (by omega)]
  omega
theorem mks_lt {f : Nat → Int32} (hf : MkV f) : ∀ (n a r : Nat), a + n ≤ 61 → r < (mks f a n).length → (mks f a n).getD r 0 < 300
  | 0, a, r, _, hr => absurd hr (by simp [mks])
  | n + 1, a, r, ha, hr => by
    rw [mks] at hr ⊢
    by_cases hz : f a = 0
    · rw [if_pos hz, List.nil_append] at hr ⊢
      exact mks_lt hf n (a + 1) r (by omega) hr
    · rw [if_neg hz] at hr ⊢
      have hv := mk_v hf (show a < 61 by omega) hz
      cases r with
      | zero => show 4 * a + _ < 300; omega
      | succ r => exact mks_lt hf n (a + 1) r (by omega) (by simpa using hr)
theorem fls_lt {f : Nat → Int32} {t : List Int32} (hf : TrF f t) : ∀ (i r : Nat), i ≤ (qTr t).length → r < fB (qTr t) i → (fls (qTr t)).getD r 0 < 300
  | 0, r, _, hr => absurd hr (by simp [fB, fls])
  | i + 1, r, hi, hr => by
    by_cases hq : r < fB (qTr t) i
    · exact fls_lt hf i r (by omega) hq
    · rw [fB_s _ (by omega)] at hr
      have h1 : r - fB (qTr t) i < (nL (ndA (qTr t) i)).length := by omega
      have g1 := fls_get (qTr t) (i := i) (by omega) h1
      have d1 : fB (qTr t) i + (r - fB (qTr t) i) = r := by omega
      rw [d1] at g1
      rw [g1]
      have h60 := hf.1
      obtain ⟨⟨n1, n2, n3, n4, _⟩, n5⟩ := hf.2.2.2.2.1 i (by omega)
      rcases n4 with n4 | n4
      · rcases n4.2.2.2.2.2.2 with q | q
        · rw [q.2.1] at h1 ⊢
          exact mks_lt hf.2.2.2.2.2.2.2.2 _ _ _ (by omega) h1
        · rw [q.2.2.2] at h1 ⊢
          have e0 : r - fB (qTr t) i = 0 := by simp at h1; omega
          rw [e0]
          show 4 * nF (ndA (qTr t) i) + nM (ndA (qTr t) i) < 300
          have := q.1
          omega
      · rw [n4.2.2.2.2.2.1] at h1
        exact absurd h1 (by simp)
