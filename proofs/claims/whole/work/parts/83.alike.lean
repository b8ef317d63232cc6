/-! two nodes alike: what the reference compares and what the class compares -/
/-- two rows of faults that differ by their places alone -/
def LSh (A B : List Nat) (a b : Nat) : Prop := A.length = B.length ∧ ∀ r, r < A.length → A.getD r 0 + 4 * b = B.getD r 0 + 4 * a
theorem mks_sh {f g : Nat → Int32} : ∀ (n a b : Nat), (∀ q, q < n → f (a + q) = g (b + q)) → LSh (mks f a n) (mks g b n) a b
  | 0, a, b, _ => ⟨rfl, fun r hr => absurd hr (by simp [mks])⟩
  | n + 1, a, b, h => by
    have h0 : f a = g b := h 0 (by omega)
    obtain ⟨i1, i2⟩ := mks_sh n (a + 1) (b + 1) (fun q hq => by
      have := h (q + 1) (by omega)
      rw [show a + 1 + q = a + (q + 1) by omega, show b + 1 + q = b + (q + 1) by omega]
      exact this)
    rw [mks, mks, h0]
    by_cases hz : g b = 0
    · rw [if_pos hz, if_pos hz, List.nil_append, List.nil_append]
      exact ⟨i1, fun r hr => by have := i2 r hr; omega⟩
    · rw [if_neg hz, if_neg hz]
      refine ⟨by simp [i1], fun r hr => ?_⟩
      cases r with
      | zero => show 4 * a + _ + 4 * b = 4 * b + _ + 4 * a; omega
      | succ r =>
        have := i2 r (by simpa using hr)
        show (mks f (a + 1) n).getD r 0 + 4 * b = (mks g (b + 1) n).getD r 0 + 4 * a
        omega
theorem mk_v {f : Nat → Int32} (hf : MkV f) {p : Nat} (hp : p < 61) (hz : ¬ f p = 0) : 1 ≤ (f p).toNatClampNeg ∧ (f p).toNatClampNeg ≤ 3 ∧ f p = nI (f p).toNatClampNeg := by
  rcases hf p hp with h | h | h
  · exact absurd h hz
  · rw [h]; exact ⟨by decide, by decide, by decide⟩
  · rw [h]; exact ⟨by decide, by decide, by decide⟩
theorem mks_ge {f : Nat → Int32} (hf : MkV f) : ∀ (n a r : Nat), a + n ≤ 61 → r < (mks f a n).length → 4 * a + 1 ≤ (mks f a n).getD r 0
  | 0, a, r, _, hr => absurd hr (by simp [mks])
  | n + 1, a, r, ha, hr => by
    rw [mks] at hr ⊢
    by_cases hz : f a = 0
    · rw [if_pos hz, List.nil_append] at hr ⊢
      have := mks_ge hf n (a + 1) r (by omega) hr
      omega
    · rw [if_neg hz] at hr ⊢
      have hv := mk_v hf (show a < 61 by omega) hz
      cases r with
      | zero => show 4 * a + 1 ≤ 4 * a + _; omega
      | succ r =>
        have := mks_ge hf n (a + 1) r (by omega) (by simpa using hr)
        show 4 * a + 1 ≤ (mks f (a + 1) n).getD r 0
        omega
theorem mks_inj {f g : Nat → Int32} (hf : MkV f) (hg : MkV g) : ∀ (n a b : Nat), a + n ≤ 61 → b + n ≤ 61 → LSh (mks f a n) (mks g b n) a b → ∀ q, q < n → f (a + q) = g (b + q)
  | 0, a, b, _, _, _, q, hq => absurd hq (by omega)
  | n + 1, a, b, ha, hb, h, q, hq => by
    rw [mks, mks] at h
    have hh : f a = g b ∧ LSh (mks f (a + 1) n) (mks g (b + 1) n) (a + 1) (b + 1) := by
      obtain ⟨h1, h2⟩ := h
      by_cases hz : f a = 0
      · rw [if_pos hz, List.nil_append] at h1 h2
        by_cases hz2 : g b = 0
        · rw [if_pos hz2, List.nil_append] at h1 h2
          exact ⟨by rw [hz, hz2], h1, fun r hr => by have := h2 r hr; omega⟩
        · rw [if_neg hz2] at h1 h2
          have hl : 0 < (mks f (a + 1) n).length := by rw [h1]; simp
          have e := h2 0 hl
          have g1 := mks_ge hf n (a + 1) 0 (by omega) hl
          have hv := mk_v hg (show b < 61 by omega) hz2
          have e : (mks f (a + 1) n).getD 0 0 + 4 * b = (4 * b + (g b).toNatClampNeg) + 4 * a := e
          omega
      · rw [if_neg hz] at h1 h2
        have hv := mk_v hf (show a < 61 by omega) hz
        by_cases hz2 : g b = 0
        · rw [if_pos hz2, List.nil_append] at h1 h2
          have hl : 0 < (mks g (b + 1) n).length := by rw [← h1]; simp
          have e := h2 0 (by simp)
          have g1 := mks_ge hg n (b + 1) 0 (by omega) hl
          have e : (4 * a + (f a).toNatClampNeg) + 4 * b = (mks g (b + 1) n).getD 0 0 + 4 * a := e
          omega
        · rw [if_neg hz2] at h1 h2
          have hv2 := mk_v hg (show b < 61 by omega) hz2
          have e := h2 0 (by simp)
          have e : (4 * a + (f a).toNatClampNeg) + 4 * b = (4 * b + (g b).toNatClampNeg) + 4 * a := e
          refine ⟨by rw [hv.2.2, hv2.2.2, show (f a).toNatClampNeg = (g b).toNatClampNeg by omega], by simpa using h1, fun r hr => ?_⟩
          have := h2 (r + 1) (by simpa using hr)
          have : (mks f (a + 1) n).getD r 0 + 4 * b = (mks g (b + 1) n).getD r 0 + 4 * a := this
          omega
    cases q with
    | zero => exact hh.1
    | succ q =>
      have := mks_inj hf hg n (a + 1) (b + 1) (by omega) (by omega) hh.2 q (by omega)
      rw [show a + (q + 1) = a + 1 + q by omega, show b + (q + 1) = b + 1 + q by omega]
      exact this
def SmL (f g : Nat → Int32) (t u : List Int32) (n m : Nd) : Prop := nM n = nM m ∧ nT n - nF n = nT m - nF m ∧ ∀ q, q < nT n - nF n → qAt t (nF n + q) = qAt u (nF m + q) ∧ f (nF n + q) = g (nF m + q)
def AlP (f g : Nat → Int32) (t u : List Int32) (i j : Nat) : Prop := nZ (ndA (qTr t) i) = nZ (ndA (qTr u) j) ∧ ∀ q, q < nZ (ndA (qTr t) i) → nK (ndA (qTr t) (i + q)) = nK (ndA (qTr u) (j + q)) ∧ nC (ndA (qTr t) (i + q)) = nC (ndA (qTr u) (j + q)) ∧ (nC (ndA (qTr t) (i + q)) = 0 → SmL f g t u (ndA (qTr t) (i + q)) (ndA (qTr u) (j + q)))
def fC (l : List Nd) (i : Nat) : Nat := fB l (i + nZ (ndA l i)) - fB l i
def SnP (t u : List Int32) (x y : Nat) : Prop := nK (ndA (qTr t) x) = nK (ndA (qTr u) y) ∧ nZ (ndA (qTr t) x) = nZ (ndA (qTr u) y) ∧ nT (ndA (qTr t) x) - nF (ndA (qTr t) x) = nT (ndA (qTr u) y) - nF (ndA (qTr u) y) ∧ fC (qTr t) x = fC (qTr u) y
def MaP (t u : List Int32) (i j : Nat) : Prop := (∀ q, q < nZ (ndA (qTr t) i) → SnP t u (i + q) (j + q)) ∧ (∀ q, q < nT (ndA (qTr t) i) - nF (ndA (qTr t) i) → qAt t (nF (ndA (qTr t) i) + q) = qAt u (nF (ndA (qTr u) j) + q)) ∧ ∀ q, q < fC (qTr t) i → (fls (qTr t)).getD (fB (qTr t) i + q) 0 + 4 * nF (ndA (qTr u) j) = (fls (qTr u)).getD (fB (qTr u) j + q) 0 + 4 * nF (ndA (qTr t) i)
section AL
variable {f g : Nat → Int32} {t u : List Int32} {i j : Nat}
theorem bF_st (hf : TrF f t) {x : Nat} (hx : x < (qTr t).length) : bF (qTr t) t.length (x + 1) = if nK (ndA (qTr t) x) < 20 then nT (ndA (qTr t) x) else nF (ndA (qTr t) x) := by
  obtain ⟨⟨n1, n2, n3, n4, _⟩, _⟩ := hf.2.2.2.2.1 x hx
  rcases n4 with n4 | n4
  · rw [n4.2.2.2.2.1] at n3
    rw [if_pos n4.2.2.2.1, n3]
  · rw [if_neg (show ¬ nK (ndA (qTr t) x) < 20 by omega), bF_i (by omega), n4.2.2.2.2.2.2.1]
theorem bF_mono (hf : TrF f t) : ∀ (d x : Nat), x + d ≤ (qTr t).length → bF (qTr t) t.length x ≤ bF (qTr t) t.length (x + d)
  | 0, x, _ => Nat.le_refl _
  | d + 1, x, h => by
    have h1 := bF_mono hf d x (by omega)
    have h2 := bF_st hf (x := x + d) (by omega)
    have h3 := (hf.2.2.2.2.1 (x + d) (by omega)).1.2.1
    rw [show x + (d + 1) = x + d + 1 by omega, h2]
    rw [bF_i (show x + d < (qTr t).length by omega)] at h1
    split <;> omega
/-- beginnings go in step -/
theorem al_bF (hf : TrF f t) (hg : TrF g u) (hi : i < (qTr t).length) (hj : j < (qTr u).length) (z : Nat) (hz1 : i + z ≤ (qTr t).length) (hz2 : j + z ≤ (qTr u).length) (hk : ∀ q, q < z → nK (ndA (qTr t) (i + q)) = nK (ndA (qTr u) (j + q))) (hs : ∀ q, q < z → nK (ndA (qTr t) (i + q)) < 20 → nT (ndA (qTr t) (i + q)) - nF (ndA (qTr t) (i + q)) = nT (ndA (qTr u) (j + q)) - nF (ndA (qTr u) (j + q))) : ∀ q, q ≤ z → bF (qTr t) t.length (i + q) + nF (ndA (qTr u) j) = bF (qTr u) u.length (j + q) + nF (ndA (qTr t) i)
  | 0, _ => by
    rw [Nat.add_zero, Nat.add_zero, bF_i hi, bF_i hj]
    omega
  | q + 1, hq => by
    have ih := al_bF hf hg hi hj z hz1 hz2 hk hs q (by omega)
    have a1 := bF_st hf (x := i + q) (by omega)
    have a2 := bF_st hg (x := j + q) (by omega)
    have a3 := (hf.2.2.2.2.1 (i + q) (by omega)).1.2.1
    have a4 := (hg.2.2.2.2.1 (j + q) (by omega)).1.2.1
    rw [bF_i (show i + q < (qTr t).length by omega), bF_i (show j + q < (qTr u).length by omega)] at ih
    rw [show i + (q + 1) = i + q + 1 by omega, show j + (q + 1) = j + q + 1 by omega, a1, a2, ← hk q (by omega)]
    by_cases hl : nK (ndA (qTr t) (i + q)) < 20
    · have := hs q (by omega) hl
      rw [if_pos hl, if_pos hl]
      omega
    · rw [if_neg hl, if_neg hl]
      exact ih
theorem al_fB {l m : List Nd} (z : Nat) (hz1 : i + z ≤ l.length) (hz2 : j + z ≤ m.length) (hs : ∀ q, q < z → (nL (ndA l (i + q))).length = (nL (ndA m (j + q))).length) : ∀ q, q ≤ z → fB l (i + q) + fB m j = fB m (j + q) + fB l i
  | 0, _ => by rw [Nat.add_zero, Nat.add_zero]; omega
  | q + 1, hq => by
    have ih := al_fB z hz1 hz2 hs q (by omega)
    rw [show i + (q + 1) = i + q + 1 by omega, show j + (q + 1) = j + q + 1 by omega, fB_s l (by omega), fB_s m (by omega), hs q (by omega)]
    omega
/-- the hops go in step -/
theorem al_hop {l m : List Nd} {z : Nat} (x : Nat) (hs : ∀ q, x ≤ q → q < z → nZ (ndA l (i + q)) = nZ (ndA m (j + q))) : ∀ c, (∀ c', c' < c → i + x ≤ hop l (i + x) c' ∧ hop l (i + x) c' < i + z) → ∃ o, hop l (i + x) c = i + o ∧ hop m (j + x) c = j + o
  | 0, _ => ⟨x, rfl, rfl⟩
  | c + 1, h => by
    obtain ⟨o, o1, o2⟩ := al_hop x hs c (fun c' hc => h c' (by omega))
    have hb := h c (by omega)
    rw [o1] at hb
    refine ⟨o + nZ (ndA l (i + o)), ?_, ?_⟩
    · rw [hop_e, o1]
      omega
    · rw [hop_e, o2, hs o (by omega) (by omega)]
      omega
theorem nC_hop (hf : TrF f t) {x : Nat} (hx : x < (qTr t).length) {c : Nat} (hc : c ≤ nC (ndA (qTr t) x)) : ∀ c', c' < c → x + 1 ≤ hop (qTr t) (x + 1) c' ∧ hop (qTr t) (x + 1) c' < x + nZ (ndA (qTr t) x) := fun c' h' => by
  have h1 := nC_b hf hx c' (by omega)
  have h2 := (hf.2.2.2.2.1 x hx).1.2.2.2.2.2.1 c' (by omega)
  omega
theorem al_nZ (hf : TrF f t) (hg : TrF g u) (hi : i < (qTr t).length) (hj : j < (qTr u).length) (hz : nZ (ndA (qTr t) i) = nZ (ndA (qTr u) j)) (hc : ∀ q, q < nZ (ndA (qTr t) i) → nC (ndA (qTr t) (i + q)) = nC (ndA (qTr u) (j + q))) : ∀ d q, q + d = nZ (ndA (qTr t) i) → ∀ q', q ≤ q' → q' < nZ (ndA (qTr t) i) → nZ (ndA (qTr t) (i + q')) = nZ (ndA (qTr u) (j + q'))
  | 0, q, h, q', h1, h2 => by omega
  | d + 1, q, h, q', h1, h2 => by
    have ih := al_nZ hf hg hi hj hz hc d (q + 1) (by omega)
    by_cases hq : q' = q
    · subst hq
      obtain ⟨⟨a1, _, _, _, a5, _⟩, _⟩ := hf.2.2.2.2.1 i hi
      obtain ⟨⟨b1, _, _, _, b5, _⟩, _⟩ := hg.2.2.2.2.1 j hj
      have hx : i + q' < (qTr t).length := by omega
      have hy : j + q' < (qTr u).length := by omega
      have x7 := (hf.2.2.2.2.1 (i + q') hx).1.2.2.2.2.2.2
      have y7 := (hg.2.2.2.2.1 (j + q') hy).1.2.2.2.2.2.2
      have n1 := a5 (i + q') (by omega) (by omega)
      have hcc := hc q' h2
      obtain ⟨o, o1, o2⟩ := al_hop (l := qTr t) (m := qTr u) (i := i) (j := j) (z := nZ (ndA (qTr t) i)) (q' + 1) ih (nC (ndA (qTr t) (i + q'))) (fun c' hc' => by
        have := nC_hop hf hx (Nat.le_refl _) c' hc'
        rw [← Nat.add_assoc]
        omega)
      rw [← Nat.add_assoc] at o1 o2
      rw [x7] at o1
      rw [hcc, y7] at o2
      omega
    · exact ih q' (by omega) h2
theorem al_nC (hf : TrF f t) (hg : TrF g u) (hi : i < (qTr t).length) (hj : j < (qTr u).length) (hz : ∀ q, q < nZ (ndA (qTr t) i) → nZ (ndA (qTr t) (i + q)) = nZ (ndA (qTr u) (j + q))) {q : Nat} (hq : q < nZ (ndA (qTr t) i)) : nC (ndA (qTr t) (i + q)) = nC (ndA (qTr u) (j + q)) := by
  have hz0 := hz 0 (by omega)
  rw [Nat.add_zero, Nat.add_zero] at hz0
  obtain ⟨⟨a1, _, _, _, a5, _⟩, _⟩ := hf.2.2.2.2.1 i hi
  obtain ⟨⟨b1, _, _, _, b5, _⟩, _⟩ := hg.2.2.2.2.1 j hj
  have hx : i + q < (qTr t).length := by omega
  have hy : j + q < (qTr u).length := by omega
  have x7 := (hf.2.2.2.2.1 (i + q) hx).1.2.2.2.2.2.2
  have x6 := (hf.2.2.2.2.1 (i + q) hx).1.2.2.2.2.2.1
  have y7 := (hg.2.2.2.2.1 (j + q) hy).1.2.2.2.2.2.2
  have y6 := (hg.2.2.2.2.1 (j + q) hy).1.2.2.2.2.2.1
  have n1 := a5 (i + q) (by omega) (by omega)
  have hzq := hz q hq
  have key : ∀ c, c ≤ nC (ndA (qTr t) (i + q)) → ∃ o, hop (qTr t) (i + q + 1) c = i + o ∧ hop (qTr u) (j + q + 1) c = j + o := by
    intro c hc
    obtain ⟨o, o1, o2⟩ := al_hop (l := qTr t) (m := qTr u) (i := i) (j := j) (z := nZ (ndA (qTr t) i)) (q + 1) (fun q' _ h2 => hz q' h2) c (fun c' hc' => by
      have := nC_hop hf hx hc c' hc'
      rw [← Nat.add_assoc]
      omega)
    rw [← Nat.add_assoc] at o1 o2
    exact ⟨o, o1, o2⟩
  rcases Nat.lt_trichotomy (nC (ndA (qTr t) (i + q))) (nC (ndA (qTr u) (j + q))) with h | h | h
  · obtain ⟨o, o1, o2⟩ := key _ (Nat.le_refl _)
    have := y6 _ h
    omega
  · exact h
  · obtain ⟨o, o1, o2⟩ := key _ (Nat.le_of_lt h)
    have := x6 _ h
    omega
end AL
