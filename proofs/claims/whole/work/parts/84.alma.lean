/-! two nodes alike: both compare the same -/
section AM
variable {f g : Nat → Int32} {t u : List Int32} {i j : Nat}
theorem leaf_L (hf : TrF f t) {x : Nat} (hx : x < (qTr t).length) (hk : ¬ nK (ndA (qTr t) x) < 20) : nL (ndA (qTr t) x) = [] := by
  obtain ⟨⟨n1, n2, n3, n4, _⟩, _⟩ := hf.2.2.2.2.1 x hx
  rcases n4 with n4 | n4
  · exact absurd n4.2.2.2.1 hk
  · exact n4.2.2.2.2.2.1
theorem leaf_P (hf : TrF f t) {x : Nat} (hx : x < (qTr t).length) (hk : nK (ndA (qTr t) x) < 20) : LfP f (nF (ndA (qTr t) x)) (nT (ndA (qTr t) x)) (ndA (qTr t) x) := by
  obtain ⟨⟨n1, n2, n3, n4, _⟩, _⟩ := hf.2.2.2.2.1 x hx
  rcases n4 with n4 | n4
  · exact n4
  · omega
theorem LSh.one (a b m : Nat) : LSh [4 * a + m] [4 * b + m] a b := by
  refine ⟨rfl, fun r hr => ?_⟩
  cases r with
  | zero =>
    show (4 * a + m) + 4 * b = (4 * b + m) + 4 * a
    omega
  | succ r => exact absurd hr (by simp)
/-- leaves alike have the same faults -/
theorem sm_LS (hf : TrF f t) (hg : TrF g u) {x y : Nat} (hx : x < (qTr t).length) (hy : y < (qTr u).length) (hk : nK (ndA (qTr t) x) < 20) (hkk : nK (ndA (qTr t) x) = nK (ndA (qTr u) y)) (h : SmL f g t u (ndA (qTr t) x) (ndA (qTr u) y)) : LSh (nL (ndA (qTr t) x)) (nL (ndA (qTr u) y)) (nF (ndA (qTr t) x)) (nF (ndA (qTr u) y)) := by
  obtain ⟨h1, h2, h3⟩ := h
  have p := (leaf_P hf hx hk).2.2.2.2.2.2
  have q := (leaf_P hg hy (by omega)).2.2.2.2.2.2
  rcases p with p | p
  · rcases q with q | q
    · rw [p.2.1, q.2.1, ← h2]
      exact mks_sh _ _ _ (fun r hr => (h3 r hr).2)
    · have := p.1; have := q.1; omega
  · rcases q with q | q
    · have := p.1; have := q.1; omega
    · rw [p.2.2.2, q.2.2.2, h1]
      exact LSh.one _ _ _
theorem al_txt (hf : TrF f t) (hi : i < (qTr t).length) {z : Nat} (hz : i + z ≤ (qTr t).length) (hFF : ∀ q, q < z → nF (ndA (qTr t) (i + q)) + nF (ndA (qTr u) j) = nF (ndA (qTr u) (j + q)) + nF (ndA (qTr t) i)) (hs : ∀ q, q < z → nK (ndA (qTr t) (i + q)) < 20 → ∀ r, r < nT (ndA (qTr t) (i + q)) - nF (ndA (qTr t) (i + q)) → qAt t (nF (ndA (qTr t) (i + q)) + r) = qAt u (nF (ndA (qTr u) (j + q)) + r) ∧ f (nF (ndA (qTr t) (i + q)) + r) = g (nF (ndA (qTr u) (j + q)) + r)) : ∀ q, q ≤ z → ∀ r, r + nF (ndA (qTr t) i) < bF (qTr t) t.length (i + q) → qAt t (nF (ndA (qTr t) i) + r) = qAt u (nF (ndA (qTr u) j) + r) := by
  intro q
  induction q with
  | zero =>
    intro _ r hr
    rw [Nat.add_zero, bF_i hi] at hr
    omega
  | succ q ih =>
    intro hq r hr
    have hst := bF_st hf (x := i + q) (by omega)
    rw [show i + (q + 1) = i + q + 1 by omega, hst] at hr
    by_cases hlt : r + nF (ndA (qTr t) i) < bF (qTr t) t.length (i + q)
    · exact ih (by omega) r hlt
    · rw [bF_i (show i + q < (qTr t).length by omega)] at hlt
      by_cases hk : nK (ndA (qTr t) (i + q)) < 20
      · rw [if_pos hk] at hr
        have := (hs q (by omega) hk (r + nF (ndA (qTr t) i) - nF (ndA (qTr t) (i + q))) (by omega)).1
        have hF := hFF q (by omega)
        have e1 : nF (ndA (qTr t) (i + q)) + (r + nF (ndA (qTr t) i) - nF (ndA (qTr t) (i + q))) = nF (ndA (qTr t) i) + r := by omega
        have e2 : nF (ndA (qTr u) (j + q)) + (r + nF (ndA (qTr t) i) - nF (ndA (qTr t) (i + q))) = nF (ndA (qTr u) j) + r := by omega
        rw [e1, e2] at this
        exact this
      · rw [if_neg hk] at hr
        omega
theorem al_flt {z : Nat} (hz : i + z ≤ (qTr t).length) (hz2 : j + z ≤ (qTr u).length) (hFF : ∀ q, q < z → nF (ndA (qTr t) (i + q)) + nF (ndA (qTr u) j) = nF (ndA (qTr u) (j + q)) + nF (ndA (qTr t) i)) (hfB : ∀ q, q ≤ z → fB (qTr t) (i + q) + fB (qTr u) j = fB (qTr u) (j + q) + fB (qTr t) i) (hLS : ∀ q, q < z → LSh (nL (ndA (qTr t) (i + q))) (nL (ndA (qTr u) (j + q))) (nF (ndA (qTr t) (i + q))) (nF (ndA (qTr u) (j + q)))) : ∀ q, q ≤ z → ∀ r, r + fB (qTr t) i < fB (qTr t) (i + q) → (fls (qTr t)).getD (fB (qTr t) i + r) 0 + 4 * nF (ndA (qTr u) j) = (fls (qTr u)).getD (fB (qTr u) j + r) 0 + 4 * nF (ndA (qTr t) i) := by
  intro q
  induction q with
  | zero =>
    intro _ r hr
    rw [Nat.add_zero] at hr
    omega
  | succ q ih =>
    intro hq r hr
    rw [show i + (q + 1) = i + q + 1 by omega, fB_s _ (by omega)] at hr
    by_cases hlt : r + fB (qTr t) i < fB (qTr t) (i + q)
    · exact ih (by omega) r hlt
    · have e2 := hfB q (by omega)
      have hls := hLS q (by omega)
      have hr' : r + fB (qTr t) i - fB (qTr t) (i + q) < (nL (ndA (qTr t) (i + q))).length := by omega
      have h0 := hls.2 _ hr'
      have hF := hFF q (by omega)
      have g1 := fls_get (qTr t) (i := i + q) (by omega) hr'
      have g2 := fls_get (qTr u) (i := j + q) (by omega) (by rw [← hls.1]; exact hr')
      have d1 : fB (qTr t) (i + q) + (r + fB (qTr t) i - fB (qTr t) (i + q)) = fB (qTr t) i + r := by omega
      have d2 : fB (qTr u) (j + q) + (r + fB (qTr t) i - fB (qTr t) (i + q)) = fB (qTr u) j + r := by omega
      rw [d1] at g1
      rw [d2] at g2
      rw [g1, g2]
      omega
theorem al_to (hf : TrF f t) (hg : TrF g u) (hi : i < (qTr t).length) (hj : j < (qTr u).length) (h : AlP f g t u i j) : MaP t u i j := by
  obtain ⟨hz, h⟩ := h
  obtain ⟨⟨a1, a2, a3, a4, a5, a6⟩, a7⟩ := hf.2.2.2.2.1 i hi
  obtain ⟨⟨b1, b2, b3, b4, b5, b6⟩, b7⟩ := hg.2.2.2.2.1 j hj
  have hzz : ∀ q, q < nZ (ndA (qTr t) i) → nZ (ndA (qTr t) (i + q)) = nZ (ndA (qTr u) (j + q)) := fun q hq => al_nZ hf hg hi hj hz (fun q hq => (h q hq).2.1) (nZ (ndA (qTr t) i)) 0 (by omega) q (by omega) hq
  have hbF := al_bF hf hg hi hj (nZ (ndA (qTr t) i)) a1 (by omega) (fun q hq => (h q hq).1) (fun q hq hk => ((h q hq).2.2 ((leaf_C hf (by omega)).mp hk)).2.1)
  have hLS : ∀ q, q < nZ (ndA (qTr t) i) → LSh (nL (ndA (qTr t) (i + q))) (nL (ndA (qTr u) (j + q))) (nF (ndA (qTr t) (i + q))) (nF (ndA (qTr u) (j + q))) := by
    intro q hq
    by_cases hk : nK (ndA (qTr t) (i + q)) < 20
    · exact sm_LS hf hg (by omega) (by omega) hk (h q hq).1 ((h q hq).2.2 ((leaf_C hf (by omega)).mp hk))
    · rw [leaf_L hf (by omega) hk, leaf_L hg (by omega) (by rw [← (h q hq).1]; exact hk)]
      exact ⟨rfl, fun r hr => absurd hr (by simp)⟩
  have hfB := al_fB (l := qTr t) (m := qTr u) (i := i) (j := j) (nZ (ndA (qTr t) i)) a1 (by omega) (fun q hq => (hLS q hq).1)
  have hFF : ∀ q, q < nZ (ndA (qTr t) i) → nF (ndA (qTr t) (i + q)) + nF (ndA (qTr u) j) = nF (ndA (qTr u) (j + q)) + nF (ndA (qTr t) i) := fun q hq => by
    have := hbF q (by omega)
    rw [bF_i (show i + q < (qTr t).length by omega), bF_i (show j + q < (qTr u).length by omega)] at this
    exact this
  refine ⟨fun q hq => ⟨(h q hq).1, hzz q hq, ?_, ?_⟩, ?_, ?_⟩
  · have n1 := a5 (i + q) (by omega) (by omega)
    have x3 := (hf.2.2.2.2.1 (i + q) (by omega)).1.2.2.1
    have y3 := (hg.2.2.2.2.1 (j + q) (by omega)).1.2.2.1
    have e := hbF (q + nZ (ndA (qTr t) (i + q))) (by omega)
    rw [← Nat.add_assoc, ← Nat.add_assoc, ← x3, hzz q hq, ← y3] at e
    have := hFF q hq
    omega
  · have n1 := a5 (i + q) (by omega) (by omega)
    have e1 := hfB (q + nZ (ndA (qTr t) (i + q))) (by omega)
    have e2 := hfB q (by omega)
    rw [← Nat.add_assoc, ← Nat.add_assoc] at e1
    have m1 := fB_le (qTr t) (show i + q ≤ i + q + nZ (ndA (qTr t) (i + q)) by omega)
    have m2 := fB_le (qTr u) (show j + q ≤ j + q + nZ (ndA (qTr t) (i + q)) by omega)
    unfold fC
    rw [← hzz q hq]
    omega
  · intro q hq
    exact al_txt hf hi a1 hFF (fun q hq hk => ((h q hq).2.2 ((leaf_C hf (by omega)).mp hk)).2.2) _ (Nat.le_refl _) q (by rw [← a3]; omega)
  · intro q hq
    unfold fC at hq
    exact al_flt a1 (by omega) hFF hfB hLS _ (Nat.le_refl _) q (by omega)
theorem al_from (hf : TrF f t) (hg : TrF g u) (hi : i < (qTr t).length) (hj : j < (qTr u).length) (h : MaP t u i j) : AlP f g t u i j := by
  obtain ⟨h1, h2, h3⟩ := h
  obtain ⟨⟨a1, a2, a3, a4, a5, a6⟩, a7⟩ := hf.2.2.2.2.1 i hi
  obtain ⟨⟨b1, b2, b3, b4, b5, b6⟩, b7⟩ := hg.2.2.2.2.1 j hj
  have hz1 := nZ_1 hf hi
  have hz := (h1 0 (by omega)).2.1
  rw [Nat.add_zero, Nat.add_zero] at hz
  have hbF := al_bF hf hg hi hj (nZ (ndA (qTr t) i)) a1 (by omega) (fun q hq => (h1 q hq).1) (fun q hq hk => (h1 q hq).2.2.1)
  have hFF : ∀ q, q < nZ (ndA (qTr t) i) → nF (ndA (qTr t) (i + q)) + nF (ndA (qTr u) j) = nF (ndA (qTr u) (j + q)) + nF (ndA (qTr t) i) := fun q hq => by
    have := hbF q (by omega)
    rw [bF_i (show i + q < (qTr t).length by omega), bF_i (show j + q < (qTr u).length by omega)] at this
    exact this
  have hLl : ∀ q, q < nZ (ndA (qTr t) i) → (nL (ndA (qTr t) (i + q))).length = (nL (ndA (qTr u) (j + q))).length := by
    intro q hq
    by_cases hk : nK (ndA (qTr t) (i + q)) < 20
    · have e := (h1 q hq).2.2.2
      unfold fC at e
      rw [(leaf_P hf (show i + q < (qTr t).length by omega) hk).2.2.2.2.1, (leaf_P hg (show j + q < (qTr u).length by omega) (by rw [← (h1 q hq).1]; exact hk)).2.2.2.2.1, fB_s _ (by omega), fB_s _ (by omega)] at e
      omega
    · rw [leaf_L hf (by omega) hk, leaf_L hg (by omega) (by rw [← (h1 q hq).1]; exact hk)]
  have hfB := al_fB (l := qTr t) (m := qTr u) (i := i) (j := j) (nZ (ndA (qTr t) i)) a1 (by omega) hLl
  have hLS : ∀ q, q < nZ (ndA (qTr t) i) → LSh (nL (ndA (qTr t) (i + q))) (nL (ndA (qTr u) (j + q))) (nF (ndA (qTr t) (i + q))) (nF (ndA (qTr u) (j + q))) := by
    intro q hq
    refine ⟨hLl q hq, fun r hr => ?_⟩
    have e2 := hfB q (by omega)
    have m1 := fB_le (qTr t) (show i ≤ i + q by omega)
    have m2 := fB_le (qTr t) (show i + q + 1 ≤ i + nZ (ndA (qTr t) i) by omega)
    rw [fB_s _ (show i + q < (qTr t).length by omega)] at m2
    have := h3 (fB (qTr t) (i + q) - fB (qTr t) i + r) (by unfold fC; omega)
    have g1 := fls_get (qTr t) (i := i + q) (by omega) hr
    have g2 := fls_get (qTr u) (i := j + q) (by omega) (by rw [← hLl q hq]; exact hr)
    rw [show fB (qTr t) i + (fB (qTr t) (i + q) - fB (qTr t) i + r) = fB (qTr t) (i + q) + r by omega, show fB (qTr u) j + (fB (qTr t) (i + q) - fB (qTr t) i + r) = fB (qTr u) (j + q) + r by omega, g1, g2] at this
    have hF := hFF q hq
    omega
  refine ⟨hz, fun q hq => ⟨(h1 q hq).1, al_nC hf hg hi hj (fun q hq => (h1 q hq).2.1) hq, fun hc => ?_⟩⟩
  have hx : i + q < (qTr t).length := by omega
  have hy : j + q < (qTr u).length := by omega
  have hk := (leaf_C hf hx).mpr hc
  have hky : nK (ndA (qTr u) (j + q)) < 20 := by rw [← (h1 q hq).1]; exact hk
  have P := leaf_P hf hx hk
  have Q := leaf_P hg hy hky
  have hst := (h1 q hq).2.2.1
  have hkk := (h1 q hq).1
  have hF := hFF q hq
  have hls := hLS q hq
  have x2 := (hf.2.2.2.2.1 (i + q) hx).1.2.1
  have x5 := (hf.2.2.2.2.1 (i + q) hx).2
  have y5 := (hg.2.2.2.2.1 (j + q) hy).2
  have y2 := (hg.2.2.2.2.1 (j + q) hy).1.2.1
  have hin : nT (ndA (qTr t) (i + q)) ≤ nT (ndA (qTr t) i) := by
    have n1 := a5 (i + q) (by omega) (by omega)
    have x3 := (hf.2.2.2.2.1 (i + q) hx).1.2.2.1
    rw [x3, a3]
    have := bF_mono hf (i + nZ (ndA (qTr t) i) - (i + q + nZ (ndA (qTr t) (i + q)))) (i + q + nZ (ndA (qTr t) (i + q))) (by omega)
    rw [show i + q + nZ (ndA (qTr t) (i + q)) + (i + nZ (ndA (qTr t) i) - (i + q + nZ (ndA (qTr t) (i + q)))) = i + nZ (ndA (qTr t) i) by omega] at this
    exact this
  have hin2 : nF (ndA (qTr t) i) ≤ nF (ndA (qTr t) (i + q)) := by
    have := bF_mono hf q i (by omega)
    rw [bF_i hi, bF_i hx] at this
    exact this
  have htxt : ∀ r, r < nT (ndA (qTr t) (i + q)) - nF (ndA (qTr t) (i + q)) → qAt t (nF (ndA (qTr t) (i + q)) + r) = qAt u (nF (ndA (qTr u) (j + q)) + r) := by
    intro r hr
    have := h2 (nF (ndA (qTr t) (i + q)) - nF (ndA (qTr t) i) + r) (by omega)
    rw [show nF (ndA (qTr t) i) + (nF (ndA (qTr t) (i + q)) - nF (ndA (qTr t) i) + r) = nF (ndA (qTr t) (i + q)) + r by omega, show nF (ndA (qTr u) j) + (nF (ndA (qTr t) (i + q)) - nF (ndA (qTr t) i) + r) = nF (ndA (qTr u) (j + q)) + r by omega] at this
    exact this
  have f60 := hf.1
  have g60 := hg.1
  rcases P.2.2.2.2.2.2 with p | p
  · rcases Q.2.2.2.2.2.2 with p' | p'
    · refine ⟨by rw [p.1, p'.1], hst, fun r hr => ⟨htxt r hr, ?_⟩⟩
      rw [p.2.1, p'.2.1, ← hst] at hls
      exact mks_inj hf.2.2.2.2.2.2.2.2 hg.2.2.2.2.2.2.2.2 _ _ _ (by omega) (by omega) hls r hr
    · have := p.2.2
      have := p'.2.1
      have := p'.2.2.1
      omega
  · rcases Q.2.2.2.2.2.2 with p' | p'
    · have := p'.2.2
      have := p.2.1
      have := p.2.2.1
      omega
    · refine ⟨?_, hst, fun r hr => absurd hr (by have := p.2.1; omega)⟩
      rw [p.2.2.2, p'.2.2.2] at hls
      have := hls.2 0 (by simp)
      have : 4 * nF (ndA (qTr t) (i + q)) + nM (ndA (qTr t) (i + q)) + 4 * nF (ndA (qTr u) (j + q)) = 4 * nF (ndA (qTr u) (j + q)) + nM (ndA (qTr u) (j + q)) + 4 * nF (ndA (qTr t) (i + q)) := this
      omega
end AM
