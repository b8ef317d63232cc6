/-! the reference compares two nodes -/
section ME
variable {N k1 k2 : Nat} {s : jS} {t u : List Int32}
theorem mM_slL (h1 : SlM s k1 t) (h2 : SlM s k2 u) {x y w : Nat} (hx : x < (qTr t).length) (hy : y < (qTr u).length) (hw : w = nT (ndA (qTr t) x) - nF (ndA (qTr t) x)) (hw2 : w = nT (ndA (qTr u) y) - nF (ndA (qTr u) y)) : ∀ (n q : Nat), w < q + n → q ≤ w → ∃ r, fM_sameLeaf_56 N n (nI k1) (nI (400 * k1 + x)) (nI k2) (nI (400 * k2 + y)) (nI w) (nI q) s = some (r, s) ∧ Ans r (∀ q', q ≤ q' → q' < w → qAt t (nF (ndA (qTr t) x) + q') = qAt u (nF (ndA (qTr u) y) + q') ∧ mkM s k1 (nF (ndA (qTr t) x) + q') = mkM s k2 (nF (ndA (qTr u) y) + q')) := by
  have hk1 := h1.1.1
  have hk2 := h2.1.1
  have hf := h1.tf
  have hg := h2.tf
  have l1 := hf.2.1
  have l2 := hg.2.1
  have t1 := (hf.2.2.2.2.1 x hx).2
  have t2 := (hg.2.2.2.2.1 y hy).2
  have u1 := hf.1
  have u2 := hg.1
  have w5 := (h1.2.1.2 x hx).2.1
  have v5 := (h2.2.1.2 y hy).2.1
  intro n
  induction n with
  | zero => intro q a b; omega
  | succ n ih =>
    intro q a b
    show ∃ r, fM_sameLeaf_b56 N (fM_sameLeaf_56 N n) _ _ _ _ _ _ s = _ ∧ _
    unfold fM_sameLeaf_b56
    by_cases hq : q = w
    · subst hq
      rw [if_pos (Int32.le_refl _)]
      exact ⟨1, rfl, Ans.y (fun q' a b => by omega)⟩
    · rw [if_neg (nI_ge (show q < w by omega) (by omega)), if_pos (jIn_nI (show 400 * k1 + x < 800 by omega) (by decide)), nI_clamp (show 400 * k1 + x < 2 ^ 31 by omega), nI_clamp (show 400 * k2 + y < 2 ^ 31 by omega), w5, v5, ix60, ix60, nI_add, nI_add, ix6, ix6, nI_add, nI_add]
      have j1 : jIn (nI (60 * k1 + nF (ndA (qTr t) x) + q)) 120 = true := jIn_nI (by omega) (by decide)
      have j2 : jIn (nI (60 * k2 + nF (ndA (qTr u) y) + q)) 120 = true := jIn_nI (by omega) (by decide)
      have j3 : jIn (nI (61 * k1 + nF (ndA (qTr t) x) + q)) 122 = true := jIn_nI (by omega) (by decide)
      have j4 : jIn (nI (61 * k2 + nF (ndA (qTr u) y) + q)) 122 = true := jIn_nI (by omega) (by decide)
      rw [if_pos j1, if_pos (jIn_nI (show 400 * k2 + y < 800 by omega) (by decide)), if_pos j2, nI_clamp (show 60 * k1 + nF (ndA (qTr t) x) + q < 2 ^ 31 by omega), nI_clamp (show 60 * k2 + nF (ndA (qTr u) y) + q < 2 ^ 31 by omega), nI_clamp (show 61 * k1 + nF (ndA (qTr t) x) + q < 2 ^ 31 by omega), nI_clamp (show 61 * k2 + nF (ndA (qTr u) y) + q < 2 ^ 31 by omega)]
      have g1 : jgA s 0 (60 * k1 + nF (ndA (qTr t) x) + q) = qAt t (nF (ndA (qTr t) x) + q) := by rw [Nat.add_assoc]; exact h1.1.2.2.2.2 _ (by omega)
      have g2 : jgA s 0 (60 * k2 + nF (ndA (qTr u) y) + q) = qAt u (nF (ndA (qTr u) y) + q) := by rw [Nat.add_assoc]; exact h2.1.2.2.2.2 _ (by omega)
      have g3 : jgA s 2 (61 * k1 + nF (ndA (qTr t) x) + q) = mkM s k1 (nF (ndA (qTr t) x) + q) := by rw [Nat.add_assoc]; rfl
      have g4 : jgA s 2 (61 * k2 + nF (ndA (qTr u) y) + q) = mkM s k2 (nF (ndA (qTr u) y) + q) := by rw [Nat.add_assoc]; rfl
      rw [g1, g2, g3, g4]
      by_cases e1 : qAt t (nF (ndA (qTr t) x) + q) = qAt u (nF (ndA (qTr u) y) + q)
      · rw [if_pos e1, if_pos (jIn_nI (show 400 * k1 + x < 800 by omega) (by decide)), if_pos j3, if_pos (jIn_nI (show 400 * k2 + y < 800 by omega) (by decide)), if_pos j4]
        by_cases e2 : mkM s k1 (nF (ndA (qTr t) x) + q) = mkM s k2 (nF (ndA (qTr u) y) + q)
        · rw [if_pos e2, nI_1]
          obtain ⟨r, e, a⟩ := ih (q + 1) (by omega) (by omega)
          refine ⟨r, e, a.of ⟨fun z q' c1 c2 => ?_, fun z q' c1 c2 => z q' (by omega) c2⟩⟩
          by_cases hqq : q' = q
          · rw [hqq]; exact ⟨e1, e2⟩
          · exact z q' (by omega) c2
        · rw [if_neg e2]
          exact ⟨0, rfl, Ans.n (fun z => e2 (z q (Nat.le_refl _) (by omega)).2)⟩
      · rw [if_neg e1]
        exact ⟨0, rfl, Ans.n (fun z => e1 (z q (Nat.le_refl _) (by omega)).1)⟩
theorem nM_3 {f : Nat → Int32} (hf : TrF f t) {x : Nat} (hx : x < (qTr t).length) : nM (ndA (qTr t) x) ≤ 3 := by
  obtain ⟨⟨n1, n2, n3, n4, _⟩, _⟩ := hf.2.2.2.2.1 x hx
  rcases n4 with n4 | n4
  · rcases n4.2.2.2.2.2.2 with q | q
    · omega
    · have := q.1; omega
  · omega
theorem mM_sl (h1 : SlM s k1 t) (h2 : SlM s k2 u) (hN : 1000 ≤ N) {x y : Nat} (hx : x < (qTr t).length) (hy : y < (qTr u).length) : ∃ r, fM_sameLeaf N (nI k1) (nI (400 * k1 + x)) (nI k2) (nI (400 * k2 + y)) s = some (r, s) ∧ Ans r (SmL (mkM s k1) (mkM s k2) t u (ndA (qTr t) x) (ndA (qTr u) y)) := by
  have hk1 := h1.1.1
  have hk2 := h2.1.1
  have hf := h1.tf
  have hg := h2.tf
  have l1 := hf.2.1
  have l2 := hg.2.1
  have t1 := (hf.2.2.2.2.1 x hx).2
  have t2 := (hg.2.2.2.2.1 y hy).2
  have s1 := (hf.2.2.2.2.1 x hx).1.2.1
  have s2 := (hg.2.2.2.2.1 y hy).1.2.1
  have u1 := hf.1
  have u2 := hg.1
  have m1 := nM_3 hf hx
  have m2 := nM_3 hg hy
  obtain ⟨w4, w5, w6, w7, w8, w9, w10, w11⟩ := h1.2.1.2 x hx
  obtain ⟨v4, v5, v6, v7, v8, v9, v10, v11⟩ := h2.2.1.2 y hy
  have j1 : jIn (nI (400 * k1 + x)) 800 = true := jIn_nI (by omega) (by decide)
  have j2 : jIn (nI (400 * k2 + y)) 800 = true := jIn_nI (by omega) (by decide)
  unfold fM_sameLeaf SmL
  rw [if_pos j1, if_pos j1, if_pos j1, if_pos j2, nI_clamp (show 400 * k1 + x < 2 ^ 31 by omega), nI_clamp (show 400 * k2 + y < 2 ^ 31 by omega), w8, v8, w5, w6, v5, v6, pk_sub s1, pk_sub s2]
  by_cases e1 : nM (ndA (qTr t) x) = nM (ndA (qTr u) y)
  · rw [if_pos (by rw [e1]), if_pos j2, if_pos j2]
    by_cases e2 : nT (ndA (qTr t) x) - nF (ndA (qTr t) x) = nT (ndA (qTr u) y) - nF (ndA (qTr u) y)
    · rw [if_pos (by rw [e2])]
      obtain ⟨r, e, a⟩ := mM_slL (N := N) h1 h2 hx hy rfl e2 N 0 (by omega) (by omega)
      exact ⟨r, e, a.of ⟨fun z => ⟨e1, e2, fun q hq => z q (Nat.zero_le _) hq⟩, fun z q' _ hq => z.2.2 q' hq⟩⟩
    · rw [if_neg (fun z => e2 ((nI_eq (by omega) (by omega)).mp z))]
      exact ⟨0, rfl, Ans.n (fun z => e2 z.2.1)⟩
  · rw [if_neg (fun z => e1 ((nI_eq (by omega) (by omega)).mp z))]
    exact ⟨0, rfl, Ans.n (fun z => e1 z.1)⟩
theorem mM_alL (h1 : SlM s k1 t) (h2 : SlM s k2 u) (hN : 1000 ≤ N) {x y : Nat} (hx : x < (qTr t).length) (hy : y < (qTr u).length) (hz : nZ (ndA (qTr t) x) = nZ (ndA (qTr u) y)) : ∀ (n q : Nat), nZ (ndA (qTr t) x) < q + n → q ≤ nZ (ndA (qTr t) x) → ∃ r, fM_alike_41 N n (nI k1) (nI k2) (nI (400 * k1 + x)) (nI (400 * k2 + y)) (nI q) s = some (r, s) ∧ Ans r (∀ q', q ≤ q' → q' < nZ (ndA (qTr t) x) → nK (ndA (qTr t) (x + q')) = nK (ndA (qTr u) (y + q')) ∧ nC (ndA (qTr t) (x + q')) = nC (ndA (qTr u) (y + q')) ∧ (nC (ndA (qTr t) (x + q')) = 0 → SmL (mkM s k1) (mkM s k2) t u (ndA (qTr t) (x + q')) (ndA (qTr u) (y + q')))) := by
  have hk1 := h1.1.1
  have hk2 := h2.1.1
  have hf := h1.tf
  have hg := h2.tf
  have l1 := hf.2.1
  have l2 := hg.2.1
  have z1 := (hf.2.2.2.2.1 x hx).1.1
  have z2 := (hg.2.2.2.2.1 y hy).1.1
  have w11 := (h1.2.1.2 x hx).2.2.2.2.2.2.2
  intro n
  induction n with
  | zero => intro q a b; omega
  | succ n ih =>
    intro q a b
    show ∃ r, fM_alike_b41 N (fM_alike_41 N n) _ _ _ _ _ s = _ ∧ _
    unfold fM_alike_b41
    rw [if_pos (jIn_nI (show 400 * k1 + x < 800 by omega) (by decide)), nI_clamp (show 400 * k1 + x < 2 ^ 31 by omega), w11]
    by_cases hq : q = nZ (ndA (qTr t) x)
    · rw [if_pos (nI_le (show nZ (ndA (qTr t) x) ≤ q by omega) (by omega))]
      exact ⟨1, rfl, Ans.y (fun q' a b => by omega)⟩
    · have hxq : x + q < (qTr t).length := by omega
      have hyq : y + q < (qTr u).length := by omega
      have j1 : jIn (nI (400 * k1 + (x + q))) 800 = true := jIn_nI (by omega) (by decide)
      have j2 : jIn (nI (400 * k2 + (y + q))) 800 = true := jIn_nI (by omega) (by decide)
      have a1 := nK_le hf hxq
      have a2 := nK_le hg hyq
      have a3 := nC_lt hf hxq
      have a4 := nC_lt hg hyq
      obtain ⟨w4, w5, w6, w7, w8, w9, w10, _⟩ := h1.2.1.2 (x + q) hxq
      obtain ⟨v4, v5, v6, v7, v8, v9, v10, v11⟩ := h2.2.1.2 (y + q) hyq
      rw [if_neg (nI_ge (show q < nZ (ndA (qTr t) x) by omega) (by omega)), nI_add, nI_add, Nat.add_assoc, Nat.add_assoc, if_pos j1, if_pos j2, nI_clamp (show 400 * k1 + (x + q) < 2 ^ 31 by omega), nI_clamp (show 400 * k2 + (y + q) < 2 ^ 31 by omega), w4, v4, w9, v9, nI_1]
      have next : ∀ (P : Prop), (nK (ndA (qTr t) (x + q)) = nK (ndA (qTr u) (y + q)) ∧ nC (ndA (qTr t) (x + q)) = nC (ndA (qTr u) (y + q)) ∧ (nC (ndA (qTr t) (x + q)) = 0 → SmL (mkM s k1) (mkM s k2) t u (ndA (qTr t) (x + q)) (ndA (qTr u) (y + q)))) → ∃ r, fM_alike_41 N n (nI k1) (nI k2) (nI (400 * k1 + x)) (nI (400 * k2 + y)) (nI (q + 1)) s = some (r, s) ∧ Ans r (∀ q', q ≤ q' → q' < nZ (ndA (qTr t) x) → nK (ndA (qTr t) (x + q')) = nK (ndA (qTr u) (y + q')) ∧ nC (ndA (qTr t) (x + q')) = nC (ndA (qTr u) (y + q')) ∧ (nC (ndA (qTr t) (x + q')) = 0 → SmL (mkM s k1) (mkM s k2) t u (ndA (qTr t) (x + q')) (ndA (qTr u) (y + q')))) := by
        intro _ hh
        obtain ⟨r, e, a⟩ := ih (q + 1) (by omega) (by omega)
        refine ⟨r, e, a.of ⟨fun z q' c1 c2 => ?_, fun z q' c1 c2 => z q' (by omega) c2⟩⟩
        by_cases hqq : q' = q
        · rw [hqq]; exact hh
        · exact z q' (by omega) c2
      by_cases e1 : nK (ndA (qTr t) (x + q)) = nK (ndA (qTr u) (y + q))
      · rw [if_pos (by rw [e1]), if_pos j1, if_pos j2]
        by_cases e2 : nC (ndA (qTr t) (x + q)) = nC (ndA (qTr u) (y + q))
        · rw [if_pos (by rw [e2]), if_pos j1]
          by_cases e3 : nC (ndA (qTr t) (x + q)) = 0
          · rw [if_pos (by rw [e3]; rfl)]
            obtain ⟨r1, d1, d2⟩ := mM_sl (N := N) h1 h2 hN hxq hyq
            rw [d1, jB_s]
            rcases d2 with ⟨rfl, d2⟩ | ⟨rfl, d2⟩
            · rw [if_neg (by decide)]
              exact next True ⟨e1, e2, fun _ => d2⟩
            · rw [if_pos rfl]
              exact ⟨0, rfl, Ans.n (fun z => d2 ((z q (Nat.le_refl _) (by omega)).2.2 e3))⟩
          · rw [if_neg (nI_ne0 (by omega) (by omega))]
            exact next True ⟨e1, e2, fun z => absurd z e3⟩
        · rw [if_neg (fun z => e2 ((nI_eq (by omega) (by omega)).mp z))]
          exact ⟨0, rfl, Ans.n (fun z => e2 (z q (Nat.le_refl _) (by omega)).2.1)⟩
      · rw [if_neg (fun z => e1 ((nI_eq (by omega) (by omega)).mp z))]
        exact ⟨0, rfl, Ans.n (fun z => e1 (z q (Nat.le_refl _) (by omega)).1)⟩
theorem mM_al (h1 : SlM s k1 t) (h2 : SlM s k2 u) (hN : 1000 ≤ N) {x y : Nat} (hx : x < (qTr t).length) (hy : y < (qTr u).length) : ∃ r, fM_alike N (nI k1) (nI x) (nI k2) (nI y) s = some (r, s) ∧ Ans r (AlP (mkM s k1) (mkM s k2) t u x y) := by
  have hk1 := h1.1.1
  have hk2 := h2.1.1
  have hf := h1.tf
  have hg := h2.tf
  have l1 := hf.2.1
  have l2 := hg.2.1
  have z1 := (hf.2.2.2.2.1 x hx).1.1
  have z2 := (hg.2.2.2.2.1 y hy).1.1
  unfold fM_alike AlP
  rw [ix4, ix4, if_pos (jIn_nI (show 400 * k1 + x < 800 by omega) (by decide)), if_pos (jIn_nI (show 400 * k2 + y < 800 by omega) (by decide)), nI_clamp (show 400 * k1 + x < 2 ^ 31 by omega), nI_clamp (show 400 * k2 + y < 2 ^ 31 by omega), (h1.2.1.2 x hx).2.2.2.2.2.2.2, (h2.2.1.2 y hy).2.2.2.2.2.2.2]
  by_cases hz : nZ (ndA (qTr t) x) = nZ (ndA (qTr u) y)
  · rw [if_pos (by rw [hz])]
    obtain ⟨r, e, a⟩ := mM_alL (N := N) h1 h2 hN hx hy hz N 0 (by omega) (by omega)
    exact ⟨r, e, a.of ⟨fun z => ⟨hz, fun q hq => z q (Nat.zero_le _) hq⟩, fun z q' _ hq => z.2 q' hq⟩⟩
  · rw [if_neg (fun z => hz ((nI_eq (by omega) (by omega)).mp z))]
    exact ⟨0, rfl, Ans.n (fun z => hz z.1)⟩
end ME
