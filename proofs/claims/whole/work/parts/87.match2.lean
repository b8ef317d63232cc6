/-! the class compares two nodes: two -/
section MA2
variable {N : Nat} {o c p : jS} {t u : List Int32} {f g : Nat → Int32}
theorem sn_two (hA : RdF c t) (hB : RdF p u) (hf : TrF f t) (hg : TrF g u) {x y : Nat} (hx : x < (qTr t).length) (hy : y < (qTr u).length) : ∃ r, fT_sameNode_cT_pT N (nI x) (nI y) (o, c, p) = some (r, (o, c, p)) ∧ Ans r (SnP t u x y) := by
  have hl1 := hf.2.1
  have hl2 := hg.2.1
  have k1 := nK_le hf hx
  have k2 := nK_le hg hy
  have z1 := (hf.2.2.2.2.1 x hx).1.1
  have z2 := (hg.2.2.2.2.1 y hy).1.1
  have t1 := (hf.2.2.2.2.1 x hx).2
  have t2 := (hg.2.2.2.2.1 y hy).2
  have u1 := hf.1
  have u2 := hg.1
  have m1 := fB_max (qTr t) (x + nZ (ndA (qTr t) x))
  have m2 := fB_max (qTr u) (y + nZ (ndA (qTr u) y))
  have b1 := hf.2.2.1
  have b2 := hg.2.2.1
  unfold fT_sameNode_cT_pT SnP
  try dsimp only
  rw [if_pos (jIn_nI (show x < 363 by omega) (by decide)), if_pos (jIn_nI (show y < 363 by omega) (by decide)), nI_clamp (show x < 2 ^ 31 by omega), nI_clamp (show y < 2 ^ 31 by omega), (hA.2.1.2.2.1 x hx).1, (hB.2.1.2.2.1 y hy).1]
  by_cases e1 : nK (ndA (qTr t) x) = nK (ndA (qTr u) y)
  · rw [if_pos (by rw [e1]), if_pos (jIn_nI (show x < 363 by omega) (by decide)), if_pos (jIn_nI (show y < 363 by omega) (by decide)), (hA.2.1.2.2.1 x hx).2.1, (hB.2.1.2.2.1 y hy).2.1]
    by_cases e2 : nZ (ndA (qTr t) x) = nZ (ndA (qTr u) y)
    · rw [if_pos (by rw [e2]), cT_str hA hf hx, jB_s, cT_str hB hg hy, jB_s]
      by_cases e3 : nT (ndA (qTr t) x) - nF (ndA (qTr t) x) = nT (ndA (qTr u) y) - nF (ndA (qTr u) y)
      · rw [if_pos (by rw [e3]), cT_flt hA hf hx, jB_s, cT_flt hB hg hy, jB_s]
        by_cases e4 : fC (qTr t) x = fC (qTr u) y
        · unfold fC at e4 ⊢
          rw [if_pos (by rw [e4])]
          exact ⟨1, rfl, Ans.y ⟨e1, e2, e3, e4⟩⟩
        · unfold fC at e4 ⊢
          rw [if_neg (fun z => e4 ((nI_eq (by omega) (by omega)).mp z))]
          exact ⟨0, rfl, Ans.n (fun z => e4 z.2.2.2)⟩
      · rw [if_neg (fun z => e3 ((nI_eq (by omega) (by omega)).mp z))]
        exact ⟨0, rfl, Ans.n (fun z => e3 z.2.2.1)⟩
    · rw [if_neg (fun z => e2 ((nI_eq (by omega) (by omega)).mp z))]
      exact ⟨0, rfl, Ans.n (fun z => e2 z.2.1)⟩
  · rw [if_neg (fun z => e1 ((nI_eq (by omega) (by omega)).mp z))]
    exact ⟨0, rfl, Ans.n (fun z => e1 z.1)⟩
theorem le_two (hA : RdF c t) (hB : RdF p u) (hf : TrF f t) (hg : TrF g u) {x y w : Nat} (hx : x < (qTr t).length) (hy : y < (qTr u).length) (hw : w ≤ 60) : ∀ (n q : Nat), w < q + n → q ≤ w → ∃ r, fT_sameLetters_cT_pT_10 N n (nI x) (nI y) (nI w) (nI q) (o, c, p) = some (r, (o, c, p)) ∧ Ans r (∀ q', q ≤ q' → q' < w → qAt t (nF (ndA (qTr t) x) + q') = qAt u (nF (ndA (qTr u) y) + q')) := by
  have hl1 := hf.2.1
  have hl2 := hg.2.1
  have t1 := (hf.2.2.2.2.1 x hx).2
  have t2 := (hg.2.2.2.2.1 y hy).2
  have s1 := (hf.2.2.2.2.1 x hx).1.2.1
  have s2 := (hg.2.2.2.2.1 y hy).1.2.1
  have u1 := hf.1
  have u2 := hg.1
  intro n
  induction n with
  | zero => intro q h1 h2; omega
  | succ n ih =>
    intro q h1 h2
    show ∃ r, fT_sameLetters_cT_pT_b10 N (fT_sameLetters_cT_pT_10 N n) _ _ _ _ (o, c, p) = _ ∧ _
    unfold fT_sameLetters_cT_pT_b10
    try dsimp only
    by_cases hq : q = w
    · subst hq
      rw [if_pos (Int32.le_refl _)]
      exact ⟨1, rfl, Ans.y (fun q' a b => by omega)⟩
    · rw [if_neg (nI_ge (show q < w by omega) (by omega)), if_pos (jIn_nI (show x < 363 by omega) (by decide)), nI_clamp (show x < 2 ^ 31 by omega), (hA.2.1.2.2.1 x hx).2.2.1, nI_add, pL_at hA.1 (by omega), jB_s, if_pos (jIn_nI (show y < 363 by omega) (by decide)), nI_clamp (show y < 2 ^ 31 by omega), (hB.2.1.2.2.1 y hy).2.2.1, nI_add, pL_at hB.1 (by omega), jB_s]
      by_cases he : qAt t (nF (ndA (qTr t) x) + q) = qAt u (nF (ndA (qTr u) y) + q)
      · rw [if_pos he, nI_1]
        obtain ⟨r, e, a⟩ := ih (q + 1) (by omega) (by omega)
        refine ⟨r, e, a.of ⟨fun z q' c1 c2 => ?_, fun z q' c1 c2 => z q' (by omega) c2⟩⟩
        by_cases hqq : q' = q
        · rw [hqq]; exact he
        · exact z q' (by omega) c2
      · rw [if_neg he]
        exact ⟨0, rfl, Ans.n (fun z => he (z q (Nat.le_refl _) (by omega)))⟩
theorem fa_two (hA : RdF c t) (hB : RdF p u) (hf : TrF f t) (hg : TrF g u) {x y : Nat} (hx : x < (qTr t).length) (hy : y < (qTr u).length) (hc : fC (qTr t) x = fC (qTr u) y) : ∀ (n q : Nat), fC (qTr t) x < q + n → q ≤ fC (qTr t) x → ∃ r, fT_sameFaults_cT_pT_27 N n (nI x) (nI y) (nI (fC (qTr t) x)) ((4 : Int32) * (nI (nF (ndA (qTr t) x)) - nI (nF (ndA (qTr u) y)))) (nI q) (o, c, p) = some (r, (o, c, p)) ∧ Ans r (∀ q', q ≤ q' → q' < fC (qTr t) x → (fls (qTr t)).getD (fB (qTr t) x + q') 0 + 4 * nF (ndA (qTr u) y) = (fls (qTr u)).getD (fB (qTr u) y + q') 0 + 4 * nF (ndA (qTr t) x)) := by
  have hl1 := hf.2.1
  have hl2 := hg.2.1
  have t1 := (hf.2.2.2.2.1 x hx).2
  have t2 := (hg.2.2.2.2.1 y hy).2
  have s1 := (hf.2.2.2.2.1 x hx).1.2.1
  have s2 := (hg.2.2.2.2.1 y hy).1.2.1
  have z1 := (hf.2.2.2.2.1 x hx).1.1
  have z2 := (hg.2.2.2.2.1 y hy).1.1
  have u1 := hf.1
  have u2 := hg.1
  have m1 := fB_max (qTr t) (x + nZ (ndA (qTr t) x))
  have m2 := fB_max (qTr u) (y + nZ (ndA (qTr u) y))
  have v1 := fB_le (qTr t) (show x ≤ x + nZ (ndA (qTr t) x) by omega)
  have v2 := fB_le (qTr u) (show y ≤ y + nZ (ndA (qTr u) y) by omega)
  have b1 := hf.2.2.1
  have b2 := hg.2.2.1
  have c1 : fC (qTr t) x = fB (qTr t) (x + nZ (ndA (qTr t) x)) - fB (qTr t) x := rfl
  have c2 : fC (qTr u) y = fB (qTr u) (y + nZ (ndA (qTr u) y)) - fB (qTr u) y := rfl
  intro n
  induction n with
  | zero => intro q h1 h2; omega
  | succ n ih =>
    intro q h1 h2
    show ∃ r, fT_sameFaults_cT_pT_b27 N (fT_sameFaults_cT_pT_27 N n) _ _ _ _ _ (o, c, p) = _ ∧ _
    unfold fT_sameFaults_cT_pT_b27
    try dsimp only
    by_cases hq : q = fC (qTr t) x
    · rw [if_pos (nI_le (show fC (qTr t) x ≤ q by omega) (by omega))]
      exact ⟨1, rfl, Ans.y (fun q' a b => by omega)⟩
    · have l1 := fls_lt hf _ (fB (qTr t) x + q) z1 (by omega)
      have l2 := fls_lt hg _ (fB (qTr u) y + q) z2 (by omega)
      rw [if_neg (nI_ge (show q < fC (qTr t) x by omega) (by omega)), if_pos (jIn_nI (show x < 363 by omega) (by decide)), nI_clamp (show x < 2 ^ 31 by omega), (hA.2.1.2.2.1 x hx).2.2.2.2, nI_add, if_pos (jIn_nI (show fB (qTr t) x + q < 180 by omega) (by decide)), if_pos (jIn_nI (show y < 363 by omega) (by decide)), nI_clamp (show y < 2 ^ 31 by omega), (hB.2.1.2.2.1 y hy).2.2.2.2, nI_add, if_pos (jIn_nI (show fB (qTr u) y + q < 180 by omega) (by decide)), nI_clamp (show fB (qTr t) x + q < 2 ^ 31 by omega), nI_clamp (show fB (qTr u) y + q < 2 ^ 31 by omega), hA.2.1.2.2.2 _ (show fB (qTr t) x + q < (fls (qTr t)).length by omega), hB.2.1.2.2.2 _ (show fB (qTr u) y + q < (fls (qTr u)).length by omega)]
      by_cases he : (fls (qTr t)).getD (fB (qTr t) x + q) 0 + 4 * nF (ndA (qTr u) y) = (fls (qTr u)).getD (fB (qTr u) y + q) 0 + 4 * nF (ndA (qTr t) x)
      · rw [if_pos ((nI_sub4 (by omega) (by omega) (by omega) (by omega)).mpr he), nI_1]
        obtain ⟨r, e, a⟩ := ih (q + 1) (by omega) (by omega)
        refine ⟨r, e, a.of ⟨fun z q' d1 d2 => ?_, fun z q' d1 d2 => z q' (by omega) d2⟩⟩
        by_cases hqq : q' = q
        · rw [hqq]; exact he
        · exact z q' (by omega) d2
      · rw [if_neg (fun z => he ((nI_sub4 (by omega) (by omega) (by omega) (by omega)).mp z))]
        exact ⟨0, rfl, Ans.n (fun z => he (z q (Nat.le_refl _) (by omega)))⟩
theorem ma_two (hA : RdF c t) (hB : RdF p u) (hf : TrF f t) (hg : TrF g u) (hN : 1000 ≤ N) {x y : Nat} (hx : x < (qTr t).length) (hy : y < (qTr u).length) : ∃ r, fT_matches_cT_pT N (nI x) (nI y) (o, c, p) = some (r, (o, c, p)) ∧ Ans r (MaP t u x y) := by
  have hl1 := hf.2.1
  have hl2 := hg.2.1
  have z1 := (hf.2.2.2.2.1 x hx).1.1
  have z2 := (hg.2.2.2.2.1 y hy).1.1
  have o1 := nZ_1 hf hx
  have s1 := (hf.2.2.2.2.1 x hx).1.2.1
  have t1 := (hf.2.2.2.2.1 x hx).2
  have u1 := hf.1
  have b1 := hf.2.2.1
  have m1 := fB_max (qTr t) (x + nZ (ndA (qTr t) x))
  have c1 : fC (qTr t) x = fB (qTr t) (x + nZ (ndA (qTr t) x)) - fB (qTr t) x := rfl
  unfold fT_matches_cT_pT
  try dsimp only
  obtain ⟨r0, e0, a0⟩ := sn_two (N := N) (o := o) hA hB hf hg hx hy
  rw [e0, jB_s]
  rcases a0 with ⟨rfl, hs0⟩ | ⟨rfl, hs0⟩
  · rw [if_neg (by decide)]
    have hzz := hs0.2.1
    have loop : ∀ (n q : Nat), nZ (ndA (qTr t) x) < q + n → q ≤ nZ (ndA (qTr t) x) → ∃ r, fT_matches_cT_pT_15 N n (nI x) (nI y) (nI q) (o, c, p) = some (r, (o, c, p)) ∧ Ans r ((∀ q', q ≤ q' → q' < nZ (ndA (qTr t) x) → SnP t u (x + q') (y + q')) ∧ (∀ q', q' < nT (ndA (qTr t) x) - nF (ndA (qTr t) x) → qAt t (nF (ndA (qTr t) x) + q') = qAt u (nF (ndA (qTr u) y) + q')) ∧ ∀ q', q' < fC (qTr t) x → (fls (qTr t)).getD (fB (qTr t) x + q') 0 + 4 * nF (ndA (qTr u) y) = (fls (qTr u)).getD (fB (qTr u) y + q') 0 + 4 * nF (ndA (qTr t) x)) := by
      intro n
      induction n with
      | zero => intro q h1 h2; omega
      | succ n ih =>
        intro q h1 h2
        show ∃ r, fT_matches_cT_pT_b15 N (fT_matches_cT_pT_15 N n) _ _ _ (o, c, p) = _ ∧ _
        unfold fT_matches_cT_pT_b15
        try dsimp only
        rw [if_pos (jIn_nI (show x < 363 by omega) (by decide)), nI_clamp (show x < 2 ^ 31 by omega), (hA.2.1.2.2.1 x hx).2.1]
        by_cases hq : q = nZ (ndA (qTr t) x)
        · rw [if_pos (nI_le (show nZ (ndA (qTr t) x) ≤ q by omega) (by omega))]
          unfold fT_sameLetters_cT_pT
          try dsimp only
          rw [cT_str hA hf hx, jB_s]
          obtain ⟨r1, e1, a1⟩ := le_two (N := N) (o := o) hA hB hf hg hx hy (w := nT (ndA (qTr t) x) - nF (ndA (qTr t) x)) (by omega) N 0 (by omega) (by omega)
          have e1 : fT_sameLetters_cT_pT_10 N N (nI x) (nI y) (nI (nT (ndA (qTr t) x) - nF (ndA (qTr t) x))) (0 : Int32) (o, c, p) = some (r1, (o, c, p)) := e1
          rw [e1, jB_s]
          rcases a1 with ⟨rfl, a1⟩ | ⟨rfl, a1⟩
          · rw [if_neg (by decide)]
            unfold fT_sameFaults_cT_pT
            try dsimp only
            rw [cT_flt hA hf hx, jB_s, if_pos (jIn_nI (show x < 363 by omega) (by decide)), if_pos (jIn_nI (show y < 363 by omega) (by decide)), nI_clamp (show x < 2 ^ 31 by omega), nI_clamp (show y < 2 ^ 31 by omega), (hA.2.1.2.2.1 x hx).2.2.1, (hB.2.1.2.2.1 y hy).2.2.1]
            obtain ⟨r2, e2, a2⟩ := fa_two (N := N) (o := o) hA hB hf hg hx hy hs0.2.2.2 N 0 (by omega) (by omega)
            have e2 : fT_sameFaults_cT_pT_27 N N (nI x) (nI y) (nI (fB (qTr t) (x + nZ (ndA (qTr t) x)) - fB (qTr t) x)) ((4 : Int32) * (nI (nF (ndA (qTr t) x)) - nI (nF (ndA (qTr u) y)))) (0 : Int32) (o, c, p) = some (r2, (o, c, p)) := e2
            rw [e2, jB_s]
            rcases a2 with ⟨rfl, a2⟩ | ⟨rfl, a2⟩
            · rw [if_neg (by decide)]
              exact ⟨1, rfl, Ans.y ⟨fun q' d1 d2 => by omega, fun q' d => a1 q' (Nat.zero_le _) d, fun q' d => a2 q' (Nat.zero_le _) d⟩⟩
            · rw [if_pos rfl]
              exact ⟨0, rfl, Ans.n (fun z => a2 (fun q' _ d => z.2.2 q' d))⟩
          · rw [if_pos rfl]
            exact ⟨0, rfl, Ans.n (fun z => a1 (fun q' _ d => z.2.1 q' d))⟩
        · rw [if_neg (nI_ge (show q < nZ (ndA (qTr t) x) by omega) (by omega)), nI_add, nI_add]
          obtain ⟨r1, e1, a1⟩ := sn_two (N := N) (o := o) hA hB hf hg (x := x + q) (y := y + q) (by omega) (by omega)
          rw [e1, jB_s]
          rcases a1 with ⟨rfl, a1⟩ | ⟨rfl, a1⟩
          · rw [if_neg (by decide), nI_1]
            obtain ⟨r, e, a⟩ := ih (q + 1) (by omega) (by omega)
            refine ⟨r, e, a.of ⟨fun z => ⟨fun q' d1 d2 => ?_, z.2⟩, fun z => ⟨fun q' d1 d2 => z.1 q' (by omega) d2, z.2⟩⟩⟩
            by_cases hqq : q' = q
            · rw [hqq]; exact a1
            · exact z.1 q' (by omega) d2
          · rw [if_pos rfl]
            exact ⟨0, rfl, Ans.n (fun z => a1 (z.1 q (Nat.le_refl _) (by omega)))⟩
    obtain ⟨r, e, a⟩ := loop N 1 (by omega) (by omega)
    have e : fT_matches_cT_pT_15 N N (nI x) (nI y) (1 : Int32) (o, c, p) = some (r, (o, c, p)) := e
    refine ⟨r, e, a.of ⟨fun z => ⟨fun q' d => ?_, z.2⟩, fun z => ⟨fun q' _ d => z.1 q' d, z.2⟩⟩⟩
    by_cases hqq : q' = 0
    · rw [hqq]; exact hs0
    · exact z.1 q' (by omega) d
  · rw [if_pos rfl]
    exact ⟨0, rfl, Ans.n (fun z => hs0 (z.1 0 (by omega)))⟩
end MA2
