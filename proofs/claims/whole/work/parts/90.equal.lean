/-! class and reference answer alike: equal nodes, different nodes -/
theorem Ans.eq {r r' : Int32} {P Q : Prop} (h : Ans r P) (h' : Ans r' Q) (e : P ↔ Q) : r = r' := by
  rcases h with ⟨a, b⟩ | ⟨a, b⟩
  · rcases h' with ⟨a', b'⟩ | ⟨a', b'⟩
    · rw [a, a']
    · exact absurd (e.mp b) b'
  · rcases h' with ⟨a', b'⟩ | ⟨a', b'⟩
    · exact absurd (e.mpr b') b
    · rw [a, a']
theorem al_iff {f g : Nat → Int32} {t u : List Int32} {i j : Nat} (hf : TrF f t) (hg : TrF g u) (hi : i < (qTr t).length) (hj : j < (qTr u).length) : MaP t u i j ↔ AlP f g t u i j := ⟨al_from hf hg hi hj, al_to hf hg hi hj⟩
section QE
variable {N k : Nat} {o c p zm : jS} {t : List Int32}
theorem q_equal (hN : 1000 ≤ N) (h : RdF c t) (hS : SlM zm k t) (h0 : jgI zm 0 = nI k) (a b : Int32) : ∃ r, fX_equal N a b (o, c, p) = some (r, (o, c, p)) ∧ fM_equal N a b zm = some (r, zm) := by
  unfold fX_equal fM_equal
  dsimp only
  rcases has3 (N := N) h hS h0 a with ⟨e1, e2⟩ | ⟨i, hi, rfl, e1, e2⟩
  · rw [e1, e2, jB_s, jB_s]
    exact ⟨0, rfl, rfl⟩
  · rw [e1, e2, jB_s, jB_s, if_neg (show ¬ (1 : Int32) = 0 by decide), if_neg (show ¬ (1 : Int32) = 0 by decide)]
    rcases has3 (N := N) h hS h0 b with ⟨e3, e4⟩ | ⟨j, hj, rfl, e3, e4⟩
    · rw [e3, e4, jB_s, jB_s]
      exact ⟨0, rfl, rfl⟩
    · rw [e3, e4, jB_s, jB_s, if_neg (show ¬ (1 : Int32) = 0 by decide), if_neg (show ¬ (1 : Int32) = 0 by decide), h0]
      obtain ⟨r1, d1, a1⟩ := ma_one (N := N) h h hS.tf hS.tf hN hi hj
      obtain ⟨r2, d2, a2⟩ := mM_al (N := N) hS hS hN hi hj
      have : r1 = r2 := a1.eq a2 (al_iff hS.tf hS.tf hi hj)
      subst this
      rw [d1, d2, jB_s, jB_s]
      by_cases hr : r1 = 0
      · rw [if_pos hr, if_pos hr]
        exact ⟨0, rfl, rfl⟩
      · rw [if_neg hr, if_neg hr]
        exact ⟨1, rfl, rfl⟩
theorem cT_first (h : RdF c t) {f : Nat → Int32} (hf : TrF f t) (hN : 1000 ≤ N) {x : Nat} (hx : x < (qTr t).length) : ∀ (n j : Nat), x < j + n → j ≤ x → ∃ r, fT_isFirstOfItsLike_2 N n (nI x) (nI j) c = some (r, c) ∧ Ans r (∀ j', j ≤ j' → j' < x → ¬ MaP t t x j') := by
  have hl := hf.2.1
  intro n
  induction n with
  | zero => intro j a b; omega
  | succ n ih =>
    intro j a b
    show ∃ r, fT_isFirstOfItsLike_b2 N (fT_isFirstOfItsLike_2 N n) _ _ c = _ ∧ _
    unfold fT_isFirstOfItsLike_b2
    by_cases hq : j = x
    · subst hq
      rw [if_pos (Int32.le_refl _)]
      exact ⟨1, rfl, Ans.y (fun j' a b => by omega)⟩
    · rw [if_neg (nI_ge (show j < x by omega) (by omega))]
      obtain ⟨r1, d1, a1⟩ := ma_one (N := N) h h hf hf hN hx (show j < (qTr t).length by omega)
      rw [d1, jB_s]
      rcases a1 with ⟨rfl, a1⟩ | ⟨rfl, a1⟩
      · rw [if_neg (by decide)]
        exact ⟨0, rfl, Ans.n (fun z => z j (Nat.le_refl _) (by omega) a1)⟩
      · rw [if_pos rfl, nI_1]
        obtain ⟨r, e, w⟩ := ih (j + 1) (by omega) (by omega)
        refine ⟨r, e, w.of ⟨fun z j' c1 c2 => ?_, fun z j' c1 c2 => z j' (by omega) c2⟩⟩
        by_cases hqq : j' = j
        · rw [hqq]; exact a1
        · exact z j' (by omega) c2
theorem mM_first (hS : SlM zm k t) (h0 : jgI zm 0 = nI k) (hN : 1000 ≤ N) {k4 : Int32 → Int32 → jS → Option (Int32 × jS)} {a0 : Int32} {x : Nat} (hx : x < (qTr t).length) : ∀ (n j : Nat), x + 1 < j + n → j ≤ x → ∃ r, fM_different_22 N k4 n a0 (nI x) 1 (nI j) zm = fM_different_62 N k4 a0 (nI x) r zm ∧ Ans r (∀ j', j ≤ j' → j' < x → ¬ AlP (mkM zm k) (mkM zm k) t t x j') := by
  have hl := hS.tf.2.1
  intro n
  induction n with
  | zero => intro j a b; omega
  | succ n ih =>
    intro j a b
    show ∃ r, fM_different_b22 N k4 (fM_different_22 N k4 n) a0 (nI x) 1 (nI j) zm = _ ∧ _
    unfold fM_different_b22
    by_cases hq : j = x
    · subst hq
      rw [if_pos (Int32.le_refl _)]
      exact ⟨1, rfl, Ans.y (fun j' a b => by omega)⟩
    · rw [if_neg (nI_ge (show j < x by omega) (by omega)), if_neg (by decide), h0]
      obtain ⟨r1, d1, a1⟩ := mM_al (N := N) hS hS hN hx (show j < (qTr t).length by omega)
      rw [d1, jB_s]
      rcases a1 with ⟨rfl, a1⟩ | ⟨rfl, a1⟩
      · rw [if_neg (show ¬ (1 : Int32) = 0 by decide)]
        refine ⟨0, ?_, Ans.n (fun z => z j (Nat.le_refl _) (by omega) a1)⟩
        obtain ⟨n, rfl⟩ : ∃ n', n = n' + 1 := ⟨n - 1, by omega⟩
        show fM_different_b22 N k4 (fM_different_22 N k4 n) a0 (nI x) 0 _ zm = _
        unfold fM_different_b22
        rw [if_pos rfl, ite_self]
      · rw [if_pos rfl, nI_1]
        obtain ⟨r, e, w⟩ := ih (j + 1) (by omega) (by omega)
        refine ⟨r, e, w.of ⟨fun z j' c1 c2 => ?_, fun z j' c1 c2 => z j' (by omega) c2⟩⟩
        by_cases hqq : j' = j
        · rw [hqq]; exact a1
        · exact z j' (by omega) c2
theorem q_diffL (hN : 1000 ≤ N) (h : RdF c t) (hS : SlM zm k t) (h0 : jgI zm 0 = nI k) : ∀ (n m x : Nat) (a : Int32), (qTr t).length = x + m → m < n → ∃ r, fT_differentCount_4 N n a (nI x) c = some (r, c) ∧ fM_different_4 N n a (nI x) zm = some (r, zm) := by
  have hl := hS.tf.2.1
  have hk := hS.1.1
  intro n
  induction n with
  | zero => intro m x a h1 h2; omega
  | succ n ih =>
    intro m x a hm hn
    show ∃ r, fT_differentCount_b4 N (fT_differentCount_4 N n) a (nI x) c = _ ∧ fM_different_b4 N (fM_different_4 N n) a (nI x) zm = _
    unfold fT_differentCount_b4 fM_different_b4
    rw [h.2.1.1, h0, if_pos (jIn_nI hk (by decide)), nI_clamp (show k < 2 ^ 31 by omega), hS.2.1.1]
    cases m with
    | zero =>
      rw [if_pos (nI_le (show (qTr t).length ≤ x by omega) (by omega)), if_pos (nI_le (show (qTr t).length ≤ x by omega) (by omega))]
      exact ⟨a, rfl, rfl⟩
    | succ m =>
      have hx : x < (qTr t).length := by omega
      rw [if_neg (nI_ge hx (by omega)), if_neg (nI_ge hx (by omega))]
      obtain ⟨r1, d1, a1⟩ := cT_first (N := N) h hS.tf hN hx N 0 (by omega) (by omega)
      have d1 : fT_isFirstOfItsLike N (nI x) c = some (r1, c) := d1
      obtain ⟨r2, d2, a2⟩ := mM_first (N := N) (k4 := fM_different_4 N n) (a0 := a) hS h0 hN hx N 0 (by omega) (by omega)
      have d2 : fM_different_22 N (fM_different_4 N n) N a (nI x) (1 : Int32) (0 : Int32) zm = _ := d2
      have : r1 = r2 := a1.eq a2 ⟨fun z j' c1 c2 w => z j' c1 c2 ((al_iff hS.tf hS.tf hx (by omega)).mpr w), fun z j' c1 c2 w => z j' c1 c2 ((al_iff hS.tf hS.tf hx (by omega)).mp w)⟩
      subst this
      rw [d1, jB_s, d2]
      unfold fM_different_62
      rw [nI_1]
      by_cases hr : r1 = 0
      · rw [if_pos hr, if_pos hr]
        exact ih m (x + 1) a (by omega) (by omega)
      · rw [if_neg hr, if_neg hr]
        exact ih m (x + 1) (a + 1) (by omega) (by omega)
theorem q_diff (hN : 1000 ≤ N) (h : RdF c t) (hS : SlM zm k t) (h0 : jgI zm 0 = nI k) : ∃ r, fT_differentCount N c = some (r, c) ∧ fM_different N zm = some (r, zm) := q_diffL hN h hS h0 N (qTr t).length 0 0 (by omega) (by have := hS.tf.2.1; omega)
end QE
