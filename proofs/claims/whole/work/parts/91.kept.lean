/-! class and reference answer alike: statements that were kept -/
theorem SlM.ii {s : jS} {k i : Nat} {t : List Int32} {v : Int32} (h : SlM s k t) : SlM (jsI s i v) k t := h
section QK
variable {N k k2 : Nat} {o c p zm : jS} {t u : List Int32}
theorem q_keptL (hN : 1000 ≤ N) (h : RdF c t) (hp : RdF p u) (hS : SlM zm k t) (hS2 : SlM zm k2 u) (hk12 : k2 = 1 - k) {x : Nat} (hx : x < (qTr t).length) (st rm bg : Int32) : ∀ (n m j : Nat), (qTr u).length = j + m → m < n → ∃ r, fX_isKept_26 N n (nI x) st rm bg (nI j) (o, c, p) = some (r, (o, c, p)) ∧ fM_reused_19 N n (nI k2) (nI x) st rm (jgI o 2) bg (nI j) zm = some (r, zm) := by
  have hl := hS2.tf.2.1
  have hk := hS.1.1
  have hk2 := hS2.1.1
  have hsub : (1 : Int32) - nI k2 = nI k := by
    rcases (show k = 0 ∨ k = 1 by omega) with rfl | rfl
    · subst hk12; rfl
    · subst hk12; rfl
  intro n
  induction n with
  | zero => intro m j h1 h2; omega
  | succ n ih =>
    intro m j hm hn
    show ∃ r, fX_isKept_b26 N (fX_isKept_26 N n) _ _ _ _ _ (o, c, p) = _ ∧ fM_reused_b19 N (fM_reused_19 N n) _ _ _ _ _ _ _ zm = _
    unfold fX_isKept_b26 fM_reused_b19
    dsimp only
    rw [hp.2.1.1, if_pos (jIn_nI hk2 (by decide)), nI_clamp (show k2 < 2 ^ 31 by omega), hS2.2.1.1]
    cases m with
    | zero =>
      rw [if_pos (nI_le (show (qTr u).length ≤ j by omega) (by omega)), if_pos (nI_le (show (qTr u).length ≤ j by omega) (by omega))]
      exact ⟨0, rfl, rfl⟩
    | succ m =>
      have hj : j < (qTr u).length := by omega
      have hw := hS2.2.1.2 j hj
      have hT := (hS2.tf.2.2.2.2.1 j hj).1.2.1
      rw [if_neg (nI_ge hj (by omega)), if_neg (nI_ge hj (by omega)), ix4, if_pos (jIn_nI (show j < 363 by omega) (by decide)), if_pos (jIn_nI (show 400 * k2 + j < 800 by omega) (by decide)), nI_clamp (show j < 2 ^ 31 by omega), nI_clamp (show 400 * k2 + j < 2 ^ 31 by omega), (hp.2.1.2.2.1 j hj).2.2.1, hw.2.1, hw.2.2.1]
      obtain ⟨r1, d1, a1⟩ := ma_two (N := N) (o := o) h hp hS.tf hS2.tf hN hx hj
      obtain ⟨r2, d2, a2⟩ := mM_al (N := N) hS hS2 hN hx hj
      have hrr : r1 = r2 := a1.eq a2 (al_iff hS.tf hS2.tf hx hj)
      subst hrr
      have hnext : ∃ r, fX_isKept_26 N n (nI x) st rm bg (nI j + 1) (o, c, p) = some (r, (o, c, p)) ∧ fM_reused_19 N n (nI k2) (nI x) st rm (jgI o 2) bg (nI j + 1) zm = some (r, zm) := by
        rw [nI_1]
        exact ih m (j + 1) (by omega) (by omega)
      have hcmp : ∃ r, fX_isKept_116 N (fX_isKept_26 N n) (nI x) st rm bg (nI j) (o, c, p) = some (r, (o, c, p)) ∧ fM_reused_115 N (fM_reused_19 N n) (nI k2) (nI x) st rm (jgI o 2) bg (nI j) zm = some (r, zm) := by
        unfold fX_isKept_116 fM_reused_115
        rw [d1, hsub, d2, jB_s, jB_s]
        by_cases hr : r1 = 0
        · rw [if_pos hr, if_pos hr]
          exact hnext
        · rw [if_neg hr, if_neg hr]
          exact ⟨1, rfl, rfl⟩
      have h72 : ∀ y : Int32, (y = 0 ∨ y = 1) → ∃ r, fX_isKept_72 N (fX_isKept_26 N n) (nI x) st rm bg (nI j) (nI (nF (ndA (qTr u) j))) y (o, c, p) = some (r, (o, c, p)) ∧ fM_reused_74 N (fM_reused_19 N n) (nI k2) (nI x) st rm (jgI o 2) bg (nI j) (nI (nF (ndA (qTr u) j))) y zm = some (r, zm) := by
        intro y hy
        unfold fX_isKept_72 fM_reused_74 fX_isKept_103 fM_reused_102 fX_isKept_104 fM_reused_103
        dsimp only
        have hz : ∃ r, (if y = 0 then (if (0 : Int32) = 0 then fX_isKept_26 N n (nI x) st rm bg (nI j + (1 : Int32)) (o, c, p) else fX_isKept_116 N (fX_isKept_26 N n) (nI x) st rm bg (nI j) (o, c, p)) else fX_isKept_116 N (fX_isKept_26 N n) (nI x) st rm bg (nI j) (o, c, p)) = some (r, (o, c, p)) ∧ (if y = 0 then (if (0 : Int32) = 0 then fM_reused_19 N n (nI k2) (nI x) st rm (jgI o 2) bg (nI j + (1 : Int32)) zm else fM_reused_115 N (fM_reused_19 N n) (nI k2) (nI x) st rm (jgI o 2) bg (nI j) zm) else fM_reused_115 N (fM_reused_19 N n) (nI k2) (nI x) st rm (jgI o 2) bg (nI j) zm) = some (r, zm) := by
          rcases hy with rfl | rfl
          · rw [if_pos rfl, if_pos rfl, if_pos rfl, if_pos rfl]
            exact hnext
          · rw [if_neg (by decide), if_neg (by decide)]
            exact hcmp
        by_cases c1 : nI (nF (ndA (qTr u) j)) < st + rm
        · rw [if_pos c1, if_pos c1]
          exact hz
        · rw [if_neg c1, if_neg c1]
          by_cases c2 : bg = nI (nF (ndA (qTr u) j)) - rm + jgI o 2
          · rw [if_pos c2, if_pos c2]
            rcases hy with rfl | rfl
            · rw [if_pos rfl, if_neg (by decide), if_pos rfl, if_neg (by decide)]
              exact hcmp
            · rw [if_neg (by decide), if_neg (by decide)]
              exact hcmp
          · rw [if_neg c2, if_neg c2]
            exact hz
      unfold fX_isKept_71 fM_reused_73
      by_cases c0 : nI (nF (ndA (qTr u) j)) = bg
      · rw [if_pos c0, if_pos c0, if_pos (jIn_nI (show 400 * k2 + j < 800 by omega) (by decide)), cT_str hp hS2.tf hj, jB_s, nI_add, show nF (ndA (qTr u) j) + (nT (ndA (qTr u) j) - nF (ndA (qTr u) j)) = nT (ndA (qTr u) j) by omega]
        by_cases c3 : st < nI (nT (ndA (qTr u) j))
        · rw [if_pos c3, if_pos c3]
          exact h72 0 (Or.inl rfl)
        · rw [if_neg c3, if_neg c3]
          exact h72 1 (Or.inr rfl)
      · rw [if_neg c0, if_neg c0]
        exact h72 0 (Or.inl rfl)
theorem q_kept (hN : 1000 ≤ N) (h : RdF c t) (hp : RdF p u) (hS : SlM zm k t) (hS2 : SlM zm k2 u) (hk12 : k2 = 1 - k) {x : Nat} (hx : x < (qTr t).length) (st rm : Int32) : ∃ r, fX_isKept N (nI x) st rm (o, c, p) = some (r, (o, c, p)) ∧ fM_reused N (nI k2) (nI x) st rm (jgI o 2) zm = some (r, zm) := by
  have hl := hS2.tf.2.1
  have hl1 := hS.tf.2.1
  have hk := hS.1.1
  have hsub : (1 : Int32) - nI k2 = nI k := by
    rcases (show k = 0 ∨ k = 1 by omega) with rfl | rfl
    · subst hk12; rfl
    · subst hk12; rfl
  unfold fX_isKept fM_reused
  dsimp only
  rw [hsub, ix4, if_pos (jIn_nI (show x < 363 by omega) (by decide)), if_pos (jIn_nI (show 400 * k + x < 800 by omega) (by decide)), nI_clamp (show x < 2 ^ 31 by omega), nI_clamp (show 400 * k + x < 2 ^ 31 by omega), (h.2.1.2.2.1 x hx).2.2.1, (hS.2.1.2 x hx).2.1]
  exact q_keptL hN h hp hS hS2 hk12 hx st rm _ N (qTr u).length 0 (by omega) (by omega)
theorem q_countL (hN : 1000 ≤ N) (h : RdF c t) (hp : RdF p u) (hk12 : k2 = 1 - k) (st rm : Int32) : ∀ (n m x : Nat) (zm : jS), SlM zm k t → SlM zm k2 u → jgI zm 0 = nI k → (qTr t).length = x + m → m < n → ∃ r zm', fX_keptCount_5 N n st rm (jgI zm 3) (nI x) (o, c, p) = some (r, (o, c, p)) ∧ fM_edit_233 N n st rm (jgI o 2) (nI k2) (nI x) zm = some (1, zm') ∧ jgI zm' 3 = r ∧ jSm [3] [] zm zm' := by
  intro n
  induction n with
  | zero => intro m x zm _ _ _ h1 h2; omega
  | succ n ih =>
    intro m x zm hS hS2 h0 hm hn
    have hl := hS.tf.2.1
    have hk := hS.1.1
    show ∃ r zm', fX_keptCount_b5 N (fX_keptCount_5 N n) _ _ _ _ (o, c, p) = _ ∧ fM_edit_b233 N (fM_edit_233 N n) _ _ _ _ _ zm = _ ∧ _
    unfold fX_keptCount_b5 fM_edit_b233
    dsimp only
    rw [h.2.1.1, h0, if_pos (jIn_nI hk (by decide)), nI_clamp (show k < 2 ^ 31 by omega), hS.2.1.1]
    cases m with
    | zero =>
      rw [if_pos (nI_le (show (qTr t).length ≤ x by omega) (by omega)), if_pos (nI_le (show (qTr t).length ≤ x by omega) (by omega))]
      exact ⟨_, zm, rfl, rfl, rfl, jSm.rf⟩
    | succ m =>
      have hx : x < (qTr t).length := by omega
      have hkl := nK_le hS.tf hx
      have hsk : ∃ r zm', fX_keptCount_5 N n st rm (jgI zm 3) (nI x + 1) (o, c, p) = some (r, (o, c, p)) ∧ fM_edit_233 N n st rm (jgI o 2) (nI k2) (nI x + 1) zm = some (1, zm') ∧ jgI zm' 3 = r ∧ jSm [3] [] zm zm' := by
        rw [nI_1]
        exact ih m (x + 1) zm hS hS2 h0 (by omega) (by omega)
      rw [if_neg (nI_ge hx (by omega)), if_neg (nI_ge hx (by omega)), ix4, if_pos (jIn_nI (show 400 * k + x < 800 by omega) (by decide)), nI_clamp (show 400 * k + x < 2 ^ 31 by omega), (hS.2.1.2 x hx).1]
      unfold fT_isStatement
      rw [if_pos (jIn_nI (show x < 363 by omega) (by decide)), nI_clamp (show x < 2 ^ 31 by omega), (h.2.1.2.2.1 x hx).1]
      by_cases c1 : nK (ndA (qTr t) x) < 21
      · rw [if_pos (show nI (nK (ndA (qTr t) x)) < 21 from nI_lt (b := 21) c1 (by decide)), if_pos (show nI (nK (ndA (qTr t) x)) < 21 from nI_lt (b := 21) c1 (by decide)), jB_s, if_pos rfl]
        exact hsk
      · rw [if_neg (show ¬ nI (nK (ndA (qTr t) x)) < 21 from nI_nlt (b := 21) (by omega) (by omega)), if_neg (show ¬ nI (nK (ndA (qTr t) x)) < 21 from nI_nlt (b := 21) (by omega) (by omega)), if_pos (jIn_nI (show x < 363 by omega) (by decide))]
        by_cases c2 : 25 < nK (ndA (qTr t) x)
        · rw [if_pos (show (25 : Int32) < nI (nK (ndA (qTr t) x)) from nI_lt (a := 25) c2 (by omega)), if_pos (show (25 : Int32) < nI (nK (ndA (qTr t) x)) from nI_lt (a := 25) c2 (by omega)), jB_s, if_pos rfl]
          exact hsk
        · rw [if_neg (show ¬ (25 : Int32) < nI (nK (ndA (qTr t) x)) from nI_nlt (a := 25) (by omega) (by decide)), if_neg (show ¬ (25 : Int32) < nI (nK (ndA (qTr t) x)) from nI_nlt (a := 25) (by omega) (by decide)), jB_s, if_neg (show ¬ (1 : Int32) = 0 by decide)]
          obtain ⟨r, d1, d2⟩ := q_kept (N := N) (o := o) hN h hp hS hS2 hk12 hx st rm
          rw [d1, d2, jB_s, jB_s]
          by_cases hr : r = 0
          · rw [if_pos hr, if_pos hr]
            exact hsk
          · rw [if_neg hr, if_neg hr, jL_e, nI_1]
            obtain ⟨r2, zm', w1, w2, w3, w4⟩ := ih m (x + 1) (jsI zm 3 (jgI zm 3 + 1)) hS.ii hS2.ii h0 (by omega) (by omega)
            exact ⟨r2, zm', w1, w2, w3, (jSm.rf.sI (by decide)).tr w4⟩
end QK
