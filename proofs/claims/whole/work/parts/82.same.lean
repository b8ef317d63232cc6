/-! class and reference answer alike: the questions of one tree -/
section SQ
variable {N k : Nat} {o c p zm : jS} {t : List Int32}
theorem has3 (h : RdF c t) (hS : SlM zm k t) (h0 : jgI zm 0 = nI k) (a : Int32) : (fT_has N a c = some (0, c) ∧ fM_there N a zm = some (0, zm)) ∨ ∃ i, i < (qTr t).length ∧ a = nI i ∧ fT_has N a c = some (1, c) ∧ fM_there N a zm = some (1, zm) := by
  have hk := hS.1.1
  have hl := hS.tf.2.1
  unfold fT_has fM_there
  rw [h0, if_pos (jIn_nI hk (by decide)), nI_clamp (show k < 2 ^ 31 by omega), hS.2.1.1, h.2.1.1]
  rcases pk_ix a (n := (qTr t).length) (by omega) with ha | ha | ⟨i, hi, rfl⟩
  · exact Or.inl ⟨if_pos ha, if_pos ha⟩
  · by_cases hn : a < 0
    · exact Or.inl ⟨if_pos hn, if_pos hn⟩
    · rw [if_neg hn, if_neg hn, if_pos ha, if_pos ha]
      exact Or.inl ⟨rfl, rfl⟩
  · refine Or.inr ⟨i, hi, rfl, ?_, ?_⟩
    · rw [if_neg (nI_pos (by omega)), if_neg (nI_ge hi (by omega))]
    · rw [if_neg (nI_pos (by omega)), if_neg (nI_ge hi (by omega))]
theorem mM_nd (hS : SlM zm k t) (hN : 1000 ≤ N) {i : Nat} (hi : i < (qTr t).length) {b : Int32} (hb : ¬ b = 7) : fM_node_27 N N b (nI (400 * k + i)) 0 0 zm = fM_node_63 N b (nI (400 * k + i)) 0 zm := by
  have hk := hS.1.1
  have hl := hS.tf.2.1
  have hz := nZ_1 hS.tf hi
  have hw := (hS.tf.2.2.2.2.1 i hi).1.1
  obtain ⟨n, rfl⟩ : ∃ n, N = n + 1 := ⟨N - 1, by omega⟩
  show fM_node_b27 (n + 1) (fM_node_27 (n + 1) n) _ _ _ _ zm = _
  unfold fM_node_b27
  rw [if_pos (jIn_nI (show 400 * k + i < 800 by omega) (by decide)), nI_clamp (show 400 * k + i < 2 ^ 31 by omega), (hS.2.1.2 i hi).2.2.2.2.2.2.2, if_neg (nI_nle (by omega) (by omega)), if_neg hb]
theorem q_node (hN : 1000 ≤ N) (h : RdF c t) (hS : SlM zm k t) (h0 : jgI zm 0 = nI k) (a b : Int32) : ∃ r, fX_node N a b (o, c, p) = some (r, (o, c, p)) ∧ fM_node N a b zm = some (r, zm) := by
  have hk := hS.1.1
  have hf := hS.tf
  have hl := hf.2.1
  unfold fX_node fM_node
  dsimp only
  rcases has3 (N := N) h hS h0 a with ⟨e1, e2⟩ | ⟨i, hi, rfl, e1, e2⟩
  · rw [e1, e2, jB_s, jB_s]
    exact ⟨-1, rfl, rfl⟩
  · rw [e1, e2, jB_s, jB_s, if_neg (show ¬ (1 : Int32) = 0 by decide), if_neg (show ¬ (1 : Int32) = 0 by decide), h0, ix4]
    obtain ⟨w4, w5, w6, w7, w8, w9, w10, w11⟩ := hS.2.1.2 i hi
    obtain ⟨c4, c5, c6, c7, c8⟩ := h.2.1.2.2.1 i hi
    obtain ⟨⟨n1, n2, n3, n4, _⟩, n5⟩ := hf.2.2.2.2.1 i hi
    have j1 : jIn (nI i) 363 = true := jIn_nI (by omega) (by decide)
    have j2 : jIn (nI (400 * k + i)) 800 = true := jIn_nI (by omega) (by decide)
    have g1 : (nI i).toNatClampNeg = i := nI_clamp (by omega)
    have g2 : (nI (400 * k + i)).toNatClampNeg = 400 * k + i := nI_clamp (by omega)
    by_cases b7 : b = 7
    · subst b7
      refine ⟨nI (fB (qTr t) (i + nZ (ndA (qTr t) i)) - fB (qTr t) i), ?_, ?_⟩
      · rw [if_neg (by decide), if_neg (by decide), if_neg (by decide), if_neg (by decide), if_neg (by decide), if_neg (by decide), if_neg (by decide), if_pos rfl, cT_flt h hf hi, jB_s]
      · have := mM_n7 (N := N) hS h0 hN hi N (nZ (ndA (qTr t) i)) 0 (by omega) (by omega)
        rw [Nat.add_zero, Nat.sub_self] at this
        exact this
    · rw [mM_nd hS hN hi b7]
      unfold fM_node_63
      by_cases b0 : b = 0
      · subst b0
        rw [if_pos rfl, if_pos rfl, if_pos j1, if_pos j2, g1, g2, w4, c4]
        exact ⟨_, rfl, rfl⟩
      · rw [if_neg b0, if_neg b0]
        by_cases b1 : b = 1
        · subst b1
          rw [if_pos rfl, if_pos rfl, if_pos j1, if_pos j2, g1, g2, w5, c6]
          exact ⟨_, rfl, rfl⟩
        · rw [if_neg b1, if_neg b1]
          by_cases b2 : b = 2
          · subst b2
            rw [if_pos rfl, if_pos rfl, if_pos j2, if_pos j2, g2, w5, w6, cT_str h hf hi, jB_s, pk_sub n2]
            exact ⟨_, rfl, rfl⟩
          · rw [if_neg b2, if_neg b2]
            by_cases b3 : b = 3
            · subst b3
              rw [if_pos rfl, if_pos rfl, if_pos j2, g2, w7]
              have := cT_own (N := N) h hf N i (by omega) hi
              unfold fT_ownPlaceOf
              rw [this, jB_s]
              exact ⟨_, rfl, rfl⟩
            · rw [if_neg b3, if_neg b3]
              by_cases b4 : b = 4
              · subst b4
                rw [if_pos rfl, if_pos rfl, if_pos j2, g2, w9, cT_kids h hf hN hi, jB_s]
                exact ⟨_, rfl, rfl⟩
              · rw [if_neg b4, if_neg b4]
                by_cases b5 : b = 5
                · subst b5
                  rw [if_pos rfl, if_pos rfl, if_pos j2, g2, w10, cT_parent h hf hN hi, jB_s]
                  exact ⟨_, rfl, rfl⟩
                · rw [if_neg b5, if_neg b5]
                  by_cases b6 : b = 6
                  · subst b6
                    rw [if_pos rfl, if_pos rfl, if_pos j2, g2, w8, cT_mis h hf hi, jB_s]
                    have hm3 : nM (ndA (qTr t) i) ≤ 3 := by
                      rcases n4 with n4 | n4
                      · rcases n4.2.2.2.2.2.2 with q | q
                        · omega
                        · have := q.1; omega
                      · omega
                    by_cases hm : nM (ndA (qTr t) i) = 0
                    · rw [if_pos hm, if_pos rfl, hm, if_pos (by decide)]
                      exact ⟨_, rfl, rfl⟩
                    · rw [if_neg hm, if_neg (by decide), if_neg (nI_nle (by omega) (by omega))]
                      exact ⟨_, rfl, rfl⟩
                  · rw [if_neg b6, if_neg b6, if_neg b7, if_neg b7]
                    by_cases b8 : b = 8
                    · subst b8
                      rw [if_pos rfl, if_pos rfl, if_pos j1, if_pos j2, g1, g2, w11, c5]
                      exact ⟨_, rfl, rfl⟩
                    · rw [if_neg b8, if_neg b8]
                      exact ⟨_, rfl, rfl⟩
theorem q_child (hN : 1000 ≤ N) (h : RdF c t) (hS : SlM zm k t) (h0 : jgI zm 0 = nI k) (a b : Int32) : ∃ r, fX_child N a b (o, c, p) = some (r, (o, c, p)) ∧ fM_child N a b zm = some (r, zm) := by
  have hk := hS.1.1
  have hf := hS.tf
  have hl := hf.2.1
  unfold fX_child fM_child
  dsimp only
  rcases has3 (N := N) h hS h0 a with ⟨e1, e2⟩ | ⟨i, hi, rfl, e1, e2⟩
  · rw [e1, e2, jB_s, jB_s]
    exact ⟨-1, rfl, rfl⟩
  · have hcl := nC_lt hf hi
    rw [e1, e2, jB_s, jB_s, if_neg (show ¬ (1 : Int32) = 0 by decide), if_neg (show ¬ (1 : Int32) = 0 by decide), h0, ix4, if_pos (jIn_nI (show 400 * k + i < 800 by omega) (by decide)), nI_clamp (show 400 * k + i < 2 ^ 31 by omega), (hS.2.1.2 i hi).2.2.2.2.2.1]
    unfold fT_childOf
    rw [h.2.1.1]
    rcases pk_ix b (n := (qTr t).length) (by omega) with hb | hb | ⟨x, hx, rfl⟩
    · rw [if_pos hb, if_pos hb, jB_s]
      exact ⟨_, rfl, rfl⟩
    · by_cases hn : b < 0
      · rw [if_pos hn, if_pos hn, jB_s]
        exact ⟨_, rfl, rfl⟩
      · have h1 : ¬ b < nI (qTr t).length := fun z => Int32.lt_irrefl (Int32.lt_of_lt_of_le z hb)
        have h2 : ¬ b < nI (nC (ndA (qTr t) i)) := fun z => h1 (Int32.lt_trans z (nI_lt hcl (by omega)))
        rw [if_neg hn, if_neg hn, if_neg h1, if_neg h2, jB_s]
        exact ⟨_, rfl, rfl⟩
    · rw [if_neg (nI_pos (by omega)), if_neg (nI_pos (by omega)), if_pos (nI_lt hx (by omega)), if_pos (jIn_nI (show i < 363 by omega) (by decide)), nI_clamp (show i < 2 ^ 31 by omega), (h.2.1.2.2.1 i hi).2.1, nI_add, nI_1]
      have hc := cT_chL (N := N) h hf hi hx N 0 (by omega) (by omega) (by omega)
      have hc : fT_childOf_31 N N (nI x) (nI (i + nZ (ndA (qTr t) i))) (nI (i + 1)) (0 : Int32) c = _ := hc
      rw [hc, jB_s]
      by_cases hq : x < nC (ndA (qTr t) i)
      · rw [if_pos hq, if_pos (nI_lt hq (by omega))]
        exact ⟨_, rfl, mM_chL (N := N) hS h0 hi hq N 0 (by omega) (by omega)⟩
      · rw [if_neg hq, if_neg (nI_nlt (by omega) (by omega))]
        exact ⟨_, rfl, rfl⟩
theorem q_find (hN : 1000 ≤ N) (h : RdF c t) (hS : SlM zm k t) (h0 : jgI zm 0 = nI k) (a : Int32) : ∃ r, fX_find N a (o, c, p) = some (r, (o, c, p)) ∧ fM_find N a zm = some (r, zm) := by
  have hk := hS.1.1
  have hf := hS.tf
  have hl := hf.2.1
  have h60 := hf.1
  unfold fX_find fM_find fT_leafAt
  dsimp only
  rw [h.1.1, h0, if_pos (jIn_nI hk (by decide)), nI_clamp (show k < 2 ^ 31 by omega), hS.1.2.1]
  by_cases hn : a < 0
  · rw [if_pos hn, if_pos hn, jB_s]
    exact ⟨_, rfl, rfl⟩
  · rw [if_neg hn, if_neg hn]
    by_cases hle : a ≤ nI t.length
    · rw [if_pos hle, if_pos hle]
      rcases pk_ix a (n := t.length + 1) (by omega) with hb | hb | ⟨x, hx, rfl⟩
      · exact absurd hb hn
      · exact (Int32.lt_irrefl (Int32.lt_of_lt_of_le (nI_lt (show t.length < t.length + 1 by omega) (by omega)) (Int32.le_trans hb hle))).elim
      · have h1 := cT_find (N := N) h hf (p := x) (by omega) N (qTr t).length 0 (by omega) (by omega)
        have h1 : fT_leafAt_19 N N (nI x) (0 : Int32) c = _ := h1
        have h2 := mM_find (N := N) hS h0 (p := x) (by omega) N (qTr t).length 0 (by omega) (by omega) (by have := hf.2.2.2.1; omega) (by rw [hf.2.2.2.2.2.2.2.1]; omega)
        rw [h1, jB_s]
        exact ⟨_, rfl, h2⟩
    · rw [if_neg hle, if_neg hle, jB_s]
      exact ⟨_, rfl, rfl⟩
theorem q_fault (hN : 1000 ≤ N) (h : RdF c t) (hS : SlM zm k t) (h0 : jgI zm 0 = nI k) (a : Int32) : ∃ r, fX_fault N a (o, c, p) = some (r, (o, c, p)) ∧ fM_fault N a zm = some (r, zm) := by
  have hk := hS.1.1
  have hf := hS.tf
  have hl := hf.2.1
  have h180 := hf.2.2.1
  unfold fX_fault
  dsimp only
  rw [h.2.1.2.1]
  by_cases hn : a < 0
  · rw [if_pos hn]
    refine ⟨_, rfl, ?_⟩
    unfold fM_fault
    obtain ⟨n, hn1⟩ : ∃ n, N = n + 1 := ⟨N - 1, by omega⟩
    have : fM_fault_4 N (n + 1) a a (0 : Int32) zm = some (-1, zm) := by
      show fM_fault_b4 N (fM_fault_4 N n) _ _ _ zm = _
      unfold fM_fault_b4
      rw [h0, if_pos (jIn_nI hk (by decide)), if_pos hn, ite_self]
    rw [← hn1] at this
    exact this
  · rw [if_neg hn]
    obtain ⟨x, hx, rfl⟩ := nI_of hn
    have h2 := mM_ftL (N := N) hS h0 hN hn N (qTr t).length 0 x (by omega) (by omega) hx
    have hb0 : fB (qTr t) 0 = 0 := by simp [fB, fls]
    rw [hb0, Nat.zero_add] at h2
    refine ⟨_, ?_, h2⟩
    by_cases hq : x < (fls (qTr t)).length
    · rw [if_neg (nI_ge hq (by omega)), if_pos hq, if_pos (jIn_nI (by omega) (by decide)), nI_clamp hx, h.2.1.2.2.2 x hq]
    · rw [if_pos (nI_le (by omega) hx), if_neg hq]
theorem q_length (h : RdF c t) (hS : SlM zm k t) (h0 : jgI zm 0 = nI k) : ∃ r, fX_length N (o, c, p) = some (r, (o, c, p)) ∧ fM_length N zm = some (r, zm) := by
  have hk := hS.1.1
  unfold fX_length fM_length
  dsimp only
  rw [h.1.1, h0, if_pos (jIn_nI hk (by decide)), nI_clamp (show k < 2 ^ 31 by omega), hS.1.2.1]
  exact ⟨_, rfl, rfl⟩
theorem q_letter (h : RdF c t) (hS : SlM zm k t) (h0 : jgI zm 0 = nI k) (a : Int32) : ∃ r, fX_letter N a (o, c, p) = some (r, (o, c, p)) ∧ fM_letter N a zm = some (r, zm) := by
  have hk := hS.1.1
  have h60 := hS.tf.1
  unfold fX_letter fM_letter
  dsimp only
  rw [h0, if_pos (jIn_nI hk (by decide)), nI_clamp (show k < 2 ^ 31 by omega), hS.1.2.1]
  by_cases hn : a < 0
  · unfold fL_at
    rw [if_pos hn, if_pos hn, jB_s]
    exact ⟨_, rfl, rfl⟩
  · obtain ⟨x, hx, rfl⟩ := nI_of hn
    rw [pL_at h.1 hx, jB_s, if_neg hn]
    by_cases hq : x < t.length
    · rw [if_pos (nI_lt hq (by omega)), ix60, if_pos (jIn_nI (show 60 * k + x < 120 by omega) (by decide)), nI_clamp (by omega), hS.1.2.2.2.2 x hq]
      exact ⟨_, rfl, rfl⟩
    · rw [if_neg (nI_nlt (by omega) (by omega)), qAt_out (by omega)]
      exact ⟨_, rfl, rfl⟩
theorem q_leaves (hN : 1000 ≤ N) (h : RdF c t) (hS : SlM zm k t) (h0 : jgI zm 0 = nI k) : ∃ r, fT_leafCount N c = some (r, c) ∧ fM_leaves N zm = some (r, zm) := by
  have hf := hS.tf
  have hl := hf.2.1
  exact ⟨_, cT_lcL (N := N) h hf N (qTr t).length 0 0 (by omega) (by omega), mM_lcL (N := N) hS h0 N (qTr t).length 0 0 (by omega) (by omega)⟩
end SQ
