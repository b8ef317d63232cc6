/-! every call leaves class and reference alike; they begin alike -/
section PSN
variable {N k m : Nat} {o c p zm : jS} {t b : List Int32} {π : Nat → Nat} {hs : Nat → List Int32}
theorem st_count (hN : 200000 ≤ N) (h : InvW o c zm k t b π m hs) (a : Int32) : ∃ r, fX_count N a (o, c, p) = some (r, (o, c, p)) ∧ fM_count N a zm = some (r, zm) := by
  obtain ⟨hR, hS, hk, hB, hC, hH, hG, hv, hw⟩ := h
  have hk2 := hS.1.1
  have hl := hS.tf.2.1
  have h2 := hS.tf.2.2.2.1
  unfold fX_count fM_count
  dsimp only
  by_cases c0 : a = 0
  · rw [if_pos c0, if_pos c0, hk, if_pos (jIn_nI hk2 (by decide)), nI_clamp (show k < 2 ^ 31 by omega), hS.2.1.1, hR.2.1.1]
    exact ⟨_, rfl, rfl⟩
  · rw [if_neg c0, if_neg c0]
    by_cases c1 : a = 1
    · rw [if_pos c1, if_pos c1]
      obtain ⟨r, e1, e2⟩ := q_leaves (N := N) (by omega) hR hS hk
      rw [e1, e2, jB_s, jB_s]
      exact ⟨_, rfl, rfl⟩
    · rw [if_neg c1, if_neg c1]
      by_cases c2 : a = 2
      · rw [if_pos c2, if_pos c2]
        refine ⟨jgI c 4, rfl, ?_⟩
        have hz : nZ (ndA (qTr t) 0) = (qTr t).length := by
          have := (FoP.nd hS.2.2.1).2.2
          have : 0 + nZ (ndA (qTr t) 0) = (qTr t).length := this
          omega
        have h7 := mM_n7 (N := N) hS hk (by omega) (i := 0) (by omega) N (nZ (ndA (qTr t) 0)) 0 (by omega) (by omega)
        have hf0 : fB (qTr t) 0 = 0 := by simp [fB, fls]
        rw [Nat.zero_add, Nat.zero_add, hz, fB_all, hf0, Nat.sub_zero] at h7
        have h7 : fM_node_27 N N 7 (nI (400 * k + 0)) (0 : Int32) (0 : Int32) zm = some (nI (fls (qTr t)).length, zm) := h7
        unfold fM_node fM_there
        rw [if_neg (by decide), hk, if_pos (jIn_nI hk2 (by decide)), nI_clamp (show k < 2 ^ 31 by omega), hS.2.1.1, if_neg (show ¬ nI (qTr t).length ≤ 0 from nI_nle (by omega) (by omega)), jB_s, if_neg (by decide), hk, show (400 : Int32) * nI k + 0 = nI (400 * k + 0) from ix4 k 0, h7, jB_s, hR.2.1.2.1]
      · rw [if_neg c2, if_neg c2]
        by_cases c3 : a = 3
        · rw [if_pos c3, if_pos c3]
          obtain ⟨r, e1, e2⟩ := q_diff (N := N) (by omega) hR hS hk
          rw [e1, e2, jB_s, jB_s]
          exact ⟨_, rfl, rfl⟩
        · rw [if_neg c3, if_neg c3]
          by_cases c4 : a = 4
          · rw [if_pos c4, if_pos c4, hv]
            exact ⟨_, rfl, rfl⟩
          · rw [if_neg c4, if_neg c4]
            by_cases c5 : a = 5
            · rw [if_pos c5, if_pos c5, hH.1, hG.1]
              exact ⟨_, rfl, rfl⟩
            · rw [if_neg c5, if_neg c5]
              by_cases c6 : a = 6
              · rw [if_pos c6, if_pos c6, hw]
                exact ⟨_, rfl, rfl⟩
              · rw [if_neg c6, if_neg c6]
                by_cases c7 : a = 7
                · rw [if_pos c7, if_pos c7, hB.1, hC.1]
                  exact ⟨_, rfl, rfl⟩
                · rw [if_neg c7, if_neg c7]
                  exact ⟨_, rfl, rfl⟩
theorem keepX {N : Nat} {f : jX → Option (Int32 × jX)} {g : jS → Option (Int32 × jS)} {zx : jX} {zm : jS} (hI : InvX zx zm) (h : ∃ r, f zx = some (r, zx) ∧ g zm = some (r, zm)) : ∃ (r : Int32) (zx1 : jX) (zm1 : jS), f zx = some (r, zx1) ∧ g zm = some (r, zm1) ∧ InvX zx1 zm1 := by
  obtain ⟨r, e1, e2⟩ := h
  exact ⟨r, zx, zm, e1, e2, hI⟩
theorem p_step {N : Nat} (hN : 200000 ≤ N) : PStep N InvX := by
  refine ⟨?_, ?_, ?_, ?_, ?_, ?_, ?_, ?_, ?_, ?_, ?_⟩
  · rintro ⟨o, c, p⟩ zm ⟨k, t, b, π, m, hs, h⟩ v
    exact st_type h v
  · rintro ⟨o, c, p⟩ zm ⟨k, t, b, π, m, hs, h⟩ a b'
    exact st_edit hN h a b'
  · rintro ⟨o, c, p⟩ zm ⟨k, t, b, π, m, hs, h⟩
    exact st_undo hN h
  · rintro ⟨o, c, p⟩ zm ⟨k, t, b, π, m, hs, h⟩
    exact keepX (N := N) ⟨k, t, b, π, m, hs, h⟩ (q_length h.1 h.2.1 h.2.2.1)
  · rintro ⟨o, c, p⟩ zm ⟨k, t, b, π, m, hs, h⟩ a
    exact keepX (N := N) (f := fX_letter N a) (g := fM_letter N a) ⟨k, t, b, π, m, hs, h⟩ (q_letter h.1 h.2.1 h.2.2.1 a)
  · rintro ⟨o, c, p⟩ zm ⟨k, t, b, π, m, hs, h⟩ a b'
    exact keepX (N := N) (f := fX_node N a b') (g := fM_node N a b') ⟨k, t, b, π, m, hs, h⟩ (q_node (by omega) h.1 h.2.1 h.2.2.1 a b')
  · rintro ⟨o, c, p⟩ zm ⟨k, t, b, π, m, hs, h⟩ a b'
    exact keepX (N := N) (f := fX_child N a b') (g := fM_child N a b') ⟨k, t, b, π, m, hs, h⟩ (q_child (by omega) h.1 h.2.1 h.2.2.1 a b')
  · rintro ⟨o, c, p⟩ zm ⟨k, t, b, π, m, hs, h⟩ a
    exact keepX (N := N) (f := fX_find N a) (g := fM_find N a) ⟨k, t, b, π, m, hs, h⟩ (q_find (by omega) h.1 h.2.1 h.2.2.1 a)
  · rintro ⟨o, c, p⟩ zm ⟨k, t, b, π, m, hs, h⟩ a b'
    exact keepX (N := N) (f := fX_equal N a b') (g := fM_equal N a b') ⟨k, t, b, π, m, hs, h⟩ (q_equal (by omega) h.1 h.2.1 h.2.2.1 a b')
  · rintro ⟨o, c, p⟩ zm ⟨k, t, b, π, m, hs, h⟩ a
    exact keepX (N := N) (f := fX_fault N a) (g := fM_fault N a) ⟨k, t, b, π, m, hs, h⟩ (q_fault (by omega) h.1 h.2.1 h.2.2.1 a)
  · rintro ⟨o, c, p⟩ zm ⟨k, t, b, π, m, hs, h⟩ a
    exact keepX (N := N) (f := fX_count N a) (g := fM_count N a) ⟨k, t, b, π, m, hs, h⟩ (st_count hN h a)
theorem p_start {N : Nat} (hN : 200000 ≤ N) : ∃ zc zm, fR_read N jz = some (0, zc) ∧ fM_parse N 0 jz = some (0, zm) ∧ InvX (jx0, zc, jz) zm := by
  have hT : TxR jz [] := ⟨rfl, by simp, fun q hq => absurd hq (by simp)⟩
  have hM : TxM jz 0 [] := ⟨by decide, rfl, by simp, fun q hq => absurd hq (by simp), fun q hq => absurd hq (by simp)⟩
  obtain ⟨zc, e1, r1⟩ := pR_readAll (N := N) hT (fun q hq => absurd hq (by simp)) (by omega)
  obtain ⟨zm, e2, l2, f2⟩ := pM_parse (N := N) hM hN
  refine ⟨zc, zm, e1, e2, 0, [], [], fun j => j, 0, fun _ => [], r1, l2, ?_, BfX.nil rfl, BfM.nil ?_, ⟨rfl, by decide, fun j hj => ⟨rfl, hj⟩, fun i j _ _ e => e, fun j hj => absurd hj (by omega)⟩, ⟨?_, by decide, fun j hj => absurd hj (by omega)⟩, ?_, ?_⟩
  · rw [f2.1 0 (by decide)]; rfl
  · rw [f2.1 4 (by decide)]; rfl
  · rw [f2.1 1 (by decide)]; rfl
  · rw [f2.1 2 (by decide)]; rfl
  · rw [f2.1 3 (by decide)]; rfl
end PSN
