/-! class and reference hold the same; a call leaves it so -/
/-- the text t, what was typed b, the past hs -/
def InvW (o c zm : jS) (k : Nat) (t b : List Int32) (π : Nat → Nat) (m : Nat) (hs : Nat → List Int32) : Prop := RdF c t ∧ SlM zm k t ∧ jgI zm 0 = nI k ∧ BfX o b ∧ BfM zm b ∧ HiX o π m hs ∧ HiM zm m hs ∧ jgI o 0 = jgI zm 2 ∧ jgI o 1 = jgI zm 3
def InvX (zx : jX) (zm : jS) : Prop := ∃ (k : Nat) (t b : List Int32) (π : Nat → Nat) (m : Nat) (hs : Nat → List Int32), InvW zx.1 zx.2.1 zm k t b π m hs
section IV
variable {N k m : Nat} {o c p zm : jS} {t b : List Int32} {π : Nat → Nat} {hs : Nat → List Int32}
theorem SlM.fm {s s' : jS} {k : Nat} {t : List Int32} (h : SlM s k t) (hs : ∀ x, x ≤ 11 → jgA s' x = jgA s x) : SlM s' k t := by
  have hm : mkM s' k = mkM s k := by
    funext q
    show jgA s' 2 _ = jgA s 2 _
    rw [hs 2 (by decide)]
  obtain ⟨h1, h2, h3, h4⟩ := h
  refine ⟨⟨h1.1, by rw [hs 1 (by decide)]; exact h1.2.1, h1.2.2.1, h1.2.2.2.1, fun q hq => by rw [hs 0 (by decide)]; exact h1.2.2.2.2 q hq⟩, ⟨by rw [hs 3 (by decide)]; exact h2.1, fun i hi => (h2.2 i hi).ext (fun a _ a2 => by rw [hs a a2])⟩, by rw [hm]; exact h3, by rw [hm]; exact h4⟩
theorem BfX.nil {o : jS} (h : jgI o 2 = 0) : BfX o [] := ⟨h, by simp, fun q hq => absurd hq (by simp)⟩
theorem BfM.nil {s : jS} (h : jgI s 4 = 0) : BfM s [] := ⟨h, by simp, fun q hq => absurd hq (by simp), fun q hq => absurd hq (by simp)⟩
theorem HiX.of {o o' : jS} (h : HiX o π m hs) (h3 : ∀ i, 3 ≤ i → jgI o' i = jgI o i) (ha : ∀ x, 1 ≤ x → jgA o' x = jgA o x) : HiX o' π m hs := by
  obtain ⟨y1, y2, y3, y4, y5⟩ := h
  exact ⟨by rw [h3 3 (by decide)]; exact y1, y2, fun j hj => by rw [ha 4 (by decide)]; exact y3 j hj, y4, fun j hj => ⟨by rw [h3 _ (by omega)]; exact (y5 j hj).1, (y5 j hj).2.1, fun q hq => by rw [ha _ (by omega)]; exact (y5 j hj).2.2 q hq⟩⟩
theorem HiM.of {s s' : jS} (h : HiM s m hs) (h1 : jgI s' 1 = jgI s 1) (ha : jgA s' 12 = jgA s 12) (hb : jgA s' 13 = jgA s 13) : HiM s' m hs := by
  obtain ⟨y1, y2, y3⟩ := h
  exact ⟨by rw [h1]; exact y1, y2, fun j hj => ⟨by rw [hb]; exact (y3 j hj).1, (y3 j hj).2.1, (y3 j hj).2.2.1, fun q hq => by rw [ha]; exact (y3 j hj).2.2.2 q hq⟩⟩
theorem st_type (h : InvW o c zm k t b π m hs) (v : Int32) : ∃ r zx1 zm1, fX_type N ((v.toUInt32 % 65536).toInt32) (o, c, p) = some (r, zx1) ∧ fM_type N ((v.toUInt32 % 65536).toInt32) zm = some (r, zm1) ∧ InvX zx1 zm1 := by
  have h0 := h
  obtain ⟨hR, hS, hk, hB, hC, hH, hG, hv, hw⟩ := h
  generalize (v.toUInt32 % 65536).toInt32 = ch
  have same : InvX (o, c, p) zm := ⟨k, t, b, π, m, hs, h0⟩
  have put : qOk ch → ∃ r zx1 zm1, fX_type_18 N ch (o, c, p) = some (r, zx1) ∧ fM_type_18 N ch zm = some (r, zm1) ∧ InvX zx1 zm1 := by
    intro hok
    unfold fX_type_18 fM_type_18 fL_append_B
    dsimp only
    rw [hB.1, hC.1]
    have h20 := hB.2.1
    by_cases hl : b.length < 20
    · rw [if_pos (show nI b.length < 20 from nI_lt (b := 20) hl (by decide)), if_pos (show nI b.length < 20 from nI_lt (b := 20) hl (by decide)), if_pos (jIn_nI hl (by decide)), if_pos (jIn_nI hl (by decide)), nI_clamp (show b.length < 2 ^ 31 by omega), vn_ok hok, jL_e, jL_e, jL_e, jL_e, jB_s, if_neg (by decide)]
      dsimp only
      rw [show jgI (jsA o 0 b.length ch) 2 = nI b.length from hB.1, show jgI (jsA zm 14 b.length ch) 4 = nI b.length from hC.1, nI_1]
      have hq : ∀ (g : Nat → Int32), (∀ q, q < b.length → g q = qAt b q) → ∀ q, q < (b ++ [ch]).length → upd g b.length ch q = qAt (b ++ [ch]) q := by
        intro g hg q hq
        rw [List.length_append, List.length_singleton] at hq
        unfold qAt
        by_cases hlt : q < b.length
        · rw [pk_un (by omega), getD_app_l hlt]
          exact hg q hlt
        · obtain rfl : q = b.length := by omega
          rw [pk_us, getD_app_r (Nat.le_refl _), Nat.sub_self]
          rfl
      have hb2 : (b ++ [ch]).length ≤ 20 := by rw [List.length_append, List.length_singleton]; omega
      have hbo : TxOk (b ++ [ch]) := by
        intro q hq
        rw [List.length_append, List.length_singleton] at hq
        unfold qAt
        by_cases hlt : q < b.length
        · rw [getD_app_l hlt]
          exact hC.2.2.1 q hlt
        · obtain rfl : q = b.length := by omega
          rw [getD_app_r (Nat.le_refl _), Nat.sub_self]
          exact hok
      refine ⟨1, _, _, rfl, rfl, k, t, b ++ [ch], π, m, hs, hR, hS.fm (fun x hx => ?_), hk, ⟨by rw [List.length_append]; rfl, hb2, hq _ hB.2.2⟩, ⟨by rw [List.length_append]; rfl, hb2, hbo, hq _ hC.2.2.2⟩, hH.of (fun i hi => ?_) (fun x hx => ?_), hG.of rfl rfl rfl, hv, hw⟩
      · show jgA (jsA zm 14 b.length ch) x = _
        rw [jgA_sA, if_neg (by omega)]
      · show (if i = 2 then _ else jgI o i) = _
        rw [if_neg (by omega)]
      · show jgA (jsA o 0 b.length ch) x = _
        rw [jgA_sA, if_neg (by omega)]
    · rw [if_neg (show ¬ nI b.length < 20 from nI_nlt (b := 20) (by omega) (by omega)), if_neg (show ¬ nI b.length < 20 from nI_nlt (b := 20) (by omega) (by omega)), jB_s, if_pos rfl]
      exact ⟨0, _, _, rfl, rfl, same⟩
  unfold fX_type fM_type fX_type_22
  by_cases c1 : ch = 10
  · rw [if_pos c1, if_pos c1]
    exact put (Or.inl c1)
  · rw [if_neg c1, if_neg c1]
    by_cases c2 : ch < 32
    · rw [if_pos c2, if_pos c2]
      exact ⟨0, _, _, rfl, rfl, same⟩
    · rw [if_neg c2, if_neg c2]
      by_cases c3 : (126 : Int32) < ch
      · rw [if_pos c3, if_pos c3]
        exact ⟨0, _, _, rfl, rfl, same⟩
      · rw [if_neg c3, if_neg c3]
        exact put (Or.inr ⟨Int32.not_lt.mp c2, Int32.not_lt.mp c3⟩)
theorem st_undo (hN : 200000 ≤ N) (h : InvW o c zm k t b π m hs) : ∃ r zx1 zm1, fX_undo N (o, c, p) = some (r, zx1) ∧ fM_undo N zm = some (r, zm1) ∧ InvX zx1 zm1 := by
  have h0 := h
  obtain ⟨hR, hS, hk, hB, hC, hH, hG, hv, hw⟩ := h
  have hk2 := hS.1.1
  unfold fX_undo fM_undo
  rw [hG.1]
  cases m with
  | zero =>
    rw [if_pos (by decide)]
    unfold fH_takeLast_cL
    dsimp only
    rw [hH.1, if_neg (by decide), jB_s, if_pos rfl]
    exact ⟨0, _, _, rfl, rfl, k, t, b, π, 0, hs, h0⟩
  | succ m =>
    have hm3 := hG.2.1
    obtain ⟨c1, e1, t1, hH1⟩ := c_last (N := N) (c := c) (p := p) (by omega) hH
    rw [e1, jB_s, if_neg (by decide), if_neg (nI_ne0 (by omega) (by omega))]
    have hM := hG.2.2 m (by omega)
    obtain ⟨c2, e2, r2⟩ := pR_readAll (N := N) t1 hM.2.2.1 (by omega)
    dsimp only
    rw [e2, jB_s, jL_e, nI_pred, jL_e, jL_e]
    rw [show jgI (jsI (jsI zm 1 (nI m)) 2 (jgI (jsI zm 1 (nI m)) 2 - 1)) 1 = nI m from rfl, if_pos (jIn_nI (show m < 3 by omega) (by decide)), show jgI (jsI (jsI zm 1 (nI m)) 2 (jgI (jsI zm 1 (nI m)) 2 - 1)) 0 = nI k from hk, if_pos (jIn_nI hk2 (by decide)), nI_clamp (show m < 2 ^ 31 by omega), nI_clamp (show k < 2 ^ 31 by omega), show jgA (jsI (jsI zm 1 (nI m)) 2 (jgI (jsI zm 1 (nI m)) 2 - 1)) 13 m = nI (hs m).length from hM.1, jL_e]
    have z0 : jgI (jsA (jsI (jsI zm 1 (nI m)) 2 (jgI (jsI zm 1 (nI m)) 2 - 1)) 1 k (nI (hs m).length)) 0 = nI k := hk
    have z1 : jgI (jsA (jsI (jsI zm 1 (nI m)) 2 (jgI (jsI zm 1 (nI m)) 2 - 1)) 1 k (nI (hs m).length)) 1 = nI m := rfl
    have z2 : jgI (jsA (jsI (jsI zm 1 (nI m)) 2 (jgI (jsI zm 1 (nI m)) 2 - 1)) 1 k (nI (hs m).length)) 2 = jgI zm 2 - 1 := rfl
    have z3 : jgI (jsA (jsI (jsI zm 1 (nI m)) 2 (jgI (jsI zm 1 (nI m)) 2 - 1)) 1 k (nI (hs m).length)) 3 = jgI zm 3 := rfl
    have z4 : jgI (jsA (jsI (jsI zm 1 (nI m)) 2 (jgI (jsI zm 1 (nI m)) 2 - 1)) 1 k (nI (hs m).length)) 4 = jgI zm 4 := rfl
    have za : ∀ x, x ≠ 1 → jgA (jsA (jsI (jsI zm 1 (nI m)) 2 (jgI (jsI zm 1 (nI m)) 2 - 1)) 1 k (nI (hs m).length)) x = jgA zm x := fun x hx => by rw [jgA_sA, if_neg hx]; rfl
    have zk : jgA (jsA (jsI (jsI zm 1 (nI m)) 2 (jgI (jsI zm 1 (nI m)) 2 - 1)) 1 k (nI (hs m).length)) 1 k = nI (hs m).length := by rw [jgA_sA, if_pos rfl, pk_us]
    generalize jsA (jsI (jsI zm 1 (nI m)) 2 (jgI (jsI zm 1 (nI m)) 2 - 1)) 1 k (nI (hs m).length) = s5 at z0 z1 z2 z3 z4 za zk ⊢
    have hG5 : ∀ j, j < m + 1 → HtM s5 j (hs j) := fun j hj => ⟨by rw [za 13 (by decide)]; exact (hG.2.2 j hj).1, (hG.2.2 j hj).2.1, (hG.2.2 j hj).2.2.1, fun q hq => by rw [za 12 (by decide)]; exact (hG.2.2 j hj).2.2.2 q hq⟩
    obtain ⟨s6, e6, t6, m6⟩ := m_u49 (N := N) hk2 z0 z1 (by omega) (hG5 m (by omega)) zk N (hs m).length 0 s5 (by omega) (by have := hM.2.1; omega) jSm.rf (fun q hq => absurd hq (by omega))
    have e6 : fM_undo_49 N N (0 : Int32) s5 = _ := e6
    rw [e6]
    obtain ⟨s7, e7, l7, f7⟩ := pM_parse (N := N) t6 hN
    rw [e7, jB_s]
    refine ⟨1, _, _, rfl, rfl, k, hs m, b, π, m, hs, r2, l7, by rw [f7.1 0 (by decide), m6.1 0 (by decide)]; exact z0, ?_, ?_, ?_, ?_, ?_, ?_⟩
    · exact ⟨hB.1, hB.2.1, hB.2.2⟩
    · exact ⟨by rw [f7.1 4 (by decide), m6.1 4 (by decide), z4]; exact hC.1, hC.2.1, hC.2.2.1, fun q hq => by rw [f7.2.1 14 (by simp), m6.2 14 (by decide), za 14 (by decide)]; exact hC.2.2.2 q hq⟩
    · exact hH1.of (fun i hi => by show (if i = 0 then _ else jgI (jsI o 3 (nI m)) i) = _; rw [if_neg (by omega)]) (fun x hx => rfl)
    · refine ⟨by rw [f7.1 1 (by decide), m6.1 1 (by decide)]; exact z1, by omega, fun j hj => ?_⟩
      have := hG5 j (by omega)
      exact ⟨by rw [f7.2.1 13 (by simp), m6.2 13 (by decide)]; exact this.1, this.2.1, this.2.2.1, fun q hq => by rw [f7.2.1 12 (by simp), m6.2 12 (by decide)]; exact this.2.2.2 q hq⟩
    · show jgI o 0 - 1 = _
      rw [f7.1 2 (by decide), m6.1 2 (by decide), z2, hv]
    · show jgI o 1 = _
      rw [f7.1 3 (by decide), m6.1 3 (by decide), z3, hw]
theorem sub_neg {n x : Nat} (hn : n ≤ 60) (hx : x < 2 ^ 31) (h : n < x) : nI n - nI x < 0 := by
  rw [Int32.lt_iff_toInt_lt, Int32.toInt_sub, nI_toInt (by omega), nI_toInt hx, Int.bmod_eq_of_le (by omega) (by omega), show (0 : Int32).toInt = 0 from by decide]
  omega
/-- which edits are possible: both say the same -/
theorem st_fits (h : InvW o c zm k t b π m hs) (a0 a1 : Int32) : (fX_fits N a0 a1 (o, c, p) = some (0, (o, c, p)) ∧ fM_edit N a0 a1 zm = some (0, jsI zm 4 0)) ∨ ∃ x y, a0 = nI x ∧ a1 = nI y ∧ x + y ≤ t.length ∧ t.length - y + b.length ≤ 60 ∧ fX_fits N a0 a1 (o, c, p) = some (1, (o, c, p)) ∧ fM_edit N a0 a1 zm = (jB (fM_keep N (jsI zm 4 0)) fun _ s10 => (jL (jsI s10 0 ((1 : Int32) - jgI s10 0)) fun s11 => (if jIn (jgI s10 0) 2 = true then fM_edit_102 N N (nI x) (nI y) (nI b.length) (jgI s10 0) ((jgA s11 1 (jgI s10 0).toNatClampNeg - nI y) + nI b.length) (0 : Int32) s11 else none))) := by
  obtain ⟨hR, hS, hk, hB, hC, hH, hG, hv, hw⟩ := h
  have hk2 := hS.1.1
  have h60 := hS.1.2.2.1
  have h20 := hB.2.1
  unfold fX_fits fM_edit
  dsimp only
  rw [jL_e, hR.1.1, hB.1, hC.1, show jgI (jsI zm 4 0) 0 = nI k from hk, if_pos (jIn_nI hk2 (by decide)), nI_clamp (show k < 2 ^ 31 by omega), show jgA (jsI zm 4 0) 1 k = nI t.length from hS.1.2.1]
  by_cases n0 : a0 < 0
  · rw [if_pos n0, if_pos n0]
    exact Or.inl ⟨rfl, rfl⟩
  · rw [if_neg n0, if_neg n0]
    by_cases n1 : a1 < 0
    · rw [if_pos n1, if_pos n1]
      exact Or.inl ⟨rfl, rfl⟩
    · rw [if_neg n1, if_neg n1]
      obtain ⟨x, hx, rfl⟩ := nI_of n0
      obtain ⟨y, hy, rfl⟩ := nI_of n1
      by_cases hxt : t.length < x
      · rw [if_pos (nI_lt hxt hx), if_neg (fun z => n1 (Int32.lt_of_le_of_lt z (sub_neg h60 hx hxt)))]
        exact Or.inl ⟨rfl, rfl⟩
      · rw [if_neg (nI_nlt (show x ≤ t.length by omega) (by omega)), if_pos (jIn_nI hk2 (by decide)), pk_sub (show x ≤ t.length by omega)]
        by_cases hyt : y ≤ t.length - x
        · rw [if_pos (nI_le hyt (by omega)), if_neg (nI_nlt hyt (by omega)), if_pos (jIn_nI hk2 (by decide)), pk_sub (show y ≤ t.length by omega), nI_add]
          by_cases hl : t.length - y + b.length ≤ 60
          · rw [if_neg (show ¬ (60 : Int32) < nI (t.length - y + b.length) from nI_nlt (a := 60) hl (by decide)), if_pos (show nI (t.length - y + b.length) ≤ 60 from nI_le (b := 60) hl (by decide))]
            exact Or.inr ⟨x, y, rfl, rfl, by omega, hl, rfl, rfl⟩
          · rw [if_pos (show (60 : Int32) < nI (t.length - y + b.length) from nI_lt (a := 60) (by omega) (by omega)), if_neg (show ¬ nI (t.length - y + b.length) ≤ 60 from nI_ge (a := 60) (by omega) (by omega))]
            exact Or.inl ⟨rfl, rfl⟩
        · rw [if_neg (nI_ge (show t.length - x < y by omega) hy), if_pos (nI_lt (show t.length - x < y by omega) hy)]
          exact Or.inl ⟨rfl, rfl⟩
theorem st_edit (hN : 200000 ≤ N) (h : InvW o c zm k t b π m hs) (a0 a1 : Int32) : ∃ r zx1 zm1, fX_edit N a0 a1 (o, c, p) = some (r, zx1) ∧ fM_edit N a0 a1 zm = some (r, zm1) ∧ InvX zx1 zm1 := by
  have h0 := h
  obtain ⟨hR, hS, hk, hB, hC, hH, hG, hv, hw⟩ := h
  have hk2 := hS.1.1
  have h60 := hS.1.2.2.1
  have h20 := hB.2.1
  unfold fX_edit
  rcases st_fits (N := N) (p := p) h0 a0 a1 with ⟨e1, e2⟩ | ⟨x, y, rfl, rfl, hxy, hl, e1, e2⟩
  · rw [e1, e2, jB_s, if_pos rfl]
    unfold fL_clear_B
    dsimp only
    rw [jL_e, jB_s, if_pos (by decide)]
    exact ⟨0, _, _, rfl, rfl, k, t, [], π, m, hs, hR, hS.ii, hk, BfX.nil rfl, BfM.nil rfl, hH.of (fun i hi => by show (if i = 2 then _ else jgI o i) = _; rw [if_neg (by omega)]) (fun x hx => rfl), hG.of rfl rfl rfl, hv, hw⟩
  · rw [e1, e2, jB_s, if_neg (by decide)]
    have hT4 : TxM (jsI zm 4 0) k t := hS.1.sm (jSm.rf.sI (k := 4) (by decide) : jSm [4] [] zm (jsI zm 4 0)) (by decide) (by decide)
    obtain ⟨s10, e10, hG10, m10⟩ := m_keep (N := N) (s := jsI zm 4 0) (by omega) hT4 hk (hG.of rfl rfl rfl : HiM (jsI zm 4 0) m hs)
    obtain ⟨o1, π1, eo, hH1, hi1, ha1⟩ := c_store (N := N) (p := p) (by omega) hR.1 hH
    have hB1 : BfX o1 b := ⟨by rw [hi1 2 (by decide)]; exact hB.1, hB.2.1, fun q hq => by rw [ha1]; exact hB.2.2 q hq⟩
    rw [e10, jB_s, eo, jB_s, jL_e]
    have k10 : jgI s10 0 = nI k := by rw [m10.1 0 (by decide)]; exact hk
    have hsub : (1 : Int32) - nI k = nI (1 - k) := by
      rcases (show k = 0 ∨ k = 1 by omega) with rfl | rfl <;> rfl
    rw [k10, if_pos (jIn_nI hk2 (by decide)), nI_clamp (show k < 2 ^ 31 by omega), hsub]
    have hT10 : TxM s10 k t := hT4.sm m10 (by decide) (by decide)
    rw [show jgA (jsI s10 0 (nI (1 - k))) 1 k = nI t.length from hT10.2.1, pk_sub (show y ≤ t.length by omega), nI_add]
    have hT11 : TxM (jsI s10 0 (nI (1 - k))) k t := hT10.sm (jSm.rf.sI (k := 0) (by decide) : jSm [0] [] s10 (jsI s10 0 (nI (1 - k)))) (by decide) (by decide)
    have a14 : jgA (jsI s10 0 (nI (1 - k))) 14 = jgA zm 14 := m10.2 14 (by decide)
    have all11 : ∀ x, x ≠ 12 → x ≠ 13 → jgA (jsI s10 0 (nI (1 - k))) x = jgA zm x := fun x h12 h13 => m10.2 x (by simp; omega)
    have i11 : ∀ i, i ≠ 0 → i ≠ 1 → i ≠ 4 → jgI (jsI s10 0 (nI (1 - k))) i = jgI zm i := fun i h0 h1 h4 => by
      rw [jgI_sI, if_neg h0, m10.1 i (by simp; omega), jgI_sI, if_neg h4]
    have i4 : jgI (jsI s10 0 (nI (1 - k))) 4 = 0 := by
      rw [jgI_sI, if_neg (by decide), m10.1 4 (by decide)]
      rfl
    have i0 : jgI (jsI s10 0 (nI (1 - k))) 0 = nI (1 - k) := rfl
    have hG11 : HiM (jsI s10 0 (nI (1 - k))) (if m < 3 then m + 1 else 3) (hsP m hs t) := hG10.of rfl rfl rfl
    generalize jsI s10 0 (nI (1 - k)) = s11 at hT11 a14 all11 i11 i4 i0 hG11 ⊢
    obtain ⟨s12, e12, q12, z12, m12⟩ := m_102 (N := N) (s := s11) (t := t) (b := b) (k := 1 - k) (k2 := k) (x := x) (y := y) hT11 (by omega) (by omega) i0 h20 hC.2.2.1 (fun q hq => by rw [a14]; exact hC.2.2.2 q hq) hxy hl N (t.length - y + b.length) 0 s11 (by omega) (by omega) jSm.rf (fun q hq => absurd hq (by omega)) (fun _ _ => rfl)
    have e12 : fM_edit_102 N N (nI x) (nI y) (nI b.length) (nI k) (nI (t.length - y + b.length)) (0 : Int32) s11 = _ := e12
    rw [e12]
    obtain ⟨p1, ep, tp⟩ := c_splice (N := N) (p := p) (by omega) hR.1 hB1 hxy hl
    rw [ep, jB_s]
    dsimp only
    have hok := qEd_ok (x := x) (y := y) hxy hS.1.2.2.2.1 hC.2.2.1
    have hlen := qEd_len (t := t) (b := b) (x := x) (y := y) hxy
    obtain ⟨c2, ec, rc⟩ := pR_readAll (N := N) tp hok (by omega)
    rw [ec, jB_s]
    show ∃ r zx1 zm1, _ ∧ fM_edit_b102 N (fM_edit_102 N 0) _ _ _ _ _ _ s12 = _ ∧ _
    unfold fM_edit_b102
    have k12 : jgI s12 0 = nI (1 - k) := by rw [m12.1 0 (by decide)]; exact i0
    rw [if_pos (Int32.le_refl _), k12, if_pos (jIn_nI (show 1 - k < 2 by omega) (by decide)), nI_clamp (show 1 - k < 2 ^ 31 by omega), jL_e, show jgI (jsA s12 1 (1 - k) (nI (t.length - y + b.length))) 0 = nI (1 - k) from k12]
    have hTn : TxM (jsA s12 1 (1 - k) (nI (t.length - y + b.length))) (1 - k) (qEd t b x y) := ⟨by omega, by rw [hlen, jgA_sA, if_pos rfl, pk_us], by rw [hlen]; exact hl, hok, fun q hq => by rw [hlen] at hq; exact q12 q hq⟩
    have hSo : SlM (jsA s12 1 (1 - k) (nI (t.length - y + b.length))) k t := by
      obtain ⟨s1, s2, s3, s4⟩ := hS
      have al : ∀ w, w ≠ 0 → w ≠ 1 → w ≤ 11 → jgA (jsA s12 1 (1 - k) (nI (t.length - y + b.length))) w = jgA zm w := fun w w0 w1 w11 => by
        rw [jgA_sA, if_neg w1, m12.2 w (by simp; omega), all11 w (by omega) (by omega)]
      have hm : mkM (jsA s12 1 (1 - k) (nI (t.length - y + b.length))) k = mkM zm k := by
        funext q
        show jgA (jsA s12 1 (1 - k) (nI (t.length - y + b.length))) 2 _ = jgA zm 2 _
        rw [al 2 (by decide) (by decide) (by decide)]
      refine ⟨⟨s1.1, ?_, s1.2.2.1, s1.2.2.2.1, fun q hq => ?_⟩, ⟨by rw [al 3 (by decide) (by decide) (by decide)]; exact s2.1, fun i hi => (s2.2 i hi).ext (fun a a1 a2 => by rw [al a (by omega) (by omega) a2])⟩, by rw [hm]; exact s3, by rw [hm]; exact s4⟩
      · rw [jgA_sA, if_pos rfl, pk_un (by omega), m12.2 1 (by decide), all11 1 (by decide) (by decide)]
        exact s1.2.1
      · show jgA s12 0 _ = _
        rw [z12 _ (by omega), all11 0 (by decide) (by decide)]
        exact s1.2.2.2.2 q hq
    have j1 : ∀ i, jgI (jsA s12 1 (1 - k) (nI (t.length - y + b.length))) i = jgI s12 i := fun i => rfl
    have ja : ∀ w, w ≠ 1 → jgA (jsA s12 1 (1 - k) (nI (t.length - y + b.length))) w = jgA s12 w := fun w hw => by rw [jgA_sA, if_neg hw]
    generalize jsA s12 1 (1 - k) (nI (t.length - y + b.length)) = s13 at hTn hSo j1 ja ⊢
    obtain ⟨s14, e14, l14, f14⟩ := pM_parse (N := N) hTn hN
    rw [e14, jB_s, jL_e, jL_e]
    have hSo14 : SlM s14 k t := hSo.fr f14 (by omega) (by omega)
    have w0 : jgI (jsI (jsI s14 2 (jgI s14 2 + 1)) 3 0) 0 = nI (1 - k) := by
      show jgI s14 0 = _
      rw [f14.1 0 (by decide), j1, k12]
    have w2 : jgI (jsI (jsI s14 2 (jgI s14 2 + 1)) 3 0) 2 = jgI zm 2 + 1 := by
      show jgI s14 2 + 1 = _
      rw [f14.1 2 (by decide), j1, m12.1 2 (by decide), i11 2 (by decide) (by decide) (by decide)]
    have w4 : jgI (jsI (jsI s14 2 (jgI s14 2 + 1)) 3 0) 4 = 0 := by
      show jgI s14 4 = _
      rw [f14.1 4 (by decide), j1, m12.1 4 (by decide), i4]
    have w1 : jgI (jsI (jsI s14 2 (jgI s14 2 + 1)) 3 0) 1 = jgI s11 1 := by
      show jgI s14 1 = _
      rw [f14.1 1 (by decide), j1, m12.1 1 (by decide)]
    have w3 : jgI (jsI (jsI s14 2 (jgI s14 2 + 1)) 3 0) 3 = 0 := rfl
    have wa : ∀ w, w = 12 ∨ w = 13 → jgA (jsI (jsI s14 2 (jgI s14 2 + 1)) 3 0) w = jgA s11 w := fun w hw => by
      show jgA s14 w = _
      rw [f14.2.1 w (by omega), ja w (by omega), m12.2 w (by simp; omega)]
    have hA15 : SlM (jsI (jsI s14 2 (jgI s14 2 + 1)) 3 0) (1 - k) (qEd t b x y) := l14.ii.ii
    have hB15 : SlM (jsI (jsI s14 2 (jgI s14 2 + 1)) 3 0) k t := hSo14.ii.ii
    generalize jsI (jsI s14 2 (jgI s14 2 + 1)) 3 0 = s15 at w0 w1 w2 w3 w4 wa hA15 hB15 ⊢
    obtain ⟨r, s16, d1, d2, d3, d4⟩ := q_countL (N := N) (o := o1) (c := c2) (p := c) (by omega) rc hR (show k = 1 - (1 - k) by omega) (nI x) (nI y) N (qTr (qEd t b x y)).length 0 s15 hA15 hB15 w0 (by omega) (by have := hA15.tf.2.1; omega)
    rw [w3] at d1
    rw [hB1.1] at d2
    have d1 : fX_keptCount N (nI x) (nI y) (o1, c2, c) = some (r, (o1, c2, c)) := d1
    have d2 : fM_edit_233 N N (nI x) (nI y) (nI b.length) (nI k) (0 : Int32) s15 = some (1, s16) := d2
    rw [d1, d2, jB_s, jL_e, jL_e]
    unfold fL_clear_B
    dsimp only
    rw [jL_e, jB_s, if_pos (by decide)]
    refine ⟨1, _, _, rfl, rfl, 1 - k, qEd t b x y, [], π1, (if m < 3 then m + 1 else 3), hsP m hs t, rc, hA15.fm (fun w _ => d4.2 w (by simp)), by rw [d4.1 0 (by decide)]; exact w0, BfX.nil rfl, BfM.nil (by rw [d4.1 4 (by decide)]; exact w4), ?_, ?_, ?_, ?_⟩
    · exact hH1.of (fun i hi => by
        show (if i = 2 then _ else if i = 0 then _ else if i = 1 then _ else jgI o1 i) = _
        rw [if_neg (by omega), if_neg (by omega), if_neg (by omega)]) (fun w hw => rfl)
    · exact hG11.of (by rw [d4.1 1 (by decide)]; exact w1) (by rw [d4.2 12 (by simp)]; exact wa 12 (Or.inl rfl)) (by rw [d4.2 13 (by simp)]; exact wa 13 (Or.inr rfl))
    · show jgI o1 0 + 1 = _
      rw [d4.1 2 (by decide), w2, hi1 0 (by decide), hv]
    · show r = _
      rw [d3]
end IV
