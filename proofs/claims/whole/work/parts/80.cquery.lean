/-! the class's questions of a tree -/
/-- what the text's tree is, by itself -/
def TrF (f : Nat → Int32) (t : List Int32) : Prop := t.length ≤ 60 ∧ (qTr t).length ≤ 362 ∧ (fls (qTr t)).length ≤ 180 ∧ 2 ≤ (qTr t).length ∧ (∀ i, i < (qTr t).length → NdF f (qTr t) t.length i ∧ nT (ndA (qTr t) i) ≤ t.length) ∧ nK (ndA (qTr t) ((qTr t).length - 1)) = 17 ∧ (∀ i, i + 1 < (qTr t).length → ¬ nK (ndA (qTr t) i) = 17) ∧ bF (qTr t) t.length 0 = 0 ∧ MkV f
theorem SlM.tf {s : jS} {k : Nat} {t : List Int32} (h : SlM s k t) : TrF (mkM s k) t := by
  have hl := h.1.2.2.1
  have hc := qTr_co hl
  have h17 := qTr_17 hl
  have hn := (FoP.nd h.2.2.1).1
  exact ⟨hl, hc.1, hc.2, h17.1, fun i hi => ⟨(hn i hi).1, (hn i hi).2.2⟩, h17.2.1, h17.2.2, FoP.b0 h.2.2.1, h.2.2.2⟩
theorem fB_le (l : List Nd) {i j : Nat} (h : i ≤ j) : fB l i ≤ fB l j := by
  obtain ⟨d, rfl⟩ : ∃ d, j = i + d := ⟨j - i, by omega⟩
  unfold fB
  rw [List.take_add, fls_len_app]
  omega
theorem fB_s (l : List Nd) {i : Nat} (h : i < l.length) : fB l (i + 1) = fB l i + (nL (ndA l i)).length := by
  unfold fB
  rw [List.take_add_one, fls_len_app]
  have : l[i]?.toList = [ndA l i] := by
    unfold ndA
    rw [List.getD_eq_getElem?_getD, List.getElem?_eq_getElem h]
    rfl
  rw [this, fls_one]
theorem fB_max (l : List Nd) (i : Nat) : fB l i ≤ (fls l).length := by
  rw [← fB_all l]
  by_cases h : i ≤ l.length
  · exact fB_le l h
  · unfold fB
    rw [List.take_of_length_le (by omega), List.take_of_length_le (by omega)]
    exact Nat.le_refl _
section CQ
variable {N : Nat} {s : jS} {t : List Int32} {f : Nat → Int32}
theorem rd_6 (h : RdF s t) {i : Nat} (hi : i ≤ (qTr t).length) : jgA s 6 i = nI (bF (qTr t) t.length i) := by
  unfold bF
  by_cases hl : i < (qTr t).length
  · rw [if_pos hl]
    exact (h.2.1.2.2.1 i hl).2.2.1
  · rw [if_neg hl, show i = (qTr t).length by omega]
    exact h.2.2.1
theorem rd_8 (h : RdF s t) {i : Nat} (hi : i ≤ (qTr t).length) : jgA s 8 i = nI (fB (qTr t) i) := by
  by_cases hl : i < (qTr t).length
  · exact (h.2.1.2.2.1 i hl).2.2.2.2
  · rw [show i = (qTr t).length by omega, fB_all]
    exact h.2.2.2
theorem bF_i {l : List Nd} {c i : Nat} (h : i < l.length) : bF l c i = nF (ndA l i) := if_pos h
theorem cT_str (h : RdF s t) (hf : TrF f t) {i : Nat} (hi : i < (qTr t).length) : fT_stretchOf N (nI i) s = some (nI (nT (ndA (qTr t) i) - nF (ndA (qTr t) i)), s) := by
  obtain ⟨f1, f2, f3, f4, f5, f6, f7, f8, f9⟩ := hf
  obtain ⟨⟨n1, n2, n3, n4⟩, n5⟩ := f5 i hi
  unfold fT_stretchOf
  rw [if_pos (jIn_nI (by omega) (by decide)), nI_clamp (show i < 2 ^ 31 by omega), (h.2.1.2.2.1 i hi).2.1, nI_add, if_pos (jIn_nI (by omega) (by decide)), if_pos (jIn_nI (by omega) (by decide)), nI_clamp (show i + nZ (ndA (qTr t) i) < 2 ^ 31 by omega), rd_6 h n1, rd_6 h (by omega), bF_i hi, ← n3, pk_sub n2]
theorem cT_flt (h : RdF s t) (hf : TrF f t) {i : Nat} (hi : i < (qTr t).length) : fT_faultsIn N (nI i) s = some (nI (fB (qTr t) (i + nZ (ndA (qTr t) i)) - fB (qTr t) i), s) := by
  obtain ⟨f1, f2, f3, f4, f5, f6, f7, f8, f9⟩ := hf
  obtain ⟨⟨n1, n2, n3, n4⟩, n5⟩ := f5 i hi
  unfold fT_faultsIn
  rw [if_pos (jIn_nI (by omega) (by decide)), nI_clamp (show i < 2 ^ 31 by omega), (h.2.1.2.2.1 i hi).2.1, nI_add, if_pos (jIn_nI (by omega) (by decide)), if_pos (jIn_nI (by omega) (by decide)), nI_clamp (show i + nZ (ndA (qTr t) i) < 2 ^ 31 by omega), rd_8 h n1, rd_8 h (by omega), pk_sub (fB_le _ (by omega))]
theorem nK_le (hf : TrF f t) {i : Nat} (hi : i < (qTr t).length) : nK (ndA (qTr t) i) ≤ 28 := by
  obtain ⟨⟨n1, n2, n3, n4, _⟩, _⟩ := hf.2.2.2.2.1 i hi
  rcases n4 with n4 | n4
  · have := n4.2.2.2.1
    omega
  · exact n4.2.1
theorem cT_leaf (h : RdF s t) (hf : TrF f t) {i : Nat} (hi : i < (qTr t).length) : fT_isLeaf N (nI i) s = some (if nK (ndA (qTr t) i) < 20 then 1 else 0, s) := by
  have := hf.2.1
  have hk := nK_le hf hi
  unfold fT_isLeaf
  rw [if_pos (jIn_nI (by omega) (by decide)), nI_clamp (show i < 2 ^ 31 by omega), (h.2.1.2.2.1 i hi).1]
  by_cases hq : nK (ndA (qTr t) i) < 20
  · rw [if_neg (show ¬ (20 : Int32) ≤ nI _ from nI_ge (b := 20) hq (by decide)), if_pos hq]
  · rw [if_pos (show (20 : Int32) ≤ nI _ from nI_le (a := 20) (by omega) (by omega)), if_neg hq]
theorem cT_own (h : RdF s t) (hf : TrF f t) : ∀ (n i : Nat), (qTr t).length < i + n → i < (qTr t).length → fT_ownPlaceOf_2 N n (nI i) s = some (nI (nO (ndA (qTr t) i)), s) := by
  have h0 := hf
  obtain ⟨f1, f2, f3, f4, f5, f6, f7, f8, f9⟩ := hf
  have hret : ∀ i, i < (qTr t).length → nK (ndA (qTr t) i) < 20 → (if jIn (nI i) 363 = true then some (jgA s 7 (nI i).toNatClampNeg, s) else none) = some (nI (nO (ndA (qTr t) i)), s) := by
    intro i hi hk
    rw [if_pos (jIn_nI (by omega) (by decide)), nI_clamp (show i < 2 ^ 31 by omega), (h.2.1.2.2.1 i hi).2.2.2.1 hk]
  intro n
  induction n with
  | zero => intro i h1 h2; omega
  | succ n ih =>
    intro i h1 hi
    show fT_ownPlaceOf_b2 N (fT_ownPlaceOf_2 N n) (nI i) s = _
    unfold fT_ownPlaceOf_b2
    rw [h.2.1.1, show nI (qTr t).length - 1 = nI ((qTr t).length - 1) from pk_sub (b := 1) (by omega)]
    by_cases hl : (qTr t).length - 1 ≤ i
    · rw [if_pos (nI_le hl (by omega))]
      refine hret i hi ?_
      rw [show i = (qTr t).length - 1 by omega, f6]
      decide
    · rw [if_neg (nI_ge (by omega) (by omega)), cT_leaf h h0 hi, jB_s]
      by_cases hk : nK (ndA (qTr t) i) < 20
      · rw [if_pos hk, if_neg (by decide)]
        exact hret i hi hk
      · rw [if_neg hk, if_pos rfl, nI_1, ih (i + 1) (by omega) (by omega)]
        obtain ⟨⟨n1, n2, n3, n4, _⟩, _⟩ := f5 i hi
        rcases n4 with n4 | n4
        · exact absurd n4.2.2.2.1 hk
        · rw [n4.2.2.2.2.2.2.2]
theorem hop_e (l : List Nd) : ∀ (c x : Nat), hop l x (c + 1) = hop l x c + nZ (ndA l (hop l x c))
  | 0, x => rfl
  | c + 1, x => by
    rw [hop, hop_e l c, hop]
theorem hop_ge (l : List Nd) (hz : ∀ x, x < l.length → 1 ≤ nZ (ndA l x)) : ∀ (c x : Nat), (∀ c', c' < c → hop l x c' < l.length) → x + c ≤ hop l x c
  | 0, x, _ => Nat.le_refl _
  | c + 1, x, h => by
    have h1 := hop_ge l hz c x (fun c' hc => h c' (by omega))
    have h2 := hz _ (h c (by omega))
    rw [hop_e]
    omega
theorem nZ_1 (hf : TrF f t) {i : Nat} (hi : i < (qTr t).length) : 1 ≤ nZ (ndA (qTr t) i) := by
  obtain ⟨⟨n1, n2, n3, n4, _⟩, _⟩ := hf.2.2.2.2.1 i hi
  rcases n4 with n4 | n4
  · have := n4.2.2.2.2.1
    omega
  · omega
/-- the children of node i, by number -/
theorem nC_b (hf : TrF f t) {i : Nat} (hi : i < (qTr t).length) : ∀ c, c ≤ nC (ndA (qTr t) i) → i + 1 + c ≤ hop (qTr t) (i + 1) c ∧ hop (qTr t) (i + 1) c ≤ i + nZ (ndA (qTr t) i) := by
  intro c hc
  obtain ⟨⟨n1, n2, n3, n4, n5, n6, n7⟩, _⟩ := hf.2.2.2.2.1 i hi
  refine ⟨hop_ge _ (fun x hx => nZ_1 hf hx) c (i + 1) (fun c' hc' => by have := n6 c' (by omega); omega), ?_⟩
  by_cases hq : c < nC (ndA (qTr t) i)
  · exact Nat.le_of_lt (n6 c hq)
  · rw [show c = nC (ndA (qTr t) i) by omega, n7]
    exact Nat.le_refl _
theorem cT_kidL (h : RdF s t) (hf : TrF f t) {i : Nat} (hi : i < (qTr t).length) : ∀ (n c : Nat), nC (ndA (qTr t) i) < c + n → c ≤ nC (ndA (qTr t) i) → fT_childrenOf_16 N n (nI (i + nZ (ndA (qTr t) i))) (nI (hop (qTr t) (i + 1) c)) (nI c) s = some (nI (nC (ndA (qTr t) i)), s) := by
  have hl := hf.2.1
  obtain ⟨⟨n1, n2, n3, n4, n5, n6, n7⟩, _⟩ := hf.2.2.2.2.1 i hi
  intro n
  induction n with
  | zero => intro c h1 h2; omega
  | succ n ih =>
    intro c h1 hc
    have hb := nC_b hf hi c hc
    show fT_childrenOf_b16 N (fT_childrenOf_16 N n) _ _ _ s = _
    unfold fT_childrenOf_b16
    by_cases hq : c < nC (ndA (qTr t) i)
    · have h6 := n6 c hq
      rw [if_neg (nI_ge h6 (by omega)), h.2.1.1, if_neg (nI_ge (show c < (qTr t).length by omega) (by omega)), if_pos (jIn_nI (by omega) (by decide)), nI_clamp (by omega), (h.2.1.2.2.1 (hop (qTr t) (i + 1) c) (by omega)).2.1, nI_add, nI_1, ← hop_e]
      exact ih (c + 1) (by omega) (by omega)
    · obtain rfl : c = nC (ndA (qTr t) i) := by omega
      rw [n7, if_pos (Int32.le_refl _)]
theorem cT_kids (h : RdF s t) (hf : TrF f t) (hN : 1000 ≤ N) {i : Nat} (hi : i < (qTr t).length) : fT_childrenOf N (nI i) s = some (nI (nC (ndA (qTr t) i)), s) := by
  have hl := hf.2.1
  have hb := nC_b hf hi _ (Nat.le_refl _)
  obtain ⟨⟨n1, n2, n3, n4, n5, n6, n7⟩, _⟩ := hf.2.2.2.2.1 i hi
  unfold fT_childrenOf
  rw [if_pos (jIn_nI (by omega) (by decide)), nI_clamp (show i < 2 ^ 31 by omega), (h.2.1.2.2.1 i hi).2.1, nI_add, nI_1]
  exact cT_kidL h hf hi N 0 (by omega) (by omega)
theorem cT_chL (h : RdF s t) (hf : TrF f t) {i : Nat} (hi : i < (qTr t).length) {x : Nat} (hx : x < (qTr t).length) : ∀ (n c : Nat), nC (ndA (qTr t) i) < c + n → c ≤ nC (ndA (qTr t) i) → c ≤ x → fT_childOf_31 N n (nI x) (nI (i + nZ (ndA (qTr t) i))) (nI (hop (qTr t) (i + 1) c)) (nI c) s = some (if x < nC (ndA (qTr t) i) then nI (hop (qTr t) (i + 1) x) else -1, s) := by
  have hl := hf.2.1
  obtain ⟨⟨n1, n2, n3, n4, n5, n6, n7⟩, _⟩ := hf.2.2.2.2.1 i hi
  have hb := nC_b hf hi _ (Nat.le_refl _)
  intro n
  induction n with
  | zero => intro c h1 h2 h3; omega
  | succ n ih =>
    intro c h1 hc hcx
    show fT_childOf_b31 N (fT_childOf_31 N n) _ _ _ _ s = _
    unfold fT_childOf_b31 fT_childOf_61
    by_cases hq : c < nC (ndA (qTr t) i)
    · have h6 := n6 c hq
      by_cases hxc : x = c
      · subst hxc
        rw [if_pos (Int32.le_refl _), if_neg (nI_ge h6 (by omega)), if_pos hq]
      · rw [if_neg (nI_ge (show c < x by omega) (by omega)), if_neg (nI_ge h6 (by omega)), if_pos (jIn_nI (by omega) (by decide)), nI_clamp (by omega), (h.2.1.2.2.1 (hop (qTr t) (i + 1) c) (by omega)).2.1, nI_add, nI_1, ← hop_e]
        exact ih (c + 1) (by omega) (by omega) (by omega)
    · obtain rfl : c = nC (ndA (qTr t) i) := by omega
      rw [n7, if_neg (show ¬ x < nC (ndA (qTr t) i) by omega)]
      have e : (if nI (i + nZ (ndA (qTr t) i)) ≤ nI (i + nZ (ndA (qTr t) i)) then some ((-1 : Int32), s) else some (nI (i + nZ (ndA (qTr t) i)), s)) = some (-1, s) := if_pos (Int32.le_refl _)
      rw [e, if_pos (Int32.le_refl _), ite_self]
theorem cT_par (h : RdF s t) (hf : TrF f t) {i : Nat} (hi : i < (qTr t).length) : ∀ (n m : Nat), m < n → m ≤ i → fT_parentOf_4 N n (nI i) (nI m - 1) s = some (match qPar (qTr t) i m with | none => -1 | some x => nI (0 + x), s) := by
  have hl := hf.2.1
  intro n
  induction n with
  | zero => intro m h1 h2; omega
  | succ n ih =>
    intro m h1 hm
    show fT_parentOf_b4 N (fT_parentOf_4 N n) _ _ s = _
    unfold fT_parentOf_b4
    cases m with
    | zero =>
      rw [if_pos (by decide)]
      rfl
    | succ m =>
      have hwf := (hf.2.2.2.2.1 m (by omega)).1.1
      rw [nI_pred, if_neg (nI_pos (by omega)), if_pos (jIn_nI (by omega) (by decide)), nI_clamp (by omega), (h.2.1.2.2.1 m (by omega)).2.1, nI_add, qPar]
      by_cases hq : i < m + nZ (ndA (qTr t) m)
      · rw [if_neg (nI_ge hq (by omega)), if_pos hq]
        show some (nI m, s) = some (nI (0 + m), s)
        rw [Nat.zero_add]
      · rw [if_pos (nI_le (by omega) (by omega)), if_neg hq, show nI m + (-1) = nI m - 1 from (Int32.sub_eq_add_neg _ _).symm]
        exact ih m (by omega) (by omega)
theorem cT_parent (h : RdF s t) (hf : TrF f t) (hN : 1000 ≤ N) {i : Nat} (hi : i < (qTr t).length) : fT_parentOf N (nI i) s = some (paF (-1) 0 (qTr t) i, s) := cT_par h hf hi N i (by have := hf.2.1; omega) (Nat.le_refl _)
theorem cT_mis (h : RdF s t) (hf : TrF f t) {i : Nat} (hi : i < (qTr t).length) : fT_isMissing N (nI i) s = some (if nM (ndA (qTr t) i) = 0 then 0 else 1, s) := by
  have hl := hf.2.1
  have hk := nK_le hf hi
  unfold fT_isMissing
  rw [cT_leaf h hf hi, jB_s]
  obtain ⟨⟨n1, n2, n3, n4, _⟩, n5⟩ := hf.2.2.2.2.1 i hi
  rcases n4 with n4 | n4
  · rw [if_pos n4.2.2.2.1, if_neg (by decide), if_pos (jIn_nI (by omega) (by decide)), nI_clamp (show i < 2 ^ 31 by omega), (h.2.1.2.2.1 i hi).1]
    have h60 := hf.1
    by_cases h17 : nK (ndA (qTr t) i) = 17
    · rw [if_pos (by rw [h17]; rfl)]
      rcases n4.2.2.2.2.2.2 with q | q
      · rw [if_pos q.1]
      · exact absurd h17 q.2.2.1
    · rw [if_neg (show ¬ nI (nK (ndA (qTr t) i)) = 17 from fun z => h17 ((nI_eq (b := 17) (by omega) (by decide)).mp z)), cT_str h hf hi, jB_s]
      rcases n4.2.2.2.2.2.2 with q | q
      · rw [if_pos q.1, if_neg (nI_ne0 (by have := q.2.2; omega) (by omega))]
      · rw [if_neg (show ¬ nM (ndA (qTr t) i) = 0 by have := q.1; omega), if_pos (by rw [show nT (ndA (qTr t) i) - nF (ndA (qTr t) i) = 0 by have := q.2.1; omega]; rfl)]
  · rw [if_neg (show ¬ nK (ndA (qTr t) i) < 20 by omega), if_pos rfl, if_pos n4.2.2.2.2.1]
/-- the first leaf from i on whose end is behind p -/
def qFi (l : List Nd) (p : Nat) : Nat → Nat → Option Nat
  | 0, _ => none
  | n + 1, i => if nK (ndA l i) < 20 ∧ p < nT (ndA l i) then some i else qFi l p n (i + 1)
theorem cT_find (h : RdF s t) (hf : TrF f t) {p : Nat} (hp : p ≤ 60) : ∀ (n m i : Nat), (qTr t).length = i + m → m < n → fT_leafAt_19 N n (nI p) (nI i) s = some (match qFi (qTr t) p m i with | none => nI ((qTr t).length - 1) | some x => nI x, s) := by
  have hl := hf.2.1
  have h2 := hf.2.2.2.1
  intro n
  induction n with
  | zero => intro m i h1 h2; omega
  | succ n ih =>
    intro m i hm hn
    show fT_leafAt_b19 N (fT_leafAt_19 N n) _ _ s = _
    unfold fT_leafAt_b19
    rw [h.2.1.1]
    cases m with
    | zero =>
      rw [if_pos (nI_le (by omega) (by omega)), show nI (qTr t).length - 1 = nI ((qTr t).length - 1) from pk_sub (b := 1) (by omega)]
      rfl
    | succ m =>
      have hi : i < (qTr t).length := by omega
      obtain ⟨⟨n1, n2, n3, n4, _⟩, n5⟩ := hf.2.2.2.2.1 i hi
      have h60 := hf.1
      rw [if_neg (nI_ge hi (by omega)), cT_leaf h hf hi, jB_s, qFi, nI_1]
      by_cases hk : nK (ndA (qTr t) i) < 20
      · have hlf : nZ (ndA (qTr t) i) = 1 := by
          rcases n4 with n4 | n4
          · exact n4.2.2.2.2.1
          · omega
        rw [hlf] at n3
        rw [if_pos hk, if_neg (by decide), if_pos (jIn_nI (by omega) (by decide)), nI_clamp (show i + 1 < 2 ^ 31 by omega), rd_6 h (by omega), ← n3]
        by_cases hq : p < nT (ndA (qTr t) i)
        · rw [if_neg (nI_ge hq (by omega)), if_pos ⟨hk, hq⟩]
        · rw [if_pos (nI_le (by omega) (by omega)), if_neg (fun z => hq z.2)]
          exact ih m (i + 1) (by omega) (by omega)
      · rw [if_neg hk, if_pos rfl, if_neg (fun z => hk z.1)]
        exact ih m (i + 1) (by omega) (by omega)
def qLc (l : List Nd) : Nat → Nat → Nat
  | 0, _ => 0
  | n + 1, i => (if nK (ndA l i) < 20 then 1 else 0) + qLc l n (i + 1)
theorem cT_lcL (h : RdF s t) (hf : TrF f t) : ∀ (n m i x : Nat), (qTr t).length = i + m → m < n → fT_leafCount_4 N n (nI x) (nI i) s = some (nI (x + qLc (qTr t) m i), s) := by
  have hl := hf.2.1
  intro n
  induction n with
  | zero => intro m i x h1 h2; omega
  | succ n ih =>
    intro m i x hm hn
    show fT_leafCount_b4 N (fT_leafCount_4 N n) _ _ s = _
    unfold fT_leafCount_b4
    rw [h.2.1.1]
    cases m with
    | zero =>
      rw [if_pos (nI_le (by omega) (by omega))]
      rfl
    | succ m =>
      have hi : i < (qTr t).length := by omega
      rw [if_neg (nI_ge hi (by omega)), cT_leaf h hf hi, jB_s, qLc, nI_1, nI_1]
      by_cases hk : nK (ndA (qTr t) i) < 20
      · rw [if_pos hk, if_neg (by decide), if_pos hk, ih m (i + 1) (x + 1) (by omega) (by omega), Nat.add_assoc]
      · rw [if_neg hk, if_pos rfl, if_neg hk, ih m (i + 1) x (by omega) (by omega), Nat.zero_add]
end CQ
