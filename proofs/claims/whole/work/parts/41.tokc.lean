/-! the class's tokens are the specification's -/
theorem jB_s {σ ρ : Type} {r : Int32} {s : σ} {k : Int32 → σ → Option ρ} : jB (some (r, s)) k = k r s := rfl
theorem jL_e {σ ρ : Type} {x : σ} {k : σ → ρ} : jL x k = k x := rfl
theorem jIn_nI {k n : Nat} (h : k < n) (hn : n < 2 ^ 31) : jIn (nI k) n = true := by
  simp only [jIn, Bool.and_eq_true, decide_eq_true_eq]
  rw [nI_toInt (by omega)]
  omega
/-- the reading's text is t -/
def TxR (s : jS) (t : List Int32) : Prop := jgI s 0 = nI t.length ∧ t.length ≤ 60 ∧ ∀ p, p < t.length → jgA s 0 p = qAt t p
theorem qAt_out {t : List Int32} {p : Nat} (h : t.length ≤ p) : qAt t p = 0 := by simp [qAt, List.getD, List.getElem?_eq_none h]
theorem drop_at {t : List Int32} {p : Nat} (h : p < t.length) : t.drop p = qAt t p :: t.drop (p + 1) := by
  rw [List.drop_eq_getElem_cons h]
  simp [qAt, List.getD, h]
theorem pL_at {N p : Nat} {s : jS} {t : List Int32} (h : TxR s t) (hp : p < 2 ^ 31) : fL_at N (nI p) s = some (qAt t p, s) := by
  obtain ⟨h0, h1, h2⟩ := h
  unfold fL_at
  rw [if_neg (nI_pos hp), h0]
  by_cases hl : p < t.length
  · rw [if_neg (nI_ge hl (by omega)), if_pos (jIn_nI (by omega) (by omega)), nI_clamp hp, h2 p hl]
  · rw [if_pos (nI_le (by omega) hp), qAt_out (by omega)]
theorem pK_sm {N : Nat} {c : Int32} {s : jS} : fK_isSmallLetter N c s = some ((if qSm c = true then 1 else 0), s) := by
  unfold fK_isSmallLetter qSm
  by_cases h1 : c < 97
  · have h3 : ¬ (97 : Int32) ≤ c := Int32.not_le.mpr h1
    simp [h1, h3]
  · have h3 : (97 : Int32) ≤ c := Int32.not_lt.mp h1
    by_cases h2 : 122 < c
    · have h4 : ¬ c ≤ (122 : Int32) := Int32.not_le.mpr h2
      simp [h1, h2, h3, h4]
    · have h4 : c ≤ (122 : Int32) := Int32.not_lt.mp h2
      simp [h1, h2, h3, h4]
theorem pK_dg {N : Nat} {c : Int32} {s : jS} : fK_isDigit N c s = some ((if qDg c = true then 1 else 0), s) := by
  unfold fK_isDigit qDg
  by_cases h1 : c < 48
  · have h3 : ¬ (48 : Int32) ≤ c := Int32.not_le.mpr h1
    simp [h1, h3]
  · have h3 : (48 : Int32) ≤ c := Int32.not_lt.mp h1
    by_cases h2 : 57 < c
    · have h4 : ¬ c ≤ (57 : Int32) := Int32.not_le.mpr h2
      simp [h1, h2, h3, h4]
    · have h4 : c ≤ (57 : Int32) := Int32.not_lt.mp h2
      simp [h1, h2, h3, h4]
theorem qBlk_le : ∀ (cm : Bool) (l : List Int32), qBlk cm l ≤ l.length
  | _, [] => Nat.le_refl _
  | cm, c :: r => by
    have h1 := qBlk_le true r
    have h2 := qBlk_le false r
    simp only [qBlk, List.length_cons]
    split
    · omega
    · split
      · omega
      · split
        · omega
        · split <;> omega
theorem qRun_le (f : Int32 → Bool) : ∀ (l : List Int32), qRun f l ≤ l.length
  | [] => Nat.le_refl _
  | c :: r => by
    have h1 := qRun_le f r
    simp only [qRun, List.length_cons]
    split <;> omega
theorem pK_blk {N : Nat} {s : jS} {t : List Int32} (h : TxR s t) : ∀ (n p : Nat) (cm : Bool), t.length < p + n → p ≤ t.length → fK_behindBlanks_4 N n (if cm = true then 1 else 0) (nI p) s = some (nI (p + qBlk cm (t.drop p)), s) := by
  intro n
  induction n with
  | zero => intro p cm h1 h2; omega
  | succ n ih =>
    intro p cm h1 h2
    show fK_behindBlanks_b4 N (fK_behindBlanks_4 N n) (if cm = true then 1 else 0) (nI p) s = _
    unfold fK_behindBlanks_b4
    have hl := h.2.1
    rw [h.1]
    by_cases hp : p < t.length
    · rw [if_neg (nI_ge hp (by omega)), pL_at h (by omega), jB_s, drop_at hp, qBlk, nI_1]
      have a1 := ih (p + 1) false (by omega) (by omega)
      have a2 := ih (p + 1) true (by omega) (by omega)
      have e1 : p + 1 + qBlk false (t.drop (p + 1)) = p + (qBlk false (t.drop (p + 1)) + 1) := by omega
      have e2 : p + 1 + qBlk true (t.drop (p + 1)) = p + (qBlk true (t.drop (p + 1)) + 1) := by omega
      rw [e1] at a1
      rw [e2] at a2
      by_cases c10 : qAt t p = 10
      · rw [if_pos c10, if_pos c10]
        exact a1
      · rw [if_neg c10, if_neg c10]
        by_cases c35 : qAt t p = 35
        · have c32 : ¬ qAt t p = 32 := by rw [c35]; decide
          rw [if_pos c35, if_neg c32, if_pos c35]
          cases cm
          · exact a2
          · exact a2
        · rw [if_neg c35]
          by_cases c32 : qAt t p = 32
          · rw [if_pos c32, if_pos c32]
            cases cm
            · exact a1
            · exact a2
          · rw [if_neg c32, if_neg c32, if_neg c35]
            cases cm
            · rfl
            · exact a2
    · rw [if_pos (nI_le (by omega) (by omega)), List.drop_eq_nil_of_le (by omega)]
      rfl
theorem pK_behindBlanks {N p : Nat} {s : jS} {t : List Int32} (h : TxR s t) (hN : 100 ≤ N) (hp : p ≤ t.length) : fK_behindBlanks N (nI p) s = some (nI (qOwn t p), s) := by
  have hl := h.2.1
  exact pK_blk h N p false (by omega) hp
theorem pK_runS {N : Nat} {s : jS} {t : List Int32} (h : TxR s t) : ∀ (n p : Nat), t.length < p + n → p ≤ t.length → fK_behindOwn_18 N n (nI p) s = some (nI (p + qRun qSm (t.drop p)), s) := by
  intro n
  induction n with
  | zero => intro p h1 h2; omega
  | succ n ih =>
    intro p h1 h2
    show fK_behindOwn_b18 N (fK_behindOwn_18 N n) (nI p) s = _
    unfold fK_behindOwn_b18
    have hl := h.2.1
    rw [h.1]
    by_cases hp : p < t.length
    · rw [if_neg (nI_ge hp (by omega)), pL_at h (by omega), jB_s, pK_sm, jB_s, drop_at hp, qRun, nI_1]
      cases hc : qSm (qAt t p)
      · rfl
      · have a1 := ih (p + 1) (by omega) (by omega)
        rw [show p + 1 + qRun qSm (t.drop (p + 1)) = p + (qRun qSm (t.drop (p + 1)) + 1) by omega] at a1
        exact a1
    · rw [if_pos (nI_le (by omega) (by omega)), List.drop_eq_nil_of_le (by omega)]
      rfl
theorem pK_runD {N : Nat} {s : jS} {t : List Int32} (h : TxR s t) : ∀ (n p : Nat), t.length < p + n → p ≤ t.length → fK_behindOwn_56 N n (nI p) s = some (nI (p + qRun qDg (t.drop p)), s) := by
  intro n
  induction n with
  | zero => intro p h1 h2; omega
  | succ n ih =>
    intro p h1 h2
    show fK_behindOwn_b56 N (fK_behindOwn_56 N n) (nI p) s = _
    unfold fK_behindOwn_b56
    have hl := h.2.1
    rw [h.1]
    by_cases hp : p < t.length
    · rw [if_neg (nI_ge hp (by omega)), pL_at h (by omega), jB_s, pK_dg, jB_s, drop_at hp, qRun, nI_1]
      cases hc : qDg (qAt t p)
      · rfl
      · have a1 := ih (p + 1) (by omega) (by omega)
        rw [show p + 1 + qRun qDg (t.drop (p + 1)) = p + (qRun qDg (t.drop (p + 1)) + 1) by omega] at a1
        exact a1
    · rw [if_pos (nI_le (by omega) (by omega)), List.drop_eq_nil_of_le (by omega)]
      rfl
theorem qSm_0 : qSm 0 = false := by decide
theorem qDg_0 : qDg 0 = false := by decide
theorem pK_behindOwn {N p : Nat} {s : jS} {t : List Int32} (h : TxR s t) (hN : 100 ≤ N) (hp : p ≤ t.length) : fK_behindOwn N (nI p) s = some (nI (qEnd t p), s) := by
  have hl := h.2.1
  unfold fK_behindOwn qEnd
  rw [pL_at h (by omega), jB_s, pK_sm, jB_s]
  by_cases hq : t.length ≤ p
  · rw [if_pos hq, qAt_out hq, qSm_0, if_pos (show (if false = true then (1 : Int32) else 0) = 0 from rfl), pK_dg, jB_s, qDg_0, if_pos (show (if false = true then (1 : Int32) else 0) = 0 from rfl), h.1, if_pos (nI_le hq (by omega))]
  · rw [if_neg hq]
    cases hs : qSm (qAt t p)
    · rw [if_pos (show (if false = true then (1 : Int32) else 0) = 0 from rfl), pK_dg, jB_s]
      cases hd : qDg (qAt t p)
      · rw [if_pos (show (if false = true then (1 : Int32) else 0) = 0 from rfl), h.1, if_neg (nI_ge (by omega) (by omega)), nI_1]
        rfl
      · exact pK_runD h N p (by omega) hp
    · exact pK_runS h N p (by omega) hp

theorem jz2 : (2 : Int32) >>> ((0 : Int32) &&& 31) = 2 := by decide
theorem jz4 : (4 : Int32) >>> ((0 : Int32) &&& 31) = 4 := by decide
theorem jz5 : (5 : Int32) >>> ((0 : Int32) &&& 31) = 5 := by decide
theorem jz10 : (10 : Int32) >>> ((0 : Int32) &&& 31) = 10 := by decide
/-- does the text spell w from place o on, from the i-th letter on -/
def qSp (t : List Int32) (o : Nat) : List Int32 → Nat → Bool
  | [], _ => true
  | c :: r, i => decide (qAt t (o + i) = c) && qSp t o r (i + 1)
theorem pS_len0 {N : Nat} {s : jS} : fJS_length_s0 N s = some (2, s) := by unfold fJS_length_s0 fJS_coder_s0; rw [jB_s, jz2]
theorem pS_len1 {N : Nat} {s : jS} : fJS_length_s1 N s = some (4, s) := by unfold fJS_length_s1 fJS_coder_s1; rw [jB_s, jz4]
theorem pS_len2 {N : Nat} {s : jS} : fJS_length_s2 N s = some (5, s) := by unfold fJS_length_s2 fJS_coder_s2; rw [jB_s, jz5]
theorem pS_ch0 {N k : Nat} {s : jS} (h : k < 2) : fJS_charAt_s0 N (nI k) s = some ((bytJ.getD 0 []).getD k 0, s) := by
  rcases (show k = 0 ∨ k = 1 by omega) with rfl | rfl <;>
    (unfold fJS_charAt_s0 fJS_isLatin1_s0
     rw [jB_s, if_neg (by decide)]
     unfold fJN_charAt_b0
     rw [if_neg (by decide +kernel), if_pos (by decide +kernel), if_pos (by decide +kernel), if_pos (by decide +kernel), jB_s, if_pos (by decide +kernel)]
     exact congrArg (fun x => some (x, s)) (by decide +kernel))
theorem pS_ch1 {N k : Nat} {s : jS} (h : k < 4) : fJS_charAt_s1 N (nI k) s = some ((bytJ.getD 1 []).getD k 0, s) := by
  rcases (show k = 0 ∨ k = 1 ∨ k = 2 ∨ k = 3 by omega) with rfl | rfl | rfl | rfl <;>
    (unfold fJS_charAt_s1 fJS_isLatin1_s1
     rw [jB_s, if_neg (by decide)]
     unfold fJN_charAt_b1
     rw [if_neg (by decide +kernel), if_pos (by decide +kernel), if_pos (by decide +kernel), if_pos (by decide +kernel), jB_s, if_pos (by decide +kernel)]
     exact congrArg (fun x => some (x, s)) (by decide +kernel))
theorem pS_ch2 {N k : Nat} {s : jS} (h : k < 5) : fJS_charAt_s2 N (nI k) s = some ((bytJ.getD 2 []).getD k 0, s) := by
  rcases (show k = 0 ∨ k = 1 ∨ k = 2 ∨ k = 3 ∨ k = 4 by omega) with rfl | rfl | rfl | rfl | rfl <;>
    (unfold fJS_charAt_s2 fJS_isLatin1_s2
     rw [jB_s, if_neg (by decide)]
     unfold fJN_charAt_b2
     rw [if_neg (by decide +kernel), if_pos (by decide +kernel), if_pos (by decide +kernel), if_pos (by decide +kernel), jB_s, if_pos (by decide +kernel)]
     exact congrArg (fun x => some (x, s)) (by decide +kernel))
theorem pK_sp0 {N o : Nat} {s : jS} {t : List Int32} (h : TxR s t) (ho : o ≤ 60) : ∀ (n i : Nat), 2 < i + n → i ≤ 2 → fK_spells_s0_15 N n (nI o) (nI i) s = some ((if qSp t o ((bytJ.getD 0 []).drop i) i = true then 1 else 0), s) := by
  intro n
  induction n with
  | zero => intro i h1 h2; omega
  | succ n ih =>
    intro i h1 h2
    show fK_spells_s0_b15 N (fK_spells_s0_15 N n) (nI o) (nI i) s = _
    unfold fK_spells_s0_b15
    rw [pS_len0, jB_s]
    by_cases hi : i < 2
    · have hd : (bytJ.getD 0 []).drop i = (bytJ.getD 0 []).getD i 0 :: (bytJ.getD 0 []).drop (i + 1) := by rcases (show i = 0 ∨ i = 1 by omega) with rfl | rfl <;> rfl
      rw [if_neg (show ¬ (2 : Int32) ≤ nI i from nI_ge (b := 2) hi (by decide)), nI_add, pL_at h (by omega), jB_s, pS_ch0 hi, jB_s, hd, qSp, nI_1]
      by_cases hc : qAt t (o + i) = (bytJ.getD 0 []).getD i 0
      · rw [if_pos hc, ih (i + 1) (by omega) (by omega), decide_eq_true hc, Bool.true_and]
      · rw [if_neg hc, decide_eq_false hc, Bool.false_and]
        rfl
    · rw [if_pos (show (2 : Int32) ≤ nI i from nI_le (a := 2) (by omega) (by omega)), show i = 2 by omega]
      rfl
theorem pK_sp1 {N o : Nat} {s : jS} {t : List Int32} (h : TxR s t) (ho : o ≤ 60) : ∀ (n i : Nat), 4 < i + n → i ≤ 4 → fK_spells_s1_15 N n (nI o) (nI i) s = some ((if qSp t o ((bytJ.getD 1 []).drop i) i = true then 1 else 0), s) := by
  intro n
  induction n with
  | zero => intro i h1 h2; omega
  | succ n ih =>
    intro i h1 h2
    show fK_spells_s1_b15 N (fK_spells_s1_15 N n) (nI o) (nI i) s = _
    unfold fK_spells_s1_b15
    rw [pS_len1, jB_s]
    by_cases hi : i < 4
    · have hd : (bytJ.getD 1 []).drop i = (bytJ.getD 1 []).getD i 0 :: (bytJ.getD 1 []).drop (i + 1) := by rcases (show i = 0 ∨ i = 1 ∨ i = 2 ∨ i = 3 by omega) with rfl | rfl | rfl | rfl <;> rfl
      rw [if_neg (show ¬ (4 : Int32) ≤ nI i from nI_ge (b := 4) hi (by decide)), nI_add, pL_at h (by omega), jB_s, pS_ch1 hi, jB_s, hd, qSp, nI_1]
      by_cases hc : qAt t (o + i) = (bytJ.getD 1 []).getD i 0
      · rw [if_pos hc, ih (i + 1) (by omega) (by omega), decide_eq_true hc, Bool.true_and]
      · rw [if_neg hc, decide_eq_false hc, Bool.false_and]
        rfl
    · rw [if_pos (show (4 : Int32) ≤ nI i from nI_le (a := 4) (by omega) (by omega)), show i = 4 by omega]
      rfl
theorem pK_sp2 {N o : Nat} {s : jS} {t : List Int32} (h : TxR s t) (ho : o ≤ 60) : ∀ (n i : Nat), 5 < i + n → i ≤ 5 → fK_spells_s2_15 N n (nI o) (nI i) s = some ((if qSp t o ((bytJ.getD 2 []).drop i) i = true then 1 else 0), s) := by
  intro n
  induction n with
  | zero => intro i h1 h2; omega
  | succ n ih =>
    intro i h1 h2
    show fK_spells_s2_b15 N (fK_spells_s2_15 N n) (nI o) (nI i) s = _
    unfold fK_spells_s2_b15
    rw [pS_len2, jB_s]
    by_cases hi : i < 5
    · have hd : (bytJ.getD 2 []).drop i = (bytJ.getD 2 []).getD i 0 :: (bytJ.getD 2 []).drop (i + 1) := by rcases (show i = 0 ∨ i = 1 ∨ i = 2 ∨ i = 3 ∨ i = 4 by omega) with rfl | rfl | rfl | rfl | rfl <;> rfl
      rw [if_neg (show ¬ (5 : Int32) ≤ nI i from nI_ge (b := 5) hi (by decide)), nI_add, pL_at h (by omega), jB_s, pS_ch2 hi, jB_s, hd, qSp, nI_1]
      by_cases hc : qAt t (o + i) = (bytJ.getD 2 []).getD i 0
      · rw [if_pos hc, ih (i + 1) (by omega) (by omega), decide_eq_true hc, Bool.true_and]
      · rw [if_neg hc, decide_eq_false hc, Bool.false_and]
        rfl
    · rw [if_pos (show (5 : Int32) ≤ nI i from nI_le (a := 5) (by omega) (by omega)), show i = 5 by omega]
      rfl
theorem pK_spells {N o e : Nat} {s : jS} {t : List Int32} (h : TxR s t) (hN : 100 ≤ N) (ho : o ≤ e) (he : e ≤ 60) :
    fK_spells_s0 N (nI o) (nI e) s = some ((if e - o = 2 ∧ qSp t o [105, 102] 0 = true then 1 else 0), s) ∧
    fK_spells_s1 N (nI o) (nI e) s = some ((if e - o = 4 ∧ qSp t o [101, 108, 115, 101] 0 = true then 1 else 0), s) ∧
    fK_spells_s2 N (nI o) (nI e) s = some ((if e - o = 5 ∧ qSp t o [119, 104, 105, 108, 101] 0 = true then 1 else 0), s) := by
  refine ⟨?_, ?_, ?_⟩
  · unfold fK_spells_s0
    rw [pS_len0, jB_s, pk_sub ho]
    by_cases hc : e - o = 2
    · rw [if_pos (show nI (e - o) = 2 by rw [hc]; rfl)]
      have a := pK_sp0 (N := N) h (show o ≤ 60 by omega) N 0 (by omega) (by omega)
      simp only [hc, true_and]
      exact a
    · rw [if_neg (show ¬ nI (e - o) = 2 from fun q => hc ((nI_eq (by omega) (by decide)).mp q))]
      simp [hc]
  · unfold fK_spells_s1
    rw [pS_len1, jB_s, pk_sub ho]
    by_cases hc : e - o = 4
    · rw [if_pos (show nI (e - o) = 4 by rw [hc]; rfl)]
      have a := pK_sp1 (N := N) h (show o ≤ 60 by omega) N 0 (by omega) (by omega)
      simp only [hc, true_and]
      exact a
    · rw [if_neg (show ¬ nI (e - o) = 4 from fun q => hc ((nI_eq (by omega) (by decide)).mp q))]
      simp [hc]
  · unfold fK_spells_s2
    rw [pS_len2, jB_s, pk_sub ho]
    by_cases hc : e - o = 5
    · rw [if_pos (show nI (e - o) = 5 by rw [hc]; rfl)]
      have a := pK_sp2 (N := N) h (show o ≤ 60 by omega) N 0 (by omega) (by omega)
      simp only [hc, true_and]
      exact a
    · rw [if_neg (show ¬ nI (e - o) = 5 from fun q => hc ((nI_eq (by omega) (by decide)).mp q))]
      simp [hc]
theorem pK_word {N o e : Nat} {s : jS} {t : List Int32} (h : TxR s t) (hN : 100 ≤ N) (ho : o ≤ e) (he : e ≤ 60) : fK_wordKind N (nI o) (nI e) s = some (nI (qWord t o e), s) := by
  obtain ⟨h0, h1, h2⟩ := pK_spells (N := N) h hN ho he
  unfold fK_wordKind qWord
  rw [h0, jB_s]
  have s0 : qSp t o [105, 102] 0 = true ↔ qAt t o = 105 ∧ qAt t (o + 1) = 102 := by simp [qSp]
  have s1 : qSp t o [101, 108, 115, 101] 0 = true ↔ qAt t o = 101 ∧ qAt t (o + 1) = 108 ∧ qAt t (o + 2) = 115 ∧ qAt t (o + 3) = 101 := by simp [qSp]
  have s2 : qSp t o [119, 104, 105, 108, 101] 0 = true ↔ qAt t o = 119 ∧ qAt t (o + 1) = 104 ∧ qAt t (o + 2) = 105 ∧ qAt t (o + 3) = 108 ∧ qAt t (o + 4) = 101 := by simp [qSp]
  by_cases c0 : e - o = 2 ∧ qAt t o = 105 ∧ qAt t (o + 1) = 102
  · rw [if_pos (show e - o = 2 ∧ qSp t o [105, 102] 0 = true from ⟨c0.1, s0.mpr c0.2⟩), if_pos c0, if_neg (by decide)]
    rfl
  · rw [if_neg (show ¬ (e - o = 2 ∧ qSp t o [105, 102] 0 = true) from fun q => c0 ⟨q.1, s0.mp q.2⟩), if_neg c0, if_pos rfl, h1, jB_s]
    by_cases c1 : e - o = 4 ∧ qAt t o = 101 ∧ qAt t (o + 1) = 108 ∧ qAt t (o + 2) = 115 ∧ qAt t (o + 3) = 101
    · rw [if_pos (show e - o = 4 ∧ qSp t o [101, 108, 115, 101] 0 = true from ⟨c1.1, s1.mpr c1.2⟩), if_pos c1, if_neg (by decide)]
      rfl
    · rw [if_neg (show ¬ (e - o = 4 ∧ qSp t o [101, 108, 115, 101] 0 = true) from fun q => c1 ⟨q.1, s1.mp q.2⟩), if_neg c1, if_pos rfl, h2, jB_s]
      by_cases c2 : e - o = 5 ∧ qAt t o = 119 ∧ qAt t (o + 1) = 104 ∧ qAt t (o + 2) = 105 ∧ qAt t (o + 3) = 108 ∧ qAt t (o + 4) = 101
      · rw [if_pos (show e - o = 5 ∧ qSp t o [119, 104, 105, 108, 101] 0 = true from ⟨c2.1, s2.mpr c2.2⟩), if_pos c2, if_neg (by decide)]
        rfl
      · rw [if_neg (show ¬ (e - o = 5 ∧ qSp t o [119, 104, 105, 108, 101] 0 = true) from fun q => c2 ⟨q.1, s2.mp q.2⟩), if_neg c2, if_pos rfl]
        rfl
/-- a character that a text may have -/
def qOk (c : Int32) : Prop := c = 10 ∨ (32 ≤ c ∧ c ≤ 126)
theorem qOk_n {c : Int32} (h : qOk c) : ∃ n : Nat, n < 128 ∧ c = nI n := by
  rcases h with rfl | ⟨h1, h2⟩
  · exact ⟨10, by decide, rfl⟩
  · obtain ⟨j, hj, e⟩ := nI_of2 (M := 126) (n := 126) (by decide) (x := c) (fun q => absurd (Int32.lt_of_lt_of_le q (by decide : (0 : Int32) ≤ 32)) (Int32.not_lt.mpr h1)) h2
    exact ⟨j, by omega, e⟩
def qIx (x : Int32) : List Int32 → Nat → Int32
  | [], _ => -1
  | b :: r, i => if b = x then nI i else qIx x r (i + 1)
theorem pIxL {N : Nat} {s : jS} {x : Int32} : ∀ (m i : Nat), 10 < i + m → i ≤ 10 → fJN_indexOfChar_b3_7 N m 10 x (nI i) s = some (qIx x ((bytJ.getD 3 []).drop i) i, s) := by
  intro m
  induction m with
  | zero => intro i h1 h2; omega
  | succ m ih =>
    intro i h1 h2
    show fJN_indexOfChar_b3_b7 N (fJN_indexOfChar_b3_7 N m) 10 x (nI i) s = _
    unfold fJN_indexOfChar_b3_b7
    by_cases hi : i < 10
    · have hd : (bytJ.getD 3 []).drop i = (bytJ.getD 3 []).getD i 0 :: (bytJ.getD 3 []).drop (i + 1) := by
        rcases (show i = 0 ∨ i = 1 ∨ i = 2 ∨ i = 3 ∨ i = 4 ∨ i = 5 ∨ i = 6 ∨ i = 7 ∨ i = 8 ∨ i = 9 by omega) with rfl | rfl | rfl | rfl | rfl | rfl | rfl | rfl | rfl | rfl <;> rfl
      rw [if_neg (show ¬ (10 : Int32) ≤ nI i from nI_ge (b := 10) hi (by decide)), if_pos (jIn_nI hi (by decide)), nI_clamp (by omega), hd, qIx, nI_1]
      by_cases hc : (bytJ.getD 3 []).getD i 0 = x
      · rw [if_pos hc, if_pos hc]
      · rw [if_neg hc, if_neg hc]
        exact ih (i + 1) (by omega) (by omega)
    · rw [if_pos (show (10 : Int32) ≤ nI i from nI_le (a := 10) (by omega) (by omega)), show i = 10 by omega]
      rfl
theorem pIx_a : ∀ n : Nat, n < 128 → (nI n).toInt8.toInt32 = nI n := by decide +kernel
theorem pIx_b : ∀ n : Nat, n < 128 → ((nI n).toUInt32 % 65536).toInt32 = nI n := by decide +kernel
theorem pIx_c : ∀ n : Nat, n < 128 → (if 0 ≤ qIx (nI n) (bytJ.getD 3 []) 0 then (6 : Int32) + qIx (nI n) (bytJ.getD 3 []) 0 else 16) = nI (qSign (nI n)) := by decide +kernel
theorem pIx_d {N n : Nat} {s : jS} (hN : 100 ≤ N) (hn : n < 128) : fJN_indexOf_b3 N (nI n) 0 10 s = some (qIx (nI n) (bytJ.getD 3 []) 0, s) := by
  unfold fJN_indexOf_b3 fJN_canEncode
  rw [if_neg (nI_pos (by omega)), if_neg (show ¬ (255 : Int32) < nI n from nI_nlt (b := n) (a := 255) (by omega) (by decide)), jB_s, if_neg (by decide), if_pos (by decide)]
  unfold fJN_indexOfChar_b3
  rw [if_neg (by decide), if_neg (by decide), pIx_a n hn]
  have a := pIxL (N := N) (s := s) (x := nI n) N 0 (by omega) (by omega)
  rw [show nI 0 = (0 : Int32) from rfl] at a
  rw [a, jB_s]
  rfl
theorem pK_sign {N n : Nat} {s : jS} (hN : 100 ≤ N) (hn : n < 128) : fK_signKind N (nI n) s = some (nI (qSign (nI n)), s) := by
  unfold fK_signKind fJS_indexOf_s3 fJS_indexOf2_s3 fJS_isLatin1_s3 fJS_length_s3 fJS_coder_s3
  rw [pIx_b n hn, jB_s, if_neg (by decide), jB_s, jB_s, jz10, pIx_d hN hn, jB_s, jB_s, jB_s]
  have c := pIx_c n hn
  by_cases h0 : 0 ≤ qIx (nI n) (bytJ.getD 3 []) 0
  · rw [if_pos h0] at c ⊢
    rw [c]
  · rw [if_neg h0] at c ⊢
    rw [c]
/-- the text's characters are such as may be there -/
def TxOk (t : List Int32) : Prop := ∀ p, p < t.length → qOk (qAt t p)
theorem qEnd_ge (t : List Int32) (o : Nat) : o ≤ qEnd t o := by
  unfold qEnd
  split
  · exact Nat.le_refl _
  · split
    · omega
    · split <;> omega
theorem qEnd_le {t : List Int32} {o : Nat} (h : o ≤ t.length) : qEnd t o ≤ t.length := by
  unfold qEnd
  have h1 := qRun_le qSm (t.drop o)
  have h2 := qRun_le qDg (t.drop o)
  rw [List.length_drop] at h1 h2
  split
  · exact h
  · split
    · omega
    · split <;> omega
theorem qEnd_gt {t : List Int32} {o : Nat} (h : o < t.length) : o < qEnd t o := by
  unfold qEnd
  rw [if_neg (by omega)]
  split
  · rename_i hc
    rw [drop_at h, qRun, if_pos hc]
    omega
  · split
    · rename_i hc
      rw [drop_at h, qRun, if_pos hc]
      omega
    · omega
theorem qOwn_le {t : List Int32} {p : Nat} (h : p ≤ t.length) : qOwn t p ≤ t.length := by
  unfold qOwn
  have h1 := qBlk_le false (t.drop p)
  rw [List.length_drop] at h1
  omega
theorem pK_kindOf {N o : Nat} {s : jS} {t : List Int32} (h : TxR s t) (hok : TxOk t) (hN : 100 ≤ N) (ho : o ≤ t.length) : fK_kindOf N (nI o) (nI (qEnd t o)) s = some (nI (qKind t o (qEnd t o)), s) := by
  have hl := h.2.1
  have he := qEnd_le ho
  unfold fK_kindOf qKind
  by_cases hq : o < t.length
  · have hg := qEnd_gt hq
    rw [if_pos (nI_lt hg (by omega)), if_neg (show ¬ t.length ≤ o by omega), pL_at h (by omega), jB_s, pK_sm, jB_s]
    cases hs : qSm (qAt t o)
    · rw [if_pos (show (if false = true then (1 : Int32) else 0) = 0 from rfl), pK_dg, jB_s]
      cases hd : qDg (qAt t o)
      · obtain ⟨n, hn, en⟩ := qOk_n (hok o hq)
        rw [if_pos (show (if false = true then (1 : Int32) else 0) = 0 from rfl), en, pK_sign hN hn, jB_s]
        rfl
      · rfl
    · rw [if_neg (by decide), pK_word h hN (by omega) (by omega), jB_s]
      rfl
  · have e1 : qEnd t o = o := by unfold qEnd; rw [if_pos (by omega)]
    rw [e1, if_neg (show ¬ nI o < nI o from nI_nlt (Nat.le_refl _) (by omega)), if_pos (by omega)]
    rfl

theorem jgI_sI (s : jS) (k : Nat) (v : Int32) (j : Nat) : jgI (jsI s k v) j = if j = k then v else jgI s j := rfl
theorem jgI_sA (s : jS) (a i : Nat) (v : Int32) (j : Nat) : jgI (jsA s a i v) j = jgI s j := rfl
theorem jgA_sI (s : jS) (k : Nat) (v : Int32) (a : Nat) : jgA (jsI s k v) a = jgA s a := rfl
theorem jgA_sA (s : jS) (a i : Nat) (v : Int32) (b : Nat) : jgA (jsA s a i v) b = if b = a then upd (jgA s a) i v else jgA s b := rfl
theorem jgI_sF (s : jS) (a : Nat) (f : Nat → Int32) (j : Nat) : jgI (jsF s a f) j = jgI s j := rfl
theorem jgA_sF (s : jS) (a : Nat) (f : Nat → Int32) (b : Nat) : jgA (jsF s a f) b = if b = a then f else jgA s b := rfl
/-- nothing but these ints and arrays has changed -/
def jSm (ks as : List Nat) (s s' : jS) : Prop := (∀ k, k ∉ ks → jgI s' k = jgI s k) ∧ ∀ a, a ∉ as → jgA s' a = jgA s a
theorem jSm.rf {ks as : List Nat} {s : jS} : jSm ks as s s := ⟨fun _ _ => rfl, fun _ _ => rfl⟩
theorem jSm.tr {ks as : List Nat} {s s' s'' : jS} (h : jSm ks as s s') (h' : jSm ks as s' s'') : jSm ks as s s'' := ⟨fun k hk => (h'.1 k hk).trans (h.1 k hk), fun a ha => (h'.2 a ha).trans (h.2 a ha)⟩
theorem jSm.wk {ks as ks' as' : List Nat} {s s' : jS} (h : jSm ks as s s') (h1 : ∀ k ∈ ks, k ∈ ks') (h2 : ∀ a ∈ as, a ∈ as') : jSm ks' as' s s' := ⟨fun k hk => h.1 k (fun q => hk (h1 k q)), fun a ha => h.2 a (fun q => ha (h2 a q))⟩
theorem jSm.sI {ks as : List Nat} {s s' : jS} {k : Nat} {v : Int32} (h : jSm ks as s s') (hk : k ∈ ks) : jSm ks as s (jsI s' k v) := ⟨fun j hj => by rw [jgI_sI, if_neg (fun q => hj (by rw [q]; exact hk))]; exact h.1 j hj, h.2⟩
theorem jSm.sA {ks as : List Nat} {s s' : jS} {a i : Nat} {v : Int32} (h : jSm ks as s s') (ha : a ∈ as) : jSm ks as s (jsA s' a i v) := ⟨h.1, fun b hb => by rw [jgA_sA, if_neg (fun q => hb (by rw [q]; exact ha))]; exact h.2 b hb⟩
theorem jSm.sF {ks as : List Nat} {s s' : jS} {a : Nat} {f : Nat → Int32} (h : jSm ks as s s') (ha : a ∈ as) : jSm ks as s (jsF s' a f) := ⟨h.1, fun b hb => by rw [jgA_sF, if_neg (fun q => hb (by rw [q]; exact ha))]; exact h.2 b hb⟩
theorem TxR.sm {s s' : jS} {t : List Int32} {ks as : List Nat} (h : TxR s t) (hs : jSm ks as s s') (hk : 0 ∉ ks) (ha : 0 ∉ as) : TxR s' t := ⟨by rw [hs.1 0 hk]; exact h.1, h.2.1, fun p hp => by rw [hs.2 0 ha]; exact h.2.2 p hp⟩
/-- the tokens that are cut -/
def TkR (s : jS) (tk : List (Nat × Nat × Nat)) : Prop := jgI s 1 = nI tk.length ∧ ∀ i, i < tk.length → jgA s 1 i = nI (qK tk i) ∧ jgA s 2 i = nI (qO tk i) ∧ jgA s 3 i = nI (qE tk i)
theorem TkR.sm {s s' : jS} {tk : List (Nat × Nat × Nat)} {ks as : List Nat} (h : TkR s tk) (hs : jSm ks as s s') (hk : 1 ∉ ks) (h1 : 1 ∉ as) (h2 : 2 ∉ as) (h3 : 3 ∉ as) : TkR s' tk := ⟨by rw [hs.1 1 hk]; exact h.1, fun i hi => by rw [hs.2 1 h1, hs.2 2 h2, hs.2 3 h3]; exact h.2 i hi⟩
theorem getD_app_l {α : Type} {l m : List α} {i : Nat} {d : α} (h : i < l.length) : (l ++ m).getD i d = l.getD i d := by simp [List.getD, List.getElem?_append_left h]
theorem getD_app_r {α : Type} {l m : List α} {i : Nat} {d : α} (h : l.length ≤ i) : (l ++ m).getD i d = m.getD (i - l.length) d := by simp [List.getD, List.getElem?_append_right h]
theorem TkR.push {s : jS} {tk : List (Nat × Nat × Nat)} {k o e : Nat} (h : TkR s tk) : TkR (jsI (jsA (jsA (jsA s 1 tk.length (nI k)) 2 tk.length (nI o)) 3 tk.length (nI e)) 1 (nI (tk.length + 1))) (tk ++ [(k, o, e)]) := by
  refine ⟨by rw [jgI_sI, if_pos rfl]; simp, fun i hi => ?_⟩
  simp only [List.length_append, List.length_cons, List.length_nil] at hi
  simp only [jgA_sI, jgA_sA, if_pos, if_neg, upd]
  by_cases hl : i < tk.length
  · have hne : ¬ i = tk.length := by omega
    obtain ⟨h1, h2, h3⟩ := h.2 i hl
    simp only [qK, qO, qE, getD_app_l hl] at *
    simp [pk_un hne, h1, h2, h3]
    exact fun q => absurd q hne
  · have he : i = tk.length := by omega
    subst he
    simp [qK, qO, qE, pk_us]
theorem ite_le' {c : Prop} [Decidable c] {a b n : Nat} (h1 : a ≤ n) (h2 : b ≤ n) : (if c then a else b) ≤ n := by
  by_cases h : c
  · rw [if_pos h]; exact h1
  · rw [if_neg h]; exact h2
theorem qKind_le (t : List Int32) (o e : Nat) : qKind t o e ≤ 17 := by
  unfold qKind qWord qSign
  repeat' (first | apply ite_le' | decide)
theorem pK_cutL {N : Nat} {t : List Int32} (hok : TxOk t) (hN : 100 ≤ N) : ∀ (n : Nat) (tk : List (Nat × Nat × Nat)) (p : Nat) (x : Int32) (s : jS), TxR s t → TkR s tk → tk.length ≤ 61 → 61 - tk.length < n → p ≤ t.length → ¬ x = 17 → ∃ s', fK_cut_14 N n x (nI p) s = some (0, s') ∧ TkR s' (tk ++ qToks t (61 - tk.length) p) ∧ jSm [1] [1, 2, 3] s s' := by
  intro n
  induction n with
  | zero => intro tk p x s _ _ _ h; omega
  | succ n ih =>
    intro tk p x s hT hK h61 hn hp hx
    show ∃ s', fK_cut_b14 N (fK_cut_14 N n) x (nI p) s = some (0, s') ∧ _
    unfold fK_cut_b14
    rw [hK.1]
    by_cases hu : 61 ≤ tk.length
    · rw [if_pos (show (61 : Int32) ≤ nI tk.length from nI_le (a := 61) hu (by omega))]
      refine ⟨s, rfl, ?_, jSm.rf⟩
      rw [show 61 - tk.length = 0 by omega, qToks, List.append_nil]
      exact hK
    · have hol := qOwn_le hp
      rw [if_neg (show ¬ (61 : Int32) ≤ nI tk.length from nI_ge (b := 61) (by omega) (by decide)), if_neg hx, pK_behindBlanks hT hN hp, jB_s, pK_behindOwn hT hN hol, jB_s, pK_kindOf hT hok hN hol, jB_s, hK.1, if_pos (jIn_nI (by omega) (by decide)), jL_e, nI_clamp (by omega)]
      simp only [jgI_sA, hK.1]
      rw [if_pos (jIn_nI (by omega) (by decide)), jL_e, nI_clamp (by omega)]
      simp only [jgI_sA, hK.1]
      rw [if_pos (jIn_nI (by omega) (by decide)), jL_e, jL_e, nI_clamp (by omega)]
      simp only [jgI_sA, hK.1]
      rw [nI_1]
      have hK2 := hK.push (k := qKind t (qOwn t p) (qEnd t (qOwn t p))) (o := qOwn t p) (e := qEnd t (qOwn t p))
      have hs2 : jSm [1] [1, 2, 3] s (jsI (jsA (jsA (jsA s 1 tk.length (nI (qKind t (qOwn t p) (qEnd t (qOwn t p))))) 2 tk.length (nI (qOwn t p))) 3 tk.length (nI (qEnd t (qOwn t p)))) 1 (nI (tk.length + 1))) := (((jSm.rf.sA (by decide)).sA (by decide)).sA (by decide)).sI (by decide)
      generalize jsI (jsA (jsA (jsA s 1 tk.length (nI (qKind t (qOwn t p) (qEnd t (qOwn t p))))) 2 tk.length (nI (qOwn t p))) 3 tk.length (nI (qEnd t (qOwn t p)))) 1 (nI (tk.length + 1)) = s2 at hK2 hs2 ⊢
      have hT2 := hT.sm hs2 (by decide) (by decide)
      rw [show 61 - tk.length = (61 - (tk.length + 1)) + 1 by omega, qToks]
      by_cases h17 : qKind t (qOwn t p) (qEnd t (qOwn t p)) = 17
      · rw [if_pos h17, h17]
        rw [h17] at hK2
        refine ⟨s2, ?_, hK2, hs2⟩
        cases n with
        | zero => omega
        | succ n =>
          show fK_cut_b14 N (fK_cut_14 N n) (nI 17) (nI (qEnd t (qOwn t p))) s2 = _
          unfold fK_cut_b14
          by_cases hv : (61 : Int32) ≤ jgI s2 1
          · rw [if_pos hv]
          · rw [if_neg hv, if_pos (show nI 17 = 17 from rfl)]
      · rw [if_neg h17]
        have hq17 : qKind t (qOwn t p) (qEnd t (qOwn t p)) < 2 ^ 31 := Nat.lt_of_le_of_lt (qKind_le _ _ _) (by decide)
        obtain ⟨s3, e3, k3, m3⟩ := ih (tk ++ [(qKind t (qOwn t p) (qEnd t (qOwn t p)), qOwn t p, qEnd t (qOwn t p))]) (qEnd t (qOwn t p)) (nI (qKind t (qOwn t p) (qEnd t (qOwn t p)))) s2 hT2 hK2 (by simp; omega) (by simp; omega) (qEnd_le hol) (fun q => h17 ((nI_eq hq17 (by decide)).mp q))
        refine ⟨s3, e3, ?_, hs2.tr m3⟩
        simp only [List.length_append, List.length_cons, List.length_nil, List.append_assoc, List.cons_append, List.nil_append] at k3
        exact k3
/-- Tokens.cut(): the tokens of the text -/
theorem pK_cut {N : Nat} {s : jS} {t : List Int32} (h : TxR s t) (hok : TxOk t) (hN : 100 ≤ N) : ∃ s', fK_cut N s = some (0, s') ∧ TkR s' (qToks t 61 0) ∧ jgI s' 2 = 0 ∧ jSm [1, 2] [1, 2, 3] s s' := by
  unfold fK_cut
  rw [jL_e, jL_e]
  have hs : jSm [1, 2] [1, 2, 3] s (jsI (jsI s 1 0) 2 0) := (jSm.rf.sI (by decide)).sI (by decide)
  have h0 : TkR (jsI (jsI s 1 0) 2 0) [] := ⟨rfl, fun i hi => by simp at hi⟩
  have h2 : jgI (jsI (jsI s 1 0) 2 0) 2 = 0 := rfl
  generalize jsI (jsI s 1 0) 2 0 = s1 at hs h0 h2 ⊢
  obtain ⟨s', e1, k1, m1⟩ := pK_cutL hok hN N [] 0 (-1) s1 (h.sm hs (by decide) (by decide)) h0 (by decide) (by simp; omega) (Nat.zero_le _) (by decide)
  exact ⟨s', e1, k1, by rw [m1.1 2 (by decide)]; exact h2, hs.tr (m1.wk (by decide) (by decide))⟩
