/-! the class's tokens are the specification's -/
theorem jB_s {σ ρ : Type} {r : Int32} {s : σ} {k : Int32 → σ → Option ρ} : jB (some (r, s)) k = k r s := rfl
theorem jL_e {σ ρ : Type} {x : σ} {k : σ → ρ} : jL x k = k x := rfl
theorem jIn_nI {k n : Nat} (h : k < n) (hn : n < 2 ^ 31) : jIn (nI k) n = true := by
  simp only [jIn, Bool.and_eq_true, decide_eq_true_eq]
  rw [nI_toInt (by omega)]
  omega
/-- the reading's text is t -/
def TxR (s : jS) (t : List Int32) : Prop := jgI s 0 = nI t.length ∧ t.length ≤ 60 ∧ ∀ p, p < t.length → jgA s 0 p = qAt t p
theorem qAt_out {t : List Int32} {p : Nat} (h : t.length ≤ p) : qAt t p = 0 := by simp [qAt, List.getD, List.getElem?_eq_none h]
theorem drop_at {t : List Int32} {p : Nat} (h : p < t.length) : t.drop p = qAt t p :: t.drop (p + 1) := by
  rw [List.drop_eq_getElem_cons h]
  simp [qAt, List.getD, h]
theorem pL_at {N p : Nat} {s : jS} {t : List Int32} (h : TxR s t) (hp : p < 2 ^ 31) : fL_at N (nI p) s = some (qAt t p, s) := by
  obtain ⟨h0, h1, h2⟩ := h
  unfold fL_at
  rw [if_neg (nI_pos hp), h0]
  by_cases hl : p < t.length
  · rw [if_neg (nI_ge hl (by omega)), if_pos (jIn_nI (by omega) (by omega)), nI_clamp hp, h2 p hl]
  · rw [if_pos (nI_le (by omega) hp), qAt_out (by omega)]
theorem pK_sm {N : Nat} {c : Int32} {s : jS} : fK_isSmallLetter N c s = some ((if qSm c = true then 1 else 0), s) := by
  unfold fK_isSmallLetter qSm
  by_cases h1 : c < 97
  · have h3 : ¬ (97 : Int32) ≤ c := Int32.not_le.mpr h1
    simp [h1, h3]
  · have h3 : (97 : Int32) ≤ c := Int32.not_lt.mp h1
    by_cases h2 : 122 < c
    · have h4 : ¬ c ≤ (122 : Int32) := Int32.not_le.mpr h2
      simp [h1, h2, h3, h4]
    · have h4 : c ≤ (122 : Int32) := Int32.not_lt.mp h2
      simp [h1, h2, h3, h4]
theorem pK_dg {N : Nat} {c : Int32} {s : jS} : fK_isDigit N c s = some ((if qDg c = true then 1 else 0), s) := by
  unfold fK_isDigit qDg
  by_cases h1 : c < 48
  · have h3 : ¬ (48 : Int32) ≤ c := Int32.not_le.mpr h1
    simp [h1, h3]
  · have h3 : (48 : Int32) ≤ c := Int32.not_lt.mp h1
    by_cases h2 : 57 < c
    · have h4 : ¬ c ≤ (57 : Int32) := Int32.not_le.mpr h2
      simp [h1, h2, h3, h4]
    · have h4 : c ≤ (57 : Int32) := Int32.not_lt.mp h2
      simp [h1, h2, h3, h4]
theorem qBlk_le : ∀ (cm : Bool) (l : List Int32), qBlk cm l ≤ l.length
  | _, [] => Nat.le_refl _
  | cm, c :: r => by
    have h1 := qBlk_le true r
    have h2 := qBlk_le false r
    simp only [qBlk, List.length_cons]
    split
    · omega
    · split
      · omega
      · split
        · omega
        · split <;> omega
theorem qRun_le (f : Int32 → Bool) : ∀ (l : List Int32), qRun f l ≤ l.length
  | [] => Nat.le_refl _
  | c :: r => by
    have h1 := qRun_le f r
    simp only [qRun, List.length_cons]
    split <;> omega
theorem pK_blk {N : Nat} {s : jS} {t : List Int32} (h : TxR s t) : ∀ (n p : Nat) (cm : Bool), t.length < p + n → p ≤ t.length → fK_behindBlanks_4 N n (if cm = true then 1 else 0) (nI p) s = some (nI (p + qBlk cm (t.drop p)), s) := by
  intro n
  induction n with
  | zero => intro p cm h1 h2; omega
  | succ n ih =>
    intro p cm h1 h2
    show fK_behindBlanks_b4 N (fK_behindBlanks_4 N n) (if cm = true then 1 else 0) (nI p) s = _
    unfold fK_behindBlanks_b4
    have hl := h.2.1
    rw [h.1]
    by_cases hp : p < t.length
    · rw [if_neg (nI_ge hp (by omega)), pL_at h (by omega), jB_s, drop_at hp, qBlk, nI_1]
      have a1 := ih (p + 1) false (by omega) (by omega)
      have a2 := ih (p + 1) true (by omega) (by omega)
      have e1 : p + 1 + qBlk false (t.drop (p + 1)) = p + (qBlk false (t.drop (p + 1)) + 1) := by omega
      have e2 : p + 1 + qBlk true (t.drop (p + 1)) = p + (qBlk true (t.drop (p + 1)) + 1) := by omega
      rw [e1] at a1
      rw [e2] at a2
      by_cases c10 : qAt t p = 10
      · rw [if_pos c10, if_pos c10]
        exact a1
      · rw [if_neg c10, if_neg c10]
        by_cases c35 : qAt t p = 35
        · have c32 : ¬ qAt t p = 32 := by rw [c35]; decide
          rw [if_pos c35, if_neg c32, if_pos c35]
          cases cm
          · exact a2
          · exact a2
        · rw [if_neg c35]
          by_cases c32 : qAt t p = 32
          · rw [if_pos c32, if_pos c32]
            cases cm
            · exact a1
            · exact a2
          · rw [if_neg c32, if_neg c32, if_neg c35]
            cases cm
            · rfl
            · exact a2
    · rw [if_pos (nI_le (by omega) (by omega)), List.drop_eq_nil_of_le (by omega)]
      rfl
theorem pK_behindBlanks {N p : Nat} {s : jS} {t : List Int32} (h : TxR s t) (hN : 100 ≤ N) (hp : p ≤ t.length) : fK_behindBlanks N (nI p) s = some (nI (qOwn t p), s) := by
  have hl := h.2.1
  exact pK_blk h N p false (by omega) hp
theorem pK_runS {N : Nat} {s : jS} {t : List Int32} (h : TxR s t) : ∀ (n p : Nat), t.length < p + n → p ≤ t.length → fK_behindOwn_18 N n (nI p) s = some (nI (p + qRun qSm (t.drop p)), s) := by
  intro n
  induction n with
  | zero => intro p h1 h2; omega
  | succ n ih =>
    intro p h1 h2
    show fK_behindOwn_b18 N (fK_behindOwn_18 N n) (nI p) s = _
    unfold fK_behindOwn_b18
    have hl := h.2.1
    rw [h.1]
    by_cases hp : p < t.length
    · rw [if_neg (nI_ge hp (by omega)), pL_at h (by omega), jB_s, pK_sm, jB_s, drop_at hp, qRun, nI_1]
      cases hc : qSm (qAt t p)
      · rfl
      · have a1 := ih (p + 1) (by omega) (by omega)
        rw [show p + 1 + qRun qSm (t.drop (p + 1)) = p + (qRun qSm (t.drop (p + 1)) + 1) by omega] at a1
        exact a1
    · rw [if_pos (nI_le (by omega) (by omega)), List.drop_eq_nil_of_le (by omega)]
      rfl
theorem pK_runD {N : Nat} {s : jS} {t : List Int32} (h : TxR s t) : ∀ (n p : Nat), t.length < p + n → p ≤ t.length → fK_behindOwn_56 N n (nI p) s = some (nI (p + qRun qDg (t.drop p)), s) := by
  intro n
  induction n with
  | zero => intro p h1 h2; omega
  | succ n ih =>
    intro p h1 h2
    show fK_behindOwn_b56 N (fK_behindOwn_56 N n) (nI p) s = _
    unfold fK_behindOwn_b56
    have hl := h.2.1
    rw [h.1]
    by_cases hp : p < t.length
    · rw [if_neg (nI_ge hp (by omega)), pL_at h (by omega), jB_s, pK_dg, jB_s, drop_at hp, qRun, nI_1]
      cases hc : qDg (qAt t p)
      · rfl
      · have a1 := ih (p + 1) (by omega) (by omega)
        rw [show p + 1 + qRun qDg (t.drop (p + 1)) = p + (qRun qDg (t.drop (p + 1)) + 1) by omega] at a1
        exact a1
    · rw [if_pos (nI_le (by omega) (by omega)), List.drop_eq_nil_of_le (by omega)]
      rfl
theorem qSm_0 : qSm 0 = false := by decide
theorem qDg_0 : qDg 0 = false := by decide
theorem pK_behindOwn {N p : Nat} {s : jS} {t : List Int32} (h : TxR s t) (hN : 100 ≤ N) (hp : p ≤ t.length) : fK_behindOwn N (nI p) s = some (nI (qEnd t p), s) := by
  have hl := h.2.1
  unfold fK_behindOwn qEnd
  rw [pL_at h (by omega), jB_s, pK_sm, jB_s]
  by_cases hq : t.length ≤ p
  · rw [if_pos hq, qAt_out hq, qSm_0, if_pos (show (if false = true then (1 : Int32) else 0) = 0 from rfl), pK_dg, jB_s, qDg_0, if_pos (show (if false = true then (1 : Int32) else 0) = 0 from rfl), h.1, if_pos (nI_le hq (by omega))]
  · rw [if_neg hq]
    cases hs : qSm (qAt t p)
    · rw [if_pos (show (if false = true then (1 : Int32) else 0) = 0 from rfl), pK_dg, jB_s]
      cases hd : qDg (qAt t p)
      · rw [if_pos (show (if false = true then (1 : Int32) else 0) = 0 from rfl), h.1, if_neg (nI_ge (by omega) (by omega)), nI_1]
        rfl
      · exact pK_runD h N p (by omega) hp
    · exact pK_runS h N p (by omega) hp

theorem jz2 : (2 : Int32) >>> ((0 : Int32) &&& 31) = 2 := by decide
theorem jz4 : (4 : Int32) >>> ((0 : Int32) &&& 31) = 4 := by decide
theorem jz5 : (5 : Int32) >>> ((0 : Int32) &&& 31) = 5 := by decide
theorem jz10 : (10 : Int32) >>> ((0 : Int32) &&& 31) = 10 := by decide
/-- does the text spell w from place o on, from the i-th letter on -/
def qSp (t : List Int32) (o : Nat) : List Int32 → Nat → Bool
  | [], _ => true
  | c :: r, i => decide (qAt t (o + i) = c) && qSp t o r (i + 1)
theorem pS_len0 {N : Nat} {s : jS} : fJS_length_s0 N s = some (2, s) := by unfold fJS_length_s0 fJS_coder_s0; rw [jB_s, jz2]
theorem pS_len1 {N : Nat} {s : jS} : fJS_length_s1 N s = some (4, s) := by unfold fJS_length_s1 fJS_coder_s1; rw [jB_s, jz4]
theorem pS_len2 {N : Nat} {s : jS} : fJS_length_s2 N s = some (5, s) := by unfold fJS_length_s2 fJS_coder_s2; rw [jB_s, jz5]
theorem pS_ch0 {N k : Nat} {s : jS} (h : k < 2) : fJS_charAt_s0 N (nI k) s = some ((bytJ.getD 0 []).getD k 0, s) := by
  rcases (show k = 0 ∨ k = 1 by omega) with rfl | rfl <;>
    (unfold fJS_charAt_s0 fJS_isLatin1_s0
     rw [jB_s, if_neg (by decide)]
     unfold fJN_charAt_b0
     rw [if_neg (by decide +kernel), if_pos (by decide +kernel), if_pos (by decide +kernel), if_pos (by decide +kernel), jB_s, if_pos (by decide +kernel)]
     exact congrArg (fun x => some (x, s)) (by decide +kernel))
theorem pS_ch1 {N k : Nat} {s : jS} (h : k < 4) : fJS_charAt_s1 N (nI k) s = some ((bytJ.getD 1 []).getD k 0, s) := by
  rcases (show k = 0 ∨ k = 1 ∨ k = 2 ∨ k = 3 by omega) with rfl | rfl | rfl | rfl <;>
    (unfold fJS_charAt_s1 fJS_isLatin1_s1
     rw [jB_s, if_neg (by decide)]
     unfold fJN_charAt_b1
     rw [if_neg (by decide +kernel), if_pos (by decide +kernel), if_pos (by decide +kernel), if_pos (by decide +kernel), jB_s, if_pos (by decide +kernel)]
     exact congrArg (fun x => some (x, s)) (by decide +kernel))
theorem pS_ch2 {N k : Nat} {s : jS} (h : k < 5) : fJS_charAt_s2 N (nI k) s = some ((bytJ.getD 2 []).getD k 0, s) := by
  rcases (show k = 0 ∨ k = 1 ∨ k = 2 ∨ k = 3 ∨ k = 4 by omega) with rfl | rfl | rfl | rfl | rfl <;>
    (unfold fJS_charAt_s2 fJS_isLatin1_s2
     rw [jB_s, if_neg (by decide)]
     unfold fJN_charAt_b2
     rw [if_neg (by decide +kernel), if_pos (by decide +kernel), if_pos (by decide +kernel), if_pos (by decide +kernel), jB_s, if_pos (by decide +kernel)]
     exact congrArg (fun x => some (x, s)) (by decide +kernel))
theorem pK_sp0 {N o : Nat} {s : jS} {t : List Int32} (h : TxR s t) (ho : o ≤ 60) : ∀ (n i : Nat), 2 < i + n → i ≤ 2 → fK_spells_s0_15 N n (nI o) (nI i) s = some ((if qSp t o ((bytJ.getD 0 []).drop i) i = true then 1 else 0), s) := by
  intro n
  induction n with
  | zero => intro i h1 h2; omega
  | succ n ih =>
    intro i h1 h2
    show fK_spells_s0_b15 N (fK_spells_s0_15 N n) (nI o) (nI i) s = _
    unfold fK_spells_s0_b15
    rw [pS_len0, jB_s]
    by_cases hi : i < 2
    · have hd : (bytJ.getD 0 []).drop i = (bytJ.getD 0 []).getD i 0 :: (bytJ.getD 0 []).drop (i + 1) := by rcases (show i = 0 ∨ i = 1 by omega) with rfl | rfl <;> rfl
      rw [if_neg (show ¬ (2 : Int32) ≤ nI i from nI_ge (b := 2) hi (by decide)), nI_add, pL_at h (by omega), jB_s, pS_ch0 hi, jB_s, hd, qSp, nI_1]
      by_cases hc : qAt t (o + i) = (bytJ.getD 0 []).getD i 0
      · rw [if_pos hc, ih (i + 1) (by omega) (by omega), decide_eq_true hc, Bool.true_and]
      · rw [if_neg hc, decide_eq_false hc, Bool.false_and]
        rfl
    · rw [if_pos (show (2 : Int32) ≤ nI i from nI_le (a := 2) (by omega) (by omega)), show i = 2 by omega]
      rfl
theorem pK_sp1 {N o : Nat} {s : jS} {t : List Int32} (h : TxR s t) (ho : o ≤ 60) : ∀ (n i : Nat), 4 < i + n → i ≤ 4 → fK_spells_s1_15 N n (nI o) (nI i) s = some ((if qSp t o ((bytJ.getD 1 []).drop i) i = true then 1 else 0), s) := by
  intro n
  induction n with
  | zero => intro i h1 h2; omega
  | succ n ih =>
    intro i h1 h2
    show fK_spells_s1_b15 N (fK_spells_s1_15 N n) (nI o) (nI i) s = _
    unfold fK_spells_s1_b15
    rw [pS_len1, jB_s]
    by_cases hi : i < 4
    · have hd : (bytJ.getD 1 []).drop i = (bytJ.getD 1 []).getD i 0 :: (bytJ.getD 1 []).drop (i + 1) := by rcases (show i = 0 ∨ i = 1 ∨ i = 2 ∨ i = 3 by omega) with rfl | rfl | rfl | rfl <;> rfl
      rw [if_neg (show ¬ (4 : Int32) ≤ nI i from nI_ge (b := 4) hi (by decide)), nI_add, pL_at h (by omega), jB_s, pS_ch1 hi, jB_s, hd, qSp, nI_1]
      by_cases hc : qAt t (o + i) = (bytJ.getD 1 []).getD i 0
      · rw [if_pos hc, ih (i + 1) (by omega) (by omega), decide_eq_true hc, Bool.true_and]
      · rw [if_neg hc, decide_eq_false hc, Bool.false_and]
        rfl
    · rw [if_pos (show (4 : Int32) ≤ nI i from nI_le (a := 4) (by omega) (by omega)), show i = 4 by omega]
      rfl
theorem pK_sp2 {N o : Nat} {s : jS} {t : List Int32} (h : TxR s t) (ho : o ≤ 60) : ∀ (n i : Nat), 5 < i + n → i ≤ 5 → fK_spells_s2_15 N n (nI o) (nI i) s = some ((if qSp t o ((bytJ.getD 2 []).drop i) i = true then 1 else 0), s) := by
  intro n
  induction n with
  | zero => intro i h1 h2; omega
  | succ n ih =>
    intro i h1 h2
    show fK_spells_s2_b15 N (fK_spells_s2_15 N n) (nI o) (nI i) s = _
    unfold fK_spells_s2_b15
    rw [pS_len2, jB_s]
    by_cases hi : i < 5
    · have hd : (bytJ.getD 2 []).drop i = (bytJ.getD 2 []).getD i 0 :: (bytJ.getD 2 []).drop (i + 1) := by rcases (show i = 0 ∨ i = 1 ∨ i = 2 ∨ i = 3 ∨ i = 4 by omega) with rfl | rfl | rfl | rfl | rfl <;> rfl
      rw [if_neg (show ¬ (5 : Int32) ≤ nI i from nI_ge (b := 5) hi (by decide)), nI_add, pL_at h (by omega), jB_s, pS_ch2 hi, jB_s, hd, qSp, nI_1]
      by_cases hc : qAt t (o + i) = (bytJ.getD 2 []).getD i 0
      · rw [if_pos hc, ih (i + 1) (by omega) (by omega), decide_eq_true hc, Bool.true_and]
      · rw [if_neg hc, decide_eq_false hc, Bool.false_and]
        rfl
    · rw [if_pos (show (5 : Int32) ≤ nI i from nI_le (a := 5) (by omega) (by omega)), show i = 5 by omega]
      rfl
theorem pK_spells {N o e : Nat} {s : jS} {t : List Int32} (h : TxR s t) (hN : 100 ≤ N) (ho : o ≤ e) (he : e ≤ 60) :
    fK_spells_s0 N (nI o) (nI e) s = some ((if e - o = 2 ∧ qSp t o [105, 102] 0 = true then 1 else 0), s) ∧
    fK_spells_s1 N (nI o) (nI e) s = some ((if e - o = 4 ∧ qSp t o [101, 108, 115, 101] 0 = true then 1 else 0), s) ∧
    fK_spells_s2 N (nI o) (nI e) s = some ((if e - o = 5 ∧ qSp t o [119, 104, 105, 108, 101] 0 = true then 1 else 0), s) := by
  refine ⟨?_, ?_, ?_⟩
  · unfold fK_spells_s0
    rw [pS_len0, jB_s, pk_sub ho]
    by_cases hc : e - o = 2
    · rw [if_pos (show nI (e - o) = 2 by rw [hc]; rfl)]
      have a := pK_sp0 (N := N) h (show o ≤ 60 by omega) N 0 (by omega) (by omega)
      simp only [hc, true_and]
      exact a
    · rw [if_neg (show ¬ nI (e - o) = 2 from fun q => hc ((nI_eq (by omega) (by decide)).mp q))]
      simp [hc]
  · unfold fK_spells_s1
    rw [pS_len1, jB_s, pk_sub ho]
    by_cases hc : e - o = 4
    · rw [if_pos (show nI (e - o) = 4 by rw [hc]; rfl)]
      have a := pK_sp1 (N := N) h (show o ≤ 60 by omega) N 0 (by omega) (by omega)
      simp only [hc, true_and]
      exact a
    · rw [if_neg (show ¬ nI (e - o) = 4 from fun q => hc ((nI_eq (by omega) (by decide)).mp q))]
      simp [hc]
  · unfold fK_spells_s2
    rw [pS_len2, jB_s, pk_sub ho]
    by_cases hc : e - o = 5
    · rw [if_pos (show nI (e - o) = 5 by rw [hc]; rfl)]
      have a := pK_sp2 (N := N) h (show o ≤ 60 by omega) N 0 (by omega) (by omega)
      simp only [hc, true_and]
      exact a
    · rw [if_neg (show ¬ nI (e - o) = 5 from fun q => hc ((nI_eq (by omega) (by decide)).mp q))]
      simp [hc]
theorem pK_word {N o e : Nat} {s : jS} {t : List Int32} (h : TxR s t) (hN : 100 ≤ N) (ho : o ≤ e) (he : e ≤ 60) : fK_wordKind N (nI o) (nI e) s = some (nI (qWord t o e), s) := by
  obtain ⟨h0, h1, h2⟩ := pK_spells (N := N) h hN ho he
  unfold fK_wordKind qWord
  rw [h0, jB_s]
  have s0 : qSp t o [105, 102] 0 = true ↔ qAt t o = 105 ∧ qAt t (o + 1) = 102 := by simp [qSp]
  have s1 : qSp t o [101, 108, 115, 101] 0 = true ↔ qAt t o = 101 ∧ qAt t (o + 1) = 108 ∧ qAt t (o + 2) = 115 ∧ qAt t (o + 3) = 101 := by simp [qSp]
  have s2 : qSp t o [119, 104, 105, 108, 101] 0 = true ↔ qAt t o = 119 ∧ qAt t (o + 1) = 104 ∧ qAt t (o + 2) = 105 ∧ qAt t (o + 3) = 108 ∧ qAt t (o + 4) = 101 := by simp [qSp]
  by_cases c0 : e - o = 2 ∧ qAt t o = 105 ∧ qAt t (o + 1) = 102
  · rw [if_pos (show e - o = 2 ∧ qSp t o [105, 102] 0 = true from ⟨c0.1, s0.mpr c0.2⟩), if_pos c0, if_neg (by decide)]
    rfl
  · rw [if_neg (show ¬ (e - o = 2 ∧ qSp t o [105, 102] 0 = true) from fun q => c0 ⟨q.1, s0.mp q.2⟩), if_neg c0, if_pos rfl, h1, jB_s]
    by_cases c1 : e - o = 4 ∧ qAt t o = 101 ∧ qAt t (o + 1) = 108 ∧ qAt t (o + 2) = 115 ∧ qAt t (o + 3) = 101
    · rw [if_pos (show e - o = 4 ∧ qSp t o [101, 108, 115, 101] 0 = true from ⟨c1.1, s1.mpr c1.2⟩), if_pos c1, if_neg (by decide)]
      rfl
    · rw [if_neg (show ¬ (e - o = 4 ∧ qSp t o [101, 108, 115, 101] 0 = true) from fun q => c1 ⟨q.1, s1.mp q.2⟩), if_neg c1, if_pos rfl, h2, jB_s]
      by_cases c2 : e - o = 5 ∧ qAt t o = 119 ∧ qAt t (o + 1) = 104 ∧ qAt t (o + 2) = 105 ∧ qAt t (o + 3) = 108 ∧ qAt t (o + 4) = 101
      · rw [if_pos (show e - o = 5 ∧ qSp t o [119, 104, 105, 108, 101] 0 = true from ⟨c2.1, s2.mpr c2.2⟩), if_pos c2, if_neg (by decide)]
        rfl
      · rw [if_neg (show ¬ (e - o = 5 ∧ qSp t o [119, 104, 105, 108, 101] 0 = true) from fun q => c2 ⟨q.1, s2.mp q.2⟩), if_neg c2, if_pos rfl]
        rfl
/-- a character that a text may have -/
def qOk (c : Int32) : Prop := c = 10 ∨ (32 ≤ c ∧ c ≤ 126)
theorem qOk_n {c : Int32} (h : qOk c) : ∃ n : Nat, n < 128 ∧ c = nI n := by
  rcases h with rfl | ⟨h1, h2⟩
  · exact ⟨10, by decide, rfl⟩
  · obtain ⟨j, hj, e⟩ := nI_of2 (M := 126) (n := 126) (by decide) (x := c) (fun q => absurd (Int32.lt_of_lt_of_le q (by decide : (0 : Int32) ≤ 32)) (Int32.not_lt.mpr h1)) h2
    exact ⟨j, by omega, e⟩
theorem pIx {N : Nat} {s : jS} : ∀ n : Nat, n < 128 → fK_signKind (N + 12) (nI n) s = some (nI (qSign (nI n)), s) := by
  intro n hn
  sorry
