/-! the reference's tokens are the specification's -/
/-- the text in slot k -/
def TxM (s : jS) (k : Nat) (t : List Int32) : Prop := k < 2 ∧ jgA s 1 k = nI t.length ∧ t.length ≤ 60 ∧ TxOk t ∧ ∀ p, p < t.length → jgA s 0 (60 * k + p) = qAt t p
theorem TxM.sm {s s' : jS} {k : Nat} {t : List Int32} {ks as : List Nat} (h : TxM s k t) (hs : jSm ks as s s') (h0 : 0 ∉ as) (h1 : 1 ∉ as) : TxM s' k t := ⟨h.1, by rw [hs.2 1 h1]; exact h.2.1, h.2.2.1, h.2.2.2.1, fun p hp => by rw [hs.2 0 h0]; exact h.2.2.2.2 p hp⟩
theorem jCh_ok {c : Int32} (h : qOk c) : jCh c = true := by
  obtain ⟨n, hn, e⟩ := qOk_n h
  rw [e, jCh, nI_toInt (by omega)]
  simp only [Bool.and_eq_true, decide_eq_true_eq]
  omega
theorem pM_look {N k p : Nat} {s : jS} {t : List Int32} (h : TxM s k t) (hp : p < 2 ^ 31) : fM_look N (nI k) (nI p) s = some (qAt t p, s) := by
  obtain ⟨hk, h1, hl, hok, h2⟩ := h
  unfold fM_look
  rw [if_pos (jIn_nI hk (by decide)), nI_clamp (by omega), h1]
  by_cases hq : p < t.length
  · rw [if_neg (nI_ge hq (by omega)), show (60 : Int32) * nI k + nI p = nI (60 * k + p) by rw [show (60 : Int32) = nI 60 from rfl, pk_mul, nI_add], if_pos (jIn_nI (by omega) (by decide)), nI_clamp (by omega), h2 p hq, if_pos (jCh_ok (hok p hq))]
  · rw [if_pos (nI_le (by omega) hp), qAt_out (by omega)]
theorem pM_am0 {N : Nat} {c : Int32} {s : jS} : fM_among N c 0 s = some ((if qSm c = true then 1 else 0), s) := by
  have h := pK_sm (N := N) (c := c) (s := s)
  unfold fK_isSmallLetter at h
  unfold fM_among
  rw [if_pos rfl]
  exact h
theorem pM_am1 {N : Nat} {c : Int32} {s : jS} : fM_among N c 1 s = some ((if qDg c = true then 1 else 0), s) := by
  have h := pK_dg (N := N) (c := c) (s := s)
  unfold fK_isDigit at h
  unfold fM_among
  rw [if_neg (by decide)]
  exact h
/-- how far the line goes -/
def qLn : List Int32 → Nat
  | [] => 0
  | c :: r => if c = 10 then 0 else qLn r + 1
theorem qLn_le : ∀ l : List Int32, qLn l ≤ l.length
  | [] => Nat.le_refl _
  | c :: r => by
    have h := qLn_le r
    simp only [qLn, List.length_cons]
    split <;> omega
theorem qBlk_ln : ∀ l : List Int32, qBlk true l = qLn l + qBlk false (l.drop (qLn l))
  | [] => rfl
  | c :: r => by
    simp only [qLn, qBlk]
    by_cases h : c = 10
    · simp [h, qBlk]
    · have h1 := qBlk_ln r
      simp [h, h1]
      omega
theorem pM_b69 {N k : Nat} {s : jS} {t : List Int32} (h : TxM s k t) (k5 : Int32 → Int32 → Int32 → jS → Option (Int32 × jS)) (x4 : Int32) : ∀ (m p : Nat), t.length < p + m → p ≤ t.length → fM_blanks_69 N k5 m (nI k) (nI p) x4 35 s = k5 (nI k) (nI (p + qLn (t.drop p))) x4 s := by
  intro m
  induction m with
  | zero => intro p h1 h2; omega
  | succ m ih =>
    intro p h1 h2
    show fM_blanks_b69 N k5 (fM_blanks_69 N k5 m) (nI k) (nI p) x4 35 s = _
    unfold fM_blanks_b69
    have hl := h.2.2.1
    have hk := h.1
    rw [if_pos rfl, if_pos (jIn_nI hk (by decide)), nI_clamp (by omega), h.2.1]
    by_cases hp : p < t.length
    · rw [if_neg (nI_ge hp (by omega)), pM_look h (by omega), jB_s, drop_at hp, qLn, nI_1]
      by_cases hc : qAt t p = 10
      · rw [if_pos hc, if_pos hc]
        rfl
      · rw [if_neg hc, if_neg hc, ih (p + 1) (by omega) (by omega), show p + 1 + qLn (t.drop (p + 1)) = p + (qLn (t.drop (p + 1)) + 1) by omega]
    · rw [if_pos (nI_le (by omega) (by omega)), List.drop_eq_nil_of_le (by omega)]
      rfl
theorem pM_b69n {N k p m : Nat} {s : jS} (k5 : Int32 → Int32 → Int32 → jS → Option (Int32 × jS)) {x4 x5 : Int32} (h : ¬ x5 = 35) : fM_blanks_69 N k5 (m + 1) (nI k) (nI p) x4 x5 s = k5 (nI k) (nI p) x4 s := by
  show fM_blanks_b69 N k5 (fM_blanks_69 N k5 m) (nI k) (nI p) x4 x5 s = _
  unfold fM_blanks_b69
  rw [if_neg h]
theorem pM_b5 {N k : Nat} {s : jS} {t : List Int32} (h : TxM s k t) : ∀ (n p : Nat), t.length + 1 < p + n → p ≤ t.length → fM_blanks_5 (N + 100) n (nI k) (nI p) 1 s = some (nI (p + qBlk false (t.drop p)), s) := by
  intro n
  induction n with
  | zero => intro p h1 h2; omega
  | succ n ih =>
    intro p h1 h2
    show fM_blanks_b5 (N + 100) (fM_blanks_5 (N + 100) n) (nI k) (nI p) 1 s = _
    unfold fM_blanks_b5
    have hl := h.2.2.1
    have hk := h.1
    rw [if_neg (by decide), if_pos (jIn_nI hk (by decide)), nI_clamp (by omega), h.2.1]
    by_cases hp : p < t.length
    · rw [if_neg (nI_ge hp (by omega)), pM_look h (by omega), jB_s, drop_at hp, qBlk]
      have a1 := ih (p + 1) (by omega) (by omega)
      have e1 : p + 1 + qBlk false (t.drop (p + 1)) = p + (qBlk false (t.drop (p + 1)) + 1) := by omega
      rw [e1] at a1
      by_cases c32 : qAt t p = 32
      · have c10 : ¬ qAt t p = 10 := by rw [c32]; decide
        have c35 : ¬ qAt t p = 35 := by rw [c32]; decide
        rw [if_pos c32, if_neg c10, if_neg (show ¬ false = true by decide), if_pos c32]
        unfold fM_blanks_49
        rw [nI_1, pM_b69n _ c35]
        exact a1
      · rw [if_neg c32]
        by_cases c10 : qAt t p = 10
        · have c35 : ¬ qAt t p = 35 := by rw [c10]; decide
          rw [if_pos c10, if_pos c10]
          unfold fM_blanks_49
          rw [nI_1, pM_b69n _ c35]
          exact a1
        · rw [if_neg c10, if_neg c10, if_neg (show ¬ false = true by decide), if_neg c32]
          by_cases c35 : qAt t p = 35
          · rw [if_pos c35, if_pos c35]
            unfold fM_blanks_49
            have hq := qLn_le (t.drop (p + 1))
            rw [List.length_drop] at hq
            rw [nI_1, c35, pM_b69 h _ _ (N + 100) (p + 1) (by omega) (by omega), ih (p + 1 + qLn (t.drop (p + 1))) (by omega) (by omega), qBlk_ln (t.drop (p + 1)), List.drop_drop]
            congr 3
            rw [show p + 1 + qLn (t.drop (p + 1)) = qLn (t.drop (p + 1)) + (p + 1) by omega] <;> omega
          · rw [if_neg c35, if_neg c35, pM_b69n _ c35]
            cases n with
            | zero => omega
            | succ n => rfl
    · rw [if_pos (nI_le (by omega) (by omega)), List.drop_eq_nil_of_le (by omega)]
      rfl
theorem pM_blanks {N k p : Nat} {s : jS} {t : List Int32} (h : TxM s k t) (hN : 200 ≤ N) (hp : p ≤ t.length) : fM_blanks N (nI k) (nI p) s = some (nI (qOwn t p), s) := by
  have hl := h.2.2.1
  obtain ⟨M, rfl⟩ : ∃ M, N = M + 100 := ⟨N - 100, by omega⟩
  exact pM_b5 h (M + 100) p (by omega) hp
theorem pM_run {N k : Nat} {s : jS} {t : List Int32} (h : TxM s k t) (f : Int32 → Bool) (x4 : Int32) (hf : (x4 = 0 ∧ f = qDg) ∨ (x4 = 1 ∧ f = qSm)) : ∀ (n p : Nat), t.length < p + n → p ≤ t.length → fM_behind_46 N n (nI k) x4 (nI p) s = some (nI (p + qRun f (t.drop p)), s) := by
  intro n
  induction n with
  | zero => intro p h1 h2; omega
  | succ n ih =>
    intro p h1 h2
    show fM_behind_b46 N (fM_behind_46 N n) (nI k) x4 (nI p) s = _
    unfold fM_behind_b46
    have hl := h.2.2.1
    have hk := h.1
    rw [if_pos (jIn_nI hk (by decide)), nI_clamp (by omega), h.2.1]
    by_cases hp : p < t.length
    · have a1 := ih (p + 1) (by omega) (by omega)
      rw [show p + 1 + qRun f (t.drop (p + 1)) = p + (qRun f (t.drop (p + 1)) + 1) by omega] at a1
      rw [if_neg (nI_ge hp (by omega)), pM_look h (by omega), jB_s, drop_at hp, qRun]
      rcases hf with ⟨rfl, rfl⟩ | ⟨rfl, rfl⟩
      · rw [if_pos rfl, pM_am1, jB_s, nI_1]
        cases hc : qDg (qAt t p)
        · rfl
        · exact a1
      · rw [if_neg (by decide), pM_am0, jB_s, nI_1]
        cases hc : qSm (qAt t p)
        · rfl
        · exact a1
    · rw [if_pos (nI_le (by omega) (by omega)), List.drop_eq_nil_of_le (by omega)]
      rfl
theorem pM_behind {N k p : Nat} {s : jS} {t : List Int32} (h : TxM s k t) (hN : 200 ≤ N) (hp : p ≤ t.length) : fM_behind N (nI k) (nI p) s = some (nI (qEnd t p), s) := by
  have hl := h.2.2.1
  have hk := h.1
  unfold fM_behind qEnd
  rw [if_pos (jIn_nI hk (by decide)), nI_clamp (by omega), h.2.1]
  by_cases hq : p < t.length
  · rw [if_pos (nI_lt hq (by omega)), if_neg (show ¬ t.length ≤ p by omega), pM_look h (by omega), jB_s, pM_am0, jB_s]
    cases hs : qSm (qAt t p)
    · rw [if_pos (show (if false = true then (1 : Int32) else 0) = 0 from rfl), pM_am1, jB_s]
      cases hd : qDg (qAt t p)
      · rw [if_pos (show (if false = true then (1 : Int32) else 0) = 0 from rfl), nI_1]
        rfl
      · exact pM_run h qDg 0 (Or.inl ⟨rfl, rfl⟩) N p (by omega) hp
    · exact pM_run h qSm 1 (Or.inr ⟨rfl, rfl⟩) N p (by omega) hp
  · rw [if_neg (nI_nlt (by omega) (by omega)), if_pos (show t.length ≤ p by omega)]
def qSwM (c : Int32) : Int32 := if c = 40 then 9 else if c = 41 then 10 else if c = 42 then 13 else if c = 43 then 11 else if c = 45 then 12 else if c = 59 then 6 else if c = 60 then 14 else if c = 61 then 15 else if c = 123 then 7 else if c = 125 then 8 else 16
theorem qSwM_ok : ∀ n : Nat, n < 128 → qSwM (nI n) = nI (qSign (nI n)) := by decide +kernel
theorem pM_k118 {N k o e : Nat} {s : jS} {t : List Int32} (h : TxM s k t) (ho : o ≤ e) (he : e ≤ 60) : fM_kindOf_118 N (nI k) (nI o) (nI e) (qAt t o) (qAt t (o + 1)) (qAt t (o + 2)) (qAt t (o + 3)) s = some ((if e - o = 5 ∧ qAt t o = 119 ∧ qAt t (o + 1) = 104 ∧ qAt t (o + 2) = 105 ∧ qAt t (o + 3) = 108 ∧ qAt t (o + 4) = 101 then 5 else 1), s) := by
  unfold fM_kindOf_118
  rw [pk_sub ho]
  by_cases c0 : e - o = 5
  · rw [if_pos (show nI (e - o) = 5 by rw [c0]; rfl)]
    by_cases c1 : qAt t o = 119
    · rw [if_pos c1]
      by_cases c2 : qAt t (o + 1) = 104
      · rw [if_pos c2]
        by_cases c3 : qAt t (o + 2) = 105
        · rw [if_pos c3]
          by_cases c4 : qAt t (o + 3) = 108
          · rw [if_pos c4, show nI o + 4 = nI (o + 4) from nI_add o 4, pM_look h (by omega), jB_s]
            by_cases c5 : qAt t (o + 4) = 101
            · rw [if_pos c5]; simp [c0, c1, c2, c3, c4, c5]
            · rw [if_neg c5]; simp [c5]
          · rw [if_neg c4]; simp [c4]
        · rw [if_neg c3]; simp [c3]
      · rw [if_neg c2]; simp [c2]
    · rw [if_neg c1]; simp [c1]
  · rw [if_neg (show ¬ nI (e - o) = 5 from fun q => c0 ((nI_eq (by omega) (by decide)).mp q))]; simp [c0]
theorem pM_k61 {N k o e : Nat} {s : jS} {t : List Int32} (h : TxM s k t) (ho : o ≤ e) (he : e ≤ 60) : fM_kindOf_61 N (nI k) (nI o) (nI e) (qAt t o) (qAt t (o + 1)) s = some ((if e - o = 4 ∧ qAt t o = 101 ∧ qAt t (o + 1) = 108 ∧ qAt t (o + 2) = 115 ∧ qAt t (o + 3) = 101 then 4 else if e - o = 5 ∧ qAt t o = 119 ∧ qAt t (o + 1) = 104 ∧ qAt t (o + 2) = 105 ∧ qAt t (o + 3) = 108 ∧ qAt t (o + 4) = 101 then 5 else 1), s) := by
  have hw := pM_k118 (N := N) h ho he
  unfold fM_kindOf_61
  rw [show nI o + 2 = nI (o + 2) from nI_add o 2, pM_look h (by omega), jB_s, show nI o + 3 = nI (o + 3) from nI_add o 3, pM_look h (by omega), jB_s, pk_sub ho]
  by_cases c0 : e - o = 4
  · rw [if_pos (show nI (e - o) = 4 by rw [c0]; rfl)]
    by_cases c1 : qAt t o = 101
    · rw [if_pos c1]
      by_cases c2 : qAt t (o + 1) = 108
      · rw [if_pos c2]
        by_cases c3 : qAt t (o + 2) = 115
        · rw [if_pos c3]
          by_cases c4 : qAt t (o + 3) = 101
          · rw [if_pos c4, if_pos ⟨c0, c1, c2, c3, c4⟩]
          · rw [if_neg c4, if_neg (fun q => c4 q.2.2.2.2)]; exact hw
        · rw [if_neg c3, if_neg (fun q => c3 q.2.2.2.1)]; exact hw
      · rw [if_neg c2, if_neg (fun q => c2 q.2.2.1)]; exact hw
    · rw [if_neg c1, if_neg (fun q => c1 q.2.1)]; exact hw
  · rw [if_neg (show ¬ nI (e - o) = 4 from fun q => c0 ((nI_eq (by omega) (by decide)).mp q)), if_neg (fun q => c0 q.1)]; exact hw
theorem pW_if {a b : Prop} [Decidable a] [Decidable b] {s : jS} : some ((if a then (4 : Int32) else if b then 5 else 1), s) = some (nI (if a then 4 else if b then 5 else 1), s) := by
  by_cases ha : a
  · rw [if_pos ha, if_pos ha]; rfl
  · rw [if_neg ha, if_neg ha]
    by_cases hb : b
    · rw [if_pos hb, if_pos hb]; rfl
    · rw [if_neg hb, if_neg hb]; rfl
theorem qSm_dg {c : Int32} (h : qDg c = true) : qSm c = false := by
  unfold qDg at h
  unfold qSm
  simp only [Bool.and_eq_true, decide_eq_true_eq] at h
  have h2 : ¬ (97 : Int32) ≤ c := fun q => absurd (Int32.le_trans q h.2) (by decide)
  simp [h2]
theorem pM_kindOf {N k o : Nat} {s : jS} {t : List Int32} (h : TxM s k t) (hN : 200 ≤ N) (ho : o ≤ t.length) : fM_kindOf N (nI k) (nI o) (nI (qEnd t o)) s = some (nI (qKind t o (qEnd t o)), s) := by
  have hl := h.2.2.1
  have hk := h.1
  have he := qEnd_le ho
  have hg := qEnd_ge t o
  unfold fM_kindOf qKind
  rw [pM_look h (by omega), jB_s, nI_1, pM_look h (by omega), jB_s, pM_am1, jB_s]
  cases hd : qDg (qAt t o)
  · rw [if_pos (show (if false = true then (1 : Int32) else 0) = 0 from rfl), pM_am0, jB_s]
    cases hs : qSm (qAt t o)
    · rw [if_pos (show (if false = true then (1 : Int32) else 0) = 0 from rfl), if_pos (jIn_nI hk (by decide)), nI_clamp (by omega), h.2.1]
      by_cases hq : o < t.length
      · rw [if_neg (nI_ge hq (by omega)), if_neg (show ¬ t.length ≤ o by omega), if_neg (show ¬ false = true by decide), if_neg (show ¬ false = true by decide)]
        obtain ⟨n, hn, en⟩ := qOk_n (h.2.2.2.1 o hq)
        rw [en, ← qSwM_ok n hn]
        unfold qSwM
        by_cases c40 : nI n = 40
        · rw [if_pos c40, if_pos c40]
        rw [if_neg c40, if_neg c40]
        by_cases c41 : nI n = 41
        · rw [if_pos c41, if_pos c41]
        rw [if_neg c41, if_neg c41]
        by_cases c42 : nI n = 42
        · rw [if_pos c42, if_pos c42]
        rw [if_neg c42, if_neg c42]
        by_cases c43 : nI n = 43
        · rw [if_pos c43, if_pos c43]
        rw [if_neg c43, if_neg c43]
        by_cases c45 : nI n = 45
        · rw [if_pos c45, if_pos c45]
        rw [if_neg c45, if_neg c45]
        by_cases c59 : nI n = 59
        · rw [if_pos c59, if_pos c59]
        rw [if_neg c59, if_neg c59]
        by_cases c60 : nI n = 60
        · rw [if_pos c60, if_pos c60]
        rw [if_neg c60, if_neg c60]
        by_cases c61 : nI n = 61
        · rw [if_pos c61, if_pos c61]
        rw [if_neg c61, if_neg c61]
        by_cases c123 : nI n = 123
        · rw [if_pos c123, if_pos c123]
        rw [if_neg c123, if_neg c123]
        by_cases c125 : nI n = 125
        · rw [if_pos c125, if_pos c125]
        rw [if_neg c125, if_neg c125]
      · rw [if_pos (nI_le (by omega) (by omega)), if_pos (show t.length ≤ o by omega), qAt_out (by omega)]
        rfl
    · have hq : o < t.length := by
        rcases Nat.lt_or_ge o t.length with q | q
        · exact q
        · rw [qAt_out q, qSm_0] at hs; cases hs
      rw [if_neg (by decide), if_neg (show ¬ t.length ≤ o by omega), if_pos rfl, pk_sub hg]
      have hw := pM_k61 (N := N) h hg (show qEnd t o ≤ 60 by omega)
      unfold qWord
      by_cases c0 : qEnd t o - o = 2
      · rw [if_pos (show nI (qEnd t o - o) = 2 by rw [c0]; rfl)]
        by_cases c1 : qAt t o = 105
        · rw [if_pos c1]
          by_cases c2 : qAt t (o + 1) = 102
          · rw [if_pos c2, if_pos ⟨c0, c1, c2⟩]; rfl
          · rw [if_neg c2, if_neg (fun q => c2 q.2.2), hw, pW_if]
        · rw [if_neg c1, if_neg (fun q => c1 q.2.1), hw, pW_if]
      · rw [if_neg (show ¬ nI (qEnd t o - o) = 2 from fun q => c0 ((nI_eq (by omega) (by decide)).mp q)), if_neg (fun q => c0 q.1), hw, pW_if]
  · have hq : o < t.length := by
      rcases Nat.lt_or_ge o t.length with q | q
      · exact q
      · rw [qAt_out q, qDg_0] at hd; cases hd
    have hs : qSm (qAt t o) = false := qSm_dg hd
    rw [if_neg (by decide), if_neg (show ¬ t.length ≤ o by omega), hs]
    rfl
