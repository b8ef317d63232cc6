/-! the reference's texts: the new one, the past -/
def BfM (s : jS) (b : List Int32) : Prop := jgI s 4 = nI b.length ∧ b.length ≤ 20 ∧ TxOk b ∧ ∀ q, q < b.length → jgA s 14 q = qAt b q
def HtM (s : jS) (j : Nat) (t : List Int32) : Prop := jgA s 13 j = nI t.length ∧ t.length ≤ 60 ∧ TxOk t ∧ ∀ q, q < t.length → jgA s 12 (60 * j + q) = qAt t q
def HiM (s : jS) (m : Nat) (hs : Nat → List Int32) : Prop := jgI s 1 = nI m ∧ m ≤ 3 ∧ ∀ j, j < m → HtM s j (hs j)
section MTX
variable {N k : Nat} {s : jS} {t b : List Int32}
theorem m_k68 (hT : TxM s k t) (h0 : jgI s 0 = nI k) {m : Nat} (hm : m < 3) (h1 : jgI s 1 = nI m) : ∀ (n d i : Nat) (s1 : jS), t.length = i + d → d < n → jSm [] [12] s s1 → (∀ q, q < i → jgA s1 12 (60 * m + q) = qAt t q) → (∀ x, x < 60 * m → jgA s1 12 x = jgA s 12 x) → ∃ s', fM_keep_68 N n (nI i) s1 = some (0, s') ∧ jgI s' 1 = nI (m + 1) ∧ (∀ q, q < t.length → jgA s' 12 (60 * m + q) = qAt t q) ∧ (∀ x, x < 60 * m → jgA s' 12 x = jgA s 12 x) ∧ jgA s' 13 = upd (jgA s 13) m (nI t.length) ∧ jSm [1] [12, 13] s s' := by
  have hk := hT.1
  have h60 := hT.2.2.1
  intro n
  induction n with
  | zero => intro d i s1 a b; omega
  | succ n ih =>
    intro d i s1 hd hn hs hq hx
    have a0 : jgI s1 0 = nI k := by rw [hs.1 0 (by decide)]; exact h0
    have a1 : jgI s1 1 = nI m := by rw [hs.1 1 (by decide)]; exact h1
    have a2 : jgA s1 1 = jgA s 1 := hs.2 1 (by decide)
    have a3 : jgA s1 0 = jgA s 0 := hs.2 0 (by decide)
    show ∃ s', fM_keep_b68 N (fM_keep_68 N n) (nI i) s1 = _ ∧ _
    unfold fM_keep_b68
    rw [a0, if_pos (jIn_nI hk (by decide)), nI_clamp (show k < 2 ^ 31 by omega), a2, hT.2.1, a1]
    cases d with
    | zero =>
      obtain rfl : i = t.length := by omega
      rw [if_pos (Int32.le_refl _), if_pos (jIn_nI hk (by decide)), if_pos (jIn_nI hm (by decide)), nI_clamp (show m < 2 ^ 31 by omega), jL_e, show jgI (jsA s1 13 m (nI t.length)) 1 = nI m from a1, nI_1, jL_e]
      refine ⟨_, rfl, rfl, hq, hx, ?_, ((hs.wk (by decide) (by decide)).sA (by decide)).sI (by decide)⟩
      show upd (jgA s1 13) m (nI t.length) = _
      rw [hs.2 13 (by decide)]
    | succ d =>
      rw [if_neg (nI_ge (show i < t.length by omega) (by omega)), ix60, ix60, if_pos (jIn_nI (show 60 * k + i < 120 by omega) (by decide)), if_pos (jIn_nI (show 60 * m + i < 180 by omega) (by decide)), nI_clamp (show 60 * k + i < 2 ^ 31 by omega), nI_clamp (show 60 * m + i < 2 ^ 31 by omega), a3, hT.2.2.2.2 i (by omega), vn_ok (hT.2.2.2.1 i (by omega)), jL_e, nI_1]
      refine ih d (i + 1) _ (by omega) (by omega) (hs.sA (by decide)) (fun q hq2 => ?_) (fun x hx2 => ?_)
      · show upd (jgA s1 12) (60 * m + i) (qAt t i) (60 * m + q) = _
        by_cases e : q = i
        · rw [e, pk_us]
        · rw [pk_un (by omega)]
          exact hq q (by omega)
      · show upd (jgA s1 12) (60 * m + i) (qAt t i) x = _
        rw [pk_un (by omega)]
        exact hx x hx2
theorem m_k10 {N : Nat} {s : jS} : ∀ (n d i : Nat) (s1 : jS), 120 = i + d → d < n → jSm [] [12] s s1 → (∀ q, q < i → jgA s1 12 q = vp_nar .char (jgA s 12 (q + 60))) → (∀ q, i ≤ q → jgA s1 12 q = jgA s 12 q) → ∃ s2, fM_keep_10 N n (nI i) s1 = fM_keep_68 N N (0 : Int32) s2 ∧ jgI s2 1 = nI 2 ∧ (∀ q, q < 120 → jgA s2 12 q = vp_nar .char (jgA s 12 (q + 60))) ∧ jgA s2 13 0 = jgA s 13 1 ∧ jgA s2 13 1 = jgA s 13 2 ∧ jSm [1] [12, 13] s s2 := by
  intro n
  induction n with
  | zero => intro d i s1 a b; omega
  | succ n ih =>
    intro d i s1 hd hn hs hq hx
    show ∃ s2, fM_keep_b10 N (fM_keep_10 N n) (nI i) s1 = _ ∧ _
    unfold fM_keep_b10
    cases d with
    | zero =>
      obtain rfl : i = 120 := by omega
      rw [if_pos (by decide), if_pos (by decide), if_pos (by decide), jL_e, if_pos (by decide), if_pos (by decide), jL_e, jL_e]
      refine ⟨_, rfl, rfl, hq, ?_, ?_, (((hs.wk (by decide) (by decide)).sA (by decide)).sA (by decide)).sI (by decide)⟩
      · show upd (upd (jgA s1 13) 0 (jgA s1 13 1)) 1 (upd (jgA s1 13) 0 (jgA s1 13 1) 2) 0 = _
        rw [pk_un (by decide), pk_us, hs.2 13 (by decide)]
      · show upd (upd (jgA s1 13) 0 (jgA s1 13 1)) 1 (upd (jgA s1 13) 0 (jgA s1 13 1) 2) 1 = _
        rw [pk_us, pk_un (by decide), hs.2 13 (by decide)]
    | succ d =>
      rw [if_neg (show ¬ (120 : Int32) ≤ nI i from nI_ge (b := 120) (by omega) (by decide)), show nI i + 60 = nI (i + 60) from nI_add i 60, if_pos (jIn_nI (show i + 60 < 180 by omega) (by decide)), if_pos (jIn_nI (show i < 180 by omega) (by decide)), nI_clamp (show i < 2 ^ 31 by omega), nI_clamp (show i + 60 < 2 ^ 31 by omega), jL_e, nI_1]
      refine ih d (i + 1) _ (by omega) (by omega) (hs.sA (by decide)) (fun q hq2 => ?_) (fun q hq2 => ?_)
      · show upd (jgA s1 12) i _ q = _
        by_cases e : q = i
        · rw [e, pk_us, hx (i + 60) (by omega)]
        · rw [pk_un e]
          exact hq q (by omega)
      · show upd (jgA s1 12) i _ q = _
        rw [pk_un (by omega)]
        exact hx q (by omega)
theorem m_keep (hN : 1000 ≤ N) (hT : TxM s k t) (h0 : jgI s 0 = nI k) {m : Nat} {hs : Nat → List Int32} (hH : HiM s m hs) : ∃ s', fM_keep N s = some (0, s') ∧ HiM s' (if m < 3 then m + 1 else 3) (hsP m hs t) ∧ jSm [1] [12, 13] s s' := by
  obtain ⟨h1, h2, h3⟩ := hH
  have h60 := hT.2.2.1
  unfold fM_keep
  rw [h1]
  by_cases hm : m < 3
  · rw [if_neg (show ¬ nI m = 3 from fun z => by have := (nI_eq (b := 3) (by omega) (by decide)).mp z; omega), if_pos hm]
    obtain ⟨s', e, i1, q1, x1, w1, s1⟩ := m_k68 (N := N) hT h0 hm h1 N t.length 0 s (by omega) (by omega) jSm.rf (fun q hq => absurd hq (by omega)) (fun x _ => rfl)
    refine ⟨s', e, ⟨i1, by omega, fun j hj => ?_⟩, s1⟩
    unfold hsP
    rw [if_pos hm]
    by_cases hjm : j = m
    · subst hjm
      rw [if_pos rfl]
      exact ⟨by rw [w1, pk_us], hT.2.2.1, hT.2.2.2.1, q1⟩
    · rw [if_neg hjm]
      obtain ⟨y1, y2, y3, y4⟩ := h3 j (by omega)
      exact ⟨by rw [w1, pk_un hjm]; exact y1, y2, y3, fun q hq => by rw [x1 _ (by omega)]; exact y4 q hq⟩
  · obtain rfl : m = 3 := by omega
    rw [if_pos (by decide), if_neg (by decide)]
    obtain ⟨s2, e2, i2, q2, w0, w1, sm2⟩ := m_k10 (N := N) (s := s) N 120 0 s (by omega) (by omega) jSm.rf (fun q hq => absurd hq (by omega)) (fun _ _ => rfl)
    have e2 : fM_keep_10 N N (0 : Int32) s = fM_keep_68 N N (0 : Int32) s2 := e2
    rw [e2]
    have hT2 : TxM s2 k t := hT.sm sm2 (by decide) (by decide)
    obtain ⟨s', e, i1, q1, x1, w13, s1⟩ := m_k68 (N := N) (m := 2) hT2 (by rw [sm2.1 0 (by decide)]; exact h0) (by decide) i2 N t.length 0 s2 (by omega) (by omega) jSm.rf (fun q hq => absurd hq (by omega)) (fun x _ => rfl)
    refine ⟨s', e, ⟨i1, by decide, fun j hj => ?_⟩, sm2.tr s1⟩
    unfold hsP
    rw [if_neg (by decide)]
    by_cases hj2 : j < 2
    · rw [if_pos hj2]
      obtain ⟨y1, y2, y3, y4⟩ := h3 (j + 1) (by omega)
      refine ⟨?_, y2, y3, fun q hq => ?_⟩
      · rw [w13, pk_un (by omega)]
        rcases (show j = 0 ∨ j = 1 by omega) with rfl | rfl
        · rw [w0]; exact y1
        · rw [w1]; exact y1
      · rw [x1 _ (by omega), q2 _ (by omega), show 60 * j + q + 60 = 60 * (j + 1) + q by omega, y4 q hq, vn_ok (y3 q hq)]
    · obtain rfl : j = 2 := by omega
      rw [if_neg (by decide)]
      exact ⟨by rw [w13, pk_us], hT.2.2.1, hT.2.2.2.1, q1⟩
theorem qEd_at {x y q : Nat} (h : x + y ≤ t.length) : qAt (qEd t b x y) q = if q < x then qAt t q else if q < x + b.length then qAt b (q - x) else qAt t (q - b.length + y) := by
  unfold qEd qAt
  have hx : (t.take x).length = x := by rw [List.length_take]; omega
  by_cases h1 : q < x
  · rw [if_pos h1, getD_app_l (by omega)]
    rw [List.getD_eq_getElem?_getD, List.getD_eq_getElem?_getD, List.getElem?_take, if_pos h1]
  · rw [if_neg h1, getD_app_r (by omega), hx]
    by_cases h2 : q < x + b.length
    · rw [if_pos h2, getD_app_l (by omega)]
    · rw [if_neg h2, getD_app_r (by omega), List.getD_eq_getElem?_getD, List.getD_eq_getElem?_getD, List.getElem?_drop, show x + y + (q - x - b.length) = q - b.length + y by omega]
theorem qEd_ok {x y : Nat} (h : x + y ≤ t.length) (ht : TxOk t) (hb : TxOk b) : TxOk (qEd t b x y) := by
  intro q hq
  rw [qEd_len h] at hq
  rw [qEd_at h]
  by_cases h1 : q < x
  · rw [if_pos h1]; exact ht q (by omega)
  · rw [if_neg h1]
    by_cases h2 : q < x + b.length
    · rw [if_pos h2]; exact hb _ (by omega)
    · rw [if_neg h2]; exact ht _ (by omega)
/-- the reference writes the new text into the other slot -/
theorem m_102 {k2 x y : Nat} (hT : TxM s k2 t) (hk : k < 2) (hk2 : k2 = 1 - k) (h0 : jgI s 0 = nI k) (hb : b.length ≤ 20) (hbo : TxOk b) (hba : ∀ q, q < b.length → jgA s 14 q = qAt b q) (hxy : x + y ≤ t.length) (hl : t.length - y + b.length ≤ 60) : ∀ (n d i : Nat) (s1 : jS), t.length - y + b.length = i + d → d < n → jSm [] [0] s s1 → (∀ q, q < i → jgA s1 0 (60 * k + q) = qAt (qEd t b x y) q) → (∀ z, ¬ (60 * k ≤ z ∧ z < 60 * k + 60) → jgA s1 0 z = jgA s 0 z) → ∃ s2, fM_edit_102 N n (nI x) (nI y) (nI b.length) (nI k2) (nI (t.length - y + b.length)) (nI i) s1 = fM_edit_102 N 1 (nI x) (nI y) (nI b.length) (nI k2) (nI (t.length - y + b.length)) (nI (t.length - y + b.length)) s2 ∧ (∀ q, q < t.length - y + b.length → jgA s2 0 (60 * k + q) = qAt (qEd t b x y) q) ∧ (∀ z, ¬ (60 * k ≤ z ∧ z < 60 * k + 60) → jgA s2 0 z = jgA s 0 z) ∧ jSm [] [0] s s2 := by
  have h60 := hT.2.2.1
  have hk2' := hT.1
  intro n
  induction n with
  | zero => intro d i s1 a b; omega
  | succ n ih =>
    intro d i s1 hd hn hs hq hz
    have a0 : jgI s1 0 = nI k := by rw [hs.1 0 (by decide)]; exact h0
    cases d with
    | zero =>
      obtain rfl : i = t.length - y + b.length := by omega
      refine ⟨s1, ?_, hq, hz, hs⟩
      show fM_edit_b102 N (fM_edit_102 N n) _ _ _ _ _ _ s1 = fM_edit_b102 N (fM_edit_102 N 0) _ _ _ _ _ _ s1
      unfold fM_edit_b102
      rw [if_pos (Int32.le_refl _), if_pos (Int32.le_refl _)]
    | succ d =>
      have hn60 : i < 60 := by omega
      have key : ∀ v : Int32, v = qAt (qEd t b x y) i → ∃ s2, fM_edit_102 N n (nI x) (nI y) (nI b.length) (nI k2) (nI (t.length - y + b.length)) (nI (i + 1)) (jsA s1 0 (60 * k + i) v) = fM_edit_102 N 1 (nI x) (nI y) (nI b.length) (nI k2) (nI (t.length - y + b.length)) (nI (t.length - y + b.length)) s2 ∧ (∀ q, q < t.length - y + b.length → jgA s2 0 (60 * k + q) = qAt (qEd t b x y) q) ∧ (∀ z, ¬ (60 * k ≤ z ∧ z < 60 * k + 60) → jgA s2 0 z = jgA s 0 z) ∧ jSm [] [0] s s2 := by
        intro v hv
        refine ih d (i + 1) _ (by omega) (by omega) (hs.sA (by decide)) (fun q hq2 => ?_) (fun z hz2 => ?_)
        · show upd (jgA s1 0) (60 * k + i) v (60 * k + q) = _
          by_cases e : q = i
          · rw [e, pk_us, hv]
          · rw [pk_un (by omega)]
            exact hq q (by omega)
        · show upd (jgA s1 0) (60 * k + i) v z = _
          rw [pk_un (by omega)]
          exact hz z hz2
      have hat := qEd_at (t := t) (b := b) (q := i) hxy
      have hok := qEd_ok (x := x) (y := y) hxy hT.2.2.2.1 hbo i (by rw [qEd_len hxy]; omega)
      have hold : ∀ q, q < t.length → jgA s1 0 (60 * k2 + q) = qAt t q := fun q hq => by
        rw [hz _ (by omega)]
        exact hT.2.2.2.2 q hq
      show ∃ s2, fM_edit_b102 N (fM_edit_102 N n) _ _ _ _ _ _ s1 = _ ∧ _
      unfold fM_edit_b102 fM_edit_127 fM_edit_128
      rw [if_neg (nI_ge (show i < t.length - y + b.length by omega) (by omega)), a0, ix60, ix60, nI_add, nI_1]
      have jw : jIn (nI (60 * k + i)) 120 = true := jIn_nI (by omega) (by decide)
      by_cases c1 : i < x
      · rw [if_pos (nI_lt c1 (by omega)), if_pos rfl, if_neg (nI_ge c1 (by omega)), if_pos (jIn_nI (show 60 * k2 + i < 120 by omega) (by decide)), if_pos jw, nI_clamp (show 60 * k2 + i < 2 ^ 31 by omega), nI_clamp (show 60 * k + i < 2 ^ 31 by omega), jL_e, hold i (by omega)]
        rw [if_pos c1] at hat
        rw [hat] at hok
        exact key _ (by rw [vn_ok hok, hat])
      · rw [if_neg c1] at hat
        rw [if_neg (nI_nlt (by omega) (by omega))]
        by_cases c2 : i < x + b.length
        · rw [if_pos c2] at hat
          rw [if_neg (nI_ge c2 (by omega)), if_neg (by decide), pk_sub (show x ≤ i by omega), if_pos (jIn_nI (show i - x < 20 by omega) (by decide)), if_pos jw, nI_clamp (show i - x < 2 ^ 31 by omega), nI_clamp (show 60 * k + i < 2 ^ 31 by omega), jL_e, hs.2 14 (by decide), hba (i - x) (by omega)]
          rw [hat] at hok
          exact key _ (by rw [vn_ok hok, hat])
        · rw [if_neg c2] at hat
          rw [if_pos (nI_le (show x + b.length ≤ i by omega) (by omega)), if_pos rfl, if_pos (nI_le (show x ≤ i by omega) (by omega)), pk_sub (show b.length ≤ i by omega), nI_add, ix60, if_pos (jIn_nI (show 60 * k2 + (i - b.length + y) < 120 by omega) (by decide)), if_pos jw, nI_clamp (show 60 * k2 + (i - b.length + y) < 2 ^ 31 by omega), nI_clamp (show 60 * k + i < 2 ^ 31 by omega), jL_e, hold _ (by omega)]
          rw [hat] at hok
          exact key _ (by rw [vn_ok hok, hat])
theorem m_u49 {m : Nat} (hk : k < 2) (h0 : jgI s 0 = nI k) (h1 : jgI s 1 = nI m) (hm : m < 3) (hT : HtM s m t) (hsz : jgA s 1 k = nI t.length) : ∀ (n d i : Nat) (s1 : jS), t.length = i + d → d < n → jSm [] [0] s s1 → (∀ q, q < i → jgA s1 0 (60 * k + q) = qAt t q) → ∃ s2, fM_undo_49 N n (nI i) s1 = (jB (fM_parse N (nI k) s2) fun _ s3 => some ((1 : Int32), s3)) ∧ TxM s2 k t ∧ jSm [] [0] s s2 := by
  have h60 := hT.2.1
  intro n
  induction n with
  | zero => intro d i s1 a b; omega
  | succ n ih =>
    intro d i s1 hd hn hs hq
    have a0 : jgI s1 0 = nI k := by rw [hs.1 0 (by decide)]; exact h0
    have a1 : jgI s1 1 = nI m := by rw [hs.1 1 (by decide)]; exact h1
    show ∃ s2, fM_undo_b49 N (fM_undo_49 N n) (nI i) s1 = _ ∧ _
    unfold fM_undo_b49
    rw [a0, if_pos (jIn_nI hk (by decide)), nI_clamp (show k < 2 ^ 31 by omega), hs.2 1 (by decide), hsz, a1]
    cases d with
    | zero =>
      obtain rfl : i = t.length := by omega
      rw [if_pos (Int32.le_refl _)]
      exact ⟨s1, rfl, ⟨hk, by rw [hs.2 1 (by decide)]; exact hsz, h60, hT.2.2.1, hq⟩, hs⟩
    | succ d =>
      rw [if_neg (nI_ge (show i < t.length by omega) (by omega)), ix60, ix60, if_pos (jIn_nI (show 60 * m + i < 180 by omega) (by decide)), if_pos (jIn_nI (show 60 * k + i < 120 by omega) (by decide)), nI_clamp (show 60 * m + i < 2 ^ 31 by omega), nI_clamp (show 60 * k + i < 2 ^ 31 by omega), hs.2 12 (by decide), hT.2.2.2 i (by omega), vn_ok (hT.2.2.1 i (by omega)), jL_e, nI_1]
      refine ih d (i + 1) _ (by omega) (by omega) (hs.sA (by decide)) (fun q hq2 => ?_)
      show upd (jgA s1 0) (60 * k + i) (qAt t i) (60 * k + q) = _
      by_cases e : q = i
      · rw [e, pk_us]
      · rw [pk_un (by omega)]
        exact hq q (by omega)
end MTX
