/-! the class's texts: parts of letters, letters of the history -/
/-- the letters h of the history -/
def HtX (o : jS) (h : Nat) (t : List Int32) : Prop := jgI o (4 + h) = nI t.length ∧ t.length ≤ 60 ∧ ∀ q, q < t.length → jgA o (1 + h) q = qAt t q
section HX
variable {N : Nat} {o c p : jS} {t : List Int32}
theorem pL_app {s : jS} {w : List Int32} {ch : Int32} (h : TxR s w) (hl : w.length < 60) : ∃ s', fL_append N ch s = some (1, s') ∧ TxR s' (w ++ [ch]) := by
  unfold fL_append
  rw [h.1, if_pos (show nI w.length < 60 from nI_lt (b := 60) hl (by decide)), if_pos (jIn_nI hl (by decide)), jL_e, nI_clamp (show w.length < 2 ^ 31 by omega), show jgI (jsA s 0 w.length ch) 0 = nI w.length from h.1, nI_1, jL_e]
  refine ⟨_, rfl, by rw [List.length_append]; rfl, by rw [List.length_append, List.length_singleton]; omega, fun q hq => ?_⟩
  rw [List.length_append, List.length_singleton] at hq
  show upd (jgA s 0) w.length ch q = _
  unfold qAt
  by_cases hl : q < w.length
  · rw [pk_un (by omega), getD_app_l hl]
    exact h.2.2 q hl
  · obtain rfl : q = w.length := by omega
    rw [pk_us, getD_app_r (Nat.le_refl _), Nat.sub_self]
    rfl
theorem hAp0 (h : TxR c t) : ∀ (n m i : Nat) (o : jS) (w : List Int32), m < n → i + m ≤ t.length → HtX o 0 w → w.length + m ≤ 60 → ∃ o', fL_appendPart_h0_cL_3 N n (nI (i + m)) (nI i) (o, c, p) = some (0, (o', c, p)) ∧ HtX o' 0 (w ++ (t.drop i).take m) ∧ jSm [4] [1] o o' := by
  intro n
  induction n with
  | zero => intro m i o w h1; omega
  | succ n ih =>
    intro m i o w hn hi hw hl
    have h60 := h.2.1
    show ∃ o', fL_appendPart_h0_cL_b3 N (fL_appendPart_h0_cL_3 N n) _ _ (o, c, p) = _ ∧ _
    unfold fL_appendPart_h0_cL_b3
    cases m with
    | zero =>
      rw [if_pos (nI_le (show i + 0 ≤ i by omega) (by omega))]
      exact ⟨o, rfl, by rw [List.take_zero, List.append_nil]; exact hw, jSm.rf⟩
    | succ m =>
      rw [if_neg (nI_ge (show i < i + (m + 1) by omega) (by omega))]
      dsimp only
      rw [pL_at h (show i < 2 ^ 31 by omega), jB_s]
      unfold fL_append_h0
      dsimp only
      rw [hw.1, if_pos (show nI w.length < 60 from nI_lt (b := 60) (by omega) (by decide)), if_pos (jIn_nI (show w.length < 60 by omega) (by decide)), jL_e, nI_clamp (show w.length < 2 ^ 31 by omega)]
      dsimp only
      rw [show jgI (jsA o 1 w.length (qAt t i)) 4 = nI w.length from hw.1, nI_1, jL_e, jB_s, nI_1]
      have hs : jSm [4] [1] o (jsI (jsA o 1 w.length (qAt t i)) 4 (nI (w.length + 1))) := (jSm.rf.sA (by decide)).sI (by decide)
      have hw2 : HtX (jsI (jsA o 1 w.length (qAt t i)) 4 (nI (w.length + 1))) 0 (w ++ [qAt t i]) := by
        refine ⟨by rw [List.length_append]; rfl, by rw [List.length_append, List.length_singleton]; omega, fun q hq => ?_⟩
        rw [List.length_append, List.length_singleton] at hq
        show upd (jgA o 1) w.length (qAt t i) q = _
        unfold qAt
        by_cases hl : q < w.length
        · rw [pk_un (by omega), getD_app_l hl]
          exact hw.2.2 q hl
        · obtain rfl : q = w.length := by omega
          rw [pk_us, getD_app_r (Nat.le_refl _), Nat.sub_self]
          rfl
      obtain ⟨o', e', h', s'⟩ := ih m (i + 1) _ _ (by omega) (by omega) hw2 (by rw [List.length_append, List.length_singleton]; omega)
      refine ⟨o', ?_, ?_, hs.tr s'⟩
      · rw [show i + (m + 1) = i + 1 + m by omega]
        exact e'
      · rw [List.append_assoc, show [qAt t i] ++ (t.drop (i + 1)).take m = (t.drop i).take (m + 1) from by rw [drop_at (show i < t.length by omega)]; rfl] at h'
        exact h'
theorem hCp0 (h : TxR c t) (hN : 1000 ≤ N) : ∃ o', fL_copy_h0_cL N (o, c, p) = some (0, (o', c, p)) ∧ HtX o' 0 t ∧ jSm [4] [1] o o' := by
  have h60 := h.2.1
  unfold fL_copy_h0_cL fL_clear_h0 fL_appendPart_h0_cL
  try dsimp only
  rw [jL_e, jB_s]
  try dsimp only
  rw [h.1]
  obtain ⟨o', e', h', s'⟩ := hAp0 (N := N) (p := p) h N t.length 0 (jsI o 4 0) [] (by omega) (by omega) ⟨rfl, by simp, fun q hq => absurd hq (by simp)⟩ (by simpa using h60)
  rw [Nat.zero_add] at e'
  have e' : fL_appendPart_h0_cL_3 N N (nI t.length) (0 : Int32) (jsI o 4 0, c, p) = some (0, (o', c, p)) := e'
  rw [e', jB_s]
  refine ⟨o', rfl, ?_, (jSm.rf.sI (by decide)).tr s'⟩
  rw [List.nil_append, List.drop_zero, List.take_length] at h'
  exact h'
theorem hBk0 (h : HtX o 0 t) : ∀ (n m i : Nat) (c : jS) (w : List Int32), m < n → i + m ≤ t.length → TxR c w → w.length + m ≤ 60 → ∃ c', fL_appendPart_cL_h0_3 N n (nI (i + m)) (nI i) (o, c, p) = some (0, (o, c', p)) ∧ TxR c' (w ++ (t.drop i).take m) := by
  intro n
  induction n with
  | zero => intro m i c w h1; omega
  | succ n ih =>
    intro m i c w hn hi hw hl
    have h60 := h.2.1
    show ∃ c', fL_appendPart_cL_h0_b3 N (fL_appendPart_cL_h0_3 N n) _ _ (o, c, p) = _ ∧ _
    unfold fL_appendPart_cL_h0_b3
    cases m with
    | zero =>
      rw [if_pos (nI_le (show i + 0 ≤ i by omega) (by omega))]
      exact ⟨c, rfl, by rw [List.take_zero, List.append_nil]; exact hw⟩
    | succ m =>
      rw [if_neg (nI_ge (show i < i + (m + 1) by omega) (by omega))]
      unfold fL_at_h0
      dsimp only
      rw [show jgI o 4 = nI t.length from h.1, if_neg (nI_pos (show i < 2 ^ 31 by omega)), if_neg (nI_ge (show i < t.length by omega) (by omega)), if_pos (jIn_nI (show i < 60 by omega) (by decide)), nI_clamp (show i < 2 ^ 31 by omega), show jgA o 1 i = qAt t i from h.2.2 i (by omega), jB_s]
      dsimp only
      obtain ⟨c2, e2, h2⟩ := pL_app (N := N) (ch := qAt t i) hw (by omega)
      rw [e2, jB_s, nI_1]
      obtain ⟨c', e', h'⟩ := ih m (i + 1) c2 _ (by omega) (by omega) h2 (by rw [List.length_append, List.length_singleton]; omega)
      refine ⟨c', ?_, ?_⟩
      · rw [show i + (m + 1) = i + 1 + m by omega]
        exact e'
      · rw [List.append_assoc, show [qAt t i] ++ (t.drop (i + 1)).take m = (t.drop i).take (m + 1) from by rw [drop_at (show i < t.length by omega)]; rfl] at h'
        exact h'
theorem hTk0 (h : HtX o 0 t) (hN : 1000 ≤ N) : ∃ c', fL_copy_cL_h0 N (o, c, p) = some (0, (o, c', p)) ∧ TxR c' t := by
  have h60 := h.2.1
  unfold fL_copy_cL_h0 fL_clear fL_appendPart_cL_h0
  try dsimp only
  rw [jL_e, jB_s]
  try dsimp only
  rw [show jgI o 4 = nI t.length from h.1]
  obtain ⟨c', e', h'⟩ := hBk0 (N := N) (p := p) h N t.length 0 (jsI c 0 0) [] (by omega) (by omega) ⟨rfl, by simp, fun q hq => absurd hq (by simp)⟩ (by simpa using h60)
  rw [Nat.zero_add] at e'
  have e' : fL_appendPart_cL_h0_3 N N (nI t.length) (0 : Int32) (o, jsI c 0 0, p) = some (0, (o, c', p)) := e'
  rw [e', jB_s]
  refine ⟨c', rfl, ?_⟩
  rw [List.nil_append, List.drop_zero, List.take_length] at h'
  exact h'
theorem hAp1 (h : TxR c t) : ∀ (n m i : Nat) (o : jS) (w : List Int32), m < n → i + m ≤ t.length → HtX o 1 w → w.length + m ≤ 60 → ∃ o', fL_appendPart_h1_cL_3 N n (nI (i + m)) (nI i) (o, c, p) = some (0, (o', c, p)) ∧ HtX o' 1 (w ++ (t.drop i).take m) ∧ jSm [5] [2] o o' := by
  intro n
  induction n with
  | zero => intro m i o w h1; omega
  | succ n ih =>
    intro m i o w hn hi hw hl
    have h60 := h.2.1
    show ∃ o', fL_appendPart_h1_cL_b3 N (fL_appendPart_h1_cL_3 N n) _ _ (o, c, p) = _ ∧ _
    unfold fL_appendPart_h1_cL_b3
    cases m with
    | zero =>
      rw [if_pos (nI_le (show i + 0 ≤ i by omega) (by omega))]
      exact ⟨o, rfl, by rw [List.take_zero, List.append_nil]; exact hw, jSm.rf⟩
    | succ m =>
      rw [if_neg (nI_ge (show i < i + (m + 1) by omega) (by omega))]
      dsimp only
      rw [pL_at h (show i < 2 ^ 31 by omega), jB_s]
      unfold fL_append_h1
      dsimp only
      rw [hw.1, if_pos (show nI w.length < 60 from nI_lt (b := 60) (by omega) (by decide)), if_pos (jIn_nI (show w.length < 60 by omega) (by decide)), jL_e, nI_clamp (show w.length < 2 ^ 31 by omega)]
      dsimp only
      rw [show jgI (jsA o 2 w.length (qAt t i)) 5 = nI w.length from hw.1, nI_1, jL_e, jB_s, nI_1]
      have hs : jSm [5] [2] o (jsI (jsA o 2 w.length (qAt t i)) 5 (nI (w.length + 1))) := (jSm.rf.sA (by decide)).sI (by decide)
      have hw2 : HtX (jsI (jsA o 2 w.length (qAt t i)) 5 (nI (w.length + 1))) 1 (w ++ [qAt t i]) := by
        refine ⟨by rw [List.length_append]; rfl, by rw [List.length_append, List.length_singleton]; omega, fun q hq => ?_⟩
        rw [List.length_append, List.length_singleton] at hq
        show upd (jgA o 2) w.length (qAt t i) q = _
        unfold qAt
        by_cases hl : q < w.length
        · rw [pk_un (by omega), getD_app_l hl]
          exact hw.2.2 q hl
        · obtain rfl : q = w.length := by omega
          rw [pk_us, getD_app_r (Nat.le_refl _), Nat.sub_self]
          rfl
      obtain ⟨o', e', h', s'⟩ := ih m (i + 1) _ _ (by omega) (by omega) hw2 (by rw [List.length_append, List.length_singleton]; omega)
      refine ⟨o', ?_, ?_, hs.tr s'⟩
      · rw [show i + (m + 1) = i + 1 + m by omega]
        exact e'
      · rw [List.append_assoc, show [qAt t i] ++ (t.drop (i + 1)).take m = (t.drop i).take (m + 1) from by rw [drop_at (show i < t.length by omega)]; rfl] at h'
        exact h'
theorem hCp1 (h : TxR c t) (hN : 1000 ≤ N) : ∃ o', fL_copy_h1_cL N (o, c, p) = some (0, (o', c, p)) ∧ HtX o' 1 t ∧ jSm [5] [2] o o' := by
  have h60 := h.2.1
  unfold fL_copy_h1_cL fL_clear_h1 fL_appendPart_h1_cL
  try dsimp only
  rw [jL_e, jB_s]
  try dsimp only
  rw [h.1]
  obtain ⟨o', e', h', s'⟩ := hAp1 (N := N) (p := p) h N t.length 0 (jsI o 5 0) [] (by omega) (by omega) ⟨rfl, by simp, fun q hq => absurd hq (by simp)⟩ (by simpa using h60)
  rw [Nat.zero_add] at e'
  have e' : fL_appendPart_h1_cL_3 N N (nI t.length) (0 : Int32) (jsI o 5 0, c, p) = some (0, (o', c, p)) := e'
  rw [e', jB_s]
  refine ⟨o', rfl, ?_, (jSm.rf.sI (by decide)).tr s'⟩
  rw [List.nil_append, List.drop_zero, List.take_length] at h'
  exact h'
theorem hBk1 (h : HtX o 1 t) : ∀ (n m i : Nat) (c : jS) (w : List Int32), m < n → i + m ≤ t.length → TxR c w → w.length + m ≤ 60 → ∃ c', fL_appendPart_cL_h1_3 N n (nI (i + m)) (nI i) (o, c, p) = some (0, (o, c', p)) ∧ TxR c' (w ++ (t.drop i).take m) := by
  intro n
  induction n with
  | zero => intro m i c w h1; omega
  | succ n ih =>
    intro m i c w hn hi hw hl
    have h60 := h.2.1
    show ∃ c', fL_appendPart_cL_h1_b3 N (fL_appendPart_cL_h1_3 N n) _ _ (o, c, p) = _ ∧ _
    unfold fL_appendPart_cL_h1_b3
    cases m with
    | zero =>
      rw [if_pos (nI_le (show i + 0 ≤ i by omega) (by omega))]
      exact ⟨c, rfl, by rw [List.take_zero, List.append_nil]; exact hw⟩
    | succ m =>
      rw [if_neg (nI_ge (show i < i + (m + 1) by omega) (by omega))]
      unfold fL_at_h1
      dsimp only
      rw [show jgI o 5 = nI t.length from h.1, if_neg (nI_pos (show i < 2 ^ 31 by omega)), if_neg (nI_ge (show i < t.length by omega) (by omega)), if_pos (jIn_nI (show i < 60 by omega) (by decide)), nI_clamp (show i < 2 ^ 31 by omega), show jgA o 2 i = qAt t i from h.2.2 i (by omega), jB_s]
      dsimp only
      obtain ⟨c2, e2, h2⟩ := pL_app (N := N) (ch := qAt t i) hw (by omega)
      rw [e2, jB_s, nI_1]
      obtain ⟨c', e', h'⟩ := ih m (i + 1) c2 _ (by omega) (by omega) h2 (by rw [List.length_append, List.length_singleton]; omega)
      refine ⟨c', ?_, ?_⟩
      · rw [show i + (m + 1) = i + 1 + m by omega]
        exact e'
      · rw [List.append_assoc, show [qAt t i] ++ (t.drop (i + 1)).take m = (t.drop i).take (m + 1) from by rw [drop_at (show i < t.length by omega)]; rfl] at h'
        exact h'
theorem hTk1 (h : HtX o 1 t) (hN : 1000 ≤ N) : ∃ c', fL_copy_cL_h1 N (o, c, p) = some (0, (o, c', p)) ∧ TxR c' t := by
  have h60 := h.2.1
  unfold fL_copy_cL_h1 fL_clear fL_appendPart_cL_h1
  try dsimp only
  rw [jL_e, jB_s]
  try dsimp only
  rw [show jgI o 5 = nI t.length from h.1]
  obtain ⟨c', e', h'⟩ := hBk1 (N := N) (p := p) h N t.length 0 (jsI c 0 0) [] (by omega) (by omega) ⟨rfl, by simp, fun q hq => absurd hq (by simp)⟩ (by simpa using h60)
  rw [Nat.zero_add] at e'
  have e' : fL_appendPart_cL_h1_3 N N (nI t.length) (0 : Int32) (o, jsI c 0 0, p) = some (0, (o, c', p)) := e'
  rw [e', jB_s]
  refine ⟨c', rfl, ?_⟩
  rw [List.nil_append, List.drop_zero, List.take_length] at h'
  exact h'
theorem hAp2 (h : TxR c t) : ∀ (n m i : Nat) (o : jS) (w : List Int32), m < n → i + m ≤ t.length → HtX o 2 w → w.length + m ≤ 60 → ∃ o', fL_appendPart_h2_cL_3 N n (nI (i + m)) (nI i) (o, c, p) = some (0, (o', c, p)) ∧ HtX o' 2 (w ++ (t.drop i).take m) ∧ jSm [6] [3] o o' := by
  intro n
  induction n with
  | zero => intro m i o w h1; omega
  | succ n ih =>
    intro m i o w hn hi hw hl
    have h60 := h.2.1
    show ∃ o', fL_appendPart_h2_cL_b3 N (fL_appendPart_h2_cL_3 N n) _ _ (o, c, p) = _ ∧ _
    unfold fL_appendPart_h2_cL_b3
    cases m with
    | zero =>
      rw [if_pos (nI_le (show i + 0 ≤ i by omega) (by omega))]
      exact ⟨o, rfl, by rw [List.take_zero, List.append_nil]; exact hw, jSm.rf⟩
    | succ m =>
      rw [if_neg (nI_ge (show i < i + (m + 1) by omega) (by omega))]
      dsimp only
      rw [pL_at h (show i < 2 ^ 31 by omega), jB_s]
      unfold fL_append_h2
      dsimp only
      rw [hw.1, if_pos (show nI w.length < 60 from nI_lt (b := 60) (by omega) (by decide)), if_pos (jIn_nI (show w.length < 60 by omega) (by decide)), jL_e, nI_clamp (show w.length < 2 ^ 31 by omega)]
      dsimp only
      rw [show jgI (jsA o 3 w.length (qAt t i)) 6 = nI w.length from hw.1, nI_1, jL_e, jB_s, nI_1]
      have hs : jSm [6] [3] o (jsI (jsA o 3 w.length (qAt t i)) 6 (nI (w.length + 1))) := (jSm.rf.sA (by decide)).sI (by decide)
      have hw2 : HtX (jsI (jsA o 3 w.length (qAt t i)) 6 (nI (w.length + 1))) 2 (w ++ [qAt t i]) := by
        refine ⟨by rw [List.length_append]; rfl, by rw [List.length_append, List.length_singleton]; omega, fun q hq => ?_⟩
        rw [List.length_append, List.length_singleton] at hq
        show upd (jgA o 3) w.length (qAt t i) q = _
        unfold qAt
        by_cases hl : q < w.length
        · rw [pk_un (by omega), getD_app_l hl]
          exact hw.2.2 q hl
        · obtain rfl : q = w.length := by omega
          rw [pk_us, getD_app_r (Nat.le_refl _), Nat.sub_self]
          rfl
      obtain ⟨o', e', h', s'⟩ := ih m (i + 1) _ _ (by omega) (by omega) hw2 (by rw [List.length_append, List.length_singleton]; omega)
      refine ⟨o', ?_, ?_, hs.tr s'⟩
      · rw [show i + (m + 1) = i + 1 + m by omega]
        exact e'
      · rw [List.append_assoc, show [qAt t i] ++ (t.drop (i + 1)).take m = (t.drop i).take (m + 1) from by rw [drop_at (show i < t.length by omega)]; rfl] at h'
        exact h'
theorem hCp2 (h : TxR c t) (hN : 1000 ≤ N) : ∃ o', fL_copy_h2_cL N (o, c, p) = some (0, (o', c, p)) ∧ HtX o' 2 t ∧ jSm [6] [3] o o' := by
  have h60 := h.2.1
  unfold fL_copy_h2_cL fL_clear_h2 fL_appendPart_h2_cL
  try dsimp only
  rw [jL_e, jB_s]
  try dsimp only
  rw [h.1]
  obtain ⟨o', e', h', s'⟩ := hAp2 (N := N) (p := p) h N t.length 0 (jsI o 6 0) [] (by omega) (by omega) ⟨rfl, by simp, fun q hq => absurd hq (by simp)⟩ (by simpa using h60)
  rw [Nat.zero_add] at e'
  have e' : fL_appendPart_h2_cL_3 N N (nI t.length) (0 : Int32) (jsI o 6 0, c, p) = some (0, (o', c, p)) := e'
  rw [e', jB_s]
  refine ⟨o', rfl, ?_, (jSm.rf.sI (by decide)).tr s'⟩
  rw [List.nil_append, List.drop_zero, List.take_length] at h'
  exact h'
theorem hBk2 (h : HtX o 2 t) : ∀ (n m i : Nat) (c : jS) (w : List Int32), m < n → i + m ≤ t.length → TxR c w → w.length + m ≤ 60 → ∃ c', fL_appendPart_cL_h2_3 N n (nI (i + m)) (nI i) (o, c, p) = some (0, (o, c', p)) ∧ TxR c' (w ++ (t.drop i).take m) := by
  intro n
  induction n with
  | zero => intro m i c w h1; omega
  | succ n ih =>
    intro m i c w hn hi hw hl
    have h60 := h.2.1
    show ∃ c', fL_appendPart_cL_h2_b3 N (fL_appendPart_cL_h2_3 N n) _ _ (o, c, p) = _ ∧ _
    unfold fL_appendPart_cL_h2_b3
    cases m with
    | zero =>
      rw [if_pos (nI_le (show i + 0 ≤ i by omega) (by omega))]
      exact ⟨c, rfl, by rw [List.take_zero, List.append_nil]; exact hw⟩
    | succ m =>
      rw [if_neg (nI_ge (show i < i + (m + 1) by omega) (by omega))]
      unfold fL_at_h2
      dsimp only
      rw [show jgI o 6 = nI t.length from h.1, if_neg (nI_pos (show i < 2 ^ 31 by omega)), if_neg (nI_ge (show i < t.length by omega) (by omega)), if_pos (jIn_nI (show i < 60 by omega) (by decide)), nI_clamp (show i < 2 ^ 31 by omega), show jgA o 3 i = qAt t i from h.2.2 i (by omega), jB_s]
      dsimp only
      obtain ⟨c2, e2, h2⟩ := pL_app (N := N) (ch := qAt t i) hw (by omega)
      rw [e2, jB_s, nI_1]
      obtain ⟨c', e', h'⟩ := ih m (i + 1) c2 _ (by omega) (by omega) h2 (by rw [List.length_append, List.length_singleton]; omega)
      refine ⟨c', ?_, ?_⟩
      · rw [show i + (m + 1) = i + 1 + m by omega]
        exact e'
      · rw [List.append_assoc, show [qAt t i] ++ (t.drop (i + 1)).take m = (t.drop i).take (m + 1) from by rw [drop_at (show i < t.length by omega)]; rfl] at h'
        exact h'
theorem hTk2 (h : HtX o 2 t) (hN : 1000 ≤ N) : ∃ c', fL_copy_cL_h2 N (o, c, p) = some (0, (o, c', p)) ∧ TxR c' t := by
  have h60 := h.2.1
  unfold fL_copy_cL_h2 fL_clear fL_appendPart_cL_h2
  try dsimp only
  rw [jL_e, jB_s]
  try dsimp only
  rw [show jgI o 6 = nI t.length from h.1]
  obtain ⟨c', e', h'⟩ := hBk2 (N := N) (p := p) h N t.length 0 (jsI c 0 0) [] (by omega) (by omega) ⟨rfl, by simp, fun q hq => absurd hq (by simp)⟩ (by simpa using h60)
  rw [Nat.zero_add] at e'
  have e' : fL_appendPart_cL_h2_3 N N (nI t.length) (0 : Int32) (o, jsI c 0 0, p) = some (0, (o, c', p)) := e'
  rw [e', jB_s]
  refine ⟨c', rfl, ?_⟩
  rw [List.nil_append, List.drop_zero, List.take_length] at h'
  exact h'
end HX
