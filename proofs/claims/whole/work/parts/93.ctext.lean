/-! the class's texts: the new one, the history -/
/-- the buffer -/
def BfX (o : jS) (b : List Int32) : Prop := jgI o 2 = nI b.length ∧ b.length ≤ 20 ∧ ∀ q, q < b.length → jgA o 0 q = qAt b q
/-- the history: m texts, which letters hold which -/
def HiX (o : jS) (π : Nat → Nat) (m : Nat) (hs : Nat → List Int32) : Prop := jgI o 3 = nI m ∧ m ≤ 3 ∧ (∀ j, j < 3 → jgA o 4 j = nI (π j) ∧ π j < 3) ∧ (∀ i j, i < 3 → j < 3 → π i = π j → i = j) ∧ ∀ j, j < m → HtX o (π j) (hs j)
section CTX
variable {N : Nat} {o c p : jS} {t b : List Int32}
theorem sp_c (h : TxR c t) : ∀ (n m i : Nat) (p : jS) (w : List Int32), m < n → i + m ≤ t.length → TxR p w → w.length + m ≤ 60 → ∃ p', fL_appendPart_pL_cL_3 N n (nI (i + m)) (nI i) (o, c, p) = some (0, (o, c, p')) ∧ TxR p' (w ++ (t.drop i).take m) := by
  intro n
  induction n with
  | zero => intro m i p w h1; omega
  | succ n ih =>
    intro m i p w hn hi hw hl
    have h60 := h.2.1
    show ∃ p', fL_appendPart_pL_cL_b3 N (fL_appendPart_pL_cL_3 N n) _ _ (o, c, p) = _ ∧ _
    unfold fL_appendPart_pL_cL_b3
    cases m with
    | zero =>
      rw [if_pos (nI_le (show i + 0 ≤ i by omega) (by omega))]
      exact ⟨p, rfl, by rw [List.take_zero, List.append_nil]; exact hw⟩
    | succ m =>
      rw [if_neg (nI_ge (show i < i + (m + 1) by omega) (by omega))]
      dsimp only
      rw [pL_at h (show i < 2 ^ 31 by omega), jB_s]
      obtain ⟨c2, e2, h2⟩ := pL_app (N := N) (ch := qAt t i) hw (by omega)
      rw [e2, jB_s, nI_1]
      obtain ⟨c', e', h'⟩ := ih m (i + 1) c2 _ (by omega) (by omega) h2 (by rw [List.length_append, List.length_singleton]; omega)
      refine ⟨c', ?_, ?_⟩
      · rw [show i + (m + 1) = i + 1 + m by omega]
        exact e'
      · rw [List.append_assoc, show [qAt t i] ++ (t.drop (i + 1)).take m = (t.drop i).take (m + 1) from by rw [drop_at (show i < t.length by omega)]; rfl] at h'
        exact h'
theorem sp_b (h : BfX o b) : ∀ (n m i : Nat) (p : jS) (w : List Int32), m < n → i + m ≤ b.length → TxR p w → w.length + m ≤ 60 → ∃ p', fL_appendPart_pL_B_3 N n (nI (i + m)) (nI i) (o, c, p) = some (0, (o, c, p')) ∧ TxR p' (w ++ (b.drop i).take m) := by
  intro n
  induction n with
  | zero => intro m i p w h1; omega
  | succ n ih =>
    intro m i p w hn hi hw hl
    have h60 := h.2.1
    show ∃ p', fL_appendPart_pL_B_b3 N (fL_appendPart_pL_B_3 N n) _ _ (o, c, p) = _ ∧ _
    unfold fL_appendPart_pL_B_b3
    cases m with
    | zero =>
      rw [if_pos (nI_le (show i + 0 ≤ i by omega) (by omega))]
      exact ⟨p, rfl, by rw [List.take_zero, List.append_nil]; exact hw⟩
    | succ m =>
      rw [if_neg (nI_ge (show i < i + (m + 1) by omega) (by omega))]
      unfold fL_at_B
      dsimp only
      rw [h.1, if_neg (nI_pos (show i < 2 ^ 31 by omega)), if_neg (nI_ge (show i < b.length by omega) (by omega)), if_pos (jIn_nI (show i < 20 by omega) (by decide)), nI_clamp (show i < 2 ^ 31 by omega), h.2.2 i (by omega), jB_s]
      dsimp only
      obtain ⟨c2, e2, h2⟩ := pL_app (N := N) (ch := qAt b i) hw (by omega)
      rw [e2, jB_s, nI_1]
      obtain ⟨c', e', h'⟩ := ih m (i + 1) c2 _ (by omega) (by omega) h2 (by rw [List.length_append, List.length_singleton]; omega)
      refine ⟨c', ?_, ?_⟩
      · rw [show i + (m + 1) = i + 1 + m by omega]
        exact e'
      · rw [List.append_assoc, show [qAt b i] ++ (b.drop (i + 1)).take m = (b.drop i).take (m + 1) from by rw [drop_at (show i < b.length by omega)]; rfl] at h'
        exact h'
/-- the text after an edit -/
def qEd (t b : List Int32) (x y : Nat) : List Int32 := t.take x ++ (b ++ t.drop (x + y))
theorem qEd_len {x y : Nat} (h : x + y ≤ t.length) : (qEd t b x y).length = t.length - y + b.length := by
  unfold qEd
  rw [List.length_append, List.length_append, List.length_take, List.length_drop]
  omega
theorem c_splice (hN : 1000 ≤ N) (hc : TxR c t) (hb : BfX o b) {x y : Nat} (hx : x + y ≤ t.length) (hl : t.length - y + b.length ≤ 60) : ∃ p', fL_splice_pL_cL_B N (nI x) (nI y) (o, c, p) = some (0, (o, c, p')) ∧ TxR p' (qEd t b x y) := by
  have h60 := hc.2.1
  have h20 := hb.2.1
  unfold fL_splice_pL_cL_B fL_clear fL_appendPart_pL_cL fL_appendPart_pL_B
  try dsimp only
  rw [jL_e, jB_s]
  obtain ⟨p1, e1, h1⟩ := sp_c (N := N) (o := o) hc N x 0 (jsI p 0 0) [] (by omega) (by omega) ⟨rfl, by simp, fun q hq => absurd hq (by simp)⟩ (by simp; omega)
  rw [Nat.zero_add] at e1
  have e1 : fL_appendPart_pL_cL_3 N N (nI x) (0 : Int32) (o, c, jsI p 0 0) = some (0, (o, c, p1)) := e1
  rw [e1, jB_s]
  dsimp only
  rw [hb.1]
  rw [List.nil_append, List.drop_zero] at h1
  obtain ⟨p2, e2, h2⟩ := sp_b (N := N) (c := c) hb N b.length 0 p1 _ (by omega) (by omega) h1 (by rw [List.length_take]; omega)
  rw [Nat.zero_add] at e2
  have e2 : fL_appendPart_pL_B_3 N N (nI b.length) (0 : Int32) (o, c, p1) = some (0, (o, c, p2)) := e2
  rw [e2, jB_s]
  dsimp only
  rw [hc.1, nI_add]
  rw [List.drop_zero, List.take_length] at h2
  obtain ⟨p3, e3, h3⟩ := sp_c (N := N) (o := o) hc N (t.length - (x + y)) (x + y) p2 _ (by omega) (by omega) h2 (by rw [List.length_append, List.length_take]; omega)
  rw [show x + y + (t.length - (x + y)) = t.length by omega] at e3
  rw [e3, jB_s]
  refine ⟨p3, rfl, ?_⟩
  rw [show (t.drop (x + y)).take (t.length - (x + y)) = t.drop (x + y) from List.take_of_length_le (by rw [List.length_drop]; omega), List.append_assoc] at h3
  exact h3
/-- the history with one more text, which is the last; three at most -/
def hsP (m : Nat) (hs : Nat → List Int32) (t : List Int32) (j : Nat) : List Int32 := if m < 3 then (if j = m then t else hs j) else (if j < 2 then hs (j + 1) else t)
theorem HtX.sm {o o' : jS} {h h' : Nat} {w : List Int32} (hx : HtX o h w) (hs : jSm [4 + h'] [1 + h'] o o') (hne : h ≠ h') : HtX o' h w := ⟨by rw [hs.1 (4 + h) (by simp; omega)]; exact hx.1, hx.2.1, fun q hq => by rw [hs.2 (1 + h) (by simp; omega)]; exact hx.2.2 q hq⟩
theorem hCp (hc : TxR c t) (hN : 1000 ≤ N) (h : Nat) (hh : h < 3) : ∃ o', (if (nI h) = (0 : Int32) then (jB (fL_copy_h0_cL N (o, c, p)) fun _ s1202 => (jL ((jsI s1202.1 3 (jgI s1202.1 3 + (1 : Int32)), s1202.2.1, s1202.2.2)) fun s1203 => some ((0 : Int32), s1203))) else (if (nI h) = (1 : Int32) then (jB (fL_copy_h1_cL N (o, c, p)) fun _ s1204 => (jL ((jsI s1204.1 3 (jgI s1204.1 3 + (1 : Int32)), s1204.2.1, s1204.2.2)) fun s1205 => some (0, s1205))) else (if (nI h) = (2 : Int32) then (jB (fL_copy_h2_cL N (o, c, p)) fun _ s1206 => (jL ((jsI s1206.1 3 (jgI s1206.1 3 + (1 : Int32)), s1206.2.1, s1206.2.2)) fun s1207 => some (0, s1207))) else none))) = some (0, (jsI o' 3 (jgI o' 3 + 1), c, p)) ∧ HtX o' h t ∧ jSm [4 + h] [1 + h] o o' := by
  rcases (show h = 0 ∨ h = 1 ∨ h = 2 by omega) with rfl | rfl | rfl
  · obtain ⟨o', e, a, s⟩ := hCp0 (N := N) (o := o) (p := p) hc hN
    rw [if_pos (by decide), e, jB_s, jL_e]
    exact ⟨o', rfl, a, s⟩
  · obtain ⟨o', e, a, s⟩ := hCp1 (N := N) (o := o) (p := p) hc hN
    rw [if_neg (by decide), if_pos (by decide), e, jB_s, jL_e]
    exact ⟨o', rfl, a, s⟩
  · obtain ⟨o', e, a, s⟩ := hCp2 (N := N) (o := o) (p := p) hc hN
    rw [if_neg (by decide), if_neg (by decide), if_pos (by decide), e, jB_s, jL_e]
    exact ⟨o', rfl, a, s⟩
theorem c_store12 {π : Nat → Nat} {m : Nat} {hs : Nat → List Int32} (hN : 1000 ≤ N) (hc : TxR c t) (hH : HiX o π m hs) (hm : m < 3) : ∃ o', fH_store_cL_12 N (o, c, p) = some (0, (o', c, p)) ∧ HiX o' π (m + 1) (fun j => if j = m then t else hs j) ∧ (∀ i, i ≤ 2 → jgI o' i = jgI o i) ∧ jgA o' 0 = jgA o 0 := by
  obtain ⟨h1, h2, h3, h4, h5⟩ := hH
  have hpm := h3 m hm
  unfold fH_store_cL_12
  dsimp only
  rw [h1, if_pos (jIn_nI hm (by decide)), nI_clamp (show m < 2 ^ 31 by omega), hpm.1]
  obtain ⟨o1, e1, a1, s1⟩ := hCp (N := N) (o := o) (p := p) hc hN (π m) hpm.2
  rw [e1]
  have i3 : jgI o1 3 = nI m := by rw [s1.1 3 (by simp; omega)]; exact h1
  refine ⟨_, rfl, ⟨by rw [i3, nI_1]; rfl, by omega, fun j hj => ?_, h4, fun j hj => ?_⟩, fun i hi => ?_, ?_⟩
  · show jgA o1 4 j = _ ∧ _
    rw [s1.2 4 (by simp; omega)]
    exact h3 j hj
  · have hz : ∀ w, HtX o1 (π j) w → HtX (jsI o1 3 (jgI o1 3 + 1)) (π j) w := fun w hw => ⟨by rw [jgI_sI, if_neg (by omega)]; exact hw.1, hw.2.1, hw.2.2⟩
    dsimp only
    by_cases hjm : j = m
    · subst hjm
      rw [if_pos rfl]
      exact hz _ a1
    · rw [if_neg hjm]
      exact hz _ ((h5 j (by omega)).sm s1 (fun z => hjm (h4 j m (by omega) hm z)))
  · show (if i = 3 then _ else jgI o1 i) = _
    rw [if_neg (by omega), s1.1 i (by simp; omega)]
  · show jgA o1 0 = jgA o 0
    rw [s1.2 0 (by simp; omega)]
theorem c_store {π : Nat → Nat} {m : Nat} {hs : Nat → List Int32} (hN : 1000 ≤ N) (hc : TxR c t) (hH : HiX o π m hs) : ∃ o' π', fH_store_cL N (o, c, p) = some (0, (o', c, p)) ∧ HiX o' π' (if m < 3 then m + 1 else 3) (hsP m hs t) ∧ (∀ i, i ≤ 2 → jgI o' i = jgI o i) ∧ jgA o' 0 = jgA o 0 := by
  unfold fH_store_cL
  dsimp only
  rw [hH.1]
  by_cases hm : m < 3
  · rw [if_pos (show nI m < 3 from nI_lt (b := 3) hm (by decide)), if_pos hm]
    obtain ⟨o', e, a, b, d⟩ := c_store12 (N := N) (p := p) hN hc hH hm
    refine ⟨o', π, e, ?_, b, d⟩
    have : hsP m hs t = fun j => if j = m then t else hs j := by
      funext j
      unfold hsP
      rw [if_pos hm]
    rw [this]
    exact a
  · obtain rfl : m = 3 := by have := hH.2.1; omega
    obtain ⟨h1, h2, h3, h4, h5⟩ := hH
    rw [if_neg (by decide), if_neg (by decide)]
    have p0 := h3 0 (by decide)
    have p1 := h3 1 (by decide)
    have p2 := h3 2 (by decide)
    obtain ⟨n, hn⟩ : ∃ n, N = n + 3 := ⟨N - 3, by omega⟩
    have j1 : jIn (nI (π 1)) 3 = true := jIn_nI p1.2 (by decide)
    have j2 : jIn (nI (π 2)) 3 = true := jIn_nI p2.2 (by decide)
    have j0 : jIn (nI (π 0)) 3 = true := jIn_nI p0.2 (by decide)
    have run : fH_giveUpFirst N (o, c, p) = some (0, (jsI (jsA (jsA (jsA o 4 0 (nI (π 1))) 4 1 (nI (π 2))) 4 2 (nI (π 0))) 3 2, c, p)) := by
      unfold fH_giveUpFirst
      dsimp only
      rw [if_pos (by decide), show ((0 : Int32)).toNatClampNeg = 0 from rfl, p0.1]
      have hr : fH_giveUpFirst_9 N (n + 3) (nI (π 0)) (1 : Int32) (o, c, p) = some (0, (jsI (jsA (jsA (jsA o 4 0 (nI (π 1))) 4 1 (nI (π 2))) 4 2 (nI (π 0))) 3 2, c, p)) := by
        show fH_giveUpFirst_b9 N (fH_giveUpFirst_9 N (n + 2)) _ _ _ = _
        unfold fH_giveUpFirst_b9
        dsimp only
        rw [if_neg (by decide), if_pos (by decide), if_pos (by decide), show ((1 : Int32)).toNatClampNeg = 1 from rfl, p1.1, if_pos j1, show ((1 : Int32) - 1).toNatClampNeg = 0 from rfl, jL_e]
        show fH_giveUpFirst_b9 N (fH_giveUpFirst_9 N (n + 1)) _ _ _ = _
        unfold fH_giveUpFirst_b9
        dsimp only
        rw [if_neg (by decide), if_pos (by decide), if_pos (by decide), show ((1 : Int32) + 1).toNatClampNeg = 2 from rfl, show jgA (jsA o 4 0 (nI (π 1))) 4 2 = nI (π 2) from p2.1, if_pos j2, show ((1 : Int32) + 1 - 1).toNatClampNeg = 1 from rfl, jL_e]
        show fH_giveUpFirst_b9 N (fH_giveUpFirst_9 N n) _ _ _ = _
        unfold fH_giveUpFirst_b9
        dsimp only
        rw [if_pos (by decide), if_pos (by decide), if_pos j0, show ((2 : Int32)).toNatClampNeg = 2 from rfl, jL_e, jL_e]
      rw [← hn] at hr
      exact hr
    rw [run, jB_s]
    have hH2 : HiX (jsI (jsA (jsA (jsA o 4 0 (nI (π 1))) 4 1 (nI (π 2))) 4 2 (nI (π 0))) 3 2) (fun j => if j = 0 then π 1 else if j = 1 then π 2 else π 0) 2 (fun j => hs (j + 1)) := by
      refine ⟨rfl, by decide, fun j hj => ?_, fun i j hi hj => ?_, fun j hj => ?_⟩
      · rcases (show j = 0 ∨ j = 1 ∨ j = 2 by omega) with rfl | rfl | rfl
        · exact ⟨rfl, p1.2⟩
        · exact ⟨rfl, p2.2⟩
        · exact ⟨rfl, p0.2⟩
      · have q01 := h4 0 1 (by decide) (by decide)
        have q02 := h4 0 2 (by decide) (by decide)
        have q12 := h4 1 2 (by decide) (by decide)
        rcases (show i = 0 ∨ i = 1 ∨ i = 2 by omega) with rfl | rfl | rfl <;> rcases (show j = 0 ∨ j = 1 ∨ j = 2 by omega) with rfl | rfl | rfl <;> simp <;> omega
      · rcases (show j = 0 ∨ j = 1 by omega) with rfl | rfl
        · have := h5 1 (by decide)
          exact ⟨by rw [jgI_sI, if_neg (by omega)]; exact this.1, this.2.1, fun q hq => by
            show jgA (jsA (jsA (jsA o 4 0 (nI (π 1))) 4 1 (nI (π 2))) 4 2 (nI (π 0))) (1 + π 1) q = _
            rw [jgA_sA, if_neg (by omega), jgA_sA, if_neg (by omega), jgA_sA, if_neg (by omega)]
            exact this.2.2 q hq⟩
        · have := h5 2 (by decide)
          exact ⟨by show jgI (jsI _ 3 2) (4 + π 2) = _; rw [jgI_sI, if_neg (by omega)]; exact this.1, this.2.1, fun q hq => by
            show jgA (jsA (jsA (jsA o 4 0 (nI (π 1))) 4 1 (nI (π 2))) 4 2 (nI (π 0))) (1 + π 2) q = _
            rw [jgA_sA, if_neg (by omega), jgA_sA, if_neg (by omega), jgA_sA, if_neg (by omega)]
            exact this.2.2 q hq⟩
    obtain ⟨o', e, a, b, d⟩ := c_store12 (N := N) (p := p) hN hc hH2 (by decide)
    refine ⟨o', (fun j => if j = 0 then π 1 else if j = 1 then π 2 else π 0), e, ?_, fun i hi => ?_, ?_⟩
    · obtain ⟨y1, y2, y3, y4, y5⟩ := a
      refine ⟨y1, y2, y3, y4, fun j hj => ?_⟩
      have hj3 : j < 3 := hj
      have e2 : hsP 3 hs t j = (if j = 2 then t else hs (j + 1)) := by
        unfold hsP
        rcases (show j = 0 ∨ j = 1 ∨ j = 2 by omega) with rfl | rfl | rfl <;> rfl
      rw [e2]
      exact y5 j hj
    · rw [b i hi]
      show (if i = 3 then _ else jgI o i) = _
      rw [if_neg (by omega)]
    · rw [d]
      show jgA (jsA (jsA (jsA o 4 0 (nI (π 1))) 4 1 (nI (π 2))) 4 2 (nI (π 0))) 0 = _
      rw [jgA_sA, if_neg (by decide), jgA_sA, if_neg (by decide), jgA_sA, if_neg (by decide)]
theorem c_last {π : Nat → Nat} {m : Nat} {hs : Nat → List Int32} (hN : 1000 ≤ N) (hH : HiX o π (m + 1) hs) : ∃ c', fH_takeLast_cL N (o, c, p) = some (1, (jsI o 3 (nI m), c', p)) ∧ TxR c' (hs m) ∧ HiX (jsI o 3 (nI m)) π m hs := by
  obtain ⟨h1, h2, h3, h4, h5⟩ := hH
  have hz : ∀ j, j < m + 1 → HtX (jsI o 3 (nI m)) (π j) (hs j) := fun j hj => ⟨by rw [jgI_sI, if_neg (by omega)]; exact (h5 j hj).1, (h5 j hj).2.1, (h5 j hj).2.2⟩
  unfold fH_takeLast_cL
  dsimp only
  rw [h1, if_pos (show (0 : Int32) < nI (m + 1) from nI_lt (a := 0) (by omega) (by omega)), nI_pred, jL_e]
  dsimp only
  rw [show jgI (jsI o 3 (nI m)) 3 = nI m from rfl, if_pos (jIn_nI (show m < 3 by omega) (by decide)), nI_clamp (show m < 2 ^ 31 by omega), show jgA (jsI o 3 (nI m)) 4 m = nI (π m) from (h3 m (by omega)).1]
  have hp := (h3 m (by omega)).2
  have hm := hz m (by omega)
  have fin : HiX (jsI o 3 (nI m)) π m hs := ⟨rfl, by omega, h3, h4, fun j hj => hz j (by omega)⟩
  rcases (show π m = 0 ∨ π m = 1 ∨ π m = 2 by omega) with e | e | e
  · rw [e] at hm ⊢
    obtain ⟨c', e1, a1⟩ := hTk0 (N := N) (c := c) (p := p) hm hN
    rw [if_pos (by decide), e1, jB_s]
    exact ⟨c', rfl, a1, fin⟩
  · rw [e] at hm ⊢
    obtain ⟨c', e1, a1⟩ := hTk1 (N := N) (c := c) (p := p) hm hN
    rw [if_neg (by decide), if_pos (by decide), e1, jB_s]
    exact ⟨c', rfl, a1, fin⟩
  · rw [e] at hm ⊢
    obtain ⟨c', e1, a1⟩ := hTk2 (N := N) (c := c) (p := p) hm hN
    rw [if_neg (by decide), if_neg (by decide), if_pos (by decide), e1, jB_s]
    exact ⟨c', rfl, a1, fin⟩
end CTX
