/-! what a forest says of its nodes, by their numbers -/
/-- where node i begins; behind the last one: the end -/
def bF (l : List Nd) (c i : Nat) : Nat := if i < l.length then nF (ndA l i) else c
def hop (l : List Nd) (i : Nat) : Nat → Nat
  | 0 => i
  | c + 1 => hop l (i + nZ (ndA l i)) c
theorem hop_s {n : Nd} {r : List Nd} : ∀ (c i : Nat), hop (n :: r) (i + 1) c = hop r i c + 1
  | 0, _ => rfl
  | c + 1, i => by
    rw [hop, hop, ndA_s, show i + 1 + nZ (ndA r i) = (i + nZ (ndA r i)) + 1 by omega, hop_s c]
theorem hop_l {cs r : List Nd} : ∀ (c i : Nat), (∀ c', c' < c → hop cs i c' < cs.length) → hop (cs ++ r) i c = hop cs i c
  | 0, _, _ => rfl
  | c + 1, i, h => by
    have h0 : i < cs.length := h 0 (by omega)
    rw [hop, hop, ndA_l h0, hop_l c _ (fun c' hc => h (c' + 1) (by omega))]
theorem bF_s {n : Nd} {r : List Nd} {c i : Nat} : bF (n :: r) c (i + 1) = bF r c i := by
  unfold bF
  rw [ndA_s, List.length_cons]
  by_cases h : i < r.length
  · rw [if_pos h, if_pos (by omega)]
  · rw [if_neg h, if_neg (by omega)]
theorem bF_r {r : List Nd} {d j : Nat} : ∀ cs : List Nd, bF (cs ++ r) d (cs.length + j) = bF r d j
  | [] => by rw [List.length_nil, Nat.zero_add]; rfl
  | n :: cs => by
    rw [List.length_cons, show cs.length + 1 + j = (cs.length + j) + 1 by omega, List.cons_append, bF_s, bF_r cs]
theorem bF_l {cs r : List Nd} {c d j : Nat} (h : bF r d 0 = c) (hj : j ≤ cs.length) : bF (cs ++ r) d j = bF cs c j := by
  by_cases hl : j < cs.length
  · unfold bF
    rw [if_pos hl, if_pos (by rw [List.length_append]; omega), ndA_l hl]
  · obtain rfl : j = cs.length := by omega
    have := bF_r (r := r) (d := d) (j := 0) cs
    rw [Nat.add_zero] at this
    rw [this, h]
    unfold bF
    rw [if_neg (by omega)]
theorem FoP.b0 {f : Nat → Int32} {a c b : Nat} {l : List Nd} {R : List Nat} (h : FoP f a c b l R) : bF l c 0 = a := by
  refine FoG.ind h (fun a c b l R => bF l c 0 = a) ?_ ?_ ?_
  · intro a b
    rfl
  · intro a c d b n r R hl _ _
    exact hl.1
  · intro a c d b n cs Q r R hi _ _ _ _
    exact hi.1
/-- node i of l: its size, its stretch, what it is, what lies in it -/
def NdF (f : Nat → Int32) (l : List Nd) (c i : Nat) : Prop := i + nZ (ndA l i) ≤ l.length ∧ nF (ndA l i) ≤ nT (ndA l i) ∧ nT (ndA l i) = bF l c (i + nZ (ndA l i)) ∧ (LfP f (nF (ndA l i)) (nT (ndA l i)) (ndA l i) ∨ (20 ≤ nK (ndA l i) ∧ nK (ndA l i) ≤ 28 ∧ 2 ≤ nZ (ndA l i) ∧ 1 ≤ nC (ndA l i) ∧ nM (ndA l i) = 0 ∧ nL (ndA l i) = [] ∧ nF (ndA l (i + 1)) = nF (ndA l i) ∧ nO (ndA l i) = nO (ndA l (i + 1)))) ∧ (∀ x, i ≤ x → x < i + nZ (ndA l i) → x + nZ (ndA l x) ≤ i + nZ (ndA l i)) ∧ (∀ c', c' < nC (ndA l i) → hop l (i + 1) c' < i + nZ (ndA l i)) ∧ hop l (i + 1) (nC (ndA l i)) = i + nZ (ndA l i)
theorem NdF.s {f : Nat → Int32} {n : Nd} {r : List Nd} {c i : Nat} (h : NdF f r c i) : NdF f (n :: r) c (i + 1) := by
  obtain ⟨h1, h2, h3, h4, h5, h6, h7⟩ := h
  unfold NdF
  rw [ndA_s, ndA_s, List.length_cons, show i + 1 + nZ (ndA r i) = (i + nZ (ndA r i)) + 1 by omega, bF_s, hop_s]
  refine ⟨by omega, h2, h3, h4, fun x x1 x2 => ?_, fun c' hc => ?_, by omega⟩
  · obtain ⟨x, rfl⟩ : ∃ x', x = x' + 1 := ⟨x - 1, by omega⟩
    rw [ndA_s]
    have := h5 x (by omega) (by omega)
    omega
  · rw [hop_s]
    have := h6 c' hc
    omega
theorem NdF.r {f : Nat → Int32} {r : List Nd} {d i : Nat} (h : NdF f r d i) : ∀ cs : List Nd, NdF f (cs ++ r) d (cs.length + i)
  | [] => by rw [List.length_nil, Nat.zero_add]; exact h
  | n :: cs => by
    rw [List.length_cons, show cs.length + 1 + i = (cs.length + i) + 1 by omega, List.cons_append]
    exact (NdF.r h cs).s
theorem NdF.l {f : Nat → Int32} {cs r : List Nd} {c d i : Nat} (h : NdF f cs c i) (hi : i < cs.length) (hb : bF r d 0 = c) : NdF f (cs ++ r) d i := by
  obtain ⟨h1, h2, h3, h4, h5, h6, h7⟩ := h
  unfold NdF
  rw [ndA_l hi, bF_l hb h1]
  refine ⟨by rw [List.length_append]; omega, h2, h3, ?_, fun x x1 x2 => ?_, fun c' hc => ?_, ?_⟩
  · rcases h4 with h4 | h4
    · exact Or.inl h4
    · have : i + 1 < cs.length := by omega
      rw [ndA_l this]
      exact Or.inr h4
  · rw [ndA_l (by omega)]
    exact h5 x x1 x2
  · rw [hop_l _ _ (fun c2 hc2 => by have := h6 c2 (by omega); omega)]
    exact h6 c' hc
  · rw [hop_l _ _ (fun c2 hc2 => by have := h6 c2 hc2; omega)]
    exact h7
theorem FoP.nd {f : Nat → Int32} {a c b : Nat} {l : List Nd} {R : List Nat} (h : FoP f a c b l R) : (∀ i, i < l.length → NdF f l c i ∧ a ≤ nF (ndA l i) ∧ nT (ndA l i) ≤ c) ∧ (∀ c', c' < R.length → hop l 0 c' < l.length) ∧ hop l 0 R.length = l.length := by
  refine FoG.ind h (fun a c b l R => (∀ i, i < l.length → NdF f l c i ∧ a ≤ nF (ndA l i) ∧ nT (ndA l i) ≤ c) ∧ (∀ c', c' < R.length → hop l 0 c' < l.length) ∧ hop l 0 R.length = l.length) ?_ ?_ ?_
  · intro a b
    exact ⟨fun i hi => absurd hi (by simp), fun i hi => absurd hi (by simp), rfl⟩
  · intro a c d b n r R hl hr ih
    have hle := (FoP.le hr).1
    have hb := FoP.b0 hr
    have hz : nZ n = 1 := hl.2.2.2.2.1
    refine ⟨fun i hi => ?_, fun c' hc => ?_, ?_⟩
    · cases i with
      | zero =>
        have e1 : nF n = a := hl.1
        have e2 : nT n = c := hl.2.1
        have e3 : nC n = 0 := hl.2.2.2.2.2.1
        refine ⟨⟨?_, ?_, ?_, Or.inl ?_, fun x x1 x2 => ?_, fun c' hc => ?_, ?_⟩, ?_, ?_⟩
        · rw [ndA_z, hz, List.length_cons]; omega
        · rw [ndA_z, e1, e2]; exact hl.2.2.1
        · rw [ndA_z, hz, e2, bF_s, hb]
        · rw [ndA_z, e1, e2]; exact hl
        · rw [ndA_z, hz] at x2 ⊢
          obtain rfl : x = 0 := by omega
          rw [ndA_z, hz]
          exact Nat.le_refl _
        · rw [ndA_z, e3] at hc
          exact absurd hc (by omega)
        · rw [ndA_z, e3, hz]
          rfl
        · rw [ndA_z, e1]; exact Nat.le_refl _
        · rw [ndA_z, e2]; exact hle
      | succ i =>
        rw [List.length_cons] at hi
        have := ih.1 i (by omega)
        refine ⟨this.1.s, ?_, ?_⟩
        · rw [ndA_s]
          have := hl.2.2.1
          omega
        · rw [ndA_s]
          exact this.2.2
    · cases c' with
      | zero => rw [List.length_cons]; exact Nat.succ_pos _
      | succ c' =>
        rw [hop, ndA_z, hz, show 0 + 1 = 0 + 1 from rfl, hop_s, List.length_cons]
        rw [List.length_cons] at hc
        have := ih.2.1 c' (by omega)
        omega
    · rw [List.length_cons, hop, ndA_z, hz, hop_s, ih.2.2, List.length_cons]
  · intro a c d b n cs Q r R hi hc ihc hr ih
    have hle := (FoP.le hr).1
    have hlc := FoP.le hc
    have hb := FoP.b0 hr
    have hbc := FoP.b0 hc
    have e1 : nF n = a := hi.1
    have e2 : nT n = c := hi.2.1
    have hz : nZ n = cs.length + 1 := hi.2.2.2.2.1
    have e3 : nC n = Q.length := hi.2.2.2.2.2.1
    have hq : 1 ≤ Q.length := hi.2.2.2.2.2.2.1
    have hc1 : 1 ≤ cs.length := by have := hlc.2.1; omega
    have hwf := FoP.wf hc
    have hn : hop (n :: (cs ++ r)) 0 1 = cs.length + 1 := by
      show 0 + nZ (ndA (n :: (cs ++ r)) 0) = _
      rw [ndA_z, hz, Nat.zero_add]
    have hhop : ∀ c', hop (n :: (cs ++ r)) 0 (c' + 1) = cs.length + 1 + hop r 0 c' := by
      intro c'
      rw [hop, ndA_z, hz, Nat.zero_add, hop_s]
      have : ∀ (ds : List Nd) (i : Nat), hop (ds ++ r) (ds.length + i) c' = ds.length + hop r i c' := by
        intro ds
        induction ds with
        | nil => intro i; rw [List.length_nil, Nat.zero_add, Nat.zero_add]; rfl
        | cons x ds ihd =>
          intro i
          rw [List.length_cons, show ds.length + 1 + i = (ds.length + i) + 1 by omega, List.cons_append, hop_s, ihd]
          omega
      have h0 := this cs 0
      rw [Nat.add_zero] at h0
      rw [h0]
      omega
    refine ⟨fun i hi2 => ?_, fun c' hc' => ?_, ?_⟩
    · cases i with
      | zero =>
        refine ⟨⟨?_, ?_, ?_, Or.inr ⟨?_, ?_, ?_, ?_, ?_, ?_, ?_, ?_⟩, fun x x1 x2 => ?_, fun c' hc' => ?_, ?_⟩, ?_, ?_⟩
        · rw [ndA_z, hz, List.length_cons, List.length_append]; omega
        · rw [ndA_z, e1, e2]; exact hlc.1
        · rw [ndA_z, hz, e2, Nat.zero_add, bF_s]
          have := bF_r (r := r) (d := d) (j := 0) cs
          rw [Nat.add_zero] at this
          rw [this, hb]
        · rw [ndA_z]; exact hi.2.2.1
        · rw [ndA_z]; exact hi.2.2.2.1
        · rw [ndA_z, hz]; omega
        · rw [ndA_z, e3]; exact hq
        · rw [ndA_z]; exact hi.2.2.2.2.2.2.2.1
        · rw [ndA_z]; exact hi.2.2.2.2.2.2.2.2.1
        · rw [ndA_z, ndA_s, ndA_l hc1, e1]
          unfold bF at hbc
          rw [if_pos (show 0 < cs.length by omega)] at hbc
          exact hbc
        · rw [ndA_z, ndA_s, ndA_l hc1]; exact hi.2.2.2.2.2.2.2.2.2
        · rw [ndA_z, hz] at x2 ⊢
          cases x with
          | zero => rw [ndA_z, hz]; exact Nat.le_refl _
          | succ x =>
            rw [ndA_s, ndA_l (by omega)]
            have := (hwf x (by omega)).1
            omega
        · rw [ndA_z, e3] at hc'
          rw [ndA_z, hz, hop_s, hop_l _ _ (fun c2 hc2 => ihc.2.1 c2 (by omega))]
          have := ihc.2.1 c' hc'
          omega
        · rw [ndA_z, hz, e3, hop_s, hop_l _ _ (fun c2 hc2 => ihc.2.1 c2 hc2), ihc.2.2]
          omega
        · rw [ndA_z, e1]; exact Nat.le_refl _
        · rw [ndA_z, e2]; exact hle
      | succ i =>
        rw [List.length_cons, List.length_append] at hi2
        by_cases hil : i < cs.length
        · have := ihc.1 i hil
          refine ⟨(this.1.l hil hb).s, ?_, ?_⟩
          · rw [ndA_s, ndA_l hil]; exact this.2.1
          · rw [ndA_s, ndA_l hil]; omega
        · obtain ⟨j, rfl⟩ : ∃ j, i = cs.length + j := ⟨i - cs.length, by omega⟩
          have := ih.1 j (by omega)
          refine ⟨(this.1.r cs).s, ?_, ?_⟩
          · rw [ndA_s, ndA_r (by omega), show cs.length + j - cs.length = j by omega]
            have := hlc.1
            omega
          · rw [ndA_s, ndA_r (by omega), show cs.length + j - cs.length = j by omega]; exact this.2.2
    · cases c' with
      | zero => rw [List.length_cons]; exact Nat.succ_pos _
      | succ c' =>
        rw [List.length_cons] at hc'
        have := ih.2.1 c' (by omega)
        rw [hhop, List.length_cons, List.length_append]
        omega
    · show hop _ 0 (R.length + 1) = _
      rw [hhop, ih.2.2, List.length_cons, List.length_append]
      omega
