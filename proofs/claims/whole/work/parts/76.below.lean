/-! the reference counts what lies below each node -/
theorem bel_turn {N k F x p v w : Nat} {s : jS} (hk : k < 2) (hx : x + 1 < 400) (hp : p < 400) (h10 : jgA s 10 (400 * k + (x + 1)) = nI p) (hv : jgA s 11 (400 * k + p) = nI v) (hw : jgA s 11 (400 * k + (x + 1)) = nI w) : fM_number_169 N (F + 1) (nI k) (nI (x + 1)) s = fM_number_169 N F (nI k) (nI x) (jsA s 11 (400 * k + p) (nI (v + w))) := by
  have hidx : ∀ i, (400 : Int32) * nI k + nI i = nI (400 * k + i) := fun i => by rw [show (400 : Int32) = nI 400 from rfl, pk_mul, nI_add]
  show fM_number_b169 N (fM_number_169 N F) (nI k) (nI (x + 1)) s = _
  unfold fM_number_b169
  have jX : jIn (nI (400 * k + (x + 1))) 800 = true := jIn_nI (by omega) (by decide)
  have jP : jIn (nI (400 * k + p)) 800 = true := jIn_nI (by omega) (by decide)
  have cX : (nI (400 * k + (x + 1))).toNatClampNeg = 400 * k + (x + 1) := nI_clamp (by omega)
  have cP : (nI (400 * k + p)).toNatClampNeg = 400 * k + p := nI_clamp (by omega)
  rw [if_neg (nI_nle (by omega) (by omega))]
  simp only [hidx, jX, cX, h10, jP, cP, if_true, jL_e, hv, hw, nI_add, pk_m1]
theorem pM_bel {N k : Nat} {f : Nat → Int32} (hk : k < 2) {a c b : Nat} {l : List Nd} {R : List Nat} (h : FoP f a c b l R) : ∀ (F i0 u v0 : Nat) (s : jS), u ≤ i0 → i0 + l.length < 400 → (∀ j, j < l.length → jgA s 10 (400 * k + i0 + 1 + j) = paF (nI u) (i0 + 1) l j) → (∀ j, j < l.length → jgA s 11 (400 * k + i0 + 1 + j) = 1) → jgA s 11 (400 * k + u) = nI v0 → ∃ s', fM_number_169 N (F + l.length) (nI k) (nI (i0 + l.length)) s = fM_number_169 N F (nI k) (nI i0) s' ∧ (∀ j, j < l.length → jgA s' 11 (400 * k + i0 + 1 + j) = nI (nZ (ndA l j))) ∧ jgA s' 11 (400 * k + u) = nI (v0 + l.length) ∧ jSm [] [11] s s' ∧ ∀ i, i ≠ 400 * k + u → ¬ (400 * k + i0 + 1 ≤ i ∧ i < 400 * k + i0 + 1 + l.length) → jgA s' 11 i = jgA s 11 i := by
  refine FoG.ind h (fun a c b l R => ∀ (F i0 u v0 : Nat) (s : jS), u ≤ i0 → i0 + l.length < 400 → (∀ j, j < l.length → jgA s 10 (400 * k + i0 + 1 + j) = paF (nI u) (i0 + 1) l j) → (∀ j, j < l.length → jgA s 11 (400 * k + i0 + 1 + j) = 1) → jgA s 11 (400 * k + u) = nI v0 → ∃ s', fM_number_169 N (F + l.length) (nI k) (nI (i0 + l.length)) s = fM_number_169 N F (nI k) (nI i0) s' ∧ (∀ j, j < l.length → jgA s' 11 (400 * k + i0 + 1 + j) = nI (nZ (ndA l j))) ∧ jgA s' 11 (400 * k + u) = nI (v0 + l.length) ∧ jSm [] [11] s s' ∧ ∀ i, i ≠ 400 * k + u → ¬ (400 * k + i0 + 1 ≤ i ∧ i < 400 * k + i0 + 1 + l.length) → jgA s' 11 i = jgA s 11 i) ?_ ?_ ?_
  · intro a b F i0 u v0 s _ _ _ _ hv
    exact ⟨s, rfl, fun j hj => absurd hj (by simp), hv, jSm.rf, fun _ _ _ => rfl⟩
  · intro a c d b n r R hl hr ih F i0 u v0 s hu hi hp h1 hv
    rw [List.length_cons] at hi hp h1 ⊢
    have hz : nZ n = 1 := hl.2.2.2.2.1
    have p0 : jgA s 10 (400 * k + (i0 + 1)) = nI u := by
      have := hp 0 (by omega)
      exact this
    have b0 : jgA s 11 (400 * k + (i0 + 1)) = nI 1 := by
      have := h1 0 (by omega)
      exact this
    obtain ⟨s1, e1, n1, v1, m1, f1⟩ := ih (F + 1) (i0 + 1) u v0 s (by omega) (by omega) (fun j hj => by
      have := hp (j + 1) (by omega)
      rw [show 400 * k + i0 + 1 + (j + 1) = 400 * k + (i0 + 1) + 1 + j by omega] at this
      rw [this]
      have hq := paF_rest (u := nI u) (i0 := i0 + 1) (j := j) (n := n) (cs := []) (r := r) hz (fun x hx => absurd hx (by simp))
      rw [show ([] : List Nd).length + j + 1 = j + 1 by simp, show i0 + 1 + ([] : List Nd).length + 1 = i0 + 1 + 1 by simp] at hq
      exact hq) (fun j hj => by
      have := h1 (j + 1) (by omega)
      rw [show 400 * k + i0 + 1 + (j + 1) = 400 * k + (i0 + 1) + 1 + j by omega] at this
      exact this) hv
    have t := bel_turn (N := N) (k := k) (F := F) (x := i0) (p := u) (v := v0 + r.length) (w := 1) (s := s1) hk (by omega) (by omega) (by rw [m1.2 10 (by decide)]; exact p0) v1 (by rw [f1 _ (by omega) (by omega)]; exact b0)
    have m2 : jSm [] [11] s (jsA s1 11 (400 * k + u) (nI (v0 + r.length + 1))) := m1.sA (by decide)
    have w2 : ∀ i, jgA (jsA s1 11 (400 * k + u) (nI (v0 + r.length + 1))) 11 i = upd (jgA s1 11) (400 * k + u) (nI (v0 + r.length + 1)) i := fun i => rfl
    generalize jsA s1 11 (400 * k + u) (nI (v0 + r.length + 1)) = s2 at t m2 w2
    refine ⟨s2, ?_, fun j hj => ?_, ?_, m2, fun i hi1 hi2 => ?_⟩
    · rw [show F + (r.length + 1) = F + 1 + r.length by omega, show i0 + (r.length + 1) = i0 + 1 + r.length by omega, e1, t]
    · rw [w2, pk_un (by omega)]
      cases j with
      | zero =>
        rw [f1 _ (by omega) (by omega), ndA_z, hz]
        exact b0
      | succ j =>
        rw [ndA_s, show 400 * k + i0 + 1 + (j + 1) = 400 * k + (i0 + 1) + 1 + j by omega]
        exact n1 j (by omega)
    · rw [w2, pk_us, Nat.add_assoc]
    · rw [w2, pk_un hi1]
      exact f1 i hi1 (by omega)
  · intro a c d b n cs Q r R hi' hc ihc hr ih F i0 u v0 s hu hi hp h1 hv
    rw [List.length_cons, List.length_append] at hi hp h1 ⊢
    have hz : nZ n = cs.length + 1 := hi'.2.2.2.2.1
    have hwf : ∀ x, x < cs.length → x + nZ (ndA cs x) ≤ cs.length := fun x hx => (FoP.wf hc x hx).1
    have p0 : jgA s 10 (400 * k + (i0 + 1)) = nI u := by
      have := hp 0 (by omega)
      exact this
    have b0 : jgA s 11 (400 * k + (i0 + 1)) = nI 1 := by
      have := h1 0 (by omega)
      exact this
    obtain ⟨s1, e1, n1, v1, m1, f1⟩ := ih (F + 1 + cs.length) (i0 + 1 + cs.length) u v0 s (by omega) (by omega) (fun j hj => by
      have := hp (cs.length + j + 1) (by omega)
      rw [show 400 * k + i0 + 1 + (cs.length + j + 1) = 400 * k + (i0 + 1 + cs.length) + 1 + j by omega] at this
      rw [this]
      exact paF_rest hz hwf) (fun j hj => by
      have := h1 (cs.length + j + 1) (by omega)
      rw [show 400 * k + i0 + 1 + (cs.length + j + 1) = 400 * k + (i0 + 1 + cs.length) + 1 + j by omega] at this
      exact this) hv
    obtain ⟨s2, e2, n2, v2, m2, f2⟩ := ihc (F + 1) (i0 + 1) (i0 + 1) 1 s1 (Nat.le_refl _) (by omega) (fun j hj => by
      have := hp (j + 1) (by omega)
      rw [show 400 * k + i0 + 1 + (j + 1) = 400 * k + (i0 + 1) + 1 + j by omega] at this
      rw [m1.2 10 (by decide), this]
      exact paF_kid hz hj) (fun j hj => by
      have := h1 (j + 1) (by omega)
      rw [show 400 * k + i0 + 1 + (j + 1) = 400 * k + (i0 + 1) + 1 + j by omega] at this
      rw [f1 _ (by omega) (by omega)]
      exact this) (by rw [f1 _ (by omega) (by omega)]; exact b0)
    have t := bel_turn (N := N) (k := k) (F := F) (x := i0) (p := u) (v := v0 + r.length) (w := 1 + cs.length) (s := s2) hk (by omega) (by omega) (by rw [m2.2 10 (by decide), m1.2 10 (by decide)]; exact p0) (by rw [f2 _ (by omega) (by omega)]; exact v1) v2
    have m3 : jSm [] [11] s (jsA s2 11 (400 * k + u) (nI (v0 + r.length + (1 + cs.length)))) := (m1.tr m2).sA (by decide)
    have w2 : ∀ i, jgA (jsA s2 11 (400 * k + u) (nI (v0 + r.length + (1 + cs.length)))) 11 i = upd (jgA s2 11) (400 * k + u) (nI (v0 + r.length + (1 + cs.length))) i := fun i => rfl
    generalize jsA s2 11 (400 * k + u) (nI (v0 + r.length + (1 + cs.length))) = s3 at t m3 w2
    refine ⟨s3, ?_, fun j hj => ?_, ?_, m3, fun i hi1 hi2 => ?_⟩
    · rw [show F + (cs.length + r.length + 1) = F + 1 + cs.length + r.length by omega, show i0 + (cs.length + r.length + 1) = i0 + 1 + cs.length + r.length by omega, e1, e2, t]
    · rw [w2, pk_un (by omega)]
      cases j with
      | zero =>
        rw [ndA_z, hz, show 400 * k + i0 + 1 + 0 = 400 * k + (i0 + 1) by omega, v2]
        exact congrArg nI (by omega)
      | succ j =>
        rw [ndA_s]
        by_cases hj2 : j < cs.length
        · rw [ndA_l hj2, show 400 * k + i0 + 1 + (j + 1) = 400 * k + (i0 + 1) + 1 + j by omega]
          exact n2 j hj2
        · rw [ndA_r (by omega), show 400 * k + i0 + 1 + (j + 1) = 400 * k + (i0 + 1 + cs.length) + 1 + (j - cs.length) by omega, f2 _ (by omega) (by omega)]
          exact n1 (j - cs.length) (by omega)
    · rw [w2, pk_us]
      exact congrArg nI (by omega)
    · rw [w2, pk_un hi1, f2 i (by omega) (by omega)]
      exact f1 i hi1 (by omega)
theorem FoP.inv {f : Nat → Int32} {a c b : Nat} {l : List Nd} {R : List Nat} (h : FoP f a c b l R) : R.length = 1 → ∃ n cs Q, l = n :: cs ∧ ((LfP f a c n ∧ cs = []) ∨ (InP a c n cs (List.length Q) ∧ FoP f a c b cs Q)) := by
  refine FoG.ind h (fun a c b l R => R.length = 1 → ∃ n cs Q, l = n :: cs ∧ ((LfP f a c n ∧ cs = []) ∨ (InP a c n cs (List.length Q) ∧ FoP f a c b cs Q))) ?_ ?_ ?_
  · intro a b h
    exact absurd h (by simp)
  · intro a c d b n r R hl hr _ hR
    have hR0 : R = [] := by
      cases R with
      | nil => rfl
      | cons x y => simp at hR
    obtain ⟨e1, e2⟩ := (FoP.le hr).2.2.2.1 hR0
    subst e1 e2
    exact ⟨n, [], [], rfl, Or.inl ⟨hl, rfl⟩⟩
  · intro a c d b n cs Q r R hi hc _ hr _ hR
    have hR0 : R = [] := by
      cases R with
      | nil => rfl
      | cons x y => simp at hR
    obtain ⟨e1, e2⟩ := (FoP.le hr).2.2.2.1 hR0
    subst e1 e2
    exact ⟨n, cs, Q, by rw [List.append_nil], Or.inr ⟨hi, hc⟩⟩
/-- one number's row, when all is done -/
def NwM (s : jS) (x : Nat) (n : Nd) (pv : Int32) : Prop := jgA s 4 x = nI (nK n) ∧ jgA s 5 x = nI (nF n) ∧ jgA s 6 x = nI (nT n) ∧ jgA s 7 x = nI (nO n) ∧ jgA s 8 x = nI (nM n) ∧ jgA s 9 x = nI (nC n) ∧ jgA s 10 x = pv ∧ jgA s 11 x = nI (nZ n)
/-- the slot k holds the tree l -/
def PrM (s : jS) (k : Nat) (l : List Nd) : Prop := jgA s 3 k = nI l.length ∧ ∀ i, i < l.length → NwM s (400 * k + i) (ndA l i) (paF (-1) 0 l i)
theorem pM_number {N k c : Nat} {s : jS} {l : List Nd} (hk : k < 2) (hN : 1000 ≤ N) (hF : FoM s k 0 c 0 l [l.length - 1]) (hl : l.length ≤ 399) (h28 : jgA s 28 0 = nI (l.length - 1)) (h25 : jgA s 25 (l.length - 1) = -1) (h26 : jgA s 26 (l.length - 1) = -1) : ∃ s', fM_number N (nI k) s = some (0, s') ∧ PrM s' k l ∧ jSm [] [3, 4, 5, 6, 7, 8, 9, 10, 11, 27] s s' ∧ (∀ i, i ≠ k → jgA s' 3 i = jgA s 3 i) ∧ ∀ x, 4 ≤ x → x ≤ 11 → ∀ i, ¬ (400 * k ≤ i ∧ i < 400 * k + 400) → jgA s' x i = jgA s x i := by
  obtain ⟨n, cs, Q, hlc, hcase⟩ := FoP.inv (FoM.pu hF) rfl
  have hl1 : l.length = cs.length + 1 := by rw [hlc]; rfl
  obtain ⟨F, rfl⟩ : ∃ F, N = F + 1 + l.length := ⟨N - 1 - l.length, by omega⟩
  obtain ⟨s2, e2, n2, f2⟩ := pM_num (N := F + 1 + l.length) hk hF (F + 1) 0 0 (-1) (-1) (-1) s (fun _ _ _ => rfl) ⟨h26, h25, trivial⟩ Clb.top (by omega) (by omega) (by omega) (Or.inl ⟨rfl, rfl⟩)
  have hrun : ∀ y, fM_number (F + 1 + l.length) (nI k) s = y ↔ fM_number_169 (F + 1 + l.length) (F + 1 + l.length) (nI k) (nI cs.length) (jsA s2 3 k (nI l.length)) = y := by
    intro y
    have : fM_number (F + 1 + l.length) (nI k) s = fM_number_169 (F + 1 + l.length) (F + 1 + l.length) (nI k) (nI cs.length) (jsA s2 3 k (nI l.length)) := by
      unfold fM_number
      rw [if_pos (by decide), show ((0 : Int32)).toNatClampNeg = 0 from rfl, h28]
      have e2 : fM_number_9 (F + 1 + l.length) (F + 1 + l.length) (nI k) (0 : Int32) (nI (l.length - 1)) s = fM_number_9 (F + 1 + l.length) (F + 1) (nI k) (nI (0 + l.length)) (-1) s2 := e2
      rw [e2]
      show fM_number_b9 _ (fM_number_9 _ F) (nI k) (nI (0 + l.length)) (-1) s2 = _
      unfold fM_number_b9
      rw [if_pos (by decide), if_pos (jIn_nI hk (by decide)), nI_clamp (by omega), jL_e, Nat.zero_add, show nI l.length - 1 = nI cs.length from by rw [hl1]; exact nI_pred _]
    rw [this]
  have m3 : jSm [] [3, 4, 5, 6, 7, 8, 9, 10, 11, 27] s (jsA s2 3 k (nI l.length)) := (f2.1.wk (by decide) (by decide)).sA (by decide)
  have w3 : jgA (jsA s2 3 k (nI l.length)) 3 = upd (jgA s2 3) k (nI l.length) := rfl
  have o3 : ∀ x, x ≠ 3 → jgA (jsA s2 3 k (nI l.length)) x = jgA s2 x := fun x hx => by rw [jgA_sA, if_neg hx]
  generalize jsA s2 3 k (nI l.length) = s3 at hrun m3 w3 o3
  have kids : ∃ s', fM_number_169 (F + 1 + l.length) (F + 1 + l.length) (nI k) (nI cs.length) s3 = some (0, s') ∧ (∀ j, j < cs.length → jgA s' 11 (400 * k + 0 + 1 + j) = nI (nZ (ndA cs j))) ∧ jgA s' 11 (400 * k + 0) = nI (1 + cs.length) ∧ jSm [] [11] s3 s' ∧ ∀ i, i ≠ 400 * k + 0 → ¬ (400 * k + 0 + 1 ≤ i ∧ i < 400 * k + 0 + 1 + cs.length) → jgA s' 11 i = jgA s3 11 i := by
    have hfin : ∀ (M G : Nat) (s' : jS), fM_number_169 M (G + 1) (nI k) (nI 0) s' = some (0, s') := by
      intro M G s'
      show fM_number_b169 M (fM_number_169 M G) (nI k) (nI 0) s' = _
      unfold fM_number_b169
      rw [if_pos (by decide)]
    have b0 : jgA s3 11 (400 * k + 0) = nI 1 := by
      rw [o3 11 (by decide)]
      exact (n2 0 (by omega)).2.2.2.2.2.2.2
    rcases hcase with ⟨hlf, rfl⟩ | ⟨hin, hc⟩
    · exact ⟨s3, by
        have := hfin (F + 1 + l.length) (F + l.length) s3
        rw [show F + l.length + 1 = F + 1 + l.length by omega] at this
        exact this, fun j hj => absurd hj (by simp), b0, jSm.rf, fun _ _ _ => rfl⟩
    · obtain ⟨s4, e4, n4, v4, m4, f4⟩ := pM_bel (N := F + 1 + l.length) hk hc (F + 2) 0 0 1 s3 (Nat.le_refl _) (by omega) (fun j hj => by
        rw [o3 10 (by decide)]
        have hz : nZ n = cs.length + 1 := hin.2.2.2.2.1
        have := (n2 (j + 1) (by omega)).2.2.2.2.2.2.1
        rw [show 400 * k + 0 + (j + 1) = 400 * k + 0 + 1 + j by omega] at this
        rw [this, hlc]
        have hq := paF_kid (u := -1) (i0 := 0) (r := []) hz hj
        rw [List.append_nil] at hq
        exact hq) (fun j hj => by
        rw [o3 11 (by decide)]
        have := (n2 (j + 1) (by omega)).2.2.2.2.2.2.2
        rw [show 400 * k + 0 + (j + 1) = 400 * k + 0 + 1 + j by omega] at this
        exact this) b0
      refine ⟨s4, ?_, n4, v4, m4, f4⟩
      rw [show (F + 1 + l.length) = (F + 2) + cs.length by omega]
      rw [show (F + 1 + l.length) = (F + 2) + cs.length by omega, Nat.zero_add] at e4
      rw [e4]
      exact hfin _ (F + 1) s4
  obtain ⟨s', e', n', v', m', f'⟩ := kids
  have hz : nZ n = cs.length + 1 := by
    rcases hcase with ⟨hlf, rfl⟩ | ⟨hin, hc⟩
    · exact hlf.2.2.2.2.1
    · exact hin.2.2.2.2.1
  refine ⟨s', (hrun _).mpr e', ⟨by rw [m'.2 3 (by decide), w3, pk_us], fun i hi => ?_⟩, m3.tr (m'.wk (by decide) (by decide)), fun i hi => ?_, fun x x1 x2 i hi => ?_⟩
  · obtain ⟨v1, v2, v3, v4, v5, v6, v7, v8⟩ := n2 i hi
    rw [show 400 * k + 0 + i = 400 * k + i by omega] at v1 v2 v3 v4 v5 v6 v7 v8
    refine ⟨?_, ?_, ?_, ?_, ?_, ?_, ?_, ?_⟩
    · rw [m'.2 4 (by decide), o3 4 (by decide)]; exact v1
    · rw [m'.2 5 (by decide), o3 5 (by decide)]; exact v2
    · rw [m'.2 6 (by decide), o3 6 (by decide)]; exact v3
    · rw [m'.2 7 (by decide), o3 7 (by decide)]; exact v4
    · rw [m'.2 8 (by decide), o3 8 (by decide)]; exact v5
    · rw [m'.2 9 (by decide), o3 9 (by decide)]; exact v6
    · rw [m'.2 10 (by decide), o3 10 (by decide)]; exact v7
    · cases i with
      | zero =>
        rw [v', hlc, ndA_z, hz]
        exact congrArg nI (by omega)
      | succ i =>
        rw [hlc, ndA_s, show 400 * k + (i + 1) = 400 * k + 0 + 1 + i by omega]
        exact n' i (by omega)
  · rw [m'.2 3 (by decide), w3, pk_un hi, f2.1.2 3 (by decide)]
  · by_cases h11 : x = 11
    · subst h11
      rw [f' i (by omega) (by omega), o3 11 (by decide), f2.2.1 11 (by decide) (by decide) i (by omega)]
    · rw [m'.2 x (by simp; omega), o3 x (by omega), f2.2.1 x x1 x2 i (by omega)]
