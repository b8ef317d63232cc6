/-! the reference numbers its entries -/
def LkU (s : jS) (ue : Int32) : List Nat → Prop
  | [] => True
  | q :: r => jgA s 26 q = ue ∧ jgA s 25 q = hdI r ∧ LkU s ue r
theorem LkM.u {s : jS} {e : Nat} : ∀ {Q : List Nat}, LkM s e Q → LkU s (nI e) Q
  | [], _ => trivial
  | _ :: _, h => ⟨h.1, h.2.1, LkM.u h.2.2⟩
def entI (R : List Nat) (cont : Int32) : Int32 := match R with
  | [] => cont
  | q :: _ => nI q
/-- the same links and entries -/
def SmE (s s1 : jS) : Prop := ∀ x, 18 ≤ x → x ≤ 26 → jgA s1 x = jgA s x
/-- climbing from x comes to cont -/
def Clb (N : Nat) (s : jS) (x cont : Int32) (d : Nat) : Prop := ∀ f s1, d < f → SmE s s1 → fM_following_18 N f x s1 = some (cont, s1)
theorem Clb.top {N : Nat} {s : jS} : Clb N s (-1) (-1) 0 := by
  intro f s1 hf _
  obtain ⟨f, rfl⟩ : ∃ f', f = f' + 1 := ⟨f - 1, by omega⟩
  show fM_following_b18 N (fM_following_18 N f) (-1) s1 = _
  unfold fM_following_b18
  rw [if_pos (by decide)]
  unfold fM_following_41
  rw [if_neg (by decide)]
theorem Clb.step {N q d : Nat} {s : jS} {ue cont : Int32} {R : List Nat} (hc : Clb N s ue cont d) (hq : q < 400) (hR : ∀ x ∈ R, x < 400) (h26 : jgA s 26 q = ue) (h25 : jgA s 25 q = hdI R) : Clb N s (nI q) (entI R cont) (d + 1) := by
  intro f s1 hf hs
  obtain ⟨f, rfl⟩ : ∃ f', f = f' + 1 := ⟨f - 1, by omega⟩
  show fM_following_b18 N (fM_following_18 N f) (nI q) s1 = _
  unfold fM_following_b18
  rw [if_neg (nI_pos (by omega)), if_pos (jIn_nI hq (by decide)), nI_clamp (by omega), hs 25 (by decide) (by decide), h25]
  cases R with
  | nil =>
    rw [if_neg (show ¬ (0 : Int32) ≤ hdI [] by decide), if_pos (jIn_nI hq (by decide)), hs 26 (by decide) (by decide), h26]
    exact hc f s1 (by omega) hs
  | cons x R =>
    have hx := hR x List.mem_cons_self
    rw [if_pos (show (0 : Int32) ≤ hdI (x :: R) from nI_pos' (by omega))]
    unfold fM_following_41
    rw [if_pos (nI_pos' (by omega)), if_pos (jIn_nI hq (by decide)), nI_clamp (by omega), hs 25 (by decide) (by decide), h25]
    rfl
/-- one turn of the loop -/
theorem nm_turn {N k i e : Nat} {k9 : Int32 → Int32 → Int32 → jS → Option (Int32 × jS)} {s : jS} {pv : Int32} (hk : k < 2) (hi : i < 400) (he : e < 400) (hp : (jgA s 26 e = -1 ∧ pv = -1) ∨ (∃ y, y < 400 ∧ y ≠ e ∧ jgA s 26 e = nI y ∧ jgA s 27 y = pv)) : ∃ s', fM_number_b9 N k9 (nI k) (nI i) (nI e) s = (jB (fM_following N (nI e) s') fun r s2 => k9 (nI k) (nI (i + 1)) r s2) ∧ jgA s' 27 = upd (jgA s 27) e (nI i) ∧ jgA s' 4 = upd (jgA s 4) (400 * k + i) (jgA s 18 e) ∧ jgA s' 5 = upd (jgA s 5) (400 * k + i) (jgA s 19 e) ∧ jgA s' 6 = upd (jgA s 6) (400 * k + i) (jgA s 20 e) ∧ jgA s' 7 = upd (jgA s 7) (400 * k + i) (jgA s 21 e) ∧ jgA s' 8 = upd (jgA s 8) (400 * k + i) (jgA s 22 e) ∧ jgA s' 9 = upd (jgA s 9) (400 * k + i) (jgA s 23 e) ∧ jgA s' 10 = upd (jgA s 10) (400 * k + i) pv ∧ jgA s' 11 = upd (jgA s 11) (400 * k + i) 1 ∧ jSm [] [4, 5, 6, 7, 8, 9, 10, 11, 27] s s' := by
  have hidx : (400 : Int32) * nI k + nI i = nI (400 * k + i) := by rw [show (400 : Int32) = nI 400 from rfl, pk_mul, nI_add]
  have jE : jIn (nI e) 400 = true := jIn_nI he (by decide)
  have jX : jIn (nI (400 * k + i)) 800 = true := jIn_nI (by omega) (by decide)
  have cE : (nI e).toNatClampNeg = e := nI_clamp (by omega)
  have cX : (nI (400 * k + i)).toNatClampNeg = 400 * k + i := nI_clamp (by omega)
  unfold fM_number_b9
  rw [if_neg (nI_pos (by omega)), hidx]
  simp only [jE, jX, cE, cX, if_true, jL_e, nI_1]
  rcases hp with ⟨h26, rfl⟩ | ⟨y, hy, hye, h26, h27⟩
  · refine ⟨_, if_neg (show ¬ (0 : Int32) ≤ jgA s 26 e by rw [h26]; decide), rfl, rfl, rfl, rfl, rfl, rfl, rfl, rfl, rfl, ((((((((jSm.rf.sA (by decide)).sA (by decide)).sA (by decide)).sA (by decide)).sA (by decide)).sA (by decide)).sA (by decide)).sA (by decide)).sA (by decide)⟩
  · have jy : jIn (jgA s 26 e) 400 = true := by rw [h26]; exact jIn_nI hy (by decide)
    refine ⟨_, (if_pos (show (0 : Int32) ≤ jgA s 26 e by rw [h26]; exact nI_pos' (by omega))).trans (if_pos jy), rfl, rfl, rfl, rfl, rfl, rfl, rfl, ?_, rfl, ((((((((jSm.rf.sA (by decide)).sA (by decide)).sA (by decide)).sA (by decide)).sA (by decide)).sA (by decide)).sA (by decide)).sA (by decide)).sA (by decide)⟩
    show upd (jgA s 10) (400 * k + i) (upd (jgA s 27) e (nI i) (jgA s 26 e).toNatClampNeg) = _
    rw [h26, nI_clamp (by omega), pk_un hye, h27]
/-- one number's row -/
def NrM (s : jS) (x : Nat) (n : Nd) (pv : Int32) : Prop := jgA s 4 x = nI (nK n) ∧ jgA s 5 x = nI (nF n) ∧ jgA s 6 x = nI (nT n) ∧ jgA s 7 x = nI (nO n) ∧ jgA s 8 x = nI (nM n) ∧ jgA s 9 x = nI (nC n) ∧ jgA s 10 x = pv ∧ jgA s 11 x = 1
/-- what stays, while numbers i0 .. i0 + n - 1 of the slot k are given to entries from b to b + n - 1 -/
def FnM (k i0 b n : Nat) (s s' : jS) : Prop := jSm [] [4, 5, 6, 7, 8, 9, 10, 11, 27] s s' ∧ (∀ x, 4 ≤ x → x ≤ 11 → ∀ i, ¬ (400 * k + i0 ≤ i ∧ i < 400 * k + i0 + n) → jgA s' x i = jgA s x i) ∧ ∀ e, ¬ (b ≤ e ∧ e < b + n) → jgA s' 27 e = jgA s 27 e
theorem NrM.fn {k i0 b n x : Nat} {nd : Nd} {pv : Int32} {s s' : jS} (h : NrM s x nd pv) (hf : FnM k i0 b n s s') (hx : ¬ (400 * k + i0 ≤ x ∧ x < 400 * k + i0 + n)) : NrM s' x nd pv := by
  unfold NrM
  rw [hf.2.1 4 (by decide) (by decide) x hx, hf.2.1 5 (by decide) (by decide) x hx, hf.2.1 6 (by decide) (by decide) x hx, hf.2.1 7 (by decide) (by decide) x hx, hf.2.1 8 (by decide) (by decide) x hx, hf.2.1 9 (by decide) (by decide) x hx, hf.2.1 10 (by decide) (by decide) x hx, hf.2.1 11 (by decide) (by decide) x hx]
  exact h
theorem pM_num {N k : Nat} {s : jS} (hk : k < 2) {a c b : Nat} {l : List Nd} {R : List Nat} (h : FoM s k a c b l R) : ∀ (F i0 d : Nat) (ue uv cont : Int32) (s1 : jS), SmE s s1 → LkU s ue R → Clb N s ue cont d → d + l.length < N → i0 + l.length ≤ 400 → b + l.length ≤ 400 → ((ue = -1 ∧ uv = -1) ∨ (∃ y, y < 400 ∧ b + l.length ≤ y ∧ ue = nI y ∧ jgA s1 27 y = uv)) → ∃ s2, fM_number_9 N (F + l.length) (nI k) (nI i0) (entI R cont) s1 = fM_number_9 N F (nI k) (nI (i0 + l.length)) cont s2 ∧ (∀ j, j < l.length → NrM s2 (400 * k + i0 + j) (ndA l j) (paF uv i0 l j)) ∧ FnM k i0 b l.length s1 s2 := by
  refine FoG.ind h (fun a c b l R => ∀ (F i0 d : Nat) (ue uv cont : Int32) (s1 : jS), SmE s s1 → LkU s ue R → Clb N s ue cont d → d + l.length < N → i0 + l.length ≤ 400 → b + l.length ≤ 400 → ((ue = -1 ∧ uv = -1) ∨ (∃ y, y < 400 ∧ b + l.length ≤ y ∧ ue = nI y ∧ jgA s1 27 y = uv)) → ∃ s2, fM_number_9 N (F + l.length) (nI k) (nI i0) (entI R cont) s1 = fM_number_9 N F (nI k) (nI (i0 + l.length)) cont s2 ∧ (∀ j, j < l.length → NrM s2 (400 * k + i0 + j) (ndA l j) (paF uv i0 l j)) ∧ FnM k i0 b l.length s1 s2) ?_ ?_ ?_
  · intro a b F i0 d ue uv cont s1 _ _ _ _ _ _ _
    exact ⟨s1, rfl, fun j hj => absurd hj (by simp), jSm.rf, fun _ _ _ _ _ => rfl, fun _ _ => rfl⟩
  · intro a c d' b n r R hl hr ih F i0 d ue uv cont s1 hs hL hC hd hi hb hu
    rw [List.length_cons] at hd hi hb hu ⊢
    obtain ⟨l1, l2, l3⟩ := hL
    have hle := (FoM.pu hr).le
    obtain ⟨s2, e2, w27, w4, w5, w6, w7, w8, w9, w10, w11, m2⟩ := nm_turn (N := N) (k := k) (i := i0) (e := b) (k9 := fM_number_9 N (F + r.length)) (s := s1) (pv := uv) hk (by omega) (by omega) (by
      rw [hs 26 (by decide) (by decide), l1]
      rcases hu with hu | ⟨y, y1, y2, y3, y4⟩
      · exact Or.inl hu
      · exact Or.inr ⟨y, y1, by omega, y3, y4⟩)
    have hs2 : SmE s s2 := fun x x1 x2 => by rw [m2.2 x (by simp; omega)]; exact hs x x1 x2
    have hcl := Clb.step (R := R) hC (show b < 400 by omega) (fun x hx => by have := hle.2.2.1 x hx; omega) l1 l2
    have hfol : fM_following N (nI b) s2 = some (entI R cont, s2) := by
      unfold fM_following
      rw [if_pos (jIn_nI (by omega) (by decide)), nI_clamp (by omega), hs2 24 (by decide) (by decide), hl.2.2, if_pos (by decide)]
      exact hcl N s2 (by omega) hs2
    obtain ⟨s3, e3, n3, f3⟩ := ih F (i0 + 1) d ue uv cont s2 hs2 l3 hC (by omega) (by omega) (by omega) (by
      rcases hu with hu | ⟨y, y1, y2, y3, y4⟩
      · exact Or.inl hu
      · exact Or.inr ⟨y, y1, by omega, y3, by rw [w27, pk_un (by omega)]; exact y4⟩)
    refine ⟨s3, ?_, fun j hj => ?_, ?_, ?_, ?_⟩
    · show fM_number_b9 N (fM_number_9 N (F + r.length)) (nI k) (nI i0) (nI b) s1 = _
      rw [e2, hfol, jB_s, e3, show i0 + 1 + r.length = i0 + (r.length + 1) by omega]
    · cases j with
      | zero =>
        refine NrM.fn ?_ f3 (by omega)
        obtain ⟨v1, v2, v3, v4, v5, v6⟩ := hl.2.1
        refine ⟨?_, ?_, ?_, ?_, ?_, ?_, ?_, ?_⟩
        · rw [w4, Nat.add_zero, pk_us, hs 18 (by decide) (by decide)]; exact v1
        · rw [w5, Nat.add_zero, pk_us, hs 19 (by decide) (by decide)]; exact v2
        · rw [w6, Nat.add_zero, pk_us, hs 20 (by decide) (by decide)]; exact v3
        · rw [w7, Nat.add_zero, pk_us, hs 21 (by decide) (by decide)]; exact v4
        · rw [w8, Nat.add_zero, pk_us, hs 22 (by decide) (by decide)]; exact v5
        · rw [w9, Nat.add_zero, pk_us, hs 23 (by decide) (by decide)]; exact v6
        · rw [w10, Nat.add_zero, pk_us]; rfl
        · rw [w11, Nat.add_zero, pk_us]
      | succ j =>
        have hz : nZ n = ([] : List Nd).length + 1 := hl.1.2.2.2.2.1
        have := n3 j (by omega)
        rw [show 400 * k + (i0 + 1) + j = 400 * k + i0 + (j + 1) by omega] at this
        rw [ndA_s, show paF uv i0 (n :: r) (j + 1) = paF uv (i0 + 1) r j from by
          have hp := paF_rest (u := uv) (i0 := i0) (j := j) (n := n) (cs := []) (r := r) hz (fun x hx => absurd hx (by simp))
          rw [show ([] : List Nd).length + j + 1 = j + 1 by simp, show i0 + ([] : List Nd).length + 1 = i0 + 1 by simp] at hp
          exact hp]
        exact this
    · exact (m2.tr f3.1)
    · intro x x1 x2 i hx
      rw [f3.2.1 x x1 x2 i (by omega)]
      have hne : i ≠ 400 * k + i0 := by omega
      rcases (show x = 4 ∨ x = 5 ∨ x = 6 ∨ x = 7 ∨ x = 8 ∨ x = 9 ∨ x = 10 ∨ x = 11 by omega) with rfl | rfl | rfl | rfl | rfl | rfl | rfl | rfl
      · rw [w4, pk_un hne]
      · rw [w5, pk_un hne]
      · rw [w6, pk_un hne]
      · rw [w7, pk_un hne]
      · rw [w8, pk_un hne]
      · rw [w9, pk_un hne]
      · rw [w10, pk_un hne]
      · rw [w11, pk_un hne]
    · intro e he
      rw [f3.2.2 e (by omega), w27, pk_un (by omega)]
  · intro a c d' b n cs Q r R hi' hc ihc hr ih F i0 d ue uv cont s1 hs hL hC hd hi hb hu
    rw [List.length_cons, List.length_append] at hd hi hb hu ⊢
    obtain ⟨l1, l2, l3⟩ := hL
    have hle := (FoM.pu hr).le
    have hlc := (FoM.pu hc).le
    obtain ⟨s2, e2, w27, w4, w5, w6, w7, w8, w9, w10, w11, m2⟩ := nm_turn (N := N) (k := k) (i := i0) (e := b + cs.length) (k9 := fM_number_9 N (F + r.length + cs.length)) (s := s1) (pv := uv) hk (by omega) (by omega) (by
      rw [hs 26 (by decide) (by decide), l1]
      rcases hu with hu | ⟨y, y1, y2, y3, y4⟩
      · exact Or.inl hu
      · exact Or.inr ⟨y, y1, by omega, y3, y4⟩)
    have hs2 : SmE s s2 := fun x x1 x2 => by rw [m2.2 x (by simp; omega)]; exact hs x x1 x2
    have hcl := Clb.step (R := R) hC (show b + cs.length < 400 by omega) (fun x hx => by have := hle.2.2.1 x hx; omega) l1 l2
    have hQ : Q ≠ [] := fun z => by
      have := hi'.1.2.2.2.2.2.2.1
      rw [z] at this
      exact absurd this (by simp)
    have hq0 : Q.getD 0 0 ∈ Q := by
      cases Q with
      | nil => exact absurd rfl hQ
      | cons q Q => exact List.mem_cons_self
    have hqb := hlc.2.2.1 _ hq0
    have hfol : fM_following N (nI (b + cs.length)) s2 = some (entI Q (entI R cont), s2) := by
      unfold fM_following
      rw [if_pos (jIn_nI (by omega) (by decide)), nI_clamp (by omega), hs2 24 (by decide) (by decide), hi'.2.2.1, hdI_ne hQ, if_neg (nI_pos (by omega)), if_pos (jIn_nI (by omega) (by decide))]
      cases Q with
      | nil => exact absurd rfl hQ
      | cons q Q => rfl
    obtain ⟨s3, e3, n3, f3⟩ := ihc (F + r.length) (i0 + 1) (d + 1) (nI (b + cs.length)) (nI i0) (entI R cont) s2 hs2 hi'.2.2.2.u hcl (by omega) (by omega) (by omega) (Or.inr ⟨b + cs.length, by omega, Nat.le_refl _, rfl, by rw [w27, pk_us]⟩)
    have hs3 : SmE s s3 := fun x x1 x2 => by rw [f3.1.2 x (by simp; omega)]; exact hs2 x x1 x2
    obtain ⟨s4, e4, n4, f4⟩ := ih F (i0 + 1 + cs.length) d ue uv cont s3 hs3 l3 hC (by omega) (by omega) (by omega) (by
      rcases hu with hu | ⟨y, y1, y2, y3, y4⟩
      · exact Or.inl hu
      · exact Or.inr ⟨y, y1, by omega, y3, by rw [f3.2.2 y (by omega), w27, pk_un (by omega)]; exact y4⟩)
    have hz : nZ n = cs.length + 1 := hi'.1.2.2.2.2.1
    refine ⟨s4, ?_, fun j hj => ?_, ?_, ?_, ?_⟩
    · rw [show F + (cs.length + r.length + 1) = F + r.length + cs.length + 1 by omega]
      show fM_number_b9 N (fM_number_9 N (F + r.length + cs.length)) (nI k) (nI i0) (nI (b + cs.length)) s1 = _
      rw [e2, hfol, jB_s, e3, e4, show i0 + 1 + cs.length + r.length = i0 + (cs.length + r.length + 1) by omega]
    · cases j with
      | zero =>
        refine NrM.fn (NrM.fn ?_ f3 (by omega)) f4 (by omega)
        obtain ⟨v1, v2, v3, v4, v5, v6⟩ := hi'.2.1
        refine ⟨?_, ?_, ?_, ?_, ?_, ?_, ?_, ?_⟩
        · rw [w4, Nat.add_zero, pk_us, hs 18 (by decide) (by decide)]; exact v1
        · rw [w5, Nat.add_zero, pk_us, hs 19 (by decide) (by decide)]; exact v2
        · rw [w6, Nat.add_zero, pk_us, hs 20 (by decide) (by decide)]; exact v3
        · rw [w7, Nat.add_zero, pk_us, hs 21 (by decide) (by decide)]; exact v4
        · rw [w8, Nat.add_zero, pk_us, hs 22 (by decide) (by decide)]; exact v5
        · rw [w9, Nat.add_zero, pk_us, hs 23 (by decide) (by decide)]; exact v6
        · rw [w10, Nat.add_zero, pk_us]; rfl
        · rw [w11, Nat.add_zero, pk_us]
      | succ j =>
        rw [ndA_s]
        by_cases hj2 : j < cs.length
        · rw [ndA_l hj2, paF_kid hz hj2]
          have := n3 j hj2
          rw [show 400 * k + (i0 + 1) + j = 400 * k + i0 + (j + 1) by omega] at this
          exact this.fn f4 (by omega)
        · obtain ⟨j, rfl⟩ : ∃ j', j = cs.length + j' := ⟨j - cs.length, by omega⟩
          rw [ndA_r (by omega), show cs.length + j - cs.length = j by omega, paF_rest hz (fun x hx => ((FoM.pu hc).wf x hx).1)]
          have := n4 j (by omega)
          rw [show 400 * k + (i0 + 1 + cs.length) + j = 400 * k + i0 + (cs.length + j + 1) by omega, show i0 + 1 + cs.length = i0 + cs.length + 1 by omega] at this
          exact this
    · exact (m2.tr f3.1).tr f4.1
    · intro x x1 x2 i hx
      rw [f4.2.1 x x1 x2 i (by omega), f3.2.1 x x1 x2 i (by omega)]
      have hne : i ≠ 400 * k + i0 := by omega
      rcases (show x = 4 ∨ x = 5 ∨ x = 6 ∨ x = 7 ∨ x = 8 ∨ x = 9 ∨ x = 10 ∨ x = 11 by omega) with rfl | rfl | rfl | rfl | rfl | rfl | rfl | rfl
      · rw [w4, pk_un hne]
      · rw [w5, pk_un hne]
      · rw [w6, pk_un hne]
      · rw [w7, pk_un hne]
      · rw [w8, pk_un hne]
      · rw [w9, pk_un hne]
      · rw [w10, pk_un hne]
      · rw [w11, pk_un hne]
    · intro e he
      rw [f4.2.2 e (by omega), f3.2.2 e (by omega), w27, pk_un (by omega)]
