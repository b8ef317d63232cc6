/-! the reference reads a text into a slot -/
theorem qList_end {tk : List (Nat × Nat × Nat)} {st : Sg → List Nd × Sg} {r : Nat} (hT : TkA tk) (hgo : ∀ g, g.1 < tk.length → qBeg tk r g = true → g.1 + 1 ≤ (st g).2.1 ∧ (st g).2.1 < tk.length) : ∀ (n : Nat) (g : Sg), g.1 < tk.length → tk.length ≤ g.1 + n + 1 → qK tk (qList tk st r false n g).2.2.1 = 17 := by
  intro n
  induction n with
  | zero =>
    intro g h1 h2
    show qK tk g.1 = 17
    rw [show g.1 = tk.length - 1 by omega]
    exact hT.2.1.2.2.2.1
  | succ n ih =>
    intro g h1 h2
    rw [qList]
    by_cases he : qK tk g.1 = 17 ∨ (false = true ∧ qK tk g.1 = 8)
    · rw [if_pos he]
      rcases he with he | he
      · exact he
      · exact absurd he.1 (by decide)
    · rw [if_neg he]
      by_cases hb : qBeg tk r g = true
      · rw [if_pos hb]
        have := hgo g h1 hb
        exact ih (st g).2 this.2 (by omega)
      · rw [if_neg hb]
        have := (hT.lt h1 (fun z => he (Or.inl z))).2.1
        exact ih (qSkip tk g) this (by show tk.length ≤ g.1 + 1 + n + 1; omega)
theorem FoP.ext {f f' : Nat → Int32} {a c b : Nat} {l : List Nd} {R : List Nat} (h : FoP f a c b l R) : (∀ p, a ≤ p → p < c → f' p = f p) → FoP f' a c b l R := by
  refine FoG.ind h (fun a c b l R => (∀ p, a ≤ p → p < c → f' p = f p) → FoP f' a c b l R) ?_ ?_ ?_
  · intro a b _
    exact FoG.nil a b
  · intro a c d b n r R hl hr ih he
    obtain ⟨p1, p2, p3, p4, p5, p6, p7⟩ := hl
    have hle := (FoP.le hr).1
    refine FoG.leaf ⟨p1, p2, p3, p4, p5, p6, ?_⟩ (ih (fun p h1 h2 => he p (by omega) h2))
    rcases p7 with ⟨q1, q2, q3⟩ | q
    · refine Or.inl ⟨q1, ?_, q3⟩
      rw [q2]
      exact mks_ext _ _ (fun p e1 e2 => (he p e1 (by omega)).symm)
    · exact Or.inr q
  · intro a c d b n cs Q r R hi hc ihc hr ih he
    have hle := (FoP.le hr).1
    have hlc := (FoP.le hc).1
    exact FoG.node hi (ihc (fun p h1 h2 => he p h1 (by omega))) (ih (fun p h1 h2 => he p (by omega) h2))
/-- what a reading into the slot k leaves as it is -/
def FpM (k : Nat) (s s' : jS) : Prop := (∀ i, i < 5 → jgI s' i = jgI s i) ∧ (∀ x, x = 0 ∨ x = 1 ∨ x = 12 ∨ x = 13 ∨ x = 14 → jgA s' x = jgA s x) ∧ (∀ i, ¬ (61 * k ≤ i ∧ i < 61 * k + 61) → jgA s' 2 i = jgA s 2 i) ∧ (∀ i, i ≠ k → jgA s' 3 i = jgA s 3 i) ∧ ∀ x, 4 ≤ x → x ≤ 11 → ∀ i, ¬ (400 * k ≤ i ∧ i < 400 * k + 400) → jgA s' x i = jgA s x i
/-- the slot k holds the text t and its tree -/
def SlM (s : jS) (k : Nat) (t : List Int32) : Prop := TxM s k t ∧ PrM s k (qTr t) ∧ FoP (mkM s k) 0 t.length 0 (qTr t) [(qTr t).length - 1] ∧ MkV (mkM s k)
theorem NwM.ext {s s' : jS} {x : Nat} {n : Nd} {pv : Int32} (h : NwM s x n pv) (hs : ∀ a, 4 ≤ a → a ≤ 11 → jgA s' a x = jgA s a x) : NwM s' x n pv := by
  unfold NwM
  rw [hs 4 (by decide) (by decide), hs 5 (by decide) (by decide), hs 6 (by decide) (by decide), hs 7 (by decide) (by decide), hs 8 (by decide) (by decide), hs 9 (by decide) (by decide), hs 10 (by decide) (by decide), hs 11 (by decide) (by decide)]
  exact h
theorem SlM.fr {s s' : jS} {k k' : Nat} {t : List Int32} (h : SlM s k' t) (hf : FpM k s s') (hk : k < 2) (hne : k' ≠ k) : SlM s' k' t := by
  obtain ⟨h1, h2, h3, h4⟩ := h
  have hk' := h1.1
  have hl := (qTr_co h1.2.2.1).1
  have ht := h1.2.2.1
  refine ⟨⟨h1.1, by rw [hf.2.1 1 (by decide)]; exact h1.2.1, h1.2.2.1, h1.2.2.2.1, fun p hp => by rw [hf.2.1 0 (by decide)]; exact h1.2.2.2.2 p hp⟩, ⟨by rw [hf.2.2.2.1 k' hne]; exact h2.1, fun i hi => (h2.2 i hi).ext (fun a a1 a2 => hf.2.2.2.2 a a1 a2 _ (by omega))⟩, h3.ext (fun p _ hp => hf.2.2.1 _ (by omega)), fun p hp => by
    show jgA s' 2 _ = 0 ∨ jgA s' 2 _ = 1 ∨ jgA s' 2 _ = 3
    rw [hf.2.2.1 _ (by omega)]
    exact h4 p hp⟩
theorem pM_clr {N k : Nat} (hk : k < 2) : ∀ (n i : Nat) (s : jS), 61 < i + n → i ≤ 61 → ∃ s', fM_parse_7 N n (nI k) (nI i) s = fM_parse_7 N 1 (nI k) (nI 61) s' ∧ (∀ p, i ≤ p → p < 61 → jgA s' 2 (61 * k + p) = 0) ∧ jSm [] [2] s s' ∧ ∀ x, ¬ (61 * k + i ≤ x ∧ x < 61 * k + 61) → jgA s' 2 x = jgA s 2 x := by
  intro n
  induction n with
  | zero => intro i s h1 h2; omega
  | succ n ih =>
    intro i s h1 h2
    by_cases hi : i = 61
    · subst hi
      refine ⟨s, ?_, fun p p1 p2 => by omega, jSm.rf, fun _ _ => rfl⟩
      show fM_parse_b7 N (fM_parse_7 N n) (nI k) (nI 61) s = fM_parse_b7 N (fM_parse_7 N 0) (nI k) (nI 61) s
      unfold fM_parse_b7
      rw [if_pos (by decide), if_pos (by decide)]
    · have hidx : (61 : Int32) * nI k + nI i = nI (61 * k + i) := by rw [show (61 : Int32) = nI 61 from rfl, pk_mul, nI_add]
      have hrun : fM_parse_7 N (n + 1) (nI k) (nI i) s = fM_parse_7 N n (nI k) (nI (i + 1)) (jsA s 2 (61 * k + i) 0) := by
        show fM_parse_b7 N (fM_parse_7 N n) (nI k) (nI i) s = _
        unfold fM_parse_b7
        rw [if_neg (show ¬ (61 : Int32) ≤ nI i from nI_ge (b := 61) (by omega) (by decide)), hidx, if_pos (jIn_nI (show 61 * k + i < 122 by omega) (by decide)), jL_e, nI_clamp (by omega), nI_1]
      obtain ⟨s', e', z', m', f'⟩ := ih (i + 1) (jsA s 2 (61 * k + i) 0) (by omega) (by omega)
      refine ⟨s', hrun.trans e', fun p p1 p2 => ?_, (jSm.rf.sA (by decide)).tr m', fun x hx => ?_⟩
      · by_cases hp : p = i
        · subst hp
          rw [f' _ (by omega), jgA_sA, if_pos rfl, pk_us]
        · exact z' p (by omega) p2
      · rw [f' x (by omega), jgA_sA, if_pos rfl, pk_un (by omega)]
theorem qToks_A {t : List Int32} (h : t.length ≤ 60) : TkA (qToks t 61 0) := ⟨⟨t.length, h, qToks_C h⟩, qToks_W h, qToks_P h⟩
theorem pM_parse {N k : Nat} {s : jS} {t : List Int32} (hT : TxM s k t) (hN : 200000 ≤ N) : ∃ s', fM_parse N (nI k) s = some (0, s') ∧ SlM s' k t ∧ FpM k s s' := by
  have hk := hT.1
  have hlen := hT.2.2.1
  have hA := qToks_A hlen
  have hl := (qTr_co hlen).1
  obtain ⟨s1, e1, k1, m1⟩ := pM_cut (N := N) hT (by omega)
  obtain ⟨s2, e2, z2, m2, f2⟩ := pM_clr (N := N) hk N 0 s1 (by omega) (by decide)
  unfold fM_parse
  rw [e1, jB_s]
  have e2 : fM_parse_7 N N (nI k) (0 : Int32) s1 = fM_parse_7 N 1 (nI k) (nI 61) s2 := e2
  rw [e2]
  show ∃ s', fM_parse_b7 N (fM_parse_7 N 0) (nI k) (nI 61) s2 = _ ∧ _
  unfold fM_parse_b7
  rw [if_pos (by decide), jL_e, jL_e, jL_e, jL_e, jL_e]
  have m3 : jSm [6, 7, 8, 9, 10] [] s2 (jsI (jsI (jsI (jsI (jsI s2 8 0) 9 0) 6 0) 7 0) 10 0) := ((((jSm.rf.sI (by decide)).sI (by decide)).sI (by decide)).sI (by decide)).sI (by decide)
  have i6 : jgI (jsI (jsI (jsI (jsI (jsI s2 8 0) 9 0) 6 0) 7 0) 10 0) 6 = nI 0 := rfl
  have i7 : jgI (jsI (jsI (jsI (jsI (jsI s2 8 0) 9 0) 6 0) 7 0) 10 0) 7 = nI 0 := rfl
  have i8 : jgI (jsI (jsI (jsI (jsI (jsI s2 8 0) 9 0) 6 0) 7 0) 10 0) 8 = nI 0 := rfl
  have i9 : jgI (jsI (jsI (jsI (jsI (jsI s2 8 0) 9 0) 6 0) 7 0) 10 0) 9 = nI 0 := rfl
  have i10 : jgI (jsI (jsI (jsI (jsI (jsI s2 8 0) 9 0) 6 0) 7 0) 10 0) 10 = nI 0 := rfl
  generalize jsI (jsI (jsI (jsI (jsI s2 8 0) 9 0) 6 0) 7 0) 10 0 = s3 at m3 i6 i7 i8 i9 i10 ⊢
  have mk0 : ∀ p, p < 61 → mkM s3 k p = 0 := fun p hp => by
    show jgA s3 2 _ = 0
    rw [m3.2 2 (by decide)]
    exact z2 p (Nat.zero_le _) hp
  have hi3 : MiM (qToks t 61 0) k s3 (0, 0, []) 0 0 [] := by
    refine ⟨(k1.sm m2 (by decide) (by decide) (by decide) (by decide)).sm m3 (by decide) (by decide) (by decide) (by decide), i6, i7, i8, i9, Nat.le_refl _, ⟨i10, fun i hi => absurd hi (by simp)⟩, (mks_0 61 0 (fun p _ p2 => mk0 p (by omega))).symm, fun p _ p2 => mk0 p p2, Nat.zero_le _, fun p hp => Or.inl (mk0 p hp)⟩
  obtain ⟨s4, e4, hi4, hs4⟩ := hi3.push (N := N) (by decide) (0, 20, 0)
  obtain ⟨s5, e5, hi5, hs5⟩ := hi4.push (N := N) (by decide) (1, 0, 0)
  obtain ⟨s6, e6, hi6, hs6⟩ := hi5.push (N := N) (by decide) (2, 0, 0)
  have e4 : fM_add N (0 : Int32) (20 : Int32) (0 : Int32) s3 = some (0, s4) := e4
  have e5 : fM_add N (1 : Int32) (0 : Int32) (0 : Int32) s4 = some (0, s5) := e5
  have e6 : fM_add N (2 : Int32) (0 : Int32) (0 : Int32) s5 = some (0, s6) := e6
  rw [e4, jB_s, e5, jB_s, e6, jB_s]
  obtain ⟨s7, j, c, hr, hj, h10, hF, h28, h25, h26, hfm, hc, hcl, hmv⟩ := pM_parseL (N := N) hA (by omega) hk hi6 (show (qTree (qToks t 61 0)).length ≤ 362 from hl)
  have hrr := hr (N - j) 0 (by omega)
  rw [show N - j + j = N by omega, Nat.zero_add] at hrr
  have hrr : fM_parse_80 N N (nI k) (0 : Int32) s6 = fM_parse_80 N (N - j) (nI k) (nI j) s7 := hrr
  obtain ⟨n, hn⟩ : ∃ n, N - j = n + 1 := ⟨N - j - 1, by omega⟩
  obtain ⟨s8, e8, hP, m8, f8a, f8b⟩ := pM_number (N := N) hk (by omega) hF (by have : (qTree (qToks t 61 0)).length ≤ 362 := hl; omega) h28 h25 h26
  have hend : fM_parse_80 N (N - j) (nI k) (nI j) s7 = some (0, s8) := by
    rw [hn]
    show fM_parse_b80 N (fM_parse_80 N n) (nI k) (nI j) s7 = _
    unfold fM_parse_b80
    rw [if_neg (show ¬ (100000 : Int32) ≤ nI j from nI_ge (b := 100000) (by omega) (by decide)), h10, if_pos (by decide), e8, jB_s]
  rw [hrr, hend]
  have h17 := qList_end hA (fun g hg hb => qStmt_go hA 6 g hg hb) 60 (0, 0, []) hA.2.1.1 (by have := hA.2.1.2.1; show _ ≤ 0 + 60 + 1; omega)
  have hct : c = t.length := by
    rw [hc]
    exact ((qToks_C hlen).2.2.2.2.2.2.2.1 _ hcl h17).2
  have f36 : FmM k 0 0 0 s3 s6 := ((fm_task hs4).tr (fm_task hs5) (Nat.le_refl _) (Nat.le_refl _) (Nat.le_refl _)).tr (fm_task hs6) (Nat.le_refl _) (Nat.le_refl _) (Nat.le_refl _)
  have f37 := f36.tr hfm (Nat.le_refl _) (Nat.le_refl _) (Nat.le_refl _)
  refine ⟨s8, rfl, ⟨?_, hP, ?_, ?_⟩, ?_, ?_, ?_, ?_, ?_⟩
  · have a0 : jgA s8 0 = jgA s 0 := by rw [m8.2 0 (by decide), f37.1.2 0 (by decide), m3.2 0 (by decide), m2.2 0 (by decide), m1.2 0 (by decide)]
    have a1 : jgA s8 1 = jgA s 1 := by rw [m8.2 1 (by decide), f37.1.2 1 (by decide), m3.2 1 (by decide), m2.2 1 (by decide), m1.2 1 (by decide)]
    exact ⟨hT.1, by rw [a1]; exact hT.2.1, hT.2.2.1, hT.2.2.2.1, fun p hp => by rw [a0]; exact hT.2.2.2.2 p hp⟩
  · rw [← hct]
    refine FoP.ext (FoM.pu hF) (fun p _ _ => ?_)
    show jgA s8 2 _ = jgA s7 2 _
    rw [m8.2 2 (by decide)]
  · intro p hp
    show jgA s8 2 _ = 0 ∨ jgA s8 2 _ = 1 ∨ jgA s8 2 _ = 3
    rw [m8.2 2 (by decide)]
    exact hmv p hp
  · intro i hi
    rw [m8.1 i (by simp), f37.1.1 i (by simp; omega), m3.1 i (by simp; omega), m2.1 i (by simp), m1.1 i (by simp; omega)]
  · rintro x (rfl | rfl | rfl | rfl | rfl)
    · rw [m8.2 0 (by decide), f37.1.2 0 (by decide), m3.2 0 (by decide), m2.2 0 (by decide), m1.2 0 (by decide)]
    · rw [m8.2 1 (by decide), f37.1.2 1 (by decide), m3.2 1 (by decide), m2.2 1 (by decide), m1.2 1 (by decide)]
    · rw [m8.2 12 (by decide), f37.1.2 12 (by decide), m3.2 12 (by decide), m2.2 12 (by decide), m1.2 12 (by decide)]
    · rw [m8.2 13 (by decide), f37.1.2 13 (by decide), m3.2 13 (by decide), m2.2 13 (by decide), m1.2 13 (by decide)]
    · rw [m8.2 14 (by decide), f37.1.2 14 (by decide), m3.2 14 (by decide), m2.2 14 (by decide), m1.2 14 (by decide)]
  · intro i hi
    rw [m8.2 2 (by decide), f37.2.2.2 i (by omega), m3.2 2 (by decide), f2 i (by omega), m1.2 2 (by decide)]
  · intro i hi
    rw [f8a i hi, f37.1.2 3 (by decide), m3.2 3 (by decide), m2.2 3 (by decide), m1.2 3 (by decide)]
  · intro x x1 x2 i hi
    rw [f8b x x1 x2 i hi, f37.1.2 x (by simp; omega), m3.2 x (by simp), m2.2 x (by simp; omega), m1.2 x (by simp; omega)]
