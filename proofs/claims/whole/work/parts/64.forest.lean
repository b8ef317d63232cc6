/-! the reference's entries: a forest, in the order in which it is made -/
def mks (f : Nat → Int32) : Nat → Nat → List Nat
  | _, 0 => []
  | a, n + 1 => (if f a = 0 then [] else [4 * a + (f a).toNatClampNeg]) ++ mks f (a + 1) n
theorem mks_ext {f f' : Nat → Int32} : ∀ (n a : Nat), (∀ p, a ≤ p → p < a + n → f p = f' p) → mks f a n = mks f' a n
  | 0, _, _ => rfl
  | n + 1, a, h => by
    rw [mks, mks, h a (Nat.le_refl _) (by omega), mks_ext n (a + 1) (fun p h1 h2 => h p (by omega) (by omega))]
theorem mks_app (f : Nat → Int32) : ∀ (n m a : Nat), mks f a (n + m) = mks f a n ++ mks f (a + n) m
  | 0, m, a => by rw [Nat.zero_add]; rfl
  | n + 1, m, a => by
    rw [show n + 1 + m = (n + m) + 1 by omega, mks, mks, mks_app f n m (a + 1), List.append_assoc, show a + 1 + n = a + (n + 1) by omega]
theorem mks_0 {f : Nat → Int32} : ∀ (n a : Nat), (∀ p, a ≤ p → p < a + n → f p = 0) → mks f a n = []
  | 0, _, _ => rfl
  | n + 1, a, h => by
    rw [mks, if_pos (h a (Nat.le_refl _) (by omega)), mks_0 n (a + 1) (fun p h1 h2 => h p (by omega) (by omega))]
    rfl
def hdI : List Nat → Int32
  | [] => -1
  | q :: _ => nI q
/-- the children's entries know their parent and the next one -/
def LkM (s : jS) (e : Nat) : List Nat → Prop
  | [] => True
  | q :: r => jgA s 26 q = nI e ∧ jgA s 25 q = hdI r ∧ LkM s e r
theorem LkM.ext {s s' : jS} {e : Nat} : ∀ {Q : List Nat}, LkM s e Q → (∀ q ∈ Q, jgA s' 25 q = jgA s 25 q ∧ jgA s' 26 q = jgA s 26 q) → LkM s' e Q
  | [], _, _ => trivial
  | q :: r, h, h2 => ⟨by rw [(h2 q List.mem_cons_self).2]; exact h.1, by rw [(h2 q List.mem_cons_self).1]; exact h.2.1, LkM.ext h.2.2 (fun x hx => h2 x (List.mem_cons_of_mem _ hx))⟩
/-- one entry -/
def EnM (s : jS) (e : Nat) (n : Nd) : Prop := jgA s 18 e = nI (nK n) ∧ jgA s 19 e = nI (nF n) ∧ jgA s 20 e = nI (nT n) ∧ jgA s 21 e = nI (nO n) ∧ jgA s 22 e = nI (nM n) ∧ jgA s 23 e = nI (nC n)
theorem EnM.ext {s s' : jS} {e : Nat} {n : Nd} (h : EnM s e n) (hs : ∀ x, 18 ≤ x → x ≤ 24 → jgA s' x e = jgA s x e) : EnM s' e n := by
  unfold EnM
  rw [hs 18 (by decide) (by decide), hs 19 (by decide) (by decide), hs 20 (by decide) (by decide), hs 21 (by decide) (by decide), hs 22 (by decide) (by decide), hs 23 (by decide) (by decide)]
  exact h
def mkM (s : jS) (k p : Nat) : Int32 := jgA s 2 (61 * k + p)
/-- a leaf over the stretch from a to c; f: the marks of skipped tokens -/
def LfP (f : Nat → Int32) (a c : Nat) (n : Nd) : Prop := nF n = a ∧ nT n = c ∧ a ≤ c ∧ nK n < 20 ∧ nZ n = 1 ∧ nC n = 0 ∧ ((nM n = 0 ∧ nL n = mks f a (c - a) ∧ (nK n = 17 ∨ a < c)) ∨ ((nM n = 2 ∨ nM n = 3) ∧ a = c ∧ ¬ nK n = 17 ∧ nL n = [4 * a + nM n]))
/-- a node over cs, which has q roots -/
def InP (a c : Nat) (n : Nd) (cs : List Nd) (q : Nat) : Prop := nF n = a ∧ nT n = c ∧ 20 ≤ nK n ∧ nK n ≤ 28 ∧ nZ n = cs.length + 1 ∧ nC n = q ∧ 1 ≤ q ∧ nM n = 0 ∧ nL n = [] ∧ nO n = nO (ndA cs 0)
/-- a forest l over the stretch from a to c, its entries from b on, R the entries of its roots -/
def FoG (L : Nat → Nat → Nat → Nd → Prop) (I : Nat → Nat → Nat → Nd → List Nd → List Nat → Prop) (a c b : Nat) (l : List Nd) (R : List Nat) : Prop :=
  ∀ P : Nat → Nat → Nat → List Nd → List Nat → Prop, (∀ a b, P a a b [] []) → (∀ a c d b n r R, L a c b n → P c d (b + 1) r R → P a d b (n :: r) (b :: R)) → (∀ a c d b n cs Q r R, I a c b n cs Q → P a c b cs Q → P c d (b + cs.length + 1) r R → P a d b (n :: (cs ++ r)) ((b + cs.length) :: R)) → P a c b l R
section FG
variable {L L' : Nat → Nat → Nat → Nd → Prop} {I I' : Nat → Nat → Nat → Nd → List Nd → List Nat → Prop}
theorem FoG.nil (a b : Nat) : FoG L I a a b [] [] := fun _ h0 _ _ => h0 a b
theorem FoG.leaf {a c d b : Nat} {n : Nd} {r : List Nd} {R : List Nat} (h : L a c b n) (hr : FoG L I c d (b + 1) r R) : FoG L I a d b (n :: r) (b :: R) := fun P h0 h1 h2 => h1 _ _ _ _ _ _ _ h (hr P h0 h1 h2)
theorem FoG.node {a c d b : Nat} {n : Nd} {cs r : List Nd} {Q R : List Nat} (h : I a c b n cs Q) (hc : FoG L I a c b cs Q) (hr : FoG L I c d (b + cs.length + 1) r R) : FoG L I a d b (n :: (cs ++ r)) ((b + cs.length) :: R) := fun P h0 h1 h2 => h2 _ _ _ _ _ _ _ _ _ h (hc P h0 h1 h2) (hr P h0 h1 h2)
theorem FoG.ind {a c b : Nat} {l : List Nd} {R : List Nat} (h : FoG L I a c b l R) (P : Nat → Nat → Nat → List Nd → List Nat → Prop) (h0 : ∀ a b, P a a b [] []) (h1 : ∀ a c d b n r R, L a c b n → FoG L I c d (b + 1) r R → P c d (b + 1) r R → P a d b (n :: r) (b :: R)) (h2 : ∀ a c d b n cs Q r R, I a c b n cs Q → FoG L I a c b cs Q → P a c b cs Q → FoG L I c d (b + cs.length + 1) r R → P c d (b + cs.length + 1) r R → P a d b (n :: (cs ++ r)) ((b + cs.length) :: R)) : P a c b l R :=
  (h (fun a c b l R => FoG L I a c b l R ∧ P a c b l R) (fun a b => ⟨FoG.nil a b, h0 a b⟩) (fun a c d b n r R hl hp => ⟨FoG.leaf hl hp.1, h1 a c d b n r R hl hp.1 hp.2⟩) (fun a c d b n cs Q r R hi hc hr => ⟨FoG.node hi hc.1 hr.1, h2 a c d b n cs Q r R hi hc.1 hc.2 hr.1 hr.2⟩)).2
theorem FoG.mono {a c b : Nat} {l : List Nd} {R : List Nat} (h : FoG L I a c b l R) (hL : ∀ a c b n, L a c b n → L' a c b n) (hI : ∀ a c b n cs Q, I a c b n cs Q → I' a c b n cs Q) : FoG L' I' a c b l R :=
  h.ind (fun a c b l R => FoG L' I' a c b l R) (fun a b => FoG.nil a b) (fun _ _ _ _ _ _ _ hl _ hp => FoG.leaf (hL _ _ _ _ hl) hp) (fun _ _ _ _ _ _ _ _ _ hi _ hc _ hr => FoG.node (hI _ _ _ _ _ _ hi) hc hr)
theorem FoG.app {a c b : Nat} {l : List Nd} {R : List Nat} (h : FoG L I a c b l R) : ∀ {d : Nat} {l' : List Nd} {R' : List Nat}, FoG L I c d (b + l.length) l' R' → FoG L I a d b (l ++ l') (R ++ R') := by
  refine h.ind (fun a c b l R => ∀ {d : Nat} {l' : List Nd} {R' : List Nat}, FoG L I c d (b + l.length) l' R' → FoG L I a d b (l ++ l') (R ++ R')) ?_ ?_ ?_
  · intro a b d l' R' h
    exact h
  · intro a c d b n r R hl _ ih d' l' R' h
    refine FoG.leaf hl (ih ?_)
    rw [show b + 1 + r.length = b + (n :: r).length by rw [List.length_cons]; omega]
    exact h
  · intro a c d b n cs Q r R hi hc _ _ ih d' l' R' h
    have z := FoG.node (L := L) hi hc (ih (d := d') (l' := l') (R' := R') (by
      rw [show b + cs.length + 1 + r.length = b + (n :: (cs ++ r)).length by simp; omega]
      exact h))
    rw [← List.append_assoc] at z
    exact z
end FG
/-- the pure side alone -/
def FoP (f : Nat → Int32) : Nat → Nat → Nat → List Nd → List Nat → Prop := FoG (fun a c _ n => LfP f a c n) (fun a c _ n cs Q => InP a c n cs Q.length)
def FoM (s : jS) (k : Nat) : Nat → Nat → Nat → List Nd → List Nat → Prop := FoG (fun a c b n => LfP (mkM s k) a c n ∧ EnM s b n ∧ jgA s 24 b = -1) (fun a c b n cs Q => InP a c n cs Q.length ∧ EnM s (b + cs.length) n ∧ jgA s 24 (b + cs.length) = hdI Q ∧ LkM s (b + cs.length) Q)
theorem FoM.pu {s : jS} {k a c b : Nat} {l : List Nd} {R : List Nat} (h : FoM s k a c b l R) : FoP (mkM s k) a c b l R := FoG.mono h (fun _ _ _ _ q => q.1) (fun _ _ _ _ _ _ q => q.1)
theorem FoP.le {f : Nat → Int32} {a c b : Nat} {l : List Nd} {R : List Nat} (h : FoP f a c b l R) : a ≤ c ∧ R.length ≤ l.length ∧ (∀ q ∈ R, b ≤ q ∧ q < b + l.length) ∧ (R = [] → a = c ∧ l = []) ∧ R.Nodup := by
  refine FoG.ind h (fun a c b l R => a ≤ c ∧ R.length ≤ l.length ∧ (∀ q ∈ R, b ≤ q ∧ q < b + l.length) ∧ (R = [] → a = c ∧ l = []) ∧ R.Nodup) ?_ ?_ ?_
  · intro a b
    exact ⟨Nat.le_refl _, Nat.le_refl _, fun q hq => absurd hq List.not_mem_nil, fun _ => ⟨rfl, rfl⟩, List.nodup_nil⟩
  · intro a c d b n r R hl _ ih
    refine ⟨Nat.le_trans hl.2.2.1 ih.1, ?_, ?_, fun h => absurd h (by simp), ?_⟩
    · simp only [List.length_cons]
      have := ih.2.1
      omega
    · intro q hq
      simp only [List.length_cons]
      rcases List.mem_cons.mp hq with e | e
      · omega
      · have := ih.2.2.1 q e
        omega
    · refine List.nodup_cons.mpr ⟨fun hm => ?_, ih.2.2.2.2⟩
      have := ih.2.2.1 b hm
      omega
  · intro a c d b n cs Q r R hi _ ihc _ ih
    refine ⟨Nat.le_trans ihc.1 ih.1, ?_, ?_, fun h => absurd h (by simp), ?_⟩
    · simp only [List.length_cons, List.length_append]
      have := ih.2.1
      omega
    · intro q hq
      simp only [List.length_cons, List.length_append]
      rcases List.mem_cons.mp hq with e | e
      · omega
      · have := ih.2.2.1 q e
        omega
    · refine List.nodup_cons.mpr ⟨fun hm => ?_, ih.2.2.2.2⟩
      have := ih.2.2.1 _ hm
      omega
theorem FoM.fr {s : jS} {k a c b : Nat} {l : List Nd} {R : List Nat} (h : FoM s k a c b l R) : ∀ {s' : jS}, (∀ x, 18 ≤ x → x ≤ 24 → ∀ i, b ≤ i → i < b + l.length → jgA s' x i = jgA s x i) → (∀ i, b ≤ i → i < b + l.length → i ∉ R → jgA s' 25 i = jgA s 25 i ∧ jgA s' 26 i = jgA s 26 i) → (∀ p, a ≤ p → p < c → mkM s' k p = mkM s k p) → FoM s' k a c b l R := by
  refine FoG.ind h (fun a c b l R => ∀ {s' : jS}, (∀ x, 18 ≤ x → x ≤ 24 → ∀ i, b ≤ i → i < b + l.length → jgA s' x i = jgA s x i) → (∀ i, b ≤ i → i < b + l.length → i ∉ R → jgA s' 25 i = jgA s 25 i ∧ jgA s' 26 i = jgA s 26 i) → (∀ p, a ≤ p → p < c → mkM s' k p = mkM s k p) → FoM s' k a c b l R) ?_ ?_ ?_
  · intro a b s' _ _ _
    exact FoG.nil a b
  · intro a c d b n r R hl hr ih s' h1 h2 h3
    have hle := (FoM.pu hr).le
    obtain ⟨⟨p1, p2, p3, p4, p5, p6, p7⟩, he, hf⟩ := hl
    refine FoG.leaf ⟨⟨p1, p2, p3, p4, p5, p6, ?_⟩, he.ext (fun x x1 x2 => h1 x x1 x2 b (Nat.le_refl _) (by simp)), by rw [h1 24 (by decide) (by decide) b (Nat.le_refl _) (by simp)]; exact hf⟩ (ih (fun x x1 x2 i i1 i2 => h1 x x1 x2 i (by omega) (by simp; omega)) (fun i i1 i2 i3 => h2 i (by omega) (by simp; omega) (fun hm => by
      rcases List.mem_cons.mp hm with e | e
      · omega
      · exact i3 e)) (fun p q1 q2 => h3 p (by omega) q2))
    rcases p7 with ⟨q1, q2, q3⟩ | q
    · refine Or.inl ⟨q1, ?_, q3⟩
      rw [q2]
      exact mks_ext _ _ (fun p e1 e2 => (h3 p e1 (by have := hle.1; omega)).symm)
    · exact Or.inr q
  · intro a c d b n cs Q r R hi hc ihc hr ih s' h1 h2 h3
    have hle := (FoM.pu hr).le
    have hlc := (FoM.pu hc).le
    obtain ⟨pi, he, hf, hk⟩ := hi
    have hb : b + cs.length < b + (n :: (cs ++ r)).length := by simp; omega
    have hout : ∀ i, b ≤ i → i < b + cs.length → i ∉ (b + cs.length) :: R := fun i i1 i2 hm => by
      rcases List.mem_cons.mp hm with e | e
      · omega
      · have := hle.2.2.1 i e
        omega
    refine FoG.node ⟨pi, he.ext (fun x x1 x2 => h1 x x1 x2 _ (by omega) hb), by rw [h1 24 (by decide) (by decide) _ (by omega) hb]; exact hf, hk.ext (fun q hq => ?_)⟩ (ihc (fun x x1 x2 i i1 i2 => h1 x x1 x2 i i1 (by simp; omega)) (fun i i1 i2 _ => h2 i i1 (by simp; omega) (hout i i1 i2)) (fun p q1 q2 => h3 p q1 (by have := hle.1; omega))) (ih (fun x x1 x2 i i1 i2 => h1 x x1 x2 i (by omega) (by simp; omega)) (fun i i1 i2 i3 => h2 i (by omega) (by simp; omega) (fun hm => by
      rcases List.mem_cons.mp hm with e | e
      · omega
      · exact i3 e)) (fun p q1 q2 => h3 p (by have := hlc.1; omega) q2))
    have hq2 := hlc.2.2.1 q hq
    exact h2 q hq2.1 (by simp; omega) (hout q hq2.1 hq2.2)
/-- the first root's entry, the last one's end -/
theorem FoM.hd {s : jS} {k a c b : Nat} {l : List Nd} {R : List Nat} (h : FoM s k a c b l R) : (R ≠ [] → EnM s (R.getD 0 0) (ndA l 0) ∧ nF (ndA l 0) = a) ∧ (R ≠ [] → jgA s 20 (R.getD (R.length - 1) 0) = nI c) := by
  refine FoG.ind h (fun a c b l R => (R ≠ [] → EnM s (R.getD 0 0) (ndA l 0) ∧ nF (ndA l 0) = a) ∧ (R ≠ [] → jgA s 20 (R.getD (R.length - 1) 0) = nI c)) ?_ ?_ ?_
  · intro a b
    exact ⟨fun h => absurd rfl h, fun h => absurd rfl h⟩
  · intro a c d b n r R hl hr ih
    refine ⟨fun _ => ⟨hl.2.1, hl.1.1⟩, fun _ => ?_⟩
    cases R with
    | nil =>
      have := ((FoM.pu hr).le.2.2.2.1 rfl).1
      rw [← this, ← hl.1.2.1]
      exact hl.2.1.2.2.1
    | cons q R => exact ih.2 (by simp)
  · intro a c d b n cs Q r R hi hc ihc hr ih
    refine ⟨fun _ => ⟨hi.2.1, hi.1.1⟩, fun _ => ?_⟩
    cases R with
    | nil =>
      have := ((FoM.pu hr).le.2.2.2.1 rfl).1
      rw [← this, ← hi.1.2.1]
      exact hi.2.1.2.2.1
    | cons q R => exact ih.2 (by simp)
