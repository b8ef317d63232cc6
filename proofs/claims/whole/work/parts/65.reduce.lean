/-! the reference makes a node over the last roots -/
def RwM (s : jS) (h : Nat) (R : List Nat) : Prop := ∀ i, i < R.length → jgA s 28 (h + i) = nI (R.getD i 0)
/-- what stays: entries below m, roots below h, marks below p -/
def FmM (k m h p : Nat) (s s' : jS) : Prop := jSm [6, 7, 8, 9, 10] [2, 18, 19, 20, 21, 22, 23, 24, 25, 26, 28, 29, 30, 31] s s' ∧ (∀ x, 18 ≤ x → x ≤ 26 → ∀ i, i < m → jgA s' x i = jgA s x i) ∧ (∀ i, i < h → jgA s' 28 i = jgA s 28 i) ∧ ∀ i, ¬ (61 * k + p ≤ i ∧ i < 61 * k + 61) → jgA s' 2 i = jgA s 2 i
theorem FmM.tr {k m h p m' h' p' : Nat} {s s1 s2 : jS} (h1 : FmM k m h p s s1) (h2 : FmM k m' h' p' s1 s2) (hm : m ≤ m') (hh : h ≤ h') (hp : p ≤ p') : FmM k m h p s s2 :=
  ⟨h1.1.tr h2.1, fun x x1 x2 i hi => (h2.2.1 x x1 x2 i (by omega)).trans (h1.2.1 x x1 x2 i hi), fun i hi => (h2.2.2.1 i (by omega)).trans (h1.2.2.1 i hi), fun i hi => (h2.2.2.2 i (by omega)).trans (h1.2.2.2 i hi)⟩
theorem FmM.rf {k m h p : Nat} {s : jS} : FmM k m h p s s := ⟨jSm.rf, fun _ _ _ _ _ => rfl, fun _ _ => rfl, fun _ _ => rfl⟩
theorem FoM.fm {k m h p a c b : Nat} {l : List Nd} {R : List Nat} {s s' : jS} (hF : FoM s k a c b l R) (h : FmM k m h p s s') (hm : b + l.length ≤ m) (hp : c ≤ p) : FoM s' k a c b l R :=
  hF.fr (fun x x1 x2 i _ i2 => h.2.1 x x1 (by omega) i (by omega)) (fun i _ i2 _ => ⟨h.2.1 25 (by decide) (by decide) i (by omega), h.2.1 26 (by decide) (by decide) i (by omega)⟩) (fun q _ q2 => h.2.2.2 _ (by omega))
theorem RwM.fm {k m h h' p : Nat} {R : List Nat} {s s' : jS} (hR : RwM s h' R) (hf : FmM k m h p s s') (hm : h' + R.length ≤ h) : RwM s' h' R := fun i hi => by rw [hf.2.2.1 _ (by omega)]; exact hR i hi
theorem pM_mk {N m h k a o c f : Nat} {s : jS} (h8 : jgI s 8 = nI m) (h9 : jgI s 9 = nI h) (hm : m < 400) (hh : h < 400) : ∃ s', fM_make N (nI k) (nI a) (nI o) (nI c) (nI f) s = some (0, s') ∧ jgI s' 8 = nI (m + 1) ∧ jgI s' 9 = nI (h + 1) ∧ (jgA s' 18 m = nI k ∧ jgA s' 19 m = nI a ∧ jgA s' 20 m = nI c ∧ jgA s' 21 m = nI o ∧ jgA s' 22 m = nI f ∧ jgA s' 23 m = nI 0 ∧ jgA s' 24 m = -1 ∧ jgA s' 25 m = -1 ∧ jgA s' 26 m = -1) ∧ (∀ x, 18 ≤ x → x ≤ 26 → ∀ i, i ≠ m → jgA s' x i = jgA s x i) ∧ jgA s' 28 h = nI m ∧ (∀ i, i ≠ h → jgA s' 28 i = jgA s 28 i) ∧ jSm [8, 9] [18, 19, 20, 21, 22, 23, 24, 25, 26, 28] s s' := by
  obtain ⟨s', e, q8, q9, w18, w19, w20, w21, w22, w23, w24, w25, w26, w28, hs⟩ := pM_make (N := N) (a0 := nI k) (a1 := nI a) (a2 := nI o) (a3 := nI c) (a4 := nI f) h8 h9 hm hh
  refine ⟨s', e, q8, q9, ?_, ?_, by rw [w28, pk_us], fun i hi => by rw [w28, pk_un hi], hs⟩
  · rw [w18, w19, w20, w21, w22, w23, w24, w25, w26]
    exact ⟨pk_us, pk_us, pk_us, pk_us, pk_us, pk_us, pk_us, pk_us, pk_us⟩
  · intro x x1 x2 i hi
    rcases (show x = 18 ∨ x = 19 ∨ x = 20 ∨ x = 21 ∨ x = 22 ∨ x = 23 ∨ x = 24 ∨ x = 25 ∨ x = 26 by omega) with rfl | rfl | rfl | rfl | rfl | rfl | rfl | rfl | rfl
    · rw [w18, pk_un hi]
    · rw [w19, pk_un hi]
    · rw [w20, pk_un hi]
    · rw [w21, pk_un hi]
    · rw [w22, pk_un hi]
    · rw [w23, pk_un hi]
    · rw [w24, pk_un hi]
    · rw [w25, pk_un hi]
    · rw [w26, pk_un hi]
theorem pM_redL {N : Nat} {x1 x2 x3 x4 x5 : Int32} {e : Nat} : ∀ (Q : List Nat) (n h : Nat) (s : jS), Q.length < n → RwM s h Q → jgI s 9 = nI (h + Q.length) → jgI s 8 = nI e → h + Q.length ≤ 400 → (∀ q ∈ Q, q < 400) → Q.Nodup → ∃ s', fM_reduce_31 N n x1 x2 x3 x4 x5 (nI h) s = fM_reduce_31 N 1 x1 x2 x3 x4 x5 (nI (h + Q.length)) s' ∧ LkM s' e Q ∧ jSm [] [25, 26] s s' ∧ ∀ q, q ∉ Q → jgA s' 25 q = jgA s 25 q ∧ jgA s' 26 q = jgA s 26 q := by
  intro Q
  induction Q with
  | nil =>
    intro n h s hn _ h9 _ _ _ _
    obtain ⟨n, rfl⟩ : ∃ n', n = n' + 1 := ⟨n - 1, by simp at hn; omega⟩
    refine ⟨s, ?_, trivial, jSm.rf, fun _ _ => ⟨rfl, rfl⟩⟩
    show fM_reduce_b31 N (fM_reduce_31 N n) x1 x2 x3 x4 x5 (nI h) s = fM_reduce_b31 N (fM_reduce_31 N 0) x1 x2 x3 x4 x5 (nI h) s
    have h9 : jgI s 9 = nI h := h9
    unfold fM_reduce_b31
    rw [h9, if_pos (Int32.le_refl _), if_pos (Int32.le_refl _)]
  | cons q Q ih =>
    intro n h s hn hw h9 h8 hb hq hnd
    obtain ⟨n, rfl⟩ : ∃ n', n = n' + 1 := ⟨n - 1, by simp at hn; omega⟩
    have hq0 : q < 400 := hq q List.mem_cons_self
    simp only [List.length_cons] at hn h9 hb
    have hw0 : jgA s 28 h = nI q := hw 0 (by simp)
    have key : ∃ s2, fM_reduce_31 N (n + 1) x1 x2 x3 x4 x5 (nI h) s = fM_reduce_31 N n x1 x2 x3 x4 x5 (nI (h + 1)) s2 ∧ jgA s2 26 = upd (jgA s 26) q (nI e) ∧ jgA s2 25 = upd (jgA s 25) q (hdI Q) ∧ jSm [] [25, 26] s s2 := by
      show ∃ s2, fM_reduce_b31 N (fM_reduce_31 N n) x1 x2 x3 x4 x5 (nI h) s = _ ∧ _
      unfold fM_reduce_b31
      rw [h9, if_neg (nI_ge (show h < h + (Q.length + 1) by omega) (by omega)), if_pos (jIn_nI (show h < 400 by omega) (by decide)), nI_clamp (show h < 2 ^ 31 by omega), hw0, if_pos (jIn_nI hq0 (by decide)), nI_clamp (show q < 2 ^ 31 by omega), jL_e, h8]
      have m1 : jSm [] [25, 26] s (jsA s 26 q (nI e)) := jSm.rf.sA (by decide)
      have a26 : jgA (jsA s 26 q (nI e)) 26 = upd (jgA s 26) q (nI e) := rfl
      have a25 : jgA (jsA s 26 q (nI e)) 25 = jgA s 25 := rfl
      generalize jsA s 26 q (nI e) = s1 at m1 a26 a25 ⊢
      have b28 : jgA s1 28 = jgA s 28 := m1.2 28 (by decide)
      rw [if_pos (jIn_nI (show h < 400 by omega) (by decide)), m1.1 9 (by decide), h9, b28, hw0, nI_1]
      cases Q with
      | nil =>
        rw [if_pos (show nI (h + ([] : List Nat).length.succ) ≤ nI (h + 1) from Int32.le_refl _), if_pos (jIn_nI hq0 (by decide)), nI_clamp (show q < 2 ^ 31 by omega), jL_e]
        exact ⟨_, rfl, a26, by show upd (jgA s1 25) q (-1) = _; rw [a25]; rfl, m1.sA (by decide)⟩
      | cons q' Q' =>
        simp only [List.length_cons] at hb
        have hw1 : jgA s 28 (h + 1) = nI q' := hw 1 (by simp)
        rw [if_neg (nI_ge (show h + 1 < h + ((q' :: Q').length + 1) by simp) (by simp; omega)), if_pos (jIn_nI (show h + 1 < 400 by omega) (by decide)), if_pos (jIn_nI hq0 (by decide)), nI_clamp (show q < 2 ^ 31 by omega), nI_clamp (show h + 1 < 2 ^ 31 by omega), hw1, jL_e]
        exact ⟨_, rfl, a26, by show upd (jgA s1 25) q (nI q') = _; rw [a25]; rfl, m1.sA (by decide)⟩
    obtain ⟨s2, e2, w26, w25, m2⟩ := key
    obtain ⟨hn1, hn2⟩ := List.nodup_cons.mp hnd
    obtain ⟨s3, e3, k3, m3, f3⟩ := ih n (h + 1) s2 (by omega) (fun i hi => by
      rw [m2.2 28 (by decide), show h + 1 + i = h + (i + 1) by omega]
      exact hw (i + 1) (by simp; omega)) (by rw [m2.1 9 (by decide), h9, show h + (Q.length + 1) = h + 1 + Q.length by omega]) (by rw [m2.1 8 (by decide)]; exact h8) (by omega) (fun x hx => hq x (List.mem_cons_of_mem _ hx)) hn2
    refine ⟨s3, ?_, ⟨?_, ?_, k3⟩, m2.tr m3, fun x hx => ?_⟩
    · rw [e2, e3, List.length_cons, show h + 1 + Q.length = h + (Q.length + 1) by omega]
    · rw [(f3 q hn1).2, w26, pk_us]
    · rw [(f3 q hn1).1, w25, pk_us]
    · have hx1 : x ≠ q := fun z => hx (by rw [z]; exact List.mem_cons_self)
      have hx2 : x ∉ Q := fun z => hx (List.mem_cons_of_mem _ z)
      rw [(f3 x hx2).1, (f3 x hx2).2, w25, w26, pk_un hx1, pk_un hx1]
      exact ⟨rfl, rfl⟩
theorem getD_mem {R : List Nat} {i : Nat} (h : i < R.length) : R.getD i 0 ∈ R := by
  rw [List.getD_eq_getElem?_getD, List.getElem?_eq_getElem h]
  exact List.getElem_mem _
theorem hdI_ne {R : List Nat} (h : R ≠ []) : hdI R = nI (R.getD 0 0) := by
  cases R with
  | nil => exact absurd rfl h
  | cons q R => rfl
theorem pM_reduceR {N k kd a c m h : Nat} {l : List Nd} {R : List Nat} {s : jS} (hN : 500 ≤ N) (hk1 : 20 ≤ kd) (hk2 : kd ≤ 28) (hF : FoM s k a c m l R) (hR : R ≠ []) (hw : RwM s h R) (h8 : jgI s 8 = nI (m + l.length)) (h9 : jgI s 9 = nI (h + R.length)) (hm : m + l.length < 400) (hh : h ≤ m) (p : Nat) : ∃ s', fM_reduce N (nI kd) (nI h) s = some (0, s') ∧ FoM s' k a c m (qNode kd R.length l c) [m + l.length] ∧ RwM s' h [m + l.length] ∧ jgI s' 8 = nI (m + l.length + 1) ∧ jgI s' 9 = nI (h + 1) ∧ FmM k m h p s s' ∧ jSm [8, 9] [18, 19, 20, 21, 22, 23, 24, 25, 26, 28] s s' ∧ jgA s' 25 (m + l.length) = -1 ∧ jgA s' 26 (m + l.length) = -1 := by
  obtain ⟨hle1, hle2, hle3, hle4, hle5⟩ := (FoM.pu hF).le
  obtain ⟨g1, g2⟩ := hF.hd
  have hr1 : 1 ≤ R.length := by
    cases R with
    | nil => exact absurd rfl hR
    | cons q R => simp
  have hq0 : R.getD 0 0 ∈ R := by
    cases R with
    | nil => exact absurd rfl hR
    | cons q R => exact List.mem_cons_self
  have hq1 : R.getD (R.length - 1) 0 ∈ R := getD_mem (by omega)
  have b0 := hle3 _ hq0
  have b1 := hle3 _ hq1
  have w0 : jgA s 28 h = nI (R.getD 0 0) := hw 0 (by omega)
  have w1 : jgA s 28 (h + R.length - 1) = nI (R.getD (R.length - 1) 0) := by
    have := hw (R.length - 1) (by omega)
    rw [show h + R.length - 1 = h + (R.length - 1) by omega]
    exact this
  unfold fM_reduce
  rw [if_pos (jIn_nI (show h < 400 by omega) (by decide)), h9, show nI (h + R.length) - 1 = nI (h + R.length - 1) from pk_sub (b := 1) (by omega), if_pos (jIn_nI (show h + R.length - 1 < 400 by omega) (by decide)), nI_clamp (show h < 2 ^ 31 by omega), nI_clamp (show h + R.length - 1 < 2 ^ 31 by omega), w0, w1, pk_sub (show h ≤ h + R.length by omega), show h + R.length - h = R.length by omega]
  obtain ⟨s1, e1, k1, m1, f1⟩ := pM_redL (N := N) (x1 := nI kd) (x2 := nI h) (x3 := nI (R.getD 0 0)) (x4 := nI (R.getD (R.length - 1) 0)) (x5 := nI R.length) (e := m + l.length) R N h s (by omega) hw h9 h8 (by omega) (fun q hq => by have := hle3 q hq; omega) hle5
  rw [e1]
  show ∃ s', fM_reduce_b31 N (fM_reduce_31 N 0) _ _ _ _ _ _ s1 = _ ∧ _
  unfold fM_reduce_b31
  rw [m1.1 9 (by decide), h9, if_pos (Int32.le_refl _), jL_e]
  have m2 : jSm [9] [25, 26] s (jsI s1 9 (nI h)) := (m1.wk (by decide) (by decide)).sI (by decide)
  have f2 : ∀ x, jgA (jsI s1 9 (nI h)) x = jgA s1 x := fun x => rfl
  have c9 : jgI (jsI s1 9 (nI h)) 9 = nI h := rfl
  have c8 : jgI (jsI s1 9 (nI h)) 8 = nI (m + l.length) := by rw [m2.1 8 (by decide)]; exact h8
  generalize jsI s1 9 (nI h) = s2 at m2 f2 c9 c8 ⊢
  rw [if_pos (jIn_nI (show R.getD 0 0 < 400 by omega) (by decide)), if_pos (jIn_nI (show R.getD 0 0 < 400 by omega) (by decide)), if_pos (jIn_nI (show R.getD (R.length - 1) 0 < 400 by omega) (by decide)), nI_clamp (show R.getD 0 0 < 2 ^ 31 by omega), nI_clamp (show R.getD (R.length - 1) 0 < 2 ^ 31 by omega), m2.2 19 (by decide), m2.2 20 (by decide), m2.2 21 (by decide), (g1 hR).1.2.1, (g1 hR).1.2.2.2.1, g2 hR, (g1 hR).2]
  obtain ⟨s3, e3, d8, d9, ⟨v18, v19, v20, v21, v22, v23, v24, v25, v26⟩, fr3, r28, fr28, m3⟩ := pM_mk (N := N) (k := kd) (a := a) (o := nO (ndA l 0)) (c := c) (f := 0) c8 c9 (by omega) (by omega)
  rw [show (0 : Int32) = nI 0 from rfl, e3, jB_s, d8, show nI (m + l.length + 1) - 1 = nI (m + l.length) from pk_sub (b := 1) (by omega), if_pos (jIn_nI hm (by decide)), nI_clamp (show m + l.length < 2 ^ 31 by omega), jL_e]
  rw [show jgI (jsA s3 24 (m + l.length) (nI (R.getD 0 0))) 8 = nI (m + l.length + 1) from d8, show nI (m + l.length + 1) - 1 = nI (m + l.length) from pk_sub (b := 1) (by omega), if_pos (jIn_nI hm (by decide)), nI_clamp (show m + l.length < 2 ^ 31 by omega), jL_e]
  have m4 : jSm [8, 9] [18, 19, 20, 21, 22, 23, 24, 25, 26, 28] s (jsA (jsA s3 24 (m + l.length) (nI (R.getD 0 0))) 23 (m + l.length) (nI R.length)) := (((m2.wk (by decide) (by decide)).tr m3).sA (by decide)).sA (by decide)
  have fin : ∀ x i, i ≠ m + l.length → jgA (jsA (jsA s3 24 (m + l.length) (nI (R.getD 0 0))) 23 (m + l.length) (nI R.length)) x i = jgA s3 x i := by
    intro x i hi
    rw [jgA_sA]
    by_cases h23 : x = 23
    · subst h23
      rw [if_pos rfl, pk_un hi, jgA_sA, if_neg (by decide)]
    · rw [if_neg h23, jgA_sA]
      by_cases h24 : x = 24
      · subst h24
        rw [if_pos rfl, pk_un hi]
      · rw [if_neg h24]
  have fo : ∀ x, x ≠ 23 → x ≠ 24 → jgA (jsA (jsA s3 24 (m + l.length) (nI (R.getD 0 0))) 23 (m + l.length) (nI R.length)) x = jgA s3 x := fun x h23 h24 => by rw [jgA_sA, if_neg h23, jgA_sA, if_neg h24]
  have v23' : jgA (jsA (jsA s3 24 (m + l.length) (nI (R.getD 0 0))) 23 (m + l.length) (nI R.length)) 23 (m + l.length) = nI R.length := by rw [jgA_sA, if_pos rfl, pk_us]
  have v24' : jgA (jsA (jsA s3 24 (m + l.length) (nI (R.getD 0 0))) 23 (m + l.length) (nI R.length)) 24 (m + l.length) = nI (R.getD 0 0) := by rw [jgA_sA, if_neg (by decide), jgA_sA, if_pos rfl, pk_us]
  have i8 : jgI (jsA (jsA s3 24 (m + l.length) (nI (R.getD 0 0))) 23 (m + l.length) (nI R.length)) 8 = jgI s3 8 := rfl
  have i9 : jgI (jsA (jsA s3 24 (m + l.length) (nI (R.getD 0 0))) 23 (m + l.length) (nI R.length)) 9 = jgI s3 9 := rfl
  generalize jsA (jsA s3 24 (m + l.length) (nI (R.getD 0 0))) 23 (m + l.length) (nI R.length) = s4 at m4 fin fo v23' v24' i8 i9 ⊢
  have all : ∀ x, 18 ≤ x → x ≤ 24 → ∀ i, i ≠ m + l.length → jgA s4 x i = jgA s x i := fun x x1 x2 i hi => by
    rw [fin x i hi, fr3 x x1 (by omega) i hi, m2.2 x (by simp; omega)]
  have al2 : ∀ i, i ≠ m + l.length → jgA s4 25 i = jgA s1 25 i ∧ jgA s4 26 i = jgA s1 26 i := fun i hi => by
    rw [fin 25 i hi, fin 26 i hi, fr3 25 (by decide) (by decide) i hi, fr3 26 (by decide) (by decide) i hi, f2, f2]
    exact ⟨rfl, rfl⟩
  refine ⟨s4, rfl, ?_, ?_, by rw [i8]; exact d8, by rw [i9]; exact d9, ⟨m4.wk (by decide) (by decide), ?_, ?_, fun i _ => by rw [m4.2 2 (by decide)]⟩, m4, by rw [fo 25 (by decide) (by decide)]; exact v25, by rw [fo 26 (by decide) (by decide)]; exact v26⟩
  · have hkid : FoM s4 k a c m l R := hF.fr (fun x x1 x2 i _ i2 => all x x1 x2 i (by omega)) (fun i _ i2 i3 => by
      rw [(al2 i (by omega)).1, (al2 i (by omega)).2, (f1 i i3).1, (f1 i i3).2]
      exact ⟨rfl, rfl⟩) (fun q _ _ => by
      show jgA s4 2 _ = jgA s 2 _
      rw [m4.2 2 (by decide)])
    have z := FoG.node (d := c) (r := []) (R := []) (n := (kd, nF (l.headD (0, 0, 0, 0, 0, 0, 0, [])), c, nO (l.headD (0, 0, 0, 0, 0, 0, 0, [])), 0, R.length, l.length + 1, [])) (show InP a c (kd, nF (l.headD (0, 0, 0, 0, 0, 0, 0, [])), c, nO (l.headD (0, 0, 0, 0, 0, 0, 0, [])), 0, R.length, l.length + 1, []) l R.length ∧ EnM s4 (m + l.length) (kd, nF (l.headD (0, 0, 0, 0, 0, 0, 0, [])), c, nO (l.headD (0, 0, 0, 0, 0, 0, 0, [])), 0, R.length, l.length + 1, []) ∧ jgA s4 24 (m + l.length) = hdI R ∧ LkM s4 (m + l.length) R from by
      refine ⟨⟨?_, rfl, hk1, hk2, rfl, rfl, hr1, rfl, rfl, ?_⟩, ⟨?_, ?_, ?_, ?_, ?_, v23'⟩, by rw [v24', hdI_ne hR], k1.ext (fun q hq => al2 q (by have := hle3 q hq; omega))⟩
      · show nF (l.headD _) = a
        rw [headD_ndA]
        exact (g1 hR).2
      · show nO (l.headD _) = _
        rw [headD_ndA]
      · rw [fo 18 (by decide) (by decide)]; exact v18
      · rw [fo 19 (by decide) (by decide), v19]
        show nI a = nI (nF (l.headD _))
        rw [headD_ndA, (g1 hR).2]
      · rw [fo 20 (by decide) (by decide)]; exact v20
      · rw [fo 21 (by decide) (by decide), v21]
        show nI _ = nI (nO (l.headD _))
        rw [headD_ndA]
      · rw [fo 22 (by decide) (by decide)]; exact v22) hkid (FoG.nil c (m + l.length + 1))
    rw [List.append_nil] at z
    exact z
  · intro i hi
    obtain rfl : i = 0 := by simp at hi; omega
    rw [fo 28 (by decide) (by decide)]
    exact r28
  · intro x x1 x2 i hi
    by_cases hx : x ≤ 24
    · exact all x x1 hx i (by omega)
    · have hnr : i ∉ R := fun hm => by have := hle3 i hm; omega
      rcases (show x = 25 ∨ x = 26 by omega) with rfl | rfl
      · rw [(al2 i (by omega)).1, (f1 i hnr).1]
      · rw [(al2 i (by omega)).2, (f1 i hnr).2]
  · intro i hi
    rw [fo 28 (by decide) (by decide), fr28 i (by omega), m2.2 28 (by decide)]
theorem pM_reduce {N k kd a c m h : Nat} {l : List Nd} {R : List Nat} {s : jS} (hN : 500 ≤ N) (hk1 : 20 ≤ kd) (hk2 : kd ≤ 28) (hF : FoM s k a c m l R) (hR : R ≠ []) (hw : RwM s h R) (h8 : jgI s 8 = nI (m + l.length)) (h9 : jgI s 9 = nI (h + R.length)) (hm : m + l.length < 400) (hh : h ≤ m) (p : Nat) : ∃ s', fM_reduce N (nI kd) (nI h) s = some (0, s') ∧ FoM s' k a c m (qNode kd R.length l c) [m + l.length] ∧ RwM s' h [m + l.length] ∧ jgI s' 8 = nI (m + l.length + 1) ∧ jgI s' 9 = nI (h + 1) ∧ FmM k m h p s s' ∧ jSm [8, 9] [18, 19, 20, 21, 22, 23, 24, 25, 26, 28] s s' := by
  obtain ⟨s', e, z1, z2, z3, z4, z5, z6, _⟩ := pM_reduceR (N := N) hN hk1 hk2 hF hR hw h8 h9 hm hh p
  exact ⟨s', e, z1, z2, z3, z4, z5, z6⟩
