/-! who a node's parent is, by the sizes -/
def qPar (l : List Nd) (j : Nat) : Nat → Option Nat
  | 0 => none
  | m + 1 => if j < m + nZ (ndA l m) then some m else qPar l j m
def paF (u : Int32) (i0 : Nat) (l : List Nd) (j : Nat) : Int32 := match qPar l j j with
  | none => u
  | some m => nI (i0 + m)
theorem qPar_cons {n : Nd} {r : List Nd} {j : Nat} : ∀ m : Nat, qPar (n :: r) (j + 1) (m + 1) = match qPar r j m with
    | none => if j + 1 < nZ n then some 0 else none
    | some x => some (x + 1)
  | 0 => by
    show (if j + 1 < 0 + nZ n then some 0 else none) = (if j + 1 < nZ n then some 0 else none)
    rw [Nat.zero_add]
  | m + 1 => by
    rw [qPar, ndA_s, qPar_cons m, qPar]
    by_cases h : j < m + nZ (ndA r m)
    · rw [if_pos h, if_pos (by omega)]
    · rw [if_neg h, if_neg (by omega)]
theorem qPar_l {cs r : List Nd} {j : Nat} : ∀ m : Nat, m ≤ cs.length → qPar (cs ++ r) j m = qPar cs j m
  | 0, _ => rfl
  | m + 1, h => by rw [qPar, qPar, ndA_l (by omega), qPar_l m (by omega)]
theorem qPar_no {l : List Nd} {j : Nat} : ∀ m : Nat, (∀ x, x < m → x + nZ (ndA l x) ≤ j) → qPar l j m = none
  | 0, _ => rfl
  | m + 1, h => by rw [qPar, if_neg (by have := h m (by omega); omega), qPar_no m (fun x hx => h x (by omega))]
theorem qPar_r {cs r : List Nd} {j : Nat} (hw : ∀ x, x < cs.length → x + nZ (ndA cs x) ≤ cs.length) : ∀ m : Nat, qPar (cs ++ r) (cs.length + j) (cs.length + m) = match qPar r j m with
    | none => none
    | some x => some (cs.length + x)
  | 0 => by
    show qPar (cs ++ r) (cs.length + j) cs.length = none
    rw [qPar_l _ (Nat.le_refl _), qPar_no _ (fun x hx => by have := hw x hx; omega)]
  | m + 1 => by
    rw [show cs.length + (m + 1) = (cs.length + m) + 1 by omega, qPar, ndA_r (by omega), show cs.length + m - cs.length = m by omega, qPar_r hw m, qPar]
    by_cases h : j < m + nZ (ndA r m)
    · rw [if_pos h, if_pos (by omega)]
    · rw [if_neg h, if_neg (by omega)]
theorem paF_0 {u : Int32} {i0 : Nat} {l : List Nd} : paF u i0 l 0 = u := rfl
theorem paF_kid {u : Int32} {i0 j : Nat} {n : Nd} {cs r : List Nd} (hz : nZ n = cs.length + 1) (hj : j < cs.length) : paF u i0 (n :: (cs ++ r)) (j + 1) = paF (nI i0) (i0 + 1) cs j := by
  unfold paF
  rw [qPar_cons j, qPar_l j (by omega)]
  cases qPar cs j j with
  | none =>
    dsimp only
    rw [if_pos (by omega)]
    rfl
  | some x =>
    dsimp only
    exact congrArg nI (by omega)
theorem paF_rest {u : Int32} {i0 j : Nat} {n : Nd} {cs r : List Nd} (hz : nZ n = cs.length + 1) (hw : ∀ x, x < cs.length → x + nZ (ndA cs x) ≤ cs.length) : paF u i0 (n :: (cs ++ r)) (cs.length + j + 1) = paF u (i0 + cs.length + 1) r j := by
  unfold paF
  rw [qPar_cons (cs.length + j), qPar_r hw j]
  cases qPar r j j with
  | none =>
    dsimp only
    rw [if_neg (by omega)]
  | some x =>
    dsimp only
    exact congrArg nI (by omega)
theorem FoP.wf {f : Nat → Int32} {a c b : Nat} {l : List Nd} {R : List Nat} (h : FoP f a c b l R) : ∀ x, x < l.length → x + nZ (ndA l x) ≤ l.length ∧ 1 ≤ nZ (ndA l x) := by
  refine FoG.ind h (fun a c b l R => ∀ x, x < l.length → x + nZ (ndA l x) ≤ l.length ∧ 1 ≤ nZ (ndA l x)) ?_ ?_ ?_
  · intro a b x hx
    exact absurd hx (by simp)
  · intro a c d b n r R hl _ ih x hx
    rw [List.length_cons] at hx ⊢
    cases x with
    | zero =>
      rw [ndA_z, hl.2.2.2.2.1]
      omega
    | succ x =>
      rw [ndA_s]
      have := ih x (by omega)
      omega
  · intro a c d b n cs Q r R hi _ ihc _ ih x hx
    rw [List.length_cons, List.length_append] at hx ⊢
    cases x with
    | zero =>
      rw [ndA_z, hi.2.2.2.2.1]
      omega
    | succ x =>
      rw [ndA_s]
      by_cases hc : x < cs.length
      · rw [ndA_l hc]
        have := ihc x hc
        omega
      · rw [ndA_r (by omega)]
        have := ih (x - cs.length) (by omega)
        omega
