/-! the END is the last node, and only there -/
def K17 (l : List Nd) : Prop := ∀ n ∈ l, ¬ nK n = 17
theorem K17.app {a b : List Nd} (ha : K17 a) (hb : K17 b) : K17 (a ++ b) := fun n hn => by
  rcases List.mem_append.mp hn with h | h
  · exact ha n h
  · exact hb n h
theorem K17.node {k c to : Nat} {l : List Nd} (hk : ¬ k = 17) (h : K17 l) : K17 (qNode k c l to) := fun n hn => by
  rcases List.mem_cons.mp hn with e | e
  · rw [e]; exact hk
  · exact h n e
section KK
variable {tk : List (Nat × Nat × Nat)}
theorem k_take {g : Sg} (h : ¬ qK tk g.1 = 17) : K17 (qTake tk g).1 := fun n hn => by
  rcases List.mem_singleton.mp hn with rfl
  exact h
theorem k_miss {k f : Nat} {g : Sg} (h : ¬ k = 17) : K17 (qMiss k f g).1 := fun n hn => by
  rcases List.mem_singleton.mp hn with rfl
  exact h
theorem k_exp {k : Nat} {g : Sg} (h : ¬ k = 17) : K17 (qExp tk k g).1 := by
  unfold qExp
  by_cases hk : qK tk g.1 = k
  · rw [if_pos hk]; exact k_take (by omega)
  · rw [if_neg hk]; exact k_miss h
theorem k_close {b to : Nat} : ∀ (st : Stk) (cur : List Nd), (∀ q ∈ st, K17 q.1 ∧ K17 q.2.1) → K17 cur → (∀ q ∈ (qClose b to st cur).1, K17 q.1 ∧ K17 q.2.1) ∧ K17 (qClose b to st cur).2
  | [], cur, h, hc => ⟨h, hc⟩
  | (L, S, x) :: r, cur, h, hc => by
    rw [qClose]
    have h0 := h (L, S, x) List.mem_cons_self
    by_cases hb : b ≤ x
    · rw [if_pos hb]
      exact k_close r _ (fun q hq => h q (List.mem_cons_of_mem _ hq)) (K17.node (by decide) (h0.1.app (h0.2.app hc)))
    · rw [if_neg hb]
      exact ⟨h, hc⟩
theorem k_loop {op : Sg → List Nd × Sg} (hop : ∀ g, K17 (op g).1) : ∀ (n : Nat) (st : Stk) (cur : List Nd) (g : Sg), (∀ q ∈ st, K17 q.1 ∧ K17 q.2.1) → K17 cur → K17 (qLoop tk op n st cur g).1 := by
  intro n
  induction n with
  | zero => intro st cur g h hc; exact (k_close st cur h hc).2
  | succ n ih =>
    intro st cur g h hc
    rw [qLoop]
    by_cases h0 : qLvl (qK tk g.1) = 0
    · rw [if_pos h0]
      exact (k_close st cur h hc).2
    · rw [if_neg h0]
      have hk : ¬ qK tk g.1 = 17 := fun z => by rw [z] at h0; exact h0 rfl
      have z := k_close (b := if qK tk g.1 = 15 then 2 else qLvl (qK tk g.1)) (to := g.2.1) st cur h hc
      refine ih _ _ _ (fun q hq => ?_) (hop _)
      rcases List.mem_cons.mp hq with e | e
      · rw [e]
        exact ⟨z.2, k_take hk⟩
      · exact z.1 q e
theorem k_opd : ∀ (q : Nat) (g : Sg), K17 (qOpd tk q g).1 := by
  intro q
  induction q with
  | zero =>
    intro g
    rw [qOpd]
    split
    · exact k_take (by omega)
    · split
      · exact k_miss (by decide)
      · exact k_miss (by decide)
  | succ q ih =>
    intro g
    rw [qOpd]
    split
    · exact k_take (by omega)
    · split
      · exact K17.node (by decide) ((k_take (by omega)).app ((k_loop ih 60 [] _ _ (fun q hq => absurd hq List.not_mem_nil) (ih _)).app (k_exp (by decide))))
      · split
        · exact K17.node (by decide) ((k_take (by omega)).app (ih _))
        · exact k_miss (by decide)
theorem k_ex (g : Sg) : K17 (qEx tk g).1 := k_loop (k_opd 6) 60 [] _ _ (fun q hq => absurd hq List.not_mem_nil) (k_opd 6 g)
theorem k_cond (g : Sg) : K17 (qCond tk g).1 := (k_exp (by decide)).app ((k_ex _).app (k_exp (by decide)))
theorem k_part {st : Sg → List Nd × Sg} (hst : ∀ g, K17 (st g).1) (r : Nat) (g : Sg) : K17 (qPart tk st r g).1 := by
  unfold qPart
  split
  · exact hst g
  · exact K17.node (by decide) (k_miss (by decide))
theorem k_list {st : Sg → List Nd × Sg} (hst : ∀ g, K17 (st g).1) (r : Nat) (inner : Bool) : ∀ (n : Nat) (g : Sg), K17 (qList tk st r inner n g).1 := by
  intro n
  induction n with
  | zero => intro g n hn; exact absurd hn List.not_mem_nil
  | succ n ih =>
    intro g
    rw [qList]
    split
    · intro n hn; exact absurd hn List.not_mem_nil
    · split
      · exact (hst g).app (ih _)
      · exact ih _
theorem k_stmt : ∀ (r : Nat) (g : Sg), K17 (qStmt tk r g).1 := by
  have hs : ∀ g, K17 (qSimple tk g).1 := fun g => K17.node (by decide) ((k_ex _).app (k_exp (by decide)))
  have he : ∀ g, qK tk g.1 = 6 → K17 (qEmpty tk g).1 := fun g h => K17.node (by decide) (k_take (by omega))
  intro r
  induction r with
  | zero =>
    intro g
    rw [qStmt]
    split
    · exact he g (by assumption)
    · exact hs g
  | succ r ih =>
    intro g
    by_cases h6 : qK tk g.1 = 6
    · rw [qStmt_e tk _ g h6]; exact he g h6
    · by_cases h7 : qK tk g.1 = 7
      · rw [qStmt_7 tk r g h7]
        exact K17.node (by decide) ((k_take (by omega)).app ((k_list ih r true 60 _).app (k_exp (by decide))))
      · by_cases h3 : qK tk g.1 = 3
        · rw [qStmt_3 tk r g h3]
          refine K17.node (by decide) ((k_take (by omega)).app ((k_cond _).app ((k_part ih r _).app ?_)))
          unfold qElse
          split
          · exact (k_take (by omega)).app (k_part ih r _)
          · intro n hn; exact absurd hn List.not_mem_nil
        · by_cases h5 : qK tk g.1 = 5
          · rw [qStmt_5 tk r g h5]
            exact K17.node (by decide) ((k_take (by omega)).app ((k_cond _).app (k_part ih r _)))
          · rw [qStmt_s tk (r + 1) g h6 h3 h5 h7]; exact hs g
end KK
theorem qTr_17 {t : List Int32} (h : t.length ≤ 60) : 2 ≤ (qTr t).length ∧ nK (ndA (qTr t) ((qTr t).length - 1)) = 17 ∧ ∀ i, i + 1 < (qTr t).length → ¬ nK (ndA (qTr t) i) = 17 := by
  have hA := qToks_A h
  have h17 := qList_end hA (fun g hg hb => qStmt_go hA 6 g hg hb) 60 (0, 0, []) hA.2.1.1 (by have := hA.2.1.2.1; show _ ≤ 0 + 60 + 1; omega)
  have hT : qTr t = qNode 20 ((qList (qToks t 61 0) (qStmt (qToks t 61 0) 6) 6 false 60 (0, 0, [])).2.1 + 1) ((qList (qToks t 61 0) (qStmt (qToks t 61 0) 6) 6 false 60 (0, 0, [])).1 ++ (qTake (qToks t 61 0) (qList (qToks t 61 0) (qStmt (qToks t 61 0) 6) 6 false 60 (0, 0, [])).2.2).1) (qTake (qToks t 61 0) (qList (qToks t 61 0) (qStmt (qToks t 61 0) 6) 6 false 60 (0, 0, [])).2.2).2.2.1 := rfl
  have hk := k_list (tk := qToks t 61 0) (k_stmt (tk := qToks t 61 0) 6) 6 false 60 (0, 0, [])
  rw [hT, qNode_len, List.length_append, qTake_len]
  generalize qToks t 61 0 = tk at *
  generalize qList tk (qStmt tk 6) 6 false 60 (0, 0, []) = b at *
  refine ⟨by omega, ?_, fun i hi => ?_⟩
  · show nK (ndA (_ :: (b.1 ++ (qTake tk b.2.2).1)) (b.1.length + 1)) = 17
    rw [ndA_s, ndA_r (Nat.le_refl _), Nat.sub_self]
    exact h17
  · cases i with
    | zero => show ¬ (20 : Nat) = 17; decide
    | succ i =>
      show ¬ nK (ndA (_ :: (b.1 ++ (qTake tk b.2.2).1)) (i + 1)) = 17
      rw [ndA_s, ndA_l (by omega)]
      refine hk _ ?_
      unfold ndA
      rw [List.getD_eq_getElem?_getD, List.getElem?_eq_getElem (show i < b.1.length by omega)]
      exact List.getElem_mem _
