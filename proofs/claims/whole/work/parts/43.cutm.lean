/-! the reference's cut -/
def TkM (s : jS) (tk : List (Nat × Nat × Nat)) : Prop := jgI s 5 = nI tk.length ∧ ∀ i, i < tk.length → jgA s 15 i = nI (qK tk i) ∧ jgA s 16 i = nI (qO tk i) ∧ jgA s 17 i = nI (qE tk i)
theorem TkM.sm {s s' : jS} {tk : List (Nat × Nat × Nat)} {ks as : List Nat} (h : TkM s tk) (hs : jSm ks as s s') (hk : 5 ∉ ks) (h1 : 15 ∉ as) (h2 : 16 ∉ as) (h3 : 17 ∉ as) : TkM s' tk := ⟨by rw [hs.1 5 hk]; exact h.1, fun i hi => by rw [hs.2 15 h1, hs.2 16 h2, hs.2 17 h3]; exact h.2 i hi⟩
theorem TkM.push {s : jS} {tk : List (Nat × Nat × Nat)} {k o e : Nat} (h : TkM s tk) : TkM (jsI (jsA (jsA (jsA s 15 tk.length (nI k)) 16 tk.length (nI o)) 17 tk.length (nI e)) 5 (nI (tk.length + 1))) (tk ++ [(k, o, e)]) := by
  refine ⟨by rw [jgI_sI, if_pos rfl]; simp, fun i hi => ?_⟩
  simp only [List.length_append, List.length_cons, List.length_nil] at hi
  have e1 : jgA (jsI (jsA (jsA (jsA s 15 tk.length (nI k)) 16 tk.length (nI o)) 17 tk.length (nI e)) 5 (nI (tk.length + 1))) 15 = upd (jgA s 15) tk.length (nI k) := rfl
  have e2 : jgA (jsI (jsA (jsA (jsA s 15 tk.length (nI k)) 16 tk.length (nI o)) 17 tk.length (nI e)) 5 (nI (tk.length + 1))) 16 = upd (jgA s 16) tk.length (nI o) := rfl
  have e3 : jgA (jsI (jsA (jsA (jsA s 15 tk.length (nI k)) 16 tk.length (nI o)) 17 tk.length (nI e)) 5 (nI (tk.length + 1))) 17 = upd (jgA s 17) tk.length (nI e) := rfl
  rw [e1, e2, e3]
  by_cases hl : i < tk.length
  · have hne : i ≠ tk.length := by omega
    obtain ⟨h1, h2, h3⟩ := h.2 i hl
    rw [pk_un hne, pk_un hne, pk_un hne, h1, h2, h3]
    simp only [qK, qO, qE, getD_app_l hl]
    exact ⟨trivial, trivial, trivial⟩
  · have he : i = tk.length := by omega
    subst he
    rw [pk_us, pk_us, pk_us]
    simp only [qK, qO, qE, getD_app_r (Nat.le_refl _), Nat.sub_self]
    exact ⟨rfl, rfl, rfl⟩
theorem qKind_lt {t : List Int32} {o e : Nat} (h : o < t.length) : qKind t o e ≤ 16 := by
  unfold qKind
  rw [if_neg (by omega)]
  unfold qWord qSign
  repeat' (first | apply ite_le' | decide)
theorem pM_cutL {N k : Nat} {t : List Int32} (hN : 200 ≤ N) : ∀ (n : Nat) (tk : List (Nat × Nat × Nat)) (p : Nat) (x : Int32) (s : jS), TxM s k t → TkM s tk → tk.length ≤ p → p ≤ t.length → t.length + 2 ≤ p + n → ¬ x = 17 → ∃ s', fM_cut_9 N n (nI k) (nI p) x s = some (0, s') ∧ TkM s' (tk ++ qToks t (61 - tk.length) p) ∧ jSm [5] [15, 16, 17] s s' := by
  intro n
  induction n with
  | zero => intro tk p x s _ _ _ h h2; omega
  | succ n ih =>
    intro tk p x s hT hK hkp hp hn hx
    have hl := hT.2.2.1
    show ∃ s', fM_cut_b9 N (fM_cut_9 N n) (nI k) (nI p) x s = some (0, s') ∧ _
    unfold fM_cut_b9
    have hol := qOwn_le hp
    rw [if_neg hx, pM_blanks hT hN hp, jB_s, pM_behind hT hN hol, jB_s, pM_kindOf hT hN hol, jB_s, hK.1, if_pos (jIn_nI (by omega) (by decide)), jL_e, nI_clamp (by omega)]
    simp only [jgI_sA, hK.1]
    rw [if_pos (jIn_nI (by omega) (by decide)), jL_e, nI_clamp (by omega)]
    simp only [jgI_sA, hK.1]
    rw [if_pos (jIn_nI (by omega) (by decide)), jL_e, jL_e, nI_clamp (by omega)]
    simp only [jgI_sA, hK.1]
    rw [nI_1]
    have hK2 := hK.push (k := qKind t (qOwn t p) (qEnd t (qOwn t p))) (o := qOwn t p) (e := qEnd t (qOwn t p))
    have hs2 : jSm [5] [15, 16, 17] s (jsI (jsA (jsA (jsA s 15 tk.length (nI (qKind t (qOwn t p) (qEnd t (qOwn t p))))) 16 tk.length (nI (qOwn t p))) 17 tk.length (nI (qEnd t (qOwn t p)))) 5 (nI (tk.length + 1))) := (((jSm.rf.sA (by decide)).sA (by decide)).sA (by decide)).sI (by decide)
    generalize jsI (jsA (jsA (jsA s 15 tk.length (nI (qKind t (qOwn t p) (qEnd t (qOwn t p))))) 16 tk.length (nI (qOwn t p))) 17 tk.length (nI (qEnd t (qOwn t p)))) 5 (nI (tk.length + 1)) = s2 at hK2 hs2 ⊢
    have hT2 := hT.sm hs2 (by decide) (by decide)
    rw [show 61 - tk.length = (61 - (tk.length + 1)) + 1 by omega, qToks]
    by_cases h17 : qKind t (qOwn t p) (qEnd t (qOwn t p)) = 17
    · rw [if_pos h17, h17]
      rw [h17] at hK2
      refine ⟨s2, ?_, hK2, hs2⟩
      cases n with
      | zero => omega
      | succ n =>
        show fM_cut_b9 N (fM_cut_9 N n) (nI k) (nI (qEnd t (qOwn t p))) (nI 17) s2 = _
        unfold fM_cut_b9
        rw [if_pos (show nI 17 = 17 from rfl)]
    · rw [if_neg h17]
      have hq17 : qKind t (qOwn t p) (qEnd t (qOwn t p)) < 2 ^ 31 := Nat.lt_of_le_of_lt (qKind_le _ _ _) (by decide)
      have hlt : qOwn t p < t.length := by
        rcases Nat.lt_or_ge (qOwn t p) t.length with q | q
        · exact q
        · exact absurd (by unfold qKind; rw [if_pos q]) h17
      have hg := qEnd_gt hlt
      have hop : p ≤ qOwn t p := Nat.le_add_right _ _
      obtain ⟨s3, e3, k3, m3⟩ := ih (tk ++ [(qKind t (qOwn t p) (qEnd t (qOwn t p)), qOwn t p, qEnd t (qOwn t p))]) (qEnd t (qOwn t p)) (nI (qKind t (qOwn t p) (qEnd t (qOwn t p)))) s2 hT2 hK2 (by simp; omega) (qEnd_le hol) (by omega) (fun q => h17 ((nI_eq hq17 (by decide)).mp q))
      refine ⟨s3, e3, ?_, hs2.tr m3⟩
      simp only [List.length_append, List.length_cons, List.length_nil, List.append_assoc, List.cons_append, List.nil_append] at k3
      exact k3
/-- cut(slot): the tokens of the text there -/
theorem pM_cut {N k : Nat} {s : jS} {t : List Int32} (h : TxM s k t) (hN : 200 ≤ N) : ∃ s', fM_cut N (nI k) s = some (0, s') ∧ TkM s' (qToks t 61 0) ∧ jSm [5] [15, 16, 17] s s' := by
  unfold fM_cut
  rw [jL_e]
  have hl := h.2.2.1
  have hs : jSm [5] [15, 16, 17] s (jsI s 5 0) := jSm.rf.sI (by decide)
  have h0 : TkM (jsI s 5 0) [] := ⟨rfl, fun i hi => by simp at hi⟩
  generalize jsI s 5 0 = s1 at hs h0 ⊢
  obtain ⟨s', e1, k1, m1⟩ := pM_cutL hN N [] 0 0 s1 (h.sm hs (by decide) (by decide)) h0 (Nat.zero_le _) (Nat.zero_le _) (by omega) (by decide)
  exact ⟨s', e1, k1, hs.tr m1⟩
