/-! the reference's tasks by their numbers; an expected token -/
section MX
variable {tk : List (Nat × Nat × Nat)} {N k : Nat} {F G : Sg → List Nd × Sg} {C D : Sg → Nat} {P Q : Sg → Prop} {p : jS → Option (Int32 × jS)} {w u w1 w2 u1 u2 : Nat}
theorem pf_2 {a b c : Int32} {s : jS} : fM_perform N a (nI 2) b c s = jB (fM_list N a b c s) fun _ s1 => some (0, s1) := by
  unfold fM_perform
  rw [if_neg (by decide), if_neg (by decide), if_pos (by decide)]
theorem pf_3 {a b c : Int32} {s : jS} : fM_perform N a (nI 3) b c s = jB (fM_statement N b s) fun _ s1 => some (0, s1) := by
  unfold fM_perform
  rw [if_neg (by decide), if_neg (by decide), if_neg (by decide), if_pos (by decide)]
theorem pf_4 {a b c : Int32} {s : jS} : fM_perform N a (nI 4) b c s = jB (fM_expect N b s) fun _ s1 => some (0, s1) := by
  unfold fM_perform
  rw [if_neg (by decide), if_neg (by decide), if_neg (by decide), if_neg (by decide), if_pos (by decide)]
theorem pf_5 {a b c : Int32} {s : jS} : fM_perform N a (nI 5) b c s = jB (fM_other N b s) fun _ s1 => some (0, s1) := by
  unfold fM_perform
  rw [if_neg (by decide), if_neg (by decide), if_neg (by decide), if_neg (by decide), if_neg (by decide), if_pos (by decide)]
theorem pf_6 {a b c : Int32} {s : jS} : fM_perform N a (nI 6) b c s = jB (fM_part N b s) fun _ s1 => some (0, s1) := by
  unfold fM_perform
  rw [if_neg (by decide), if_neg (by decide), if_neg (by decide), if_neg (by decide), if_neg (by decide), if_neg (by decide), if_pos (by decide)]
theorem pf_7 {a b c : Int32} {s : jS} : fM_perform N a (nI 7) b c s = jB (fM_add N (8 : Int32) b (jgI s 9) s) fun _ s1 => jB (fM_add N (9 : Int32) b (0 : Int32) s1) fun _ s2 => some (0, s2) := by
  unfold fM_perform
  rw [if_neg (by decide), if_neg (by decide), if_neg (by decide), if_neg (by decide), if_neg (by decide), if_neg (by decide), if_neg (by decide), if_pos (by decide)]
theorem pf_8 {a b c : Int32} {s : jS} : fM_perform N a (nI 8) b c s = jB (fM_more N b c s) fun _ s1 => some (0, s1) := by
  unfold fM_perform
  rw [if_neg (by decide), if_neg (by decide), if_neg (by decide), if_neg (by decide), if_neg (by decide), if_neg (by decide), if_neg (by decide), if_neg (by decide), if_pos (by decide)]
theorem pf_9 {a b c : Int32} {s : jS} : fM_perform N a (nI 9) b c s = jB (fM_operand N b s) fun _ s1 => some (0, s1) := by
  unfold fM_perform
  rw [if_neg (by decide), if_neg (by decide), if_neg (by decide), if_neg (by decide), if_neg (by decide), if_neg (by decide), if_neg (by decide), if_neg (by decide), if_neg (by decide)]
theorem CpM.fin (hp : CpM tk N k p F C P w u) : CpM tk N k (fun s => jB (p s) fun _ s1 => some (0, s1)) F C P w u := by
  intro s g m h X hP hg hi hm hl
  obtain ⟨s0, e0, po⟩ := hp s g m h X hP hg hi hm hl
  exact ⟨s0, by show jB (p s) _ = _; rw [e0, jB_s], po⟩
theorem CpM.cur (hT : TkA tk) {b : Int32 → jS → Option (Int32 × jS)} (hb : ∀ x, x ≤ 17 → CpM tk N k (fun s => b (nI x) s) F C (fun g => P g ∧ qK tk g.1 = x) w u) : CpM tk N k (fun s => jB (fM_current N s) fun r s1 => b r s1) F C P w u := by
  intro s g m h X hP hg hi hm hl
  obtain ⟨s0, e0, po⟩ := hb (qK tk g.1) (hT.2.1.2.2.2.2 g.1).1 s g m h X ⟨hP, rfl⟩ hg hi hm hl
  refine ⟨s0, ?_, po⟩
  show jB (fM_current N s) _ = _
  rw [pM_cur hi.1 hT.2.1 hi.2.1 hg, jB_s]
  exact e0
theorem CpM.beg (hT : TkA tk) {b : Int32 → jS → Option (Int32 × jS)} {r : Nat} (hr : r ≤ 6) (h1 : CpM tk N k (fun s => b 1 s) F C (fun g => P g ∧ qBeg tk r g = true) w u) (h0 : CpM tk N k (fun s => b 0 s) F C (fun g => P g ∧ ¬ qBeg tk r g = true) w u) : CpM tk N k (fun s => jB (fM_begins N (nI (6 - r)) s) fun r s1 => b r s1) F C P w u := by
  intro s g m h X hP hg hi hm hl
  by_cases hb : qBeg tk r g = true
  · obtain ⟨s0, e0, po⟩ := h1 s g m h X ⟨hP, hb⟩ hg hi hm hl
    refine ⟨s0, ?_, po⟩
    show jB (fM_begins N (nI (6 - r)) s) _ = _
    rw [pM_begins hr hi.1 hT.2.1 hi.2.1 hg, jB_s, if_pos hb]
    exact e0
  · obtain ⟨s0, e0, po⟩ := h0 s g m h X ⟨hP, hb⟩ hg hi hm hl
    refine ⟨s0, ?_, po⟩
    show jB (fM_begins N (nI (6 - r)) s) _ = _
    rw [pM_begins hr hi.1 hT.2.1 hi.2.1 hg, jB_s, if_neg hb]
    exact e0
theorem ck_exp {kd : Nat} (hT : TkA tk) (hk : kd ≤ 16) : CkM tk N k (4, kd, 0) (qExp tk kd) (fun _ => 1) (fun _ => True) 1 7 := by
  refine CpM.task (t := (4, kd, 0)) ?_ (Nat.le_refl _)
  refine (CpM.fin (CpM.cur (b := fun r1 s1 => (if r1 = nI kd then (jB (fM_take N s1) fun r4 s4 => some (0, s4)) else (jB (fM_lack N (nI kd) (2 : Int32) s1) fun r3 s3 => some (0, s3)))) hT (P := fun _ => True) (F := qExp tk kd) (C := fun _ => 1) (w := 1) (u := 8) (fun x hx => ?_))).of (fun s => pf_4) (fun _ _ => rfl) (fun _ _ => rfl)
  by_cases hxk : x = kd
  · subst hxk
    exact ((cp_take (N := N) (k := k) hT).fin.wk (Q := fun g => True ∧ qK tk g.1 = x) (fun g hg => by omega) (by decide) (by decide)).of (fun s => if_pos rfl) (fun g hg => by unfold qExp; rw [if_pos hg.2]) (fun _ _ => rfl)
  · exact ((cp_lack (tk := tk) (N := N) (k := k) (f := 2) hk (Or.inl rfl)).fin.wk (Q := fun g => True ∧ qK tk g.1 = x) (fun g hg => trivial) (by decide) (by decide)).of (fun s => if_neg (fun z => hxk ((nI_eq (by omega) (by omega)).mp z))) (fun g hg => by unfold qExp; rw [if_neg (by omega)]) (fun _ _ => rfl)
end MX
