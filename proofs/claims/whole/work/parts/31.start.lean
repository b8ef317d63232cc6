/-! the start: what the Statement gives, the two constructors, then the loop -/
def jx0 : jS := (fun _ => 0, fun a j => if a = 4 then nI j else 0)
theorem va_at_refs {D : va_G} {cl : List vw_C} {a n : Nat} {cA : ClassId} {f g : Nat → Option Nat} {H : Heap} (h : ∀ j, j < n → f j = g j) (hv : va_at D cl (a, .inl (cA, n, .inr (.inr (.inr (.inr f))))) H) : va_at D cl (a, .inl (cA, n, .inr (.inr (.inr (.inr g))))) H := by
  have e : vp_cell cA (n, .inr (.inr (.inr (.inr f)))) = vp_cell cA (n, .inr (.inr (.inr (.inr g)))) := by
    rw [vp_cell_q, vp_cell_q]
    unfold arrV
    congr 1
    apply congrArg
    funext j
    show va_rf (f j.val) = va_rf (g j.val)
    rw [h j.val j.isLt]
  show H[a]? = some (vp_cell cA (n, .inr (.inr (.inr (.inr g)))))
  rw [← e]
  exact hv
theorem jcx_at {D : va_G} {cl : List vw_C} {A : Nat → Prop} {H0 H : Heap} {w : va_W} {locs : List Loc} {k a : Nat} {e0 e1 : va_E} (hC : jcx D cl A H0 w H locs) (hp : w[k]? = some (a, e0)) (f : va_at D cl (a, e0) H → va_at D cl (a, e1) H) : jcx D cl A H0 (w.set k (a, e1)) H locs := ⟨hC.1.set hC.2.1 hp (f (hC.1 k _ hp)) (fun _ _ => rfl), hC.2.1.set hp, hC.2.2⟩
theorem jArr {s : State} {args : Array Value} {ty : FieldType} (h : (Cond.arrayClass ty).before args s = true) : ∃ cA, ArrOfT s cA ty ∧ s.vm.findClass ("[" ++ ty.toString) = some cA := by
  obtain ⟨cA, kA, comp, h1, h2, h3⟩ := Cond.arrayClass_spec h
  exact ⟨cA, fun n z => ⟨fun k h => (by cases h), kA, h2, comp, h3⟩, h1⟩
theorem jArrO {s : State} {args : Array Value} {C : String} (h : (Cond.arrayOver (.object C)).before args s = true) : ∃ cA, ArrOfT s cA (.object C) ∧ va_RA s cA (.object C) := by
  obtain ⟨comp, cA, kA, h1, h2, h3, h4, h5⟩ := Cond.arrayOver_spec h
  exact ⟨cA, fun n z => ⟨fun k h => (by cases h), kA, h3, comp, h4⟩, kA, comp, h3, h4, h1, h5⟩
set_option maxRecDepth 100000 in
theorem jEn_start {s : State} {b : Nat} (htb : ∀ w ∈ lw_tbl, w.before #[Value.ref b] s = true) (hgv : (Jvm.Cond.and given_1 narrow_1).before #[Value.ref b] s = true) : ∃ sk sv : Nat → Nat, jEn sk sv (fun q => s.heap.size ≤ q) s s.heap := by
  have hs := flat_of_before _ hgv
  have h1 : ∀ w ∈ tables_1, w.before #[Value.ref b] s = true := fun w h => htb w (List.mem_append_right _ h)
  have hA0 : ∀ a : Nat, a < s.heap.size → ¬ (fun q => s.heap.size ≤ q) a := fun a h q => absurd h (Nat.not_lt.mpr q)
  have h1N : ∀ i : Nat, i < 4 → lenJ.getD i 0 < 2 ^ 31 := by
    intro i hi
    rcases (show i = 0 ∨ i = 1 ∨ i = 2 ∨ i = 3 by omega) with rfl | rfl | rfl | rfl <;> decide
  have h2N : ∀ i : Nat, i < 4 → (Cond.exactly ((fun i => Term.string "SharedSyntax$Tokens" (([63, 69, 71, 83] : List Nat).getD i 0)) i) "java/lang/String").before #[Value.ref b] s = true := by
    intro i hi
    rcases (show i = 0 ∨ i = 1 ∨ i = 2 ∨ i = 3 by omega) with rfl | rfl | rfl | rfl
    · exact hs _ (by decide +kernel)
    · exact hs _ (by decide +kernel)
    · exact hs _ (by decide +kernel)
    · exact hs _ (by decide +kernel)
  have h3N : ∀ i : Nat, i < 4 → (Cond.eq (.field ((fun i => Term.string "SharedSyntax$Tokens" (([63, 69, 71, 83] : List Nat).getD i 0)) i) "java/lang/String" "coder" "B") (.int 0)).before #[Value.ref b] s = true := by
    intro i hi
    rcases (show i = 0 ∨ i = 1 ∨ i = 2 ∨ i = 3 by omega) with rfl | rfl | rfl | rfl
    · exact hs _ (by decide +kernel)
    · exact hs _ (by decide +kernel)
    · exact hs _ (by decide +kernel)
    · exact hs _ (by decide +kernel)
  have h4N : ∀ i : Nat, i < 4 → (Cond.arrayOf (.field ((fun i => Term.string "SharedSyntax$Tokens" (([63, 69, 71, 83] : List Nat).getD i 0)) i) "java/lang/String" "value" "[B") .byte).before #[Value.ref b] s = true := by
    intro i hi
    rcases (show i = 0 ∨ i = 1 ∨ i = 2 ∨ i = 3 by omega) with rfl | rfl | rfl | rfl
    · exact hs _ (by decide +kernel)
    · exact hs _ (by decide +kernel)
    · exact hs _ (by decide +kernel)
    · exact hs _ (by decide +kernel)
  have h5N : ∀ i : Nat, i < 4 → (Cond.eq (.length (.field ((fun i => Term.string "SharedSyntax$Tokens" (([63, 69, 71, 83] : List Nat).getD i 0)) i) "java/lang/String" "value" "[B")) (.int (Int32.ofNat (lenJ.getD i 0)))).before #[Value.ref b] s = true := by
    intro i hi
    rcases (show i = 0 ∨ i = 1 ∨ i = 2 ∨ i = 3 by omega) with rfl | rfl | rfl | rfl
    · exact hs _ (by decide +kernel)
    · exact hs _ (by decide +kernel)
    · exact hs _ (by decide +kernel)
    · exact hs _ (by decide +kernel)
  have h6N : ∀ i : Nat, i < 4 → ∀ j : Nat, j < lenJ.getD i 0 → (Cond.eq (.elem (.field ((fun i => Term.string "SharedSyntax$Tokens" (([63, 69, 71, 83] : List Nat).getD i 0)) i) "java/lang/String" "value" "[B") (.int (Int32.ofNat j))) (.int ((bytJ.getD i []).getD j 0))).before #[Value.ref b] s = true := by
    intro i hi j hj
    rcases (show i = 0 ∨ i = 1 ∨ i = 2 ∨ i = 3 by omega) with rfl | rfl | rfl | rfl
    · have hj : j < 2 := hj
      rcases (show j = 0 ∨ j = 1 by omega) with rfl | rfl
      · exact hs _ (by decide +kernel)
      · exact hs _ (by decide +kernel)
    · have hj : j < 4 := hj
      rcases (show j = 0 ∨ j = 1 ∨ j = 2 ∨ j = 3 by omega) with rfl | rfl | rfl | rfl
      · exact hs _ (by decide +kernel)
      · exact hs _ (by decide +kernel)
      · exact hs _ (by decide +kernel)
      · exact hs _ (by decide +kernel)
    · have hj : j < 5 := hj
      rcases (show j = 0 ∨ j = 1 ∨ j = 2 ∨ j = 3 ∨ j = 4 by omega) with rfl | rfl | rfl | rfl | rfl
      · exact hs _ (by decide +kernel)
      · exact hs _ (by decide +kernel)
      · exact hs _ (by decide +kernel)
      · exact hs _ (by decide +kernel)
      · exact hs _ (by decide +kernel)
    · have hj : j < 10 := hj
      rcases (show j = 0 ∨ j = 1 ∨ j = 2 ∨ j = 3 ∨ j = 4 ∨ j = 5 ∨ j = 6 ∨ j = 7 ∨ j = 8 ∨ j = 9 by omega) with rfl | rfl | rfl | rfl | rfl | rfl | rfl | rfl | rfl | rfl
      · exact hs _ (by decide +kernel)
      · exact hs _ (by decide +kernel)
      · exact hs _ (by decide +kernel)
      · exact hs _ (by decide +kernel)
      · exact hs _ (by decide +kernel)
      · exact hs _ (by decide +kernel)
      · exact hs _ (by decide +kernel)
      · exact hs _ (by decide +kernel)
      · exact hs _ (by decide +kernel)
      · exact hs _ (by decide +kernel)
  have h7N : ∀ i j : Nat, i < 4 → j < 4 → i ≠ j → (Cond.not (Cond.eq ((fun i => Term.string "SharedSyntax$Tokens" (([63, 69, 71, 83] : List Nat).getD i 0)) i) ((fun i => Term.string "SharedSyntax$Tokens" (([63, 69, 71, 83] : List Nat).getD i 0)) j))).before #[Value.ref b] s = true ∨ (Cond.not (Cond.eq ((fun i => Term.string "SharedSyntax$Tokens" (([63, 69, 71, 83] : List Nat).getD i 0)) j) ((fun i => Term.string "SharedSyntax$Tokens" (([63, 69, 71, 83] : List Nat).getD i 0)) i))).before #[Value.ref b] s = true := by
    intro i j hi hj hne
    rcases (show i = 0 ∨ i = 1 ∨ i = 2 ∨ i = 3 by omega) with rfl | rfl | rfl | rfl
    · rcases (show j = 0 ∨ j = 1 ∨ j = 2 ∨ j = 3 by omega) with rfl | rfl | rfl | rfl
      · exact absurd rfl hne
      · exact Or.inl (hs _ (by decide +kernel))
      · exact Or.inl (hs _ (by decide +kernel))
      · exact Or.inl (hs _ (by decide +kernel))
    · rcases (show j = 0 ∨ j = 1 ∨ j = 2 ∨ j = 3 by omega) with rfl | rfl | rfl | rfl
      · exact Or.inr (hs _ (by decide +kernel))
      · exact absurd rfl hne
      · exact Or.inl (hs _ (by decide +kernel))
      · exact Or.inl (hs _ (by decide +kernel))
    · rcases (show j = 0 ∨ j = 1 ∨ j = 2 ∨ j = 3 by omega) with rfl | rfl | rfl | rfl
      · exact Or.inr (hs _ (by decide +kernel))
      · exact Or.inr (hs _ (by decide +kernel))
      · exact absurd rfl hne
      · exact Or.inl (hs _ (by decide +kernel))
    · rcases (show j = 0 ∨ j = 1 ∨ j = 2 ∨ j = 3 by omega) with rfl | rfl | rfl | rfl
      · exact Or.inr (hs _ (by decide +kernel))
      · exact Or.inr (hs _ (by decide +kernel))
      · exact Or.inr (hs _ (by decide +kernel))
      · exact absurd rfl hne
  obtain ⟨sk, sv, hS, hR⟩ := vk_Sof (args := #[Value.ref b]) (s := s) (N := 4) (tm := (fun i => Term.string "SharedSyntax$Tokens" (([63, 69, 71, 83] : List Nat).getD i 0))) (len := lenJ) (byt := bytJ) (A := fun q => s.heap.size ≤ q) h1N h2N h3N h4N h5N h6N h7N hA0
  exact ⟨sk, sv, List.forall_mem_cons.mpr ⟨va_Nw.of rfl (h1 _ tw33), List.forall_mem_cons.mpr ⟨va_Nw.of rfl (h1 _ tw34), List.forall_mem_cons.mpr ⟨va_Nw.of rfl (h1 _ tw35), List.forall_mem_cons.mpr ⟨va_Nw.of rfl (h1 _ tw54), List.forall_mem_cons.mpr ⟨va_Nw.of rfl (h1 _ tw56), List.forall_mem_cons.mpr ⟨va_Nw.of rfl (h1 _ tw58), List.forall_mem_cons.mpr ⟨va_Nw.of rfl (h1 _ tw62), List.forall_mem_cons.mpr ⟨va_Nw.of rfl (h1 _ tw64), List.forall_mem_cons.mpr ⟨va_Nw.of rfl (h1 _ tw65), List.forall_mem_cons.mpr ⟨va_Nw.of rfl (h1 _ tw67), List.forall_mem_cons.mpr ⟨va_Nw.of rfl (h1 _ tw113), List.forall_mem_cons.mpr ⟨va_Nw.of rfl (h1 _ tw115), List.forall_mem_cons.mpr ⟨va_Nw.of rfl (h1 _ tw453), fun _ h => absurd h List.not_mem_nil⟩⟩⟩⟩⟩⟩⟩⟩⟩⟩⟩⟩⟩, hS, ⟨vk_R.of (h1 _ tw183) (hR 0 (by decide)), vk_R.of (h1 _ tw236) (hR 1 (by decide)), vk_R.of (h1 _ tw237) (hR 2 (by decide)), vk_R.of (h1 _ tw241) (hR 3 (by decide))⟩, va_Zof (h1 _ (List.mem_of_getElem? (i := 197) (by decide +kernel))) (h1 _ (List.mem_of_getElem? (i := 6) (by decide +kernel))) (va_eqi (hs (Cond.eq (.static "java/lang/String" "COMPACT_STRINGS" "Z") (.int 1)) (by decide +kernel))) hA0, va_Zqof (h1 _ (List.mem_of_getElem? (i := 213) (by decide +kernel))) (h1 _ (List.mem_of_getElem? (i := 8) (by decide +kernel))) (hs (Cond.isRef (.static "jdk/internal/util/Preconditions" "SIOOBE_FORMATTER" "Ljava/util/function/BiFunction;")) (by decide +kernel)) hA0, va_AO.moved (Vm.Alike.refl _) (va_AO.of (A := #[]) (h1 _ tw449))⟩
theorem jK_start {s : State} {b : Nat} (htb : ∀ w ∈ lw_tbl, w.before #[Value.ref b] s = true) : ∃ (dC : Nat → ClassId) (dI : Nat → Nat → Nat) (cI cC cL : ClassId), va_K (dC, dI) vwCl [(cI, .int), (cC, .char), (cL, .object "SharedSyntax$Letters")] s := by
  have ht : ∀ w ∈ TB, w.before #[Value.ref b] s = true := fun w h => htb w (List.mem_filter.mp h).1
  obtain ⟨c0, i0, k0⟩ := u_known (ws := TB) (C := RcL) (T := TcL) (N := 2) ht in_cL (ht _ tw26)
  obtain ⟨c1, i1, k1⟩ := u_known (ws := TB) (C := RcK) (T := TcK) (N := 6) ht in_cK (ht _ tw88)
  obtain ⟨c2, i2, k2⟩ := u_known (ws := TB) (C := RcT) (T := TcT) (N := 9) ht in_cT (ht _ tw47)
  obtain ⟨c3, i3, k3⟩ := u_known (ws := TB) (C := RcR) (T := TcR) (N := 10) ht in_cR (ht _ tw24)
  obtain ⟨c4, i4, k4⟩ := u_known (ws := TB) (C := RcH) (T := TcH) (N := 2) ht in_cH (ht _ tw443)
  obtain ⟨c5, i5, k5⟩ := u_known (ws := TB) (C := RcX) (T := TcX) (N := 6) ht in_cX (ht _ tw16)
  obtain ⟨c6, i6, k6⟩ := u_known (ws := TB) (C := RcM) (T := TcM) (N := 43) ht in_cM (ht _ tw649)
  obtain ⟨cI, hI1, hI2⟩ := jArr (ht _ tw41)
  obtain ⟨cC, hC1, hC2⟩ := jArr (ht _ tw890)
  obtain ⟨cL, hL1, hL2⟩ := jArrO (htb _ (List.mem_append_right _ tw449))
  refine ⟨fun k => ([c0, c1, c2, c3, c4, c5, c6] : List ClassId).getD k c0, fun k => ([i0, i1, i2, i3, i4, i5, i6] : List (Nat → Nat)).getD k i0, cI, cC, cL, fun k q hq => ?_, fun k q hq => ?_⟩
  · match k, hq with
    | 0, hq => cases hq; exact k0
    | 1, hq => cases hq; exact k1
    | 2, hq => cases hq; exact k2
    | 3, hq => cases hq; exact k3
    | 4, hq => cases hq; exact k4
    | 5, hq => cases hq; exact k5
    | 6, hq => cases hq; exact k6
    | k + 7, hq => simp [vwCl] at hq
  · match k, hq with
    | 0, hq => cases hq; exact ⟨hI1, hI2⟩
    | 1, hq => cases hq; exact ⟨hC1, hC2⟩
    | 2, hq => cases hq; exact ⟨hL1, hL2⟩
    | k + 3, hq => simp at hq
set_option maxHeartbeats 16000000 in
set_option maxRecDepth 100000 in
theorem start_of {p : Program} {e : Env} {s : State} {m : MethodId} {below : List Frame} {meth : Method} {c : Code} (l : Launch) {b L : Nat} {xs : Nat → Int32} (hL : L ≤ 1536) (C0 : lw_At p s m meth c b L xs) (N : Nat) (Inv : jX → jS → Prop) (hSt : PStep N Inv) (zc zm : jS) (r0 r1 : Int32) (hfc : fR_read N jz = some (r0, zc)) (hfm : fM_parse N 0 jz = some (r1, zm)) (hI : Inv (jx0, zc, jz) zm) : W p l e room_1 s m #[Value.ref b] below meth c s.heap [] 0 0 (lw_Z below #[Value.ref b] s) (entryFrame m ([Value.ref b] : List Value).toArray 4) := by
  obtain ⟨hx, hb, hr, hml, hown, htb, hX, hbl, hlk, hgv⟩ := C0
  have ht : ∀ w ∈ TB, w.before #[Value.ref b] s = true := fun w h => htb w (List.mem_filter.mp h).1
  have hts : ∀ w ∈ Cond.initialized "SharedSyntaxLaw" :: TB, w.before #[Value.ref b] s = true := fun w h => (List.mem_cons.mp h).elim (fun q => by rw [q]; exact ht _ tw0) (fun q => ht w q)
  obtain ⟨dC, dI, cI, cC, cL, hK⟩ := jK_start htb
  obtain ⟨sk, sv, hN⟩ := jEn_start htb hgv
  have hA : ∀ q, s.heap.size ≤ q → (fun q => s.heap.size ≤ q) q := fun q h => h
  have hl := lv_entry ([Value.ref b]) (n := 4) (Nat.le_of_ble_eq_true rfl)
  rw [lg_entry_eq]
  generalize (lg_sl ([Value.ref b]) ++ List.replicate (4 - (lg_sl ([Value.ref b])).length) Slot.unset).toArray = ls at hl ⊢
  have hl : lv_has ls 4 [(0, .ref b)] := hl
  have hC : jcx (dC, dI) vwCl (fun q => s.heap.size ≤ q) s.heap [] s.heap [] := ⟨fun k q h => by simp at h, ⟨fun i j p q h => by simp at h, fun k q h => by simp at h⟩, va_S.rf⟩
  refine va_new (ci := 5) (fs := [.null, .null, .null, .null, .int 0, .int 0]) (C := RcX) (T := TcX) (N := 6) hx hb ht in_cX tycX tycX_ok hown (ht _ tw15) (ht _ tw16) (ht _ tw1) hK hC.1 hC.2.1 hC.2.2 hA rfl (kd_X) (by show _ ≤ 600000; omega) (by show _ ≤ 7302250; omega) dLw_0 (fun x0 H hP hD hS => ?_)
  have hC : jcx (dC, dI) vwCl (fun q => s.heap.size ≤ q) s.heap [(x0, .inr (5, [.null, .null, .null, .null, .int 0, .int 0]))] H _ := ⟨hP, hD, hS⟩
  refine lv_dup hx hb dLw_3 rfl ?_
  have hCc : jcx (dC, dI) vwCl (fun q => s.heap.size ≤ q) s.heap [(x0, .inr (5, [.null, .null, .null, .null, .int 0, .int 0]))] _ _ := ⟨hC.1.sub [0] rfl, hC.2.1.sub [0] rfl rfl, hC.2.2⟩
  refine jcall_k (isC := [0]) (isR := []) (wc := [(x0, .inr (5, [.null, .null, .null, .null, .int 0, .int 0]))]) (wr := []) rfl rfl rfl (by decide) (va_runI (As := []) (rest := [.ref x0]) ⟨hx, hb, hml, hown, hts⟩ (kX_init l dC dI cI cC cL sk sv x0 N zc r0 hfc _) ⟨(callB_of 0 hts (tb_good tw19) rfl rfl rfl (ht _ tw1) (ht _ tw17) (by decide +kernel) ⟨by decide, by decide⟩), rfl, ht _ tw18⟩ (jpreS (jEn_ok sk sv) hCc hA hK hN _) rfl rfl hl.1 rfl (lv_room (Nat.le_of_ble_eq_true rfl)) dLw_4 ⟨by decide, by decide⟩) hC hA (fun u H locs hB hC => ?_)
  obtain ⟨q1, q2, q3, q4, q5, q6, q7, q8, q9, q10, q11, q12, q13, q14, q15, q16, q17, q18, q19, q20, q21, q22, q23, q24, q25, q26, q27, q28, q29, q30, q31, q32, q33, q34, q35, q36, q37, q38, q39, q40, q41, q42, q43, q44, q45, q46, rfl⟩ := hB
  have hC : jcx (dC, dI) vwCl (fun q => s.heap.size ≤ q) s.heap [(x0, .inr (5, [.ref q37, .ref q39, .ref q1, .ref q19, .int 0, .int 0])), (q1, .inr (3, [.ref q2, .ref q4, .ref q11, .int (jgI zc 5), .ref q15, .ref q16, .int (jgI zc 6), .ref q17, .ref q18, .int (jgI zc 7)])), (q4, .inr (2, [.ref q2, .ref q5, .ref q6, .ref q7, .ref q8, .ref q9, .ref q10, .int (jgI zc 3), .int (jgI zc 4)])), (q11, .inr (1, [.ref q2, .ref q12, .ref q13, .ref q14, .int (jgI zc 1), .int (jgI zc 2)])), (q2, .inr (0, [.ref q3, .int (jgI zc 0)])), (q3, .inl (cI, 60, .inl (jgA zc 0))), (q12, .inl (cI, 61, .inl (jgA zc 1))), (q13, .inl (cI, 61, .inl (jgA zc 2))), (q14, .inl (cI, 61, .inl (jgA zc 3))), (q5, .inl (cI, 363, .inl (jgA zc 4))), (q6, .inl (cI, 363, .inl (jgA zc 5))), (q7, .inl (cI, 363, .inl (jgA zc 6))), (q8, .inl (cI, 363, .inl (jgA zc 7))), (q9, .inl (cI, 363, .inl (jgA zc 8))), (q10, .inl (cI, 180, .inl (jgA zc 9))), (q15, .inl (cI, 60, .inl (jgA zc 10))), (q16, .inl (cI, 60, .inl (jgA zc 11))), (q17, .inl (cI, 60, .inl (jgA zc 12))), (q18, .inl (cI, 60, .inl (jgA zc 13))), (q20, .inr (0, [.ref q21, .int 0])), (q21, .inl (cI, 60, .inl (fun _ => 0))), (q19, .inr (3, [.ref q20, .ref q22, .ref q29, .int 0, .ref q33, .ref q34, .int 0, .ref q35, .ref q36, .int 0])), (q22, .inr (2, [.ref q20, .ref q23, .ref q24, .ref q25, .ref q26, .ref q27, .ref q28, .int 0, .int 0])), (q23, .inl (cI, 363, .inl (fun _ => 0))), (q24, .inl (cI, 363, .inl (fun _ => 0))), (q25, .inl (cI, 363, .inl (fun _ => 0))), (q26, .inl (cI, 363, .inl (fun _ => 0))), (q27, .inl (cI, 363, .inl (fun _ => 0))), (q28, .inl (cI, 180, .inl (fun _ => 0))), (q29, .inr (1, [.ref q20, .ref q30, .ref q31, .ref q32, .int 0, .int 0])), (q30, .inl (cI, 61, .inl (fun _ => 0))), (q31, .inl (cI, 61, .inl (fun _ => 0))), (q32, .inl (cI, 61, .inl (fun _ => 0))), (q33, .inl (cI, 60, .inl (fun _ => 0))), (q34, .inl (cI, 60, .inl (fun _ => 0))), (q35, .inl (cI, 60, .inl (fun _ => 0))), (q36, .inl (cI, 60, .inl (fun _ => 0))), (q37, .inr (0, [.ref q38, .int 0])), (q38, .inl (cI, 20, .inl (fun _ => 0))), (q39, .inr (4, [.ref q40, .int 0])), (q40, .inl (cL, 3, .inr (.inr (.inr (.inr (va_up (va_up (va_up (fun _ => none) ((0 : Int32)).toNatClampNeg (some q41)) ((1 : Int32)).toNatClampNeg (some q43)) ((2 : Int32)).toNatClampNeg (some q45))))))), (q41, .inr (0, [.ref q42, .int 0])), (q42, .inl (cI, 60, .inl (fun _ => 0))), (q43, .inr (0, [.ref q44, .int 0])), (q44, .inl (cI, 60, .inl (fun _ => 0))), (q45, .inr (0, [.ref q46, .int 0])), (q46, .inl (cI, 60, .inl (fun _ => 0)))] H locs := hC
  have hC := jcx_at (k := 40) (a := q40) (e1 := .inl (cL, 3, .inr (.inr (.inr (.inr (fun j => some ((fun k => ([q41, q43, q45] : List Nat).getD k 0) (jgA jx0 4 j).toNatClampNeg))))))) hC rfl (va_at_refs (fun j hj => by rcases (show j = 0 ∨ j = 1 ∨ j = 2 by omega) with rfl | rfl | rfl <;> rfl))
  obtain ⟨adX, eX⟩ : ∃ f : Nat → Nat, f = (fun k => ([x0, q37, q38, q39, q40] : List Nat).getD k 0) := ⟨_, rfl⟩
  obtain ⟨bh, eb⟩ : ∃ f : Nat → Nat, f = (fun k => ([q41, q43, q45] : List Nat).getD k 0) := ⟨_, rfl⟩
  obtain ⟨ch, ec⟩ : ∃ f : Nat → Nat, f = (fun k => ([q42, q44, q46] : List Nat).getD k 0) := ⟨_, rfl⟩
  obtain ⟨adC, eC⟩ : ∃ f : Nat → Nat, f = (fun k => ([q1, q4, q11, q2, q3, q12, q13, q14, q5, q6, q7, q8, q9, q10, q15, q16, q17, q18] : List Nat).getD k 0) := ⟨_, rfl⟩
  obtain ⟨adS, eS⟩ : ∃ f : Nat → Nat, f = (fun k => ([q19, q22, q29, q20, q21, q30, q31, q32, q23, q24, q25, q26, q27, q28, q33, q34, q35, q36] : List Nat).getD k 0) := ⟨_, rfl⟩
  have hC : jcx (dC, dI) vwCl (fun q => s.heap.size ≤ q) s.heap (wX cI cC cL adX bh ch adC adS (jx0, zc, jz)) H locs := by
    subst eX eb ec eC eS
    exact ⟨hC.1.sub [0, 37, 38, 39, 40, 41, 42, 43, 44, 45, 46, 1, 2, 3, 4, 5, 6, 7, 8, 9, 10, 11, 12, 13, 14, 15, 16, 17, 18, 21, 22, 29, 19, 20, 30, 31, 32, 23, 24, 25, 26, 27, 28, 33, 34, 35, 36] rfl, hC.2.1.sub [0, 37, 38, 39, 40, 41, 42, 43, 44, 45, 46, 1, 2, 3, 4, 5, 6, 7, 8, 9, 10, 11, 12, 13, 14, 15, 16, 17, 18, 21, 22, 29, 19, 20, 30, 31, 32, 23, 24, 25, 26, 27, 28, 33, 34, 35, 36] rfl rfl, hC.2.2⟩
  have ex0 : x0 = adX 0 := by rw [eX]; rfl
  rw [ex0]
  clear eX eb ec eC eS ex0
  refine lv_astore_n (lv' := [(1, .ref (adX 0)), (0, .ref b)]) hx hb dLw_7 rfl hl (by decide) rfl (fun ls hl => ?_)
  refine va_new (ci := 6) (fs := [.int 0, .null, .null, .null, .null, .null, .null, .null, .null, .null, .null, .null, .null, .null, .null, .int 0, .int 0, .int 0, .null, .int 0, .int 0, .null, .null, .null, .int 0, .int 0, .int 0, .null, .null, .null, .null, .null, .null, .null, .null, .null, .null, .int 0, .null, .int 0, .null, .null, .null]) (C := RcM) (T := TcM) (N := 43) hx hb ht in_cM tycM tycM_ok hown (ht _ tw648) (ht _ tw649) (ht _ tw14) hK hC.1 hC.2.1 hC.2.2 hA rfl (kd_M) (by show _ ≤ 600000; omega) (by show _ ≤ 7302250; omega) dLw_8 (fun m0 H hP hD hS => ?_)
  have hC : jcx (dC, dI) vwCl (fun q => s.heap.size ≤ q) s.heap (wX cI cC cL adX bh ch adC adS (jx0, zc, jz) ++ [(m0, .inr (6, [.int 0, .null, .null, .null, .null, .null, .null, .null, .null, .null, .null, .null, .null, .null, .null, .int 0, .int 0, .int 0, .null, .int 0, .int 0, .null, .null, .null, .int 0, .int 0, .int 0, .null, .null, .null, .null, .null, .null, .null, .null, .null, .null, .int 0, .null, .int 0, .null, .null, .null]))]) H _ := ⟨hP, hD, hS⟩
  refine lv_dup hx hb dLw_11 rfl ?_
  have hCc : jcx (dC, dI) vwCl (fun q => s.heap.size ≤ q) s.heap [(m0, .inr (6, [.int 0, .null, .null, .null, .null, .null, .null, .null, .null, .null, .null, .null, .null, .null, .null, .int 0, .int 0, .int 0, .null, .int 0, .int 0, .null, .null, .null, .int 0, .int 0, .int 0, .null, .null, .null, .null, .null, .null, .null, .null, .null, .null, .int 0, .null, .int 0, .null, .null, .null]))] _ _ := ⟨hC.1.sub [47] rfl, hC.2.1.sub [47] rfl rfl, hC.2.2⟩
  refine jcall_k (isC := [47]) (isR := [0, 1, 2, 3, 4, 5, 6, 7, 8, 9, 10, 11, 12, 13, 14, 15, 16, 17, 18, 19, 20, 21, 22, 23, 24, 25, 26, 27, 28, 29, 30, 31, 32, 33, 34, 35, 36, 37, 38, 39, 40, 41, 42, 43, 44, 45, 46]) (wc := [(m0, .inr (6, [.int 0, .null, .null, .null, .null, .null, .null, .null, .null, .null, .null, .null, .null, .null, .null, .int 0, .int 0, .int 0, .null, .int 0, .int 0, .null, .null, .null, .int 0, .int 0, .int 0, .null, .null, .null, .null, .null, .null, .null, .null, .null, .null, .int 0, .null, .int 0, .null, .null, .null]))]) (wr := wX cI cC cL adX bh ch adC adS (jx0, zc, jz)) rfl rfl rfl (by decide) (va_runI (As := []) (rest := [.ref m0]) ⟨hx, hb, hml, hown, hts⟩ (kM_init l dC dI cI cC cL sk sv m0 N zm r1 hfm _) ⟨(callB_of 0 hts (tb_good tw652) rfl rfl rfl (ht _ tw14) (ht _ tw650) (by decide +kernel) ⟨by decide, by decide⟩), rfl, ht _ tw651⟩ (jpreS (jEn_ok sk sv) hCc hA hK hN _) rfl rfl hl.1 rfl (lv_room (Nat.le_of_ble_eq_true rfl)) dLw_12 ⟨by decide, by decide⟩) hC hA (fun u H locs hB hC => ?_)
  obtain ⟨p1, p2, p3, p4, p5, p6, p7, p8, p9, p10, p11, p12, p13, p14, p15, p16, p17, p18, p19, p20, p21, p22, p23, p24, p25, p26, p27, p28, p29, p30, p31, p32, rfl⟩ := hB
  obtain ⟨adM, eM⟩ : ∃ f : Nat → Nat, f = (fun k => ([m0, p1, p2, p3, p4, p5, p6, p7, p8, p9, p10, p11, p12, p13, p14, p15, p16, p17, p18, p19, p20, p21, p22, p23, p24, p25, p26, p27, p28, p29, p30, p31, p32] : List Nat).getD k 0) := ⟨_, rfl⟩
  have hC : jcx (dC, dI) vwCl (fun q => s.heap.size ≤ q) s.heap (wL cI cC cL adX bh ch adC adS adM (jx0, zc, jz) zm) H locs := by
    subst eM
    exact ⟨hC.1.sub [0, 1, 2, 3, 4, 5, 6, 7, 8, 9, 10, 11, 12, 13, 14, 15, 16, 17, 18, 19, 20, 21, 22, 23, 24, 25, 26, 27, 28, 29, 30, 31, 32, 33, 34, 35, 36, 37, 38, 39, 40, 41, 42, 43, 44, 45, 46, 47, 48, 49, 50, 51, 52, 53, 54, 55, 56, 57, 58, 59, 60, 61, 62, 63, 64, 65, 66, 67, 68, 69, 70, 71, 72, 73, 74, 75, 76, 77, 78, 79] rfl, hC.2.1.sub [0, 1, 2, 3, 4, 5, 6, 7, 8, 9, 10, 11, 12, 13, 14, 15, 16, 17, 18, 19, 20, 21, 22, 23, 24, 25, 26, 27, 28, 29, 30, 31, 32, 33, 34, 35, 36, 37, 38, 39, 40, 41, 42, 43, 44, 45, 46, 47, 48, 49, 50, 51, 52, 53, 54, 55, 56, 57, 58, 59, 60, 61, 62, 63, 64, 65, 66, 67, 68, 69, 70, 71, 72, 73, 74, 75, 76, 77, 78, 79] rfl rfl, hC.2.2⟩
  have em0 : m0 = adM 0 := by rw [eM]; rfl
  rw [em0]
  clear eM em0
  refine lv_astore_n (lv' := [(2, .ref (adM 0)), (1, .ref (adX 0)), (0, .ref b)]) hx hb dLw_15 rfl hl (by decide) rfl (fun ls hl => ?_)
  refine lv_iconst (v := 0) hx hb dLw_16 (by decide) ?_
  refine lv_istore_n (lv' := [(3, .int (nI 0)), (2, .ref (adM 0)), (1, .ref (adX 0)), (0, .ref b)]) hx hb dLw_17 rfl hl (by decide) rfl (fun ls hl => ?_)
  exact law_loop l dC dI cI cC cL sk sv adX bh ch adM N Inv _ _ (by decide) (by decide) hx hb hr hml hown hlk hts hX hbl hL hK hN hSt (L + 4) 0 adC adS (jx0, zc, jz) zm ls _ _ (by omega) (Nat.zero_le _) hl hC hI
