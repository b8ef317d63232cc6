/-! the reference's questions of a slot -/
theorem mks_le (f : Nat → Int32) : ∀ (n a : Nat), (mks f a n).length ≤ n
  | 0, _ => Nat.le_refl _
  | n + 1, a => by
    rw [mks, List.length_append]
    have := mks_le f n (a + 1)
    by_cases h : f a = 0
    · rw [if_pos h, List.length_nil]
      omega
    · rw [if_neg h, List.length_singleton]
      omega
section MQ2
variable {N k : Nat} {s : jS} {t : List Int32}
theorem ix4 (k i : Nat) : (400 : Int32) * nI k + nI i = nI (400 * k + i) := by rw [show (400 : Int32) = nI 400 from rfl, pk_mul, nI_add]
theorem ix6 (k i : Nat) : (61 : Int32) * nI k + nI i = nI (61 * k + i) := by rw [show (61 : Int32) = nI 61 from rfl, pk_mul, nI_add]
theorem ix60 (k i : Nat) : (60 : Int32) * nI k + nI i = nI (60 * k + i) := by rw [show (60 : Int32) = nI 60 from rfl, pk_mul, nI_add]
theorem mM_foL (hS : SlM s k t) (h0 : jgI s 0 = nI k) {i : Nat} (hi : i < (qTr t).length) : ∀ (n m p x : Nat), nT (ndA (qTr t) i) = p + m → m < n → fM_faultsOf_33 N n (nI (400 * k + i)) (nI x) (nI p) s = some (nI (x + (mks (mkM s k) p m).length), s) := by
  have hk := hS.1.1
  obtain ⟨f1, f2, f3, f4, f5, f6, f7, f8, f9⟩ := hS.tf
  have h6 := (hS.2.1.2 i hi).2.2.1
  have hT := (f5 i hi).2
  intro n
  induction n with
  | zero => intro m p x h1 h2; omega
  | succ n ih =>
    intro m p x hm hn
    show fM_faultsOf_b33 N (fM_faultsOf_33 N n) _ _ _ s = _
    unfold fM_faultsOf_b33
    rw [if_pos (jIn_nI (show 400 * k + i < 800 by omega) (by decide)), nI_clamp (show 400 * k + i < 2 ^ 31 by omega), h6]
    cases m with
    | zero =>
      rw [if_pos (nI_le (by omega) (by omega))]
      rfl
    | succ m =>
      have hv := f9 p (by omega)
      rw [if_neg (nI_ge (by omega) (by omega)), h0, ix6, if_pos (jIn_nI (show 61 * k + p < 122 by omega) (by decide)), nI_clamp (show 61 * k + p < 2 ^ 31 by omega)]
      rw [mks]
      have hr : ∀ x', fM_faultsOf_33 N n (nI (400 * k + i)) (nI x') (nI p + 1) s = some (nI (x' + (mks (mkM s k) (p + 1) m).length), s) := fun x' => by rw [nI_1]; exact ih m (p + 1) x' (by omega) (by omega)
      have hmk : jgA s 2 (61 * k + p) = mkM s k p := rfl
      rw [hmk, nI_1 x, Int32.add_zero, hr, hr]
      rcases hv with hv | hv | hv
      · rw [hv, if_pos (by decide), if_pos rfl]
        rfl
      · rw [hv, if_neg (by decide), if_neg (by decide), List.length_append, List.length_singleton]
        exact congrArg (fun z => some (nI z, s)) (by omega)
      · rw [hv, if_neg (by decide), if_neg (by decide), List.length_append, List.length_singleton]
        exact congrArg (fun z => some (nI z, s)) (by omega)
theorem mM_fo (hS : SlM s k t) (h0 : jgI s 0 = nI k) (hN : 1000 ≤ N) {i : Nat} (hi : i < (qTr t).length) : fM_faultsOf N (nI (400 * k + i)) s = some (nI (nL (ndA (qTr t) i)).length, s) := by
  have hk := hS.1.1
  obtain ⟨f1, f2, f3, f4, f5, f6, f7, f8, f9⟩ := hS.tf
  obtain ⟨w4, w5, w6, w7, w8, w9, w10, w11⟩ := hS.2.1.2 i hi
  obtain ⟨⟨n1, n2, n3, n4, _⟩, n5⟩ := f5 i hi
  have hb := nC_b hS.tf hi _ (Nat.le_refl _)
  unfold fM_faultsOf
  rw [if_pos (jIn_nI (show 400 * k + i < 800 by omega) (by decide)), nI_clamp (show 400 * k + i < 2 ^ 31 by omega), w9, w8, w5]
  rcases n4 with n4 | n4
  · rw [n4.2.2.2.2.2.1, if_pos (by decide), if_pos (jIn_nI (show 400 * k + i < 800 by omega) (by decide))]
    rcases n4.2.2.2.2.2.2 with q | q
    · rw [q.1, if_pos (by decide), if_pos (jIn_nI (show 400 * k + i < 800 by omega) (by decide)), q.2.1]
      have := mM_foL (N := N) hS h0 hi N (nT (ndA (qTr t) i) - nF (ndA (qTr t) i)) (nF (ndA (qTr t) i)) 0 (by omega) (by omega)
      rw [Nat.zero_add] at this
      exact this
    · rw [if_neg (nI_nle (by have := q.1; omega) (by have := q.1; omega)), if_pos (jIn_nI (show 400 * k + i < 800 by omega) (by decide)), q.2.2.2]
      exact mM_foL (N := N) hS h0 hi N 0 (nF (ndA (qTr t) i)) 1 (by have := q.2.1; omega) (by omega)
  · rw [if_neg (nI_nle (by omega) (by omega)), n4.2.2.2.2.2.1]
    rfl
theorem mM_n7 (hS : SlM s k t) (h0 : jgI s 0 = nI k) (hN : 1000 ≤ N) {i : Nat} (hi : i < (qTr t).length) : ∀ (n m q : Nat), nZ (ndA (qTr t) i) = q + m → m < n → fM_node_27 N n 7 (nI (400 * k + i)) (nI (fB (qTr t) (i + q) - fB (qTr t) i)) (nI q) s = some (nI (fB (qTr t) (i + nZ (ndA (qTr t) i)) - fB (qTr t) i), s) := by
  have hk := hS.1.1
  obtain ⟨f1, f2, f3, f4, f5, f6, f7, f8, f9⟩ := hS.tf
  have w11 := (hS.2.1.2 i hi).2.2.2.2.2.2.2
  have n1 := (f5 i hi).1.1
  intro n
  induction n with
  | zero => intro m q h1 h2; omega
  | succ n ih =>
    intro m q hm hn
    show fM_node_b27 N (fM_node_27 N n) _ _ _ _ s = _
    unfold fM_node_b27
    rw [if_pos (jIn_nI (show 400 * k + i < 800 by omega) (by decide)), nI_clamp (show 400 * k + i < 2 ^ 31 by omega), w11]
    cases m with
    | zero =>
      rw [if_pos (nI_le (by omega) (by omega)), show q = nZ (ndA (qTr t) i) by omega]
      unfold fM_node_63
      rw [if_neg (by decide), if_neg (by decide), if_neg (by decide), if_neg (by decide), if_neg (by decide), if_neg (by decide), if_neg (by decide), if_pos rfl]
    | succ m =>
      rw [if_neg (nI_ge (by omega) (by omega)), if_pos rfl, nI_add, Nat.add_assoc, mM_fo hS h0 hN (show i + q < (qTr t).length by omega), jB_s, nI_add, nI_1]
      have hs := fB_s (qTr t) (show i + q < (qTr t).length by omega)
      have hle := fB_le (qTr t) (show i ≤ i + q by omega)
      rw [show fB (qTr t) (i + q) - fB (qTr t) i + (nL (ndA (qTr t) (i + q))).length = fB (qTr t) (i + (q + 1)) - fB (qTr t) i by rw [← Nat.add_assoc, hs]; omega]
      exact ih m (q + 1) (by omega) (by omega)
theorem mM_chL (hS : SlM s k t) (h0 : jgI s 0 = nI k) {i : Nat} (hi : i < (qTr t).length) {x : Nat} (hx : x < nC (ndA (qTr t) i)) : ∀ (n c : Nat), x < c + n → c ≤ x → fM_child_40 N n (nI x) (nI (hop (qTr t) (i + 1) c)) (nI c) s = some (nI (hop (qTr t) (i + 1) x), s) := by
  have hk := hS.1.1
  have hf := hS.tf
  have hl := hf.2.1
  have hb := nC_b hf hi _ (Nat.le_refl _)
  obtain ⟨⟨n1, n2, n3, n4, n5, n6, n7⟩, _⟩ := hf.2.2.2.2.1 i hi
  intro n
  induction n with
  | zero => intro c h1 h2; omega
  | succ n ih =>
    intro c h1 hc
    show fM_child_b40 N (fM_child_40 N n) _ _ _ s = _
    unfold fM_child_b40
    by_cases hq : c = x
    · subst hq
      rw [if_pos (Int32.le_refl _)]
    · have h6 := n6 c (by omega)
      rw [if_neg (nI_ge (show c < x by omega) (by omega)), h0, ix4, if_pos (jIn_nI (show 400 * k + hop (qTr t) (i + 1) c < 800 by omega) (by decide)), nI_clamp (show 400 * k + hop (qTr t) (i + 1) c < 2 ^ 31 by omega), (hS.2.1.2 (hop (qTr t) (i + 1) c) (by omega)).2.2.2.2.2.2.2, nI_add, nI_1, ← hop_e]
      exact ih (c + 1) (by omega) (by omega)
theorem leaf_C {f : Nat → Int32} (hf : TrF f t) {i : Nat} (hi : i < (qTr t).length) : nK (ndA (qTr t) i) < 20 ↔ nC (ndA (qTr t) i) = 0 := by
  obtain ⟨⟨n1, n2, n3, n4, _⟩, _⟩ := hf.2.2.2.2.1 i hi
  rcases n4 with n4 | n4
  · exact ⟨fun _ => n4.2.2.2.2.2.1, fun _ => n4.2.2.2.1⟩
  · exact ⟨fun h => by omega, fun h => by omega⟩
theorem nC_lt {f : Nat → Int32} (hf : TrF f t) {i : Nat} (hi : i < (qTr t).length) : nC (ndA (qTr t) i) < (qTr t).length := by
  have hb := nC_b hf hi _ (Nat.le_refl _)
  have := (hf.2.2.2.2.1 i hi).1.1
  omega
theorem mM_find (hS : SlM s k t) (h0 : jgI s 0 = nI k) {p : Nat} (hp : p ≤ 60) : ∀ (n m i : Nat), (qTr t).length = i + m → m < n → 1 ≤ m → bF (qTr t) t.length i ≤ p → fM_find_21 N n (nI p) (nI i) s = some (match qFi (qTr t) p m i with | none => nI ((qTr t).length - 1) | some x => nI x, s) := by
  have hk := hS.1.1
  have hf := hS.tf
  obtain ⟨f1, f2, f3, f4, f5, f6, f7, f8, f9⟩ := hf
  intro n
  induction n with
  | zero => intro m i h1 h2; omega
  | succ n ih =>
    intro m i hm hn hm1 hbp
    obtain ⟨m, rfl⟩ : ∃ m', m = m' + 1 := ⟨m - 1, by omega⟩
    have hi : i < (qTr t).length := by omega
    obtain ⟨w4, w5, w6, w7, w8, w9, w10, w11⟩ := hS.2.1.2 i hi
    obtain ⟨⟨n1, n2, n3, n4, _⟩, n5⟩ := f5 i hi
    have hcl := nC_lt hS.tf hi
    have hkl := nK_le hS.tf hi
    have hlc := leaf_C hS.tf hi
    rw [bF_i hi] at hbp
    show fM_find_b21 N (fM_find_21 N n) _ _ s = _
    unfold fM_find_b21
    rw [h0, if_pos (jIn_nI hk (by decide)), nI_clamp (show k < 2 ^ 31 by omega), hS.2.1.1, if_neg (nI_ge hi (by omega)), ix4, if_pos (jIn_nI (show 400 * k + i < 800 by omega) (by decide)), nI_clamp (show 400 * k + i < 2 ^ 31 by omega), w9, w4, w5, w6, qFi]
    by_cases hlf : nK (ndA (qTr t) i) < 20
    · have hz : nZ (ndA (qTr t) i) = 1 := by
        rcases n4 with n4 | n4
        · exact n4.2.2.2.2.1
        · omega
      rw [hz] at n3
      rw [if_pos (by rw [hlc.mp hlf]; rfl), if_pos (jIn_nI (show 400 * k + i < 800 by omega) (by decide))]
      by_cases hlast : i + 1 = (qTr t).length
      · have h17 : nK (ndA (qTr t) i) = 17 := by rw [show i = (qTr t).length - 1 by omega]; exact f6
        rw [if_pos (by rw [h17]; rfl)]
        obtain rfl : m = 0 := by omega
        by_cases hq : p < nT (ndA (qTr t) i)
        · rw [if_pos ⟨hlf, hq⟩]
        · rw [if_neg (fun z => hq z.2)]
          show _ = some (nI ((qTr t).length - 1), s)
          rw [show (qTr t).length - 1 = i by omega]
      · have h17 := f7 i (by omega)
        rw [if_neg (show ¬ nI (nK (ndA (qTr t) i)) = 17 from fun z => h17 ((nI_eq (b := 17) (by omega) (by decide)).mp z)), if_pos (jIn_nI (show 400 * k + i < 800 by omega) (by decide)), if_neg (nI_nlt hbp (by omega)), if_pos (jIn_nI (show 400 * k + i < 800 by omega) (by decide))]
        by_cases hq : p < nT (ndA (qTr t) i)
        · rw [if_neg (nI_ge hq (by omega)), if_pos ⟨hlf, hq⟩]
        · rw [if_pos (nI_le (by omega) (by omega)), if_neg (fun z => hq z.2), nI_1]
          exact ih m (i + 1) (by omega) (by omega) (by omega) (by rw [← n3]; omega)
    · have hc0 : ¬ nC (ndA (qTr t) i) = 0 := fun z => hlf (hlc.mpr z)
      rw [if_neg (nI_ne0 (by omega) (by omega)), if_neg (fun z => hlf z.1), nI_1]
      rcases n4 with n4 | n4
      · exact absurd n4.2.2.2.1 hlf
      · exact ih m (i + 1) (by omega) (by omega) (by omega) (by rw [bF_i (by omega), n4.2.2.2.2.2.2.1]; exact hbp)
theorem mM_lcL (hS : SlM s k t) (h0 : jgI s 0 = nI k) : ∀ (n m i x : Nat), (qTr t).length = i + m → m < n → fM_leaves_4 N n (nI x) (nI i) s = some (nI (x + qLc (qTr t) m i), s) := by
  have hk := hS.1.1
  have hl := hS.tf.2.1
  intro n
  induction n with
  | zero => intro m i x h1 h2; omega
  | succ n ih =>
    intro m i x hm hn
    show fM_leaves_b4 N (fM_leaves_4 N n) _ _ s = _
    unfold fM_leaves_b4
    rw [h0, if_pos (jIn_nI hk (by decide)), nI_clamp (show k < 2 ^ 31 by omega), hS.2.1.1]
    cases m with
    | zero =>
      rw [if_pos (nI_le (by omega) (by omega))]
      rfl
    | succ m =>
      have hi : i < (qTr t).length := by omega
      have hcl := nC_lt hS.tf hi
      have hlc := leaf_C hS.tf hi
      rw [if_neg (nI_ge hi (by omega)), ix4, if_pos (jIn_nI (show 400 * k + i < 800 by omega) (by decide)), nI_clamp (show 400 * k + i < 2 ^ 31 by omega), (hS.2.1.2 i hi).2.2.2.2.2.1, qLc, nI_1, nI_1, Int32.add_zero]
      by_cases hq : nK (ndA (qTr t) i) < 20
      · rw [if_pos (by rw [hlc.mp hq]; rfl), if_pos hq, ih m (i + 1) (x + 1) (by omega) (by omega), Nat.add_assoc]
      · rw [if_neg (nI_ne0 (by have : ¬ nC (ndA (qTr t) i) = 0 := fun z => hq (hlc.mpr z)
                               omega) (by omega)), if_neg hq, ih m (i + 1) x (by omega) (by omega), Nat.zero_add]
theorem mM_fiL (hS : SlM s k t) (h0 : jgI s 0 = nI k) {i : Nat} (hi : i < (qTr t).length) : ∀ (n m p x : Nat), nT (ndA (qTr t) i) = p + m → m < n → x < (mks (mkM s k) p m).length → fM_faultIn_35 N n (nI (400 * k + i)) (nI x) (nI p) s = some (nI ((mks (mkM s k) p m).getD x 0), s) := by
  have hk := hS.1.1
  obtain ⟨f1, f2, f3, f4, f5, f6, f7, f8, f9⟩ := hS.tf
  have h6 := (hS.2.1.2 i hi).2.2.1
  have hT := (f5 i hi).2
  intro n
  induction n with
  | zero => intro m p x h1 h2; omega
  | succ n ih =>
    intro m p x hm hn hx
    show fM_faultIn_b35 N (fM_faultIn_35 N n) _ _ _ s = _
    unfold fM_faultIn_b35 fM_faultIn_80
    rw [if_pos (jIn_nI (show 400 * k + i < 800 by omega) (by decide)), nI_clamp (show 400 * k + i < 2 ^ 31 by omega), h6]
    cases m with
    | zero => exact absurd hx (by simp [mks])
    | succ m =>
      have hv := f9 p (by omega)
      rw [if_neg (nI_ge (by omega) (by omega)), h0, ix6, if_pos (jIn_nI (show 61 * k + p < 122 by omega) (by decide)), nI_clamp (show 61 * k + p < 2 ^ 31 by omega)]
      have hmk : jgA s 2 (61 * k + p) = mkM s k p := rfl
      rw [hmk]
      rw [mks] at hx ⊢
      have hpos : ∀ v : Nat, (v = 1 ∨ v = 3) → mkM s k p = nI v → (if mkM s k p ≤ 0 then (if mkM s k p ≤ 0 then fM_faultIn_35 N n (nI (400 * k + i)) (nI x) (nI p + (1 : Int32)) s else fM_faultIn_35 N n (nI (400 * k + i)) (nI x - (1 : Int32)) (nI p + (1 : Int32)) s) else (if nI x = 0 then some ((((4 : Int32) * nI p) + mkM s k p), s) else (if mkM s k p ≤ 0 then fM_faultIn_35 N n (nI (400 * k + i)) (nI x) (nI p + (1 : Int32)) s else fM_faultIn_35 N n (nI (400 * k + i)) (nI x - (1 : Int32)) (nI p + (1 : Int32)) s))) = some (nI (((if mkM s k p = 0 then [] else [4 * p + (mkM s k p).toNatClampNeg]) ++ mks (mkM s k) (p + 1) m).getD x 0), s) := by
        intro v hv1 hv2
        have hnz : ¬ mkM s k p = 0 := by rw [hv2]; exact nI_ne0 (by omega) (by omega)
        rw [if_neg hnz] at hx ⊢
        rw [hv2, if_neg (nI_nle (by omega) (by omega)), nI_clamp (by omega)]
        cases x with
        | zero =>
          rw [if_pos (by decide), show (4 : Int32) = nI 4 from rfl, pk_mul, nI_add]
          rfl
        | succ x =>
          rw [if_neg (nI_ne0 (by omega) (by
            have h3 := mks_le (mkM s k) m (p + 1)
            simp at hx
            omega)), if_neg (nI_nle (by omega) (by omega)), nI_pred, nI_1]
          exact ih m (p + 1) x (by omega) (by omega) (by simpa using hx)
      rcases hv with hv | hv | hv
      · rw [hv] at hx ⊢
        rw [if_pos (by decide), if_pos (by decide), if_pos rfl, nI_1, List.nil_append]
        rw [if_pos rfl, List.nil_append] at hx
        exact ih m (p + 1) x (by omega) (by omega) hx
      · exact hpos 1 (Or.inl rfl) hv
      · exact hpos 3 (Or.inr rfl) hv
theorem mM_fi (hS : SlM s k t) (h0 : jgI s 0 = nI k) (hN : 1000 ≤ N) {i x : Nat} (hi : i < (qTr t).length) (hx : x < (nL (ndA (qTr t) i)).length) : fM_faultIn N (nI (400 * k + i)) (nI x) s = some (nI ((nL (ndA (qTr t) i)).getD x 0), s) := by
  have hk := hS.1.1
  obtain ⟨f1, f2, f3, f4, f5, f6, f7, f8, f9⟩ := hS.tf
  obtain ⟨w4, w5, w6, w7, w8, w9, w10, w11⟩ := hS.2.1.2 i hi
  obtain ⟨⟨n1, n2, n3, n4, _⟩, n5⟩ := f5 i hi
  unfold fM_faultIn
  rw [if_pos (jIn_nI (show 400 * k + i < 800 by omega) (by decide)), nI_clamp (show 400 * k + i < 2 ^ 31 by omega), w8, w5]
  rcases n4 with n4 | n4
  · rcases n4.2.2.2.2.2.2 with q | q
    · rw [q.1, if_pos (by decide), if_pos (jIn_nI (show 400 * k + i < 800 by omega) (by decide))]
      rw [q.2.1] at hx ⊢
      exact mM_fiL (N := N) hS h0 hi N _ _ x (by omega) (by omega) hx
    · rw [q.2.2.2] at hx ⊢
      obtain rfl : x = 0 := by simp at hx; omega
      rw [if_neg (nI_nle (by have := q.1; omega) (by have := q.1; omega)), if_pos (jIn_nI (show 400 * k + i < 800 by omega) (by decide)), if_pos (jIn_nI (show 400 * k + i < 800 by omega) (by decide)), show (4 : Int32) = nI 4 from rfl, pk_mul, nI_add]
      rfl
  · rw [n4.2.2.2.2.2.1] at hx
    exact absurd hx (by simp)
theorem fls_get (l : List Nd) {i x : Nat} (hi : i < l.length) (hx : x < (nL (ndA l i)).length) : (fls l).getD (fB l i + x) 0 = (nL (ndA l i)).getD x 0 := by
  have e : l = l.take i ++ ([ndA l i] ++ l.drop (i + 1)) := by
    have h1 : l[i]?.toList = [ndA l i] := by
      unfold ndA
      rw [List.getD_eq_getElem?_getD, List.getElem?_eq_getElem hi]
      rfl
    rw [← List.append_assoc, ← h1, ← List.take_add_one, List.take_append_drop]
  have e2 : fls l = fls (l.take i) ++ (nL (ndA l i) ++ fls (l.drop (i + 1))) := by
    conv => lhs; rw [e]
    rw [fls_app, fls_app, fls_one]
  rw [e2]
  unfold fB
  rw [getD_app_r (by omega), show (fls (l.take i)).length + x - (fls (l.take i)).length = x by omega, getD_app_l hx]
theorem mM_ftL (hS : SlM s k t) (h0 : jgI s 0 = nI k) (hN : 1000 ≤ N) {a : Int32} (ha : ¬ a < 0) : ∀ (n m i x : Nat), (qTr t).length = i + m → m < n → x < 2 ^ 31 → fM_fault_4 N n a (nI x) (nI i) s = some (if fB (qTr t) i + x < (fls (qTr t)).length then nI ((fls (qTr t)).getD (fB (qTr t) i + x) 0) else -1, s) := by
  have hk := hS.1.1
  have hf := hS.tf
  have hl := hf.2.1
  intro n
  induction n with
  | zero => intro m i x h1 h2; omega
  | succ n ih =>
    intro m i x hm hn hx
    show fM_fault_b4 N (fM_fault_4 N n) _ _ _ s = _
    unfold fM_fault_b4
    rw [h0, if_pos (jIn_nI hk (by decide)), nI_clamp (show k < 2 ^ 31 by omega), hS.2.1.1]
    cases m with
    | zero =>
      rw [if_pos (nI_le (by omega) (by omega)), show i = (qTr t).length by omega, fB_all, if_neg (by omega)]
    | succ m =>
      have hi : i < (qTr t).length := by omega
      have hs := fB_s (qTr t) hi
      have hmx := fB_max (qTr t) (i + 1)
      have h180 := hf.2.2.1
      rw [if_neg (nI_ge hi (by omega)), if_neg ha, ix4, mM_fo hS h0 hN hi, jB_s]
      by_cases hq : (nL (ndA (qTr t) i)).length ≤ x
      · rw [if_pos (nI_le hq hx), pk_sub hq, nI_1, ih m (i + 1) (x - (nL (ndA (qTr t) i)).length) (by omega) (by omega) (by omega), hs, show fB (qTr t) i + (nL (ndA (qTr t) i)).length + (x - (nL (ndA (qTr t) i)).length) = fB (qTr t) i + x by omega]
      · rw [if_neg (nI_ge (by omega) (by omega)), mM_fi hS h0 hN hi (by omega), jB_s, if_pos (by omega), fls_get _ hi (by omega)]
end MQ2
