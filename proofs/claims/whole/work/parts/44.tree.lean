/-! the class's tree: its arrays hold a list of nodes -/
def nd0 : Nd := (0, 0, 0, 0, 0, 0, 0, [])
def ndA (l : List Nd) (i : Nat) : Nd := l.getD i nd0
def fls (l : List Nd) : List Nat := (l.map nL).flatten
def fB (l : List Nd) (i : Nat) : Nat := (fls (l.take i)).length
def sL (n : Nd) (x : List Nat) : Nd := (nK n, nF n, nT n, nO n, nM n, nC n, nZ n, x)
theorem fls_app (l m : List Nd) : fls (l ++ m) = fls l ++ fls m := by simp [fls]
theorem fls_one (n : Nd) : fls [n] = nL n := by simp [fls]
theorem fls_cons (n : Nd) (l : List Nd) : fls (n :: l) = nL n ++ fls l := by simp [fls]
theorem fB_app {l m : List Nd} {i : Nat} (h : i ≤ l.length) : fB (l ++ m) i = fB l i := by simp [fB, List.take_append_of_le_length h]
theorem fB_all (l : List Nd) : fB l l.length = (fls l).length := by simp [fB]
theorem ndA_l {l m : List Nd} {i : Nat} (h : i < l.length) : ndA (l ++ m) i = ndA l i := getD_app_l h
theorem ndA_r {l m : List Nd} {i : Nat} (h : l.length ≤ i) : ndA (l ++ m) i = ndA m (i - l.length) := getD_app_r h
theorem ndA_z {n : Nd} {l : List Nd} : ndA (n :: l) 0 = n := rfl
theorem ndA_s {n : Nd} {l : List Nd} {i : Nat} : ndA (n :: l) (i + 1) = ndA l i := rfl
/-- the tree's arrays hold the nodes l -/
def TrR (s : jS) (l : List Nd) : Prop := jgI s 3 = nI l.length ∧ jgI s 4 = nI (fls l).length ∧ (∀ i, i < l.length → jgA s 4 i = nI (nK (ndA l i)) ∧ jgA s 5 i = nI (nZ (ndA l i)) ∧ jgA s 6 i = nI (nF (ndA l i)) ∧ (nK (ndA l i) < 20 → jgA s 7 i = nI (nO (ndA l i))) ∧ jgA s 8 i = nI (fB l i)) ∧ ∀ j, j < (fls l).length → jgA s 9 j = nI ((fls l).getD j 0)
theorem TrR.sm {s s' : jS} {l : List Nd} {ks as : List Nat} (h : TrR s l) (hs : jSm ks as s s') (h3 : 3 ∉ ks) (h4 : 4 ∉ ks) (a4 : 4 ∉ as) (a5 : 5 ∉ as) (a6 : 6 ∉ as) (a7 : 7 ∉ as) (a8 : 8 ∉ as) (a9 : 9 ∉ as) : TrR s' l := by
  refine ⟨by rw [hs.1 3 h3]; exact h.1, by rw [hs.1 4 h4]; exact h.2.1, fun i hi => ?_, fun j hj => by rw [hs.2 9 a9]; exact h.2.2.2 j hj⟩
  rw [hs.2 4 a4, hs.2 5 a5, hs.2 6 a6, hs.2 7 a7, hs.2 8 a8]
  exact h.2.2.1 i hi
/-- two nodes that the class cannot tell apart -/
def nSim (a b : Nd) : Prop := nK a = nK b ∧ nZ a = nZ b ∧ nF a = nF b ∧ (nK b < 20 → nO a = nO b) ∧ nL a = nL b
theorem TrR.ext {s : jS} {l l' : List Nd} (h : TrR s l) (hl : l'.length = l.length) (hn : ∀ i, i < l.length → nSim (ndA l' i) (ndA l i)) : TrR s l' := by
  have hm : l'.map nL = l.map nL := by
    apply List.ext_getElem
    · simp [hl]
    · intro i h1 h2
      simp only [List.length_map] at h1 h2
      have e := (hn i h2).2.2.2.2
      simp only [ndA, List.getD, List.getElem?_eq_getElem h1, List.getElem?_eq_getElem h2, Option.getD_some] at e
      simpa using e
  have hf : fls l' = fls l := by simp [fls, hm]
  have hb : ∀ i, fB l' i = fB l i := fun i => by simp [fB, fls, List.map_take, hm]
  refine ⟨by rw [hl]; exact h.1, by rw [hf]; exact h.2.1, fun i hi => ?_, fun j hj => by rw [hf] at hj ⊢; exact h.2.2.2 j hj⟩
  rw [hl] at hi
  obtain ⟨e1, e2, e3, e4, e5⟩ := hn i hi
  obtain ⟨g1, g2, g3, g4, g5⟩ := h.2.2.1 i hi
  refine ⟨by rw [e1]; exact g1, by rw [e2]; exact g2, by rw [e3]; exact g3, fun q => ?_, by rw [hb]; exact g5⟩
  rw [e1] at q
  rw [e4 q]
  exact g4 q
theorem pT_add {N k b o : Nat} {s : jS} {l : List Nd} (h : TrR s l) (hl : l.length < 362) (to ms kd : Nat) : ∃ s', fT_add N (nI k) (nI b) (nI o) s = some (nI l.length, s') ∧ TrR s' (l ++ [(k, b, to, o, ms, kd, 1, [])]) ∧ jSm [3] [4, 5, 6, 7, 8] s s' := by
  unfold fT_add
  rw [h.1, if_pos (show nI l.length < (362 : Int32) from nI_lt (b := 362) hl (by decide)), if_pos (jIn_nI (by omega) (by decide)), jL_e, nI_clamp (by omega)]
  simp only [jgI_sA, h.1]
  rw [if_pos (jIn_nI (by omega) (by decide)), jL_e, nI_clamp (by omega)]
  simp only [jgI_sA, h.1]
  rw [if_pos (jIn_nI (by omega) (by decide)), jL_e, nI_clamp (by omega)]
  simp only [jgI_sA, h.1]
  rw [if_pos (jIn_nI (by omega) (by decide)), jL_e, nI_clamp (by omega)]
  simp only [jgI_sA, h.1]
  rw [if_pos (jIn_nI (by omega) (by decide)), jL_e, jL_e, nI_clamp (by omega)]
  simp only [jgI_sA, h.1, h.2.1]
  rw [nI_1, jgI_sI, if_pos rfl, nI_pred]
  refine ⟨_, rfl, ?_, ((((((jSm.rf.sA (by decide)).sA (by decide)).sA (by decide)).sA (by decide)).sA (by decide)).sI (by decide))⟩
  refine ⟨?_, ?_, fun i hi => ?_, fun j hj => ?_⟩
  · rw [jgI_sI, if_pos rfl, List.length_append]
    rfl
  · rw [fls_app, fls_one]
    show jgI s 4 = nI (fls l ++ []).length
    rw [List.append_nil]
    exact h.2.1
  · simp only [List.length_append, List.length_cons, List.length_nil] at hi
    show upd (jgA s 4) l.length (nI k) i = _ ∧ upd (jgA s 5) l.length 1 i = _ ∧ upd (jgA s 6) l.length (nI b) i = _ ∧ (_ → upd (jgA s 7) l.length (nI o) i = _) ∧ upd (jgA s 8) l.length (nI (fls l).length) i = _
    by_cases hq : i < l.length
    · have hne : i ≠ l.length := by omega
      rw [pk_un hne, pk_un hne, pk_un hne, pk_un hne, pk_un hne, ndA_l hq, fB_app (by omega)]
      exact h.2.2.1 i hq
    · have he : i = l.length := by omega
      subst he
      rw [pk_us, pk_us, pk_us, pk_us, pk_us, ndA_r (Nat.le_refl _), Nat.sub_self, fB_app (Nat.le_refl _), fB_all]
      exact ⟨rfl, rfl, rfl, fun _ => rfl, rfl⟩
  · rw [fls_app, fls_one] at hj ⊢
    show jgA s 9 j = nI ((fls l ++ []).getD j 0)
    have hj : j < (fls l ++ []).length := hj
    rw [List.append_nil] at hj ⊢
    exact h.2.2.2 j hj
theorem pT_addFault {N p f : Nat} {s : jS} {l : List Nd} {n : Nd} (h : TrR s (l ++ [n])) (hl : (fls (l ++ [n])).length < 180) : ∃ s', fT_addFault N (nI p) (nI f) s = some (0, s') ∧ TrR s' (l ++ [sL n (nL n ++ [4 * p + f])]) ∧ jSm [4] [9] s s' := by
  have hF : fls (l ++ [sL n (nL n ++ [4 * p + f])]) = fls (l ++ [n]) ++ [4 * p + f] := by
    rw [fls_app, fls_app, fls_one, fls_one, List.append_assoc]
    rfl
  unfold fT_addFault
  rw [h.2.1, if_neg (show ¬ (180 : Int32) ≤ nI _ from nI_ge (b := 180) hl (by decide)), if_pos (jIn_nI hl (by decide)), jL_e, jL_e, nI_clamp (by omega)]
  simp only [jgI_sA, h.2.1]
  rw [nI_1, show (4 : Int32) * nI p + nI f = nI (4 * p + f) by rw [show (4 : Int32) = nI 4 from rfl, pk_mul, nI_add]]
  refine ⟨_, rfl, ?_, (jSm.rf.sA (by decide)).sI (by decide)⟩
  refine ⟨?_, ?_, fun i hi => ?_, fun j hj => ?_⟩
  · show jgI s 3 = _
    rw [h.1]
    simp
  · rw [hF, List.length_append]
    rfl
  · have hi : i < (l ++ [n]).length := by simpa using hi
    obtain ⟨g1, g2, g3, g4, g5⟩ := h.2.2.1 i hi
    have hS : nSim (ndA (l ++ [sL n (nL n ++ [4 * p + f])]) i) (ndA (l ++ [n]) i) ∨ True := Or.inr trivial
    simp only [List.length_append, List.length_cons, List.length_nil] at hi
    show jgA s 4 i = _ ∧ jgA s 5 i = _ ∧ jgA s 6 i = _ ∧ (_ → jgA s 7 i = _) ∧ jgA s 8 i = _
    by_cases hq : i < l.length
    · rw [ndA_l hq, fB_app (by omega)]
      rw [ndA_l hq] at g1 g2 g3 g4
      rw [fB_app (by omega)] at g5
      exact ⟨g1, g2, g3, g4, g5⟩
    · have he : i = l.length := by omega
      subst he
      rw [ndA_r (Nat.le_refl _), Nat.sub_self, fB_app (Nat.le_refl _)]
      rw [ndA_r (Nat.le_refl _), Nat.sub_self] at g1 g2 g3 g4
      rw [fB_app (Nat.le_refl _)] at g5
      exact ⟨g1, g2, g3, g4, g5⟩
  · rw [hF] at hj ⊢
    show upd (jgA s 9) (fls (l ++ [n])).length (nI (4 * p + f)) j = _
    simp only [List.length_append, List.length_cons, List.length_nil] at hj
    by_cases hq : j < (fls (l ++ [n])).length
    · rw [pk_un (by omega), getD_app_l hq]
      exact h.2.2.2 j hq
    · have he : j = (fls (l ++ [n])).length := by omega
      subst he
      rw [pk_us, getD_app_r (Nat.le_refl _), Nat.sub_self]
      rfl
theorem pT_has {N k : Nat} {s : jS} {l : List Nd} (h : TrR s l) (hk : k < l.length) (hl : l.length < 2 ^ 31) : fT_has N (nI k) s = some (1, s) := by
  unfold fT_has
  rw [if_neg (nI_pos (by omega)), h.1, if_neg (nI_ge hk hl)]
theorem pT_close {N : Nat} {s : jS} {l m : List Nd} {n n' : Nd} (h : TrR s (l ++ n :: m)) (hl : (l ++ n :: m).length ≤ 362) (hS : nK n' = nK n ∧ nZ n' = m.length + 1 ∧ nF n' = nF n ∧ (nK n < 20 → nO n' = nO n) ∧ nL n' = nL n) : ∃ s', fT_close N (nI l.length) s = some (0, s') ∧ TrR s' (l ++ n' :: m) ∧ jSm [] [5] s s' := by
  have hlen : (l ++ n :: m).length = l.length + m.length + 1 := by simp; omega
  unfold fT_close
  rw [pT_has h (by omega) (by omega), jB_s, if_neg (by decide), if_pos (jIn_nI (by omega) (by decide)), jL_e, nI_clamp (by omega), h.1, pk_sub (by omega)]
  refine ⟨_, rfl, ?_, jSm.rf.sA (by decide)⟩
  have hF : fls (l ++ n' :: m) = fls (l ++ n :: m) := by rw [fls_app, fls_app, fls_cons, fls_cons, hS.2.2.2.2]
  have hB : ∀ i, fB (l ++ n' :: m) i = fB (l ++ n :: m) i := by
    intro i
    have e : (l ++ n' :: m).map nL = (l ++ n :: m).map nL := by simp [hS.2.2.2.2]
    simp [fB, fls, List.map_take, -List.map_append, e]
  refine ⟨?_, by rw [hF]; exact h.2.1, fun i hi => ?_, fun j hj => by rw [hF] at hj ⊢; exact h.2.2.2 j hj⟩
  · show jgI s 3 = _
    rw [h.1]
    simp
  · have hi : i < (l ++ n :: m).length := by simpa using hi
    obtain ⟨g1, g2, g3, g4, g5⟩ := h.2.2.1 i hi
    show jgA s 4 i = _ ∧ upd (jgA s 5) l.length (nI ((l ++ n :: m).length - l.length)) i = _ ∧ jgA s 6 i = _ ∧ (_ → jgA s 7 i = _) ∧ jgA s 8 i = _
    rw [hB]
    by_cases hq : i < l.length
    · rw [ndA_l hq, pk_un (by omega)]
      rw [ndA_l hq] at g1 g2 g3 g4
      exact ⟨g1, g2, g3, g4, g5⟩
    · rw [ndA_r (by omega)]
      rw [ndA_r (by omega)] at g1 g2 g3 g4
      rcases Nat.eq_or_lt_of_le (Nat.not_lt.mp hq) with he | he
      · subst he
        rw [Nat.sub_self, ndA_z] at g1 g2 g3 g4 ⊢
        rw [pk_us, hS.1, hS.2.1, hS.2.2.1]
        refine ⟨g1, ?_, g3, fun q => ?_, g5⟩
        · rw [hlen, show l.length + m.length + 1 - l.length = m.length + 1 by omega]
        · rw [hS.2.2.2.1 q]
          exact g4 q
      · obtain ⟨d, hd⟩ : ∃ d, i - l.length = d + 1 := ⟨i - l.length - 1, by omega⟩
        rw [hd, ndA_s] at g1 g2 g3 g4 ⊢
        rw [pk_un (by omega)]
        exact ⟨g1, g2, g3, g4, g5⟩

/-- what an insertion leaves of the array -/
def ins (f : Nat → Int32) (k n : Nat) : Nat → Int32 := va_cpy f f k (k + 1) n
theorem ins_lo {f : Nat → Int32} {k n i : Nat} (h : i ≤ k) : ins f k n i = f i := pk_cpy_out (by omega)
theorem ins_hi {f : Nat → Int32} {k n i : Nat} (h : k ≤ i) (h2 : i < k + n) : ins f k n (i + 1) = f i := by
  unfold ins
  rw [pk_cpy_in (by omega) (by omega)]
  congr 1
  omega
theorem jCp_ok {k L n : Nat} (h : k ≤ L) (hL : L < n) (hn : n < 2 ^ 30) : jCp (nI k) (nI (k + 1)) (nI (L - k)) n = true := by
  simp only [jCp, Bool.and_eq_true, decide_eq_true_eq]
  refine ⟨⟨⟨⟨nI_pos (by omega), nI_pos (by omega)⟩, nI_pos (by omega)⟩, ?_⟩, ?_⟩
  · rw [nI_clamp (by omega), nI_clamp (by omega)]; omega
  · rw [nI_clamp (by omega), nI_clamp (by omega)]; omega
theorem pT_sh4 {N k L : Nat} {s : jS} (h : jgI s 3 = nI L) (hk : k ≤ L) (hL : L < 363) : fT_shift_a4 N (nI k) s = some (0, jsF s 4 (ins (jgA s 4) k (L - k))) := by
  unfold fT_shift_a4
  rw [h, nI_1, pk_sub hk, if_pos (jCp_ok hk hL (by decide)), jL_e, nI_clamp (by omega), nI_clamp (by omega), nI_clamp (by omega)]
  rfl
theorem pT_sh5 {N k L : Nat} {s : jS} (h : jgI s 3 = nI L) (hk : k ≤ L) (hL : L < 363) : fT_shift_a5 N (nI k) s = some (0, jsF s 5 (ins (jgA s 5) k (L - k))) := by
  unfold fT_shift_a5
  rw [h, nI_1, pk_sub hk, if_pos (jCp_ok hk hL (by decide)), jL_e, nI_clamp (by omega), nI_clamp (by omega), nI_clamp (by omega)]
  rfl
theorem pT_sh6 {N k L : Nat} {s : jS} (h : jgI s 3 = nI L) (hk : k ≤ L) (hL : L < 363) : fT_shift_a6 N (nI k) s = some (0, jsF s 6 (ins (jgA s 6) k (L - k))) := by
  unfold fT_shift_a6
  rw [h, nI_1, pk_sub hk, if_pos (jCp_ok hk hL (by decide)), jL_e, nI_clamp (by omega), nI_clamp (by omega), nI_clamp (by omega)]
  rfl
theorem pT_sh7 {N k L : Nat} {s : jS} (h : jgI s 3 = nI L) (hk : k ≤ L) (hL : L < 363) : fT_shift_a7 N (nI k) s = some (0, jsF s 7 (ins (jgA s 7) k (L - k))) := by
  unfold fT_shift_a7
  rw [h, nI_1, pk_sub hk, if_pos (jCp_ok hk hL (by decide)), jL_e, nI_clamp (by omega), nI_clamp (by omega), nI_clamp (by omega)]
  rfl
theorem pT_sh8 {N k L : Nat} {s : jS} (h : jgI s 3 = nI L) (hk : k ≤ L) (hL : L < 363) : fT_shift_a8 N (nI k) s = some (0, jsF s 8 (ins (jgA s 8) k (L - k))) := by
  unfold fT_shift_a8
  rw [h, nI_1, pk_sub hk, if_pos (jCp_ok hk hL (by decide)), jL_e, nI_clamp (by omega), nI_clamp (by omega), nI_clamp (by omega)]
  rfl
/-- wrap(k, kind): a node that is not closed yet comes before what lies from k on; its size is as it was -/
theorem pT_wrap {N kd : Nat} {s : jS} {l m : List Nd} {n w : Nd} (h : TrR s (l ++ n :: m)) (hl : (l ++ n :: m).length < 362) (hw : nK w = kd ∧ 20 ≤ kd ∧ nZ w = nZ n ∧ nF w = nF n ∧ nL w = []) : ∃ s', fT_wrap N (nI l.length) (nI kd) s = some (0, s') ∧ TrR s' (l ++ w :: n :: m) ∧ jSm [3] [4, 5, 6, 7, 8] s s' := by
  have hlen : (l ++ n :: m).length = l.length + m.length + 1 := by simp; omega
  unfold fT_wrap
  rw [pT_has h (by omega) (by omega), jB_s, if_neg (by decide), h.1, if_pos (show nI _ < (362 : Int32) from nI_lt (b := 362) hl (by decide))]
  rw [pT_sh4 h.1 (by omega) (by omega), jB_s, pT_sh5 (L := (l ++ n :: m).length) (by simp only [jgI_sF]; exact h.1) (by omega) (by omega), jB_s, pT_sh6 (L := (l ++ n :: m).length) (by simp only [jgI_sF]; exact h.1) (by omega) (by omega), jB_s, pT_sh7 (L := (l ++ n :: m).length) (by simp only [jgI_sF]; exact h.1) (by omega) (by omega), jB_s, pT_sh8 (L := (l ++ n :: m).length) (by simp only [jgI_sF]; exact h.1) (by omega) (by omega), jB_s, jL_e, if_pos (jIn_nI (by omega) (by decide)), jL_e, nI_clamp (by omega)]
  simp only [jgI_sF, h.1]
  rw [nI_1]
  refine ⟨_, rfl, ?_, (((((((jSm.rf.sF (by decide)).sF (by decide)).sF (by decide)).sF (by decide)).sF (by decide)).sI (by decide)).sA (by decide))⟩
  have hF : fls (l ++ w :: n :: m) = fls (l ++ n :: m) := by rw [fls_app, fls_app, fls_cons, hw.2.2.2.2]; rfl
  have hBlo : ∀ i, i ≤ l.length → fB (l ++ w :: n :: m) i = fB (l ++ n :: m) i := fun i hi => by rw [fB_app hi, fB_app hi]
  have hBhi : ∀ i, l.length ≤ i → fB (l ++ w :: n :: m) (i + 1) = fB (l ++ n :: m) i := by
    intro i hi
    obtain ⟨d, rfl⟩ : ∃ d, i = l.length + d := ⟨i - l.length, by omega⟩
    unfold fB
    rw [List.take_append, List.take_append, List.take_of_length_le (show l.length ≤ l.length + d + 1 by omega), List.take_of_length_le (show l.length ≤ l.length + d by omega), show l.length + d + 1 - l.length = d + 1 by omega, show l.length + d - l.length = d by omega, List.take_succ_cons, fls_app, fls_app, fls_cons, hw.2.2.2.2]
    rfl
  refine ⟨?_, by rw [hF]; exact h.2.1, fun i hi => ?_, fun j hj => by rw [hF] at hj ⊢; exact h.2.2.2 j hj⟩
  · show nI ((l ++ n :: m).length + 1) = _
    rw [hlen]
    congr 1
    simp
    omega
  · have hi : i < (l ++ n :: m).length + 1 := by
      rw [hlen]
      have : (l ++ w :: n :: m).length = l.length + m.length + 2 := by simp; omega
      omega
    show upd (ins (jgA s 4) l.length ((l ++ n :: m).length - l.length)) l.length (nI kd) i = _ ∧ ins (jgA s 5) l.length ((l ++ n :: m).length - l.length) i = _ ∧ ins (jgA s 6) l.length ((l ++ n :: m).length - l.length) i = _ ∧ (_ → ins (jgA s 7) l.length ((l ++ n :: m).length - l.length) i = _) ∧ ins (jgA s 8) l.length ((l ++ n :: m).length - l.length) i = _
    rcases Nat.lt_trichotomy i l.length with hq | hq | hq
    · obtain ⟨g1, g2, g3, g4, g5⟩ := h.2.2.1 i (by omega)
      rw [ndA_l hq] at g1 g2 g3 g4
      rw [pk_un (by omega), ins_lo (by omega), ins_lo (by omega), ins_lo (by omega), ins_lo (by omega), ins_lo (by omega), ndA_l hq, hBlo i (by omega)]
      exact ⟨g1, g2, g3, g4, g5⟩
    · subst hq
      obtain ⟨g1, g2, g3, g4, g5⟩ := h.2.2.1 l.length (by omega)
      rw [ndA_r (Nat.le_refl _), Nat.sub_self, ndA_z] at g1 g2 g3 g4
      rw [pk_us, ins_lo (Nat.le_refl _), ins_lo (Nat.le_refl _), ins_lo (Nat.le_refl _), ins_lo (Nat.le_refl _), ndA_r (Nat.le_refl _), Nat.sub_self, ndA_z, hBlo _ (Nat.le_refl _), hw.1, hw.2.2.1, hw.2.2.2.1]
      exact ⟨rfl, g2, g3, fun q => absurd q (by omega), g5⟩
    · obtain ⟨d, rfl⟩ : ∃ d, i = d + 1 := ⟨i - 1, by omega⟩
      obtain ⟨g1, g2, g3, g4, g5⟩ := h.2.2.1 d (by omega)
      have e : ndA (l ++ w :: n :: m) (d + 1) = ndA (l ++ n :: m) d := by
        rw [ndA_r (by omega), ndA_r (by omega), show d + 1 - l.length = (d - l.length) + 1 by omega, ndA_s]
      rw [pk_un (by omega), ins_hi (by omega) (by omega), ins_hi (by omega) (by omega), ins_hi (by omega) (by omega), ins_hi (by omega) (by omega), ins_hi (by omega) (by omega), e, hBhi d (by omega)]
      exact ⟨g1, g2, g3, g4, g5⟩
