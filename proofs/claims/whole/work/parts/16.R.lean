def fL_at (N : Nat) (a0 : Int32) (z0 : jS) : Option (Int32 × jS) := (if a0 < 0 then some ((0 : Int32), z0) else (if jgI z0 0 ≤ a0 then some ((0 : Int32), z0) else (if jIn a0 60 = true then some (jgA z0 0 (a0).toNatClampNeg, z0) else none)))
set_option maxHeartbeats 4000000 in
set_option maxRecDepth 100000 in
theorem cL_at (l : Launch) (dC : Nat → ClassId) (dI : Nat → Nat → Nat) (cI cC cL : ClassId) (sk sv : Nat → Nat) (ad : Nat → Nat) (N : Nat) (a0 : Int32) (z0 z1 : jS) (r : Int32) (hf : fL_at N a0 z0 = some (r, z1)) : Ci l yL_at (Cond.code yL_at prog_3_method_2_code 2 (some .int) :: TB) ({ frames := 0, cells := 0, slots := 0, locals := 0 }) (dC, dI) vwCl [(cI, .int), (cC, .char), (cL, .object "SharedSyntax$Letters")] (jEn sk sv) [.ref (ad 3), .int a0] (wR cI cC ad z0) (wR cI cC ad z1) r := by
  refine Ci_of (cc := prog_3_method_2_code) (maxL := 2) (ret := (some .int)) (by decide) rfl (Nat.le_of_ble_eq_true rfl) ?_
  intro p e s m below meth c ls F hl hK hN hC
  obtain ⟨hx, hb, hml, hown, hts, hr, hlk⟩ := F
  have ht : ∀ w ∈ TB, w.before [.ref (ad 3), .int a0].toArray s = true := fun w h => hts w (List.mem_cons_of_mem _ h)
  have hA : ∀ q, s.heap.size ≤ q → va_A (wR cI cC ad z0) s.heap.size q := fun q h => Or.inr h
  have hl : lv_has ls 2 [(0, .ref (ad 3)), (1, .int a0)] := hl
  unfold fL_at at hf
  refine lv_iload_n hx hb dL_at_0 rfl (lv_at hl 1 rfl) ?_
  refine lv_if_lt (tgt := 21) hx hb dL_at_1 (by decide) (fun c1 => ?_) (fun c1 => ?_)
  · replace hf := jif_t c1 hf
    refine lv_iconst (v := 0) hx hb dL_at_21 (by decide) ?_
    cases hf
    exact jret_i hx hb hr hlk hC hK dL_at_22
  · replace hf := jif_f c1 hf
    refine lv_iload_n hx hb dL_at_4 rfl (lv_at hl 1 rfl) ?_
    refine lv_aload_n hx hb dL_at_5 rfl (lv_at hl 0 rfl) ?_
    refine va_get (D := (dC, dI)) (ci := 0) (v := .int (jgI z0 0)) (C := RcL) (T := TcL) (N := 2) hx hb ht in_cL hown hK hC.1 3 (wR_e3 cI cC ad z0) rfl 1 (by decide) (ht _ tw32) (fun _ h9 => h9) rfl dL_at_6 ?_
    refine lv_icmp_ge (tgt := 21) hx hb dL_at_9 (by decide) (fun c2 => ?_) (fun c2 => ?_)
    · replace hf := jif_t c2 hf
      refine lv_iconst (v := 0) hx hb dL_at_21 (by decide) ?_
      cases hf
      exact jret_i hx hb hr hlk hC hK dL_at_22
    · replace hf := jif_f c2 hf
      refine lv_aload_n hx hb dL_at_12 rfl (lv_at hl 0 rfl) ?_
      refine va_get (D := (dC, dI)) (ci := 0) (v := .ref (ad 4)) (C := RcL) (T := TcL) (N := 2) hx hb ht in_cL hown hK hC.1 3 (wR_e3 cI cC ad z0) rfl 0 (by decide) (ht _ tw31) (fun _ h9 => h9) rfl dL_at_13 ?_
      refine lv_iload_n hx hb dL_at_16 rfl (lv_at hl 1 rfl) ?_
      obtain ⟨hi3, hf⟩ := jC_in hf
      refine va_iald hx hb hK hC.1 4 0 (wR_e4 cI cC ad z0) rfl hi3 dL_at_17 ?_
      refine lv_goto (tgt := 22) hx hb dL_at_18 (by decide) ?_
      cases hf
      exact jret_i hx hb hr hlk hC hK dL_at_22

def fT_clear (N : Nat) (z0 : jS) : Option (Int32 × jS) := (jL (jsI z0 3 (0 : Int32)) fun s1 => (jL (jsI s1 4 (0 : Int32)) fun s2 => some (0, s2)))
set_option maxHeartbeats 4000000 in
set_option maxRecDepth 100000 in
theorem cT_clear (l : Launch) (dC : Nat → ClassId) (dI : Nat → Nat → Nat) (cI cC cL : ClassId) (sk sv : Nat → Nat) (ad : Nat → Nat) (N : Nat) (z0 z1 : jS) (r : Int32) (hf : fT_clear N z0 = some (r, z1)) : Cv l yT_clear (Cond.code yT_clear prog_6_method_2_code 1 none :: TB) ({ frames := 0, cells := 0, slots := 0, locals := 0 }) (dC, dI) vwCl [(cI, .int), (cC, .char), (cL, .object "SharedSyntax$Letters")] (jEn sk sv) [.ref (ad 1)] (wR cI cC ad z0) (wR cI cC ad z1) := by
  refine Cv_of (cc := prog_6_method_2_code) (maxL := 1) (ret := none) (by decide) rfl (Nat.le_of_ble_eq_true rfl) ?_
  intro p e s m below meth c ls F hl hK hN hC
  obtain ⟨hx, hb, hml, hown, hts, hr, hlk⟩ := F
  have ht : ∀ w ∈ TB, w.before [.ref (ad 1)].toArray s = true := fun w h => hts w (List.mem_cons_of_mem _ h)
  have hA : ∀ q, s.heap.size ≤ q → va_A (wR cI cC ad z0) s.heap.size q := fun q h => Or.inr h
  have hl : lv_has ls 1 [(0, .ref (ad 1))] := hl
  unfold fT_clear at hf
  refine lv_aload_n hx hb dT_clear_0 rfl (lv_at hl 0 rfl) ?_
  refine lv_iconst (v := 0) hx hb dT_clear_1 (by decide) ?_
  obtain ⟨s1, e1, hf⟩ := jL_s hf
  refine jput (ci := 2) (C := RcT) (T := TcT) (N := 9) hx hb ht in_cT tycT tycT_ok nmcT hown hK hC 1 (wR_e1 cI cC ad z0) rfl 7 (by decide) (ht _ tw63) (fun _ h9 => h9) rfl rfl (Nat.le_of_ble_eq_true rfl) dT_clear_2 ((wR_p3 cI cC ad z0 _).trans (congrArg (wR cI cC ad) e1.symm)) (fun H locs hC => ?_)
  refine lv_aload_n hx hb dT_clear_5 rfl (lv_at hl 0 rfl) ?_
  refine lv_iconst (v := 0) hx hb dT_clear_6 (by decide) ?_
  obtain ⟨s2, e2, hf⟩ := jL_s hf
  refine jput (ci := 2) (C := RcT) (T := TcT) (N := 9) hx hb ht in_cT tycT tycT_ok nmcT hown hK hC 1 (wR_e1 cI cC ad s1) rfl 8 (by decide) (ht _ tw66) (fun _ h9 => h9) rfl rfl (Nat.le_of_ble_eq_true rfl) dT_clear_7 ((wR_p4 cI cC ad s1 _).trans (congrArg (wR cI cC ad) e2.symm)) (fun H locs hC => ?_)
  cases hf
  exact jret_v hx hb hr hlk hC hK dT_clear_10

def fK_behindBlanks_b4 (N : Nat) (k4 : Int32 → Int32 → jS → Option (Int32 × jS)) (x2 x3 : Int32) (s0 : jS) : Option (Int32 × jS) := (if jgI s0 0 ≤ x3 then some (x3, s0) else (jB (fL_at N x3 s0) fun r402 s402 => (if r402 = (10 : Int32) then k4 (0 : Int32) (x3 + (1 : Int32)) s402 else (if r402 = (35 : Int32) then k4 (1 : Int32) (x3 + (1 : Int32)) s402 else (if r402 = (32 : Int32) then k4 x2 (x3 + (1 : Int32)) s402 else (if x2 = 0 then some (x3, s402) else k4 x2 (x3 + (1 : Int32)) s402))))))
def fK_behindBlanks_4 (N : Nat) : Nat → Int32 → Int32 → jS → Option (Int32 × jS)
  | 0 => fun _ _ _ => none
  | n + 1 => fun x2 x3 s0 => fK_behindBlanks_b4 N (fK_behindBlanks_4 N n) x2 x3 s0
def fK_behindBlanks (N : Nat) (a0 : Int32) (z0 : jS) : Option (Int32 × jS) := fK_behindBlanks_4 N N (0 : Int32) a0 z0
set_option maxHeartbeats 4000000 in
set_option maxRecDepth 100000 in
theorem cK_behindBlanks (l : Launch) (dC : Nat → ClassId) (dI : Nat → Nat → Nat) (cI cC cL : ClassId) (sk sv : Nat → Nat) (ad : Nat → Nat) (N : Nat) (a0 : Int32) (z0 z1 : jS) (r : Int32) (hf : fK_behindBlanks N a0 z0 = some (r, z1)) : Ci l yK_behindBlanks (Cond.code yK_behindBlanks prog_5_method_7_code 5 (some .int) :: TB) ({ frames := 1, cells := 0, slots := 0, locals := 21 }) (dC, dI) vwCl [(cI, .int), (cC, .char), (cL, .object "SharedSyntax$Letters")] (jEn sk sv) [.ref (ad 2), .int a0] (wR cI cC ad z0) (wR cI cC ad z1) r := by
  refine Ci_of (cc := prog_5_method_7_code) (maxL := 5) (ret := (some .int)) (by decide) rfl (Nat.le_of_ble_eq_true rfl) ?_
  intro p e s m below meth c ls F hl hK hN hC
  obtain ⟨hx, hb, hml, hown, hts, hr, hlk⟩ := F
  have ht : ∀ w ∈ TB, w.before [.ref (ad 2), .int a0].toArray s = true := fun w h => hts w (List.mem_cons_of_mem _ h)
  have hA : ∀ q, s.heap.size ≤ q → va_A (wR cI cC ad z0) s.heap.size q := fun q h => Or.inr h
  have hl : lv_has ls 5 [(0, .ref (ad 2)), (1, .int a0)] := hl
  have L4 : ∀ (n : Nat) (x2 x3 : Int32) (s0 : jS) (ls : Array Slot) (H : Heap) (locs : List Loc), lv_has ls 5 [(0, .ref (ad 2)), (2, .int x2), (3, .int x3)] → jcx (dC, dI) vwCl (va_A (wR cI cC ad z0) s.heap.size) s.heap (wR cI cC ad s0) H locs → fK_behindBlanks_4 N n x2 x3 s0 = some (r, z1) → W p l e ({ frames := 1, cells := 0, slots := 0, locals := 21 }) s m [.ref (ad 2), .int a0].toArray below meth c H locs 0 0 (MQ below (jQi (dC, dI) vwCl [(cI, .int), (cC, .char), (cL, .object "SharedSyntax$Letters")] (wR cI cC ad z0) (wR cI cC ad z1) s.heap.size r) [.ref (ad 2), .int a0].toArray s 0 0 (va_A (wR cI cC ad z0) s.heap.size)) (F0 m 4 ls []) := by
    intro n
    induction n with
    | zero => exact fun _ _ _ _ _ _ _ _ hf => nomatch hf
    | succ n ih4 =>
      intro x2 x3 s0 ls H locs hl hC hf
      replace hf : fK_behindBlanks_b4 N (fK_behindBlanks_4 N n) x2 x3 s0 = some (r, z1) := hf
      generalize fK_behindBlanks_4 N n = k4 at ih4 hf
      unfold fK_behindBlanks_b4 at hf
      refine lv_iload_n hx hb dK_behindBlanks_4 rfl (lv_at hl 2 rfl) ?_
      refine lv_aload_n hx hb dK_behindBlanks_5 rfl (lv_at hl 0 rfl) ?_
      refine va_get (D := (dC, dI)) (ci := 1) (v := .ref (ad 3)) (C := RcK) (T := TcK) (N := 6) hx hb ht in_cK hown hK hC.1 2 (wR_e2 cI cC ad s0) rfl 0 (by decide) (ht _ tw93) (fun _ h9 => h9) rfl dK_behindBlanks_6 ?_
      refine va_getN (D := (dC, dI)) (ci := 0) (v := .int (jgI s0 0)) (C := RcL) (T := TcL) (N := 2) hx hb ht in_cL hown hK hC.1 3 (wR_e3 cI cC ad s0) rfl 1 (by decide) (va_Nw.use rfl (hN.1 _ nw33)) (fun _ h9 => h9) rfl dK_behindBlanks_9 ?_
      refine lv_icmp_ge (tgt := 69) hx hb dK_behindBlanks_12 (by decide) (fun c401 => ?_) (fun c401 => ?_)
      · replace hf := jif_t c401 hf
        refine lv_iload_n hx hb dK_behindBlanks_69 rfl (lv_at hl 2 rfl) ?_
        cases hf
        exact jret_i hx hb hr hlk hC hK dK_behindBlanks_70
      · replace hf := jif_f c401 hf
        refine lv_aload_n hx hb dK_behindBlanks_15 rfl (lv_at hl 0 rfl) ?_
        refine va_get (D := (dC, dI)) (ci := 1) (v := .ref (ad 3)) (C := RcK) (T := TcK) (N := 6) hx hb ht in_cK hown hK hC.1 2 (wR_e2 cI cC ad s0) rfl 0 (by decide) (ht _ tw93) (fun _ h9 => h9) rfl dK_behindBlanks_16 ?_
        refine lv_iload_n hx hb dK_behindBlanks_19 rfl (lv_at hl 2 rfl) ?_
        obtain ⟨r402, s402, hc402, hf⟩ := jB_some hf
        refine jcall_i (va_runV (C := RcL) (As := [.int x3]) (rest := []) ⟨hx, hb, hml, hown, hts⟩ ((cL_at l dC dI cI cC cL sk sv ad N x3 s0 s402 r402 hc402) _) ⟨(callB_of 1 hts (tb_good tw164) rfl rfl rfl (ht _ tw3) (ht _ tw161) (by decide +kernel) ⟨Nat.le_of_ble_eq_true rfl, Nat.le_of_ble_eq_true rfl⟩), ht _ tw162, ht _ tw163⟩ (jpreV (jEn_ok sk sv) hC hA hK hN (wR_e3 cI cC ad s0) rfl rfl _) rfl rfl hl.1 rfl (lv_room (Nat.le_of_ble_eq_true rfl)) dK_behindBlanks_20 ⟨Nat.le_refl _, Nat.le_refl _⟩) hC hA (fun H locs hC => ?_)
        refine lv_istore (lv' := [(4, .int r402), (0, .ref (ad 2)), (2, .int x2), (3, .int x3)]) hx hb dK_behindBlanks_23 hl (by decide) rfl (fun ls hl => ?_)
        refine lv_iload hx hb dK_behindBlanks_25 (lv_at hl 0 rfl) ?_
        refine lv_bipush (v := 10) hx hb dK_behindBlanks_27 (by decide) ?_
        refine lv_icmp_ne (tgt := 37) hx hb dK_behindBlanks_29 (by decide) (fun c403 => ?_) (fun c403 => ?_)
        · replace hf := jif_f c403 hf
          refine lv_iload hx hb dK_behindBlanks_37 (lv_at hl 0 rfl) ?_
          refine lv_bipush (v := 35) hx hb dK_behindBlanks_39 (by decide) ?_
          refine lv_icmp_ne (tgt := 49) hx hb dK_behindBlanks_41 (by decide) (fun c404 => ?_) (fun c404 => ?_)
          · replace hf := jif_f c404 hf
            refine lv_iload hx hb dK_behindBlanks_49 (lv_at hl 0 rfl) ?_
            refine lv_bipush (v := 32) hx hb dK_behindBlanks_51 (by decide) ?_
            refine lv_icmp_eq (tgt := 63) hx hb dK_behindBlanks_53 (by decide) (fun c405 => ?_) (fun c405 => ?_)
            · replace hf := jif_t c405 hf
              refine lv_iinc (k := 3) (v := (x3 + (1 : Int32))) (lv' := [(3, .int (x3 + (1 : Int32))), (4, .int r402), (0, .ref (ad 2)), (2, .int x2)]) hx hb dK_behindBlanks_63 hl rfl rfl (by decide) rfl (fun ls hl => ?_)
              refine lv_goto (tgt := 4) hx hb dK_behindBlanks_66 (by decide) ?_
              exact ih4 x2 (x3 + (1 : Int32)) s402 ls _ _ (lv_sub hl [2, 3, 0] rfl) hC hf
            · replace hf := jif_f c405 hf
              refine lv_iload_n hx hb dK_behindBlanks_56 rfl (lv_at hl 2 rfl) ?_
              refine lv_if_ne (tgt := 63) hx hb dK_behindBlanks_57 (by decide) (fun c406 => ?_) (fun c406 => ?_)
              · replace hf := jif_f c406 hf
                refine lv_iinc (k := 3) (v := (x3 + (1 : Int32))) (lv' := [(3, .int (x3 + (1 : Int32))), (4, .int r402), (0, .ref (ad 2)), (2, .int x2)]) hx hb dK_behindBlanks_63 hl rfl rfl (by decide) rfl (fun ls hl => ?_)
                refine lv_goto (tgt := 4) hx hb dK_behindBlanks_66 (by decide) ?_
                exact ih4 x2 (x3 + (1 : Int32)) s402 ls _ _ (lv_sub hl [2, 3, 0] rfl) hC hf
              · replace hf := jif_t c406 hf
                refine lv_goto (tgt := 69) hx hb dK_behindBlanks_60 (by decide) ?_
                refine lv_iload_n hx hb dK_behindBlanks_69 rfl (lv_at hl 3 rfl) ?_
                cases hf
                exact jret_i hx hb hr hlk hC hK dK_behindBlanks_70
          · replace hf := jif_t c404 hf
            refine lv_iconst (v := 1) hx hb dK_behindBlanks_44 (by decide) ?_
            refine lv_istore_n (lv' := [(2, .int (1 : Int32)), (4, .int r402), (0, .ref (ad 2)), (3, .int x3)]) hx hb dK_behindBlanks_45 rfl hl (by decide) rfl (fun ls hl => ?_)
            refine lv_goto (tgt := 63) hx hb dK_behindBlanks_46 (by decide) ?_
            refine lv_iinc (k := 3) (v := (x3 + (1 : Int32))) (lv' := [(3, .int (x3 + (1 : Int32))), (2, .int (1 : Int32)), (4, .int r402), (0, .ref (ad 2))]) hx hb dK_behindBlanks_63 hl rfl rfl (by decide) rfl (fun ls hl => ?_)
            refine lv_goto (tgt := 4) hx hb dK_behindBlanks_66 (by decide) ?_
            exact ih4 (1 : Int32) (x3 + (1 : Int32)) s402 ls _ _ (lv_sub hl [3, 1, 0] rfl) hC hf
        · replace hf := jif_t c403 hf
          refine lv_iconst (v := 0) hx hb dK_behindBlanks_32 (by decide) ?_
          refine lv_istore_n (lv' := [(2, .int (0 : Int32)), (4, .int r402), (0, .ref (ad 2)), (3, .int x3)]) hx hb dK_behindBlanks_33 rfl hl (by decide) rfl (fun ls hl => ?_)
          refine lv_goto (tgt := 63) hx hb dK_behindBlanks_34 (by decide) ?_
          refine lv_iinc (k := 3) (v := (x3 + (1 : Int32))) (lv' := [(3, .int (x3 + (1 : Int32))), (2, .int (0 : Int32)), (4, .int r402), (0, .ref (ad 2))]) hx hb dK_behindBlanks_63 hl rfl rfl (by decide) rfl (fun ls hl => ?_)
          refine lv_goto (tgt := 4) hx hb dK_behindBlanks_66 (by decide) ?_
          exact ih4 (0 : Int32) (x3 + (1 : Int32)) s402 ls _ _ (lv_sub hl [3, 1, 0] rfl) hC hf
  unfold fK_behindBlanks at hf
  refine lv_iconst (v := 0) hx hb dK_behindBlanks_0 (by decide) ?_
  refine lv_istore_n (lv' := [(2, .int (0 : Int32)), (0, .ref (ad 2)), (1, .int a0)]) hx hb dK_behindBlanks_1 rfl hl (by decide) rfl (fun ls hl => ?_)
  refine lv_iload_n hx hb dK_behindBlanks_2 rfl (lv_at hl 2 rfl) ?_
  refine lv_istore_n (lv' := [(3, .int a0), (2, .int (0 : Int32)), (0, .ref (ad 2)), (1, .int a0)]) hx hb dK_behindBlanks_3 rfl hl (by decide) rfl (fun ls hl => ?_)
  exact L4 N (0 : Int32) a0 z0 ls _ _ (lv_sub hl [2, 1, 0] rfl) hC hf

def fK_isSmallLetter (N : Nat) (a0 : Int32) (z0 : jS) : Option (Int32 × jS) := (if a0 < (97 : Int32) then some ((0 : Int32), z0) else (if (122 : Int32) < a0 then some ((0 : Int32), z0) else some ((1 : Int32), z0)))
set_option maxHeartbeats 4000000 in
set_option maxRecDepth 100000 in
theorem cK_isSmallLetter (l : Launch) (dC : Nat → ClassId) (dI : Nat → Nat → Nat) (cI cC cL : ClassId) (sk sv : Nat → Nat) (ad : Nat → Nat) (N : Nat) (a0 : Int32) (z0 z1 : jS) (r : Int32) (hf : fK_isSmallLetter N a0 z0 = some (r, z1)) : Ci l yK_isSmallLetter (Cond.code yK_isSmallLetter prog_5_method_13_code 1 (some .boolean) :: TB) ({ frames := 0, cells := 0, slots := 0, locals := 0 }) (dC, dI) vwCl [(cI, .int), (cC, .char), (cL, .object "SharedSyntax$Letters")] (jEn sk sv) [.int a0] (wR cI cC ad z0) (wR cI cC ad z1) r := by
  refine Ci_of (cc := prog_5_method_13_code) (maxL := 1) (ret := (some .boolean)) (by decide) rfl (Nat.le_of_ble_eq_true rfl) ?_
  intro p e s m below meth c ls F hl hK hN hC
  obtain ⟨hx, hb, hml, hown, hts, hr, hlk⟩ := F
  have ht : ∀ w ∈ TB, w.before [.int a0].toArray s = true := fun w h => hts w (List.mem_cons_of_mem _ h)
  have hA : ∀ q, s.heap.size ≤ q → va_A (wR cI cC ad z0) s.heap.size q := fun q h => Or.inr h
  have hl : lv_has ls 1 [(0, .int a0)] := hl
  unfold fK_isSmallLetter at hf
  refine lv_iload_n hx hb dK_isSmallLetter_0 rfl (lv_at hl 0 rfl) ?_
  refine lv_bipush (v := 97) hx hb dK_isSmallLetter_1 (by decide) ?_
  refine lv_icmp_lt (tgt := 16) hx hb dK_isSmallLetter_3 (by decide) (fun c1 => ?_) (fun c1 => ?_)
  · replace hf := jif_t c1 hf
    refine lv_iconst (v := 0) hx hb dK_isSmallLetter_16 (by decide) ?_
    cases hf
    exact jret_z hx hb hr (by decide +kernel) hlk hC hK dK_isSmallLetter_17
  · replace hf := jif_f c1 hf
    refine lv_iload_n hx hb dK_isSmallLetter_6 rfl (lv_at hl 0 rfl) ?_
    refine lv_bipush (v := 122) hx hb dK_isSmallLetter_7 (by decide) ?_
    refine lv_icmp_gt (tgt := 16) hx hb dK_isSmallLetter_9 (by decide) (fun c2 => ?_) (fun c2 => ?_)
    · replace hf := jif_t c2 hf
      refine lv_iconst (v := 0) hx hb dK_isSmallLetter_16 (by decide) ?_
      cases hf
      exact jret_z hx hb hr (by decide +kernel) hlk hC hK dK_isSmallLetter_17
    · replace hf := jif_f c2 hf
      refine lv_iconst (v := 1) hx hb dK_isSmallLetter_12 (by decide) ?_
      refine lv_goto (tgt := 17) hx hb dK_isSmallLetter_13 (by decide) ?_
      cases hf
      exact jret_z hx hb hr (by decide +kernel) hlk hC hK dK_isSmallLetter_17

def fK_isDigit (N : Nat) (a0 : Int32) (z0 : jS) : Option (Int32 × jS) := (if a0 < (48 : Int32) then some ((0 : Int32), z0) else (if (57 : Int32) < a0 then some ((0 : Int32), z0) else some ((1 : Int32), z0)))
set_option maxHeartbeats 4000000 in
set_option maxRecDepth 100000 in
theorem cK_isDigit (l : Launch) (dC : Nat → ClassId) (dI : Nat → Nat → Nat) (cI cC cL : ClassId) (sk sv : Nat → Nat) (ad : Nat → Nat) (N : Nat) (a0 : Int32) (z0 z1 : jS) (r : Int32) (hf : fK_isDigit N a0 z0 = some (r, z1)) : Ci l yK_isDigit (Cond.code yK_isDigit prog_5_method_14_code 1 (some .boolean) :: TB) ({ frames := 0, cells := 0, slots := 0, locals := 0 }) (dC, dI) vwCl [(cI, .int), (cC, .char), (cL, .object "SharedSyntax$Letters")] (jEn sk sv) [.int a0] (wR cI cC ad z0) (wR cI cC ad z1) r := by
  refine Ci_of (cc := prog_5_method_14_code) (maxL := 1) (ret := (some .boolean)) (by decide) rfl (Nat.le_of_ble_eq_true rfl) ?_
  intro p e s m below meth c ls F hl hK hN hC
  obtain ⟨hx, hb, hml, hown, hts, hr, hlk⟩ := F
  have ht : ∀ w ∈ TB, w.before [.int a0].toArray s = true := fun w h => hts w (List.mem_cons_of_mem _ h)
  have hA : ∀ q, s.heap.size ≤ q → va_A (wR cI cC ad z0) s.heap.size q := fun q h => Or.inr h
  have hl : lv_has ls 1 [(0, .int a0)] := hl
  unfold fK_isDigit at hf
  refine lv_iload_n hx hb dK_isDigit_0 rfl (lv_at hl 0 rfl) ?_
  refine lv_bipush (v := 48) hx hb dK_isDigit_1 (by decide) ?_
  refine lv_icmp_lt (tgt := 16) hx hb dK_isDigit_3 (by decide) (fun c1 => ?_) (fun c1 => ?_)
  · replace hf := jif_t c1 hf
    refine lv_iconst (v := 0) hx hb dK_isDigit_16 (by decide) ?_
    cases hf
    exact jret_z hx hb hr (by decide +kernel) hlk hC hK dK_isDigit_17
  · replace hf := jif_f c1 hf
    refine lv_iload_n hx hb dK_isDigit_6 rfl (lv_at hl 0 rfl) ?_
    refine lv_bipush (v := 57) hx hb dK_isDigit_7 (by decide) ?_
    refine lv_icmp_gt (tgt := 16) hx hb dK_isDigit_9 (by decide) (fun c2 => ?_) (fun c2 => ?_)
    · replace hf := jif_t c2 hf
      refine lv_iconst (v := 0) hx hb dK_isDigit_16 (by decide) ?_
      cases hf
      exact jret_z hx hb hr (by decide +kernel) hlk hC hK dK_isDigit_17
    · replace hf := jif_f c2 hf
      refine lv_iconst (v := 1) hx hb dK_isDigit_12 (by decide) ?_
      refine lv_goto (tgt := 17) hx hb dK_isDigit_13 (by decide) ?_
      cases hf
      exact jret_z hx hb hr (by decide +kernel) hlk hC hK dK_isDigit_17

def fK_behindOwn_b18 (N : Nat) (k18 : Int32 → jS → Option (Int32 × jS)) (x3 : Int32) (s0 : jS) : Option (Int32 × jS) := (if jgI s0 0 ≤ x3 then some (x3, s0) else (jB (fL_at N x3 s0) fun r1802 s1802 => (jB (fK_isSmallLetter N r1802 s1802) fun r1803 s1803 => (if r1803 = 0 then some (x3, s1803) else k18 (x3 + (1 : Int32)) s1803))))
def fK_behindOwn_18 (N : Nat) : Nat → Int32 → jS → Option (Int32 × jS)
  | 0 => fun _ _ => none
  | n + 1 => fun x3 s0 => fK_behindOwn_b18 N (fK_behindOwn_18 N n) x3 s0
def fK_behindOwn_b56 (N : Nat) (k56 : Int32 → jS → Option (Int32 × jS)) (x3 : Int32) (s0 : jS) : Option (Int32 × jS) := (if jgI s0 0 ≤ x3 then some (x3, s0) else (jB (fL_at N x3 s0) fun r5602 s5602 => (jB (fK_isDigit N r5602 s5602) fun r5603 s5603 => (if r5603 = 0 then some (x3, s5603) else k56 (x3 + (1 : Int32)) s5603))))
def fK_behindOwn_56 (N : Nat) : Nat → Int32 → jS → Option (Int32 × jS)
  | 0 => fun _ _ => none
  | n + 1 => fun x3 s0 => fK_behindOwn_b56 N (fK_behindOwn_56 N n) x3 s0
def fK_behindOwn (N : Nat) (a0 : Int32) (z0 : jS) : Option (Int32 × jS) := (jB (fL_at N a0 z0) fun r1 s1 => (jB (fK_isSmallLetter N r1 s1) fun r2 s2 => (if r2 = 0 then (jB (fK_isDigit N r1 s2) fun r4 s4 => (if r4 = 0 then (if jgI s4 0 ≤ a0 then some (a0, s4) else some ((a0 + (1 : Int32)), s4)) else fK_behindOwn_56 N N a0 s4)) else fK_behindOwn_18 N N a0 s2)))
set_option maxHeartbeats 4000000 in
set_option maxRecDepth 100000 in
theorem cK_behindOwn (l : Launch) (dC : Nat → ClassId) (dI : Nat → Nat → Nat) (cI cC cL : ClassId) (sk sv : Nat → Nat) (ad : Nat → Nat) (N : Nat) (a0 : Int32) (z0 z1 : jS) (r : Int32) (hf : fK_behindOwn N a0 z0 = some (r, z1)) : Ci l yK_behindOwn (Cond.code yK_behindOwn prog_5_method_8_code 4 (some .int) :: TB) ({ frames := 1, cells := 0, slots := 0, locals := 21 }) (dC, dI) vwCl [(cI, .int), (cC, .char), (cL, .object "SharedSyntax$Letters")] (jEn sk sv) [.ref (ad 2), .int a0] (wR cI cC ad z0) (wR cI cC ad z1) r := by
  refine Ci_of (cc := prog_5_method_8_code) (maxL := 4) (ret := (some .int)) (by decide) rfl (Nat.le_of_ble_eq_true rfl) ?_
  intro p e s m below meth c ls F hl hK hN hC
  obtain ⟨hx, hb, hml, hown, hts, hr, hlk⟩ := F
  have ht : ∀ w ∈ TB, w.before [.ref (ad 2), .int a0].toArray s = true := fun w h => hts w (List.mem_cons_of_mem _ h)
  have hA : ∀ q, s.heap.size ≤ q → va_A (wR cI cC ad z0) s.heap.size q := fun q h => Or.inr h
  have hl : lv_has ls 4 [(0, .ref (ad 2)), (1, .int a0)] := hl
  have L18 : ∀ (n : Nat) (x3 : Int32) (s0 : jS) (ls : Array Slot) (H : Heap) (locs : List Loc), lv_has ls 4 [(0, .ref (ad 2)), (3, .int x3)] → jcx (dC, dI) vwCl (va_A (wR cI cC ad z0) s.heap.size) s.heap (wR cI cC ad s0) H locs → fK_behindOwn_18 N n x3 s0 = some (r, z1) → W p l e ({ frames := 1, cells := 0, slots := 0, locals := 21 }) s m [.ref (ad 2), .int a0].toArray below meth c H locs 0 0 (MQ below (jQi (dC, dI) vwCl [(cI, .int), (cC, .char), (cL, .object "SharedSyntax$Letters")] (wR cI cC ad z0) (wR cI cC ad z1) s.heap.size r) [.ref (ad 2), .int a0].toArray s 0 0 (va_A (wR cI cC ad z0) s.heap.size)) (F0 m 18 ls []) := by
    intro n
    induction n with
    | zero => exact fun _ _ _ _ _ _ _ hf => nomatch hf
    | succ n ih18 =>
      intro x3 s0 ls H locs hl hC hf
      replace hf : fK_behindOwn_b18 N (fK_behindOwn_18 N n) x3 s0 = some (r, z1) := hf
      generalize fK_behindOwn_18 N n = k18 at ih18 hf
      unfold fK_behindOwn_b18 at hf
      refine lv_iload_n hx hb dK_behindOwn_18 rfl (lv_at hl 1 rfl) ?_
      refine lv_aload_n hx hb dK_behindOwn_19 rfl (lv_at hl 0 rfl) ?_
      refine va_get (D := (dC, dI)) (ci := 1) (v := .ref (ad 3)) (C := RcK) (T := TcK) (N := 6) hx hb ht in_cK hown hK hC.1 2 (wR_e2 cI cC ad s0) rfl 0 (by decide) (ht _ tw93) (fun _ h9 => h9) rfl dK_behindOwn_20 ?_
      refine va_getN (D := (dC, dI)) (ci := 0) (v := .int (jgI s0 0)) (C := RcL) (T := TcL) (N := 2) hx hb ht in_cL hown hK hC.1 3 (wR_e3 cI cC ad s0) rfl 1 (by decide) (va_Nw.use rfl (hN.1 _ nw33)) (fun _ h9 => h9) rfl dK_behindOwn_23 ?_
      refine lv_icmp_ge (tgt := 101) hx hb dK_behindOwn_26 (by decide) (fun c1801 => ?_) (fun c1801 => ?_)
      · replace hf := jif_t c1801 hf
        refine lv_iload_n hx hb dK_behindOwn_101 rfl (lv_at hl 1 rfl) ?_
        cases hf
        exact jret_i hx hb hr hlk hC hK dK_behindOwn_102
      · replace hf := jif_f c1801 hf
        refine lv_aload_n hx hb dK_behindOwn_29 rfl (lv_at hl 0 rfl) ?_
        refine va_get (D := (dC, dI)) (ci := 1) (v := .ref (ad 3)) (C := RcK) (T := TcK) (N := 6) hx hb ht in_cK hown hK hC.1 2 (wR_e2 cI cC ad s0) rfl 0 (by decide) (ht _ tw93) (fun _ h9 => h9) rfl dK_behindOwn_30 ?_
        refine lv_iload_n hx hb dK_behindOwn_33 rfl (lv_at hl 1 rfl) ?_
        obtain ⟨r1802, s1802, hc1802, hf⟩ := jB_some hf
        refine jcall_i (va_runV (C := RcL) (As := [.int x3]) (rest := []) ⟨hx, hb, hml, hown, hts⟩ ((cL_at l dC dI cI cC cL sk sv ad N x3 s0 s1802 r1802 hc1802) _) ⟨(callB_of 1 hts (tb_good tw164) rfl rfl rfl (ht _ tw3) (ht _ tw161) (by decide +kernel) ⟨Nat.le_of_ble_eq_true rfl, Nat.le_of_ble_eq_true rfl⟩), ht _ tw162, ht _ tw163⟩ (jpreV (jEn_ok sk sv) hC hA hK hN (wR_e3 cI cC ad s0) rfl rfl _) rfl rfl hl.1 rfl (lv_room (Nat.le_of_ble_eq_true rfl)) dK_behindOwn_34 ⟨Nat.le_refl _, Nat.le_refl _⟩) hC hA (fun H locs hC => ?_)
        obtain ⟨r1803, s1803, hc1803, hf⟩ := jB_some hf
        refine jcall_i (va_runS (As := [.int r1802]) (rest := []) ⟨hx, hb, hml, hown, hts⟩ ((cK_isSmallLetter l dC dI cI cC cL sk sv ad N r1802 s1802 s1803 r1803 hc1803) _) ⟨(callB_of 1 hts (tb_good tw171) rfl rfl rfl (ht _ tw5) (ht _ tw169) (by decide +kernel) ⟨Nat.le_of_ble_eq_true rfl, Nat.le_of_ble_eq_true rfl⟩), ht _ tw170⟩ (jpreS (jEn_ok sk sv) hC hA hK hN _) rfl rfl hl.1 rfl (lv_room (Nat.le_of_ble_eq_true rfl)) dK_behindOwn_37 ⟨Nat.le_refl _, Nat.le_refl _⟩) hC hA (fun H locs hC => ?_)
        refine lv_if_eq (tgt := 101) hx hb dK_behindOwn_40 (by decide) (fun c1804 => ?_) (fun c1804 => ?_)
        · replace hf := jif_t c1804 hf
          refine lv_iload_n hx hb dK_behindOwn_101 rfl (lv_at hl 1 rfl) ?_
          cases hf
          exact jret_i hx hb hr hlk hC hK dK_behindOwn_102
        · replace hf := jif_f c1804 hf
          refine lv_iinc (k := 1) (v := (x3 + (1 : Int32))) (lv' := [(3, .int (x3 + (1 : Int32))), (0, .ref (ad 2))]) hx hb dK_behindOwn_43 hl rfl rfl (by decide) rfl (fun ls hl => ?_)
          refine lv_goto (tgt := 18) hx hb dK_behindOwn_46 (by decide) ?_
          exact ih18 (x3 + (1 : Int32)) s1803 ls _ _ (lv_sub hl [1, 0] rfl) hC hf
  have L56 : ∀ (n : Nat) (x3 : Int32) (s0 : jS) (ls : Array Slot) (H : Heap) (locs : List Loc), lv_has ls 4 [(0, .ref (ad 2)), (3, .int x3)] → jcx (dC, dI) vwCl (va_A (wR cI cC ad z0) s.heap.size) s.heap (wR cI cC ad s0) H locs → fK_behindOwn_56 N n x3 s0 = some (r, z1) → W p l e ({ frames := 1, cells := 0, slots := 0, locals := 21 }) s m [.ref (ad 2), .int a0].toArray below meth c H locs 0 0 (MQ below (jQi (dC, dI) vwCl [(cI, .int), (cC, .char), (cL, .object "SharedSyntax$Letters")] (wR cI cC ad z0) (wR cI cC ad z1) s.heap.size r) [.ref (ad 2), .int a0].toArray s 0 0 (va_A (wR cI cC ad z0) s.heap.size)) (F0 m 56 ls []) := by
    intro n
    induction n with
    | zero => exact fun _ _ _ _ _ _ _ hf => nomatch hf
    | succ n ih56 =>
      intro x3 s0 ls H locs hl hC hf
      replace hf : fK_behindOwn_b56 N (fK_behindOwn_56 N n) x3 s0 = some (r, z1) := hf
      generalize fK_behindOwn_56 N n = k56 at ih56 hf
      unfold fK_behindOwn_b56 at hf
      refine lv_iload_n hx hb dK_behindOwn_56 rfl (lv_at hl 1 rfl) ?_
      refine lv_aload_n hx hb dK_behindOwn_57 rfl (lv_at hl 0 rfl) ?_
      refine va_get (D := (dC, dI)) (ci := 1) (v := .ref (ad 3)) (C := RcK) (T := TcK) (N := 6) hx hb ht in_cK hown hK hC.1 2 (wR_e2 cI cC ad s0) rfl 0 (by decide) (ht _ tw93) (fun _ h9 => h9) rfl dK_behindOwn_58 ?_
      refine va_getN (D := (dC, dI)) (ci := 0) (v := .int (jgI s0 0)) (C := RcL) (T := TcL) (N := 2) hx hb ht in_cL hown hK hC.1 3 (wR_e3 cI cC ad s0) rfl 1 (by decide) (va_Nw.use rfl (hN.1 _ nw33)) (fun _ h9 => h9) rfl dK_behindOwn_61 ?_
      refine lv_icmp_ge (tgt := 101) hx hb dK_behindOwn_64 (by decide) (fun c5601 => ?_) (fun c5601 => ?_)
      · replace hf := jif_t c5601 hf
        refine lv_iload_n hx hb dK_behindOwn_101 rfl (lv_at hl 1 rfl) ?_
        cases hf
        exact jret_i hx hb hr hlk hC hK dK_behindOwn_102
      · replace hf := jif_f c5601 hf
        refine lv_aload_n hx hb dK_behindOwn_67 rfl (lv_at hl 0 rfl) ?_
        refine va_get (D := (dC, dI)) (ci := 1) (v := .ref (ad 3)) (C := RcK) (T := TcK) (N := 6) hx hb ht in_cK hown hK hC.1 2 (wR_e2 cI cC ad s0) rfl 0 (by decide) (ht _ tw93) (fun _ h9 => h9) rfl dK_behindOwn_68 ?_
        refine lv_iload_n hx hb dK_behindOwn_71 rfl (lv_at hl 1 rfl) ?_
        obtain ⟨r5602, s5602, hc5602, hf⟩ := jB_some hf
        refine jcall_i (va_runV (C := RcL) (As := [.int x3]) (rest := []) ⟨hx, hb, hml, hown, hts⟩ ((cL_at l dC dI cI cC cL sk sv ad N x3 s0 s5602 r5602 hc5602) _) ⟨(callB_of 1 hts (tb_good tw164) rfl rfl rfl (ht _ tw3) (ht _ tw161) (by decide +kernel) ⟨Nat.le_of_ble_eq_true rfl, Nat.le_of_ble_eq_true rfl⟩), ht _ tw162, ht _ tw163⟩ (jpreV (jEn_ok sk sv) hC hA hK hN (wR_e3 cI cC ad s0) rfl rfl _) rfl rfl hl.1 rfl (lv_room (Nat.le_of_ble_eq_true rfl)) dK_behindOwn_72 ⟨Nat.le_refl _, Nat.le_refl _⟩) hC hA (fun H locs hC => ?_)
        obtain ⟨r5603, s5603, hc5603, hf⟩ := jB_some hf
        refine jcall_i (va_runS (As := [.int r5602]) (rest := []) ⟨hx, hb, hml, hown, hts⟩ ((cK_isDigit l dC dI cI cC cL sk sv ad N r5602 s5602 s5603 r5603 hc5603) _) ⟨(callB_of 1 hts (tb_good tw174) rfl rfl rfl (ht _ tw5) (ht _ tw172) (by decide +kernel) ⟨Nat.le_of_ble_eq_true rfl, Nat.le_of_ble_eq_true rfl⟩), ht _ tw173⟩ (jpreS (jEn_ok sk sv) hC hA hK hN _) rfl rfl hl.1 rfl (lv_room (Nat.le_of_ble_eq_true rfl)) dK_behindOwn_75 ⟨Nat.le_refl _, Nat.le_refl _⟩) hC hA (fun H locs hC => ?_)
        refine lv_if_eq (tgt := 101) hx hb dK_behindOwn_78 (by decide) (fun c5604 => ?_) (fun c5604 => ?_)
        · replace hf := jif_t c5604 hf
          refine lv_iload_n hx hb dK_behindOwn_101 rfl (lv_at hl 1 rfl) ?_
          cases hf
          exact jret_i hx hb hr hlk hC hK dK_behindOwn_102
        · replace hf := jif_f c5604 hf
          refine lv_iinc (k := 1) (v := (x3 + (1 : Int32))) (lv' := [(3, .int (x3 + (1 : Int32))), (0, .ref (ad 2))]) hx hb dK_behindOwn_81 hl rfl rfl (by decide) rfl (fun ls hl => ?_)
          refine lv_goto (tgt := 56) hx hb dK_behindOwn_84 (by decide) ?_
          exact ih56 (x3 + (1 : Int32)) s5603 ls _ _ (lv_sub hl [1, 0] rfl) hC hf
  unfold fK_behindOwn at hf
  refine lv_aload_n hx hb dK_behindOwn_0 rfl (lv_at hl 0 rfl) ?_
  refine va_get (D := (dC, dI)) (ci := 1) (v := .ref (ad 3)) (C := RcK) (T := TcK) (N := 6) hx hb ht in_cK hown hK hC.1 2 (wR_e2 cI cC ad z0) rfl 0 (by decide) (ht _ tw93) (fun _ h9 => h9) rfl dK_behindOwn_1 ?_
  refine lv_iload_n hx hb dK_behindOwn_4 rfl (lv_at hl 1 rfl) ?_
  obtain ⟨r1, s1, hc1, hf⟩ := jB_some hf
  refine jcall_i (va_runV (C := RcL) (As := [.int a0]) (rest := []) ⟨hx, hb, hml, hown, hts⟩ ((cL_at l dC dI cI cC cL sk sv ad N a0 z0 s1 r1 hc1) _) ⟨(callB_of 1 hts (tb_good tw164) rfl rfl rfl (ht _ tw3) (ht _ tw161) (by decide +kernel) ⟨Nat.le_of_ble_eq_true rfl, Nat.le_of_ble_eq_true rfl⟩), ht _ tw162, ht _ tw163⟩ (jpreV (jEn_ok sk sv) hC hA hK hN (wR_e3 cI cC ad z0) rfl rfl _) rfl rfl hl.1 rfl (lv_room (Nat.le_of_ble_eq_true rfl)) dK_behindOwn_5 ⟨Nat.le_refl _, Nat.le_refl _⟩) hC hA (fun H locs hC => ?_)
  refine lv_istore_n (lv' := [(2, .int r1), (0, .ref (ad 2)), (1, .int a0)]) hx hb dK_behindOwn_8 rfl hl (by decide) rfl (fun ls hl => ?_)
  refine lv_iload_n hx hb dK_behindOwn_9 rfl (lv_at hl 2 rfl) ?_
  refine lv_istore_n (lv' := [(3, .int a0), (2, .int r1), (0, .ref (ad 2)), (1, .int a0)]) hx hb dK_behindOwn_10 rfl hl (by decide) rfl (fun ls hl => ?_)
  refine lv_iload_n hx hb dK_behindOwn_11 rfl (lv_at hl 1 rfl) ?_
  obtain ⟨r2, s2, hc2, hf⟩ := jB_some hf
  refine jcall_i (va_runS (As := [.int r1]) (rest := []) ⟨hx, hb, hml, hown, hts⟩ ((cK_isSmallLetter l dC dI cI cC cL sk sv ad N r1 s1 s2 r2 hc2) _) ⟨(callB_of 1 hts (tb_good tw171) rfl rfl rfl (ht _ tw5) (ht _ tw169) (by decide +kernel) ⟨Nat.le_of_ble_eq_true rfl, Nat.le_of_ble_eq_true rfl⟩), ht _ tw170⟩ (jpreS (jEn_ok sk sv) hC hA hK hN _) rfl rfl hl.1 rfl (lv_room (Nat.le_of_ble_eq_true rfl)) dK_behindOwn_12 ⟨Nat.le_refl _, Nat.le_refl _⟩) hC hA (fun H locs hC => ?_)
  refine lv_if_eq (tgt := 49) hx hb dK_behindOwn_15 (by decide) (fun c3 => ?_) (fun c3 => ?_)
  · replace hf := jif_t c3 hf
    refine lv_iload_n hx hb dK_behindOwn_49 rfl (lv_at hl 1 rfl) ?_
    obtain ⟨r4, s4, hc4, hf⟩ := jB_some hf
    refine jcall_i (va_runS (As := [.int r1]) (rest := []) ⟨hx, hb, hml, hown, hts⟩ ((cK_isDigit l dC dI cI cC cL sk sv ad N r1 s2 s4 r4 hc4) _) ⟨(callB_of 1 hts (tb_good tw174) rfl rfl rfl (ht _ tw5) (ht _ tw172) (by decide +kernel) ⟨Nat.le_of_ble_eq_true rfl, Nat.le_of_ble_eq_true rfl⟩), ht _ tw173⟩ (jpreS (jEn_ok sk sv) hC hA hK hN _) rfl rfl hl.1 rfl (lv_room (Nat.le_of_ble_eq_true rfl)) dK_behindOwn_50 ⟨Nat.le_refl _, Nat.le_refl _⟩) hC hA (fun H locs hC => ?_)
    refine lv_if_eq (tgt := 87) hx hb dK_behindOwn_53 (by decide) (fun c5 => ?_) (fun c5 => ?_)
    · replace hf := jif_t c5 hf
      refine lv_iload_n hx hb dK_behindOwn_87 rfl (lv_at hl 0 rfl) ?_
      refine lv_aload_n hx hb dK_behindOwn_88 rfl (lv_at hl 2 rfl) ?_
      refine va_get (D := (dC, dI)) (ci := 1) (v := .ref (ad 3)) (C := RcK) (T := TcK) (N := 6) hx hb ht in_cK hown hK hC.1 2 (wR_e2 cI cC ad s4) rfl 0 (by decide) (ht _ tw93) (fun _ h9 => h9) rfl dK_behindOwn_89 ?_
      refine va_getN (D := (dC, dI)) (ci := 0) (v := .int (jgI s4 0)) (C := RcL) (T := TcL) (N := 2) hx hb ht in_cL hown hK hC.1 3 (wR_e3 cI cC ad s4) rfl 1 (by decide) (va_Nw.use rfl (hN.1 _ nw33)) (fun _ h9 => h9) rfl dK_behindOwn_92 ?_
      refine lv_icmp_ge (tgt := 101) hx hb dK_behindOwn_95 (by decide) (fun c6 => ?_) (fun c6 => ?_)
      · replace hf := jif_t c6 hf
        refine lv_iload_n hx hb dK_behindOwn_101 rfl (lv_at hl 0 rfl) ?_
        cases hf
        exact jret_i hx hb hr hlk hC hK dK_behindOwn_102
      · replace hf := jif_f c6 hf
        refine lv_iinc (k := 0) (v := (a0 + (1 : Int32))) (lv' := [(3, .int (a0 + (1 : Int32))), (2, .int r1), (0, .ref (ad 2)), (1, .int a0)]) hx hb dK_behindOwn_98 hl rfl rfl (by decide) rfl (fun ls hl => ?_)
        refine lv_iload_n hx hb dK_behindOwn_101 rfl (lv_at hl 0 rfl) ?_
        cases hf
        exact jret_i hx hb hr hlk hC hK dK_behindOwn_102
    · replace hf := jif_f c5 hf
      exact L56 N a0 s4 ls _ _ (lv_sub hl [2, 0] rfl) hC hf
  · replace hf := jif_f c3 hf
    exact L18 N a0 s2 ls _ _ (lv_sub hl [2, 0] rfl) hC hf

def fJS_isLatin1_s3 (N : Nat) (z0 : jS) : Option (Int32 × jS) := some ((1 : Int32), z0)
set_option maxHeartbeats 4000000 in
set_option maxRecDepth 100000 in
theorem cJS_isLatin1_s3 (l : Launch) (dC : Nat → ClassId) (dI : Nat → Nat → Nat) (cI cC cL : ClassId) (sk sv : Nat → Nat) (ad : Nat → Nat) (N : Nat) (z0 z1 : jS) (r : Int32) (hf : fJS_isLatin1_s3 N z0 = some (r, z1)) : Ci l yJS_isLatin1 (Cond.code yJS_isLatin1 prog_11_method_154_code 1 (some .boolean) :: TB) ({ frames := 0, cells := 0, slots := 0, locals := 0 }) (dC, dI) vwCl [(cI, .int), (cC, .char), (cL, .object "SharedSyntax$Letters")] (jEn sk sv) [.ref (sk 3)] (wR cI cC ad z0) (wR cI cC ad z1) r := by
  refine Ci_of (cc := prog_11_method_154_code) (maxL := 1) (ret := (some .boolean)) (by decide) rfl (Nat.le_of_ble_eq_true rfl) ?_
  intro p e s m below meth c ls F hl hK hN hC
  obtain ⟨hx, hb, hml, hown, hts, hr, hlk⟩ := F
  have ht : ∀ w ∈ TB, w.before [.ref (sk 3)].toArray s = true := fun w h => hts w (List.mem_cons_of_mem _ h)
  have hA : ∀ q, s.heap.size ≤ q → va_A (wR cI cC ad z0) s.heap.size q := fun q h => Or.inr h
  have hl : lv_has ls 1 [(0, .ref (sk 3))] := hl
  unfold fJS_isLatin1_s3 at hf
  refine va_gets hx hb hN.2.2.2.1 hC.2.2 hown (ht _ tw196) (fun _ h9 => h9) dJS_isLatin1_0 ?_
  refine lv_if_eq (tgt := 17) hx hb dJS_isLatin1_3 (by decide) (fun c => absurd c (by decide)) (fun _ => ?_)
  refine lv_aload_n hx hb dJS_isLatin1_6 rfl (lv_at hl 0 rfl) ?_
  refine vk_getf hx hb (hN.2.1.1 3 (by decide)).2.1 hC.2.2 hown (ht _ tw973) (fun _ h9 => h9) dJS_isLatin1_7 ?_
  refine lv_if_ne (tgt := 17) hx hb dJS_isLatin1_10 (by decide) (fun c => absurd c (by decide)) (fun _ => ?_)
  refine lv_iconst (v := 1) hx hb dJS_isLatin1_13 (by decide) ?_
  refine lv_goto (tgt := 18) hx hb dJS_isLatin1_14 (by decide) ?_
  cases hf
  exact jret_z hx hb hr (by decide +kernel) hlk hC hK dJS_isLatin1_18

def fJS_coder_s3 (N : Nat) (z0 : jS) : Option (Int32 × jS) := some ((0 : Int32), z0)
set_option maxHeartbeats 4000000 in
set_option maxRecDepth 100000 in
theorem cJS_coder_s3 (l : Launch) (dC : Nat → ClassId) (dI : Nat → Nat → Nat) (cI cC cL : ClassId) (sk sv : Nat → Nat) (ad : Nat → Nat) (N : Nat) (z0 z1 : jS) (r : Int32) (hf : fJS_coder_s3 N z0 = some (r, z1)) : Ci l yJS_coder (Cond.code yJS_coder prog_11_method_152_code 1 (some .byte) :: TB) ({ frames := 0, cells := 0, slots := 0, locals := 0 }) (dC, dI) vwCl [(cI, .int), (cC, .char), (cL, .object "SharedSyntax$Letters")] (jEn sk sv) [.ref (sk 3)] (wR cI cC ad z0) (wR cI cC ad z1) r := by
  refine Ci_of (cc := prog_11_method_152_code) (maxL := 1) (ret := (some .byte)) (by decide) rfl (Nat.le_of_ble_eq_true rfl) ?_
  intro p e s m below meth c ls F hl hK hN hC
  obtain ⟨hx, hb, hml, hown, hts, hr, hlk⟩ := F
  have ht : ∀ w ∈ TB, w.before [.ref (sk 3)].toArray s = true := fun w h => hts w (List.mem_cons_of_mem _ h)
  have hA : ∀ q, s.heap.size ≤ q → va_A (wR cI cC ad z0) s.heap.size q := fun q h => Or.inr h
  have hl : lv_has ls 1 [(0, .ref (sk 3))] := hl
  unfold fJS_coder_s3 at hf
  refine va_gets hx hb hN.2.2.2.1 hC.2.2 hown (ht _ tw196) (fun _ h9 => h9) dJS_coder_0 ?_
  refine lv_if_eq (tgt := 13) hx hb dJS_coder_3 (by decide) (fun c => absurd c (by decide)) (fun _ => ?_)
  refine lv_aload_n hx hb dJS_coder_6 rfl (lv_at hl 0 rfl) ?_
  refine vk_getf hx hb (hN.2.1.1 3 (by decide)).2.1 hC.2.2 hown (ht _ tw973) (fun _ h9 => h9) dJS_coder_7 ?_
  refine lv_goto (tgt := 14) hx hb dJS_coder_10 (by decide) ?_
  cases hf
  exact jret_z hx hb hr (by decide +kernel) hlk hC hK dJS_coder_14

def fJS_length_s3 (N : Nat) (z0 : jS) : Option (Int32 × jS) := (jB (fJS_coder_s3 N z0) fun r1 s1 => some (((10 : Int32) >>> (r1 &&& 31)), s1))
set_option maxHeartbeats 4000000 in
set_option maxRecDepth 100000 in
theorem cJS_length_s3 (l : Launch) (dC : Nat → ClassId) (dI : Nat → Nat → Nat) (cI cC cL : ClassId) (sk sv : Nat → Nat) (ad : Nat → Nat) (N : Nat) (z0 z1 : jS) (r : Int32) (hf : fJS_length_s3 N z0 = some (r, z1)) : Ci l yJS_length (Cond.code yJS_length prog_11_method_54_code 1 (some .int) :: TB) ({ frames := 1, cells := 0, slots := 0, locals := 20 }) (dC, dI) vwCl [(cI, .int), (cC, .char), (cL, .object "SharedSyntax$Letters")] (jEn sk sv) [.ref (sk 3)] (wR cI cC ad z0) (wR cI cC ad z1) r := by
  refine Ci_of (cc := prog_11_method_54_code) (maxL := 1) (ret := (some .int)) (by decide) rfl (Nat.le_of_ble_eq_true rfl) ?_
  intro p e s m below meth c ls F hl hK hN hC
  obtain ⟨hx, hb, hml, hown, hts, hr, hlk⟩ := F
  have ht : ∀ w ∈ TB, w.before [.ref (sk 3)].toArray s = true := fun w h => hts w (List.mem_cons_of_mem _ h)
  have hA : ∀ q, s.heap.size ≤ q → va_A (wR cI cC ad z0) s.heap.size q := fun q h => Or.inr h
  have hl : lv_has ls 1 [(0, .ref (sk 3))] := hl
  unfold fJS_length_s3 at hf
  refine lv_aload_n hx hb dJS_length_0 rfl (lv_at hl 0 rfl) ?_
  refine vk_getf hx hb (hN.2.1.1 3 (by decide)).2.2.1 hC.2.2 hown (ht _ tw972) (fun _ h9 => h9) dJS_length_1 ?_
  refine va_tlen (v := 10) hx hb (hN.2.1.1 3 (by decide)).2.2.2 hC.2.2 (by decide) dJS_length_4 ?_
  refine lv_aload_n hx hb dJS_length_5 rfl (lv_at hl 0 rfl) ?_
  obtain ⟨r1, s1, hc1, hf⟩ := jB_some hf
  refine jcall_i (va_runV (C := "java/lang/String") (As := []) (rest := [.int (10 : Int32)]) ⟨hx, hb, hml, hown, hts⟩ ((cJS_coder_s3 l dC dI cI cC cL sk sv ad N z0 s1 r1 hc1) _) ⟨(callB_of 0 hts (tb_good tw195) rfl rfl rfl (ht _ tw6) (ht _ tw192) (by decide +kernel) ⟨Nat.le_of_ble_eq_true rfl, Nat.le_of_ble_eq_true rfl⟩), ht _ tw193, ht _ tw194⟩ (jpreO (jEn_ok sk sv) hC hA hK hN (vk_recv hN.2.1 (by decide) hC.2.2) _) rfl rfl hl.1 rfl (lv_room (Nat.le_of_ble_eq_true rfl)) dJS_length_6 ⟨Nat.le_refl _, Nat.le_refl _⟩) hC hA (fun H locs hC => ?_)
  refine lv_ishr hx hb dJS_length_9 ?_
  cases hf
  exact jret_i hx hb hr hlk hC hK dJS_length_10

def fJN_canEncode (N : Nat) (a0 : Int32) (z0 : jS) : Option (Int32 × jS) := (if a0 < 0 then some ((0 : Int32), z0) else (if (255 : Int32) < a0 then some ((0 : Int32), z0) else some ((1 : Int32), z0)))
set_option maxHeartbeats 4000000 in
set_option maxRecDepth 100000 in
theorem cJN_canEncode (l : Launch) (dC : Nat → ClassId) (dI : Nat → Nat → Nat) (cI cC cL : ClassId) (sk sv : Nat → Nat) (ad : Nat → Nat) (N : Nat) (a0 : Int32) (z0 z1 : jS) (r : Int32) (hf : fJN_canEncode N a0 z0 = some (r, z1)) : Ci l yJN_canEncode (Cond.code yJN_canEncode prog_12_method_4_code 1 (some .boolean) :: TB) ({ frames := 0, cells := 0, slots := 0, locals := 0 }) (dC, dI) vwCl [(cI, .int), (cC, .char), (cL, .object "SharedSyntax$Letters")] (jEn sk sv) [.int a0] (wR cI cC ad z0) (wR cI cC ad z1) r := by
  refine Ci_of (cc := prog_12_method_4_code) (maxL := 1) (ret := (some .boolean)) (by decide) rfl (Nat.le_of_ble_eq_true rfl) ?_
  intro p e s m below meth c ls F hl hK hN hC
  obtain ⟨hx, hb, hml, hown, hts, hr, hlk⟩ := F
  have ht : ∀ w ∈ TB, w.before [.int a0].toArray s = true := fun w h => hts w (List.mem_cons_of_mem _ h)
  have hA : ∀ q, s.heap.size ≤ q → va_A (wR cI cC ad z0) s.heap.size q := fun q h => Or.inr h
  have hl : lv_has ls 1 [(0, .int a0)] := hl
  unfold fJN_canEncode at hf
  refine lv_iload_n hx hb dJN_canEncode_0 rfl (lv_at hl 0 rfl) ?_
  refine lv_if_lt (tgt := 15) hx hb dJN_canEncode_1 (by decide) (fun c1 => ?_) (fun c1 => ?_)
  · replace hf := jif_t c1 hf
    refine lv_iconst (v := 0) hx hb dJN_canEncode_15 (by decide) ?_
    cases hf
    exact jret_z hx hb hr (by decide +kernel) hlk hC hK dJN_canEncode_16
  · replace hf := jif_f c1 hf
    refine lv_iload_n hx hb dJN_canEncode_4 rfl (lv_at hl 0 rfl) ?_
    refine lv_sipush (v := 255) hx hb dJN_canEncode_5 (by decide) ?_
    refine lv_icmp_gt (tgt := 15) hx hb dJN_canEncode_8 (by decide) (fun c2 => ?_) (fun c2 => ?_)
    · replace hf := jif_t c2 hf
      refine lv_iconst (v := 0) hx hb dJN_canEncode_15 (by decide) ?_
      cases hf
      exact jret_z hx hb hr (by decide +kernel) hlk hC hK dJN_canEncode_16
    · replace hf := jif_f c2 hf
      refine lv_iconst (v := 1) hx hb dJN_canEncode_11 (by decide) ?_
      refine lv_goto (tgt := 16) hx hb dJN_canEncode_12 (by decide) ?_
      cases hf
      exact jret_z hx hb hr (by decide +kernel) hlk hC hK dJN_canEncode_16

def fJN_indexOfChar_b3_b7 (N : Nat) (k7 : Int32 → Int32 → Int32 → jS → Option (Int32 × jS)) (x3 x4 x5 : Int32) (s0 : jS) : Option (Int32 × jS) := (if x3 ≤ x5 then some ((-1 : Int32), s0) else (if jIn x5 10 = true then (if ((bytJ.getD 3 []).getD (x5).toNatClampNeg 0) = x4 then some (x5, s0) else k7 x3 x4 (x5 + (1 : Int32)) s0) else none))
def fJN_indexOfChar_b3_7 (N : Nat) : Nat → Int32 → Int32 → Int32 → jS → Option (Int32 × jS)
  | 0 => fun _ _ _ _ => none
  | n + 1 => fun x3 x4 x5 s0 => fJN_indexOfChar_b3_b7 N (fJN_indexOfChar_b3_7 N n) x3 x4 x5 s0
def fJN_indexOfChar_b3 (N : Nat) (a1 a2 a3 : Int32) (z0 : jS) : Option (Int32 × jS) := fJN_indexOfChar_b3_7 N N a3 ((a1).toInt8.toInt32) a2 z0
set_option maxHeartbeats 4000000 in
set_option maxRecDepth 100000 in
theorem cJN_indexOfChar_b3 (l : Launch) (dC : Nat → ClassId) (dI : Nat → Nat → Nat) (cI cC cL : ClassId) (sk sv : Nat → Nat) (ad : Nat → Nat) (N : Nat) (a1 a2 a3 : Int32) (z0 z1 : jS) (r : Int32) (hf : fJN_indexOfChar_b3 N a1 a2 a3 z0 = some (r, z1)) : Ci l yJN_indexOfChar (Cond.code yJN_indexOfChar prog_12_method_23_code 6 (some .int) :: TB) ({ frames := 0, cells := 0, slots := 0, locals := 0 }) (dC, dI) vwCl [(cI, .int), (cC, .char), (cL, .object "SharedSyntax$Letters")] (jEn sk sv) [.ref (sv 3), .int a1, .int a2, .int a3] (wR cI cC ad z0) (wR cI cC ad z1) r := by
  refine Ci_of (cc := prog_12_method_23_code) (maxL := 6) (ret := (some .int)) (by decide) rfl (Nat.le_of_ble_eq_true rfl) ?_
  intro p e s m below meth c ls F hl hK hN hC
  obtain ⟨hx, hb, hml, hown, hts, hr, hlk⟩ := F
  have ht : ∀ w ∈ TB, w.before [.ref (sv 3), .int a1, .int a2, .int a3].toArray s = true := fun w h => hts w (List.mem_cons_of_mem _ h)
  have hA : ∀ q, s.heap.size ≤ q → va_A (wR cI cC ad z0) s.heap.size q := fun q h => Or.inr h
  have hl : lv_has ls 6 [(0, .ref (sv 3)), (1, .int a1), (2, .int a2), (3, .int a3)] := hl
  have L7 : ∀ (n : Nat) (x3 x4 x5 : Int32) (s0 : jS) (ls : Array Slot) (H : Heap) (locs : List Loc), lv_has ls 6 [(0, .ref (sv 3)), (3, .int x3), (4, .int x4), (5, .int x5)] → jcx (dC, dI) vwCl (va_A (wR cI cC ad z0) s.heap.size) s.heap (wR cI cC ad s0) H locs → fJN_indexOfChar_b3_7 N n x3 x4 x5 s0 = some (r, z1) → W p l e ({ frames := 0, cells := 0, slots := 0, locals := 0 }) s m [.ref (sv 3), .int a1, .int a2, .int a3].toArray below meth c H locs 0 0 (MQ below (jQi (dC, dI) vwCl [(cI, .int), (cC, .char), (cL, .object "SharedSyntax$Letters")] (wR cI cC ad z0) (wR cI cC ad z1) s.heap.size r) [.ref (sv 3), .int a1, .int a2, .int a3].toArray s 0 0 (va_A (wR cI cC ad z0) s.heap.size)) (F0 m 7 ls []) := by
    intro n
    induction n with
    | zero => exact fun _ _ _ _ _ _ _ _ _ hf => nomatch hf
    | succ n ih7 =>
      intro x3 x4 x5 s0 ls H locs hl hC hf
      replace hf : fJN_indexOfChar_b3_b7 N (fJN_indexOfChar_b3_7 N n) x3 x4 x5 s0 = some (r, z1) := hf
      generalize fJN_indexOfChar_b3_7 N n = k7 at ih7 hf
      unfold fJN_indexOfChar_b3_b7 at hf
      refine lv_iload hx hb dJN_indexOfChar_7 (lv_at hl 3 rfl) ?_
      refine lv_iload_n hx hb dJN_indexOfChar_9 rfl (lv_at hl 1 rfl) ?_
      refine lv_icmp_ge (tgt := 31) hx hb dJN_indexOfChar_10 (by decide) (fun c701 => ?_) (fun c701 => ?_)
      · replace hf := jif_t c701 hf
        refine lv_iconst (v := -1) hx hb dJN_indexOfChar_31 (by decide) ?_
        cases hf
        exact jret_i hx hb hr hlk hC hK dJN_indexOfChar_32
      · replace hf := jif_f c701 hf
        refine lv_aload_n hx hb dJN_indexOfChar_13 rfl (lv_at hl 0 rfl) ?_
        refine lv_iload hx hb dJN_indexOfChar_14 (lv_at hl 3 rfl) ?_
        obtain ⟨hi702, hf⟩ := jC_in hf
        refine va_tb hx hb (hN.2.1.1 3 (by decide)).2.2.2 hC.2.2 (show vp_in _ (lenJ.getD 3 0) from hi702) rfl dJN_indexOfChar_16 ?_
        refine lv_iload hx hb dJN_indexOfChar_17 (lv_at hl 2 rfl) ?_
        refine lv_icmp_ne (tgt := 25) hx hb dJN_indexOfChar_19 (by decide) (fun c703 => ?_) (fun c703 => ?_)
        · replace hf := jif_f c703 hf
          refine lv_iinc (k := 3) (v := (x5 + (1 : Int32))) (lv' := [(5, .int (x5 + (1 : Int32))), (0, .ref (sv 3)), (3, .int x3), (4, .int x4)]) hx hb dJN_indexOfChar_25 hl rfl rfl (by decide) rfl (fun ls hl => ?_)
          refine lv_goto (tgt := 7) hx hb dJN_indexOfChar_28 (by decide) ?_
          exact ih7 x3 x4 (x5 + (1 : Int32)) s0 ls _ _ (lv_sub hl [1, 2, 3, 0] rfl) hC hf
        · replace hf := jif_t c703 hf
          refine lv_iload hx hb dJN_indexOfChar_22 (lv_at hl 3 rfl) ?_
          cases hf
          exact jret_i hx hb hr hlk hC hK dJN_indexOfChar_24
  unfold fJN_indexOfChar_b3 at hf
  refine lv_iload_n hx hb dJN_indexOfChar_0 rfl (lv_at hl 1 rfl) ?_
  refine lv_i2b hx hb dJN_indexOfChar_1 rfl ?_
  refine lv_istore (lv' := [(4, .int ((a1).toInt8.toInt32)), (0, .ref (sv 3)), (1, .int a1), (2, .int a2), (3, .int a3)]) hx hb dJN_indexOfChar_2 hl (by decide) rfl (fun ls hl => ?_)
  refine lv_iload_n hx hb dJN_indexOfChar_4 rfl (lv_at hl 3 rfl) ?_
  refine lv_istore (lv' := [(5, .int a2), (4, .int ((a1).toInt8.toInt32)), (0, .ref (sv 3)), (1, .int a1), (2, .int a2), (3, .int a3)]) hx hb dJN_indexOfChar_5 hl (by decide) rfl (fun ls hl => ?_)
  exact L7 N a3 ((a1).toInt8.toInt32) a2 z0 ls _ _ (lv_sub hl [2, 5, 1, 0] rfl) hC hf

def fJN_indexOf_b3 (N : Nat) (a1 a2 a3 : Int32) (z0 : jS) : Option (Int32 × jS) := (jB (fJN_canEncode N a1 z0) fun r1 s1 => (if r1 = 0 then some ((-1 : Int32), s1) else (if (if a2 < (0 : Int32) then (0 : Int32) else a2) < (if (10 : Int32) < a3 then (10 : Int32) else a3) then (jB (fJN_indexOfChar_b3 N a1 (if a2 < (0 : Int32) then (0 : Int32) else a2) (if (10 : Int32) < a3 then (10 : Int32) else a3) s1) fun r4 s4 => some (r4, s4)) else some ((-1 : Int32), s1))))
set_option maxHeartbeats 4000000 in
set_option maxRecDepth 100000 in
theorem cJN_indexOf_b3 (l : Launch) (dC : Nat → ClassId) (dI : Nat → Nat → Nat) (cI cC cL : ClassId) (sk sv : Nat → Nat) (ad : Nat → Nat) (N : Nat) (a1 a2 a3 : Int32) (z0 z1 : jS) (r : Int32) (hf : fJN_indexOf_b3 N a1 a2 a3 z0 = some (r, z1)) : Ci l yJN_indexOf (Cond.code yJN_indexOf prog_12_method_22_code 4 (some .int) :: TB) ({ frames := 1, cells := 0, slots := 0, locals := 40 }) (dC, dI) vwCl [(cI, .int), (cC, .char), (cL, .object "SharedSyntax$Letters")] (jEn sk sv) [.ref (sv 3), .int a1, .int a2, .int a3] (wR cI cC ad z0) (wR cI cC ad z1) r := by
  refine Ci_of (cc := prog_12_method_22_code) (maxL := 4) (ret := (some .int)) (by decide) rfl (Nat.le_of_ble_eq_true rfl) ?_
  intro p e s m below meth c ls F hl hK hN hC
  obtain ⟨hx, hb, hml, hown, hts, hr, hlk⟩ := F
  have ht : ∀ w ∈ TB, w.before [.ref (sv 3), .int a1, .int a2, .int a3].toArray s = true := fun w h => hts w (List.mem_cons_of_mem _ h)
  have hA : ∀ q, s.heap.size ≤ q → va_A (wR cI cC ad z0) s.heap.size q := fun q h => Or.inr h
  have hl : lv_has ls 4 [(0, .ref (sv 3)), (1, .int a1), (2, .int a2), (3, .int a3)] := hl
  unfold fJN_indexOf_b3 at hf
  refine lv_iload_n hx hb dJN_indexOf_0 rfl (lv_at hl 1 rfl) ?_
  obtain ⟨r1, s1, hc1, hf⟩ := jB_some hf
  refine jcall_i (va_runS (As := [.int a1]) (rest := []) ⟨hx, hb, hml, hown, hts⟩ ((cJN_canEncode l dC dI cI cC cL sk sv ad N a1 z0 s1 r1 hc1) _) ⟨(callB_of 1 hts (tb_good tw256) rfl rfl rfl (ht _ tw7) (ht _ tw254) (by decide +kernel) ⟨Nat.le_of_ble_eq_true rfl, Nat.le_of_ble_eq_true rfl⟩), ht _ tw255⟩ (jpreS (jEn_ok sk sv) hC hA hK hN _) rfl rfl hl.1 rfl (lv_room (Nat.le_of_ble_eq_true rfl)) dJN_indexOf_1 ⟨Nat.le_refl _, Nat.le_refl _⟩) hC hA (fun H locs hC => ?_)
  refine lv_if_ne (tgt := 9) hx hb dJN_indexOf_4 (by decide) (fun c2 => ?_) (fun c2 => ?_)
  · replace hf := jif_f c2 hf
    refine lv_iload_n hx hb dJN_indexOf_9 rfl (lv_at hl 2 rfl) ?_
    refine lv_iconst (v := 0) hx hb dJN_indexOf_10 (by decide) ?_
    refine va_mmax hx hb (by rw [hml]; exact hl.1.symm) hown (ht _ tw257) (ht _ tw258) (ht _ tw10) (ht _ tw259) (Nat.le_of_ble_eq_true rfl) (Nat.le_of_ble_eq_true rfl) (Nat.zero_le _) (Nat.zero_le _) dJN_indexOf_11 ?_
    refine lv_istore_n (lv' := [(2, .int (if a2 < (0 : Int32) then (0 : Int32) else a2)), (0, .ref (sv 3)), (1, .int a1), (3, .int a3)]) hx hb dJN_indexOf_14 rfl hl (by decide) rfl (fun ls hl => ?_)
    refine lv_iload_n hx hb dJN_indexOf_15 rfl (lv_at hl 3 rfl) ?_
    refine lv_aload_n hx hb dJN_indexOf_16 rfl (lv_at hl 1 rfl) ?_
    refine va_tlen (v := 10) hx hb (hN.2.1.1 3 (by decide)).2.2.2 hC.2.2 (by decide) dJN_indexOf_17 ?_
    refine va_mmin hx hb (by rw [hml]; exact hl.1.symm) hown (ht _ tw260) (ht _ tw261) (ht _ tw10) (ht _ tw262) (Nat.le_of_ble_eq_true rfl) (Nat.le_of_ble_eq_true rfl) (Nat.zero_le _) (Nat.zero_le _) dJN_indexOf_18 ?_
    refine lv_istore_n (lv' := [(3, .int (if (10 : Int32) < a3 then (10 : Int32) else a3)), (2, .int (if a2 < (0 : Int32) then (0 : Int32) else a2)), (0, .ref (sv 3)), (1, .int a1)]) hx hb dJN_indexOf_21 rfl hl (by decide) rfl (fun ls hl => ?_)
    refine lv_iload_n hx hb dJN_indexOf_22 rfl (lv_at hl 1 rfl) ?_
    refine lv_iload_n hx hb dJN_indexOf_23 rfl (lv_at hl 0 rfl) ?_
    refine lv_icmp_lt (tgt := 29) hx hb dJN_indexOf_24 (by decide) (fun c3 => ?_) (fun c3 => ?_)
    · replace hf := jif_t c3 hf
      refine lv_aload_n hx hb dJN_indexOf_29 rfl (lv_at hl 2 rfl) ?_
      refine lv_iload_n hx hb dJN_indexOf_30 rfl (lv_at hl 3 rfl) ?_
      refine lv_iload_n hx hb dJN_indexOf_31 rfl (lv_at hl 1 rfl) ?_
      refine lv_iload_n hx hb dJN_indexOf_32 rfl (lv_at hl 0 rfl) ?_
      obtain ⟨r4, s4, hc4, hf⟩ := jB_some hf
      refine jcall_i (va_runS (As := [.ref (sv 3), .int a1, .int (if a2 < (0 : Int32) then (0 : Int32) else a2), .int (if (10 : Int32) < a3 then (10 : Int32) else a3)]) (rest := []) ⟨hx, hb, hml, hown, hts⟩ ((cJN_indexOfChar_b3 l dC dI cI cC cL sk sv ad N a1 (if a2 < (0 : Int32) then (0 : Int32) else a2) (if (10 : Int32) < a3 then (10 : Int32) else a3) s1 s4 r4 hc4) _) ⟨(callB_of 4 hts (tb_good tw265) rfl rfl rfl (ht _ tw7) (ht _ tw263) (by decide +kernel) ⟨Nat.le_of_ble_eq_true rfl, Nat.le_of_ble_eq_true rfl⟩), ht _ tw264⟩ (jpreS (jEn_ok sk sv) hC hA hK hN _) rfl rfl hl.1 rfl (lv_room (Nat.le_of_ble_eq_true rfl)) dJN_indexOf_33 ⟨Nat.le_refl _, Nat.le_refl _⟩) hC hA (fun H locs hC => ?_)
      cases hf
      exact jret_i hx hb hr hlk hC hK dJN_indexOf_36
    · replace hf := jif_f c3 hf
      refine lv_iconst (v := -1) hx hb dJN_indexOf_27 (by decide) ?_
      cases hf
      exact jret_i hx hb hr hlk hC hK dJN_indexOf_28
  · replace hf := jif_t c2 hf
    refine lv_iconst (v := -1) hx hb dJN_indexOf_7 (by decide) ?_
    cases hf
    exact jret_i hx hb hr hlk hC hK dJN_indexOf_8

def fJS_indexOf2_s3 (N : Nat) (a0 a1 : Int32) (z0 : jS) : Option (Int32 × jS) := (jB (fJS_isLatin1_s3 N z0) fun r1 s1 => (if r1 = 0 then (jB (fJS_length_s3 N s1) fun r3 s3 => none) else (jB (fJS_length_s3 N s1) fun r4 s4 => (jB (fJN_indexOf_b3 N a0 a1 r4 s4) fun r5 s5 => some (r5, s5)))))
set_option maxHeartbeats 4000000 in
set_option maxRecDepth 100000 in
theorem cJS_indexOf2_s3 (l : Launch) (dC : Nat → ClassId) (dI : Nat → Nat → Nat) (cI cC cL : ClassId) (sk sv : Nat → Nat) (ad : Nat → Nat) (N : Nat) (a0 a1 : Int32) (z0 z1 : jS) (r : Int32) (hf : fJS_indexOf2_s3 N a0 a1 z0 = some (r, z1)) : Ci l yJS_indexOf2 (Cond.code yJS_indexOf2 prog_11_method_80_code 3 (some .int) :: TB) ({ frames := 2, cells := 0, slots := 0, locals := 63 }) (dC, dI) vwCl [(cI, .int), (cC, .char), (cL, .object "SharedSyntax$Letters")] (jEn sk sv) [.ref (sk 3), .int a0, .int a1] (wR cI cC ad z0) (wR cI cC ad z1) r := by
  refine Ci_of (cc := prog_11_method_80_code) (maxL := 3) (ret := (some .int)) (by decide) rfl (Nat.le_of_ble_eq_true rfl) ?_
  intro p e s m below meth c ls F hl hK hN hC
  obtain ⟨hx, hb, hml, hown, hts, hr, hlk⟩ := F
  have ht : ∀ w ∈ TB, w.before [.ref (sk 3), .int a0, .int a1].toArray s = true := fun w h => hts w (List.mem_cons_of_mem _ h)
  have hA : ∀ q, s.heap.size ≤ q → va_A (wR cI cC ad z0) s.heap.size q := fun q h => Or.inr h
  have hl : lv_has ls 3 [(0, .ref (sk 3)), (1, .int a0), (2, .int a1)] := hl
  unfold fJS_indexOf2_s3 at hf
  refine lv_aload_n hx hb dJS_indexOf2_0 rfl (lv_at hl 0 rfl) ?_
  obtain ⟨r1, s1, hc1, hf⟩ := jB_some hf
  refine jcall_i (va_runV (C := "java/lang/String") (As := []) (rest := []) ⟨hx, hb, hml, hown, hts⟩ ((cJS_isLatin1_s3 l dC dI cI cC cL sk sv ad N z0 s1 r1 hc1) _) ⟨(callB_of 0 hts (tb_good tw205) rfl rfl rfl (ht _ tw6) (ht _ tw202) (by decide +kernel) ⟨Nat.le_of_ble_eq_true rfl, Nat.le_of_ble_eq_true rfl⟩), ht _ tw203, ht _ tw204⟩ (jpreO (jEn_ok sk sv) hC hA hK hN (vk_recv hN.2.1 (by decide) hC.2.2) _) rfl rfl hl.1 rfl (lv_room (Nat.le_of_ble_eq_true rfl)) dJS_indexOf2_1 ⟨Nat.le_refl _, Nat.le_refl _⟩) hC hA (fun H locs hC => ?_)
  refine lv_if_eq (tgt := 23) hx hb dJS_indexOf2_4 (by decide) (fun c2 => ?_) (fun c2 => ?_)
  · replace hf := jif_t c2 hf
    refine lv_aload_n hx hb dJS_indexOf2_23 rfl (lv_at hl 0 rfl) ?_
    refine vk_getf hx hb (hN.2.1.1 3 (by decide)).2.2.1 hC.2.2 hown (ht _ tw972) (fun _ h9 => h9) dJS_indexOf2_24 ?_
    refine lv_iload_n hx hb dJS_indexOf2_27 rfl (lv_at hl 1 rfl) ?_
    refine lv_iload_n hx hb dJS_indexOf2_28 rfl (lv_at hl 2 rfl) ?_
    refine lv_aload_n hx hb dJS_indexOf2_29 rfl (lv_at hl 0 rfl) ?_
    obtain ⟨r3, s3, hc3, hf⟩ := jB_some hf
    refine jcall_i (va_runV (C := "java/lang/String") (As := []) (rest := [.int a1, .int a0, .ref (sv 3)]) ⟨hx, hb, hml, hown, hts⟩ ((cJS_length_s3 l dC dI cI cC cL sk sv ad N s1 s3 r3 hc3) _) ⟨(callB_of 0 hts (tb_good tw191) rfl rfl rfl (ht _ tw6) (ht _ tw250) (by decide +kernel) ⟨Nat.le_of_ble_eq_true rfl, Nat.le_of_ble_eq_true rfl⟩), ht _ tw189, ht _ tw190⟩ (jpreO (jEn_ok sk sv) hC hA hK hN (vk_recv hN.2.1 (by decide) hC.2.2) _) rfl rfl hl.1 rfl (lv_room (Nat.le_of_ble_eq_true rfl)) dJS_indexOf2_30 ⟨Nat.le_refl _, Nat.le_refl _⟩) hC hA (fun H locs hC => ?_)
    cases hf
  · replace hf := jif_f c2 hf
    refine lv_aload_n hx hb dJS_indexOf2_7 rfl (lv_at hl 0 rfl) ?_
    refine vk_getf hx hb (hN.2.1.1 3 (by decide)).2.2.1 hC.2.2 hown (ht _ tw972) (fun _ h9 => h9) dJS_indexOf2_8 ?_
    refine lv_iload_n hx hb dJS_indexOf2_11 rfl (lv_at hl 1 rfl) ?_
    refine lv_iload_n hx hb dJS_indexOf2_12 rfl (lv_at hl 2 rfl) ?_
    refine lv_aload_n hx hb dJS_indexOf2_13 rfl (lv_at hl 0 rfl) ?_
    obtain ⟨r4, s4, hc4, hf⟩ := jB_some hf
    refine jcall_i (va_runV (C := "java/lang/String") (As := []) (rest := [.int a1, .int a0, .ref (sv 3)]) ⟨hx, hb, hml, hown, hts⟩ ((cJS_length_s3 l dC dI cI cC cL sk sv ad N s1 s4 r4 hc4) _) ⟨(callB_of 0 hts (tb_good tw191) rfl rfl rfl (ht _ tw6) (ht _ tw250) (by decide +kernel) ⟨Nat.le_of_ble_eq_true rfl, Nat.le_of_ble_eq_true rfl⟩), ht _ tw189, ht _ tw190⟩ (jpreO (jEn_ok sk sv) hC hA hK hN (vk_recv hN.2.1 (by decide) hC.2.2) _) rfl rfl hl.1 rfl (lv_room (Nat.le_of_ble_eq_true rfl)) dJS_indexOf2_14 ⟨Nat.le_refl _, Nat.le_refl _⟩) hC hA (fun H locs hC => ?_)
    obtain ⟨r5, s5, hc5, hf⟩ := jB_some hf
    refine jcall_i (va_runS (As := [.ref (sv 3), .int a0, .int a1, .int r4]) (rest := []) ⟨hx, hb, hml, hown, hts⟩ ((cJN_indexOf_b3 l dC dI cI cC cL sk sv ad N a0 a1 r4 s4 s5 r5 hc5) _) ⟨(callB_of 4 hts (tb_good tw253) rfl rfl rfl (ht _ tw7) (ht _ tw251) (by decide +kernel) ⟨Nat.le_of_ble_eq_true rfl, Nat.le_of_ble_eq_true rfl⟩), ht _ tw252⟩ (jpreS (jEn_ok sk sv) hC hA hK hN _) rfl rfl hl.1 rfl (lv_room (Nat.le_of_ble_eq_true rfl)) dJS_indexOf2_17 ⟨Nat.le_refl _, Nat.le_refl _⟩) hC hA (fun H locs hC => ?_)
    refine lv_goto (tgt := 36) hx hb dJS_indexOf2_20 (by decide) ?_
    cases hf
    exact jret_i hx hb hr hlk hC hK dJS_indexOf2_36

def fJS_indexOf_s3 (N : Nat) (a0 : Int32) (z0 : jS) : Option (Int32 × jS) := (jB (fJS_indexOf2_s3 N a0 (0 : Int32) z0) fun r1 s1 => some (r1, s1))
set_option maxHeartbeats 4000000 in
set_option maxRecDepth 100000 in
theorem cJS_indexOf_s3 (l : Launch) (dC : Nat → ClassId) (dI : Nat → Nat → Nat) (cI cC cL : ClassId) (sk sv : Nat → Nat) (ad : Nat → Nat) (N : Nat) (a0 : Int32) (z0 z1 : jS) (r : Int32) (hf : fJS_indexOf_s3 N a0 z0 = some (r, z1)) : Ci l yJS_indexOf (Cond.code yJS_indexOf prog_11_method_79_code 2 (some .int) :: TB) ({ frames := 3, cells := 0, slots := 0, locals := 85 }) (dC, dI) vwCl [(cI, .int), (cC, .char), (cL, .object "SharedSyntax$Letters")] (jEn sk sv) [.ref (sk 3), .int a0] (wR cI cC ad z0) (wR cI cC ad z1) r := by
  refine Ci_of (cc := prog_11_method_79_code) (maxL := 2) (ret := (some .int)) (by decide) rfl (Nat.le_of_ble_eq_true rfl) ?_
  intro p e s m below meth c ls F hl hK hN hC
  obtain ⟨hx, hb, hml, hown, hts, hr, hlk⟩ := F
  have ht : ∀ w ∈ TB, w.before [.ref (sk 3), .int a0].toArray s = true := fun w h => hts w (List.mem_cons_of_mem _ h)
  have hA : ∀ q, s.heap.size ≤ q → va_A (wR cI cC ad z0) s.heap.size q := fun q h => Or.inr h
  have hl : lv_has ls 2 [(0, .ref (sk 3)), (1, .int a0)] := hl
  unfold fJS_indexOf_s3 at hf
  refine lv_aload_n hx hb dJS_indexOf_0 rfl (lv_at hl 0 rfl) ?_
  refine lv_iload_n hx hb dJS_indexOf_1 rfl (lv_at hl 1 rfl) ?_
  refine lv_iconst (v := 0) hx hb dJS_indexOf_2 (by decide) ?_
  obtain ⟨r1, s1, hc1, hf⟩ := jB_some hf
  refine jcall_i (va_runV (C := "java/lang/String") (As := [.int a0, .int (0 : Int32)]) (rest := []) ⟨hx, hb, hml, hown, hts⟩ ((cJS_indexOf2_s3 l dC dI cI cC cL sk sv ad N a0 (0 : Int32) z0 s1 r1 hc1) _) ⟨(callB_of 2 hts (tb_good tw249) rfl rfl rfl (ht _ tw6) (ht _ tw246) (by decide +kernel) ⟨Nat.le_of_ble_eq_true rfl, Nat.le_of_ble_eq_true rfl⟩), ht _ tw247, ht _ tw248⟩ (jpreO (jEn_ok sk sv) hC hA hK hN (vk_recv hN.2.1 (by decide) hC.2.2) _) rfl rfl hl.1 rfl (lv_room (Nat.le_of_ble_eq_true rfl)) dJS_indexOf_3 ⟨Nat.le_refl _, Nat.le_refl _⟩) hC hA (fun H locs hC => ?_)
  cases hf
  exact jret_i hx hb hr hlk hC hK dJS_indexOf_6

def fK_signKind (N : Nat) (a0 : Int32) (z0 : jS) : Option (Int32 × jS) := (jB (fJS_indexOf_s3 N (((a0).toUInt32 % 65536).toInt32) z0) fun r1 s1 => (if 0 ≤ r1 then some (((6 : Int32) + r1), s1) else some ((16 : Int32), s1)))
set_option maxHeartbeats 4000000 in
set_option maxRecDepth 100000 in
theorem cK_signKind (l : Launch) (dC : Nat → ClassId) (dI : Nat → Nat → Nat) (cI cC cL : ClassId) (sk sv : Nat → Nat) (ad : Nat → Nat) (N : Nat) (a0 : Int32) (z0 z1 : jS) (r : Int32) (hf : fK_signKind N a0 z0 = some (r, z1)) : Ci l yK_signKind (Cond.code yK_signKind prog_5_method_12_code 2 (some .int) :: TB) ({ frames := 4, cells := 0, slots := 0, locals := 106 }) (dC, dI) vwCl [(cI, .int), (cC, .char), (cL, .object "SharedSyntax$Letters")] (jEn sk sv) [.int a0] (wR cI cC ad z0) (wR cI cC ad z1) r := by
  refine Ci_of (cc := prog_5_method_12_code) (maxL := 2) (ret := (some .int)) (by decide) rfl (Nat.le_of_ble_eq_true rfl) ?_
  intro p e s m below meth c ls F hl hK hN hC
  obtain ⟨hx, hb, hml, hown, hts, hr, hlk⟩ := F
  have ht : ∀ w ∈ TB, w.before [.int a0].toArray s = true := fun w h => hts w (List.mem_cons_of_mem _ h)
  have hA : ∀ q, s.heap.size ≤ q → va_A (wR cI cC ad z0) s.heap.size q := fun q h => Or.inr h
  have hl : lv_has ls 2 [(0, .int a0)] := hl
  unfold fK_signKind at hf
  refine va_ldcS hx hb hown hN.2.2.1.2.2.2 dK_signKind_0 ?_
  refine lv_iload_n hx hb dK_signKind_2 rfl (lv_at hl 0 rfl) ?_
  refine lv_i2c hx hb dK_signKind_3 rfl ?_
  obtain ⟨r1, s1, hc1, hf⟩ := jB_some hf
  refine jcall_i (va_runV (C := "java/lang/String") (As := [.int (((a0).toUInt32 % 65536).toInt32)]) (rest := []) ⟨hx, hb, hml, hown, hts⟩ ((cJS_indexOf_s3 l dC dI cI cC cL sk sv ad N (((a0).toUInt32 % 65536).toInt32) z0 s1 r1 hc1) _) ⟨(callB_of 1 hts (tb_good tw245) rfl rfl rfl (ht _ tw6) (ht _ tw242) (by decide +kernel) ⟨Nat.le_of_ble_eq_true rfl, Nat.le_of_ble_eq_true rfl⟩), ht _ tw243, ht _ tw244⟩ (jpreO (jEn_ok sk sv) hC hA hK hN (vk_recv hN.2.1 (by decide) hC.2.2) _) rfl rfl hl.1 rfl (lv_room (Nat.le_of_ble_eq_true rfl)) dK_signKind_4 ⟨Nat.le_refl _, Nat.le_refl _⟩) hC hA (fun H locs hC => ?_)
  refine lv_istore_n (lv' := [(1, .int r1), (0, .int a0)]) hx hb dK_signKind_7 rfl hl (by decide) rfl (fun ls hl => ?_)
  refine lv_iload_n hx hb dK_signKind_8 rfl (lv_at hl 0 rfl) ?_
  refine lv_if_ge (tgt := 17) hx hb dK_signKind_9 (by decide) (fun c2 => ?_) (fun c2 => ?_)
  · replace hf := jif_t c2 hf
    refine lv_bipush (v := 6) hx hb dK_signKind_17 (by decide) ?_
    refine lv_iload_n hx hb dK_signKind_19 rfl (lv_at hl 0 rfl) ?_
    refine lv_iadd hx hb dK_signKind_20 ?_
    cases hf
    exact jret_i hx hb hr hlk hC hK dK_signKind_21
  · replace hf := jif_f c2 hf
    refine lv_bipush (v := 16) hx hb dK_signKind_12 (by decide) ?_
    refine lv_goto (tgt := 21) hx hb dK_signKind_14 (by decide) ?_
    cases hf
    exact jret_i hx hb hr hlk hC hK dK_signKind_21

def fJS_coder_s0 (N : Nat) (z0 : jS) : Option (Int32 × jS) := some ((0 : Int32), z0)
set_option maxHeartbeats 4000000 in
set_option maxRecDepth 100000 in
theorem cJS_coder_s0 (l : Launch) (dC : Nat → ClassId) (dI : Nat → Nat → Nat) (cI cC cL : ClassId) (sk sv : Nat → Nat) (ad : Nat → Nat) (N : Nat) (z0 z1 : jS) (r : Int32) (hf : fJS_coder_s0 N z0 = some (r, z1)) : Ci l yJS_coder (Cond.code yJS_coder prog_11_method_152_code 1 (some .byte) :: TB) ({ frames := 0, cells := 0, slots := 0, locals := 0 }) (dC, dI) vwCl [(cI, .int), (cC, .char), (cL, .object "SharedSyntax$Letters")] (jEn sk sv) [.ref (sk 0)] (wR cI cC ad z0) (wR cI cC ad z1) r := by
  refine Ci_of (cc := prog_11_method_152_code) (maxL := 1) (ret := (some .byte)) (by decide) rfl (Nat.le_of_ble_eq_true rfl) ?_
  intro p e s m below meth c ls F hl hK hN hC
  obtain ⟨hx, hb, hml, hown, hts, hr, hlk⟩ := F
  have ht : ∀ w ∈ TB, w.before [.ref (sk 0)].toArray s = true := fun w h => hts w (List.mem_cons_of_mem _ h)
  have hA : ∀ q, s.heap.size ≤ q → va_A (wR cI cC ad z0) s.heap.size q := fun q h => Or.inr h
  have hl : lv_has ls 1 [(0, .ref (sk 0))] := hl
  unfold fJS_coder_s0 at hf
  refine va_gets hx hb hN.2.2.2.1 hC.2.2 hown (ht _ tw196) (fun _ h9 => h9) dJS_coder_0 ?_
  refine lv_if_eq (tgt := 13) hx hb dJS_coder_3 (by decide) (fun c => absurd c (by decide)) (fun _ => ?_)
  refine lv_aload_n hx hb dJS_coder_6 rfl (lv_at hl 0 rfl) ?_
  refine vk_getf hx hb (hN.2.1.1 0 (by decide)).2.1 hC.2.2 hown (ht _ tw973) (fun _ h9 => h9) dJS_coder_7 ?_
  refine lv_goto (tgt := 14) hx hb dJS_coder_10 (by decide) ?_
  cases hf
  exact jret_z hx hb hr (by decide +kernel) hlk hC hK dJS_coder_14

def fJS_length_s0 (N : Nat) (z0 : jS) : Option (Int32 × jS) := (jB (fJS_coder_s0 N z0) fun r1 s1 => some (((2 : Int32) >>> (r1 &&& 31)), s1))
set_option maxHeartbeats 4000000 in
set_option maxRecDepth 100000 in
theorem cJS_length_s0 (l : Launch) (dC : Nat → ClassId) (dI : Nat → Nat → Nat) (cI cC cL : ClassId) (sk sv : Nat → Nat) (ad : Nat → Nat) (N : Nat) (z0 z1 : jS) (r : Int32) (hf : fJS_length_s0 N z0 = some (r, z1)) : Ci l yJS_length (Cond.code yJS_length prog_11_method_54_code 1 (some .int) :: TB) ({ frames := 1, cells := 0, slots := 0, locals := 20 }) (dC, dI) vwCl [(cI, .int), (cC, .char), (cL, .object "SharedSyntax$Letters")] (jEn sk sv) [.ref (sk 0)] (wR cI cC ad z0) (wR cI cC ad z1) r := by
  refine Ci_of (cc := prog_11_method_54_code) (maxL := 1) (ret := (some .int)) (by decide) rfl (Nat.le_of_ble_eq_true rfl) ?_
  intro p e s m below meth c ls F hl hK hN hC
  obtain ⟨hx, hb, hml, hown, hts, hr, hlk⟩ := F
  have ht : ∀ w ∈ TB, w.before [.ref (sk 0)].toArray s = true := fun w h => hts w (List.mem_cons_of_mem _ h)
  have hA : ∀ q, s.heap.size ≤ q → va_A (wR cI cC ad z0) s.heap.size q := fun q h => Or.inr h
  have hl : lv_has ls 1 [(0, .ref (sk 0))] := hl
  unfold fJS_length_s0 at hf
  refine lv_aload_n hx hb dJS_length_0 rfl (lv_at hl 0 rfl) ?_
  refine vk_getf hx hb (hN.2.1.1 0 (by decide)).2.2.1 hC.2.2 hown (ht _ tw972) (fun _ h9 => h9) dJS_length_1 ?_
  refine va_tlen (v := 2) hx hb (hN.2.1.1 0 (by decide)).2.2.2 hC.2.2 (by decide) dJS_length_4 ?_
  refine lv_aload_n hx hb dJS_length_5 rfl (lv_at hl 0 rfl) ?_
  obtain ⟨r1, s1, hc1, hf⟩ := jB_some hf
  refine jcall_i (va_runV (C := "java/lang/String") (As := []) (rest := [.int (2 : Int32)]) ⟨hx, hb, hml, hown, hts⟩ ((cJS_coder_s0 l dC dI cI cC cL sk sv ad N z0 s1 r1 hc1) _) ⟨(callB_of 0 hts (tb_good tw195) rfl rfl rfl (ht _ tw6) (ht _ tw192) (by decide +kernel) ⟨Nat.le_of_ble_eq_true rfl, Nat.le_of_ble_eq_true rfl⟩), ht _ tw193, ht _ tw194⟩ (jpreO (jEn_ok sk sv) hC hA hK hN (vk_recv hN.2.1 (by decide) hC.2.2) _) rfl rfl hl.1 rfl (lv_room (Nat.le_of_ble_eq_true rfl)) dJS_length_6 ⟨Nat.le_refl _, Nat.le_refl _⟩) hC hA (fun H locs hC => ?_)
  refine lv_ishr hx hb dJS_length_9 ?_
  cases hf
  exact jret_i hx hb hr hlk hC hK dJS_length_10

def fJS_isLatin1_s0 (N : Nat) (z0 : jS) : Option (Int32 × jS) := some ((1 : Int32), z0)
set_option maxHeartbeats 4000000 in
set_option maxRecDepth 100000 in
theorem cJS_isLatin1_s0 (l : Launch) (dC : Nat → ClassId) (dI : Nat → Nat → Nat) (cI cC cL : ClassId) (sk sv : Nat → Nat) (ad : Nat → Nat) (N : Nat) (z0 z1 : jS) (r : Int32) (hf : fJS_isLatin1_s0 N z0 = some (r, z1)) : Ci l yJS_isLatin1 (Cond.code yJS_isLatin1 prog_11_method_154_code 1 (some .boolean) :: TB) ({ frames := 0, cells := 0, slots := 0, locals := 0 }) (dC, dI) vwCl [(cI, .int), (cC, .char), (cL, .object "SharedSyntax$Letters")] (jEn sk sv) [.ref (sk 0)] (wR cI cC ad z0) (wR cI cC ad z1) r := by
  refine Ci_of (cc := prog_11_method_154_code) (maxL := 1) (ret := (some .boolean)) (by decide) rfl (Nat.le_of_ble_eq_true rfl) ?_
  intro p e s m below meth c ls F hl hK hN hC
  obtain ⟨hx, hb, hml, hown, hts, hr, hlk⟩ := F
  have ht : ∀ w ∈ TB, w.before [.ref (sk 0)].toArray s = true := fun w h => hts w (List.mem_cons_of_mem _ h)
  have hA : ∀ q, s.heap.size ≤ q → va_A (wR cI cC ad z0) s.heap.size q := fun q h => Or.inr h
  have hl : lv_has ls 1 [(0, .ref (sk 0))] := hl
  unfold fJS_isLatin1_s0 at hf
  refine va_gets hx hb hN.2.2.2.1 hC.2.2 hown (ht _ tw196) (fun _ h9 => h9) dJS_isLatin1_0 ?_
  refine lv_if_eq (tgt := 17) hx hb dJS_isLatin1_3 (by decide) (fun c => absurd c (by decide)) (fun _ => ?_)
  refine lv_aload_n hx hb dJS_isLatin1_6 rfl (lv_at hl 0 rfl) ?_
  refine vk_getf hx hb (hN.2.1.1 0 (by decide)).2.1 hC.2.2 hown (ht _ tw973) (fun _ h9 => h9) dJS_isLatin1_7 ?_
  refine lv_if_ne (tgt := 17) hx hb dJS_isLatin1_10 (by decide) (fun c => absurd c (by decide)) (fun _ => ?_)
  refine lv_iconst (v := 1) hx hb dJS_isLatin1_13 (by decide) ?_
  refine lv_goto (tgt := 18) hx hb dJS_isLatin1_14 (by decide) ?_
  cases hf
  exact jret_z hx hb hr (by decide +kernel) hlk hC hK dJS_isLatin1_18

def fJN_charAt_b0 (N : Nat) (a1 : Int32) (z0 : jS) : Option (Int32 × jS) := (if a1 < 0 then none else (if a1 < (2 : Int32) then (if jIn a1 2 = true then (if jCh ((((((bytJ.getD 0 []).getD (a1).toNatClampNeg 0) &&& (255 : Int32))).toUInt32 % 65536).toInt32) = true then some ((((((bytJ.getD 0 []).getD (a1).toNatClampNeg 0) &&& (255 : Int32))).toUInt32 % 65536).toInt32, z0) else none) else none) else none))
set_option maxHeartbeats 4000000 in
set_option maxRecDepth 100000 in
theorem cJN_charAt_b0 (l : Launch) (dC : Nat → ClassId) (dI : Nat → Nat → Nat) (cI cC cL : ClassId) (sk sv : Nat → Nat) (ad : Nat → Nat) (N : Nat) (a1 : Int32) (z0 z1 : jS) (r : Int32) (hf : fJN_charAt_b0 N a1 z0 = some (r, z1)) : Ci l yJN_charAt (Cond.code yJN_charAt prog_12_method_2_code 2 (some .char) :: TB) ({ frames := 2, cells := 0, slots := 0, locals := 100 }) (dC, dI) vwCl [(cI, .int), (cC, .char), (cL, .object "SharedSyntax$Letters")] (jEn sk sv) [.ref (sv 0), .int a1] (wR cI cC ad z0) (wR cI cC ad z1) r := by
  refine Ci_of (cc := prog_12_method_2_code) (maxL := 2) (ret := (some .char)) (by decide) rfl (Nat.le_of_ble_eq_true rfl) ?_
  intro p e s m below meth c ls F hl hK hN hC
  obtain ⟨hx, hb, hml, hown, hts, hr, hlk⟩ := F
  have ht : ∀ w ∈ TB, w.before [.ref (sv 0), .int a1].toArray s = true := fun w h => hts w (List.mem_cons_of_mem _ h)
  have hA : ∀ q, s.heap.size ≤ q → va_A (wR cI cC ad z0) s.heap.size q := fun q h => Or.inr h
  have hl : lv_has ls 2 [(0, .ref (sv 0)), (1, .int a1)] := hl
  unfold fJN_charAt_b0 at hf
  refine lv_iload_n hx hb dJN_charAt_0 rfl (lv_at hl 1 rfl) ?_
  refine lv_aload_n hx hb dJN_charAt_1 rfl (lv_at hl 0 rfl) ?_
  refine va_tlen (v := 2) hx hb (hN.2.1.1 0 (by decide)).2.2.2 hC.2.2 (by decide) dJN_charAt_2 ?_
  obtain ⟨hq1, hp1, hf⟩ := jck_s hf
  refine jcall_v (va_runS (As := [.int a1, .int (2 : Int32)]) (rest := []) ⟨hx, hb, hml, hown, hts⟩ (cJS_checkIndex l dC dI sk sv _ _ _ _ hq1 hp1 _) ⟨(callB_of 2 hts (tb_good tw211) rfl rfl rfl (ht _ tw6) (ht _ tw209) (by decide +kernel) ⟨Nat.le_of_ble_eq_true rfl, Nat.le_of_ble_eq_true rfl⟩), ht _ tw210⟩ (jpreS (jEn_ok sk sv) hC hA hK hN _) rfl rfl hl.1 rfl (lv_room (Nat.le_of_ble_eq_true rfl)) dJN_charAt_3 ⟨Nat.le_refl _, Nat.le_refl _⟩) hC hA (fun H locs hC => ?_)
  refine lv_aload_n hx hb dJN_charAt_6 rfl (lv_at hl 0 rfl) ?_
  refine lv_iload_n hx hb dJN_charAt_7 rfl (lv_at hl 1 rfl) ?_
  obtain ⟨hi2, hf⟩ := jC_in hf
  refine va_tb hx hb (hN.2.1.1 0 (by decide)).2.2.2 hC.2.2 (show vp_in _ (lenJ.getD 0 0) from hi2) rfl dJN_charAt_8 ?_
  refine lv_sipush (v := 255) hx hb dJN_charAt_9 (by decide) ?_
  refine lv_iand hx hb dJN_charAt_12 ?_
  refine lv_i2c hx hb dJN_charAt_13 rfl ?_
  obtain ⟨hz, hf⟩ := jC_b hf
  cases hf
  exact jret_z hx hb hr (jCh_n hz) hlk hC hK dJN_charAt_14

def fJS_charAt_s0 (N : Nat) (a0 : Int32) (z0 : jS) : Option (Int32 × jS) := (jB (fJS_isLatin1_s0 N z0) fun r1 s1 => (if r1 = 0 then none else (jB (fJN_charAt_b0 N a0 s1) fun r3 s3 => (if jCh r3 = true then some (r3, s3) else none))))
set_option maxHeartbeats 4000000 in
set_option maxRecDepth 100000 in
theorem cJS_charAt_s0 (l : Launch) (dC : Nat → ClassId) (dI : Nat → Nat → Nat) (cI cC cL : ClassId) (sk sv : Nat → Nat) (ad : Nat → Nat) (N : Nat) (a0 : Int32) (z0 z1 : jS) (r : Int32) (hf : fJS_charAt_s0 N a0 z0 = some (r, z1)) : Ci l yJS_charAt (Cond.code yJS_charAt prog_11_method_56_code 2 (some .char) :: TB) ({ frames := 3, cells := 0, slots := 0, locals := 121 }) (dC, dI) vwCl [(cI, .int), (cC, .char), (cL, .object "SharedSyntax$Letters")] (jEn sk sv) [.ref (sk 0), .int a0] (wR cI cC ad z0) (wR cI cC ad z1) r := by
  refine Ci_of (cc := prog_11_method_56_code) (maxL := 2) (ret := (some .char)) (by decide) rfl (Nat.le_of_ble_eq_true rfl) ?_
  intro p e s m below meth c ls F hl hK hN hC
  obtain ⟨hx, hb, hml, hown, hts, hr, hlk⟩ := F
  have ht : ∀ w ∈ TB, w.before [.ref (sk 0), .int a0].toArray s = true := fun w h => hts w (List.mem_cons_of_mem _ h)
  have hA : ∀ q, s.heap.size ≤ q → va_A (wR cI cC ad z0) s.heap.size q := fun q h => Or.inr h
  have hl : lv_has ls 2 [(0, .ref (sk 0)), (1, .int a0)] := hl
  unfold fJS_charAt_s0 at hf
  refine lv_aload_n hx hb dJS_charAt_0 rfl (lv_at hl 0 rfl) ?_
  obtain ⟨r1, s1, hc1, hf⟩ := jB_some hf
  refine jcall_i (va_runV (C := "java/lang/String") (As := []) (rest := []) ⟨hx, hb, hml, hown, hts⟩ ((cJS_isLatin1_s0 l dC dI cI cC cL sk sv ad N z0 s1 r1 hc1) _) ⟨(callB_of 0 hts (tb_good tw205) rfl rfl rfl (ht _ tw6) (ht _ tw202) (by decide +kernel) ⟨Nat.le_of_ble_eq_true rfl, Nat.le_of_ble_eq_true rfl⟩), ht _ tw203, ht _ tw204⟩ (jpreO (jEn_ok sk sv) hC hA hK hN (vk_recv hN.2.1 (by decide) hC.2.2) _) rfl rfl hl.1 rfl (lv_room (Nat.le_of_ble_eq_true rfl)) dJS_charAt_1 ⟨Nat.le_refl _, Nat.le_refl _⟩) hC hA (fun H locs hC => ?_)
  refine lv_if_eq (tgt := 16) hx hb dJS_charAt_4 (by decide) (fun c2 => ?_) (fun c2 => ?_)
  · replace hf := jif_t c2 hf
    refine lv_aload_n hx hb dJS_charAt_16 rfl (lv_at hl 0 rfl) ?_
    refine vk_getf hx hb (hN.2.1.1 0 (by decide)).2.2.1 hC.2.2 hown (ht _ tw972) (fun _ h9 => h9) dJS_charAt_17 ?_
    refine lv_iload_n hx hb dJS_charAt_20 rfl (lv_at hl 1 rfl) ?_
    cases hf
  · replace hf := jif_f c2 hf
    refine lv_aload_n hx hb dJS_charAt_7 rfl (lv_at hl 0 rfl) ?_
    refine vk_getf hx hb (hN.2.1.1 0 (by decide)).2.2.1 hC.2.2 hown (ht _ tw972) (fun _ h9 => h9) dJS_charAt_8 ?_
    refine lv_iload_n hx hb dJS_charAt_11 rfl (lv_at hl 1 rfl) ?_
    obtain ⟨r3, s3, hc3, hf⟩ := jB_some hf
    refine jcall_i (va_runS (As := [.ref (sv 0), .int a0]) (rest := []) ⟨hx, hb, hml, hown, hts⟩ ((cJN_charAt_b0 l dC dI cI cC cL sk sv ad N a0 s1 s3 r3 hc3) _) ⟨(callB_of 2 hts (tb_good tw208) rfl rfl rfl (ht _ tw7) (ht _ tw206) (by decide +kernel) ⟨Nat.le_of_ble_eq_true rfl, Nat.le_of_ble_eq_true rfl⟩), ht _ tw207⟩ (jpreS (jEn_ok sk sv) hC hA hK hN _) rfl rfl hl.1 rfl (lv_room (Nat.le_of_ble_eq_true rfl)) dJS_charAt_12 ⟨Nat.le_refl _, Nat.le_refl _⟩) hC hA (fun H locs hC => ?_)
    obtain ⟨hz, hf⟩ := jC_b hf
    cases hf
    exact jret_z hx hb hr (jCh_n hz) hlk hC hK dJS_charAt_15

def fK_spells_s0_b15 (N : Nat) (k15 : Int32 → Int32 → jS → Option (Int32 × jS)) (x1 x4 : Int32) (s0 : jS) : Option (Int32 × jS) := (jB (fJS_length_s0 N s0) fun r1501 s1501 => (if r1501 ≤ x4 then some ((1 : Int32), s1501) else (jB (fL_at N (x1 + x4) s1501) fun r1503 s1503 => (jB (fJS_charAt_s0 N x4 s1503) fun r1504 s1504 => (if r1503 = r1504 then k15 x1 (x4 + (1 : Int32)) s1504 else some ((0 : Int32), s1504))))))
def fK_spells_s0_15 (N : Nat) : Nat → Int32 → Int32 → jS → Option (Int32 × jS)
  | 0 => fun _ _ _ => none
  | n + 1 => fun x1 x4 s0 => fK_spells_s0_b15 N (fK_spells_s0_15 N n) x1 x4 s0
def fK_spells_s0 (N : Nat) (a0 a1 : Int32) (z0 : jS) : Option (Int32 × jS) := (jB (fJS_length_s0 N z0) fun r1 s1 => (if (a1 - a0) = r1 then fK_spells_s0_15 N N a0 (0 : Int32) s1 else some ((0 : Int32), s1)))
set_option maxHeartbeats 4000000 in
set_option maxRecDepth 100000 in
theorem cK_spells_s0 (l : Launch) (dC : Nat → ClassId) (dI : Nat → Nat → Nat) (cI cC cL : ClassId) (sk sv : Nat → Nat) (ad : Nat → Nat) (N : Nat) (a0 a1 : Int32) (z0 z1 : jS) (r : Int32) (hf : fK_spells_s0 N a0 a1 z0 = some (r, z1)) : Ci l yK_spells (Cond.code yK_spells prog_5_method_11_code 5 (some .boolean) :: TB) ({ frames := 4, cells := 0, slots := 0, locals := 142 }) (dC, dI) vwCl [(cI, .int), (cC, .char), (cL, .object "SharedSyntax$Letters")] (jEn sk sv) [.ref (ad 2), .int a0, .int a1, .ref (sk 0)] (wR cI cC ad z0) (wR cI cC ad z1) r := by
  refine Ci_of (cc := prog_5_method_11_code) (maxL := 5) (ret := (some .boolean)) (by decide) rfl (Nat.le_of_ble_eq_true rfl) ?_
  intro p e s m below meth c ls F hl hK hN hC
  obtain ⟨hx, hb, hml, hown, hts, hr, hlk⟩ := F
  have ht : ∀ w ∈ TB, w.before [.ref (ad 2), .int a0, .int a1, .ref (sk 0)].toArray s = true := fun w h => hts w (List.mem_cons_of_mem _ h)
  have hA : ∀ q, s.heap.size ≤ q → va_A (wR cI cC ad z0) s.heap.size q := fun q h => Or.inr h
  have hl : lv_has ls 5 [(0, .ref (ad 2)), (1, .int a0), (2, .int a1), (3, .ref (sk 0))] := hl
  have L15 : ∀ (n : Nat) (x1 x4 : Int32) (s0 : jS) (ls : Array Slot) (H : Heap) (locs : List Loc), lv_has ls 5 [(0, .ref (ad 2)), (1, .int x1), (3, .ref (sk 0)), (4, .int x4)] → jcx (dC, dI) vwCl (va_A (wR cI cC ad z0) s.heap.size) s.heap (wR cI cC ad s0) H locs → fK_spells_s0_15 N n x1 x4 s0 = some (r, z1) → W p l e ({ frames := 4, cells := 0, slots := 0, locals := 142 }) s m [.ref (ad 2), .int a0, .int a1, .ref (sk 0)].toArray below meth c H locs 0 0 (MQ below (jQi (dC, dI) vwCl [(cI, .int), (cC, .char), (cL, .object "SharedSyntax$Letters")] (wR cI cC ad z0) (wR cI cC ad z1) s.heap.size r) [.ref (ad 2), .int a0, .int a1, .ref (sk 0)].toArray s 0 0 (va_A (wR cI cC ad z0) s.heap.size)) (F0 m 15 ls []) := by
    intro n
    induction n with
    | zero => exact fun _ _ _ _ _ _ _ _ hf => nomatch hf
    | succ n ih15 =>
      intro x1 x4 s0 ls H locs hl hC hf
      replace hf : fK_spells_s0_b15 N (fK_spells_s0_15 N n) x1 x4 s0 = some (r, z1) := hf
      generalize fK_spells_s0_15 N n = k15 at ih15 hf
      unfold fK_spells_s0_b15 at hf
      refine lv_iload hx hb dK_spells_15 (lv_at hl 3 rfl) ?_
      refine lv_aload_n hx hb dK_spells_17 rfl (lv_at hl 2 rfl) ?_
      obtain ⟨r1501, s1501, hc1501, hf⟩ := jB_some hf
      refine jcall_i (va_runV (C := "java/lang/String") (As := []) (rest := [.int x4]) ⟨hx, hb, hml, hown, hts⟩ ((cJS_length_s0 l dC dI cI cC cL sk sv ad N s0 s1501 r1501 hc1501) _) ⟨(callB_of 0 hts (tb_good tw191) rfl rfl rfl (ht _ tw6) (ht _ tw188) (by decide +kernel) ⟨Nat.le_of_ble_eq_true rfl, Nat.le_of_ble_eq_true rfl⟩), ht _ tw189, ht _ tw190⟩ (jpreO (jEn_ok sk sv) hC hA hK hN (vk_recv hN.2.1 (by decide) hC.2.2) _) rfl rfl hl.1 rfl (lv_room (Nat.le_of_ble_eq_true rfl)) dK_spells_18 ⟨Nat.le_refl _, Nat.le_refl _⟩) hC hA (fun H locs hC => ?_)
      refine lv_icmp_ge (tgt := 52) hx hb dK_spells_21 (by decide) (fun c1502 => ?_) (fun c1502 => ?_)
      · replace hf := jif_t c1502 hf
        refine lv_iconst (v := 1) hx hb dK_spells_52 (by decide) ?_
        cases hf
        exact jret_z hx hb hr (by decide +kernel) hlk hC hK dK_spells_53
      · replace hf := jif_f c1502 hf
        refine lv_aload_n hx hb dK_spells_24 rfl (lv_at hl 0 rfl) ?_
        refine va_get (D := (dC, dI)) (ci := 1) (v := .ref (ad 3)) (C := RcK) (T := TcK) (N := 6) hx hb ht in_cK hown hK hC.1 2 (wR_e2 cI cC ad s1501) rfl 0 (by decide) (ht _ tw93) (fun _ h9 => h9) rfl dK_spells_25 ?_
        refine lv_iload_n hx hb dK_spells_28 rfl (lv_at hl 1 rfl) ?_
        refine lv_iload hx hb dK_spells_29 (lv_at hl 3 rfl) ?_
        refine lv_iadd hx hb dK_spells_31 ?_
        obtain ⟨r1503, s1503, hc1503, hf⟩ := jB_some hf
        refine jcall_i (va_runV (C := RcL) (As := [.int (x1 + x4)]) (rest := []) ⟨hx, hb, hml, hown, hts⟩ ((cL_at l dC dI cI cC cL sk sv ad N (x1 + x4) s1501 s1503 r1503 hc1503) _) ⟨(callB_of 1 hts (tb_good tw164) rfl rfl rfl (ht _ tw3) (ht _ tw161) (by decide +kernel) ⟨Nat.le_of_ble_eq_true rfl, Nat.le_of_ble_eq_true rfl⟩), ht _ tw162, ht _ tw163⟩ (jpreV (jEn_ok sk sv) hC hA hK hN (wR_e3 cI cC ad s1501) rfl rfl _) rfl rfl hl.1 rfl (lv_room (Nat.le_of_ble_eq_true rfl)) dK_spells_32 ⟨Nat.le_refl _, Nat.le_refl _⟩) hC hA (fun H locs hC => ?_)
        refine lv_aload_n hx hb dK_spells_35 rfl (lv_at hl 2 rfl) ?_
        refine lv_iload hx hb dK_spells_36 (lv_at hl 3 rfl) ?_
        obtain ⟨r1504, s1504, hc1504, hf⟩ := jB_some hf
        refine jcall_i (va_runV (C := "java/lang/String") (As := [.int x4]) (rest := [.int r1503]) ⟨hx, hb, hml, hown, hts⟩ ((cJS_charAt_s0 l dC dI cI cC cL sk sv ad N x4 s1503 s1504 r1504 hc1504) _) ⟨(callB_of 1 hts (tb_good tw201) rfl rfl rfl (ht _ tw6) (ht _ tw198) (by decide +kernel) ⟨Nat.le_of_ble_eq_true rfl, Nat.le_of_ble_eq_true rfl⟩), ht _ tw199, ht _ tw200⟩ (jpreO (jEn_ok sk sv) hC hA hK hN (vk_recv hN.2.1 (by decide) hC.2.2) _) rfl rfl hl.1 rfl (lv_room (Nat.le_of_ble_eq_true rfl)) dK_spells_38 ⟨Nat.le_refl _, Nat.le_refl _⟩) hC hA (fun H locs hC => ?_)
        refine lv_icmp_eq (tgt := 46) hx hb dK_spells_41 (by decide) (fun c1505 => ?_) (fun c1505 => ?_)
        · replace hf := jif_t c1505 hf
          refine lv_iinc (k := 3) (v := (x4 + (1 : Int32))) (lv' := [(4, .int (x4 + (1 : Int32))), (0, .ref (ad 2)), (1, .int x1), (3, .ref (sk 0))]) hx hb dK_spells_46 hl rfl rfl (by decide) rfl (fun ls hl => ?_)
          refine lv_goto (tgt := 15) hx hb dK_spells_49 (by decide) ?_
          exact ih15 x1 (x4 + (1 : Int32)) s1504 ls _ _ (lv_sub hl [1, 2, 3, 0] rfl) hC hf
        · replace hf := jif_f c1505 hf
          refine lv_iconst (v := 0) hx hb dK_spells_44 (by decide) ?_
          cases hf
          exact jret_z hx hb hr (by decide +kernel) hlk hC hK dK_spells_45
  unfold fK_spells_s0 at hf
  refine lv_iload_n hx hb dK_spells_0 rfl (lv_at hl 2 rfl) ?_
  refine lv_iload_n hx hb dK_spells_1 rfl (lv_at hl 1 rfl) ?_
  refine lv_isub hx hb dK_spells_2 ?_
  refine lv_aload_n hx hb dK_spells_3 rfl (lv_at hl 3 rfl) ?_
  obtain ⟨r1, s1, hc1, hf⟩ := jB_some hf
  refine jcall_i (va_runV (C := "java/lang/String") (As := []) (rest := [.int (a1 - a0)]) ⟨hx, hb, hml, hown, hts⟩ ((cJS_length_s0 l dC dI cI cC cL sk sv ad N z0 s1 r1 hc1) _) ⟨(callB_of 0 hts (tb_good tw191) rfl rfl rfl (ht _ tw6) (ht _ tw188) (by decide +kernel) ⟨Nat.le_of_ble_eq_true rfl, Nat.le_of_ble_eq_true rfl⟩), ht _ tw189, ht _ tw190⟩ (jpreO (jEn_ok sk sv) hC hA hK hN (vk_recv hN.2.1 (by decide) hC.2.2) _) rfl rfl hl.1 rfl (lv_room (Nat.le_of_ble_eq_true rfl)) dK_spells_4 ⟨Nat.le_refl _, Nat.le_refl _⟩) hC hA (fun H locs hC => ?_)
  refine lv_icmp_eq (tgt := 12) hx hb dK_spells_7 (by decide) (fun c2 => ?_) (fun c2 => ?_)
  · replace hf := jif_t c2 hf
    refine lv_iconst (v := 0) hx hb dK_spells_12 (by decide) ?_
    refine lv_istore (lv' := [(4, .int (0 : Int32)), (0, .ref (ad 2)), (1, .int a0), (2, .int a1), (3, .ref (sk 0))]) hx hb dK_spells_13 hl (by decide) rfl (fun ls hl => ?_)
    exact L15 N a0 (0 : Int32) s1 ls _ _ (lv_sub hl [1, 2, 4, 0] rfl) hC hf
  · replace hf := jif_f c2 hf
    refine lv_iconst (v := 0) hx hb dK_spells_10 (by decide) ?_
    cases hf
    exact jret_z hx hb hr (by decide +kernel) hlk hC hK dK_spells_11

def fJS_coder_s1 (N : Nat) (z0 : jS) : Option (Int32 × jS) := some ((0 : Int32), z0)
set_option maxHeartbeats 4000000 in
set_option maxRecDepth 100000 in
theorem cJS_coder_s1 (l : Launch) (dC : Nat → ClassId) (dI : Nat → Nat → Nat) (cI cC cL : ClassId) (sk sv : Nat → Nat) (ad : Nat → Nat) (N : Nat) (z0 z1 : jS) (r : Int32) (hf : fJS_coder_s1 N z0 = some (r, z1)) : Ci l yJS_coder (Cond.code yJS_coder prog_11_method_152_code 1 (some .byte) :: TB) ({ frames := 0, cells := 0, slots := 0, locals := 0 }) (dC, dI) vwCl [(cI, .int), (cC, .char), (cL, .object "SharedSyntax$Letters")] (jEn sk sv) [.ref (sk 1)] (wR cI cC ad z0) (wR cI cC ad z1) r := by
  refine Ci_of (cc := prog_11_method_152_code) (maxL := 1) (ret := (some .byte)) (by decide) rfl (Nat.le_of_ble_eq_true rfl) ?_
  intro p e s m below meth c ls F hl hK hN hC
  obtain ⟨hx, hb, hml, hown, hts, hr, hlk⟩ := F
  have ht : ∀ w ∈ TB, w.before [.ref (sk 1)].toArray s = true := fun w h => hts w (List.mem_cons_of_mem _ h)
  have hA : ∀ q, s.heap.size ≤ q → va_A (wR cI cC ad z0) s.heap.size q := fun q h => Or.inr h
  have hl : lv_has ls 1 [(0, .ref (sk 1))] := hl
  unfold fJS_coder_s1 at hf
  refine va_gets hx hb hN.2.2.2.1 hC.2.2 hown (ht _ tw196) (fun _ h9 => h9) dJS_coder_0 ?_
  refine lv_if_eq (tgt := 13) hx hb dJS_coder_3 (by decide) (fun c => absurd c (by decide)) (fun _ => ?_)
  refine lv_aload_n hx hb dJS_coder_6 rfl (lv_at hl 0 rfl) ?_
  refine vk_getf hx hb (hN.2.1.1 1 (by decide)).2.1 hC.2.2 hown (ht _ tw973) (fun _ h9 => h9) dJS_coder_7 ?_
  refine lv_goto (tgt := 14) hx hb dJS_coder_10 (by decide) ?_
  cases hf
  exact jret_z hx hb hr (by decide +kernel) hlk hC hK dJS_coder_14

def fJS_length_s1 (N : Nat) (z0 : jS) : Option (Int32 × jS) := (jB (fJS_coder_s1 N z0) fun r1 s1 => some (((4 : Int32) >>> (r1 &&& 31)), s1))
set_option maxHeartbeats 4000000 in
set_option maxRecDepth 100000 in
theorem cJS_length_s1 (l : Launch) (dC : Nat → ClassId) (dI : Nat → Nat → Nat) (cI cC cL : ClassId) (sk sv : Nat → Nat) (ad : Nat → Nat) (N : Nat) (z0 z1 : jS) (r : Int32) (hf : fJS_length_s1 N z0 = some (r, z1)) : Ci l yJS_length (Cond.code yJS_length prog_11_method_54_code 1 (some .int) :: TB) ({ frames := 1, cells := 0, slots := 0, locals := 20 }) (dC, dI) vwCl [(cI, .int), (cC, .char), (cL, .object "SharedSyntax$Letters")] (jEn sk sv) [.ref (sk 1)] (wR cI cC ad z0) (wR cI cC ad z1) r := by
  refine Ci_of (cc := prog_11_method_54_code) (maxL := 1) (ret := (some .int)) (by decide) rfl (Nat.le_of_ble_eq_true rfl) ?_
  intro p e s m below meth c ls F hl hK hN hC
  obtain ⟨hx, hb, hml, hown, hts, hr, hlk⟩ := F
  have ht : ∀ w ∈ TB, w.before [.ref (sk 1)].toArray s = true := fun w h => hts w (List.mem_cons_of_mem _ h)
  have hA : ∀ q, s.heap.size ≤ q → va_A (wR cI cC ad z0) s.heap.size q := fun q h => Or.inr h
  have hl : lv_has ls 1 [(0, .ref (sk 1))] := hl
  unfold fJS_length_s1 at hf
  refine lv_aload_n hx hb dJS_length_0 rfl (lv_at hl 0 rfl) ?_
  refine vk_getf hx hb (hN.2.1.1 1 (by decide)).2.2.1 hC.2.2 hown (ht _ tw972) (fun _ h9 => h9) dJS_length_1 ?_
  refine va_tlen (v := 4) hx hb (hN.2.1.1 1 (by decide)).2.2.2 hC.2.2 (by decide) dJS_length_4 ?_
  refine lv_aload_n hx hb dJS_length_5 rfl (lv_at hl 0 rfl) ?_
  obtain ⟨r1, s1, hc1, hf⟩ := jB_some hf
  refine jcall_i (va_runV (C := "java/lang/String") (As := []) (rest := [.int (4 : Int32)]) ⟨hx, hb, hml, hown, hts⟩ ((cJS_coder_s1 l dC dI cI cC cL sk sv ad N z0 s1 r1 hc1) _) ⟨(callB_of 0 hts (tb_good tw195) rfl rfl rfl (ht _ tw6) (ht _ tw192) (by decide +kernel) ⟨Nat.le_of_ble_eq_true rfl, Nat.le_of_ble_eq_true rfl⟩), ht _ tw193, ht _ tw194⟩ (jpreO (jEn_ok sk sv) hC hA hK hN (vk_recv hN.2.1 (by decide) hC.2.2) _) rfl rfl hl.1 rfl (lv_room (Nat.le_of_ble_eq_true rfl)) dJS_length_6 ⟨Nat.le_refl _, Nat.le_refl _⟩) hC hA (fun H locs hC => ?_)
  refine lv_ishr hx hb dJS_length_9 ?_
  cases hf
  exact jret_i hx hb hr hlk hC hK dJS_length_10

def fJS_isLatin1_s1 (N : Nat) (z0 : jS) : Option (Int32 × jS) := some ((1 : Int32), z0)
set_option maxHeartbeats 4000000 in
set_option maxRecDepth 100000 in
theorem cJS_isLatin1_s1 (l : Launch) (dC : Nat → ClassId) (dI : Nat → Nat → Nat) (cI cC cL : ClassId) (sk sv : Nat → Nat) (ad : Nat → Nat) (N : Nat) (z0 z1 : jS) (r : Int32) (hf : fJS_isLatin1_s1 N z0 = some (r, z1)) : Ci l yJS_isLatin1 (Cond.code yJS_isLatin1 prog_11_method_154_code 1 (some .boolean) :: TB) ({ frames := 0, cells := 0, slots := 0, locals := 0 }) (dC, dI) vwCl [(cI, .int), (cC, .char), (cL, .object "SharedSyntax$Letters")] (jEn sk sv) [.ref (sk 1)] (wR cI cC ad z0) (wR cI cC ad z1) r := by
  refine Ci_of (cc := prog_11_method_154_code) (maxL := 1) (ret := (some .boolean)) (by decide) rfl (Nat.le_of_ble_eq_true rfl) ?_
  intro p e s m below meth c ls F hl hK hN hC
  obtain ⟨hx, hb, hml, hown, hts, hr, hlk⟩ := F
  have ht : ∀ w ∈ TB, w.before [.ref (sk 1)].toArray s = true := fun w h => hts w (List.mem_cons_of_mem _ h)
  have hA : ∀ q, s.heap.size ≤ q → va_A (wR cI cC ad z0) s.heap.size q := fun q h => Or.inr h
  have hl : lv_has ls 1 [(0, .ref (sk 1))] := hl
  unfold fJS_isLatin1_s1 at hf
  refine va_gets hx hb hN.2.2.2.1 hC.2.2 hown (ht _ tw196) (fun _ h9 => h9) dJS_isLatin1_0 ?_
  refine lv_if_eq (tgt := 17) hx hb dJS_isLatin1_3 (by decide) (fun c => absurd c (by decide)) (fun _ => ?_)
  refine lv_aload_n hx hb dJS_isLatin1_6 rfl (lv_at hl 0 rfl) ?_
  refine vk_getf hx hb (hN.2.1.1 1 (by decide)).2.1 hC.2.2 hown (ht _ tw973) (fun _ h9 => h9) dJS_isLatin1_7 ?_
  refine lv_if_ne (tgt := 17) hx hb dJS_isLatin1_10 (by decide) (fun c => absurd c (by decide)) (fun _ => ?_)
  refine lv_iconst (v := 1) hx hb dJS_isLatin1_13 (by decide) ?_
  refine lv_goto (tgt := 18) hx hb dJS_isLatin1_14 (by decide) ?_
  cases hf
  exact jret_z hx hb hr (by decide +kernel) hlk hC hK dJS_isLatin1_18

def fJN_charAt_b1 (N : Nat) (a1 : Int32) (z0 : jS) : Option (Int32 × jS) := (if a1 < 0 then none else (if a1 < (4 : Int32) then (if jIn a1 4 = true then (if jCh ((((((bytJ.getD 1 []).getD (a1).toNatClampNeg 0) &&& (255 : Int32))).toUInt32 % 65536).toInt32) = true then some ((((((bytJ.getD 1 []).getD (a1).toNatClampNeg 0) &&& (255 : Int32))).toUInt32 % 65536).toInt32, z0) else none) else none) else none))
set_option maxHeartbeats 4000000 in
set_option maxRecDepth 100000 in
theorem cJN_charAt_b1 (l : Launch) (dC : Nat → ClassId) (dI : Nat → Nat → Nat) (cI cC cL : ClassId) (sk sv : Nat → Nat) (ad : Nat → Nat) (N : Nat) (a1 : Int32) (z0 z1 : jS) (r : Int32) (hf : fJN_charAt_b1 N a1 z0 = some (r, z1)) : Ci l yJN_charAt (Cond.code yJN_charAt prog_12_method_2_code 2 (some .char) :: TB) ({ frames := 2, cells := 0, slots := 0, locals := 100 }) (dC, dI) vwCl [(cI, .int), (cC, .char), (cL, .object "SharedSyntax$Letters")] (jEn sk sv) [.ref (sv 1), .int a1] (wR cI cC ad z0) (wR cI cC ad z1) r := by
  refine Ci_of (cc := prog_12_method_2_code) (maxL := 2) (ret := (some .char)) (by decide) rfl (Nat.le_of_ble_eq_true rfl) ?_
  intro p e s m below meth c ls F hl hK hN hC
  obtain ⟨hx, hb, hml, hown, hts, hr, hlk⟩ := F
  have ht : ∀ w ∈ TB, w.before [.ref (sv 1), .int a1].toArray s = true := fun w h => hts w (List.mem_cons_of_mem _ h)
  have hA : ∀ q, s.heap.size ≤ q → va_A (wR cI cC ad z0) s.heap.size q := fun q h => Or.inr h
  have hl : lv_has ls 2 [(0, .ref (sv 1)), (1, .int a1)] := hl
  unfold fJN_charAt_b1 at hf
  refine lv_iload_n hx hb dJN_charAt_0 rfl (lv_at hl 1 rfl) ?_
  refine lv_aload_n hx hb dJN_charAt_1 rfl (lv_at hl 0 rfl) ?_
  refine va_tlen (v := 4) hx hb (hN.2.1.1 1 (by decide)).2.2.2 hC.2.2 (by decide) dJN_charAt_2 ?_
  obtain ⟨hq1, hp1, hf⟩ := jck_s hf
  refine jcall_v (va_runS (As := [.int a1, .int (4 : Int32)]) (rest := []) ⟨hx, hb, hml, hown, hts⟩ (cJS_checkIndex l dC dI sk sv _ _ _ _ hq1 hp1 _) ⟨(callB_of 2 hts (tb_good tw211) rfl rfl rfl (ht _ tw6) (ht _ tw209) (by decide +kernel) ⟨Nat.le_of_ble_eq_true rfl, Nat.le_of_ble_eq_true rfl⟩), ht _ tw210⟩ (jpreS (jEn_ok sk sv) hC hA hK hN _) rfl rfl hl.1 rfl (lv_room (Nat.le_of_ble_eq_true rfl)) dJN_charAt_3 ⟨Nat.le_refl _, Nat.le_refl _⟩) hC hA (fun H locs hC => ?_)
  refine lv_aload_n hx hb dJN_charAt_6 rfl (lv_at hl 0 rfl) ?_
  refine lv_iload_n hx hb dJN_charAt_7 rfl (lv_at hl 1 rfl) ?_
  obtain ⟨hi2, hf⟩ := jC_in hf
  refine va_tb hx hb (hN.2.1.1 1 (by decide)).2.2.2 hC.2.2 (show vp_in _ (lenJ.getD 1 0) from hi2) rfl dJN_charAt_8 ?_
  refine lv_sipush (v := 255) hx hb dJN_charAt_9 (by decide) ?_
  refine lv_iand hx hb dJN_charAt_12 ?_
  refine lv_i2c hx hb dJN_charAt_13 rfl ?_
  obtain ⟨hz, hf⟩ := jC_b hf
  cases hf
  exact jret_z hx hb hr (jCh_n hz) hlk hC hK dJN_charAt_14

def fJS_charAt_s1 (N : Nat) (a0 : Int32) (z0 : jS) : Option (Int32 × jS) := (jB (fJS_isLatin1_s1 N z0) fun r1 s1 => (if r1 = 0 then none else (jB (fJN_charAt_b1 N a0 s1) fun r3 s3 => (if jCh r3 = true then some (r3, s3) else none))))
set_option maxHeartbeats 4000000 in
set_option maxRecDepth 100000 in
theorem cJS_charAt_s1 (l : Launch) (dC : Nat → ClassId) (dI : Nat → Nat → Nat) (cI cC cL : ClassId) (sk sv : Nat → Nat) (ad : Nat → Nat) (N : Nat) (a0 : Int32) (z0 z1 : jS) (r : Int32) (hf : fJS_charAt_s1 N a0 z0 = some (r, z1)) : Ci l yJS_charAt (Cond.code yJS_charAt prog_11_method_56_code 2 (some .char) :: TB) ({ frames := 3, cells := 0, slots := 0, locals := 121 }) (dC, dI) vwCl [(cI, .int), (cC, .char), (cL, .object "SharedSyntax$Letters")] (jEn sk sv) [.ref (sk 1), .int a0] (wR cI cC ad z0) (wR cI cC ad z1) r := by
  refine Ci_of (cc := prog_11_method_56_code) (maxL := 2) (ret := (some .char)) (by decide) rfl (Nat.le_of_ble_eq_true rfl) ?_
  intro p e s m below meth c ls F hl hK hN hC
  obtain ⟨hx, hb, hml, hown, hts, hr, hlk⟩ := F
  have ht : ∀ w ∈ TB, w.before [.ref (sk 1), .int a0].toArray s = true := fun w h => hts w (List.mem_cons_of_mem _ h)
  have hA : ∀ q, s.heap.size ≤ q → va_A (wR cI cC ad z0) s.heap.size q := fun q h => Or.inr h
  have hl : lv_has ls 2 [(0, .ref (sk 1)), (1, .int a0)] := hl
  unfold fJS_charAt_s1 at hf
  refine lv_aload_n hx hb dJS_charAt_0 rfl (lv_at hl 0 rfl) ?_
  obtain ⟨r1, s1, hc1, hf⟩ := jB_some hf
  refine jcall_i (va_runV (C := "java/lang/String") (As := []) (rest := []) ⟨hx, hb, hml, hown, hts⟩ ((cJS_isLatin1_s1 l dC dI cI cC cL sk sv ad N z0 s1 r1 hc1) _) ⟨(callB_of 0 hts (tb_good tw205) rfl rfl rfl (ht _ tw6) (ht _ tw202) (by decide +kernel) ⟨Nat.le_of_ble_eq_true rfl, Nat.le_of_ble_eq_true rfl⟩), ht _ tw203, ht _ tw204⟩ (jpreO (jEn_ok sk sv) hC hA hK hN (vk_recv hN.2.1 (by decide) hC.2.2) _) rfl rfl hl.1 rfl (lv_room (Nat.le_of_ble_eq_true rfl)) dJS_charAt_1 ⟨Nat.le_refl _, Nat.le_refl _⟩) hC hA (fun H locs hC => ?_)
  refine lv_if_eq (tgt := 16) hx hb dJS_charAt_4 (by decide) (fun c2 => ?_) (fun c2 => ?_)
  · replace hf := jif_t c2 hf
    refine lv_aload_n hx hb dJS_charAt_16 rfl (lv_at hl 0 rfl) ?_
    refine vk_getf hx hb (hN.2.1.1 1 (by decide)).2.2.1 hC.2.2 hown (ht _ tw972) (fun _ h9 => h9) dJS_charAt_17 ?_
    refine lv_iload_n hx hb dJS_charAt_20 rfl (lv_at hl 1 rfl) ?_
    cases hf
  · replace hf := jif_f c2 hf
    refine lv_aload_n hx hb dJS_charAt_7 rfl (lv_at hl 0 rfl) ?_
    refine vk_getf hx hb (hN.2.1.1 1 (by decide)).2.2.1 hC.2.2 hown (ht _ tw972) (fun _ h9 => h9) dJS_charAt_8 ?_
    refine lv_iload_n hx hb dJS_charAt_11 rfl (lv_at hl 1 rfl) ?_
    obtain ⟨r3, s3, hc3, hf⟩ := jB_some hf
    refine jcall_i (va_runS (As := [.ref (sv 1), .int a0]) (rest := []) ⟨hx, hb, hml, hown, hts⟩ ((cJN_charAt_b1 l dC dI cI cC cL sk sv ad N a0 s1 s3 r3 hc3) _) ⟨(callB_of 2 hts (tb_good tw208) rfl rfl rfl (ht _ tw7) (ht _ tw206) (by decide +kernel) ⟨Nat.le_of_ble_eq_true rfl, Nat.le_of_ble_eq_true rfl⟩), ht _ tw207⟩ (jpreS (jEn_ok sk sv) hC hA hK hN _) rfl rfl hl.1 rfl (lv_room (Nat.le_of_ble_eq_true rfl)) dJS_charAt_12 ⟨Nat.le_refl _, Nat.le_refl _⟩) hC hA (fun H locs hC => ?_)
    obtain ⟨hz, hf⟩ := jC_b hf
    cases hf
    exact jret_z hx hb hr (jCh_n hz) hlk hC hK dJS_charAt_15

def fK_spells_s1_b15 (N : Nat) (k15 : Int32 → Int32 → jS → Option (Int32 × jS)) (x1 x4 : Int32) (s0 : jS) : Option (Int32 × jS) := (jB (fJS_length_s1 N s0) fun r1501 s1501 => (if r1501 ≤ x4 then some ((1 : Int32), s1501) else (jB (fL_at N (x1 + x4) s1501) fun r1503 s1503 => (jB (fJS_charAt_s1 N x4 s1503) fun r1504 s1504 => (if r1503 = r1504 then k15 x1 (x4 + (1 : Int32)) s1504 else some ((0 : Int32), s1504))))))
def fK_spells_s1_15 (N : Nat) : Nat → Int32 → Int32 → jS → Option (Int32 × jS)
  | 0 => fun _ _ _ => none
  | n + 1 => fun x1 x4 s0 => fK_spells_s1_b15 N (fK_spells_s1_15 N n) x1 x4 s0
def fK_spells_s1 (N : Nat) (a0 a1 : Int32) (z0 : jS) : Option (Int32 × jS) := (jB (fJS_length_s1 N z0) fun r1 s1 => (if (a1 - a0) = r1 then fK_spells_s1_15 N N a0 (0 : Int32) s1 else some ((0 : Int32), s1)))
set_option maxHeartbeats 4000000 in
set_option maxRecDepth 100000 in
theorem cK_spells_s1 (l : Launch) (dC : Nat → ClassId) (dI : Nat → Nat → Nat) (cI cC cL : ClassId) (sk sv : Nat → Nat) (ad : Nat → Nat) (N : Nat) (a0 a1 : Int32) (z0 z1 : jS) (r : Int32) (hf : fK_spells_s1 N a0 a1 z0 = some (r, z1)) : Ci l yK_spells (Cond.code yK_spells prog_5_method_11_code 5 (some .boolean) :: TB) ({ frames := 4, cells := 0, slots := 0, locals := 142 }) (dC, dI) vwCl [(cI, .int), (cC, .char), (cL, .object "SharedSyntax$Letters")] (jEn sk sv) [.ref (ad 2), .int a0, .int a1, .ref (sk 1)] (wR cI cC ad z0) (wR cI cC ad z1) r := by
  refine Ci_of (cc := prog_5_method_11_code) (maxL := 5) (ret := (some .boolean)) (by decide) rfl (Nat.le_of_ble_eq_true rfl) ?_
  intro p e s m below meth c ls F hl hK hN hC
  obtain ⟨hx, hb, hml, hown, hts, hr, hlk⟩ := F
  have ht : ∀ w ∈ TB, w.before [.ref (ad 2), .int a0, .int a1, .ref (sk 1)].toArray s = true := fun w h => hts w (List.mem_cons_of_mem _ h)
  have hA : ∀ q, s.heap.size ≤ q → va_A (wR cI cC ad z0) s.heap.size q := fun q h => Or.inr h
  have hl : lv_has ls 5 [(0, .ref (ad 2)), (1, .int a0), (2, .int a1), (3, .ref (sk 1))] := hl
  have L15 : ∀ (n : Nat) (x1 x4 : Int32) (s0 : jS) (ls : Array Slot) (H : Heap) (locs : List Loc), lv_has ls 5 [(0, .ref (ad 2)), (1, .int x1), (3, .ref (sk 1)), (4, .int x4)] → jcx (dC, dI) vwCl (va_A (wR cI cC ad z0) s.heap.size) s.heap (wR cI cC ad s0) H locs → fK_spells_s1_15 N n x1 x4 s0 = some (r, z1) → W p l e ({ frames := 4, cells := 0, slots := 0, locals := 142 }) s m [.ref (ad 2), .int a0, .int a1, .ref (sk 1)].toArray below meth c H locs 0 0 (MQ below (jQi (dC, dI) vwCl [(cI, .int), (cC, .char), (cL, .object "SharedSyntax$Letters")] (wR cI cC ad z0) (wR cI cC ad z1) s.heap.size r) [.ref (ad 2), .int a0, .int a1, .ref (sk 1)].toArray s 0 0 (va_A (wR cI cC ad z0) s.heap.size)) (F0 m 15 ls []) := by
    intro n
    induction n with
    | zero => exact fun _ _ _ _ _ _ _ _ hf => nomatch hf
    | succ n ih15 =>
      intro x1 x4 s0 ls H locs hl hC hf
      replace hf : fK_spells_s1_b15 N (fK_spells_s1_15 N n) x1 x4 s0 = some (r, z1) := hf
      generalize fK_spells_s1_15 N n = k15 at ih15 hf
      unfold fK_spells_s1_b15 at hf
      refine lv_iload hx hb dK_spells_15 (lv_at hl 3 rfl) ?_
      refine lv_aload_n hx hb dK_spells_17 rfl (lv_at hl 2 rfl) ?_
      obtain ⟨r1501, s1501, hc1501, hf⟩ := jB_some hf
      refine jcall_i (va_runV (C := "java/lang/String") (As := []) (rest := [.int x4]) ⟨hx, hb, hml, hown, hts⟩ ((cJS_length_s1 l dC dI cI cC cL sk sv ad N s0 s1501 r1501 hc1501) _) ⟨(callB_of 0 hts (tb_good tw191) rfl rfl rfl (ht _ tw6) (ht _ tw188) (by decide +kernel) ⟨Nat.le_of_ble_eq_true rfl, Nat.le_of_ble_eq_true rfl⟩), ht _ tw189, ht _ tw190⟩ (jpreO (jEn_ok sk sv) hC hA hK hN (vk_recv hN.2.1 (by decide) hC.2.2) _) rfl rfl hl.1 rfl (lv_room (Nat.le_of_ble_eq_true rfl)) dK_spells_18 ⟨Nat.le_refl _, Nat.le_refl _⟩) hC hA (fun H locs hC => ?_)
      refine lv_icmp_ge (tgt := 52) hx hb dK_spells_21 (by decide) (fun c1502 => ?_) (fun c1502 => ?_)
      · replace hf := jif_t c1502 hf
        refine lv_iconst (v := 1) hx hb dK_spells_52 (by decide) ?_
        cases hf
        exact jret_z hx hb hr (by decide +kernel) hlk hC hK dK_spells_53
      · replace hf := jif_f c1502 hf
        refine lv_aload_n hx hb dK_spells_24 rfl (lv_at hl 0 rfl) ?_
        refine va_get (D := (dC, dI)) (ci := 1) (v := .ref (ad 3)) (C := RcK) (T := TcK) (N := 6) hx hb ht in_cK hown hK hC.1 2 (wR_e2 cI cC ad s1501) rfl 0 (by decide) (ht _ tw93) (fun _ h9 => h9) rfl dK_spells_25 ?_
        refine lv_iload_n hx hb dK_spells_28 rfl (lv_at hl 1 rfl) ?_
        refine lv_iload hx hb dK_spells_29 (lv_at hl 3 rfl) ?_
        refine lv_iadd hx hb dK_spells_31 ?_
        obtain ⟨r1503, s1503, hc1503, hf⟩ := jB_some hf
        refine jcall_i (va_runV (C := RcL) (As := [.int (x1 + x4)]) (rest := []) ⟨hx, hb, hml, hown, hts⟩ ((cL_at l dC dI cI cC cL sk sv ad N (x1 + x4) s1501 s1503 r1503 hc1503) _) ⟨(callB_of 1 hts (tb_good tw164) rfl rfl rfl (ht _ tw3) (ht _ tw161) (by decide +kernel) ⟨Nat.le_of_ble_eq_true rfl, Nat.le_of_ble_eq_true rfl⟩), ht _ tw162, ht _ tw163⟩ (jpreV (jEn_ok sk sv) hC hA hK hN (wR_e3 cI cC ad s1501) rfl rfl _) rfl rfl hl.1 rfl (lv_room (Nat.le_of_ble_eq_true rfl)) dK_spells_32 ⟨Nat.le_refl _, Nat.le_refl _⟩) hC hA (fun H locs hC => ?_)
        refine lv_aload_n hx hb dK_spells_35 rfl (lv_at hl 2 rfl) ?_
        refine lv_iload hx hb dK_spells_36 (lv_at hl 3 rfl) ?_
        obtain ⟨r1504, s1504, hc1504, hf⟩ := jB_some hf
        refine jcall_i (va_runV (C := "java/lang/String") (As := [.int x4]) (rest := [.int r1503]) ⟨hx, hb, hml, hown, hts⟩ ((cJS_charAt_s1 l dC dI cI cC cL sk sv ad N x4 s1503 s1504 r1504 hc1504) _) ⟨(callB_of 1 hts (tb_good tw201) rfl rfl rfl (ht _ tw6) (ht _ tw198) (by decide +kernel) ⟨Nat.le_of_ble_eq_true rfl, Nat.le_of_ble_eq_true rfl⟩), ht _ tw199, ht _ tw200⟩ (jpreO (jEn_ok sk sv) hC hA hK hN (vk_recv hN.2.1 (by decide) hC.2.2) _) rfl rfl hl.1 rfl (lv_room (Nat.le_of_ble_eq_true rfl)) dK_spells_38 ⟨Nat.le_refl _, Nat.le_refl _⟩) hC hA (fun H locs hC => ?_)
        refine lv_icmp_eq (tgt := 46) hx hb dK_spells_41 (by decide) (fun c1505 => ?_) (fun c1505 => ?_)
        · replace hf := jif_t c1505 hf
          refine lv_iinc (k := 3) (v := (x4 + (1 : Int32))) (lv' := [(4, .int (x4 + (1 : Int32))), (0, .ref (ad 2)), (1, .int x1), (3, .ref (sk 1))]) hx hb dK_spells_46 hl rfl rfl (by decide) rfl (fun ls hl => ?_)
          refine lv_goto (tgt := 15) hx hb dK_spells_49 (by decide) ?_
          exact ih15 x1 (x4 + (1 : Int32)) s1504 ls _ _ (lv_sub hl [1, 2, 3, 0] rfl) hC hf
        · replace hf := jif_f c1505 hf
          refine lv_iconst (v := 0) hx hb dK_spells_44 (by decide) ?_
          cases hf
          exact jret_z hx hb hr (by decide +kernel) hlk hC hK dK_spells_45
  unfold fK_spells_s1 at hf
  refine lv_iload_n hx hb dK_spells_0 rfl (lv_at hl 2 rfl) ?_
  refine lv_iload_n hx hb dK_spells_1 rfl (lv_at hl 1 rfl) ?_
  refine lv_isub hx hb dK_spells_2 ?_
  refine lv_aload_n hx hb dK_spells_3 rfl (lv_at hl 3 rfl) ?_
  obtain ⟨r1, s1, hc1, hf⟩ := jB_some hf
  refine jcall_i (va_runV (C := "java/lang/String") (As := []) (rest := [.int (a1 - a0)]) ⟨hx, hb, hml, hown, hts⟩ ((cJS_length_s1 l dC dI cI cC cL sk sv ad N z0 s1 r1 hc1) _) ⟨(callB_of 0 hts (tb_good tw191) rfl rfl rfl (ht _ tw6) (ht _ tw188) (by decide +kernel) ⟨Nat.le_of_ble_eq_true rfl, Nat.le_of_ble_eq_true rfl⟩), ht _ tw189, ht _ tw190⟩ (jpreO (jEn_ok sk sv) hC hA hK hN (vk_recv hN.2.1 (by decide) hC.2.2) _) rfl rfl hl.1 rfl (lv_room (Nat.le_of_ble_eq_true rfl)) dK_spells_4 ⟨Nat.le_refl _, Nat.le_refl _⟩) hC hA (fun H locs hC => ?_)
  refine lv_icmp_eq (tgt := 12) hx hb dK_spells_7 (by decide) (fun c2 => ?_) (fun c2 => ?_)
  · replace hf := jif_t c2 hf
    refine lv_iconst (v := 0) hx hb dK_spells_12 (by decide) ?_
    refine lv_istore (lv' := [(4, .int (0 : Int32)), (0, .ref (ad 2)), (1, .int a0), (2, .int a1), (3, .ref (sk 1))]) hx hb dK_spells_13 hl (by decide) rfl (fun ls hl => ?_)
    exact L15 N a0 (0 : Int32) s1 ls _ _ (lv_sub hl [1, 2, 4, 0] rfl) hC hf
  · replace hf := jif_f c2 hf
    refine lv_iconst (v := 0) hx hb dK_spells_10 (by decide) ?_
    cases hf
    exact jret_z hx hb hr (by decide +kernel) hlk hC hK dK_spells_11

def fJS_coder_s2 (N : Nat) (z0 : jS) : Option (Int32 × jS) := some ((0 : Int32), z0)
set_option maxHeartbeats 4000000 in
set_option maxRecDepth 100000 in
theorem cJS_coder_s2 (l : Launch) (dC : Nat → ClassId) (dI : Nat → Nat → Nat) (cI cC cL : ClassId) (sk sv : Nat → Nat) (ad : Nat → Nat) (N : Nat) (z0 z1 : jS) (r : Int32) (hf : fJS_coder_s2 N z0 = some (r, z1)) : Ci l yJS_coder (Cond.code yJS_coder prog_11_method_152_code 1 (some .byte) :: TB) ({ frames := 0, cells := 0, slots := 0, locals := 0 }) (dC, dI) vwCl [(cI, .int), (cC, .char), (cL, .object "SharedSyntax$Letters")] (jEn sk sv) [.ref (sk 2)] (wR cI cC ad z0) (wR cI cC ad z1) r := by
  refine Ci_of (cc := prog_11_method_152_code) (maxL := 1) (ret := (some .byte)) (by decide) rfl (Nat.le_of_ble_eq_true rfl) ?_
  intro p e s m below meth c ls F hl hK hN hC
  obtain ⟨hx, hb, hml, hown, hts, hr, hlk⟩ := F
  have ht : ∀ w ∈ TB, w.before [.ref (sk 2)].toArray s = true := fun w h => hts w (List.mem_cons_of_mem _ h)
  have hA : ∀ q, s.heap.size ≤ q → va_A (wR cI cC ad z0) s.heap.size q := fun q h => Or.inr h
  have hl : lv_has ls 1 [(0, .ref (sk 2))] := hl
  unfold fJS_coder_s2 at hf
  refine va_gets hx hb hN.2.2.2.1 hC.2.2 hown (ht _ tw196) (fun _ h9 => h9) dJS_coder_0 ?_
  refine lv_if_eq (tgt := 13) hx hb dJS_coder_3 (by decide) (fun c => absurd c (by decide)) (fun _ => ?_)
  refine lv_aload_n hx hb dJS_coder_6 rfl (lv_at hl 0 rfl) ?_
  refine vk_getf hx hb (hN.2.1.1 2 (by decide)).2.1 hC.2.2 hown (ht _ tw973) (fun _ h9 => h9) dJS_coder_7 ?_
  refine lv_goto (tgt := 14) hx hb dJS_coder_10 (by decide) ?_
  cases hf
  exact jret_z hx hb hr (by decide +kernel) hlk hC hK dJS_coder_14

def fJS_length_s2 (N : Nat) (z0 : jS) : Option (Int32 × jS) := (jB (fJS_coder_s2 N z0) fun r1 s1 => some (((5 : Int32) >>> (r1 &&& 31)), s1))
set_option maxHeartbeats 4000000 in
set_option maxRecDepth 100000 in
theorem cJS_length_s2 (l : Launch) (dC : Nat → ClassId) (dI : Nat → Nat → Nat) (cI cC cL : ClassId) (sk sv : Nat → Nat) (ad : Nat → Nat) (N : Nat) (z0 z1 : jS) (r : Int32) (hf : fJS_length_s2 N z0 = some (r, z1)) : Ci l yJS_length (Cond.code yJS_length prog_11_method_54_code 1 (some .int) :: TB) ({ frames := 1, cells := 0, slots := 0, locals := 20 }) (dC, dI) vwCl [(cI, .int), (cC, .char), (cL, .object "SharedSyntax$Letters")] (jEn sk sv) [.ref (sk 2)] (wR cI cC ad z0) (wR cI cC ad z1) r := by
  refine Ci_of (cc := prog_11_method_54_code) (maxL := 1) (ret := (some .int)) (by decide) rfl (Nat.le_of_ble_eq_true rfl) ?_
  intro p e s m below meth c ls F hl hK hN hC
  obtain ⟨hx, hb, hml, hown, hts, hr, hlk⟩ := F
  have ht : ∀ w ∈ TB, w.before [.ref (sk 2)].toArray s = true := fun w h => hts w (List.mem_cons_of_mem _ h)
  have hA : ∀ q, s.heap.size ≤ q → va_A (wR cI cC ad z0) s.heap.size q := fun q h => Or.inr h
  have hl : lv_has ls 1 [(0, .ref (sk 2))] := hl
  unfold fJS_length_s2 at hf
  refine lv_aload_n hx hb dJS_length_0 rfl (lv_at hl 0 rfl) ?_
  refine vk_getf hx hb (hN.2.1.1 2 (by decide)).2.2.1 hC.2.2 hown (ht _ tw972) (fun _ h9 => h9) dJS_length_1 ?_
  refine va_tlen (v := 5) hx hb (hN.2.1.1 2 (by decide)).2.2.2 hC.2.2 (by decide) dJS_length_4 ?_
  refine lv_aload_n hx hb dJS_length_5 rfl (lv_at hl 0 rfl) ?_
  obtain ⟨r1, s1, hc1, hf⟩ := jB_some hf
  refine jcall_i (va_runV (C := "java/lang/String") (As := []) (rest := [.int (5 : Int32)]) ⟨hx, hb, hml, hown, hts⟩ ((cJS_coder_s2 l dC dI cI cC cL sk sv ad N z0 s1 r1 hc1) _) ⟨(callB_of 0 hts (tb_good tw195) rfl rfl rfl (ht _ tw6) (ht _ tw192) (by decide +kernel) ⟨Nat.le_of_ble_eq_true rfl, Nat.le_of_ble_eq_true rfl⟩), ht _ tw193, ht _ tw194⟩ (jpreO (jEn_ok sk sv) hC hA hK hN (vk_recv hN.2.1 (by decide) hC.2.2) _) rfl rfl hl.1 rfl (lv_room (Nat.le_of_ble_eq_true rfl)) dJS_length_6 ⟨Nat.le_refl _, Nat.le_refl _⟩) hC hA (fun H locs hC => ?_)
  refine lv_ishr hx hb dJS_length_9 ?_
  cases hf
  exact jret_i hx hb hr hlk hC hK dJS_length_10

def fJS_isLatin1_s2 (N : Nat) (z0 : jS) : Option (Int32 × jS) := some ((1 : Int32), z0)
set_option maxHeartbeats 4000000 in
set_option maxRecDepth 100000 in
theorem cJS_isLatin1_s2 (l : Launch) (dC : Nat → ClassId) (dI : Nat → Nat → Nat) (cI cC cL : ClassId) (sk sv : Nat → Nat) (ad : Nat → Nat) (N : Nat) (z0 z1 : jS) (r : Int32) (hf : fJS_isLatin1_s2 N z0 = some (r, z1)) : Ci l yJS_isLatin1 (Cond.code yJS_isLatin1 prog_11_method_154_code 1 (some .boolean) :: TB) ({ frames := 0, cells := 0, slots := 0, locals := 0 }) (dC, dI) vwCl [(cI, .int), (cC, .char), (cL, .object "SharedSyntax$Letters")] (jEn sk sv) [.ref (sk 2)] (wR cI cC ad z0) (wR cI cC ad z1) r := by
  refine Ci_of (cc := prog_11_method_154_code) (maxL := 1) (ret := (some .boolean)) (by decide) rfl (Nat.le_of_ble_eq_true rfl) ?_
  intro p e s m below meth c ls F hl hK hN hC
  obtain ⟨hx, hb, hml, hown, hts, hr, hlk⟩ := F
  have ht : ∀ w ∈ TB, w.before [.ref (sk 2)].toArray s = true := fun w h => hts w (List.mem_cons_of_mem _ h)
  have hA : ∀ q, s.heap.size ≤ q → va_A (wR cI cC ad z0) s.heap.size q := fun q h => Or.inr h
  have hl : lv_has ls 1 [(0, .ref (sk 2))] := hl
  unfold fJS_isLatin1_s2 at hf
  refine va_gets hx hb hN.2.2.2.1 hC.2.2 hown (ht _ tw196) (fun _ h9 => h9) dJS_isLatin1_0 ?_
  refine lv_if_eq (tgt := 17) hx hb dJS_isLatin1_3 (by decide) (fun c => absurd c (by decide)) (fun _ => ?_)
  refine lv_aload_n hx hb dJS_isLatin1_6 rfl (lv_at hl 0 rfl) ?_
  refine vk_getf hx hb (hN.2.1.1 2 (by decide)).2.1 hC.2.2 hown (ht _ tw973) (fun _ h9 => h9) dJS_isLatin1_7 ?_
  refine lv_if_ne (tgt := 17) hx hb dJS_isLatin1_10 (by decide) (fun c => absurd c (by decide)) (fun _ => ?_)
  refine lv_iconst (v := 1) hx hb dJS_isLatin1_13 (by decide) ?_
  refine lv_goto (tgt := 18) hx hb dJS_isLatin1_14 (by decide) ?_
  cases hf
  exact jret_z hx hb hr (by decide +kernel) hlk hC hK dJS_isLatin1_18

def fJN_charAt_b2 (N : Nat) (a1 : Int32) (z0 : jS) : Option (Int32 × jS) := (if a1 < 0 then none else (if a1 < (5 : Int32) then (if jIn a1 5 = true then (if jCh ((((((bytJ.getD 2 []).getD (a1).toNatClampNeg 0) &&& (255 : Int32))).toUInt32 % 65536).toInt32) = true then some ((((((bytJ.getD 2 []).getD (a1).toNatClampNeg 0) &&& (255 : Int32))).toUInt32 % 65536).toInt32, z0) else none) else none) else none))
set_option maxHeartbeats 4000000 in
set_option maxRecDepth 100000 in
theorem cJN_charAt_b2 (l : Launch) (dC : Nat → ClassId) (dI : Nat → Nat → Nat) (cI cC cL : ClassId) (sk sv : Nat → Nat) (ad : Nat → Nat) (N : Nat) (a1 : Int32) (z0 z1 : jS) (r : Int32) (hf : fJN_charAt_b2 N a1 z0 = some (r, z1)) : Ci l yJN_charAt (Cond.code yJN_charAt prog_12_method_2_code 2 (some .char) :: TB) ({ frames := 2, cells := 0, slots := 0, locals := 100 }) (dC, dI) vwCl [(cI, .int), (cC, .char), (cL, .object "SharedSyntax$Letters")] (jEn sk sv) [.ref (sv 2), .int a1] (wR cI cC ad z0) (wR cI cC ad z1) r := by
  refine Ci_of (cc := prog_12_method_2_code) (maxL := 2) (ret := (some .char)) (by decide) rfl (Nat.le_of_ble_eq_true rfl) ?_
  intro p e s m below meth c ls F hl hK hN hC
  obtain ⟨hx, hb, hml, hown, hts, hr, hlk⟩ := F
  have ht : ∀ w ∈ TB, w.before [.ref (sv 2), .int a1].toArray s = true := fun w h => hts w (List.mem_cons_of_mem _ h)
  have hA : ∀ q, s.heap.size ≤ q → va_A (wR cI cC ad z0) s.heap.size q := fun q h => Or.inr h
  have hl : lv_has ls 2 [(0, .ref (sv 2)), (1, .int a1)] := hl
  unfold fJN_charAt_b2 at hf
  refine lv_iload_n hx hb dJN_charAt_0 rfl (lv_at hl 1 rfl) ?_
  refine lv_aload_n hx hb dJN_charAt_1 rfl (lv_at hl 0 rfl) ?_
  refine va_tlen (v := 5) hx hb (hN.2.1.1 2 (by decide)).2.2.2 hC.2.2 (by decide) dJN_charAt_2 ?_
  obtain ⟨hq1, hp1, hf⟩ := jck_s hf
  refine jcall_v (va_runS (As := [.int a1, .int (5 : Int32)]) (rest := []) ⟨hx, hb, hml, hown, hts⟩ (cJS_checkIndex l dC dI sk sv _ _ _ _ hq1 hp1 _) ⟨(callB_of 2 hts (tb_good tw211) rfl rfl rfl (ht _ tw6) (ht _ tw209) (by decide +kernel) ⟨Nat.le_of_ble_eq_true rfl, Nat.le_of_ble_eq_true rfl⟩), ht _ tw210⟩ (jpreS (jEn_ok sk sv) hC hA hK hN _) rfl rfl hl.1 rfl (lv_room (Nat.le_of_ble_eq_true rfl)) dJN_charAt_3 ⟨Nat.le_refl _, Nat.le_refl _⟩) hC hA (fun H locs hC => ?_)
  refine lv_aload_n hx hb dJN_charAt_6 rfl (lv_at hl 0 rfl) ?_
  refine lv_iload_n hx hb dJN_charAt_7 rfl (lv_at hl 1 rfl) ?_
  obtain ⟨hi2, hf⟩ := jC_in hf
  refine va_tb hx hb (hN.2.1.1 2 (by decide)).2.2.2 hC.2.2 (show vp_in _ (lenJ.getD 2 0) from hi2) rfl dJN_charAt_8 ?_
  refine lv_sipush (v := 255) hx hb dJN_charAt_9 (by decide) ?_
  refine lv_iand hx hb dJN_charAt_12 ?_
  refine lv_i2c hx hb dJN_charAt_13 rfl ?_
  obtain ⟨hz, hf⟩ := jC_b hf
  cases hf
  exact jret_z hx hb hr (jCh_n hz) hlk hC hK dJN_charAt_14

def fJS_charAt_s2 (N : Nat) (a0 : Int32) (z0 : jS) : Option (Int32 × jS) := (jB (fJS_isLatin1_s2 N z0) fun r1 s1 => (if r1 = 0 then none else (jB (fJN_charAt_b2 N a0 s1) fun r3 s3 => (if jCh r3 = true then some (r3, s3) else none))))
set_option maxHeartbeats 4000000 in
set_option maxRecDepth 100000 in
theorem cJS_charAt_s2 (l : Launch) (dC : Nat → ClassId) (dI : Nat → Nat → Nat) (cI cC cL : ClassId) (sk sv : Nat → Nat) (ad : Nat → Nat) (N : Nat) (a0 : Int32) (z0 z1 : jS) (r : Int32) (hf : fJS_charAt_s2 N a0 z0 = some (r, z1)) : Ci l yJS_charAt (Cond.code yJS_charAt prog_11_method_56_code 2 (some .char) :: TB) ({ frames := 3, cells := 0, slots := 0, locals := 121 }) (dC, dI) vwCl [(cI, .int), (cC, .char), (cL, .object "SharedSyntax$Letters")] (jEn sk sv) [.ref (sk 2), .int a0] (wR cI cC ad z0) (wR cI cC ad z1) r := by
  refine Ci_of (cc := prog_11_method_56_code) (maxL := 2) (ret := (some .char)) (by decide) rfl (Nat.le_of_ble_eq_true rfl) ?_
  intro p e s m below meth c ls F hl hK hN hC
  obtain ⟨hx, hb, hml, hown, hts, hr, hlk⟩ := F
  have ht : ∀ w ∈ TB, w.before [.ref (sk 2), .int a0].toArray s = true := fun w h => hts w (List.mem_cons_of_mem _ h)
  have hA : ∀ q, s.heap.size ≤ q → va_A (wR cI cC ad z0) s.heap.size q := fun q h => Or.inr h
  have hl : lv_has ls 2 [(0, .ref (sk 2)), (1, .int a0)] := hl
  unfold fJS_charAt_s2 at hf
  refine lv_aload_n hx hb dJS_charAt_0 rfl (lv_at hl 0 rfl) ?_
  obtain ⟨r1, s1, hc1, hf⟩ := jB_some hf
  refine jcall_i (va_runV (C := "java/lang/String") (As := []) (rest := []) ⟨hx, hb, hml, hown, hts⟩ ((cJS_isLatin1_s2 l dC dI cI cC cL sk sv ad N z0 s1 r1 hc1) _) ⟨(callB_of 0 hts (tb_good tw205) rfl rfl rfl (ht _ tw6) (ht _ tw202) (by decide +kernel) ⟨Nat.le_of_ble_eq_true rfl, Nat.le_of_ble_eq_true rfl⟩), ht _ tw203, ht _ tw204⟩ (jpreO (jEn_ok sk sv) hC hA hK hN (vk_recv hN.2.1 (by decide) hC.2.2) _) rfl rfl hl.1 rfl (lv_room (Nat.le_of_ble_eq_true rfl)) dJS_charAt_1 ⟨Nat.le_refl _, Nat.le_refl _⟩) hC hA (fun H locs hC => ?_)
  refine lv_if_eq (tgt := 16) hx hb dJS_charAt_4 (by decide) (fun c2 => ?_) (fun c2 => ?_)
  · replace hf := jif_t c2 hf
    refine lv_aload_n hx hb dJS_charAt_16 rfl (lv_at hl 0 rfl) ?_
    refine vk_getf hx hb (hN.2.1.1 2 (by decide)).2.2.1 hC.2.2 hown (ht _ tw972) (fun _ h9 => h9) dJS_charAt_17 ?_
    refine lv_iload_n hx hb dJS_charAt_20 rfl (lv_at hl 1 rfl) ?_
    cases hf
  · replace hf := jif_f c2 hf
    refine lv_aload_n hx hb dJS_charAt_7 rfl (lv_at hl 0 rfl) ?_
    refine vk_getf hx hb (hN.2.1.1 2 (by decide)).2.2.1 hC.2.2 hown (ht _ tw972) (fun _ h9 => h9) dJS_charAt_8 ?_
    refine lv_iload_n hx hb dJS_charAt_11 rfl (lv_at hl 1 rfl) ?_
    obtain ⟨r3, s3, hc3, hf⟩ := jB_some hf
    refine jcall_i (va_runS (As := [.ref (sv 2), .int a0]) (rest := []) ⟨hx, hb, hml, hown, hts⟩ ((cJN_charAt_b2 l dC dI cI cC cL sk sv ad N a0 s1 s3 r3 hc3) _) ⟨(callB_of 2 hts (tb_good tw208) rfl rfl rfl (ht _ tw7) (ht _ tw206) (by decide +kernel) ⟨Nat.le_of_ble_eq_true rfl, Nat.le_of_ble_eq_true rfl⟩), ht _ tw207⟩ (jpreS (jEn_ok sk sv) hC hA hK hN _) rfl rfl hl.1 rfl (lv_room (Nat.le_of_ble_eq_true rfl)) dJS_charAt_12 ⟨Nat.le_refl _, Nat.le_refl _⟩) hC hA (fun H locs hC => ?_)
    obtain ⟨hz, hf⟩ := jC_b hf
    cases hf
    exact jret_z hx hb hr (jCh_n hz) hlk hC hK dJS_charAt_15
