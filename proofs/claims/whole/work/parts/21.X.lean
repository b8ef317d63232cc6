def fL_append_B (N : Nat) (a0 : Int32) (z0 : jX) : Option (Int32 × jX) := (if jgI z0.1 2 < (20 : Int32) then (if jIn (jgI z0.1 2) 20 = true then (jL ((jsA z0.1 0 (jgI z0.1 2).toNatClampNeg a0, z0.2.1, z0.2.2)) fun s2 => (jL ((jsI s2.1 2 (jgI s2.1 2 + (1 : Int32)), s2.2.1, s2.2.2)) fun s3 => some ((1 : Int32), s3))) else none) else some ((0 : Int32), z0))
set_option maxHeartbeats 4000000 in
set_option maxRecDepth 100000 in
theorem cL_append_B (l : Launch) (dC : Nat → ClassId) (dI : Nat → Nat → Nat) (cI cC cL : ClassId) (sk sv : Nat → Nat) (adX bh ch adC adS : Nat → Nat) (N : Nat) (a0 : Int32) (z0 z1 : jX) (r : Int32) (hf : fL_append_B N a0 z0 = some (r, z1)) : Ci l yL_append (Cond.code yL_append prog_3_method_3_code 2 (some .boolean) :: TB) ({ frames := 0, cells := 0, slots := 0, locals := 0 }) (dC, dI) vwCl [(cI, .int), (cC, .char), (cL, .object "SharedSyntax$Letters")] (jEn sk sv) [.ref (adX 1), .int a0] (wX cI cC cL adX bh ch adC adS z0) (wX cI cC cL adX bh ch adC adS z1) r := by
  refine Ci_of (cc := prog_3_method_3_code) (maxL := 2) (ret := (some .boolean)) (by decide) rfl (Nat.le_of_ble_eq_true rfl) ?_
  intro p e s m below meth c ls F hl hK hN hC
  obtain ⟨hx, hb, hml, hown, hts, hr, hlk⟩ := F
  have ht : ∀ w ∈ TB, w.before [.ref (adX 1), .int a0].toArray s = true := fun w h => hts w (List.mem_cons_of_mem _ h)
  have hA : ∀ q, s.heap.size ≤ q → va_A (wX cI cC cL adX bh ch adC adS z0) s.heap.size q := fun q h => Or.inr h
  have hl : lv_has ls 2 [(0, .ref (adX 1)), (1, .int a0)] := hl
  unfold fL_append_B at hf
  refine lv_aload_n hx hb dL_append_0 rfl (lv_at hl 0 rfl) ?_
  refine va_get (D := (dC, dI)) (ci := 0) (v := .int (jgI z0.1 2)) (C := RcL) (T := TcL) (N := 2) hx hb ht in_cL hown hK hC.1 1 (wX_e1 cI cC cL adX bh ch adC adS z0) rfl 1 (by decide) (ht _ tw32) (fun _ h9 => h9) rfl dL_append_1 ?_
  refine lv_aload_n hx hb dL_append_4 rfl (lv_at hl 0 rfl) ?_
  refine va_get (D := (dC, dI)) (ci := 0) (v := .ref (adX 2)) (C := RcL) (T := TcL) (N := 2) hx hb ht in_cL hown hK hC.1 1 (wX_e1 cI cC cL adX bh ch adC adS z0) rfl 0 (by decide) (ht _ tw31) (fun _ h9 => h9) rfl dL_append_5 ?_
  refine va_alen (v := 20) hx hb hK hC.1 2 0 (wX_e2 cI cC cL adX bh ch adC adS z0) rfl rfl dL_append_8 ?_
  refine lv_icmp_lt (tgt := 14) hx hb dL_append_9 (by decide) (fun c1 => ?_) (fun c1 => ?_)
  · replace hf := jif_t c1 hf
    refine lv_aload_n hx hb dL_append_14 rfl (lv_at hl 0 rfl) ?_
    refine va_get (D := (dC, dI)) (ci := 0) (v := .ref (adX 2)) (C := RcL) (T := TcL) (N := 2) hx hb ht in_cL hown hK hC.1 1 (wX_e1 cI cC cL adX bh ch adC adS z0) rfl 0 (by decide) (ht _ tw31) (fun _ h9 => h9) rfl dL_append_15 ?_
    refine lv_aload_n hx hb dL_append_18 rfl (lv_at hl 0 rfl) ?_
    refine va_get (D := (dC, dI)) (ci := 0) (v := .int (jgI z0.1 2)) (C := RcL) (T := TcL) (N := 2) hx hb ht in_cL hown hK hC.1 1 (wX_e1 cI cC cL adX bh ch adC adS z0) rfl 1 (by decide) (ht _ tw32) (fun _ h9 => h9) rfl dL_append_19 ?_
    refine lv_iload_n hx hb dL_append_22 rfl (lv_at hl 1 rfl) ?_
    obtain ⟨hi2, hf⟩ := jC_in hf
    obtain ⟨s2, e2, hf⟩ := jL_s hf
    refine jast_i hx hb hK hC 2 0 (wX_e2 cI cC cL adX bh ch adC adS z0) rfl hi2 dL_append_23 ((wX_aBa cI cC cL adX bh ch adC adS z0 _ _).trans (congrArg (wX cI cC cL adX bh ch adC adS) e2.symm)) (fun H locs hC => ?_)
    refine lv_aload_n hx hb dL_append_24 rfl (lv_at hl 0 rfl) ?_
    refine lv_dup hx hb dL_append_25 rfl ?_
    refine va_get (D := (dC, dI)) (ci := 0) (v := .int (jgI s2.1 2)) (C := RcL) (T := TcL) (N := 2) hx hb ht in_cL hown hK hC.1 1 (wX_e1 cI cC cL adX bh ch adC adS s2) rfl 1 (by decide) (ht _ tw32) (fun _ h9 => h9) rfl dL_append_26 ?_
    refine lv_iconst (v := 1) hx hb dL_append_29 (by decide) ?_
    refine lv_iadd hx hb dL_append_30 ?_
    obtain ⟨s3, e3, hf⟩ := jL_s hf
    refine jput (ci := 0) (C := RcL) (T := TcL) (N := 2) hx hb ht in_cL tycL tycL_ok nmcL hown hK hC 1 (wX_e1 cI cC cL adX bh ch adC adS s2) rfl 1 (by decide) (ht _ tw32) (fun _ h9 => h9) rfl rfl (Nat.le_of_ble_eq_true rfl) dL_append_31 ((wX_pB_2 cI cC cL adX bh ch adC adS s2 _).trans (congrArg (wX cI cC cL adX bh ch adC adS) e3.symm)) (fun H locs hC => ?_)
    refine lv_iconst (v := 1) hx hb dL_append_34 (by decide) ?_
    cases hf
    exact jret_z hx hb hr (by decide +kernel) hlk hC hK dL_append_35
  · replace hf := jif_f c1 hf
    refine lv_iconst (v := 0) hx hb dL_append_12 (by decide) ?_
    cases hf
    exact jret_z hx hb hr (by decide +kernel) hlk hC hK dL_append_13

def fX_type_18 (N : Nat) (x1 : Int32) (s0 : jX) : Option (Int32 × jX) := (jB (fL_append_B N x1 s0) fun r1802 s1802 => (if r1802 = 0 then some ((0 : Int32), s1802) else some ((1 : Int32), s1802)))
def fX_type_22 (N : Nat) (x1 : Int32) (s0 : jX) : Option (Int32 × jX) := some ((0 : Int32), s0)
def fX_type (N : Nat) (a0 : Int32) (z0 : jX) : Option (Int32 × jX) := (if a0 = (10 : Int32) then fX_type_18 N a0 z0 else (if a0 < (32 : Int32) then fX_type_22 N a0 z0 else (if (126 : Int32) < a0 then fX_type_22 N a0 z0 else fX_type_18 N a0 z0)))
set_option maxHeartbeats 4000000 in
set_option maxRecDepth 100000 in
theorem cX_type (l : Launch) (dC : Nat → ClassId) (dI : Nat → Nat → Nat) (cI cC cL : ClassId) (sk sv : Nat → Nat) (adX bh ch adC adS : Nat → Nat) (N : Nat) (a0 : Int32) (z0 z1 : jX) (r : Int32) (hf : fX_type N a0 z0 = some (r, z1)) : Ci l yX_type (Cond.code yX_type prog_1_method_2_code 3 (some .boolean) :: TB) ({ frames := 1, cells := 0, slots := 0, locals := 21 }) (dC, dI) vwCl [(cI, .int), (cC, .char), (cL, .object "SharedSyntax$Letters")] (jEn sk sv) [.ref (adX 0), .int a0] (wX cI cC cL adX bh ch adC adS z0) (wX cI cC cL adX bh ch adC adS z1) r := by
  refine Ci_of (cc := prog_1_method_2_code) (maxL := 3) (ret := (some .boolean)) (by decide) rfl (Nat.le_of_ble_eq_true rfl) ?_
  intro p e s m below meth c ls F hl hK hN hC
  obtain ⟨hx, hb, hml, hown, hts, hr, hlk⟩ := F
  have ht : ∀ w ∈ TB, w.before [.ref (adX 0), .int a0].toArray s = true := fun w h => hts w (List.mem_cons_of_mem _ h)
  have hA : ∀ q, s.heap.size ≤ q → va_A (wX cI cC cL adX bh ch adC adS z0) s.heap.size q := fun q h => Or.inr h
  have hl : lv_has ls 3 [(0, .ref (adX 0)), (1, .int a0)] := hl
  have L18 : ∀ (x1 : Int32) (s0 : jX) (ls : Array Slot) (H : Heap) (locs : List Loc), lv_has ls 3 [(0, .ref (adX 0)), (1, .int x1)] → jcx (dC, dI) vwCl (va_A (wX cI cC cL adX bh ch adC adS z0) s.heap.size) s.heap (wX cI cC cL adX bh ch adC adS s0) H locs → fX_type_18 N x1 s0 = some (r, z1) → W p l e ({ frames := 1, cells := 0, slots := 0, locals := 21 }) s m [.ref (adX 0), .int a0].toArray below meth c H locs 0 0 (MQ below (jQi (dC, dI) vwCl [(cI, .int), (cC, .char), (cL, .object "SharedSyntax$Letters")] (wX cI cC cL adX bh ch adC adS z0) (wX cI cC cL adX bh ch adC adS z1) s.heap.size r) [.ref (adX 0), .int a0].toArray s 0 0 (va_A (wX cI cC cL adX bh ch adC adS z0) s.heap.size)) (F0 m 18 ls []) := by
    intro x1 s0 ls H locs hl hC hf
    unfold fX_type_18 at hf
    refine lv_iconst (v := 1) hx hb dX_type_18 (by decide) ?_
    refine lv_goto (tgt := 23) hx hb dX_type_19 (by decide) ?_
    refine lv_istore_n (lv' := [(2, .int (1 : Int32)), (0, .ref (adX 0)), (1, .int x1)]) hx hb dX_type_23 rfl hl (by decide) rfl (fun ls hl => ?_)
    refine lv_iload_n hx hb dX_type_24 rfl (lv_at hl 0 rfl) ?_
    refine lv_if_eq (tgt := 43) hx hb dX_type_25 (by decide) (fun c => absurd c (by decide)) (fun _ => ?_)
    refine lv_aload_n hx hb dX_type_28 rfl (lv_at hl 1 rfl) ?_
    refine va_get (D := (dC, dI)) (ci := 5) (v := .ref (adX 1)) (C := RcX) (T := TcX) (N := 6) hx hb ht in_cX hown hK hC.1 0 (wX_e0 cI cC cL adX bh ch adC adS s0) rfl 0 (by decide) (ht _ tw460) (fun _ h9 => h9) rfl dX_type_29 ?_
    refine lv_iload_n hx hb dX_type_32 rfl (lv_at hl 2 rfl) ?_
    obtain ⟨r1802, s1802, hc1802, hf⟩ := jB_some hf
    refine jcall_i (va_runV (C := RcL) (As := [.int x1]) (rest := []) ⟨hx, hb, hml, hown, hts⟩ ((cL_append_B l dC dI cI cC cL sk sv adX bh ch adC adS N x1 s0 s1802 r1802 hc1802) _) ⟨(callB_of 1 hts (tb_good tw486) rfl rfl rfl (ht _ tw3) (ht _ tw483) (by decide +kernel) ⟨Nat.le_of_ble_eq_true rfl, Nat.le_of_ble_eq_true rfl⟩), ht _ tw484, ht _ tw485⟩ (jpreV (jEn_ok sk sv) hC hA hK hN (wX_e1 cI cC cL adX bh ch adC adS s0) rfl rfl _) rfl rfl hl.1 rfl (lv_room (Nat.le_of_ble_eq_true rfl)) dX_type_33 ⟨Nat.le_refl _, Nat.le_refl _⟩) hC hA (fun H locs hC => ?_)
    refine lv_if_eq (tgt := 43) hx hb dX_type_36 (by decide) (fun c1803 => ?_) (fun c1803 => ?_)
    · replace hf := jif_t c1803 hf
      refine lv_iconst (v := 0) hx hb dX_type_43 (by decide) ?_
      cases hf
      exact jret_z hx hb hr (by decide +kernel) hlk hC hK dX_type_44
    · replace hf := jif_f c1803 hf
      refine lv_iconst (v := 1) hx hb dX_type_39 (by decide) ?_
      refine lv_goto (tgt := 44) hx hb dX_type_40 (by decide) ?_
      cases hf
      exact jret_z hx hb hr (by decide +kernel) hlk hC hK dX_type_44
  have L22 : ∀ (x1 : Int32) (s0 : jX) (ls : Array Slot) (H : Heap) (locs : List Loc), lv_has ls 3 [(0, .ref (adX 0)), (1, .int x1)] → jcx (dC, dI) vwCl (va_A (wX cI cC cL adX bh ch adC adS z0) s.heap.size) s.heap (wX cI cC cL adX bh ch adC adS s0) H locs → fX_type_22 N x1 s0 = some (r, z1) → W p l e ({ frames := 1, cells := 0, slots := 0, locals := 21 }) s m [.ref (adX 0), .int a0].toArray below meth c H locs 0 0 (MQ below (jQi (dC, dI) vwCl [(cI, .int), (cC, .char), (cL, .object "SharedSyntax$Letters")] (wX cI cC cL adX bh ch adC adS z0) (wX cI cC cL adX bh ch adC adS z1) s.heap.size r) [.ref (adX 0), .int a0].toArray s 0 0 (va_A (wX cI cC cL adX bh ch adC adS z0) s.heap.size)) (F0 m 22 ls []) := by
    intro x1 s0 ls H locs hl hC hf
    unfold fX_type_22 at hf
    refine lv_iconst (v := 0) hx hb dX_type_22 (by decide) ?_
    refine lv_istore_n (lv' := [(2, .int (0 : Int32)), (0, .ref (adX 0)), (1, .int x1)]) hx hb dX_type_23 rfl hl (by decide) rfl (fun ls hl => ?_)
    refine lv_iload_n hx hb dX_type_24 rfl (lv_at hl 0 rfl) ?_
    refine lv_if_eq (tgt := 43) hx hb dX_type_25 (by decide) (fun _ => ?_) (fun c => absurd (by decide) c)
    refine lv_iconst (v := 0) hx hb dX_type_43 (by decide) ?_
    cases hf
    exact jret_z hx hb hr (by decide +kernel) hlk hC hK dX_type_44
  unfold fX_type at hf
  refine lv_iload_n hx hb dX_type_0 rfl (lv_at hl 1 rfl) ?_
  refine lv_bipush (v := 10) hx hb dX_type_1 (by decide) ?_
  refine lv_icmp_eq (tgt := 18) hx hb dX_type_3 (by decide) (fun c1 => ?_) (fun c1 => ?_)
  · replace hf := jif_t c1 hf
    exact L18 a0 z0 ls _ _ (lv_sub hl [0, 1] rfl) hC hf
  · replace hf := jif_f c1 hf
    refine lv_iload_n hx hb dX_type_6 rfl (lv_at hl 1 rfl) ?_
    refine lv_bipush (v := 32) hx hb dX_type_7 (by decide) ?_
    refine lv_icmp_lt (tgt := 22) hx hb dX_type_9 (by decide) (fun c2 => ?_) (fun c2 => ?_)
    · replace hf := jif_t c2 hf
      exact L22 a0 z0 ls _ _ (lv_sub hl [0, 1] rfl) hC hf
    · replace hf := jif_f c2 hf
      refine lv_iload_n hx hb dX_type_12 rfl (lv_at hl 1 rfl) ?_
      refine lv_bipush (v := 126) hx hb dX_type_13 (by decide) ?_
      refine lv_icmp_gt (tgt := 22) hx hb dX_type_15 (by decide) (fun c3 => ?_) (fun c3 => ?_)
      · replace hf := jif_t c3 hf
        exact L22 a0 z0 ls _ _ (lv_sub hl [0, 1] rfl) hC hf
      · replace hf := jif_f c3 hf
        exact L18 a0 z0 ls _ _ (lv_sub hl [0, 1] rfl) hC hf

def fX_fits (N : Nat) (a0 a1 : Int32) (z0 : jX) : Option (Int32 × jX) := (if a0 < 0 then some ((0 : Int32), z0) else (if a1 < 0 then some ((0 : Int32), z0) else (if a1 ≤ (jgI z0.2.1 0 - a0) then (if (60 : Int32) < ((jgI z0.2.1 0 - a1) + jgI z0.1 2) then some ((0 : Int32), z0) else some ((1 : Int32), z0)) else some ((0 : Int32), z0))))
set_option maxHeartbeats 4000000 in
set_option maxRecDepth 100000 in
theorem cX_fits (l : Launch) (dC : Nat → ClassId) (dI : Nat → Nat → Nat) (cI cC cL : ClassId) (sk sv : Nat → Nat) (adX bh ch adC adS : Nat → Nat) (N : Nat) (a0 a1 : Int32) (z0 z1 : jX) (r : Int32) (hf : fX_fits N a0 a1 z0 = some (r, z1)) : Ci l yX_fits (Cond.code yX_fits prog_1_method_13_code 4 (some .boolean) :: TB) ({ frames := 0, cells := 0, slots := 0, locals := 0 }) (dC, dI) vwCl [(cI, .int), (cC, .char), (cL, .object "SharedSyntax$Letters")] (jEn sk sv) [.ref (adX 0), .int a0, .int a1] (wX cI cC cL adX bh ch adC adS z0) (wX cI cC cL adX bh ch adC adS z1) r := by
  refine Ci_of (cc := prog_1_method_13_code) (maxL := 4) (ret := (some .boolean)) (by decide) rfl (Nat.le_of_ble_eq_true rfl) ?_
  intro p e s m below meth c ls F hl hK hN hC
  obtain ⟨hx, hb, hml, hown, hts, hr, hlk⟩ := F
  have ht : ∀ w ∈ TB, w.before [.ref (adX 0), .int a0, .int a1].toArray s = true := fun w h => hts w (List.mem_cons_of_mem _ h)
  have hA : ∀ q, s.heap.size ≤ q → va_A (wX cI cC cL adX bh ch adC adS z0) s.heap.size q := fun q h => Or.inr h
  have hl : lv_has ls 4 [(0, .ref (adX 0)), (1, .int a0), (2, .int a1)] := hl
  unfold fX_fits at hf
  refine lv_aload_n hx hb dX_fits_0 rfl (lv_at hl 0 rfl) ?_
  refine va_get (D := (dC, dI)) (ci := 5) (v := .ref (adC 0)) (C := RcX) (T := TcX) (N := 6) hx hb ht in_cX hown hK hC.1 0 (wX_e0 cI cC cL adX bh ch adC adS z0) rfl 2 (by decide) (ht _ tw462) (fun _ h9 => h9) rfl dX_fits_1 ?_
  refine va_getN (D := (dC, dI)) (ci := 3) (v := .ref (adC 3)) (C := RcR) (T := TcR) (N := 10) hx hb ht in_cR hown hK hC.1 11 (wX_e11 cI cC cL adX bh ch adC adS z0) rfl 0 (by decide) (va_Nw.use rfl (hN.1 _ nw113)) (fun _ h9 => h9) rfl dX_fits_4 ?_
  refine va_getN (D := (dC, dI)) (ci := 0) (v := .int (jgI z0.2.1 0)) (C := RcL) (T := TcL) (N := 2) hx hb ht in_cL hown hK hC.1 14 (wX_e14 cI cC cL adX bh ch adC adS z0) rfl 1 (by decide) (va_Nw.use rfl (hN.1 _ nw34)) (fun _ h9 => h9) rfl dX_fits_7 ?_
  refine lv_istore_n (lv' := [(3, .int (jgI z0.2.1 0)), (0, .ref (adX 0)), (1, .int a0), (2, .int a1)]) hx hb dX_fits_10 rfl hl (by decide) rfl (fun ls hl => ?_)
  refine lv_iload_n hx hb dX_fits_11 rfl (lv_at hl 2 rfl) ?_
  refine lv_if_lt (tgt := 26) hx hb dX_fits_12 (by decide) (fun c1 => ?_) (fun c1 => ?_)
  · replace hf := jif_t c1 hf
    refine lv_iconst (v := 0) hx hb dX_fits_26 (by decide) ?_
    cases hf
    exact jret_z hx hb hr (by decide +kernel) hlk hC hK dX_fits_27
  · replace hf := jif_f c1 hf
    refine lv_iload_n hx hb dX_fits_15 rfl (lv_at hl 3 rfl) ?_
    refine lv_if_lt (tgt := 26) hx hb dX_fits_16 (by decide) (fun c2 => ?_) (fun c2 => ?_)
    · replace hf := jif_t c2 hf
      refine lv_iconst (v := 0) hx hb dX_fits_26 (by decide) ?_
      cases hf
      exact jret_z hx hb hr (by decide +kernel) hlk hC hK dX_fits_27
    · replace hf := jif_f c2 hf
      refine lv_iload_n hx hb dX_fits_19 rfl (lv_at hl 3 rfl) ?_
      refine lv_iload_n hx hb dX_fits_20 rfl (lv_at hl 0 rfl) ?_
      refine lv_iload_n hx hb dX_fits_21 rfl (lv_at hl 2 rfl) ?_
      refine lv_isub hx hb dX_fits_22 ?_
      refine lv_icmp_le (tgt := 28) hx hb dX_fits_23 (by decide) (fun c3 => ?_) (fun c3 => ?_)
      · replace hf := jif_t c3 hf
        refine lv_iload_n hx hb dX_fits_28 rfl (lv_at hl 0 rfl) ?_
        refine lv_iload_n hx hb dX_fits_29 rfl (lv_at hl 3 rfl) ?_
        refine lv_isub hx hb dX_fits_30 ?_
        refine lv_aload_n hx hb dX_fits_31 rfl (lv_at hl 1 rfl) ?_
        refine va_get (D := (dC, dI)) (ci := 5) (v := .ref (adX 1)) (C := RcX) (T := TcX) (N := 6) hx hb ht in_cX hown hK hC.1 0 (wX_e0 cI cC cL adX bh ch adC adS z0) rfl 0 (by decide) (ht _ tw460) (fun _ h9 => h9) rfl dX_fits_32 ?_
        refine va_getN (D := (dC, dI)) (ci := 0) (v := .int (jgI z0.1 2)) (C := RcL) (T := TcL) (N := 2) hx hb ht in_cL hown hK hC.1 1 (wX_e1 cI cC cL adX bh ch adC adS z0) rfl 1 (by decide) (va_Nw.use rfl (hN.1 _ nw34)) (fun _ h9 => h9) rfl dX_fits_35 ?_
        refine lv_iadd hx hb dX_fits_38 ?_
        refine lv_bipush (v := 60) hx hb dX_fits_39 (by decide) ?_
        refine lv_icmp_gt (tgt := 48) hx hb dX_fits_41 (by decide) (fun c4 => ?_) (fun c4 => ?_)
        · replace hf := jif_t c4 hf
          refine lv_iconst (v := 0) hx hb dX_fits_48 (by decide) ?_
          cases hf
          exact jret_z hx hb hr (by decide +kernel) hlk hC hK dX_fits_49
        · replace hf := jif_f c4 hf
          refine lv_iconst (v := 1) hx hb dX_fits_44 (by decide) ?_
          refine lv_goto (tgt := 49) hx hb dX_fits_45 (by decide) ?_
          cases hf
          exact jret_z hx hb hr (by decide +kernel) hlk hC hK dX_fits_49
      · replace hf := jif_f c3 hf
        refine lv_iconst (v := 0) hx hb dX_fits_26 (by decide) ?_
        cases hf
        exact jret_z hx hb hr (by decide +kernel) hlk hC hK dX_fits_27

def fL_clear_B (N : Nat) (z0 : jX) : Option (Int32 × jX) := (jL ((jsI z0.1 2 (0 : Int32), z0.2.1, z0.2.2)) fun s1 => some (0, s1))
set_option maxHeartbeats 4000000 in
set_option maxRecDepth 100000 in
theorem cL_clear_B (l : Launch) (dC : Nat → ClassId) (dI : Nat → Nat → Nat) (cI cC cL : ClassId) (sk sv : Nat → Nat) (adX bh ch adC adS : Nat → Nat) (N : Nat) (z0 z1 : jX) (r : Int32) (hf : fL_clear_B N z0 = some (r, z1)) : Cv l yL_clear (Cond.code yL_clear prog_3_method_4_code 1 none :: TB) ({ frames := 0, cells := 0, slots := 0, locals := 0 }) (dC, dI) vwCl [(cI, .int), (cC, .char), (cL, .object "SharedSyntax$Letters")] (jEn sk sv) [.ref (adX 1)] (wX cI cC cL adX bh ch adC adS z0) (wX cI cC cL adX bh ch adC adS z1) := by
  refine Cv_of (cc := prog_3_method_4_code) (maxL := 1) (ret := none) (by decide) rfl (Nat.le_of_ble_eq_true rfl) ?_
  intro p e s m below meth c ls F hl hK hN hC
  obtain ⟨hx, hb, hml, hown, hts, hr, hlk⟩ := F
  have ht : ∀ w ∈ TB, w.before [.ref (adX 1)].toArray s = true := fun w h => hts w (List.mem_cons_of_mem _ h)
  have hA : ∀ q, s.heap.size ≤ q → va_A (wX cI cC cL adX bh ch adC adS z0) s.heap.size q := fun q h => Or.inr h
  have hl : lv_has ls 1 [(0, .ref (adX 1))] := hl
  unfold fL_clear_B at hf
  refine lv_aload_n hx hb dL_clear_0 rfl (lv_at hl 0 rfl) ?_
  refine lv_iconst (v := 0) hx hb dL_clear_1 (by decide) ?_
  obtain ⟨s1, e1, hf⟩ := jL_s hf
  refine jput (ci := 0) (C := RcL) (T := TcL) (N := 2) hx hb ht in_cL tycL tycL_ok nmcL hown hK hC 1 (wX_e1 cI cC cL adX bh ch adC adS z0) rfl 1 (by decide) (ht _ tw32) (fun _ h9 => h9) rfl rfl (Nat.le_of_ble_eq_true rfl) dL_clear_2 ((wX_pB_2 cI cC cL adX bh ch adC adS z0 _).trans (congrArg (wX cI cC cL adX bh ch adC adS) e1.symm)) (fun H locs hC => ?_)
  cases hf
  exact jret_v hx hb hr hlk hC hK dL_clear_5

def fL_clear_h0 (N : Nat) (z0 : jX) : Option (Int32 × jX) := (jL ((jsI z0.1 4 (0 : Int32), z0.2.1, z0.2.2)) fun s1 => some (0, s1))
set_option maxHeartbeats 4000000 in
set_option maxRecDepth 100000 in
theorem cL_clear_h0 (l : Launch) (dC : Nat → ClassId) (dI : Nat → Nat → Nat) (cI cC cL : ClassId) (sk sv : Nat → Nat) (adX bh ch adC adS : Nat → Nat) (N : Nat) (z0 z1 : jX) (r : Int32) (hf : fL_clear_h0 N z0 = some (r, z1)) : Cv l yL_clear (Cond.code yL_clear prog_3_method_4_code 1 none :: TB) ({ frames := 0, cells := 0, slots := 0, locals := 0 }) (dC, dI) vwCl [(cI, .int), (cC, .char), (cL, .object "SharedSyntax$Letters")] (jEn sk sv) [.ref (bh 0)] (wX cI cC cL adX bh ch adC adS z0) (wX cI cC cL adX bh ch adC adS z1) := by
  refine Cv_of (cc := prog_3_method_4_code) (maxL := 1) (ret := none) (by decide) rfl (Nat.le_of_ble_eq_true rfl) ?_
  intro p e s m below meth c ls F hl hK hN hC
  obtain ⟨hx, hb, hml, hown, hts, hr, hlk⟩ := F
  have ht : ∀ w ∈ TB, w.before [.ref (bh 0)].toArray s = true := fun w h => hts w (List.mem_cons_of_mem _ h)
  have hA : ∀ q, s.heap.size ≤ q → va_A (wX cI cC cL adX bh ch adC adS z0) s.heap.size q := fun q h => Or.inr h
  have hl : lv_has ls 1 [(0, .ref (bh 0))] := hl
  unfold fL_clear_h0 at hf
  refine lv_aload_n hx hb dL_clear_0 rfl (lv_at hl 0 rfl) ?_
  refine lv_iconst (v := 0) hx hb dL_clear_1 (by decide) ?_
  obtain ⟨s1, e1, hf⟩ := jL_s hf
  refine jput (ci := 0) (C := RcL) (T := TcL) (N := 2) hx hb ht in_cL tycL tycL_ok nmcL hown hK hC 5 (wX_e5 cI cC cL adX bh ch adC adS z0) rfl 1 (by decide) (ht _ tw32) (fun _ h9 => h9) rfl rfl (Nat.le_of_ble_eq_true rfl) dL_clear_2 ((wX_ph0_4 cI cC cL adX bh ch adC adS z0 _).trans (congrArg (wX cI cC cL adX bh ch adC adS) e1.symm)) (fun H locs hC => ?_)
  cases hf
  exact jret_v hx hb hr hlk hC hK dL_clear_5

def fL_append_h0 (N : Nat) (a0 : Int32) (z0 : jX) : Option (Int32 × jX) := (if jgI z0.1 4 < (60 : Int32) then (if jIn (jgI z0.1 4) 60 = true then (jL ((jsA z0.1 1 (jgI z0.1 4).toNatClampNeg a0, z0.2.1, z0.2.2)) fun s2 => (jL ((jsI s2.1 4 (jgI s2.1 4 + (1 : Int32)), s2.2.1, s2.2.2)) fun s3 => some ((1 : Int32), s3))) else none) else some ((0 : Int32), z0))
set_option maxHeartbeats 4000000 in
set_option maxRecDepth 100000 in
theorem cL_append_h0 (l : Launch) (dC : Nat → ClassId) (dI : Nat → Nat → Nat) (cI cC cL : ClassId) (sk sv : Nat → Nat) (adX bh ch adC adS : Nat → Nat) (N : Nat) (a0 : Int32) (z0 z1 : jX) (r : Int32) (hf : fL_append_h0 N a0 z0 = some (r, z1)) : Ci l yL_append (Cond.code yL_append prog_3_method_3_code 2 (some .boolean) :: TB) ({ frames := 0, cells := 0, slots := 0, locals := 0 }) (dC, dI) vwCl [(cI, .int), (cC, .char), (cL, .object "SharedSyntax$Letters")] (jEn sk sv) [.ref (bh 0), .int a0] (wX cI cC cL adX bh ch adC adS z0) (wX cI cC cL adX bh ch adC adS z1) r := by
  refine Ci_of (cc := prog_3_method_3_code) (maxL := 2) (ret := (some .boolean)) (by decide) rfl (Nat.le_of_ble_eq_true rfl) ?_
  intro p e s m below meth c ls F hl hK hN hC
  obtain ⟨hx, hb, hml, hown, hts, hr, hlk⟩ := F
  have ht : ∀ w ∈ TB, w.before [.ref (bh 0), .int a0].toArray s = true := fun w h => hts w (List.mem_cons_of_mem _ h)
  have hA : ∀ q, s.heap.size ≤ q → va_A (wX cI cC cL adX bh ch adC adS z0) s.heap.size q := fun q h => Or.inr h
  have hl : lv_has ls 2 [(0, .ref (bh 0)), (1, .int a0)] := hl
  unfold fL_append_h0 at hf
  refine lv_aload_n hx hb dL_append_0 rfl (lv_at hl 0 rfl) ?_
  refine va_get (D := (dC, dI)) (ci := 0) (v := .int (jgI z0.1 4)) (C := RcL) (T := TcL) (N := 2) hx hb ht in_cL hown hK hC.1 5 (wX_e5 cI cC cL adX bh ch adC adS z0) rfl 1 (by decide) (ht _ tw32) (fun _ h9 => h9) rfl dL_append_1 ?_
  refine lv_aload_n hx hb dL_append_4 rfl (lv_at hl 0 rfl) ?_
  refine va_get (D := (dC, dI)) (ci := 0) (v := .ref (ch 0)) (C := RcL) (T := TcL) (N := 2) hx hb ht in_cL hown hK hC.1 5 (wX_e5 cI cC cL adX bh ch adC adS z0) rfl 0 (by decide) (ht _ tw31) (fun _ h9 => h9) rfl dL_append_5 ?_
  refine va_alen (v := 60) hx hb hK hC.1 6 0 (wX_e6 cI cC cL adX bh ch adC adS z0) rfl rfl dL_append_8 ?_
  refine lv_icmp_lt (tgt := 14) hx hb dL_append_9 (by decide) (fun c1 => ?_) (fun c1 => ?_)
  · replace hf := jif_t c1 hf
    refine lv_aload_n hx hb dL_append_14 rfl (lv_at hl 0 rfl) ?_
    refine va_get (D := (dC, dI)) (ci := 0) (v := .ref (ch 0)) (C := RcL) (T := TcL) (N := 2) hx hb ht in_cL hown hK hC.1 5 (wX_e5 cI cC cL adX bh ch adC adS z0) rfl 0 (by decide) (ht _ tw31) (fun _ h9 => h9) rfl dL_append_15 ?_
    refine lv_aload_n hx hb dL_append_18 rfl (lv_at hl 0 rfl) ?_
    refine va_get (D := (dC, dI)) (ci := 0) (v := .int (jgI z0.1 4)) (C := RcL) (T := TcL) (N := 2) hx hb ht in_cL hown hK hC.1 5 (wX_e5 cI cC cL adX bh ch adC adS z0) rfl 1 (by decide) (ht _ tw32) (fun _ h9 => h9) rfl dL_append_19 ?_
    refine lv_iload_n hx hb dL_append_22 rfl (lv_at hl 1 rfl) ?_
    obtain ⟨hi2, hf⟩ := jC_in hf
    obtain ⟨s2, e2, hf⟩ := jL_s hf
    refine jast_i hx hb hK hC 6 0 (wX_e6 cI cC cL adX bh ch adC adS z0) rfl hi2 dL_append_23 ((wX_ah0a cI cC cL adX bh ch adC adS z0 _ _).trans (congrArg (wX cI cC cL adX bh ch adC adS) e2.symm)) (fun H locs hC => ?_)
    refine lv_aload_n hx hb dL_append_24 rfl (lv_at hl 0 rfl) ?_
    refine lv_dup hx hb dL_append_25 rfl ?_
    refine va_get (D := (dC, dI)) (ci := 0) (v := .int (jgI s2.1 4)) (C := RcL) (T := TcL) (N := 2) hx hb ht in_cL hown hK hC.1 5 (wX_e5 cI cC cL adX bh ch adC adS s2) rfl 1 (by decide) (ht _ tw32) (fun _ h9 => h9) rfl dL_append_26 ?_
    refine lv_iconst (v := 1) hx hb dL_append_29 (by decide) ?_
    refine lv_iadd hx hb dL_append_30 ?_
    obtain ⟨s3, e3, hf⟩ := jL_s hf
    refine jput (ci := 0) (C := RcL) (T := TcL) (N := 2) hx hb ht in_cL tycL tycL_ok nmcL hown hK hC 5 (wX_e5 cI cC cL adX bh ch adC adS s2) rfl 1 (by decide) (ht _ tw32) (fun _ h9 => h9) rfl rfl (Nat.le_of_ble_eq_true rfl) dL_append_31 ((wX_ph0_4 cI cC cL adX bh ch adC adS s2 _).trans (congrArg (wX cI cC cL adX bh ch adC adS) e3.symm)) (fun H locs hC => ?_)
    refine lv_iconst (v := 1) hx hb dL_append_34 (by decide) ?_
    cases hf
    exact jret_z hx hb hr (by decide +kernel) hlk hC hK dL_append_35
  · replace hf := jif_f c1 hf
    refine lv_iconst (v := 0) hx hb dL_append_12 (by decide) ?_
    cases hf
    exact jret_z hx hb hr (by decide +kernel) hlk hC hK dL_append_13

def fL_appendPart_h0_cL_b3 (N : Nat) (k3 : Int32 → Int32 → jX → Option (Int32 × jX)) (x3 x4 : Int32) (s0 : jX) : Option (Int32 × jX) := (if x3 ≤ x4 then some (0, s0) else (jB (fL_at N x4 s0.2.1) fun r302 s302 => (jB (fL_append_h0 N r302 (s0.1, s302, s0.2.2)) fun r303 s303 => k3 x3 (x4 + (1 : Int32)) s303)))
def fL_appendPart_h0_cL_3 (N : Nat) : Nat → Int32 → Int32 → jX → Option (Int32 × jX)
  | 0 => fun _ _ _ => none
  | n + 1 => fun x3 x4 s0 => fL_appendPart_h0_cL_b3 N (fL_appendPart_h0_cL_3 N n) x3 x4 s0
def fL_appendPart_h0_cL (N : Nat) (a1 a2 : Int32) (z0 : jX) : Option (Int32 × jX) := fL_appendPart_h0_cL_3 N N a2 a1 z0
set_option maxHeartbeats 4000000 in
set_option maxRecDepth 100000 in
theorem cL_appendPart_h0_cL (l : Launch) (dC : Nat → ClassId) (dI : Nat → Nat → Nat) (cI cC cL : ClassId) (sk sv : Nat → Nat) (adX bh ch adC adS : Nat → Nat) (N : Nat) (a1 a2 : Int32) (z0 z1 : jX) (r : Int32) (hf : fL_appendPart_h0_cL N a1 a2 z0 = some (r, z1)) : Cv l yL_appendPart (Cond.code yL_appendPart prog_3_method_7_code 5 none :: TB) ({ frames := 1, cells := 0, slots := 0, locals := 21 }) (dC, dI) vwCl [(cI, .int), (cC, .char), (cL, .object "SharedSyntax$Letters")] (jEn sk sv) [.ref (bh 0), .ref (adC 3), .int a1, .int a2] (wX cI cC cL adX bh ch adC adS z0) (wX cI cC cL adX bh ch adC adS z1) := by
  refine Cv_of (cc := prog_3_method_7_code) (maxL := 5) (ret := none) (by decide) rfl (Nat.le_of_ble_eq_true rfl) ?_
  intro p e s m below meth c ls F hl hK hN hC
  obtain ⟨hx, hb, hml, hown, hts, hr, hlk⟩ := F
  have ht : ∀ w ∈ TB, w.before [.ref (bh 0), .ref (adC 3), .int a1, .int a2].toArray s = true := fun w h => hts w (List.mem_cons_of_mem _ h)
  have hA : ∀ q, s.heap.size ≤ q → va_A (wX cI cC cL adX bh ch adC adS z0) s.heap.size q := fun q h => Or.inr h
  have hl : lv_has ls 5 [(0, .ref (bh 0)), (1, .ref (adC 3)), (2, .int a1), (3, .int a2)] := hl
  have L3 : ∀ (n : Nat) (x3 x4 : Int32) (s0 : jX) (ls : Array Slot) (H : Heap) (locs : List Loc), lv_has ls 5 [(0, .ref (bh 0)), (1, .ref (adC 3)), (3, .int x3), (4, .int x4)] → jcx (dC, dI) vwCl (va_A (wX cI cC cL adX bh ch adC adS z0) s.heap.size) s.heap (wX cI cC cL adX bh ch adC adS s0) H locs → fL_appendPart_h0_cL_3 N n x3 x4 s0 = some (r, z1) → W p l e ({ frames := 1, cells := 0, slots := 0, locals := 21 }) s m [.ref (bh 0), .ref (adC 3), .int a1, .int a2].toArray below meth c H locs 0 0 (MQ below (jQv (dC, dI) vwCl [(cI, .int), (cC, .char), (cL, .object "SharedSyntax$Letters")] (wX cI cC cL adX bh ch adC adS z0) (wX cI cC cL adX bh ch adC adS z1) s.heap.size) [.ref (bh 0), .ref (adC 3), .int a1, .int a2].toArray s 0 0 (va_A (wX cI cC cL adX bh ch adC adS z0) s.heap.size)) (F0 m 3 ls []) := by
    intro n
    induction n with
    | zero => exact fun _ _ _ _ _ _ _ _ hf => nomatch hf
    | succ n ih3 =>
      intro x3 x4 s0 ls H locs hl hC hf
      replace hf : fL_appendPart_h0_cL_b3 N (fL_appendPart_h0_cL_3 N n) x3 x4 s0 = some (r, z1) := hf
      generalize fL_appendPart_h0_cL_3 N n = k3 at ih3 hf
      unfold fL_appendPart_h0_cL_b3 at hf
      refine lv_iload hx hb dL_appendPart_3 (lv_at hl 3 rfl) ?_
      refine lv_iload_n hx hb dL_appendPart_5 rfl (lv_at hl 2 rfl) ?_
      refine lv_icmp_ge (tgt := 26) hx hb dL_appendPart_6 (by decide) (fun c301 => ?_) (fun c301 => ?_)
      · replace hf := jif_t c301 hf
        cases hf
        exact jret_v hx hb hr hlk hC hK dL_appendPart_26
      · replace hf := jif_f c301 hf
        refine lv_aload_n hx hb dL_appendPart_9 rfl (lv_at hl 0 rfl) ?_
        refine lv_aload_n hx hb dL_appendPart_10 rfl (lv_at hl 1 rfl) ?_
        refine lv_iload hx hb dL_appendPart_11 (lv_at hl 3 rfl) ?_
        obtain ⟨r302, s302, hc302, hf⟩ := jB_some hf
        have hCc := wX_subc cI cC cL adX bh ch adC adS s0 hC
        refine jcallS_i (wX_mcc cI cC cL adX bh ch adC adS s0) (wX_mrc cI cC cL adX bh ch adC adS s0) rfl (by decide) (wX_mbc cI cC cL adX bh ch adC adS s0 s302) rfl (va_runV (C := RcL) (As := [.int x4]) (rest := [.ref (bh 0)]) ⟨hx, hb, hml, hown, hts⟩ ((cL_at l dC dI cI cC cL sk sv adC N x4 s0.2.1 s302 r302 hc302) _) ⟨(callB_of 1 hts (tb_good tw164) rfl rfl rfl (ht _ tw3) (ht _ tw515) (by decide +kernel) ⟨Nat.le_of_ble_eq_true rfl, Nat.le_of_ble_eq_true rfl⟩), ht _ tw162, ht _ tw163⟩ (jpreV (jEn_ok sk sv) hCc hA hK hN (wR_e3 cI cC adC s0.2.1) rfl rfl _) rfl rfl hl.1 rfl (lv_room (Nat.le_of_ble_eq_true rfl)) dL_appendPart_13 ⟨Nat.le_refl _, Nat.le_refl _⟩) hC hA (fun H locs hC => ?_)
        obtain ⟨r303, s303, hc303, hf⟩ := jB_some hf
        refine jcall_i (va_runV (C := RcL) (As := [.int r302]) (rest := []) ⟨hx, hb, hml, hown, hts⟩ ((cL_append_h0 l dC dI cI cC cL sk sv adX bh ch adC adS N r302 (s0.1, s302, s0.2.2) s303 r303 hc303) _) ⟨(callB_of 1 hts (tb_good tw486) rfl rfl rfl (ht _ tw3) (ht _ tw516) (by decide +kernel) ⟨Nat.le_of_ble_eq_true rfl, Nat.le_of_ble_eq_true rfl⟩), ht _ tw484, ht _ tw485⟩ (jpreV (jEn_ok sk sv) hC hA hK hN (wX_e5 cI cC cL adX bh ch adC adS (s0.1, s302, s0.2.2)) rfl rfl _) rfl rfl hl.1 rfl (lv_room (Nat.le_of_ble_eq_true rfl)) dL_appendPart_16 ⟨Nat.le_refl _, Nat.le_refl _⟩) hC hA (fun H locs hC => ?_)
        refine lv_pop hx hb dL_appendPart_19 rfl ?_
        refine lv_iinc (k := 3) (v := (x4 + (1 : Int32))) (lv' := [(4, .int (x4 + (1 : Int32))), (0, .ref (bh 0)), (1, .ref (adC 3)), (3, .int x3)]) hx hb dL_appendPart_20 hl rfl rfl (by decide) rfl (fun ls hl => ?_)
        refine lv_goto (tgt := 3) hx hb dL_appendPart_23 (by decide) ?_
        exact ih3 x3 (x4 + (1 : Int32)) s303 ls _ _ (lv_sub hl [1, 2, 3, 0] rfl) hC hf
  unfold fL_appendPart_h0_cL at hf
  refine lv_iload_n hx hb dL_appendPart_0 rfl (lv_at hl 2 rfl) ?_
  refine lv_istore (lv' := [(4, .int a1), (0, .ref (bh 0)), (1, .ref (adC 3)), (2, .int a1), (3, .int a2)]) hx hb dL_appendPart_1 hl (by decide) rfl (fun ls hl => ?_)
  exact L3 N a2 a1 z0 ls _ _ (lv_sub hl [1, 2, 4, 0] rfl) hC hf

def fL_copy_h0_cL (N : Nat) (z0 : jX) : Option (Int32 × jX) := (jB (fL_clear_h0 N z0) fun r1 s1 => (jB (fL_appendPart_h0_cL N (0 : Int32) (jgI s1.2.1 0) s1) fun r2 s2 => some (0, s2)))
set_option maxHeartbeats 4000000 in
set_option maxRecDepth 100000 in
theorem cL_copy_h0_cL (l : Launch) (dC : Nat → ClassId) (dI : Nat → Nat → Nat) (cI cC cL : ClassId) (sk sv : Nat → Nat) (adX bh ch adC adS : Nat → Nat) (N : Nat) (z0 z1 : jX) (r : Int32) (hf : fL_copy_h0_cL N z0 = some (r, z1)) : Cv l yL_copy (Cond.code yL_copy prog_3_method_5_code 2 none :: TB) ({ frames := 2, cells := 0, slots := 0, locals := 45 }) (dC, dI) vwCl [(cI, .int), (cC, .char), (cL, .object "SharedSyntax$Letters")] (jEn sk sv) [.ref (bh 0), .ref (adC 3)] (wX cI cC cL adX bh ch adC adS z0) (wX cI cC cL adX bh ch adC adS z1) := by
  refine Cv_of (cc := prog_3_method_5_code) (maxL := 2) (ret := none) (by decide) rfl (Nat.le_of_ble_eq_true rfl) ?_
  intro p e s m below meth c ls F hl hK hN hC
  obtain ⟨hx, hb, hml, hown, hts, hr, hlk⟩ := F
  have ht : ∀ w ∈ TB, w.before [.ref (bh 0), .ref (adC 3)].toArray s = true := fun w h => hts w (List.mem_cons_of_mem _ h)
  have hA : ∀ q, s.heap.size ≤ q → va_A (wX cI cC cL adX bh ch adC adS z0) s.heap.size q := fun q h => Or.inr h
  have hl : lv_has ls 2 [(0, .ref (bh 0)), (1, .ref (adC 3))] := hl
  unfold fL_copy_h0_cL at hf
  refine lv_aload_n hx hb dL_copy_0 rfl (lv_at hl 0 rfl) ?_
  obtain ⟨r1, s1, hc1, hf⟩ := jB_some hf
  refine jcall_v (va_runV (C := RcL) (As := []) (rest := []) ⟨hx, hb, hml, hown, hts⟩ ((cL_clear_h0 l dC dI cI cC cL sk sv adX bh ch adC adS N z0 s1 r1 hc1) _) ⟨(callB_of 0 hts (tb_good tw510) rfl rfl rfl (ht _ tw3) (ht _ tw507) (by decide +kernel) ⟨Nat.le_of_ble_eq_true rfl, Nat.le_of_ble_eq_true rfl⟩), ht _ tw508, ht _ tw509⟩ (jpreV (jEn_ok sk sv) hC hA hK hN (wX_e5 cI cC cL adX bh ch adC adS z0) rfl rfl _) rfl rfl hl.1 rfl (lv_room (Nat.le_of_ble_eq_true rfl)) dL_copy_1 ⟨Nat.le_refl _, Nat.le_refl _⟩) hC hA (fun H locs hC => ?_)
  refine lv_aload_n hx hb dL_copy_4 rfl (lv_at hl 0 rfl) ?_
  refine lv_aload_n hx hb dL_copy_5 rfl (lv_at hl 1 rfl) ?_
  refine lv_iconst (v := 0) hx hb dL_copy_6 (by decide) ?_
  refine lv_aload_n hx hb dL_copy_7 rfl (lv_at hl 1 rfl) ?_
  refine va_get (D := (dC, dI)) (ci := 0) (v := .int (jgI s1.2.1 0)) (C := RcL) (T := TcL) (N := 2) hx hb ht in_cL hown hK hC.1 14 (wX_e14 cI cC cL adX bh ch adC adS s1) rfl 1 (by decide) (ht _ tw32) (fun _ h9 => h9) rfl dL_copy_8 ?_
  obtain ⟨r2, s2, hc2, hf⟩ := jB_some hf
  refine jcall_v (va_runV (C := RcL) (As := [.ref (adC 3), .int (0 : Int32), .int (jgI s1.2.1 0)]) (rest := []) ⟨hx, hb, hml, hown, hts⟩ ((cL_appendPart_h0_cL l dC dI cI cC cL sk sv adX bh ch adC adS N (0 : Int32) (jgI s1.2.1 0) s1 s2 r2 hc2) _) ⟨(callB_of 3 hts (tb_good tw514) rfl rfl rfl (ht _ tw3) (ht _ tw511) (by decide +kernel) ⟨Nat.le_of_ble_eq_true rfl, Nat.le_of_ble_eq_true rfl⟩), ht _ tw513, ht _ (tb_sel pv_L_appendPart)⟩ (jpreV (jEn_ok sk sv) hC hA hK hN (wX_e5 cI cC cL adX bh ch adC adS s1) rfl rfl _) rfl rfl hl.1 rfl (lv_room (Nat.le_of_ble_eq_true rfl)) dL_copy_11 ⟨Nat.le_refl _, Nat.le_refl _⟩) hC hA (fun H locs hC => ?_)
  cases hf
  exact jret_v hx hb hr hlk hC hK dL_copy_14

def fL_clear_h1 (N : Nat) (z0 : jX) : Option (Int32 × jX) := (jL ((jsI z0.1 5 (0 : Int32), z0.2.1, z0.2.2)) fun s1 => some (0, s1))
set_option maxHeartbeats 4000000 in
set_option maxRecDepth 100000 in
theorem cL_clear_h1 (l : Launch) (dC : Nat → ClassId) (dI : Nat → Nat → Nat) (cI cC cL : ClassId) (sk sv : Nat → Nat) (adX bh ch adC adS : Nat → Nat) (N : Nat) (z0 z1 : jX) (r : Int32) (hf : fL_clear_h1 N z0 = some (r, z1)) : Cv l yL_clear (Cond.code yL_clear prog_3_method_4_code 1 none :: TB) ({ frames := 0, cells := 0, slots := 0, locals := 0 }) (dC, dI) vwCl [(cI, .int), (cC, .char), (cL, .object "SharedSyntax$Letters")] (jEn sk sv) [.ref (bh 1)] (wX cI cC cL adX bh ch adC adS z0) (wX cI cC cL adX bh ch adC adS z1) := by
  refine Cv_of (cc := prog_3_method_4_code) (maxL := 1) (ret := none) (by decide) rfl (Nat.le_of_ble_eq_true rfl) ?_
  intro p e s m below meth c ls F hl hK hN hC
  obtain ⟨hx, hb, hml, hown, hts, hr, hlk⟩ := F
  have ht : ∀ w ∈ TB, w.before [.ref (bh 1)].toArray s = true := fun w h => hts w (List.mem_cons_of_mem _ h)
  have hA : ∀ q, s.heap.size ≤ q → va_A (wX cI cC cL adX bh ch adC adS z0) s.heap.size q := fun q h => Or.inr h
  have hl : lv_has ls 1 [(0, .ref (bh 1))] := hl
  unfold fL_clear_h1 at hf
  refine lv_aload_n hx hb dL_clear_0 rfl (lv_at hl 0 rfl) ?_
  refine lv_iconst (v := 0) hx hb dL_clear_1 (by decide) ?_
  obtain ⟨s1, e1, hf⟩ := jL_s hf
  refine jput (ci := 0) (C := RcL) (T := TcL) (N := 2) hx hb ht in_cL tycL tycL_ok nmcL hown hK hC 7 (wX_e7 cI cC cL adX bh ch adC adS z0) rfl 1 (by decide) (ht _ tw32) (fun _ h9 => h9) rfl rfl (Nat.le_of_ble_eq_true rfl) dL_clear_2 ((wX_ph1_5 cI cC cL adX bh ch adC adS z0 _).trans (congrArg (wX cI cC cL adX bh ch adC adS) e1.symm)) (fun H locs hC => ?_)
  cases hf
  exact jret_v hx hb hr hlk hC hK dL_clear_5

def fL_append_h1 (N : Nat) (a0 : Int32) (z0 : jX) : Option (Int32 × jX) := (if jgI z0.1 5 < (60 : Int32) then (if jIn (jgI z0.1 5) 60 = true then (jL ((jsA z0.1 2 (jgI z0.1 5).toNatClampNeg a0, z0.2.1, z0.2.2)) fun s2 => (jL ((jsI s2.1 5 (jgI s2.1 5 + (1 : Int32)), s2.2.1, s2.2.2)) fun s3 => some ((1 : Int32), s3))) else none) else some ((0 : Int32), z0))
set_option maxHeartbeats 4000000 in
set_option maxRecDepth 100000 in
theorem cL_append_h1 (l : Launch) (dC : Nat → ClassId) (dI : Nat → Nat → Nat) (cI cC cL : ClassId) (sk sv : Nat → Nat) (adX bh ch adC adS : Nat → Nat) (N : Nat) (a0 : Int32) (z0 z1 : jX) (r : Int32) (hf : fL_append_h1 N a0 z0 = some (r, z1)) : Ci l yL_append (Cond.code yL_append prog_3_method_3_code 2 (some .boolean) :: TB) ({ frames := 0, cells := 0, slots := 0, locals := 0 }) (dC, dI) vwCl [(cI, .int), (cC, .char), (cL, .object "SharedSyntax$Letters")] (jEn sk sv) [.ref (bh 1), .int a0] (wX cI cC cL adX bh ch adC adS z0) (wX cI cC cL adX bh ch adC adS z1) r := by
  refine Ci_of (cc := prog_3_method_3_code) (maxL := 2) (ret := (some .boolean)) (by decide) rfl (Nat.le_of_ble_eq_true rfl) ?_
  intro p e s m below meth c ls F hl hK hN hC
  obtain ⟨hx, hb, hml, hown, hts, hr, hlk⟩ := F
  have ht : ∀ w ∈ TB, w.before [.ref (bh 1), .int a0].toArray s = true := fun w h => hts w (List.mem_cons_of_mem _ h)
  have hA : ∀ q, s.heap.size ≤ q → va_A (wX cI cC cL adX bh ch adC adS z0) s.heap.size q := fun q h => Or.inr h
  have hl : lv_has ls 2 [(0, .ref (bh 1)), (1, .int a0)] := hl
  unfold fL_append_h1 at hf
  refine lv_aload_n hx hb dL_append_0 rfl (lv_at hl 0 rfl) ?_
  refine va_get (D := (dC, dI)) (ci := 0) (v := .int (jgI z0.1 5)) (C := RcL) (T := TcL) (N := 2) hx hb ht in_cL hown hK hC.1 7 (wX_e7 cI cC cL adX bh ch adC adS z0) rfl 1 (by decide) (ht _ tw32) (fun _ h9 => h9) rfl dL_append_1 ?_
  refine lv_aload_n hx hb dL_append_4 rfl (lv_at hl 0 rfl) ?_
  refine va_get (D := (dC, dI)) (ci := 0) (v := .ref (ch 1)) (C := RcL) (T := TcL) (N := 2) hx hb ht in_cL hown hK hC.1 7 (wX_e7 cI cC cL adX bh ch adC adS z0) rfl 0 (by decide) (ht _ tw31) (fun _ h9 => h9) rfl dL_append_5 ?_
  refine va_alen (v := 60) hx hb hK hC.1 8 0 (wX_e8 cI cC cL adX bh ch adC adS z0) rfl rfl dL_append_8 ?_
  refine lv_icmp_lt (tgt := 14) hx hb dL_append_9 (by decide) (fun c1 => ?_) (fun c1 => ?_)
  · replace hf := jif_t c1 hf
    refine lv_aload_n hx hb dL_append_14 rfl (lv_at hl 0 rfl) ?_
    refine va_get (D := (dC, dI)) (ci := 0) (v := .ref (ch 1)) (C := RcL) (T := TcL) (N := 2) hx hb ht in_cL hown hK hC.1 7 (wX_e7 cI cC cL adX bh ch adC adS z0) rfl 0 (by decide) (ht _ tw31) (fun _ h9 => h9) rfl dL_append_15 ?_
    refine lv_aload_n hx hb dL_append_18 rfl (lv_at hl 0 rfl) ?_
    refine va_get (D := (dC, dI)) (ci := 0) (v := .int (jgI z0.1 5)) (C := RcL) (T := TcL) (N := 2) hx hb ht in_cL hown hK hC.1 7 (wX_e7 cI cC cL adX bh ch adC adS z0) rfl 1 (by decide) (ht _ tw32) (fun _ h9 => h9) rfl dL_append_19 ?_
    refine lv_iload_n hx hb dL_append_22 rfl (lv_at hl 1 rfl) ?_
    obtain ⟨hi2, hf⟩ := jC_in hf
    obtain ⟨s2, e2, hf⟩ := jL_s hf
    refine jast_i hx hb hK hC 8 0 (wX_e8 cI cC cL adX bh ch adC adS z0) rfl hi2 dL_append_23 ((wX_ah1a cI cC cL adX bh ch adC adS z0 _ _).trans (congrArg (wX cI cC cL adX bh ch adC adS) e2.symm)) (fun H locs hC => ?_)
    refine lv_aload_n hx hb dL_append_24 rfl (lv_at hl 0 rfl) ?_
    refine lv_dup hx hb dL_append_25 rfl ?_
    refine va_get (D := (dC, dI)) (ci := 0) (v := .int (jgI s2.1 5)) (C := RcL) (T := TcL) (N := 2) hx hb ht in_cL hown hK hC.1 7 (wX_e7 cI cC cL adX bh ch adC adS s2) rfl 1 (by decide) (ht _ tw32) (fun _ h9 => h9) rfl dL_append_26 ?_
    refine lv_iconst (v := 1) hx hb dL_append_29 (by decide) ?_
    refine lv_iadd hx hb dL_append_30 ?_
    obtain ⟨s3, e3, hf⟩ := jL_s hf
    refine jput (ci := 0) (C := RcL) (T := TcL) (N := 2) hx hb ht in_cL tycL tycL_ok nmcL hown hK hC 7 (wX_e7 cI cC cL adX bh ch adC adS s2) rfl 1 (by decide) (ht _ tw32) (fun _ h9 => h9) rfl rfl (Nat.le_of_ble_eq_true rfl) dL_append_31 ((wX_ph1_5 cI cC cL adX bh ch adC adS s2 _).trans (congrArg (wX cI cC cL adX bh ch adC adS) e3.symm)) (fun H locs hC => ?_)
    refine lv_iconst (v := 1) hx hb dL_append_34 (by decide) ?_
    cases hf
    exact jret_z hx hb hr (by decide +kernel) hlk hC hK dL_append_35
  · replace hf := jif_f c1 hf
    refine lv_iconst (v := 0) hx hb dL_append_12 (by decide) ?_
    cases hf
    exact jret_z hx hb hr (by decide +kernel) hlk hC hK dL_append_13

def fL_appendPart_h1_cL_b3 (N : Nat) (k3 : Int32 → Int32 → jX → Option (Int32 × jX)) (x3 x4 : Int32) (s0 : jX) : Option (Int32 × jX) := (if x3 ≤ x4 then some (0, s0) else (jB (fL_at N x4 s0.2.1) fun r302 s302 => (jB (fL_append_h1 N r302 (s0.1, s302, s0.2.2)) fun r303 s303 => k3 x3 (x4 + (1 : Int32)) s303)))
def fL_appendPart_h1_cL_3 (N : Nat) : Nat → Int32 → Int32 → jX → Option (Int32 × jX)
  | 0 => fun _ _ _ => none
  | n + 1 => fun x3 x4 s0 => fL_appendPart_h1_cL_b3 N (fL_appendPart_h1_cL_3 N n) x3 x4 s0
def fL_appendPart_h1_cL (N : Nat) (a1 a2 : Int32) (z0 : jX) : Option (Int32 × jX) := fL_appendPart_h1_cL_3 N N a2 a1 z0
set_option maxHeartbeats 4000000 in
set_option maxRecDepth 100000 in
theorem cL_appendPart_h1_cL (l : Launch) (dC : Nat → ClassId) (dI : Nat → Nat → Nat) (cI cC cL : ClassId) (sk sv : Nat → Nat) (adX bh ch adC adS : Nat → Nat) (N : Nat) (a1 a2 : Int32) (z0 z1 : jX) (r : Int32) (hf : fL_appendPart_h1_cL N a1 a2 z0 = some (r, z1)) : Cv l yL_appendPart (Cond.code yL_appendPart prog_3_method_7_code 5 none :: TB) ({ frames := 1, cells := 0, slots := 0, locals := 21 }) (dC, dI) vwCl [(cI, .int), (cC, .char), (cL, .object "SharedSyntax$Letters")] (jEn sk sv) [.ref (bh 1), .ref (adC 3), .int a1, .int a2] (wX cI cC cL adX bh ch adC adS z0) (wX cI cC cL adX bh ch adC adS z1) := by
  refine Cv_of (cc := prog_3_method_7_code) (maxL := 5) (ret := none) (by decide) rfl (Nat.le_of_ble_eq_true rfl) ?_
  intro p e s m below meth c ls F hl hK hN hC
  obtain ⟨hx, hb, hml, hown, hts, hr, hlk⟩ := F
  have ht : ∀ w ∈ TB, w.before [.ref (bh 1), .ref (adC 3), .int a1, .int a2].toArray s = true := fun w h => hts w (List.mem_cons_of_mem _ h)
  have hA : ∀ q, s.heap.size ≤ q → va_A (wX cI cC cL adX bh ch adC adS z0) s.heap.size q := fun q h => Or.inr h
  have hl : lv_has ls 5 [(0, .ref (bh 1)), (1, .ref (adC 3)), (2, .int a1), (3, .int a2)] := hl
  have L3 : ∀ (n : Nat) (x3 x4 : Int32) (s0 : jX) (ls : Array Slot) (H : Heap) (locs : List Loc), lv_has ls 5 [(0, .ref (bh 1)), (1, .ref (adC 3)), (3, .int x3), (4, .int x4)] → jcx (dC, dI) vwCl (va_A (wX cI cC cL adX bh ch adC adS z0) s.heap.size) s.heap (wX cI cC cL adX bh ch adC adS s0) H locs → fL_appendPart_h1_cL_3 N n x3 x4 s0 = some (r, z1) → W p l e ({ frames := 1, cells := 0, slots := 0, locals := 21 }) s m [.ref (bh 1), .ref (adC 3), .int a1, .int a2].toArray below meth c H locs 0 0 (MQ below (jQv (dC, dI) vwCl [(cI, .int), (cC, .char), (cL, .object "SharedSyntax$Letters")] (wX cI cC cL adX bh ch adC adS z0) (wX cI cC cL adX bh ch adC adS z1) s.heap.size) [.ref (bh 1), .ref (adC 3), .int a1, .int a2].toArray s 0 0 (va_A (wX cI cC cL adX bh ch adC adS z0) s.heap.size)) (F0 m 3 ls []) := by
    intro n
    induction n with
    | zero => exact fun _ _ _ _ _ _ _ _ hf => nomatch hf
    | succ n ih3 =>
      intro x3 x4 s0 ls H locs hl hC hf
      replace hf : fL_appendPart_h1_cL_b3 N (fL_appendPart_h1_cL_3 N n) x3 x4 s0 = some (r, z1) := hf
      generalize fL_appendPart_h1_cL_3 N n = k3 at ih3 hf
      unfold fL_appendPart_h1_cL_b3 at hf
      refine lv_iload hx hb dL_appendPart_3 (lv_at hl 3 rfl) ?_
      refine lv_iload_n hx hb dL_appendPart_5 rfl (lv_at hl 2 rfl) ?_
      refine lv_icmp_ge (tgt := 26) hx hb dL_appendPart_6 (by decide) (fun c301 => ?_) (fun c301 => ?_)
      · replace hf := jif_t c301 hf
        cases hf
        exact jret_v hx hb hr hlk hC hK dL_appendPart_26
      · replace hf := jif_f c301 hf
        refine lv_aload_n hx hb dL_appendPart_9 rfl (lv_at hl 0 rfl) ?_
        refine lv_aload_n hx hb dL_appendPart_10 rfl (lv_at hl 1 rfl) ?_
        refine lv_iload hx hb dL_appendPart_11 (lv_at hl 3 rfl) ?_
        obtain ⟨r302, s302, hc302, hf⟩ := jB_some hf
        have hCc := wX_subc cI cC cL adX bh ch adC adS s0 hC
        refine jcallS_i (wX_mcc cI cC cL adX bh ch adC adS s0) (wX_mrc cI cC cL adX bh ch adC adS s0) rfl (by decide) (wX_mbc cI cC cL adX bh ch adC adS s0 s302) rfl (va_runV (C := RcL) (As := [.int x4]) (rest := [.ref (bh 1)]) ⟨hx, hb, hml, hown, hts⟩ ((cL_at l dC dI cI cC cL sk sv adC N x4 s0.2.1 s302 r302 hc302) _) ⟨(callB_of 1 hts (tb_good tw164) rfl rfl rfl (ht _ tw3) (ht _ tw515) (by decide +kernel) ⟨Nat.le_of_ble_eq_true rfl, Nat.le_of_ble_eq_true rfl⟩), ht _ tw162, ht _ tw163⟩ (jpreV (jEn_ok sk sv) hCc hA hK hN (wR_e3 cI cC adC s0.2.1) rfl rfl _) rfl rfl hl.1 rfl (lv_room (Nat.le_of_ble_eq_true rfl)) dL_appendPart_13 ⟨Nat.le_refl _, Nat.le_refl _⟩) hC hA (fun H locs hC => ?_)
        obtain ⟨r303, s303, hc303, hf⟩ := jB_some hf
        refine jcall_i (va_runV (C := RcL) (As := [.int r302]) (rest := []) ⟨hx, hb, hml, hown, hts⟩ ((cL_append_h1 l dC dI cI cC cL sk sv adX bh ch adC adS N r302 (s0.1, s302, s0.2.2) s303 r303 hc303) _) ⟨(callB_of 1 hts (tb_good tw486) rfl rfl rfl (ht _ tw3) (ht _ tw516) (by decide +kernel) ⟨Nat.le_of_ble_eq_true rfl, Nat.le_of_ble_eq_true rfl⟩), ht _ tw484, ht _ tw485⟩ (jpreV (jEn_ok sk sv) hC hA hK hN (wX_e7 cI cC cL adX bh ch adC adS (s0.1, s302, s0.2.2)) rfl rfl _) rfl rfl hl.1 rfl (lv_room (Nat.le_of_ble_eq_true rfl)) dL_appendPart_16 ⟨Nat.le_refl _, Nat.le_refl _⟩) hC hA (fun H locs hC => ?_)
        refine lv_pop hx hb dL_appendPart_19 rfl ?_
        refine lv_iinc (k := 3) (v := (x4 + (1 : Int32))) (lv' := [(4, .int (x4 + (1 : Int32))), (0, .ref (bh 1)), (1, .ref (adC 3)), (3, .int x3)]) hx hb dL_appendPart_20 hl rfl rfl (by decide) rfl (fun ls hl => ?_)
        refine lv_goto (tgt := 3) hx hb dL_appendPart_23 (by decide) ?_
        exact ih3 x3 (x4 + (1 : Int32)) s303 ls _ _ (lv_sub hl [1, 2, 3, 0] rfl) hC hf
  unfold fL_appendPart_h1_cL at hf
  refine lv_iload_n hx hb dL_appendPart_0 rfl (lv_at hl 2 rfl) ?_
  refine lv_istore (lv' := [(4, .int a1), (0, .ref (bh 1)), (1, .ref (adC 3)), (2, .int a1), (3, .int a2)]) hx hb dL_appendPart_1 hl (by decide) rfl (fun ls hl => ?_)
  exact L3 N a2 a1 z0 ls _ _ (lv_sub hl [1, 2, 4, 0] rfl) hC hf

def fL_copy_h1_cL (N : Nat) (z0 : jX) : Option (Int32 × jX) := (jB (fL_clear_h1 N z0) fun r1 s1 => (jB (fL_appendPart_h1_cL N (0 : Int32) (jgI s1.2.1 0) s1) fun r2 s2 => some (0, s2)))
set_option maxHeartbeats 4000000 in
set_option maxRecDepth 100000 in
theorem cL_copy_h1_cL (l : Launch) (dC : Nat → ClassId) (dI : Nat → Nat → Nat) (cI cC cL : ClassId) (sk sv : Nat → Nat) (adX bh ch adC adS : Nat → Nat) (N : Nat) (z0 z1 : jX) (r : Int32) (hf : fL_copy_h1_cL N z0 = some (r, z1)) : Cv l yL_copy (Cond.code yL_copy prog_3_method_5_code 2 none :: TB) ({ frames := 2, cells := 0, slots := 0, locals := 45 }) (dC, dI) vwCl [(cI, .int), (cC, .char), (cL, .object "SharedSyntax$Letters")] (jEn sk sv) [.ref (bh 1), .ref (adC 3)] (wX cI cC cL adX bh ch adC adS z0) (wX cI cC cL adX bh ch adC adS z1) := by
  refine Cv_of (cc := prog_3_method_5_code) (maxL := 2) (ret := none) (by decide) rfl (Nat.le_of_ble_eq_true rfl) ?_
  intro p e s m below meth c ls F hl hK hN hC
  obtain ⟨hx, hb, hml, hown, hts, hr, hlk⟩ := F
  have ht : ∀ w ∈ TB, w.before [.ref (bh 1), .ref (adC 3)].toArray s = true := fun w h => hts w (List.mem_cons_of_mem _ h)
  have hA : ∀ q, s.heap.size ≤ q → va_A (wX cI cC cL adX bh ch adC adS z0) s.heap.size q := fun q h => Or.inr h
  have hl : lv_has ls 2 [(0, .ref (bh 1)), (1, .ref (adC 3))] := hl
  unfold fL_copy_h1_cL at hf
  refine lv_aload_n hx hb dL_copy_0 rfl (lv_at hl 0 rfl) ?_
  obtain ⟨r1, s1, hc1, hf⟩ := jB_some hf
  refine jcall_v (va_runV (C := RcL) (As := []) (rest := []) ⟨hx, hb, hml, hown, hts⟩ ((cL_clear_h1 l dC dI cI cC cL sk sv adX bh ch adC adS N z0 s1 r1 hc1) _) ⟨(callB_of 0 hts (tb_good tw510) rfl rfl rfl (ht _ tw3) (ht _ tw507) (by decide +kernel) ⟨Nat.le_of_ble_eq_true rfl, Nat.le_of_ble_eq_true rfl⟩), ht _ tw508, ht _ tw509⟩ (jpreV (jEn_ok sk sv) hC hA hK hN (wX_e7 cI cC cL adX bh ch adC adS z0) rfl rfl _) rfl rfl hl.1 rfl (lv_room (Nat.le_of_ble_eq_true rfl)) dL_copy_1 ⟨Nat.le_refl _, Nat.le_refl _⟩) hC hA (fun H locs hC => ?_)
  refine lv_aload_n hx hb dL_copy_4 rfl (lv_at hl 0 rfl) ?_
  refine lv_aload_n hx hb dL_copy_5 rfl (lv_at hl 1 rfl) ?_
  refine lv_iconst (v := 0) hx hb dL_copy_6 (by decide) ?_
  refine lv_aload_n hx hb dL_copy_7 rfl (lv_at hl 1 rfl) ?_
  refine va_get (D := (dC, dI)) (ci := 0) (v := .int (jgI s1.2.1 0)) (C := RcL) (T := TcL) (N := 2) hx hb ht in_cL hown hK hC.1 14 (wX_e14 cI cC cL adX bh ch adC adS s1) rfl 1 (by decide) (ht _ tw32) (fun _ h9 => h9) rfl dL_copy_8 ?_
  obtain ⟨r2, s2, hc2, hf⟩ := jB_some hf
  refine jcall_v (va_runV (C := RcL) (As := [.ref (adC 3), .int (0 : Int32), .int (jgI s1.2.1 0)]) (rest := []) ⟨hx, hb, hml, hown, hts⟩ ((cL_appendPart_h1_cL l dC dI cI cC cL sk sv adX bh ch adC adS N (0 : Int32) (jgI s1.2.1 0) s1 s2 r2 hc2) _) ⟨(callB_of 3 hts (tb_good tw514) rfl rfl rfl (ht _ tw3) (ht _ tw511) (by decide +kernel) ⟨Nat.le_of_ble_eq_true rfl, Nat.le_of_ble_eq_true rfl⟩), ht _ tw513, ht _ (tb_sel pv_L_appendPart)⟩ (jpreV (jEn_ok sk sv) hC hA hK hN (wX_e7 cI cC cL adX bh ch adC adS s1) rfl rfl _) rfl rfl hl.1 rfl (lv_room (Nat.le_of_ble_eq_true rfl)) dL_copy_11 ⟨Nat.le_refl _, Nat.le_refl _⟩) hC hA (fun H locs hC => ?_)
  cases hf
  exact jret_v hx hb hr hlk hC hK dL_copy_14

def fL_clear_h2 (N : Nat) (z0 : jX) : Option (Int32 × jX) := (jL ((jsI z0.1 6 (0 : Int32), z0.2.1, z0.2.2)) fun s1 => some (0, s1))
set_option maxHeartbeats 4000000 in
set_option maxRecDepth 100000 in
theorem cL_clear_h2 (l : Launch) (dC : Nat → ClassId) (dI : Nat → Nat → Nat) (cI cC cL : ClassId) (sk sv : Nat → Nat) (adX bh ch adC adS : Nat → Nat) (N : Nat) (z0 z1 : jX) (r : Int32) (hf : fL_clear_h2 N z0 = some (r, z1)) : Cv l yL_clear (Cond.code yL_clear prog_3_method_4_code 1 none :: TB) ({ frames := 0, cells := 0, slots := 0, locals := 0 }) (dC, dI) vwCl [(cI, .int), (cC, .char), (cL, .object "SharedSyntax$Letters")] (jEn sk sv) [.ref (bh 2)] (wX cI cC cL adX bh ch adC adS z0) (wX cI cC cL adX bh ch adC adS z1) := by
  refine Cv_of (cc := prog_3_method_4_code) (maxL := 1) (ret := none) (by decide) rfl (Nat.le_of_ble_eq_true rfl) ?_
  intro p e s m below meth c ls F hl hK hN hC
  obtain ⟨hx, hb, hml, hown, hts, hr, hlk⟩ := F
  have ht : ∀ w ∈ TB, w.before [.ref (bh 2)].toArray s = true := fun w h => hts w (List.mem_cons_of_mem _ h)
  have hA : ∀ q, s.heap.size ≤ q → va_A (wX cI cC cL adX bh ch adC adS z0) s.heap.size q := fun q h => Or.inr h
  have hl : lv_has ls 1 [(0, .ref (bh 2))] := hl
  unfold fL_clear_h2 at hf
  refine lv_aload_n hx hb dL_clear_0 rfl (lv_at hl 0 rfl) ?_
  refine lv_iconst (v := 0) hx hb dL_clear_1 (by decide) ?_
  obtain ⟨s1, e1, hf⟩ := jL_s hf
  refine jput (ci := 0) (C := RcL) (T := TcL) (N := 2) hx hb ht in_cL tycL tycL_ok nmcL hown hK hC 9 (wX_e9 cI cC cL adX bh ch adC adS z0) rfl 1 (by decide) (ht _ tw32) (fun _ h9 => h9) rfl rfl (Nat.le_of_ble_eq_true rfl) dL_clear_2 ((wX_ph2_6 cI cC cL adX bh ch adC adS z0 _).trans (congrArg (wX cI cC cL adX bh ch adC adS) e1.symm)) (fun H locs hC => ?_)
  cases hf
  exact jret_v hx hb hr hlk hC hK dL_clear_5

def fL_append_h2 (N : Nat) (a0 : Int32) (z0 : jX) : Option (Int32 × jX) := (if jgI z0.1 6 < (60 : Int32) then (if jIn (jgI z0.1 6) 60 = true then (jL ((jsA z0.1 3 (jgI z0.1 6).toNatClampNeg a0, z0.2.1, z0.2.2)) fun s2 => (jL ((jsI s2.1 6 (jgI s2.1 6 + (1 : Int32)), s2.2.1, s2.2.2)) fun s3 => some ((1 : Int32), s3))) else none) else some ((0 : Int32), z0))
set_option maxHeartbeats 4000000 in
set_option maxRecDepth 100000 in
theorem cL_append_h2 (l : Launch) (dC : Nat → ClassId) (dI : Nat → Nat → Nat) (cI cC cL : ClassId) (sk sv : Nat → Nat) (adX bh ch adC adS : Nat → Nat) (N : Nat) (a0 : Int32) (z0 z1 : jX) (r : Int32) (hf : fL_append_h2 N a0 z0 = some (r, z1)) : Ci l yL_append (Cond.code yL_append prog_3_method_3_code 2 (some .boolean) :: TB) ({ frames := 0, cells := 0, slots := 0, locals := 0 }) (dC, dI) vwCl [(cI, .int), (cC, .char), (cL, .object "SharedSyntax$Letters")] (jEn sk sv) [.ref (bh 2), .int a0] (wX cI cC cL adX bh ch adC adS z0) (wX cI cC cL adX bh ch adC adS z1) r := by
  refine Ci_of (cc := prog_3_method_3_code) (maxL := 2) (ret := (some .boolean)) (by decide) rfl (Nat.le_of_ble_eq_true rfl) ?_
  intro p e s m below meth c ls F hl hK hN hC
  obtain ⟨hx, hb, hml, hown, hts, hr, hlk⟩ := F
  have ht : ∀ w ∈ TB, w.before [.ref (bh 2), .int a0].toArray s = true := fun w h => hts w (List.mem_cons_of_mem _ h)
  have hA : ∀ q, s.heap.size ≤ q → va_A (wX cI cC cL adX bh ch adC adS z0) s.heap.size q := fun q h => Or.inr h
  have hl : lv_has ls 2 [(0, .ref (bh 2)), (1, .int a0)] := hl
  unfold fL_append_h2 at hf
  refine lv_aload_n hx hb dL_append_0 rfl (lv_at hl 0 rfl) ?_
  refine va_get (D := (dC, dI)) (ci := 0) (v := .int (jgI z0.1 6)) (C := RcL) (T := TcL) (N := 2) hx hb ht in_cL hown hK hC.1 9 (wX_e9 cI cC cL adX bh ch adC adS z0) rfl 1 (by decide) (ht _ tw32) (fun _ h9 => h9) rfl dL_append_1 ?_
  refine lv_aload_n hx hb dL_append_4 rfl (lv_at hl 0 rfl) ?_
  refine va_get (D := (dC, dI)) (ci := 0) (v := .ref (ch 2)) (C := RcL) (T := TcL) (N := 2) hx hb ht in_cL hown hK hC.1 9 (wX_e9 cI cC cL adX bh ch adC adS z0) rfl 0 (by decide) (ht _ tw31) (fun _ h9 => h9) rfl dL_append_5 ?_
  refine va_alen (v := 60) hx hb hK hC.1 10 0 (wX_e10 cI cC cL adX bh ch adC adS z0) rfl rfl dL_append_8 ?_
  refine lv_icmp_lt (tgt := 14) hx hb dL_append_9 (by decide) (fun c1 => ?_) (fun c1 => ?_)
  · replace hf := jif_t c1 hf
    refine lv_aload_n hx hb dL_append_14 rfl (lv_at hl 0 rfl) ?_
    refine va_get (D := (dC, dI)) (ci := 0) (v := .ref (ch 2)) (C := RcL) (T := TcL) (N := 2) hx hb ht in_cL hown hK hC.1 9 (wX_e9 cI cC cL adX bh ch adC adS z0) rfl 0 (by decide) (ht _ tw31) (fun _ h9 => h9) rfl dL_append_15 ?_
    refine lv_aload_n hx hb dL_append_18 rfl (lv_at hl 0 rfl) ?_
    refine va_get (D := (dC, dI)) (ci := 0) (v := .int (jgI z0.1 6)) (C := RcL) (T := TcL) (N := 2) hx hb ht in_cL hown hK hC.1 9 (wX_e9 cI cC cL adX bh ch adC adS z0) rfl 1 (by decide) (ht _ tw32) (fun _ h9 => h9) rfl dL_append_19 ?_
    refine lv_iload_n hx hb dL_append_22 rfl (lv_at hl 1 rfl) ?_
    obtain ⟨hi2, hf⟩ := jC_in hf
    obtain ⟨s2, e2, hf⟩ := jL_s hf
    refine jast_i hx hb hK hC 10 0 (wX_e10 cI cC cL adX bh ch adC adS z0) rfl hi2 dL_append_23 ((wX_ah2a cI cC cL adX bh ch adC adS z0 _ _).trans (congrArg (wX cI cC cL adX bh ch adC adS) e2.symm)) (fun H locs hC => ?_)
    refine lv_aload_n hx hb dL_append_24 rfl (lv_at hl 0 rfl) ?_
    refine lv_dup hx hb dL_append_25 rfl ?_
    refine va_get (D := (dC, dI)) (ci := 0) (v := .int (jgI s2.1 6)) (C := RcL) (T := TcL) (N := 2) hx hb ht in_cL hown hK hC.1 9 (wX_e9 cI cC cL adX bh ch adC adS s2) rfl 1 (by decide) (ht _ tw32) (fun _ h9 => h9) rfl dL_append_26 ?_
    refine lv_iconst (v := 1) hx hb dL_append_29 (by decide) ?_
    refine lv_iadd hx hb dL_append_30 ?_
    obtain ⟨s3, e3, hf⟩ := jL_s hf
    refine jput (ci := 0) (C := RcL) (T := TcL) (N := 2) hx hb ht in_cL tycL tycL_ok nmcL hown hK hC 9 (wX_e9 cI cC cL adX bh ch adC adS s2) rfl 1 (by decide) (ht _ tw32) (fun _ h9 => h9) rfl rfl (Nat.le_of_ble_eq_true rfl) dL_append_31 ((wX_ph2_6 cI cC cL adX bh ch adC adS s2 _).trans (congrArg (wX cI cC cL adX bh ch adC adS) e3.symm)) (fun H locs hC => ?_)
    refine lv_iconst (v := 1) hx hb dL_append_34 (by decide) ?_
    cases hf
    exact jret_z hx hb hr (by decide +kernel) hlk hC hK dL_append_35
  · replace hf := jif_f c1 hf
    refine lv_iconst (v := 0) hx hb dL_append_12 (by decide) ?_
    cases hf
    exact jret_z hx hb hr (by decide +kernel) hlk hC hK dL_append_13

def fL_appendPart_h2_cL_b3 (N : Nat) (k3 : Int32 → Int32 → jX → Option (Int32 × jX)) (x3 x4 : Int32) (s0 : jX) : Option (Int32 × jX) := (if x3 ≤ x4 then some (0, s0) else (jB (fL_at N x4 s0.2.1) fun r302 s302 => (jB (fL_append_h2 N r302 (s0.1, s302, s0.2.2)) fun r303 s303 => k3 x3 (x4 + (1 : Int32)) s303)))
def fL_appendPart_h2_cL_3 (N : Nat) : Nat → Int32 → Int32 → jX → Option (Int32 × jX)
  | 0 => fun _ _ _ => none
  | n + 1 => fun x3 x4 s0 => fL_appendPart_h2_cL_b3 N (fL_appendPart_h2_cL_3 N n) x3 x4 s0
def fL_appendPart_h2_cL (N : Nat) (a1 a2 : Int32) (z0 : jX) : Option (Int32 × jX) := fL_appendPart_h2_cL_3 N N a2 a1 z0
set_option maxHeartbeats 4000000 in
set_option maxRecDepth 100000 in
theorem cL_appendPart_h2_cL (l : Launch) (dC : Nat → ClassId) (dI : Nat → Nat → Nat) (cI cC cL : ClassId) (sk sv : Nat → Nat) (adX bh ch adC adS : Nat → Nat) (N : Nat) (a1 a2 : Int32) (z0 z1 : jX) (r : Int32) (hf : fL_appendPart_h2_cL N a1 a2 z0 = some (r, z1)) : Cv l yL_appendPart (Cond.code yL_appendPart prog_3_method_7_code 5 none :: TB) ({ frames := 1, cells := 0, slots := 0, locals := 21 }) (dC, dI) vwCl [(cI, .int), (cC, .char), (cL, .object "SharedSyntax$Letters")] (jEn sk sv) [.ref (bh 2), .ref (adC 3), .int a1, .int a2] (wX cI cC cL adX bh ch adC adS z0) (wX cI cC cL adX bh ch adC adS z1) := by
  refine Cv_of (cc := prog_3_method_7_code) (maxL := 5) (ret := none) (by decide) rfl (Nat.le_of_ble_eq_true rfl) ?_
  intro p e s m below meth c ls F hl hK hN hC
  obtain ⟨hx, hb, hml, hown, hts, hr, hlk⟩ := F
  have ht : ∀ w ∈ TB, w.before [.ref (bh 2), .ref (adC 3), .int a1, .int a2].toArray s = true := fun w h => hts w (List.mem_cons_of_mem _ h)
  have hA : ∀ q, s.heap.size ≤ q → va_A (wX cI cC cL adX bh ch adC adS z0) s.heap.size q := fun q h => Or.inr h
  have hl : lv_has ls 5 [(0, .ref (bh 2)), (1, .ref (adC 3)), (2, .int a1), (3, .int a2)] := hl
  have L3 : ∀ (n : Nat) (x3 x4 : Int32) (s0 : jX) (ls : Array Slot) (H : Heap) (locs : List Loc), lv_has ls 5 [(0, .ref (bh 2)), (1, .ref (adC 3)), (3, .int x3), (4, .int x4)] → jcx (dC, dI) vwCl (va_A (wX cI cC cL adX bh ch adC adS z0) s.heap.size) s.heap (wX cI cC cL adX bh ch adC adS s0) H locs → fL_appendPart_h2_cL_3 N n x3 x4 s0 = some (r, z1) → W p l e ({ frames := 1, cells := 0, slots := 0, locals := 21 }) s m [.ref (bh 2), .ref (adC 3), .int a1, .int a2].toArray below meth c H locs 0 0 (MQ below (jQv (dC, dI) vwCl [(cI, .int), (cC, .char), (cL, .object "SharedSyntax$Letters")] (wX cI cC cL adX bh ch adC adS z0) (wX cI cC cL adX bh ch adC adS z1) s.heap.size) [.ref (bh 2), .ref (adC 3), .int a1, .int a2].toArray s 0 0 (va_A (wX cI cC cL adX bh ch adC adS z0) s.heap.size)) (F0 m 3 ls []) := by
    intro n
    induction n with
    | zero => exact fun _ _ _ _ _ _ _ _ hf => nomatch hf
    | succ n ih3 =>
      intro x3 x4 s0 ls H locs hl hC hf
      replace hf : fL_appendPart_h2_cL_b3 N (fL_appendPart_h2_cL_3 N n) x3 x4 s0 = some (r, z1) := hf
      generalize fL_appendPart_h2_cL_3 N n = k3 at ih3 hf
      unfold fL_appendPart_h2_cL_b3 at hf
      refine lv_iload hx hb dL_appendPart_3 (lv_at hl 3 rfl) ?_
      refine lv_iload_n hx hb dL_appendPart_5 rfl (lv_at hl 2 rfl) ?_
      refine lv_icmp_ge (tgt := 26) hx hb dL_appendPart_6 (by decide) (fun c301 => ?_) (fun c301 => ?_)
      · replace hf := jif_t c301 hf
        cases hf
        exact jret_v hx hb hr hlk hC hK dL_appendPart_26
      · replace hf := jif_f c301 hf
        refine lv_aload_n hx hb dL_appendPart_9 rfl (lv_at hl 0 rfl) ?_
        refine lv_aload_n hx hb dL_appendPart_10 rfl (lv_at hl 1 rfl) ?_
        refine lv_iload hx hb dL_appendPart_11 (lv_at hl 3 rfl) ?_
        obtain ⟨r302, s302, hc302, hf⟩ := jB_some hf
        have hCc := wX_subc cI cC cL adX bh ch adC adS s0 hC
        refine jcallS_i (wX_mcc cI cC cL adX bh ch adC adS s0) (wX_mrc cI cC cL adX bh ch adC adS s0) rfl (by decide) (wX_mbc cI cC cL adX bh ch adC adS s0 s302) rfl (va_runV (C := RcL) (As := [.int x4]) (rest := [.ref (bh 2)]) ⟨hx, hb, hml, hown, hts⟩ ((cL_at l dC dI cI cC cL sk sv adC N x4 s0.2.1 s302 r302 hc302) _) ⟨(callB_of 1 hts (tb_good tw164) rfl rfl rfl (ht _ tw3) (ht _ tw515) (by decide +kernel) ⟨Nat.le_of_ble_eq_true rfl, Nat.le_of_ble_eq_true rfl⟩), ht _ tw162, ht _ tw163⟩ (jpreV (jEn_ok sk sv) hCc hA hK hN (wR_e3 cI cC adC s0.2.1) rfl rfl _) rfl rfl hl.1 rfl (lv_room (Nat.le_of_ble_eq_true rfl)) dL_appendPart_13 ⟨Nat.le_refl _, Nat.le_refl _⟩) hC hA (fun H locs hC => ?_)
        obtain ⟨r303, s303, hc303, hf⟩ := jB_some hf
        refine jcall_i (va_runV (C := RcL) (As := [.int r302]) (rest := []) ⟨hx, hb, hml, hown, hts⟩ ((cL_append_h2 l dC dI cI cC cL sk sv adX bh ch adC adS N r302 (s0.1, s302, s0.2.2) s303 r303 hc303) _) ⟨(callB_of 1 hts (tb_good tw486) rfl rfl rfl (ht _ tw3) (ht _ tw516) (by decide +kernel) ⟨Nat.le_of_ble_eq_true rfl, Nat.le_of_ble_eq_true rfl⟩), ht _ tw484, ht _ tw485⟩ (jpreV (jEn_ok sk sv) hC hA hK hN (wX_e9 cI cC cL adX bh ch adC adS (s0.1, s302, s0.2.2)) rfl rfl _) rfl rfl hl.1 rfl (lv_room (Nat.le_of_ble_eq_true rfl)) dL_appendPart_16 ⟨Nat.le_refl _, Nat.le_refl _⟩) hC hA (fun H locs hC => ?_)
        refine lv_pop hx hb dL_appendPart_19 rfl ?_
        refine lv_iinc (k := 3) (v := (x4 + (1 : Int32))) (lv' := [(4, .int (x4 + (1 : Int32))), (0, .ref (bh 2)), (1, .ref (adC 3)), (3, .int x3)]) hx hb dL_appendPart_20 hl rfl rfl (by decide) rfl (fun ls hl => ?_)
        refine lv_goto (tgt := 3) hx hb dL_appendPart_23 (by decide) ?_
        exact ih3 x3 (x4 + (1 : Int32)) s303 ls _ _ (lv_sub hl [1, 2, 3, 0] rfl) hC hf
  unfold fL_appendPart_h2_cL at hf
  refine lv_iload_n hx hb dL_appendPart_0 rfl (lv_at hl 2 rfl) ?_
  refine lv_istore (lv' := [(4, .int a1), (0, .ref (bh 2)), (1, .ref (adC 3)), (2, .int a1), (3, .int a2)]) hx hb dL_appendPart_1 hl (by decide) rfl (fun ls hl => ?_)
  exact L3 N a2 a1 z0 ls _ _ (lv_sub hl [1, 2, 4, 0] rfl) hC hf

def fL_copy_h2_cL (N : Nat) (z0 : jX) : Option (Int32 × jX) := (jB (fL_clear_h2 N z0) fun r1 s1 => (jB (fL_appendPart_h2_cL N (0 : Int32) (jgI s1.2.1 0) s1) fun r2 s2 => some (0, s2)))
set_option maxHeartbeats 4000000 in
set_option maxRecDepth 100000 in
theorem cL_copy_h2_cL (l : Launch) (dC : Nat → ClassId) (dI : Nat → Nat → Nat) (cI cC cL : ClassId) (sk sv : Nat → Nat) (adX bh ch adC adS : Nat → Nat) (N : Nat) (z0 z1 : jX) (r : Int32) (hf : fL_copy_h2_cL N z0 = some (r, z1)) : Cv l yL_copy (Cond.code yL_copy prog_3_method_5_code 2 none :: TB) ({ frames := 2, cells := 0, slots := 0, locals := 45 }) (dC, dI) vwCl [(cI, .int), (cC, .char), (cL, .object "SharedSyntax$Letters")] (jEn sk sv) [.ref (bh 2), .ref (adC 3)] (wX cI cC cL adX bh ch adC adS z0) (wX cI cC cL adX bh ch adC adS z1) := by
  refine Cv_of (cc := prog_3_method_5_code) (maxL := 2) (ret := none) (by decide) rfl (Nat.le_of_ble_eq_true rfl) ?_
  intro p e s m below meth c ls F hl hK hN hC
  obtain ⟨hx, hb, hml, hown, hts, hr, hlk⟩ := F
  have ht : ∀ w ∈ TB, w.before [.ref (bh 2), .ref (adC 3)].toArray s = true := fun w h => hts w (List.mem_cons_of_mem _ h)
  have hA : ∀ q, s.heap.size ≤ q → va_A (wX cI cC cL adX bh ch adC adS z0) s.heap.size q := fun q h => Or.inr h
  have hl : lv_has ls 2 [(0, .ref (bh 2)), (1, .ref (adC 3))] := hl
  unfold fL_copy_h2_cL at hf
  refine lv_aload_n hx hb dL_copy_0 rfl (lv_at hl 0 rfl) ?_
  obtain ⟨r1, s1, hc1, hf⟩ := jB_some hf
  refine jcall_v (va_runV (C := RcL) (As := []) (rest := []) ⟨hx, hb, hml, hown, hts⟩ ((cL_clear_h2 l dC dI cI cC cL sk sv adX bh ch adC adS N z0 s1 r1 hc1) _) ⟨(callB_of 0 hts (tb_good tw510) rfl rfl rfl (ht _ tw3) (ht _ tw507) (by decide +kernel) ⟨Nat.le_of_ble_eq_true rfl, Nat.le_of_ble_eq_true rfl⟩), ht _ tw508, ht _ tw509⟩ (jpreV (jEn_ok sk sv) hC hA hK hN (wX_e9 cI cC cL adX bh ch adC adS z0) rfl rfl _) rfl rfl hl.1 rfl (lv_room (Nat.le_of_ble_eq_true rfl)) dL_copy_1 ⟨Nat.le_refl _, Nat.le_refl _⟩) hC hA (fun H locs hC => ?_)
  refine lv_aload_n hx hb dL_copy_4 rfl (lv_at hl 0 rfl) ?_
  refine lv_aload_n hx hb dL_copy_5 rfl (lv_at hl 1 rfl) ?_
  refine lv_iconst (v := 0) hx hb dL_copy_6 (by decide) ?_
  refine lv_aload_n hx hb dL_copy_7 rfl (lv_at hl 1 rfl) ?_
  refine va_get (D := (dC, dI)) (ci := 0) (v := .int (jgI s1.2.1 0)) (C := RcL) (T := TcL) (N := 2) hx hb ht in_cL hown hK hC.1 14 (wX_e14 cI cC cL adX bh ch adC adS s1) rfl 1 (by decide) (ht _ tw32) (fun _ h9 => h9) rfl dL_copy_8 ?_
  obtain ⟨r2, s2, hc2, hf⟩ := jB_some hf
  refine jcall_v (va_runV (C := RcL) (As := [.ref (adC 3), .int (0 : Int32), .int (jgI s1.2.1 0)]) (rest := []) ⟨hx, hb, hml, hown, hts⟩ ((cL_appendPart_h2_cL l dC dI cI cC cL sk sv adX bh ch adC adS N (0 : Int32) (jgI s1.2.1 0) s1 s2 r2 hc2) _) ⟨(callB_of 3 hts (tb_good tw514) rfl rfl rfl (ht _ tw3) (ht _ tw511) (by decide +kernel) ⟨Nat.le_of_ble_eq_true rfl, Nat.le_of_ble_eq_true rfl⟩), ht _ tw513, ht _ (tb_sel pv_L_appendPart)⟩ (jpreV (jEn_ok sk sv) hC hA hK hN (wX_e9 cI cC cL adX bh ch adC adS s1) rfl rfl _) rfl rfl hl.1 rfl (lv_room (Nat.le_of_ble_eq_true rfl)) dL_copy_11 ⟨Nat.le_refl _, Nat.le_refl _⟩) hC hA (fun H locs hC => ?_)
  cases hf
  exact jret_v hx hb hr hlk hC hK dL_copy_14

def fH_giveUpFirst_b9 (N : Nat) (k9 : Int32 → Int32 → jX → Option (Int32 × jX)) (x1 x2 : Int32) (s0 : jX) : Option (Int32 × jX) := (if (3 : Int32) ≤ x2 then (if jIn (2 : Int32) 3 = true then (if jIn x1 3 = true then (jL ((jsA s0.1 4 ((2 : Int32)).toNatClampNeg x1, s0.2.1, s0.2.2)) fun s902 => (jL ((jsI s902.1 3 (2 : Int32), s902.2.1, s902.2.2)) fun s903 => some (0, s903))) else none) else none) else (if jIn x2 3 = true then (if jIn (x2 - (1 : Int32)) 3 = true then (if jIn (jgA s0.1 4 (x2).toNatClampNeg) 3 = true then (jL ((jsA s0.1 4 ((x2 - (1 : Int32))).toNatClampNeg (jgA s0.1 4 (x2).toNatClampNeg), s0.2.1, s0.2.2)) fun s905 => k9 x1 (x2 + (1 : Int32)) s905) else none) else none) else none))
def fH_giveUpFirst_9 (N : Nat) : Nat → Int32 → Int32 → jX → Option (Int32 × jX)
  | 0 => fun _ _ _ => none
  | n + 1 => fun x1 x2 s0 => fH_giveUpFirst_b9 N (fH_giveUpFirst_9 N n) x1 x2 s0
def fH_giveUpFirst (N : Nat) (z0 : jX) : Option (Int32 × jX) := (if jIn (0 : Int32) 3 = true then fH_giveUpFirst_9 N N (jgA z0.1 4 ((0 : Int32)).toNatClampNeg) (1 : Int32) z0 else none)
set_option maxHeartbeats 4000000 in
set_option maxRecDepth 100000 in
theorem cH_giveUpFirst (l : Launch) (dC : Nat → ClassId) (dI : Nat → Nat → Nat) (cI cC cL : ClassId) (sk sv : Nat → Nat) (adX bh ch adC adS : Nat → Nat) (N : Nat) (z0 z1 : jX) (r : Int32) (hf : fH_giveUpFirst N z0 = some (r, z1)) : Cv l yH_giveUpFirst (Cond.code yH_giveUpFirst prog_2_method_4_code 3 none :: TB) ({ frames := 0, cells := 0, slots := 0, locals := 0 }) (dC, dI) vwCl [(cI, .int), (cC, .char), (cL, .object "SharedSyntax$Letters")] (jEn sk sv) [.ref (adX 3)] (wX cI cC cL adX bh ch adC adS z0) (wX cI cC cL adX bh ch adC adS z1) := by
  refine Cv_of (cc := prog_2_method_4_code) (maxL := 3) (ret := none) (by decide) rfl (Nat.le_of_ble_eq_true rfl) ?_
  intro p e s m below meth c ls F hl hK hN hC
  obtain ⟨hx, hb, hml, hown, hts, hr, hlk⟩ := F
  have ht : ∀ w ∈ TB, w.before [.ref (adX 3)].toArray s = true := fun w h => hts w (List.mem_cons_of_mem _ h)
  have hA : ∀ q, s.heap.size ≤ q → va_A (wX cI cC cL adX bh ch adC adS z0) s.heap.size q := fun q h => Or.inr h
  have hl : lv_has ls 3 [(0, .ref (adX 3))] := hl
  have L9 : ∀ (n : Nat) (x1 x2 : Int32) (s0 : jX) (ls : Array Slot) (H : Heap) (locs : List Loc), lv_has ls 3 [(0, .ref (adX 3)), (1, .ref (bh x1.toNatClampNeg)), (2, .int x2)] → jcx (dC, dI) vwCl (va_A (wX cI cC cL adX bh ch adC adS z0) s.heap.size) s.heap (wX cI cC cL adX bh ch adC adS s0) H locs → fH_giveUpFirst_9 N n x1 x2 s0 = some (r, z1) → W p l e ({ frames := 0, cells := 0, slots := 0, locals := 0 }) s m [.ref (adX 3)].toArray below meth c H locs 0 0 (MQ below (jQv (dC, dI) vwCl [(cI, .int), (cC, .char), (cL, .object "SharedSyntax$Letters")] (wX cI cC cL adX bh ch adC adS z0) (wX cI cC cL adX bh ch adC adS z1) s.heap.size) [.ref (adX 3)].toArray s 0 0 (va_A (wX cI cC cL adX bh ch adC adS z0) s.heap.size)) (F0 m 9 ls []) := by
    intro n
    induction n with
    | zero => exact fun _ _ _ _ _ _ _ _ hf => nomatch hf
    | succ n ih9 =>
      intro x1 x2 s0 ls H locs hl hC hf
      replace hf : fH_giveUpFirst_b9 N (fH_giveUpFirst_9 N n) x1 x2 s0 = some (r, z1) := hf
      generalize fH_giveUpFirst_9 N n = k9 at ih9 hf
      unfold fH_giveUpFirst_b9 at hf
      refine lv_iload_n hx hb dH_giveUpFirst_9 rfl (lv_at hl 2 rfl) ?_
      refine lv_iconst (v := 3) hx hb dH_giveUpFirst_10 (by decide) ?_
      refine lv_icmp_ge (tgt := 34) hx hb dH_giveUpFirst_11 (by decide) (fun c901 => ?_) (fun c901 => ?_)
      · replace hf := jif_t c901 hf
        refine lv_aload_n hx hb dH_giveUpFirst_34 rfl (lv_at hl 0 rfl) ?_
        refine va_get (D := (dC, dI)) (ci := 4) (v := .ref (adX 4)) (C := RcH) (T := TcH) (N := 2) hx hb ht in_cH hown hK hC.1 3 (wX_e3 cI cC cL adX bh ch adC adS s0) rfl 0 (by decide) (ht _ tw451) (fun _ h9 => h9) rfl dH_giveUpFirst_35 ?_
        refine lv_iconst (v := 2) hx hb dH_giveUpFirst_38 (by decide) ?_
        refine lv_aload_n hx hb dH_giveUpFirst_39 rfl (lv_at hl 1 rfl) ?_
        obtain ⟨hi902, hf⟩ := jC_in hf
        obtain ⟨hj902, hf⟩ := jC_in hf
        obtain ⟨s902, e902, hf⟩ := jL_s hf
        refine jastq hx hb hK hC hj902 hi902 dH_giveUpFirst_40 e902 (fun H locs hC => ?_)
        refine lv_aload_n hx hb dH_giveUpFirst_41 rfl (lv_at hl 0 rfl) ?_
        refine lv_iconst (v := 2) hx hb dH_giveUpFirst_42 (by decide) ?_
        obtain ⟨s903, e903, hf⟩ := jL_s hf
        refine jput (ci := 4) (C := RcH) (T := TcH) (N := 2) hx hb ht in_cH tycH tycH_ok nmcH hown hK hC 3 (wX_e3 cI cC cL adX bh ch adC adS s902) rfl 1 (by decide) (ht _ tw452) (fun _ h9 => h9) rfl rfl (Nat.le_of_ble_eq_true rfl) dH_giveUpFirst_43 ((wX_pH_3 cI cC cL adX bh ch adC adS s902 _).trans (congrArg (wX cI cC cL adX bh ch adC adS) e903.symm)) (fun H locs hC => ?_)
        cases hf
        exact jret_v hx hb hr hlk hC hK dH_giveUpFirst_46
      · replace hf := jif_f c901 hf
        refine lv_aload_n hx hb dH_giveUpFirst_14 rfl (lv_at hl 0 rfl) ?_
        refine va_get (D := (dC, dI)) (ci := 4) (v := .ref (adX 4)) (C := RcH) (T := TcH) (N := 2) hx hb ht in_cH hown hK hC.1 3 (wX_e3 cI cC cL adX bh ch adC adS s0) rfl 0 (by decide) (ht _ tw451) (fun _ h9 => h9) rfl dH_giveUpFirst_15 ?_
        refine lv_iload_n hx hb dH_giveUpFirst_18 rfl (lv_at hl 2 rfl) ?_
        refine lv_iconst (v := 1) hx hb dH_giveUpFirst_19 (by decide) ?_
        refine lv_isub hx hb dH_giveUpFirst_20 ?_
        refine lv_aload_n hx hb dH_giveUpFirst_21 rfl (lv_at hl 0 rfl) ?_
        refine va_get (D := (dC, dI)) (ci := 4) (v := .ref (adX 4)) (C := RcH) (T := TcH) (N := 2) hx hb ht in_cH hown hK hC.1 3 (wX_e3 cI cC cL adX bh ch adC adS s0) rfl 0 (by decide) (ht _ tw451) (fun _ h9 => h9) rfl dH_giveUpFirst_22 ?_
        refine lv_iload_n hx hb dH_giveUpFirst_25 rfl (lv_at hl 2 rfl) ?_
        obtain ⟨hi904, hf⟩ := jC_in hf
        refine va_aldq hx hb hK hC.1 4 2 (wX_e4 cI cC cL adX bh ch adC adS s0) rfl hi904 dH_giveUpFirst_26 ?_
        obtain ⟨hi905, hf⟩ := jC_in hf
        obtain ⟨hj905, hf⟩ := jC_in hf
        obtain ⟨s905, e905, hf⟩ := jL_s hf
        refine jastq hx hb hK hC hj905 hi905 dH_giveUpFirst_27 e905 (fun H locs hC => ?_)
        refine lv_iinc (k := 2) (v := (x2 + (1 : Int32))) (lv' := [(2, .int (x2 + (1 : Int32))), (0, .ref (adX 3)), (1, .ref (bh x1.toNatClampNeg))]) hx hb dH_giveUpFirst_28 hl rfl rfl (by decide) rfl (fun ls hl => ?_)
        refine lv_goto (tgt := 9) hx hb dH_giveUpFirst_31 (by decide) ?_
        exact ih9 x1 (x2 + (1 : Int32)) s905 ls _ _ (lv_sub hl [1, 2, 0] rfl) hC hf
  unfold fH_giveUpFirst at hf
  refine lv_aload_n hx hb dH_giveUpFirst_0 rfl (lv_at hl 0 rfl) ?_
  refine va_get (D := (dC, dI)) (ci := 4) (v := .ref (adX 4)) (C := RcH) (T := TcH) (N := 2) hx hb ht in_cH hown hK hC.1 3 (wX_e3 cI cC cL adX bh ch adC adS z0) rfl 0 (by decide) (ht _ tw451) (fun _ h9 => h9) rfl dH_giveUpFirst_1 ?_
  refine lv_iconst (v := 0) hx hb dH_giveUpFirst_4 (by decide) ?_
  obtain ⟨hi1, hf⟩ := jC_in hf
  refine va_aldq hx hb hK hC.1 4 2 (wX_e4 cI cC cL adX bh ch adC adS z0) rfl hi1 dH_giveUpFirst_5 ?_
  refine lv_astore_n (lv' := [(1, .ref (bh (jgA z0.1 4 ((0 : Int32)).toNatClampNeg).toNatClampNeg)), (0, .ref (adX 3))]) hx hb dH_giveUpFirst_6 rfl hl (by decide) rfl (fun ls hl => ?_)
  refine lv_iconst (v := 1) hx hb dH_giveUpFirst_7 (by decide) ?_
  refine lv_istore_n (lv' := [(2, .int (1 : Int32)), (1, .ref (bh (jgA z0.1 4 ((0 : Int32)).toNatClampNeg).toNatClampNeg)), (0, .ref (adX 3))]) hx hb dH_giveUpFirst_8 rfl hl (by decide) rfl (fun ls hl => ?_)
  exact L9 N (jgA z0.1 4 ((0 : Int32)).toNatClampNeg) (1 : Int32) z0 ls _ _ (lv_sub hl [2, 1, 0] rfl) hC hf

def fH_store_cL_12 (N : Nat) (s0 : jX) : Option (Int32 × jX) := (if jIn (jgI s0.1 3) 3 = true then (if (jgA s0.1 4 (jgI s0.1 3).toNatClampNeg) = (0 : Int32) then (jB (fL_copy_h0_cL N s0) fun r1202 s1202 => (jL ((jsI s1202.1 3 (jgI s1202.1 3 + (1 : Int32)), s1202.2.1, s1202.2.2)) fun s1203 => some (0, s1203))) else (if (jgA s0.1 4 (jgI s0.1 3).toNatClampNeg) = (1 : Int32) then (jB (fL_copy_h1_cL N s0) fun r1204 s1204 => (jL ((jsI s1204.1 3 (jgI s1204.1 3 + (1 : Int32)), s1204.2.1, s1204.2.2)) fun s1205 => some (0, s1205))) else (if (jgA s0.1 4 (jgI s0.1 3).toNatClampNeg) = (2 : Int32) then (jB (fL_copy_h2_cL N s0) fun r1206 s1206 => (jL ((jsI s1206.1 3 (jgI s1206.1 3 + (1 : Int32)), s1206.2.1, s1206.2.2)) fun s1207 => some (0, s1207))) else none))) else none)
def fH_store_cL (N : Nat) (z0 : jX) : Option (Int32 × jX) := (if jgI z0.1 3 < (3 : Int32) then fH_store_cL_12 N z0 else (jB (fH_giveUpFirst N z0) fun r2 s2 => fH_store_cL_12 N s2))
set_option maxHeartbeats 4000000 in
set_option maxRecDepth 100000 in
theorem cH_store_cL (l : Launch) (dC : Nat → ClassId) (dI : Nat → Nat → Nat) (cI cC cL : ClassId) (sk sv : Nat → Nat) (adX bh ch adC adS : Nat → Nat) (N : Nat) (z0 z1 : jX) (r : Int32) (hf : fH_store_cL N z0 = some (r, z1)) : Cv l yH_store (Cond.code yH_store prog_2_method_2_code 2 none :: TB) ({ frames := 3, cells := 0, slots := 0, locals := 66 }) (dC, dI) vwCl [(cI, .int), (cC, .char), (cL, .object "SharedSyntax$Letters")] (jEn sk sv) [.ref (adX 3), .ref (adC 3)] (wX cI cC cL adX bh ch adC adS z0) (wX cI cC cL adX bh ch adC adS z1) := by
  refine Cv_of (cc := prog_2_method_2_code) (maxL := 2) (ret := none) (by decide) rfl (Nat.le_of_ble_eq_true rfl) ?_
  intro p e s m below meth c ls F hl hK hN hC
  obtain ⟨hx, hb, hml, hown, hts, hr, hlk⟩ := F
  have ht : ∀ w ∈ TB, w.before [.ref (adX 3), .ref (adC 3)].toArray s = true := fun w h => hts w (List.mem_cons_of_mem _ h)
  have hA : ∀ q, s.heap.size ≤ q → va_A (wX cI cC cL adX bh ch adC adS z0) s.heap.size q := fun q h => Or.inr h
  have hl : lv_has ls 2 [(0, .ref (adX 3)), (1, .ref (adC 3))] := hl
  have L12 : ∀ (s0 : jX) (ls : Array Slot) (H : Heap) (locs : List Loc), lv_has ls 2 [(0, .ref (adX 3)), (1, .ref (adC 3))] → jcx (dC, dI) vwCl (va_A (wX cI cC cL adX bh ch adC adS z0) s.heap.size) s.heap (wX cI cC cL adX bh ch adC adS s0) H locs → fH_store_cL_12 N s0 = some (r, z1) → W p l e ({ frames := 3, cells := 0, slots := 0, locals := 66 }) s m [.ref (adX 3), .ref (adC 3)].toArray below meth c H locs 0 0 (MQ below (jQv (dC, dI) vwCl [(cI, .int), (cC, .char), (cL, .object "SharedSyntax$Letters")] (wX cI cC cL adX bh ch adC adS z0) (wX cI cC cL adX bh ch adC adS z1) s.heap.size) [.ref (adX 3), .ref (adC 3)].toArray s 0 0 (va_A (wX cI cC cL adX bh ch adC adS z0) s.heap.size)) (F0 m 12 ls []) := by
    intro s0 ls H locs hl hC hf
    unfold fH_store_cL_12 at hf
    refine lv_aload_n hx hb dH_store_12 rfl (lv_at hl 0 rfl) ?_
    refine va_get (D := (dC, dI)) (ci := 4) (v := .ref (adX 4)) (C := RcH) (T := TcH) (N := 2) hx hb ht in_cH hown hK hC.1 3 (wX_e3 cI cC cL adX bh ch adC adS s0) rfl 0 (by decide) (ht _ tw451) (fun _ h9 => h9) rfl dH_store_13 ?_
    refine lv_aload_n hx hb dH_store_16 rfl (lv_at hl 0 rfl) ?_
    refine va_get (D := (dC, dI)) (ci := 4) (v := .int (jgI s0.1 3)) (C := RcH) (T := TcH) (N := 2) hx hb ht in_cH hown hK hC.1 3 (wX_e3 cI cC cL adX bh ch adC adS s0) rfl 1 (by decide) (ht _ tw452) (fun _ h9 => h9) rfl dH_store_17 ?_
    obtain ⟨hi1201, hf⟩ := jC_in hf
    refine va_aldq hx hb hK hC.1 4 2 (wX_e4 cI cC cL adX bh ch adC adS s0) rfl hi1201 dH_store_20 ?_
    refine lv_aload_n hx hb dH_store_21 rfl (lv_at hl 1 rfl) ?_
    by_cases w0 : (jgA s0.1 4 (jgI s0.1 3).toNatClampNeg) = (0 : Int32)
    · replace hf := jif_t w0 hf
      refine W.eq (g2 := F0 m 22 ls [.ref (adC 3), .ref (bh 0)]) (by rw [w0] <;> rfl) ?_
      obtain ⟨r1202, s1202, hc1202, hf⟩ := jB_some hf
      refine jcall_v (va_runV (C := RcL) (As := [.ref (adC 3)]) (rest := []) ⟨hx, hb, hml, hown, hts⟩ ((cL_copy_h0_cL l dC dI cI cC cL sk sv adX bh ch adC adS N s0 s1202 r1202 hc1202) _) ⟨(callB_of 1 hts (tb_good tw506) rfl rfl rfl (ht _ tw3) (ht _ tw503) (by decide +kernel) ⟨Nat.le_of_ble_eq_true rfl, Nat.le_of_ble_eq_true rfl⟩), ht _ tw504, ht _ tw505⟩ (jpreV (jEn_ok sk sv) hC hA hK hN (wX_e5 cI cC cL adX bh ch adC adS s0) rfl rfl _) rfl rfl hl.1 rfl (lv_room (Nat.le_of_ble_eq_true rfl)) dH_store_22 ⟨Nat.le_refl _, Nat.le_refl _⟩) hC hA (fun H locs hC => ?_)
      refine lv_aload_n hx hb dH_store_25 rfl (lv_at hl 0 rfl) ?_
      refine lv_dup hx hb dH_store_26 rfl ?_
      refine va_get (D := (dC, dI)) (ci := 4) (v := .int (jgI s1202.1 3)) (C := RcH) (T := TcH) (N := 2) hx hb ht in_cH hown hK hC.1 3 (wX_e3 cI cC cL adX bh ch adC adS s1202) rfl 1 (by decide) (ht _ tw452) (fun _ h9 => h9) rfl dH_store_27 ?_
      refine lv_iconst (v := 1) hx hb dH_store_30 (by decide) ?_
      refine lv_iadd hx hb dH_store_31 ?_
      obtain ⟨s1203, e1203, hf⟩ := jL_s hf
      refine jput (ci := 4) (C := RcH) (T := TcH) (N := 2) hx hb ht in_cH tycH tycH_ok nmcH hown hK hC 3 (wX_e3 cI cC cL adX bh ch adC adS s1202) rfl 1 (by decide) (ht _ tw452) (fun _ h9 => h9) rfl rfl (Nat.le_of_ble_eq_true rfl) dH_store_32 ((wX_pH_3 cI cC cL adX bh ch adC adS s1202 _).trans (congrArg (wX cI cC cL adX bh ch adC adS) e1203.symm)) (fun H locs hC => ?_)
      cases hf
      exact jret_v hx hb hr hlk hC hK dH_store_35
    · replace hf := jif_f w0 hf
      by_cases w1 : (jgA s0.1 4 (jgI s0.1 3).toNatClampNeg) = (1 : Int32)
      · replace hf := jif_t w1 hf
        refine W.eq (g2 := F0 m 22 ls [.ref (adC 3), .ref (bh 1)]) (by rw [w1] <;> rfl) ?_
        obtain ⟨r1204, s1204, hc1204, hf⟩ := jB_some hf
        refine jcall_v (va_runV (C := RcL) (As := [.ref (adC 3)]) (rest := []) ⟨hx, hb, hml, hown, hts⟩ ((cL_copy_h1_cL l dC dI cI cC cL sk sv adX bh ch adC adS N s0 s1204 r1204 hc1204) _) ⟨(callB_of 1 hts (tb_good tw506) rfl rfl rfl (ht _ tw3) (ht _ tw503) (by decide +kernel) ⟨Nat.le_of_ble_eq_true rfl, Nat.le_of_ble_eq_true rfl⟩), ht _ tw504, ht _ tw505⟩ (jpreV (jEn_ok sk sv) hC hA hK hN (wX_e7 cI cC cL adX bh ch adC adS s0) rfl rfl _) rfl rfl hl.1 rfl (lv_room (Nat.le_of_ble_eq_true rfl)) dH_store_22 ⟨Nat.le_refl _, Nat.le_refl _⟩) hC hA (fun H locs hC => ?_)
        refine lv_aload_n hx hb dH_store_25 rfl (lv_at hl 0 rfl) ?_
        refine lv_dup hx hb dH_store_26 rfl ?_
        refine va_get (D := (dC, dI)) (ci := 4) (v := .int (jgI s1204.1 3)) (C := RcH) (T := TcH) (N := 2) hx hb ht in_cH hown hK hC.1 3 (wX_e3 cI cC cL adX bh ch adC adS s1204) rfl 1 (by decide) (ht _ tw452) (fun _ h9 => h9) rfl dH_store_27 ?_
        refine lv_iconst (v := 1) hx hb dH_store_30 (by decide) ?_
        refine lv_iadd hx hb dH_store_31 ?_
        obtain ⟨s1205, e1205, hf⟩ := jL_s hf
        refine jput (ci := 4) (C := RcH) (T := TcH) (N := 2) hx hb ht in_cH tycH tycH_ok nmcH hown hK hC 3 (wX_e3 cI cC cL adX bh ch adC adS s1204) rfl 1 (by decide) (ht _ tw452) (fun _ h9 => h9) rfl rfl (Nat.le_of_ble_eq_true rfl) dH_store_32 ((wX_pH_3 cI cC cL adX bh ch adC adS s1204 _).trans (congrArg (wX cI cC cL adX bh ch adC adS) e1205.symm)) (fun H locs hC => ?_)
        cases hf
        exact jret_v hx hb hr hlk hC hK dH_store_35
      · replace hf := jif_f w1 hf
        by_cases w2 : (jgA s0.1 4 (jgI s0.1 3).toNatClampNeg) = (2 : Int32)
        · replace hf := jif_t w2 hf
          refine W.eq (g2 := F0 m 22 ls [.ref (adC 3), .ref (bh 2)]) (by rw [w2] <;> rfl) ?_
          obtain ⟨r1206, s1206, hc1206, hf⟩ := jB_some hf
          refine jcall_v (va_runV (C := RcL) (As := [.ref (adC 3)]) (rest := []) ⟨hx, hb, hml, hown, hts⟩ ((cL_copy_h2_cL l dC dI cI cC cL sk sv adX bh ch adC adS N s0 s1206 r1206 hc1206) _) ⟨(callB_of 1 hts (tb_good tw506) rfl rfl rfl (ht _ tw3) (ht _ tw503) (by decide +kernel) ⟨Nat.le_of_ble_eq_true rfl, Nat.le_of_ble_eq_true rfl⟩), ht _ tw504, ht _ tw505⟩ (jpreV (jEn_ok sk sv) hC hA hK hN (wX_e9 cI cC cL adX bh ch adC adS s0) rfl rfl _) rfl rfl hl.1 rfl (lv_room (Nat.le_of_ble_eq_true rfl)) dH_store_22 ⟨Nat.le_refl _, Nat.le_refl _⟩) hC hA (fun H locs hC => ?_)
          refine lv_aload_n hx hb dH_store_25 rfl (lv_at hl 0 rfl) ?_
          refine lv_dup hx hb dH_store_26 rfl ?_
          refine va_get (D := (dC, dI)) (ci := 4) (v := .int (jgI s1206.1 3)) (C := RcH) (T := TcH) (N := 2) hx hb ht in_cH hown hK hC.1 3 (wX_e3 cI cC cL adX bh ch adC adS s1206) rfl 1 (by decide) (ht _ tw452) (fun _ h9 => h9) rfl dH_store_27 ?_
          refine lv_iconst (v := 1) hx hb dH_store_30 (by decide) ?_
          refine lv_iadd hx hb dH_store_31 ?_
          obtain ⟨s1207, e1207, hf⟩ := jL_s hf
          refine jput (ci := 4) (C := RcH) (T := TcH) (N := 2) hx hb ht in_cH tycH tycH_ok nmcH hown hK hC 3 (wX_e3 cI cC cL adX bh ch adC adS s1206) rfl 1 (by decide) (ht _ tw452) (fun _ h9 => h9) rfl rfl (Nat.le_of_ble_eq_true rfl) dH_store_32 ((wX_pH_3 cI cC cL adX bh ch adC adS s1206 _).trans (congrArg (wX cI cC cL adX bh ch adC adS) e1207.symm)) (fun H locs hC => ?_)
          cases hf
          exact jret_v hx hb hr hlk hC hK dH_store_35
        · replace hf := jif_f w2 hf
          cases hf
  unfold fH_store_cL at hf
  refine lv_aload_n hx hb dH_store_0 rfl (lv_at hl 0 rfl) ?_
  refine va_get (D := (dC, dI)) (ci := 4) (v := .int (jgI z0.1 3)) (C := RcH) (T := TcH) (N := 2) hx hb ht in_cH hown hK hC.1 3 (wX_e3 cI cC cL adX bh ch adC adS z0) rfl 1 (by decide) (ht _ tw452) (fun _ h9 => h9) rfl dH_store_1 ?_
  refine lv_iconst (v := 3) hx hb dH_store_4 (by decide) ?_
  refine lv_icmp_lt (tgt := 12) hx hb dH_store_5 (by decide) (fun c1 => ?_) (fun c1 => ?_)
  · replace hf := jif_t c1 hf
    exact L12 z0 ls _ _ (lv_sub hl [0, 1] rfl) hC hf
  · replace hf := jif_f c1 hf
    refine lv_aload_n hx hb dH_store_8 rfl (lv_at hl 0 rfl) ?_
    obtain ⟨r2, s2, hc2, hf⟩ := jB_some hf
    refine jcall_v (va_runV (C := RcH) (As := []) (rest := []) ⟨hx, hb, hml, hown, hts⟩ ((cH_giveUpFirst l dC dI cI cC cL sk sv adX bh ch adC adS N z0 s2 r2 hc2) _) ⟨(callB_of 0 hts (tb_good tw502) rfl rfl rfl (ht _ tw13) (ht _ tw499) (by decide +kernel) ⟨Nat.le_of_ble_eq_true rfl, Nat.le_of_ble_eq_true rfl⟩), ht _ tw501, ht _ (tb_sel pv_H_giveUpFirst)⟩ (jpreV (jEn_ok sk sv) hC hA hK hN (wX_e3 cI cC cL adX bh ch adC adS z0) rfl rfl _) rfl rfl hl.1 rfl (lv_room (Nat.le_of_ble_eq_true rfl)) dH_store_9 ⟨Nat.le_refl _, Nat.le_refl _⟩) hC hA (fun H locs hC => ?_)
    exact L12 s2 ls _ _ (lv_sub hl [0, 1] rfl) hC hf
