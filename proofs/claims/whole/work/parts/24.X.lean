def fL_at_h2 (N : Nat) (a0 : Int32) (z0 : jX) : Option (Int32 × jX) := (if a0 < 0 then some ((0 : Int32), z0) else (if jgI z0.1 6 ≤ a0 then some ((0 : Int32), z0) else (if jIn a0 60 = true then some (jgA z0.1 3 (a0).toNatClampNeg, z0) else none)))
set_option maxHeartbeats 4000000 in
set_option maxRecDepth 100000 in
theorem cL_at_h2 (l : Launch) (dC : Nat → ClassId) (dI : Nat → Nat → Nat) (cI cC cL : ClassId) (sk sv : Nat → Nat) (adX bh ch adC adS : Nat → Nat) (N : Nat) (a0 : Int32) (z0 z1 : jX) (r : Int32) (hf : fL_at_h2 N a0 z0 = some (r, z1)) : Ci l yL_at (Cond.code yL_at prog_3_method_2_code 2 (some .int) :: TB) ({ frames := 0, cells := 0, slots := 0, locals := 0 }) (dC, dI) vwCl [(cI, .int), (cC, .char), (cL, .object "SharedSyntax$Letters")] (jEn sk sv) [.ref (bh 2), .int a0] (wX cI cC cL adX bh ch adC adS z0) (wX cI cC cL adX bh ch adC adS z1) r := by
  refine Ci_of (cc := prog_3_method_2_code) (maxL := 2) (ret := (some .int)) (by decide) rfl (Nat.le_of_ble_eq_true rfl) ?_
  intro p e s m below meth c ls F hl hK hN hC
  obtain ⟨hx, hb, hml, hown, hts, hr, hlk⟩ := F
  have ht : ∀ w ∈ TB, w.before [.ref (bh 2), .int a0].toArray s = true := fun w h => hts w (List.mem_cons_of_mem _ h)
  have hA : ∀ q, s.heap.size ≤ q → va_A (wX cI cC cL adX bh ch adC adS z0) s.heap.size q := fun q h => Or.inr h
  have hl : lv_has ls 2 [(0, .ref (bh 2)), (1, .int a0)] := hl
  unfold fL_at_h2 at hf
  refine lv_iload_n hx hb dL_at_0 rfl (lv_at hl 1 rfl) ?_
  refine lv_if_lt (tgt := 21) hx hb dL_at_1 (by decide) (fun c1 => ?_) (fun c1 => ?_)
  · replace hf := jif_t c1 hf
    refine lv_iconst (v := 0) hx hb dL_at_21 (by decide) ?_
    cases hf
    exact jret_i hx hb hr hlk hC hK dL_at_22
  · replace hf := jif_f c1 hf
    refine lv_iload_n hx hb dL_at_4 rfl (lv_at hl 1 rfl) ?_
    refine lv_aload_n hx hb dL_at_5 rfl (lv_at hl 0 rfl) ?_
    refine va_get (D := (dC, dI)) (ci := 0) (v := .int (jgI z0.1 6)) (C := RcL) (T := TcL) (N := 2) hx hb ht in_cL hown hK hC.1 9 (wX_e9 cI cC cL adX bh ch adC adS z0) rfl 1 (by decide) (ht _ tw32) (fun _ h9 => h9) rfl dL_at_6 ?_
    refine lv_icmp_ge (tgt := 21) hx hb dL_at_9 (by decide) (fun c2 => ?_) (fun c2 => ?_)
    · replace hf := jif_t c2 hf
      refine lv_iconst (v := 0) hx hb dL_at_21 (by decide) ?_
      cases hf
      exact jret_i hx hb hr hlk hC hK dL_at_22
    · replace hf := jif_f c2 hf
      refine lv_aload_n hx hb dL_at_12 rfl (lv_at hl 0 rfl) ?_
      refine va_get (D := (dC, dI)) (ci := 0) (v := .ref (ch 2)) (C := RcL) (T := TcL) (N := 2) hx hb ht in_cL hown hK hC.1 9 (wX_e9 cI cC cL adX bh ch adC adS z0) rfl 0 (by decide) (ht _ tw31) (fun _ h9 => h9) rfl dL_at_13 ?_
      refine lv_iload_n hx hb dL_at_16 rfl (lv_at hl 1 rfl) ?_
      obtain ⟨hi3, hf⟩ := jC_in hf
      refine va_iald hx hb hK hC.1 10 0 (wX_e10 cI cC cL adX bh ch adC adS z0) rfl hi3 dL_at_17 ?_
      refine lv_goto (tgt := 22) hx hb dL_at_18 (by decide) ?_
      cases hf
      exact jret_i hx hb hr hlk hC hK dL_at_22

def fL_appendPart_cL_h2_b3 (N : Nat) (k3 : Int32 → Int32 → jX → Option (Int32 × jX)) (x3 x4 : Int32) (s0 : jX) : Option (Int32 × jX) := (if x3 ≤ x4 then some (0, s0) else (jB (fL_at_h2 N x4 s0) fun r302 s302 => (jB (fL_append N r302 s302.2.1) fun r303 s303 => k3 x3 (x4 + (1 : Int32)) (s302.1, s303, s302.2.2))))
def fL_appendPart_cL_h2_3 (N : Nat) : Nat → Int32 → Int32 → jX → Option (Int32 × jX)
  | 0 => fun _ _ _ => none
  | n + 1 => fun x3 x4 s0 => fL_appendPart_cL_h2_b3 N (fL_appendPart_cL_h2_3 N n) x3 x4 s0
def fL_appendPart_cL_h2 (N : Nat) (a1 a2 : Int32) (z0 : jX) : Option (Int32 × jX) := fL_appendPart_cL_h2_3 N N a2 a1 z0
set_option maxHeartbeats 4000000 in
set_option maxRecDepth 100000 in
theorem cL_appendPart_cL_h2 (l : Launch) (dC : Nat → ClassId) (dI : Nat → Nat → Nat) (cI cC cL : ClassId) (sk sv : Nat → Nat) (adX bh ch adC adS : Nat → Nat) (N : Nat) (a1 a2 : Int32) (z0 z1 : jX) (r : Int32) (hf : fL_appendPart_cL_h2 N a1 a2 z0 = some (r, z1)) : Cv l yL_appendPart (Cond.code yL_appendPart prog_3_method_7_code 5 none :: TB) ({ frames := 1, cells := 0, slots := 0, locals := 21 }) (dC, dI) vwCl [(cI, .int), (cC, .char), (cL, .object "SharedSyntax$Letters")] (jEn sk sv) [.ref (adC 3), .ref (bh 2), .int a1, .int a2] (wX cI cC cL adX bh ch adC adS z0) (wX cI cC cL adX bh ch adC adS z1) := by
  refine Cv_of (cc := prog_3_method_7_code) (maxL := 5) (ret := none) (by decide) rfl (Nat.le_of_ble_eq_true rfl) ?_
  intro p e s m below meth c ls F hl hK hN hC
  obtain ⟨hx, hb, hml, hown, hts, hr, hlk⟩ := F
  have ht : ∀ w ∈ TB, w.before [.ref (adC 3), .ref (bh 2), .int a1, .int a2].toArray s = true := fun w h => hts w (List.mem_cons_of_mem _ h)
  have hA : ∀ q, s.heap.size ≤ q → va_A (wX cI cC cL adX bh ch adC adS z0) s.heap.size q := fun q h => Or.inr h
  have hl : lv_has ls 5 [(0, .ref (adC 3)), (1, .ref (bh 2)), (2, .int a1), (3, .int a2)] := hl
  have L3 : ∀ (n : Nat) (x3 x4 : Int32) (s0 : jX) (ls : Array Slot) (H : Heap) (locs : List Loc), lv_has ls 5 [(0, .ref (adC 3)), (1, .ref (bh 2)), (3, .int x3), (4, .int x4)] → jcx (dC, dI) vwCl (va_A (wX cI cC cL adX bh ch adC adS z0) s.heap.size) s.heap (wX cI cC cL adX bh ch adC adS s0) H locs → fL_appendPart_cL_h2_3 N n x3 x4 s0 = some (r, z1) → W p l e ({ frames := 1, cells := 0, slots := 0, locals := 21 }) s m [.ref (adC 3), .ref (bh 2), .int a1, .int a2].toArray below meth c H locs 0 0 (MQ below (jQv (dC, dI) vwCl [(cI, .int), (cC, .char), (cL, .object "SharedSyntax$Letters")] (wX cI cC cL adX bh ch adC adS z0) (wX cI cC cL adX bh ch adC adS z1) s.heap.size) [.ref (adC 3), .ref (bh 2), .int a1, .int a2].toArray s 0 0 (va_A (wX cI cC cL adX bh ch adC adS z0) s.heap.size)) (F0 m 3 ls []) := by
    intro n
    induction n with
    | zero => exact fun _ _ _ _ _ _ _ _ hf => nomatch hf
    | succ n ih3 =>
      intro x3 x4 s0 ls H locs hl hC hf
      replace hf : fL_appendPart_cL_h2_b3 N (fL_appendPart_cL_h2_3 N n) x3 x4 s0 = some (r, z1) := hf
      generalize fL_appendPart_cL_h2_3 N n = k3 at ih3 hf
      unfold fL_appendPart_cL_h2_b3 at hf
      refine lv_iload hx hb dL_appendPart_3 (lv_at hl 3 rfl) ?_
      refine lv_iload_n hx hb dL_appendPart_5 rfl (lv_at hl 2 rfl) ?_
      refine lv_icmp_ge (tgt := 26) hx hb dL_appendPart_6 (by decide) (fun c301 => ?_) (fun c301 => ?_)
      · replace hf := jif_t c301 hf
        cases hf
        exact jret_v hx hb hr hlk hC hK dL_appendPart_26
      · replace hf := jif_f c301 hf
        refine lv_aload_n hx hb dL_appendPart_9 rfl (lv_at hl 0 rfl) ?_
        refine lv_aload_n hx hb dL_appendPart_10 rfl (lv_at hl 1 rfl) ?_
        refine lv_iload hx hb dL_appendPart_11 (lv_at hl 3 rfl) ?_
        obtain ⟨r302, s302, hc302, hf⟩ := jB_some hf
        refine jcall_i (va_runV (C := RcL) (As := [.int x4]) (rest := [.ref (adC 3)]) ⟨hx, hb, hml, hown, hts⟩ ((cL_at_h2 l dC dI cI cC cL sk sv adX bh ch adC adS N x4 s0 s302 r302 hc302) _) ⟨(callB_of 1 hts (tb_good tw164) rfl rfl rfl (ht _ tw3) (ht _ tw515) (by decide +kernel) ⟨Nat.le_of_ble_eq_true rfl, Nat.le_of_ble_eq_true rfl⟩), ht _ tw162, ht _ tw163⟩ (jpreV (jEn_ok sk sv) hC hA hK hN (wX_e9 cI cC cL adX bh ch adC adS s0) rfl rfl _) rfl rfl hl.1 rfl (lv_room (Nat.le_of_ble_eq_true rfl)) dL_appendPart_13 ⟨Nat.le_refl _, Nat.le_refl _⟩) hC hA (fun H locs hC => ?_)
        obtain ⟨r303, s303, hc303, hf⟩ := jB_some hf
        have hCc := wX_subc cI cC cL adX bh ch adC adS s302 hC
        refine jcallS_i (wX_mcc cI cC cL adX bh ch adC adS s302) (wX_mrc cI cC cL adX bh ch adC adS s302) rfl (by decide) (wX_mbc cI cC cL adX bh ch adC adS s302 s303) rfl (va_runV (C := RcL) (As := [.int r302]) (rest := []) ⟨hx, hb, hml, hown, hts⟩ ((cL_append l dC dI cI cC cL sk sv adC N r302 s302.2.1 s303 r303 hc303) _) ⟨(callB_of 1 hts (tb_good tw486) rfl rfl rfl (ht _ tw3) (ht _ tw516) (by decide +kernel) ⟨Nat.le_of_ble_eq_true rfl, Nat.le_of_ble_eq_true rfl⟩), ht _ tw484, ht _ tw485⟩ (jpreV (jEn_ok sk sv) hCc hA hK hN (wR_e3 cI cC adC s302.2.1) rfl rfl _) rfl rfl hl.1 rfl (lv_room (Nat.le_of_ble_eq_true rfl)) dL_appendPart_16 ⟨Nat.le_refl _, Nat.le_refl _⟩) hC hA (fun H locs hC => ?_)
        refine lv_pop hx hb dL_appendPart_19 rfl ?_
        refine lv_iinc (k := 3) (v := (x4 + (1 : Int32))) (lv' := [(4, .int (x4 + (1 : Int32))), (0, .ref (adC 3)), (1, .ref (bh 2)), (3, .int x3)]) hx hb dL_appendPart_20 hl rfl rfl (by decide) rfl (fun ls hl => ?_)
        refine lv_goto (tgt := 3) hx hb dL_appendPart_23 (by decide) ?_
        exact ih3 x3 (x4 + (1 : Int32)) (s302.1, s303, s302.2.2) ls _ _ (lv_sub hl [1, 2, 3, 0] rfl) hC hf
  unfold fL_appendPart_cL_h2 at hf
  refine lv_iload_n hx hb dL_appendPart_0 rfl (lv_at hl 2 rfl) ?_
  refine lv_istore (lv' := [(4, .int a1), (0, .ref (adC 3)), (1, .ref (bh 2)), (2, .int a1), (3, .int a2)]) hx hb dL_appendPart_1 hl (by decide) rfl (fun ls hl => ?_)
  exact L3 N a2 a1 z0 ls _ _ (lv_sub hl [1, 2, 4, 0] rfl) hC hf

def fL_copy_cL_h2 (N : Nat) (z0 : jX) : Option (Int32 × jX) := (jB (fL_clear N z0.2.1) fun r1 s1 => (jB (fL_appendPart_cL_h2 N (0 : Int32) (jgI z0.1 6) (z0.1, s1, z0.2.2)) fun r2 s2 => some (0, s2)))
set_option maxHeartbeats 4000000 in
set_option maxRecDepth 100000 in
theorem cL_copy_cL_h2 (l : Launch) (dC : Nat → ClassId) (dI : Nat → Nat → Nat) (cI cC cL : ClassId) (sk sv : Nat → Nat) (adX bh ch adC adS : Nat → Nat) (N : Nat) (z0 z1 : jX) (r : Int32) (hf : fL_copy_cL_h2 N z0 = some (r, z1)) : Cv l yL_copy (Cond.code yL_copy prog_3_method_5_code 2 none :: TB) ({ frames := 2, cells := 0, slots := 0, locals := 45 }) (dC, dI) vwCl [(cI, .int), (cC, .char), (cL, .object "SharedSyntax$Letters")] (jEn sk sv) [.ref (adC 3), .ref (bh 2)] (wX cI cC cL adX bh ch adC adS z0) (wX cI cC cL adX bh ch adC adS z1) := by
  refine Cv_of (cc := prog_3_method_5_code) (maxL := 2) (ret := none) (by decide) rfl (Nat.le_of_ble_eq_true rfl) ?_
  intro p e s m below meth c ls F hl hK hN hC
  obtain ⟨hx, hb, hml, hown, hts, hr, hlk⟩ := F
  have ht : ∀ w ∈ TB, w.before [.ref (adC 3), .ref (bh 2)].toArray s = true := fun w h => hts w (List.mem_cons_of_mem _ h)
  have hA : ∀ q, s.heap.size ≤ q → va_A (wX cI cC cL adX bh ch adC adS z0) s.heap.size q := fun q h => Or.inr h
  have hl : lv_has ls 2 [(0, .ref (adC 3)), (1, .ref (bh 2))] := hl
  unfold fL_copy_cL_h2 at hf
  refine lv_aload_n hx hb dL_copy_0 rfl (lv_at hl 0 rfl) ?_
  obtain ⟨r1, s1, hc1, hf⟩ := jB_some hf
  have hCc := wX_subc cI cC cL adX bh ch adC adS z0 hC
  refine jcallS_v (wX_mcc cI cC cL adX bh ch adC adS z0) (wX_mrc cI cC cL adX bh ch adC adS z0) rfl (by decide) (wX_mbc cI cC cL adX bh ch adC adS z0 s1) rfl (va_runV (C := RcL) (As := []) (rest := []) ⟨hx, hb, hml, hown, hts⟩ ((cL_clear l dC dI cI cC cL sk sv adC N z0.2.1 s1 r1 hc1) _) ⟨(callB_of 0 hts (tb_good tw510) rfl rfl rfl (ht _ tw3) (ht _ tw507) (by decide +kernel) ⟨Nat.le_of_ble_eq_true rfl, Nat.le_of_ble_eq_true rfl⟩), ht _ tw508, ht _ tw509⟩ (jpreV (jEn_ok sk sv) hCc hA hK hN (wR_e3 cI cC adC z0.2.1) rfl rfl _) rfl rfl hl.1 rfl (lv_room (Nat.le_of_ble_eq_true rfl)) dL_copy_1 ⟨Nat.le_refl _, Nat.le_refl _⟩) hC hA (fun H locs hC => ?_)
  refine lv_aload_n hx hb dL_copy_4 rfl (lv_at hl 0 rfl) ?_
  refine lv_aload_n hx hb dL_copy_5 rfl (lv_at hl 1 rfl) ?_
  refine lv_iconst (v := 0) hx hb dL_copy_6 (by decide) ?_
  refine lv_aload_n hx hb dL_copy_7 rfl (lv_at hl 1 rfl) ?_
  refine va_get (D := (dC, dI)) (ci := 0) (v := .int (jgI z0.1 6)) (C := RcL) (T := TcL) (N := 2) hx hb ht in_cL hown hK hC.1 9 (wX_e9 cI cC cL adX bh ch adC adS (z0.1, s1, z0.2.2)) rfl 1 (by decide) (ht _ tw32) (fun _ h9 => h9) rfl dL_copy_8 ?_
  obtain ⟨r2, s2, hc2, hf⟩ := jB_some hf
  refine jcall_v (va_runV (C := RcL) (As := [.ref (bh 2), .int (0 : Int32), .int (jgI z0.1 6)]) (rest := []) ⟨hx, hb, hml, hown, hts⟩ ((cL_appendPart_cL_h2 l dC dI cI cC cL sk sv adX bh ch adC adS N (0 : Int32) (jgI z0.1 6) (z0.1, s1, z0.2.2) s2 r2 hc2) _) ⟨(callB_of 3 hts (tb_good tw514) rfl rfl rfl (ht _ tw3) (ht _ tw511) (by decide +kernel) ⟨Nat.le_of_ble_eq_true rfl, Nat.le_of_ble_eq_true rfl⟩), ht _ tw513, ht _ (tb_sel pv_L_appendPart)⟩ (jpreV (jEn_ok sk sv) hC hA hK hN (wX_e14 cI cC cL adX bh ch adC adS (z0.1, s1, z0.2.2)) rfl rfl _) rfl rfl hl.1 rfl (lv_room (Nat.le_of_ble_eq_true rfl)) dL_copy_11 ⟨Nat.le_refl _, Nat.le_refl _⟩) hC hA (fun H locs hC => ?_)
  cases hf
  exact jret_v hx hb hr hlk hC hK dL_copy_14

def fH_takeLast_cL (N : Nat) (z0 : jX) : Option (Int32 × jX) := (if 0 < jgI z0.1 3 then (jL ((jsI z0.1 3 (jgI z0.1 3 - (1 : Int32)), z0.2.1, z0.2.2)) fun s2 => (if jIn (jgI s2.1 3) 3 = true then (if (jgA s2.1 4 (jgI s2.1 3).toNatClampNeg) = (0 : Int32) then (jB (fL_copy_cL_h0 N s2) fun r4 s4 => some ((1 : Int32), s4)) else (if (jgA s2.1 4 (jgI s2.1 3).toNatClampNeg) = (1 : Int32) then (jB (fL_copy_cL_h1 N s2) fun r5 s5 => some ((1 : Int32), s5)) else (if (jgA s2.1 4 (jgI s2.1 3).toNatClampNeg) = (2 : Int32) then (jB (fL_copy_cL_h2 N s2) fun r6 s6 => some ((1 : Int32), s6)) else none))) else none)) else some ((0 : Int32), z0))
set_option maxHeartbeats 4000000 in
set_option maxRecDepth 100000 in
theorem cH_takeLast_cL (l : Launch) (dC : Nat → ClassId) (dI : Nat → Nat → Nat) (cI cC cL : ClassId) (sk sv : Nat → Nat) (adX bh ch adC adS : Nat → Nat) (N : Nat) (z0 z1 : jX) (r : Int32) (hf : fH_takeLast_cL N z0 = some (r, z1)) : Ci l yH_takeLast (Cond.code yH_takeLast prog_2_method_3_code 2 (some .boolean) :: TB) ({ frames := 3, cells := 0, slots := 0, locals := 66 }) (dC, dI) vwCl [(cI, .int), (cC, .char), (cL, .object "SharedSyntax$Letters")] (jEn sk sv) [.ref (adX 3), .ref (adC 3)] (wX cI cC cL adX bh ch adC adS z0) (wX cI cC cL adX bh ch adC adS z1) r := by
  refine Ci_of (cc := prog_2_method_3_code) (maxL := 2) (ret := (some .boolean)) (by decide) rfl (Nat.le_of_ble_eq_true rfl) ?_
  intro p e s m below meth c ls F hl hK hN hC
  obtain ⟨hx, hb, hml, hown, hts, hr, hlk⟩ := F
  have ht : ∀ w ∈ TB, w.before [.ref (adX 3), .ref (adC 3)].toArray s = true := fun w h => hts w (List.mem_cons_of_mem _ h)
  have hA : ∀ q, s.heap.size ≤ q → va_A (wX cI cC cL adX bh ch adC adS z0) s.heap.size q := fun q h => Or.inr h
  have hl : lv_has ls 2 [(0, .ref (adX 3)), (1, .ref (adC 3))] := hl
  unfold fH_takeLast_cL at hf
  refine lv_aload_n hx hb dH_takeLast_0 rfl (lv_at hl 0 rfl) ?_
  refine va_get (D := (dC, dI)) (ci := 4) (v := .int (jgI z0.1 3)) (C := RcH) (T := TcH) (N := 2) hx hb ht in_cH hown hK hC.1 3 (wX_e3 cI cC cL adX bh ch adC adS z0) rfl 1 (by decide) (ht _ tw452) (fun _ h9 => h9) rfl dH_takeLast_1 ?_
  refine lv_if_gt (tgt := 9) hx hb dH_takeLast_4 (by decide) (fun c1 => ?_) (fun c1 => ?_)
  · replace hf := jif_t c1 hf
    refine lv_aload_n hx hb dH_takeLast_9 rfl (lv_at hl 0 rfl) ?_
    refine lv_dup hx hb dH_takeLast_10 rfl ?_
    refine va_get (D := (dC, dI)) (ci := 4) (v := .int (jgI z0.1 3)) (C := RcH) (T := TcH) (N := 2) hx hb ht in_cH hown hK hC.1 3 (wX_e3 cI cC cL adX bh ch adC adS z0) rfl 1 (by decide) (ht _ tw452) (fun _ h9 => h9) rfl dH_takeLast_11 ?_
    refine lv_iconst (v := 1) hx hb dH_takeLast_14 (by decide) ?_
    refine lv_isub hx hb dH_takeLast_15 ?_
    obtain ⟨s2, e2, hf⟩ := jL_s hf
    refine jput (ci := 4) (C := RcH) (T := TcH) (N := 2) hx hb ht in_cH tycH tycH_ok nmcH hown hK hC 3 (wX_e3 cI cC cL adX bh ch adC adS z0) rfl 1 (by decide) (ht _ tw452) (fun _ h9 => h9) rfl rfl (Nat.le_of_ble_eq_true rfl) dH_takeLast_16 ((wX_pH_3 cI cC cL adX bh ch adC adS z0 _).trans (congrArg (wX cI cC cL adX bh ch adC adS) e2.symm)) (fun H locs hC => ?_)
    refine lv_aload_n hx hb dH_takeLast_19 rfl (lv_at hl 1 rfl) ?_
    refine lv_aload_n hx hb dH_takeLast_20 rfl (lv_at hl 0 rfl) ?_
    refine va_get (D := (dC, dI)) (ci := 4) (v := .ref (adX 4)) (C := RcH) (T := TcH) (N := 2) hx hb ht in_cH hown hK hC.1 3 (wX_e3 cI cC cL adX bh ch adC adS s2) rfl 0 (by decide) (ht _ tw451) (fun _ h9 => h9) rfl dH_takeLast_21 ?_
    refine lv_aload_n hx hb dH_takeLast_24 rfl (lv_at hl 0 rfl) ?_
    refine va_get (D := (dC, dI)) (ci := 4) (v := .int (jgI s2.1 3)) (C := RcH) (T := TcH) (N := 2) hx hb ht in_cH hown hK hC.1 3 (wX_e3 cI cC cL adX bh ch adC adS s2) rfl 1 (by decide) (ht _ tw452) (fun _ h9 => h9) rfl dH_takeLast_25 ?_
    obtain ⟨hi3, hf⟩ := jC_in hf
    refine va_aldq hx hb hK hC.1 4 2 (wX_e4 cI cC cL adX bh ch adC adS s2) rfl hi3 dH_takeLast_28 ?_
    by_cases w0 : (jgA s2.1 4 (jgI s2.1 3).toNatClampNeg) = (0 : Int32)
    · replace hf := jif_t w0 hf
      refine W.eq (g2 := F0 m 29 ls [.ref (bh 0), .ref (adC 3)]) (by rw [w0] <;> rfl) ?_
      obtain ⟨r4, s4, hc4, hf⟩ := jB_some hf
      refine jcall_v (va_runV (C := RcL) (As := [.ref (bh 0)]) (rest := []) ⟨hx, hb, hml, hown, hts⟩ ((cL_copy_cL_h0 l dC dI cI cC cL sk sv adX bh ch adC adS N s2 s4 r4 hc4) _) ⟨(callB_of 1 hts (tb_good tw506) rfl rfl rfl (ht _ tw3) (ht _ tw503) (by decide +kernel) ⟨Nat.le_of_ble_eq_true rfl, Nat.le_of_ble_eq_true rfl⟩), ht _ tw504, ht _ tw505⟩ (jpreV (jEn_ok sk sv) hC hA hK hN (wX_e14 cI cC cL adX bh ch adC adS s2) rfl rfl _) rfl rfl hl.1 rfl (lv_room (Nat.le_of_ble_eq_true rfl)) dH_takeLast_29 ⟨Nat.le_refl _, Nat.le_refl _⟩) hC hA (fun H locs hC => ?_)
      refine lv_iconst (v := 1) hx hb dH_takeLast_32 (by decide) ?_
      cases hf
      exact jret_z hx hb hr (by decide +kernel) hlk hC hK dH_takeLast_33
    · replace hf := jif_f w0 hf
      by_cases w1 : (jgA s2.1 4 (jgI s2.1 3).toNatClampNeg) = (1 : Int32)
      · replace hf := jif_t w1 hf
        refine W.eq (g2 := F0 m 29 ls [.ref (bh 1), .ref (adC 3)]) (by rw [w1] <;> rfl) ?_
        obtain ⟨r5, s5, hc5, hf⟩ := jB_some hf
        refine jcall_v (va_runV (C := RcL) (As := [.ref (bh 1)]) (rest := []) ⟨hx, hb, hml, hown, hts⟩ ((cL_copy_cL_h1 l dC dI cI cC cL sk sv adX bh ch adC adS N s2 s5 r5 hc5) _) ⟨(callB_of 1 hts (tb_good tw506) rfl rfl rfl (ht _ tw3) (ht _ tw503) (by decide +kernel) ⟨Nat.le_of_ble_eq_true rfl, Nat.le_of_ble_eq_true rfl⟩), ht _ tw504, ht _ tw505⟩ (jpreV (jEn_ok sk sv) hC hA hK hN (wX_e14 cI cC cL adX bh ch adC adS s2) rfl rfl _) rfl rfl hl.1 rfl (lv_room (Nat.le_of_ble_eq_true rfl)) dH_takeLast_29 ⟨Nat.le_refl _, Nat.le_refl _⟩) hC hA (fun H locs hC => ?_)
        refine lv_iconst (v := 1) hx hb dH_takeLast_32 (by decide) ?_
        cases hf
        exact jret_z hx hb hr (by decide +kernel) hlk hC hK dH_takeLast_33
      · replace hf := jif_f w1 hf
        by_cases w2 : (jgA s2.1 4 (jgI s2.1 3).toNatClampNeg) = (2 : Int32)
        · replace hf := jif_t w2 hf
          refine W.eq (g2 := F0 m 29 ls [.ref (bh 2), .ref (adC 3)]) (by rw [w2] <;> rfl) ?_
          obtain ⟨r6, s6, hc6, hf⟩ := jB_some hf
          refine jcall_v (va_runV (C := RcL) (As := [.ref (bh 2)]) (rest := []) ⟨hx, hb, hml, hown, hts⟩ ((cL_copy_cL_h2 l dC dI cI cC cL sk sv adX bh ch adC adS N s2 s6 r6 hc6) _) ⟨(callB_of 1 hts (tb_good tw506) rfl rfl rfl (ht _ tw3) (ht _ tw503) (by decide +kernel) ⟨Nat.le_of_ble_eq_true rfl, Nat.le_of_ble_eq_true rfl⟩), ht _ tw504, ht _ tw505⟩ (jpreV (jEn_ok sk sv) hC hA hK hN (wX_e14 cI cC cL adX bh ch adC adS s2) rfl rfl _) rfl rfl hl.1 rfl (lv_room (Nat.le_of_ble_eq_true rfl)) dH_takeLast_29 ⟨Nat.le_refl _, Nat.le_refl _⟩) hC hA (fun H locs hC => ?_)
          refine lv_iconst (v := 1) hx hb dH_takeLast_32 (by decide) ?_
          cases hf
          exact jret_z hx hb hr (by decide +kernel) hlk hC hK dH_takeLast_33
        · replace hf := jif_f w2 hf
          cases hf
  · replace hf := jif_f c1 hf
    refine lv_iconst (v := 0) hx hb dH_takeLast_7 (by decide) ?_
    cases hf
    exact jret_z hx hb hr (by decide +kernel) hlk hC hK dH_takeLast_8

def fX_undo (N : Nat) (z0 : jX) : Option (Int32 × jX) := (jB (fH_takeLast_cL N z0) fun r1 s1 => (if r1 = 0 then some ((0 : Int32), s1) else (jB (fR_read N s1.2.1) fun r3 s3 => (jL ((jsI s1.1 0 (jgI s1.1 0 - (1 : Int32)), s3, s1.2.2)) fun s4 => some ((1 : Int32), s4)))))
set_option maxHeartbeats 4000000 in
set_option maxRecDepth 100000 in
theorem cX_undo (l : Launch) (dC : Nat → ClassId) (dI : Nat → Nat → Nat) (cI cC cL : ClassId) (sk sv : Nat → Nat) (adX bh ch adC adS : Nat → Nat) (N : Nat) (z0 z1 : jX) (r : Int32) (hf : fX_undo N z0 = some (r, z1)) : Ci l yX_undo (Cond.code yX_undo prog_1_method_4_code 1 (some .boolean) :: TB) ({ frames := 77, cells := 0, slots := 0, locals := 2994 }) (dC, dI) vwCl [(cI, .int), (cC, .char), (cL, .object "SharedSyntax$Letters")] (jEn sk sv) [.ref (adX 0)] (wX cI cC cL adX bh ch adC adS z0) (wX cI cC cL adX bh ch adC adS z1) r := by
  refine Ci_of (cc := prog_1_method_4_code) (maxL := 1) (ret := (some .boolean)) (by decide) rfl (Nat.le_of_ble_eq_true rfl) ?_
  intro p e s m below meth c ls F hl hK hN hC
  obtain ⟨hx, hb, hml, hown, hts, hr, hlk⟩ := F
  have ht : ∀ w ∈ TB, w.before [.ref (adX 0)].toArray s = true := fun w h => hts w (List.mem_cons_of_mem _ h)
  have hA : ∀ q, s.heap.size ≤ q → va_A (wX cI cC cL adX bh ch adC adS z0) s.heap.size q := fun q h => Or.inr h
  have hl : lv_has ls 1 [(0, .ref (adX 0))] := hl
  unfold fX_undo at hf
  refine lv_aload_n hx hb dX_undo_0 rfl (lv_at hl 0 rfl) ?_
  refine va_get (D := (dC, dI)) (ci := 5) (v := .ref (adX 3)) (C := RcX) (T := TcX) (N := 6) hx hb ht in_cX hown hK hC.1 0 (wX_e0 cI cC cL adX bh ch adC adS z0) rfl 1 (by decide) (ht _ tw461) (fun _ h9 => h9) rfl dX_undo_1 ?_
  refine lv_aload_n hx hb dX_undo_4 rfl (lv_at hl 0 rfl) ?_
  refine va_get (D := (dC, dI)) (ci := 5) (v := .ref (adC 0)) (C := RcX) (T := TcX) (N := 6) hx hb ht in_cX hown hK hC.1 0 (wX_e0 cI cC cL adX bh ch adC adS z0) rfl 2 (by decide) (ht _ tw462) (fun _ h9 => h9) rfl dX_undo_5 ?_
  refine va_getN (D := (dC, dI)) (ci := 3) (v := .ref (adC 3)) (C := RcR) (T := TcR) (N := 10) hx hb ht in_cR hown hK hC.1 11 (wX_e11 cI cC cL adX bh ch adC adS z0) rfl 0 (by decide) (va_Nw.use rfl (hN.1 _ nw113)) (fun _ h9 => h9) rfl dX_undo_8 ?_
  obtain ⟨r1, s1, hc1, hf⟩ := jB_some hf
  refine jcall_i (va_runV (C := RcH) (As := [.ref (adC 3)]) (rest := []) ⟨hx, hb, hml, hown, hts⟩ ((cH_takeLast_cL l dC dI cI cC cL sk sv adX bh ch adC adS N z0 s1 r1 hc1) _) ⟨(callB_of 1 hts (tb_good tw571) rfl rfl rfl (ht _ tw13) (ht _ tw568) (by decide +kernel) ⟨Nat.le_of_ble_eq_true rfl, Nat.le_of_ble_eq_true rfl⟩), ht _ tw569, ht _ tw570⟩ (jpreV (jEn_ok sk sv) hC hA hK hN (wX_e3 cI cC cL adX bh ch adC adS z0) rfl rfl _) rfl rfl hl.1 rfl (lv_room (Nat.le_of_ble_eq_true rfl)) dX_undo_11 ⟨Nat.le_refl _, Nat.le_refl _⟩) hC hA (fun H locs hC => ?_)
  refine lv_if_ne (tgt := 19) hx hb dX_undo_14 (by decide) (fun c2 => ?_) (fun c2 => ?_)
  · replace hf := jif_f c2 hf
    refine lv_aload_n hx hb dX_undo_19 rfl (lv_at hl 0 rfl) ?_
    refine va_get (D := (dC, dI)) (ci := 5) (v := .ref (adC 0)) (C := RcX) (T := TcX) (N := 6) hx hb ht in_cX hown hK hC.1 0 (wX_e0 cI cC cL adX bh ch adC adS s1) rfl 2 (by decide) (ht _ tw462) (fun _ h9 => h9) rfl dX_undo_20 ?_
    obtain ⟨r3, s3, hc3, hf⟩ := jB_some hf
    have hCc := wX_subc cI cC cL adX bh ch adC adS s1 hC
    refine jcallS_v (wX_mcc cI cC cL adX bh ch adC adS s1) (wX_mrc cI cC cL adX bh ch adC adS s1) rfl (by decide) (wX_mbc cI cC cL adX bh ch adC adS s1 s3) rfl (va_runV (C := RcR) (As := []) (rest := []) ⟨hx, hb, hml, hown, hts⟩ ((cR_read l dC dI cI cC cL sk sv adC N s1.2.1 s3 r3 hc3) _) ⟨(callB_of 0 hts (tb_good tw148) rfl rfl rfl (ht _ tw2) (ht _ tw145) (by decide +kernel) ⟨Nat.le_of_ble_eq_true rfl, Nat.le_of_ble_eq_true rfl⟩), ht _ tw146, ht _ tw147⟩ (jpreV (jEn_ok sk sv) hCc hA hK hN (wR_e0 cI cC adC s1.2.1) rfl rfl _) rfl rfl hl.1 rfl (lv_room (Nat.le_of_ble_eq_true rfl)) dX_undo_23 ⟨Nat.le_refl _, Nat.le_refl _⟩) hC hA (fun H locs hC => ?_)
    refine lv_aload_n hx hb dX_undo_26 rfl (lv_at hl 0 rfl) ?_
    refine lv_dup hx hb dX_undo_27 rfl ?_
    refine va_get (D := (dC, dI)) (ci := 5) (v := .int (jgI s1.1 0)) (C := RcX) (T := TcX) (N := 6) hx hb ht in_cX hown hK hC.1 0 (wX_e0 cI cC cL adX bh ch adC adS (s1.1, s3, s1.2.2)) rfl 4 (by decide) (ht _ tw464) (fun _ h9 => h9) rfl dX_undo_28 ?_
    refine lv_iconst (v := 1) hx hb dX_undo_31 (by decide) ?_
    refine lv_isub hx hb dX_undo_32 ?_
    obtain ⟨s4, e4, hf⟩ := jL_s hf
    refine jput (ci := 5) (C := RcX) (T := TcX) (N := 6) hx hb ht in_cX tycX tycX_ok nmcX hown hK hC 0 (wX_e0 cI cC cL adX bh ch adC adS (s1.1, s3, s1.2.2)) rfl 4 (by decide) (ht _ tw464) (fun _ h9 => h9) rfl rfl (Nat.le_of_ble_eq_true rfl) dX_undo_33 ((wX_pX_0 cI cC cL adX bh ch adC adS (s1.1, s3, s1.2.2) _).trans (congrArg (wX cI cC cL adX bh ch adC adS) e4.symm)) (fun H locs hC => ?_)
    refine lv_iconst (v := 1) hx hb dX_undo_36 (by decide) ?_
    cases hf
    exact jret_z hx hb hr (by decide +kernel) hlk hC hK dX_undo_37
  · replace hf := jif_t c2 hf
    refine lv_iconst (v := 0) hx hb dX_undo_17 (by decide) ?_
    cases hf
    exact jret_z hx hb hr (by decide +kernel) hlk hC hK dX_undo_18

def fX_length (N : Nat) (z0 : jX) : Option (Int32 × jX) := some (jgI z0.2.1 0, z0)
set_option maxHeartbeats 4000000 in
set_option maxRecDepth 100000 in
theorem cX_length (l : Launch) (dC : Nat → ClassId) (dI : Nat → Nat → Nat) (cI cC cL : ClassId) (sk sv : Nat → Nat) (adX bh ch adC adS : Nat → Nat) (N : Nat) (z0 z1 : jX) (r : Int32) (hf : fX_length N z0 = some (r, z1)) : Ci l yX_length (Cond.code yX_length prog_1_method_5_code 1 (some .int) :: TB) ({ frames := 0, cells := 0, slots := 0, locals := 0 }) (dC, dI) vwCl [(cI, .int), (cC, .char), (cL, .object "SharedSyntax$Letters")] (jEn sk sv) [.ref (adX 0)] (wX cI cC cL adX bh ch adC adS z0) (wX cI cC cL adX bh ch adC adS z1) r := by
  refine Ci_of (cc := prog_1_method_5_code) (maxL := 1) (ret := (some .int)) (by decide) rfl (Nat.le_of_ble_eq_true rfl) ?_
  intro p e s m below meth c ls F hl hK hN hC
  obtain ⟨hx, hb, hml, hown, hts, hr, hlk⟩ := F
  have ht : ∀ w ∈ TB, w.before [.ref (adX 0)].toArray s = true := fun w h => hts w (List.mem_cons_of_mem _ h)
  have hA : ∀ q, s.heap.size ≤ q → va_A (wX cI cC cL adX bh ch adC adS z0) s.heap.size q := fun q h => Or.inr h
  have hl : lv_has ls 1 [(0, .ref (adX 0))] := hl
  unfold fX_length at hf
  refine lv_aload_n hx hb dX_length_0 rfl (lv_at hl 0 rfl) ?_
  refine va_get (D := (dC, dI)) (ci := 5) (v := .ref (adC 0)) (C := RcX) (T := TcX) (N := 6) hx hb ht in_cX hown hK hC.1 0 (wX_e0 cI cC cL adX bh ch adC adS z0) rfl 2 (by decide) (ht _ tw462) (fun _ h9 => h9) rfl dX_length_1 ?_
  refine va_getN (D := (dC, dI)) (ci := 3) (v := .ref (adC 3)) (C := RcR) (T := TcR) (N := 10) hx hb ht in_cR hown hK hC.1 11 (wX_e11 cI cC cL adX bh ch adC adS z0) rfl 0 (by decide) (va_Nw.use rfl (hN.1 _ nw113)) (fun _ h9 => h9) rfl dX_length_4 ?_
  refine va_getN (D := (dC, dI)) (ci := 0) (v := .int (jgI z0.2.1 0)) (C := RcL) (T := TcL) (N := 2) hx hb ht in_cL hown hK hC.1 14 (wX_e14 cI cC cL adX bh ch adC adS z0) rfl 1 (by decide) (va_Nw.use rfl (hN.1 _ nw34)) (fun _ h9 => h9) rfl dX_length_7 ?_
  cases hf
  exact jret_i hx hb hr hlk hC hK dX_length_10

def fX_letter (N : Nat) (a0 : Int32) (z0 : jX) : Option (Int32 × jX) := (jB (fL_at N a0 z0.2.1) fun r1 s1 => some (r1, (z0.1, s1, z0.2.2)))
set_option maxHeartbeats 4000000 in
set_option maxRecDepth 100000 in
theorem cX_letter (l : Launch) (dC : Nat → ClassId) (dI : Nat → Nat → Nat) (cI cC cL : ClassId) (sk sv : Nat → Nat) (adX bh ch adC adS : Nat → Nat) (N : Nat) (a0 : Int32) (z0 z1 : jX) (r : Int32) (hf : fX_letter N a0 z0 = some (r, z1)) : Ci l yX_letter (Cond.code yX_letter prog_1_method_6_code 2 (some .int) :: TB) ({ frames := 1, cells := 0, slots := 0, locals := 21 }) (dC, dI) vwCl [(cI, .int), (cC, .char), (cL, .object "SharedSyntax$Letters")] (jEn sk sv) [.ref (adX 0), .int a0] (wX cI cC cL adX bh ch adC adS z0) (wX cI cC cL adX bh ch adC adS z1) r := by
  refine Ci_of (cc := prog_1_method_6_code) (maxL := 2) (ret := (some .int)) (by decide) rfl (Nat.le_of_ble_eq_true rfl) ?_
  intro p e s m below meth c ls F hl hK hN hC
  obtain ⟨hx, hb, hml, hown, hts, hr, hlk⟩ := F
  have ht : ∀ w ∈ TB, w.before [.ref (adX 0), .int a0].toArray s = true := fun w h => hts w (List.mem_cons_of_mem _ h)
  have hA : ∀ q, s.heap.size ≤ q → va_A (wX cI cC cL adX bh ch adC adS z0) s.heap.size q := fun q h => Or.inr h
  have hl : lv_has ls 2 [(0, .ref (adX 0)), (1, .int a0)] := hl
  unfold fX_letter at hf
  refine lv_aload_n hx hb dX_letter_0 rfl (lv_at hl 0 rfl) ?_
  refine va_get (D := (dC, dI)) (ci := 5) (v := .ref (adC 0)) (C := RcX) (T := TcX) (N := 6) hx hb ht in_cX hown hK hC.1 0 (wX_e0 cI cC cL adX bh ch adC adS z0) rfl 2 (by decide) (ht _ tw462) (fun _ h9 => h9) rfl dX_letter_1 ?_
  refine va_getN (D := (dC, dI)) (ci := 3) (v := .ref (adC 3)) (C := RcR) (T := TcR) (N := 10) hx hb ht in_cR hown hK hC.1 11 (wX_e11 cI cC cL adX bh ch adC adS z0) rfl 0 (by decide) (va_Nw.use rfl (hN.1 _ nw113)) (fun _ h9 => h9) rfl dX_letter_4 ?_
  refine lv_iload_n hx hb dX_letter_7 rfl (lv_at hl 1 rfl) ?_
  obtain ⟨r1, s1, hc1, hf⟩ := jB_some hf
  have hCc := wX_subc cI cC cL adX bh ch adC adS z0 hC
  refine jcallS_i (wX_mcc cI cC cL adX bh ch adC adS z0) (wX_mrc cI cC cL adX bh ch adC adS z0) rfl (by decide) (wX_mbc cI cC cL adX bh ch adC adS z0 s1) rfl (va_runV (C := RcL) (As := [.int a0]) (rest := []) ⟨hx, hb, hml, hown, hts⟩ ((cL_at l dC dI cI cC cL sk sv adC N a0 z0.2.1 s1 r1 hc1) _) ⟨(callB_of 1 hts (tb_good tw164) rfl rfl rfl (ht _ tw3) (ht _ tw580) (by decide +kernel) ⟨Nat.le_of_ble_eq_true rfl, Nat.le_of_ble_eq_true rfl⟩), ht _ tw162, ht _ tw163⟩ (jpreV (jEn_ok sk sv) hCc hA hK hN (wR_e3 cI cC adC z0.2.1) rfl rfl _) rfl rfl hl.1 rfl (lv_room (Nat.le_of_ble_eq_true rfl)) dX_letter_8 ⟨Nat.le_refl _, Nat.le_refl _⟩) hC hA (fun H locs hC => ?_)
  cases hf
  exact jret_i hx hb hr hlk hC hK dX_letter_11

def fX_node (N : Nat) (a0 a1 : Int32) (z0 : jX) : Option (Int32 × jX) := (jB (fT_has N a0 z0.2.1) fun r1 s1 => (if r1 = 0 then some ((-1 : Int32), (z0.1, s1, z0.2.2)) else (if a1 = (0 : Int32) then (if jIn a0 363 = true then some (jgA s1 4 (a0).toNatClampNeg, (z0.1, s1, z0.2.2)) else none) else (if a1 = (1 : Int32) then (if jIn a0 363 = true then some (jgA s1 6 (a0).toNatClampNeg, (z0.1, s1, z0.2.2)) else none) else (if a1 = (2 : Int32) then (jB (fT_stretchOf N a0 s1) fun r5 s5 => some (r5, (z0.1, s5, z0.2.2))) else (if a1 = (3 : Int32) then (jB (fT_ownPlaceOf N a0 s1) fun r6 s6 => some (r6, (z0.1, s6, z0.2.2))) else (if a1 = (4 : Int32) then (jB (fT_childrenOf N a0 s1) fun r7 s7 => some (r7, (z0.1, s7, z0.2.2))) else (if a1 = (5 : Int32) then (jB (fT_parentOf N a0 s1) fun r8 s8 => some (r8, (z0.1, s8, z0.2.2))) else (if a1 = (6 : Int32) then (jB (fT_isMissing N a0 s1) fun r9 s9 => (if r9 = 0 then some ((0 : Int32), (z0.1, s9, z0.2.2)) else some ((1 : Int32), (z0.1, s9, z0.2.2)))) else (if a1 = (7 : Int32) then (jB (fT_faultsIn N a0 s1) fun r11 s11 => some (r11, (z0.1, s11, z0.2.2))) else (if a1 = (8 : Int32) then (if jIn a0 363 = true then some (jgA s1 5 (a0).toNatClampNeg, (z0.1, s1, z0.2.2)) else none) else some ((-1 : Int32), (z0.1, s1, z0.2.2)))))))))))))
set_option maxHeartbeats 4000000 in
set_option maxRecDepth 100000 in
theorem cX_node (l : Launch) (dC : Nat → ClassId) (dI : Nat → Nat → Nat) (cI cC cL : ClassId) (sk sv : Nat → Nat) (adX bh ch adC adS : Nat → Nat) (N : Nat) (a0 a1 : Int32) (z0 z1 : jX) (r : Int32) (hf : fX_node N a0 a1 z0 = some (r, z1)) : Ci l yX_node (Cond.code yX_node prog_1_method_7_code 4 (some .int) :: TB) ({ frames := 2, cells := 0, slots := 0, locals := 43 }) (dC, dI) vwCl [(cI, .int), (cC, .char), (cL, .object "SharedSyntax$Letters")] (jEn sk sv) [.ref (adX 0), .int a0, .int a1] (wX cI cC cL adX bh ch adC adS z0) (wX cI cC cL adX bh ch adC adS z1) r := by
  refine Ci_of (cc := prog_1_method_7_code) (maxL := 4) (ret := (some .int)) (by decide) rfl (Nat.le_of_ble_eq_true rfl) ?_
  intro p e s m below meth c ls F hl hK hN hC
  obtain ⟨hx, hb, hml, hown, hts, hr, hlk⟩ := F
  have ht : ∀ w ∈ TB, w.before [.ref (adX 0), .int a0, .int a1].toArray s = true := fun w h => hts w (List.mem_cons_of_mem _ h)
  have hA : ∀ q, s.heap.size ≤ q → va_A (wX cI cC cL adX bh ch adC adS z0) s.heap.size q := fun q h => Or.inr h
  have hl : lv_has ls 4 [(0, .ref (adX 0)), (1, .int a0), (2, .int a1)] := hl
  unfold fX_node at hf
  refine lv_aload_n hx hb dX_node_0 rfl (lv_at hl 0 rfl) ?_
  refine va_get (D := (dC, dI)) (ci := 5) (v := .ref (adC 0)) (C := RcX) (T := TcX) (N := 6) hx hb ht in_cX hown hK hC.1 0 (wX_e0 cI cC cL adX bh ch adC adS z0) rfl 2 (by decide) (ht _ tw462) (fun _ h9 => h9) rfl dX_node_1 ?_
  refine va_getN (D := (dC, dI)) (ci := 3) (v := .ref (adC 1)) (C := RcR) (T := TcR) (N := 10) hx hb ht in_cR hown hK hC.1 11 (wX_e11 cI cC cL adX bh ch adC adS z0) rfl 1 (by decide) (va_Nw.use rfl (hN.1 _ nw115)) (fun _ h9 => h9) rfl dX_node_4 ?_
  refine lv_astore_n (lv' := [(3, .ref (adC 1)), (0, .ref (adX 0)), (1, .int a0), (2, .int a1)]) hx hb dX_node_7 rfl hl (by decide) rfl (fun ls hl => ?_)
  refine lv_aload_n hx hb dX_node_8 rfl (lv_at hl 0 rfl) ?_
  refine lv_iload_n hx hb dX_node_9 rfl (lv_at hl 2 rfl) ?_
  obtain ⟨r1, s1, hc1, hf⟩ := jB_some hf
  have hCc := wX_subc cI cC cL adX bh ch adC adS z0 hC
  refine jcallS_i (wX_mcc cI cC cL adX bh ch adC adS z0) (wX_mrc cI cC cL adX bh ch adC adS z0) rfl (by decide) (wX_mbc cI cC cL adX bh ch adC adS z0 s1) rfl (va_runV (C := RcT) (As := [.int a0]) (rest := []) ⟨hx, hb, hml, hown, hts⟩ ((cT_has l dC dI cI cC cL sk sv adC N a0 z0.2.1 s1 r1 hc1) _) ⟨(callB_of 1 hts (tb_good tw363) rfl rfl rfl (ht _ tw4) (ht _ tw585) (by decide +kernel) ⟨Nat.le_of_ble_eq_true rfl, Nat.le_of_ble_eq_true rfl⟩), ht _ tw361, ht _ tw362⟩ (jpreV (jEn_ok sk sv) hCc hA hK hN (wR_e1 cI cC adC z0.2.1) rfl rfl _) rfl rfl hl.1 rfl (lv_room (Nat.le_of_ble_eq_true rfl)) dX_node_10 ⟨Nat.le_refl _, Nat.le_refl _⟩) hC hA (fun H locs hC => ?_)
  refine lv_if_ne (tgt := 18) hx hb dX_node_13 (by decide) (fun c2 => ?_) (fun c2 => ?_)
  · replace hf := jif_f c2 hf
    refine lv_iload_n hx hb dX_node_18 rfl (lv_at hl 3 rfl) ?_
    by_cases w0 : a1 = (0 : Int32)
    · replace hf := jif_t w0 hf
      refine lv_tableIn (tgt := 68) hx hb dX_node_19 (by rw [w0]; decide) (by rw [w0]; decide) (by rw [w0]; rfl) (by decide) ?_
      refine lv_aload_n hx hb dX_node_68 rfl (lv_at hl 0 rfl) ?_
      refine va_getN (D := (dC, dI)) (ci := 2) (v := .ref (adC 8)) (C := RcT) (T := TcT) (N := 9) hx hb ht in_cT hown hK hC.1 12 (wX_e12 cI cC cL adX bh ch adC adS (z0.1, s1, z0.2.2)) rfl 1 (by decide) (va_Nw.use rfl (hN.1 _ nw54)) (fun _ h9 => h9) rfl dX_node_69 ?_
      refine lv_iload_n hx hb dX_node_72 rfl (lv_at hl 2 rfl) ?_
      obtain ⟨hi3, hf⟩ := jC_in hf
      refine va_iald hx hb hK hC.1 19 0 (wX_e19 cI cC cL adX bh ch adC adS (z0.1, s1, z0.2.2)) rfl hi3 dX_node_73 ?_
      cases hf
      exact jret_i hx hb hr hlk hC hK dX_node_74
    · replace hf := jif_f w0 hf
      by_cases w1 : a1 = (1 : Int32)
      · replace hf := jif_t w1 hf
        refine lv_tableIn (tgt := 75) hx hb dX_node_19 (by rw [w1]; decide) (by rw [w1]; decide) (by rw [w1]; rfl) (by decide) ?_
        refine lv_aload_n hx hb dX_node_75 rfl (lv_at hl 0 rfl) ?_
        refine va_getN (D := (dC, dI)) (ci := 2) (v := .ref (adC 10)) (C := RcT) (T := TcT) (N := 9) hx hb ht in_cT hown hK hC.1 12 (wX_e12 cI cC cL adX bh ch adC adS (z0.1, s1, z0.2.2)) rfl 3 (by decide) (va_Nw.use rfl (hN.1 _ nw58)) (fun _ h9 => h9) rfl dX_node_76 ?_
        refine lv_iload_n hx hb dX_node_79 rfl (lv_at hl 2 rfl) ?_
        obtain ⟨hi4, hf⟩ := jC_in hf
        refine va_iald hx hb hK hC.1 21 0 (wX_e21 cI cC cL adX bh ch adC adS (z0.1, s1, z0.2.2)) rfl hi4 dX_node_80 ?_
        cases hf
        exact jret_i hx hb hr hlk hC hK dX_node_81
      · replace hf := jif_f w1 hf
        by_cases w2 : a1 = (2 : Int32)
        · replace hf := jif_t w2 hf
          refine lv_tableIn (tgt := 82) hx hb dX_node_19 (by rw [w2]; decide) (by rw [w2]; decide) (by rw [w2]; rfl) (by decide) ?_
          refine lv_aload_n hx hb dX_node_82 rfl (lv_at hl 0 rfl) ?_
          refine lv_iload_n hx hb dX_node_83 rfl (lv_at hl 2 rfl) ?_
          obtain ⟨r5, s5, hc5, hf⟩ := jB_some hf
          have hCc := wX_subc cI cC cL adX bh ch adC adS (z0.1, s1, z0.2.2) hC
          refine jcallS_i (wX_mcc cI cC cL adX bh ch adC adS (z0.1, s1, z0.2.2)) (wX_mrc cI cC cL adX bh ch adC adS (z0.1, s1, z0.2.2)) rfl (by decide) (wX_mbc cI cC cL adX bh ch adC adS (z0.1, s1, z0.2.2) s5) rfl (va_runV (C := RcT) (As := [.int a0]) (rest := []) ⟨hx, hb, hml, hown, hts⟩ ((cT_stretchOf l dC dI cI cC cL sk sv adC N a0 s1 s5 r5 hc5) _) ⟨(callB_of 1 hts (tb_good tw540) rfl rfl rfl (ht _ tw4) (ht _ tw537) (by decide +kernel) ⟨Nat.le_of_ble_eq_true rfl, Nat.le_of_ble_eq_true rfl⟩), ht _ tw538, ht _ tw539⟩ (jpreV (jEn_ok sk sv) hCc hA hK hN (wR_e1 cI cC adC s1) rfl rfl _) rfl rfl hl.1 rfl (lv_room (Nat.le_of_ble_eq_true rfl)) dX_node_84 ⟨Nat.le_refl _, Nat.le_refl _⟩) hC hA (fun H locs hC => ?_)
          cases hf
          exact jret_i hx hb hr hlk hC hK dX_node_87
        · replace hf := jif_f w2 hf
          by_cases w3 : a1 = (3 : Int32)
          · replace hf := jif_t w3 hf
            refine lv_tableIn (tgt := 88) hx hb dX_node_19 (by rw [w3]; decide) (by rw [w3]; decide) (by rw [w3]; rfl) (by decide) ?_
            refine lv_aload_n hx hb dX_node_88 rfl (lv_at hl 0 rfl) ?_
            refine lv_iload_n hx hb dX_node_89 rfl (lv_at hl 2 rfl) ?_
            obtain ⟨r6, s6, hc6, hf⟩ := jB_some hf
            have hCc := wX_subc cI cC cL adX bh ch adC adS (z0.1, s1, z0.2.2) hC
            refine jcallS_i (wX_mcc cI cC cL adX bh ch adC adS (z0.1, s1, z0.2.2)) (wX_mrc cI cC cL adX bh ch adC adS (z0.1, s1, z0.2.2)) rfl (by decide) (wX_mbc cI cC cL adX bh ch adC adS (z0.1, s1, z0.2.2) s6) rfl (va_runV (C := RcT) (As := [.int a0]) (rest := []) ⟨hx, hb, hml, hown, hts⟩ ((cT_ownPlaceOf l dC dI cI cC cL sk sv adC N a0 s1 s6 r6 hc6) _) ⟨(callB_of 1 hts (tb_good tw589) rfl rfl rfl (ht _ tw4) (ht _ tw586) (by decide +kernel) ⟨Nat.le_of_ble_eq_true rfl, Nat.le_of_ble_eq_true rfl⟩), ht _ tw587, ht _ tw588⟩ (jpreV (jEn_ok sk sv) hCc hA hK hN (wR_e1 cI cC adC s1) rfl rfl _) rfl rfl hl.1 rfl (lv_room (Nat.le_of_ble_eq_true rfl)) dX_node_90 ⟨Nat.le_refl _, Nat.le_refl _⟩) hC hA (fun H locs hC => ?_)
            cases hf
            exact jret_i hx hb hr hlk hC hK dX_node_93
          · replace hf := jif_f w3 hf
            by_cases w4 : a1 = (4 : Int32)
            · replace hf := jif_t w4 hf
              refine lv_tableIn (tgt := 94) hx hb dX_node_19 (by rw [w4]; decide) (by rw [w4]; decide) (by rw [w4]; rfl) (by decide) ?_
              refine lv_aload_n hx hb dX_node_94 rfl (lv_at hl 0 rfl) ?_
              refine lv_iload_n hx hb dX_node_95 rfl (lv_at hl 2 rfl) ?_
              obtain ⟨r7, s7, hc7, hf⟩ := jB_some hf
              have hCc := wX_subc cI cC cL adX bh ch adC adS (z0.1, s1, z0.2.2) hC
              refine jcallS_i (wX_mcc cI cC cL adX bh ch adC adS (z0.1, s1, z0.2.2)) (wX_mrc cI cC cL adX bh ch adC adS (z0.1, s1, z0.2.2)) rfl (by decide) (wX_mbc cI cC cL adX bh ch adC adS (z0.1, s1, z0.2.2) s7) rfl (va_runV (C := RcT) (As := [.int a0]) (rest := []) ⟨hx, hb, hml, hown, hts⟩ ((cT_childrenOf l dC dI cI cC cL sk sv adC N a0 s1 s7 r7 hc7) _) ⟨(callB_of 1 hts (tb_good tw597) rfl rfl rfl (ht _ tw4) (ht _ tw594) (by decide +kernel) ⟨Nat.le_of_ble_eq_true rfl, Nat.le_of_ble_eq_true rfl⟩), ht _ tw595, ht _ tw596⟩ (jpreV (jEn_ok sk sv) hCc hA hK hN (wR_e1 cI cC adC s1) rfl rfl _) rfl rfl hl.1 rfl (lv_room (Nat.le_of_ble_eq_true rfl)) dX_node_96 ⟨Nat.le_refl _, Nat.le_refl _⟩) hC hA (fun H locs hC => ?_)
              cases hf
              exact jret_i hx hb hr hlk hC hK dX_node_99
            · replace hf := jif_f w4 hf
              by_cases w5 : a1 = (5 : Int32)
              · replace hf := jif_t w5 hf
                refine lv_tableIn (tgt := 100) hx hb dX_node_19 (by rw [w5]; decide) (by rw [w5]; decide) (by rw [w5]; rfl) (by decide) ?_
                refine lv_aload_n hx hb dX_node_100 rfl (lv_at hl 0 rfl) ?_
                refine lv_iload_n hx hb dX_node_101 rfl (lv_at hl 2 rfl) ?_
                obtain ⟨r8, s8, hc8, hf⟩ := jB_some hf
                have hCc := wX_subc cI cC cL adX bh ch adC adS (z0.1, s1, z0.2.2) hC
                refine jcallS_i (wX_mcc cI cC cL adX bh ch adC adS (z0.1, s1, z0.2.2)) (wX_mrc cI cC cL adX bh ch adC adS (z0.1, s1, z0.2.2)) rfl (by decide) (wX_mbc cI cC cL adX bh ch adC adS (z0.1, s1, z0.2.2) s8) rfl (va_runV (C := RcT) (As := [.int a0]) (rest := []) ⟨hx, hb, hml, hown, hts⟩ ((cT_parentOf l dC dI cI cC cL sk sv adC N a0 s1 s8 r8 hc8) _) ⟨(callB_of 1 hts (tb_good tw601) rfl rfl rfl (ht _ tw4) (ht _ tw598) (by decide +kernel) ⟨Nat.le_of_ble_eq_true rfl, Nat.le_of_ble_eq_true rfl⟩), ht _ tw599, ht _ tw600⟩ (jpreV (jEn_ok sk sv) hCc hA hK hN (wR_e1 cI cC adC s1) rfl rfl _) rfl rfl hl.1 rfl (lv_room (Nat.le_of_ble_eq_true rfl)) dX_node_102 ⟨Nat.le_refl _, Nat.le_refl _⟩) hC hA (fun H locs hC => ?_)
                cases hf
                exact jret_i hx hb hr hlk hC hK dX_node_105
              · replace hf := jif_f w5 hf
                by_cases w6 : a1 = (6 : Int32)
                · replace hf := jif_t w6 hf
                  refine lv_tableIn (tgt := 106) hx hb dX_node_19 (by rw [w6]; decide) (by rw [w6]; decide) (by rw [w6]; rfl) (by decide) ?_
                  refine lv_aload_n hx hb dX_node_106 rfl (lv_at hl 0 rfl) ?_
                  refine lv_iload_n hx hb dX_node_107 rfl (lv_at hl 2 rfl) ?_
                  obtain ⟨r9, s9, hc9, hf⟩ := jB_some hf
                  have hCc := wX_subc cI cC cL adX bh ch adC adS (z0.1, s1, z0.2.2) hC
                  refine jcallS_i (wX_mcc cI cC cL adX bh ch adC adS (z0.1, s1, z0.2.2)) (wX_mrc cI cC cL adX bh ch adC adS (z0.1, s1, z0.2.2)) rfl (by decide) (wX_mbc cI cC cL adX bh ch adC adS (z0.1, s1, z0.2.2) s9) rfl (va_runV (C := RcT) (As := [.int a0]) (rest := []) ⟨hx, hb, hml, hown, hts⟩ ((cT_isMissing l dC dI cI cC cL sk sv adC N a0 s1 s9 r9 hc9) _) ⟨(callB_of 1 hts (tb_good tw605) rfl rfl rfl (ht _ tw4) (ht _ tw602) (by decide +kernel) ⟨Nat.le_of_ble_eq_true rfl, Nat.le_of_ble_eq_true rfl⟩), ht _ tw603, ht _ tw604⟩ (jpreV (jEn_ok sk sv) hCc hA hK hN (wR_e1 cI cC adC s1) rfl rfl _) rfl rfl hl.1 rfl (lv_room (Nat.le_of_ble_eq_true rfl)) dX_node_108 ⟨Nat.le_refl _, Nat.le_refl _⟩) hC hA (fun H locs hC => ?_)
                  refine lv_if_eq (tgt := 118) hx hb dX_node_111 (by decide) (fun c10 => ?_) (fun c10 => ?_)
                  · replace hf := jif_t c10 hf
                    refine lv_iconst (v := 0) hx hb dX_node_118 (by decide) ?_
                    cases hf
                    exact jret_i hx hb hr hlk hC hK dX_node_119
                  · replace hf := jif_f c10 hf
                    refine lv_iconst (v := 1) hx hb dX_node_114 (by decide) ?_
                    refine lv_goto (tgt := 119) hx hb dX_node_115 (by decide) ?_
                    cases hf
                    exact jret_i hx hb hr hlk hC hK dX_node_119
                · replace hf := jif_f w6 hf
                  by_cases w7 : a1 = (7 : Int32)
                  · replace hf := jif_t w7 hf
                    refine lv_tableIn (tgt := 120) hx hb dX_node_19 (by rw [w7]; decide) (by rw [w7]; decide) (by rw [w7]; rfl) (by decide) ?_
                    refine lv_aload_n hx hb dX_node_120 rfl (lv_at hl 0 rfl) ?_
                    refine lv_iload_n hx hb dX_node_121 rfl (lv_at hl 2 rfl) ?_
                    obtain ⟨r11, s11, hc11, hf⟩ := jB_some hf
                    have hCc := wX_subc cI cC cL adX bh ch adC adS (z0.1, s1, z0.2.2) hC
                    refine jcallS_i (wX_mcc cI cC cL adX bh ch adC adS (z0.1, s1, z0.2.2)) (wX_mrc cI cC cL adX bh ch adC adS (z0.1, s1, z0.2.2)) rfl (by decide) (wX_mbc cI cC cL adX bh ch adC adS (z0.1, s1, z0.2.2) s11) rfl (va_runV (C := RcT) (As := [.int a0]) (rest := []) ⟨hx, hb, hml, hown, hts⟩ ((cT_faultsIn l dC dI cI cC cL sk sv adC N a0 s1 s11 r11 hc11) _) ⟨(callB_of 1 hts (tb_good tw553) rfl rfl rfl (ht _ tw4) (ht _ tw606) (by decide +kernel) ⟨Nat.le_of_ble_eq_true rfl, Nat.le_of_ble_eq_true rfl⟩), ht _ tw551, ht _ tw552⟩ (jpreV (jEn_ok sk sv) hCc hA hK hN (wR_e1 cI cC adC s1) rfl rfl _) rfl rfl hl.1 rfl (lv_room (Nat.le_of_ble_eq_true rfl)) dX_node_122 ⟨Nat.le_refl _, Nat.le_refl _⟩) hC hA (fun H locs hC => ?_)
                    cases hf
                    exact jret_i hx hb hr hlk hC hK dX_node_125
                  · replace hf := jif_f w7 hf
                    by_cases w8 : a1 = (8 : Int32)
                    · replace hf := jif_t w8 hf
                      refine lv_tableIn (tgt := 126) hx hb dX_node_19 (by rw [w8]; decide) (by rw [w8]; decide) (by rw [w8]; rfl) (by decide) ?_
                      refine lv_aload_n hx hb dX_node_126 rfl (lv_at hl 0 rfl) ?_
                      refine va_getN (D := (dC, dI)) (ci := 2) (v := .ref (adC 9)) (C := RcT) (T := TcT) (N := 9) hx hb ht in_cT hown hK hC.1 12 (wX_e12 cI cC cL adX bh ch adC adS (z0.1, s1, z0.2.2)) rfl 2 (by decide) (va_Nw.use rfl (hN.1 _ nw56)) (fun _ h9 => h9) rfl dX_node_127 ?_
                      refine lv_iload_n hx hb dX_node_130 rfl (lv_at hl 2 rfl) ?_
                      obtain ⟨hi12, hf⟩ := jC_in hf
                      refine va_iald hx hb hK hC.1 20 0 (wX_e20 cI cC cL adX bh ch adC adS (z0.1, s1, z0.2.2)) rfl hi12 dX_node_131 ?_
                      cases hf
                      exact jret_i hx hb hr hlk hC hK dX_node_132
                    · replace hf := jif_f w8 hf
                      refine lv_tableOut (tgt := 133) hx hb dX_node_19 (by have e0 := lv_neT (a := 0) w0 (by decide); have e1 := lv_neT (a := 1) w1 (by decide); have e2 := lv_neT (a := 2) w2 (by decide); have e3 := lv_neT (a := 3) w3 (by decide); have e4 := lv_neT (a := 4) w4 (by decide); have e5 := lv_neT (a := 5) w5 (by decide); have e6 := lv_neT (a := 6) w6 (by decide); have e7 := lv_neT (a := 7) w7 (by decide); have e8 := lv_neT (a := 8) w8 (by decide); omega) (by decide) ?_
                      refine lv_iconst (v := -1) hx hb dX_node_133 (by decide) ?_
                      cases hf
                      exact jret_i hx hb hr hlk hC hK dX_node_134
  · replace hf := jif_t c2 hf
    refine lv_iconst (v := -1) hx hb dX_node_16 (by decide) ?_
    cases hf
    exact jret_i hx hb hr hlk hC hK dX_node_17

def fX_child (N : Nat) (a0 a1 : Int32) (z0 : jX) : Option (Int32 × jX) := (jB (fT_has N a0 z0.2.1) fun r1 s1 => (if r1 = 0 then some ((-1 : Int32), (z0.1, s1, z0.2.2)) else (jB (fT_childOf N a0 a1 s1) fun r3 s3 => some (r3, (z0.1, s3, z0.2.2)))))
set_option maxHeartbeats 4000000 in
set_option maxRecDepth 100000 in
theorem cX_child (l : Launch) (dC : Nat → ClassId) (dI : Nat → Nat → Nat) (cI cC cL : ClassId) (sk sv : Nat → Nat) (adX bh ch adC adS : Nat → Nat) (N : Nat) (a0 a1 : Int32) (z0 z1 : jX) (r : Int32) (hf : fX_child N a0 a1 z0 = some (r, z1)) : Ci l yX_child (Cond.code yX_child prog_1_method_8_code 3 (some .int) :: TB) ({ frames := 1, cells := 0, slots := 0, locals := 25 }) (dC, dI) vwCl [(cI, .int), (cC, .char), (cL, .object "SharedSyntax$Letters")] (jEn sk sv) [.ref (adX 0), .int a0, .int a1] (wX cI cC cL adX bh ch adC adS z0) (wX cI cC cL adX bh ch adC adS z1) r := by
  refine Ci_of (cc := prog_1_method_8_code) (maxL := 3) (ret := (some .int)) (by decide) rfl (Nat.le_of_ble_eq_true rfl) ?_
  intro p e s m below meth c ls F hl hK hN hC
  obtain ⟨hx, hb, hml, hown, hts, hr, hlk⟩ := F
  have ht : ∀ w ∈ TB, w.before [.ref (adX 0), .int a0, .int a1].toArray s = true := fun w h => hts w (List.mem_cons_of_mem _ h)
  have hA : ∀ q, s.heap.size ≤ q → va_A (wX cI cC cL adX bh ch adC adS z0) s.heap.size q := fun q h => Or.inr h
  have hl : lv_has ls 3 [(0, .ref (adX 0)), (1, .int a0), (2, .int a1)] := hl
  unfold fX_child at hf
  refine lv_aload_n hx hb dX_child_0 rfl (lv_at hl 0 rfl) ?_
  refine va_get (D := (dC, dI)) (ci := 5) (v := .ref (adC 0)) (C := RcX) (T := TcX) (N := 6) hx hb ht in_cX hown hK hC.1 0 (wX_e0 cI cC cL adX bh ch adC adS z0) rfl 2 (by decide) (ht _ tw462) (fun _ h9 => h9) rfl dX_child_1 ?_
  refine va_getN (D := (dC, dI)) (ci := 3) (v := .ref (adC 1)) (C := RcR) (T := TcR) (N := 10) hx hb ht in_cR hown hK hC.1 11 (wX_e11 cI cC cL adX bh ch adC adS z0) rfl 1 (by decide) (va_Nw.use rfl (hN.1 _ nw115)) (fun _ h9 => h9) rfl dX_child_4 ?_
  refine lv_iload_n hx hb dX_child_7 rfl (lv_at hl 1 rfl) ?_
  obtain ⟨r1, s1, hc1, hf⟩ := jB_some hf
  have hCc := wX_subc cI cC cL adX bh ch adC adS z0 hC
  refine jcallS_i (wX_mcc cI cC cL adX bh ch adC adS z0) (wX_mrc cI cC cL adX bh ch adC adS z0) rfl (by decide) (wX_mbc cI cC cL adX bh ch adC adS z0 s1) rfl (va_runV (C := RcT) (As := [.int a0]) (rest := []) ⟨hx, hb, hml, hown, hts⟩ ((cT_has l dC dI cI cC cL sk sv adC N a0 z0.2.1 s1 r1 hc1) _) ⟨(callB_of 1 hts (tb_good tw363) rfl rfl rfl (ht _ tw4) (ht _ tw585) (by decide +kernel) ⟨Nat.le_of_ble_eq_true rfl, Nat.le_of_ble_eq_true rfl⟩), ht _ tw361, ht _ tw362⟩ (jpreV (jEn_ok sk sv) hCc hA hK hN (wR_e1 cI cC adC z0.2.1) rfl rfl _) rfl rfl hl.1 rfl (lv_room (Nat.le_of_ble_eq_true rfl)) dX_child_8 ⟨Nat.le_refl _, Nat.le_refl _⟩) hC hA (fun H locs hC => ?_)
  refine lv_if_eq (tgt := 29) hx hb dX_child_11 (by decide) (fun c2 => ?_) (fun c2 => ?_)
  · replace hf := jif_t c2 hf
    refine lv_iconst (v := -1) hx hb dX_child_29 (by decide) ?_
    cases hf
    exact jret_i hx hb hr hlk hC hK dX_child_30
  · replace hf := jif_f c2 hf
    refine lv_aload_n hx hb dX_child_14 rfl (lv_at hl 0 rfl) ?_
    refine va_get (D := (dC, dI)) (ci := 5) (v := .ref (adC 0)) (C := RcX) (T := TcX) (N := 6) hx hb ht in_cX hown hK hC.1 0 (wX_e0 cI cC cL adX bh ch adC adS (z0.1, s1, z0.2.2)) rfl 2 (by decide) (ht _ tw462) (fun _ h9 => h9) rfl dX_child_15 ?_
    refine va_getN (D := (dC, dI)) (ci := 3) (v := .ref (adC 1)) (C := RcR) (T := TcR) (N := 10) hx hb ht in_cR hown hK hC.1 11 (wX_e11 cI cC cL adX bh ch adC adS (z0.1, s1, z0.2.2)) rfl 1 (by decide) (va_Nw.use rfl (hN.1 _ nw115)) (fun _ h9 => h9) rfl dX_child_18 ?_
    refine lv_iload_n hx hb dX_child_21 rfl (lv_at hl 1 rfl) ?_
    refine lv_iload_n hx hb dX_child_22 rfl (lv_at hl 2 rfl) ?_
    obtain ⟨r3, s3, hc3, hf⟩ := jB_some hf
    have hCc := wX_subc cI cC cL adX bh ch adC adS (z0.1, s1, z0.2.2) hC
    refine jcallS_i (wX_mcc cI cC cL adX bh ch adC adS (z0.1, s1, z0.2.2)) (wX_mrc cI cC cL adX bh ch adC adS (z0.1, s1, z0.2.2)) rfl (by decide) (wX_mbc cI cC cL adX bh ch adC adS (z0.1, s1, z0.2.2) s3) rfl (va_runV (C := RcT) (As := [.int a0, .int a1]) (rest := []) ⟨hx, hb, hml, hown, hts⟩ ((cT_childOf l dC dI cI cC cL sk sv adC N a0 a1 s1 s3 r3 hc3) _) ⟨(callB_of 2 hts (tb_good tw614) rfl rfl rfl (ht _ tw4) (ht _ tw611) (by decide +kernel) ⟨Nat.le_of_ble_eq_true rfl, Nat.le_of_ble_eq_true rfl⟩), ht _ tw612, ht _ tw613⟩ (jpreV (jEn_ok sk sv) hCc hA hK hN (wR_e1 cI cC adC s1) rfl rfl _) rfl rfl hl.1 rfl (lv_room (Nat.le_of_ble_eq_true rfl)) dX_child_23 ⟨Nat.le_refl _, Nat.le_refl _⟩) hC hA (fun H locs hC => ?_)
    refine lv_goto (tgt := 30) hx hb dX_child_26 (by decide) ?_
    cases hf
    exact jret_i hx hb hr hlk hC hK dX_child_30

def fX_find (N : Nat) (a0 : Int32) (z0 : jX) : Option (Int32 × jX) := (jB (fT_leafAt N a0 z0.2.1) fun r1 s1 => some (r1, (z0.1, s1, z0.2.2)))
set_option maxHeartbeats 4000000 in
set_option maxRecDepth 100000 in
theorem cX_find (l : Launch) (dC : Nat → ClassId) (dI : Nat → Nat → Nat) (cI cC cL : ClassId) (sk sv : Nat → Nat) (adX bh ch adC adS : Nat → Nat) (N : Nat) (a0 : Int32) (z0 z1 : jX) (r : Int32) (hf : fX_find N a0 z0 = some (r, z1)) : Ci l yX_find (Cond.code yX_find prog_1_method_9_code 2 (some .int) :: TB) ({ frames := 2, cells := 0, slots := 0, locals := 43 }) (dC, dI) vwCl [(cI, .int), (cC, .char), (cL, .object "SharedSyntax$Letters")] (jEn sk sv) [.ref (adX 0), .int a0] (wX cI cC cL adX bh ch adC adS z0) (wX cI cC cL adX bh ch adC adS z1) r := by
  refine Ci_of (cc := prog_1_method_9_code) (maxL := 2) (ret := (some .int)) (by decide) rfl (Nat.le_of_ble_eq_true rfl) ?_
  intro p e s m below meth c ls F hl hK hN hC
  obtain ⟨hx, hb, hml, hown, hts, hr, hlk⟩ := F
  have ht : ∀ w ∈ TB, w.before [.ref (adX 0), .int a0].toArray s = true := fun w h => hts w (List.mem_cons_of_mem _ h)
  have hA : ∀ q, s.heap.size ≤ q → va_A (wX cI cC cL adX bh ch adC adS z0) s.heap.size q := fun q h => Or.inr h
  have hl : lv_has ls 2 [(0, .ref (adX 0)), (1, .int a0)] := hl
  unfold fX_find at hf
  refine lv_aload_n hx hb dX_find_0 rfl (lv_at hl 0 rfl) ?_
  refine va_get (D := (dC, dI)) (ci := 5) (v := .ref (adC 0)) (C := RcX) (T := TcX) (N := 6) hx hb ht in_cX hown hK hC.1 0 (wX_e0 cI cC cL adX bh ch adC adS z0) rfl 2 (by decide) (ht _ tw462) (fun _ h9 => h9) rfl dX_find_1 ?_
  refine va_getN (D := (dC, dI)) (ci := 3) (v := .ref (adC 1)) (C := RcR) (T := TcR) (N := 10) hx hb ht in_cR hown hK hC.1 11 (wX_e11 cI cC cL adX bh ch adC adS z0) rfl 1 (by decide) (va_Nw.use rfl (hN.1 _ nw115)) (fun _ h9 => h9) rfl dX_find_4 ?_
  refine lv_iload_n hx hb dX_find_7 rfl (lv_at hl 1 rfl) ?_
  obtain ⟨r1, s1, hc1, hf⟩ := jB_some hf
  have hCc := wX_subc cI cC cL adX bh ch adC adS z0 hC
  refine jcallS_i (wX_mcc cI cC cL adX bh ch adC adS z0) (wX_mrc cI cC cL adX bh ch adC adS z0) rfl (by decide) (wX_mbc cI cC cL adX bh ch adC adS z0 s1) rfl (va_runV (C := RcT) (As := [.int a0]) (rest := []) ⟨hx, hb, hml, hown, hts⟩ ((cT_leafAt l dC dI cI cC cL sk sv adC N a0 z0.2.1 s1 r1 hc1) _) ⟨(callB_of 1 hts (tb_good tw622) rfl rfl rfl (ht _ tw4) (ht _ tw619) (by decide +kernel) ⟨Nat.le_of_ble_eq_true rfl, Nat.le_of_ble_eq_true rfl⟩), ht _ tw620, ht _ tw621⟩ (jpreV (jEn_ok sk sv) hCc hA hK hN (wR_e1 cI cC adC z0.2.1) rfl rfl _) rfl rfl hl.1 rfl (lv_room (Nat.le_of_ble_eq_true rfl)) dX_find_8 ⟨Nat.le_refl _, Nat.le_refl _⟩) hC hA (fun H locs hC => ?_)
  cases hf
  exact jret_i hx hb hr hlk hC hK dX_find_11

def fX_equal (N : Nat) (a0 a1 : Int32) (z0 : jX) : Option (Int32 × jX) := (jB (fT_has N a0 z0.2.1) fun r1 s1 => (if r1 = 0 then some ((0 : Int32), (z0.1, s1, z0.2.2)) else (jB (fT_has N a1 s1) fun r3 s3 => (if r3 = 0 then some ((0 : Int32), (z0.1, s3, z0.2.2)) else (jB (fT_matches_T N a0 a1 s3) fun r5 s5 => (if r5 = 0 then some ((0 : Int32), (z0.1, s5, z0.2.2)) else some ((1 : Int32), (z0.1, s5, z0.2.2))))))))
set_option maxHeartbeats 4000000 in
set_option maxRecDepth 100000 in
theorem cX_equal (l : Launch) (dC : Nat → ClassId) (dI : Nat → Nat → Nat) (cI cC cL : ClassId) (sk sv : Nat → Nat) (adX bh ch adC adS : Nat → Nat) (N : Nat) (a0 a1 : Int32) (z0 z1 : jX) (r : Int32) (hf : fX_equal N a0 a1 z0 = some (r, z1)) : Ci l yX_equal (Cond.code yX_equal prog_1_method_10_code 4 (some .boolean) :: TB) ({ frames := 3, cells := 0, slots := 0, locals := 73 }) (dC, dI) vwCl [(cI, .int), (cC, .char), (cL, .object "SharedSyntax$Letters")] (jEn sk sv) [.ref (adX 0), .int a0, .int a1] (wX cI cC cL adX bh ch adC adS z0) (wX cI cC cL adX bh ch adC adS z1) r := by
  refine Ci_of (cc := prog_1_method_10_code) (maxL := 4) (ret := (some .boolean)) (by decide) rfl (Nat.le_of_ble_eq_true rfl) ?_
  intro p e s m below meth c ls F hl hK hN hC
  obtain ⟨hx, hb, hml, hown, hts, hr, hlk⟩ := F
  have ht : ∀ w ∈ TB, w.before [.ref (adX 0), .int a0, .int a1].toArray s = true := fun w h => hts w (List.mem_cons_of_mem _ h)
  have hA : ∀ q, s.heap.size ≤ q → va_A (wX cI cC cL adX bh ch adC adS z0) s.heap.size q := fun q h => Or.inr h
  have hl : lv_has ls 4 [(0, .ref (adX 0)), (1, .int a0), (2, .int a1)] := hl
  unfold fX_equal at hf
  refine lv_aload_n hx hb dX_equal_0 rfl (lv_at hl 0 rfl) ?_
  refine va_get (D := (dC, dI)) (ci := 5) (v := .ref (adC 0)) (C := RcX) (T := TcX) (N := 6) hx hb ht in_cX hown hK hC.1 0 (wX_e0 cI cC cL adX bh ch adC adS z0) rfl 2 (by decide) (ht _ tw462) (fun _ h9 => h9) rfl dX_equal_1 ?_
  refine va_getN (D := (dC, dI)) (ci := 3) (v := .ref (adC 1)) (C := RcR) (T := TcR) (N := 10) hx hb ht in_cR hown hK hC.1 11 (wX_e11 cI cC cL adX bh ch adC adS z0) rfl 1 (by decide) (va_Nw.use rfl (hN.1 _ nw115)) (fun _ h9 => h9) rfl dX_equal_4 ?_
  refine lv_astore_n (lv' := [(3, .ref (adC 1)), (0, .ref (adX 0)), (1, .int a0), (2, .int a1)]) hx hb dX_equal_7 rfl hl (by decide) rfl (fun ls hl => ?_)
  refine lv_aload_n hx hb dX_equal_8 rfl (lv_at hl 0 rfl) ?_
  refine lv_iload_n hx hb dX_equal_9 rfl (lv_at hl 2 rfl) ?_
  obtain ⟨r1, s1, hc1, hf⟩ := jB_some hf
  have hCc := wX_subc cI cC cL adX bh ch adC adS z0 hC
  refine jcallS_i (wX_mcc cI cC cL adX bh ch adC adS z0) (wX_mrc cI cC cL adX bh ch adC adS z0) rfl (by decide) (wX_mbc cI cC cL adX bh ch adC adS z0 s1) rfl (va_runV (C := RcT) (As := [.int a0]) (rest := []) ⟨hx, hb, hml, hown, hts⟩ ((cT_has l dC dI cI cC cL sk sv adC N a0 z0.2.1 s1 r1 hc1) _) ⟨(callB_of 1 hts (tb_good tw363) rfl rfl rfl (ht _ tw4) (ht _ tw585) (by decide +kernel) ⟨Nat.le_of_ble_eq_true rfl, Nat.le_of_ble_eq_true rfl⟩), ht _ tw361, ht _ tw362⟩ (jpreV (jEn_ok sk sv) hCc hA hK hN (wR_e1 cI cC adC z0.2.1) rfl rfl _) rfl rfl hl.1 rfl (lv_room (Nat.le_of_ble_eq_true rfl)) dX_equal_10 ⟨Nat.le_refl _, Nat.le_refl _⟩) hC hA (fun H locs hC => ?_)
  refine lv_if_eq (tgt := 38) hx hb dX_equal_13 (by decide) (fun c2 => ?_) (fun c2 => ?_)
  · replace hf := jif_t c2 hf
    refine lv_iconst (v := 0) hx hb dX_equal_38 (by decide) ?_
    cases hf
    exact jret_z hx hb hr (by decide +kernel) hlk hC hK dX_equal_39
  · replace hf := jif_f c2 hf
    refine lv_aload_n hx hb dX_equal_16 rfl (lv_at hl 0 rfl) ?_
    refine lv_iload_n hx hb dX_equal_17 rfl (lv_at hl 3 rfl) ?_
    obtain ⟨r3, s3, hc3, hf⟩ := jB_some hf
    have hCc := wX_subc cI cC cL adX bh ch adC adS (z0.1, s1, z0.2.2) hC
    refine jcallS_i (wX_mcc cI cC cL adX bh ch adC adS (z0.1, s1, z0.2.2)) (wX_mrc cI cC cL adX bh ch adC adS (z0.1, s1, z0.2.2)) rfl (by decide) (wX_mbc cI cC cL adX bh ch adC adS (z0.1, s1, z0.2.2) s3) rfl (va_runV (C := RcT) (As := [.int a1]) (rest := []) ⟨hx, hb, hml, hown, hts⟩ ((cT_has l dC dI cI cC cL sk sv adC N a1 s1 s3 r3 hc3) _) ⟨(callB_of 1 hts (tb_good tw363) rfl rfl rfl (ht _ tw4) (ht _ tw585) (by decide +kernel) ⟨Nat.le_of_ble_eq_true rfl, Nat.le_of_ble_eq_true rfl⟩), ht _ tw361, ht _ tw362⟩ (jpreV (jEn_ok sk sv) hCc hA hK hN (wR_e1 cI cC adC s1) rfl rfl _) rfl rfl hl.1 rfl (lv_room (Nat.le_of_ble_eq_true rfl)) dX_equal_18 ⟨Nat.le_refl _, Nat.le_refl _⟩) hC hA (fun H locs hC => ?_)
    refine lv_if_eq (tgt := 38) hx hb dX_equal_21 (by decide) (fun c4 => ?_) (fun c4 => ?_)
    · replace hf := jif_t c4 hf
      refine lv_iconst (v := 0) hx hb dX_equal_38 (by decide) ?_
      cases hf
      exact jret_z hx hb hr (by decide +kernel) hlk hC hK dX_equal_39
    · replace hf := jif_f c4 hf
      refine lv_aload_n hx hb dX_equal_24 rfl (lv_at hl 0 rfl) ?_
      refine lv_iload_n hx hb dX_equal_25 rfl (lv_at hl 2 rfl) ?_
      refine lv_aload_n hx hb dX_equal_26 rfl (lv_at hl 0 rfl) ?_
      refine lv_iload_n hx hb dX_equal_27 rfl (lv_at hl 3 rfl) ?_
      obtain ⟨r5, s5, hc5, hf⟩ := jB_some hf
      have hCc := wX_subc cI cC cL adX bh ch adC adS (z0.1, s3, z0.2.2) hC
      refine jcallS_i (wX_mcc cI cC cL adX bh ch adC adS (z0.1, s3, z0.2.2)) (wX_mrc cI cC cL adX bh ch adC adS (z0.1, s3, z0.2.2)) rfl (by decide) (wX_mbc cI cC cL adX bh ch adC adS (z0.1, s3, z0.2.2) s5) rfl (va_runV (C := RcT) (As := [.int a0, .ref (adC 1), .int a1]) (rest := []) ⟨hx, hb, hml, hown, hts⟩ ((cT_matches_T l dC dI cI cC cL sk sv adC N a0 a1 s3 s5 r5 hc5) _) ⟨(callB_of 3 hts (tb_good tw544) rfl rfl rfl (ht _ tw4) (ht _ tw541) (by decide +kernel) ⟨Nat.le_of_ble_eq_true rfl, Nat.le_of_ble_eq_true rfl⟩), ht _ tw542, ht _ tw543⟩ (jpreV (jEn_ok sk sv) hCc hA hK hN (wR_e1 cI cC adC s3) rfl rfl _) rfl rfl hl.1 rfl (lv_room (Nat.le_of_ble_eq_true rfl)) dX_equal_28 ⟨Nat.le_refl _, Nat.le_refl _⟩) hC hA (fun H locs hC => ?_)
      refine lv_if_eq (tgt := 38) hx hb dX_equal_31 (by decide) (fun c6 => ?_) (fun c6 => ?_)
      · replace hf := jif_t c6 hf
        refine lv_iconst (v := 0) hx hb dX_equal_38 (by decide) ?_
        cases hf
        exact jret_z hx hb hr (by decide +kernel) hlk hC hK dX_equal_39
      · replace hf := jif_f c6 hf
        refine lv_iconst (v := 1) hx hb dX_equal_34 (by decide) ?_
        refine lv_goto (tgt := 39) hx hb dX_equal_35 (by decide) ?_
        cases hf
        exact jret_z hx hb hr (by decide +kernel) hlk hC hK dX_equal_39

def fX_fault (N : Nat) (a0 : Int32) (z0 : jX) : Option (Int32 × jX) := (if a0 < 0 then some ((-1 : Int32), z0) else (if jgI z0.2.1 4 ≤ a0 then some ((-1 : Int32), z0) else (if jIn a0 180 = true then some (jgA z0.2.1 9 (a0).toNatClampNeg, z0) else none)))
set_option maxHeartbeats 4000000 in
set_option maxRecDepth 100000 in
theorem cX_fault (l : Launch) (dC : Nat → ClassId) (dI : Nat → Nat → Nat) (cI cC cL : ClassId) (sk sv : Nat → Nat) (adX bh ch adC adS : Nat → Nat) (N : Nat) (a0 : Int32) (z0 z1 : jX) (r : Int32) (hf : fX_fault N a0 z0 = some (r, z1)) : Ci l yX_fault (Cond.code yX_fault prog_1_method_11_code 3 (some .int) :: TB) ({ frames := 0, cells := 0, slots := 0, locals := 0 }) (dC, dI) vwCl [(cI, .int), (cC, .char), (cL, .object "SharedSyntax$Letters")] (jEn sk sv) [.ref (adX 0), .int a0] (wX cI cC cL adX bh ch adC adS z0) (wX cI cC cL adX bh ch adC adS z1) r := by
  refine Ci_of (cc := prog_1_method_11_code) (maxL := 3) (ret := (some .int)) (by decide) rfl (Nat.le_of_ble_eq_true rfl) ?_
  intro p e s m below meth c ls F hl hK hN hC
  obtain ⟨hx, hb, hml, hown, hts, hr, hlk⟩ := F
  have ht : ∀ w ∈ TB, w.before [.ref (adX 0), .int a0].toArray s = true := fun w h => hts w (List.mem_cons_of_mem _ h)
  have hA : ∀ q, s.heap.size ≤ q → va_A (wX cI cC cL adX bh ch adC adS z0) s.heap.size q := fun q h => Or.inr h
  have hl : lv_has ls 3 [(0, .ref (adX 0)), (1, .int a0)] := hl
  unfold fX_fault at hf
  refine lv_aload_n hx hb dX_fault_0 rfl (lv_at hl 0 rfl) ?_
  refine va_get (D := (dC, dI)) (ci := 5) (v := .ref (adC 0)) (C := RcX) (T := TcX) (N := 6) hx hb ht in_cX hown hK hC.1 0 (wX_e0 cI cC cL adX bh ch adC adS z0) rfl 2 (by decide) (ht _ tw462) (fun _ h9 => h9) rfl dX_fault_1 ?_
  refine va_getN (D := (dC, dI)) (ci := 3) (v := .ref (adC 1)) (C := RcR) (T := TcR) (N := 10) hx hb ht in_cR hown hK hC.1 11 (wX_e11 cI cC cL adX bh ch adC adS z0) rfl 1 (by decide) (va_Nw.use rfl (hN.1 _ nw115)) (fun _ h9 => h9) rfl dX_fault_4 ?_
  refine lv_astore_n (lv' := [(2, .ref (adC 1)), (0, .ref (adX 0)), (1, .int a0)]) hx hb dX_fault_7 rfl hl (by decide) rfl (fun ls hl => ?_)
  refine lv_iload_n hx hb dX_fault_8 rfl (lv_at hl 2 rfl) ?_
  refine lv_if_lt (tgt := 29) hx hb dX_fault_9 (by decide) (fun c1 => ?_) (fun c1 => ?_)
  · replace hf := jif_t c1 hf
    refine lv_iconst (v := -1) hx hb dX_fault_29 (by decide) ?_
    cases hf
    exact jret_i hx hb hr hlk hC hK dX_fault_30
  · replace hf := jif_f c1 hf
    refine lv_iload_n hx hb dX_fault_12 rfl (lv_at hl 2 rfl) ?_
    refine lv_aload_n hx hb dX_fault_13 rfl (lv_at hl 0 rfl) ?_
    refine va_getN (D := (dC, dI)) (ci := 2) (v := .int (jgI z0.2.1 4)) (C := RcT) (T := TcT) (N := 9) hx hb ht in_cT hown hK hC.1 12 (wX_e12 cI cC cL adX bh ch adC adS z0) rfl 8 (by decide) (va_Nw.use rfl (hN.1 _ nw67)) (fun _ h9 => h9) rfl dX_fault_14 ?_
    refine lv_icmp_ge (tgt := 29) hx hb dX_fault_17 (by decide) (fun c2 => ?_) (fun c2 => ?_)
    · replace hf := jif_t c2 hf
      refine lv_iconst (v := -1) hx hb dX_fault_29 (by decide) ?_
      cases hf
      exact jret_i hx hb hr hlk hC hK dX_fault_30
    · replace hf := jif_f c2 hf
      refine lv_aload_n hx hb dX_fault_20 rfl (lv_at hl 0 rfl) ?_
      refine va_getN (D := (dC, dI)) (ci := 2) (v := .ref (adC 13)) (C := RcT) (T := TcT) (N := 9) hx hb ht in_cT hown hK hC.1 12 (wX_e12 cI cC cL adX bh ch adC adS z0) rfl 6 (by decide) (va_Nw.use rfl (hN.1 _ nw62)) (fun _ h9 => h9) rfl dX_fault_21 ?_
      refine lv_iload_n hx hb dX_fault_24 rfl (lv_at hl 2 rfl) ?_
      obtain ⟨hi3, hf⟩ := jC_in hf
      refine va_iald hx hb hK hC.1 24 0 (wX_e24 cI cC cL adX bh ch adC adS z0) rfl hi3 dX_fault_25 ?_
      refine lv_goto (tgt := 30) hx hb dX_fault_26 (by decide) ?_
      cases hf
      exact jret_i hx hb hr hlk hC hK dX_fault_30

def fX_count (N : Nat) (a0 : Int32) (z0 : jX) : Option (Int32 × jX) := (if a0 = (0 : Int32) then some (jgI z0.2.1 3, z0) else (if a0 = (1 : Int32) then (jB (fT_leafCount N z0.2.1) fun r1 s1 => some (r1, (z0.1, s1, z0.2.2))) else (if a0 = (2 : Int32) then some (jgI z0.2.1 4, z0) else (if a0 = (3 : Int32) then (jB (fT_differentCount N z0.2.1) fun r2 s2 => some (r2, (z0.1, s2, z0.2.2))) else (if a0 = (4 : Int32) then some (jgI z0.1 0, z0) else (if a0 = (5 : Int32) then some (jgI z0.1 3, z0) else (if a0 = (6 : Int32) then some (jgI z0.1 1, z0) else (if a0 = (7 : Int32) then some (jgI z0.1 2, z0) else some ((-1 : Int32), z0)))))))))
set_option maxHeartbeats 4000000 in
set_option maxRecDepth 100000 in
theorem cX_count (l : Launch) (dC : Nat → ClassId) (dI : Nat → Nat → Nat) (cI cC cL : ClassId) (sk sv : Nat → Nat) (adX bh ch adC adS : Nat → Nat) (N : Nat) (a0 : Int32) (z0 z1 : jX) (r : Int32) (hf : fX_count N a0 z0 = some (r, z1)) : Ci l yX_count (Cond.code yX_count prog_1_method_12_code 2 (some .int) :: TB) ({ frames := 5, cells := 0, slots := 0, locals := 117 }) (dC, dI) vwCl [(cI, .int), (cC, .char), (cL, .object "SharedSyntax$Letters")] (jEn sk sv) [.ref (adX 0), .int a0] (wX cI cC cL adX bh ch adC adS z0) (wX cI cC cL adX bh ch adC adS z1) r := by
  refine Ci_of (cc := prog_1_method_12_code) (maxL := 2) (ret := (some .int)) (by decide) rfl (Nat.le_of_ble_eq_true rfl) ?_
  intro p e s m below meth c ls F hl hK hN hC
  obtain ⟨hx, hb, hml, hown, hts, hr, hlk⟩ := F
  have ht : ∀ w ∈ TB, w.before [.ref (adX 0), .int a0].toArray s = true := fun w h => hts w (List.mem_cons_of_mem _ h)
  have hA : ∀ q, s.heap.size ≤ q → va_A (wX cI cC cL adX bh ch adC adS z0) s.heap.size q := fun q h => Or.inr h
  have hl : lv_has ls 2 [(0, .ref (adX 0)), (1, .int a0)] := hl
  unfold fX_count at hf
  refine lv_iload_n hx hb dX_count_0 rfl (lv_at hl 1 rfl) ?_
  by_cases w0 : a0 = (0 : Int32)
  · replace hf := jif_t w0 hf
    refine lv_tableIn (tgt := 48) hx hb dX_count_1 (by rw [w0]; decide) (by rw [w0]; decide) (by rw [w0]; rfl) (by decide) ?_
    refine lv_aload_n hx hb dX_count_48 rfl (lv_at hl 0 rfl) ?_
    refine va_get (D := (dC, dI)) (ci := 5) (v := .ref (adC 0)) (C := RcX) (T := TcX) (N := 6) hx hb ht in_cX hown hK hC.1 0 (wX_e0 cI cC cL adX bh ch adC adS z0) rfl 2 (by decide) (ht _ tw462) (fun _ h9 => h9) rfl dX_count_49 ?_
    refine va_getN (D := (dC, dI)) (ci := 3) (v := .ref (adC 1)) (C := RcR) (T := TcR) (N := 10) hx hb ht in_cR hown hK hC.1 11 (wX_e11 cI cC cL adX bh ch adC adS z0) rfl 1 (by decide) (va_Nw.use rfl (hN.1 _ nw115)) (fun _ h9 => h9) rfl dX_count_52 ?_
    refine va_getN (D := (dC, dI)) (ci := 2) (v := .int (jgI z0.2.1 3)) (C := RcT) (T := TcT) (N := 9) hx hb ht in_cT hown hK hC.1 12 (wX_e12 cI cC cL adX bh ch adC adS z0) rfl 7 (by decide) (va_Nw.use rfl (hN.1 _ nw64)) (fun _ h9 => h9) rfl dX_count_55 ?_
    cases hf
    exact jret_i hx hb hr hlk hC hK dX_count_58
  · replace hf := jif_f w0 hf
    by_cases w1 : a0 = (1 : Int32)
    · replace hf := jif_t w1 hf
      refine lv_tableIn (tgt := 59) hx hb dX_count_1 (by rw [w1]; decide) (by rw [w1]; decide) (by rw [w1]; rfl) (by decide) ?_
      refine lv_aload_n hx hb dX_count_59 rfl (lv_at hl 0 rfl) ?_
      refine va_get (D := (dC, dI)) (ci := 5) (v := .ref (adC 0)) (C := RcX) (T := TcX) (N := 6) hx hb ht in_cX hown hK hC.1 0 (wX_e0 cI cC cL adX bh ch adC adS z0) rfl 2 (by decide) (ht _ tw462) (fun _ h9 => h9) rfl dX_count_60 ?_
      refine va_getN (D := (dC, dI)) (ci := 3) (v := .ref (adC 1)) (C := RcR) (T := TcR) (N := 10) hx hb ht in_cR hown hK hC.1 11 (wX_e11 cI cC cL adX bh ch adC adS z0) rfl 1 (by decide) (va_Nw.use rfl (hN.1 _ nw115)) (fun _ h9 => h9) rfl dX_count_63 ?_
      obtain ⟨r1, s1, hc1, hf⟩ := jB_some hf
      have hCc := wX_subc cI cC cL adX bh ch adC adS z0 hC
      refine jcallS_i (wX_mcc cI cC cL adX bh ch adC adS z0) (wX_mrc cI cC cL adX bh ch adC adS z0) rfl (by decide) (wX_mbc cI cC cL adX bh ch adC adS z0 s1) rfl (va_runV (C := RcT) (As := []) (rest := []) ⟨hx, hb, hml, hown, hts⟩ ((cT_leafCount l dC dI cI cC cL sk sv adC N z0.2.1 s1 r1 hc1) _) ⟨(callB_of 0 hts (tb_good tw638) rfl rfl rfl (ht _ tw4) (ht _ tw635) (by decide +kernel) ⟨Nat.le_of_ble_eq_true rfl, Nat.le_of_ble_eq_true rfl⟩), ht _ tw636, ht _ tw637⟩ (jpreV (jEn_ok sk sv) hCc hA hK hN (wR_e1 cI cC adC z0.2.1) rfl rfl _) rfl rfl hl.1 rfl (lv_room (Nat.le_of_ble_eq_true rfl)) dX_count_66 ⟨Nat.le_refl _, Nat.le_refl _⟩) hC hA (fun H locs hC => ?_)
      cases hf
      exact jret_i hx hb hr hlk hC hK dX_count_69
    · replace hf := jif_f w1 hf
      by_cases w2 : a0 = (2 : Int32)
      · replace hf := jif_t w2 hf
        refine lv_tableIn (tgt := 70) hx hb dX_count_1 (by rw [w2]; decide) (by rw [w2]; decide) (by rw [w2]; rfl) (by decide) ?_
        refine lv_aload_n hx hb dX_count_70 rfl (lv_at hl 0 rfl) ?_
        refine va_get (D := (dC, dI)) (ci := 5) (v := .ref (adC 0)) (C := RcX) (T := TcX) (N := 6) hx hb ht in_cX hown hK hC.1 0 (wX_e0 cI cC cL adX bh ch adC adS z0) rfl 2 (by decide) (ht _ tw462) (fun _ h9 => h9) rfl dX_count_71 ?_
        refine va_getN (D := (dC, dI)) (ci := 3) (v := .ref (adC 1)) (C := RcR) (T := TcR) (N := 10) hx hb ht in_cR hown hK hC.1 11 (wX_e11 cI cC cL adX bh ch adC adS z0) rfl 1 (by decide) (va_Nw.use rfl (hN.1 _ nw115)) (fun _ h9 => h9) rfl dX_count_74 ?_
        refine va_getN (D := (dC, dI)) (ci := 2) (v := .int (jgI z0.2.1 4)) (C := RcT) (T := TcT) (N := 9) hx hb ht in_cT hown hK hC.1 12 (wX_e12 cI cC cL adX bh ch adC adS z0) rfl 8 (by decide) (va_Nw.use rfl (hN.1 _ nw67)) (fun _ h9 => h9) rfl dX_count_77 ?_
        cases hf
        exact jret_i hx hb hr hlk hC hK dX_count_80
      · replace hf := jif_f w2 hf
        by_cases w3 : a0 = (3 : Int32)
        · replace hf := jif_t w3 hf
          refine lv_tableIn (tgt := 81) hx hb dX_count_1 (by rw [w3]; decide) (by rw [w3]; decide) (by rw [w3]; rfl) (by decide) ?_
          refine lv_aload_n hx hb dX_count_81 rfl (lv_at hl 0 rfl) ?_
          refine va_get (D := (dC, dI)) (ci := 5) (v := .ref (adC 0)) (C := RcX) (T := TcX) (N := 6) hx hb ht in_cX hown hK hC.1 0 (wX_e0 cI cC cL adX bh ch adC adS z0) rfl 2 (by decide) (ht _ tw462) (fun _ h9 => h9) rfl dX_count_82 ?_
          refine va_getN (D := (dC, dI)) (ci := 3) (v := .ref (adC 1)) (C := RcR) (T := TcR) (N := 10) hx hb ht in_cR hown hK hC.1 11 (wX_e11 cI cC cL adX bh ch adC adS z0) rfl 1 (by decide) (va_Nw.use rfl (hN.1 _ nw115)) (fun _ h9 => h9) rfl dX_count_85 ?_
          obtain ⟨r2, s2, hc2, hf⟩ := jB_some hf
          have hCc := wX_subc cI cC cL adX bh ch adC adS z0 hC
          refine jcallS_i (wX_mcc cI cC cL adX bh ch adC adS z0) (wX_mrc cI cC cL adX bh ch adC adS z0) rfl (by decide) (wX_mbc cI cC cL adX bh ch adC adS z0 s2) rfl (va_runV (C := RcT) (As := []) (rest := []) ⟨hx, hb, hml, hown, hts⟩ ((cT_differentCount l dC dI cI cC cL sk sv adC N z0.2.1 s2 r2 hc2) _) ⟨(callB_of 0 hts (tb_good tw642) rfl rfl rfl (ht _ tw4) (ht _ tw639) (by decide +kernel) ⟨Nat.le_of_ble_eq_true rfl, Nat.le_of_ble_eq_true rfl⟩), ht _ tw640, ht _ tw641⟩ (jpreV (jEn_ok sk sv) hCc hA hK hN (wR_e1 cI cC adC z0.2.1) rfl rfl _) rfl rfl hl.1 rfl (lv_room (Nat.le_of_ble_eq_true rfl)) dX_count_88 ⟨Nat.le_refl _, Nat.le_refl _⟩) hC hA (fun H locs hC => ?_)
          cases hf
          exact jret_i hx hb hr hlk hC hK dX_count_91
        · replace hf := jif_f w3 hf
          by_cases w4 : a0 = (4 : Int32)
          · replace hf := jif_t w4 hf
            refine lv_tableIn (tgt := 92) hx hb dX_count_1 (by rw [w4]; decide) (by rw [w4]; decide) (by rw [w4]; rfl) (by decide) ?_
            refine lv_aload_n hx hb dX_count_92 rfl (lv_at hl 0 rfl) ?_
            refine va_get (D := (dC, dI)) (ci := 5) (v := .int (jgI z0.1 0)) (C := RcX) (T := TcX) (N := 6) hx hb ht in_cX hown hK hC.1 0 (wX_e0 cI cC cL adX bh ch adC adS z0) rfl 4 (by decide) (ht _ tw464) (fun _ h9 => h9) rfl dX_count_93 ?_
            cases hf
            exact jret_i hx hb hr hlk hC hK dX_count_96
          · replace hf := jif_f w4 hf
            by_cases w5 : a0 = (5 : Int32)
            · replace hf := jif_t w5 hf
              refine lv_tableIn (tgt := 97) hx hb dX_count_1 (by rw [w5]; decide) (by rw [w5]; decide) (by rw [w5]; rfl) (by decide) ?_
              refine lv_aload_n hx hb dX_count_97 rfl (lv_at hl 0 rfl) ?_
              refine va_get (D := (dC, dI)) (ci := 5) (v := .ref (adX 3)) (C := RcX) (T := TcX) (N := 6) hx hb ht in_cX hown hK hC.1 0 (wX_e0 cI cC cL adX bh ch adC adS z0) rfl 1 (by decide) (ht _ tw461) (fun _ h9 => h9) rfl dX_count_98 ?_
              refine va_getN (D := (dC, dI)) (ci := 4) (v := .int (jgI z0.1 3)) (C := RcH) (T := TcH) (N := 2) hx hb ht in_cH hown hK hC.1 3 (wX_e3 cI cC cL adX bh ch adC adS z0) rfl 1 (by decide) (va_Nw.use rfl (hN.1 _ nw453)) (fun _ h9 => h9) rfl dX_count_101 ?_
              cases hf
              exact jret_i hx hb hr hlk hC hK dX_count_104
            · replace hf := jif_f w5 hf
              by_cases w6 : a0 = (6 : Int32)
              · replace hf := jif_t w6 hf
                refine lv_tableIn (tgt := 105) hx hb dX_count_1 (by rw [w6]; decide) (by rw [w6]; decide) (by rw [w6]; rfl) (by decide) ?_
                refine lv_aload_n hx hb dX_count_105 rfl (lv_at hl 0 rfl) ?_
                refine va_get (D := (dC, dI)) (ci := 5) (v := .int (jgI z0.1 1)) (C := RcX) (T := TcX) (N := 6) hx hb ht in_cX hown hK hC.1 0 (wX_e0 cI cC cL adX bh ch adC adS z0) rfl 5 (by decide) (ht _ tw465) (fun _ h9 => h9) rfl dX_count_106 ?_
                cases hf
                exact jret_i hx hb hr hlk hC hK dX_count_109
              · replace hf := jif_f w6 hf
                by_cases w7 : a0 = (7 : Int32)
                · replace hf := jif_t w7 hf
                  refine lv_tableIn (tgt := 110) hx hb dX_count_1 (by rw [w7]; decide) (by rw [w7]; decide) (by rw [w7]; rfl) (by decide) ?_
                  refine lv_aload_n hx hb dX_count_110 rfl (lv_at hl 0 rfl) ?_
                  refine va_get (D := (dC, dI)) (ci := 5) (v := .ref (adX 1)) (C := RcX) (T := TcX) (N := 6) hx hb ht in_cX hown hK hC.1 0 (wX_e0 cI cC cL adX bh ch adC adS z0) rfl 0 (by decide) (ht _ tw460) (fun _ h9 => h9) rfl dX_count_111 ?_
                  refine va_getN (D := (dC, dI)) (ci := 0) (v := .int (jgI z0.1 2)) (C := RcL) (T := TcL) (N := 2) hx hb ht in_cL hown hK hC.1 1 (wX_e1 cI cC cL adX bh ch adC adS z0) rfl 1 (by decide) (va_Nw.use rfl (hN.1 _ nw34)) (fun _ h9 => h9) rfl dX_count_114 ?_
                  cases hf
                  exact jret_i hx hb hr hlk hC hK dX_count_117
                · replace hf := jif_f w7 hf
                  refine lv_tableOut (tgt := 118) hx hb dX_count_1 (by have e0 := lv_neT (a := 0) w0 (by decide); have e1 := lv_neT (a := 1) w1 (by decide); have e2 := lv_neT (a := 2) w2 (by decide); have e3 := lv_neT (a := 3) w3 (by decide); have e4 := lv_neT (a := 4) w4 (by decide); have e5 := lv_neT (a := 5) w5 (by decide); have e6 := lv_neT (a := 6) w6 (by decide); have e7 := lv_neT (a := 7) w7 (by decide); omega) (by decide) ?_
                  refine lv_iconst (v := -1) hx hb dX_count_118 (by decide) ?_
                  cases hf
                  exact jret_i hx hb hr hlk hC hK dX_count_119
