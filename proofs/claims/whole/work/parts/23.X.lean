def fL_appendPart_pL_cL_b3 (N : Nat) (k3 : Int32 → Int32 → jX → Option (Int32 × jX)) (x3 x4 : Int32) (s0 : jX) : Option (Int32 × jX) := (if x3 ≤ x4 then some (0, s0) else (jB (fL_at N x4 s0.2.1) fun r302 s302 => (jB (fL_append N r302 s0.2.2) fun r303 s303 => k3 x3 (x4 + (1 : Int32)) (s0.1, s302, s303))))
def fL_appendPart_pL_cL_3 (N : Nat) : Nat → Int32 → Int32 → jX → Option (Int32 × jX)
  | 0 => fun _ _ _ => none
  | n + 1 => fun x3 x4 s0 => fL_appendPart_pL_cL_b3 N (fL_appendPart_pL_cL_3 N n) x3 x4 s0
def fL_appendPart_pL_cL (N : Nat) (a1 a2 : Int32) (z0 : jX) : Option (Int32 × jX) := fL_appendPart_pL_cL_3 N N a2 a1 z0
set_option maxHeartbeats 4000000 in
set_option maxRecDepth 100000 in
theorem cL_appendPart_pL_cL (l : Launch) (dC : Nat → ClassId) (dI : Nat → Nat → Nat) (cI cC cL : ClassId) (sk sv : Nat → Nat) (adX bh ch adC adS : Nat → Nat) (N : Nat) (a1 a2 : Int32) (z0 z1 : jX) (r : Int32) (hf : fL_appendPart_pL_cL N a1 a2 z0 = some (r, z1)) : Cv l yL_appendPart (Cond.code yL_appendPart prog_3_method_7_code 5 none :: TB) ({ frames := 1, cells := 0, slots := 0, locals := 21 }) (dC, dI) vwCl [(cI, .int), (cC, .char), (cL, .object "SharedSyntax$Letters")] (jEn sk sv) [.ref (adS 3), .ref (adC 3), .int a1, .int a2] (wX cI cC cL adX bh ch adC adS z0) (wX cI cC cL adX bh ch adC adS z1) := by
  refine Cv_of (cc := prog_3_method_7_code) (maxL := 5) (ret := none) (by decide) rfl (Nat.le_of_ble_eq_true rfl) ?_
  intro p e s m below meth c ls F hl hK hN hC
  obtain ⟨hx, hb, hml, hown, hts, hr, hlk⟩ := F
  have ht : ∀ w ∈ TB, w.before [.ref (adS 3), .ref (adC 3), .int a1, .int a2].toArray s = true := fun w h => hts w (List.mem_cons_of_mem _ h)
  have hA : ∀ q, s.heap.size ≤ q → va_A (wX cI cC cL adX bh ch adC adS z0) s.heap.size q := fun q h => Or.inr h
  have hl : lv_has ls 5 [(0, .ref (adS 3)), (1, .ref (adC 3)), (2, .int a1), (3, .int a2)] := hl
  have L3 : ∀ (n : Nat) (x3 x4 : Int32) (s0 : jX) (ls : Array Slot) (H : Heap) (locs : List Loc), lv_has ls 5 [(0, .ref (adS 3)), (1, .ref (adC 3)), (3, .int x3), (4, .int x4)] → jcx (dC, dI) vwCl (va_A (wX cI cC cL adX bh ch adC adS z0) s.heap.size) s.heap (wX cI cC cL adX bh ch adC adS s0) H locs → fL_appendPart_pL_cL_3 N n x3 x4 s0 = some (r, z1) → W p l e ({ frames := 1, cells := 0, slots := 0, locals := 21 }) s m [.ref (adS 3), .ref (adC 3), .int a1, .int a2].toArray below meth c H locs 0 0 (MQ below (jQv (dC, dI) vwCl [(cI, .int), (cC, .char), (cL, .object "SharedSyntax$Letters")] (wX cI cC cL adX bh ch adC adS z0) (wX cI cC cL adX bh ch adC adS z1) s.heap.size) [.ref (adS 3), .ref (adC 3), .int a1, .int a2].toArray s 0 0 (va_A (wX cI cC cL adX bh ch adC adS z0) s.heap.size)) (F0 m 3 ls []) := by
    intro n
    induction n with
    | zero => exact fun _ _ _ _ _ _ _ _ hf => nomatch hf
    | succ n ih3 =>
      intro x3 x4 s0 ls H locs hl hC hf
      replace hf : fL_appendPart_pL_cL_b3 N (fL_appendPart_pL_cL_3 N n) x3 x4 s0 = some (r, z1) := hf
      generalize fL_appendPart_pL_cL_3 N n = k3 at ih3 hf
      unfold fL_appendPart_pL_cL_b3 at hf
      refine lv_iload hx hb dL_appendPart_3 (lv_at hl 3 rfl) ?_
      refine lv_iload_n hx hb dL_appendPart_5 rfl (lv_at hl 2 rfl) ?_
      refine lv_icmp_ge (tgt := 26) hx hb dL_appendPart_6 (by decide) (fun c301 => ?_) (fun c301 => ?_)
      · replace hf := jif_t c301 hf
        cases hf
        exact jret_v hx hb hr hlk hC hK dL_appendPart_26
      · replace hf := jif_f c301 hf
        refine lv_aload_n hx hb dL_appendPart_9 rfl (lv_at hl 0 rfl) ?_
        refine lv_aload_n hx hb dL_appendPart_10 rfl (lv_at hl 1 rfl) ?_
        refine lv_iload hx hb dL_appendPart_11 (lv_at hl 3 rfl) ?_
        obtain ⟨r302, s302, hc302, hf⟩ := jB_some hf
        have hCc := wX_subc cI cC cL adX bh ch adC adS s0 hC
        refine jcallS_i (wX_mcc cI cC cL adX bh ch adC adS s0) (wX_mrc cI cC cL adX bh ch adC adS s0) rfl (by decide) (wX_mbc cI cC cL adX bh ch adC adS s0 s302) rfl (va_runV (C := RcL) (As := [.int x4]) (rest := [.ref (adS 3)]) ⟨hx, hb, hml, hown, hts⟩ ((cL_at l dC dI cI cC cL sk sv adC N x4 s0.2.1 s302 r302 hc302) _) ⟨(callB_of 1 hts (tb_good tw164) rfl rfl rfl (ht _ tw3) (ht _ tw515) (by decide +kernel) ⟨Nat.le_of_ble_eq_true rfl, Nat.le_of_ble_eq_true rfl⟩), ht _ tw162, ht _ tw163⟩ (jpreV (jEn_ok sk sv) hCc hA hK hN (wR_e3 cI cC adC s0.2.1) rfl rfl _) rfl rfl hl.1 rfl (lv_room (Nat.le_of_ble_eq_true rfl)) dL_appendPart_13 ⟨Nat.le_refl _, Nat.le_refl _⟩) hC hA (fun H locs hC => ?_)
        obtain ⟨r303, s303, hc303, hf⟩ := jB_some hf
        have hCc := wX_subp cI cC cL adX bh ch adC adS (s0.1, s302, s0.2.2) hC
        refine jcallS_i (wX_mcp cI cC cL adX bh ch adC adS (s0.1, s302, s0.2.2)) (wX_mrp cI cC cL adX bh ch adC adS (s0.1, s302, s0.2.2)) rfl (by decide) (wX_mbp cI cC cL adX bh ch adC adS (s0.1, s302, s0.2.2) s303) rfl (va_runV (C := RcL) (As := [.int r302]) (rest := []) ⟨hx, hb, hml, hown, hts⟩ ((cL_append l dC dI cI cC cL sk sv adS N r302 s0.2.2 s303 r303 hc303) _) ⟨(callB_of 1 hts (tb_good tw486) rfl rfl rfl (ht _ tw3) (ht _ tw516) (by decide +kernel) ⟨Nat.le_of_ble_eq_true rfl, Nat.le_of_ble_eq_true rfl⟩), ht _ tw484, ht _ tw485⟩ (jpreV (jEn_ok sk sv) hCc hA hK hN (wR_e3 cI cC adS s0.2.2) rfl rfl _) rfl rfl hl.1 rfl (lv_room (Nat.le_of_ble_eq_true rfl)) dL_appendPart_16 ⟨Nat.le_refl _, Nat.le_refl _⟩) hC hA (fun H locs hC => ?_)
        refine lv_pop hx hb dL_appendPart_19 rfl ?_
        refine lv_iinc (k := 3) (v := (x4 + (1 : Int32))) (lv' := [(4, .int (x4 + (1 : Int32))), (0, .ref (adS 3)), (1, .ref (adC 3)), (3, .int x3)]) hx hb dL_appendPart_20 hl rfl rfl (by decide) rfl (fun ls hl => ?_)
        refine lv_goto (tgt := 3) hx hb dL_appendPart_23 (by decide) ?_
        exact ih3 x3 (x4 + (1 : Int32)) (s0.1, s302, s303) ls _ _ (lv_sub hl [1, 2, 3, 0] rfl) hC hf
  unfold fL_appendPart_pL_cL at hf
  refine lv_iload_n hx hb dL_appendPart_0 rfl (lv_at hl 2 rfl) ?_
  refine lv_istore (lv' := [(4, .int a1), (0, .ref (adS 3)), (1, .ref (adC 3)), (2, .int a1), (3, .int a2)]) hx hb dL_appendPart_1 hl (by decide) rfl (fun ls hl => ?_)
  exact L3 N a2 a1 z0 ls _ _ (lv_sub hl [1, 2, 4, 0] rfl) hC hf

def fL_at_B (N : Nat) (a0 : Int32) (z0 : jX) : Option (Int32 × jX) := (if a0 < 0 then some ((0 : Int32), z0) else (if jgI z0.1 2 ≤ a0 then some ((0 : Int32), z0) else (if jIn a0 20 = true then some (jgA z0.1 0 (a0).toNatClampNeg, z0) else none)))
set_option maxHeartbeats 4000000 in
set_option maxRecDepth 100000 in
theorem cL_at_B (l : Launch) (dC : Nat → ClassId) (dI : Nat → Nat → Nat) (cI cC cL : ClassId) (sk sv : Nat → Nat) (adX bh ch adC adS : Nat → Nat) (N : Nat) (a0 : Int32) (z0 z1 : jX) (r : Int32) (hf : fL_at_B N a0 z0 = some (r, z1)) : Ci l yL_at (Cond.code yL_at prog_3_method_2_code 2 (some .int) :: TB) ({ frames := 0, cells := 0, slots := 0, locals := 0 }) (dC, dI) vwCl [(cI, .int), (cC, .char), (cL, .object "SharedSyntax$Letters")] (jEn sk sv) [.ref (adX 1), .int a0] (wX cI cC cL adX bh ch adC adS z0) (wX cI cC cL adX bh ch adC adS z1) r := by
  refine Ci_of (cc := prog_3_method_2_code) (maxL := 2) (ret := (some .int)) (by decide) rfl (Nat.le_of_ble_eq_true rfl) ?_
  intro p e s m below meth c ls F hl hK hN hC
  obtain ⟨hx, hb, hml, hown, hts, hr, hlk⟩ := F
  have ht : ∀ w ∈ TB, w.before [.ref (adX 1), .int a0].toArray s = true := fun w h => hts w (List.mem_cons_of_mem _ h)
  have hA : ∀ q, s.heap.size ≤ q → va_A (wX cI cC cL adX bh ch adC adS z0) s.heap.size q := fun q h => Or.inr h
  have hl : lv_has ls 2 [(0, .ref (adX 1)), (1, .int a0)] := hl
  unfold fL_at_B at hf
  refine lv_iload_n hx hb dL_at_0 rfl (lv_at hl 1 rfl) ?_
  refine lv_if_lt (tgt := 21) hx hb dL_at_1 (by decide) (fun c1 => ?_) (fun c1 => ?_)
  · replace hf := jif_t c1 hf
    refine lv_iconst (v := 0) hx hb dL_at_21 (by decide) ?_
    cases hf
    exact jret_i hx hb hr hlk hC hK dL_at_22
  · replace hf := jif_f c1 hf
    refine lv_iload_n hx hb dL_at_4 rfl (lv_at hl 1 rfl) ?_
    refine lv_aload_n hx hb dL_at_5 rfl (lv_at hl 0 rfl) ?_
    refine va_get (D := (dC, dI)) (ci := 0) (v := .int (jgI z0.1 2)) (C := RcL) (T := TcL) (N := 2) hx hb ht in_cL hown hK hC.1 1 (wX_e1 cI cC cL adX bh ch adC adS z0) rfl 1 (by decide) (ht _ tw32) (fun _ h9 => h9) rfl dL_at_6 ?_
    refine lv_icmp_ge (tgt := 21) hx hb dL_at_9 (by decide) (fun c2 => ?_) (fun c2 => ?_)
    · replace hf := jif_t c2 hf
      refine lv_iconst (v := 0) hx hb dL_at_21 (by decide) ?_
      cases hf
      exact jret_i hx hb hr hlk hC hK dL_at_22
    · replace hf := jif_f c2 hf
      refine lv_aload_n hx hb dL_at_12 rfl (lv_at hl 0 rfl) ?_
      refine va_get (D := (dC, dI)) (ci := 0) (v := .ref (adX 2)) (C := RcL) (T := TcL) (N := 2) hx hb ht in_cL hown hK hC.1 1 (wX_e1 cI cC cL adX bh ch adC adS z0) rfl 0 (by decide) (ht _ tw31) (fun _ h9 => h9) rfl dL_at_13 ?_
      refine lv_iload_n hx hb dL_at_16 rfl (lv_at hl 1 rfl) ?_
      obtain ⟨hi3, hf⟩ := jC_in hf
      refine va_iald hx hb hK hC.1 2 0 (wX_e2 cI cC cL adX bh ch adC adS z0) rfl hi3 dL_at_17 ?_
      refine lv_goto (tgt := 22) hx hb dL_at_18 (by decide) ?_
      cases hf
      exact jret_i hx hb hr hlk hC hK dL_at_22

def fL_appendPart_pL_B_b3 (N : Nat) (k3 : Int32 → Int32 → jX → Option (Int32 × jX)) (x3 x4 : Int32) (s0 : jX) : Option (Int32 × jX) := (if x3 ≤ x4 then some (0, s0) else (jB (fL_at_B N x4 s0) fun r302 s302 => (jB (fL_append N r302 s302.2.2) fun r303 s303 => k3 x3 (x4 + (1 : Int32)) (s302.1, s302.2.1, s303))))
def fL_appendPart_pL_B_3 (N : Nat) : Nat → Int32 → Int32 → jX → Option (Int32 × jX)
  | 0 => fun _ _ _ => none
  | n + 1 => fun x3 x4 s0 => fL_appendPart_pL_B_b3 N (fL_appendPart_pL_B_3 N n) x3 x4 s0
def fL_appendPart_pL_B (N : Nat) (a1 a2 : Int32) (z0 : jX) : Option (Int32 × jX) := fL_appendPart_pL_B_3 N N a2 a1 z0
set_option maxHeartbeats 4000000 in
set_option maxRecDepth 100000 in
theorem cL_appendPart_pL_B (l : Launch) (dC : Nat → ClassId) (dI : Nat → Nat → Nat) (cI cC cL : ClassId) (sk sv : Nat → Nat) (adX bh ch adC adS : Nat → Nat) (N : Nat) (a1 a2 : Int32) (z0 z1 : jX) (r : Int32) (hf : fL_appendPart_pL_B N a1 a2 z0 = some (r, z1)) : Cv l yL_appendPart (Cond.code yL_appendPart prog_3_method_7_code 5 none :: TB) ({ frames := 1, cells := 0, slots := 0, locals := 21 }) (dC, dI) vwCl [(cI, .int), (cC, .char), (cL, .object "SharedSyntax$Letters")] (jEn sk sv) [.ref (adS 3), .ref (adX 1), .int a1, .int a2] (wX cI cC cL adX bh ch adC adS z0) (wX cI cC cL adX bh ch adC adS z1) := by
  refine Cv_of (cc := prog_3_method_7_code) (maxL := 5) (ret := none) (by decide) rfl (Nat.le_of_ble_eq_true rfl) ?_
  intro p e s m below meth c ls F hl hK hN hC
  obtain ⟨hx, hb, hml, hown, hts, hr, hlk⟩ := F
  have ht : ∀ w ∈ TB, w.before [.ref (adS 3), .ref (adX 1), .int a1, .int a2].toArray s = true := fun w h => hts w (List.mem_cons_of_mem _ h)
  have hA : ∀ q, s.heap.size ≤ q → va_A (wX cI cC cL adX bh ch adC adS z0) s.heap.size q := fun q h => Or.inr h
  have hl : lv_has ls 5 [(0, .ref (adS 3)), (1, .ref (adX 1)), (2, .int a1), (3, .int a2)] := hl
  have L3 : ∀ (n : Nat) (x3 x4 : Int32) (s0 : jX) (ls : Array Slot) (H : Heap) (locs : List Loc), lv_has ls 5 [(0, .ref (adS 3)), (1, .ref (adX 1)), (3, .int x3), (4, .int x4)] → jcx (dC, dI) vwCl (va_A (wX cI cC cL adX bh ch adC adS z0) s.heap.size) s.heap (wX cI cC cL adX bh ch adC adS s0) H locs → fL_appendPart_pL_B_3 N n x3 x4 s0 = some (r, z1) → W p l e ({ frames := 1, cells := 0, slots := 0, locals := 21 }) s m [.ref (adS 3), .ref (adX 1), .int a1, .int a2].toArray below meth c H locs 0 0 (MQ below (jQv (dC, dI) vwCl [(cI, .int), (cC, .char), (cL, .object "SharedSyntax$Letters")] (wX cI cC cL adX bh ch adC adS z0) (wX cI cC cL adX bh ch adC adS z1) s.heap.size) [.ref (adS 3), .ref (adX 1), .int a1, .int a2].toArray s 0 0 (va_A (wX cI cC cL adX bh ch adC adS z0) s.heap.size)) (F0 m 3 ls []) := by
    intro n
    induction n with
    | zero => exact fun _ _ _ _ _ _ _ _ hf => nomatch hf
    | succ n ih3 =>
      intro x3 x4 s0 ls H locs hl hC hf
      replace hf : fL_appendPart_pL_B_b3 N (fL_appendPart_pL_B_3 N n) x3 x4 s0 = some (r, z1) := hf
      generalize fL_appendPart_pL_B_3 N n = k3 at ih3 hf
      unfold fL_appendPart_pL_B_b3 at hf
      refine lv_iload hx hb dL_appendPart_3 (lv_at hl 3 rfl) ?_
      refine lv_iload_n hx hb dL_appendPart_5 rfl (lv_at hl 2 rfl) ?_
      refine lv_icmp_ge (tgt := 26) hx hb dL_appendPart_6 (by decide) (fun c301 => ?_) (fun c301 => ?_)
      · replace hf := jif_t c301 hf
        cases hf
        exact jret_v hx hb hr hlk hC hK dL_appendPart_26
      · replace hf := jif_f c301 hf
        refine lv_aload_n hx hb dL_appendPart_9 rfl (lv_at hl 0 rfl) ?_
        refine lv_aload_n hx hb dL_appendPart_10 rfl (lv_at hl 1 rfl) ?_
        refine lv_iload hx hb dL_appendPart_11 (lv_at hl 3 rfl) ?_
        obtain ⟨r302, s302, hc302, hf⟩ := jB_some hf
        refine jcall_i (va_runV (C := RcL) (As := [.int x4]) (rest := [.ref (adS 3)]) ⟨hx, hb, hml, hown, hts⟩ ((cL_at_B l dC dI cI cC cL sk sv adX bh ch adC adS N x4 s0 s302 r302 hc302) _) ⟨(callB_of 1 hts (tb_good tw164) rfl rfl rfl (ht _ tw3) (ht _ tw515) (by decide +kernel) ⟨Nat.le_of_ble_eq_true rfl, Nat.le_of_ble_eq_true rfl⟩), ht _ tw162, ht _ tw163⟩ (jpreV (jEn_ok sk sv) hC hA hK hN (wX_e1 cI cC cL adX bh ch adC adS s0) rfl rfl _) rfl rfl hl.1 rfl (lv_room (Nat.le_of_ble_eq_true rfl)) dL_appendPart_13 ⟨Nat.le_refl _, Nat.le_refl _⟩) hC hA (fun H locs hC => ?_)
        obtain ⟨r303, s303, hc303, hf⟩ := jB_some hf
        have hCc := wX_subp cI cC cL adX bh ch adC adS s302 hC
        refine jcallS_i (wX_mcp cI cC cL adX bh ch adC adS s302) (wX_mrp cI cC cL adX bh ch adC adS s302) rfl (by decide) (wX_mbp cI cC cL adX bh ch adC adS s302 s303) rfl (va_runV (C := RcL) (As := [.int r302]) (rest := []) ⟨hx, hb, hml, hown, hts⟩ ((cL_append l dC dI cI cC cL sk sv adS N r302 s302.2.2 s303 r303 hc303) _) ⟨(callB_of 1 hts (tb_good tw486) rfl rfl rfl (ht _ tw3) (ht _ tw516) (by decide +kernel) ⟨Nat.le_of_ble_eq_true rfl, Nat.le_of_ble_eq_true rfl⟩), ht _ tw484, ht _ tw485⟩ (jpreV (jEn_ok sk sv) hCc hA hK hN (wR_e3 cI cC adS s302.2.2) rfl rfl _) rfl rfl hl.1 rfl (lv_room (Nat.le_of_ble_eq_true rfl)) dL_appendPart_16 ⟨Nat.le_refl _, Nat.le_refl _⟩) hC hA (fun H locs hC => ?_)
        refine lv_pop hx hb dL_appendPart_19 rfl ?_
        refine lv_iinc (k := 3) (v := (x4 + (1 : Int32))) (lv' := [(4, .int (x4 + (1 : Int32))), (0, .ref (adS 3)), (1, .ref (adX 1)), (3, .int x3)]) hx hb dL_appendPart_20 hl rfl rfl (by decide) rfl (fun ls hl => ?_)
        refine lv_goto (tgt := 3) hx hb dL_appendPart_23 (by decide) ?_
        exact ih3 x3 (x4 + (1 : Int32)) (s302.1, s302.2.1, s303) ls _ _ (lv_sub hl [1, 2, 3, 0] rfl) hC hf
  unfold fL_appendPart_pL_B at hf
  refine lv_iload_n hx hb dL_appendPart_0 rfl (lv_at hl 2 rfl) ?_
  refine lv_istore (lv' := [(4, .int a1), (0, .ref (adS 3)), (1, .ref (adX 1)), (2, .int a1), (3, .int a2)]) hx hb dL_appendPart_1 hl (by decide) rfl (fun ls hl => ?_)
  exact L3 N a2 a1 z0 ls _ _ (lv_sub hl [1, 2, 4, 0] rfl) hC hf

def fL_splice_pL_cL_B (N : Nat) (a1 a2 : Int32) (z0 : jX) : Option (Int32 × jX) := (jB (fL_clear N z0.2.2) fun r1 s1 => (jB (fL_appendPart_pL_cL N (0 : Int32) a1 (z0.1, z0.2.1, s1)) fun r2 s2 => (jB (fL_appendPart_pL_B N (0 : Int32) (jgI s2.1 2) s2) fun r3 s3 => (jB (fL_appendPart_pL_cL N (a1 + a2) (jgI s3.2.1 0) s3) fun r4 s4 => some (0, s4)))))
set_option maxHeartbeats 4000000 in
set_option maxRecDepth 100000 in
theorem cL_splice_pL_cL_B (l : Launch) (dC : Nat → ClassId) (dI : Nat → Nat → Nat) (cI cC cL : ClassId) (sk sv : Nat → Nat) (adX bh ch adC adS : Nat → Nat) (N : Nat) (a1 a2 : Int32) (z0 z1 : jX) (r : Int32) (hf : fL_splice_pL_cL_B N a1 a2 z0 = some (r, z1)) : Cv l yL_splice (Cond.code yL_splice prog_3_method_6_code 5 none :: TB) ({ frames := 2, cells := 0, slots := 0, locals := 45 }) (dC, dI) vwCl [(cI, .int), (cC, .char), (cL, .object "SharedSyntax$Letters")] (jEn sk sv) [.ref (adS 3), .ref (adC 3), .int a1, .int a2, .ref (adX 1)] (wX cI cC cL adX bh ch adC adS z0) (wX cI cC cL adX bh ch adC adS z1) := by
  refine Cv_of (cc := prog_3_method_6_code) (maxL := 5) (ret := none) (by decide) rfl (Nat.le_of_ble_eq_true rfl) ?_
  intro p e s m below meth c ls F hl hK hN hC
  obtain ⟨hx, hb, hml, hown, hts, hr, hlk⟩ := F
  have ht : ∀ w ∈ TB, w.before [.ref (adS 3), .ref (adC 3), .int a1, .int a2, .ref (adX 1)].toArray s = true := fun w h => hts w (List.mem_cons_of_mem _ h)
  have hA : ∀ q, s.heap.size ≤ q → va_A (wX cI cC cL adX bh ch adC adS z0) s.heap.size q := fun q h => Or.inr h
  have hl : lv_has ls 5 [(0, .ref (adS 3)), (1, .ref (adC 3)), (2, .int a1), (3, .int a2), (4, .ref (adX 1))] := hl
  unfold fL_splice_pL_cL_B at hf
  refine lv_aload_n hx hb dL_splice_0 rfl (lv_at hl 0 rfl) ?_
  obtain ⟨r1, s1, hc1, hf⟩ := jB_some hf
  have hCc := wX_subp cI cC cL adX bh ch adC adS z0 hC
  refine jcallS_v (wX_mcp cI cC cL adX bh ch adC adS z0) (wX_mrp cI cC cL adX bh ch adC adS z0) rfl (by decide) (wX_mbp cI cC cL adX bh ch adC adS z0 s1) rfl (va_runV (C := RcL) (As := []) (rest := []) ⟨hx, hb, hml, hown, hts⟩ ((cL_clear l dC dI cI cC cL sk sv adS N z0.2.2 s1 r1 hc1) _) ⟨(callB_of 0 hts (tb_good tw510) rfl rfl rfl (ht _ tw3) (ht _ tw507) (by decide +kernel) ⟨Nat.le_of_ble_eq_true rfl, Nat.le_of_ble_eq_true rfl⟩), ht _ tw508, ht _ tw509⟩ (jpreV (jEn_ok sk sv) hCc hA hK hN (wR_e3 cI cC adS z0.2.2) rfl rfl _) rfl rfl hl.1 rfl (lv_room (Nat.le_of_ble_eq_true rfl)) dL_splice_1 ⟨Nat.le_refl _, Nat.le_refl _⟩) hC hA (fun H locs hC => ?_)
  refine lv_aload_n hx hb dL_splice_4 rfl (lv_at hl 0 rfl) ?_
  refine lv_aload_n hx hb dL_splice_5 rfl (lv_at hl 1 rfl) ?_
  refine lv_iconst (v := 0) hx hb dL_splice_6 (by decide) ?_
  refine lv_iload_n hx hb dL_splice_7 rfl (lv_at hl 2 rfl) ?_
  obtain ⟨r2, s2, hc2, hf⟩ := jB_some hf
  refine jcall_v (va_runV (C := RcL) (As := [.ref (adC 3), .int (0 : Int32), .int a1]) (rest := []) ⟨hx, hb, hml, hown, hts⟩ ((cL_appendPart_pL_cL l dC dI cI cC cL sk sv adX bh ch adC adS N (0 : Int32) a1 (z0.1, z0.2.1, s1) s2 r2 hc2) _) ⟨(callB_of 3 hts (tb_good tw514) rfl rfl rfl (ht _ tw3) (ht _ tw511) (by decide +kernel) ⟨Nat.le_of_ble_eq_true rfl, Nat.le_of_ble_eq_true rfl⟩), ht _ tw513, ht _ (tb_sel pv_L_appendPart)⟩ (jpreV (jEn_ok sk sv) hC hA hK hN (wX_e32 cI cC cL adX bh ch adC adS (z0.1, z0.2.1, s1)) rfl rfl _) rfl rfl hl.1 rfl (lv_room (Nat.le_of_ble_eq_true rfl)) dL_splice_8 ⟨Nat.le_refl _, Nat.le_refl _⟩) hC hA (fun H locs hC => ?_)
  refine lv_aload_n hx hb dL_splice_11 rfl (lv_at hl 0 rfl) ?_
  refine lv_aload hx hb dL_splice_12 (lv_at hl 4 rfl) ?_
  refine lv_iconst (v := 0) hx hb dL_splice_14 (by decide) ?_
  refine lv_aload hx hb dL_splice_15 (lv_at hl 4 rfl) ?_
  refine va_get (D := (dC, dI)) (ci := 0) (v := .int (jgI s2.1 2)) (C := RcL) (T := TcL) (N := 2) hx hb ht in_cL hown hK hC.1 1 (wX_e1 cI cC cL adX bh ch adC adS s2) rfl 1 (by decide) (ht _ tw32) (fun _ h9 => h9) rfl dL_splice_17 ?_
  obtain ⟨r3, s3, hc3, hf⟩ := jB_some hf
  refine jcall_v (va_runV (C := RcL) (As := [.ref (adX 1), .int (0 : Int32), .int (jgI s2.1 2)]) (rest := []) ⟨hx, hb, hml, hown, hts⟩ ((cL_appendPart_pL_B l dC dI cI cC cL sk sv adX bh ch adC adS N (0 : Int32) (jgI s2.1 2) s2 s3 r3 hc3) _) ⟨(callB_of 3 hts (tb_good tw514) rfl rfl rfl (ht _ tw3) (ht _ tw511) (by decide +kernel) ⟨Nat.le_of_ble_eq_true rfl, Nat.le_of_ble_eq_true rfl⟩), ht _ tw513, ht _ (tb_sel pv_L_appendPart)⟩ (jpreV (jEn_ok sk sv) hC hA hK hN (wX_e32 cI cC cL adX bh ch adC adS s2) rfl rfl _) rfl rfl hl.1 rfl (lv_room (Nat.le_of_ble_eq_true rfl)) dL_splice_20 ⟨Nat.le_refl _, Nat.le_refl _⟩) hC hA (fun H locs hC => ?_)
  refine lv_aload_n hx hb dL_splice_23 rfl (lv_at hl 0 rfl) ?_
  refine lv_aload_n hx hb dL_splice_24 rfl (lv_at hl 1 rfl) ?_
  refine lv_iload_n hx hb dL_splice_25 rfl (lv_at hl 2 rfl) ?_
  refine lv_iload_n hx hb dL_splice_26 rfl (lv_at hl 3 rfl) ?_
  refine lv_iadd hx hb dL_splice_27 ?_
  refine lv_aload_n hx hb dL_splice_28 rfl (lv_at hl 1 rfl) ?_
  refine va_get (D := (dC, dI)) (ci := 0) (v := .int (jgI s3.2.1 0)) (C := RcL) (T := TcL) (N := 2) hx hb ht in_cL hown hK hC.1 14 (wX_e14 cI cC cL adX bh ch adC adS s3) rfl 1 (by decide) (ht _ tw32) (fun _ h9 => h9) rfl dL_splice_29 ?_
  obtain ⟨r4, s4, hc4, hf⟩ := jB_some hf
  refine jcall_v (va_runV (C := RcL) (As := [.ref (adC 3), .int (a1 + a2), .int (jgI s3.2.1 0)]) (rest := []) ⟨hx, hb, hml, hown, hts⟩ ((cL_appendPart_pL_cL l dC dI cI cC cL sk sv adX bh ch adC adS N (a1 + a2) (jgI s3.2.1 0) s3 s4 r4 hc4) _) ⟨(callB_of 3 hts (tb_good tw514) rfl rfl rfl (ht _ tw3) (ht _ tw511) (by decide +kernel) ⟨Nat.le_of_ble_eq_true rfl, Nat.le_of_ble_eq_true rfl⟩), ht _ tw513, ht _ (tb_sel pv_L_appendPart)⟩ (jpreV (jEn_ok sk sv) hC hA hK hN (wX_e32 cI cC cL adX bh ch adC adS s3) rfl rfl _) rfl rfl hl.1 rfl (lv_room (Nat.le_of_ble_eq_true rfl)) dL_splice_32 ⟨Nat.le_refl _, Nat.le_refl _⟩) hC hA (fun H locs hC => ?_)
  cases hf
  exact jret_v hx hb hr hlk hC hK dL_splice_35

def fT_sameLetters_cT_pT_b10 (N : Nat) (k10 : Int32 → Int32 → Int32 → Int32 → jX → Option (Int32 × jX)) (x1 x3 x4 x5 : Int32) (s0 : jX) : Option (Int32 × jX) := (if x4 ≤ x5 then some ((1 : Int32), s0) else (if jIn x1 363 = true then (jB (fL_at N (jgA s0.2.1 6 (x1).toNatClampNeg + x5) s0.2.1) fun r1003 s1003 => (if jIn x3 363 = true then (jB (fL_at N (jgA s0.2.2 6 (x3).toNatClampNeg + x5) s0.2.2) fun r1005 s1005 => (if r1003 = r1005 then k10 x1 x3 x4 (x5 + (1 : Int32)) (s0.1, s1003, s1005) else some ((0 : Int32), (s0.1, s1003, s1005)))) else none)) else none))
def fT_sameLetters_cT_pT_10 (N : Nat) : Nat → Int32 → Int32 → Int32 → Int32 → jX → Option (Int32 × jX)
  | 0 => fun _ _ _ _ _ => none
  | n + 1 => fun x1 x3 x4 x5 s0 => fT_sameLetters_cT_pT_b10 N (fT_sameLetters_cT_pT_10 N n) x1 x3 x4 x5 s0
def fT_sameLetters_cT_pT (N : Nat) (a0 a2 : Int32) (z0 : jX) : Option (Int32 × jX) := (jB (fT_stretchOf N a0 z0.2.1) fun r1 s1 => fT_sameLetters_cT_pT_10 N N a0 a2 r1 (0 : Int32) (z0.1, s1, z0.2.2))
set_option maxHeartbeats 4000000 in
set_option maxRecDepth 100000 in
theorem cT_sameLetters_cT_pT (l : Launch) (dC : Nat → ClassId) (dI : Nat → Nat → Nat) (cI cC cL : ClassId) (sk sv : Nat → Nat) (adX bh ch adC adS : Nat → Nat) (N : Nat) (a0 a2 : Int32) (z0 z1 : jX) (r : Int32) (hf : fT_sameLetters_cT_pT N a0 a2 z0 = some (r, z1)) : Ci l yT_sameLetters (Cond.code yT_sameLetters prog_6_method_25_code 6 (some .boolean) :: TB) ({ frames := 1, cells := 0, slots := 0, locals := 21 }) (dC, dI) vwCl [(cI, .int), (cC, .char), (cL, .object "SharedSyntax$Letters")] (jEn sk sv) [.ref (adC 1), .int a0, .ref (adS 1), .int a2] (wX cI cC cL adX bh ch adC adS z0) (wX cI cC cL adX bh ch adC adS z1) r := by
  refine Ci_of (cc := prog_6_method_25_code) (maxL := 6) (ret := (some .boolean)) (by decide) rfl (Nat.le_of_ble_eq_true rfl) ?_
  intro p e s m below meth c ls F hl hK hN hC
  obtain ⟨hx, hb, hml, hown, hts, hr, hlk⟩ := F
  have ht : ∀ w ∈ TB, w.before [.ref (adC 1), .int a0, .ref (adS 1), .int a2].toArray s = true := fun w h => hts w (List.mem_cons_of_mem _ h)
  have hA : ∀ q, s.heap.size ≤ q → va_A (wX cI cC cL adX bh ch adC adS z0) s.heap.size q := fun q h => Or.inr h
  have hl : lv_has ls 6 [(0, .ref (adC 1)), (1, .int a0), (2, .ref (adS 1)), (3, .int a2)] := hl
  have L10 : ∀ (n : Nat) (x1 x3 x4 x5 : Int32) (s0 : jX) (ls : Array Slot) (H : Heap) (locs : List Loc), lv_has ls 6 [(0, .ref (adC 1)), (1, .int x1), (2, .ref (adS 1)), (3, .int x3), (4, .int x4), (5, .int x5)] → jcx (dC, dI) vwCl (va_A (wX cI cC cL adX bh ch adC adS z0) s.heap.size) s.heap (wX cI cC cL adX bh ch adC adS s0) H locs → fT_sameLetters_cT_pT_10 N n x1 x3 x4 x5 s0 = some (r, z1) → W p l e ({ frames := 1, cells := 0, slots := 0, locals := 21 }) s m [.ref (adC 1), .int a0, .ref (adS 1), .int a2].toArray below meth c H locs 0 0 (MQ below (jQi (dC, dI) vwCl [(cI, .int), (cC, .char), (cL, .object "SharedSyntax$Letters")] (wX cI cC cL adX bh ch adC adS z0) (wX cI cC cL adX bh ch adC adS z1) s.heap.size r) [.ref (adC 1), .int a0, .ref (adS 1), .int a2].toArray s 0 0 (va_A (wX cI cC cL adX bh ch adC adS z0) s.heap.size)) (F0 m 10 ls []) := by
    intro n
    induction n with
    | zero => exact fun _ _ _ _ _ _ _ _ _ _ hf => nomatch hf
    | succ n ih10 =>
      intro x1 x3 x4 x5 s0 ls H locs hl hC hf
      replace hf : fT_sameLetters_cT_pT_b10 N (fT_sameLetters_cT_pT_10 N n) x1 x3 x4 x5 s0 = some (r, z1) := hf
      generalize fT_sameLetters_cT_pT_10 N n = k10 at ih10 hf
      unfold fT_sameLetters_cT_pT_b10 at hf
      refine lv_iload hx hb dT_sameLetters_10 (lv_at hl 5 rfl) ?_
      refine lv_iload hx hb dT_sameLetters_12 (lv_at hl 4 rfl) ?_
      refine lv_icmp_ge (tgt := 60) hx hb dT_sameLetters_14 (by decide) (fun c1001 => ?_) (fun c1001 => ?_)
      · replace hf := jif_t c1001 hf
        refine lv_iconst (v := 1) hx hb dT_sameLetters_60 (by decide) ?_
        cases hf
        exact jret_z hx hb hr (by decide +kernel) hlk hC hK dT_sameLetters_61
      · replace hf := jif_f c1001 hf
        refine lv_aload_n hx hb dT_sameLetters_17 rfl (lv_at hl 0 rfl) ?_
        refine va_get (D := (dC, dI)) (ci := 2) (v := .ref (adC 3)) (C := RcT) (T := TcT) (N := 9) hx hb ht in_cT hown hK hC.1 12 (wX_e12 cI cC cL adX bh ch adC adS s0) rfl 0 (by decide) (ht _ tw52) (fun _ h9 => h9) rfl dT_sameLetters_18 ?_
        refine lv_aload_n hx hb dT_sameLetters_21 rfl (lv_at hl 0 rfl) ?_
        refine va_get (D := (dC, dI)) (ci := 2) (v := .ref (adC 10)) (C := RcT) (T := TcT) (N := 9) hx hb ht in_cT hown hK hC.1 12 (wX_e12 cI cC cL adX bh ch adC adS s0) rfl 3 (by decide) (ht _ tw57) (fun _ h9 => h9) rfl dT_sameLetters_22 ?_
        refine lv_iload_n hx hb dT_sameLetters_25 rfl (lv_at hl 1 rfl) ?_
        obtain ⟨hi1002, hf⟩ := jC_in hf
        refine va_iald hx hb hK hC.1 21 0 (wX_e21 cI cC cL adX bh ch adC adS s0) rfl hi1002 dT_sameLetters_26 ?_
        refine lv_iload hx hb dT_sameLetters_27 (lv_at hl 5 rfl) ?_
        refine lv_iadd hx hb dT_sameLetters_29 ?_
        obtain ⟨r1003, s1003, hc1003, hf⟩ := jB_some hf
        have hCc := wX_subc cI cC cL adX bh ch adC adS s0 hC
        refine jcallS_i (wX_mcc cI cC cL adX bh ch adC adS s0) (wX_mrc cI cC cL adX bh ch adC adS s0) rfl (by decide) (wX_mbc cI cC cL adX bh ch adC adS s0 s1003) rfl (va_runV (C := RcL) (As := [.int (jgA s0.2.1 6 (x1).toNatClampNeg + x5)]) (rest := []) ⟨hx, hb, hml, hown, hts⟩ ((cL_at l dC dI cI cC cL sk sv adC N (jgA s0.2.1 6 (x1).toNatClampNeg + x5) s0.2.1 s1003 r1003 hc1003) _) ⟨(callB_of 1 hts (tb_good tw164) rfl rfl rfl (ht _ tw3) (ht _ tw558) (by decide +kernel) ⟨Nat.le_of_ble_eq_true rfl, Nat.le_of_ble_eq_true rfl⟩), ht _ tw162, ht _ tw163⟩ (jpreV (jEn_ok sk sv) hCc hA hK hN (wR_e3 cI cC adC s0.2.1) rfl rfl _) rfl rfl hl.1 rfl (lv_room (Nat.le_of_ble_eq_true rfl)) dT_sameLetters_30 ⟨Nat.le_refl _, Nat.le_refl _⟩) hC hA (fun H locs hC => ?_)
        refine lv_aload_n hx hb dT_sameLetters_33 rfl (lv_at hl 2 rfl) ?_
        refine va_get (D := (dC, dI)) (ci := 2) (v := .ref (adS 3)) (C := RcT) (T := TcT) (N := 9) hx hb ht in_cT hown hK hC.1 30 (wX_e30 cI cC cL adX bh ch adC adS (s0.1, s1003, s0.2.2)) rfl 0 (by decide) (ht _ tw52) (fun _ h9 => h9) rfl dT_sameLetters_34 ?_
        refine lv_aload_n hx hb dT_sameLetters_37 rfl (lv_at hl 2 rfl) ?_
        refine va_get (D := (dC, dI)) (ci := 2) (v := .ref (adS 10)) (C := RcT) (T := TcT) (N := 9) hx hb ht in_cT hown hK hC.1 30 (wX_e30 cI cC cL adX bh ch adC adS (s0.1, s1003, s0.2.2)) rfl 3 (by decide) (ht _ tw57) (fun _ h9 => h9) rfl dT_sameLetters_38 ?_
        refine lv_iload_n hx hb dT_sameLetters_41 rfl (lv_at hl 3 rfl) ?_
        obtain ⟨hi1004, hf⟩ := jC_in hf
        refine va_iald hx hb hK hC.1 39 0 (wX_e39 cI cC cL adX bh ch adC adS (s0.1, s1003, s0.2.2)) rfl hi1004 dT_sameLetters_42 ?_
        refine lv_iload hx hb dT_sameLetters_43 (lv_at hl 5 rfl) ?_
        refine lv_iadd hx hb dT_sameLetters_45 ?_
        obtain ⟨r1005, s1005, hc1005, hf⟩ := jB_some hf
        have hCc := wX_subp cI cC cL adX bh ch adC adS (s0.1, s1003, s0.2.2) hC
        refine jcallS_i (wX_mcp cI cC cL adX bh ch adC adS (s0.1, s1003, s0.2.2)) (wX_mrp cI cC cL adX bh ch adC adS (s0.1, s1003, s0.2.2)) rfl (by decide) (wX_mbp cI cC cL adX bh ch adC adS (s0.1, s1003, s0.2.2) s1005) rfl (va_runV (C := RcL) (As := [.int (jgA s0.2.2 6 (x3).toNatClampNeg + x5)]) (rest := [.int r1003]) ⟨hx, hb, hml, hown, hts⟩ ((cL_at l dC dI cI cC cL sk sv adS N (jgA s0.2.2 6 (x3).toNatClampNeg + x5) s0.2.2 s1005 r1005 hc1005) _) ⟨(callB_of 1 hts (tb_good tw164) rfl rfl rfl (ht _ tw3) (ht _ tw558) (by decide +kernel) ⟨Nat.le_of_ble_eq_true rfl, Nat.le_of_ble_eq_true rfl⟩), ht _ tw162, ht _ tw163⟩ (jpreV (jEn_ok sk sv) hCc hA hK hN (wR_e3 cI cC adS s0.2.2) rfl rfl _) rfl rfl hl.1 rfl (lv_room (Nat.le_of_ble_eq_true rfl)) dT_sameLetters_46 ⟨Nat.le_refl _, Nat.le_refl _⟩) hC hA (fun H locs hC => ?_)
        refine lv_icmp_eq (tgt := 54) hx hb dT_sameLetters_49 (by decide) (fun c1006 => ?_) (fun c1006 => ?_)
        · replace hf := jif_t c1006 hf
          refine lv_iinc (k := 5) (v := (x5 + (1 : Int32))) (lv' := [(5, .int (x5 + (1 : Int32))), (0, .ref (adC 1)), (1, .int x1), (2, .ref (adS 1)), (3, .int x3), (4, .int x4)]) hx hb dT_sameLetters_54 hl rfl rfl (by decide) rfl (fun ls hl => ?_)
          refine lv_goto (tgt := 10) hx hb dT_sameLetters_57 (by decide) ?_
          exact ih10 x1 x3 x4 (x5 + (1 : Int32)) (s0.1, s1003, s1005) ls _ _ (lv_sub hl [1, 2, 3, 4, 5, 0] rfl) hC hf
        · replace hf := jif_f c1006 hf
          refine lv_iconst (v := 0) hx hb dT_sameLetters_52 (by decide) ?_
          cases hf
          exact jret_z hx hb hr (by decide +kernel) hlk hC hK dT_sameLetters_53
  unfold fT_sameLetters_cT_pT at hf
  refine lv_aload_n hx hb dT_sameLetters_0 rfl (lv_at hl 0 rfl) ?_
  refine lv_iload_n hx hb dT_sameLetters_1 rfl (lv_at hl 1 rfl) ?_
  obtain ⟨r1, s1, hc1, hf⟩ := jB_some hf
  have hCc := wX_subc cI cC cL adX bh ch adC adS z0 hC
  refine jcallS_i (wX_mcc cI cC cL adX bh ch adC adS z0) (wX_mrc cI cC cL adX bh ch adC adS z0) rfl (by decide) (wX_mbc cI cC cL adX bh ch adC adS z0 s1) rfl (va_runV (C := RcT) (As := [.int a0]) (rest := []) ⟨hx, hb, hml, hown, hts⟩ ((cT_stretchOf l dC dI cI cC cL sk sv adC N a0 z0.2.1 s1 r1 hc1) _) ⟨(callB_of 1 hts (tb_good tw540) rfl rfl rfl (ht _ tw4) (ht _ tw549) (by decide +kernel) ⟨Nat.le_of_ble_eq_true rfl, Nat.le_of_ble_eq_true rfl⟩), ht _ tw538, ht _ tw539⟩ (jpreV (jEn_ok sk sv) hCc hA hK hN (wR_e1 cI cC adC z0.2.1) rfl rfl _) rfl rfl hl.1 rfl (lv_room (Nat.le_of_ble_eq_true rfl)) dT_sameLetters_2 ⟨Nat.le_refl _, Nat.le_refl _⟩) hC hA (fun H locs hC => ?_)
  refine lv_istore (lv' := [(4, .int r1), (0, .ref (adC 1)), (1, .int a0), (2, .ref (adS 1)), (3, .int a2)]) hx hb dT_sameLetters_5 hl (by decide) rfl (fun ls hl => ?_)
  refine lv_iconst (v := 0) hx hb dT_sameLetters_7 (by decide) ?_
  refine lv_istore (lv' := [(5, .int (0 : Int32)), (4, .int r1), (0, .ref (adC 1)), (1, .int a0), (2, .ref (adS 1)), (3, .int a2)]) hx hb dT_sameLetters_8 hl (by decide) rfl (fun ls hl => ?_)
  exact L10 N a0 a2 r1 (0 : Int32) (z0.1, s1, z0.2.2) ls _ _ (lv_sub hl [2, 3, 4, 5, 1, 0] rfl) hC hf

def fT_sameFaults_cT_pT_b27 (N : Nat) (k27 : Int32 → Int32 → Int32 → Int32 → Int32 → jX → Option (Int32 × jX)) (x1 x3 x4 x5 x6 : Int32) (s0 : jX) : Option (Int32 × jX) := (if x4 ≤ x6 then some ((1 : Int32), s0) else (if jIn x1 363 = true then (if jIn (jgA s0.2.1 8 (x1).toNatClampNeg + x6) 180 = true then (if jIn x3 363 = true then (if jIn (jgA s0.2.2 8 (x3).toNatClampNeg + x6) 180 = true then (if (jgA s0.2.1 9 ((jgA s0.2.1 8 (x1).toNatClampNeg + x6)).toNatClampNeg - jgA s0.2.2 9 ((jgA s0.2.2 8 (x3).toNatClampNeg + x6)).toNatClampNeg) = x5 then k27 x1 x3 x4 x5 (x6 + (1 : Int32)) s0 else some ((0 : Int32), s0)) else none) else none) else none) else none))
def fT_sameFaults_cT_pT_27 (N : Nat) : Nat → Int32 → Int32 → Int32 → Int32 → Int32 → jX → Option (Int32 × jX)
  | 0 => fun _ _ _ _ _ _ => none
  | n + 1 => fun x1 x3 x4 x5 x6 s0 => fT_sameFaults_cT_pT_b27 N (fT_sameFaults_cT_pT_27 N n) x1 x3 x4 x5 x6 s0
def fT_sameFaults_cT_pT (N : Nat) (a0 a2 : Int32) (z0 : jX) : Option (Int32 × jX) := (jB (fT_faultsIn N a0 z0.2.1) fun r1 s1 => (if jIn a0 363 = true then (if jIn a2 363 = true then fT_sameFaults_cT_pT_27 N N a0 a2 r1 ((4 : Int32) * (jgA s1 6 (a0).toNatClampNeg - jgA z0.2.2 6 (a2).toNatClampNeg)) (0 : Int32) (z0.1, s1, z0.2.2) else none) else none))
set_option maxHeartbeats 4000000 in
set_option maxRecDepth 100000 in
theorem cT_sameFaults_cT_pT (l : Launch) (dC : Nat → ClassId) (dI : Nat → Nat → Nat) (cI cC cL : ClassId) (sk sv : Nat → Nat) (adX bh ch adC adS : Nat → Nat) (N : Nat) (a0 a2 : Int32) (z0 z1 : jX) (r : Int32) (hf : fT_sameFaults_cT_pT N a0 a2 z0 = some (r, z1)) : Ci l yT_sameFaults (Cond.code yT_sameFaults prog_6_method_26_code 9 (some .boolean) :: TB) ({ frames := 1, cells := 0, slots := 0, locals := 21 }) (dC, dI) vwCl [(cI, .int), (cC, .char), (cL, .object "SharedSyntax$Letters")] (jEn sk sv) [.ref (adC 1), .int a0, .ref (adS 1), .int a2] (wX cI cC cL adX bh ch adC adS z0) (wX cI cC cL adX bh ch adC adS z1) r := by
  refine Ci_of (cc := prog_6_method_26_code) (maxL := 9) (ret := (some .boolean)) (by decide) rfl (Nat.le_of_ble_eq_true rfl) ?_
  intro p e s m below meth c ls F hl hK hN hC
  obtain ⟨hx, hb, hml, hown, hts, hr, hlk⟩ := F
  have ht : ∀ w ∈ TB, w.before [.ref (adC 1), .int a0, .ref (adS 1), .int a2].toArray s = true := fun w h => hts w (List.mem_cons_of_mem _ h)
  have hA : ∀ q, s.heap.size ≤ q → va_A (wX cI cC cL adX bh ch adC adS z0) s.heap.size q := fun q h => Or.inr h
  have hl : lv_has ls 9 [(0, .ref (adC 1)), (1, .int a0), (2, .ref (adS 1)), (3, .int a2)] := hl
  have L27 : ∀ (n : Nat) (x1 x3 x4 x5 x6 : Int32) (s0 : jX) (ls : Array Slot) (H : Heap) (locs : List Loc), lv_has ls 9 [(0, .ref (adC 1)), (1, .int x1), (2, .ref (adS 1)), (3, .int x3), (4, .int x4), (5, .int x5), (6, .int x6)] → jcx (dC, dI) vwCl (va_A (wX cI cC cL adX bh ch adC adS z0) s.heap.size) s.heap (wX cI cC cL adX bh ch adC adS s0) H locs → fT_sameFaults_cT_pT_27 N n x1 x3 x4 x5 x6 s0 = some (r, z1) → W p l e ({ frames := 1, cells := 0, slots := 0, locals := 21 }) s m [.ref (adC 1), .int a0, .ref (adS 1), .int a2].toArray below meth c H locs 0 0 (MQ below (jQi (dC, dI) vwCl [(cI, .int), (cC, .char), (cL, .object "SharedSyntax$Letters")] (wX cI cC cL adX bh ch adC adS z0) (wX cI cC cL adX bh ch adC adS z1) s.heap.size r) [.ref (adC 1), .int a0, .ref (adS 1), .int a2].toArray s 0 0 (va_A (wX cI cC cL adX bh ch adC adS z0) s.heap.size)) (F0 m 27 ls []) := by
    intro n
    induction n with
    | zero => exact fun _ _ _ _ _ _ _ _ _ _ _ hf => nomatch hf
    | succ n ih27 =>
      intro x1 x3 x4 x5 x6 s0 ls H locs hl hC hf
      replace hf : fT_sameFaults_cT_pT_b27 N (fT_sameFaults_cT_pT_27 N n) x1 x3 x4 x5 x6 s0 = some (r, z1) := hf
      generalize fT_sameFaults_cT_pT_27 N n = k27 at ih27 hf
      unfold fT_sameFaults_cT_pT_b27 at hf
      refine lv_iload hx hb dT_sameFaults_27 (lv_at hl 6 rfl) ?_
      refine lv_iload hx hb dT_sameFaults_29 (lv_at hl 4 rfl) ?_
      refine lv_icmp_ge (tgt := 84) hx hb dT_sameFaults_31 (by decide) (fun c2701 => ?_) (fun c2701 => ?_)
      · replace hf := jif_t c2701 hf
        refine lv_iconst (v := 1) hx hb dT_sameFaults_84 (by decide) ?_
        cases hf
        exact jret_z hx hb hr (by decide +kernel) hlk hC hK dT_sameFaults_85
      · replace hf := jif_f c2701 hf
        refine lv_aload_n hx hb dT_sameFaults_34 rfl (lv_at hl 0 rfl) ?_
        refine va_get (D := (dC, dI)) (ci := 2) (v := .ref (adC 13)) (C := RcT) (T := TcT) (N := 9) hx hb ht in_cT hown hK hC.1 12 (wX_e12 cI cC cL adX bh ch adC adS s0) rfl 6 (by decide) (ht _ tw61) (fun _ h9 => h9) rfl dT_sameFaults_35 ?_
        refine lv_aload_n hx hb dT_sameFaults_38 rfl (lv_at hl 0 rfl) ?_
        refine va_get (D := (dC, dI)) (ci := 2) (v := .ref (adC 12)) (C := RcT) (T := TcT) (N := 9) hx hb ht in_cT hown hK hC.1 12 (wX_e12 cI cC cL adX bh ch adC adS s0) rfl 5 (by decide) (ht _ tw60) (fun _ h9 => h9) rfl dT_sameFaults_39 ?_
        refine lv_iload_n hx hb dT_sameFaults_42 rfl (lv_at hl 1 rfl) ?_
        obtain ⟨hi2702, hf⟩ := jC_in hf
        refine va_iald hx hb hK hC.1 23 0 (wX_e23 cI cC cL adX bh ch adC adS s0) rfl hi2702 dT_sameFaults_43 ?_
        refine lv_iload hx hb dT_sameFaults_44 (lv_at hl 6 rfl) ?_
        refine lv_iadd hx hb dT_sameFaults_46 ?_
        obtain ⟨hi2703, hf⟩ := jC_in hf
        refine va_iald hx hb hK hC.1 24 0 (wX_e24 cI cC cL adX bh ch adC adS s0) rfl hi2703 dT_sameFaults_47 ?_
        refine lv_istore (lv' := [(7, .int (jgA s0.2.1 9 ((jgA s0.2.1 8 (x1).toNatClampNeg + x6)).toNatClampNeg)), (0, .ref (adC 1)), (1, .int x1), (2, .ref (adS 1)), (3, .int x3), (4, .int x4), (5, .int x5), (6, .int x6)]) hx hb dT_sameFaults_48 hl (by decide) rfl (fun ls hl => ?_)
        refine lv_aload_n hx hb dT_sameFaults_50 rfl (lv_at hl 3 rfl) ?_
        refine va_get (D := (dC, dI)) (ci := 2) (v := .ref (adS 13)) (C := RcT) (T := TcT) (N := 9) hx hb ht in_cT hown hK hC.1 30 (wX_e30 cI cC cL adX bh ch adC adS s0) rfl 6 (by decide) (ht _ tw61) (fun _ h9 => h9) rfl dT_sameFaults_51 ?_
        refine lv_aload_n hx hb dT_sameFaults_54 rfl (lv_at hl 3 rfl) ?_
        refine va_get (D := (dC, dI)) (ci := 2) (v := .ref (adS 12)) (C := RcT) (T := TcT) (N := 9) hx hb ht in_cT hown hK hC.1 30 (wX_e30 cI cC cL adX bh ch adC adS s0) rfl 5 (by decide) (ht _ tw60) (fun _ h9 => h9) rfl dT_sameFaults_55 ?_
        refine lv_iload_n hx hb dT_sameFaults_58 rfl (lv_at hl 4 rfl) ?_
        obtain ⟨hi2704, hf⟩ := jC_in hf
        refine va_iald hx hb hK hC.1 41 0 (wX_e41 cI cC cL adX bh ch adC adS s0) rfl hi2704 dT_sameFaults_59 ?_
        refine lv_iload hx hb dT_sameFaults_60 (lv_at hl 7 rfl) ?_
        refine lv_iadd hx hb dT_sameFaults_62 ?_
        obtain ⟨hi2705, hf⟩ := jC_in hf
        refine va_iald hx hb hK hC.1 42 0 (wX_e42 cI cC cL adX bh ch adC adS s0) rfl hi2705 dT_sameFaults_63 ?_
        refine lv_istore (lv' := [(8, .int (jgA s0.2.2 9 ((jgA s0.2.2 8 (x3).toNatClampNeg + x6)).toNatClampNeg)), (7, .int (jgA s0.2.1 9 ((jgA s0.2.1 8 (x1).toNatClampNeg + x6)).toNatClampNeg)), (0, .ref (adC 1)), (1, .int x1), (2, .ref (adS 1)), (3, .int x3), (4, .int x4), (5, .int x5), (6, .int x6)]) hx hb dT_sameFaults_64 hl (by decide) rfl (fun ls hl => ?_)
        refine lv_iload hx hb dT_sameFaults_66 (lv_at hl 1 rfl) ?_
        refine lv_iload hx hb dT_sameFaults_68 (lv_at hl 0 rfl) ?_
        refine lv_isub hx hb dT_sameFaults_70 ?_
        refine lv_iload hx hb dT_sameFaults_71 (lv_at hl 7 rfl) ?_
        refine lv_icmp_eq (tgt := 78) hx hb dT_sameFaults_73 (by decide) (fun c2706 => ?_) (fun c2706 => ?_)
        · replace hf := jif_t c2706 hf
          refine lv_iinc (k := 8) (v := (x6 + (1 : Int32))) (lv' := [(6, .int (x6 + (1 : Int32))), (8, .int (jgA s0.2.2 9 ((jgA s0.2.2 8 (x3).toNatClampNeg + x6)).toNatClampNeg)), (7, .int (jgA s0.2.1 9 ((jgA s0.2.1 8 (x1).toNatClampNeg + x6)).toNatClampNeg)), (0, .ref (adC 1)), (1, .int x1), (2, .ref (adS 1)), (3, .int x3), (4, .int x4), (5, .int x5)]) hx hb dT_sameFaults_78 hl rfl rfl (by decide) rfl (fun ls hl => ?_)
          refine lv_goto (tgt := 27) hx hb dT_sameFaults_81 (by decide) ?_
          exact ih27 x1 x3 x4 x5 (x6 + (1 : Int32)) s0 ls _ _ (lv_sub hl [3, 4, 5, 6, 7, 8, 0] rfl) hC hf
        · replace hf := jif_f c2706 hf
          refine lv_iconst (v := 0) hx hb dT_sameFaults_76 (by decide) ?_
          cases hf
          exact jret_z hx hb hr (by decide +kernel) hlk hC hK dT_sameFaults_77
  unfold fT_sameFaults_cT_pT at hf
  refine lv_aload_n hx hb dT_sameFaults_0 rfl (lv_at hl 0 rfl) ?_
  refine lv_iload_n hx hb dT_sameFaults_1 rfl (lv_at hl 1 rfl) ?_
  obtain ⟨r1, s1, hc1, hf⟩ := jB_some hf
  have hCc := wX_subc cI cC cL adX bh ch adC adS z0 hC
  refine jcallS_i (wX_mcc cI cC cL adX bh ch adC adS z0) (wX_mrc cI cC cL adX bh ch adC adS z0) rfl (by decide) (wX_mbc cI cC cL adX bh ch adC adS z0 s1) rfl (va_runV (C := RcT) (As := [.int a0]) (rest := []) ⟨hx, hb, hml, hown, hts⟩ ((cT_faultsIn l dC dI cI cC cL sk sv adC N a0 z0.2.1 s1 r1 hc1) _) ⟨(callB_of 1 hts (tb_good tw553) rfl rfl rfl (ht _ tw4) (ht _ tw550) (by decide +kernel) ⟨Nat.le_of_ble_eq_true rfl, Nat.le_of_ble_eq_true rfl⟩), ht _ tw551, ht _ tw552⟩ (jpreV (jEn_ok sk sv) hCc hA hK hN (wR_e1 cI cC adC z0.2.1) rfl rfl _) rfl rfl hl.1 rfl (lv_room (Nat.le_of_ble_eq_true rfl)) dT_sameFaults_2 ⟨Nat.le_refl _, Nat.le_refl _⟩) hC hA (fun H locs hC => ?_)
  refine lv_istore (lv' := [(4, .int r1), (0, .ref (adC 1)), (1, .int a0), (2, .ref (adS 1)), (3, .int a2)]) hx hb dT_sameFaults_5 hl (by decide) rfl (fun ls hl => ?_)
  refine lv_iconst (v := 4) hx hb dT_sameFaults_7 (by decide) ?_
  refine lv_aload_n hx hb dT_sameFaults_8 rfl (lv_at hl 1 rfl) ?_
  refine va_get (D := (dC, dI)) (ci := 2) (v := .ref (adC 10)) (C := RcT) (T := TcT) (N := 9) hx hb ht in_cT hown hK hC.1 12 (wX_e12 cI cC cL adX bh ch adC adS (z0.1, s1, z0.2.2)) rfl 3 (by decide) (ht _ tw57) (fun _ h9 => h9) rfl dT_sameFaults_9 ?_
  refine lv_iload_n hx hb dT_sameFaults_12 rfl (lv_at hl 2 rfl) ?_
  obtain ⟨hi2, hf⟩ := jC_in hf
  refine va_iald hx hb hK hC.1 21 0 (wX_e21 cI cC cL adX bh ch adC adS (z0.1, s1, z0.2.2)) rfl hi2 dT_sameFaults_13 ?_
  refine lv_aload_n hx hb dT_sameFaults_14 rfl (lv_at hl 3 rfl) ?_
  refine va_get (D := (dC, dI)) (ci := 2) (v := .ref (adS 10)) (C := RcT) (T := TcT) (N := 9) hx hb ht in_cT hown hK hC.1 30 (wX_e30 cI cC cL adX bh ch adC adS (z0.1, s1, z0.2.2)) rfl 3 (by decide) (ht _ tw57) (fun _ h9 => h9) rfl dT_sameFaults_15 ?_
  refine lv_iload_n hx hb dT_sameFaults_18 rfl (lv_at hl 4 rfl) ?_
  obtain ⟨hi3, hf⟩ := jC_in hf
  refine va_iald hx hb hK hC.1 39 0 (wX_e39 cI cC cL adX bh ch adC adS (z0.1, s1, z0.2.2)) rfl hi3 dT_sameFaults_19 ?_
  refine lv_isub hx hb dT_sameFaults_20 ?_
  refine lv_imul hx hb dT_sameFaults_21 ?_
  refine lv_istore (lv' := [(5, .int ((4 : Int32) * (jgA s1 6 (a0).toNatClampNeg - jgA z0.2.2 6 (a2).toNatClampNeg))), (4, .int r1), (0, .ref (adC 1)), (1, .int a0), (2, .ref (adS 1)), (3, .int a2)]) hx hb dT_sameFaults_22 hl (by decide) rfl (fun ls hl => ?_)
  refine lv_iconst (v := 0) hx hb dT_sameFaults_24 (by decide) ?_
  refine lv_istore (lv' := [(6, .int (0 : Int32)), (5, .int ((4 : Int32) * (jgA s1 6 (a0).toNatClampNeg - jgA z0.2.2 6 (a2).toNatClampNeg))), (4, .int r1), (0, .ref (adC 1)), (1, .int a0), (2, .ref (adS 1)), (3, .int a2)]) hx hb dT_sameFaults_25 hl (by decide) rfl (fun ls hl => ?_)
  exact L27 N a0 a2 r1 ((4 : Int32) * (jgA s1 6 (a0).toNatClampNeg - jgA z0.2.2 6 (a2).toNatClampNeg)) (0 : Int32) (z0.1, s1, z0.2.2) ls _ _ (lv_sub hl [3, 4, 5, 6, 2, 1, 0] rfl) hC hf

def fT_sameNode_cT_pT (N : Nat) (a0 a2 : Int32) (z0 : jX) : Option (Int32 × jX) := (if jIn a0 363 = true then (if jIn a2 363 = true then (if jgA z0.2.1 4 (a0).toNatClampNeg = jgA z0.2.2 4 (a2).toNatClampNeg then (if jIn a0 363 = true then (if jIn a2 363 = true then (if jgA z0.2.1 5 (a0).toNatClampNeg = jgA z0.2.2 5 (a2).toNatClampNeg then (jB (fT_stretchOf N a0 z0.2.1) fun r7 s7 => (jB (fT_stretchOf N a2 z0.2.2) fun r8 s8 => (if r7 = r8 then (jB (fT_faultsIn N a0 s7) fun r10 s10 => (jB (fT_faultsIn N a2 s8) fun r11 s11 => (if r10 = r11 then some ((1 : Int32), (z0.1, s10, s11)) else some ((0 : Int32), (z0.1, s10, s11))))) else some ((0 : Int32), (z0.1, s7, s8))))) else some ((0 : Int32), z0)) else none) else none) else some ((0 : Int32), z0)) else none) else none)
set_option maxHeartbeats 4000000 in
set_option maxRecDepth 100000 in
theorem cT_sameNode_cT_pT (l : Launch) (dC : Nat → ClassId) (dI : Nat → Nat → Nat) (cI cC cL : ClassId) (sk sv : Nat → Nat) (adX bh ch adC adS : Nat → Nat) (N : Nat) (a0 a2 : Int32) (z0 z1 : jX) (r : Int32) (hf : fT_sameNode_cT_pT N a0 a2 z0 = some (r, z1)) : Ci l yT_sameNode (Cond.code yT_sameNode prog_6_method_24_code 4 (some .boolean) :: TB) ({ frames := 1, cells := 0, slots := 0, locals := 21 }) (dC, dI) vwCl [(cI, .int), (cC, .char), (cL, .object "SharedSyntax$Letters")] (jEn sk sv) [.ref (adC 1), .int a0, .ref (adS 1), .int a2] (wX cI cC cL adX bh ch adC adS z0) (wX cI cC cL adX bh ch adC adS z1) r := by
  refine Ci_of (cc := prog_6_method_24_code) (maxL := 4) (ret := (some .boolean)) (by decide) rfl (Nat.le_of_ble_eq_true rfl) ?_
  intro p e s m below meth c ls F hl hK hN hC
  obtain ⟨hx, hb, hml, hown, hts, hr, hlk⟩ := F
  have ht : ∀ w ∈ TB, w.before [.ref (adC 1), .int a0, .ref (adS 1), .int a2].toArray s = true := fun w h => hts w (List.mem_cons_of_mem _ h)
  have hA : ∀ q, s.heap.size ≤ q → va_A (wX cI cC cL adX bh ch adC adS z0) s.heap.size q := fun q h => Or.inr h
  have hl : lv_has ls 4 [(0, .ref (adC 1)), (1, .int a0), (2, .ref (adS 1)), (3, .int a2)] := hl
  unfold fT_sameNode_cT_pT at hf
  refine lv_aload_n hx hb dT_sameNode_0 rfl (lv_at hl 0 rfl) ?_
  refine va_get (D := (dC, dI)) (ci := 2) (v := .ref (adC 8)) (C := RcT) (T := TcT) (N := 9) hx hb ht in_cT hown hK hC.1 12 (wX_e12 cI cC cL adX bh ch adC adS z0) rfl 1 (by decide) (ht _ tw53) (fun _ h9 => h9) rfl dT_sameNode_1 ?_
  refine lv_iload_n hx hb dT_sameNode_4 rfl (lv_at hl 1 rfl) ?_
  obtain ⟨hi1, hf⟩ := jC_in hf
  refine va_iald hx hb hK hC.1 19 0 (wX_e19 cI cC cL adX bh ch adC adS z0) rfl hi1 dT_sameNode_5 ?_
  refine lv_aload_n hx hb dT_sameNode_6 rfl (lv_at hl 2 rfl) ?_
  refine va_get (D := (dC, dI)) (ci := 2) (v := .ref (adS 8)) (C := RcT) (T := TcT) (N := 9) hx hb ht in_cT hown hK hC.1 30 (wX_e30 cI cC cL adX bh ch adC adS z0) rfl 1 (by decide) (ht _ tw53) (fun _ h9 => h9) rfl dT_sameNode_7 ?_
  refine lv_iload_n hx hb dT_sameNode_10 rfl (lv_at hl 3 rfl) ?_
  obtain ⟨hi2, hf⟩ := jC_in hf
  refine va_iald hx hb hK hC.1 37 0 (wX_e37 cI cC cL adX bh ch adC adS z0) rfl hi2 dT_sameNode_11 ?_
  refine lv_icmp_ne (tgt := 60) hx hb dT_sameNode_12 (by decide) (fun c3 => ?_) (fun c3 => ?_)
  · replace hf := jif_f c3 hf
    refine lv_iconst (v := 0) hx hb dT_sameNode_60 (by decide) ?_
    cases hf
    exact jret_z hx hb hr (by decide +kernel) hlk hC hK dT_sameNode_61
  · replace hf := jif_t c3 hf
    refine lv_aload_n hx hb dT_sameNode_15 rfl (lv_at hl 0 rfl) ?_
    refine va_get (D := (dC, dI)) (ci := 2) (v := .ref (adC 9)) (C := RcT) (T := TcT) (N := 9) hx hb ht in_cT hown hK hC.1 12 (wX_e12 cI cC cL adX bh ch adC adS z0) rfl 2 (by decide) (ht _ tw55) (fun _ h9 => h9) rfl dT_sameNode_16 ?_
    refine lv_iload_n hx hb dT_sameNode_19 rfl (lv_at hl 1 rfl) ?_
    obtain ⟨hi4, hf⟩ := jC_in hf
    refine va_iald hx hb hK hC.1 20 0 (wX_e20 cI cC cL adX bh ch adC adS z0) rfl hi4 dT_sameNode_20 ?_
    refine lv_aload_n hx hb dT_sameNode_21 rfl (lv_at hl 2 rfl) ?_
    refine va_get (D := (dC, dI)) (ci := 2) (v := .ref (adS 9)) (C := RcT) (T := TcT) (N := 9) hx hb ht in_cT hown hK hC.1 30 (wX_e30 cI cC cL adX bh ch adC adS z0) rfl 2 (by decide) (ht _ tw55) (fun _ h9 => h9) rfl dT_sameNode_22 ?_
    refine lv_iload_n hx hb dT_sameNode_25 rfl (lv_at hl 3 rfl) ?_
    obtain ⟨hi5, hf⟩ := jC_in hf
    refine va_iald hx hb hK hC.1 38 0 (wX_e38 cI cC cL adX bh ch adC adS z0) rfl hi5 dT_sameNode_26 ?_
    refine lv_icmp_ne (tgt := 60) hx hb dT_sameNode_27 (by decide) (fun c6 => ?_) (fun c6 => ?_)
    · replace hf := jif_f c6 hf
      refine lv_iconst (v := 0) hx hb dT_sameNode_60 (by decide) ?_
      cases hf
      exact jret_z hx hb hr (by decide +kernel) hlk hC hK dT_sameNode_61
    · replace hf := jif_t c6 hf
      refine lv_aload_n hx hb dT_sameNode_30 rfl (lv_at hl 0 rfl) ?_
      refine lv_iload_n hx hb dT_sameNode_31 rfl (lv_at hl 1 rfl) ?_
      obtain ⟨r7, s7, hc7, hf⟩ := jB_some hf
      have hCc := wX_subc cI cC cL adX bh ch adC adS z0 hC
      refine jcallS_i (wX_mcc cI cC cL adX bh ch adC adS z0) (wX_mrc cI cC cL adX bh ch adC adS z0) rfl (by decide) (wX_mbc cI cC cL adX bh ch adC adS z0 s7) rfl (va_runV (C := RcT) (As := [.int a0]) (rest := []) ⟨hx, hb, hml, hown, hts⟩ ((cT_stretchOf l dC dI cI cC cL sk sv adC N a0 z0.2.1 s7 r7 hc7) _) ⟨(callB_of 1 hts (tb_good tw540) rfl rfl rfl (ht _ tw4) (ht _ tw549) (by decide +kernel) ⟨Nat.le_of_ble_eq_true rfl, Nat.le_of_ble_eq_true rfl⟩), ht _ tw538, ht _ tw539⟩ (jpreV (jEn_ok sk sv) hCc hA hK hN (wR_e1 cI cC adC z0.2.1) rfl rfl _) rfl rfl hl.1 rfl (lv_room (Nat.le_of_ble_eq_true rfl)) dT_sameNode_32 ⟨Nat.le_refl _, Nat.le_refl _⟩) hC hA (fun H locs hC => ?_)
      refine lv_aload_n hx hb dT_sameNode_35 rfl (lv_at hl 2 rfl) ?_
      refine lv_iload_n hx hb dT_sameNode_36 rfl (lv_at hl 3 rfl) ?_
      obtain ⟨r8, s8, hc8, hf⟩ := jB_some hf
      have hCc := wX_subp cI cC cL adX bh ch adC adS (z0.1, s7, z0.2.2) hC
      refine jcallS_i (wX_mcp cI cC cL adX bh ch adC adS (z0.1, s7, z0.2.2)) (wX_mrp cI cC cL adX bh ch adC adS (z0.1, s7, z0.2.2)) rfl (by decide) (wX_mbp cI cC cL adX bh ch adC adS (z0.1, s7, z0.2.2) s8) rfl (va_runV (C := RcT) (As := [.int a2]) (rest := [.int r7]) ⟨hx, hb, hml, hown, hts⟩ ((cT_stretchOf l dC dI cI cC cL sk sv adS N a2 z0.2.2 s8 r8 hc8) _) ⟨(callB_of 1 hts (tb_good tw540) rfl rfl rfl (ht _ tw4) (ht _ tw549) (by decide +kernel) ⟨Nat.le_of_ble_eq_true rfl, Nat.le_of_ble_eq_true rfl⟩), ht _ tw538, ht _ tw539⟩ (jpreV (jEn_ok sk sv) hCc hA hK hN (wR_e1 cI cC adS z0.2.2) rfl rfl _) rfl rfl hl.1 rfl (lv_room (Nat.le_of_ble_eq_true rfl)) dT_sameNode_37 ⟨Nat.le_refl _, Nat.le_refl _⟩) hC hA (fun H locs hC => ?_)
      refine lv_icmp_ne (tgt := 60) hx hb dT_sameNode_40 (by decide) (fun c9 => ?_) (fun c9 => ?_)
      · replace hf := jif_f c9 hf
        refine lv_iconst (v := 0) hx hb dT_sameNode_60 (by decide) ?_
        cases hf
        exact jret_z hx hb hr (by decide +kernel) hlk hC hK dT_sameNode_61
      · replace hf := jif_t c9 hf
        refine lv_aload_n hx hb dT_sameNode_43 rfl (lv_at hl 0 rfl) ?_
        refine lv_iload_n hx hb dT_sameNode_44 rfl (lv_at hl 1 rfl) ?_
        obtain ⟨r10, s10, hc10, hf⟩ := jB_some hf
        have hCc := wX_subc cI cC cL adX bh ch adC adS (z0.1, s7, s8) hC
        refine jcallS_i (wX_mcc cI cC cL adX bh ch adC adS (z0.1, s7, s8)) (wX_mrc cI cC cL adX bh ch adC adS (z0.1, s7, s8)) rfl (by decide) (wX_mbc cI cC cL adX bh ch adC adS (z0.1, s7, s8) s10) rfl (va_runV (C := RcT) (As := [.int a0]) (rest := []) ⟨hx, hb, hml, hown, hts⟩ ((cT_faultsIn l dC dI cI cC cL sk sv adC N a0 s7 s10 r10 hc10) _) ⟨(callB_of 1 hts (tb_good tw553) rfl rfl rfl (ht _ tw4) (ht _ tw550) (by decide +kernel) ⟨Nat.le_of_ble_eq_true rfl, Nat.le_of_ble_eq_true rfl⟩), ht _ tw551, ht _ tw552⟩ (jpreV (jEn_ok sk sv) hCc hA hK hN (wR_e1 cI cC adC s7) rfl rfl _) rfl rfl hl.1 rfl (lv_room (Nat.le_of_ble_eq_true rfl)) dT_sameNode_45 ⟨Nat.le_refl _, Nat.le_refl _⟩) hC hA (fun H locs hC => ?_)
        refine lv_aload_n hx hb dT_sameNode_48 rfl (lv_at hl 2 rfl) ?_
        refine lv_iload_n hx hb dT_sameNode_49 rfl (lv_at hl 3 rfl) ?_
        obtain ⟨r11, s11, hc11, hf⟩ := jB_some hf
        have hCc := wX_subp cI cC cL adX bh ch adC adS (z0.1, s10, s8) hC
        refine jcallS_i (wX_mcp cI cC cL adX bh ch adC adS (z0.1, s10, s8)) (wX_mrp cI cC cL adX bh ch adC adS (z0.1, s10, s8)) rfl (by decide) (wX_mbp cI cC cL adX bh ch adC adS (z0.1, s10, s8) s11) rfl (va_runV (C := RcT) (As := [.int a2]) (rest := [.int r10]) ⟨hx, hb, hml, hown, hts⟩ ((cT_faultsIn l dC dI cI cC cL sk sv adS N a2 s8 s11 r11 hc11) _) ⟨(callB_of 1 hts (tb_good tw553) rfl rfl rfl (ht _ tw4) (ht _ tw550) (by decide +kernel) ⟨Nat.le_of_ble_eq_true rfl, Nat.le_of_ble_eq_true rfl⟩), ht _ tw551, ht _ tw552⟩ (jpreV (jEn_ok sk sv) hCc hA hK hN (wR_e1 cI cC adS s8) rfl rfl _) rfl rfl hl.1 rfl (lv_room (Nat.le_of_ble_eq_true rfl)) dT_sameNode_50 ⟨Nat.le_refl _, Nat.le_refl _⟩) hC hA (fun H locs hC => ?_)
        refine lv_icmp_ne (tgt := 60) hx hb dT_sameNode_53 (by decide) (fun c12 => ?_) (fun c12 => ?_)
        · replace hf := jif_f c12 hf
          refine lv_iconst (v := 0) hx hb dT_sameNode_60 (by decide) ?_
          cases hf
          exact jret_z hx hb hr (by decide +kernel) hlk hC hK dT_sameNode_61
        · replace hf := jif_t c12 hf
          refine lv_iconst (v := 1) hx hb dT_sameNode_56 (by decide) ?_
          refine lv_goto (tgt := 61) hx hb dT_sameNode_57 (by decide) ?_
          cases hf
          exact jret_z hx hb hr (by decide +kernel) hlk hC hK dT_sameNode_61

def fT_matches_cT_pT_b15 (N : Nat) (k15 : Int32 → Int32 → Int32 → jX → Option (Int32 × jX)) (x1 x3 x4 : Int32) (s0 : jX) : Option (Int32 × jX) := (if jIn x1 363 = true then (if jgA s0.2.1 5 (x1).toNatClampNeg ≤ x4 then (jB (fT_sameLetters_cT_pT N x1 x3 s0) fun r1503 s1503 => (if r1503 = 0 then some ((0 : Int32), s1503) else (jB (fT_sameFaults_cT_pT N x1 x3 s1503) fun r1505 s1505 => (if r1505 = 0 then some ((0 : Int32), s1505) else some ((1 : Int32), s1505))))) else (jB (fT_sameNode_cT_pT N (x1 + x4) (x3 + x4) s0) fun r1507 s1507 => (if r1507 = 0 then some ((0 : Int32), s1507) else k15 x1 x3 (x4 + (1 : Int32)) s1507))) else none)
def fT_matches_cT_pT_15 (N : Nat) : Nat → Int32 → Int32 → Int32 → jX → Option (Int32 × jX)
  | 0 => fun _ _ _ _ => none
  | n + 1 => fun x1 x3 x4 s0 => fT_matches_cT_pT_b15 N (fT_matches_cT_pT_15 N n) x1 x3 x4 s0
def fT_matches_cT_pT (N : Nat) (a0 a2 : Int32) (z0 : jX) : Option (Int32 × jX) := (jB (fT_sameNode_cT_pT N a0 a2 z0) fun r1 s1 => (if r1 = 0 then some ((0 : Int32), s1) else fT_matches_cT_pT_15 N N a0 a2 (1 : Int32) s1))
set_option maxHeartbeats 4000000 in
set_option maxRecDepth 100000 in
theorem cT_matches_cT_pT (l : Launch) (dC : Nat → ClassId) (dI : Nat → Nat → Nat) (cI cC cL : ClassId) (sk sv : Nat → Nat) (adX bh ch adC adS : Nat → Nat) (N : Nat) (a0 a2 : Int32) (z0 z1 : jX) (r : Int32) (hf : fT_matches_cT_pT N a0 a2 z0 = some (r, z1)) : Ci l yT_matches (Cond.code yT_matches prog_6_method_23_code 5 (some .boolean) :: TB) ({ frames := 2, cells := 0, slots := 0, locals := 49 }) (dC, dI) vwCl [(cI, .int), (cC, .char), (cL, .object "SharedSyntax$Letters")] (jEn sk sv) [.ref (adC 1), .int a0, .ref (adS 1), .int a2] (wX cI cC cL adX bh ch adC adS z0) (wX cI cC cL adX bh ch adC adS z1) r := by
  refine Ci_of (cc := prog_6_method_23_code) (maxL := 5) (ret := (some .boolean)) (by decide) rfl (Nat.le_of_ble_eq_true rfl) ?_
  intro p e s m below meth c ls F hl hK hN hC
  obtain ⟨hx, hb, hml, hown, hts, hr, hlk⟩ := F
  have ht : ∀ w ∈ TB, w.before [.ref (adC 1), .int a0, .ref (adS 1), .int a2].toArray s = true := fun w h => hts w (List.mem_cons_of_mem _ h)
  have hA : ∀ q, s.heap.size ≤ q → va_A (wX cI cC cL adX bh ch adC adS z0) s.heap.size q := fun q h => Or.inr h
  have hl : lv_has ls 5 [(0, .ref (adC 1)), (1, .int a0), (2, .ref (adS 1)), (3, .int a2)] := hl
  have L15 : ∀ (n : Nat) (x1 x3 x4 : Int32) (s0 : jX) (ls : Array Slot) (H : Heap) (locs : List Loc), lv_has ls 5 [(0, .ref (adC 1)), (1, .int x1), (2, .ref (adS 1)), (3, .int x3), (4, .int x4)] → jcx (dC, dI) vwCl (va_A (wX cI cC cL adX bh ch adC adS z0) s.heap.size) s.heap (wX cI cC cL adX bh ch adC adS s0) H locs → fT_matches_cT_pT_15 N n x1 x3 x4 s0 = some (r, z1) → W p l e ({ frames := 2, cells := 0, slots := 0, locals := 49 }) s m [.ref (adC 1), .int a0, .ref (adS 1), .int a2].toArray below meth c H locs 0 0 (MQ below (jQi (dC, dI) vwCl [(cI, .int), (cC, .char), (cL, .object "SharedSyntax$Letters")] (wX cI cC cL adX bh ch adC adS z0) (wX cI cC cL adX bh ch adC adS z1) s.heap.size r) [.ref (adC 1), .int a0, .ref (adS 1), .int a2].toArray s 0 0 (va_A (wX cI cC cL adX bh ch adC adS z0) s.heap.size)) (F0 m 15 ls []) := by
    intro n
    induction n with
    | zero => exact fun _ _ _ _ _ _ _ _ _ hf => nomatch hf
    | succ n ih15 =>
      intro x1 x3 x4 s0 ls H locs hl hC hf
      replace hf : fT_matches_cT_pT_b15 N (fT_matches_cT_pT_15 N n) x1 x3 x4 s0 = some (r, z1) := hf
      generalize fT_matches_cT_pT_15 N n = k15 at ih15 hf
      unfold fT_matches_cT_pT_b15 at hf
      refine lv_iload hx hb dT_matches_15 (lv_at hl 4 rfl) ?_
      refine lv_aload_n hx hb dT_matches_17 rfl (lv_at hl 0 rfl) ?_
      refine va_get (D := (dC, dI)) (ci := 2) (v := .ref (adC 9)) (C := RcT) (T := TcT) (N := 9) hx hb ht in_cT hown hK hC.1 12 (wX_e12 cI cC cL adX bh ch adC adS s0) rfl 2 (by decide) (ht _ tw55) (fun _ h9 => h9) rfl dT_matches_18 ?_
      refine lv_iload_n hx hb dT_matches_21 rfl (lv_at hl 1 rfl) ?_
      obtain ⟨hi1501, hf⟩ := jC_in hf
      refine va_iald hx hb hK hC.1 20 0 (wX_e20 cI cC cL adX bh ch adC adS s0) rfl hi1501 dT_matches_22 ?_
      refine lv_icmp_ge (tgt := 50) hx hb dT_matches_23 (by decide) (fun c1502 => ?_) (fun c1502 => ?_)
      · replace hf := jif_t c1502 hf
        refine lv_aload_n hx hb dT_matches_50 rfl (lv_at hl 0 rfl) ?_
        refine lv_iload_n hx hb dT_matches_51 rfl (lv_at hl 1 rfl) ?_
        refine lv_aload_n hx hb dT_matches_52 rfl (lv_at hl 2 rfl) ?_
        refine lv_iload_n hx hb dT_matches_53 rfl (lv_at hl 3 rfl) ?_
        obtain ⟨r1503, s1503, hc1503, hf⟩ := jB_some hf
        refine jcall_i (va_runV (C := RcT) (As := [.int x1, .ref (adS 1), .int x3]) (rest := []) ⟨hx, hb, hml, hown, hts⟩ ((cT_sameLetters_cT_pT l dC dI cI cC cL sk sv adX bh ch adC adS N x1 x3 s0 s1503 r1503 hc1503) _) ⟨(callB_of 3 hts (tb_good tw557) rfl rfl rfl (ht _ tw4) (ht _ tw554) (by decide +kernel) ⟨Nat.le_of_ble_eq_true rfl, Nat.le_of_ble_eq_true rfl⟩), ht _ tw556, ht _ (tb_sel pv_T_sameLetters)⟩ (jpreV (jEn_ok sk sv) hC hA hK hN (wX_e12 cI cC cL adX bh ch adC adS s0) rfl rfl _) rfl rfl hl.1 rfl (lv_room (Nat.le_of_ble_eq_true rfl)) dT_matches_54 ⟨Nat.le_refl _, Nat.le_refl _⟩) hC hA (fun H locs hC => ?_)
        refine lv_if_eq (tgt := 74) hx hb dT_matches_57 (by decide) (fun c1504 => ?_) (fun c1504 => ?_)
        · replace hf := jif_t c1504 hf
          refine lv_iconst (v := 0) hx hb dT_matches_74 (by decide) ?_
          cases hf
          exact jret_z hx hb hr (by decide +kernel) hlk hC hK dT_matches_75
        · replace hf := jif_f c1504 hf
          refine lv_aload_n hx hb dT_matches_60 rfl (lv_at hl 0 rfl) ?_
          refine lv_iload_n hx hb dT_matches_61 rfl (lv_at hl 1 rfl) ?_
          refine lv_aload_n hx hb dT_matches_62 rfl (lv_at hl 2 rfl) ?_
          refine lv_iload_n hx hb dT_matches_63 rfl (lv_at hl 3 rfl) ?_
          obtain ⟨r1505, s1505, hc1505, hf⟩ := jB_some hf
          refine jcall_i (va_runV (C := RcT) (As := [.int x1, .ref (adS 1), .int x3]) (rest := []) ⟨hx, hb, hml, hown, hts⟩ ((cT_sameFaults_cT_pT l dC dI cI cC cL sk sv adX bh ch adC adS N x1 x3 s1503 s1505 r1505 hc1505) _) ⟨(callB_of 3 hts (tb_good tw562) rfl rfl rfl (ht _ tw4) (ht _ tw559) (by decide +kernel) ⟨Nat.le_of_ble_eq_true rfl, Nat.le_of_ble_eq_true rfl⟩), ht _ tw561, ht _ (tb_sel pv_T_sameFaults)⟩ (jpreV (jEn_ok sk sv) hC hA hK hN (wX_e12 cI cC cL adX bh ch adC adS s1503) rfl rfl _) rfl rfl hl.1 rfl (lv_room (Nat.le_of_ble_eq_true rfl)) dT_matches_64 ⟨Nat.le_refl _, Nat.le_refl _⟩) hC hA (fun H locs hC => ?_)
          refine lv_if_eq (tgt := 74) hx hb dT_matches_67 (by decide) (fun c1506 => ?_) (fun c1506 => ?_)
          · replace hf := jif_t c1506 hf
            refine lv_iconst (v := 0) hx hb dT_matches_74 (by decide) ?_
            cases hf
            exact jret_z hx hb hr (by decide +kernel) hlk hC hK dT_matches_75
          · replace hf := jif_f c1506 hf
            refine lv_iconst (v := 1) hx hb dT_matches_70 (by decide) ?_
            refine lv_goto (tgt := 75) hx hb dT_matches_71 (by decide) ?_
            cases hf
            exact jret_z hx hb hr (by decide +kernel) hlk hC hK dT_matches_75
      · replace hf := jif_f c1502 hf
        refine lv_aload_n hx hb dT_matches_26 rfl (lv_at hl 0 rfl) ?_
        refine lv_iload_n hx hb dT_matches_27 rfl (lv_at hl 1 rfl) ?_
        refine lv_iload hx hb dT_matches_28 (lv_at hl 4 rfl) ?_
        refine lv_iadd hx hb dT_matches_30 ?_
        refine lv_aload_n hx hb dT_matches_31 rfl (lv_at hl 2 rfl) ?_
        refine lv_iload_n hx hb dT_matches_32 rfl (lv_at hl 3 rfl) ?_
        refine lv_iload hx hb dT_matches_33 (lv_at hl 4 rfl) ?_
        refine lv_iadd hx hb dT_matches_35 ?_
        obtain ⟨r1507, s1507, hc1507, hf⟩ := jB_some hf
        refine jcall_i (va_runV (C := RcT) (As := [.int (x1 + x4), .ref (adS 1), .int (x3 + x4)]) (rest := []) ⟨hx, hb, hml, hown, hts⟩ ((cT_sameNode_cT_pT l dC dI cI cC cL sk sv adX bh ch adC adS N (x1 + x4) (x3 + x4) s0 s1507 r1507 hc1507) _) ⟨(callB_of 3 hts (tb_good tw548) rfl rfl rfl (ht _ tw4) (ht _ tw545) (by decide +kernel) ⟨Nat.le_of_ble_eq_true rfl, Nat.le_of_ble_eq_true rfl⟩), ht _ tw547, ht _ (tb_sel pv_T_sameNode)⟩ (jpreV (jEn_ok sk sv) hC hA hK hN (wX_e12 cI cC cL adX bh ch adC adS s0) rfl rfl _) rfl rfl hl.1 rfl (lv_room (Nat.le_of_ble_eq_true rfl)) dT_matches_36 ⟨Nat.le_refl _, Nat.le_refl _⟩) hC hA (fun H locs hC => ?_)
        refine lv_if_ne (tgt := 44) hx hb dT_matches_39 (by decide) (fun c1508 => ?_) (fun c1508 => ?_)
        · replace hf := jif_f c1508 hf
          refine lv_iinc (k := 4) (v := (x4 + (1 : Int32))) (lv' := [(4, .int (x4 + (1 : Int32))), (0, .ref (adC 1)), (1, .int x1), (2, .ref (adS 1)), (3, .int x3)]) hx hb dT_matches_44 hl rfl rfl (by decide) rfl (fun ls hl => ?_)
          refine lv_goto (tgt := 15) hx hb dT_matches_47 (by decide) ?_
          exact ih15 x1 x3 (x4 + (1 : Int32)) s1507 ls _ _ (lv_sub hl [1, 2, 3, 4, 0] rfl) hC hf
        · replace hf := jif_t c1508 hf
          refine lv_iconst (v := 0) hx hb dT_matches_42 (by decide) ?_
          cases hf
          exact jret_z hx hb hr (by decide +kernel) hlk hC hK dT_matches_43
  unfold fT_matches_cT_pT at hf
  refine lv_aload_n hx hb dT_matches_0 rfl (lv_at hl 0 rfl) ?_
  refine lv_iload_n hx hb dT_matches_1 rfl (lv_at hl 1 rfl) ?_
  refine lv_aload_n hx hb dT_matches_2 rfl (lv_at hl 2 rfl) ?_
  refine lv_iload_n hx hb dT_matches_3 rfl (lv_at hl 3 rfl) ?_
  obtain ⟨r1, s1, hc1, hf⟩ := jB_some hf
  refine jcall_i (va_runV (C := RcT) (As := [.int a0, .ref (adS 1), .int a2]) (rest := []) ⟨hx, hb, hml, hown, hts⟩ ((cT_sameNode_cT_pT l dC dI cI cC cL sk sv adX bh ch adC adS N a0 a2 z0 s1 r1 hc1) _) ⟨(callB_of 3 hts (tb_good tw548) rfl rfl rfl (ht _ tw4) (ht _ tw545) (by decide +kernel) ⟨Nat.le_of_ble_eq_true rfl, Nat.le_of_ble_eq_true rfl⟩), ht _ tw547, ht _ (tb_sel pv_T_sameNode)⟩ (jpreV (jEn_ok sk sv) hC hA hK hN (wX_e12 cI cC cL adX bh ch adC adS z0) rfl rfl _) rfl rfl hl.1 rfl (lv_room (Nat.le_of_ble_eq_true rfl)) dT_matches_4 ⟨Nat.le_refl _, Nat.le_refl _⟩) hC hA (fun H locs hC => ?_)
  refine lv_if_ne (tgt := 12) hx hb dT_matches_7 (by decide) (fun c2 => ?_) (fun c2 => ?_)
  · replace hf := jif_f c2 hf
    refine lv_iconst (v := 1) hx hb dT_matches_12 (by decide) ?_
    refine lv_istore (lv' := [(4, .int (1 : Int32)), (0, .ref (adC 1)), (1, .int a0), (2, .ref (adS 1)), (3, .int a2)]) hx hb dT_matches_13 hl (by decide) rfl (fun ls hl => ?_)
    exact L15 N a0 a2 (1 : Int32) s1 ls _ _ (lv_sub hl [1, 2, 3, 4, 0] rfl) hC hf
  · replace hf := jif_t c2 hf
    refine lv_iconst (v := 0) hx hb dT_matches_10 (by decide) ?_
    cases hf
    exact jret_z hx hb hr (by decide +kernel) hlk hC hK dT_matches_11

def fX_isKept_116 (N : Nat) (k26 : Int32 → Int32 → Int32 → Int32 → Int32 → jX → Option (Int32 × jX)) (x1 x2 x3 x5 x6 : Int32) (s0 : jX) : Option (Int32 × jX) := (jB (fT_matches_cT_pT N x1 x6 s0) fun r11601 s11601 => (if r11601 = 0 then k26 x1 x2 x3 x5 (x6 + (1 : Int32)) s11601 else some ((1 : Int32), s11601)))
def fX_isKept_104 (N : Nat) (k26 : Int32 → Int32 → Int32 → Int32 → Int32 → jX → Option (Int32 × jX)) (x1 x2 x3 x5 x6 x8 y0 : Int32) (s0 : jX) : Option (Int32 × jX) := (if x8 = 0 then (if y0 = 0 then k26 x1 x2 x3 x5 (x6 + (1 : Int32)) s0 else fX_isKept_116 N k26 x1 x2 x3 x5 x6 s0) else fX_isKept_116 N k26 x1 x2 x3 x5 x6 s0)
def fX_isKept_103 (N : Nat) (k26 : Int32 → Int32 → Int32 → Int32 → Int32 → jX → Option (Int32 × jX)) (x1 x2 x3 x5 x6 x8 : Int32) (s0 : jX) : Option (Int32 × jX) := fX_isKept_104 N k26 x1 x2 x3 x5 x6 x8 (0 : Int32) s0
def fX_isKept_72 (N : Nat) (k26 : Int32 → Int32 → Int32 → Int32 → Int32 → jX → Option (Int32 × jX)) (x1 x2 x3 x5 x6 x7 y0 : Int32) (s0 : jX) : Option (Int32 × jX) := (if x7 < (x2 + x3) then fX_isKept_103 N k26 x1 x2 x3 x5 x6 y0 s0 else (if x5 = ((x7 - x3) + jgI s0.1 2) then fX_isKept_104 N k26 x1 x2 x3 x5 x6 y0 (1 : Int32) s0 else fX_isKept_103 N k26 x1 x2 x3 x5 x6 y0 s0))
def fX_isKept_71 (N : Nat) (k26 : Int32 → Int32 → Int32 → Int32 → Int32 → jX → Option (Int32 × jX)) (x1 x2 x3 x5 x6 x7 : Int32) (s0 : jX) : Option (Int32 × jX) := fX_isKept_72 N k26 x1 x2 x3 x5 x6 x7 (0 : Int32) s0
def fX_isKept_b26 (N : Nat) (k26 : Int32 → Int32 → Int32 → Int32 → Int32 → jX → Option (Int32 × jX)) (x1 x2 x3 x5 x6 : Int32) (s0 : jX) : Option (Int32 × jX) := (if jgI s0.2.2 3 ≤ x6 then some ((0 : Int32), s0) else (if jIn x6 363 = true then (if jgA s0.2.2 6 (x6).toNatClampNeg = x5 then (jB (fT_stretchOf N x6 s0.2.2) fun r2604 s2604 => (if x2 < (jgA s0.2.2 6 (x6).toNatClampNeg + r2604) then fX_isKept_71 N k26 x1 x2 x3 x5 x6 (jgA s0.2.2 6 (x6).toNatClampNeg) (s0.1, s0.2.1, s2604) else fX_isKept_72 N k26 x1 x2 x3 x5 x6 (jgA s0.2.2 6 (x6).toNatClampNeg) (1 : Int32) (s0.1, s0.2.1, s2604))) else fX_isKept_71 N k26 x1 x2 x3 x5 x6 (jgA s0.2.2 6 (x6).toNatClampNeg) s0) else none))
def fX_isKept_26 (N : Nat) : Nat → Int32 → Int32 → Int32 → Int32 → Int32 → jX → Option (Int32 × jX)
  | 0 => fun _ _ _ _ _ _ => none
  | n + 1 => fun x1 x2 x3 x5 x6 s0 => fX_isKept_b26 N (fX_isKept_26 N n) x1 x2 x3 x5 x6 s0
def fX_isKept (N : Nat) (a0 a1 a2 : Int32) (z0 : jX) : Option (Int32 × jX) := (if jIn a0 363 = true then fX_isKept_26 N N a0 a1 a2 (jgA z0.2.1 6 (a0).toNatClampNeg) (0 : Int32) z0 else none)
set_option maxHeartbeats 4000000 in
set_option maxRecDepth 100000 in
theorem cX_isKept (l : Launch) (dC : Nat → ClassId) (dI : Nat → Nat → Nat) (cI cC cL : ClassId) (sk sv : Nat → Nat) (adX bh ch adC adS : Nat → Nat) (N : Nat) (a0 a1 a2 : Int32) (z0 z1 : jX) (r : Int32) (hf : fX_isKept N a0 a1 a2 z0 = some (r, z1)) : Ci l yX_isKept (Cond.code yX_isKept prog_1_method_16_code 10 (some .boolean) :: TB) ({ frames := 3, cells := 0, slots := 0, locals := 73 }) (dC, dI) vwCl [(cI, .int), (cC, .char), (cL, .object "SharedSyntax$Letters")] (jEn sk sv) [.ref (adX 0), .int a0, .int a1, .int a2] (wX cI cC cL adX bh ch adC adS z0) (wX cI cC cL adX bh ch adC adS z1) r := by
  refine Ci_of (cc := prog_1_method_16_code) (maxL := 10) (ret := (some .boolean)) (by decide) rfl (Nat.le_of_ble_eq_true rfl) ?_
  intro p e s m below meth c ls F hl hK hN hC
  obtain ⟨hx, hb, hml, hown, hts, hr, hlk⟩ := F
  have ht : ∀ w ∈ TB, w.before [.ref (adX 0), .int a0, .int a1, .int a2].toArray s = true := fun w h => hts w (List.mem_cons_of_mem _ h)
  have hA : ∀ q, s.heap.size ≤ q → va_A (wX cI cC cL adX bh ch adC adS z0) s.heap.size q := fun q h => Or.inr h
  have hl : lv_has ls 10 [(0, .ref (adX 0)), (1, .int a0), (2, .int a1), (3, .int a2)] := hl
  have L26 : ∀ (n : Nat) (x1 x2 x3 x5 x6 : Int32) (s0 : jX) (ls : Array Slot) (H : Heap) (locs : List Loc), lv_has ls 10 [(0, .ref (adX 0)), (1, .int x1), (2, .int x2), (3, .int x3), (4, .ref (adS 1)), (5, .int x5), (6, .int x6)] → jcx (dC, dI) vwCl (va_A (wX cI cC cL adX bh ch adC adS z0) s.heap.size) s.heap (wX cI cC cL adX bh ch adC adS s0) H locs → fX_isKept_26 N n x1 x2 x3 x5 x6 s0 = some (r, z1) → W p l e ({ frames := 3, cells := 0, slots := 0, locals := 73 }) s m [.ref (adX 0), .int a0, .int a1, .int a2].toArray below meth c H locs 0 0 (MQ below (jQi (dC, dI) vwCl [(cI, .int), (cC, .char), (cL, .object "SharedSyntax$Letters")] (wX cI cC cL adX bh ch adC adS z0) (wX cI cC cL adX bh ch adC adS z1) s.heap.size r) [.ref (adX 0), .int a0, .int a1, .int a2].toArray s 0 0 (va_A (wX cI cC cL adX bh ch adC adS z0) s.heap.size)) (F0 m 26 ls []) := by
    intro n
    induction n with
    | zero => exact fun _ _ _ _ _ _ _ _ _ _ _ hf => nomatch hf
    | succ n ih26 =>
      intro x1 x2 x3 x5 x6 s0 ls H locs hl hC hf
      replace hf : fX_isKept_b26 N (fX_isKept_26 N n) x1 x2 x3 x5 x6 s0 = some (r, z1) := hf
      generalize fX_isKept_26 N n = k26 at ih26 hf
      have L116 : ∀ (x1 x2 x3 x5 x6 : Int32) (s0 : jX) (ls : Array Slot) (H : Heap) (locs : List Loc), lv_has ls 10 [(0, .ref (adX 0)), (1, .int x1), (2, .int x2), (3, .int x3), (4, .ref (adS 1)), (5, .int x5), (6, .int x6)] → jcx (dC, dI) vwCl (va_A (wX cI cC cL adX bh ch adC adS z0) s.heap.size) s.heap (wX cI cC cL adX bh ch adC adS s0) H locs → fX_isKept_116 N k26 x1 x2 x3 x5 x6 s0 = some (r, z1) → W p l e ({ frames := 3, cells := 0, slots := 0, locals := 73 }) s m [.ref (adX 0), .int a0, .int a1, .int a2].toArray below meth c H locs 0 0 (MQ below (jQi (dC, dI) vwCl [(cI, .int), (cC, .char), (cL, .object "SharedSyntax$Letters")] (wX cI cC cL adX bh ch adC adS z0) (wX cI cC cL adX bh ch adC adS z1) s.heap.size r) [.ref (adX 0), .int a0, .int a1, .int a2].toArray s 0 0 (va_A (wX cI cC cL adX bh ch adC adS z0) s.heap.size)) (F0 m 116 ls []) := by
        intro x1 x2 x3 x5 x6 s0 ls H locs hl hC hf
        unfold fX_isKept_116 at hf
        refine lv_aload_n hx hb dX_isKept_116 rfl (lv_at hl 0 rfl) ?_
        refine va_get (D := (dC, dI)) (ci := 5) (v := .ref (adC 0)) (C := RcX) (T := TcX) (N := 6) hx hb ht in_cX hown hK hC.1 0 (wX_e0 cI cC cL adX bh ch adC adS s0) rfl 2 (by decide) (ht _ tw462) (fun _ h9 => h9) rfl dX_isKept_117 ?_
        refine va_getN (D := (dC, dI)) (ci := 3) (v := .ref (adC 1)) (C := RcR) (T := TcR) (N := 10) hx hb ht in_cR hown hK hC.1 11 (wX_e11 cI cC cL adX bh ch adC adS s0) rfl 1 (by decide) (va_Nw.use rfl (hN.1 _ nw115)) (fun _ h9 => h9) rfl dX_isKept_120 ?_
        refine lv_iload_n hx hb dX_isKept_123 rfl (lv_at hl 1 rfl) ?_
        refine lv_aload hx hb dX_isKept_124 (lv_at hl 4 rfl) ?_
        refine lv_iload hx hb dX_isKept_126 (lv_at hl 6 rfl) ?_
        obtain ⟨r11601, s11601, hc11601, hf⟩ := jB_some hf
        refine jcall_i (va_runV (C := RcT) (As := [.int x1, .ref (adS 1), .int x6]) (rest := []) ⟨hx, hb, hml, hown, hts⟩ ((cT_matches_cT_pT l dC dI cI cC cL sk sv adX bh ch adC adS N x1 x6 s0 s11601 r11601 hc11601) _) ⟨(callB_of 3 hts (tb_good tw544) rfl rfl rfl (ht _ tw4) (ht _ tw541) (by decide +kernel) ⟨Nat.le_of_ble_eq_true rfl, Nat.le_of_ble_eq_true rfl⟩), ht _ tw542, ht _ tw543⟩ (jpreV (jEn_ok sk sv) hC hA hK hN (wX_e12 cI cC cL adX bh ch adC adS s0) rfl rfl _) rfl rfl hl.1 rfl (lv_room (Nat.le_of_ble_eq_true rfl)) dX_isKept_128 ⟨Nat.le_refl _, Nat.le_refl _⟩) hC hA (fun H locs hC => ?_)
        refine lv_if_eq (tgt := 136) hx hb dX_isKept_131 (by decide) (fun c11602 => ?_) (fun c11602 => ?_)
        · replace hf := jif_t c11602 hf
          refine lv_iinc (k := 6) (v := (x6 + (1 : Int32))) (lv' := [(6, .int (x6 + (1 : Int32))), (0, .ref (adX 0)), (1, .int x1), (2, .int x2), (3, .int x3), (4, .ref (adS 1)), (5, .int x5)]) hx hb dX_isKept_136 hl rfl rfl (by decide) rfl (fun ls hl => ?_)
          refine lv_goto (tgt := 26) hx hb dX_isKept_139 (by decide) ?_
          exact ih26 x1 x2 x3 x5 (x6 + (1 : Int32)) s11601 ls _ _ (lv_sub hl [1, 2, 3, 4, 5, 6, 0] rfl) hC hf
        · replace hf := jif_f c11602 hf
          refine lv_iconst (v := 1) hx hb dX_isKept_134 (by decide) ?_
          cases hf
          exact jret_z hx hb hr (by decide +kernel) hlk hC hK dX_isKept_135
      have L104 : ∀ (x1 x2 x3 x5 x6 x8 y0 : Int32) (s0 : jX) (ls : Array Slot) (H : Heap) (locs : List Loc), lv_has ls 10 [(0, .ref (adX 0)), (1, .int x1), (2, .int x2), (3, .int x3), (4, .ref (adS 1)), (5, .int x5), (6, .int x6), (8, .int x8)] → jcx (dC, dI) vwCl (va_A (wX cI cC cL adX bh ch adC adS z0) s.heap.size) s.heap (wX cI cC cL adX bh ch adC adS s0) H locs → fX_isKept_104 N k26 x1 x2 x3 x5 x6 x8 y0 s0 = some (r, z1) → W p l e ({ frames := 3, cells := 0, slots := 0, locals := 73 }) s m [.ref (adX 0), .int a0, .int a1, .int a2].toArray below meth c H locs 0 0 (MQ below (jQi (dC, dI) vwCl [(cI, .int), (cC, .char), (cL, .object "SharedSyntax$Letters")] (wX cI cC cL adX bh ch adC adS z0) (wX cI cC cL adX bh ch adC adS z1) s.heap.size r) [.ref (adX 0), .int a0, .int a1, .int a2].toArray s 0 0 (va_A (wX cI cC cL adX bh ch adC adS z0) s.heap.size)) (F0 m 104 ls [.int y0]) := by
        intro x1 x2 x3 x5 x6 x8 y0 s0 ls H locs hl hC hf
        unfold fX_isKept_104 at hf
        refine lv_istore (lv' := [(9, .int y0), (0, .ref (adX 0)), (1, .int x1), (2, .int x2), (3, .int x3), (4, .ref (adS 1)), (5, .int x5), (6, .int x6), (8, .int x8)]) hx hb dX_isKept_104 hl (by decide) rfl (fun ls hl => ?_)
        refine lv_iload hx hb dX_isKept_106 (lv_at hl 8 rfl) ?_
        refine lv_if_ne (tgt := 116) hx hb dX_isKept_108 (by decide) (fun c10401 => ?_) (fun c10401 => ?_)
        · replace hf := jif_f c10401 hf
          exact L116 x1 x2 x3 x5 x6 s0 ls _ _ (lv_sub hl [1, 2, 3, 4, 5, 6, 7] rfl) hC hf
        · replace hf := jif_t c10401 hf
          refine lv_iload hx hb dX_isKept_111 (lv_at hl 0 rfl) ?_
          refine lv_if_eq (tgt := 136) hx hb dX_isKept_113 (by decide) (fun c10402 => ?_) (fun c10402 => ?_)
          · replace hf := jif_t c10402 hf
            refine lv_iinc (k := 7) (v := (x6 + (1 : Int32))) (lv' := [(6, .int (x6 + (1 : Int32))), (9, .int y0), (0, .ref (adX 0)), (1, .int x1), (2, .int x2), (3, .int x3), (4, .ref (adS 1)), (5, .int x5), (8, .int x8)]) hx hb dX_isKept_136 hl rfl rfl (by decide) rfl (fun ls hl => ?_)
            refine lv_goto (tgt := 26) hx hb dX_isKept_139 (by decide) ?_
            exact ih26 x1 x2 x3 x5 (x6 + (1 : Int32)) s0 ls _ _ (lv_sub hl [2, 3, 4, 5, 6, 7, 0] rfl) hC hf
          · replace hf := jif_f c10402 hf
            exact L116 x1 x2 x3 x5 x6 s0 ls _ _ (lv_sub hl [1, 2, 3, 4, 5, 6, 7] rfl) hC hf
      have L103 : ∀ (x1 x2 x3 x5 x6 x8 : Int32) (s0 : jX) (ls : Array Slot) (H : Heap) (locs : List Loc), lv_has ls 10 [(0, .ref (adX 0)), (1, .int x1), (2, .int x2), (3, .int x3), (4, .ref (adS 1)), (5, .int x5), (6, .int x6), (8, .int x8)] → jcx (dC, dI) vwCl (va_A (wX cI cC cL adX bh ch adC adS z0) s.heap.size) s.heap (wX cI cC cL adX bh ch adC adS s0) H locs → fX_isKept_103 N k26 x1 x2 x3 x5 x6 x8 s0 = some (r, z1) → W p l e ({ frames := 3, cells := 0, slots := 0, locals := 73 }) s m [.ref (adX 0), .int a0, .int a1, .int a2].toArray below meth c H locs 0 0 (MQ below (jQi (dC, dI) vwCl [(cI, .int), (cC, .char), (cL, .object "SharedSyntax$Letters")] (wX cI cC cL adX bh ch adC adS z0) (wX cI cC cL adX bh ch adC adS z1) s.heap.size r) [.ref (adX 0), .int a0, .int a1, .int a2].toArray s 0 0 (va_A (wX cI cC cL adX bh ch adC adS z0) s.heap.size)) (F0 m 103 ls []) := by
        intro x1 x2 x3 x5 x6 x8 s0 ls H locs hl hC hf
        unfold fX_isKept_103 at hf
        refine lv_iconst (v := 0) hx hb dX_isKept_103 (by decide) ?_
        exact L104 x1 x2 x3 x5 x6 x8 (0 : Int32) s0 ls _ _ (lv_sub hl [0, 1, 2, 3, 4, 5, 6, 7] rfl) hC hf
      have L72 : ∀ (x1 x2 x3 x5 x6 x7 y0 : Int32) (s0 : jX) (ls : Array Slot) (H : Heap) (locs : List Loc), lv_has ls 10 [(0, .ref (adX 0)), (1, .int x1), (2, .int x2), (3, .int x3), (4, .ref (adS 1)), (5, .int x5), (6, .int x6), (7, .int x7)] → jcx (dC, dI) vwCl (va_A (wX cI cC cL adX bh ch adC adS z0) s.heap.size) s.heap (wX cI cC cL adX bh ch adC adS s0) H locs → fX_isKept_72 N k26 x1 x2 x3 x5 x6 x7 y0 s0 = some (r, z1) → W p l e ({ frames := 3, cells := 0, slots := 0, locals := 73 }) s m [.ref (adX 0), .int a0, .int a1, .int a2].toArray below meth c H locs 0 0 (MQ below (jQi (dC, dI) vwCl [(cI, .int), (cC, .char), (cL, .object "SharedSyntax$Letters")] (wX cI cC cL adX bh ch adC adS z0) (wX cI cC cL adX bh ch adC adS z1) s.heap.size r) [.ref (adX 0), .int a0, .int a1, .int a2].toArray s 0 0 (va_A (wX cI cC cL adX bh ch adC adS z0) s.heap.size)) (F0 m 72 ls [.int y0]) := by
        intro x1 x2 x3 x5 x6 x7 y0 s0 ls H locs hl hC hf
        unfold fX_isKept_72 at hf
        refine lv_istore (lv' := [(8, .int y0), (0, .ref (adX 0)), (1, .int x1), (2, .int x2), (3, .int x3), (4, .ref (adS 1)), (5, .int x5), (6, .int x6), (7, .int x7)]) hx hb dX_isKept_72 hl (by decide) rfl (fun ls hl => ?_)
        refine lv_iload hx hb dX_isKept_74 (lv_at hl 8 rfl) ?_
        refine lv_iload_n hx hb dX_isKept_76 rfl (lv_at hl 3 rfl) ?_
        refine lv_iload_n hx hb dX_isKept_77 rfl (lv_at hl 4 rfl) ?_
        refine lv_iadd hx hb dX_isKept_78 ?_
        refine lv_icmp_lt (tgt := 103) hx hb dX_isKept_79 (by decide) (fun c7201 => ?_) (fun c7201 => ?_)
        · replace hf := jif_t c7201 hf
          exact L103 x1 x2 x3 x5 x6 y0 s0 ls _ _ (lv_sub hl [1, 2, 3, 4, 5, 6, 7, 0] rfl) hC hf
        · replace hf := jif_f c7201 hf
          refine lv_iload hx hb dX_isKept_82 (lv_at hl 6 rfl) ?_
          refine lv_iload hx hb dX_isKept_84 (lv_at hl 8 rfl) ?_
          refine lv_iload_n hx hb dX_isKept_86 rfl (lv_at hl 4 rfl) ?_
          refine lv_isub hx hb dX_isKept_87 ?_
          refine lv_aload_n hx hb dX_isKept_88 rfl (lv_at hl 1 rfl) ?_
          refine va_get (D := (dC, dI)) (ci := 5) (v := .ref (adX 1)) (C := RcX) (T := TcX) (N := 6) hx hb ht in_cX hown hK hC.1 0 (wX_e0 cI cC cL adX bh ch adC adS s0) rfl 0 (by decide) (ht _ tw460) (fun _ h9 => h9) rfl dX_isKept_89 ?_
          refine va_getN (D := (dC, dI)) (ci := 0) (v := .int (jgI s0.1 2)) (C := RcL) (T := TcL) (N := 2) hx hb ht in_cL hown hK hC.1 1 (wX_e1 cI cC cL adX bh ch adC adS s0) rfl 1 (by decide) (va_Nw.use rfl (hN.1 _ nw34)) (fun _ h9 => h9) rfl dX_isKept_92 ?_
          refine lv_iadd hx hb dX_isKept_95 ?_
          refine lv_icmp_ne (tgt := 103) hx hb dX_isKept_96 (by decide) (fun c7202 => ?_) (fun c7202 => ?_)
          · replace hf := jif_f c7202 hf
            exact L103 x1 x2 x3 x5 x6 y0 s0 ls _ _ (lv_sub hl [1, 2, 3, 4, 5, 6, 7, 0] rfl) hC hf
          · replace hf := jif_t c7202 hf
            refine lv_iconst (v := 1) hx hb dX_isKept_99 (by decide) ?_
            refine lv_goto (tgt := 104) hx hb dX_isKept_100 (by decide) ?_
            exact L104 x1 x2 x3 x5 x6 y0 (1 : Int32) s0 ls _ _ (lv_sub hl [1, 2, 3, 4, 5, 6, 7, 0] rfl) hC hf
      have L71 : ∀ (x1 x2 x3 x5 x6 x7 : Int32) (s0 : jX) (ls : Array Slot) (H : Heap) (locs : List Loc), lv_has ls 10 [(0, .ref (adX 0)), (1, .int x1), (2, .int x2), (3, .int x3), (4, .ref (adS 1)), (5, .int x5), (6, .int x6), (7, .int x7)] → jcx (dC, dI) vwCl (va_A (wX cI cC cL adX bh ch adC adS z0) s.heap.size) s.heap (wX cI cC cL adX bh ch adC adS s0) H locs → fX_isKept_71 N k26 x1 x2 x3 x5 x6 x7 s0 = some (r, z1) → W p l e ({ frames := 3, cells := 0, slots := 0, locals := 73 }) s m [.ref (adX 0), .int a0, .int a1, .int a2].toArray below meth c H locs 0 0 (MQ below (jQi (dC, dI) vwCl [(cI, .int), (cC, .char), (cL, .object "SharedSyntax$Letters")] (wX cI cC cL adX bh ch adC adS z0) (wX cI cC cL adX bh ch adC adS z1) s.heap.size r) [.ref (adX 0), .int a0, .int a1, .int a2].toArray s 0 0 (va_A (wX cI cC cL adX bh ch adC adS z0) s.heap.size)) (F0 m 71 ls []) := by
        intro x1 x2 x3 x5 x6 x7 s0 ls H locs hl hC hf
        unfold fX_isKept_71 at hf
        refine lv_iconst (v := 0) hx hb dX_isKept_71 (by decide) ?_
        exact L72 x1 x2 x3 x5 x6 x7 (0 : Int32) s0 ls _ _ (lv_sub hl [0, 1, 2, 3, 4, 5, 6, 7] rfl) hC hf
      unfold fX_isKept_b26 at hf
      refine lv_iload hx hb dX_isKept_26 (lv_at hl 6 rfl) ?_
      refine lv_aload hx hb dX_isKept_28 (lv_at hl 4 rfl) ?_
      refine va_getN (D := (dC, dI)) (ci := 2) (v := .int (jgI s0.2.2 3)) (C := RcT) (T := TcT) (N := 9) hx hb ht in_cT hown hK hC.1 30 (wX_e30 cI cC cL adX bh ch adC adS s0) rfl 7 (by decide) (va_Nw.use rfl (hN.1 _ nw64)) (fun _ h9 => h9) rfl dX_isKept_30 ?_
      refine lv_icmp_ge (tgt := 142) hx hb dX_isKept_33 (by decide) (fun c2601 => ?_) (fun c2601 => ?_)
      · replace hf := jif_t c2601 hf
        refine lv_iconst (v := 0) hx hb dX_isKept_142 (by decide) ?_
        cases hf
        exact jret_z hx hb hr (by decide +kernel) hlk hC hK dX_isKept_143
      · replace hf := jif_f c2601 hf
        refine lv_aload hx hb dX_isKept_36 (lv_at hl 4 rfl) ?_
        refine va_getN (D := (dC, dI)) (ci := 2) (v := .ref (adS 10)) (C := RcT) (T := TcT) (N := 9) hx hb ht in_cT hown hK hC.1 30 (wX_e30 cI cC cL adX bh ch adC adS s0) rfl 3 (by decide) (va_Nw.use rfl (hN.1 _ nw58)) (fun _ h9 => h9) rfl dX_isKept_38 ?_
        refine lv_iload hx hb dX_isKept_41 (lv_at hl 6 rfl) ?_
        obtain ⟨hi2602, hf⟩ := jC_in hf
        refine va_iald hx hb hK hC.1 39 0 (wX_e39 cI cC cL adX bh ch adC adS s0) rfl hi2602 dX_isKept_43 ?_
        refine lv_istore (lv' := [(7, .int (jgA s0.2.2 6 (x6).toNatClampNeg)), (0, .ref (adX 0)), (1, .int x1), (2, .int x2), (3, .int x3), (4, .ref (adS 1)), (5, .int x5), (6, .int x6)]) hx hb dX_isKept_44 hl (by decide) rfl (fun ls hl => ?_)
        refine lv_iload hx hb dX_isKept_46 (lv_at hl 0 rfl) ?_
        refine lv_iload hx hb dX_isKept_48 (lv_at hl 6 rfl) ?_
        refine lv_icmp_ne (tgt := 71) hx hb dX_isKept_50 (by decide) (fun c2603 => ?_) (fun c2603 => ?_)
        · replace hf := jif_f c2603 hf
          exact L71 x1 x2 x3 x5 x6 (jgA s0.2.2 6 (x6).toNatClampNeg) s0 ls _ _ (lv_sub hl [1, 2, 3, 4, 5, 6, 7, 0] rfl) hC hf
        · replace hf := jif_t c2603 hf
          refine lv_iload hx hb dX_isKept_53 (lv_at hl 0 rfl) ?_
          refine lv_aload hx hb dX_isKept_55 (lv_at hl 5 rfl) ?_
          refine lv_iload hx hb dX_isKept_57 (lv_at hl 7 rfl) ?_
          obtain ⟨r2604, s2604, hc2604, hf⟩ := jB_some hf
          have hCc := wX_subp cI cC cL adX bh ch adC adS s0 hC
          refine jcallS_i (wX_mcp cI cC cL adX bh ch adC adS s0) (wX_mrp cI cC cL adX bh ch adC adS s0) rfl (by decide) (wX_mbp cI cC cL adX bh ch adC adS s0 s2604) rfl (va_runV (C := RcT) (As := [.int x6]) (rest := [.int (jgA s0.2.2 6 (x6).toNatClampNeg)]) ⟨hx, hb, hml, hown, hts⟩ ((cT_stretchOf l dC dI cI cC cL sk sv adS N x6 s0.2.2 s2604 r2604 hc2604) _) ⟨(callB_of 1 hts (tb_good tw540) rfl rfl rfl (ht _ tw4) (ht _ tw537) (by decide +kernel) ⟨Nat.le_of_ble_eq_true rfl, Nat.le_of_ble_eq_true rfl⟩), ht _ tw538, ht _ tw539⟩ (jpreV (jEn_ok sk sv) hCc hA hK hN (wR_e1 cI cC adS s0.2.2) rfl rfl _) rfl rfl hl.1 rfl (lv_room (Nat.le_of_ble_eq_true rfl)) dX_isKept_59 ⟨Nat.le_refl _, Nat.le_refl _⟩) hC hA (fun H locs hC => ?_)
          refine lv_iadd hx hb dX_isKept_62 ?_
          refine lv_iload_n hx hb dX_isKept_63 rfl (lv_at hl 3 rfl) ?_
          refine lv_icmp_gt (tgt := 71) hx hb dX_isKept_64 (by decide) (fun c2605 => ?_) (fun c2605 => ?_)
          · replace hf := jif_t c2605 hf
            exact L71 x1 x2 x3 x5 x6 (jgA s0.2.2 6 (x6).toNatClampNeg) (s0.1, s0.2.1, s2604) ls _ _ (lv_sub hl [1, 2, 3, 4, 5, 6, 7, 0] rfl) hC hf
          · replace hf := jif_f c2605 hf
            refine lv_iconst (v := 1) hx hb dX_isKept_67 (by decide) ?_
            refine lv_goto (tgt := 72) hx hb dX_isKept_68 (by decide) ?_
            exact L72 x1 x2 x3 x5 x6 (jgA s0.2.2 6 (x6).toNatClampNeg) (1 : Int32) (s0.1, s0.2.1, s2604) ls _ _ (lv_sub hl [1, 2, 3, 4, 5, 6, 7, 0] rfl) hC hf
  unfold fX_isKept at hf
  refine lv_aload_n hx hb dX_isKept_0 rfl (lv_at hl 0 rfl) ?_
  refine va_get (D := (dC, dI)) (ci := 5) (v := .ref (adS 0)) (C := RcX) (T := TcX) (N := 6) hx hb ht in_cX hown hK hC.1 0 (wX_e0 cI cC cL adX bh ch adC adS z0) rfl 3 (by decide) (ht _ tw463) (fun _ h9 => h9) rfl dX_isKept_1 ?_
  refine va_getN (D := (dC, dI)) (ci := 3) (v := .ref (adS 1)) (C := RcR) (T := TcR) (N := 10) hx hb ht in_cR hown hK hC.1 29 (wX_e29 cI cC cL adX bh ch adC adS z0) rfl 1 (by decide) (va_Nw.use rfl (hN.1 _ nw115)) (fun _ h9 => h9) rfl dX_isKept_4 ?_
  refine lv_astore (lv' := [(4, .ref (adS 1)), (0, .ref (adX 0)), (1, .int a0), (2, .int a1), (3, .int a2)]) hx hb dX_isKept_7 hl (by decide) rfl (fun ls hl => ?_)
  refine lv_aload_n hx hb dX_isKept_9 rfl (lv_at hl 1 rfl) ?_
  refine va_get (D := (dC, dI)) (ci := 5) (v := .ref (adC 0)) (C := RcX) (T := TcX) (N := 6) hx hb ht in_cX hown hK hC.1 0 (wX_e0 cI cC cL adX bh ch adC adS z0) rfl 2 (by decide) (ht _ tw462) (fun _ h9 => h9) rfl dX_isKept_10 ?_
  refine va_getN (D := (dC, dI)) (ci := 3) (v := .ref (adC 1)) (C := RcR) (T := TcR) (N := 10) hx hb ht in_cR hown hK hC.1 11 (wX_e11 cI cC cL adX bh ch adC adS z0) rfl 1 (by decide) (va_Nw.use rfl (hN.1 _ nw115)) (fun _ h9 => h9) rfl dX_isKept_13 ?_
  refine va_getN (D := (dC, dI)) (ci := 2) (v := .ref (adC 10)) (C := RcT) (T := TcT) (N := 9) hx hb ht in_cT hown hK hC.1 12 (wX_e12 cI cC cL adX bh ch adC adS z0) rfl 3 (by decide) (va_Nw.use rfl (hN.1 _ nw58)) (fun _ h9 => h9) rfl dX_isKept_16 ?_
  refine lv_iload_n hx hb dX_isKept_19 rfl (lv_at hl 2 rfl) ?_
  obtain ⟨hi1, hf⟩ := jC_in hf
  refine va_iald hx hb hK hC.1 21 0 (wX_e21 cI cC cL adX bh ch adC adS z0) rfl hi1 dX_isKept_20 ?_
  refine lv_istore (lv' := [(5, .int (jgA z0.2.1 6 (a0).toNatClampNeg)), (4, .ref (adS 1)), (0, .ref (adX 0)), (1, .int a0), (2, .int a1), (3, .int a2)]) hx hb dX_isKept_21 hl (by decide) rfl (fun ls hl => ?_)
  refine lv_iconst (v := 0) hx hb dX_isKept_23 (by decide) ?_
  refine lv_istore (lv' := [(6, .int (0 : Int32)), (5, .int (jgA z0.2.1 6 (a0).toNatClampNeg)), (4, .ref (adS 1)), (0, .ref (adX 0)), (1, .int a0), (2, .int a1), (3, .int a2)]) hx hb dX_isKept_24 hl (by decide) rfl (fun ls hl => ?_)
  exact L26 N a0 a1 a2 (jgA z0.2.1 6 (a0).toNatClampNeg) (0 : Int32) z0 ls _ _ (lv_sub hl [3, 4, 5, 6, 2, 1, 0] rfl) hC hf

def fX_keptCount_b5 (N : Nat) (k5 : Int32 → Int32 → Int32 → Int32 → jX → Option (Int32 × jX)) (x1 x2 x3 x4 : Int32) (s0 : jX) : Option (Int32 × jX) := (if jgI s0.2.1 3 ≤ x4 then some (x3, s0) else (jB (fT_isStatement N x4 s0.2.1) fun r502 s502 => (if r502 = 0 then k5 x1 x2 x3 (x4 + (1 : Int32)) (s0.1, s502, s0.2.2) else (jB (fX_isKept N x4 x1 x2 (s0.1, s502, s0.2.2)) fun r504 s504 => (if r504 = 0 then k5 x1 x2 x3 (x4 + (1 : Int32)) s504 else k5 x1 x2 (x3 + (1 : Int32)) (x4 + (1 : Int32)) s504)))))
def fX_keptCount_5 (N : Nat) : Nat → Int32 → Int32 → Int32 → Int32 → jX → Option (Int32 × jX)
  | 0 => fun _ _ _ _ _ => none
  | n + 1 => fun x1 x2 x3 x4 s0 => fX_keptCount_b5 N (fX_keptCount_5 N n) x1 x2 x3 x4 s0
def fX_keptCount (N : Nat) (a0 a1 : Int32) (z0 : jX) : Option (Int32 × jX) := fX_keptCount_5 N N a0 a1 (0 : Int32) (0 : Int32) z0
set_option maxHeartbeats 4000000 in
set_option maxRecDepth 100000 in
theorem cX_keptCount (l : Launch) (dC : Nat → ClassId) (dI : Nat → Nat → Nat) (cI cC cL : ClassId) (sk sv : Nat → Nat) (adX bh ch adC adS : Nat → Nat) (N : Nat) (a0 a1 : Int32) (z0 z1 : jX) (r : Int32) (hf : fX_keptCount N a0 a1 z0 = some (r, z1)) : Ci l yX_keptCount (Cond.code yX_keptCount prog_1_method_15_code 5 (some .int) :: TB) ({ frames := 4, cells := 0, slots := 0, locals := 102 }) (dC, dI) vwCl [(cI, .int), (cC, .char), (cL, .object "SharedSyntax$Letters")] (jEn sk sv) [.ref (adX 0), .int a0, .int a1] (wX cI cC cL adX bh ch adC adS z0) (wX cI cC cL adX bh ch adC adS z1) r := by
  refine Ci_of (cc := prog_1_method_15_code) (maxL := 5) (ret := (some .int)) (by decide) rfl (Nat.le_of_ble_eq_true rfl) ?_
  intro p e s m below meth c ls F hl hK hN hC
  obtain ⟨hx, hb, hml, hown, hts, hr, hlk⟩ := F
  have ht : ∀ w ∈ TB, w.before [.ref (adX 0), .int a0, .int a1].toArray s = true := fun w h => hts w (List.mem_cons_of_mem _ h)
  have hA : ∀ q, s.heap.size ≤ q → va_A (wX cI cC cL adX bh ch adC adS z0) s.heap.size q := fun q h => Or.inr h
  have hl : lv_has ls 5 [(0, .ref (adX 0)), (1, .int a0), (2, .int a1)] := hl
  have L5 : ∀ (n : Nat) (x1 x2 x3 x4 : Int32) (s0 : jX) (ls : Array Slot) (H : Heap) (locs : List Loc), lv_has ls 5 [(0, .ref (adX 0)), (1, .int x1), (2, .int x2), (3, .int x3), (4, .int x4)] → jcx (dC, dI) vwCl (va_A (wX cI cC cL adX bh ch adC adS z0) s.heap.size) s.heap (wX cI cC cL adX bh ch adC adS s0) H locs → fX_keptCount_5 N n x1 x2 x3 x4 s0 = some (r, z1) → W p l e ({ frames := 4, cells := 0, slots := 0, locals := 102 }) s m [.ref (adX 0), .int a0, .int a1].toArray below meth c H locs 0 0 (MQ below (jQi (dC, dI) vwCl [(cI, .int), (cC, .char), (cL, .object "SharedSyntax$Letters")] (wX cI cC cL adX bh ch adC adS z0) (wX cI cC cL adX bh ch adC adS z1) s.heap.size r) [.ref (adX 0), .int a0, .int a1].toArray s 0 0 (va_A (wX cI cC cL adX bh ch adC adS z0) s.heap.size)) (F0 m 5 ls []) := by
    intro n
    induction n with
    | zero => exact fun _ _ _ _ _ _ _ _ _ _ hf => nomatch hf
    | succ n ih5 =>
      intro x1 x2 x3 x4 s0 ls H locs hl hC hf
      replace hf : fX_keptCount_b5 N (fX_keptCount_5 N n) x1 x2 x3 x4 s0 = some (r, z1) := hf
      generalize fX_keptCount_5 N n = k5 at ih5 hf
      unfold fX_keptCount_b5 at hf
      refine lv_iload hx hb dX_keptCount_5 (lv_at hl 4 rfl) ?_
      refine lv_aload_n hx hb dX_keptCount_7 rfl (lv_at hl 0 rfl) ?_
      refine va_get (D := (dC, dI)) (ci := 5) (v := .ref (adC 0)) (C := RcX) (T := TcX) (N := 6) hx hb ht in_cX hown hK hC.1 0 (wX_e0 cI cC cL adX bh ch adC adS s0) rfl 2 (by decide) (ht _ tw462) (fun _ h9 => h9) rfl dX_keptCount_8 ?_
      refine va_getN (D := (dC, dI)) (ci := 3) (v := .ref (adC 1)) (C := RcR) (T := TcR) (N := 10) hx hb ht in_cR hown hK hC.1 11 (wX_e11 cI cC cL adX bh ch adC adS s0) rfl 1 (by decide) (va_Nw.use rfl (hN.1 _ nw115)) (fun _ h9 => h9) rfl dX_keptCount_11 ?_
      refine va_getN (D := (dC, dI)) (ci := 2) (v := .int (jgI s0.2.1 3)) (C := RcT) (T := TcT) (N := 9) hx hb ht in_cT hown hK hC.1 12 (wX_e12 cI cC cL adX bh ch adC adS s0) rfl 7 (by decide) (va_Nw.use rfl (hN.1 _ nw64)) (fun _ h9 => h9) rfl dX_keptCount_14 ?_
      refine lv_icmp_ge (tgt := 55) hx hb dX_keptCount_17 (by decide) (fun c501 => ?_) (fun c501 => ?_)
      · replace hf := jif_t c501 hf
        refine lv_iload_n hx hb dX_keptCount_55 rfl (lv_at hl 3 rfl) ?_
        cases hf
        exact jret_i hx hb hr hlk hC hK dX_keptCount_56
      · replace hf := jif_f c501 hf
        refine lv_aload_n hx hb dX_keptCount_20 rfl (lv_at hl 0 rfl) ?_
        refine va_get (D := (dC, dI)) (ci := 5) (v := .ref (adC 0)) (C := RcX) (T := TcX) (N := 6) hx hb ht in_cX hown hK hC.1 0 (wX_e0 cI cC cL adX bh ch adC adS s0) rfl 2 (by decide) (ht _ tw462) (fun _ h9 => h9) rfl dX_keptCount_21 ?_
        refine va_getN (D := (dC, dI)) (ci := 3) (v := .ref (adC 1)) (C := RcR) (T := TcR) (N := 10) hx hb ht in_cR hown hK hC.1 11 (wX_e11 cI cC cL adX bh ch adC adS s0) rfl 1 (by decide) (va_Nw.use rfl (hN.1 _ nw115)) (fun _ h9 => h9) rfl dX_keptCount_24 ?_
        refine lv_iload hx hb dX_keptCount_27 (lv_at hl 4 rfl) ?_
        obtain ⟨r502, s502, hc502, hf⟩ := jB_some hf
        have hCc := wX_subc cI cC cL adX bh ch adC adS s0 hC
        refine jcallS_i (wX_mcc cI cC cL adX bh ch adC adS s0) (wX_mrc cI cC cL adX bh ch adC adS s0) rfl (by decide) (wX_mbc cI cC cL adX bh ch adC adS s0 s502) rfl (va_runV (C := RcT) (As := [.int x4]) (rest := []) ⟨hx, hb, hml, hown, hts⟩ ((cT_isStatement l dC dI cI cC cL sk sv adC N x4 s0.2.1 s502 r502 hc502) _) ⟨(callB_of 1 hts (tb_good tw532) rfl rfl rfl (ht _ tw4) (ht _ tw529) (by decide +kernel) ⟨Nat.le_of_ble_eq_true rfl, Nat.le_of_ble_eq_true rfl⟩), ht _ tw530, ht _ tw531⟩ (jpreV (jEn_ok sk sv) hCc hA hK hN (wR_e1 cI cC adC s0.2.1) rfl rfl _) rfl rfl hl.1 rfl (lv_room (Nat.le_of_ble_eq_true rfl)) dX_keptCount_29 ⟨Nat.le_refl _, Nat.le_refl _⟩) hC hA (fun H locs hC => ?_)
        refine lv_if_eq (tgt := 49) hx hb dX_keptCount_32 (by decide) (fun c503 => ?_) (fun c503 => ?_)
        · replace hf := jif_t c503 hf
          refine lv_iinc (k := 4) (v := (x4 + (1 : Int32))) (lv' := [(4, .int (x4 + (1 : Int32))), (0, .ref (adX 0)), (1, .int x1), (2, .int x2), (3, .int x3)]) hx hb dX_keptCount_49 hl rfl rfl (by decide) rfl (fun ls hl => ?_)
          refine lv_goto (tgt := 5) hx hb dX_keptCount_52 (by decide) ?_
          exact ih5 x1 x2 x3 (x4 + (1 : Int32)) (s0.1, s502, s0.2.2) ls _ _ (lv_sub hl [1, 2, 3, 4, 0] rfl) hC hf
        · replace hf := jif_f c503 hf
          refine lv_aload_n hx hb dX_keptCount_35 rfl (lv_at hl 0 rfl) ?_
          refine lv_iload hx hb dX_keptCount_36 (lv_at hl 4 rfl) ?_
          refine lv_iload_n hx hb dX_keptCount_38 rfl (lv_at hl 1 rfl) ?_
          refine lv_iload_n hx hb dX_keptCount_39 rfl (lv_at hl 2 rfl) ?_
          obtain ⟨r504, s504, hc504, hf⟩ := jB_some hf
          refine jcall_i (va_runV (C := RcX) (As := [.int x4, .int x1, .int x2]) (rest := []) ⟨hx, hb, hml, hown, hts⟩ ((cX_isKept l dC dI cI cC cL sk sv adX bh ch adC adS N x4 x1 x2 (s0.1, s502, s0.2.2) s504 r504 hc504) _) ⟨(callB_of 3 hts (tb_good tw536) rfl rfl rfl (ht _ tw1) (ht _ tw533) (by decide +kernel) ⟨Nat.le_of_ble_eq_true rfl, Nat.le_of_ble_eq_true rfl⟩), ht _ tw535, ht _ (tb_sel pv_X_isKept)⟩ (jpreV (jEn_ok sk sv) hC hA hK hN (wX_e0 cI cC cL adX bh ch adC adS (s0.1, s502, s0.2.2)) rfl rfl _) rfl rfl hl.1 rfl (lv_room (Nat.le_of_ble_eq_true rfl)) dX_keptCount_40 ⟨Nat.le_refl _, Nat.le_refl _⟩) hC hA (fun H locs hC => ?_)
          refine lv_if_eq (tgt := 49) hx hb dX_keptCount_43 (by decide) (fun c505 => ?_) (fun c505 => ?_)
          · replace hf := jif_t c505 hf
            refine lv_iinc (k := 4) (v := (x4 + (1 : Int32))) (lv' := [(4, .int (x4 + (1 : Int32))), (0, .ref (adX 0)), (1, .int x1), (2, .int x2), (3, .int x3)]) hx hb dX_keptCount_49 hl rfl rfl (by decide) rfl (fun ls hl => ?_)
            refine lv_goto (tgt := 5) hx hb dX_keptCount_52 (by decide) ?_
            exact ih5 x1 x2 x3 (x4 + (1 : Int32)) s504 ls _ _ (lv_sub hl [1, 2, 3, 4, 0] rfl) hC hf
          · replace hf := jif_f c505 hf
            refine lv_iinc (k := 3) (v := (x3 + (1 : Int32))) (lv' := [(3, .int (x3 + (1 : Int32))), (0, .ref (adX 0)), (1, .int x1), (2, .int x2), (4, .int x4)]) hx hb dX_keptCount_46 hl rfl rfl (by decide) rfl (fun ls hl => ?_)
            refine lv_iinc (k := 4) (v := (x4 + (1 : Int32))) (lv' := [(4, .int (x4 + (1 : Int32))), (3, .int (x3 + (1 : Int32))), (0, .ref (adX 0)), (1, .int x1), (2, .int x2)]) hx hb dX_keptCount_49 hl rfl rfl (by decide) rfl (fun ls hl => ?_)
            refine lv_goto (tgt := 5) hx hb dX_keptCount_52 (by decide) ?_
            exact ih5 x1 x2 (x3 + (1 : Int32)) (x4 + (1 : Int32)) s504 ls _ _ (lv_sub hl [2, 3, 4, 1, 0] rfl) hC hf
  unfold fX_keptCount at hf
  refine lv_iconst (v := 0) hx hb dX_keptCount_0 (by decide) ?_
  refine lv_istore_n (lv' := [(3, .int (0 : Int32)), (0, .ref (adX 0)), (1, .int a0), (2, .int a1)]) hx hb dX_keptCount_1 rfl hl (by decide) rfl (fun ls hl => ?_)
  refine lv_iconst (v := 0) hx hb dX_keptCount_2 (by decide) ?_
  refine lv_istore (lv' := [(4, .int (0 : Int32)), (3, .int (0 : Int32)), (0, .ref (adX 0)), (1, .int a0), (2, .int a1)]) hx hb dX_keptCount_3 hl (by decide) rfl (fun ls hl => ?_)
  exact L5 N a0 a1 (0 : Int32) (0 : Int32) z0 ls _ _ (lv_sub hl [2, 3, 4, 1, 0] rfl) hC hf

def fX_edit (N : Nat) (a0 a1 : Int32) (z0 : jX) : Option (Int32 × jX) := (jB (fX_fits N a0 a1 z0) fun r1 s1 => (if r1 = 0 then (jB (fL_clear_B N s1) fun r3 s3 => (if jBo r1 = true then some (r1, s3) else none)) else (jB (fH_store_cL N s1) fun r4 s4 => (jB (fL_splice_pL_cL_B N a0 a1 s4) fun r5 s5 => (jB (fR_read N s5.2.2) fun r6 s6 => (jB (fX_keptCount N a0 a1 (s5.1, s6, s5.2.1)) fun r8 s8 => (jL ((jsI s8.1 1 r8, s8.2.1, s8.2.2)) fun s9 => (jL ((jsI s9.1 0 (jgI s9.1 0 + (1 : Int32)), s9.2.1, s9.2.2)) fun s10 => (jB (fL_clear_B N s10) fun r11 s11 => (if jBo r1 = true then some (r1, s11) else none))))))))))
set_option maxHeartbeats 4000000 in
set_option maxRecDepth 100000 in
theorem cX_edit (l : Launch) (dC : Nat → ClassId) (dI : Nat → Nat → Nat) (cI cC cL : ClassId) (sk sv : Nat → Nat) (adX bh ch adC adS : Nat → Nat) (N : Nat) (a0 a1 : Int32) (z0 z1 : jX) (r : Int32) (hf : fX_edit N a0 a1 z0 = some (r, z1)) : Ci l yX_edit (Cond.code yX_edit prog_1_method_3_code 4 (some .boolean) :: TB) ({ frames := 77, cells := 0, slots := 0, locals := 2994 }) (dC, dI) vwCl [(cI, .int), (cC, .char), (cL, .object "SharedSyntax$Letters")] (jEn sk sv) [.ref (adX 0), .int a0, .int a1] (wX cI cC cL adX bh ch adC adS z0) (if r = 0 then wX cI cC cL adX bh ch adC adS z1 else wX cI cC cL adX bh ch adS adC z1) r := by
  refine Ci_of (cc := prog_1_method_3_code) (maxL := 4) (ret := (some .boolean)) (by decide) rfl (Nat.le_of_ble_eq_true rfl) ?_
  intro p e s m below meth c ls F hl hK hN hC
  obtain ⟨hx, hb, hml, hown, hts, hr, hlk⟩ := F
  have ht : ∀ w ∈ TB, w.before [.ref (adX 0), .int a0, .int a1].toArray s = true := fun w h => hts w (List.mem_cons_of_mem _ h)
  have hA : ∀ q, s.heap.size ≤ q → va_A (wX cI cC cL adX bh ch adC adS z0) s.heap.size q := fun q h => Or.inr h
  have hl : lv_has ls 4 [(0, .ref (adX 0)), (1, .int a0), (2, .int a1)] := hl
  unfold fX_edit at hf
  refine lv_aload_n hx hb dX_edit_0 rfl (lv_at hl 0 rfl) ?_
  refine lv_iload_n hx hb dX_edit_1 rfl (lv_at hl 1 rfl) ?_
  refine lv_iload_n hx hb dX_edit_2 rfl (lv_at hl 2 rfl) ?_
  obtain ⟨r1, s1, hc1, hf⟩ := jB_some hf
  refine jcall_i (va_runV (C := RcX) (As := [.int a0, .int a1]) (rest := []) ⟨hx, hb, hml, hown, hts⟩ ((cX_fits l dC dI cI cC cL sk sv adX bh ch adC adS N a0 a1 z0 s1 r1 hc1) _) ⟨(callB_of 2 hts (tb_good tw494) rfl rfl rfl (ht _ tw1) (ht _ tw491) (by decide +kernel) ⟨Nat.le_of_ble_eq_true rfl, Nat.le_of_ble_eq_true rfl⟩), ht _ tw493, ht _ (tb_sel pv_X_fits)⟩ (jpreV (jEn_ok sk sv) hC hA hK hN (wX_e0 cI cC cL adX bh ch adC adS z0) rfl rfl _) rfl rfl hl.1 rfl (lv_room (Nat.le_of_ble_eq_true rfl)) dX_edit_3 ⟨Nat.le_refl _, Nat.le_refl _⟩) hC hA (fun H locs hC => ?_)
  refine lv_istore_n (lv' := [(3, .int r1), (0, .ref (adX 0)), (1, .int a0), (2, .int a1)]) hx hb dX_edit_6 rfl hl (by decide) rfl (fun ls hl => ?_)
  refine lv_iload_n hx hb dX_edit_7 rfl (lv_at hl 0 rfl) ?_
  refine lv_if_eq (tgt := 79) hx hb dX_edit_8 (by decide) (fun c2 => ?_) (fun c2 => ?_)
  · replace hf := jif_t c2 hf
    refine lv_aload_n hx hb dX_edit_79 rfl (lv_at hl 1 rfl) ?_
    refine va_get (D := (dC, dI)) (ci := 5) (v := .ref (adX 1)) (C := RcX) (T := TcX) (N := 6) hx hb ht in_cX hown hK hC.1 0 (wX_e0 cI cC cL adX bh ch adC adS s1) rfl 0 (by decide) (ht _ tw460) (fun _ h9 => h9) rfl dX_edit_80 ?_
    obtain ⟨r3, s3, hc3, hf⟩ := jB_some hf
    refine jcall_v (va_runV (C := RcL) (As := []) (rest := []) ⟨hx, hb, hml, hown, hts⟩ ((cL_clear_B l dC dI cI cC cL sk sv adX bh ch adC adS N s1 s3 r3 hc3) _) ⟨(callB_of 0 hts (tb_good tw510) rfl rfl rfl (ht _ tw3) (ht _ tw563) (by decide +kernel) ⟨Nat.le_of_ble_eq_true rfl, Nat.le_of_ble_eq_true rfl⟩), ht _ tw508, ht _ tw509⟩ (jpreV (jEn_ok sk sv) hC hA hK hN (wX_e1 cI cC cL adX bh ch adC adS s1) rfl rfl _) rfl rfl hl.1 rfl (lv_room (Nat.le_of_ble_eq_true rfl)) dX_edit_83 ⟨Nat.le_refl _, Nat.le_refl _⟩) hC hA (fun H locs hC => ?_)
    refine lv_iload_n hx hb dX_edit_86 rfl (lv_at hl 0 rfl) ?_
    obtain ⟨hz, hf⟩ := jC_b hf
    cases hf
    exact jret_z hx hb hr (jBo_n hz) hlk (jpickT c2 hC) hK dX_edit_87
  · replace hf := jif_f c2 hf
    refine lv_aload_n hx hb dX_edit_11 rfl (lv_at hl 1 rfl) ?_
    refine va_get (D := (dC, dI)) (ci := 5) (v := .ref (adX 3)) (C := RcX) (T := TcX) (N := 6) hx hb ht in_cX hown hK hC.1 0 (wX_e0 cI cC cL adX bh ch adC adS s1) rfl 1 (by decide) (ht _ tw461) (fun _ h9 => h9) rfl dX_edit_12 ?_
    refine lv_aload_n hx hb dX_edit_15 rfl (lv_at hl 1 rfl) ?_
    refine va_get (D := (dC, dI)) (ci := 5) (v := .ref (adC 0)) (C := RcX) (T := TcX) (N := 6) hx hb ht in_cX hown hK hC.1 0 (wX_e0 cI cC cL adX bh ch adC adS s1) rfl 2 (by decide) (ht _ tw462) (fun _ h9 => h9) rfl dX_edit_16 ?_
    refine va_getN (D := (dC, dI)) (ci := 3) (v := .ref (adC 3)) (C := RcR) (T := TcR) (N := 10) hx hb ht in_cR hown hK hC.1 11 (wX_e11 cI cC cL adX bh ch adC adS s1) rfl 0 (by decide) (va_Nw.use rfl (hN.1 _ nw113)) (fun _ h9 => h9) rfl dX_edit_19 ?_
    obtain ⟨r4, s4, hc4, hf⟩ := jB_some hf
    refine jcall_v (va_runV (C := RcH) (As := [.ref (adC 3)]) (rest := []) ⟨hx, hb, hml, hown, hts⟩ ((cH_store_cL l dC dI cI cC cL sk sv adX bh ch adC adS N s1 s4 r4 hc4) _) ⟨(callB_of 1 hts (tb_good tw498) rfl rfl rfl (ht _ tw13) (ht _ tw495) (by decide +kernel) ⟨Nat.le_of_ble_eq_true rfl, Nat.le_of_ble_eq_true rfl⟩), ht _ tw496, ht _ tw497⟩ (jpreV (jEn_ok sk sv) hC hA hK hN (wX_e3 cI cC cL adX bh ch adC adS s1) rfl rfl _) rfl rfl hl.1 rfl (lv_room (Nat.le_of_ble_eq_true rfl)) dX_edit_22 ⟨Nat.le_refl _, Nat.le_refl _⟩) hC hA (fun H locs hC => ?_)
    refine lv_aload_n hx hb dX_edit_25 rfl (lv_at hl 1 rfl) ?_
    refine va_get (D := (dC, dI)) (ci := 5) (v := .ref (adS 0)) (C := RcX) (T := TcX) (N := 6) hx hb ht in_cX hown hK hC.1 0 (wX_e0 cI cC cL adX bh ch adC adS s4) rfl 3 (by decide) (ht _ tw463) (fun _ h9 => h9) rfl dX_edit_26 ?_
    refine va_getN (D := (dC, dI)) (ci := 3) (v := .ref (adS 3)) (C := RcR) (T := TcR) (N := 10) hx hb ht in_cR hown hK hC.1 29 (wX_e29 cI cC cL adX bh ch adC adS s4) rfl 0 (by decide) (va_Nw.use rfl (hN.1 _ nw113)) (fun _ h9 => h9) rfl dX_edit_29 ?_
    refine lv_aload_n hx hb dX_edit_32 rfl (lv_at hl 1 rfl) ?_
    refine va_get (D := (dC, dI)) (ci := 5) (v := .ref (adC 0)) (C := RcX) (T := TcX) (N := 6) hx hb ht in_cX hown hK hC.1 0 (wX_e0 cI cC cL adX bh ch adC adS s4) rfl 2 (by decide) (ht _ tw462) (fun _ h9 => h9) rfl dX_edit_33 ?_
    refine va_getN (D := (dC, dI)) (ci := 3) (v := .ref (adC 3)) (C := RcR) (T := TcR) (N := 10) hx hb ht in_cR hown hK hC.1 11 (wX_e11 cI cC cL adX bh ch adC adS s4) rfl 0 (by decide) (va_Nw.use rfl (hN.1 _ nw113)) (fun _ h9 => h9) rfl dX_edit_36 ?_
    refine lv_iload_n hx hb dX_edit_39 rfl (lv_at hl 2 rfl) ?_
    refine lv_iload_n hx hb dX_edit_40 rfl (lv_at hl 3 rfl) ?_
    refine lv_aload_n hx hb dX_edit_41 rfl (lv_at hl 1 rfl) ?_
    refine va_get (D := (dC, dI)) (ci := 5) (v := .ref (adX 1)) (C := RcX) (T := TcX) (N := 6) hx hb ht in_cX hown hK hC.1 0 (wX_e0 cI cC cL adX bh ch adC adS s4) rfl 0 (by decide) (ht _ tw460) (fun _ h9 => h9) rfl dX_edit_42 ?_
    obtain ⟨r5, s5, hc5, hf⟩ := jB_some hf
    refine jcall_v (va_runV (C := RcL) (As := [.ref (adC 3), .int a0, .int a1, .ref (adX 1)]) (rest := []) ⟨hx, hb, hml, hown, hts⟩ ((cL_splice_pL_cL_B l dC dI cI cC cL sk sv adX bh ch adC adS N a0 a1 s4 s5 r5 hc5) _) ⟨(callB_of 4 hts (tb_good tw520) rfl rfl rfl (ht _ tw3) (ht _ tw517) (by decide +kernel) ⟨Nat.le_of_ble_eq_true rfl, Nat.le_of_ble_eq_true rfl⟩), ht _ tw518, ht _ tw519⟩ (jpreV (jEn_ok sk sv) hC hA hK hN (wX_e32 cI cC cL adX bh ch adC adS s4) rfl rfl _) rfl rfl hl.1 rfl (lv_room (Nat.le_of_ble_eq_true rfl)) dX_edit_45 ⟨Nat.le_refl _, Nat.le_refl _⟩) hC hA (fun H locs hC => ?_)
    refine lv_aload_n hx hb dX_edit_48 rfl (lv_at hl 1 rfl) ?_
    refine va_get (D := (dC, dI)) (ci := 5) (v := .ref (adS 0)) (C := RcX) (T := TcX) (N := 6) hx hb ht in_cX hown hK hC.1 0 (wX_e0 cI cC cL adX bh ch adC adS s5) rfl 3 (by decide) (ht _ tw463) (fun _ h9 => h9) rfl dX_edit_49 ?_
    obtain ⟨r6, s6, hc6, hf⟩ := jB_some hf
    have hCc := wX_subp cI cC cL adX bh ch adC adS s5 hC
    refine jcallS_v (wX_mcp cI cC cL adX bh ch adC adS s5) (wX_mrp cI cC cL adX bh ch adC adS s5) rfl (by decide) (wX_mbp cI cC cL adX bh ch adC adS s5 s6) rfl (va_runV (C := RcR) (As := []) (rest := []) ⟨hx, hb, hml, hown, hts⟩ ((cR_read l dC dI cI cC cL sk sv adS N s5.2.2 s6 r6 hc6) _) ⟨(callB_of 0 hts (tb_good tw148) rfl rfl rfl (ht _ tw2) (ht _ tw145) (by decide +kernel) ⟨Nat.le_of_ble_eq_true rfl, Nat.le_of_ble_eq_true rfl⟩), ht _ tw146, ht _ tw147⟩ (jpreV (jEn_ok sk sv) hCc hA hK hN (wR_e0 cI cC adS s5.2.2) rfl rfl _) rfl rfl hl.1 rfl (lv_room (Nat.le_of_ble_eq_true rfl)) dX_edit_52 ⟨Nat.le_refl _, Nat.le_refl _⟩) hC hA (fun H locs hC => ?_)
    refine lv_aload_n hx hb dX_edit_55 rfl (lv_at hl 1 rfl) ?_
    refine jcall_v (va_runV (C := RcX) (As := []) (rest := []) ⟨hx, hb, hml, hown, hts⟩ (cX_takeTurns l dC dI cI cC cL sk sv adX bh ch adC adS (s5.1, s5.2.1, s6) _) ⟨(callB_of 0 hts (tb_good tw524) rfl rfl rfl (ht _ tw1) (ht _ tw521) (by decide +kernel) ⟨Nat.le_of_ble_eq_true rfl, Nat.le_of_ble_eq_true rfl⟩), ht _ tw523, ht _ (tb_sel pv_X_takeTurns)⟩ (jpreV (jEn_ok sk sv) hC hA hK hN (wX_e0 cI cC cL adX bh ch adC adS (s5.1, s5.2.1, s6)) rfl rfl _) rfl rfl hl.1 rfl (lv_room (Nat.le_of_ble_eq_true rfl)) dX_edit_56 ⟨Nat.le_refl _, Nat.le_refl _⟩) hC hA (fun H locs hC => ?_)
    refine lv_aload_n hx hb dX_edit_59 rfl (lv_at hl 1 rfl) ?_
    refine lv_aload_n hx hb dX_edit_60 rfl (lv_at hl 1 rfl) ?_
    refine lv_iload_n hx hb dX_edit_61 rfl (lv_at hl 2 rfl) ?_
    refine lv_iload_n hx hb dX_edit_62 rfl (lv_at hl 3 rfl) ?_
    obtain ⟨r8, s8, hc8, hf⟩ := jB_some hf
    refine jcall_i (va_runV (C := RcX) (As := [.int a0, .int a1]) (rest := [.ref (adX 0)]) ⟨hx, hb, hml, hown, hts⟩ ((cX_keptCount l dC dI cI cC cL sk sv adX bh ch adS adC N a0 a1 (s5.1, s6, s5.2.1) s8 r8 hc8) _) ⟨(callB_of 2 hts (tb_good tw528) rfl rfl rfl (ht _ tw1) (ht _ tw525) (by decide +kernel) ⟨Nat.le_of_ble_eq_true rfl, Nat.le_of_ble_eq_true rfl⟩), ht _ tw527, ht _ (tb_sel pv_X_keptCount)⟩ (jpreV (jEn_ok sk sv) hC hA hK hN (wX_e0 cI cC cL adX bh ch adS adC (s5.1, s6, s5.2.1)) rfl rfl _) rfl rfl hl.1 rfl (lv_room (Nat.le_of_ble_eq_true rfl)) dX_edit_63 ⟨Nat.le_refl _, Nat.le_refl _⟩) hC hA (fun H locs hC => ?_)
    obtain ⟨s9, e9, hf⟩ := jL_s hf
    refine jput (ci := 5) (C := RcX) (T := TcX) (N := 6) hx hb ht in_cX tycX tycX_ok nmcX hown hK hC 0 (wX_e0 cI cC cL adX bh ch adS adC s8) rfl 5 (by decide) (ht _ tw465) (fun _ h9 => h9) rfl rfl (Nat.le_of_ble_eq_true rfl) dX_edit_66 ((wX_pX_1 cI cC cL adX bh ch adS adC s8 _).trans (congrArg (wX cI cC cL adX bh ch adS adC) e9.symm)) (fun H locs hC => ?_)
    refine lv_aload_n hx hb dX_edit_69 rfl (lv_at hl 1 rfl) ?_
    refine lv_dup hx hb dX_edit_70 rfl ?_
    refine va_get (D := (dC, dI)) (ci := 5) (v := .int (jgI s9.1 0)) (C := RcX) (T := TcX) (N := 6) hx hb ht in_cX hown hK hC.1 0 (wX_e0 cI cC cL adX bh ch adS adC s9) rfl 4 (by decide) (ht _ tw464) (fun _ h9 => h9) rfl dX_edit_71 ?_
    refine lv_iconst (v := 1) hx hb dX_edit_74 (by decide) ?_
    refine lv_iadd hx hb dX_edit_75 ?_
    obtain ⟨s10, e10, hf⟩ := jL_s hf
    refine jput (ci := 5) (C := RcX) (T := TcX) (N := 6) hx hb ht in_cX tycX tycX_ok nmcX hown hK hC 0 (wX_e0 cI cC cL adX bh ch adS adC s9) rfl 4 (by decide) (ht _ tw464) (fun _ h9 => h9) rfl rfl (Nat.le_of_ble_eq_true rfl) dX_edit_76 ((wX_pX_0 cI cC cL adX bh ch adS adC s9 _).trans (congrArg (wX cI cC cL adX bh ch adS adC) e10.symm)) (fun H locs hC => ?_)
    refine lv_aload_n hx hb dX_edit_79 rfl (lv_at hl 1 rfl) ?_
    refine va_get (D := (dC, dI)) (ci := 5) (v := .ref (adX 1)) (C := RcX) (T := TcX) (N := 6) hx hb ht in_cX hown hK hC.1 0 (wX_e0 cI cC cL adX bh ch adS adC s10) rfl 0 (by decide) (ht _ tw460) (fun _ h9 => h9) rfl dX_edit_80 ?_
    obtain ⟨r11, s11, hc11, hf⟩ := jB_some hf
    refine jcall_v (va_runV (C := RcL) (As := []) (rest := []) ⟨hx, hb, hml, hown, hts⟩ ((cL_clear_B l dC dI cI cC cL sk sv adX bh ch adS adC N s10 s11 r11 hc11) _) ⟨(callB_of 0 hts (tb_good tw510) rfl rfl rfl (ht _ tw3) (ht _ tw563) (by decide +kernel) ⟨Nat.le_of_ble_eq_true rfl, Nat.le_of_ble_eq_true rfl⟩), ht _ tw508, ht _ tw509⟩ (jpreV (jEn_ok sk sv) hC hA hK hN (wX_e1 cI cC cL adX bh ch adS adC s10) rfl rfl _) rfl rfl hl.1 rfl (lv_room (Nat.le_of_ble_eq_true rfl)) dX_edit_83 ⟨Nat.le_refl _, Nat.le_refl _⟩) hC hA (fun H locs hC => ?_)
    refine lv_iload_n hx hb dX_edit_86 rfl (lv_at hl 0 rfl) ?_
    obtain ⟨hz, hf⟩ := jC_b hf
    cases hf
    exact jret_z hx hb hr (jBo_n hz) hlk (jpickF c2 hC) hK dX_edit_87

def fL_at_h0 (N : Nat) (a0 : Int32) (z0 : jX) : Option (Int32 × jX) := (if a0 < 0 then some ((0 : Int32), z0) else (if jgI z0.1 4 ≤ a0 then some ((0 : Int32), z0) else (if jIn a0 60 = true then some (jgA z0.1 1 (a0).toNatClampNeg, z0) else none)))
set_option maxHeartbeats 4000000 in
set_option maxRecDepth 100000 in
theorem cL_at_h0 (l : Launch) (dC : Nat → ClassId) (dI : Nat → Nat → Nat) (cI cC cL : ClassId) (sk sv : Nat → Nat) (adX bh ch adC adS : Nat → Nat) (N : Nat) (a0 : Int32) (z0 z1 : jX) (r : Int32) (hf : fL_at_h0 N a0 z0 = some (r, z1)) : Ci l yL_at (Cond.code yL_at prog_3_method_2_code 2 (some .int) :: TB) ({ frames := 0, cells := 0, slots := 0, locals := 0 }) (dC, dI) vwCl [(cI, .int), (cC, .char), (cL, .object "SharedSyntax$Letters")] (jEn sk sv) [.ref (bh 0), .int a0] (wX cI cC cL adX bh ch adC adS z0) (wX cI cC cL adX bh ch adC adS z1) r := by
  refine Ci_of (cc := prog_3_method_2_code) (maxL := 2) (ret := (some .int)) (by decide) rfl (Nat.le_of_ble_eq_true rfl) ?_
  intro p e s m below meth c ls F hl hK hN hC
  obtain ⟨hx, hb, hml, hown, hts, hr, hlk⟩ := F
  have ht : ∀ w ∈ TB, w.before [.ref (bh 0), .int a0].toArray s = true := fun w h => hts w (List.mem_cons_of_mem _ h)
  have hA : ∀ q, s.heap.size ≤ q → va_A (wX cI cC cL adX bh ch adC adS z0) s.heap.size q := fun q h => Or.inr h
  have hl : lv_has ls 2 [(0, .ref (bh 0)), (1, .int a0)] := hl
  unfold fL_at_h0 at hf
  refine lv_iload_n hx hb dL_at_0 rfl (lv_at hl 1 rfl) ?_
  refine lv_if_lt (tgt := 21) hx hb dL_at_1 (by decide) (fun c1 => ?_) (fun c1 => ?_)
  · replace hf := jif_t c1 hf
    refine lv_iconst (v := 0) hx hb dL_at_21 (by decide) ?_
    cases hf
    exact jret_i hx hb hr hlk hC hK dL_at_22
  · replace hf := jif_f c1 hf
    refine lv_iload_n hx hb dL_at_4 rfl (lv_at hl 1 rfl) ?_
    refine lv_aload_n hx hb dL_at_5 rfl (lv_at hl 0 rfl) ?_
    refine va_get (D := (dC, dI)) (ci := 0) (v := .int (jgI z0.1 4)) (C := RcL) (T := TcL) (N := 2) hx hb ht in_cL hown hK hC.1 5 (wX_e5 cI cC cL adX bh ch adC adS z0) rfl 1 (by decide) (ht _ tw32) (fun _ h9 => h9) rfl dL_at_6 ?_
    refine lv_icmp_ge (tgt := 21) hx hb dL_at_9 (by decide) (fun c2 => ?_) (fun c2 => ?_)
    · replace hf := jif_t c2 hf
      refine lv_iconst (v := 0) hx hb dL_at_21 (by decide) ?_
      cases hf
      exact jret_i hx hb hr hlk hC hK dL_at_22
    · replace hf := jif_f c2 hf
      refine lv_aload_n hx hb dL_at_12 rfl (lv_at hl 0 rfl) ?_
      refine va_get (D := (dC, dI)) (ci := 0) (v := .ref (ch 0)) (C := RcL) (T := TcL) (N := 2) hx hb ht in_cL hown hK hC.1 5 (wX_e5 cI cC cL adX bh ch adC adS z0) rfl 0 (by decide) (ht _ tw31) (fun _ h9 => h9) rfl dL_at_13 ?_
      refine lv_iload_n hx hb dL_at_16 rfl (lv_at hl 1 rfl) ?_
      obtain ⟨hi3, hf⟩ := jC_in hf
      refine va_iald hx hb hK hC.1 6 0 (wX_e6 cI cC cL adX bh ch adC adS z0) rfl hi3 dL_at_17 ?_
      refine lv_goto (tgt := 22) hx hb dL_at_18 (by decide) ?_
      cases hf
      exact jret_i hx hb hr hlk hC hK dL_at_22

def fL_appendPart_cL_h0_b3 (N : Nat) (k3 : Int32 → Int32 → jX → Option (Int32 × jX)) (x3 x4 : Int32) (s0 : jX) : Option (Int32 × jX) := (if x3 ≤ x4 then some (0, s0) else (jB (fL_at_h0 N x4 s0) fun r302 s302 => (jB (fL_append N r302 s302.2.1) fun r303 s303 => k3 x3 (x4 + (1 : Int32)) (s302.1, s303, s302.2.2))))
def fL_appendPart_cL_h0_3 (N : Nat) : Nat → Int32 → Int32 → jX → Option (Int32 × jX)
  | 0 => fun _ _ _ => none
  | n + 1 => fun x3 x4 s0 => fL_appendPart_cL_h0_b3 N (fL_appendPart_cL_h0_3 N n) x3 x4 s0
def fL_appendPart_cL_h0 (N : Nat) (a1 a2 : Int32) (z0 : jX) : Option (Int32 × jX) := fL_appendPart_cL_h0_3 N N a2 a1 z0
set_option maxHeartbeats 4000000 in
set_option maxRecDepth 100000 in
theorem cL_appendPart_cL_h0 (l : Launch) (dC : Nat → ClassId) (dI : Nat → Nat → Nat) (cI cC cL : ClassId) (sk sv : Nat → Nat) (adX bh ch adC adS : Nat → Nat) (N : Nat) (a1 a2 : Int32) (z0 z1 : jX) (r : Int32) (hf : fL_appendPart_cL_h0 N a1 a2 z0 = some (r, z1)) : Cv l yL_appendPart (Cond.code yL_appendPart prog_3_method_7_code 5 none :: TB) ({ frames := 1, cells := 0, slots := 0, locals := 21 }) (dC, dI) vwCl [(cI, .int), (cC, .char), (cL, .object "SharedSyntax$Letters")] (jEn sk sv) [.ref (adC 3), .ref (bh 0), .int a1, .int a2] (wX cI cC cL adX bh ch adC adS z0) (wX cI cC cL adX bh ch adC adS z1) := by
  refine Cv_of (cc := prog_3_method_7_code) (maxL := 5) (ret := none) (by decide) rfl (Nat.le_of_ble_eq_true rfl) ?_
  intro p e s m below meth c ls F hl hK hN hC
  obtain ⟨hx, hb, hml, hown, hts, hr, hlk⟩ := F
  have ht : ∀ w ∈ TB, w.before [.ref (adC 3), .ref (bh 0), .int a1, .int a2].toArray s = true := fun w h => hts w (List.mem_cons_of_mem _ h)
  have hA : ∀ q, s.heap.size ≤ q → va_A (wX cI cC cL adX bh ch adC adS z0) s.heap.size q := fun q h => Or.inr h
  have hl : lv_has ls 5 [(0, .ref (adC 3)), (1, .ref (bh 0)), (2, .int a1), (3, .int a2)] := hl
  have L3 : ∀ (n : Nat) (x3 x4 : Int32) (s0 : jX) (ls : Array Slot) (H : Heap) (locs : List Loc), lv_has ls 5 [(0, .ref (adC 3)), (1, .ref (bh 0)), (3, .int x3), (4, .int x4)] → jcx (dC, dI) vwCl (va_A (wX cI cC cL adX bh ch adC adS z0) s.heap.size) s.heap (wX cI cC cL adX bh ch adC adS s0) H locs → fL_appendPart_cL_h0_3 N n x3 x4 s0 = some (r, z1) → W p l e ({ frames := 1, cells := 0, slots := 0, locals := 21 }) s m [.ref (adC 3), .ref (bh 0), .int a1, .int a2].toArray below meth c H locs 0 0 (MQ below (jQv (dC, dI) vwCl [(cI, .int), (cC, .char), (cL, .object "SharedSyntax$Letters")] (wX cI cC cL adX bh ch adC adS z0) (wX cI cC cL adX bh ch adC adS z1) s.heap.size) [.ref (adC 3), .ref (bh 0), .int a1, .int a2].toArray s 0 0 (va_A (wX cI cC cL adX bh ch adC adS z0) s.heap.size)) (F0 m 3 ls []) := by
    intro n
    induction n with
    | zero => exact fun _ _ _ _ _ _ _ _ hf => nomatch hf
    | succ n ih3 =>
      intro x3 x4 s0 ls H locs hl hC hf
      replace hf : fL_appendPart_cL_h0_b3 N (fL_appendPart_cL_h0_3 N n) x3 x4 s0 = some (r, z1) := hf
      generalize fL_appendPart_cL_h0_3 N n = k3 at ih3 hf
      unfold fL_appendPart_cL_h0_b3 at hf
      refine lv_iload hx hb dL_appendPart_3 (lv_at hl 3 rfl) ?_
      refine lv_iload_n hx hb dL_appendPart_5 rfl (lv_at hl 2 rfl) ?_
      refine lv_icmp_ge (tgt := 26) hx hb dL_appendPart_6 (by decide) (fun c301 => ?_) (fun c301 => ?_)
      · replace hf := jif_t c301 hf
        cases hf
        exact jret_v hx hb hr hlk hC hK dL_appendPart_26
      · replace hf := jif_f c301 hf
        refine lv_aload_n hx hb dL_appendPart_9 rfl (lv_at hl 0 rfl) ?_
        refine lv_aload_n hx hb dL_appendPart_10 rfl (lv_at hl 1 rfl) ?_
        refine lv_iload hx hb dL_appendPart_11 (lv_at hl 3 rfl) ?_
        obtain ⟨r302, s302, hc302, hf⟩ := jB_some hf
        refine jcall_i (va_runV (C := RcL) (As := [.int x4]) (rest := [.ref (adC 3)]) ⟨hx, hb, hml, hown, hts⟩ ((cL_at_h0 l dC dI cI cC cL sk sv adX bh ch adC adS N x4 s0 s302 r302 hc302) _) ⟨(callB_of 1 hts (tb_good tw164) rfl rfl rfl (ht _ tw3) (ht _ tw515) (by decide +kernel) ⟨Nat.le_of_ble_eq_true rfl, Nat.le_of_ble_eq_true rfl⟩), ht _ tw162, ht _ tw163⟩ (jpreV (jEn_ok sk sv) hC hA hK hN (wX_e5 cI cC cL adX bh ch adC adS s0) rfl rfl _) rfl rfl hl.1 rfl (lv_room (Nat.le_of_ble_eq_true rfl)) dL_appendPart_13 ⟨Nat.le_refl _, Nat.le_refl _⟩) hC hA (fun H locs hC => ?_)
        obtain ⟨r303, s303, hc303, hf⟩ := jB_some hf
        have hCc := wX_subc cI cC cL adX bh ch adC adS s302 hC
        refine jcallS_i (wX_mcc cI cC cL adX bh ch adC adS s302) (wX_mrc cI cC cL adX bh ch adC adS s302) rfl (by decide) (wX_mbc cI cC cL adX bh ch adC adS s302 s303) rfl (va_runV (C := RcL) (As := [.int r302]) (rest := []) ⟨hx, hb, hml, hown, hts⟩ ((cL_append l dC dI cI cC cL sk sv adC N r302 s302.2.1 s303 r303 hc303) _) ⟨(callB_of 1 hts (tb_good tw486) rfl rfl rfl (ht _ tw3) (ht _ tw516) (by decide +kernel) ⟨Nat.le_of_ble_eq_true rfl, Nat.le_of_ble_eq_true rfl⟩), ht _ tw484, ht _ tw485⟩ (jpreV (jEn_ok sk sv) hCc hA hK hN (wR_e3 cI cC adC s302.2.1) rfl rfl _) rfl rfl hl.1 rfl (lv_room (Nat.le_of_ble_eq_true rfl)) dL_appendPart_16 ⟨Nat.le_refl _, Nat.le_refl _⟩) hC hA (fun H locs hC => ?_)
        refine lv_pop hx hb dL_appendPart_19 rfl ?_
        refine lv_iinc (k := 3) (v := (x4 + (1 : Int32))) (lv' := [(4, .int (x4 + (1 : Int32))), (0, .ref (adC 3)), (1, .ref (bh 0)), (3, .int x3)]) hx hb dL_appendPart_20 hl rfl rfl (by decide) rfl (fun ls hl => ?_)
        refine lv_goto (tgt := 3) hx hb dL_appendPart_23 (by decide) ?_
        exact ih3 x3 (x4 + (1 : Int32)) (s302.1, s303, s302.2.2) ls _ _ (lv_sub hl [1, 2, 3, 0] rfl) hC hf
  unfold fL_appendPart_cL_h0 at hf
  refine lv_iload_n hx hb dL_appendPart_0 rfl (lv_at hl 2 rfl) ?_
  refine lv_istore (lv' := [(4, .int a1), (0, .ref (adC 3)), (1, .ref (bh 0)), (2, .int a1), (3, .int a2)]) hx hb dL_appendPart_1 hl (by decide) rfl (fun ls hl => ?_)
  exact L3 N a2 a1 z0 ls _ _ (lv_sub hl [1, 2, 4, 0] rfl) hC hf

def fL_copy_cL_h0 (N : Nat) (z0 : jX) : Option (Int32 × jX) := (jB (fL_clear N z0.2.1) fun r1 s1 => (jB (fL_appendPart_cL_h0 N (0 : Int32) (jgI z0.1 4) (z0.1, s1, z0.2.2)) fun r2 s2 => some (0, s2)))
set_option maxHeartbeats 4000000 in
set_option maxRecDepth 100000 in
theorem cL_copy_cL_h0 (l : Launch) (dC : Nat → ClassId) (dI : Nat → Nat → Nat) (cI cC cL : ClassId) (sk sv : Nat → Nat) (adX bh ch adC adS : Nat → Nat) (N : Nat) (z0 z1 : jX) (r : Int32) (hf : fL_copy_cL_h0 N z0 = some (r, z1)) : Cv l yL_copy (Cond.code yL_copy prog_3_method_5_code 2 none :: TB) ({ frames := 2, cells := 0, slots := 0, locals := 45 }) (dC, dI) vwCl [(cI, .int), (cC, .char), (cL, .object "SharedSyntax$Letters")] (jEn sk sv) [.ref (adC 3), .ref (bh 0)] (wX cI cC cL adX bh ch adC adS z0) (wX cI cC cL adX bh ch adC adS z1) := by
  refine Cv_of (cc := prog_3_method_5_code) (maxL := 2) (ret := none) (by decide) rfl (Nat.le_of_ble_eq_true rfl) ?_
  intro p e s m below meth c ls F hl hK hN hC
  obtain ⟨hx, hb, hml, hown, hts, hr, hlk⟩ := F
  have ht : ∀ w ∈ TB, w.before [.ref (adC 3), .ref (bh 0)].toArray s = true := fun w h => hts w (List.mem_cons_of_mem _ h)
  have hA : ∀ q, s.heap.size ≤ q → va_A (wX cI cC cL adX bh ch adC adS z0) s.heap.size q := fun q h => Or.inr h
  have hl : lv_has ls 2 [(0, .ref (adC 3)), (1, .ref (bh 0))] := hl
  unfold fL_copy_cL_h0 at hf
  refine lv_aload_n hx hb dL_copy_0 rfl (lv_at hl 0 rfl) ?_
  obtain ⟨r1, s1, hc1, hf⟩ := jB_some hf
  have hCc := wX_subc cI cC cL adX bh ch adC adS z0 hC
  refine jcallS_v (wX_mcc cI cC cL adX bh ch adC adS z0) (wX_mrc cI cC cL adX bh ch adC adS z0) rfl (by decide) (wX_mbc cI cC cL adX bh ch adC adS z0 s1) rfl (va_runV (C := RcL) (As := []) (rest := []) ⟨hx, hb, hml, hown, hts⟩ ((cL_clear l dC dI cI cC cL sk sv adC N z0.2.1 s1 r1 hc1) _) ⟨(callB_of 0 hts (tb_good tw510) rfl rfl rfl (ht _ tw3) (ht _ tw507) (by decide +kernel) ⟨Nat.le_of_ble_eq_true rfl, Nat.le_of_ble_eq_true rfl⟩), ht _ tw508, ht _ tw509⟩ (jpreV (jEn_ok sk sv) hCc hA hK hN (wR_e3 cI cC adC z0.2.1) rfl rfl _) rfl rfl hl.1 rfl (lv_room (Nat.le_of_ble_eq_true rfl)) dL_copy_1 ⟨Nat.le_refl _, Nat.le_refl _⟩) hC hA (fun H locs hC => ?_)
  refine lv_aload_n hx hb dL_copy_4 rfl (lv_at hl 0 rfl) ?_
  refine lv_aload_n hx hb dL_copy_5 rfl (lv_at hl 1 rfl) ?_
  refine lv_iconst (v := 0) hx hb dL_copy_6 (by decide) ?_
  refine lv_aload_n hx hb dL_copy_7 rfl (lv_at hl 1 rfl) ?_
  refine va_get (D := (dC, dI)) (ci := 0) (v := .int (jgI z0.1 4)) (C := RcL) (T := TcL) (N := 2) hx hb ht in_cL hown hK hC.1 5 (wX_e5 cI cC cL adX bh ch adC adS (z0.1, s1, z0.2.2)) rfl 1 (by decide) (ht _ tw32) (fun _ h9 => h9) rfl dL_copy_8 ?_
  obtain ⟨r2, s2, hc2, hf⟩ := jB_some hf
  refine jcall_v (va_runV (C := RcL) (As := [.ref (bh 0), .int (0 : Int32), .int (jgI z0.1 4)]) (rest := []) ⟨hx, hb, hml, hown, hts⟩ ((cL_appendPart_cL_h0 l dC dI cI cC cL sk sv adX bh ch adC adS N (0 : Int32) (jgI z0.1 4) (z0.1, s1, z0.2.2) s2 r2 hc2) _) ⟨(callB_of 3 hts (tb_good tw514) rfl rfl rfl (ht _ tw3) (ht _ tw511) (by decide +kernel) ⟨Nat.le_of_ble_eq_true rfl, Nat.le_of_ble_eq_true rfl⟩), ht _ tw513, ht _ (tb_sel pv_L_appendPart)⟩ (jpreV (jEn_ok sk sv) hC hA hK hN (wX_e14 cI cC cL adX bh ch adC adS (z0.1, s1, z0.2.2)) rfl rfl _) rfl rfl hl.1 rfl (lv_room (Nat.le_of_ble_eq_true rfl)) dL_copy_11 ⟨Nat.le_refl _, Nat.le_refl _⟩) hC hA (fun H locs hC => ?_)
  cases hf
  exact jret_v hx hb hr hlk hC hK dL_copy_14

def fL_at_h1 (N : Nat) (a0 : Int32) (z0 : jX) : Option (Int32 × jX) := (if a0 < 0 then some ((0 : Int32), z0) else (if jgI z0.1 5 ≤ a0 then some ((0 : Int32), z0) else (if jIn a0 60 = true then some (jgA z0.1 2 (a0).toNatClampNeg, z0) else none)))
set_option maxHeartbeats 4000000 in
set_option maxRecDepth 100000 in
theorem cL_at_h1 (l : Launch) (dC : Nat → ClassId) (dI : Nat → Nat → Nat) (cI cC cL : ClassId) (sk sv : Nat → Nat) (adX bh ch adC adS : Nat → Nat) (N : Nat) (a0 : Int32) (z0 z1 : jX) (r : Int32) (hf : fL_at_h1 N a0 z0 = some (r, z1)) : Ci l yL_at (Cond.code yL_at prog_3_method_2_code 2 (some .int) :: TB) ({ frames := 0, cells := 0, slots := 0, locals := 0 }) (dC, dI) vwCl [(cI, .int), (cC, .char), (cL, .object "SharedSyntax$Letters")] (jEn sk sv) [.ref (bh 1), .int a0] (wX cI cC cL adX bh ch adC adS z0) (wX cI cC cL adX bh ch adC adS z1) r := by
  refine Ci_of (cc := prog_3_method_2_code) (maxL := 2) (ret := (some .int)) (by decide) rfl (Nat.le_of_ble_eq_true rfl) ?_
  intro p e s m below meth c ls F hl hK hN hC
  obtain ⟨hx, hb, hml, hown, hts, hr, hlk⟩ := F
  have ht : ∀ w ∈ TB, w.before [.ref (bh 1), .int a0].toArray s = true := fun w h => hts w (List.mem_cons_of_mem _ h)
  have hA : ∀ q, s.heap.size ≤ q → va_A (wX cI cC cL adX bh ch adC adS z0) s.heap.size q := fun q h => Or.inr h
  have hl : lv_has ls 2 [(0, .ref (bh 1)), (1, .int a0)] := hl
  unfold fL_at_h1 at hf
  refine lv_iload_n hx hb dL_at_0 rfl (lv_at hl 1 rfl) ?_
  refine lv_if_lt (tgt := 21) hx hb dL_at_1 (by decide) (fun c1 => ?_) (fun c1 => ?_)
  · replace hf := jif_t c1 hf
    refine lv_iconst (v := 0) hx hb dL_at_21 (by decide) ?_
    cases hf
    exact jret_i hx hb hr hlk hC hK dL_at_22
  · replace hf := jif_f c1 hf
    refine lv_iload_n hx hb dL_at_4 rfl (lv_at hl 1 rfl) ?_
    refine lv_aload_n hx hb dL_at_5 rfl (lv_at hl 0 rfl) ?_
    refine va_get (D := (dC, dI)) (ci := 0) (v := .int (jgI z0.1 5)) (C := RcL) (T := TcL) (N := 2) hx hb ht in_cL hown hK hC.1 7 (wX_e7 cI cC cL adX bh ch adC adS z0) rfl 1 (by decide) (ht _ tw32) (fun _ h9 => h9) rfl dL_at_6 ?_
    refine lv_icmp_ge (tgt := 21) hx hb dL_at_9 (by decide) (fun c2 => ?_) (fun c2 => ?_)
    · replace hf := jif_t c2 hf
      refine lv_iconst (v := 0) hx hb dL_at_21 (by decide) ?_
      cases hf
      exact jret_i hx hb hr hlk hC hK dL_at_22
    · replace hf := jif_f c2 hf
      refine lv_aload_n hx hb dL_at_12 rfl (lv_at hl 0 rfl) ?_
      refine va_get (D := (dC, dI)) (ci := 0) (v := .ref (ch 1)) (C := RcL) (T := TcL) (N := 2) hx hb ht in_cL hown hK hC.1 7 (wX_e7 cI cC cL adX bh ch adC adS z0) rfl 0 (by decide) (ht _ tw31) (fun _ h9 => h9) rfl dL_at_13 ?_
      refine lv_iload_n hx hb dL_at_16 rfl (lv_at hl 1 rfl) ?_
      obtain ⟨hi3, hf⟩ := jC_in hf
      refine va_iald hx hb hK hC.1 8 0 (wX_e8 cI cC cL adX bh ch adC adS z0) rfl hi3 dL_at_17 ?_
      refine lv_goto (tgt := 22) hx hb dL_at_18 (by decide) ?_
      cases hf
      exact jret_i hx hb hr hlk hC hK dL_at_22

def fL_appendPart_cL_h1_b3 (N : Nat) (k3 : Int32 → Int32 → jX → Option (Int32 × jX)) (x3 x4 : Int32) (s0 : jX) : Option (Int32 × jX) := (if x3 ≤ x4 then some (0, s0) else (jB (fL_at_h1 N x4 s0) fun r302 s302 => (jB (fL_append N r302 s302.2.1) fun r303 s303 => k3 x3 (x4 + (1 : Int32)) (s302.1, s303, s302.2.2))))
def fL_appendPart_cL_h1_3 (N : Nat) : Nat → Int32 → Int32 → jX → Option (Int32 × jX)
  | 0 => fun _ _ _ => none
  | n + 1 => fun x3 x4 s0 => fL_appendPart_cL_h1_b3 N (fL_appendPart_cL_h1_3 N n) x3 x4 s0
def fL_appendPart_cL_h1 (N : Nat) (a1 a2 : Int32) (z0 : jX) : Option (Int32 × jX) := fL_appendPart_cL_h1_3 N N a2 a1 z0
set_option maxHeartbeats 4000000 in
set_option maxRecDepth 100000 in
theorem cL_appendPart_cL_h1 (l : Launch) (dC : Nat → ClassId) (dI : Nat → Nat → Nat) (cI cC cL : ClassId) (sk sv : Nat → Nat) (adX bh ch adC adS : Nat → Nat) (N : Nat) (a1 a2 : Int32) (z0 z1 : jX) (r : Int32) (hf : fL_appendPart_cL_h1 N a1 a2 z0 = some (r, z1)) : Cv l yL_appendPart (Cond.code yL_appendPart prog_3_method_7_code 5 none :: TB) ({ frames := 1, cells := 0, slots := 0, locals := 21 }) (dC, dI) vwCl [(cI, .int), (cC, .char), (cL, .object "SharedSyntax$Letters")] (jEn sk sv) [.ref (adC 3), .ref (bh 1), .int a1, .int a2] (wX cI cC cL adX bh ch adC adS z0) (wX cI cC cL adX bh ch adC adS z1) := by
  refine Cv_of (cc := prog_3_method_7_code) (maxL := 5) (ret := none) (by decide) rfl (Nat.le_of_ble_eq_true rfl) ?_
  intro p e s m below meth c ls F hl hK hN hC
  obtain ⟨hx, hb, hml, hown, hts, hr, hlk⟩ := F
  have ht : ∀ w ∈ TB, w.before [.ref (adC 3), .ref (bh 1), .int a1, .int a2].toArray s = true := fun w h => hts w (List.mem_cons_of_mem _ h)
  have hA : ∀ q, s.heap.size ≤ q → va_A (wX cI cC cL adX bh ch adC adS z0) s.heap.size q := fun q h => Or.inr h
  have hl : lv_has ls 5 [(0, .ref (adC 3)), (1, .ref (bh 1)), (2, .int a1), (3, .int a2)] := hl
  have L3 : ∀ (n : Nat) (x3 x4 : Int32) (s0 : jX) (ls : Array Slot) (H : Heap) (locs : List Loc), lv_has ls 5 [(0, .ref (adC 3)), (1, .ref (bh 1)), (3, .int x3), (4, .int x4)] → jcx (dC, dI) vwCl (va_A (wX cI cC cL adX bh ch adC adS z0) s.heap.size) s.heap (wX cI cC cL adX bh ch adC adS s0) H locs → fL_appendPart_cL_h1_3 N n x3 x4 s0 = some (r, z1) → W p l e ({ frames := 1, cells := 0, slots := 0, locals := 21 }) s m [.ref (adC 3), .ref (bh 1), .int a1, .int a2].toArray below meth c H locs 0 0 (MQ below (jQv (dC, dI) vwCl [(cI, .int), (cC, .char), (cL, .object "SharedSyntax$Letters")] (wX cI cC cL adX bh ch adC adS z0) (wX cI cC cL adX bh ch adC adS z1) s.heap.size) [.ref (adC 3), .ref (bh 1), .int a1, .int a2].toArray s 0 0 (va_A (wX cI cC cL adX bh ch adC adS z0) s.heap.size)) (F0 m 3 ls []) := by
    intro n
    induction n with
    | zero => exact fun _ _ _ _ _ _ _ _ hf => nomatch hf
    | succ n ih3 =>
      intro x3 x4 s0 ls H locs hl hC hf
      replace hf : fL_appendPart_cL_h1_b3 N (fL_appendPart_cL_h1_3 N n) x3 x4 s0 = some (r, z1) := hf
      generalize fL_appendPart_cL_h1_3 N n = k3 at ih3 hf
      unfold fL_appendPart_cL_h1_b3 at hf
      refine lv_iload hx hb dL_appendPart_3 (lv_at hl 3 rfl) ?_
      refine lv_iload_n hx hb dL_appendPart_5 rfl (lv_at hl 2 rfl) ?_
      refine lv_icmp_ge (tgt := 26) hx hb dL_appendPart_6 (by decide) (fun c301 => ?_) (fun c301 => ?_)
      · replace hf := jif_t c301 hf
        cases hf
        exact jret_v hx hb hr hlk hC hK dL_appendPart_26
      · replace hf := jif_f c301 hf
        refine lv_aload_n hx hb dL_appendPart_9 rfl (lv_at hl 0 rfl) ?_
        refine lv_aload_n hx hb dL_appendPart_10 rfl (lv_at hl 1 rfl) ?_
        refine lv_iload hx hb dL_appendPart_11 (lv_at hl 3 rfl) ?_
        obtain ⟨r302, s302, hc302, hf⟩ := jB_some hf
        refine jcall_i (va_runV (C := RcL) (As := [.int x4]) (rest := [.ref (adC 3)]) ⟨hx, hb, hml, hown, hts⟩ ((cL_at_h1 l dC dI cI cC cL sk sv adX bh ch adC adS N x4 s0 s302 r302 hc302) _) ⟨(callB_of 1 hts (tb_good tw164) rfl rfl rfl (ht _ tw3) (ht _ tw515) (by decide +kernel) ⟨Nat.le_of_ble_eq_true rfl, Nat.le_of_ble_eq_true rfl⟩), ht _ tw162, ht _ tw163⟩ (jpreV (jEn_ok sk sv) hC hA hK hN (wX_e7 cI cC cL adX bh ch adC adS s0) rfl rfl _) rfl rfl hl.1 rfl (lv_room (Nat.le_of_ble_eq_true rfl)) dL_appendPart_13 ⟨Nat.le_refl _, Nat.le_refl _⟩) hC hA (fun H locs hC => ?_)
        obtain ⟨r303, s303, hc303, hf⟩ := jB_some hf
        have hCc := wX_subc cI cC cL adX bh ch adC adS s302 hC
        refine jcallS_i (wX_mcc cI cC cL adX bh ch adC adS s302) (wX_mrc cI cC cL adX bh ch adC adS s302) rfl (by decide) (wX_mbc cI cC cL adX bh ch adC adS s302 s303) rfl (va_runV (C := RcL) (As := [.int r302]) (rest := []) ⟨hx, hb, hml, hown, hts⟩ ((cL_append l dC dI cI cC cL sk sv adC N r302 s302.2.1 s303 r303 hc303) _) ⟨(callB_of 1 hts (tb_good tw486) rfl rfl rfl (ht _ tw3) (ht _ tw516) (by decide +kernel) ⟨Nat.le_of_ble_eq_true rfl, Nat.le_of_ble_eq_true rfl⟩), ht _ tw484, ht _ tw485⟩ (jpreV (jEn_ok sk sv) hCc hA hK hN (wR_e3 cI cC adC s302.2.1) rfl rfl _) rfl rfl hl.1 rfl (lv_room (Nat.le_of_ble_eq_true rfl)) dL_appendPart_16 ⟨Nat.le_refl _, Nat.le_refl _⟩) hC hA (fun H locs hC => ?_)
        refine lv_pop hx hb dL_appendPart_19 rfl ?_
        refine lv_iinc (k := 3) (v := (x4 + (1 : Int32))) (lv' := [(4, .int (x4 + (1 : Int32))), (0, .ref (adC 3)), (1, .ref (bh 1)), (3, .int x3)]) hx hb dL_appendPart_20 hl rfl rfl (by decide) rfl (fun ls hl => ?_)
        refine lv_goto (tgt := 3) hx hb dL_appendPart_23 (by decide) ?_
        exact ih3 x3 (x4 + (1 : Int32)) (s302.1, s303, s302.2.2) ls _ _ (lv_sub hl [1, 2, 3, 0] rfl) hC hf
  unfold fL_appendPart_cL_h1 at hf
  refine lv_iload_n hx hb dL_appendPart_0 rfl (lv_at hl 2 rfl) ?_
  refine lv_istore (lv' := [(4, .int a1), (0, .ref (adC 3)), (1, .ref (bh 1)), (2, .int a1), (3, .int a2)]) hx hb dL_appendPart_1 hl (by decide) rfl (fun ls hl => ?_)
  exact L3 N a2 a1 z0 ls _ _ (lv_sub hl [1, 2, 4, 0] rfl) hC hf

def fL_copy_cL_h1 (N : Nat) (z0 : jX) : Option (Int32 × jX) := (jB (fL_clear N z0.2.1) fun r1 s1 => (jB (fL_appendPart_cL_h1 N (0 : Int32) (jgI z0.1 5) (z0.1, s1, z0.2.2)) fun r2 s2 => some (0, s2)))
set_option maxHeartbeats 4000000 in
set_option maxRecDepth 100000 in
theorem cL_copy_cL_h1 (l : Launch) (dC : Nat → ClassId) (dI : Nat → Nat → Nat) (cI cC cL : ClassId) (sk sv : Nat → Nat) (adX bh ch adC adS : Nat → Nat) (N : Nat) (z0 z1 : jX) (r : Int32) (hf : fL_copy_cL_h1 N z0 = some (r, z1)) : Cv l yL_copy (Cond.code yL_copy prog_3_method_5_code 2 none :: TB) ({ frames := 2, cells := 0, slots := 0, locals := 45 }) (dC, dI) vwCl [(cI, .int), (cC, .char), (cL, .object "SharedSyntax$Letters")] (jEn sk sv) [.ref (adC 3), .ref (bh 1)] (wX cI cC cL adX bh ch adC adS z0) (wX cI cC cL adX bh ch adC adS z1) := by
  refine Cv_of (cc := prog_3_method_5_code) (maxL := 2) (ret := none) (by decide) rfl (Nat.le_of_ble_eq_true rfl) ?_
  intro p e s m below meth c ls F hl hK hN hC
  obtain ⟨hx, hb, hml, hown, hts, hr, hlk⟩ := F
  have ht : ∀ w ∈ TB, w.before [.ref (adC 3), .ref (bh 1)].toArray s = true := fun w h => hts w (List.mem_cons_of_mem _ h)
  have hA : ∀ q, s.heap.size ≤ q → va_A (wX cI cC cL adX bh ch adC adS z0) s.heap.size q := fun q h => Or.inr h
  have hl : lv_has ls 2 [(0, .ref (adC 3)), (1, .ref (bh 1))] := hl
  unfold fL_copy_cL_h1 at hf
  refine lv_aload_n hx hb dL_copy_0 rfl (lv_at hl 0 rfl) ?_
  obtain ⟨r1, s1, hc1, hf⟩ := jB_some hf
  have hCc := wX_subc cI cC cL adX bh ch adC adS z0 hC
  refine jcallS_v (wX_mcc cI cC cL adX bh ch adC adS z0) (wX_mrc cI cC cL adX bh ch adC adS z0) rfl (by decide) (wX_mbc cI cC cL adX bh ch adC adS z0 s1) rfl (va_runV (C := RcL) (As := []) (rest := []) ⟨hx, hb, hml, hown, hts⟩ ((cL_clear l dC dI cI cC cL sk sv adC N z0.2.1 s1 r1 hc1) _) ⟨(callB_of 0 hts (tb_good tw510) rfl rfl rfl (ht _ tw3) (ht _ tw507) (by decide +kernel) ⟨Nat.le_of_ble_eq_true rfl, Nat.le_of_ble_eq_true rfl⟩), ht _ tw508, ht _ tw509⟩ (jpreV (jEn_ok sk sv) hCc hA hK hN (wR_e3 cI cC adC z0.2.1) rfl rfl _) rfl rfl hl.1 rfl (lv_room (Nat.le_of_ble_eq_true rfl)) dL_copy_1 ⟨Nat.le_refl _, Nat.le_refl _⟩) hC hA (fun H locs hC => ?_)
  refine lv_aload_n hx hb dL_copy_4 rfl (lv_at hl 0 rfl) ?_
  refine lv_aload_n hx hb dL_copy_5 rfl (lv_at hl 1 rfl) ?_
  refine lv_iconst (v := 0) hx hb dL_copy_6 (by decide) ?_
  refine lv_aload_n hx hb dL_copy_7 rfl (lv_at hl 1 rfl) ?_
  refine va_get (D := (dC, dI)) (ci := 0) (v := .int (jgI z0.1 5)) (C := RcL) (T := TcL) (N := 2) hx hb ht in_cL hown hK hC.1 7 (wX_e7 cI cC cL adX bh ch adC adS (z0.1, s1, z0.2.2)) rfl 1 (by decide) (ht _ tw32) (fun _ h9 => h9) rfl dL_copy_8 ?_
  obtain ⟨r2, s2, hc2, hf⟩ := jB_some hf
  refine jcall_v (va_runV (C := RcL) (As := [.ref (bh 1), .int (0 : Int32), .int (jgI z0.1 5)]) (rest := []) ⟨hx, hb, hml, hown, hts⟩ ((cL_appendPart_cL_h1 l dC dI cI cC cL sk sv adX bh ch adC adS N (0 : Int32) (jgI z0.1 5) (z0.1, s1, z0.2.2) s2 r2 hc2) _) ⟨(callB_of 3 hts (tb_good tw514) rfl rfl rfl (ht _ tw3) (ht _ tw511) (by decide +kernel) ⟨Nat.le_of_ble_eq_true rfl, Nat.le_of_ble_eq_true rfl⟩), ht _ tw513, ht _ (tb_sel pv_L_appendPart)⟩ (jpreV (jEn_ok sk sv) hC hA hK hN (wX_e14 cI cC cL adX bh ch adC adS (z0.1, s1, z0.2.2)) rfl rfl _) rfl rfl hl.1 rfl (lv_room (Nat.le_of_ble_eq_true rfl)) dL_copy_11 ⟨Nat.le_refl _, Nat.le_refl _⟩) hC hA (fun H locs hC => ?_)
  cases hf
  exact jret_v hx hb hr hlk hC hK dL_copy_14
