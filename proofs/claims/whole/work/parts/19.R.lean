def fR_list_b2 (N : Nat) (k2 : Int32 → Int32 → jS → Option (Int32 × jS)) (g : Nat → Int32 → jS → Option (Int32 × jS)) (x1 x2 : Int32) (s0 : jS) : Option (Int32 × jS) := (if (60 : Int32) ≤ x2 then some (0, s0) else (jB (fR_listEnds N x1 s0) fun r202 s202 => (if r202 = 0 then (jB (fR_statementFollows N x1 s202) fun r204 s204 => (if r204 = 0 then (jB (fR_skip N s204) fun r206 s206 => k2 x1 (x2 + (1 : Int32)) s206) else (jB (g 1 x1 s204) fun r207 s207 => k2 x1 (x2 + (1 : Int32)) s207))) else some (0, s202))))
def fR_list_2 (N : Nat) : Nat → (Nat → Int32 → jS → Option (Int32 × jS)) → Int32 → Int32 → jS → Option (Int32 × jS)
  | 0 => fun _ _ _ _ => none
  | n + 1 => fun g x1 x2 s0 => fR_list_b2 N (fR_list_2 N n g) g x1 x2 s0
def fR_list (N : Nat) (g : Nat → Int32 → jS → Option (Int32 × jS)) (a0 : Int32) (z0 : jS) : Option (Int32 × jS) := fR_list_2 N N g a0 (0 : Int32) z0
set_option maxHeartbeats 4000000 in
set_option maxRecDepth 100000 in
theorem cR_list (l : Launch) (dC : Nat → ClassId) (dI : Nat → Nat → Nat) (cI cC cL : ClassId) (sk sv : Nat → Nat) (ad : Nat → Nat) (N : Nat) (g : Nat → Int32 → jS → Option (Int32 × jS)) (d : Nat) (hg0 : ∀ (a : Int32) (s : jS) (r : Int32) (s1 : jS), g 0 a s = some (r, s1) → Cv l yR_list (Cond.code yR_list prog_4_method_8_code 3 none :: TB) ({ frames := 35 + d, cells := 0, slots := 0, locals := 1351 + d * 40 }) (dC, dI) vwCl [(cI, .int), (cC, .char), (cL, .object "SharedSyntax$Letters")] (jEn sk sv) [.ref (ad 0), .int a] (wR cI cC ad s) (wR cI cC ad s1)) (hg1 : ∀ (a : Int32) (s : jS) (r : Int32) (s1 : jS), g 1 a s = some (r, s1) → Cv l yR_statement (Cond.code yR_statement prog_4_method_12_code 2 none :: TB) ({ frames := 35 + d, cells := 0, slots := 0, locals := 1351 + d * 40 }) (dC, dI) vwCl [(cI, .int), (cC, .char), (cL, .object "SharedSyntax$Letters")] (jEn sk sv) [.ref (ad 0), .int a] (wR cI cC ad s) (wR cI cC ad s1)) (hg2 : ∀ (a : Int32) (s : jS) (r : Int32) (s1 : jS), g 2 a s = some (r, s1) → Cv l yR_block (Cond.code yR_block prog_4_method_14_code 3 none :: TB) ({ frames := 35 + d, cells := 0, slots := 0, locals := 1351 + d * 40 }) (dC, dI) vwCl [(cI, .int), (cC, .char), (cL, .object "SharedSyntax$Letters")] (jEn sk sv) [.ref (ad 0), .int a] (wR cI cC ad s) (wR cI cC ad s1)) (hg3 : ∀ (a : Int32) (s : jS) (r : Int32) (s1 : jS), g 3 a s = some (r, s1) → Cv l yR_ifStatement (Cond.code yR_ifStatement prog_4_method_15_code 3 none :: TB) ({ frames := 35 + d, cells := 0, slots := 0, locals := 1351 + d * 40 }) (dC, dI) vwCl [(cI, .int), (cC, .char), (cL, .object "SharedSyntax$Letters")] (jEn sk sv) [.ref (ad 0), .int a] (wR cI cC ad s) (wR cI cC ad s1)) (hg4 : ∀ (a : Int32) (s : jS) (r : Int32) (s1 : jS), g 4 a s = some (r, s1) → Cv l yR_whileStatement (Cond.code yR_whileStatement prog_4_method_16_code 3 none :: TB) ({ frames := 35 + d, cells := 0, slots := 0, locals := 1351 + d * 40 }) (dC, dI) vwCl [(cI, .int), (cC, .char), (cL, .object "SharedSyntax$Letters")] (jEn sk sv) [.ref (ad 0), .int a] (wR cI cC ad s) (wR cI cC ad s1)) (hg5 : ∀ (a : Int32) (s : jS) (r : Int32) (s1 : jS), g 5 a s = some (r, s1) → Cv l yR_part (Cond.code yR_part prog_4_method_19_code 3 none :: TB) ({ frames := 35 + d, cells := 0, slots := 0, locals := 1351 + d * 40 }) (dC, dI) vwCl [(cI, .int), (cC, .char), (cL, .object "SharedSyntax$Letters")] (jEn sk sv) [.ref (ad 0), .int a] (wR cI cC ad s) (wR cI cC ad s1)) (a0 : Int32) (z0 z1 : jS) (r : Int32) (hf : fR_list N g a0 z0 = some (r, z1)) : Cv l yR_list (Cond.code yR_list prog_4_method_8_code 3 none :: TB) ({ frames := 35 + (d + 1), cells := 0, slots := 0, locals := 1351 + (d + 1) * 40 }) (dC, dI) vwCl [(cI, .int), (cC, .char), (cL, .object "SharedSyntax$Letters")] (jEn sk sv) [.ref (ad 0), .int a0] (wR cI cC ad z0) (wR cI cC ad z1) := by
  refine Cv_of (cc := prog_4_method_8_code) (maxL := 3) (ret := none) (by decide) rfl (Nat.le_of_ble_eq_true rfl) ?_
  intro p e s m below meth c ls F hl hK hN hC
  obtain ⟨hx, hb, hml, hown, hts, hr, hlk⟩ := F
  have ht : ∀ w ∈ TB, w.before [.ref (ad 0), .int a0].toArray s = true := fun w h => hts w (List.mem_cons_of_mem _ h)
  have hA : ∀ q, s.heap.size ≤ q → va_A (wR cI cC ad z0) s.heap.size q := fun q h => Or.inr h
  have hl : lv_has ls 3 [(0, .ref (ad 0)), (1, .int a0)] := hl
  have L2 : ∀ (n : Nat) (x1 x2 : Int32) (s0 : jS) (ls : Array Slot) (H : Heap) (locs : List Loc), lv_has ls 3 [(0, .ref (ad 0)), (1, .int x1), (2, .int x2)] → jcx (dC, dI) vwCl (va_A (wR cI cC ad z0) s.heap.size) s.heap (wR cI cC ad s0) H locs → fR_list_2 N n g x1 x2 s0 = some (r, z1) → W p l e ({ frames := 35 + (d + 1), cells := 0, slots := 0, locals := 1351 + (d + 1) * 40 }) s m [.ref (ad 0), .int a0].toArray below meth c H locs 0 0 (MQ below (jQv (dC, dI) vwCl [(cI, .int), (cC, .char), (cL, .object "SharedSyntax$Letters")] (wR cI cC ad z0) (wR cI cC ad z1) s.heap.size) [.ref (ad 0), .int a0].toArray s 0 0 (va_A (wR cI cC ad z0) s.heap.size)) (F0 m 2 ls []) := by
    intro n
    induction n with
    | zero => exact fun _ _ _ _ _ _ _ _ hf => nomatch hf
    | succ n ih2 =>
      intro x1 x2 s0 ls H locs hl hC hf
      replace hf : fR_list_b2 N (fR_list_2 N n g) g x1 x2 s0 = some (r, z1) := hf
      generalize fR_list_2 N n g = k2 at ih2 hf
      unfold fR_list_b2 at hf
      refine lv_iload_n hx hb dR_list_2 rfl (lv_at hl 2 rfl) ?_
      refine lv_bipush (v := 60) hx hb dR_list_3 (by decide) ?_
      refine lv_icmp_ge (tgt := 42) hx hb dR_list_5 (by decide) (fun c201 => ?_) (fun c201 => ?_)
      · replace hf := jif_t c201 hf
        cases hf
        exact jret_v hx hb hr hlk hC hK dR_list_42
      · replace hf := jif_f c201 hf
        refine lv_aload_n hx hb dR_list_8 rfl (lv_at hl 0 rfl) ?_
        refine lv_iload_n hx hb dR_list_9 rfl (lv_at hl 1 rfl) ?_
        obtain ⟨r202, s202, hc202, hf⟩ := jB_some hf
        refine jcall_i (va_runV (C := RcR) (As := [.int x1]) (rest := []) ⟨hx, hb, hml, hown, hts⟩ ((cR_listEnds l dC dI cI cC cL sk sv ad N x1 s0 s202 r202 hc202) _) ⟨(callB_of 1 hts (tb_good tw316) rfl rfl rfl (ht _ tw2) (ht _ tw313) (by decide +kernel) ⟨by dsimp only; omega, by dsimp only; omega⟩), ht _ tw315, ht _ (tb_sel pv_R_listEnds)⟩ (jpreV (jEn_ok sk sv) hC hA hK hN (wR_e0 cI cC ad s0) rfl rfl _) rfl rfl hl.1 rfl (lv_room (Nat.le_of_ble_eq_true rfl)) dR_list_10 ⟨Nat.le_refl _, Nat.le_refl _⟩) hC hA (fun H locs hC => ?_)
        refine lv_if_ne (tgt := 42) hx hb dR_list_13 (by decide) (fun c203 => ?_) (fun c203 => ?_)
        · replace hf := jif_f c203 hf
          cases hf
          exact jret_v hx hb hr hlk hC hK dR_list_42
        · replace hf := jif_t c203 hf
          refine lv_aload_n hx hb dR_list_16 rfl (lv_at hl 0 rfl) ?_
          refine lv_iload_n hx hb dR_list_17 rfl (lv_at hl 1 rfl) ?_
          obtain ⟨r204, s204, hc204, hf⟩ := jB_some hf
          refine jcall_i (va_runV (C := RcR) (As := [.int x1]) (rest := []) ⟨hx, hb, hml, hown, hts⟩ ((cR_statementFollows l dC dI cI cC cL sk sv ad N x1 s202 s204 r204 hc204) _) ⟨(callB_of 1 hts (tb_good tw324) rfl rfl rfl (ht _ tw2) (ht _ tw321) (by decide +kernel) ⟨by dsimp only; omega, by dsimp only; omega⟩), ht _ tw323, ht _ (tb_sel pv_R_statementFollows)⟩ (jpreV (jEn_ok sk sv) hC hA hK hN (wR_e0 cI cC ad s202) rfl rfl _) rfl rfl hl.1 rfl (lv_room (Nat.le_of_ble_eq_true rfl)) dR_list_18 ⟨Nat.le_refl _, Nat.le_refl _⟩) hC hA (fun H locs hC => ?_)
          refine lv_if_eq (tgt := 32) hx hb dR_list_21 (by decide) (fun c205 => ?_) (fun c205 => ?_)
          · replace hf := jif_t c205 hf
            refine lv_aload_n hx hb dR_list_32 rfl (lv_at hl 0 rfl) ?_
            obtain ⟨r206, s206, hc206, hf⟩ := jB_some hf
            refine jcall_v (va_runV (C := RcR) (As := []) (rest := []) ⟨hx, hb, hml, hown, hts⟩ ((cR_skip l dC dI cI cC cL sk sv ad N s204 s206 r206 hc206) _) ⟨(callB_of 0 hts (tb_good tw437) rfl rfl rfl (ht _ tw2) (ht _ tw434) (by decide +kernel) ⟨by dsimp only; omega, by dsimp only; omega⟩), ht _ tw436, ht _ (tb_sel pv_R_skip)⟩ (jpreV (jEn_ok sk sv) hC hA hK hN (wR_e0 cI cC ad s204) rfl rfl _) rfl rfl hl.1 rfl (lv_room (Nat.le_of_ble_eq_true rfl)) dR_list_33 ⟨Nat.le_refl _, Nat.le_refl _⟩) hC hA (fun H locs hC => ?_)
            refine lv_iinc (k := 2) (v := (x2 + (1 : Int32))) (lv' := [(2, .int (x2 + (1 : Int32))), (0, .ref (ad 0)), (1, .int x1)]) hx hb dR_list_36 hl rfl rfl (by decide) rfl (fun ls hl => ?_)
            refine lv_goto (tgt := 2) hx hb dR_list_39 (by decide) ?_
            exact ih2 x1 (x2 + (1 : Int32)) s206 ls _ _ (lv_sub hl [1, 2, 0] rfl) hC hf
          · replace hf := jif_f c205 hf
            refine lv_aload_n hx hb dR_list_24 rfl (lv_at hl 0 rfl) ?_
            refine lv_iload_n hx hb dR_list_25 rfl (lv_at hl 1 rfl) ?_
            obtain ⟨r207, s207, hc207, hf⟩ := jB_some hf
            refine jcall_v (va_runV (C := RcR) (As := [.int x1]) (rest := []) ⟨hx, hb, hml, hown, hts⟩ ((hg1 x1 s204 r207 s207 hc207) _) ⟨(callB_of 1 hts (tb_good tw331) rfl rfl rfl (ht _ tw2) (ht _ tw328) (by decide +kernel) ⟨by dsimp only; omega, by dsimp only; omega⟩), ht _ tw330, ht _ (tb_sel pv_R_statement)⟩ (jpreV (jEn_ok sk sv) hC hA hK hN (wR_e0 cI cC ad s204) rfl rfl _) rfl rfl hl.1 rfl (lv_room (Nat.le_of_ble_eq_true rfl)) dR_list_26 ⟨Nat.le_refl _, Nat.le_refl _⟩) hC hA (fun H locs hC => ?_)
            refine lv_goto (tgt := 36) hx hb dR_list_29 (by decide) ?_
            refine lv_iinc (k := 2) (v := (x2 + (1 : Int32))) (lv' := [(2, .int (x2 + (1 : Int32))), (0, .ref (ad 0)), (1, .int x1)]) hx hb dR_list_36 hl rfl rfl (by decide) rfl (fun ls hl => ?_)
            refine lv_goto (tgt := 2) hx hb dR_list_39 (by decide) ?_
            exact ih2 x1 (x2 + (1 : Int32)) s207 ls _ _ (lv_sub hl [1, 2, 0] rfl) hC hf
  unfold fR_list at hf
  refine lv_iconst (v := 0) hx hb dR_list_0 (by decide) ?_
  refine lv_istore_n (lv' := [(2, .int (0 : Int32)), (0, .ref (ad 0)), (1, .int a0)]) hx hb dR_list_1 rfl hl (by decide) rfl (fun ls hl => ?_)
  exact L2 N a0 (0 : Int32) z0 ls _ _ (lv_sub hl [1, 2, 0] rfl) hC hf

def fR_statement (N : Nat) (g : Nat → Int32 → jS → Option (Int32 × jS)) (a0 : Int32) (z0 : jS) : Option (Int32 × jS) := (jB (fK_kind N z0) fun r1 s1 => (if r1 = (3 : Int32) then (jB (g 3 a0 s1) fun r2 s2 => some (0, s2)) else (if r1 = (4 : Int32) then (jB (fR_simpleStatement N s1) fun r3 s3 => some (0, s3)) else (if r1 = (5 : Int32) then (jB (g 4 a0 s1) fun r4 s4 => some (0, s4)) else (if r1 = (6 : Int32) then (jB (fR_emptyStatement N s1) fun r5 s5 => some (0, s5)) else (if r1 = (7 : Int32) then (jB (g 2 a0 s1) fun r6 s6 => some (0, s6)) else (jB (fR_simpleStatement N s1) fun r7 s7 => some (0, s7))))))))
set_option maxHeartbeats 4000000 in
set_option maxRecDepth 100000 in
theorem cR_statement (l : Launch) (dC : Nat → ClassId) (dI : Nat → Nat → Nat) (cI cC cL : ClassId) (sk sv : Nat → Nat) (ad : Nat → Nat) (N : Nat) (g : Nat → Int32 → jS → Option (Int32 × jS)) (d : Nat) (hg0 : ∀ (a : Int32) (s : jS) (r : Int32) (s1 : jS), g 0 a s = some (r, s1) → Cv l yR_list (Cond.code yR_list prog_4_method_8_code 3 none :: TB) ({ frames := 35 + d, cells := 0, slots := 0, locals := 1351 + d * 40 }) (dC, dI) vwCl [(cI, .int), (cC, .char), (cL, .object "SharedSyntax$Letters")] (jEn sk sv) [.ref (ad 0), .int a] (wR cI cC ad s) (wR cI cC ad s1)) (hg1 : ∀ (a : Int32) (s : jS) (r : Int32) (s1 : jS), g 1 a s = some (r, s1) → Cv l yR_statement (Cond.code yR_statement prog_4_method_12_code 2 none :: TB) ({ frames := 35 + d, cells := 0, slots := 0, locals := 1351 + d * 40 }) (dC, dI) vwCl [(cI, .int), (cC, .char), (cL, .object "SharedSyntax$Letters")] (jEn sk sv) [.ref (ad 0), .int a] (wR cI cC ad s) (wR cI cC ad s1)) (hg2 : ∀ (a : Int32) (s : jS) (r : Int32) (s1 : jS), g 2 a s = some (r, s1) → Cv l yR_block (Cond.code yR_block prog_4_method_14_code 3 none :: TB) ({ frames := 35 + d, cells := 0, slots := 0, locals := 1351 + d * 40 }) (dC, dI) vwCl [(cI, .int), (cC, .char), (cL, .object "SharedSyntax$Letters")] (jEn sk sv) [.ref (ad 0), .int a] (wR cI cC ad s) (wR cI cC ad s1)) (hg3 : ∀ (a : Int32) (s : jS) (r : Int32) (s1 : jS), g 3 a s = some (r, s1) → Cv l yR_ifStatement (Cond.code yR_ifStatement prog_4_method_15_code 3 none :: TB) ({ frames := 35 + d, cells := 0, slots := 0, locals := 1351 + d * 40 }) (dC, dI) vwCl [(cI, .int), (cC, .char), (cL, .object "SharedSyntax$Letters")] (jEn sk sv) [.ref (ad 0), .int a] (wR cI cC ad s) (wR cI cC ad s1)) (hg4 : ∀ (a : Int32) (s : jS) (r : Int32) (s1 : jS), g 4 a s = some (r, s1) → Cv l yR_whileStatement (Cond.code yR_whileStatement prog_4_method_16_code 3 none :: TB) ({ frames := 35 + d, cells := 0, slots := 0, locals := 1351 + d * 40 }) (dC, dI) vwCl [(cI, .int), (cC, .char), (cL, .object "SharedSyntax$Letters")] (jEn sk sv) [.ref (ad 0), .int a] (wR cI cC ad s) (wR cI cC ad s1)) (hg5 : ∀ (a : Int32) (s : jS) (r : Int32) (s1 : jS), g 5 a s = some (r, s1) → Cv l yR_part (Cond.code yR_part prog_4_method_19_code 3 none :: TB) ({ frames := 35 + d, cells := 0, slots := 0, locals := 1351 + d * 40 }) (dC, dI) vwCl [(cI, .int), (cC, .char), (cL, .object "SharedSyntax$Letters")] (jEn sk sv) [.ref (ad 0), .int a] (wR cI cC ad s) (wR cI cC ad s1)) (a0 : Int32) (z0 z1 : jS) (r : Int32) (hf : fR_statement N g a0 z0 = some (r, z1)) : Cv l yR_statement (Cond.code yR_statement prog_4_method_12_code 2 none :: TB) ({ frames := 35 + (d + 1), cells := 0, slots := 0, locals := 1351 + (d + 1) * 40 }) (dC, dI) vwCl [(cI, .int), (cC, .char), (cL, .object "SharedSyntax$Letters")] (jEn sk sv) [.ref (ad 0), .int a0] (wR cI cC ad z0) (wR cI cC ad z1) := by
  refine Cv_of (cc := prog_4_method_12_code) (maxL := 2) (ret := none) (by decide) rfl (Nat.le_of_ble_eq_true rfl) ?_
  intro p e s m below meth c ls F hl hK hN hC
  obtain ⟨hx, hb, hml, hown, hts, hr, hlk⟩ := F
  have ht : ∀ w ∈ TB, w.before [.ref (ad 0), .int a0].toArray s = true := fun w h => hts w (List.mem_cons_of_mem _ h)
  have hA : ∀ q, s.heap.size ≤ q → va_A (wR cI cC ad z0) s.heap.size q := fun q h => Or.inr h
  have hl : lv_has ls 2 [(0, .ref (ad 0)), (1, .int a0)] := hl
  unfold fR_statement at hf
  refine lv_aload_n hx hb dR_statement_0 rfl (lv_at hl 0 rfl) ?_
  refine va_get (D := (dC, dI)) (ci := 3) (v := .ref (ad 2)) (C := RcR) (T := TcR) (N := 10) hx hb ht in_cR hown hK hC.1 0 (wR_e0 cI cC ad z0) rfl 2 (by decide) (ht _ tw116) (fun _ h9 => h9) rfl dR_statement_1 ?_
  obtain ⟨r1, s1, hc1, hf⟩ := jB_some hf
  refine jcall_i (va_runV (C := RcK) (As := []) (rest := []) ⟨hx, hb, hml, hown, hts⟩ ((cK_kind l dC dI cI cC cL sk sv ad N z0 s1 r1 hc1) _) ⟨(callB_of 0 hts (tb_good tw320) rfl rfl rfl (ht _ tw5) (ht _ tw317) (by decide +kernel) ⟨by dsimp only; omega, by dsimp only; omega⟩), ht _ tw318, ht _ tw319⟩ (jpreV (jEn_ok sk sv) hC hA hK hN (wR_e2 cI cC ad z0) rfl rfl _) rfl rfl hl.1 rfl (lv_room (Nat.le_of_ble_eq_true rfl)) dR_statement_4 ⟨Nat.le_refl _, Nat.le_refl _⟩) hC hA (fun H locs hC => ?_)
  by_cases w3 : r1 = (3 : Int32)
  · replace hf := jif_t w3 hf
    refine lv_tableIn (tgt := 55) hx hb dR_statement_7 (by rw [w3]; decide) (by rw [w3]; decide) (by rw [w3]; rfl) (by decide) ?_
    refine lv_aload_n hx hb dR_statement_55 rfl (lv_at hl 0 rfl) ?_
    refine lv_iload_n hx hb dR_statement_56 rfl (lv_at hl 1 rfl) ?_
    obtain ⟨r2, s2, hc2, hf⟩ := jB_some hf
    refine jcall_v (va_runV (C := RcR) (As := [.int a0]) (rest := []) ⟨hx, hb, hml, hown, hts⟩ ((hg3 a0 s1 r2 s2 hc2) _) ⟨(callB_of 1 hts (tb_good tw379) rfl rfl rfl (ht _ tw2) (ht _ tw376) (by decide +kernel) ⟨by dsimp only; omega, by dsimp only; omega⟩), ht _ tw378, ht _ (tb_sel pv_R_ifStatement)⟩ (jpreV (jEn_ok sk sv) hC hA hK hN (wR_e0 cI cC ad s1) rfl rfl _) rfl rfl hl.1 rfl (lv_room (Nat.le_of_ble_eq_true rfl)) dR_statement_57 ⟨Nat.le_refl _, Nat.le_refl _⟩) hC hA (fun H locs hC => ?_)
    refine lv_goto (tgt := 75) hx hb dR_statement_60 (by decide) ?_
    cases hf
    exact jret_v hx hb hr hlk hC hK dR_statement_75
  · replace hf := jif_f w3 hf
    by_cases w4 : r1 = (4 : Int32)
    · replace hf := jif_t w4 hf
      refine lv_tableIn (tgt := 71) hx hb dR_statement_7 (by rw [w4]; decide) (by rw [w4]; decide) (by rw [w4]; rfl) (by decide) ?_
      refine lv_aload_n hx hb dR_statement_71 rfl (lv_at hl 0 rfl) ?_
      obtain ⟨r3, s3, hc3, hf⟩ := jB_some hf
      refine jcall_v (va_runV (C := RcR) (As := []) (rest := []) ⟨hx, hb, hml, hown, hts⟩ ((cR_simpleStatement l dC dI cI cC cL sk sv ad N s1 s3 r3 hc3) _) ⟨(callB_of 0 hts (tb_good tw433) rfl rfl rfl (ht _ tw2) (ht _ tw430) (by decide +kernel) ⟨by dsimp only; omega, by dsimp only; omega⟩), ht _ tw432, ht _ (tb_sel pv_R_simpleStatement)⟩ (jpreV (jEn_ok sk sv) hC hA hK hN (wR_e0 cI cC ad s1) rfl rfl _) rfl rfl hl.1 rfl (lv_room (Nat.le_of_ble_eq_true rfl)) dR_statement_72 ⟨Nat.le_refl _, Nat.le_refl _⟩) hC hA (fun H locs hC => ?_)
      cases hf
      exact jret_v hx hb hr hlk hC hK dR_statement_75
    · replace hf := jif_f w4 hf
      by_cases w5 : r1 = (5 : Int32)
      · replace hf := jif_t w5 hf
        refine lv_tableIn (tgt := 63) hx hb dR_statement_7 (by rw [w5]; decide) (by rw [w5]; decide) (by rw [w5]; rfl) (by decide) ?_
        refine lv_aload_n hx hb dR_statement_63 rfl (lv_at hl 0 rfl) ?_
        refine lv_iload_n hx hb dR_statement_64 rfl (lv_at hl 1 rfl) ?_
        obtain ⟨r4, s4, hc4, hf⟩ := jB_some hf
        refine jcall_v (va_runV (C := RcR) (As := [.int a0]) (rest := []) ⟨hx, hb, hml, hown, hts⟩ ((hg4 a0 s1 r4 s4 hc4) _) ⟨(callB_of 1 hts (tb_good tw429) rfl rfl rfl (ht _ tw2) (ht _ tw426) (by decide +kernel) ⟨by dsimp only; omega, by dsimp only; omega⟩), ht _ tw428, ht _ (tb_sel pv_R_whileStatement)⟩ (jpreV (jEn_ok sk sv) hC hA hK hN (wR_e0 cI cC ad s1) rfl rfl _) rfl rfl hl.1 rfl (lv_room (Nat.le_of_ble_eq_true rfl)) dR_statement_65 ⟨Nat.le_refl _, Nat.le_refl _⟩) hC hA (fun H locs hC => ?_)
        refine lv_goto (tgt := 75) hx hb dR_statement_68 (by decide) ?_
        cases hf
        exact jret_v hx hb hr hlk hC hK dR_statement_75
      · replace hf := jif_f w5 hf
        by_cases w6 : r1 = (6 : Int32)
        · replace hf := jif_t w6 hf
          refine lv_tableIn (tgt := 40) hx hb dR_statement_7 (by rw [w6]; decide) (by rw [w6]; decide) (by rw [w6]; rfl) (by decide) ?_
          refine lv_aload_n hx hb dR_statement_40 rfl (lv_at hl 0 rfl) ?_
          obtain ⟨r5, s5, hc5, hf⟩ := jB_some hf
          refine jcall_v (va_runV (C := RcR) (As := []) (rest := []) ⟨hx, hb, hml, hown, hts⟩ ((cR_emptyStatement l dC dI cI cC cL sk sv ad N s1 s5 r5 hc5) _) ⟨(callB_of 0 hts (tb_good tw335) rfl rfl rfl (ht _ tw2) (ht _ tw332) (by decide +kernel) ⟨by dsimp only; omega, by dsimp only; omega⟩), ht _ tw334, ht _ (tb_sel pv_R_emptyStatement)⟩ (jpreV (jEn_ok sk sv) hC hA hK hN (wR_e0 cI cC ad s1) rfl rfl _) rfl rfl hl.1 rfl (lv_room (Nat.le_of_ble_eq_true rfl)) dR_statement_41 ⟨Nat.le_refl _, Nat.le_refl _⟩) hC hA (fun H locs hC => ?_)
          refine lv_goto (tgt := 75) hx hb dR_statement_44 (by decide) ?_
          cases hf
          exact jret_v hx hb hr hlk hC hK dR_statement_75
        · replace hf := jif_f w6 hf
          by_cases w7 : r1 = (7 : Int32)
          · replace hf := jif_t w7 hf
            refine lv_tableIn (tgt := 47) hx hb dR_statement_7 (by rw [w7]; decide) (by rw [w7]; decide) (by rw [w7]; rfl) (by decide) ?_
            refine lv_aload_n hx hb dR_statement_47 rfl (lv_at hl 0 rfl) ?_
            refine lv_iload_n hx hb dR_statement_48 rfl (lv_at hl 1 rfl) ?_
            obtain ⟨r6, s6, hc6, hf⟩ := jB_some hf
            refine jcall_v (va_runV (C := RcR) (As := [.int a0]) (rest := []) ⟨hx, hb, hml, hown, hts⟩ ((hg2 a0 s1 r6 s6 hc6) _) ⟨(callB_of 1 hts (tb_good tw367) rfl rfl rfl (ht _ tw2) (ht _ tw364) (by decide +kernel) ⟨by dsimp only; omega, by dsimp only; omega⟩), ht _ tw366, ht _ (tb_sel pv_R_block)⟩ (jpreV (jEn_ok sk sv) hC hA hK hN (wR_e0 cI cC ad s1) rfl rfl _) rfl rfl hl.1 rfl (lv_room (Nat.le_of_ble_eq_true rfl)) dR_statement_49 ⟨Nat.le_refl _, Nat.le_refl _⟩) hC hA (fun H locs hC => ?_)
            refine lv_goto (tgt := 75) hx hb dR_statement_52 (by decide) ?_
            cases hf
            exact jret_v hx hb hr hlk hC hK dR_statement_75
          · replace hf := jif_f w7 hf
            refine lv_tableOut (tgt := 71) hx hb dR_statement_7 (by have e3 := lv_neT (a := 3) w3 (by decide); have e4 := lv_neT (a := 4) w4 (by decide); have e5 := lv_neT (a := 5) w5 (by decide); have e6 := lv_neT (a := 6) w6 (by decide); have e7 := lv_neT (a := 7) w7 (by decide); omega) (by decide) ?_
            refine lv_aload_n hx hb dR_statement_71 rfl (lv_at hl 0 rfl) ?_
            obtain ⟨r7, s7, hc7, hf⟩ := jB_some hf
            refine jcall_v (va_runV (C := RcR) (As := []) (rest := []) ⟨hx, hb, hml, hown, hts⟩ ((cR_simpleStatement l dC dI cI cC cL sk sv ad N s1 s7 r7 hc7) _) ⟨(callB_of 0 hts (tb_good tw433) rfl rfl rfl (ht _ tw2) (ht _ tw430) (by decide +kernel) ⟨by dsimp only; omega, by dsimp only; omega⟩), ht _ tw432, ht _ (tb_sel pv_R_simpleStatement)⟩ (jpreV (jEn_ok sk sv) hC hA hK hN (wR_e0 cI cC ad s1) rfl rfl _) rfl rfl hl.1 rfl (lv_room (Nat.le_of_ble_eq_true rfl)) dR_statement_72 ⟨Nat.le_refl _, Nat.le_refl _⟩) hC hA (fun H locs hC => ?_)
            cases hf
            exact jret_v hx hb hr hlk hC hK dR_statement_75

def fR_block (N : Nat) (g : Nat → Int32 → jS → Option (Int32 × jS)) (a0 : Int32) (z0 : jS) : Option (Int32 × jS) := (jB (fR_begin N (21 : Int32) z0) fun r1 s1 => (jB (fR_take N s1) fun r2 s2 => (jB (g 0 (a0 + (1 : Int32)) s2) fun r3 s3 => (jB (fR_expect N (8 : Int32) s3) fun r4 s4 => (jB (fT_close N r1 s4) fun r5 s5 => some (0, s5))))))
set_option maxHeartbeats 4000000 in
set_option maxRecDepth 100000 in
theorem cR_block (l : Launch) (dC : Nat → ClassId) (dI : Nat → Nat → Nat) (cI cC cL : ClassId) (sk sv : Nat → Nat) (ad : Nat → Nat) (N : Nat) (g : Nat → Int32 → jS → Option (Int32 × jS)) (d : Nat) (hg0 : ∀ (a : Int32) (s : jS) (r : Int32) (s1 : jS), g 0 a s = some (r, s1) → Cv l yR_list (Cond.code yR_list prog_4_method_8_code 3 none :: TB) ({ frames := 35 + d, cells := 0, slots := 0, locals := 1351 + d * 40 }) (dC, dI) vwCl [(cI, .int), (cC, .char), (cL, .object "SharedSyntax$Letters")] (jEn sk sv) [.ref (ad 0), .int a] (wR cI cC ad s) (wR cI cC ad s1)) (hg1 : ∀ (a : Int32) (s : jS) (r : Int32) (s1 : jS), g 1 a s = some (r, s1) → Cv l yR_statement (Cond.code yR_statement prog_4_method_12_code 2 none :: TB) ({ frames := 35 + d, cells := 0, slots := 0, locals := 1351 + d * 40 }) (dC, dI) vwCl [(cI, .int), (cC, .char), (cL, .object "SharedSyntax$Letters")] (jEn sk sv) [.ref (ad 0), .int a] (wR cI cC ad s) (wR cI cC ad s1)) (hg2 : ∀ (a : Int32) (s : jS) (r : Int32) (s1 : jS), g 2 a s = some (r, s1) → Cv l yR_block (Cond.code yR_block prog_4_method_14_code 3 none :: TB) ({ frames := 35 + d, cells := 0, slots := 0, locals := 1351 + d * 40 }) (dC, dI) vwCl [(cI, .int), (cC, .char), (cL, .object "SharedSyntax$Letters")] (jEn sk sv) [.ref (ad 0), .int a] (wR cI cC ad s) (wR cI cC ad s1)) (hg3 : ∀ (a : Int32) (s : jS) (r : Int32) (s1 : jS), g 3 a s = some (r, s1) → Cv l yR_ifStatement (Cond.code yR_ifStatement prog_4_method_15_code 3 none :: TB) ({ frames := 35 + d, cells := 0, slots := 0, locals := 1351 + d * 40 }) (dC, dI) vwCl [(cI, .int), (cC, .char), (cL, .object "SharedSyntax$Letters")] (jEn sk sv) [.ref (ad 0), .int a] (wR cI cC ad s) (wR cI cC ad s1)) (hg4 : ∀ (a : Int32) (s : jS) (r : Int32) (s1 : jS), g 4 a s = some (r, s1) → Cv l yR_whileStatement (Cond.code yR_whileStatement prog_4_method_16_code 3 none :: TB) ({ frames := 35 + d, cells := 0, slots := 0, locals := 1351 + d * 40 }) (dC, dI) vwCl [(cI, .int), (cC, .char), (cL, .object "SharedSyntax$Letters")] (jEn sk sv) [.ref (ad 0), .int a] (wR cI cC ad s) (wR cI cC ad s1)) (hg5 : ∀ (a : Int32) (s : jS) (r : Int32) (s1 : jS), g 5 a s = some (r, s1) → Cv l yR_part (Cond.code yR_part prog_4_method_19_code 3 none :: TB) ({ frames := 35 + d, cells := 0, slots := 0, locals := 1351 + d * 40 }) (dC, dI) vwCl [(cI, .int), (cC, .char), (cL, .object "SharedSyntax$Letters")] (jEn sk sv) [.ref (ad 0), .int a] (wR cI cC ad s) (wR cI cC ad s1)) (a0 : Int32) (z0 z1 : jS) (r : Int32) (hf : fR_block N g a0 z0 = some (r, z1)) : Cv l yR_block (Cond.code yR_block prog_4_method_14_code 3 none :: TB) ({ frames := 35 + (d + 1), cells := 0, slots := 0, locals := 1351 + (d + 1) * 40 }) (dC, dI) vwCl [(cI, .int), (cC, .char), (cL, .object "SharedSyntax$Letters")] (jEn sk sv) [.ref (ad 0), .int a0] (wR cI cC ad z0) (wR cI cC ad z1) := by
  refine Cv_of (cc := prog_4_method_14_code) (maxL := 3) (ret := none) (by decide) rfl (Nat.le_of_ble_eq_true rfl) ?_
  intro p e s m below meth c ls F hl hK hN hC
  obtain ⟨hx, hb, hml, hown, hts, hr, hlk⟩ := F
  have ht : ∀ w ∈ TB, w.before [.ref (ad 0), .int a0].toArray s = true := fun w h => hts w (List.mem_cons_of_mem _ h)
  have hA : ∀ q, s.heap.size ≤ q → va_A (wR cI cC ad z0) s.heap.size q := fun q h => Or.inr h
  have hl : lv_has ls 3 [(0, .ref (ad 0)), (1, .int a0)] := hl
  unfold fR_block at hf
  refine lv_aload_n hx hb dR_block_0 rfl (lv_at hl 0 rfl) ?_
  refine lv_bipush (v := 21) hx hb dR_block_1 (by decide) ?_
  obtain ⟨r1, s1, hc1, hf⟩ := jB_some hf
  refine jcall_i (va_runV (C := RcR) (As := [.int (21 : Int32)]) (rest := []) ⟨hx, hb, hml, hown, hts⟩ ((cR_begin l dC dI cI cC cL sk sv ad N (21 : Int32) z0 s1 r1 hc1) _) ⟨(callB_of 1 hts (tb_good tw304) rfl rfl rfl (ht _ tw2) (ht _ tw301) (by decide +kernel) ⟨by dsimp only; omega, by dsimp only; omega⟩), ht _ tw303, ht _ (tb_sel pv_R_begin)⟩ (jpreV (jEn_ok sk sv) hC hA hK hN (wR_e0 cI cC ad z0) rfl rfl _) rfl rfl hl.1 rfl (lv_room (Nat.le_of_ble_eq_true rfl)) dR_block_3 ⟨Nat.le_refl _, Nat.le_refl _⟩) hC hA (fun H locs hC => ?_)
  refine lv_istore_n (lv' := [(2, .int r1), (0, .ref (ad 0)), (1, .int a0)]) hx hb dR_block_6 rfl hl (by decide) rfl (fun ls hl => ?_)
  refine lv_aload_n hx hb dR_block_7 rfl (lv_at hl 1 rfl) ?_
  obtain ⟨r2, s2, hc2, hf⟩ := jB_some hf
  refine jcall_v (va_runV (C := RcR) (As := []) (rest := []) ⟨hx, hb, hml, hown, hts⟩ ((cR_take l dC dI cI cC cL sk sv ad N s1 s2 r2 hc2) _) ⟨(callB_of 0 hts (tb_good tw339) rfl rfl rfl (ht _ tw2) (ht _ tw336) (by decide +kernel) ⟨by dsimp only; omega, by dsimp only; omega⟩), ht _ tw338, ht _ (tb_sel pv_R_take)⟩ (jpreV (jEn_ok sk sv) hC hA hK hN (wR_e0 cI cC ad s1) rfl rfl _) rfl rfl hl.1 rfl (lv_room (Nat.le_of_ble_eq_true rfl)) dR_block_8 ⟨Nat.le_refl _, Nat.le_refl _⟩) hC hA (fun H locs hC => ?_)
  refine lv_aload_n hx hb dR_block_11 rfl (lv_at hl 1 rfl) ?_
  refine lv_iload_n hx hb dR_block_12 rfl (lv_at hl 2 rfl) ?_
  refine lv_iconst (v := 1) hx hb dR_block_13 (by decide) ?_
  refine lv_iadd hx hb dR_block_14 ?_
  obtain ⟨r3, s3, hc3, hf⟩ := jB_some hf
  refine jcall_v (va_runV (C := RcR) (As := [.int (a0 + (1 : Int32))]) (rest := []) ⟨hx, hb, hml, hown, hts⟩ ((hg0 (a0 + (1 : Int32)) s2 r3 s3 hc3) _) ⟨(callB_of 1 hts (tb_good tw312) rfl rfl rfl (ht _ tw2) (ht _ tw309) (by decide +kernel) ⟨by dsimp only; omega, by dsimp only; omega⟩), ht _ tw311, ht _ (tb_sel pv_R_list)⟩ (jpreV (jEn_ok sk sv) hC hA hK hN (wR_e0 cI cC ad s2) rfl rfl _) rfl rfl hl.1 rfl (lv_room (Nat.le_of_ble_eq_true rfl)) dR_block_15 ⟨Nat.le_refl _, Nat.le_refl _⟩) hC hA (fun H locs hC => ?_)
  refine lv_aload_n hx hb dR_block_18 rfl (lv_at hl 1 rfl) ?_
  refine lv_bipush (v := 8) hx hb dR_block_19 (by decide) ?_
  obtain ⟨r4, s4, hc4, hf⟩ := jB_some hf
  refine jcall_v (va_runV (C := RcR) (As := [.int (8 : Int32)]) (rest := []) ⟨hx, hb, hml, hown, hts⟩ ((cR_expect l dC dI cI cC cL sk sv ad N (8 : Int32) s3 s4 r4 hc4) _) ⟨(callB_of 1 hts (tb_good tw371) rfl rfl rfl (ht _ tw2) (ht _ tw368) (by decide +kernel) ⟨by dsimp only; omega, by dsimp only; omega⟩), ht _ tw370, ht _ (tb_sel pv_R_expect)⟩ (jpreV (jEn_ok sk sv) hC hA hK hN (wR_e0 cI cC ad s3) rfl rfl _) rfl rfl hl.1 rfl (lv_room (Nat.le_of_ble_eq_true rfl)) dR_block_21 ⟨Nat.le_refl _, Nat.le_refl _⟩) hC hA (fun H locs hC => ?_)
  refine lv_aload_n hx hb dR_block_24 rfl (lv_at hl 1 rfl) ?_
  refine va_get (D := (dC, dI)) (ci := 3) (v := .ref (ad 1)) (C := RcR) (T := TcR) (N := 10) hx hb ht in_cR hown hK hC.1 0 (wR_e0 cI cC ad s4) rfl 1 (by decide) (ht _ tw114) (fun _ h9 => h9) rfl dR_block_25 ?_
  refine lv_iload_n hx hb dR_block_28 rfl (lv_at hl 0 rfl) ?_
  obtain ⟨r5, s5, hc5, hf⟩ := jB_some hf
  refine jcall_v (va_runV (C := RcT) (As := [.int r1]) (rest := []) ⟨hx, hb, hml, hown, hts⟩ ((cT_close l dC dI cI cC cL sk sv ad N r1 s4 s5 r5 hc5) _) ⟨(callB_of 1 hts (tb_good tw359) rfl rfl rfl (ht _ tw4) (ht _ tw356) (by decide +kernel) ⟨by dsimp only; omega, by dsimp only; omega⟩), ht _ tw357, ht _ tw358⟩ (jpreV (jEn_ok sk sv) hC hA hK hN (wR_e1 cI cC ad s4) rfl rfl _) rfl rfl hl.1 rfl (lv_room (Nat.le_of_ble_eq_true rfl)) dR_block_29 ⟨Nat.le_refl _, Nat.le_refl _⟩) hC hA (fun H locs hC => ?_)
  cases hf
  exact jret_v hx hb hr hlk hC hK dR_block_32

def fR_ifStatement (N : Nat) (g : Nat → Int32 → jS → Option (Int32 × jS)) (a0 : Int32) (z0 : jS) : Option (Int32 × jS) := (jB (fR_begin N (22 : Int32) z0) fun r1 s1 => (jB (fR_take N s1) fun r2 s2 => (jB (fR_condition N s2) fun r3 s3 => (jB (g 5 (a0 + (1 : Int32)) s3) fun r4 s4 => (jB (fK_kind N s4) fun r5 s5 => (if r5 = (4 : Int32) then (jB (fR_take N s5) fun r8 s8 => (jB (g 5 (a0 + (1 : Int32)) s8) fun r9 s9 => (jB (fT_close N r1 s9) fun r10 s10 => some (0, s10)))) else (jB (fT_close N r1 s5) fun r7 s7 => some (0, s7))))))))
set_option maxHeartbeats 4000000 in
set_option maxRecDepth 100000 in
theorem cR_ifStatement (l : Launch) (dC : Nat → ClassId) (dI : Nat → Nat → Nat) (cI cC cL : ClassId) (sk sv : Nat → Nat) (ad : Nat → Nat) (N : Nat) (g : Nat → Int32 → jS → Option (Int32 × jS)) (d : Nat) (hg0 : ∀ (a : Int32) (s : jS) (r : Int32) (s1 : jS), g 0 a s = some (r, s1) → Cv l yR_list (Cond.code yR_list prog_4_method_8_code 3 none :: TB) ({ frames := 35 + d, cells := 0, slots := 0, locals := 1351 + d * 40 }) (dC, dI) vwCl [(cI, .int), (cC, .char), (cL, .object "SharedSyntax$Letters")] (jEn sk sv) [.ref (ad 0), .int a] (wR cI cC ad s) (wR cI cC ad s1)) (hg1 : ∀ (a : Int32) (s : jS) (r : Int32) (s1 : jS), g 1 a s = some (r, s1) → Cv l yR_statement (Cond.code yR_statement prog_4_method_12_code 2 none :: TB) ({ frames := 35 + d, cells := 0, slots := 0, locals := 1351 + d * 40 }) (dC, dI) vwCl [(cI, .int), (cC, .char), (cL, .object "SharedSyntax$Letters")] (jEn sk sv) [.ref (ad 0), .int a] (wR cI cC ad s) (wR cI cC ad s1)) (hg2 : ∀ (a : Int32) (s : jS) (r : Int32) (s1 : jS), g 2 a s = some (r, s1) → Cv l yR_block (Cond.code yR_block prog_4_method_14_code 3 none :: TB) ({ frames := 35 + d, cells := 0, slots := 0, locals := 1351 + d * 40 }) (dC, dI) vwCl [(cI, .int), (cC, .char), (cL, .object "SharedSyntax$Letters")] (jEn sk sv) [.ref (ad 0), .int a] (wR cI cC ad s) (wR cI cC ad s1)) (hg3 : ∀ (a : Int32) (s : jS) (r : Int32) (s1 : jS), g 3 a s = some (r, s1) → Cv l yR_ifStatement (Cond.code yR_ifStatement prog_4_method_15_code 3 none :: TB) ({ frames := 35 + d, cells := 0, slots := 0, locals := 1351 + d * 40 }) (dC, dI) vwCl [(cI, .int), (cC, .char), (cL, .object "SharedSyntax$Letters")] (jEn sk sv) [.ref (ad 0), .int a] (wR cI cC ad s) (wR cI cC ad s1)) (hg4 : ∀ (a : Int32) (s : jS) (r : Int32) (s1 : jS), g 4 a s = some (r, s1) → Cv l yR_whileStatement (Cond.code yR_whileStatement prog_4_method_16_code 3 none :: TB) ({ frames := 35 + d, cells := 0, slots := 0, locals := 1351 + d * 40 }) (dC, dI) vwCl [(cI, .int), (cC, .char), (cL, .object "SharedSyntax$Letters")] (jEn sk sv) [.ref (ad 0), .int a] (wR cI cC ad s) (wR cI cC ad s1)) (hg5 : ∀ (a : Int32) (s : jS) (r : Int32) (s1 : jS), g 5 a s = some (r, s1) → Cv l yR_part (Cond.code yR_part prog_4_method_19_code 3 none :: TB) ({ frames := 35 + d, cells := 0, slots := 0, locals := 1351 + d * 40 }) (dC, dI) vwCl [(cI, .int), (cC, .char), (cL, .object "SharedSyntax$Letters")] (jEn sk sv) [.ref (ad 0), .int a] (wR cI cC ad s) (wR cI cC ad s1)) (a0 : Int32) (z0 z1 : jS) (r : Int32) (hf : fR_ifStatement N g a0 z0 = some (r, z1)) : Cv l yR_ifStatement (Cond.code yR_ifStatement prog_4_method_15_code 3 none :: TB) ({ frames := 35 + (d + 1), cells := 0, slots := 0, locals := 1351 + (d + 1) * 40 }) (dC, dI) vwCl [(cI, .int), (cC, .char), (cL, .object "SharedSyntax$Letters")] (jEn sk sv) [.ref (ad 0), .int a0] (wR cI cC ad z0) (wR cI cC ad z1) := by
  refine Cv_of (cc := prog_4_method_15_code) (maxL := 3) (ret := none) (by decide) rfl (Nat.le_of_ble_eq_true rfl) ?_
  intro p e s m below meth c ls F hl hK hN hC
  obtain ⟨hx, hb, hml, hown, hts, hr, hlk⟩ := F
  have ht : ∀ w ∈ TB, w.before [.ref (ad 0), .int a0].toArray s = true := fun w h => hts w (List.mem_cons_of_mem _ h)
  have hA : ∀ q, s.heap.size ≤ q → va_A (wR cI cC ad z0) s.heap.size q := fun q h => Or.inr h
  have hl : lv_has ls 3 [(0, .ref (ad 0)), (1, .int a0)] := hl
  unfold fR_ifStatement at hf
  refine lv_aload_n hx hb dR_ifStatement_0 rfl (lv_at hl 0 rfl) ?_
  refine lv_bipush (v := 22) hx hb dR_ifStatement_1 (by decide) ?_
  obtain ⟨r1, s1, hc1, hf⟩ := jB_some hf
  refine jcall_i (va_runV (C := RcR) (As := [.int (22 : Int32)]) (rest := []) ⟨hx, hb, hml, hown, hts⟩ ((cR_begin l dC dI cI cC cL sk sv ad N (22 : Int32) z0 s1 r1 hc1) _) ⟨(callB_of 1 hts (tb_good tw304) rfl rfl rfl (ht _ tw2) (ht _ tw301) (by decide +kernel) ⟨by dsimp only; omega, by dsimp only; omega⟩), ht _ tw303, ht _ (tb_sel pv_R_begin)⟩ (jpreV (jEn_ok sk sv) hC hA hK hN (wR_e0 cI cC ad z0) rfl rfl _) rfl rfl hl.1 rfl (lv_room (Nat.le_of_ble_eq_true rfl)) dR_ifStatement_3 ⟨Nat.le_refl _, Nat.le_refl _⟩) hC hA (fun H locs hC => ?_)
  refine lv_istore_n (lv' := [(2, .int r1), (0, .ref (ad 0)), (1, .int a0)]) hx hb dR_ifStatement_6 rfl hl (by decide) rfl (fun ls hl => ?_)
  refine lv_aload_n hx hb dR_ifStatement_7 rfl (lv_at hl 1 rfl) ?_
  obtain ⟨r2, s2, hc2, hf⟩ := jB_some hf
  refine jcall_v (va_runV (C := RcR) (As := []) (rest := []) ⟨hx, hb, hml, hown, hts⟩ ((cR_take l dC dI cI cC cL sk sv ad N s1 s2 r2 hc2) _) ⟨(callB_of 0 hts (tb_good tw339) rfl rfl rfl (ht _ tw2) (ht _ tw336) (by decide +kernel) ⟨by dsimp only; omega, by dsimp only; omega⟩), ht _ tw338, ht _ (tb_sel pv_R_take)⟩ (jpreV (jEn_ok sk sv) hC hA hK hN (wR_e0 cI cC ad s1) rfl rfl _) rfl rfl hl.1 rfl (lv_room (Nat.le_of_ble_eq_true rfl)) dR_ifStatement_8 ⟨Nat.le_refl _, Nat.le_refl _⟩) hC hA (fun H locs hC => ?_)
  refine lv_aload_n hx hb dR_ifStatement_11 rfl (lv_at hl 1 rfl) ?_
  obtain ⟨r3, s3, hc3, hf⟩ := jB_some hf
  refine jcall_v (va_runV (C := RcR) (As := []) (rest := []) ⟨hx, hb, hml, hown, hts⟩ ((cR_condition l dC dI cI cC cL sk sv ad N s2 s3 r3 hc3) _) ⟨(callB_of 0 hts (tb_good tw383) rfl rfl rfl (ht _ tw2) (ht _ tw380) (by decide +kernel) ⟨by dsimp only; omega, by dsimp only; omega⟩), ht _ tw382, ht _ (tb_sel pv_R_condition)⟩ (jpreV (jEn_ok sk sv) hC hA hK hN (wR_e0 cI cC ad s2) rfl rfl _) rfl rfl hl.1 rfl (lv_room (Nat.le_of_ble_eq_true rfl)) dR_ifStatement_12 ⟨Nat.le_refl _, Nat.le_refl _⟩) hC hA (fun H locs hC => ?_)
  refine lv_aload_n hx hb dR_ifStatement_15 rfl (lv_at hl 1 rfl) ?_
  refine lv_iload_n hx hb dR_ifStatement_16 rfl (lv_at hl 2 rfl) ?_
  refine lv_iconst (v := 1) hx hb dR_ifStatement_17 (by decide) ?_
  refine lv_iadd hx hb dR_ifStatement_18 ?_
  obtain ⟨r4, s4, hc4, hf⟩ := jB_some hf
  refine jcall_v (va_runV (C := RcR) (As := [.int (a0 + (1 : Int32))]) (rest := []) ⟨hx, hb, hml, hown, hts⟩ ((hg5 (a0 + (1 : Int32)) s3 r4 s4 hc4) _) ⟨(callB_of 1 hts (tb_good tw425) rfl rfl rfl (ht _ tw2) (ht _ tw422) (by decide +kernel) ⟨by dsimp only; omega, by dsimp only; omega⟩), ht _ tw424, ht _ (tb_sel pv_R_part)⟩ (jpreV (jEn_ok sk sv) hC hA hK hN (wR_e0 cI cC ad s3) rfl rfl _) rfl rfl hl.1 rfl (lv_room (Nat.le_of_ble_eq_true rfl)) dR_ifStatement_19 ⟨Nat.le_refl _, Nat.le_refl _⟩) hC hA (fun H locs hC => ?_)
  refine lv_aload_n hx hb dR_ifStatement_22 rfl (lv_at hl 1 rfl) ?_
  refine va_get (D := (dC, dI)) (ci := 3) (v := .ref (ad 2)) (C := RcR) (T := TcR) (N := 10) hx hb ht in_cR hown hK hC.1 0 (wR_e0 cI cC ad s4) rfl 2 (by decide) (ht _ tw116) (fun _ h9 => h9) rfl dR_ifStatement_23 ?_
  obtain ⟨r5, s5, hc5, hf⟩ := jB_some hf
  refine jcall_i (va_runV (C := RcK) (As := []) (rest := []) ⟨hx, hb, hml, hown, hts⟩ ((cK_kind l dC dI cI cC cL sk sv ad N s4 s5 r5 hc5) _) ⟨(callB_of 0 hts (tb_good tw320) rfl rfl rfl (ht _ tw5) (ht _ tw317) (by decide +kernel) ⟨by dsimp only; omega, by dsimp only; omega⟩), ht _ tw318, ht _ tw319⟩ (jpreV (jEn_ok sk sv) hC hA hK hN (wR_e2 cI cC ad s4) rfl rfl _) rfl rfl hl.1 rfl (lv_room (Nat.le_of_ble_eq_true rfl)) dR_ifStatement_26 ⟨Nat.le_refl _, Nat.le_refl _⟩) hC hA (fun H locs hC => ?_)
  refine lv_iconst (v := 4) hx hb dR_ifStatement_29 (by decide) ?_
  refine lv_icmp_ne (tgt := 44) hx hb dR_ifStatement_30 (by decide) (fun c6 => ?_) (fun c6 => ?_)
  · replace hf := jif_f c6 hf
    refine lv_aload_n hx hb dR_ifStatement_44 rfl (lv_at hl 1 rfl) ?_
    refine va_get (D := (dC, dI)) (ci := 3) (v := .ref (ad 1)) (C := RcR) (T := TcR) (N := 10) hx hb ht in_cR hown hK hC.1 0 (wR_e0 cI cC ad s5) rfl 1 (by decide) (ht _ tw114) (fun _ h9 => h9) rfl dR_ifStatement_45 ?_
    refine lv_iload_n hx hb dR_ifStatement_48 rfl (lv_at hl 0 rfl) ?_
    obtain ⟨r7, s7, hc7, hf⟩ := jB_some hf
    refine jcall_v (va_runV (C := RcT) (As := [.int r1]) (rest := []) ⟨hx, hb, hml, hown, hts⟩ ((cT_close l dC dI cI cC cL sk sv ad N r1 s5 s7 r7 hc7) _) ⟨(callB_of 1 hts (tb_good tw359) rfl rfl rfl (ht _ tw4) (ht _ tw356) (by decide +kernel) ⟨by dsimp only; omega, by dsimp only; omega⟩), ht _ tw357, ht _ tw358⟩ (jpreV (jEn_ok sk sv) hC hA hK hN (wR_e1 cI cC ad s5) rfl rfl _) rfl rfl hl.1 rfl (lv_room (Nat.le_of_ble_eq_true rfl)) dR_ifStatement_49 ⟨Nat.le_refl _, Nat.le_refl _⟩) hC hA (fun H locs hC => ?_)
    cases hf
    exact jret_v hx hb hr hlk hC hK dR_ifStatement_52
  · replace hf := jif_t c6 hf
    refine lv_aload_n hx hb dR_ifStatement_33 rfl (lv_at hl 1 rfl) ?_
    obtain ⟨r8, s8, hc8, hf⟩ := jB_some hf
    refine jcall_v (va_runV (C := RcR) (As := []) (rest := []) ⟨hx, hb, hml, hown, hts⟩ ((cR_take l dC dI cI cC cL sk sv ad N s5 s8 r8 hc8) _) ⟨(callB_of 0 hts (tb_good tw339) rfl rfl rfl (ht _ tw2) (ht _ tw336) (by decide +kernel) ⟨by dsimp only; omega, by dsimp only; omega⟩), ht _ tw338, ht _ (tb_sel pv_R_take)⟩ (jpreV (jEn_ok sk sv) hC hA hK hN (wR_e0 cI cC ad s5) rfl rfl _) rfl rfl hl.1 rfl (lv_room (Nat.le_of_ble_eq_true rfl)) dR_ifStatement_34 ⟨Nat.le_refl _, Nat.le_refl _⟩) hC hA (fun H locs hC => ?_)
    refine lv_aload_n hx hb dR_ifStatement_37 rfl (lv_at hl 1 rfl) ?_
    refine lv_iload_n hx hb dR_ifStatement_38 rfl (lv_at hl 2 rfl) ?_
    refine lv_iconst (v := 1) hx hb dR_ifStatement_39 (by decide) ?_
    refine lv_iadd hx hb dR_ifStatement_40 ?_
    obtain ⟨r9, s9, hc9, hf⟩ := jB_some hf
    refine jcall_v (va_runV (C := RcR) (As := [.int (a0 + (1 : Int32))]) (rest := []) ⟨hx, hb, hml, hown, hts⟩ ((hg5 (a0 + (1 : Int32)) s8 r9 s9 hc9) _) ⟨(callB_of 1 hts (tb_good tw425) rfl rfl rfl (ht _ tw2) (ht _ tw422) (by decide +kernel) ⟨by dsimp only; omega, by dsimp only; omega⟩), ht _ tw424, ht _ (tb_sel pv_R_part)⟩ (jpreV (jEn_ok sk sv) hC hA hK hN (wR_e0 cI cC ad s8) rfl rfl _) rfl rfl hl.1 rfl (lv_room (Nat.le_of_ble_eq_true rfl)) dR_ifStatement_41 ⟨Nat.le_refl _, Nat.le_refl _⟩) hC hA (fun H locs hC => ?_)
    refine lv_aload_n hx hb dR_ifStatement_44 rfl (lv_at hl 1 rfl) ?_
    refine va_get (D := (dC, dI)) (ci := 3) (v := .ref (ad 1)) (C := RcR) (T := TcR) (N := 10) hx hb ht in_cR hown hK hC.1 0 (wR_e0 cI cC ad s9) rfl 1 (by decide) (ht _ tw114) (fun _ h9 => h9) rfl dR_ifStatement_45 ?_
    refine lv_iload_n hx hb dR_ifStatement_48 rfl (lv_at hl 0 rfl) ?_
    obtain ⟨r10, s10, hc10, hf⟩ := jB_some hf
    refine jcall_v (va_runV (C := RcT) (As := [.int r1]) (rest := []) ⟨hx, hb, hml, hown, hts⟩ ((cT_close l dC dI cI cC cL sk sv ad N r1 s9 s10 r10 hc10) _) ⟨(callB_of 1 hts (tb_good tw359) rfl rfl rfl (ht _ tw4) (ht _ tw356) (by decide +kernel) ⟨by dsimp only; omega, by dsimp only; omega⟩), ht _ tw357, ht _ tw358⟩ (jpreV (jEn_ok sk sv) hC hA hK hN (wR_e1 cI cC ad s9) rfl rfl _) rfl rfl hl.1 rfl (lv_room (Nat.le_of_ble_eq_true rfl)) dR_ifStatement_49 ⟨Nat.le_refl _, Nat.le_refl _⟩) hC hA (fun H locs hC => ?_)
    cases hf
    exact jret_v hx hb hr hlk hC hK dR_ifStatement_52

def fR_whileStatement (N : Nat) (g : Nat → Int32 → jS → Option (Int32 × jS)) (a0 : Int32) (z0 : jS) : Option (Int32 × jS) := (jB (fR_begin N (23 : Int32) z0) fun r1 s1 => (jB (fR_take N s1) fun r2 s2 => (jB (fR_condition N s2) fun r3 s3 => (jB (g 5 (a0 + (1 : Int32)) s3) fun r4 s4 => (jB (fT_close N r1 s4) fun r5 s5 => some (0, s5))))))
set_option maxHeartbeats 4000000 in
set_option maxRecDepth 100000 in
theorem cR_whileStatement (l : Launch) (dC : Nat → ClassId) (dI : Nat → Nat → Nat) (cI cC cL : ClassId) (sk sv : Nat → Nat) (ad : Nat → Nat) (N : Nat) (g : Nat → Int32 → jS → Option (Int32 × jS)) (d : Nat) (hg0 : ∀ (a : Int32) (s : jS) (r : Int32) (s1 : jS), g 0 a s = some (r, s1) → Cv l yR_list (Cond.code yR_list prog_4_method_8_code 3 none :: TB) ({ frames := 35 + d, cells := 0, slots := 0, locals := 1351 + d * 40 }) (dC, dI) vwCl [(cI, .int), (cC, .char), (cL, .object "SharedSyntax$Letters")] (jEn sk sv) [.ref (ad 0), .int a] (wR cI cC ad s) (wR cI cC ad s1)) (hg1 : ∀ (a : Int32) (s : jS) (r : Int32) (s1 : jS), g 1 a s = some (r, s1) → Cv l yR_statement (Cond.code yR_statement prog_4_method_12_code 2 none :: TB) ({ frames := 35 + d, cells := 0, slots := 0, locals := 1351 + d * 40 }) (dC, dI) vwCl [(cI, .int), (cC, .char), (cL, .object "SharedSyntax$Letters")] (jEn sk sv) [.ref (ad 0), .int a] (wR cI cC ad s) (wR cI cC ad s1)) (hg2 : ∀ (a : Int32) (s : jS) (r : Int32) (s1 : jS), g 2 a s = some (r, s1) → Cv l yR_block (Cond.code yR_block prog_4_method_14_code 3 none :: TB) ({ frames := 35 + d, cells := 0, slots := 0, locals := 1351 + d * 40 }) (dC, dI) vwCl [(cI, .int), (cC, .char), (cL, .object "SharedSyntax$Letters")] (jEn sk sv) [.ref (ad 0), .int a] (wR cI cC ad s) (wR cI cC ad s1)) (hg3 : ∀ (a : Int32) (s : jS) (r : Int32) (s1 : jS), g 3 a s = some (r, s1) → Cv l yR_ifStatement (Cond.code yR_ifStatement prog_4_method_15_code 3 none :: TB) ({ frames := 35 + d, cells := 0, slots := 0, locals := 1351 + d * 40 }) (dC, dI) vwCl [(cI, .int), (cC, .char), (cL, .object "SharedSyntax$Letters")] (jEn sk sv) [.ref (ad 0), .int a] (wR cI cC ad s) (wR cI cC ad s1)) (hg4 : ∀ (a : Int32) (s : jS) (r : Int32) (s1 : jS), g 4 a s = some (r, s1) → Cv l yR_whileStatement (Cond.code yR_whileStatement prog_4_method_16_code 3 none :: TB) ({ frames := 35 + d, cells := 0, slots := 0, locals := 1351 + d * 40 }) (dC, dI) vwCl [(cI, .int), (cC, .char), (cL, .object "SharedSyntax$Letters")] (jEn sk sv) [.ref (ad 0), .int a] (wR cI cC ad s) (wR cI cC ad s1)) (hg5 : ∀ (a : Int32) (s : jS) (r : Int32) (s1 : jS), g 5 a s = some (r, s1) → Cv l yR_part (Cond.code yR_part prog_4_method_19_code 3 none :: TB) ({ frames := 35 + d, cells := 0, slots := 0, locals := 1351 + d * 40 }) (dC, dI) vwCl [(cI, .int), (cC, .char), (cL, .object "SharedSyntax$Letters")] (jEn sk sv) [.ref (ad 0), .int a] (wR cI cC ad s) (wR cI cC ad s1)) (a0 : Int32) (z0 z1 : jS) (r : Int32) (hf : fR_whileStatement N g a0 z0 = some (r, z1)) : Cv l yR_whileStatement (Cond.code yR_whileStatement prog_4_method_16_code 3 none :: TB) ({ frames := 35 + (d + 1), cells := 0, slots := 0, locals := 1351 + (d + 1) * 40 }) (dC, dI) vwCl [(cI, .int), (cC, .char), (cL, .object "SharedSyntax$Letters")] (jEn sk sv) [.ref (ad 0), .int a0] (wR cI cC ad z0) (wR cI cC ad z1) := by
  refine Cv_of (cc := prog_4_method_16_code) (maxL := 3) (ret := none) (by decide) rfl (Nat.le_of_ble_eq_true rfl) ?_
  intro p e s m below meth c ls F hl hK hN hC
  obtain ⟨hx, hb, hml, hown, hts, hr, hlk⟩ := F
  have ht : ∀ w ∈ TB, w.before [.ref (ad 0), .int a0].toArray s = true := fun w h => hts w (List.mem_cons_of_mem _ h)
  have hA : ∀ q, s.heap.size ≤ q → va_A (wR cI cC ad z0) s.heap.size q := fun q h => Or.inr h
  have hl : lv_has ls 3 [(0, .ref (ad 0)), (1, .int a0)] := hl
  unfold fR_whileStatement at hf
  refine lv_aload_n hx hb dR_whileStatement_0 rfl (lv_at hl 0 rfl) ?_
  refine lv_bipush (v := 23) hx hb dR_whileStatement_1 (by decide) ?_
  obtain ⟨r1, s1, hc1, hf⟩ := jB_some hf
  refine jcall_i (va_runV (C := RcR) (As := [.int (23 : Int32)]) (rest := []) ⟨hx, hb, hml, hown, hts⟩ ((cR_begin l dC dI cI cC cL sk sv ad N (23 : Int32) z0 s1 r1 hc1) _) ⟨(callB_of 1 hts (tb_good tw304) rfl rfl rfl (ht _ tw2) (ht _ tw301) (by decide +kernel) ⟨by dsimp only; omega, by dsimp only; omega⟩), ht _ tw303, ht _ (tb_sel pv_R_begin)⟩ (jpreV (jEn_ok sk sv) hC hA hK hN (wR_e0 cI cC ad z0) rfl rfl _) rfl rfl hl.1 rfl (lv_room (Nat.le_of_ble_eq_true rfl)) dR_whileStatement_3 ⟨Nat.le_refl _, Nat.le_refl _⟩) hC hA (fun H locs hC => ?_)
  refine lv_istore_n (lv' := [(2, .int r1), (0, .ref (ad 0)), (1, .int a0)]) hx hb dR_whileStatement_6 rfl hl (by decide) rfl (fun ls hl => ?_)
  refine lv_aload_n hx hb dR_whileStatement_7 rfl (lv_at hl 1 rfl) ?_
  obtain ⟨r2, s2, hc2, hf⟩ := jB_some hf
  refine jcall_v (va_runV (C := RcR) (As := []) (rest := []) ⟨hx, hb, hml, hown, hts⟩ ((cR_take l dC dI cI cC cL sk sv ad N s1 s2 r2 hc2) _) ⟨(callB_of 0 hts (tb_good tw339) rfl rfl rfl (ht _ tw2) (ht _ tw336) (by decide +kernel) ⟨by dsimp only; omega, by dsimp only; omega⟩), ht _ tw338, ht _ (tb_sel pv_R_take)⟩ (jpreV (jEn_ok sk sv) hC hA hK hN (wR_e0 cI cC ad s1) rfl rfl _) rfl rfl hl.1 rfl (lv_room (Nat.le_of_ble_eq_true rfl)) dR_whileStatement_8 ⟨Nat.le_refl _, Nat.le_refl _⟩) hC hA (fun H locs hC => ?_)
  refine lv_aload_n hx hb dR_whileStatement_11 rfl (lv_at hl 1 rfl) ?_
  obtain ⟨r3, s3, hc3, hf⟩ := jB_some hf
  refine jcall_v (va_runV (C := RcR) (As := []) (rest := []) ⟨hx, hb, hml, hown, hts⟩ ((cR_condition l dC dI cI cC cL sk sv ad N s2 s3 r3 hc3) _) ⟨(callB_of 0 hts (tb_good tw383) rfl rfl rfl (ht _ tw2) (ht _ tw380) (by decide +kernel) ⟨by dsimp only; omega, by dsimp only; omega⟩), ht _ tw382, ht _ (tb_sel pv_R_condition)⟩ (jpreV (jEn_ok sk sv) hC hA hK hN (wR_e0 cI cC ad s2) rfl rfl _) rfl rfl hl.1 rfl (lv_room (Nat.le_of_ble_eq_true rfl)) dR_whileStatement_12 ⟨Nat.le_refl _, Nat.le_refl _⟩) hC hA (fun H locs hC => ?_)
  refine lv_aload_n hx hb dR_whileStatement_15 rfl (lv_at hl 1 rfl) ?_
  refine lv_iload_n hx hb dR_whileStatement_16 rfl (lv_at hl 2 rfl) ?_
  refine lv_iconst (v := 1) hx hb dR_whileStatement_17 (by decide) ?_
  refine lv_iadd hx hb dR_whileStatement_18 ?_
  obtain ⟨r4, s4, hc4, hf⟩ := jB_some hf
  refine jcall_v (va_runV (C := RcR) (As := [.int (a0 + (1 : Int32))]) (rest := []) ⟨hx, hb, hml, hown, hts⟩ ((hg5 (a0 + (1 : Int32)) s3 r4 s4 hc4) _) ⟨(callB_of 1 hts (tb_good tw425) rfl rfl rfl (ht _ tw2) (ht _ tw422) (by decide +kernel) ⟨by dsimp only; omega, by dsimp only; omega⟩), ht _ tw424, ht _ (tb_sel pv_R_part)⟩ (jpreV (jEn_ok sk sv) hC hA hK hN (wR_e0 cI cC ad s3) rfl rfl _) rfl rfl hl.1 rfl (lv_room (Nat.le_of_ble_eq_true rfl)) dR_whileStatement_19 ⟨Nat.le_refl _, Nat.le_refl _⟩) hC hA (fun H locs hC => ?_)
  refine lv_aload_n hx hb dR_whileStatement_22 rfl (lv_at hl 1 rfl) ?_
  refine va_get (D := (dC, dI)) (ci := 3) (v := .ref (ad 1)) (C := RcR) (T := TcR) (N := 10) hx hb ht in_cR hown hK hC.1 0 (wR_e0 cI cC ad s4) rfl 1 (by decide) (ht _ tw114) (fun _ h9 => h9) rfl dR_whileStatement_23 ?_
  refine lv_iload_n hx hb dR_whileStatement_26 rfl (lv_at hl 0 rfl) ?_
  obtain ⟨r5, s5, hc5, hf⟩ := jB_some hf
  refine jcall_v (va_runV (C := RcT) (As := [.int r1]) (rest := []) ⟨hx, hb, hml, hown, hts⟩ ((cT_close l dC dI cI cC cL sk sv ad N r1 s4 s5 r5 hc5) _) ⟨(callB_of 1 hts (tb_good tw359) rfl rfl rfl (ht _ tw4) (ht _ tw356) (by decide +kernel) ⟨by dsimp only; omega, by dsimp only; omega⟩), ht _ tw357, ht _ tw358⟩ (jpreV (jEn_ok sk sv) hC hA hK hN (wR_e1 cI cC ad s4) rfl rfl _) rfl rfl hl.1 rfl (lv_room (Nat.le_of_ble_eq_true rfl)) dR_whileStatement_27 ⟨Nat.le_refl _, Nat.le_refl _⟩) hC hA (fun H locs hC => ?_)
  cases hf
  exact jret_v hx hb hr hlk hC hK dR_whileStatement_30

def fR_part (N : Nat) (g : Nat → Int32 → jS → Option (Int32 × jS)) (a0 : Int32) (z0 : jS) : Option (Int32 × jS) := (jB (fR_statementFollows N a0 z0) fun r1 s1 => (if r1 = 0 then (jB (fR_begin N (25 : Int32) s1) fun r3 s3 => (jB (fK_kind N s3) fun r4 s4 => (jB (fR_canBegin N r4 s4) fun r5 s5 => (if r5 = 0 then (jB (fR_miss N (6 : Int32) (2 : Int32) s5) fun r7 s7 => (jB (fT_close N r3 s7) fun r8 s8 => some (0, s8))) else (jB (fR_miss N (6 : Int32) (3 : Int32) s5) fun r9 s9 => (jB (fT_close N r3 s9) fun r10 s10 => some (0, s10))))))) else (jB (g 1 a0 s1) fun r11 s11 => some (0, s11))))
set_option maxHeartbeats 4000000 in
set_option maxRecDepth 100000 in
theorem cR_part (l : Launch) (dC : Nat → ClassId) (dI : Nat → Nat → Nat) (cI cC cL : ClassId) (sk sv : Nat → Nat) (ad : Nat → Nat) (N : Nat) (g : Nat → Int32 → jS → Option (Int32 × jS)) (d : Nat) (hg0 : ∀ (a : Int32) (s : jS) (r : Int32) (s1 : jS), g 0 a s = some (r, s1) → Cv l yR_list (Cond.code yR_list prog_4_method_8_code 3 none :: TB) ({ frames := 35 + d, cells := 0, slots := 0, locals := 1351 + d * 40 }) (dC, dI) vwCl [(cI, .int), (cC, .char), (cL, .object "SharedSyntax$Letters")] (jEn sk sv) [.ref (ad 0), .int a] (wR cI cC ad s) (wR cI cC ad s1)) (hg1 : ∀ (a : Int32) (s : jS) (r : Int32) (s1 : jS), g 1 a s = some (r, s1) → Cv l yR_statement (Cond.code yR_statement prog_4_method_12_code 2 none :: TB) ({ frames := 35 + d, cells := 0, slots := 0, locals := 1351 + d * 40 }) (dC, dI) vwCl [(cI, .int), (cC, .char), (cL, .object "SharedSyntax$Letters")] (jEn sk sv) [.ref (ad 0), .int a] (wR cI cC ad s) (wR cI cC ad s1)) (hg2 : ∀ (a : Int32) (s : jS) (r : Int32) (s1 : jS), g 2 a s = some (r, s1) → Cv l yR_block (Cond.code yR_block prog_4_method_14_code 3 none :: TB) ({ frames := 35 + d, cells := 0, slots := 0, locals := 1351 + d * 40 }) (dC, dI) vwCl [(cI, .int), (cC, .char), (cL, .object "SharedSyntax$Letters")] (jEn sk sv) [.ref (ad 0), .int a] (wR cI cC ad s) (wR cI cC ad s1)) (hg3 : ∀ (a : Int32) (s : jS) (r : Int32) (s1 : jS), g 3 a s = some (r, s1) → Cv l yR_ifStatement (Cond.code yR_ifStatement prog_4_method_15_code 3 none :: TB) ({ frames := 35 + d, cells := 0, slots := 0, locals := 1351 + d * 40 }) (dC, dI) vwCl [(cI, .int), (cC, .char), (cL, .object "SharedSyntax$Letters")] (jEn sk sv) [.ref (ad 0), .int a] (wR cI cC ad s) (wR cI cC ad s1)) (hg4 : ∀ (a : Int32) (s : jS) (r : Int32) (s1 : jS), g 4 a s = some (r, s1) → Cv l yR_whileStatement (Cond.code yR_whileStatement prog_4_method_16_code 3 none :: TB) ({ frames := 35 + d, cells := 0, slots := 0, locals := 1351 + d * 40 }) (dC, dI) vwCl [(cI, .int), (cC, .char), (cL, .object "SharedSyntax$Letters")] (jEn sk sv) [.ref (ad 0), .int a] (wR cI cC ad s) (wR cI cC ad s1)) (hg5 : ∀ (a : Int32) (s : jS) (r : Int32) (s1 : jS), g 5 a s = some (r, s1) → Cv l yR_part (Cond.code yR_part prog_4_method_19_code 3 none :: TB) ({ frames := 35 + d, cells := 0, slots := 0, locals := 1351 + d * 40 }) (dC, dI) vwCl [(cI, .int), (cC, .char), (cL, .object "SharedSyntax$Letters")] (jEn sk sv) [.ref (ad 0), .int a] (wR cI cC ad s) (wR cI cC ad s1)) (a0 : Int32) (z0 z1 : jS) (r : Int32) (hf : fR_part N g a0 z0 = some (r, z1)) : Cv l yR_part (Cond.code yR_part prog_4_method_19_code 3 none :: TB) ({ frames := 35 + (d + 1), cells := 0, slots := 0, locals := 1351 + (d + 1) * 40 }) (dC, dI) vwCl [(cI, .int), (cC, .char), (cL, .object "SharedSyntax$Letters")] (jEn sk sv) [.ref (ad 0), .int a0] (wR cI cC ad z0) (wR cI cC ad z1) := by
  refine Cv_of (cc := prog_4_method_19_code) (maxL := 3) (ret := none) (by decide) rfl (Nat.le_of_ble_eq_true rfl) ?_
  intro p e s m below meth c ls F hl hK hN hC
  obtain ⟨hx, hb, hml, hown, hts, hr, hlk⟩ := F
  have ht : ∀ w ∈ TB, w.before [.ref (ad 0), .int a0].toArray s = true := fun w h => hts w (List.mem_cons_of_mem _ h)
  have hA : ∀ q, s.heap.size ≤ q → va_A (wR cI cC ad z0) s.heap.size q := fun q h => Or.inr h
  have hl : lv_has ls 3 [(0, .ref (ad 0)), (1, .int a0)] := hl
  unfold fR_part at hf
  refine lv_aload_n hx hb dR_part_0 rfl (lv_at hl 0 rfl) ?_
  refine lv_iload_n hx hb dR_part_1 rfl (lv_at hl 1 rfl) ?_
  obtain ⟨r1, s1, hc1, hf⟩ := jB_some hf
  refine jcall_i (va_runV (C := RcR) (As := [.int a0]) (rest := []) ⟨hx, hb, hml, hown, hts⟩ ((cR_statementFollows l dC dI cI cC cL sk sv ad N a0 z0 s1 r1 hc1) _) ⟨(callB_of 1 hts (tb_good tw324) rfl rfl rfl (ht _ tw2) (ht _ tw321) (by decide +kernel) ⟨by dsimp only; omega, by dsimp only; omega⟩), ht _ tw323, ht _ (tb_sel pv_R_statementFollows)⟩ (jpreV (jEn_ok sk sv) hC hA hK hN (wR_e0 cI cC ad z0) rfl rfl _) rfl rfl hl.1 rfl (lv_room (Nat.le_of_ble_eq_true rfl)) dR_part_2 ⟨Nat.le_refl _, Nat.le_refl _⟩) hC hA (fun H locs hC => ?_)
  refine lv_if_eq (tgt := 14) hx hb dR_part_5 (by decide) (fun c2 => ?_) (fun c2 => ?_)
  · replace hf := jif_t c2 hf
    refine lv_aload_n hx hb dR_part_14 rfl (lv_at hl 0 rfl) ?_
    refine lv_bipush (v := 25) hx hb dR_part_15 (by decide) ?_
    obtain ⟨r3, s3, hc3, hf⟩ := jB_some hf
    refine jcall_i (va_runV (C := RcR) (As := [.int (25 : Int32)]) (rest := []) ⟨hx, hb, hml, hown, hts⟩ ((cR_begin l dC dI cI cC cL sk sv ad N (25 : Int32) s1 s3 r3 hc3) _) ⟨(callB_of 1 hts (tb_good tw304) rfl rfl rfl (ht _ tw2) (ht _ tw301) (by decide +kernel) ⟨by dsimp only; omega, by dsimp only; omega⟩), ht _ tw303, ht _ (tb_sel pv_R_begin)⟩ (jpreV (jEn_ok sk sv) hC hA hK hN (wR_e0 cI cC ad s1) rfl rfl _) rfl rfl hl.1 rfl (lv_room (Nat.le_of_ble_eq_true rfl)) dR_part_17 ⟨Nat.le_refl _, Nat.le_refl _⟩) hC hA (fun H locs hC => ?_)
    refine lv_istore_n (lv' := [(2, .int r3), (0, .ref (ad 0)), (1, .int a0)]) hx hb dR_part_20 rfl hl (by decide) rfl (fun ls hl => ?_)
    refine lv_aload_n hx hb dR_part_21 rfl (lv_at hl 1 rfl) ?_
    refine lv_bipush (v := 6) hx hb dR_part_22 (by decide) ?_
    refine lv_aload_n hx hb dR_part_24 rfl (lv_at hl 1 rfl) ?_
    refine va_get (D := (dC, dI)) (ci := 3) (v := .ref (ad 2)) (C := RcR) (T := TcR) (N := 10) hx hb ht in_cR hown hK hC.1 0 (wR_e0 cI cC ad s3) rfl 2 (by decide) (ht _ tw116) (fun _ h9 => h9) rfl dR_part_25 ?_
    obtain ⟨r4, s4, hc4, hf⟩ := jB_some hf
    refine jcall_i (va_runV (C := RcK) (As := []) (rest := [.int (6 : Int32), .ref (ad 0)]) ⟨hx, hb, hml, hown, hts⟩ ((cK_kind l dC dI cI cC cL sk sv ad N s3 s4 r4 hc4) _) ⟨(callB_of 0 hts (tb_good tw320) rfl rfl rfl (ht _ tw5) (ht _ tw317) (by decide +kernel) ⟨by dsimp only; omega, by dsimp only; omega⟩), ht _ tw318, ht _ tw319⟩ (jpreV (jEn_ok sk sv) hC hA hK hN (wR_e2 cI cC ad s3) rfl rfl _) rfl rfl hl.1 rfl (lv_room (Nat.le_of_ble_eq_true rfl)) dR_part_28 ⟨Nat.le_refl _, Nat.le_refl _⟩) hC hA (fun H locs hC => ?_)
    obtain ⟨r5, s5, hc5, hf⟩ := jB_some hf
    refine jcall_i (va_runS (As := [.int r4]) (rest := [.int (6 : Int32), .ref (ad 0)]) ⟨hx, hb, hml, hown, hts⟩ ((cR_canBegin l dC dI cI cC cL sk sv ad N r4 s4 s5 r5 hc5) _) ⟨(callB_of 1 hts (tb_good tw327) rfl rfl rfl (ht _ tw2) (ht _ tw325) (by decide +kernel) ⟨by dsimp only; omega, by dsimp only; omega⟩), ht _ tw326⟩ (jpreS (jEn_ok sk sv) hC hA hK hN _) rfl rfl hl.1 rfl (lv_room (Nat.le_of_ble_eq_true rfl)) dR_part_31 ⟨Nat.le_refl _, Nat.le_refl _⟩) hC hA (fun H locs hC => ?_)
    refine lv_if_eq (tgt := 41) hx hb dR_part_34 (by decide) (fun c6 => ?_) (fun c6 => ?_)
    · replace hf := jif_t c6 hf
      refine lv_iconst (v := 2) hx hb dR_part_41 (by decide) ?_
      obtain ⟨r7, s7, hc7, hf⟩ := jB_some hf
      refine jcall_v (va_runV (C := RcR) (As := [.int (6 : Int32), .int (2 : Int32)]) (rest := []) ⟨hx, hb, hml, hown, hts⟩ ((cR_miss l dC dI cI cC cL sk sv ad N (6 : Int32) (2 : Int32) s5 s7 r7 hc7) _) ⟨(callB_of 2 hts (tb_good tw375) rfl rfl rfl (ht _ tw2) (ht _ tw372) (by decide +kernel) ⟨by dsimp only; omega, by dsimp only; omega⟩), ht _ tw374, ht _ (tb_sel pv_R_miss)⟩ (jpreV (jEn_ok sk sv) hC hA hK hN (wR_e0 cI cC ad s5) rfl rfl _) rfl rfl hl.1 rfl (lv_room (Nat.le_of_ble_eq_true rfl)) dR_part_42 ⟨Nat.le_refl _, Nat.le_refl _⟩) hC hA (fun H locs hC => ?_)
      refine lv_aload_n hx hb dR_part_45 rfl (lv_at hl 1 rfl) ?_
      refine va_get (D := (dC, dI)) (ci := 3) (v := .ref (ad 1)) (C := RcR) (T := TcR) (N := 10) hx hb ht in_cR hown hK hC.1 0 (wR_e0 cI cC ad s7) rfl 1 (by decide) (ht _ tw114) (fun _ h9 => h9) rfl dR_part_46 ?_
      refine lv_iload_n hx hb dR_part_49 rfl (lv_at hl 0 rfl) ?_
      obtain ⟨r8, s8, hc8, hf⟩ := jB_some hf
      refine jcall_v (va_runV (C := RcT) (As := [.int r3]) (rest := []) ⟨hx, hb, hml, hown, hts⟩ ((cT_close l dC dI cI cC cL sk sv ad N r3 s7 s8 r8 hc8) _) ⟨(callB_of 1 hts (tb_good tw359) rfl rfl rfl (ht _ tw4) (ht _ tw356) (by decide +kernel) ⟨by dsimp only; omega, by dsimp only; omega⟩), ht _ tw357, ht _ tw358⟩ (jpreV (jEn_ok sk sv) hC hA hK hN (wR_e1 cI cC ad s7) rfl rfl _) rfl rfl hl.1 rfl (lv_room (Nat.le_of_ble_eq_true rfl)) dR_part_50 ⟨Nat.le_refl _, Nat.le_refl _⟩) hC hA (fun H locs hC => ?_)
      cases hf
      exact jret_v hx hb hr hlk hC hK dR_part_53
    · replace hf := jif_f c6 hf
      refine lv_iconst (v := 3) hx hb dR_part_37 (by decide) ?_
      refine lv_goto (tgt := 42) hx hb dR_part_38 (by decide) ?_
      obtain ⟨r9, s9, hc9, hf⟩ := jB_some hf
      refine jcall_v (va_runV (C := RcR) (As := [.int (6 : Int32), .int (3 : Int32)]) (rest := []) ⟨hx, hb, hml, hown, hts⟩ ((cR_miss l dC dI cI cC cL sk sv ad N (6 : Int32) (3 : Int32) s5 s9 r9 hc9) _) ⟨(callB_of 2 hts (tb_good tw375) rfl rfl rfl (ht _ tw2) (ht _ tw372) (by decide +kernel) ⟨by dsimp only; omega, by dsimp only; omega⟩), ht _ tw374, ht _ (tb_sel pv_R_miss)⟩ (jpreV (jEn_ok sk sv) hC hA hK hN (wR_e0 cI cC ad s5) rfl rfl _) rfl rfl hl.1 rfl (lv_room (Nat.le_of_ble_eq_true rfl)) dR_part_42 ⟨Nat.le_refl _, Nat.le_refl _⟩) hC hA (fun H locs hC => ?_)
      refine lv_aload_n hx hb dR_part_45 rfl (lv_at hl 1 rfl) ?_
      refine va_get (D := (dC, dI)) (ci := 3) (v := .ref (ad 1)) (C := RcR) (T := TcR) (N := 10) hx hb ht in_cR hown hK hC.1 0 (wR_e0 cI cC ad s9) rfl 1 (by decide) (ht _ tw114) (fun _ h9 => h9) rfl dR_part_46 ?_
      refine lv_iload_n hx hb dR_part_49 rfl (lv_at hl 0 rfl) ?_
      obtain ⟨r10, s10, hc10, hf⟩ := jB_some hf
      refine jcall_v (va_runV (C := RcT) (As := [.int r3]) (rest := []) ⟨hx, hb, hml, hown, hts⟩ ((cT_close l dC dI cI cC cL sk sv ad N r3 s9 s10 r10 hc10) _) ⟨(callB_of 1 hts (tb_good tw359) rfl rfl rfl (ht _ tw4) (ht _ tw356) (by decide +kernel) ⟨by dsimp only; omega, by dsimp only; omega⟩), ht _ tw357, ht _ tw358⟩ (jpreV (jEn_ok sk sv) hC hA hK hN (wR_e1 cI cC ad s9) rfl rfl _) rfl rfl hl.1 rfl (lv_room (Nat.le_of_ble_eq_true rfl)) dR_part_50 ⟨Nat.le_refl _, Nat.le_refl _⟩) hC hA (fun H locs hC => ?_)
      cases hf
      exact jret_v hx hb hr hlk hC hK dR_part_53
  · replace hf := jif_f c2 hf
    refine lv_aload_n hx hb dR_part_8 rfl (lv_at hl 0 rfl) ?_
    refine lv_iload_n hx hb dR_part_9 rfl (lv_at hl 1 rfl) ?_
    obtain ⟨r11, s11, hc11, hf⟩ := jB_some hf
    refine jcall_v (va_runV (C := RcR) (As := [.int a0]) (rest := []) ⟨hx, hb, hml, hown, hts⟩ ((hg1 a0 s1 r11 s11 hc11) _) ⟨(callB_of 1 hts (tb_good tw331) rfl rfl rfl (ht _ tw2) (ht _ tw328) (by decide +kernel) ⟨by dsimp only; omega, by dsimp only; omega⟩), ht _ tw330, ht _ (tb_sel pv_R_statement)⟩ (jpreV (jEn_ok sk sv) hC hA hK hN (wR_e0 cI cC ad s1) rfl rfl _) rfl rfl hl.1 rfl (lv_room (Nat.le_of_ble_eq_true rfl)) dR_part_10 ⟨Nat.le_refl _, Nat.le_refl _⟩) hC hA (fun H locs hC => ?_)
    cases hf
    exact jret_v hx hb hr hlk hC hK dR_part_13

def gst (N : Nat) : Nat → Nat → Int32 → jS → Option (Int32 × jS)
  | 0 => fun _ _ _ => none
  | d + 1 => fun t a s => (if t = 0 then fR_list N (gst N d) a s else (if t = 1 then fR_statement N (gst N d) a s else (if t = 2 then fR_block N (gst N d) a s else (if t = 3 then fR_ifStatement N (gst N d) a s else (if t = 4 then fR_whileStatement N (gst N d) a s else (if t = 5 then fR_part N (gst N d) a s else none))))))

theorem cgst (l : Launch) (dC : Nat → ClassId) (dI : Nat → Nat → Nat) (cI cC cL : ClassId) (sk sv ad : Nat → Nat) (N : Nat) : ∀ d : Nat, (∀ (a : Int32) (s : jS) (r : Int32) (s1 : jS), gst N d 0 a s = some (r, s1) → Cv l yR_list (Cond.code yR_list prog_4_method_8_code 3 none :: TB) ({ frames := 35 + d, cells := 0, slots := 0, locals := 1351 + d * 40 }) (dC, dI) vwCl [(cI, .int), (cC, .char), (cL, .object "SharedSyntax$Letters")] (jEn sk sv) [.ref (ad 0), .int a] (wR cI cC ad s) (wR cI cC ad s1)) ∧ (∀ (a : Int32) (s : jS) (r : Int32) (s1 : jS), gst N d 1 a s = some (r, s1) → Cv l yR_statement (Cond.code yR_statement prog_4_method_12_code 2 none :: TB) ({ frames := 35 + d, cells := 0, slots := 0, locals := 1351 + d * 40 }) (dC, dI) vwCl [(cI, .int), (cC, .char), (cL, .object "SharedSyntax$Letters")] (jEn sk sv) [.ref (ad 0), .int a] (wR cI cC ad s) (wR cI cC ad s1)) ∧ (∀ (a : Int32) (s : jS) (r : Int32) (s1 : jS), gst N d 2 a s = some (r, s1) → Cv l yR_block (Cond.code yR_block prog_4_method_14_code 3 none :: TB) ({ frames := 35 + d, cells := 0, slots := 0, locals := 1351 + d * 40 }) (dC, dI) vwCl [(cI, .int), (cC, .char), (cL, .object "SharedSyntax$Letters")] (jEn sk sv) [.ref (ad 0), .int a] (wR cI cC ad s) (wR cI cC ad s1)) ∧ (∀ (a : Int32) (s : jS) (r : Int32) (s1 : jS), gst N d 3 a s = some (r, s1) → Cv l yR_ifStatement (Cond.code yR_ifStatement prog_4_method_15_code 3 none :: TB) ({ frames := 35 + d, cells := 0, slots := 0, locals := 1351 + d * 40 }) (dC, dI) vwCl [(cI, .int), (cC, .char), (cL, .object "SharedSyntax$Letters")] (jEn sk sv) [.ref (ad 0), .int a] (wR cI cC ad s) (wR cI cC ad s1)) ∧ (∀ (a : Int32) (s : jS) (r : Int32) (s1 : jS), gst N d 4 a s = some (r, s1) → Cv l yR_whileStatement (Cond.code yR_whileStatement prog_4_method_16_code 3 none :: TB) ({ frames := 35 + d, cells := 0, slots := 0, locals := 1351 + d * 40 }) (dC, dI) vwCl [(cI, .int), (cC, .char), (cL, .object "SharedSyntax$Letters")] (jEn sk sv) [.ref (ad 0), .int a] (wR cI cC ad s) (wR cI cC ad s1)) ∧ (∀ (a : Int32) (s : jS) (r : Int32) (s1 : jS), gst N d 5 a s = some (r, s1) → Cv l yR_part (Cond.code yR_part prog_4_method_19_code 3 none :: TB) ({ frames := 35 + d, cells := 0, slots := 0, locals := 1351 + d * 40 }) (dC, dI) vwCl [(cI, .int), (cC, .char), (cL, .object "SharedSyntax$Letters")] (jEn sk sv) [.ref (ad 0), .int a] (wR cI cC ad s) (wR cI cC ad s1)) := by
  intro d
  induction d with
  | zero => exact ⟨fun _ _ _ _ h => (nomatch h), fun _ _ _ _ h => (nomatch h), fun _ _ _ _ h => (nomatch h), fun _ _ _ _ h => (nomatch h), fun _ _ _ _ h => (nomatch h), fun _ _ _ _ h => (nomatch h)⟩
  | succ d ih =>
    obtain ⟨h0, h1, h2, h3, h4, h5⟩ := ih
    exact ⟨fun a s r s1 h => cR_list l dC dI cI cC cL sk sv ad N (gst N d) d h0 h1 h2 h3 h4 h5 a s s1 r h, fun a s r s1 h => cR_statement l dC dI cI cC cL sk sv ad N (gst N d) d h0 h1 h2 h3 h4 h5 a s s1 r h, fun a s r s1 h => cR_block l dC dI cI cC cL sk sv ad N (gst N d) d h0 h1 h2 h3 h4 h5 a s s1 r h, fun a s r s1 h => cR_ifStatement l dC dI cI cC cL sk sv ad N (gst N d) d h0 h1 h2 h3 h4 h5 a s s1 r h, fun a s r s1 h => cR_whileStatement l dC dI cI cC cL sk sv ad N (gst N d) d h0 h1 h2 h3 h4 h5 a s s1 r h, fun a s r s1 h => cR_part l dC dI cI cC cL sk sv ad N (gst N d) d h0 h1 h2 h3 h4 h5 a s s1 r h⟩

theorem cgst_0 (l : Launch) (dC : Nat → ClassId) (dI : Nat → Nat → Nat) (cI cC cL : ClassId) (sk sv ad : Nat → Nat) (N : Nat) (d : Nat) (a : Int32) (s s1 : jS) (r : Int32) (h : gst N d 0 a s = some (r, s1)) : Cv l yR_list (Cond.code yR_list prog_4_method_8_code 3 none :: TB) ({ frames := 35 + d, cells := 0, slots := 0, locals := 1351 + d * 40 }) (dC, dI) vwCl [(cI, .int), (cC, .char), (cL, .object "SharedSyntax$Letters")] (jEn sk sv) [.ref (ad 0), .int a] (wR cI cC ad s) (wR cI cC ad s1) := (cgst l dC dI cI cC cL sk sv ad N d).1 a s r s1 h

theorem cgst_1 (l : Launch) (dC : Nat → ClassId) (dI : Nat → Nat → Nat) (cI cC cL : ClassId) (sk sv ad : Nat → Nat) (N : Nat) (d : Nat) (a : Int32) (s s1 : jS) (r : Int32) (h : gst N d 1 a s = some (r, s1)) : Cv l yR_statement (Cond.code yR_statement prog_4_method_12_code 2 none :: TB) ({ frames := 35 + d, cells := 0, slots := 0, locals := 1351 + d * 40 }) (dC, dI) vwCl [(cI, .int), (cC, .char), (cL, .object "SharedSyntax$Letters")] (jEn sk sv) [.ref (ad 0), .int a] (wR cI cC ad s) (wR cI cC ad s1) := (cgst l dC dI cI cC cL sk sv ad N d).2.1 a s r s1 h

theorem cgst_2 (l : Launch) (dC : Nat → ClassId) (dI : Nat → Nat → Nat) (cI cC cL : ClassId) (sk sv ad : Nat → Nat) (N : Nat) (d : Nat) (a : Int32) (s s1 : jS) (r : Int32) (h : gst N d 2 a s = some (r, s1)) : Cv l yR_block (Cond.code yR_block prog_4_method_14_code 3 none :: TB) ({ frames := 35 + d, cells := 0, slots := 0, locals := 1351 + d * 40 }) (dC, dI) vwCl [(cI, .int), (cC, .char), (cL, .object "SharedSyntax$Letters")] (jEn sk sv) [.ref (ad 0), .int a] (wR cI cC ad s) (wR cI cC ad s1) := (cgst l dC dI cI cC cL sk sv ad N d).2.2.1 a s r s1 h

theorem cgst_3 (l : Launch) (dC : Nat → ClassId) (dI : Nat → Nat → Nat) (cI cC cL : ClassId) (sk sv ad : Nat → Nat) (N : Nat) (d : Nat) (a : Int32) (s s1 : jS) (r : Int32) (h : gst N d 3 a s = some (r, s1)) : Cv l yR_ifStatement (Cond.code yR_ifStatement prog_4_method_15_code 3 none :: TB) ({ frames := 35 + d, cells := 0, slots := 0, locals := 1351 + d * 40 }) (dC, dI) vwCl [(cI, .int), (cC, .char), (cL, .object "SharedSyntax$Letters")] (jEn sk sv) [.ref (ad 0), .int a] (wR cI cC ad s) (wR cI cC ad s1) := (cgst l dC dI cI cC cL sk sv ad N d).2.2.2.1 a s r s1 h

theorem cgst_4 (l : Launch) (dC : Nat → ClassId) (dI : Nat → Nat → Nat) (cI cC cL : ClassId) (sk sv ad : Nat → Nat) (N : Nat) (d : Nat) (a : Int32) (s s1 : jS) (r : Int32) (h : gst N d 4 a s = some (r, s1)) : Cv l yR_whileStatement (Cond.code yR_whileStatement prog_4_method_16_code 3 none :: TB) ({ frames := 35 + d, cells := 0, slots := 0, locals := 1351 + d * 40 }) (dC, dI) vwCl [(cI, .int), (cC, .char), (cL, .object "SharedSyntax$Letters")] (jEn sk sv) [.ref (ad 0), .int a] (wR cI cC ad s) (wR cI cC ad s1) := (cgst l dC dI cI cC cL sk sv ad N d).2.2.2.2.1 a s r s1 h

theorem cgst_5 (l : Launch) (dC : Nat → ClassId) (dI : Nat → Nat → Nat) (cI cC cL : ClassId) (sk sv ad : Nat → Nat) (N : Nat) (d : Nat) (a : Int32) (s s1 : jS) (r : Int32) (h : gst N d 5 a s = some (r, s1)) : Cv l yR_part (Cond.code yR_part prog_4_method_19_code 3 none :: TB) ({ frames := 35 + d, cells := 0, slots := 0, locals := 1351 + d * 40 }) (dC, dI) vwCl [(cI, .int), (cC, .char), (cL, .object "SharedSyntax$Letters")] (jEn sk sv) [.ref (ad 0), .int a] (wR cI cC ad s) (wR cI cC ad s1) := (cgst l dC dI cI cC cL sk sv ad N d).2.2.2.2.2 a s r s1 h

def fT_finish (N : Nat) (z0 : jS) : Option (Int32 × jS) := (if jIn (jgI z0 3) 363 = true then (jL (jsA z0 6 (jgI z0 3).toNatClampNeg (jgI z0 0)) fun s1 => (if jIn (jgI s1 3) 363 = true then (jL (jsA s1 8 (jgI s1 3).toNatClampNeg (jgI s1 4)) fun s2 => some (0, s2)) else none)) else none)
set_option maxHeartbeats 4000000 in
set_option maxRecDepth 100000 in
theorem cT_finish (l : Launch) (dC : Nat → ClassId) (dI : Nat → Nat → Nat) (cI cC cL : ClassId) (sk sv : Nat → Nat) (ad : Nat → Nat) (N : Nat) (z0 z1 : jS) (r : Int32) (hf : fT_finish N z0 = some (r, z1)) : Cv l yT_finish (Cond.code yT_finish prog_6_method_8_code 1 none :: TB) ({ frames := 0, cells := 0, slots := 0, locals := 0 }) (dC, dI) vwCl [(cI, .int), (cC, .char), (cL, .object "SharedSyntax$Letters")] (jEn sk sv) [.ref (ad 1)] (wR cI cC ad z0) (wR cI cC ad z1) := by
  refine Cv_of (cc := prog_6_method_8_code) (maxL := 1) (ret := none) (by decide) rfl (Nat.le_of_ble_eq_true rfl) ?_
  intro p e s m below meth c ls F hl hK hN hC
  obtain ⟨hx, hb, hml, hown, hts, hr, hlk⟩ := F
  have ht : ∀ w ∈ TB, w.before [.ref (ad 1)].toArray s = true := fun w h => hts w (List.mem_cons_of_mem _ h)
  have hA : ∀ q, s.heap.size ≤ q → va_A (wR cI cC ad z0) s.heap.size q := fun q h => Or.inr h
  have hl : lv_has ls 1 [(0, .ref (ad 1))] := hl
  unfold fT_finish at hf
  refine lv_aload_n hx hb dT_finish_0 rfl (lv_at hl 0 rfl) ?_
  refine va_get (D := (dC, dI)) (ci := 2) (v := .ref (ad 10)) (C := RcT) (T := TcT) (N := 9) hx hb ht in_cT hown hK hC.1 1 (wR_e1 cI cC ad z0) rfl 3 (by decide) (ht _ tw57) (fun _ h9 => h9) rfl dT_finish_1 ?_
  refine lv_aload_n hx hb dT_finish_4 rfl (lv_at hl 0 rfl) ?_
  refine va_get (D := (dC, dI)) (ci := 2) (v := .int (jgI z0 3)) (C := RcT) (T := TcT) (N := 9) hx hb ht in_cT hown hK hC.1 1 (wR_e1 cI cC ad z0) rfl 7 (by decide) (ht _ tw63) (fun _ h9 => h9) rfl dT_finish_5 ?_
  refine lv_aload_n hx hb dT_finish_8 rfl (lv_at hl 0 rfl) ?_
  refine va_get (D := (dC, dI)) (ci := 2) (v := .ref (ad 3)) (C := RcT) (T := TcT) (N := 9) hx hb ht in_cT hown hK hC.1 1 (wR_e1 cI cC ad z0) rfl 0 (by decide) (ht _ tw52) (fun _ h9 => h9) rfl dT_finish_9 ?_
  refine va_getN (D := (dC, dI)) (ci := 0) (v := .int (jgI z0 0)) (C := RcL) (T := TcL) (N := 2) hx hb ht in_cL hown hK hC.1 3 (wR_e3 cI cC ad z0) rfl 1 (by decide) (va_Nw.use rfl (hN.1 _ nw35)) (fun _ h9 => h9) rfl dT_finish_12 ?_
  obtain ⟨hi1, hf⟩ := jC_in hf
  obtain ⟨s1, e1, hf⟩ := jL_s hf
  refine jast_i hx hb hK hC 10 0 (wR_e10 cI cC ad z0) rfl hi1 dT_finish_15 ((wR_a6 cI cC ad z0 _ _).trans (congrArg (wR cI cC ad) e1.symm)) (fun H locs hC => ?_)
  refine lv_aload_n hx hb dT_finish_16 rfl (lv_at hl 0 rfl) ?_
  refine va_get (D := (dC, dI)) (ci := 2) (v := .ref (ad 12)) (C := RcT) (T := TcT) (N := 9) hx hb ht in_cT hown hK hC.1 1 (wR_e1 cI cC ad s1) rfl 5 (by decide) (ht _ tw60) (fun _ h9 => h9) rfl dT_finish_17 ?_
  refine lv_aload_n hx hb dT_finish_20 rfl (lv_at hl 0 rfl) ?_
  refine va_get (D := (dC, dI)) (ci := 2) (v := .int (jgI s1 3)) (C := RcT) (T := TcT) (N := 9) hx hb ht in_cT hown hK hC.1 1 (wR_e1 cI cC ad s1) rfl 7 (by decide) (ht _ tw63) (fun _ h9 => h9) rfl dT_finish_21 ?_
  refine lv_aload_n hx hb dT_finish_24 rfl (lv_at hl 0 rfl) ?_
  refine va_get (D := (dC, dI)) (ci := 2) (v := .int (jgI s1 4)) (C := RcT) (T := TcT) (N := 9) hx hb ht in_cT hown hK hC.1 1 (wR_e1 cI cC ad s1) rfl 8 (by decide) (ht _ tw66) (fun _ h9 => h9) rfl dT_finish_25 ?_
  obtain ⟨hi2, hf⟩ := jC_in hf
  obtain ⟨s2, e2, hf⟩ := jL_s hf
  refine jast_i hx hb hK hC 12 0 (wR_e12 cI cC ad s1) rfl hi2 dT_finish_28 ((wR_a8 cI cC ad s1 _ _).trans (congrArg (wR cI cC ad) e2.symm)) (fun H locs hC => ?_)
  cases hf
  exact jret_v hx hb hr hlk hC hK dT_finish_29

def fR_read (N : Nat) (z0 : jS) : Option (Int32 × jS) := (jB (fT_clear N z0) fun r1 s1 => (jB (fK_cut N s1) fun r2 s2 => (jL (jsI s2 5 (0 : Int32)) fun s3 => (jL (jsI s3 6 (0 : Int32)) fun s4 => (jL (jsI s4 7 (0 : Int32)) fun s5 => (jB (fR_begin N (20 : Int32) s5) fun r6 s6 => (jB (gst N 40 0 (0 : Int32) s6) fun r7 s7 => (jB (fR_take N s7) fun r8 s8 => (jB (fT_close N r6 s8) fun r9 s9 => (jB (fT_finish N s9) fun r10 s10 => some (0, s10)))))))))))
set_option maxHeartbeats 4000000 in
set_option maxRecDepth 100000 in
theorem cR_read (l : Launch) (dC : Nat → ClassId) (dI : Nat → Nat → Nat) (cI cC cL : ClassId) (sk sv : Nat → Nat) (ad : Nat → Nat) (N : Nat) (z0 z1 : jS) (r : Int32) (hf : fR_read N z0 = some (r, z1)) : Cv l yR_read (Cond.code yR_read prog_4_method_2_code 2 none :: TB) ({ frames := 76, cells := 0, slots := 0, locals := 2973 }) (dC, dI) vwCl [(cI, .int), (cC, .char), (cL, .object "SharedSyntax$Letters")] (jEn sk sv) [.ref (ad 0)] (wR cI cC ad z0) (wR cI cC ad z1) := by
  refine Cv_of (cc := prog_4_method_2_code) (maxL := 2) (ret := none) (by decide) rfl (Nat.le_of_ble_eq_true rfl) ?_
  intro p e s m below meth c ls F hl hK hN hC
  obtain ⟨hx, hb, hml, hown, hts, hr, hlk⟩ := F
  have ht : ∀ w ∈ TB, w.before [.ref (ad 0)].toArray s = true := fun w h => hts w (List.mem_cons_of_mem _ h)
  have hA : ∀ q, s.heap.size ≤ q → va_A (wR cI cC ad z0) s.heap.size q := fun q h => Or.inr h
  have hl : lv_has ls 2 [(0, .ref (ad 0))] := hl
  unfold fR_read at hf
  refine lv_aload_n hx hb dR_read_0 rfl (lv_at hl 0 rfl) ?_
  refine va_get (D := (dC, dI)) (ci := 3) (v := .ref (ad 1)) (C := RcR) (T := TcR) (N := 10) hx hb ht in_cR hown hK hC.1 0 (wR_e0 cI cC ad z0) rfl 1 (by decide) (ht _ tw114) (fun _ h9 => h9) rfl dR_read_1 ?_
  obtain ⟨r1, s1, hc1, hf⟩ := jB_some hf
  refine jcall_v (va_runV (C := RcT) (As := []) (rest := []) ⟨hx, hb, hml, hown, hts⟩ ((cT_clear l dC dI cI cC cL sk sv ad N z0 s1 r1 hc1) _) ⟨(callB_of 0 hts (tb_good tw152) rfl rfl rfl (ht _ tw4) (ht _ tw149) (by decide +kernel) ⟨Nat.le_of_ble_eq_true rfl, Nat.le_of_ble_eq_true rfl⟩), ht _ tw150, ht _ tw151⟩ (jpreV (jEn_ok sk sv) hC hA hK hN (wR_e1 cI cC ad z0) rfl rfl _) rfl rfl hl.1 rfl (lv_room (Nat.le_of_ble_eq_true rfl)) dR_read_4 ⟨Nat.le_refl _, Nat.le_refl _⟩) hC hA (fun H locs hC => ?_)
  refine lv_aload_n hx hb dR_read_7 rfl (lv_at hl 0 rfl) ?_
  refine va_get (D := (dC, dI)) (ci := 3) (v := .ref (ad 2)) (C := RcR) (T := TcR) (N := 10) hx hb ht in_cR hown hK hC.1 0 (wR_e0 cI cC ad s1) rfl 2 (by decide) (ht _ tw116) (fun _ h9 => h9) rfl dR_read_8 ?_
  obtain ⟨r2, s2, hc2, hf⟩ := jB_some hf
  refine jcall_v (va_runV (C := RcK) (As := []) (rest := []) ⟨hx, hb, hml, hown, hts⟩ ((cK_cut l dC dI cI cC cL sk sv ad N s1 s2 r2 hc2) _) ⟨(callB_of 0 hts (tb_good tw156) rfl rfl rfl (ht _ tw5) (ht _ tw153) (by decide +kernel) ⟨Nat.le_of_ble_eq_true rfl, Nat.le_of_ble_eq_true rfl⟩), ht _ tw154, ht _ tw155⟩ (jpreV (jEn_ok sk sv) hC hA hK hN (wR_e2 cI cC ad s1) rfl rfl _) rfl rfl hl.1 rfl (lv_room (Nat.le_of_ble_eq_true rfl)) dR_read_11 ⟨Nat.le_refl _, Nat.le_refl _⟩) hC hA (fun H locs hC => ?_)
  refine lv_aload_n hx hb dR_read_14 rfl (lv_at hl 0 rfl) ?_
  refine lv_iconst (v := 0) hx hb dR_read_15 (by decide) ?_
  obtain ⟨s3, e3, hf⟩ := jL_s hf
  refine jput (ci := 3) (C := RcR) (T := TcR) (N := 10) hx hb ht in_cR tycR tycR_ok nmcR hown hK hC 0 (wR_e0 cI cC ad s2) rfl 3 (by decide) (ht _ tw117) (fun _ h9 => h9) rfl rfl (Nat.le_of_ble_eq_true rfl) dR_read_16 ((wR_p5 cI cC ad s2 _).trans (congrArg (wR cI cC ad) e3.symm)) (fun H locs hC => ?_)
  refine lv_aload_n hx hb dR_read_19 rfl (lv_at hl 0 rfl) ?_
  refine lv_iconst (v := 0) hx hb dR_read_20 (by decide) ?_
  obtain ⟨s4, e4, hf⟩ := jL_s hf
  refine jput (ci := 3) (C := RcR) (T := TcR) (N := 10) hx hb ht in_cR tycR tycR_ok nmcR hown hK hC 0 (wR_e0 cI cC ad s3) rfl 6 (by decide) (ht _ tw120) (fun _ h9 => h9) rfl rfl (Nat.le_of_ble_eq_true rfl) dR_read_21 ((wR_p6 cI cC ad s3 _).trans (congrArg (wR cI cC ad) e4.symm)) (fun H locs hC => ?_)
  refine lv_aload_n hx hb dR_read_24 rfl (lv_at hl 0 rfl) ?_
  refine lv_iconst (v := 0) hx hb dR_read_25 (by decide) ?_
  obtain ⟨s5, e5, hf⟩ := jL_s hf
  refine jput (ci := 3) (C := RcR) (T := TcR) (N := 10) hx hb ht in_cR tycR tycR_ok nmcR hown hK hC 0 (wR_e0 cI cC ad s4) rfl 9 (by decide) (ht _ tw123) (fun _ h9 => h9) rfl rfl (Nat.le_of_ble_eq_true rfl) dR_read_26 ((wR_p7 cI cC ad s4 _).trans (congrArg (wR cI cC ad) e5.symm)) (fun H locs hC => ?_)
  refine lv_aload_n hx hb dR_read_29 rfl (lv_at hl 0 rfl) ?_
  refine lv_bipush (v := 20) hx hb dR_read_30 (by decide) ?_
  obtain ⟨r6, s6, hc6, hf⟩ := jB_some hf
  refine jcall_i (va_runV (C := RcR) (As := [.int (20 : Int32)]) (rest := []) ⟨hx, hb, hml, hown, hts⟩ ((cR_begin l dC dI cI cC cL sk sv ad N (20 : Int32) s5 s6 r6 hc6) _) ⟨(callB_of 1 hts (tb_good tw304) rfl rfl rfl (ht _ tw2) (ht _ tw301) (by decide +kernel) ⟨Nat.le_of_ble_eq_true rfl, Nat.le_of_ble_eq_true rfl⟩), ht _ tw303, ht _ (tb_sel pv_R_begin)⟩ (jpreV (jEn_ok sk sv) hC hA hK hN (wR_e0 cI cC ad s5) rfl rfl _) rfl rfl hl.1 rfl (lv_room (Nat.le_of_ble_eq_true rfl)) dR_read_32 ⟨Nat.le_refl _, Nat.le_refl _⟩) hC hA (fun H locs hC => ?_)
  refine lv_istore_n (lv' := [(1, .int r6), (0, .ref (ad 0))]) hx hb dR_read_35 rfl hl (by decide) rfl (fun ls hl => ?_)
  refine lv_aload_n hx hb dR_read_36 rfl (lv_at hl 1 rfl) ?_
  refine lv_iconst (v := 0) hx hb dR_read_37 (by decide) ?_
  obtain ⟨r7, s7, hc7, hf⟩ := jB_some hf
  refine jcall_v (va_runV (C := RcR) (As := [.int (0 : Int32)]) (rest := []) ⟨hx, hb, hml, hown, hts⟩ ((cgst_0 l dC dI cI cC cL sk sv ad N 40 (0 : Int32) s6 s7 r7 hc7) _) ⟨(callB_of 1 hts (tb_good tw312) rfl rfl rfl (ht _ tw2) (ht _ tw309) (by decide +kernel) ⟨Nat.le_of_ble_eq_true rfl, Nat.le_of_ble_eq_true rfl⟩), ht _ tw311, ht _ (tb_sel pv_R_list)⟩ (jpreV (jEn_ok sk sv) hC hA hK hN (wR_e0 cI cC ad s6) rfl rfl _) rfl rfl hl.1 rfl (lv_room (Nat.le_of_ble_eq_true rfl)) dR_read_38 ⟨Nat.le_refl _, Nat.le_refl _⟩) hC hA (fun H locs hC => ?_)
  refine lv_aload_n hx hb dR_read_41 rfl (lv_at hl 1 rfl) ?_
  obtain ⟨r8, s8, hc8, hf⟩ := jB_some hf
  refine jcall_v (va_runV (C := RcR) (As := []) (rest := []) ⟨hx, hb, hml, hown, hts⟩ ((cR_take l dC dI cI cC cL sk sv ad N s7 s8 r8 hc8) _) ⟨(callB_of 0 hts (tb_good tw339) rfl rfl rfl (ht _ tw2) (ht _ tw336) (by decide +kernel) ⟨Nat.le_of_ble_eq_true rfl, Nat.le_of_ble_eq_true rfl⟩), ht _ tw338, ht _ (tb_sel pv_R_take)⟩ (jpreV (jEn_ok sk sv) hC hA hK hN (wR_e0 cI cC ad s7) rfl rfl _) rfl rfl hl.1 rfl (lv_room (Nat.le_of_ble_eq_true rfl)) dR_read_42 ⟨Nat.le_refl _, Nat.le_refl _⟩) hC hA (fun H locs hC => ?_)
  refine lv_aload_n hx hb dR_read_45 rfl (lv_at hl 1 rfl) ?_
  refine va_get (D := (dC, dI)) (ci := 3) (v := .ref (ad 1)) (C := RcR) (T := TcR) (N := 10) hx hb ht in_cR hown hK hC.1 0 (wR_e0 cI cC ad s8) rfl 1 (by decide) (ht _ tw114) (fun _ h9 => h9) rfl dR_read_46 ?_
  refine lv_iload_n hx hb dR_read_49 rfl (lv_at hl 0 rfl) ?_
  obtain ⟨r9, s9, hc9, hf⟩ := jB_some hf
  refine jcall_v (va_runV (C := RcT) (As := [.int r6]) (rest := []) ⟨hx, hb, hml, hown, hts⟩ ((cT_close l dC dI cI cC cL sk sv ad N r6 s8 s9 r9 hc9) _) ⟨(callB_of 1 hts (tb_good tw359) rfl rfl rfl (ht _ tw4) (ht _ tw356) (by decide +kernel) ⟨Nat.le_of_ble_eq_true rfl, Nat.le_of_ble_eq_true rfl⟩), ht _ tw357, ht _ tw358⟩ (jpreV (jEn_ok sk sv) hC hA hK hN (wR_e1 cI cC ad s8) rfl rfl _) rfl rfl hl.1 rfl (lv_room (Nat.le_of_ble_eq_true rfl)) dR_read_50 ⟨Nat.le_refl _, Nat.le_refl _⟩) hC hA (fun H locs hC => ?_)
  refine lv_aload_n hx hb dR_read_53 rfl (lv_at hl 1 rfl) ?_
  refine va_get (D := (dC, dI)) (ci := 3) (v := .ref (ad 1)) (C := RcR) (T := TcR) (N := 10) hx hb ht in_cR hown hK hC.1 0 (wR_e0 cI cC ad s9) rfl 1 (by decide) (ht _ tw114) (fun _ h9 => h9) rfl dR_read_54 ?_
  obtain ⟨r10, s10, hc10, hf⟩ := jB_some hf
  refine jcall_v (va_runV (C := RcT) (As := []) (rest := []) ⟨hx, hb, hml, hown, hts⟩ ((cT_finish l dC dI cI cC cL sk sv ad N s9 s10 r10 hc10) _) ⟨(callB_of 0 hts (tb_good tw441) rfl rfl rfl (ht _ tw4) (ht _ tw438) (by decide +kernel) ⟨Nat.le_of_ble_eq_true rfl, Nat.le_of_ble_eq_true rfl⟩), ht _ tw439, ht _ tw440⟩ (jpreV (jEn_ok sk sv) hC hA hK hN (wR_e1 cI cC ad s9) rfl rfl _) rfl rfl hl.1 rfl (lv_room (Nat.le_of_ble_eq_true rfl)) dR_read_57 ⟨Nat.le_refl _, Nat.le_refl _⟩) hC hA (fun H locs hC => ?_)
  cases hf
  exact jret_v hx hb hr hlk hC hK dR_read_60

def fT_isLeaf (N : Nat) (a0 : Int32) (z0 : jS) : Option (Int32 × jS) := (if jIn a0 363 = true then (if (20 : Int32) ≤ jgA z0 4 (a0).toNatClampNeg then some ((0 : Int32), z0) else some ((1 : Int32), z0)) else none)
set_option maxHeartbeats 4000000 in
set_option maxRecDepth 100000 in
theorem cT_isLeaf (l : Launch) (dC : Nat → ClassId) (dI : Nat → Nat → Nat) (cI cC cL : ClassId) (sk sv : Nat → Nat) (ad : Nat → Nat) (N : Nat) (a0 : Int32) (z0 z1 : jS) (r : Int32) (hf : fT_isLeaf N a0 z0 = some (r, z1)) : Ci l yT_isLeaf (Cond.code yT_isLeaf prog_6_method_10_code 2 (some .boolean) :: TB) ({ frames := 0, cells := 0, slots := 0, locals := 0 }) (dC, dI) vwCl [(cI, .int), (cC, .char), (cL, .object "SharedSyntax$Letters")] (jEn sk sv) [.ref (ad 1), .int a0] (wR cI cC ad z0) (wR cI cC ad z1) r := by
  refine Ci_of (cc := prog_6_method_10_code) (maxL := 2) (ret := (some .boolean)) (by decide) rfl (Nat.le_of_ble_eq_true rfl) ?_
  intro p e s m below meth c ls F hl hK hN hC
  obtain ⟨hx, hb, hml, hown, hts, hr, hlk⟩ := F
  have ht : ∀ w ∈ TB, w.before [.ref (ad 1), .int a0].toArray s = true := fun w h => hts w (List.mem_cons_of_mem _ h)
  have hA : ∀ q, s.heap.size ≤ q → va_A (wR cI cC ad z0) s.heap.size q := fun q h => Or.inr h
  have hl : lv_has ls 2 [(0, .ref (ad 1)), (1, .int a0)] := hl
  unfold fT_isLeaf at hf
  refine lv_aload_n hx hb dT_isLeaf_0 rfl (lv_at hl 0 rfl) ?_
  refine va_get (D := (dC, dI)) (ci := 2) (v := .ref (ad 8)) (C := RcT) (T := TcT) (N := 9) hx hb ht in_cT hown hK hC.1 1 (wR_e1 cI cC ad z0) rfl 1 (by decide) (ht _ tw53) (fun _ h9 => h9) rfl dT_isLeaf_1 ?_
  refine lv_iload_n hx hb dT_isLeaf_4 rfl (lv_at hl 1 rfl) ?_
  obtain ⟨hi1, hf⟩ := jC_in hf
  refine va_iald hx hb hK hC.1 8 0 (wR_e8 cI cC ad z0) rfl hi1 dT_isLeaf_5 ?_
  refine lv_bipush (v := 20) hx hb dT_isLeaf_6 (by decide) ?_
  refine lv_icmp_ge (tgt := 15) hx hb dT_isLeaf_8 (by decide) (fun c2 => ?_) (fun c2 => ?_)
  · replace hf := jif_t c2 hf
    refine lv_iconst (v := 0) hx hb dT_isLeaf_15 (by decide) ?_
    cases hf
    exact jret_z hx hb hr (by decide +kernel) hlk hC hK dT_isLeaf_16
  · replace hf := jif_f c2 hf
    refine lv_iconst (v := 1) hx hb dT_isLeaf_11 (by decide) ?_
    refine lv_goto (tgt := 16) hx hb dT_isLeaf_12 (by decide) ?_
    cases hf
    exact jret_z hx hb hr (by decide +kernel) hlk hC hK dT_isLeaf_16

def fT_isStatement (N : Nat) (a0 : Int32) (z0 : jS) : Option (Int32 × jS) := (if jIn a0 363 = true then (if jgA z0 4 (a0).toNatClampNeg < (21 : Int32) then some ((0 : Int32), z0) else (if jIn a0 363 = true then (if (25 : Int32) < jgA z0 4 (a0).toNatClampNeg then some ((0 : Int32), z0) else some ((1 : Int32), z0)) else none)) else none)
set_option maxHeartbeats 4000000 in
set_option maxRecDepth 100000 in
theorem cT_isStatement (l : Launch) (dC : Nat → ClassId) (dI : Nat → Nat → Nat) (cI cC cL : ClassId) (sk sv : Nat → Nat) (ad : Nat → Nat) (N : Nat) (a0 : Int32) (z0 z1 : jS) (r : Int32) (hf : fT_isStatement N a0 z0 = some (r, z1)) : Ci l yT_isStatement (Cond.code yT_isStatement prog_6_method_11_code 2 (some .boolean) :: TB) ({ frames := 0, cells := 0, slots := 0, locals := 0 }) (dC, dI) vwCl [(cI, .int), (cC, .char), (cL, .object "SharedSyntax$Letters")] (jEn sk sv) [.ref (ad 1), .int a0] (wR cI cC ad z0) (wR cI cC ad z1) r := by
  refine Ci_of (cc := prog_6_method_11_code) (maxL := 2) (ret := (some .boolean)) (by decide) rfl (Nat.le_of_ble_eq_true rfl) ?_
  intro p e s m below meth c ls F hl hK hN hC
  obtain ⟨hx, hb, hml, hown, hts, hr, hlk⟩ := F
  have ht : ∀ w ∈ TB, w.before [.ref (ad 1), .int a0].toArray s = true := fun w h => hts w (List.mem_cons_of_mem _ h)
  have hA : ∀ q, s.heap.size ≤ q → va_A (wR cI cC ad z0) s.heap.size q := fun q h => Or.inr h
  have hl : lv_has ls 2 [(0, .ref (ad 1)), (1, .int a0)] := hl
  unfold fT_isStatement at hf
  refine lv_aload_n hx hb dT_isStatement_0 rfl (lv_at hl 0 rfl) ?_
  refine va_get (D := (dC, dI)) (ci := 2) (v := .ref (ad 8)) (C := RcT) (T := TcT) (N := 9) hx hb ht in_cT hown hK hC.1 1 (wR_e1 cI cC ad z0) rfl 1 (by decide) (ht _ tw53) (fun _ h9 => h9) rfl dT_isStatement_1 ?_
  refine lv_iload_n hx hb dT_isStatement_4 rfl (lv_at hl 1 rfl) ?_
  obtain ⟨hi1, hf⟩ := jC_in hf
  refine va_iald hx hb hK hC.1 8 0 (wR_e8 cI cC ad z0) rfl hi1 dT_isStatement_5 ?_
  refine lv_bipush (v := 21) hx hb dT_isStatement_6 (by decide) ?_
  refine lv_icmp_lt (tgt := 26) hx hb dT_isStatement_8 (by decide) (fun c2 => ?_) (fun c2 => ?_)
  · replace hf := jif_t c2 hf
    refine lv_iconst (v := 0) hx hb dT_isStatement_26 (by decide) ?_
    cases hf
    exact jret_z hx hb hr (by decide +kernel) hlk hC hK dT_isStatement_27
  · replace hf := jif_f c2 hf
    refine lv_aload_n hx hb dT_isStatement_11 rfl (lv_at hl 0 rfl) ?_
    refine va_get (D := (dC, dI)) (ci := 2) (v := .ref (ad 8)) (C := RcT) (T := TcT) (N := 9) hx hb ht in_cT hown hK hC.1 1 (wR_e1 cI cC ad z0) rfl 1 (by decide) (ht _ tw53) (fun _ h9 => h9) rfl dT_isStatement_12 ?_
    refine lv_iload_n hx hb dT_isStatement_15 rfl (lv_at hl 1 rfl) ?_
    obtain ⟨hi3, hf⟩ := jC_in hf
    refine va_iald hx hb hK hC.1 8 0 (wR_e8 cI cC ad z0) rfl hi3 dT_isStatement_16 ?_
    refine lv_bipush (v := 25) hx hb dT_isStatement_17 (by decide) ?_
    refine lv_icmp_gt (tgt := 26) hx hb dT_isStatement_19 (by decide) (fun c4 => ?_) (fun c4 => ?_)
    · replace hf := jif_t c4 hf
      refine lv_iconst (v := 0) hx hb dT_isStatement_26 (by decide) ?_
      cases hf
      exact jret_z hx hb hr (by decide +kernel) hlk hC hK dT_isStatement_27
    · replace hf := jif_f c4 hf
      refine lv_iconst (v := 1) hx hb dT_isStatement_22 (by decide) ?_
      refine lv_goto (tgt := 27) hx hb dT_isStatement_23 (by decide) ?_
      cases hf
      exact jret_z hx hb hr (by decide +kernel) hlk hC hK dT_isStatement_27

def fT_stretchOf (N : Nat) (a0 : Int32) (z0 : jS) : Option (Int32 × jS) := (if jIn a0 363 = true then (if jIn (a0 + jgA z0 5 (a0).toNatClampNeg) 363 = true then (if jIn a0 363 = true then some ((jgA z0 6 ((a0 + jgA z0 5 (a0).toNatClampNeg)).toNatClampNeg - jgA z0 6 (a0).toNatClampNeg), z0) else none) else none) else none)
set_option maxHeartbeats 4000000 in
set_option maxRecDepth 100000 in
theorem cT_stretchOf (l : Launch) (dC : Nat → ClassId) (dI : Nat → Nat → Nat) (cI cC cL : ClassId) (sk sv : Nat → Nat) (ad : Nat → Nat) (N : Nat) (a0 : Int32) (z0 z1 : jS) (r : Int32) (hf : fT_stretchOf N a0 z0 = some (r, z1)) : Ci l yT_stretchOf (Cond.code yT_stretchOf prog_6_method_13_code 2 (some .int) :: TB) ({ frames := 0, cells := 0, slots := 0, locals := 0 }) (dC, dI) vwCl [(cI, .int), (cC, .char), (cL, .object "SharedSyntax$Letters")] (jEn sk sv) [.ref (ad 1), .int a0] (wR cI cC ad z0) (wR cI cC ad z1) r := by
  refine Ci_of (cc := prog_6_method_13_code) (maxL := 2) (ret := (some .int)) (by decide) rfl (Nat.le_of_ble_eq_true rfl) ?_
  intro p e s m below meth c ls F hl hK hN hC
  obtain ⟨hx, hb, hml, hown, hts, hr, hlk⟩ := F
  have ht : ∀ w ∈ TB, w.before [.ref (ad 1), .int a0].toArray s = true := fun w h => hts w (List.mem_cons_of_mem _ h)
  have hA : ∀ q, s.heap.size ≤ q → va_A (wR cI cC ad z0) s.heap.size q := fun q h => Or.inr h
  have hl : lv_has ls 2 [(0, .ref (ad 1)), (1, .int a0)] := hl
  unfold fT_stretchOf at hf
  refine lv_aload_n hx hb dT_stretchOf_0 rfl (lv_at hl 0 rfl) ?_
  refine va_get (D := (dC, dI)) (ci := 2) (v := .ref (ad 10)) (C := RcT) (T := TcT) (N := 9) hx hb ht in_cT hown hK hC.1 1 (wR_e1 cI cC ad z0) rfl 3 (by decide) (ht _ tw57) (fun _ h9 => h9) rfl dT_stretchOf_1 ?_
  refine lv_iload_n hx hb dT_stretchOf_4 rfl (lv_at hl 1 rfl) ?_
  refine lv_aload_n hx hb dT_stretchOf_5 rfl (lv_at hl 0 rfl) ?_
  refine va_get (D := (dC, dI)) (ci := 2) (v := .ref (ad 9)) (C := RcT) (T := TcT) (N := 9) hx hb ht in_cT hown hK hC.1 1 (wR_e1 cI cC ad z0) rfl 2 (by decide) (ht _ tw55) (fun _ h9 => h9) rfl dT_stretchOf_6 ?_
  refine lv_iload_n hx hb dT_stretchOf_9 rfl (lv_at hl 1 rfl) ?_
  obtain ⟨hi1, hf⟩ := jC_in hf
  refine va_iald hx hb hK hC.1 9 0 (wR_e9 cI cC ad z0) rfl hi1 dT_stretchOf_10 ?_
  refine lv_iadd hx hb dT_stretchOf_11 ?_
  obtain ⟨hi2, hf⟩ := jC_in hf
  refine va_iald hx hb hK hC.1 10 0 (wR_e10 cI cC ad z0) rfl hi2 dT_stretchOf_12 ?_
  refine lv_aload_n hx hb dT_stretchOf_13 rfl (lv_at hl 0 rfl) ?_
  refine va_get (D := (dC, dI)) (ci := 2) (v := .ref (ad 10)) (C := RcT) (T := TcT) (N := 9) hx hb ht in_cT hown hK hC.1 1 (wR_e1 cI cC ad z0) rfl 3 (by decide) (ht _ tw57) (fun _ h9 => h9) rfl dT_stretchOf_14 ?_
  refine lv_iload_n hx hb dT_stretchOf_17 rfl (lv_at hl 1 rfl) ?_
  obtain ⟨hi3, hf⟩ := jC_in hf
  refine va_iald hx hb hK hC.1 10 0 (wR_e10 cI cC ad z0) rfl hi3 dT_stretchOf_18 ?_
  refine lv_isub hx hb dT_stretchOf_19 ?_
  cases hf
  exact jret_i hx hb hr hlk hC hK dT_stretchOf_20

def fT_isMissing (N : Nat) (a0 : Int32) (z0 : jS) : Option (Int32 × jS) := (jB (fT_isLeaf N a0 z0) fun r1 s1 => (if r1 = 0 then some ((0 : Int32), s1) else (if jIn a0 363 = true then (if jgA s1 4 (a0).toNatClampNeg = (17 : Int32) then some ((0 : Int32), s1) else (jB (fT_stretchOf N a0 s1) fun r5 s5 => (if r5 = 0 then some ((1 : Int32), s5) else some ((0 : Int32), s5)))) else none)))
set_option maxHeartbeats 4000000 in
set_option maxRecDepth 100000 in
theorem cT_isMissing (l : Launch) (dC : Nat → ClassId) (dI : Nat → Nat → Nat) (cI cC cL : ClassId) (sk sv : Nat → Nat) (ad : Nat → Nat) (N : Nat) (a0 : Int32) (z0 z1 : jS) (r : Int32) (hf : fT_isMissing N a0 z0 = some (r, z1)) : Ci l yT_isMissing (Cond.code yT_isMissing prog_6_method_12_code 2 (some .boolean) :: TB) ({ frames := 1, cells := 0, slots := 0, locals := 21 }) (dC, dI) vwCl [(cI, .int), (cC, .char), (cL, .object "SharedSyntax$Letters")] (jEn sk sv) [.ref (ad 1), .int a0] (wR cI cC ad z0) (wR cI cC ad z1) r := by
  refine Ci_of (cc := prog_6_method_12_code) (maxL := 2) (ret := (some .boolean)) (by decide) rfl (Nat.le_of_ble_eq_true rfl) ?_
  intro p e s m below meth c ls F hl hK hN hC
  obtain ⟨hx, hb, hml, hown, hts, hr, hlk⟩ := F
  have ht : ∀ w ∈ TB, w.before [.ref (ad 1), .int a0].toArray s = true := fun w h => hts w (List.mem_cons_of_mem _ h)
  have hA : ∀ q, s.heap.size ≤ q → va_A (wR cI cC ad z0) s.heap.size q := fun q h => Or.inr h
  have hl : lv_has ls 2 [(0, .ref (ad 1)), (1, .int a0)] := hl
  unfold fT_isMissing at hf
  refine lv_aload_n hx hb dT_isMissing_0 rfl (lv_at hl 0 rfl) ?_
  refine lv_iload_n hx hb dT_isMissing_1 rfl (lv_at hl 1 rfl) ?_
  obtain ⟨r1, s1, hc1, hf⟩ := jB_some hf
  refine jcall_i (va_runV (C := RcT) (As := [.int a0]) (rest := []) ⟨hx, hb, hml, hown, hts⟩ ((cT_isLeaf l dC dI cI cC cL sk sv ad N a0 z0 s1 r1 hc1) _) ⟨(callB_of 1 hts (tb_good tw593) rfl rfl rfl (ht _ tw4) (ht _ tw590) (by decide +kernel) ⟨Nat.le_of_ble_eq_true rfl, Nat.le_of_ble_eq_true rfl⟩), ht _ tw591, ht _ tw592⟩ (jpreV (jEn_ok sk sv) hC hA hK hN (wR_e1 cI cC ad z0) rfl rfl _) rfl rfl hl.1 rfl (lv_room (Nat.le_of_ble_eq_true rfl)) dT_isMissing_2 ⟨Nat.le_refl _, Nat.le_refl _⟩) hC hA (fun H locs hC => ?_)
  refine lv_if_eq (tgt := 31) hx hb dT_isMissing_5 (by decide) (fun c2 => ?_) (fun c2 => ?_)
  · replace hf := jif_t c2 hf
    refine lv_iconst (v := 0) hx hb dT_isMissing_31 (by decide) ?_
    cases hf
    exact jret_z hx hb hr (by decide +kernel) hlk hC hK dT_isMissing_32
  · replace hf := jif_f c2 hf
    refine lv_aload_n hx hb dT_isMissing_8 rfl (lv_at hl 0 rfl) ?_
    refine va_get (D := (dC, dI)) (ci := 2) (v := .ref (ad 8)) (C := RcT) (T := TcT) (N := 9) hx hb ht in_cT hown hK hC.1 1 (wR_e1 cI cC ad s1) rfl 1 (by decide) (ht _ tw53) (fun _ h9 => h9) rfl dT_isMissing_9 ?_
    refine lv_iload_n hx hb dT_isMissing_12 rfl (lv_at hl 1 rfl) ?_
    obtain ⟨hi3, hf⟩ := jC_in hf
    refine va_iald hx hb hK hC.1 8 0 (wR_e8 cI cC ad s1) rfl hi3 dT_isMissing_13 ?_
    refine lv_bipush (v := 17) hx hb dT_isMissing_14 (by decide) ?_
    refine lv_icmp_eq (tgt := 31) hx hb dT_isMissing_16 (by decide) (fun c4 => ?_) (fun c4 => ?_)
    · replace hf := jif_t c4 hf
      refine lv_iconst (v := 0) hx hb dT_isMissing_31 (by decide) ?_
      cases hf
      exact jret_z hx hb hr (by decide +kernel) hlk hC hK dT_isMissing_32
    · replace hf := jif_f c4 hf
      refine lv_aload_n hx hb dT_isMissing_19 rfl (lv_at hl 0 rfl) ?_
      refine lv_iload_n hx hb dT_isMissing_20 rfl (lv_at hl 1 rfl) ?_
      obtain ⟨r5, s5, hc5, hf⟩ := jB_some hf
      refine jcall_i (va_runV (C := RcT) (As := [.int a0]) (rest := []) ⟨hx, hb, hml, hown, hts⟩ ((cT_stretchOf l dC dI cI cC cL sk sv ad N a0 s1 s5 r5 hc5) _) ⟨(callB_of 1 hts (tb_good tw540) rfl rfl rfl (ht _ tw4) (ht _ tw549) (by decide +kernel) ⟨Nat.le_of_ble_eq_true rfl, Nat.le_of_ble_eq_true rfl⟩), ht _ tw538, ht _ tw539⟩ (jpreV (jEn_ok sk sv) hC hA hK hN (wR_e1 cI cC ad s1) rfl rfl _) rfl rfl hl.1 rfl (lv_room (Nat.le_of_ble_eq_true rfl)) dT_isMissing_21 ⟨Nat.le_refl _, Nat.le_refl _⟩) hC hA (fun H locs hC => ?_)
      refine lv_if_ne (tgt := 31) hx hb dT_isMissing_24 (by decide) (fun c6 => ?_) (fun c6 => ?_)
      · replace hf := jif_f c6 hf
        refine lv_iconst (v := 0) hx hb dT_isMissing_31 (by decide) ?_
        cases hf
        exact jret_z hx hb hr (by decide +kernel) hlk hC hK dT_isMissing_32
      · replace hf := jif_t c6 hf
        refine lv_iconst (v := 1) hx hb dT_isMissing_27 (by decide) ?_
        refine lv_goto (tgt := 32) hx hb dT_isMissing_28 (by decide) ?_
        cases hf
        exact jret_z hx hb hr (by decide +kernel) hlk hC hK dT_isMissing_32

def fT_faultsIn (N : Nat) (a0 : Int32) (z0 : jS) : Option (Int32 × jS) := (if jIn a0 363 = true then (if jIn (a0 + jgA z0 5 (a0).toNatClampNeg) 363 = true then (if jIn a0 363 = true then some ((jgA z0 8 ((a0 + jgA z0 5 (a0).toNatClampNeg)).toNatClampNeg - jgA z0 8 (a0).toNatClampNeg), z0) else none) else none) else none)
set_option maxHeartbeats 4000000 in
set_option maxRecDepth 100000 in
theorem cT_faultsIn (l : Launch) (dC : Nat → ClassId) (dI : Nat → Nat → Nat) (cI cC cL : ClassId) (sk sv : Nat → Nat) (ad : Nat → Nat) (N : Nat) (a0 : Int32) (z0 z1 : jS) (r : Int32) (hf : fT_faultsIn N a0 z0 = some (r, z1)) : Ci l yT_faultsIn (Cond.code yT_faultsIn prog_6_method_14_code 2 (some .int) :: TB) ({ frames := 0, cells := 0, slots := 0, locals := 0 }) (dC, dI) vwCl [(cI, .int), (cC, .char), (cL, .object "SharedSyntax$Letters")] (jEn sk sv) [.ref (ad 1), .int a0] (wR cI cC ad z0) (wR cI cC ad z1) r := by
  refine Ci_of (cc := prog_6_method_14_code) (maxL := 2) (ret := (some .int)) (by decide) rfl (Nat.le_of_ble_eq_true rfl) ?_
  intro p e s m below meth c ls F hl hK hN hC
  obtain ⟨hx, hb, hml, hown, hts, hr, hlk⟩ := F
  have ht : ∀ w ∈ TB, w.before [.ref (ad 1), .int a0].toArray s = true := fun w h => hts w (List.mem_cons_of_mem _ h)
  have hA : ∀ q, s.heap.size ≤ q → va_A (wR cI cC ad z0) s.heap.size q := fun q h => Or.inr h
  have hl : lv_has ls 2 [(0, .ref (ad 1)), (1, .int a0)] := hl
  unfold fT_faultsIn at hf
  refine lv_aload_n hx hb dT_faultsIn_0 rfl (lv_at hl 0 rfl) ?_
  refine va_get (D := (dC, dI)) (ci := 2) (v := .ref (ad 12)) (C := RcT) (T := TcT) (N := 9) hx hb ht in_cT hown hK hC.1 1 (wR_e1 cI cC ad z0) rfl 5 (by decide) (ht _ tw60) (fun _ h9 => h9) rfl dT_faultsIn_1 ?_
  refine lv_iload_n hx hb dT_faultsIn_4 rfl (lv_at hl 1 rfl) ?_
  refine lv_aload_n hx hb dT_faultsIn_5 rfl (lv_at hl 0 rfl) ?_
  refine va_get (D := (dC, dI)) (ci := 2) (v := .ref (ad 9)) (C := RcT) (T := TcT) (N := 9) hx hb ht in_cT hown hK hC.1 1 (wR_e1 cI cC ad z0) rfl 2 (by decide) (ht _ tw55) (fun _ h9 => h9) rfl dT_faultsIn_6 ?_
  refine lv_iload_n hx hb dT_faultsIn_9 rfl (lv_at hl 1 rfl) ?_
  obtain ⟨hi1, hf⟩ := jC_in hf
  refine va_iald hx hb hK hC.1 9 0 (wR_e9 cI cC ad z0) rfl hi1 dT_faultsIn_10 ?_
  refine lv_iadd hx hb dT_faultsIn_11 ?_
  obtain ⟨hi2, hf⟩ := jC_in hf
  refine va_iald hx hb hK hC.1 12 0 (wR_e12 cI cC ad z0) rfl hi2 dT_faultsIn_12 ?_
  refine lv_aload_n hx hb dT_faultsIn_13 rfl (lv_at hl 0 rfl) ?_
  refine va_get (D := (dC, dI)) (ci := 2) (v := .ref (ad 12)) (C := RcT) (T := TcT) (N := 9) hx hb ht in_cT hown hK hC.1 1 (wR_e1 cI cC ad z0) rfl 5 (by decide) (ht _ tw60) (fun _ h9 => h9) rfl dT_faultsIn_14 ?_
  refine lv_iload_n hx hb dT_faultsIn_17 rfl (lv_at hl 1 rfl) ?_
  obtain ⟨hi3, hf⟩ := jC_in hf
  refine va_iald hx hb hK hC.1 12 0 (wR_e12 cI cC ad z0) rfl hi3 dT_faultsIn_18 ?_
  refine lv_isub hx hb dT_faultsIn_19 ?_
  cases hf
  exact jret_i hx hb hr hlk hC hK dT_faultsIn_20

def fT_ownPlaceOf_b2 (N : Nat) (k2 : Int32 → jS → Option (Int32 × jS)) (x2 : Int32) (s0 : jS) : Option (Int32 × jS) := (if (jgI s0 3 - (1 : Int32)) ≤ x2 then (if jIn x2 363 = true then some (jgA s0 7 (x2).toNatClampNeg, s0) else none) else (jB (fT_isLeaf N x2 s0) fun r203 s203 => (if r203 = 0 then k2 (x2 + (1 : Int32)) s203 else (if jIn x2 363 = true then some (jgA s203 7 (x2).toNatClampNeg, s203) else none))))
def fT_ownPlaceOf_2 (N : Nat) : Nat → Int32 → jS → Option (Int32 × jS)
  | 0 => fun _ _ => none
  | n + 1 => fun x2 s0 => fT_ownPlaceOf_b2 N (fT_ownPlaceOf_2 N n) x2 s0
def fT_ownPlaceOf (N : Nat) (a0 : Int32) (z0 : jS) : Option (Int32 × jS) := fT_ownPlaceOf_2 N N a0 z0
set_option maxHeartbeats 4000000 in
set_option maxRecDepth 100000 in
theorem cT_ownPlaceOf (l : Launch) (dC : Nat → ClassId) (dI : Nat → Nat → Nat) (cI cC cL : ClassId) (sk sv : Nat → Nat) (ad : Nat → Nat) (N : Nat) (a0 : Int32) (z0 z1 : jS) (r : Int32) (hf : fT_ownPlaceOf N a0 z0 = some (r, z1)) : Ci l yT_ownPlaceOf (Cond.code yT_ownPlaceOf prog_6_method_15_code 3 (some .int) :: TB) ({ frames := 1, cells := 0, slots := 0, locals := 21 }) (dC, dI) vwCl [(cI, .int), (cC, .char), (cL, .object "SharedSyntax$Letters")] (jEn sk sv) [.ref (ad 1), .int a0] (wR cI cC ad z0) (wR cI cC ad z1) r := by
  refine Ci_of (cc := prog_6_method_15_code) (maxL := 3) (ret := (some .int)) (by decide) rfl (Nat.le_of_ble_eq_true rfl) ?_
  intro p e s m below meth c ls F hl hK hN hC
  obtain ⟨hx, hb, hml, hown, hts, hr, hlk⟩ := F
  have ht : ∀ w ∈ TB, w.before [.ref (ad 1), .int a0].toArray s = true := fun w h => hts w (List.mem_cons_of_mem _ h)
  have hA : ∀ q, s.heap.size ≤ q → va_A (wR cI cC ad z0) s.heap.size q := fun q h => Or.inr h
  have hl : lv_has ls 3 [(0, .ref (ad 1)), (1, .int a0)] := hl
  have L2 : ∀ (n : Nat) (x2 : Int32) (s0 : jS) (ls : Array Slot) (H : Heap) (locs : List Loc), lv_has ls 3 [(0, .ref (ad 1)), (2, .int x2)] → jcx (dC, dI) vwCl (va_A (wR cI cC ad z0) s.heap.size) s.heap (wR cI cC ad s0) H locs → fT_ownPlaceOf_2 N n x2 s0 = some (r, z1) → W p l e ({ frames := 1, cells := 0, slots := 0, locals := 21 }) s m [.ref (ad 1), .int a0].toArray below meth c H locs 0 0 (MQ below (jQi (dC, dI) vwCl [(cI, .int), (cC, .char), (cL, .object "SharedSyntax$Letters")] (wR cI cC ad z0) (wR cI cC ad z1) s.heap.size r) [.ref (ad 1), .int a0].toArray s 0 0 (va_A (wR cI cC ad z0) s.heap.size)) (F0 m 2 ls []) := by
    intro n
    induction n with
    | zero => exact fun _ _ _ _ _ _ _ hf => nomatch hf
    | succ n ih2 =>
      intro x2 s0 ls H locs hl hC hf
      replace hf : fT_ownPlaceOf_b2 N (fT_ownPlaceOf_2 N n) x2 s0 = some (r, z1) := hf
      generalize fT_ownPlaceOf_2 N n = k2 at ih2 hf
      unfold fT_ownPlaceOf_b2 at hf
      refine lv_iload_n hx hb dT_ownPlaceOf_2 rfl (lv_at hl 1 rfl) ?_
      refine lv_aload_n hx hb dT_ownPlaceOf_3 rfl (lv_at hl 0 rfl) ?_
      refine va_get (D := (dC, dI)) (ci := 2) (v := .int (jgI s0 3)) (C := RcT) (T := TcT) (N := 9) hx hb ht in_cT hown hK hC.1 1 (wR_e1 cI cC ad s0) rfl 7 (by decide) (ht _ tw63) (fun _ h9 => h9) rfl dT_ownPlaceOf_4 ?_
      refine lv_iconst (v := 1) hx hb dT_ownPlaceOf_7 (by decide) ?_
      refine lv_isub hx hb dT_ownPlaceOf_8 ?_
      refine lv_icmp_ge (tgt := 26) hx hb dT_ownPlaceOf_9 (by decide) (fun c201 => ?_) (fun c201 => ?_)
      · replace hf := jif_t c201 hf
        refine lv_aload_n hx hb dT_ownPlaceOf_26 rfl (lv_at hl 0 rfl) ?_
        refine va_get (D := (dC, dI)) (ci := 2) (v := .ref (ad 11)) (C := RcT) (T := TcT) (N := 9) hx hb ht in_cT hown hK hC.1 1 (wR_e1 cI cC ad s0) rfl 4 (by decide) (ht _ tw59) (fun _ h9 => h9) rfl dT_ownPlaceOf_27 ?_
        refine lv_iload_n hx hb dT_ownPlaceOf_30 rfl (lv_at hl 1 rfl) ?_
        obtain ⟨hi202, hf⟩ := jC_in hf
        refine va_iald hx hb hK hC.1 11 0 (wR_e11 cI cC ad s0) rfl hi202 dT_ownPlaceOf_31 ?_
        cases hf
        exact jret_i hx hb hr hlk hC hK dT_ownPlaceOf_32
      · replace hf := jif_f c201 hf
        refine lv_aload_n hx hb dT_ownPlaceOf_12 rfl (lv_at hl 0 rfl) ?_
        refine lv_iload_n hx hb dT_ownPlaceOf_13 rfl (lv_at hl 1 rfl) ?_
        obtain ⟨r203, s203, hc203, hf⟩ := jB_some hf
        refine jcall_i (va_runV (C := RcT) (As := [.int x2]) (rest := []) ⟨hx, hb, hml, hown, hts⟩ ((cT_isLeaf l dC dI cI cC cL sk sv ad N x2 s0 s203 r203 hc203) _) ⟨(callB_of 1 hts (tb_good tw593) rfl rfl rfl (ht _ tw4) (ht _ tw590) (by decide +kernel) ⟨Nat.le_of_ble_eq_true rfl, Nat.le_of_ble_eq_true rfl⟩), ht _ tw591, ht _ tw592⟩ (jpreV (jEn_ok sk sv) hC hA hK hN (wR_e1 cI cC ad s0) rfl rfl _) rfl rfl hl.1 rfl (lv_room (Nat.le_of_ble_eq_true rfl)) dT_ownPlaceOf_14 ⟨Nat.le_refl _, Nat.le_refl _⟩) hC hA (fun H locs hC => ?_)
        refine lv_if_ne (tgt := 26) hx hb dT_ownPlaceOf_17 (by decide) (fun c204 => ?_) (fun c204 => ?_)
        · replace hf := jif_f c204 hf
          refine lv_aload_n hx hb dT_ownPlaceOf_26 rfl (lv_at hl 0 rfl) ?_
          refine va_get (D := (dC, dI)) (ci := 2) (v := .ref (ad 11)) (C := RcT) (T := TcT) (N := 9) hx hb ht in_cT hown hK hC.1 1 (wR_e1 cI cC ad s203) rfl 4 (by decide) (ht _ tw59) (fun _ h9 => h9) rfl dT_ownPlaceOf_27 ?_
          refine lv_iload_n hx hb dT_ownPlaceOf_30 rfl (lv_at hl 1 rfl) ?_
          obtain ⟨hi205, hf⟩ := jC_in hf
          refine va_iald hx hb hK hC.1 11 0 (wR_e11 cI cC ad s203) rfl hi205 dT_ownPlaceOf_31 ?_
          cases hf
          exact jret_i hx hb hr hlk hC hK dT_ownPlaceOf_32
        · replace hf := jif_t c204 hf
          refine lv_iinc (k := 1) (v := (x2 + (1 : Int32))) (lv' := [(2, .int (x2 + (1 : Int32))), (0, .ref (ad 1))]) hx hb dT_ownPlaceOf_20 hl rfl rfl (by decide) rfl (fun ls hl => ?_)
          refine lv_goto (tgt := 2) hx hb dT_ownPlaceOf_23 (by decide) ?_
          exact ih2 (x2 + (1 : Int32)) s203 ls _ _ (lv_sub hl [1, 0] rfl) hC hf
  unfold fT_ownPlaceOf at hf
  refine lv_iload_n hx hb dT_ownPlaceOf_0 rfl (lv_at hl 1 rfl) ?_
  refine lv_istore_n (lv' := [(2, .int a0), (0, .ref (ad 1)), (1, .int a0)]) hx hb dT_ownPlaceOf_1 rfl hl (by decide) rfl (fun ls hl => ?_)
  exact L2 N a0 z0 ls _ _ (lv_sub hl [1, 0] rfl) hC hf

def fT_childrenOf_b16 (N : Nat) (k16 : Int32 → Int32 → Int32 → jS → Option (Int32 × jS)) (x2 x3 x4 : Int32) (s0 : jS) : Option (Int32 × jS) := (if x2 ≤ x3 then some (x4, s0) else (if jgI s0 3 ≤ x4 then some (x4, s0) else (if jIn x3 363 = true then k16 x2 (x3 + jgA s0 5 (x3).toNatClampNeg) (x4 + (1 : Int32)) s0 else none)))
def fT_childrenOf_16 (N : Nat) : Nat → Int32 → Int32 → Int32 → jS → Option (Int32 × jS)
  | 0 => fun _ _ _ _ => none
  | n + 1 => fun x2 x3 x4 s0 => fT_childrenOf_b16 N (fT_childrenOf_16 N n) x2 x3 x4 s0
def fT_childrenOf (N : Nat) (a0 : Int32) (z0 : jS) : Option (Int32 × jS) := (if jIn a0 363 = true then fT_childrenOf_16 N N (a0 + jgA z0 5 (a0).toNatClampNeg) (a0 + (1 : Int32)) (0 : Int32) z0 else none)
set_option maxHeartbeats 4000000 in
set_option maxRecDepth 100000 in
theorem cT_childrenOf (l : Launch) (dC : Nat → ClassId) (dI : Nat → Nat → Nat) (cI cC cL : ClassId) (sk sv : Nat → Nat) (ad : Nat → Nat) (N : Nat) (a0 : Int32) (z0 z1 : jS) (r : Int32) (hf : fT_childrenOf N a0 z0 = some (r, z1)) : Ci l yT_childrenOf (Cond.code yT_childrenOf prog_6_method_16_code 5 (some .int) :: TB) ({ frames := 0, cells := 0, slots := 0, locals := 0 }) (dC, dI) vwCl [(cI, .int), (cC, .char), (cL, .object "SharedSyntax$Letters")] (jEn sk sv) [.ref (ad 1), .int a0] (wR cI cC ad z0) (wR cI cC ad z1) r := by
  refine Ci_of (cc := prog_6_method_16_code) (maxL := 5) (ret := (some .int)) (by decide) rfl (Nat.le_of_ble_eq_true rfl) ?_
  intro p e s m below meth c ls F hl hK hN hC
  obtain ⟨hx, hb, hml, hown, hts, hr, hlk⟩ := F
  have ht : ∀ w ∈ TB, w.before [.ref (ad 1), .int a0].toArray s = true := fun w h => hts w (List.mem_cons_of_mem _ h)
  have hA : ∀ q, s.heap.size ≤ q → va_A (wR cI cC ad z0) s.heap.size q := fun q h => Or.inr h
  have hl : lv_has ls 5 [(0, .ref (ad 1)), (1, .int a0)] := hl
  have L16 : ∀ (n : Nat) (x2 x3 x4 : Int32) (s0 : jS) (ls : Array Slot) (H : Heap) (locs : List Loc), lv_has ls 5 [(0, .ref (ad 1)), (2, .int x2), (3, .int x3), (4, .int x4)] → jcx (dC, dI) vwCl (va_A (wR cI cC ad z0) s.heap.size) s.heap (wR cI cC ad s0) H locs → fT_childrenOf_16 N n x2 x3 x4 s0 = some (r, z1) → W p l e ({ frames := 0, cells := 0, slots := 0, locals := 0 }) s m [.ref (ad 1), .int a0].toArray below meth c H locs 0 0 (MQ below (jQi (dC, dI) vwCl [(cI, .int), (cC, .char), (cL, .object "SharedSyntax$Letters")] (wR cI cC ad z0) (wR cI cC ad z1) s.heap.size r) [.ref (ad 1), .int a0].toArray s 0 0 (va_A (wR cI cC ad z0) s.heap.size)) (F0 m 16 ls []) := by
    intro n
    induction n with
    | zero => exact fun _ _ _ _ _ _ _ _ _ hf => nomatch hf
    | succ n ih16 =>
      intro x2 x3 x4 s0 ls H locs hl hC hf
      replace hf : fT_childrenOf_b16 N (fT_childrenOf_16 N n) x2 x3 x4 s0 = some (r, z1) := hf
      generalize fT_childrenOf_16 N n = k16 at ih16 hf
      unfold fT_childrenOf_b16 at hf
      refine lv_iload_n hx hb dT_childrenOf_16 rfl (lv_at hl 2 rfl) ?_
      refine lv_iload_n hx hb dT_childrenOf_17 rfl (lv_at hl 1 rfl) ?_
      refine lv_icmp_ge (tgt := 45) hx hb dT_childrenOf_18 (by decide) (fun c1601 => ?_) (fun c1601 => ?_)
      · replace hf := jif_t c1601 hf
        refine lv_iload hx hb dT_childrenOf_45 (lv_at hl 3 rfl) ?_
        cases hf
        exact jret_i hx hb hr hlk hC hK dT_childrenOf_47
      · replace hf := jif_f c1601 hf
        refine lv_iload hx hb dT_childrenOf_21 (lv_at hl 3 rfl) ?_
        refine lv_aload_n hx hb dT_childrenOf_23 rfl (lv_at hl 0 rfl) ?_
        refine va_get (D := (dC, dI)) (ci := 2) (v := .int (jgI s0 3)) (C := RcT) (T := TcT) (N := 9) hx hb ht in_cT hown hK hC.1 1 (wR_e1 cI cC ad s0) rfl 7 (by decide) (ht _ tw63) (fun _ h9 => h9) rfl dT_childrenOf_24 ?_
        refine lv_icmp_ge (tgt := 45) hx hb dT_childrenOf_27 (by decide) (fun c1602 => ?_) (fun c1602 => ?_)
        · replace hf := jif_t c1602 hf
          refine lv_iload hx hb dT_childrenOf_45 (lv_at hl 3 rfl) ?_
          cases hf
          exact jret_i hx hb hr hlk hC hK dT_childrenOf_47
        · replace hf := jif_f c1602 hf
          refine lv_iload_n hx hb dT_childrenOf_30 rfl (lv_at hl 2 rfl) ?_
          refine lv_aload_n hx hb dT_childrenOf_31 rfl (lv_at hl 0 rfl) ?_
          refine va_get (D := (dC, dI)) (ci := 2) (v := .ref (ad 9)) (C := RcT) (T := TcT) (N := 9) hx hb ht in_cT hown hK hC.1 1 (wR_e1 cI cC ad s0) rfl 2 (by decide) (ht _ tw55) (fun _ h9 => h9) rfl dT_childrenOf_32 ?_
          refine lv_iload_n hx hb dT_childrenOf_35 rfl (lv_at hl 2 rfl) ?_
          obtain ⟨hi1603, hf⟩ := jC_in hf
          refine va_iald hx hb hK hC.1 9 0 (wR_e9 cI cC ad s0) rfl hi1603 dT_childrenOf_36 ?_
          refine lv_iadd hx hb dT_childrenOf_37 ?_
          refine lv_istore_n (lv' := [(3, .int (x3 + jgA s0 5 (x3).toNatClampNeg)), (0, .ref (ad 1)), (2, .int x2), (4, .int x4)]) hx hb dT_childrenOf_38 rfl hl (by decide) rfl (fun ls hl => ?_)
          refine lv_iinc (k := 3) (v := (x4 + (1 : Int32))) (lv' := [(4, .int (x4 + (1 : Int32))), (3, .int (x3 + jgA s0 5 (x3).toNatClampNeg)), (0, .ref (ad 1)), (2, .int x2)]) hx hb dT_childrenOf_39 hl rfl rfl (by decide) rfl (fun ls hl => ?_)
          refine lv_goto (tgt := 16) hx hb dT_childrenOf_42 (by decide) ?_
          exact ih16 x2 (x3 + jgA s0 5 (x3).toNatClampNeg) (x4 + (1 : Int32)) s0 ls _ _ (lv_sub hl [2, 3, 1, 0] rfl) hC hf
  unfold fT_childrenOf at hf
  refine lv_iload_n hx hb dT_childrenOf_0 rfl (lv_at hl 1 rfl) ?_
  refine lv_aload_n hx hb dT_childrenOf_1 rfl (lv_at hl 0 rfl) ?_
  refine va_get (D := (dC, dI)) (ci := 2) (v := .ref (ad 9)) (C := RcT) (T := TcT) (N := 9) hx hb ht in_cT hown hK hC.1 1 (wR_e1 cI cC ad z0) rfl 2 (by decide) (ht _ tw55) (fun _ h9 => h9) rfl dT_childrenOf_2 ?_
  refine lv_iload_n hx hb dT_childrenOf_5 rfl (lv_at hl 1 rfl) ?_
  obtain ⟨hi1, hf⟩ := jC_in hf
  refine va_iald hx hb hK hC.1 9 0 (wR_e9 cI cC ad z0) rfl hi1 dT_childrenOf_6 ?_
  refine lv_iadd hx hb dT_childrenOf_7 ?_
  refine lv_istore_n (lv' := [(2, .int (a0 + jgA z0 5 (a0).toNatClampNeg)), (0, .ref (ad 1)), (1, .int a0)]) hx hb dT_childrenOf_8 rfl hl (by decide) rfl (fun ls hl => ?_)
  refine lv_iload_n hx hb dT_childrenOf_9 rfl (lv_at hl 2 rfl) ?_
  refine lv_iconst (v := 1) hx hb dT_childrenOf_10 (by decide) ?_
  refine lv_iadd hx hb dT_childrenOf_11 ?_
  refine lv_istore_n (lv' := [(3, .int (a0 + (1 : Int32))), (2, .int (a0 + jgA z0 5 (a0).toNatClampNeg)), (0, .ref (ad 1)), (1, .int a0)]) hx hb dT_childrenOf_12 rfl hl (by decide) rfl (fun ls hl => ?_)
  refine lv_iconst (v := 0) hx hb dT_childrenOf_13 (by decide) ?_
  refine lv_istore (lv' := [(4, .int (0 : Int32)), (3, .int (a0 + (1 : Int32))), (2, .int (a0 + jgA z0 5 (a0).toNatClampNeg)), (0, .ref (ad 1)), (1, .int a0)]) hx hb dT_childrenOf_14 hl (by decide) rfl (fun ls hl => ?_)
  exact L16 N (a0 + jgA z0 5 (a0).toNatClampNeg) (a0 + (1 : Int32)) (0 : Int32) z0 ls _ _ (lv_sub hl [3, 2, 1, 0] rfl) hC hf

def fT_childOf_61 (N : Nat) (x3 x4 : Int32) (s0 : jS) : Option (Int32 × jS) := (if x3 ≤ x4 then some ((-1 : Int32), s0) else some (x4, s0))
def fT_childOf_b31 (N : Nat) (k31 : Int32 → Int32 → Int32 → Int32 → jS → Option (Int32 × jS)) (x2 x3 x4 x5 : Int32) (s0 : jS) : Option (Int32 × jS) := (if x2 ≤ x5 then fT_childOf_61 N x3 x4 s0 else (if x3 ≤ x4 then fT_childOf_61 N x3 x4 s0 else (if jIn x4 363 = true then k31 x2 x3 (x4 + jgA s0 5 (x4).toNatClampNeg) (x5 + (1 : Int32)) s0 else none)))
def fT_childOf_31 (N : Nat) : Nat → Int32 → Int32 → Int32 → Int32 → jS → Option (Int32 × jS)
  | 0 => fun _ _ _ _ _ => none
  | n + 1 => fun x2 x3 x4 x5 s0 => fT_childOf_b31 N (fT_childOf_31 N n) x2 x3 x4 x5 s0
def fT_childOf (N : Nat) (a0 a1 : Int32) (z0 : jS) : Option (Int32 × jS) := (if a1 < 0 then some ((-1 : Int32), z0) else (if a1 < jgI z0 3 then (if jIn a0 363 = true then fT_childOf_31 N N a1 (a0 + jgA z0 5 (a0).toNatClampNeg) (a0 + (1 : Int32)) (0 : Int32) z0 else none) else some ((-1 : Int32), z0)))
set_option maxHeartbeats 4000000 in
set_option maxRecDepth 100000 in
theorem cT_childOf (l : Launch) (dC : Nat → ClassId) (dI : Nat → Nat → Nat) (cI cC cL : ClassId) (sk sv : Nat → Nat) (ad : Nat → Nat) (N : Nat) (a0 a1 : Int32) (z0 z1 : jS) (r : Int32) (hf : fT_childOf N a0 a1 z0 = some (r, z1)) : Ci l yT_childOf (Cond.code yT_childOf prog_6_method_17_code 6 (some .int) :: TB) ({ frames := 0, cells := 0, slots := 0, locals := 0 }) (dC, dI) vwCl [(cI, .int), (cC, .char), (cL, .object "SharedSyntax$Letters")] (jEn sk sv) [.ref (ad 1), .int a0, .int a1] (wR cI cC ad z0) (wR cI cC ad z1) r := by
  refine Ci_of (cc := prog_6_method_17_code) (maxL := 6) (ret := (some .int)) (by decide) rfl (Nat.le_of_ble_eq_true rfl) ?_
  intro p e s m below meth c ls F hl hK hN hC
  obtain ⟨hx, hb, hml, hown, hts, hr, hlk⟩ := F
  have ht : ∀ w ∈ TB, w.before [.ref (ad 1), .int a0, .int a1].toArray s = true := fun w h => hts w (List.mem_cons_of_mem _ h)
  have hA : ∀ q, s.heap.size ≤ q → va_A (wR cI cC ad z0) s.heap.size q := fun q h => Or.inr h
  have hl : lv_has ls 6 [(0, .ref (ad 1)), (1, .int a0), (2, .int a1)] := hl
  have L61 : ∀ (x3 x4 : Int32) (s0 : jS) (ls : Array Slot) (H : Heap) (locs : List Loc), lv_has ls 6 [(3, .int x3), (4, .int x4)] → jcx (dC, dI) vwCl (va_A (wR cI cC ad z0) s.heap.size) s.heap (wR cI cC ad s0) H locs → fT_childOf_61 N x3 x4 s0 = some (r, z1) → W p l e ({ frames := 0, cells := 0, slots := 0, locals := 0 }) s m [.ref (ad 1), .int a0, .int a1].toArray below meth c H locs 0 0 (MQ below (jQi (dC, dI) vwCl [(cI, .int), (cC, .char), (cL, .object "SharedSyntax$Letters")] (wR cI cC ad z0) (wR cI cC ad z1) s.heap.size r) [.ref (ad 1), .int a0, .int a1].toArray s 0 0 (va_A (wR cI cC ad z0) s.heap.size)) (F0 m 61 ls []) := by
    intro x3 x4 s0 ls H locs hl hC hf
    unfold fT_childOf_61 at hf
    refine lv_iload hx hb dT_childOf_61 (lv_at hl 1 rfl) ?_
    refine lv_iload_n hx hb dT_childOf_63 rfl (lv_at hl 0 rfl) ?_
    refine lv_icmp_ge (tgt := 72) hx hb dT_childOf_64 (by decide) (fun c6101 => ?_) (fun c6101 => ?_)
    · replace hf := jif_t c6101 hf
      refine lv_iconst (v := -1) hx hb dT_childOf_72 (by decide) ?_
      cases hf
      exact jret_i hx hb hr hlk hC hK dT_childOf_73
    · replace hf := jif_f c6101 hf
      refine lv_iload hx hb dT_childOf_67 (lv_at hl 1 rfl) ?_
      refine lv_goto (tgt := 73) hx hb dT_childOf_69 (by decide) ?_
      cases hf
      exact jret_i hx hb hr hlk hC hK dT_childOf_73
  have L31 : ∀ (n : Nat) (x2 x3 x4 x5 : Int32) (s0 : jS) (ls : Array Slot) (H : Heap) (locs : List Loc), lv_has ls 6 [(0, .ref (ad 1)), (2, .int x2), (3, .int x3), (4, .int x4), (5, .int x5)] → jcx (dC, dI) vwCl (va_A (wR cI cC ad z0) s.heap.size) s.heap (wR cI cC ad s0) H locs → fT_childOf_31 N n x2 x3 x4 x5 s0 = some (r, z1) → W p l e ({ frames := 0, cells := 0, slots := 0, locals := 0 }) s m [.ref (ad 1), .int a0, .int a1].toArray below meth c H locs 0 0 (MQ below (jQi (dC, dI) vwCl [(cI, .int), (cC, .char), (cL, .object "SharedSyntax$Letters")] (wR cI cC ad z0) (wR cI cC ad z1) s.heap.size r) [.ref (ad 1), .int a0, .int a1].toArray s 0 0 (va_A (wR cI cC ad z0) s.heap.size)) (F0 m 31 ls []) := by
    intro n
    induction n with
    | zero => exact fun _ _ _ _ _ _ _ _ _ _ hf => nomatch hf
    | succ n ih31 =>
      intro x2 x3 x4 x5 s0 ls H locs hl hC hf
      replace hf : fT_childOf_b31 N (fT_childOf_31 N n) x2 x3 x4 x5 s0 = some (r, z1) := hf
      generalize fT_childOf_31 N n = k31 at ih31 hf
      unfold fT_childOf_b31 at hf
      refine lv_iload hx hb dT_childOf_31 (lv_at hl 4 rfl) ?_
      refine lv_iload_n hx hb dT_childOf_33 rfl (lv_at hl 1 rfl) ?_
      refine lv_icmp_ge (tgt := 61) hx hb dT_childOf_34 (by decide) (fun c3101 => ?_) (fun c3101 => ?_)
      · replace hf := jif_t c3101 hf
        exact L61 x3 x4 s0 ls _ _ (lv_sub hl [2, 3] rfl) hC hf
      · replace hf := jif_f c3101 hf
        refine lv_iload hx hb dT_childOf_37 (lv_at hl 3 rfl) ?_
        refine lv_iload_n hx hb dT_childOf_39 rfl (lv_at hl 2 rfl) ?_
        refine lv_icmp_ge (tgt := 61) hx hb dT_childOf_40 (by decide) (fun c3102 => ?_) (fun c3102 => ?_)
        · replace hf := jif_t c3102 hf
          exact L61 x3 x4 s0 ls _ _ (lv_sub hl [2, 3] rfl) hC hf
        · replace hf := jif_f c3102 hf
          refine lv_iload hx hb dT_childOf_43 (lv_at hl 3 rfl) ?_
          refine lv_aload_n hx hb dT_childOf_45 rfl (lv_at hl 0 rfl) ?_
          refine va_get (D := (dC, dI)) (ci := 2) (v := .ref (ad 9)) (C := RcT) (T := TcT) (N := 9) hx hb ht in_cT hown hK hC.1 1 (wR_e1 cI cC ad s0) rfl 2 (by decide) (ht _ tw55) (fun _ h9 => h9) rfl dT_childOf_46 ?_
          refine lv_iload hx hb dT_childOf_49 (lv_at hl 3 rfl) ?_
          obtain ⟨hi3103, hf⟩ := jC_in hf
          refine va_iald hx hb hK hC.1 9 0 (wR_e9 cI cC ad s0) rfl hi3103 dT_childOf_51 ?_
          refine lv_iadd hx hb dT_childOf_52 ?_
          refine lv_istore (lv' := [(4, .int (x4 + jgA s0 5 (x4).toNatClampNeg)), (0, .ref (ad 1)), (2, .int x2), (3, .int x3), (5, .int x5)]) hx hb dT_childOf_53 hl (by decide) rfl (fun ls hl => ?_)
          refine lv_iinc (k := 4) (v := (x5 + (1 : Int32))) (lv' := [(5, .int (x5 + (1 : Int32))), (4, .int (x4 + jgA s0 5 (x4).toNatClampNeg)), (0, .ref (ad 1)), (2, .int x2), (3, .int x3)]) hx hb dT_childOf_55 hl rfl rfl (by decide) rfl (fun ls hl => ?_)
          refine lv_goto (tgt := 31) hx hb dT_childOf_58 (by decide) ?_
          exact ih31 x2 x3 (x4 + jgA s0 5 (x4).toNatClampNeg) (x5 + (1 : Int32)) s0 ls _ _ (lv_sub hl [2, 3, 4, 1, 0] rfl) hC hf
  unfold fT_childOf at hf
  refine lv_iload_n hx hb dT_childOf_0 rfl (lv_at hl 2 rfl) ?_
  refine lv_if_lt (tgt := 12) hx hb dT_childOf_1 (by decide) (fun c1 => ?_) (fun c1 => ?_)
  · replace hf := jif_t c1 hf
    refine lv_iconst (v := -1) hx hb dT_childOf_12 (by decide) ?_
    cases hf
    exact jret_i hx hb hr hlk hC hK dT_childOf_13
  · replace hf := jif_f c1 hf
    refine lv_iload_n hx hb dT_childOf_4 rfl (lv_at hl 2 rfl) ?_
    refine lv_aload_n hx hb dT_childOf_5 rfl (lv_at hl 0 rfl) ?_
    refine va_get (D := (dC, dI)) (ci := 2) (v := .int (jgI z0 3)) (C := RcT) (T := TcT) (N := 9) hx hb ht in_cT hown hK hC.1 1 (wR_e1 cI cC ad z0) rfl 7 (by decide) (ht _ tw63) (fun _ h9 => h9) rfl dT_childOf_6 ?_
    refine lv_icmp_lt (tgt := 14) hx hb dT_childOf_9 (by decide) (fun c2 => ?_) (fun c2 => ?_)
    · replace hf := jif_t c2 hf
      refine lv_iload_n hx hb dT_childOf_14 rfl (lv_at hl 1 rfl) ?_
      refine lv_aload_n hx hb dT_childOf_15 rfl (lv_at hl 0 rfl) ?_
      refine va_get (D := (dC, dI)) (ci := 2) (v := .ref (ad 9)) (C := RcT) (T := TcT) (N := 9) hx hb ht in_cT hown hK hC.1 1 (wR_e1 cI cC ad z0) rfl 2 (by decide) (ht _ tw55) (fun _ h9 => h9) rfl dT_childOf_16 ?_
      refine lv_iload_n hx hb dT_childOf_19 rfl (lv_at hl 1 rfl) ?_
      obtain ⟨hi3, hf⟩ := jC_in hf
      refine va_iald hx hb hK hC.1 9 0 (wR_e9 cI cC ad z0) rfl hi3 dT_childOf_20 ?_
      refine lv_iadd hx hb dT_childOf_21 ?_
      refine lv_istore_n (lv' := [(3, .int (a0 + jgA z0 5 (a0).toNatClampNeg)), (0, .ref (ad 1)), (1, .int a0), (2, .int a1)]) hx hb dT_childOf_22 rfl hl (by decide) rfl (fun ls hl => ?_)
      refine lv_iload_n hx hb dT_childOf_23 rfl (lv_at hl 2 rfl) ?_
      refine lv_iconst (v := 1) hx hb dT_childOf_24 (by decide) ?_
      refine lv_iadd hx hb dT_childOf_25 ?_
      refine lv_istore (lv' := [(4, .int (a0 + (1 : Int32))), (3, .int (a0 + jgA z0 5 (a0).toNatClampNeg)), (0, .ref (ad 1)), (1, .int a0), (2, .int a1)]) hx hb dT_childOf_26 hl (by decide) rfl (fun ls hl => ?_)
      refine lv_iconst (v := 0) hx hb dT_childOf_28 (by decide) ?_
      refine lv_istore (lv' := [(5, .int (0 : Int32)), (4, .int (a0 + (1 : Int32))), (3, .int (a0 + jgA z0 5 (a0).toNatClampNeg)), (0, .ref (ad 1)), (1, .int a0), (2, .int a1)]) hx hb dT_childOf_29 hl (by decide) rfl (fun ls hl => ?_)
      exact L31 N a1 (a0 + jgA z0 5 (a0).toNatClampNeg) (a0 + (1 : Int32)) (0 : Int32) z0 ls _ _ (lv_sub hl [3, 5, 2, 1, 0] rfl) hC hf
    · replace hf := jif_f c2 hf
      refine lv_iconst (v := -1) hx hb dT_childOf_12 (by decide) ?_
      cases hf
      exact jret_i hx hb hr hlk hC hK dT_childOf_13

def fT_parentOf_b4 (N : Nat) (k4 : Int32 → Int32 → jS → Option (Int32 × jS)) (x1 x2 : Int32) (s0 : jS) : Option (Int32 × jS) := (if x2 < 0 then some ((-1 : Int32), s0) else (if jIn x2 363 = true then (if (x2 + jgA s0 5 (x2).toNatClampNeg) ≤ x1 then k4 x1 (x2 + (-1 : Int32)) s0 else some (x2, s0)) else none))
def fT_parentOf_4 (N : Nat) : Nat → Int32 → Int32 → jS → Option (Int32 × jS)
  | 0 => fun _ _ _ => none
  | n + 1 => fun x1 x2 s0 => fT_parentOf_b4 N (fT_parentOf_4 N n) x1 x2 s0
def fT_parentOf (N : Nat) (a0 : Int32) (z0 : jS) : Option (Int32 × jS) := fT_parentOf_4 N N a0 (a0 - (1 : Int32)) z0
set_option maxHeartbeats 4000000 in
set_option maxRecDepth 100000 in
theorem cT_parentOf (l : Launch) (dC : Nat → ClassId) (dI : Nat → Nat → Nat) (cI cC cL : ClassId) (sk sv : Nat → Nat) (ad : Nat → Nat) (N : Nat) (a0 : Int32) (z0 z1 : jS) (r : Int32) (hf : fT_parentOf N a0 z0 = some (r, z1)) : Ci l yT_parentOf (Cond.code yT_parentOf prog_6_method_18_code 3 (some .int) :: TB) ({ frames := 0, cells := 0, slots := 0, locals := 0 }) (dC, dI) vwCl [(cI, .int), (cC, .char), (cL, .object "SharedSyntax$Letters")] (jEn sk sv) [.ref (ad 1), .int a0] (wR cI cC ad z0) (wR cI cC ad z1) r := by
  refine Ci_of (cc := prog_6_method_18_code) (maxL := 3) (ret := (some .int)) (by decide) rfl (Nat.le_of_ble_eq_true rfl) ?_
  intro p e s m below meth c ls F hl hK hN hC
  obtain ⟨hx, hb, hml, hown, hts, hr, hlk⟩ := F
  have ht : ∀ w ∈ TB, w.before [.ref (ad 1), .int a0].toArray s = true := fun w h => hts w (List.mem_cons_of_mem _ h)
  have hA : ∀ q, s.heap.size ≤ q → va_A (wR cI cC ad z0) s.heap.size q := fun q h => Or.inr h
  have hl : lv_has ls 3 [(0, .ref (ad 1)), (1, .int a0)] := hl
  have L4 : ∀ (n : Nat) (x1 x2 : Int32) (s0 : jS) (ls : Array Slot) (H : Heap) (locs : List Loc), lv_has ls 3 [(0, .ref (ad 1)), (1, .int x1), (2, .int x2)] → jcx (dC, dI) vwCl (va_A (wR cI cC ad z0) s.heap.size) s.heap (wR cI cC ad s0) H locs → fT_parentOf_4 N n x1 x2 s0 = some (r, z1) → W p l e ({ frames := 0, cells := 0, slots := 0, locals := 0 }) s m [.ref (ad 1), .int a0].toArray below meth c H locs 0 0 (MQ below (jQi (dC, dI) vwCl [(cI, .int), (cC, .char), (cL, .object "SharedSyntax$Letters")] (wR cI cC ad z0) (wR cI cC ad z1) s.heap.size r) [.ref (ad 1), .int a0].toArray s 0 0 (va_A (wR cI cC ad z0) s.heap.size)) (F0 m 4 ls []) := by
    intro n
    induction n with
    | zero => exact fun _ _ _ _ _ _ _ _ hf => nomatch hf
    | succ n ih4 =>
      intro x1 x2 s0 ls H locs hl hC hf
      replace hf : fT_parentOf_b4 N (fT_parentOf_4 N n) x1 x2 s0 = some (r, z1) := hf
      generalize fT_parentOf_4 N n = k4 at ih4 hf
      unfold fT_parentOf_b4 at hf
      refine lv_iload_n hx hb dT_parentOf_4 rfl (lv_at hl 2 rfl) ?_
      refine lv_if_lt (tgt := 28) hx hb dT_parentOf_5 (by decide) (fun c401 => ?_) (fun c401 => ?_)
      · replace hf := jif_t c401 hf
        refine lv_iconst (v := -1) hx hb dT_parentOf_28 (by decide) ?_
        cases hf
        exact jret_i hx hb hr hlk hC hK dT_parentOf_29
      · replace hf := jif_f c401 hf
        refine lv_iload_n hx hb dT_parentOf_8 rfl (lv_at hl 2 rfl) ?_
        refine lv_aload_n hx hb dT_parentOf_9 rfl (lv_at hl 0 rfl) ?_
        refine va_get (D := (dC, dI)) (ci := 2) (v := .ref (ad 9)) (C := RcT) (T := TcT) (N := 9) hx hb ht in_cT hown hK hC.1 1 (wR_e1 cI cC ad s0) rfl 2 (by decide) (ht _ tw55) (fun _ h9 => h9) rfl dT_parentOf_10 ?_
        refine lv_iload_n hx hb dT_parentOf_13 rfl (lv_at hl 2 rfl) ?_
        obtain ⟨hi402, hf⟩ := jC_in hf
        refine va_iald hx hb hK hC.1 9 0 (wR_e9 cI cC ad s0) rfl hi402 dT_parentOf_14 ?_
        refine lv_iadd hx hb dT_parentOf_15 ?_
        refine lv_iload_n hx hb dT_parentOf_16 rfl (lv_at hl 1 rfl) ?_
        refine lv_icmp_le (tgt := 22) hx hb dT_parentOf_17 (by decide) (fun c403 => ?_) (fun c403 => ?_)
        · replace hf := jif_t c403 hf
          refine lv_iinc (k := 2) (v := (x2 + (-1 : Int32))) (lv' := [(2, .int (x2 + (-1 : Int32))), (0, .ref (ad 1)), (1, .int x1)]) hx hb dT_parentOf_22 hl rfl rfl (by decide) rfl (fun ls hl => ?_)
          refine lv_goto (tgt := 4) hx hb dT_parentOf_25 (by decide) ?_
          exact ih4 x1 (x2 + (-1 : Int32)) s0 ls _ _ (lv_sub hl [1, 2, 0] rfl) hC hf
        · replace hf := jif_f c403 hf
          refine lv_iload_n hx hb dT_parentOf_20 rfl (lv_at hl 2 rfl) ?_
          cases hf
          exact jret_i hx hb hr hlk hC hK dT_parentOf_21
  unfold fT_parentOf at hf
  refine lv_iload_n hx hb dT_parentOf_0 rfl (lv_at hl 1 rfl) ?_
  refine lv_iconst (v := 1) hx hb dT_parentOf_1 (by decide) ?_
  refine lv_isub hx hb dT_parentOf_2 ?_
  refine lv_istore_n (lv' := [(2, .int (a0 - (1 : Int32))), (0, .ref (ad 1)), (1, .int a0)]) hx hb dT_parentOf_3 rfl hl (by decide) rfl (fun ls hl => ?_)
  exact L4 N a0 (a0 - (1 : Int32)) z0 ls _ _ (lv_sub hl [1, 2, 0] rfl) hC hf

def fT_leafAt_b19 (N : Nat) (k19 : Int32 → Int32 → jS → Option (Int32 × jS)) (x1 x2 : Int32) (s0 : jS) : Option (Int32 × jS) := (if jgI s0 3 ≤ x2 then some ((jgI s0 3 - (1 : Int32)), s0) else (jB (fT_isLeaf N x2 s0) fun r1902 s1902 => (if r1902 = 0 then k19 x1 (x2 + (1 : Int32)) s1902 else (if jIn (x2 + (1 : Int32)) 363 = true then (if jgA s1902 6 ((x2 + (1 : Int32))).toNatClampNeg ≤ x1 then k19 x1 (x2 + (1 : Int32)) s1902 else some (x2, s1902)) else none))))
def fT_leafAt_19 (N : Nat) : Nat → Int32 → Int32 → jS → Option (Int32 × jS)
  | 0 => fun _ _ _ => none
  | n + 1 => fun x1 x2 s0 => fT_leafAt_b19 N (fT_leafAt_19 N n) x1 x2 s0
def fT_leafAt (N : Nat) (a0 : Int32) (z0 : jS) : Option (Int32 × jS) := (if a0 < 0 then some ((-1 : Int32), z0) else (if a0 ≤ jgI z0 0 then fT_leafAt_19 N N a0 (0 : Int32) z0 else some ((-1 : Int32), z0)))
set_option maxHeartbeats 4000000 in
set_option maxRecDepth 100000 in
theorem cT_leafAt (l : Launch) (dC : Nat → ClassId) (dI : Nat → Nat → Nat) (cI cC cL : ClassId) (sk sv : Nat → Nat) (ad : Nat → Nat) (N : Nat) (a0 : Int32) (z0 z1 : jS) (r : Int32) (hf : fT_leafAt N a0 z0 = some (r, z1)) : Ci l yT_leafAt (Cond.code yT_leafAt prog_6_method_19_code 3 (some .int) :: TB) ({ frames := 1, cells := 0, slots := 0, locals := 21 }) (dC, dI) vwCl [(cI, .int), (cC, .char), (cL, .object "SharedSyntax$Letters")] (jEn sk sv) [.ref (ad 1), .int a0] (wR cI cC ad z0) (wR cI cC ad z1) r := by
  refine Ci_of (cc := prog_6_method_19_code) (maxL := 3) (ret := (some .int)) (by decide) rfl (Nat.le_of_ble_eq_true rfl) ?_
  intro p e s m below meth c ls F hl hK hN hC
  obtain ⟨hx, hb, hml, hown, hts, hr, hlk⟩ := F
  have ht : ∀ w ∈ TB, w.before [.ref (ad 1), .int a0].toArray s = true := fun w h => hts w (List.mem_cons_of_mem _ h)
  have hA : ∀ q, s.heap.size ≤ q → va_A (wR cI cC ad z0) s.heap.size q := fun q h => Or.inr h
  have hl : lv_has ls 3 [(0, .ref (ad 1)), (1, .int a0)] := hl
  have L19 : ∀ (n : Nat) (x1 x2 : Int32) (s0 : jS) (ls : Array Slot) (H : Heap) (locs : List Loc), lv_has ls 3 [(0, .ref (ad 1)), (1, .int x1), (2, .int x2)] → jcx (dC, dI) vwCl (va_A (wR cI cC ad z0) s.heap.size) s.heap (wR cI cC ad s0) H locs → fT_leafAt_19 N n x1 x2 s0 = some (r, z1) → W p l e ({ frames := 1, cells := 0, slots := 0, locals := 21 }) s m [.ref (ad 1), .int a0].toArray below meth c H locs 0 0 (MQ below (jQi (dC, dI) vwCl [(cI, .int), (cC, .char), (cL, .object "SharedSyntax$Letters")] (wR cI cC ad z0) (wR cI cC ad z1) s.heap.size r) [.ref (ad 1), .int a0].toArray s 0 0 (va_A (wR cI cC ad z0) s.heap.size)) (F0 m 19 ls []) := by
    intro n
    induction n with
    | zero => exact fun _ _ _ _ _ _ _ _ hf => nomatch hf
    | succ n ih19 =>
      intro x1 x2 s0 ls H locs hl hC hf
      replace hf : fT_leafAt_b19 N (fT_leafAt_19 N n) x1 x2 s0 = some (r, z1) := hf
      generalize fT_leafAt_19 N n = k19 at ih19 hf
      unfold fT_leafAt_b19 at hf
      refine lv_iload_n hx hb dT_leafAt_19 rfl (lv_at hl 2 rfl) ?_
      refine lv_aload_n hx hb dT_leafAt_20 rfl (lv_at hl 0 rfl) ?_
      refine va_get (D := (dC, dI)) (ci := 2) (v := .int (jgI s0 3)) (C := RcT) (T := TcT) (N := 9) hx hb ht in_cT hown hK hC.1 1 (wR_e1 cI cC ad s0) rfl 7 (by decide) (ht _ tw63) (fun _ h9 => h9) rfl dT_leafAt_21 ?_
      refine lv_icmp_ge (tgt := 55) hx hb dT_leafAt_24 (by decide) (fun c1901 => ?_) (fun c1901 => ?_)
      · replace hf := jif_t c1901 hf
        refine lv_aload_n hx hb dT_leafAt_55 rfl (lv_at hl 0 rfl) ?_
        refine va_get (D := (dC, dI)) (ci := 2) (v := .int (jgI s0 3)) (C := RcT) (T := TcT) (N := 9) hx hb ht in_cT hown hK hC.1 1 (wR_e1 cI cC ad s0) rfl 7 (by decide) (ht _ tw63) (fun _ h9 => h9) rfl dT_leafAt_56 ?_
        refine lv_iconst (v := 1) hx hb dT_leafAt_59 (by decide) ?_
        refine lv_isub hx hb dT_leafAt_60 ?_
        cases hf
        exact jret_i hx hb hr hlk hC hK dT_leafAt_61
      · replace hf := jif_f c1901 hf
        refine lv_aload_n hx hb dT_leafAt_27 rfl (lv_at hl 0 rfl) ?_
        refine lv_iload_n hx hb dT_leafAt_28 rfl (lv_at hl 2 rfl) ?_
        obtain ⟨r1902, s1902, hc1902, hf⟩ := jB_some hf
        refine jcall_i (va_runV (C := RcT) (As := [.int x2]) (rest := []) ⟨hx, hb, hml, hown, hts⟩ ((cT_isLeaf l dC dI cI cC cL sk sv ad N x2 s0 s1902 r1902 hc1902) _) ⟨(callB_of 1 hts (tb_good tw593) rfl rfl rfl (ht _ tw4) (ht _ tw590) (by decide +kernel) ⟨Nat.le_of_ble_eq_true rfl, Nat.le_of_ble_eq_true rfl⟩), ht _ tw591, ht _ tw592⟩ (jpreV (jEn_ok sk sv) hC hA hK hN (wR_e1 cI cC ad s0) rfl rfl _) rfl rfl hl.1 rfl (lv_room (Nat.le_of_ble_eq_true rfl)) dT_leafAt_29 ⟨Nat.le_refl _, Nat.le_refl _⟩) hC hA (fun H locs hC => ?_)
        refine lv_if_eq (tgt := 49) hx hb dT_leafAt_32 (by decide) (fun c1903 => ?_) (fun c1903 => ?_)
        · replace hf := jif_t c1903 hf
          refine lv_iinc (k := 2) (v := (x2 + (1 : Int32))) (lv' := [(2, .int (x2 + (1 : Int32))), (0, .ref (ad 1)), (1, .int x1)]) hx hb dT_leafAt_49 hl rfl rfl (by decide) rfl (fun ls hl => ?_)
          refine lv_goto (tgt := 19) hx hb dT_leafAt_52 (by decide) ?_
          exact ih19 x1 (x2 + (1 : Int32)) s1902 ls _ _ (lv_sub hl [1, 2, 0] rfl) hC hf
        · replace hf := jif_f c1903 hf
          refine lv_iload_n hx hb dT_leafAt_35 rfl (lv_at hl 1 rfl) ?_
          refine lv_aload_n hx hb dT_leafAt_36 rfl (lv_at hl 0 rfl) ?_
          refine va_get (D := (dC, dI)) (ci := 2) (v := .ref (ad 10)) (C := RcT) (T := TcT) (N := 9) hx hb ht in_cT hown hK hC.1 1 (wR_e1 cI cC ad s1902) rfl 3 (by decide) (ht _ tw57) (fun _ h9 => h9) rfl dT_leafAt_37 ?_
          refine lv_iload_n hx hb dT_leafAt_40 rfl (lv_at hl 2 rfl) ?_
          refine lv_iconst (v := 1) hx hb dT_leafAt_41 (by decide) ?_
          refine lv_iadd hx hb dT_leafAt_42 ?_
          obtain ⟨hi1904, hf⟩ := jC_in hf
          refine va_iald hx hb hK hC.1 10 0 (wR_e10 cI cC ad s1902) rfl hi1904 dT_leafAt_43 ?_
          refine lv_icmp_ge (tgt := 49) hx hb dT_leafAt_44 (by decide) (fun c1905 => ?_) (fun c1905 => ?_)
          · replace hf := jif_t c1905 hf
            refine lv_iinc (k := 2) (v := (x2 + (1 : Int32))) (lv' := [(2, .int (x2 + (1 : Int32))), (0, .ref (ad 1)), (1, .int x1)]) hx hb dT_leafAt_49 hl rfl rfl (by decide) rfl (fun ls hl => ?_)
            refine lv_goto (tgt := 19) hx hb dT_leafAt_52 (by decide) ?_
            exact ih19 x1 (x2 + (1 : Int32)) s1902 ls _ _ (lv_sub hl [1, 2, 0] rfl) hC hf
          · replace hf := jif_f c1905 hf
            refine lv_iload_n hx hb dT_leafAt_47 rfl (lv_at hl 2 rfl) ?_
            cases hf
            exact jret_i hx hb hr hlk hC hK dT_leafAt_48
  unfold fT_leafAt at hf
  refine lv_iload_n hx hb dT_leafAt_0 rfl (lv_at hl 1 rfl) ?_
  refine lv_if_lt (tgt := 15) hx hb dT_leafAt_1 (by decide) (fun c1 => ?_) (fun c1 => ?_)
  · replace hf := jif_t c1 hf
    refine lv_iconst (v := -1) hx hb dT_leafAt_15 (by decide) ?_
    cases hf
    exact jret_i hx hb hr hlk hC hK dT_leafAt_16
  · replace hf := jif_f c1 hf
    refine lv_iload_n hx hb dT_leafAt_4 rfl (lv_at hl 1 rfl) ?_
    refine lv_aload_n hx hb dT_leafAt_5 rfl (lv_at hl 0 rfl) ?_
    refine va_get (D := (dC, dI)) (ci := 2) (v := .ref (ad 3)) (C := RcT) (T := TcT) (N := 9) hx hb ht in_cT hown hK hC.1 1 (wR_e1 cI cC ad z0) rfl 0 (by decide) (ht _ tw52) (fun _ h9 => h9) rfl dT_leafAt_6 ?_
    refine va_getN (D := (dC, dI)) (ci := 0) (v := .int (jgI z0 0)) (C := RcL) (T := TcL) (N := 2) hx hb ht in_cL hown hK hC.1 3 (wR_e3 cI cC ad z0) rfl 1 (by decide) (va_Nw.use rfl (hN.1 _ nw35)) (fun _ h9 => h9) rfl dT_leafAt_9 ?_
    refine lv_icmp_le (tgt := 17) hx hb dT_leafAt_12 (by decide) (fun c2 => ?_) (fun c2 => ?_)
    · replace hf := jif_t c2 hf
      refine lv_iconst (v := 0) hx hb dT_leafAt_17 (by decide) ?_
      refine lv_istore_n (lv' := [(2, .int (0 : Int32)), (0, .ref (ad 1)), (1, .int a0)]) hx hb dT_leafAt_18 rfl hl (by decide) rfl (fun ls hl => ?_)
      exact L19 N a0 (0 : Int32) z0 ls _ _ (lv_sub hl [1, 2, 0] rfl) hC hf
    · replace hf := jif_f c2 hf
      refine lv_iconst (v := -1) hx hb dT_leafAt_15 (by decide) ?_
      cases hf
      exact jret_i hx hb hr hlk hC hK dT_leafAt_16

def fT_leafCount_b4 (N : Nat) (k4 : Int32 → Int32 → jS → Option (Int32 × jS)) (x1 x2 : Int32) (s0 : jS) : Option (Int32 × jS) := (if jgI s0 3 ≤ x2 then some (x1, s0) else (jB (fT_isLeaf N x2 s0) fun r402 s402 => (if r402 = 0 then k4 x1 (x2 + (1 : Int32)) s402 else k4 (x1 + (1 : Int32)) (x2 + (1 : Int32)) s402)))
def fT_leafCount_4 (N : Nat) : Nat → Int32 → Int32 → jS → Option (Int32 × jS)
  | 0 => fun _ _ _ => none
  | n + 1 => fun x1 x2 s0 => fT_leafCount_b4 N (fT_leafCount_4 N n) x1 x2 s0
def fT_leafCount (N : Nat) (z0 : jS) : Option (Int32 × jS) := fT_leafCount_4 N N (0 : Int32) (0 : Int32) z0
set_option maxHeartbeats 4000000 in
set_option maxRecDepth 100000 in
theorem cT_leafCount (l : Launch) (dC : Nat → ClassId) (dI : Nat → Nat → Nat) (cI cC cL : ClassId) (sk sv : Nat → Nat) (ad : Nat → Nat) (N : Nat) (z0 z1 : jS) (r : Int32) (hf : fT_leafCount N z0 = some (r, z1)) : Ci l yT_leafCount (Cond.code yT_leafCount prog_6_method_20_code 3 (some .int) :: TB) ({ frames := 1, cells := 0, slots := 0, locals := 21 }) (dC, dI) vwCl [(cI, .int), (cC, .char), (cL, .object "SharedSyntax$Letters")] (jEn sk sv) [.ref (ad 1)] (wR cI cC ad z0) (wR cI cC ad z1) r := by
  refine Ci_of (cc := prog_6_method_20_code) (maxL := 3) (ret := (some .int)) (by decide) rfl (Nat.le_of_ble_eq_true rfl) ?_
  intro p e s m below meth c ls F hl hK hN hC
  obtain ⟨hx, hb, hml, hown, hts, hr, hlk⟩ := F
  have ht : ∀ w ∈ TB, w.before [.ref (ad 1)].toArray s = true := fun w h => hts w (List.mem_cons_of_mem _ h)
  have hA : ∀ q, s.heap.size ≤ q → va_A (wR cI cC ad z0) s.heap.size q := fun q h => Or.inr h
  have hl : lv_has ls 3 [(0, .ref (ad 1))] := hl
  have L4 : ∀ (n : Nat) (x1 x2 : Int32) (s0 : jS) (ls : Array Slot) (H : Heap) (locs : List Loc), lv_has ls 3 [(0, .ref (ad 1)), (1, .int x1), (2, .int x2)] → jcx (dC, dI) vwCl (va_A (wR cI cC ad z0) s.heap.size) s.heap (wR cI cC ad s0) H locs → fT_leafCount_4 N n x1 x2 s0 = some (r, z1) → W p l e ({ frames := 1, cells := 0, slots := 0, locals := 21 }) s m [.ref (ad 1)].toArray below meth c H locs 0 0 (MQ below (jQi (dC, dI) vwCl [(cI, .int), (cC, .char), (cL, .object "SharedSyntax$Letters")] (wR cI cC ad z0) (wR cI cC ad z1) s.heap.size r) [.ref (ad 1)].toArray s 0 0 (va_A (wR cI cC ad z0) s.heap.size)) (F0 m 4 ls []) := by
    intro n
    induction n with
    | zero => exact fun _ _ _ _ _ _ _ _ hf => nomatch hf
    | succ n ih4 =>
      intro x1 x2 s0 ls H locs hl hC hf
      replace hf : fT_leafCount_b4 N (fT_leafCount_4 N n) x1 x2 s0 = some (r, z1) := hf
      generalize fT_leafCount_4 N n = k4 at ih4 hf
      unfold fT_leafCount_b4 at hf
      refine lv_iload_n hx hb dT_leafCount_4 rfl (lv_at hl 2 rfl) ?_
      refine lv_aload_n hx hb dT_leafCount_5 rfl (lv_at hl 0 rfl) ?_
      refine va_get (D := (dC, dI)) (ci := 2) (v := .int (jgI s0 3)) (C := RcT) (T := TcT) (N := 9) hx hb ht in_cT hown hK hC.1 1 (wR_e1 cI cC ad s0) rfl 7 (by decide) (ht _ tw63) (fun _ h9 => h9) rfl dT_leafCount_6 ?_
      refine lv_icmp_ge (tgt := 29) hx hb dT_leafCount_9 (by decide) (fun c401 => ?_) (fun c401 => ?_)
      · replace hf := jif_t c401 hf
        refine lv_iload_n hx hb dT_leafCount_29 rfl (lv_at hl 1 rfl) ?_
        cases hf
        exact jret_i hx hb hr hlk hC hK dT_leafCount_30
      · replace hf := jif_f c401 hf
        refine lv_aload_n hx hb dT_leafCount_12 rfl (lv_at hl 0 rfl) ?_
        refine lv_iload_n hx hb dT_leafCount_13 rfl (lv_at hl 2 rfl) ?_
        obtain ⟨r402, s402, hc402, hf⟩ := jB_some hf
        refine jcall_i (va_runV (C := RcT) (As := [.int x2]) (rest := []) ⟨hx, hb, hml, hown, hts⟩ ((cT_isLeaf l dC dI cI cC cL sk sv ad N x2 s0 s402 r402 hc402) _) ⟨(callB_of 1 hts (tb_good tw593) rfl rfl rfl (ht _ tw4) (ht _ tw590) (by decide +kernel) ⟨Nat.le_of_ble_eq_true rfl, Nat.le_of_ble_eq_true rfl⟩), ht _ tw591, ht _ tw592⟩ (jpreV (jEn_ok sk sv) hC hA hK hN (wR_e1 cI cC ad s0) rfl rfl _) rfl rfl hl.1 rfl (lv_room (Nat.le_of_ble_eq_true rfl)) dT_leafCount_14 ⟨Nat.le_refl _, Nat.le_refl _⟩) hC hA (fun H locs hC => ?_)
        refine lv_if_eq (tgt := 23) hx hb dT_leafCount_17 (by decide) (fun c403 => ?_) (fun c403 => ?_)
        · replace hf := jif_t c403 hf
          refine lv_iinc (k := 2) (v := (x2 + (1 : Int32))) (lv' := [(2, .int (x2 + (1 : Int32))), (0, .ref (ad 1)), (1, .int x1)]) hx hb dT_leafCount_23 hl rfl rfl (by decide) rfl (fun ls hl => ?_)
          refine lv_goto (tgt := 4) hx hb dT_leafCount_26 (by decide) ?_
          exact ih4 x1 (x2 + (1 : Int32)) s402 ls _ _ (lv_sub hl [1, 2, 0] rfl) hC hf
        · replace hf := jif_f c403 hf
          refine lv_iinc (k := 1) (v := (x1 + (1 : Int32))) (lv' := [(1, .int (x1 + (1 : Int32))), (0, .ref (ad 1)), (2, .int x2)]) hx hb dT_leafCount_20 hl rfl rfl (by decide) rfl (fun ls hl => ?_)
          refine lv_iinc (k := 2) (v := (x2 + (1 : Int32))) (lv' := [(2, .int (x2 + (1 : Int32))), (1, .int (x1 + (1 : Int32))), (0, .ref (ad 1))]) hx hb dT_leafCount_23 hl rfl rfl (by decide) rfl (fun ls hl => ?_)
          refine lv_goto (tgt := 4) hx hb dT_leafCount_26 (by decide) ?_
          exact ih4 (x1 + (1 : Int32)) (x2 + (1 : Int32)) s402 ls _ _ (lv_sub hl [2, 1, 0] rfl) hC hf
  unfold fT_leafCount at hf
  refine lv_iconst (v := 0) hx hb dT_leafCount_0 (by decide) ?_
  refine lv_istore_n (lv' := [(1, .int (0 : Int32)), (0, .ref (ad 1))]) hx hb dT_leafCount_1 rfl hl (by decide) rfl (fun ls hl => ?_)
  refine lv_iconst (v := 0) hx hb dT_leafCount_2 (by decide) ?_
  refine lv_istore_n (lv' := [(2, .int (0 : Int32)), (1, .int (0 : Int32)), (0, .ref (ad 1))]) hx hb dT_leafCount_3 rfl hl (by decide) rfl (fun ls hl => ?_)
  exact L4 N (0 : Int32) (0 : Int32) z0 ls _ _ (lv_sub hl [2, 1, 0] rfl) hC hf
