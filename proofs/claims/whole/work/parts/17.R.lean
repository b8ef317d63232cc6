def fK_spells_s2_b15 (N : Nat) (k15 : Int32 → Int32 → jS → Option (Int32 × jS)) (x1 x4 : Int32) (s0 : jS) : Option (Int32 × jS) := (jB (fJS_length_s2 N s0) fun r1501 s1501 => (if r1501 ≤ x4 then some ((1 : Int32), s1501) else (jB (fL_at N (x1 + x4) s1501) fun r1503 s1503 => (jB (fJS_charAt_s2 N x4 s1503) fun r1504 s1504 => (if r1503 = r1504 then k15 x1 (x4 + (1 : Int32)) s1504 else some ((0 : Int32), s1504))))))
def fK_spells_s2_15 (N : Nat) : Nat → Int32 → Int32 → jS → Option (Int32 × jS)
  | 0 => fun _ _ _ => none
  | n + 1 => fun x1 x4 s0 => fK_spells_s2_b15 N (fK_spells_s2_15 N n) x1 x4 s0
def fK_spells_s2 (N : Nat) (a0 a1 : Int32) (z0 : jS) : Option (Int32 × jS) := (jB (fJS_length_s2 N z0) fun r1 s1 => (if (a1 - a0) = r1 then fK_spells_s2_15 N N a0 (0 : Int32) s1 else some ((0 : Int32), s1)))
set_option maxHeartbeats 4000000 in
set_option maxRecDepth 100000 in
theorem cK_spells_s2 (l : Launch) (dC : Nat → ClassId) (dI : Nat → Nat → Nat) (cI cC cL : ClassId) (sk sv : Nat → Nat) (ad : Nat → Nat) (N : Nat) (a0 a1 : Int32) (z0 z1 : jS) (r : Int32) (hf : fK_spells_s2 N a0 a1 z0 = some (r, z1)) : Ci l yK_spells (Cond.code yK_spells prog_5_method_11_code 5 (some .boolean) :: TB) ({ frames := 4, cells := 0, slots := 0, locals := 142 }) (dC, dI) vwCl [(cI, .int), (cC, .char), (cL, .object "SharedSyntax$Letters")] (jEn sk sv) [.ref (ad 2), .int a0, .int a1, .ref (sk 2)] (wR cI cC ad z0) (wR cI cC ad z1) r := by
  refine Ci_of (cc := prog_5_method_11_code) (maxL := 5) (ret := (some .boolean)) (by decide) rfl (Nat.le_of_ble_eq_true rfl) ?_
  intro p e s m below meth c ls F hl hK hN hC
  obtain ⟨hx, hb, hml, hown, hts, hr, hlk⟩ := F
  have ht : ∀ w ∈ TB, w.before [.ref (ad 2), .int a0, .int a1, .ref (sk 2)].toArray s = true := fun w h => hts w (List.mem_cons_of_mem _ h)
  have hA : ∀ q, s.heap.size ≤ q → va_A (wR cI cC ad z0) s.heap.size q := fun q h => Or.inr h
  have hl : lv_has ls 5 [(0, .ref (ad 2)), (1, .int a0), (2, .int a1), (3, .ref (sk 2))] := hl
  have L15 : ∀ (n : Nat) (x1 x4 : Int32) (s0 : jS) (ls : Array Slot) (H : Heap) (locs : List Loc), lv_has ls 5 [(0, .ref (ad 2)), (1, .int x1), (3, .ref (sk 2)), (4, .int x4)] → jcx (dC, dI) vwCl (va_A (wR cI cC ad z0) s.heap.size) s.heap (wR cI cC ad s0) H locs → fK_spells_s2_15 N n x1 x4 s0 = some (r, z1) → W p l e ({ frames := 4, cells := 0, slots := 0, locals := 142 }) s m [.ref (ad 2), .int a0, .int a1, .ref (sk 2)].toArray below meth c H locs 0 0 (MQ below (jQi (dC, dI) vwCl [(cI, .int), (cC, .char), (cL, .object "SharedSyntax$Letters")] (wR cI cC ad z0) (wR cI cC ad z1) s.heap.size r) [.ref (ad 2), .int a0, .int a1, .ref (sk 2)].toArray s 0 0 (va_A (wR cI cC ad z0) s.heap.size)) (F0 m 15 ls []) := by
    intro n
    induction n with
    | zero => exact fun _ _ _ _ _ _ _ _ hf => nomatch hf
    | succ n ih15 =>
      intro x1 x4 s0 ls H locs hl hC hf
      replace hf : fK_spells_s2_b15 N (fK_spells_s2_15 N n) x1 x4 s0 = some (r, z1) := hf
      generalize fK_spells_s2_15 N n = k15 at ih15 hf
      unfold fK_spells_s2_b15 at hf
      refine lv_iload hx hb dK_spells_15 (lv_at hl 3 rfl) ?_
      refine lv_aload_n hx hb dK_spells_17 rfl (lv_at hl 2 rfl) ?_
      obtain ⟨r1501, s1501, hc1501, hf⟩ := jB_some hf
      refine jcall_i (va_runV (C := "java/lang/String") (As := []) (rest := [.int x4]) ⟨hx, hb, hml, hown, hts⟩ ((cJS_length_s2 l dC dI cI cC cL sk sv ad N s0 s1501 r1501 hc1501) _) ⟨(callB_of 0 hts (tb_good tw191) rfl rfl rfl (ht _ tw6) (ht _ tw188) (by decide +kernel) ⟨Nat.le_of_ble_eq_true rfl, Nat.le_of_ble_eq_true rfl⟩), ht _ tw189, ht _ tw190⟩ (jpreO (jEn_ok sk sv) hC hA hK hN (vk_recv hN.2.1 (by decide) hC.2.2) _) rfl rfl hl.1 rfl (lv_room (Nat.le_of_ble_eq_true rfl)) dK_spells_18 ⟨Nat.le_refl _, Nat.le_refl _⟩) hC hA (fun H locs hC => ?_)
      refine lv_icmp_ge (tgt := 52) hx hb dK_spells_21 (by decide) (fun c1502 => ?_) (fun c1502 => ?_)
      · replace hf := jif_t c1502 hf
        refine lv_iconst (v := 1) hx hb dK_spells_52 (by decide) ?_
        cases hf
        exact jret_z hx hb hr (by decide +kernel) hlk hC hK dK_spells_53
      · replace hf := jif_f c1502 hf
        refine lv_aload_n hx hb dK_spells_24 rfl (lv_at hl 0 rfl) ?_
        refine va_get (D := (dC, dI)) (ci := 1) (v := .ref (ad 3)) (C := RcK) (T := TcK) (N := 6) hx hb ht in_cK hown hK hC.1 2 (wR_e2 cI cC ad s1501) rfl 0 (by decide) (ht _ tw93) (fun _ h9 => h9) rfl dK_spells_25 ?_
        refine lv_iload_n hx hb dK_spells_28 rfl (lv_at hl 1 rfl) ?_
        refine lv_iload hx hb dK_spells_29 (lv_at hl 3 rfl) ?_
        refine lv_iadd hx hb dK_spells_31 ?_
        obtain ⟨r1503, s1503, hc1503, hf⟩ := jB_some hf
        refine jcall_i (va_runV (C := RcL) (As := [.int (x1 + x4)]) (rest := []) ⟨hx, hb, hml, hown, hts⟩ ((cL_at l dC dI cI cC cL sk sv ad N (x1 + x4) s1501 s1503 r1503 hc1503) _) ⟨(callB_of 1 hts (tb_good tw164) rfl rfl rfl (ht _ tw3) (ht _ tw161) (by decide +kernel) ⟨Nat.le_of_ble_eq_true rfl, Nat.le_of_ble_eq_true rfl⟩), ht _ tw162, ht _ tw163⟩ (jpreV (jEn_ok sk sv) hC hA hK hN (wR_e3 cI cC ad s1501) rfl rfl _) rfl rfl hl.1 rfl (lv_room (Nat.le_of_ble_eq_true rfl)) dK_spells_32 ⟨Nat.le_refl _, Nat.le_refl _⟩) hC hA (fun H locs hC => ?_)
        refine lv_aload_n hx hb dK_spells_35 rfl (lv_at hl 2 rfl) ?_
        refine lv_iload hx hb dK_spells_36 (lv_at hl 3 rfl) ?_
        obtain ⟨r1504, s1504, hc1504, hf⟩ := jB_some hf
        refine jcall_i (va_runV (C := "java/lang/String") (As := [.int x4]) (rest := [.int r1503]) ⟨hx, hb, hml, hown, hts⟩ ((cJS_charAt_s2 l dC dI cI cC cL sk sv ad N x4 s1503 s1504 r1504 hc1504) _) ⟨(callB_of 1 hts (tb_good tw201) rfl rfl rfl (ht _ tw6) (ht _ tw198) (by decide +kernel) ⟨Nat.le_of_ble_eq_true rfl, Nat.le_of_ble_eq_true rfl⟩), ht _ tw199, ht _ tw200⟩ (jpreO (jEn_ok sk sv) hC hA hK hN (vk_recv hN.2.1 (by decide) hC.2.2) _) rfl rfl hl.1 rfl (lv_room (Nat.le_of_ble_eq_true rfl)) dK_spells_38 ⟨Nat.le_refl _, Nat.le_refl _⟩) hC hA (fun H locs hC => ?_)
        refine lv_icmp_eq (tgt := 46) hx hb dK_spells_41 (by decide) (fun c1505 => ?_) (fun c1505 => ?_)
        · replace hf := jif_t c1505 hf
          refine lv_iinc (k := 3) (v := (x4 + (1 : Int32))) (lv' := [(4, .int (x4 + (1 : Int32))), (0, .ref (ad 2)), (1, .int x1), (3, .ref (sk 2))]) hx hb dK_spells_46 hl rfl rfl (by decide) rfl (fun ls hl => ?_)
          refine lv_goto (tgt := 15) hx hb dK_spells_49 (by decide) ?_
          exact ih15 x1 (x4 + (1 : Int32)) s1504 ls _ _ (lv_sub hl [1, 2, 3, 0] rfl) hC hf
        · replace hf := jif_f c1505 hf
          refine lv_iconst (v := 0) hx hb dK_spells_44 (by decide) ?_
          cases hf
          exact jret_z hx hb hr (by decide +kernel) hlk hC hK dK_spells_45
  unfold fK_spells_s2 at hf
  refine lv_iload_n hx hb dK_spells_0 rfl (lv_at hl 2 rfl) ?_
  refine lv_iload_n hx hb dK_spells_1 rfl (lv_at hl 1 rfl) ?_
  refine lv_isub hx hb dK_spells_2 ?_
  refine lv_aload_n hx hb dK_spells_3 rfl (lv_at hl 3 rfl) ?_
  obtain ⟨r1, s1, hc1, hf⟩ := jB_some hf
  refine jcall_i (va_runV (C := "java/lang/String") (As := []) (rest := [.int (a1 - a0)]) ⟨hx, hb, hml, hown, hts⟩ ((cJS_length_s2 l dC dI cI cC cL sk sv ad N z0 s1 r1 hc1) _) ⟨(callB_of 0 hts (tb_good tw191) rfl rfl rfl (ht _ tw6) (ht _ tw188) (by decide +kernel) ⟨Nat.le_of_ble_eq_true rfl, Nat.le_of_ble_eq_true rfl⟩), ht _ tw189, ht _ tw190⟩ (jpreO (jEn_ok sk sv) hC hA hK hN (vk_recv hN.2.1 (by decide) hC.2.2) _) rfl rfl hl.1 rfl (lv_room (Nat.le_of_ble_eq_true rfl)) dK_spells_4 ⟨Nat.le_refl _, Nat.le_refl _⟩) hC hA (fun H locs hC => ?_)
  refine lv_icmp_eq (tgt := 12) hx hb dK_spells_7 (by decide) (fun c2 => ?_) (fun c2 => ?_)
  · replace hf := jif_t c2 hf
    refine lv_iconst (v := 0) hx hb dK_spells_12 (by decide) ?_
    refine lv_istore (lv' := [(4, .int (0 : Int32)), (0, .ref (ad 2)), (1, .int a0), (2, .int a1), (3, .ref (sk 2))]) hx hb dK_spells_13 hl (by decide) rfl (fun ls hl => ?_)
    exact L15 N a0 (0 : Int32) s1 ls _ _ (lv_sub hl [1, 2, 4, 0] rfl) hC hf
  · replace hf := jif_f c2 hf
    refine lv_iconst (v := 0) hx hb dK_spells_10 (by decide) ?_
    cases hf
    exact jret_z hx hb hr (by decide +kernel) hlk hC hK dK_spells_11

def fK_wordKind (N : Nat) (a0 a1 : Int32) (z0 : jS) : Option (Int32 × jS) := (jB (fK_spells_s0 N a0 a1 z0) fun r1 s1 => (if r1 = 0 then (jB (fK_spells_s1 N a0 a1 s1) fun r3 s3 => (if r3 = 0 then (jB (fK_spells_s2 N a0 a1 s3) fun r5 s5 => (if r5 = 0 then some ((1 : Int32), s5) else some ((5 : Int32), s5))) else some ((4 : Int32), s3))) else some ((3 : Int32), s1)))
set_option maxHeartbeats 4000000 in
set_option maxRecDepth 100000 in
theorem cK_wordKind (l : Launch) (dC : Nat → ClassId) (dI : Nat → Nat → Nat) (cI cC cL : ClassId) (sk sv : Nat → Nat) (ad : Nat → Nat) (N : Nat) (a0 a1 : Int32) (z0 z1 : jS) (r : Int32) (hf : fK_wordKind N a0 a1 z0 = some (r, z1)) : Ci l yK_wordKind (Cond.code yK_wordKind prog_5_method_10_code 3 (some .int) :: TB) ({ frames := 5, cells := 0, slots := 0, locals := 166 }) (dC, dI) vwCl [(cI, .int), (cC, .char), (cL, .object "SharedSyntax$Letters")] (jEn sk sv) [.ref (ad 2), .int a0, .int a1] (wR cI cC ad z0) (wR cI cC ad z1) r := by
  refine Ci_of (cc := prog_5_method_10_code) (maxL := 3) (ret := (some .int)) (by decide) rfl (Nat.le_of_ble_eq_true rfl) ?_
  intro p e s m below meth c ls F hl hK hN hC
  obtain ⟨hx, hb, hml, hown, hts, hr, hlk⟩ := F
  have ht : ∀ w ∈ TB, w.before [.ref (ad 2), .int a0, .int a1].toArray s = true := fun w h => hts w (List.mem_cons_of_mem _ h)
  have hA : ∀ q, s.heap.size ≤ q → va_A (wR cI cC ad z0) s.heap.size q := fun q h => Or.inr h
  have hl : lv_has ls 3 [(0, .ref (ad 2)), (1, .int a0), (2, .int a1)] := hl
  unfold fK_wordKind at hf
  refine lv_aload_n hx hb dK_wordKind_0 rfl (lv_at hl 0 rfl) ?_
  refine lv_iload_n hx hb dK_wordKind_1 rfl (lv_at hl 1 rfl) ?_
  refine lv_iload_n hx hb dK_wordKind_2 rfl (lv_at hl 2 rfl) ?_
  refine va_ldcS hx hb hown hN.2.2.1.1 dK_wordKind_3 ?_
  obtain ⟨r1, s1, hc1, hf⟩ := jB_some hf
  refine jcall_i (va_runV (C := RcK) (As := [.int a0, .int a1, .ref (sk 0)]) (rest := []) ⟨hx, hb, hml, hown, hts⟩ ((cK_spells_s0 l dC dI cI cC cL sk sv ad N a0 a1 z0 s1 r1 hc1) _) ⟨(callB_of 3 hts (tb_good tw187) rfl rfl rfl (ht _ tw5) (ht _ tw184) (by decide +kernel) ⟨Nat.le_of_ble_eq_true rfl, Nat.le_of_ble_eq_true rfl⟩), ht _ tw186, ht _ (tb_sel pv_K_spells)⟩ (jpreV (jEn_ok sk sv) hC hA hK hN (wR_e2 cI cC ad z0) rfl rfl _) rfl rfl hl.1 rfl (lv_room (Nat.le_of_ble_eq_true rfl)) dK_wordKind_5 ⟨Nat.le_refl _, Nat.le_refl _⟩) hC hA (fun H locs hC => ?_)
  refine lv_if_eq (tgt := 13) hx hb dK_wordKind_8 (by decide) (fun c2 => ?_) (fun c2 => ?_)
  · replace hf := jif_t c2 hf
    refine lv_aload_n hx hb dK_wordKind_13 rfl (lv_at hl 0 rfl) ?_
    refine lv_iload_n hx hb dK_wordKind_14 rfl (lv_at hl 1 rfl) ?_
    refine lv_iload_n hx hb dK_wordKind_15 rfl (lv_at hl 2 rfl) ?_
    refine va_ldcS hx hb hown hN.2.2.1.2.1 dK_wordKind_16 ?_
    obtain ⟨r3, s3, hc3, hf⟩ := jB_some hf
    refine jcall_i (va_runV (C := RcK) (As := [.int a0, .int a1, .ref (sk 1)]) (rest := []) ⟨hx, hb, hml, hown, hts⟩ ((cK_spells_s1 l dC dI cI cC cL sk sv ad N a0 a1 s1 s3 r3 hc3) _) ⟨(callB_of 3 hts (tb_good tw187) rfl rfl rfl (ht _ tw5) (ht _ tw184) (by decide +kernel) ⟨Nat.le_of_ble_eq_true rfl, Nat.le_of_ble_eq_true rfl⟩), ht _ tw186, ht _ (tb_sel pv_K_spells)⟩ (jpreV (jEn_ok sk sv) hC hA hK hN (wR_e2 cI cC ad s1) rfl rfl _) rfl rfl hl.1 rfl (lv_room (Nat.le_of_ble_eq_true rfl)) dK_wordKind_18 ⟨Nat.le_refl _, Nat.le_refl _⟩) hC hA (fun H locs hC => ?_)
    refine lv_if_eq (tgt := 26) hx hb dK_wordKind_21 (by decide) (fun c4 => ?_) (fun c4 => ?_)
    · replace hf := jif_t c4 hf
      refine lv_aload_n hx hb dK_wordKind_26 rfl (lv_at hl 0 rfl) ?_
      refine lv_iload_n hx hb dK_wordKind_27 rfl (lv_at hl 1 rfl) ?_
      refine lv_iload_n hx hb dK_wordKind_28 rfl (lv_at hl 2 rfl) ?_
      refine va_ldcS hx hb hown hN.2.2.1.2.2.1 dK_wordKind_29 ?_
      obtain ⟨r5, s5, hc5, hf⟩ := jB_some hf
      refine jcall_i (va_runV (C := RcK) (As := [.int a0, .int a1, .ref (sk 2)]) (rest := []) ⟨hx, hb, hml, hown, hts⟩ ((cK_spells_s2 l dC dI cI cC cL sk sv ad N a0 a1 s3 s5 r5 hc5) _) ⟨(callB_of 3 hts (tb_good tw187) rfl rfl rfl (ht _ tw5) (ht _ tw184) (by decide +kernel) ⟨Nat.le_of_ble_eq_true rfl, Nat.le_of_ble_eq_true rfl⟩), ht _ tw186, ht _ (tb_sel pv_K_spells)⟩ (jpreV (jEn_ok sk sv) hC hA hK hN (wR_e2 cI cC ad s3) rfl rfl _) rfl rfl hl.1 rfl (lv_room (Nat.le_of_ble_eq_true rfl)) dK_wordKind_31 ⟨Nat.le_refl _, Nat.le_refl _⟩) hC hA (fun H locs hC => ?_)
      refine lv_if_eq (tgt := 41) hx hb dK_wordKind_34 (by decide) (fun c6 => ?_) (fun c6 => ?_)
      · replace hf := jif_t c6 hf
        refine lv_iconst (v := 1) hx hb dK_wordKind_41 (by decide) ?_
        cases hf
        exact jret_i hx hb hr hlk hC hK dK_wordKind_42
      · replace hf := jif_f c6 hf
        refine lv_iconst (v := 5) hx hb dK_wordKind_37 (by decide) ?_
        refine lv_goto (tgt := 42) hx hb dK_wordKind_38 (by decide) ?_
        cases hf
        exact jret_i hx hb hr hlk hC hK dK_wordKind_42
    · replace hf := jif_f c4 hf
      refine lv_iconst (v := 4) hx hb dK_wordKind_24 (by decide) ?_
      cases hf
      exact jret_i hx hb hr hlk hC hK dK_wordKind_25
  · replace hf := jif_f c2 hf
    refine lv_iconst (v := 3) hx hb dK_wordKind_11 (by decide) ?_
    cases hf
    exact jret_i hx hb hr hlk hC hK dK_wordKind_12

def fK_kindOf (N : Nat) (a0 a1 : Int32) (z0 : jS) : Option (Int32 × jS) := (if a0 < a1 then (jB (fL_at N a0 z0) fun r2 s2 => (jB (fK_isSmallLetter N r2 s2) fun r3 s3 => (if r3 = 0 then (jB (fK_isDigit N r2 s3) fun r5 s5 => (if r5 = 0 then (jB (fK_signKind N r2 s5) fun r7 s7 => some (r7, s7)) else some ((2 : Int32), s5))) else (jB (fK_wordKind N a0 a1 s3) fun r8 s8 => some (r8, s8))))) else some ((17 : Int32), z0))
set_option maxHeartbeats 4000000 in
set_option maxRecDepth 100000 in
theorem cK_kindOf (l : Launch) (dC : Nat → ClassId) (dI : Nat → Nat → Nat) (cI cC cL : ClassId) (sk sv : Nat → Nat) (ad : Nat → Nat) (N : Nat) (a0 a1 : Int32) (z0 z1 : jS) (r : Int32) (hf : fK_kindOf N a0 a1 z0 = some (r, z1)) : Ci l yK_kindOf (Cond.code yK_kindOf prog_5_method_9_code 4 (some .int) :: TB) ({ frames := 6, cells := 0, slots := 0, locals := 188 }) (dC, dI) vwCl [(cI, .int), (cC, .char), (cL, .object "SharedSyntax$Letters")] (jEn sk sv) [.ref (ad 2), .int a0, .int a1] (wR cI cC ad z0) (wR cI cC ad z1) r := by
  refine Ci_of (cc := prog_5_method_9_code) (maxL := 4) (ret := (some .int)) (by decide) rfl (Nat.le_of_ble_eq_true rfl) ?_
  intro p e s m below meth c ls F hl hK hN hC
  obtain ⟨hx, hb, hml, hown, hts, hr, hlk⟩ := F
  have ht : ∀ w ∈ TB, w.before [.ref (ad 2), .int a0, .int a1].toArray s = true := fun w h => hts w (List.mem_cons_of_mem _ h)
  have hA : ∀ q, s.heap.size ≤ q → va_A (wR cI cC ad z0) s.heap.size q := fun q h => Or.inr h
  have hl : lv_has ls 4 [(0, .ref (ad 2)), (1, .int a0), (2, .int a1)] := hl
  unfold fK_kindOf at hf
  refine lv_iload_n hx hb dK_kindOf_0 rfl (lv_at hl 1 rfl) ?_
  refine lv_iload_n hx hb dK_kindOf_1 rfl (lv_at hl 2 rfl) ?_
  refine lv_icmp_lt (tgt := 8) hx hb dK_kindOf_2 (by decide) (fun c1 => ?_) (fun c1 => ?_)
  · replace hf := jif_t c1 hf
    refine lv_aload_n hx hb dK_kindOf_8 rfl (lv_at hl 0 rfl) ?_
    refine va_get (D := (dC, dI)) (ci := 1) (v := .ref (ad 3)) (C := RcK) (T := TcK) (N := 6) hx hb ht in_cK hown hK hC.1 2 (wR_e2 cI cC ad z0) rfl 0 (by decide) (ht _ tw93) (fun _ h9 => h9) rfl dK_kindOf_9 ?_
    refine lv_iload_n hx hb dK_kindOf_12 rfl (lv_at hl 1 rfl) ?_
    obtain ⟨r2, s2, hc2, hf⟩ := jB_some hf
    refine jcall_i (va_runV (C := RcL) (As := [.int a0]) (rest := []) ⟨hx, hb, hml, hown, hts⟩ ((cL_at l dC dI cI cC cL sk sv ad N a0 z0 s2 r2 hc2) _) ⟨(callB_of 1 hts (tb_good tw164) rfl rfl rfl (ht _ tw3) (ht _ tw161) (by decide +kernel) ⟨Nat.le_of_ble_eq_true rfl, Nat.le_of_ble_eq_true rfl⟩), ht _ tw162, ht _ tw163⟩ (jpreV (jEn_ok sk sv) hC hA hK hN (wR_e3 cI cC ad z0) rfl rfl _) rfl rfl hl.1 rfl (lv_room (Nat.le_of_ble_eq_true rfl)) dK_kindOf_13 ⟨Nat.le_refl _, Nat.le_refl _⟩) hC hA (fun H locs hC => ?_)
    refine lv_istore_n (lv' := [(3, .int r2), (0, .ref (ad 2)), (1, .int a0), (2, .int a1)]) hx hb dK_kindOf_16 rfl hl (by decide) rfl (fun ls hl => ?_)
    refine lv_iload_n hx hb dK_kindOf_17 rfl (lv_at hl 0 rfl) ?_
    obtain ⟨r3, s3, hc3, hf⟩ := jB_some hf
    refine jcall_i (va_runS (As := [.int r2]) (rest := []) ⟨hx, hb, hml, hown, hts⟩ ((cK_isSmallLetter l dC dI cI cC cL sk sv ad N r2 s2 s3 r3 hc3) _) ⟨(callB_of 1 hts (tb_good tw171) rfl rfl rfl (ht _ tw5) (ht _ tw169) (by decide +kernel) ⟨Nat.le_of_ble_eq_true rfl, Nat.le_of_ble_eq_true rfl⟩), ht _ tw170⟩ (jpreS (jEn_ok sk sv) hC hA hK hN _) rfl rfl hl.1 rfl (lv_room (Nat.le_of_ble_eq_true rfl)) dK_kindOf_18 ⟨Nat.le_refl _, Nat.le_refl _⟩) hC hA (fun H locs hC => ?_)
    refine lv_if_eq (tgt := 31) hx hb dK_kindOf_21 (by decide) (fun c4 => ?_) (fun c4 => ?_)
    · replace hf := jif_t c4 hf
      refine lv_iload_n hx hb dK_kindOf_31 rfl (lv_at hl 0 rfl) ?_
      obtain ⟨r5, s5, hc5, hf⟩ := jB_some hf
      refine jcall_i (va_runS (As := [.int r2]) (rest := []) ⟨hx, hb, hml, hown, hts⟩ ((cK_isDigit l dC dI cI cC cL sk sv ad N r2 s3 s5 r5 hc5) _) ⟨(callB_of 1 hts (tb_good tw174) rfl rfl rfl (ht _ tw5) (ht _ tw172) (by decide +kernel) ⟨Nat.le_of_ble_eq_true rfl, Nat.le_of_ble_eq_true rfl⟩), ht _ tw173⟩ (jpreS (jEn_ok sk sv) hC hA hK hN _) rfl rfl hl.1 rfl (lv_room (Nat.le_of_ble_eq_true rfl)) dK_kindOf_32 ⟨Nat.le_refl _, Nat.le_refl _⟩) hC hA (fun H locs hC => ?_)
      refine lv_if_eq (tgt := 42) hx hb dK_kindOf_35 (by decide) (fun c6 => ?_) (fun c6 => ?_)
      · replace hf := jif_t c6 hf
        refine lv_iload_n hx hb dK_kindOf_42 rfl (lv_at hl 0 rfl) ?_
        obtain ⟨r7, s7, hc7, hf⟩ := jB_some hf
        refine jcall_i (va_runS (As := [.int r2]) (rest := []) ⟨hx, hb, hml, hown, hts⟩ ((cK_signKind l dC dI cI cC cL sk sv ad N r2 s5 s7 r7 hc7) _) ⟨(callB_of 1 hts (tb_good tw240) rfl rfl rfl (ht _ tw5) (ht _ tw238) (by decide +kernel) ⟨Nat.le_of_ble_eq_true rfl, Nat.le_of_ble_eq_true rfl⟩), ht _ tw239⟩ (jpreS (jEn_ok sk sv) hC hA hK hN _) rfl rfl hl.1 rfl (lv_room (Nat.le_of_ble_eq_true rfl)) dK_kindOf_43 ⟨Nat.le_refl _, Nat.le_refl _⟩) hC hA (fun H locs hC => ?_)
        cases hf
        exact jret_i hx hb hr hlk hC hK dK_kindOf_46
      · replace hf := jif_f c6 hf
        refine lv_iconst (v := 2) hx hb dK_kindOf_38 (by decide) ?_
        refine lv_goto (tgt := 46) hx hb dK_kindOf_39 (by decide) ?_
        cases hf
        exact jret_i hx hb hr hlk hC hK dK_kindOf_46
    · replace hf := jif_f c4 hf
      refine lv_aload_n hx hb dK_kindOf_24 rfl (lv_at hl 1 rfl) ?_
      refine lv_iload_n hx hb dK_kindOf_25 rfl (lv_at hl 2 rfl) ?_
      refine lv_iload_n hx hb dK_kindOf_26 rfl (lv_at hl 3 rfl) ?_
      obtain ⟨r8, s8, hc8, hf⟩ := jB_some hf
      refine jcall_i (va_runV (C := RcK) (As := [.int a0, .int a1]) (rest := []) ⟨hx, hb, hml, hown, hts⟩ ((cK_wordKind l dC dI cI cC cL sk sv ad N a0 a1 s3 s8 r8 hc8) _) ⟨(callB_of 2 hts (tb_good tw182) rfl rfl rfl (ht _ tw5) (ht _ tw179) (by decide +kernel) ⟨Nat.le_of_ble_eq_true rfl, Nat.le_of_ble_eq_true rfl⟩), ht _ tw181, ht _ (tb_sel pv_K_wordKind)⟩ (jpreV (jEn_ok sk sv) hC hA hK hN (wR_e2 cI cC ad s3) rfl rfl _) rfl rfl hl.1 rfl (lv_room (Nat.le_of_ble_eq_true rfl)) dK_kindOf_27 ⟨Nat.le_refl _, Nat.le_refl _⟩) hC hA (fun H locs hC => ?_)
      cases hf
      exact jret_i hx hb hr hlk hC hK dK_kindOf_30
  · replace hf := jif_f c1 hf
    refine lv_bipush (v := 17) hx hb dK_kindOf_5 (by decide) ?_
    cases hf
    exact jret_i hx hb hr hlk hC hK dK_kindOf_7

def fK_cut_b14 (N : Nat) (k14 : Int32 → Int32 → jS → Option (Int32 × jS)) (x1 x2 : Int32) (s0 : jS) : Option (Int32 × jS) := (if (61 : Int32) ≤ jgI s0 1 then some (0, s0) else (if x1 = (17 : Int32) then some (0, s0) else (jB (fK_behindBlanks N x2 s0) fun r1403 s1403 => (jB (fK_behindOwn N r1403 s1403) fun r1404 s1404 => (jB (fK_kindOf N r1403 r1404 s1404) fun r1405 s1405 => (if jIn (jgI s1405 1) 61 = true then (jL (jsA s1405 1 (jgI s1405 1).toNatClampNeg r1405) fun s1406 => (if jIn (jgI s1406 1) 61 = true then (jL (jsA s1406 2 (jgI s1406 1).toNatClampNeg r1403) fun s1407 => (if jIn (jgI s1407 1) 61 = true then (jL (jsA s1407 3 (jgI s1407 1).toNatClampNeg r1404) fun s1408 => (jL (jsI s1408 1 (jgI s1408 1 + (1 : Int32))) fun s1409 => k14 r1405 r1404 s1409)) else none)) else none)) else none))))))
def fK_cut_14 (N : Nat) : Nat → Int32 → Int32 → jS → Option (Int32 × jS)
  | 0 => fun _ _ _ => none
  | n + 1 => fun x1 x2 s0 => fK_cut_b14 N (fK_cut_14 N n) x1 x2 s0
def fK_cut (N : Nat) (z0 : jS) : Option (Int32 × jS) := (jL (jsI z0 1 (0 : Int32)) fun s1 => (jL (jsI s1 2 (0 : Int32)) fun s2 => fK_cut_14 N N (-1 : Int32) (0 : Int32) s2))
set_option maxHeartbeats 4000000 in
set_option maxRecDepth 100000 in
theorem cK_cut (l : Launch) (dC : Nat → ClassId) (dI : Nat → Nat → Nat) (cI cC cL : ClassId) (sk sv : Nat → Nat) (ad : Nat → Nat) (N : Nat) (z0 z1 : jS) (r : Int32) (hf : fK_cut N z0 = some (r, z1)) : Cv l yK_cut (Cond.code yK_cut prog_5_method_6_code 4 none :: TB) ({ frames := 7, cells := 0, slots := 0, locals := 211 }) (dC, dI) vwCl [(cI, .int), (cC, .char), (cL, .object "SharedSyntax$Letters")] (jEn sk sv) [.ref (ad 2)] (wR cI cC ad z0) (wR cI cC ad z1) := by
  refine Cv_of (cc := prog_5_method_6_code) (maxL := 4) (ret := none) (by decide) rfl (Nat.le_of_ble_eq_true rfl) ?_
  intro p e s m below meth c ls F hl hK hN hC
  obtain ⟨hx, hb, hml, hown, hts, hr, hlk⟩ := F
  have ht : ∀ w ∈ TB, w.before [.ref (ad 2)].toArray s = true := fun w h => hts w (List.mem_cons_of_mem _ h)
  have hA : ∀ q, s.heap.size ≤ q → va_A (wR cI cC ad z0) s.heap.size q := fun q h => Or.inr h
  have hl : lv_has ls 4 [(0, .ref (ad 2))] := hl
  have L14 : ∀ (n : Nat) (x1 x2 : Int32) (s0 : jS) (ls : Array Slot) (H : Heap) (locs : List Loc), lv_has ls 4 [(0, .ref (ad 2)), (1, .int x1), (2, .int x2)] → jcx (dC, dI) vwCl (va_A (wR cI cC ad z0) s.heap.size) s.heap (wR cI cC ad s0) H locs → fK_cut_14 N n x1 x2 s0 = some (r, z1) → W p l e ({ frames := 7, cells := 0, slots := 0, locals := 211 }) s m [.ref (ad 2)].toArray below meth c H locs 0 0 (MQ below (jQv (dC, dI) vwCl [(cI, .int), (cC, .char), (cL, .object "SharedSyntax$Letters")] (wR cI cC ad z0) (wR cI cC ad z1) s.heap.size) [.ref (ad 2)].toArray s 0 0 (va_A (wR cI cC ad z0) s.heap.size)) (F0 m 14 ls []) := by
    intro n
    induction n with
    | zero => exact fun _ _ _ _ _ _ _ _ hf => nomatch hf
    | succ n ih14 =>
      intro x1 x2 s0 ls H locs hl hC hf
      replace hf : fK_cut_b14 N (fK_cut_14 N n) x1 x2 s0 = some (r, z1) := hf
      generalize fK_cut_14 N n = k14 at ih14 hf
      unfold fK_cut_b14 at hf
      refine lv_aload_n hx hb dK_cut_14 rfl (lv_at hl 0 rfl) ?_
      refine va_get (D := (dC, dI)) (ci := 1) (v := .int (jgI s0 1)) (C := RcK) (T := TcK) (N := 6) hx hb ht in_cK hown hK hC.1 2 (wR_e2 cI cC ad s0) rfl 4 (by decide) (ht _ tw97) (fun _ h9 => h9) rfl dK_cut_15 ?_
      refine lv_bipush (v := 61) hx hb dK_cut_18 (by decide) ?_
      refine lv_icmp_ge (tgt := 91) hx hb dK_cut_20 (by decide) (fun c1401 => ?_) (fun c1401 => ?_)
      · replace hf := jif_t c1401 hf
        cases hf
        exact jret_v hx hb hr hlk hC hK dK_cut_91
      · replace hf := jif_f c1401 hf
        refine lv_iload_n hx hb dK_cut_23 rfl (lv_at hl 1 rfl) ?_
        refine lv_bipush (v := 17) hx hb dK_cut_24 (by decide) ?_
        refine lv_icmp_eq (tgt := 91) hx hb dK_cut_26 (by decide) (fun c1402 => ?_) (fun c1402 => ?_)
        · replace hf := jif_t c1402 hf
          cases hf
          exact jret_v hx hb hr hlk hC hK dK_cut_91
        · replace hf := jif_f c1402 hf
          refine lv_aload_n hx hb dK_cut_29 rfl (lv_at hl 0 rfl) ?_
          refine lv_iload_n hx hb dK_cut_30 rfl (lv_at hl 2 rfl) ?_
          obtain ⟨r1403, s1403, hc1403, hf⟩ := jB_some hf
          refine jcall_i (va_runV (C := RcK) (As := [.int x2]) (rest := []) ⟨hx, hb, hml, hown, hts⟩ ((cK_behindBlanks l dC dI cI cC cL sk sv ad N x2 s0 s1403 r1403 hc1403) _) ⟨(callB_of 1 hts (tb_good tw160) rfl rfl rfl (ht _ tw5) (ht _ tw157) (by decide +kernel) ⟨Nat.le_of_ble_eq_true rfl, Nat.le_of_ble_eq_true rfl⟩), ht _ tw159, ht _ (tb_sel pv_K_behindBlanks)⟩ (jpreV (jEn_ok sk sv) hC hA hK hN (wR_e2 cI cC ad s0) rfl rfl _) rfl rfl hl.1 rfl (lv_room (Nat.le_of_ble_eq_true rfl)) dK_cut_31 ⟨Nat.le_refl _, Nat.le_refl _⟩) hC hA (fun H locs hC => ?_)
          refine lv_istore_n (lv' := [(3, .int r1403), (0, .ref (ad 2)), (1, .int x1), (2, .int x2)]) hx hb dK_cut_34 rfl hl (by decide) rfl (fun ls hl => ?_)
          refine lv_aload_n hx hb dK_cut_35 rfl (lv_at hl 1 rfl) ?_
          refine lv_iload_n hx hb dK_cut_36 rfl (lv_at hl 0 rfl) ?_
          obtain ⟨r1404, s1404, hc1404, hf⟩ := jB_some hf
          refine jcall_i (va_runV (C := RcK) (As := [.int r1403]) (rest := []) ⟨hx, hb, hml, hown, hts⟩ ((cK_behindOwn l dC dI cI cC cL sk sv ad N r1403 s1403 s1404 r1404 hc1404) _) ⟨(callB_of 1 hts (tb_good tw168) rfl rfl rfl (ht _ tw5) (ht _ tw165) (by decide +kernel) ⟨Nat.le_of_ble_eq_true rfl, Nat.le_of_ble_eq_true rfl⟩), ht _ tw167, ht _ (tb_sel pv_K_behindOwn)⟩ (jpreV (jEn_ok sk sv) hC hA hK hN (wR_e2 cI cC ad s1403) rfl rfl _) rfl rfl hl.1 rfl (lv_room (Nat.le_of_ble_eq_true rfl)) dK_cut_37 ⟨Nat.le_refl _, Nat.le_refl _⟩) hC hA (fun H locs hC => ?_)
          refine lv_istore_n (lv' := [(2, .int r1404), (3, .int r1403), (0, .ref (ad 2)), (1, .int x1)]) hx hb dK_cut_40 rfl hl (by decide) rfl (fun ls hl => ?_)
          refine lv_aload_n hx hb dK_cut_41 rfl (lv_at hl 2 rfl) ?_
          refine lv_iload_n hx hb dK_cut_42 rfl (lv_at hl 1 rfl) ?_
          refine lv_iload_n hx hb dK_cut_43 rfl (lv_at hl 0 rfl) ?_
          obtain ⟨r1405, s1405, hc1405, hf⟩ := jB_some hf
          refine jcall_i (va_runV (C := RcK) (As := [.int r1403, .int r1404]) (rest := []) ⟨hx, hb, hml, hown, hts⟩ ((cK_kindOf l dC dI cI cC cL sk sv ad N r1403 r1404 s1404 s1405 r1405 hc1405) _) ⟨(callB_of 2 hts (tb_good tw178) rfl rfl rfl (ht _ tw5) (ht _ tw175) (by decide +kernel) ⟨Nat.le_of_ble_eq_true rfl, Nat.le_of_ble_eq_true rfl⟩), ht _ tw177, ht _ (tb_sel pv_K_kindOf)⟩ (jpreV (jEn_ok sk sv) hC hA hK hN (wR_e2 cI cC ad s1404) rfl rfl _) rfl rfl hl.1 rfl (lv_room (Nat.le_of_ble_eq_true rfl)) dK_cut_44 ⟨Nat.le_refl _, Nat.le_refl _⟩) hC hA (fun H locs hC => ?_)
          refine lv_istore_n (lv' := [(1, .int r1405), (2, .int r1404), (3, .int r1403), (0, .ref (ad 2))]) hx hb dK_cut_47 rfl hl (by decide) rfl (fun ls hl => ?_)
          refine lv_aload_n hx hb dK_cut_48 rfl (lv_at hl 3 rfl) ?_
          refine va_get (D := (dC, dI)) (ci := 1) (v := .ref (ad 5)) (C := RcK) (T := TcK) (N := 6) hx hb ht in_cK hown hK hC.1 2 (wR_e2 cI cC ad s1405) rfl 1 (by decide) (ht _ tw94) (fun _ h9 => h9) rfl dK_cut_49 ?_
          refine lv_aload_n hx hb dK_cut_52 rfl (lv_at hl 3 rfl) ?_
          refine va_get (D := (dC, dI)) (ci := 1) (v := .int (jgI s1405 1)) (C := RcK) (T := TcK) (N := 6) hx hb ht in_cK hown hK hC.1 2 (wR_e2 cI cC ad s1405) rfl 4 (by decide) (ht _ tw97) (fun _ h9 => h9) rfl dK_cut_53 ?_
          refine lv_iload_n hx hb dK_cut_56 rfl (lv_at hl 0 rfl) ?_
          obtain ⟨hi1406, hf⟩ := jC_in hf
          obtain ⟨s1406, e1406, hf⟩ := jL_s hf
          refine jast_i hx hb hK hC 5 0 (wR_e5 cI cC ad s1405) rfl hi1406 dK_cut_57 ((wR_a1 cI cC ad s1405 _ _).trans (congrArg (wR cI cC ad) e1406.symm)) (fun H locs hC => ?_)
          refine lv_aload_n hx hb dK_cut_58 rfl (lv_at hl 3 rfl) ?_
          refine va_get (D := (dC, dI)) (ci := 1) (v := .ref (ad 6)) (C := RcK) (T := TcK) (N := 6) hx hb ht in_cK hown hK hC.1 2 (wR_e2 cI cC ad s1406) rfl 2 (by decide) (ht _ tw95) (fun _ h9 => h9) rfl dK_cut_59 ?_
          refine lv_aload_n hx hb dK_cut_62 rfl (lv_at hl 3 rfl) ?_
          refine va_get (D := (dC, dI)) (ci := 1) (v := .int (jgI s1406 1)) (C := RcK) (T := TcK) (N := 6) hx hb ht in_cK hown hK hC.1 2 (wR_e2 cI cC ad s1406) rfl 4 (by decide) (ht _ tw97) (fun _ h9 => h9) rfl dK_cut_63 ?_
          refine lv_iload_n hx hb dK_cut_66 rfl (lv_at hl 2 rfl) ?_
          obtain ⟨hi1407, hf⟩ := jC_in hf
          obtain ⟨s1407, e1407, hf⟩ := jL_s hf
          refine jast_i hx hb hK hC 6 0 (wR_e6 cI cC ad s1406) rfl hi1407 dK_cut_67 ((wR_a2 cI cC ad s1406 _ _).trans (congrArg (wR cI cC ad) e1407.symm)) (fun H locs hC => ?_)
          refine lv_aload_n hx hb dK_cut_68 rfl (lv_at hl 3 rfl) ?_
          refine va_get (D := (dC, dI)) (ci := 1) (v := .ref (ad 7)) (C := RcK) (T := TcK) (N := 6) hx hb ht in_cK hown hK hC.1 2 (wR_e2 cI cC ad s1407) rfl 3 (by decide) (ht _ tw96) (fun _ h9 => h9) rfl dK_cut_69 ?_
          refine lv_aload_n hx hb dK_cut_72 rfl (lv_at hl 3 rfl) ?_
          refine va_get (D := (dC, dI)) (ci := 1) (v := .int (jgI s1407 1)) (C := RcK) (T := TcK) (N := 6) hx hb ht in_cK hown hK hC.1 2 (wR_e2 cI cC ad s1407) rfl 4 (by decide) (ht _ tw97) (fun _ h9 => h9) rfl dK_cut_73 ?_
          refine lv_iload_n hx hb dK_cut_76 rfl (lv_at hl 1 rfl) ?_
          obtain ⟨hi1408, hf⟩ := jC_in hf
          obtain ⟨s1408, e1408, hf⟩ := jL_s hf
          refine jast_i hx hb hK hC 7 0 (wR_e7 cI cC ad s1407) rfl hi1408 dK_cut_77 ((wR_a3 cI cC ad s1407 _ _).trans (congrArg (wR cI cC ad) e1408.symm)) (fun H locs hC => ?_)
          refine lv_aload_n hx hb dK_cut_78 rfl (lv_at hl 3 rfl) ?_
          refine lv_dup hx hb dK_cut_79 rfl ?_
          refine va_get (D := (dC, dI)) (ci := 1) (v := .int (jgI s1408 1)) (C := RcK) (T := TcK) (N := 6) hx hb ht in_cK hown hK hC.1 2 (wR_e2 cI cC ad s1408) rfl 4 (by decide) (ht _ tw97) (fun _ h9 => h9) rfl dK_cut_80 ?_
          refine lv_iconst (v := 1) hx hb dK_cut_83 (by decide) ?_
          refine lv_iadd hx hb dK_cut_84 ?_
          obtain ⟨s1409, e1409, hf⟩ := jL_s hf
          refine jput (ci := 1) (C := RcK) (T := TcK) (N := 6) hx hb ht in_cK tycK tycK_ok nmcK hown hK hC 2 (wR_e2 cI cC ad s1408) rfl 4 (by decide) (ht _ tw97) (fun _ h9 => h9) rfl rfl (Nat.le_of_ble_eq_true rfl) dK_cut_85 ((wR_p1 cI cC ad s1408 _).trans (congrArg (wR cI cC ad) e1409.symm)) (fun H locs hC => ?_)
          refine lv_goto (tgt := 14) hx hb dK_cut_88 (by decide) ?_
          exact ih14 r1405 r1404 s1409 ls _ _ (lv_sub hl [3, 0, 1] rfl) hC hf
  unfold fK_cut at hf
  refine lv_aload_n hx hb dK_cut_0 rfl (lv_at hl 0 rfl) ?_
  refine lv_iconst (v := 0) hx hb dK_cut_1 (by decide) ?_
  obtain ⟨s1, e1, hf⟩ := jL_s hf
  refine jput (ci := 1) (C := RcK) (T := TcK) (N := 6) hx hb ht in_cK tycK tycK_ok nmcK hown hK hC 2 (wR_e2 cI cC ad z0) rfl 4 (by decide) (ht _ tw97) (fun _ h9 => h9) rfl rfl (Nat.le_of_ble_eq_true rfl) dK_cut_2 ((wR_p1 cI cC ad z0 _).trans (congrArg (wR cI cC ad) e1.symm)) (fun H locs hC => ?_)
  refine lv_aload_n hx hb dK_cut_5 rfl (lv_at hl 0 rfl) ?_
  refine lv_iconst (v := 0) hx hb dK_cut_6 (by decide) ?_
  obtain ⟨s2, e2, hf⟩ := jL_s hf
  refine jput (ci := 1) (C := RcK) (T := TcK) (N := 6) hx hb ht in_cK tycK tycK_ok nmcK hown hK hC 2 (wR_e2 cI cC ad s1) rfl 5 (by decide) (ht _ tw98) (fun _ h9 => h9) rfl rfl (Nat.le_of_ble_eq_true rfl) dK_cut_7 ((wR_p2 cI cC ad s1 _).trans (congrArg (wR cI cC ad) e2.symm)) (fun H locs hC => ?_)
  refine lv_iconst (v := -1) hx hb dK_cut_10 (by decide) ?_
  refine lv_istore_n (lv' := [(1, .int (-1 : Int32)), (0, .ref (ad 2))]) hx hb dK_cut_11 rfl hl (by decide) rfl (fun ls hl => ?_)
  refine lv_iconst (v := 0) hx hb dK_cut_12 (by decide) ?_
  refine lv_istore_n (lv' := [(2, .int (0 : Int32)), (1, .int (-1 : Int32)), (0, .ref (ad 2))]) hx hb dK_cut_13 rfl hl (by decide) rfl (fun ls hl => ?_)
  exact L14 N (-1 : Int32) (0 : Int32) s2 ls _ _ (lv_sub hl [2, 1, 0] rfl) hC hf

def fT_add (N : Nat) (a0 a1 a2 : Int32) (z0 : jS) : Option (Int32 × jS) := (if jgI z0 3 < (362 : Int32) then (if jIn (jgI z0 3) 363 = true then (jL (jsA z0 4 (jgI z0 3).toNatClampNeg a0) fun s2 => (if jIn (jgI s2 3) 363 = true then (jL (jsA s2 5 (jgI s2 3).toNatClampNeg (1 : Int32)) fun s3 => (if jIn (jgI s3 3) 363 = true then (jL (jsA s3 6 (jgI s3 3).toNatClampNeg a1) fun s4 => (if jIn (jgI s4 3) 363 = true then (jL (jsA s4 7 (jgI s4 3).toNatClampNeg a2) fun s5 => (if jIn (jgI s5 3) 363 = true then (jL (jsA s5 8 (jgI s5 3).toNatClampNeg (jgI s5 4)) fun s6 => (jL (jsI s6 3 (jgI s6 3 + (1 : Int32))) fun s7 => some ((jgI s7 3 - (1 : Int32)), s7))) else none)) else none)) else none)) else none)) else none) else some ((361 : Int32), z0))
set_option maxHeartbeats 4000000 in
set_option maxRecDepth 100000 in
theorem cT_add (l : Launch) (dC : Nat → ClassId) (dI : Nat → Nat → Nat) (cI cC cL : ClassId) (sk sv : Nat → Nat) (ad : Nat → Nat) (N : Nat) (a0 a1 a2 : Int32) (z0 z1 : jS) (r : Int32) (hf : fT_add N a0 a1 a2 z0 = some (r, z1)) : Ci l yT_add (Cond.code yT_add prog_6_method_3_code 4 (some .int) :: TB) ({ frames := 0, cells := 0, slots := 0, locals := 0 }) (dC, dI) vwCl [(cI, .int), (cC, .char), (cL, .object "SharedSyntax$Letters")] (jEn sk sv) [.ref (ad 1), .int a0, .int a1, .int a2] (wR cI cC ad z0) (wR cI cC ad z1) r := by
  refine Ci_of (cc := prog_6_method_3_code) (maxL := 4) (ret := (some .int)) (by decide) rfl (Nat.le_of_ble_eq_true rfl) ?_
  intro p e s m below meth c ls F hl hK hN hC
  obtain ⟨hx, hb, hml, hown, hts, hr, hlk⟩ := F
  have ht : ∀ w ∈ TB, w.before [.ref (ad 1), .int a0, .int a1, .int a2].toArray s = true := fun w h => hts w (List.mem_cons_of_mem _ h)
  have hA : ∀ q, s.heap.size ≤ q → va_A (wR cI cC ad z0) s.heap.size q := fun q h => Or.inr h
  have hl : lv_has ls 4 [(0, .ref (ad 1)), (1, .int a0), (2, .int a1), (3, .int a2)] := hl
  unfold fT_add at hf
  refine lv_aload_n hx hb dT_add_0 rfl (lv_at hl 0 rfl) ?_
  refine va_get (D := (dC, dI)) (ci := 2) (v := .int (jgI z0 3)) (C := RcT) (T := TcT) (N := 9) hx hb ht in_cT hown hK hC.1 1 (wR_e1 cI cC ad z0) rfl 7 (by decide) (ht _ tw63) (fun _ h9 => h9) rfl dT_add_1 ?_
  refine lv_sipush (v := 362) hx hb dT_add_4 (by decide) ?_
  refine lv_icmp_lt (tgt := 14) hx hb dT_add_7 (by decide) (fun c1 => ?_) (fun c1 => ?_)
  · replace hf := jif_t c1 hf
    refine lv_aload_n hx hb dT_add_14 rfl (lv_at hl 0 rfl) ?_
    refine va_get (D := (dC, dI)) (ci := 2) (v := .ref (ad 8)) (C := RcT) (T := TcT) (N := 9) hx hb ht in_cT hown hK hC.1 1 (wR_e1 cI cC ad z0) rfl 1 (by decide) (ht _ tw53) (fun _ h9 => h9) rfl dT_add_15 ?_
    refine lv_aload_n hx hb dT_add_18 rfl (lv_at hl 0 rfl) ?_
    refine va_get (D := (dC, dI)) (ci := 2) (v := .int (jgI z0 3)) (C := RcT) (T := TcT) (N := 9) hx hb ht in_cT hown hK hC.1 1 (wR_e1 cI cC ad z0) rfl 7 (by decide) (ht _ tw63) (fun _ h9 => h9) rfl dT_add_19 ?_
    refine lv_iload_n hx hb dT_add_22 rfl (lv_at hl 1 rfl) ?_
    obtain ⟨hi2, hf⟩ := jC_in hf
    obtain ⟨s2, e2, hf⟩ := jL_s hf
    refine jast_i hx hb hK hC 8 0 (wR_e8 cI cC ad z0) rfl hi2 dT_add_23 ((wR_a4 cI cC ad z0 _ _).trans (congrArg (wR cI cC ad) e2.symm)) (fun H locs hC => ?_)
    refine lv_aload_n hx hb dT_add_24 rfl (lv_at hl 0 rfl) ?_
    refine va_get (D := (dC, dI)) (ci := 2) (v := .ref (ad 9)) (C := RcT) (T := TcT) (N := 9) hx hb ht in_cT hown hK hC.1 1 (wR_e1 cI cC ad s2) rfl 2 (by decide) (ht _ tw55) (fun _ h9 => h9) rfl dT_add_25 ?_
    refine lv_aload_n hx hb dT_add_28 rfl (lv_at hl 0 rfl) ?_
    refine va_get (D := (dC, dI)) (ci := 2) (v := .int (jgI s2 3)) (C := RcT) (T := TcT) (N := 9) hx hb ht in_cT hown hK hC.1 1 (wR_e1 cI cC ad s2) rfl 7 (by decide) (ht _ tw63) (fun _ h9 => h9) rfl dT_add_29 ?_
    refine lv_iconst (v := 1) hx hb dT_add_32 (by decide) ?_
    obtain ⟨hi3, hf⟩ := jC_in hf
    obtain ⟨s3, e3, hf⟩ := jL_s hf
    refine jast_i hx hb hK hC 9 0 (wR_e9 cI cC ad s2) rfl hi3 dT_add_33 ((wR_a5 cI cC ad s2 _ _).trans (congrArg (wR cI cC ad) e3.symm)) (fun H locs hC => ?_)
    refine lv_aload_n hx hb dT_add_34 rfl (lv_at hl 0 rfl) ?_
    refine va_get (D := (dC, dI)) (ci := 2) (v := .ref (ad 10)) (C := RcT) (T := TcT) (N := 9) hx hb ht in_cT hown hK hC.1 1 (wR_e1 cI cC ad s3) rfl 3 (by decide) (ht _ tw57) (fun _ h9 => h9) rfl dT_add_35 ?_
    refine lv_aload_n hx hb dT_add_38 rfl (lv_at hl 0 rfl) ?_
    refine va_get (D := (dC, dI)) (ci := 2) (v := .int (jgI s3 3)) (C := RcT) (T := TcT) (N := 9) hx hb ht in_cT hown hK hC.1 1 (wR_e1 cI cC ad s3) rfl 7 (by decide) (ht _ tw63) (fun _ h9 => h9) rfl dT_add_39 ?_
    refine lv_iload_n hx hb dT_add_42 rfl (lv_at hl 2 rfl) ?_
    obtain ⟨hi4, hf⟩ := jC_in hf
    obtain ⟨s4, e4, hf⟩ := jL_s hf
    refine jast_i hx hb hK hC 10 0 (wR_e10 cI cC ad s3) rfl hi4 dT_add_43 ((wR_a6 cI cC ad s3 _ _).trans (congrArg (wR cI cC ad) e4.symm)) (fun H locs hC => ?_)
    refine lv_aload_n hx hb dT_add_44 rfl (lv_at hl 0 rfl) ?_
    refine va_get (D := (dC, dI)) (ci := 2) (v := .ref (ad 11)) (C := RcT) (T := TcT) (N := 9) hx hb ht in_cT hown hK hC.1 1 (wR_e1 cI cC ad s4) rfl 4 (by decide) (ht _ tw59) (fun _ h9 => h9) rfl dT_add_45 ?_
    refine lv_aload_n hx hb dT_add_48 rfl (lv_at hl 0 rfl) ?_
    refine va_get (D := (dC, dI)) (ci := 2) (v := .int (jgI s4 3)) (C := RcT) (T := TcT) (N := 9) hx hb ht in_cT hown hK hC.1 1 (wR_e1 cI cC ad s4) rfl 7 (by decide) (ht _ tw63) (fun _ h9 => h9) rfl dT_add_49 ?_
    refine lv_iload_n hx hb dT_add_52 rfl (lv_at hl 3 rfl) ?_
    obtain ⟨hi5, hf⟩ := jC_in hf
    obtain ⟨s5, e5, hf⟩ := jL_s hf
    refine jast_i hx hb hK hC 11 0 (wR_e11 cI cC ad s4) rfl hi5 dT_add_53 ((wR_a7 cI cC ad s4 _ _).trans (congrArg (wR cI cC ad) e5.symm)) (fun H locs hC => ?_)
    refine lv_aload_n hx hb dT_add_54 rfl (lv_at hl 0 rfl) ?_
    refine va_get (D := (dC, dI)) (ci := 2) (v := .ref (ad 12)) (C := RcT) (T := TcT) (N := 9) hx hb ht in_cT hown hK hC.1 1 (wR_e1 cI cC ad s5) rfl 5 (by decide) (ht _ tw60) (fun _ h9 => h9) rfl dT_add_55 ?_
    refine lv_aload_n hx hb dT_add_58 rfl (lv_at hl 0 rfl) ?_
    refine va_get (D := (dC, dI)) (ci := 2) (v := .int (jgI s5 3)) (C := RcT) (T := TcT) (N := 9) hx hb ht in_cT hown hK hC.1 1 (wR_e1 cI cC ad s5) rfl 7 (by decide) (ht _ tw63) (fun _ h9 => h9) rfl dT_add_59 ?_
    refine lv_aload_n hx hb dT_add_62 rfl (lv_at hl 0 rfl) ?_
    refine va_get (D := (dC, dI)) (ci := 2) (v := .int (jgI s5 4)) (C := RcT) (T := TcT) (N := 9) hx hb ht in_cT hown hK hC.1 1 (wR_e1 cI cC ad s5) rfl 8 (by decide) (ht _ tw66) (fun _ h9 => h9) rfl dT_add_63 ?_
    obtain ⟨hi6, hf⟩ := jC_in hf
    obtain ⟨s6, e6, hf⟩ := jL_s hf
    refine jast_i hx hb hK hC 12 0 (wR_e12 cI cC ad s5) rfl hi6 dT_add_66 ((wR_a8 cI cC ad s5 _ _).trans (congrArg (wR cI cC ad) e6.symm)) (fun H locs hC => ?_)
    refine lv_aload_n hx hb dT_add_67 rfl (lv_at hl 0 rfl) ?_
    refine lv_dup hx hb dT_add_68 rfl ?_
    refine va_get (D := (dC, dI)) (ci := 2) (v := .int (jgI s6 3)) (C := RcT) (T := TcT) (N := 9) hx hb ht in_cT hown hK hC.1 1 (wR_e1 cI cC ad s6) rfl 7 (by decide) (ht _ tw63) (fun _ h9 => h9) rfl dT_add_69 ?_
    refine lv_iconst (v := 1) hx hb dT_add_72 (by decide) ?_
    refine lv_iadd hx hb dT_add_73 ?_
    obtain ⟨s7, e7, hf⟩ := jL_s hf
    refine jput (ci := 2) (C := RcT) (T := TcT) (N := 9) hx hb ht in_cT tycT tycT_ok nmcT hown hK hC 1 (wR_e1 cI cC ad s6) rfl 7 (by decide) (ht _ tw63) (fun _ h9 => h9) rfl rfl (Nat.le_of_ble_eq_true rfl) dT_add_74 ((wR_p3 cI cC ad s6 _).trans (congrArg (wR cI cC ad) e7.symm)) (fun H locs hC => ?_)
    refine lv_aload_n hx hb dT_add_77 rfl (lv_at hl 0 rfl) ?_
    refine va_get (D := (dC, dI)) (ci := 2) (v := .int (jgI s7 3)) (C := RcT) (T := TcT) (N := 9) hx hb ht in_cT hown hK hC.1 1 (wR_e1 cI cC ad s7) rfl 7 (by decide) (ht _ tw63) (fun _ h9 => h9) rfl dT_add_78 ?_
    refine lv_iconst (v := 1) hx hb dT_add_81 (by decide) ?_
    refine lv_isub hx hb dT_add_82 ?_
    cases hf
    exact jret_i hx hb hr hlk hC hK dT_add_83
  · replace hf := jif_f c1 hf
    refine lv_sipush (v := 361) hx hb dT_add_10 (by decide) ?_
    cases hf
    exact jret_i hx hb hr hlk hC hK dT_add_13

def fR_begin (N : Nat) (a0 : Int32) (z0 : jS) : Option (Int32 × jS) := (jB (fT_add N a0 (jgI z0 5) (jgI z0 5) z0) fun r1 s1 => some (r1, s1))
set_option maxHeartbeats 4000000 in
set_option maxRecDepth 100000 in
theorem cR_begin (l : Launch) (dC : Nat → ClassId) (dI : Nat → Nat → Nat) (cI cC cL : ClassId) (sk sv : Nat → Nat) (ad : Nat → Nat) (N : Nat) (a0 : Int32) (z0 z1 : jS) (r : Int32) (hf : fR_begin N a0 z0 = some (r, z1)) : Ci l yR_begin (Cond.code yR_begin prog_4_method_3_code 2 (some .int) :: TB) ({ frames := 1, cells := 0, slots := 0, locals := 23 }) (dC, dI) vwCl [(cI, .int), (cC, .char), (cL, .object "SharedSyntax$Letters")] (jEn sk sv) [.ref (ad 0), .int a0] (wR cI cC ad z0) (wR cI cC ad z1) r := by
  refine Ci_of (cc := prog_4_method_3_code) (maxL := 2) (ret := (some .int)) (by decide) rfl (Nat.le_of_ble_eq_true rfl) ?_
  intro p e s m below meth c ls F hl hK hN hC
  obtain ⟨hx, hb, hml, hown, hts, hr, hlk⟩ := F
  have ht : ∀ w ∈ TB, w.before [.ref (ad 0), .int a0].toArray s = true := fun w h => hts w (List.mem_cons_of_mem _ h)
  have hA : ∀ q, s.heap.size ≤ q → va_A (wR cI cC ad z0) s.heap.size q := fun q h => Or.inr h
  have hl : lv_has ls 2 [(0, .ref (ad 0)), (1, .int a0)] := hl
  unfold fR_begin at hf
  refine lv_aload_n hx hb dR_begin_0 rfl (lv_at hl 0 rfl) ?_
  refine va_get (D := (dC, dI)) (ci := 3) (v := .ref (ad 1)) (C := RcR) (T := TcR) (N := 10) hx hb ht in_cR hown hK hC.1 0 (wR_e0 cI cC ad z0) rfl 1 (by decide) (ht _ tw114) (fun _ h9 => h9) rfl dR_begin_1 ?_
  refine lv_iload_n hx hb dR_begin_4 rfl (lv_at hl 1 rfl) ?_
  refine lv_aload_n hx hb dR_begin_5 rfl (lv_at hl 0 rfl) ?_
  refine va_get (D := (dC, dI)) (ci := 3) (v := .int (jgI z0 5)) (C := RcR) (T := TcR) (N := 10) hx hb ht in_cR hown hK hC.1 0 (wR_e0 cI cC ad z0) rfl 3 (by decide) (ht _ tw117) (fun _ h9 => h9) rfl dR_begin_6 ?_
  refine lv_aload_n hx hb dR_begin_9 rfl (lv_at hl 0 rfl) ?_
  refine va_get (D := (dC, dI)) (ci := 3) (v := .int (jgI z0 5)) (C := RcR) (T := TcR) (N := 10) hx hb ht in_cR hown hK hC.1 0 (wR_e0 cI cC ad z0) rfl 3 (by decide) (ht _ tw117) (fun _ h9 => h9) rfl dR_begin_10 ?_
  obtain ⟨r1, s1, hc1, hf⟩ := jB_some hf
  refine jcall_i (va_runV (C := RcT) (As := [.int a0, .int (jgI z0 5), .int (jgI z0 5)]) (rest := []) ⟨hx, hb, hml, hown, hts⟩ ((cT_add l dC dI cI cC cL sk sv ad N a0 (jgI z0 5) (jgI z0 5) z0 s1 r1 hc1) _) ⟨(callB_of 3 hts (tb_good tw308) rfl rfl rfl (ht _ tw4) (ht _ tw305) (by decide +kernel) ⟨Nat.le_of_ble_eq_true rfl, Nat.le_of_ble_eq_true rfl⟩), ht _ tw306, ht _ tw307⟩ (jpreV (jEn_ok sk sv) hC hA hK hN (wR_e1 cI cC ad z0) rfl rfl _) rfl rfl hl.1 rfl (lv_room (Nat.le_of_ble_eq_true rfl)) dR_begin_13 ⟨Nat.le_refl _, Nat.le_refl _⟩) hC hA (fun H locs hC => ?_)
  cases hf
  exact jret_i hx hb hr hlk hC hK dR_begin_16

def fK_kind (N : Nat) (z0 : jS) : Option (Int32 × jS) := (if jgI z0 1 ≤ jgI z0 2 then some ((17 : Int32), z0) else (if jIn (jgI z0 2) 61 = true then some (jgA z0 1 (jgI z0 2).toNatClampNeg, z0) else none))
set_option maxHeartbeats 4000000 in
set_option maxRecDepth 100000 in
theorem cK_kind (l : Launch) (dC : Nat → ClassId) (dI : Nat → Nat → Nat) (cI cC cL : ClassId) (sk sv : Nat → Nat) (ad : Nat → Nat) (N : Nat) (z0 z1 : jS) (r : Int32) (hf : fK_kind N z0 = some (r, z1)) : Ci l yK_kind (Cond.code yK_kind prog_5_method_2_code 1 (some .int) :: TB) ({ frames := 0, cells := 0, slots := 0, locals := 0 }) (dC, dI) vwCl [(cI, .int), (cC, .char), (cL, .object "SharedSyntax$Letters")] (jEn sk sv) [.ref (ad 2)] (wR cI cC ad z0) (wR cI cC ad z1) r := by
  refine Ci_of (cc := prog_5_method_2_code) (maxL := 1) (ret := (some .int)) (by decide) rfl (Nat.le_of_ble_eq_true rfl) ?_
  intro p e s m below meth c ls F hl hK hN hC
  obtain ⟨hx, hb, hml, hown, hts, hr, hlk⟩ := F
  have ht : ∀ w ∈ TB, w.before [.ref (ad 2)].toArray s = true := fun w h => hts w (List.mem_cons_of_mem _ h)
  have hA : ∀ q, s.heap.size ≤ q → va_A (wR cI cC ad z0) s.heap.size q := fun q h => Or.inr h
  have hl : lv_has ls 1 [(0, .ref (ad 2))] := hl
  unfold fK_kind at hf
  refine lv_aload_n hx hb dK_kind_0 rfl (lv_at hl 0 rfl) ?_
  refine va_get (D := (dC, dI)) (ci := 1) (v := .int (jgI z0 2)) (C := RcK) (T := TcK) (N := 6) hx hb ht in_cK hown hK hC.1 2 (wR_e2 cI cC ad z0) rfl 5 (by decide) (ht _ tw98) (fun _ h9 => h9) rfl dK_kind_1 ?_
  refine lv_aload_n hx hb dK_kind_4 rfl (lv_at hl 0 rfl) ?_
  refine va_get (D := (dC, dI)) (ci := 1) (v := .int (jgI z0 1)) (C := RcK) (T := TcK) (N := 6) hx hb ht in_cK hown hK hC.1 2 (wR_e2 cI cC ad z0) rfl 4 (by decide) (ht _ tw97) (fun _ h9 => h9) rfl dK_kind_5 ?_
  refine lv_icmp_ge (tgt := 23) hx hb dK_kind_8 (by decide) (fun c1 => ?_) (fun c1 => ?_)
  · replace hf := jif_t c1 hf
    refine lv_bipush (v := 17) hx hb dK_kind_23 (by decide) ?_
    cases hf
    exact jret_i hx hb hr hlk hC hK dK_kind_25
  · replace hf := jif_f c1 hf
    refine lv_aload_n hx hb dK_kind_11 rfl (lv_at hl 0 rfl) ?_
    refine va_get (D := (dC, dI)) (ci := 1) (v := .ref (ad 5)) (C := RcK) (T := TcK) (N := 6) hx hb ht in_cK hown hK hC.1 2 (wR_e2 cI cC ad z0) rfl 1 (by decide) (ht _ tw94) (fun _ h9 => h9) rfl dK_kind_12 ?_
    refine lv_aload_n hx hb dK_kind_15 rfl (lv_at hl 0 rfl) ?_
    refine va_get (D := (dC, dI)) (ci := 1) (v := .int (jgI z0 2)) (C := RcK) (T := TcK) (N := 6) hx hb ht in_cK hown hK hC.1 2 (wR_e2 cI cC ad z0) rfl 5 (by decide) (ht _ tw98) (fun _ h9 => h9) rfl dK_kind_16 ?_
    obtain ⟨hi2, hf⟩ := jC_in hf
    refine va_iald hx hb hK hC.1 5 0 (wR_e5 cI cC ad z0) rfl hi2 dK_kind_19 ?_
    refine lv_goto (tgt := 25) hx hb dK_kind_20 (by decide) ?_
    cases hf
    exact jret_i hx hb hr hlk hC hK dK_kind_25

def fR_listEnds_9 (N : Nat) (y0 : Int32) (s0 : jS) : Option (Int32 × jS) := (jB (fK_kind N s0) fun r901 s901 => (if r901 = (17 : Int32) then some ((1 : Int32), s901) else (if y0 = 0 then some ((0 : Int32), s901) else (jB (fK_kind N s901) fun r904 s904 => (if r904 = (8 : Int32) then some ((1 : Int32), s904) else some ((0 : Int32), s904))))))
def fR_listEnds (N : Nat) (a0 : Int32) (z0 : jS) : Option (Int32 × jS) := (if a0 ≤ 0 then fR_listEnds_9 N (0 : Int32) z0 else fR_listEnds_9 N (1 : Int32) z0)
set_option maxHeartbeats 4000000 in
set_option maxRecDepth 100000 in
theorem cR_listEnds (l : Launch) (dC : Nat → ClassId) (dI : Nat → Nat → Nat) (cI cC cL : ClassId) (sk sv : Nat → Nat) (ad : Nat → Nat) (N : Nat) (a0 : Int32) (z0 z1 : jS) (r : Int32) (hf : fR_listEnds N a0 z0 = some (r, z1)) : Ci l yR_listEnds (Cond.code yR_listEnds prog_4_method_9_code 3 (some .boolean) :: TB) ({ frames := 1, cells := 0, slots := 0, locals := 20 }) (dC, dI) vwCl [(cI, .int), (cC, .char), (cL, .object "SharedSyntax$Letters")] (jEn sk sv) [.ref (ad 0), .int a0] (wR cI cC ad z0) (wR cI cC ad z1) r := by
  refine Ci_of (cc := prog_4_method_9_code) (maxL := 3) (ret := (some .boolean)) (by decide) rfl (Nat.le_of_ble_eq_true rfl) ?_
  intro p e s m below meth c ls F hl hK hN hC
  obtain ⟨hx, hb, hml, hown, hts, hr, hlk⟩ := F
  have ht : ∀ w ∈ TB, w.before [.ref (ad 0), .int a0].toArray s = true := fun w h => hts w (List.mem_cons_of_mem _ h)
  have hA : ∀ q, s.heap.size ≤ q → va_A (wR cI cC ad z0) s.heap.size q := fun q h => Or.inr h
  have hl : lv_has ls 3 [(0, .ref (ad 0)), (1, .int a0)] := hl
  have L9 : ∀ (y0 : Int32) (s0 : jS) (ls : Array Slot) (H : Heap) (locs : List Loc), lv_has ls 3 [(0, .ref (ad 0))] → jcx (dC, dI) vwCl (va_A (wR cI cC ad z0) s.heap.size) s.heap (wR cI cC ad s0) H locs → fR_listEnds_9 N y0 s0 = some (r, z1) → W p l e ({ frames := 1, cells := 0, slots := 0, locals := 20 }) s m [.ref (ad 0), .int a0].toArray below meth c H locs 0 0 (MQ below (jQi (dC, dI) vwCl [(cI, .int), (cC, .char), (cL, .object "SharedSyntax$Letters")] (wR cI cC ad z0) (wR cI cC ad z1) s.heap.size r) [.ref (ad 0), .int a0].toArray s 0 0 (va_A (wR cI cC ad z0) s.heap.size)) (F0 m 9 ls [.int y0]) := by
    intro y0 s0 ls H locs hl hC hf
    unfold fR_listEnds_9 at hf
    refine lv_istore_n (lv' := [(2, .int y0), (0, .ref (ad 0))]) hx hb dR_listEnds_9 rfl hl (by decide) rfl (fun ls hl => ?_)
    refine lv_aload_n hx hb dR_listEnds_10 rfl (lv_at hl 1 rfl) ?_
    refine va_get (D := (dC, dI)) (ci := 3) (v := .ref (ad 2)) (C := RcR) (T := TcR) (N := 10) hx hb ht in_cR hown hK hC.1 0 (wR_e0 cI cC ad s0) rfl 2 (by decide) (ht _ tw116) (fun _ h9 => h9) rfl dR_listEnds_11 ?_
    obtain ⟨r901, s901, hc901, hf⟩ := jB_some hf
    refine jcall_i (va_runV (C := RcK) (As := []) (rest := []) ⟨hx, hb, hml, hown, hts⟩ ((cK_kind l dC dI cI cC cL sk sv ad N s0 s901 r901 hc901) _) ⟨(callB_of 0 hts (tb_good tw320) rfl rfl rfl (ht _ tw5) (ht _ tw317) (by decide +kernel) ⟨Nat.le_of_ble_eq_true rfl, Nat.le_of_ble_eq_true rfl⟩), ht _ tw318, ht _ tw319⟩ (jpreV (jEn_ok sk sv) hC hA hK hN (wR_e2 cI cC ad s0) rfl rfl _) rfl rfl hl.1 rfl (lv_room (Nat.le_of_ble_eq_true rfl)) dR_listEnds_14 ⟨Nat.le_refl _, Nat.le_refl _⟩) hC hA (fun H locs hC => ?_)
    refine lv_bipush (v := 17) hx hb dR_listEnds_17 (by decide) ?_
    refine lv_icmp_eq (tgt := 38) hx hb dR_listEnds_19 (by decide) (fun c902 => ?_) (fun c902 => ?_)
    · replace hf := jif_t c902 hf
      refine lv_iconst (v := 1) hx hb dR_listEnds_38 (by decide) ?_
      refine lv_goto (tgt := 43) hx hb dR_listEnds_39 (by decide) ?_
      cases hf
      exact jret_z hx hb hr (by decide +kernel) hlk hC hK dR_listEnds_43
    · replace hf := jif_f c902 hf
      refine lv_iload_n hx hb dR_listEnds_22 rfl (lv_at hl 0 rfl) ?_
      refine lv_if_eq (tgt := 42) hx hb dR_listEnds_23 (by decide) (fun c903 => ?_) (fun c903 => ?_)
      · replace hf := jif_t c903 hf
        refine lv_iconst (v := 0) hx hb dR_listEnds_42 (by decide) ?_
        cases hf
        exact jret_z hx hb hr (by decide +kernel) hlk hC hK dR_listEnds_43
      · replace hf := jif_f c903 hf
        refine lv_aload_n hx hb dR_listEnds_26 rfl (lv_at hl 1 rfl) ?_
        refine va_get (D := (dC, dI)) (ci := 3) (v := .ref (ad 2)) (C := RcR) (T := TcR) (N := 10) hx hb ht in_cR hown hK hC.1 0 (wR_e0 cI cC ad s901) rfl 2 (by decide) (ht _ tw116) (fun _ h9 => h9) rfl dR_listEnds_27 ?_
        obtain ⟨r904, s904, hc904, hf⟩ := jB_some hf
        refine jcall_i (va_runV (C := RcK) (As := []) (rest := []) ⟨hx, hb, hml, hown, hts⟩ ((cK_kind l dC dI cI cC cL sk sv ad N s901 s904 r904 hc904) _) ⟨(callB_of 0 hts (tb_good tw320) rfl rfl rfl (ht _ tw5) (ht _ tw317) (by decide +kernel) ⟨Nat.le_of_ble_eq_true rfl, Nat.le_of_ble_eq_true rfl⟩), ht _ tw318, ht _ tw319⟩ (jpreV (jEn_ok sk sv) hC hA hK hN (wR_e2 cI cC ad s901) rfl rfl _) rfl rfl hl.1 rfl (lv_room (Nat.le_of_ble_eq_true rfl)) dR_listEnds_30 ⟨Nat.le_refl _, Nat.le_refl _⟩) hC hA (fun H locs hC => ?_)
        refine lv_bipush (v := 8) hx hb dR_listEnds_33 (by decide) ?_
        refine lv_icmp_ne (tgt := 42) hx hb dR_listEnds_35 (by decide) (fun c905 => ?_) (fun c905 => ?_)
        · replace hf := jif_f c905 hf
          refine lv_iconst (v := 0) hx hb dR_listEnds_42 (by decide) ?_
          cases hf
          exact jret_z hx hb hr (by decide +kernel) hlk hC hK dR_listEnds_43
        · replace hf := jif_t c905 hf
          refine lv_iconst (v := 1) hx hb dR_listEnds_38 (by decide) ?_
          refine lv_goto (tgt := 43) hx hb dR_listEnds_39 (by decide) ?_
          cases hf
          exact jret_z hx hb hr (by decide +kernel) hlk hC hK dR_listEnds_43
  unfold fR_listEnds at hf
  refine lv_iload_n hx hb dR_listEnds_0 rfl (lv_at hl 1 rfl) ?_
  refine lv_if_le (tgt := 8) hx hb dR_listEnds_1 (by decide) (fun c1 => ?_) (fun c1 => ?_)
  · replace hf := jif_t c1 hf
    refine lv_iconst (v := 0) hx hb dR_listEnds_8 (by decide) ?_
    exact L9 (0 : Int32) z0 ls _ _ (lv_sub hl [0] rfl) hC hf
  · replace hf := jif_f c1 hf
    refine lv_iconst (v := 1) hx hb dR_listEnds_4 (by decide) ?_
    refine lv_goto (tgt := 9) hx hb dR_listEnds_5 (by decide) ?_
    exact L9 (1 : Int32) z0 ls _ _ (lv_sub hl [0] rfl) hC hf

def fR_canBegin (N : Nat) (a0 : Int32) (z0 : jS) : Option (Int32 × jS) := (if a0 = (1 : Int32) then some ((1 : Int32), z0) else (if a0 = (2 : Int32) then some ((1 : Int32), z0) else (if a0 = (3 : Int32) then some ((1 : Int32), z0) else (if a0 = (4 : Int32) then some ((0 : Int32), z0) else (if a0 = (5 : Int32) then some ((1 : Int32), z0) else (if a0 = (6 : Int32) then some ((1 : Int32), z0) else (if a0 = (7 : Int32) then some ((1 : Int32), z0) else (if a0 = (8 : Int32) then some ((0 : Int32), z0) else (if a0 = (9 : Int32) then some ((1 : Int32), z0) else (if a0 = (10 : Int32) then some ((0 : Int32), z0) else (if a0 = (11 : Int32) then some ((0 : Int32), z0) else (if a0 = (12 : Int32) then some ((1 : Int32), z0) else some ((0 : Int32), z0)))))))))))))
set_option maxHeartbeats 4000000 in
set_option maxRecDepth 100000 in
theorem cR_canBegin (l : Launch) (dC : Nat → ClassId) (dI : Nat → Nat → Nat) (cI cC cL : ClassId) (sk sv : Nat → Nat) (ad : Nat → Nat) (N : Nat) (a0 : Int32) (z0 z1 : jS) (r : Int32) (hf : fR_canBegin N a0 z0 = some (r, z1)) : Ci l yR_canBegin (Cond.code yR_canBegin prog_4_method_11_code 1 (some .boolean) :: TB) ({ frames := 0, cells := 0, slots := 0, locals := 0 }) (dC, dI) vwCl [(cI, .int), (cC, .char), (cL, .object "SharedSyntax$Letters")] (jEn sk sv) [.int a0] (wR cI cC ad z0) (wR cI cC ad z1) r := by
  refine Ci_of (cc := prog_4_method_11_code) (maxL := 1) (ret := (some .boolean)) (by decide) rfl (Nat.le_of_ble_eq_true rfl) ?_
  intro p e s m below meth c ls F hl hK hN hC
  obtain ⟨hx, hb, hml, hown, hts, hr, hlk⟩ := F
  have ht : ∀ w ∈ TB, w.before [.int a0].toArray s = true := fun w h => hts w (List.mem_cons_of_mem _ h)
  have hA : ∀ q, s.heap.size ≤ q → va_A (wR cI cC ad z0) s.heap.size q := fun q h => Or.inr h
  have hl : lv_has ls 1 [(0, .int a0)] := hl
  unfold fR_canBegin at hf
  refine lv_iload_n hx hb dR_canBegin_0 rfl (lv_at hl 0 rfl) ?_
  by_cases w1 : a0 = (1 : Int32)
  · replace hf := jif_t w1 hf
    refine lv_tableIn (tgt := 64) hx hb dR_canBegin_1 (by rw [w1]; decide) (by rw [w1]; decide) (by rw [w1]; rfl) (by decide) ?_
    refine lv_iconst (v := 1) hx hb dR_canBegin_64 (by decide) ?_
    cases hf
    exact jret_z hx hb hr (by decide +kernel) hlk hC hK dR_canBegin_65
  · replace hf := jif_f w1 hf
    by_cases w2 : a0 = (2 : Int32)
    · replace hf := jif_t w2 hf
      refine lv_tableIn (tgt := 64) hx hb dR_canBegin_1 (by rw [w2]; decide) (by rw [w2]; decide) (by rw [w2]; rfl) (by decide) ?_
      refine lv_iconst (v := 1) hx hb dR_canBegin_64 (by decide) ?_
      cases hf
      exact jret_z hx hb hr (by decide +kernel) hlk hC hK dR_canBegin_65
    · replace hf := jif_f w2 hf
      by_cases w3 : a0 = (3 : Int32)
      · replace hf := jif_t w3 hf
        refine lv_tableIn (tgt := 64) hx hb dR_canBegin_1 (by rw [w3]; decide) (by rw [w3]; decide) (by rw [w3]; rfl) (by decide) ?_
        refine lv_iconst (v := 1) hx hb dR_canBegin_64 (by decide) ?_
        cases hf
        exact jret_z hx hb hr (by decide +kernel) hlk hC hK dR_canBegin_65
      · replace hf := jif_f w3 hf
        by_cases w4 : a0 = (4 : Int32)
        · replace hf := jif_t w4 hf
          refine lv_tableIn (tgt := 66) hx hb dR_canBegin_1 (by rw [w4]; decide) (by rw [w4]; decide) (by rw [w4]; rfl) (by decide) ?_
          refine lv_iconst (v := 0) hx hb dR_canBegin_66 (by decide) ?_
          cases hf
          exact jret_z hx hb hr (by decide +kernel) hlk hC hK dR_canBegin_67
        · replace hf := jif_f w4 hf
          by_cases w5 : a0 = (5 : Int32)
          · replace hf := jif_t w5 hf
            refine lv_tableIn (tgt := 64) hx hb dR_canBegin_1 (by rw [w5]; decide) (by rw [w5]; decide) (by rw [w5]; rfl) (by decide) ?_
            refine lv_iconst (v := 1) hx hb dR_canBegin_64 (by decide) ?_
            cases hf
            exact jret_z hx hb hr (by decide +kernel) hlk hC hK dR_canBegin_65
          · replace hf := jif_f w5 hf
            by_cases w6 : a0 = (6 : Int32)
            · replace hf := jif_t w6 hf
              refine lv_tableIn (tgt := 64) hx hb dR_canBegin_1 (by rw [w6]; decide) (by rw [w6]; decide) (by rw [w6]; rfl) (by decide) ?_
              refine lv_iconst (v := 1) hx hb dR_canBegin_64 (by decide) ?_
              cases hf
              exact jret_z hx hb hr (by decide +kernel) hlk hC hK dR_canBegin_65
            · replace hf := jif_f w6 hf
              by_cases w7 : a0 = (7 : Int32)
              · replace hf := jif_t w7 hf
                refine lv_tableIn (tgt := 64) hx hb dR_canBegin_1 (by rw [w7]; decide) (by rw [w7]; decide) (by rw [w7]; rfl) (by decide) ?_
                refine lv_iconst (v := 1) hx hb dR_canBegin_64 (by decide) ?_
                cases hf
                exact jret_z hx hb hr (by decide +kernel) hlk hC hK dR_canBegin_65
              · replace hf := jif_f w7 hf
                by_cases w8 : a0 = (8 : Int32)
                · replace hf := jif_t w8 hf
                  refine lv_tableIn (tgt := 66) hx hb dR_canBegin_1 (by rw [w8]; decide) (by rw [w8]; decide) (by rw [w8]; rfl) (by decide) ?_
                  refine lv_iconst (v := 0) hx hb dR_canBegin_66 (by decide) ?_
                  cases hf
                  exact jret_z hx hb hr (by decide +kernel) hlk hC hK dR_canBegin_67
                · replace hf := jif_f w8 hf
                  by_cases w9 : a0 = (9 : Int32)
                  · replace hf := jif_t w9 hf
                    refine lv_tableIn (tgt := 64) hx hb dR_canBegin_1 (by rw [w9]; decide) (by rw [w9]; decide) (by rw [w9]; rfl) (by decide) ?_
                    refine lv_iconst (v := 1) hx hb dR_canBegin_64 (by decide) ?_
                    cases hf
                    exact jret_z hx hb hr (by decide +kernel) hlk hC hK dR_canBegin_65
                  · replace hf := jif_f w9 hf
                    by_cases w10 : a0 = (10 : Int32)
                    · replace hf := jif_t w10 hf
                      refine lv_tableIn (tgt := 66) hx hb dR_canBegin_1 (by rw [w10]; decide) (by rw [w10]; decide) (by rw [w10]; rfl) (by decide) ?_
                      refine lv_iconst (v := 0) hx hb dR_canBegin_66 (by decide) ?_
                      cases hf
                      exact jret_z hx hb hr (by decide +kernel) hlk hC hK dR_canBegin_67
                    · replace hf := jif_f w10 hf
                      by_cases w11 : a0 = (11 : Int32)
                      · replace hf := jif_t w11 hf
                        refine lv_tableIn (tgt := 66) hx hb dR_canBegin_1 (by rw [w11]; decide) (by rw [w11]; decide) (by rw [w11]; rfl) (by decide) ?_
                        refine lv_iconst (v := 0) hx hb dR_canBegin_66 (by decide) ?_
                        cases hf
                        exact jret_z hx hb hr (by decide +kernel) hlk hC hK dR_canBegin_67
                      · replace hf := jif_f w11 hf
                        by_cases w12 : a0 = (12 : Int32)
                        · replace hf := jif_t w12 hf
                          refine lv_tableIn (tgt := 64) hx hb dR_canBegin_1 (by rw [w12]; decide) (by rw [w12]; decide) (by rw [w12]; rfl) (by decide) ?_
                          refine lv_iconst (v := 1) hx hb dR_canBegin_64 (by decide) ?_
                          cases hf
                          exact jret_z hx hb hr (by decide +kernel) hlk hC hK dR_canBegin_65
                        · replace hf := jif_f w12 hf
                          refine lv_tableOut (tgt := 66) hx hb dR_canBegin_1 (by have e1 := lv_neT (a := 1) w1 (by decide); have e2 := lv_neT (a := 2) w2 (by decide); have e3 := lv_neT (a := 3) w3 (by decide); have e4 := lv_neT (a := 4) w4 (by decide); have e5 := lv_neT (a := 5) w5 (by decide); have e6 := lv_neT (a := 6) w6 (by decide); have e7 := lv_neT (a := 7) w7 (by decide); have e8 := lv_neT (a := 8) w8 (by decide); have e9 := lv_neT (a := 9) w9 (by decide); have e10 := lv_neT (a := 10) w10 (by decide); have e11 := lv_neT (a := 11) w11 (by decide); have e12 := lv_neT (a := 12) w12 (by decide); omega) (by decide) ?_
                          refine lv_iconst (v := 0) hx hb dR_canBegin_66 (by decide) ?_
                          cases hf
                          exact jret_z hx hb hr (by decide +kernel) hlk hC hK dR_canBegin_67

def fR_statementFollows_24 (N : Nat) (x1 x2 : Int32) (s0 : jS) : Option (Int32 × jS) := (jB (fR_canBegin N x2 s0) fun r2401 s2401 => (if r2401 = 0 then some ((0 : Int32), s2401) else (if (6 : Int32) ≤ x1 then some ((0 : Int32), s2401) else some ((1 : Int32), s2401))))
def fR_statementFollows (N : Nat) (a0 : Int32) (z0 : jS) : Option (Int32 × jS) := (jB (fK_kind N z0) fun r1 s1 => (if r1 = (3 : Int32) then fR_statementFollows_24 N a0 r1 s1 else (if r1 = (5 : Int32) then fR_statementFollows_24 N a0 r1 s1 else (if r1 = (7 : Int32) then fR_statementFollows_24 N a0 r1 s1 else (jB (fR_canBegin N r1 s1) fun r5 s5 => (if r5 = 0 then some ((0 : Int32), s5) else some ((1 : Int32), s5)))))))
set_option maxHeartbeats 4000000 in
set_option maxRecDepth 100000 in
theorem cR_statementFollows (l : Launch) (dC : Nat → ClassId) (dI : Nat → Nat → Nat) (cI cC cL : ClassId) (sk sv : Nat → Nat) (ad : Nat → Nat) (N : Nat) (a0 : Int32) (z0 z1 : jS) (r : Int32) (hf : fR_statementFollows N a0 z0 = some (r, z1)) : Ci l yR_statementFollows (Cond.code yR_statementFollows prog_4_method_10_code 4 (some .boolean) :: TB) ({ frames := 1, cells := 0, slots := 0, locals := 20 }) (dC, dI) vwCl [(cI, .int), (cC, .char), (cL, .object "SharedSyntax$Letters")] (jEn sk sv) [.ref (ad 0), .int a0] (wR cI cC ad z0) (wR cI cC ad z1) r := by
  refine Ci_of (cc := prog_4_method_10_code) (maxL := 4) (ret := (some .boolean)) (by decide) rfl (Nat.le_of_ble_eq_true rfl) ?_
  intro p e s m below meth c ls F hl hK hN hC
  obtain ⟨hx, hb, hml, hown, hts, hr, hlk⟩ := F
  have ht : ∀ w ∈ TB, w.before [.ref (ad 0), .int a0].toArray s = true := fun w h => hts w (List.mem_cons_of_mem _ h)
  have hA : ∀ q, s.heap.size ≤ q → va_A (wR cI cC ad z0) s.heap.size q := fun q h => Or.inr h
  have hl : lv_has ls 4 [(0, .ref (ad 0)), (1, .int a0)] := hl
  have L24 : ∀ (x1 x2 : Int32) (s0 : jS) (ls : Array Slot) (H : Heap) (locs : List Loc), lv_has ls 4 [(1, .int x1), (2, .int x2)] → jcx (dC, dI) vwCl (va_A (wR cI cC ad z0) s.heap.size) s.heap (wR cI cC ad s0) H locs → fR_statementFollows_24 N x1 x2 s0 = some (r, z1) → W p l e ({ frames := 1, cells := 0, slots := 0, locals := 20 }) s m [.ref (ad 0), .int a0].toArray below meth c H locs 0 0 (MQ below (jQi (dC, dI) vwCl [(cI, .int), (cC, .char), (cL, .object "SharedSyntax$Letters")] (wR cI cC ad z0) (wR cI cC ad z1) s.heap.size r) [.ref (ad 0), .int a0].toArray s 0 0 (va_A (wR cI cC ad z0) s.heap.size)) (F0 m 24 ls []) := by
    intro x1 x2 s0 ls H locs hl hC hf
    unfold fR_statementFollows_24 at hf
    refine lv_iconst (v := 1) hx hb dR_statementFollows_24 (by decide) ?_
    refine lv_goto (tgt := 29) hx hb dR_statementFollows_25 (by decide) ?_
    refine lv_istore_n (lv' := [(3, .int (1 : Int32)), (1, .int x1), (2, .int x2)]) hx hb dR_statementFollows_29 rfl hl (by decide) rfl (fun ls hl => ?_)
    refine lv_iload_n hx hb dR_statementFollows_30 rfl (lv_at hl 2 rfl) ?_
    obtain ⟨r2401, s2401, hc2401, hf⟩ := jB_some hf
    refine jcall_i (va_runS (As := [.int x2]) (rest := []) ⟨hx, hb, hml, hown, hts⟩ ((cR_canBegin l dC dI cI cC cL sk sv ad N x2 s0 s2401 r2401 hc2401) _) ⟨(callB_of 1 hts (tb_good tw327) rfl rfl rfl (ht _ tw2) (ht _ tw325) (by decide +kernel) ⟨Nat.le_of_ble_eq_true rfl, Nat.le_of_ble_eq_true rfl⟩), ht _ tw326⟩ (jpreS (jEn_ok sk sv) hC hA hK hN _) rfl rfl hl.1 rfl (lv_room (Nat.le_of_ble_eq_true rfl)) dR_statementFollows_31 ⟨Nat.le_refl _, Nat.le_refl _⟩) hC hA (fun H locs hC => ?_)
    refine lv_if_eq (tgt := 51) hx hb dR_statementFollows_34 (by decide) (fun c2402 => ?_) (fun c2402 => ?_)
    · replace hf := jif_t c2402 hf
      refine lv_iconst (v := 0) hx hb dR_statementFollows_51 (by decide) ?_
      cases hf
      exact jret_z hx hb hr (by decide +kernel) hlk hC hK dR_statementFollows_52
    · replace hf := jif_f c2402 hf
      refine lv_iload_n hx hb dR_statementFollows_37 rfl (lv_at hl 0 rfl) ?_
      refine lv_if_eq (tgt := 47) hx hb dR_statementFollows_38 (by decide) (fun c => absurd c (by decide)) (fun _ => ?_)
      refine lv_iload_n hx hb dR_statementFollows_41 rfl (lv_at hl 1 rfl) ?_
      refine lv_bipush (v := 6) hx hb dR_statementFollows_42 (by decide) ?_
      refine lv_icmp_ge (tgt := 51) hx hb dR_statementFollows_44 (by decide) (fun c2404 => ?_) (fun c2404 => ?_)
      · replace hf := jif_t c2404 hf
        refine lv_iconst (v := 0) hx hb dR_statementFollows_51 (by decide) ?_
        cases hf
        exact jret_z hx hb hr (by decide +kernel) hlk hC hK dR_statementFollows_52
      · replace hf := jif_f c2404 hf
        refine lv_iconst (v := 1) hx hb dR_statementFollows_47 (by decide) ?_
        refine lv_goto (tgt := 52) hx hb dR_statementFollows_48 (by decide) ?_
        cases hf
        exact jret_z hx hb hr (by decide +kernel) hlk hC hK dR_statementFollows_52
  unfold fR_statementFollows at hf
  refine lv_aload_n hx hb dR_statementFollows_0 rfl (lv_at hl 0 rfl) ?_
  refine va_get (D := (dC, dI)) (ci := 3) (v := .ref (ad 2)) (C := RcR) (T := TcR) (N := 10) hx hb ht in_cR hown hK hC.1 0 (wR_e0 cI cC ad z0) rfl 2 (by decide) (ht _ tw116) (fun _ h9 => h9) rfl dR_statementFollows_1 ?_
  obtain ⟨r1, s1, hc1, hf⟩ := jB_some hf
  refine jcall_i (va_runV (C := RcK) (As := []) (rest := []) ⟨hx, hb, hml, hown, hts⟩ ((cK_kind l dC dI cI cC cL sk sv ad N z0 s1 r1 hc1) _) ⟨(callB_of 0 hts (tb_good tw320) rfl rfl rfl (ht _ tw5) (ht _ tw317) (by decide +kernel) ⟨Nat.le_of_ble_eq_true rfl, Nat.le_of_ble_eq_true rfl⟩), ht _ tw318, ht _ tw319⟩ (jpreV (jEn_ok sk sv) hC hA hK hN (wR_e2 cI cC ad z0) rfl rfl _) rfl rfl hl.1 rfl (lv_room (Nat.le_of_ble_eq_true rfl)) dR_statementFollows_4 ⟨Nat.le_refl _, Nat.le_refl _⟩) hC hA (fun H locs hC => ?_)
  refine lv_istore_n (lv' := [(2, .int r1), (0, .ref (ad 0)), (1, .int a0)]) hx hb dR_statementFollows_7 rfl hl (by decide) rfl (fun ls hl => ?_)
  refine lv_iload_n hx hb dR_statementFollows_8 rfl (lv_at hl 0 rfl) ?_
  refine lv_iconst (v := 3) hx hb dR_statementFollows_9 (by decide) ?_
  refine lv_icmp_eq (tgt := 24) hx hb dR_statementFollows_10 (by decide) (fun c2 => ?_) (fun c2 => ?_)
  · replace hf := jif_t c2 hf
    exact L24 a0 r1 s1 ls _ _ (lv_sub hl [2, 0] rfl) hC hf
  · replace hf := jif_f c2 hf
    refine lv_iload_n hx hb dR_statementFollows_13 rfl (lv_at hl 0 rfl) ?_
    refine lv_iconst (v := 5) hx hb dR_statementFollows_14 (by decide) ?_
    refine lv_icmp_eq (tgt := 24) hx hb dR_statementFollows_15 (by decide) (fun c3 => ?_) (fun c3 => ?_)
    · replace hf := jif_t c3 hf
      exact L24 a0 r1 s1 ls _ _ (lv_sub hl [2, 0] rfl) hC hf
    · replace hf := jif_f c3 hf
      refine lv_iload_n hx hb dR_statementFollows_18 rfl (lv_at hl 0 rfl) ?_
      refine lv_bipush (v := 7) hx hb dR_statementFollows_19 (by decide) ?_
      refine lv_icmp_ne (tgt := 28) hx hb dR_statementFollows_21 (by decide) (fun c4 => ?_) (fun c4 => ?_)
      · replace hf := jif_f c4 hf
        refine lv_iconst (v := 0) hx hb dR_statementFollows_28 (by decide) ?_
        refine lv_istore_n (lv' := [(3, .int (0 : Int32)), (2, .int r1), (0, .ref (ad 0)), (1, .int a0)]) hx hb dR_statementFollows_29 rfl hl (by decide) rfl (fun ls hl => ?_)
        refine lv_iload_n hx hb dR_statementFollows_30 rfl (lv_at hl 1 rfl) ?_
        obtain ⟨r5, s5, hc5, hf⟩ := jB_some hf
        refine jcall_i (va_runS (As := [.int r1]) (rest := []) ⟨hx, hb, hml, hown, hts⟩ ((cR_canBegin l dC dI cI cC cL sk sv ad N r1 s1 s5 r5 hc5) _) ⟨(callB_of 1 hts (tb_good tw327) rfl rfl rfl (ht _ tw2) (ht _ tw325) (by decide +kernel) ⟨Nat.le_of_ble_eq_true rfl, Nat.le_of_ble_eq_true rfl⟩), ht _ tw326⟩ (jpreS (jEn_ok sk sv) hC hA hK hN _) rfl rfl hl.1 rfl (lv_room (Nat.le_of_ble_eq_true rfl)) dR_statementFollows_31 ⟨Nat.le_refl _, Nat.le_refl _⟩) hC hA (fun H locs hC => ?_)
        refine lv_if_eq (tgt := 51) hx hb dR_statementFollows_34 (by decide) (fun c6 => ?_) (fun c6 => ?_)
        · replace hf := jif_t c6 hf
          refine lv_iconst (v := 0) hx hb dR_statementFollows_51 (by decide) ?_
          cases hf
          exact jret_z hx hb hr (by decide +kernel) hlk hC hK dR_statementFollows_52
        · replace hf := jif_f c6 hf
          refine lv_iload_n hx hb dR_statementFollows_37 rfl (lv_at hl 0 rfl) ?_
          refine lv_if_eq (tgt := 47) hx hb dR_statementFollows_38 (by decide) (fun _ => ?_) (fun c => absurd (by decide) c)
          refine lv_iconst (v := 1) hx hb dR_statementFollows_47 (by decide) ?_
          refine lv_goto (tgt := 52) hx hb dR_statementFollows_48 (by decide) ?_
          cases hf
          exact jret_z hx hb hr (by decide +kernel) hlk hC hK dR_statementFollows_52
      · replace hf := jif_t c4 hf
        exact L24 a0 r1 s1 ls _ _ (lv_sub hl [2, 0] rfl) hC hf

def fK_advance (N : Nat) (z0 : jS) : Option (Int32 × jS) := (if (jgI z0 1 - (1 : Int32)) ≤ jgI z0 2 then some (0, z0) else (jL (jsI z0 2 (jgI z0 2 + (1 : Int32))) fun s2 => some (0, s2)))
set_option maxHeartbeats 4000000 in
set_option maxRecDepth 100000 in
theorem cK_advance (l : Launch) (dC : Nat → ClassId) (dI : Nat → Nat → Nat) (cI cC cL : ClassId) (sk sv : Nat → Nat) (ad : Nat → Nat) (N : Nat) (z0 z1 : jS) (r : Int32) (hf : fK_advance N z0 = some (r, z1)) : Cv l yK_advance (Cond.code yK_advance prog_5_method_5_code 1 none :: TB) ({ frames := 0, cells := 0, slots := 0, locals := 0 }) (dC, dI) vwCl [(cI, .int), (cC, .char), (cL, .object "SharedSyntax$Letters")] (jEn sk sv) [.ref (ad 2)] (wR cI cC ad z0) (wR cI cC ad z1) := by
  refine Cv_of (cc := prog_5_method_5_code) (maxL := 1) (ret := none) (by decide) rfl (Nat.le_of_ble_eq_true rfl) ?_
  intro p e s m below meth c ls F hl hK hN hC
  obtain ⟨hx, hb, hml, hown, hts, hr, hlk⟩ := F
  have ht : ∀ w ∈ TB, w.before [.ref (ad 2)].toArray s = true := fun w h => hts w (List.mem_cons_of_mem _ h)
  have hA : ∀ q, s.heap.size ≤ q → va_A (wR cI cC ad z0) s.heap.size q := fun q h => Or.inr h
  have hl : lv_has ls 1 [(0, .ref (ad 2))] := hl
  unfold fK_advance at hf
  refine lv_aload_n hx hb dK_advance_0 rfl (lv_at hl 0 rfl) ?_
  refine va_get (D := (dC, dI)) (ci := 1) (v := .int (jgI z0 2)) (C := RcK) (T := TcK) (N := 6) hx hb ht in_cK hown hK hC.1 2 (wR_e2 cI cC ad z0) rfl 5 (by decide) (ht _ tw98) (fun _ h9 => h9) rfl dK_advance_1 ?_
  refine lv_aload_n hx hb dK_advance_4 rfl (lv_at hl 0 rfl) ?_
  refine va_get (D := (dC, dI)) (ci := 1) (v := .int (jgI z0 1)) (C := RcK) (T := TcK) (N := 6) hx hb ht in_cK hown hK hC.1 2 (wR_e2 cI cC ad z0) rfl 4 (by decide) (ht _ tw97) (fun _ h9 => h9) rfl dK_advance_5 ?_
  refine lv_iconst (v := 1) hx hb dK_advance_8 (by decide) ?_
  refine lv_isub hx hb dK_advance_9 ?_
  refine lv_icmp_ge (tgt := 23) hx hb dK_advance_10 (by decide) (fun c1 => ?_) (fun c1 => ?_)
  · replace hf := jif_t c1 hf
    cases hf
    exact jret_v hx hb hr hlk hC hK dK_advance_23
  · replace hf := jif_f c1 hf
    refine lv_aload_n hx hb dK_advance_13 rfl (lv_at hl 0 rfl) ?_
    refine lv_dup hx hb dK_advance_14 rfl ?_
    refine va_get (D := (dC, dI)) (ci := 1) (v := .int (jgI z0 2)) (C := RcK) (T := TcK) (N := 6) hx hb ht in_cK hown hK hC.1 2 (wR_e2 cI cC ad z0) rfl 5 (by decide) (ht _ tw98) (fun _ h9 => h9) rfl dK_advance_15 ?_
    refine lv_iconst (v := 1) hx hb dK_advance_18 (by decide) ?_
    refine lv_iadd hx hb dK_advance_19 ?_
    obtain ⟨s2, e2, hf⟩ := jL_s hf
    refine jput (ci := 1) (C := RcK) (T := TcK) (N := 6) hx hb ht in_cK tycK tycK_ok nmcK hown hK hC 2 (wR_e2 cI cC ad z0) rfl 5 (by decide) (ht _ tw98) (fun _ h9 => h9) rfl rfl (Nat.le_of_ble_eq_true rfl) dK_advance_20 ((wR_p2 cI cC ad z0 _).trans (congrArg (wR cI cC ad) e2.symm)) (fun H locs hC => ?_)
    cases hf
    exact jret_v hx hb hr hlk hC hK dK_advance_23

def fK_own (N : Nat) (z0 : jS) : Option (Int32 × jS) := (if jgI z0 1 ≤ jgI z0 2 then some (jgI z0 0, z0) else (if jIn (jgI z0 2) 61 = true then some (jgA z0 2 (jgI z0 2).toNatClampNeg, z0) else none))
set_option maxHeartbeats 4000000 in
set_option maxRecDepth 100000 in
theorem cK_own (l : Launch) (dC : Nat → ClassId) (dI : Nat → Nat → Nat) (cI cC cL : ClassId) (sk sv : Nat → Nat) (ad : Nat → Nat) (N : Nat) (z0 z1 : jS) (r : Int32) (hf : fK_own N z0 = some (r, z1)) : Ci l yK_own (Cond.code yK_own prog_5_method_3_code 1 (some .int) :: TB) ({ frames := 0, cells := 0, slots := 0, locals := 0 }) (dC, dI) vwCl [(cI, .int), (cC, .char), (cL, .object "SharedSyntax$Letters")] (jEn sk sv) [.ref (ad 2)] (wR cI cC ad z0) (wR cI cC ad z1) r := by
  refine Ci_of (cc := prog_5_method_3_code) (maxL := 1) (ret := (some .int)) (by decide) rfl (Nat.le_of_ble_eq_true rfl) ?_
  intro p e s m below meth c ls F hl hK hN hC
  obtain ⟨hx, hb, hml, hown, hts, hr, hlk⟩ := F
  have ht : ∀ w ∈ TB, w.before [.ref (ad 2)].toArray s = true := fun w h => hts w (List.mem_cons_of_mem _ h)
  have hA : ∀ q, s.heap.size ≤ q → va_A (wR cI cC ad z0) s.heap.size q := fun q h => Or.inr h
  have hl : lv_has ls 1 [(0, .ref (ad 2))] := hl
  unfold fK_own at hf
  refine lv_aload_n hx hb dK_own_0 rfl (lv_at hl 0 rfl) ?_
  refine va_get (D := (dC, dI)) (ci := 1) (v := .int (jgI z0 2)) (C := RcK) (T := TcK) (N := 6) hx hb ht in_cK hown hK hC.1 2 (wR_e2 cI cC ad z0) rfl 5 (by decide) (ht _ tw98) (fun _ h9 => h9) rfl dK_own_1 ?_
  refine lv_aload_n hx hb dK_own_4 rfl (lv_at hl 0 rfl) ?_
  refine va_get (D := (dC, dI)) (ci := 1) (v := .int (jgI z0 1)) (C := RcK) (T := TcK) (N := 6) hx hb ht in_cK hown hK hC.1 2 (wR_e2 cI cC ad z0) rfl 4 (by decide) (ht _ tw97) (fun _ h9 => h9) rfl dK_own_5 ?_
  refine lv_icmp_ge (tgt := 23) hx hb dK_own_8 (by decide) (fun c1 => ?_) (fun c1 => ?_)
  · replace hf := jif_t c1 hf
    refine lv_aload_n hx hb dK_own_23 rfl (lv_at hl 0 rfl) ?_
    refine va_get (D := (dC, dI)) (ci := 1) (v := .ref (ad 3)) (C := RcK) (T := TcK) (N := 6) hx hb ht in_cK hown hK hC.1 2 (wR_e2 cI cC ad z0) rfl 0 (by decide) (ht _ tw93) (fun _ h9 => h9) rfl dK_own_24 ?_
    refine va_getN (D := (dC, dI)) (ci := 0) (v := .int (jgI z0 0)) (C := RcL) (T := TcL) (N := 2) hx hb ht in_cL hown hK hC.1 3 (wR_e3 cI cC ad z0) rfl 1 (by decide) (va_Nw.use rfl (hN.1 _ nw33)) (fun _ h9 => h9) rfl dK_own_27 ?_
    cases hf
    exact jret_i hx hb hr hlk hC hK dK_own_30
  · replace hf := jif_f c1 hf
    refine lv_aload_n hx hb dK_own_11 rfl (lv_at hl 0 rfl) ?_
    refine va_get (D := (dC, dI)) (ci := 1) (v := .ref (ad 6)) (C := RcK) (T := TcK) (N := 6) hx hb ht in_cK hown hK hC.1 2 (wR_e2 cI cC ad z0) rfl 2 (by decide) (ht _ tw95) (fun _ h9 => h9) rfl dK_own_12 ?_
    refine lv_aload_n hx hb dK_own_15 rfl (lv_at hl 0 rfl) ?_
    refine va_get (D := (dC, dI)) (ci := 1) (v := .int (jgI z0 2)) (C := RcK) (T := TcK) (N := 6) hx hb ht in_cK hown hK hC.1 2 (wR_e2 cI cC ad z0) rfl 5 (by decide) (ht _ tw98) (fun _ h9 => h9) rfl dK_own_16 ?_
    obtain ⟨hi2, hf⟩ := jC_in hf
    refine va_iald hx hb hK hC.1 6 0 (wR_e6 cI cC ad z0) rfl hi2 dK_own_19 ?_
    refine lv_goto (tgt := 30) hx hb dK_own_20 (by decide) ?_
    cases hf
    exact jret_i hx hb hr hlk hC hK dK_own_30

def fR_skip (N : Nat) (z0 : jS) : Option (Int32 × jS) := (if (60 : Int32) ≤ jgI z0 6 then (jB (fK_advance N z0) fun r2 s2 => some (0, s2)) else (jB (fK_own N z0) fun r3 s3 => (if jIn (jgI z0 6) 60 = true then (jL (jsA s3 10 (jgI z0 6).toNatClampNeg r3) fun s4 => (jB (fK_kind N s4) fun r5 s5 => (jB (fR_canBegin N r5 s5) fun r6 s6 => (if r6 = 0 then (if jIn (jgI s4 6) 60 = true then (jL (jsA s6 11 (jgI s4 6).toNatClampNeg (1 : Int32)) fun s8 => (jL (jsI s8 6 (jgI s8 6 + (1 : Int32))) fun s9 => (jB (fK_advance N s9) fun r10 s10 => some (0, s10)))) else none) else (if jIn (jgI s4 6) 60 = true then (jL (jsA s6 11 (jgI s4 6).toNatClampNeg (3 : Int32)) fun s11 => (jL (jsI s11 6 (jgI s11 6 + (1 : Int32))) fun s12 => (jB (fK_advance N s12) fun r13 s13 => some (0, s13)))) else none))))) else none)))
set_option maxHeartbeats 4000000 in
set_option maxRecDepth 100000 in
theorem cR_skip (l : Launch) (dC : Nat → ClassId) (dI : Nat → Nat → Nat) (cI cC cL : ClassId) (sk sv : Nat → Nat) (ad : Nat → Nat) (N : Nat) (z0 z1 : jS) (r : Int32) (hf : fR_skip N z0 = some (r, z1)) : Cv l yR_skip (Cond.code yR_skip prog_4_method_5_code 1 none :: TB) ({ frames := 1, cells := 0, slots := 0, locals := 20 }) (dC, dI) vwCl [(cI, .int), (cC, .char), (cL, .object "SharedSyntax$Letters")] (jEn sk sv) [.ref (ad 0)] (wR cI cC ad z0) (wR cI cC ad z1) := by
  refine Cv_of (cc := prog_4_method_5_code) (maxL := 1) (ret := none) (by decide) rfl (Nat.le_of_ble_eq_true rfl) ?_
  intro p e s m below meth c ls F hl hK hN hC
  obtain ⟨hx, hb, hml, hown, hts, hr, hlk⟩ := F
  have ht : ∀ w ∈ TB, w.before [.ref (ad 0)].toArray s = true := fun w h => hts w (List.mem_cons_of_mem _ h)
  have hA : ∀ q, s.heap.size ≤ q → va_A (wR cI cC ad z0) s.heap.size q := fun q h => Or.inr h
  have hl : lv_has ls 1 [(0, .ref (ad 0))] := hl
  unfold fR_skip at hf
  refine lv_aload_n hx hb dR_skip_0 rfl (lv_at hl 0 rfl) ?_
  refine va_get (D := (dC, dI)) (ci := 3) (v := .int (jgI z0 6)) (C := RcR) (T := TcR) (N := 10) hx hb ht in_cR hown hK hC.1 0 (wR_e0 cI cC ad z0) rfl 6 (by decide) (ht _ tw120) (fun _ h9 => h9) rfl dR_skip_1 ?_
  refine lv_bipush (v := 60) hx hb dR_skip_4 (by decide) ?_
  refine lv_icmp_ge (tgt := 62) hx hb dR_skip_6 (by decide) (fun c1 => ?_) (fun c1 => ?_)
  · replace hf := jif_t c1 hf
    refine lv_aload_n hx hb dR_skip_62 rfl (lv_at hl 0 rfl) ?_
    refine va_get (D := (dC, dI)) (ci := 3) (v := .ref (ad 2)) (C := RcR) (T := TcR) (N := 10) hx hb ht in_cR hown hK hC.1 0 (wR_e0 cI cC ad z0) rfl 2 (by decide) (ht _ tw116) (fun _ h9 => h9) rfl dR_skip_63 ?_
    obtain ⟨r2, s2, hc2, hf⟩ := jB_some hf
    refine jcall_v (va_runV (C := RcK) (As := []) (rest := []) ⟨hx, hb, hml, hown, hts⟩ ((cK_advance l dC dI cI cC cL sk sv ad N z0 s2 r2 hc2) _) ⟨(callB_of 0 hts (tb_good tw355) rfl rfl rfl (ht _ tw5) (ht _ tw352) (by decide +kernel) ⟨Nat.le_of_ble_eq_true rfl, Nat.le_of_ble_eq_true rfl⟩), ht _ tw353, ht _ tw354⟩ (jpreV (jEn_ok sk sv) hC hA hK hN (wR_e2 cI cC ad z0) rfl rfl _) rfl rfl hl.1 rfl (lv_room (Nat.le_of_ble_eq_true rfl)) dR_skip_66 ⟨Nat.le_refl _, Nat.le_refl _⟩) hC hA (fun H locs hC => ?_)
    cases hf
    exact jret_v hx hb hr hlk hC hK dR_skip_69
  · replace hf := jif_f c1 hf
    refine lv_aload_n hx hb dR_skip_9 rfl (lv_at hl 0 rfl) ?_
    refine va_get (D := (dC, dI)) (ci := 3) (v := .ref (ad 14)) (C := RcR) (T := TcR) (N := 10) hx hb ht in_cR hown hK hC.1 0 (wR_e0 cI cC ad z0) rfl 4 (by decide) (ht _ tw118) (fun _ h9 => h9) rfl dR_skip_10 ?_
    refine lv_aload_n hx hb dR_skip_13 rfl (lv_at hl 0 rfl) ?_
    refine va_get (D := (dC, dI)) (ci := 3) (v := .int (jgI z0 6)) (C := RcR) (T := TcR) (N := 10) hx hb ht in_cR hown hK hC.1 0 (wR_e0 cI cC ad z0) rfl 6 (by decide) (ht _ tw120) (fun _ h9 => h9) rfl dR_skip_14 ?_
    refine lv_aload_n hx hb dR_skip_17 rfl (lv_at hl 0 rfl) ?_
    refine va_get (D := (dC, dI)) (ci := 3) (v := .ref (ad 2)) (C := RcR) (T := TcR) (N := 10) hx hb ht in_cR hown hK hC.1 0 (wR_e0 cI cC ad z0) rfl 2 (by decide) (ht _ tw116) (fun _ h9 => h9) rfl dR_skip_18 ?_
    obtain ⟨r3, s3, hc3, hf⟩ := jB_some hf
    refine jcall_i (va_runV (C := RcK) (As := []) (rest := [.int (jgI z0 6), .ref (ad 14)]) ⟨hx, hb, hml, hown, hts⟩ ((cK_own l dC dI cI cC cL sk sv ad N z0 s3 r3 hc3) _) ⟨(callB_of 0 hts (tb_good tw343) rfl rfl rfl (ht _ tw5) (ht _ tw340) (by decide +kernel) ⟨Nat.le_of_ble_eq_true rfl, Nat.le_of_ble_eq_true rfl⟩), ht _ tw341, ht _ tw342⟩ (jpreV (jEn_ok sk sv) hC hA hK hN (wR_e2 cI cC ad z0) rfl rfl _) rfl rfl hl.1 rfl (lv_room (Nat.le_of_ble_eq_true rfl)) dR_skip_21 ⟨Nat.le_refl _, Nat.le_refl _⟩) hC hA (fun H locs hC => ?_)
    obtain ⟨hi4, hf⟩ := jC_in hf
    obtain ⟨s4, e4, hf⟩ := jL_s hf
    refine jast_i hx hb hK hC 14 0 (wR_e14 cI cC ad s3) rfl hi4 dR_skip_24 ((wR_a10 cI cC ad s3 _ _).trans (congrArg (wR cI cC ad) e4.symm)) (fun H locs hC => ?_)
    refine lv_aload_n hx hb dR_skip_25 rfl (lv_at hl 0 rfl) ?_
    refine va_get (D := (dC, dI)) (ci := 3) (v := .ref (ad 15)) (C := RcR) (T := TcR) (N := 10) hx hb ht in_cR hown hK hC.1 0 (wR_e0 cI cC ad s4) rfl 5 (by decide) (ht _ tw119) (fun _ h9 => h9) rfl dR_skip_26 ?_
    refine lv_aload_n hx hb dR_skip_29 rfl (lv_at hl 0 rfl) ?_
    refine va_get (D := (dC, dI)) (ci := 3) (v := .int (jgI s4 6)) (C := RcR) (T := TcR) (N := 10) hx hb ht in_cR hown hK hC.1 0 (wR_e0 cI cC ad s4) rfl 6 (by decide) (ht _ tw120) (fun _ h9 => h9) rfl dR_skip_30 ?_
    refine lv_aload_n hx hb dR_skip_33 rfl (lv_at hl 0 rfl) ?_
    refine va_get (D := (dC, dI)) (ci := 3) (v := .ref (ad 2)) (C := RcR) (T := TcR) (N := 10) hx hb ht in_cR hown hK hC.1 0 (wR_e0 cI cC ad s4) rfl 2 (by decide) (ht _ tw116) (fun _ h9 => h9) rfl dR_skip_34 ?_
    obtain ⟨r5, s5, hc5, hf⟩ := jB_some hf
    refine jcall_i (va_runV (C := RcK) (As := []) (rest := [.int (jgI s4 6), .ref (ad 15)]) ⟨hx, hb, hml, hown, hts⟩ ((cK_kind l dC dI cI cC cL sk sv ad N s4 s5 r5 hc5) _) ⟨(callB_of 0 hts (tb_good tw320) rfl rfl rfl (ht _ tw5) (ht _ tw317) (by decide +kernel) ⟨Nat.le_of_ble_eq_true rfl, Nat.le_of_ble_eq_true rfl⟩), ht _ tw318, ht _ tw319⟩ (jpreV (jEn_ok sk sv) hC hA hK hN (wR_e2 cI cC ad s4) rfl rfl _) rfl rfl hl.1 rfl (lv_room (Nat.le_of_ble_eq_true rfl)) dR_skip_37 ⟨Nat.le_refl _, Nat.le_refl _⟩) hC hA (fun H locs hC => ?_)
    obtain ⟨r6, s6, hc6, hf⟩ := jB_some hf
    refine jcall_i (va_runS (As := [.int r5]) (rest := [.int (jgI s4 6), .ref (ad 15)]) ⟨hx, hb, hml, hown, hts⟩ ((cR_canBegin l dC dI cI cC cL sk sv ad N r5 s5 s6 r6 hc6) _) ⟨(callB_of 1 hts (tb_good tw327) rfl rfl rfl (ht _ tw2) (ht _ tw325) (by decide +kernel) ⟨Nat.le_of_ble_eq_true rfl, Nat.le_of_ble_eq_true rfl⟩), ht _ tw326⟩ (jpreS (jEn_ok sk sv) hC hA hK hN _) rfl rfl hl.1 rfl (lv_room (Nat.le_of_ble_eq_true rfl)) dR_skip_40 ⟨Nat.le_refl _, Nat.le_refl _⟩) hC hA (fun H locs hC => ?_)
    refine lv_if_eq (tgt := 50) hx hb dR_skip_43 (by decide) (fun c7 => ?_) (fun c7 => ?_)
    · replace hf := jif_t c7 hf
      refine lv_iconst (v := 1) hx hb dR_skip_50 (by decide) ?_
      obtain ⟨hi8, hf⟩ := jC_in hf
      obtain ⟨s8, e8, hf⟩ := jL_s hf
      refine jast_i hx hb hK hC 15 0 (wR_e15 cI cC ad s6) rfl hi8 dR_skip_51 ((wR_a11 cI cC ad s6 _ _).trans (congrArg (wR cI cC ad) e8.symm)) (fun H locs hC => ?_)
      refine lv_aload_n hx hb dR_skip_52 rfl (lv_at hl 0 rfl) ?_
      refine lv_dup hx hb dR_skip_53 rfl ?_
      refine va_get (D := (dC, dI)) (ci := 3) (v := .int (jgI s8 6)) (C := RcR) (T := TcR) (N := 10) hx hb ht in_cR hown hK hC.1 0 (wR_e0 cI cC ad s8) rfl 6 (by decide) (ht _ tw120) (fun _ h9 => h9) rfl dR_skip_54 ?_
      refine lv_iconst (v := 1) hx hb dR_skip_57 (by decide) ?_
      refine lv_iadd hx hb dR_skip_58 ?_
      obtain ⟨s9, e9, hf⟩ := jL_s hf
      refine jput (ci := 3) (C := RcR) (T := TcR) (N := 10) hx hb ht in_cR tycR tycR_ok nmcR hown hK hC 0 (wR_e0 cI cC ad s8) rfl 6 (by decide) (ht _ tw120) (fun _ h9 => h9) rfl rfl (Nat.le_of_ble_eq_true rfl) dR_skip_59 ((wR_p6 cI cC ad s8 _).trans (congrArg (wR cI cC ad) e9.symm)) (fun H locs hC => ?_)
      refine lv_aload_n hx hb dR_skip_62 rfl (lv_at hl 0 rfl) ?_
      refine va_get (D := (dC, dI)) (ci := 3) (v := .ref (ad 2)) (C := RcR) (T := TcR) (N := 10) hx hb ht in_cR hown hK hC.1 0 (wR_e0 cI cC ad s9) rfl 2 (by decide) (ht _ tw116) (fun _ h9 => h9) rfl dR_skip_63 ?_
      obtain ⟨r10, s10, hc10, hf⟩ := jB_some hf
      refine jcall_v (va_runV (C := RcK) (As := []) (rest := []) ⟨hx, hb, hml, hown, hts⟩ ((cK_advance l dC dI cI cC cL sk sv ad N s9 s10 r10 hc10) _) ⟨(callB_of 0 hts (tb_good tw355) rfl rfl rfl (ht _ tw5) (ht _ tw352) (by decide +kernel) ⟨Nat.le_of_ble_eq_true rfl, Nat.le_of_ble_eq_true rfl⟩), ht _ tw353, ht _ tw354⟩ (jpreV (jEn_ok sk sv) hC hA hK hN (wR_e2 cI cC ad s9) rfl rfl _) rfl rfl hl.1 rfl (lv_room (Nat.le_of_ble_eq_true rfl)) dR_skip_66 ⟨Nat.le_refl _, Nat.le_refl _⟩) hC hA (fun H locs hC => ?_)
      cases hf
      exact jret_v hx hb hr hlk hC hK dR_skip_69
    · replace hf := jif_f c7 hf
      refine lv_iconst (v := 3) hx hb dR_skip_46 (by decide) ?_
      refine lv_goto (tgt := 51) hx hb dR_skip_47 (by decide) ?_
      obtain ⟨hi11, hf⟩ := jC_in hf
      obtain ⟨s11, e11, hf⟩ := jL_s hf
      refine jast_i hx hb hK hC 15 0 (wR_e15 cI cC ad s6) rfl hi11 dR_skip_51 ((wR_a11 cI cC ad s6 _ _).trans (congrArg (wR cI cC ad) e11.symm)) (fun H locs hC => ?_)
      refine lv_aload_n hx hb dR_skip_52 rfl (lv_at hl 0 rfl) ?_
      refine lv_dup hx hb dR_skip_53 rfl ?_
      refine va_get (D := (dC, dI)) (ci := 3) (v := .int (jgI s11 6)) (C := RcR) (T := TcR) (N := 10) hx hb ht in_cR hown hK hC.1 0 (wR_e0 cI cC ad s11) rfl 6 (by decide) (ht _ tw120) (fun _ h9 => h9) rfl dR_skip_54 ?_
      refine lv_iconst (v := 1) hx hb dR_skip_57 (by decide) ?_
      refine lv_iadd hx hb dR_skip_58 ?_
      obtain ⟨s12, e12, hf⟩ := jL_s hf
      refine jput (ci := 3) (C := RcR) (T := TcR) (N := 10) hx hb ht in_cR tycR tycR_ok nmcR hown hK hC 0 (wR_e0 cI cC ad s11) rfl 6 (by decide) (ht _ tw120) (fun _ h9 => h9) rfl rfl (Nat.le_of_ble_eq_true rfl) dR_skip_59 ((wR_p6 cI cC ad s11 _).trans (congrArg (wR cI cC ad) e12.symm)) (fun H locs hC => ?_)
      refine lv_aload_n hx hb dR_skip_62 rfl (lv_at hl 0 rfl) ?_
      refine va_get (D := (dC, dI)) (ci := 3) (v := .ref (ad 2)) (C := RcR) (T := TcR) (N := 10) hx hb ht in_cR hown hK hC.1 0 (wR_e0 cI cC ad s12) rfl 2 (by decide) (ht _ tw116) (fun _ h9 => h9) rfl dR_skip_63 ?_
      obtain ⟨r13, s13, hc13, hf⟩ := jB_some hf
      refine jcall_v (va_runV (C := RcK) (As := []) (rest := []) ⟨hx, hb, hml, hown, hts⟩ ((cK_advance l dC dI cI cC cL sk sv ad N s12 s13 r13 hc13) _) ⟨(callB_of 0 hts (tb_good tw355) rfl rfl rfl (ht _ tw5) (ht _ tw352) (by decide +kernel) ⟨Nat.le_of_ble_eq_true rfl, Nat.le_of_ble_eq_true rfl⟩), ht _ tw353, ht _ tw354⟩ (jpreV (jEn_ok sk sv) hC hA hK hN (wR_e2 cI cC ad s12) rfl rfl _) rfl rfl hl.1 rfl (lv_room (Nat.le_of_ble_eq_true rfl)) dR_skip_66 ⟨Nat.le_refl _, Nat.le_refl _⟩) hC hA (fun H locs hC => ?_)
      cases hf
      exact jret_v hx hb hr hlk hC hK dR_skip_69

def fK_end (N : Nat) (z0 : jS) : Option (Int32 × jS) := (if jgI z0 1 ≤ jgI z0 2 then some (jgI z0 0, z0) else (if jIn (jgI z0 2) 61 = true then some (jgA z0 3 (jgI z0 2).toNatClampNeg, z0) else none))
set_option maxHeartbeats 4000000 in
set_option maxRecDepth 100000 in
theorem cK_end (l : Launch) (dC : Nat → ClassId) (dI : Nat → Nat → Nat) (cI cC cL : ClassId) (sk sv : Nat → Nat) (ad : Nat → Nat) (N : Nat) (z0 z1 : jS) (r : Int32) (hf : fK_end N z0 = some (r, z1)) : Ci l yK_end (Cond.code yK_end prog_5_method_4_code 1 (some .int) :: TB) ({ frames := 0, cells := 0, slots := 0, locals := 0 }) (dC, dI) vwCl [(cI, .int), (cC, .char), (cL, .object "SharedSyntax$Letters")] (jEn sk sv) [.ref (ad 2)] (wR cI cC ad z0) (wR cI cC ad z1) r := by
  refine Ci_of (cc := prog_5_method_4_code) (maxL := 1) (ret := (some .int)) (by decide) rfl (Nat.le_of_ble_eq_true rfl) ?_
  intro p e s m below meth c ls F hl hK hN hC
  obtain ⟨hx, hb, hml, hown, hts, hr, hlk⟩ := F
  have ht : ∀ w ∈ TB, w.before [.ref (ad 2)].toArray s = true := fun w h => hts w (List.mem_cons_of_mem _ h)
  have hA : ∀ q, s.heap.size ≤ q → va_A (wR cI cC ad z0) s.heap.size q := fun q h => Or.inr h
  have hl : lv_has ls 1 [(0, .ref (ad 2))] := hl
  unfold fK_end at hf
  refine lv_aload_n hx hb dK_end_0 rfl (lv_at hl 0 rfl) ?_
  refine va_get (D := (dC, dI)) (ci := 1) (v := .int (jgI z0 2)) (C := RcK) (T := TcK) (N := 6) hx hb ht in_cK hown hK hC.1 2 (wR_e2 cI cC ad z0) rfl 5 (by decide) (ht _ tw98) (fun _ h9 => h9) rfl dK_end_1 ?_
  refine lv_aload_n hx hb dK_end_4 rfl (lv_at hl 0 rfl) ?_
  refine va_get (D := (dC, dI)) (ci := 1) (v := .int (jgI z0 1)) (C := RcK) (T := TcK) (N := 6) hx hb ht in_cK hown hK hC.1 2 (wR_e2 cI cC ad z0) rfl 4 (by decide) (ht _ tw97) (fun _ h9 => h9) rfl dK_end_5 ?_
  refine lv_icmp_ge (tgt := 23) hx hb dK_end_8 (by decide) (fun c1 => ?_) (fun c1 => ?_)
  · replace hf := jif_t c1 hf
    refine lv_aload_n hx hb dK_end_23 rfl (lv_at hl 0 rfl) ?_
    refine va_get (D := (dC, dI)) (ci := 1) (v := .ref (ad 3)) (C := RcK) (T := TcK) (N := 6) hx hb ht in_cK hown hK hC.1 2 (wR_e2 cI cC ad z0) rfl 0 (by decide) (ht _ tw93) (fun _ h9 => h9) rfl dK_end_24 ?_
    refine va_getN (D := (dC, dI)) (ci := 0) (v := .int (jgI z0 0)) (C := RcL) (T := TcL) (N := 2) hx hb ht in_cL hown hK hC.1 3 (wR_e3 cI cC ad z0) rfl 1 (by decide) (va_Nw.use rfl (hN.1 _ nw33)) (fun _ h9 => h9) rfl dK_end_27 ?_
    cases hf
    exact jret_i hx hb hr hlk hC hK dK_end_30
  · replace hf := jif_f c1 hf
    refine lv_aload_n hx hb dK_end_11 rfl (lv_at hl 0 rfl) ?_
    refine va_get (D := (dC, dI)) (ci := 1) (v := .ref (ad 7)) (C := RcK) (T := TcK) (N := 6) hx hb ht in_cK hown hK hC.1 2 (wR_e2 cI cC ad z0) rfl 3 (by decide) (ht _ tw96) (fun _ h9 => h9) rfl dK_end_12 ?_
    refine lv_aload_n hx hb dK_end_15 rfl (lv_at hl 0 rfl) ?_
    refine va_get (D := (dC, dI)) (ci := 1) (v := .int (jgI z0 2)) (C := RcK) (T := TcK) (N := 6) hx hb ht in_cK hown hK hC.1 2 (wR_e2 cI cC ad z0) rfl 5 (by decide) (ht _ tw98) (fun _ h9 => h9) rfl dK_end_16 ?_
    obtain ⟨hi2, hf⟩ := jC_in hf
    refine va_iald hx hb hK hC.1 7 0 (wR_e7 cI cC ad z0) rfl hi2 dK_end_19 ?_
    refine lv_goto (tgt := 30) hx hb dK_end_20 (by decide) ?_
    cases hf
    exact jret_i hx hb hr hlk hC hK dK_end_30

def fT_addFault (N : Nat) (a0 a1 : Int32) (z0 : jS) : Option (Int32 × jS) := (if (180 : Int32) ≤ jgI z0 4 then some (0, z0) else (if jIn (jgI z0 4) 180 = true then (jL (jsA z0 9 (jgI z0 4).toNatClampNeg (((4 : Int32) * a0) + a1)) fun s2 => (jL (jsI s2 4 (jgI s2 4 + (1 : Int32))) fun s3 => some (0, s3))) else none))
set_option maxHeartbeats 4000000 in
set_option maxRecDepth 100000 in
theorem cT_addFault (l : Launch) (dC : Nat → ClassId) (dI : Nat → Nat → Nat) (cI cC cL : ClassId) (sk sv : Nat → Nat) (ad : Nat → Nat) (N : Nat) (a0 a1 : Int32) (z0 z1 : jS) (r : Int32) (hf : fT_addFault N a0 a1 z0 = some (r, z1)) : Cv l yT_addFault (Cond.code yT_addFault prog_6_method_4_code 3 none :: TB) ({ frames := 0, cells := 0, slots := 0, locals := 0 }) (dC, dI) vwCl [(cI, .int), (cC, .char), (cL, .object "SharedSyntax$Letters")] (jEn sk sv) [.ref (ad 1), .int a0, .int a1] (wR cI cC ad z0) (wR cI cC ad z1) := by
  refine Cv_of (cc := prog_6_method_4_code) (maxL := 3) (ret := none) (by decide) rfl (Nat.le_of_ble_eq_true rfl) ?_
  intro p e s m below meth c ls F hl hK hN hC
  obtain ⟨hx, hb, hml, hown, hts, hr, hlk⟩ := F
  have ht : ∀ w ∈ TB, w.before [.ref (ad 1), .int a0, .int a1].toArray s = true := fun w h => hts w (List.mem_cons_of_mem _ h)
  have hA : ∀ q, s.heap.size ≤ q → va_A (wR cI cC ad z0) s.heap.size q := fun q h => Or.inr h
  have hl : lv_has ls 3 [(0, .ref (ad 1)), (1, .int a0), (2, .int a1)] := hl
  unfold fT_addFault at hf
  refine lv_aload_n hx hb dT_addFault_0 rfl (lv_at hl 0 rfl) ?_
  refine va_get (D := (dC, dI)) (ci := 2) (v := .int (jgI z0 4)) (C := RcT) (T := TcT) (N := 9) hx hb ht in_cT hown hK hC.1 1 (wR_e1 cI cC ad z0) rfl 8 (by decide) (ht _ tw66) (fun _ h9 => h9) rfl dT_addFault_1 ?_
  refine lv_sipush (v := 180) hx hb dT_addFault_4 (by decide) ?_
  refine lv_icmp_ge (tgt := 34) hx hb dT_addFault_7 (by decide) (fun c1 => ?_) (fun c1 => ?_)
  · replace hf := jif_t c1 hf
    cases hf
    exact jret_v hx hb hr hlk hC hK dT_addFault_34
  · replace hf := jif_f c1 hf
    refine lv_aload_n hx hb dT_addFault_10 rfl (lv_at hl 0 rfl) ?_
    refine va_get (D := (dC, dI)) (ci := 2) (v := .ref (ad 13)) (C := RcT) (T := TcT) (N := 9) hx hb ht in_cT hown hK hC.1 1 (wR_e1 cI cC ad z0) rfl 6 (by decide) (ht _ tw61) (fun _ h9 => h9) rfl dT_addFault_11 ?_
    refine lv_aload_n hx hb dT_addFault_14 rfl (lv_at hl 0 rfl) ?_
    refine va_get (D := (dC, dI)) (ci := 2) (v := .int (jgI z0 4)) (C := RcT) (T := TcT) (N := 9) hx hb ht in_cT hown hK hC.1 1 (wR_e1 cI cC ad z0) rfl 8 (by decide) (ht _ tw66) (fun _ h9 => h9) rfl dT_addFault_15 ?_
    refine lv_iconst (v := 4) hx hb dT_addFault_18 (by decide) ?_
    refine lv_iload_n hx hb dT_addFault_19 rfl (lv_at hl 1 rfl) ?_
    refine lv_imul hx hb dT_addFault_20 ?_
    refine lv_iload_n hx hb dT_addFault_21 rfl (lv_at hl 2 rfl) ?_
    refine lv_iadd hx hb dT_addFault_22 ?_
    obtain ⟨hi2, hf⟩ := jC_in hf
    obtain ⟨s2, e2, hf⟩ := jL_s hf
    refine jast_i hx hb hK hC 13 0 (wR_e13 cI cC ad z0) rfl hi2 dT_addFault_23 ((wR_a9 cI cC ad z0 _ _).trans (congrArg (wR cI cC ad) e2.symm)) (fun H locs hC => ?_)
    refine lv_aload_n hx hb dT_addFault_24 rfl (lv_at hl 0 rfl) ?_
    refine lv_dup hx hb dT_addFault_25 rfl ?_
    refine va_get (D := (dC, dI)) (ci := 2) (v := .int (jgI s2 4)) (C := RcT) (T := TcT) (N := 9) hx hb ht in_cT hown hK hC.1 1 (wR_e1 cI cC ad s2) rfl 8 (by decide) (ht _ tw66) (fun _ h9 => h9) rfl dT_addFault_26 ?_
    refine lv_iconst (v := 1) hx hb dT_addFault_29 (by decide) ?_
    refine lv_iadd hx hb dT_addFault_30 ?_
    obtain ⟨s3, e3, hf⟩ := jL_s hf
    refine jput (ci := 2) (C := RcT) (T := TcT) (N := 9) hx hb ht in_cT tycT tycT_ok nmcT hown hK hC 1 (wR_e1 cI cC ad s2) rfl 8 (by decide) (ht _ tw66) (fun _ h9 => h9) rfl rfl (Nat.le_of_ble_eq_true rfl) dT_addFault_31 ((wR_p4 cI cC ad s2 _).trans (congrArg (wR cI cC ad) e3.symm)) (fun H locs hC => ?_)
    cases hf
    exact jret_v hx hb hr hlk hC hK dT_addFault_34

def fR_take_b28 (N : Nat) (k28 : Int32 → jS → Option (Int32 × jS)) (x1 : Int32) (s0 : jS) : Option (Int32 × jS) := (if jgI s0 6 ≤ x1 then (jL (jsI s0 6 (0 : Int32)) fun s2802 => (jB (fK_end N s2802) fun r2803 s2803 => (jL (jsI s2803 5 r2803) fun s2804 => (jB (fK_advance N s2804) fun r2805 s2805 => some (0, s2805))))) else (if jIn x1 60 = true then (if jIn x1 60 = true then (jB (fT_addFault N (jgA s0 10 (x1).toNatClampNeg) (jgA s0 11 (x1).toNatClampNeg) s0) fun r2808 s2808 => k28 (x1 + (1 : Int32)) s2808) else none) else none))
def fR_take_28 (N : Nat) : Nat → Int32 → jS → Option (Int32 × jS)
  | 0 => fun _ _ => none
  | n + 1 => fun x1 s0 => fR_take_b28 N (fR_take_28 N n) x1 s0
def fR_take (N : Nat) (z0 : jS) : Option (Int32 × jS) := (jB (fK_kind N z0) fun r1 s1 => (jB (fK_own N s1) fun r2 s2 => (jB (fT_add N r1 (jgI s1 5) r2 s2) fun r3 s3 => fR_take_28 N N (0 : Int32) s3)))
set_option maxHeartbeats 4000000 in
set_option maxRecDepth 100000 in
theorem cR_take (l : Launch) (dC : Nat → ClassId) (dI : Nat → Nat → Nat) (cI cC cL : ClassId) (sk sv : Nat → Nat) (ad : Nat → Nat) (N : Nat) (z0 z1 : jS) (r : Int32) (hf : fR_take N z0 = some (r, z1)) : Cv l yR_take (Cond.code yR_take prog_4_method_4_code 2 none :: TB) ({ frames := 1, cells := 0, slots := 0, locals := 23 }) (dC, dI) vwCl [(cI, .int), (cC, .char), (cL, .object "SharedSyntax$Letters")] (jEn sk sv) [.ref (ad 0)] (wR cI cC ad z0) (wR cI cC ad z1) := by
  refine Cv_of (cc := prog_4_method_4_code) (maxL := 2) (ret := none) (by decide) rfl (Nat.le_of_ble_eq_true rfl) ?_
  intro p e s m below meth c ls F hl hK hN hC
  obtain ⟨hx, hb, hml, hown, hts, hr, hlk⟩ := F
  have ht : ∀ w ∈ TB, w.before [.ref (ad 0)].toArray s = true := fun w h => hts w (List.mem_cons_of_mem _ h)
  have hA : ∀ q, s.heap.size ≤ q → va_A (wR cI cC ad z0) s.heap.size q := fun q h => Or.inr h
  have hl : lv_has ls 2 [(0, .ref (ad 0))] := hl
  have L28 : ∀ (n : Nat) (x1 : Int32) (s0 : jS) (ls : Array Slot) (H : Heap) (locs : List Loc), lv_has ls 2 [(0, .ref (ad 0)), (1, .int x1)] → jcx (dC, dI) vwCl (va_A (wR cI cC ad z0) s.heap.size) s.heap (wR cI cC ad s0) H locs → fR_take_28 N n x1 s0 = some (r, z1) → W p l e ({ frames := 1, cells := 0, slots := 0, locals := 23 }) s m [.ref (ad 0)].toArray below meth c H locs 0 0 (MQ below (jQv (dC, dI) vwCl [(cI, .int), (cC, .char), (cL, .object "SharedSyntax$Letters")] (wR cI cC ad z0) (wR cI cC ad z1) s.heap.size) [.ref (ad 0)].toArray s 0 0 (va_A (wR cI cC ad z0) s.heap.size)) (F0 m 28 ls []) := by
    intro n
    induction n with
    | zero => exact fun _ _ _ _ _ _ _ hf => nomatch hf
    | succ n ih28 =>
      intro x1 s0 ls H locs hl hC hf
      replace hf : fR_take_b28 N (fR_take_28 N n) x1 s0 = some (r, z1) := hf
      generalize fR_take_28 N n = k28 at ih28 hf
      unfold fR_take_b28 at hf
      refine lv_iload_n hx hb dR_take_28 rfl (lv_at hl 1 rfl) ?_
      refine lv_aload_n hx hb dR_take_29 rfl (lv_at hl 0 rfl) ?_
      refine va_get (D := (dC, dI)) (ci := 3) (v := .int (jgI s0 6)) (C := RcR) (T := TcR) (N := 10) hx hb ht in_cR hown hK hC.1 0 (wR_e0 cI cC ad s0) rfl 6 (by decide) (ht _ tw120) (fun _ h9 => h9) rfl dR_take_30 ?_
      refine lv_icmp_ge (tgt := 61) hx hb dR_take_33 (by decide) (fun c2801 => ?_) (fun c2801 => ?_)
      · replace hf := jif_t c2801 hf
        refine lv_aload_n hx hb dR_take_61 rfl (lv_at hl 0 rfl) ?_
        refine lv_iconst (v := 0) hx hb dR_take_62 (by decide) ?_
        obtain ⟨s2802, e2802, hf⟩ := jL_s hf
        refine jput (ci := 3) (C := RcR) (T := TcR) (N := 10) hx hb ht in_cR tycR tycR_ok nmcR hown hK hC 0 (wR_e0 cI cC ad s0) rfl 6 (by decide) (ht _ tw120) (fun _ h9 => h9) rfl rfl (Nat.le_of_ble_eq_true rfl) dR_take_63 ((wR_p6 cI cC ad s0 _).trans (congrArg (wR cI cC ad) e2802.symm)) (fun H locs hC => ?_)
        refine lv_aload_n hx hb dR_take_66 rfl (lv_at hl 0 rfl) ?_
        refine lv_aload_n hx hb dR_take_67 rfl (lv_at hl 0 rfl) ?_
        refine va_get (D := (dC, dI)) (ci := 3) (v := .ref (ad 2)) (C := RcR) (T := TcR) (N := 10) hx hb ht in_cR hown hK hC.1 0 (wR_e0 cI cC ad s2802) rfl 2 (by decide) (ht _ tw116) (fun _ h9 => h9) rfl dR_take_68 ?_
        obtain ⟨r2803, s2803, hc2803, hf⟩ := jB_some hf
        refine jcall_i (va_runV (C := RcK) (As := []) (rest := [.ref (ad 0)]) ⟨hx, hb, hml, hown, hts⟩ ((cK_end l dC dI cI cC cL sk sv ad N s2802 s2803 r2803 hc2803) _) ⟨(callB_of 0 hts (tb_good tw351) rfl rfl rfl (ht _ tw5) (ht _ tw348) (by decide +kernel) ⟨Nat.le_of_ble_eq_true rfl, Nat.le_of_ble_eq_true rfl⟩), ht _ tw349, ht _ tw350⟩ (jpreV (jEn_ok sk sv) hC hA hK hN (wR_e2 cI cC ad s2802) rfl rfl _) rfl rfl hl.1 rfl (lv_room (Nat.le_of_ble_eq_true rfl)) dR_take_71 ⟨Nat.le_refl _, Nat.le_refl _⟩) hC hA (fun H locs hC => ?_)
        obtain ⟨s2804, e2804, hf⟩ := jL_s hf
        refine jput (ci := 3) (C := RcR) (T := TcR) (N := 10) hx hb ht in_cR tycR tycR_ok nmcR hown hK hC 0 (wR_e0 cI cC ad s2803) rfl 3 (by decide) (ht _ tw117) (fun _ h9 => h9) rfl rfl (Nat.le_of_ble_eq_true rfl) dR_take_74 ((wR_p5 cI cC ad s2803 _).trans (congrArg (wR cI cC ad) e2804.symm)) (fun H locs hC => ?_)
        refine lv_aload_n hx hb dR_take_77 rfl (lv_at hl 0 rfl) ?_
        refine va_get (D := (dC, dI)) (ci := 3) (v := .ref (ad 2)) (C := RcR) (T := TcR) (N := 10) hx hb ht in_cR hown hK hC.1 0 (wR_e0 cI cC ad s2804) rfl 2 (by decide) (ht _ tw116) (fun _ h9 => h9) rfl dR_take_78 ?_
        obtain ⟨r2805, s2805, hc2805, hf⟩ := jB_some hf
        refine jcall_v (va_runV (C := RcK) (As := []) (rest := []) ⟨hx, hb, hml, hown, hts⟩ ((cK_advance l dC dI cI cC cL sk sv ad N s2804 s2805 r2805 hc2805) _) ⟨(callB_of 0 hts (tb_good tw355) rfl rfl rfl (ht _ tw5) (ht _ tw352) (by decide +kernel) ⟨Nat.le_of_ble_eq_true rfl, Nat.le_of_ble_eq_true rfl⟩), ht _ tw353, ht _ tw354⟩ (jpreV (jEn_ok sk sv) hC hA hK hN (wR_e2 cI cC ad s2804) rfl rfl _) rfl rfl hl.1 rfl (lv_room (Nat.le_of_ble_eq_true rfl)) dR_take_81 ⟨Nat.le_refl _, Nat.le_refl _⟩) hC hA (fun H locs hC => ?_)
        cases hf
        exact jret_v hx hb hr hlk hC hK dR_take_84
      · replace hf := jif_f c2801 hf
        refine lv_aload_n hx hb dR_take_36 rfl (lv_at hl 0 rfl) ?_
        refine va_get (D := (dC, dI)) (ci := 3) (v := .ref (ad 1)) (C := RcR) (T := TcR) (N := 10) hx hb ht in_cR hown hK hC.1 0 (wR_e0 cI cC ad s0) rfl 1 (by decide) (ht _ tw114) (fun _ h9 => h9) rfl dR_take_37 ?_
        refine lv_aload_n hx hb dR_take_40 rfl (lv_at hl 0 rfl) ?_
        refine va_get (D := (dC, dI)) (ci := 3) (v := .ref (ad 14)) (C := RcR) (T := TcR) (N := 10) hx hb ht in_cR hown hK hC.1 0 (wR_e0 cI cC ad s0) rfl 4 (by decide) (ht _ tw118) (fun _ h9 => h9) rfl dR_take_41 ?_
        refine lv_iload_n hx hb dR_take_44 rfl (lv_at hl 1 rfl) ?_
        obtain ⟨hi2806, hf⟩ := jC_in hf
        refine va_iald hx hb hK hC.1 14 0 (wR_e14 cI cC ad s0) rfl hi2806 dR_take_45 ?_
        refine lv_aload_n hx hb dR_take_46 rfl (lv_at hl 0 rfl) ?_
        refine va_get (D := (dC, dI)) (ci := 3) (v := .ref (ad 15)) (C := RcR) (T := TcR) (N := 10) hx hb ht in_cR hown hK hC.1 0 (wR_e0 cI cC ad s0) rfl 5 (by decide) (ht _ tw119) (fun _ h9 => h9) rfl dR_take_47 ?_
        refine lv_iload_n hx hb dR_take_50 rfl (lv_at hl 1 rfl) ?_
        obtain ⟨hi2807, hf⟩ := jC_in hf
        refine va_iald hx hb hK hC.1 15 0 (wR_e15 cI cC ad s0) rfl hi2807 dR_take_51 ?_
        obtain ⟨r2808, s2808, hc2808, hf⟩ := jB_some hf
        refine jcall_v (va_runV (C := RcT) (As := [.int (jgA s0 10 (x1).toNatClampNeg), .int (jgA s0 11 (x1).toNatClampNeg)]) (rest := []) ⟨hx, hb, hml, hown, hts⟩ ((cT_addFault l dC dI cI cC cL sk sv ad N (jgA s0 10 (x1).toNatClampNeg) (jgA s0 11 (x1).toNatClampNeg) s0 s2808 r2808 hc2808) _) ⟨(callB_of 2 hts (tb_good tw347) rfl rfl rfl (ht _ tw4) (ht _ tw344) (by decide +kernel) ⟨Nat.le_of_ble_eq_true rfl, Nat.le_of_ble_eq_true rfl⟩), ht _ tw345, ht _ tw346⟩ (jpreV (jEn_ok sk sv) hC hA hK hN (wR_e1 cI cC ad s0) rfl rfl _) rfl rfl hl.1 rfl (lv_room (Nat.le_of_ble_eq_true rfl)) dR_take_52 ⟨Nat.le_refl _, Nat.le_refl _⟩) hC hA (fun H locs hC => ?_)
        refine lv_iinc (k := 1) (v := (x1 + (1 : Int32))) (lv' := [(1, .int (x1 + (1 : Int32))), (0, .ref (ad 0))]) hx hb dR_take_55 hl rfl rfl (by decide) rfl (fun ls hl => ?_)
        refine lv_goto (tgt := 28) hx hb dR_take_58 (by decide) ?_
        exact ih28 (x1 + (1 : Int32)) s2808 ls _ _ (lv_sub hl [1, 0] rfl) hC hf
  unfold fR_take at hf
  refine lv_aload_n hx hb dR_take_0 rfl (lv_at hl 0 rfl) ?_
  refine va_get (D := (dC, dI)) (ci := 3) (v := .ref (ad 1)) (C := RcR) (T := TcR) (N := 10) hx hb ht in_cR hown hK hC.1 0 (wR_e0 cI cC ad z0) rfl 1 (by decide) (ht _ tw114) (fun _ h9 => h9) rfl dR_take_1 ?_
  refine lv_aload_n hx hb dR_take_4 rfl (lv_at hl 0 rfl) ?_
  refine va_get (D := (dC, dI)) (ci := 3) (v := .ref (ad 2)) (C := RcR) (T := TcR) (N := 10) hx hb ht in_cR hown hK hC.1 0 (wR_e0 cI cC ad z0) rfl 2 (by decide) (ht _ tw116) (fun _ h9 => h9) rfl dR_take_5 ?_
  obtain ⟨r1, s1, hc1, hf⟩ := jB_some hf
  refine jcall_i (va_runV (C := RcK) (As := []) (rest := [.ref (ad 1)]) ⟨hx, hb, hml, hown, hts⟩ ((cK_kind l dC dI cI cC cL sk sv ad N z0 s1 r1 hc1) _) ⟨(callB_of 0 hts (tb_good tw320) rfl rfl rfl (ht _ tw5) (ht _ tw317) (by decide +kernel) ⟨Nat.le_of_ble_eq_true rfl, Nat.le_of_ble_eq_true rfl⟩), ht _ tw318, ht _ tw319⟩ (jpreV (jEn_ok sk sv) hC hA hK hN (wR_e2 cI cC ad z0) rfl rfl _) rfl rfl hl.1 rfl (lv_room (Nat.le_of_ble_eq_true rfl)) dR_take_8 ⟨Nat.le_refl _, Nat.le_refl _⟩) hC hA (fun H locs hC => ?_)
  refine lv_aload_n hx hb dR_take_11 rfl (lv_at hl 0 rfl) ?_
  refine va_get (D := (dC, dI)) (ci := 3) (v := .int (jgI s1 5)) (C := RcR) (T := TcR) (N := 10) hx hb ht in_cR hown hK hC.1 0 (wR_e0 cI cC ad s1) rfl 3 (by decide) (ht _ tw117) (fun _ h9 => h9) rfl dR_take_12 ?_
  refine lv_aload_n hx hb dR_take_15 rfl (lv_at hl 0 rfl) ?_
  refine va_get (D := (dC, dI)) (ci := 3) (v := .ref (ad 2)) (C := RcR) (T := TcR) (N := 10) hx hb ht in_cR hown hK hC.1 0 (wR_e0 cI cC ad s1) rfl 2 (by decide) (ht _ tw116) (fun _ h9 => h9) rfl dR_take_16 ?_
  obtain ⟨r2, s2, hc2, hf⟩ := jB_some hf
  refine jcall_i (va_runV (C := RcK) (As := []) (rest := [.int (jgI s1 5), .int r1, .ref (ad 1)]) ⟨hx, hb, hml, hown, hts⟩ ((cK_own l dC dI cI cC cL sk sv ad N s1 s2 r2 hc2) _) ⟨(callB_of 0 hts (tb_good tw343) rfl rfl rfl (ht _ tw5) (ht _ tw340) (by decide +kernel) ⟨Nat.le_of_ble_eq_true rfl, Nat.le_of_ble_eq_true rfl⟩), ht _ tw341, ht _ tw342⟩ (jpreV (jEn_ok sk sv) hC hA hK hN (wR_e2 cI cC ad s1) rfl rfl _) rfl rfl hl.1 rfl (lv_room (Nat.le_of_ble_eq_true rfl)) dR_take_19 ⟨Nat.le_refl _, Nat.le_refl _⟩) hC hA (fun H locs hC => ?_)
  obtain ⟨r3, s3, hc3, hf⟩ := jB_some hf
  refine jcall_i (va_runV (C := RcT) (As := [.int r1, .int (jgI s1 5), .int r2]) (rest := []) ⟨hx, hb, hml, hown, hts⟩ ((cT_add l dC dI cI cC cL sk sv ad N r1 (jgI s1 5) r2 s2 s3 r3 hc3) _) ⟨(callB_of 3 hts (tb_good tw308) rfl rfl rfl (ht _ tw4) (ht _ tw305) (by decide +kernel) ⟨Nat.le_of_ble_eq_true rfl, Nat.le_of_ble_eq_true rfl⟩), ht _ tw306, ht _ tw307⟩ (jpreV (jEn_ok sk sv) hC hA hK hN (wR_e1 cI cC ad s2) rfl rfl _) rfl rfl hl.1 rfl (lv_room (Nat.le_of_ble_eq_true rfl)) dR_take_22 ⟨Nat.le_refl _, Nat.le_refl _⟩) hC hA (fun H locs hC => ?_)
  refine lv_pop hx hb dR_take_25 rfl ?_
  refine lv_iconst (v := 0) hx hb dR_take_26 (by decide) ?_
  refine lv_istore_n (lv' := [(1, .int (0 : Int32)), (0, .ref (ad 0))]) hx hb dR_take_27 rfl hl (by decide) rfl (fun ls hl => ?_)
  exact L28 N (0 : Int32) s3 ls _ _ (lv_sub hl [1, 0] rfl) hC hf

def fR_miss (N : Nat) (a0 a1 : Int32) (z0 : jS) : Option (Int32 × jS) := (jB (fT_add N a0 (jgI z0 5) (jgI z0 5) z0) fun r1 s1 => (jB (fT_addFault N (jgI s1 5) a1 s1) fun r2 s2 => some (0, s2)))
set_option maxHeartbeats 4000000 in
set_option maxRecDepth 100000 in
theorem cR_miss (l : Launch) (dC : Nat → ClassId) (dI : Nat → Nat → Nat) (cI cC cL : ClassId) (sk sv : Nat → Nat) (ad : Nat → Nat) (N : Nat) (a0 a1 : Int32) (z0 z1 : jS) (r : Int32) (hf : fR_miss N a0 a1 z0 = some (r, z1)) : Cv l yR_miss (Cond.code yR_miss prog_4_method_6_code 3 none :: TB) ({ frames := 1, cells := 0, slots := 0, locals := 23 }) (dC, dI) vwCl [(cI, .int), (cC, .char), (cL, .object "SharedSyntax$Letters")] (jEn sk sv) [.ref (ad 0), .int a0, .int a1] (wR cI cC ad z0) (wR cI cC ad z1) := by
  refine Cv_of (cc := prog_4_method_6_code) (maxL := 3) (ret := none) (by decide) rfl (Nat.le_of_ble_eq_true rfl) ?_
  intro p e s m below meth c ls F hl hK hN hC
  obtain ⟨hx, hb, hml, hown, hts, hr, hlk⟩ := F
  have ht : ∀ w ∈ TB, w.before [.ref (ad 0), .int a0, .int a1].toArray s = true := fun w h => hts w (List.mem_cons_of_mem _ h)
  have hA : ∀ q, s.heap.size ≤ q → va_A (wR cI cC ad z0) s.heap.size q := fun q h => Or.inr h
  have hl : lv_has ls 3 [(0, .ref (ad 0)), (1, .int a0), (2, .int a1)] := hl
  unfold fR_miss at hf
  refine lv_aload_n hx hb dR_miss_0 rfl (lv_at hl 0 rfl) ?_
  refine va_get (D := (dC, dI)) (ci := 3) (v := .ref (ad 1)) (C := RcR) (T := TcR) (N := 10) hx hb ht in_cR hown hK hC.1 0 (wR_e0 cI cC ad z0) rfl 1 (by decide) (ht _ tw114) (fun _ h9 => h9) rfl dR_miss_1 ?_
  refine lv_iload_n hx hb dR_miss_4 rfl (lv_at hl 1 rfl) ?_
  refine lv_aload_n hx hb dR_miss_5 rfl (lv_at hl 0 rfl) ?_
  refine va_get (D := (dC, dI)) (ci := 3) (v := .int (jgI z0 5)) (C := RcR) (T := TcR) (N := 10) hx hb ht in_cR hown hK hC.1 0 (wR_e0 cI cC ad z0) rfl 3 (by decide) (ht _ tw117) (fun _ h9 => h9) rfl dR_miss_6 ?_
  refine lv_aload_n hx hb dR_miss_9 rfl (lv_at hl 0 rfl) ?_
  refine va_get (D := (dC, dI)) (ci := 3) (v := .int (jgI z0 5)) (C := RcR) (T := TcR) (N := 10) hx hb ht in_cR hown hK hC.1 0 (wR_e0 cI cC ad z0) rfl 3 (by decide) (ht _ tw117) (fun _ h9 => h9) rfl dR_miss_10 ?_
  obtain ⟨r1, s1, hc1, hf⟩ := jB_some hf
  refine jcall_i (va_runV (C := RcT) (As := [.int a0, .int (jgI z0 5), .int (jgI z0 5)]) (rest := []) ⟨hx, hb, hml, hown, hts⟩ ((cT_add l dC dI cI cC cL sk sv ad N a0 (jgI z0 5) (jgI z0 5) z0 s1 r1 hc1) _) ⟨(callB_of 3 hts (tb_good tw308) rfl rfl rfl (ht _ tw4) (ht _ tw305) (by decide +kernel) ⟨Nat.le_of_ble_eq_true rfl, Nat.le_of_ble_eq_true rfl⟩), ht _ tw306, ht _ tw307⟩ (jpreV (jEn_ok sk sv) hC hA hK hN (wR_e1 cI cC ad z0) rfl rfl _) rfl rfl hl.1 rfl (lv_room (Nat.le_of_ble_eq_true rfl)) dR_miss_13 ⟨Nat.le_refl _, Nat.le_refl _⟩) hC hA (fun H locs hC => ?_)
  refine lv_pop hx hb dR_miss_16 rfl ?_
  refine lv_aload_n hx hb dR_miss_17 rfl (lv_at hl 0 rfl) ?_
  refine va_get (D := (dC, dI)) (ci := 3) (v := .ref (ad 1)) (C := RcR) (T := TcR) (N := 10) hx hb ht in_cR hown hK hC.1 0 (wR_e0 cI cC ad s1) rfl 1 (by decide) (ht _ tw114) (fun _ h9 => h9) rfl dR_miss_18 ?_
  refine lv_aload_n hx hb dR_miss_21 rfl (lv_at hl 0 rfl) ?_
  refine va_get (D := (dC, dI)) (ci := 3) (v := .int (jgI s1 5)) (C := RcR) (T := TcR) (N := 10) hx hb ht in_cR hown hK hC.1 0 (wR_e0 cI cC ad s1) rfl 3 (by decide) (ht _ tw117) (fun _ h9 => h9) rfl dR_miss_22 ?_
  refine lv_iload_n hx hb dR_miss_25 rfl (lv_at hl 2 rfl) ?_
  obtain ⟨r2, s2, hc2, hf⟩ := jB_some hf
  refine jcall_v (va_runV (C := RcT) (As := [.int (jgI s1 5), .int a1]) (rest := []) ⟨hx, hb, hml, hown, hts⟩ ((cT_addFault l dC dI cI cC cL sk sv ad N (jgI s1 5) a1 s1 s2 r2 hc2) _) ⟨(callB_of 2 hts (tb_good tw347) rfl rfl rfl (ht _ tw4) (ht _ tw344) (by decide +kernel) ⟨Nat.le_of_ble_eq_true rfl, Nat.le_of_ble_eq_true rfl⟩), ht _ tw345, ht _ tw346⟩ (jpreV (jEn_ok sk sv) hC hA hK hN (wR_e1 cI cC ad s1) rfl rfl _) rfl rfl hl.1 rfl (lv_room (Nat.le_of_ble_eq_true rfl)) dR_miss_26 ⟨Nat.le_refl _, Nat.le_refl _⟩) hC hA (fun H locs hC => ?_)
  cases hf
  exact jret_v hx hb hr hlk hC hK dR_miss_29

def fR_expect (N : Nat) (a0 : Int32) (z0 : jS) : Option (Int32 × jS) := (jB (fK_kind N z0) fun r1 s1 => (if r1 = a0 then (jB (fR_take N s1) fun r4 s4 => some (0, s4)) else (jB (fR_miss N a0 (2 : Int32) s1) fun r3 s3 => some (0, s3))))
set_option maxHeartbeats 4000000 in
set_option maxRecDepth 100000 in
theorem cR_expect (l : Launch) (dC : Nat → ClassId) (dI : Nat → Nat → Nat) (cI cC cL : ClassId) (sk sv : Nat → Nat) (ad : Nat → Nat) (N : Nat) (a0 : Int32) (z0 z1 : jS) (r : Int32) (hf : fR_expect N a0 z0 = some (r, z1)) : Cv l yR_expect (Cond.code yR_expect prog_4_method_7_code 2 none :: TB) ({ frames := 2, cells := 0, slots := 0, locals := 45 }) (dC, dI) vwCl [(cI, .int), (cC, .char), (cL, .object "SharedSyntax$Letters")] (jEn sk sv) [.ref (ad 0), .int a0] (wR cI cC ad z0) (wR cI cC ad z1) := by
  refine Cv_of (cc := prog_4_method_7_code) (maxL := 2) (ret := none) (by decide) rfl (Nat.le_of_ble_eq_true rfl) ?_
  intro p e s m below meth c ls F hl hK hN hC
  obtain ⟨hx, hb, hml, hown, hts, hr, hlk⟩ := F
  have ht : ∀ w ∈ TB, w.before [.ref (ad 0), .int a0].toArray s = true := fun w h => hts w (List.mem_cons_of_mem _ h)
  have hA : ∀ q, s.heap.size ≤ q → va_A (wR cI cC ad z0) s.heap.size q := fun q h => Or.inr h
  have hl : lv_has ls 2 [(0, .ref (ad 0)), (1, .int a0)] := hl
  unfold fR_expect at hf
  refine lv_aload_n hx hb dR_expect_0 rfl (lv_at hl 0 rfl) ?_
  refine va_get (D := (dC, dI)) (ci := 3) (v := .ref (ad 2)) (C := RcR) (T := TcR) (N := 10) hx hb ht in_cR hown hK hC.1 0 (wR_e0 cI cC ad z0) rfl 2 (by decide) (ht _ tw116) (fun _ h9 => h9) rfl dR_expect_1 ?_
  obtain ⟨r1, s1, hc1, hf⟩ := jB_some hf
  refine jcall_i (va_runV (C := RcK) (As := []) (rest := []) ⟨hx, hb, hml, hown, hts⟩ ((cK_kind l dC dI cI cC cL sk sv ad N z0 s1 r1 hc1) _) ⟨(callB_of 0 hts (tb_good tw320) rfl rfl rfl (ht _ tw5) (ht _ tw317) (by decide +kernel) ⟨Nat.le_of_ble_eq_true rfl, Nat.le_of_ble_eq_true rfl⟩), ht _ tw318, ht _ tw319⟩ (jpreV (jEn_ok sk sv) hC hA hK hN (wR_e2 cI cC ad z0) rfl rfl _) rfl rfl hl.1 rfl (lv_room (Nat.le_of_ble_eq_true rfl)) dR_expect_4 ⟨Nat.le_refl _, Nat.le_refl _⟩) hC hA (fun H locs hC => ?_)
  refine lv_iload_n hx hb dR_expect_7 rfl (lv_at hl 1 rfl) ?_
  refine lv_icmp_ne (tgt := 18) hx hb dR_expect_8 (by decide) (fun c2 => ?_) (fun c2 => ?_)
  · replace hf := jif_f c2 hf
    refine lv_aload_n hx hb dR_expect_18 rfl (lv_at hl 0 rfl) ?_
    refine lv_iload_n hx hb dR_expect_19 rfl (lv_at hl 1 rfl) ?_
    refine lv_iconst (v := 2) hx hb dR_expect_20 (by decide) ?_
    obtain ⟨r3, s3, hc3, hf⟩ := jB_some hf
    refine jcall_v (va_runV (C := RcR) (As := [.int a0, .int (2 : Int32)]) (rest := []) ⟨hx, hb, hml, hown, hts⟩ ((cR_miss l dC dI cI cC cL sk sv ad N a0 (2 : Int32) s1 s3 r3 hc3) _) ⟨(callB_of 2 hts (tb_good tw375) rfl rfl rfl (ht _ tw2) (ht _ tw372) (by decide +kernel) ⟨Nat.le_of_ble_eq_true rfl, Nat.le_of_ble_eq_true rfl⟩), ht _ tw374, ht _ (tb_sel pv_R_miss)⟩ (jpreV (jEn_ok sk sv) hC hA hK hN (wR_e0 cI cC ad s1) rfl rfl _) rfl rfl hl.1 rfl (lv_room (Nat.le_of_ble_eq_true rfl)) dR_expect_21 ⟨Nat.le_refl _, Nat.le_refl _⟩) hC hA (fun H locs hC => ?_)
    cases hf
    exact jret_v hx hb hr hlk hC hK dR_expect_24
  · replace hf := jif_t c2 hf
    refine lv_aload_n hx hb dR_expect_11 rfl (lv_at hl 0 rfl) ?_
    obtain ⟨r4, s4, hc4, hf⟩ := jB_some hf
    refine jcall_v (va_runV (C := RcR) (As := []) (rest := []) ⟨hx, hb, hml, hown, hts⟩ ((cR_take l dC dI cI cC cL sk sv ad N s1 s4 r4 hc4) _) ⟨(callB_of 0 hts (tb_good tw339) rfl rfl rfl (ht _ tw2) (ht _ tw336) (by decide +kernel) ⟨Nat.le_of_ble_eq_true rfl, Nat.le_of_ble_eq_true rfl⟩), ht _ tw338, ht _ (tb_sel pv_R_take)⟩ (jpreV (jEn_ok sk sv) hC hA hK hN (wR_e0 cI cC ad s1) rfl rfl _) rfl rfl hl.1 rfl (lv_room (Nat.le_of_ble_eq_true rfl)) dR_expect_12 ⟨Nat.le_refl _, Nat.le_refl _⟩) hC hA (fun H locs hC => ?_)
    refine lv_goto (tgt := 24) hx hb dR_expect_15 (by decide) ?_
    cases hf
    exact jret_v hx hb hr hlk hC hK dR_expect_24

def fT_has (N : Nat) (a0 : Int32) (z0 : jS) : Option (Int32 × jS) := (if a0 < 0 then some ((0 : Int32), z0) else (if jgI z0 3 ≤ a0 then some ((0 : Int32), z0) else some ((1 : Int32), z0)))
set_option maxHeartbeats 4000000 in
set_option maxRecDepth 100000 in
theorem cT_has (l : Launch) (dC : Nat → ClassId) (dI : Nat → Nat → Nat) (cI cC cL : ClassId) (sk sv : Nat → Nat) (ad : Nat → Nat) (N : Nat) (a0 : Int32) (z0 z1 : jS) (r : Int32) (hf : fT_has N a0 z0 = some (r, z1)) : Ci l yT_has (Cond.code yT_has prog_6_method_9_code 2 (some .boolean) :: TB) ({ frames := 0, cells := 0, slots := 0, locals := 0 }) (dC, dI) vwCl [(cI, .int), (cC, .char), (cL, .object "SharedSyntax$Letters")] (jEn sk sv) [.ref (ad 1), .int a0] (wR cI cC ad z0) (wR cI cC ad z1) r := by
  refine Ci_of (cc := prog_6_method_9_code) (maxL := 2) (ret := (some .boolean)) (by decide) rfl (Nat.le_of_ble_eq_true rfl) ?_
  intro p e s m below meth c ls F hl hK hN hC
  obtain ⟨hx, hb, hml, hown, hts, hr, hlk⟩ := F
  have ht : ∀ w ∈ TB, w.before [.ref (ad 1), .int a0].toArray s = true := fun w h => hts w (List.mem_cons_of_mem _ h)
  have hA : ∀ q, s.heap.size ≤ q → va_A (wR cI cC ad z0) s.heap.size q := fun q h => Or.inr h
  have hl : lv_has ls 2 [(0, .ref (ad 1)), (1, .int a0)] := hl
  unfold fT_has at hf
  refine lv_iload_n hx hb dT_has_0 rfl (lv_at hl 1 rfl) ?_
  refine lv_if_lt (tgt := 16) hx hb dT_has_1 (by decide) (fun c1 => ?_) (fun c1 => ?_)
  · replace hf := jif_t c1 hf
    refine lv_iconst (v := 0) hx hb dT_has_16 (by decide) ?_
    cases hf
    exact jret_z hx hb hr (by decide +kernel) hlk hC hK dT_has_17
  · replace hf := jif_f c1 hf
    refine lv_iload_n hx hb dT_has_4 rfl (lv_at hl 1 rfl) ?_
    refine lv_aload_n hx hb dT_has_5 rfl (lv_at hl 0 rfl) ?_
    refine va_get (D := (dC, dI)) (ci := 2) (v := .int (jgI z0 3)) (C := RcT) (T := TcT) (N := 9) hx hb ht in_cT hown hK hC.1 1 (wR_e1 cI cC ad z0) rfl 7 (by decide) (ht _ tw63) (fun _ h9 => h9) rfl dT_has_6 ?_
    refine lv_icmp_ge (tgt := 16) hx hb dT_has_9 (by decide) (fun c2 => ?_) (fun c2 => ?_)
    · replace hf := jif_t c2 hf
      refine lv_iconst (v := 0) hx hb dT_has_16 (by decide) ?_
      cases hf
      exact jret_z hx hb hr (by decide +kernel) hlk hC hK dT_has_17
    · replace hf := jif_f c2 hf
      refine lv_iconst (v := 1) hx hb dT_has_12 (by decide) ?_
      refine lv_goto (tgt := 17) hx hb dT_has_13 (by decide) ?_
      cases hf
      exact jret_z hx hb hr (by decide +kernel) hlk hC hK dT_has_17
