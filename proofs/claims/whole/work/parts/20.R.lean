def fT_sameLetters_T_b10 (N : Nat) (k10 : Int32 → Int32 → Int32 → Int32 → jS → Option (Int32 × jS)) (x1 x3 x4 x5 : Int32) (s0 : jS) : Option (Int32 × jS) := (if x4 ≤ x5 then some ((1 : Int32), s0) else (if jIn x1 363 = true then (jB (fL_at N (jgA s0 6 (x1).toNatClampNeg + x5) s0) fun r1003 s1003 => (if jIn x3 363 = true then (jB (fL_at N (jgA s1003 6 (x3).toNatClampNeg + x5) s1003) fun r1005 s1005 => (if r1003 = r1005 then k10 x1 x3 x4 (x5 + (1 : Int32)) s1005 else some ((0 : Int32), s1005))) else none)) else none))
def fT_sameLetters_T_10 (N : Nat) : Nat → Int32 → Int32 → Int32 → Int32 → jS → Option (Int32 × jS)
  | 0 => fun _ _ _ _ _ => none
  | n + 1 => fun x1 x3 x4 x5 s0 => fT_sameLetters_T_b10 N (fT_sameLetters_T_10 N n) x1 x3 x4 x5 s0
def fT_sameLetters_T (N : Nat) (a0 a2 : Int32) (z0 : jS) : Option (Int32 × jS) := (jB (fT_stretchOf N a0 z0) fun r1 s1 => fT_sameLetters_T_10 N N a0 a2 r1 (0 : Int32) s1)
set_option maxHeartbeats 4000000 in
set_option maxRecDepth 100000 in
theorem cT_sameLetters_T (l : Launch) (dC : Nat → ClassId) (dI : Nat → Nat → Nat) (cI cC cL : ClassId) (sk sv : Nat → Nat) (ad : Nat → Nat) (N : Nat) (a0 a2 : Int32) (z0 z1 : jS) (r : Int32) (hf : fT_sameLetters_T N a0 a2 z0 = some (r, z1)) : Ci l yT_sameLetters (Cond.code yT_sameLetters prog_6_method_25_code 6 (some .boolean) :: TB) ({ frames := 1, cells := 0, slots := 0, locals := 21 }) (dC, dI) vwCl [(cI, .int), (cC, .char), (cL, .object "SharedSyntax$Letters")] (jEn sk sv) [.ref (ad 1), .int a0, .ref (ad 1), .int a2] (wR cI cC ad z0) (wR cI cC ad z1) r := by
  refine Ci_of (cc := prog_6_method_25_code) (maxL := 6) (ret := (some .boolean)) (by decide) rfl (Nat.le_of_ble_eq_true rfl) ?_
  intro p e s m below meth c ls F hl hK hN hC
  obtain ⟨hx, hb, hml, hown, hts, hr, hlk⟩ := F
  have ht : ∀ w ∈ TB, w.before [.ref (ad 1), .int a0, .ref (ad 1), .int a2].toArray s = true := fun w h => hts w (List.mem_cons_of_mem _ h)
  have hA : ∀ q, s.heap.size ≤ q → va_A (wR cI cC ad z0) s.heap.size q := fun q h => Or.inr h
  have hl : lv_has ls 6 [(0, .ref (ad 1)), (1, .int a0), (2, .ref (ad 1)), (3, .int a2)] := hl
  have L10 : ∀ (n : Nat) (x1 x3 x4 x5 : Int32) (s0 : jS) (ls : Array Slot) (H : Heap) (locs : List Loc), lv_has ls 6 [(0, .ref (ad 1)), (1, .int x1), (2, .ref (ad 1)), (3, .int x3), (4, .int x4), (5, .int x5)] → jcx (dC, dI) vwCl (va_A (wR cI cC ad z0) s.heap.size) s.heap (wR cI cC ad s0) H locs → fT_sameLetters_T_10 N n x1 x3 x4 x5 s0 = some (r, z1) → W p l e ({ frames := 1, cells := 0, slots := 0, locals := 21 }) s m [.ref (ad 1), .int a0, .ref (ad 1), .int a2].toArray below meth c H locs 0 0 (MQ below (jQi (dC, dI) vwCl [(cI, .int), (cC, .char), (cL, .object "SharedSyntax$Letters")] (wR cI cC ad z0) (wR cI cC ad z1) s.heap.size r) [.ref (ad 1), .int a0, .ref (ad 1), .int a2].toArray s 0 0 (va_A (wR cI cC ad z0) s.heap.size)) (F0 m 10 ls []) := by
    intro n
    induction n with
    | zero => exact fun _ _ _ _ _ _ _ _ _ _ hf => nomatch hf
    | succ n ih10 =>
      intro x1 x3 x4 x5 s0 ls H locs hl hC hf
      replace hf : fT_sameLetters_T_b10 N (fT_sameLetters_T_10 N n) x1 x3 x4 x5 s0 = some (r, z1) := hf
      generalize fT_sameLetters_T_10 N n = k10 at ih10 hf
      unfold fT_sameLetters_T_b10 at hf
      refine lv_iload hx hb dT_sameLetters_10 (lv_at hl 5 rfl) ?_
      refine lv_iload hx hb dT_sameLetters_12 (lv_at hl 4 rfl) ?_
      refine lv_icmp_ge (tgt := 60) hx hb dT_sameLetters_14 (by decide) (fun c1001 => ?_) (fun c1001 => ?_)
      · replace hf := jif_t c1001 hf
        refine lv_iconst (v := 1) hx hb dT_sameLetters_60 (by decide) ?_
        cases hf
        exact jret_z hx hb hr (by decide +kernel) hlk hC hK dT_sameLetters_61
      · replace hf := jif_f c1001 hf
        refine lv_aload_n hx hb dT_sameLetters_17 rfl (lv_at hl 0 rfl) ?_
        refine va_get (D := (dC, dI)) (ci := 2) (v := .ref (ad 3)) (C := RcT) (T := TcT) (N := 9) hx hb ht in_cT hown hK hC.1 1 (wR_e1 cI cC ad s0) rfl 0 (by decide) (ht _ tw52) (fun _ h9 => h9) rfl dT_sameLetters_18 ?_
        refine lv_aload_n hx hb dT_sameLetters_21 rfl (lv_at hl 0 rfl) ?_
        refine va_get (D := (dC, dI)) (ci := 2) (v := .ref (ad 10)) (C := RcT) (T := TcT) (N := 9) hx hb ht in_cT hown hK hC.1 1 (wR_e1 cI cC ad s0) rfl 3 (by decide) (ht _ tw57) (fun _ h9 => h9) rfl dT_sameLetters_22 ?_
        refine lv_iload_n hx hb dT_sameLetters_25 rfl (lv_at hl 1 rfl) ?_
        obtain ⟨hi1002, hf⟩ := jC_in hf
        refine va_iald hx hb hK hC.1 10 0 (wR_e10 cI cC ad s0) rfl hi1002 dT_sameLetters_26 ?_
        refine lv_iload hx hb dT_sameLetters_27 (lv_at hl 5 rfl) ?_
        refine lv_iadd hx hb dT_sameLetters_29 ?_
        obtain ⟨r1003, s1003, hc1003, hf⟩ := jB_some hf
        refine jcall_i (va_runV (C := RcL) (As := [.int (jgA s0 6 (x1).toNatClampNeg + x5)]) (rest := []) ⟨hx, hb, hml, hown, hts⟩ ((cL_at l dC dI cI cC cL sk sv ad N (jgA s0 6 (x1).toNatClampNeg + x5) s0 s1003 r1003 hc1003) _) ⟨(callB_of 1 hts (tb_good tw164) rfl rfl rfl (ht _ tw3) (ht _ tw558) (by decide +kernel) ⟨Nat.le_of_ble_eq_true rfl, Nat.le_of_ble_eq_true rfl⟩), ht _ tw162, ht _ tw163⟩ (jpreV (jEn_ok sk sv) hC hA hK hN (wR_e3 cI cC ad s0) rfl rfl _) rfl rfl hl.1 rfl (lv_room (Nat.le_of_ble_eq_true rfl)) dT_sameLetters_30 ⟨Nat.le_refl _, Nat.le_refl _⟩) hC hA (fun H locs hC => ?_)
        refine lv_aload_n hx hb dT_sameLetters_33 rfl (lv_at hl 2 rfl) ?_
        refine va_get (D := (dC, dI)) (ci := 2) (v := .ref (ad 3)) (C := RcT) (T := TcT) (N := 9) hx hb ht in_cT hown hK hC.1 1 (wR_e1 cI cC ad s1003) rfl 0 (by decide) (ht _ tw52) (fun _ h9 => h9) rfl dT_sameLetters_34 ?_
        refine lv_aload_n hx hb dT_sameLetters_37 rfl (lv_at hl 2 rfl) ?_
        refine va_get (D := (dC, dI)) (ci := 2) (v := .ref (ad 10)) (C := RcT) (T := TcT) (N := 9) hx hb ht in_cT hown hK hC.1 1 (wR_e1 cI cC ad s1003) rfl 3 (by decide) (ht _ tw57) (fun _ h9 => h9) rfl dT_sameLetters_38 ?_
        refine lv_iload_n hx hb dT_sameLetters_41 rfl (lv_at hl 3 rfl) ?_
        obtain ⟨hi1004, hf⟩ := jC_in hf
        refine va_iald hx hb hK hC.1 10 0 (wR_e10 cI cC ad s1003) rfl hi1004 dT_sameLetters_42 ?_
        refine lv_iload hx hb dT_sameLetters_43 (lv_at hl 5 rfl) ?_
        refine lv_iadd hx hb dT_sameLetters_45 ?_
        obtain ⟨r1005, s1005, hc1005, hf⟩ := jB_some hf
        refine jcall_i (va_runV (C := RcL) (As := [.int (jgA s1003 6 (x3).toNatClampNeg + x5)]) (rest := [.int r1003]) ⟨hx, hb, hml, hown, hts⟩ ((cL_at l dC dI cI cC cL sk sv ad N (jgA s1003 6 (x3).toNatClampNeg + x5) s1003 s1005 r1005 hc1005) _) ⟨(callB_of 1 hts (tb_good tw164) rfl rfl rfl (ht _ tw3) (ht _ tw558) (by decide +kernel) ⟨Nat.le_of_ble_eq_true rfl, Nat.le_of_ble_eq_true rfl⟩), ht _ tw162, ht _ tw163⟩ (jpreV (jEn_ok sk sv) hC hA hK hN (wR_e3 cI cC ad s1003) rfl rfl _) rfl rfl hl.1 rfl (lv_room (Nat.le_of_ble_eq_true rfl)) dT_sameLetters_46 ⟨Nat.le_refl _, Nat.le_refl _⟩) hC hA (fun H locs hC => ?_)
        refine lv_icmp_eq (tgt := 54) hx hb dT_sameLetters_49 (by decide) (fun c1006 => ?_) (fun c1006 => ?_)
        · replace hf := jif_t c1006 hf
          refine lv_iinc (k := 5) (v := (x5 + (1 : Int32))) (lv' := [(5, .int (x5 + (1 : Int32))), (0, .ref (ad 1)), (1, .int x1), (2, .ref (ad 1)), (3, .int x3), (4, .int x4)]) hx hb dT_sameLetters_54 hl rfl rfl (by decide) rfl (fun ls hl => ?_)
          refine lv_goto (tgt := 10) hx hb dT_sameLetters_57 (by decide) ?_
          exact ih10 x1 x3 x4 (x5 + (1 : Int32)) s1005 ls _ _ (lv_sub hl [1, 2, 3, 4, 5, 0] rfl) hC hf
        · replace hf := jif_f c1006 hf
          refine lv_iconst (v := 0) hx hb dT_sameLetters_52 (by decide) ?_
          cases hf
          exact jret_z hx hb hr (by decide +kernel) hlk hC hK dT_sameLetters_53
  unfold fT_sameLetters_T at hf
  refine lv_aload_n hx hb dT_sameLetters_0 rfl (lv_at hl 0 rfl) ?_
  refine lv_iload_n hx hb dT_sameLetters_1 rfl (lv_at hl 1 rfl) ?_
  obtain ⟨r1, s1, hc1, hf⟩ := jB_some hf
  refine jcall_i (va_runV (C := RcT) (As := [.int a0]) (rest := []) ⟨hx, hb, hml, hown, hts⟩ ((cT_stretchOf l dC dI cI cC cL sk sv ad N a0 z0 s1 r1 hc1) _) ⟨(callB_of 1 hts (tb_good tw540) rfl rfl rfl (ht _ tw4) (ht _ tw549) (by decide +kernel) ⟨Nat.le_of_ble_eq_true rfl, Nat.le_of_ble_eq_true rfl⟩), ht _ tw538, ht _ tw539⟩ (jpreV (jEn_ok sk sv) hC hA hK hN (wR_e1 cI cC ad z0) rfl rfl _) rfl rfl hl.1 rfl (lv_room (Nat.le_of_ble_eq_true rfl)) dT_sameLetters_2 ⟨Nat.le_refl _, Nat.le_refl _⟩) hC hA (fun H locs hC => ?_)
  refine lv_istore (lv' := [(4, .int r1), (0, .ref (ad 1)), (1, .int a0), (2, .ref (ad 1)), (3, .int a2)]) hx hb dT_sameLetters_5 hl (by decide) rfl (fun ls hl => ?_)
  refine lv_iconst (v := 0) hx hb dT_sameLetters_7 (by decide) ?_
  refine lv_istore (lv' := [(5, .int (0 : Int32)), (4, .int r1), (0, .ref (ad 1)), (1, .int a0), (2, .ref (ad 1)), (3, .int a2)]) hx hb dT_sameLetters_8 hl (by decide) rfl (fun ls hl => ?_)
  exact L10 N a0 a2 r1 (0 : Int32) s1 ls _ _ (lv_sub hl [2, 3, 4, 5, 1, 0] rfl) hC hf

def fT_sameFaults_T_b27 (N : Nat) (k27 : Int32 → Int32 → Int32 → Int32 → Int32 → jS → Option (Int32 × jS)) (x1 x3 x4 x5 x6 : Int32) (s0 : jS) : Option (Int32 × jS) := (if x4 ≤ x6 then some ((1 : Int32), s0) else (if jIn x1 363 = true then (if jIn (jgA s0 8 (x1).toNatClampNeg + x6) 180 = true then (if jIn x3 363 = true then (if jIn (jgA s0 8 (x3).toNatClampNeg + x6) 180 = true then (if (jgA s0 9 ((jgA s0 8 (x1).toNatClampNeg + x6)).toNatClampNeg - jgA s0 9 ((jgA s0 8 (x3).toNatClampNeg + x6)).toNatClampNeg) = x5 then k27 x1 x3 x4 x5 (x6 + (1 : Int32)) s0 else some ((0 : Int32), s0)) else none) else none) else none) else none))
def fT_sameFaults_T_27 (N : Nat) : Nat → Int32 → Int32 → Int32 → Int32 → Int32 → jS → Option (Int32 × jS)
  | 0 => fun _ _ _ _ _ _ => none
  | n + 1 => fun x1 x3 x4 x5 x6 s0 => fT_sameFaults_T_b27 N (fT_sameFaults_T_27 N n) x1 x3 x4 x5 x6 s0
def fT_sameFaults_T (N : Nat) (a0 a2 : Int32) (z0 : jS) : Option (Int32 × jS) := (jB (fT_faultsIn N a0 z0) fun r1 s1 => (if jIn a0 363 = true then (if jIn a2 363 = true then fT_sameFaults_T_27 N N a0 a2 r1 ((4 : Int32) * (jgA s1 6 (a0).toNatClampNeg - jgA s1 6 (a2).toNatClampNeg)) (0 : Int32) s1 else none) else none))
set_option maxHeartbeats 4000000 in
set_option maxRecDepth 100000 in
theorem cT_sameFaults_T (l : Launch) (dC : Nat → ClassId) (dI : Nat → Nat → Nat) (cI cC cL : ClassId) (sk sv : Nat → Nat) (ad : Nat → Nat) (N : Nat) (a0 a2 : Int32) (z0 z1 : jS) (r : Int32) (hf : fT_sameFaults_T N a0 a2 z0 = some (r, z1)) : Ci l yT_sameFaults (Cond.code yT_sameFaults prog_6_method_26_code 9 (some .boolean) :: TB) ({ frames := 1, cells := 0, slots := 0, locals := 21 }) (dC, dI) vwCl [(cI, .int), (cC, .char), (cL, .object "SharedSyntax$Letters")] (jEn sk sv) [.ref (ad 1), .int a0, .ref (ad 1), .int a2] (wR cI cC ad z0) (wR cI cC ad z1) r := by
  refine Ci_of (cc := prog_6_method_26_code) (maxL := 9) (ret := (some .boolean)) (by decide) rfl (Nat.le_of_ble_eq_true rfl) ?_
  intro p e s m below meth c ls F hl hK hN hC
  obtain ⟨hx, hb, hml, hown, hts, hr, hlk⟩ := F
  have ht : ∀ w ∈ TB, w.before [.ref (ad 1), .int a0, .ref (ad 1), .int a2].toArray s = true := fun w h => hts w (List.mem_cons_of_mem _ h)
  have hA : ∀ q, s.heap.size ≤ q → va_A (wR cI cC ad z0) s.heap.size q := fun q h => Or.inr h
  have hl : lv_has ls 9 [(0, .ref (ad 1)), (1, .int a0), (2, .ref (ad 1)), (3, .int a2)] := hl
  have L27 : ∀ (n : Nat) (x1 x3 x4 x5 x6 : Int32) (s0 : jS) (ls : Array Slot) (H : Heap) (locs : List Loc), lv_has ls 9 [(0, .ref (ad 1)), (1, .int x1), (2, .ref (ad 1)), (3, .int x3), (4, .int x4), (5, .int x5), (6, .int x6)] → jcx (dC, dI) vwCl (va_A (wR cI cC ad z0) s.heap.size) s.heap (wR cI cC ad s0) H locs → fT_sameFaults_T_27 N n x1 x3 x4 x5 x6 s0 = some (r, z1) → W p l e ({ frames := 1, cells := 0, slots := 0, locals := 21 }) s m [.ref (ad 1), .int a0, .ref (ad 1), .int a2].toArray below meth c H locs 0 0 (MQ below (jQi (dC, dI) vwCl [(cI, .int), (cC, .char), (cL, .object "SharedSyntax$Letters")] (wR cI cC ad z0) (wR cI cC ad z1) s.heap.size r) [.ref (ad 1), .int a0, .ref (ad 1), .int a2].toArray s 0 0 (va_A (wR cI cC ad z0) s.heap.size)) (F0 m 27 ls []) := by
    intro n
    induction n with
    | zero => exact fun _ _ _ _ _ _ _ _ _ _ _ hf => nomatch hf
    | succ n ih27 =>
      intro x1 x3 x4 x5 x6 s0 ls H locs hl hC hf
      replace hf : fT_sameFaults_T_b27 N (fT_sameFaults_T_27 N n) x1 x3 x4 x5 x6 s0 = some (r, z1) := hf
      generalize fT_sameFaults_T_27 N n = k27 at ih27 hf
      unfold fT_sameFaults_T_b27 at hf
      refine lv_iload hx hb dT_sameFaults_27 (lv_at hl 6 rfl) ?_
      refine lv_iload hx hb dT_sameFaults_29 (lv_at hl 4 rfl) ?_
      refine lv_icmp_ge (tgt := 84) hx hb dT_sameFaults_31 (by decide) (fun c2701 => ?_) (fun c2701 => ?_)
      · replace hf := jif_t c2701 hf
        refine lv_iconst (v := 1) hx hb dT_sameFaults_84 (by decide) ?_
        cases hf
        exact jret_z hx hb hr (by decide +kernel) hlk hC hK dT_sameFaults_85
      · replace hf := jif_f c2701 hf
        refine lv_aload_n hx hb dT_sameFaults_34 rfl (lv_at hl 0 rfl) ?_
        refine va_get (D := (dC, dI)) (ci := 2) (v := .ref (ad 13)) (C := RcT) (T := TcT) (N := 9) hx hb ht in_cT hown hK hC.1 1 (wR_e1 cI cC ad s0) rfl 6 (by decide) (ht _ tw61) (fun _ h9 => h9) rfl dT_sameFaults_35 ?_
        refine lv_aload_n hx hb dT_sameFaults_38 rfl (lv_at hl 0 rfl) ?_
        refine va_get (D := (dC, dI)) (ci := 2) (v := .ref (ad 12)) (C := RcT) (T := TcT) (N := 9) hx hb ht in_cT hown hK hC.1 1 (wR_e1 cI cC ad s0) rfl 5 (by decide) (ht _ tw60) (fun _ h9 => h9) rfl dT_sameFaults_39 ?_
        refine lv_iload_n hx hb dT_sameFaults_42 rfl (lv_at hl 1 rfl) ?_
        obtain ⟨hi2702, hf⟩ := jC_in hf
        refine va_iald hx hb hK hC.1 12 0 (wR_e12 cI cC ad s0) rfl hi2702 dT_sameFaults_43 ?_
        refine lv_iload hx hb dT_sameFaults_44 (lv_at hl 6 rfl) ?_
        refine lv_iadd hx hb dT_sameFaults_46 ?_
        obtain ⟨hi2703, hf⟩ := jC_in hf
        refine va_iald hx hb hK hC.1 13 0 (wR_e13 cI cC ad s0) rfl hi2703 dT_sameFaults_47 ?_
        refine lv_istore (lv' := [(7, .int (jgA s0 9 ((jgA s0 8 (x1).toNatClampNeg + x6)).toNatClampNeg)), (0, .ref (ad 1)), (1, .int x1), (2, .ref (ad 1)), (3, .int x3), (4, .int x4), (5, .int x5), (6, .int x6)]) hx hb dT_sameFaults_48 hl (by decide) rfl (fun ls hl => ?_)
        refine lv_aload_n hx hb dT_sameFaults_50 rfl (lv_at hl 3 rfl) ?_
        refine va_get (D := (dC, dI)) (ci := 2) (v := .ref (ad 13)) (C := RcT) (T := TcT) (N := 9) hx hb ht in_cT hown hK hC.1 1 (wR_e1 cI cC ad s0) rfl 6 (by decide) (ht _ tw61) (fun _ h9 => h9) rfl dT_sameFaults_51 ?_
        refine lv_aload_n hx hb dT_sameFaults_54 rfl (lv_at hl 3 rfl) ?_
        refine va_get (D := (dC, dI)) (ci := 2) (v := .ref (ad 12)) (C := RcT) (T := TcT) (N := 9) hx hb ht in_cT hown hK hC.1 1 (wR_e1 cI cC ad s0) rfl 5 (by decide) (ht _ tw60) (fun _ h9 => h9) rfl dT_sameFaults_55 ?_
        refine lv_iload_n hx hb dT_sameFaults_58 rfl (lv_at hl 4 rfl) ?_
        obtain ⟨hi2704, hf⟩ := jC_in hf
        refine va_iald hx hb hK hC.1 12 0 (wR_e12 cI cC ad s0) rfl hi2704 dT_sameFaults_59 ?_
        refine lv_iload hx hb dT_sameFaults_60 (lv_at hl 7 rfl) ?_
        refine lv_iadd hx hb dT_sameFaults_62 ?_
        obtain ⟨hi2705, hf⟩ := jC_in hf
        refine va_iald hx hb hK hC.1 13 0 (wR_e13 cI cC ad s0) rfl hi2705 dT_sameFaults_63 ?_
        refine lv_istore (lv' := [(8, .int (jgA s0 9 ((jgA s0 8 (x3).toNatClampNeg + x6)).toNatClampNeg)), (7, .int (jgA s0 9 ((jgA s0 8 (x1).toNatClampNeg + x6)).toNatClampNeg)), (0, .ref (ad 1)), (1, .int x1), (2, .ref (ad 1)), (3, .int x3), (4, .int x4), (5, .int x5), (6, .int x6)]) hx hb dT_sameFaults_64 hl (by decide) rfl (fun ls hl => ?_)
        refine lv_iload hx hb dT_sameFaults_66 (lv_at hl 1 rfl) ?_
        refine lv_iload hx hb dT_sameFaults_68 (lv_at hl 0 rfl) ?_
        refine lv_isub hx hb dT_sameFaults_70 ?_
        refine lv_iload hx hb dT_sameFaults_71 (lv_at hl 7 rfl) ?_
        refine lv_icmp_eq (tgt := 78) hx hb dT_sameFaults_73 (by decide) (fun c2706 => ?_) (fun c2706 => ?_)
        · replace hf := jif_t c2706 hf
          refine lv_iinc (k := 8) (v := (x6 + (1 : Int32))) (lv' := [(6, .int (x6 + (1 : Int32))), (8, .int (jgA s0 9 ((jgA s0 8 (x3).toNatClampNeg + x6)).toNatClampNeg)), (7, .int (jgA s0 9 ((jgA s0 8 (x1).toNatClampNeg + x6)).toNatClampNeg)), (0, .ref (ad 1)), (1, .int x1), (2, .ref (ad 1)), (3, .int x3), (4, .int x4), (5, .int x5)]) hx hb dT_sameFaults_78 hl rfl rfl (by decide) rfl (fun ls hl => ?_)
          refine lv_goto (tgt := 27) hx hb dT_sameFaults_81 (by decide) ?_
          exact ih27 x1 x3 x4 x5 (x6 + (1 : Int32)) s0 ls _ _ (lv_sub hl [3, 4, 5, 6, 7, 8, 0] rfl) hC hf
        · replace hf := jif_f c2706 hf
          refine lv_iconst (v := 0) hx hb dT_sameFaults_76 (by decide) ?_
          cases hf
          exact jret_z hx hb hr (by decide +kernel) hlk hC hK dT_sameFaults_77
  unfold fT_sameFaults_T at hf
  refine lv_aload_n hx hb dT_sameFaults_0 rfl (lv_at hl 0 rfl) ?_
  refine lv_iload_n hx hb dT_sameFaults_1 rfl (lv_at hl 1 rfl) ?_
  obtain ⟨r1, s1, hc1, hf⟩ := jB_some hf
  refine jcall_i (va_runV (C := RcT) (As := [.int a0]) (rest := []) ⟨hx, hb, hml, hown, hts⟩ ((cT_faultsIn l dC dI cI cC cL sk sv ad N a0 z0 s1 r1 hc1) _) ⟨(callB_of 1 hts (tb_good tw553) rfl rfl rfl (ht _ tw4) (ht _ tw550) (by decide +kernel) ⟨Nat.le_of_ble_eq_true rfl, Nat.le_of_ble_eq_true rfl⟩), ht _ tw551, ht _ tw552⟩ (jpreV (jEn_ok sk sv) hC hA hK hN (wR_e1 cI cC ad z0) rfl rfl _) rfl rfl hl.1 rfl (lv_room (Nat.le_of_ble_eq_true rfl)) dT_sameFaults_2 ⟨Nat.le_refl _, Nat.le_refl _⟩) hC hA (fun H locs hC => ?_)
  refine lv_istore (lv' := [(4, .int r1), (0, .ref (ad 1)), (1, .int a0), (2, .ref (ad 1)), (3, .int a2)]) hx hb dT_sameFaults_5 hl (by decide) rfl (fun ls hl => ?_)
  refine lv_iconst (v := 4) hx hb dT_sameFaults_7 (by decide) ?_
  refine lv_aload_n hx hb dT_sameFaults_8 rfl (lv_at hl 1 rfl) ?_
  refine va_get (D := (dC, dI)) (ci := 2) (v := .ref (ad 10)) (C := RcT) (T := TcT) (N := 9) hx hb ht in_cT hown hK hC.1 1 (wR_e1 cI cC ad s1) rfl 3 (by decide) (ht _ tw57) (fun _ h9 => h9) rfl dT_sameFaults_9 ?_
  refine lv_iload_n hx hb dT_sameFaults_12 rfl (lv_at hl 2 rfl) ?_
  obtain ⟨hi2, hf⟩ := jC_in hf
  refine va_iald hx hb hK hC.1 10 0 (wR_e10 cI cC ad s1) rfl hi2 dT_sameFaults_13 ?_
  refine lv_aload_n hx hb dT_sameFaults_14 rfl (lv_at hl 3 rfl) ?_
  refine va_get (D := (dC, dI)) (ci := 2) (v := .ref (ad 10)) (C := RcT) (T := TcT) (N := 9) hx hb ht in_cT hown hK hC.1 1 (wR_e1 cI cC ad s1) rfl 3 (by decide) (ht _ tw57) (fun _ h9 => h9) rfl dT_sameFaults_15 ?_
  refine lv_iload_n hx hb dT_sameFaults_18 rfl (lv_at hl 4 rfl) ?_
  obtain ⟨hi3, hf⟩ := jC_in hf
  refine va_iald hx hb hK hC.1 10 0 (wR_e10 cI cC ad s1) rfl hi3 dT_sameFaults_19 ?_
  refine lv_isub hx hb dT_sameFaults_20 ?_
  refine lv_imul hx hb dT_sameFaults_21 ?_
  refine lv_istore (lv' := [(5, .int ((4 : Int32) * (jgA s1 6 (a0).toNatClampNeg - jgA s1 6 (a2).toNatClampNeg))), (4, .int r1), (0, .ref (ad 1)), (1, .int a0), (2, .ref (ad 1)), (3, .int a2)]) hx hb dT_sameFaults_22 hl (by decide) rfl (fun ls hl => ?_)
  refine lv_iconst (v := 0) hx hb dT_sameFaults_24 (by decide) ?_
  refine lv_istore (lv' := [(6, .int (0 : Int32)), (5, .int ((4 : Int32) * (jgA s1 6 (a0).toNatClampNeg - jgA s1 6 (a2).toNatClampNeg))), (4, .int r1), (0, .ref (ad 1)), (1, .int a0), (2, .ref (ad 1)), (3, .int a2)]) hx hb dT_sameFaults_25 hl (by decide) rfl (fun ls hl => ?_)
  exact L27 N a0 a2 r1 ((4 : Int32) * (jgA s1 6 (a0).toNatClampNeg - jgA s1 6 (a2).toNatClampNeg)) (0 : Int32) s1 ls _ _ (lv_sub hl [3, 4, 5, 6, 2, 1, 0] rfl) hC hf

def fT_sameNode_T (N : Nat) (a0 a2 : Int32) (z0 : jS) : Option (Int32 × jS) := (if jIn a0 363 = true then (if jIn a2 363 = true then (if jgA z0 4 (a0).toNatClampNeg = jgA z0 4 (a2).toNatClampNeg then (if jIn a0 363 = true then (if jIn a2 363 = true then (if jgA z0 5 (a0).toNatClampNeg = jgA z0 5 (a2).toNatClampNeg then (jB (fT_stretchOf N a0 z0) fun r7 s7 => (jB (fT_stretchOf N a2 s7) fun r8 s8 => (if r7 = r8 then (jB (fT_faultsIn N a0 s8) fun r10 s10 => (jB (fT_faultsIn N a2 s10) fun r11 s11 => (if r10 = r11 then some ((1 : Int32), s11) else some ((0 : Int32), s11)))) else some ((0 : Int32), s8)))) else some ((0 : Int32), z0)) else none) else none) else some ((0 : Int32), z0)) else none) else none)
set_option maxHeartbeats 4000000 in
set_option maxRecDepth 100000 in
theorem cT_sameNode_T (l : Launch) (dC : Nat → ClassId) (dI : Nat → Nat → Nat) (cI cC cL : ClassId) (sk sv : Nat → Nat) (ad : Nat → Nat) (N : Nat) (a0 a2 : Int32) (z0 z1 : jS) (r : Int32) (hf : fT_sameNode_T N a0 a2 z0 = some (r, z1)) : Ci l yT_sameNode (Cond.code yT_sameNode prog_6_method_24_code 4 (some .boolean) :: TB) ({ frames := 1, cells := 0, slots := 0, locals := 21 }) (dC, dI) vwCl [(cI, .int), (cC, .char), (cL, .object "SharedSyntax$Letters")] (jEn sk sv) [.ref (ad 1), .int a0, .ref (ad 1), .int a2] (wR cI cC ad z0) (wR cI cC ad z1) r := by
  refine Ci_of (cc := prog_6_method_24_code) (maxL := 4) (ret := (some .boolean)) (by decide) rfl (Nat.le_of_ble_eq_true rfl) ?_
  intro p e s m below meth c ls F hl hK hN hC
  obtain ⟨hx, hb, hml, hown, hts, hr, hlk⟩ := F
  have ht : ∀ w ∈ TB, w.before [.ref (ad 1), .int a0, .ref (ad 1), .int a2].toArray s = true := fun w h => hts w (List.mem_cons_of_mem _ h)
  have hA : ∀ q, s.heap.size ≤ q → va_A (wR cI cC ad z0) s.heap.size q := fun q h => Or.inr h
  have hl : lv_has ls 4 [(0, .ref (ad 1)), (1, .int a0), (2, .ref (ad 1)), (3, .int a2)] := hl
  unfold fT_sameNode_T at hf
  refine lv_aload_n hx hb dT_sameNode_0 rfl (lv_at hl 0 rfl) ?_
  refine va_get (D := (dC, dI)) (ci := 2) (v := .ref (ad 8)) (C := RcT) (T := TcT) (N := 9) hx hb ht in_cT hown hK hC.1 1 (wR_e1 cI cC ad z0) rfl 1 (by decide) (ht _ tw53) (fun _ h9 => h9) rfl dT_sameNode_1 ?_
  refine lv_iload_n hx hb dT_sameNode_4 rfl (lv_at hl 1 rfl) ?_
  obtain ⟨hi1, hf⟩ := jC_in hf
  refine va_iald hx hb hK hC.1 8 0 (wR_e8 cI cC ad z0) rfl hi1 dT_sameNode_5 ?_
  refine lv_aload_n hx hb dT_sameNode_6 rfl (lv_at hl 2 rfl) ?_
  refine va_get (D := (dC, dI)) (ci := 2) (v := .ref (ad 8)) (C := RcT) (T := TcT) (N := 9) hx hb ht in_cT hown hK hC.1 1 (wR_e1 cI cC ad z0) rfl 1 (by decide) (ht _ tw53) (fun _ h9 => h9) rfl dT_sameNode_7 ?_
  refine lv_iload_n hx hb dT_sameNode_10 rfl (lv_at hl 3 rfl) ?_
  obtain ⟨hi2, hf⟩ := jC_in hf
  refine va_iald hx hb hK hC.1 8 0 (wR_e8 cI cC ad z0) rfl hi2 dT_sameNode_11 ?_
  refine lv_icmp_ne (tgt := 60) hx hb dT_sameNode_12 (by decide) (fun c3 => ?_) (fun c3 => ?_)
  · replace hf := jif_f c3 hf
    refine lv_iconst (v := 0) hx hb dT_sameNode_60 (by decide) ?_
    cases hf
    exact jret_z hx hb hr (by decide +kernel) hlk hC hK dT_sameNode_61
  · replace hf := jif_t c3 hf
    refine lv_aload_n hx hb dT_sameNode_15 rfl (lv_at hl 0 rfl) ?_
    refine va_get (D := (dC, dI)) (ci := 2) (v := .ref (ad 9)) (C := RcT) (T := TcT) (N := 9) hx hb ht in_cT hown hK hC.1 1 (wR_e1 cI cC ad z0) rfl 2 (by decide) (ht _ tw55) (fun _ h9 => h9) rfl dT_sameNode_16 ?_
    refine lv_iload_n hx hb dT_sameNode_19 rfl (lv_at hl 1 rfl) ?_
    obtain ⟨hi4, hf⟩ := jC_in hf
    refine va_iald hx hb hK hC.1 9 0 (wR_e9 cI cC ad z0) rfl hi4 dT_sameNode_20 ?_
    refine lv_aload_n hx hb dT_sameNode_21 rfl (lv_at hl 2 rfl) ?_
    refine va_get (D := (dC, dI)) (ci := 2) (v := .ref (ad 9)) (C := RcT) (T := TcT) (N := 9) hx hb ht in_cT hown hK hC.1 1 (wR_e1 cI cC ad z0) rfl 2 (by decide) (ht _ tw55) (fun _ h9 => h9) rfl dT_sameNode_22 ?_
    refine lv_iload_n hx hb dT_sameNode_25 rfl (lv_at hl 3 rfl) ?_
    obtain ⟨hi5, hf⟩ := jC_in hf
    refine va_iald hx hb hK hC.1 9 0 (wR_e9 cI cC ad z0) rfl hi5 dT_sameNode_26 ?_
    refine lv_icmp_ne (tgt := 60) hx hb dT_sameNode_27 (by decide) (fun c6 => ?_) (fun c6 => ?_)
    · replace hf := jif_f c6 hf
      refine lv_iconst (v := 0) hx hb dT_sameNode_60 (by decide) ?_
      cases hf
      exact jret_z hx hb hr (by decide +kernel) hlk hC hK dT_sameNode_61
    · replace hf := jif_t c6 hf
      refine lv_aload_n hx hb dT_sameNode_30 rfl (lv_at hl 0 rfl) ?_
      refine lv_iload_n hx hb dT_sameNode_31 rfl (lv_at hl 1 rfl) ?_
      obtain ⟨r7, s7, hc7, hf⟩ := jB_some hf
      refine jcall_i (va_runV (C := RcT) (As := [.int a0]) (rest := []) ⟨hx, hb, hml, hown, hts⟩ ((cT_stretchOf l dC dI cI cC cL sk sv ad N a0 z0 s7 r7 hc7) _) ⟨(callB_of 1 hts (tb_good tw540) rfl rfl rfl (ht _ tw4) (ht _ tw549) (by decide +kernel) ⟨Nat.le_of_ble_eq_true rfl, Nat.le_of_ble_eq_true rfl⟩), ht _ tw538, ht _ tw539⟩ (jpreV (jEn_ok sk sv) hC hA hK hN (wR_e1 cI cC ad z0) rfl rfl _) rfl rfl hl.1 rfl (lv_room (Nat.le_of_ble_eq_true rfl)) dT_sameNode_32 ⟨Nat.le_refl _, Nat.le_refl _⟩) hC hA (fun H locs hC => ?_)
      refine lv_aload_n hx hb dT_sameNode_35 rfl (lv_at hl 2 rfl) ?_
      refine lv_iload_n hx hb dT_sameNode_36 rfl (lv_at hl 3 rfl) ?_
      obtain ⟨r8, s8, hc8, hf⟩ := jB_some hf
      refine jcall_i (va_runV (C := RcT) (As := [.int a2]) (rest := [.int r7]) ⟨hx, hb, hml, hown, hts⟩ ((cT_stretchOf l dC dI cI cC cL sk sv ad N a2 s7 s8 r8 hc8) _) ⟨(callB_of 1 hts (tb_good tw540) rfl rfl rfl (ht _ tw4) (ht _ tw549) (by decide +kernel) ⟨Nat.le_of_ble_eq_true rfl, Nat.le_of_ble_eq_true rfl⟩), ht _ tw538, ht _ tw539⟩ (jpreV (jEn_ok sk sv) hC hA hK hN (wR_e1 cI cC ad s7) rfl rfl _) rfl rfl hl.1 rfl (lv_room (Nat.le_of_ble_eq_true rfl)) dT_sameNode_37 ⟨Nat.le_refl _, Nat.le_refl _⟩) hC hA (fun H locs hC => ?_)
      refine lv_icmp_ne (tgt := 60) hx hb dT_sameNode_40 (by decide) (fun c9 => ?_) (fun c9 => ?_)
      · replace hf := jif_f c9 hf
        refine lv_iconst (v := 0) hx hb dT_sameNode_60 (by decide) ?_
        cases hf
        exact jret_z hx hb hr (by decide +kernel) hlk hC hK dT_sameNode_61
      · replace hf := jif_t c9 hf
        refine lv_aload_n hx hb dT_sameNode_43 rfl (lv_at hl 0 rfl) ?_
        refine lv_iload_n hx hb dT_sameNode_44 rfl (lv_at hl 1 rfl) ?_
        obtain ⟨r10, s10, hc10, hf⟩ := jB_some hf
        refine jcall_i (va_runV (C := RcT) (As := [.int a0]) (rest := []) ⟨hx, hb, hml, hown, hts⟩ ((cT_faultsIn l dC dI cI cC cL sk sv ad N a0 s8 s10 r10 hc10) _) ⟨(callB_of 1 hts (tb_good tw553) rfl rfl rfl (ht _ tw4) (ht _ tw550) (by decide +kernel) ⟨Nat.le_of_ble_eq_true rfl, Nat.le_of_ble_eq_true rfl⟩), ht _ tw551, ht _ tw552⟩ (jpreV (jEn_ok sk sv) hC hA hK hN (wR_e1 cI cC ad s8) rfl rfl _) rfl rfl hl.1 rfl (lv_room (Nat.le_of_ble_eq_true rfl)) dT_sameNode_45 ⟨Nat.le_refl _, Nat.le_refl _⟩) hC hA (fun H locs hC => ?_)
        refine lv_aload_n hx hb dT_sameNode_48 rfl (lv_at hl 2 rfl) ?_
        refine lv_iload_n hx hb dT_sameNode_49 rfl (lv_at hl 3 rfl) ?_
        obtain ⟨r11, s11, hc11, hf⟩ := jB_some hf
        refine jcall_i (va_runV (C := RcT) (As := [.int a2]) (rest := [.int r10]) ⟨hx, hb, hml, hown, hts⟩ ((cT_faultsIn l dC dI cI cC cL sk sv ad N a2 s10 s11 r11 hc11) _) ⟨(callB_of 1 hts (tb_good tw553) rfl rfl rfl (ht _ tw4) (ht _ tw550) (by decide +kernel) ⟨Nat.le_of_ble_eq_true rfl, Nat.le_of_ble_eq_true rfl⟩), ht _ tw551, ht _ tw552⟩ (jpreV (jEn_ok sk sv) hC hA hK hN (wR_e1 cI cC ad s10) rfl rfl _) rfl rfl hl.1 rfl (lv_room (Nat.le_of_ble_eq_true rfl)) dT_sameNode_50 ⟨Nat.le_refl _, Nat.le_refl _⟩) hC hA (fun H locs hC => ?_)
        refine lv_icmp_ne (tgt := 60) hx hb dT_sameNode_53 (by decide) (fun c12 => ?_) (fun c12 => ?_)
        · replace hf := jif_f c12 hf
          refine lv_iconst (v := 0) hx hb dT_sameNode_60 (by decide) ?_
          cases hf
          exact jret_z hx hb hr (by decide +kernel) hlk hC hK dT_sameNode_61
        · replace hf := jif_t c12 hf
          refine lv_iconst (v := 1) hx hb dT_sameNode_56 (by decide) ?_
          refine lv_goto (tgt := 61) hx hb dT_sameNode_57 (by decide) ?_
          cases hf
          exact jret_z hx hb hr (by decide +kernel) hlk hC hK dT_sameNode_61

def fT_matches_T_b15 (N : Nat) (k15 : Int32 → Int32 → Int32 → jS → Option (Int32 × jS)) (x1 x3 x4 : Int32) (s0 : jS) : Option (Int32 × jS) := (if jIn x1 363 = true then (if jgA s0 5 (x1).toNatClampNeg ≤ x4 then (jB (fT_sameLetters_T N x1 x3 s0) fun r1503 s1503 => (if r1503 = 0 then some ((0 : Int32), s1503) else (jB (fT_sameFaults_T N x1 x3 s1503) fun r1505 s1505 => (if r1505 = 0 then some ((0 : Int32), s1505) else some ((1 : Int32), s1505))))) else (jB (fT_sameNode_T N (x1 + x4) (x3 + x4) s0) fun r1507 s1507 => (if r1507 = 0 then some ((0 : Int32), s1507) else k15 x1 x3 (x4 + (1 : Int32)) s1507))) else none)
def fT_matches_T_15 (N : Nat) : Nat → Int32 → Int32 → Int32 → jS → Option (Int32 × jS)
  | 0 => fun _ _ _ _ => none
  | n + 1 => fun x1 x3 x4 s0 => fT_matches_T_b15 N (fT_matches_T_15 N n) x1 x3 x4 s0
def fT_matches_T (N : Nat) (a0 a2 : Int32) (z0 : jS) : Option (Int32 × jS) := (jB (fT_sameNode_T N a0 a2 z0) fun r1 s1 => (if r1 = 0 then some ((0 : Int32), s1) else fT_matches_T_15 N N a0 a2 (1 : Int32) s1))
set_option maxHeartbeats 4000000 in
set_option maxRecDepth 100000 in
theorem cT_matches_T (l : Launch) (dC : Nat → ClassId) (dI : Nat → Nat → Nat) (cI cC cL : ClassId) (sk sv : Nat → Nat) (ad : Nat → Nat) (N : Nat) (a0 a2 : Int32) (z0 z1 : jS) (r : Int32) (hf : fT_matches_T N a0 a2 z0 = some (r, z1)) : Ci l yT_matches (Cond.code yT_matches prog_6_method_23_code 5 (some .boolean) :: TB) ({ frames := 2, cells := 0, slots := 0, locals := 49 }) (dC, dI) vwCl [(cI, .int), (cC, .char), (cL, .object "SharedSyntax$Letters")] (jEn sk sv) [.ref (ad 1), .int a0, .ref (ad 1), .int a2] (wR cI cC ad z0) (wR cI cC ad z1) r := by
  refine Ci_of (cc := prog_6_method_23_code) (maxL := 5) (ret := (some .boolean)) (by decide) rfl (Nat.le_of_ble_eq_true rfl) ?_
  intro p e s m below meth c ls F hl hK hN hC
  obtain ⟨hx, hb, hml, hown, hts, hr, hlk⟩ := F
  have ht : ∀ w ∈ TB, w.before [.ref (ad 1), .int a0, .ref (ad 1), .int a2].toArray s = true := fun w h => hts w (List.mem_cons_of_mem _ h)
  have hA : ∀ q, s.heap.size ≤ q → va_A (wR cI cC ad z0) s.heap.size q := fun q h => Or.inr h
  have hl : lv_has ls 5 [(0, .ref (ad 1)), (1, .int a0), (2, .ref (ad 1)), (3, .int a2)] := hl
  have L15 : ∀ (n : Nat) (x1 x3 x4 : Int32) (s0 : jS) (ls : Array Slot) (H : Heap) (locs : List Loc), lv_has ls 5 [(0, .ref (ad 1)), (1, .int x1), (2, .ref (ad 1)), (3, .int x3), (4, .int x4)] → jcx (dC, dI) vwCl (va_A (wR cI cC ad z0) s.heap.size) s.heap (wR cI cC ad s0) H locs → fT_matches_T_15 N n x1 x3 x4 s0 = some (r, z1) → W p l e ({ frames := 2, cells := 0, slots := 0, locals := 49 }) s m [.ref (ad 1), .int a0, .ref (ad 1), .int a2].toArray below meth c H locs 0 0 (MQ below (jQi (dC, dI) vwCl [(cI, .int), (cC, .char), (cL, .object "SharedSyntax$Letters")] (wR cI cC ad z0) (wR cI cC ad z1) s.heap.size r) [.ref (ad 1), .int a0, .ref (ad 1), .int a2].toArray s 0 0 (va_A (wR cI cC ad z0) s.heap.size)) (F0 m 15 ls []) := by
    intro n
    induction n with
    | zero => exact fun _ _ _ _ _ _ _ _ _ hf => nomatch hf
    | succ n ih15 =>
      intro x1 x3 x4 s0 ls H locs hl hC hf
      replace hf : fT_matches_T_b15 N (fT_matches_T_15 N n) x1 x3 x4 s0 = some (r, z1) := hf
      generalize fT_matches_T_15 N n = k15 at ih15 hf
      unfold fT_matches_T_b15 at hf
      refine lv_iload hx hb dT_matches_15 (lv_at hl 4 rfl) ?_
      refine lv_aload_n hx hb dT_matches_17 rfl (lv_at hl 0 rfl) ?_
      refine va_get (D := (dC, dI)) (ci := 2) (v := .ref (ad 9)) (C := RcT) (T := TcT) (N := 9) hx hb ht in_cT hown hK hC.1 1 (wR_e1 cI cC ad s0) rfl 2 (by decide) (ht _ tw55) (fun _ h9 => h9) rfl dT_matches_18 ?_
      refine lv_iload_n hx hb dT_matches_21 rfl (lv_at hl 1 rfl) ?_
      obtain ⟨hi1501, hf⟩ := jC_in hf
      refine va_iald hx hb hK hC.1 9 0 (wR_e9 cI cC ad s0) rfl hi1501 dT_matches_22 ?_
      refine lv_icmp_ge (tgt := 50) hx hb dT_matches_23 (by decide) (fun c1502 => ?_) (fun c1502 => ?_)
      · replace hf := jif_t c1502 hf
        refine lv_aload_n hx hb dT_matches_50 rfl (lv_at hl 0 rfl) ?_
        refine lv_iload_n hx hb dT_matches_51 rfl (lv_at hl 1 rfl) ?_
        refine lv_aload_n hx hb dT_matches_52 rfl (lv_at hl 2 rfl) ?_
        refine lv_iload_n hx hb dT_matches_53 rfl (lv_at hl 3 rfl) ?_
        obtain ⟨r1503, s1503, hc1503, hf⟩ := jB_some hf
        refine jcall_i (va_runV (C := RcT) (As := [.int x1, .ref (ad 1), .int x3]) (rest := []) ⟨hx, hb, hml, hown, hts⟩ ((cT_sameLetters_T l dC dI cI cC cL sk sv ad N x1 x3 s0 s1503 r1503 hc1503) _) ⟨(callB_of 3 hts (tb_good tw557) rfl rfl rfl (ht _ tw4) (ht _ tw554) (by decide +kernel) ⟨Nat.le_of_ble_eq_true rfl, Nat.le_of_ble_eq_true rfl⟩), ht _ tw556, ht _ (tb_sel pv_T_sameLetters)⟩ (jpreV (jEn_ok sk sv) hC hA hK hN (wR_e1 cI cC ad s0) rfl rfl _) rfl rfl hl.1 rfl (lv_room (Nat.le_of_ble_eq_true rfl)) dT_matches_54 ⟨Nat.le_refl _, Nat.le_refl _⟩) hC hA (fun H locs hC => ?_)
        refine lv_if_eq (tgt := 74) hx hb dT_matches_57 (by decide) (fun c1504 => ?_) (fun c1504 => ?_)
        · replace hf := jif_t c1504 hf
          refine lv_iconst (v := 0) hx hb dT_matches_74 (by decide) ?_
          cases hf
          exact jret_z hx hb hr (by decide +kernel) hlk hC hK dT_matches_75
        · replace hf := jif_f c1504 hf
          refine lv_aload_n hx hb dT_matches_60 rfl (lv_at hl 0 rfl) ?_
          refine lv_iload_n hx hb dT_matches_61 rfl (lv_at hl 1 rfl) ?_
          refine lv_aload_n hx hb dT_matches_62 rfl (lv_at hl 2 rfl) ?_
          refine lv_iload_n hx hb dT_matches_63 rfl (lv_at hl 3 rfl) ?_
          obtain ⟨r1505, s1505, hc1505, hf⟩ := jB_some hf
          refine jcall_i (va_runV (C := RcT) (As := [.int x1, .ref (ad 1), .int x3]) (rest := []) ⟨hx, hb, hml, hown, hts⟩ ((cT_sameFaults_T l dC dI cI cC cL sk sv ad N x1 x3 s1503 s1505 r1505 hc1505) _) ⟨(callB_of 3 hts (tb_good tw562) rfl rfl rfl (ht _ tw4) (ht _ tw559) (by decide +kernel) ⟨Nat.le_of_ble_eq_true rfl, Nat.le_of_ble_eq_true rfl⟩), ht _ tw561, ht _ (tb_sel pv_T_sameFaults)⟩ (jpreV (jEn_ok sk sv) hC hA hK hN (wR_e1 cI cC ad s1503) rfl rfl _) rfl rfl hl.1 rfl (lv_room (Nat.le_of_ble_eq_true rfl)) dT_matches_64 ⟨Nat.le_refl _, Nat.le_refl _⟩) hC hA (fun H locs hC => ?_)
          refine lv_if_eq (tgt := 74) hx hb dT_matches_67 (by decide) (fun c1506 => ?_) (fun c1506 => ?_)
          · replace hf := jif_t c1506 hf
            refine lv_iconst (v := 0) hx hb dT_matches_74 (by decide) ?_
            cases hf
            exact jret_z hx hb hr (by decide +kernel) hlk hC hK dT_matches_75
          · replace hf := jif_f c1506 hf
            refine lv_iconst (v := 1) hx hb dT_matches_70 (by decide) ?_
            refine lv_goto (tgt := 75) hx hb dT_matches_71 (by decide) ?_
            cases hf
            exact jret_z hx hb hr (by decide +kernel) hlk hC hK dT_matches_75
      · replace hf := jif_f c1502 hf
        refine lv_aload_n hx hb dT_matches_26 rfl (lv_at hl 0 rfl) ?_
        refine lv_iload_n hx hb dT_matches_27 rfl (lv_at hl 1 rfl) ?_
        refine lv_iload hx hb dT_matches_28 (lv_at hl 4 rfl) ?_
        refine lv_iadd hx hb dT_matches_30 ?_
        refine lv_aload_n hx hb dT_matches_31 rfl (lv_at hl 2 rfl) ?_
        refine lv_iload_n hx hb dT_matches_32 rfl (lv_at hl 3 rfl) ?_
        refine lv_iload hx hb dT_matches_33 (lv_at hl 4 rfl) ?_
        refine lv_iadd hx hb dT_matches_35 ?_
        obtain ⟨r1507, s1507, hc1507, hf⟩ := jB_some hf
        refine jcall_i (va_runV (C := RcT) (As := [.int (x1 + x4), .ref (ad 1), .int (x3 + x4)]) (rest := []) ⟨hx, hb, hml, hown, hts⟩ ((cT_sameNode_T l dC dI cI cC cL sk sv ad N (x1 + x4) (x3 + x4) s0 s1507 r1507 hc1507) _) ⟨(callB_of 3 hts (tb_good tw548) rfl rfl rfl (ht _ tw4) (ht _ tw545) (by decide +kernel) ⟨Nat.le_of_ble_eq_true rfl, Nat.le_of_ble_eq_true rfl⟩), ht _ tw547, ht _ (tb_sel pv_T_sameNode)⟩ (jpreV (jEn_ok sk sv) hC hA hK hN (wR_e1 cI cC ad s0) rfl rfl _) rfl rfl hl.1 rfl (lv_room (Nat.le_of_ble_eq_true rfl)) dT_matches_36 ⟨Nat.le_refl _, Nat.le_refl _⟩) hC hA (fun H locs hC => ?_)
        refine lv_if_ne (tgt := 44) hx hb dT_matches_39 (by decide) (fun c1508 => ?_) (fun c1508 => ?_)
        · replace hf := jif_f c1508 hf
          refine lv_iinc (k := 4) (v := (x4 + (1 : Int32))) (lv' := [(4, .int (x4 + (1 : Int32))), (0, .ref (ad 1)), (1, .int x1), (2, .ref (ad 1)), (3, .int x3)]) hx hb dT_matches_44 hl rfl rfl (by decide) rfl (fun ls hl => ?_)
          refine lv_goto (tgt := 15) hx hb dT_matches_47 (by decide) ?_
          exact ih15 x1 x3 (x4 + (1 : Int32)) s1507 ls _ _ (lv_sub hl [1, 2, 3, 4, 0] rfl) hC hf
        · replace hf := jif_t c1508 hf
          refine lv_iconst (v := 0) hx hb dT_matches_42 (by decide) ?_
          cases hf
          exact jret_z hx hb hr (by decide +kernel) hlk hC hK dT_matches_43
  unfold fT_matches_T at hf
  refine lv_aload_n hx hb dT_matches_0 rfl (lv_at hl 0 rfl) ?_
  refine lv_iload_n hx hb dT_matches_1 rfl (lv_at hl 1 rfl) ?_
  refine lv_aload_n hx hb dT_matches_2 rfl (lv_at hl 2 rfl) ?_
  refine lv_iload_n hx hb dT_matches_3 rfl (lv_at hl 3 rfl) ?_
  obtain ⟨r1, s1, hc1, hf⟩ := jB_some hf
  refine jcall_i (va_runV (C := RcT) (As := [.int a0, .ref (ad 1), .int a2]) (rest := []) ⟨hx, hb, hml, hown, hts⟩ ((cT_sameNode_T l dC dI cI cC cL sk sv ad N a0 a2 z0 s1 r1 hc1) _) ⟨(callB_of 3 hts (tb_good tw548) rfl rfl rfl (ht _ tw4) (ht _ tw545) (by decide +kernel) ⟨Nat.le_of_ble_eq_true rfl, Nat.le_of_ble_eq_true rfl⟩), ht _ tw547, ht _ (tb_sel pv_T_sameNode)⟩ (jpreV (jEn_ok sk sv) hC hA hK hN (wR_e1 cI cC ad z0) rfl rfl _) rfl rfl hl.1 rfl (lv_room (Nat.le_of_ble_eq_true rfl)) dT_matches_4 ⟨Nat.le_refl _, Nat.le_refl _⟩) hC hA (fun H locs hC => ?_)
  refine lv_if_ne (tgt := 12) hx hb dT_matches_7 (by decide) (fun c2 => ?_) (fun c2 => ?_)
  · replace hf := jif_f c2 hf
    refine lv_iconst (v := 1) hx hb dT_matches_12 (by decide) ?_
    refine lv_istore (lv' := [(4, .int (1 : Int32)), (0, .ref (ad 1)), (1, .int a0), (2, .ref (ad 1)), (3, .int a2)]) hx hb dT_matches_13 hl (by decide) rfl (fun ls hl => ?_)
    exact L15 N a0 a2 (1 : Int32) s1 ls _ _ (lv_sub hl [1, 2, 3, 4, 0] rfl) hC hf
  · replace hf := jif_t c2 hf
    refine lv_iconst (v := 0) hx hb dT_matches_10 (by decide) ?_
    cases hf
    exact jret_z hx hb hr (by decide +kernel) hlk hC hK dT_matches_11

def fT_isFirstOfItsLike_b2 (N : Nat) (k2 : Int32 → Int32 → jS → Option (Int32 × jS)) (x1 x2 : Int32) (s0 : jS) : Option (Int32 × jS) := (if x1 ≤ x2 then some ((1 : Int32), s0) else (jB (fT_matches_T N x1 x2 s0) fun r202 s202 => (if r202 = 0 then k2 x1 (x2 + (1 : Int32)) s202 else some ((0 : Int32), s202))))
def fT_isFirstOfItsLike_2 (N : Nat) : Nat → Int32 → Int32 → jS → Option (Int32 × jS)
  | 0 => fun _ _ _ => none
  | n + 1 => fun x1 x2 s0 => fT_isFirstOfItsLike_b2 N (fT_isFirstOfItsLike_2 N n) x1 x2 s0
def fT_isFirstOfItsLike (N : Nat) (a0 : Int32) (z0 : jS) : Option (Int32 × jS) := fT_isFirstOfItsLike_2 N N a0 (0 : Int32) z0
set_option maxHeartbeats 4000000 in
set_option maxRecDepth 100000 in
theorem cT_isFirstOfItsLike (l : Launch) (dC : Nat → ClassId) (dI : Nat → Nat → Nat) (cI cC cL : ClassId) (sk sv : Nat → Nat) (ad : Nat → Nat) (N : Nat) (a0 : Int32) (z0 z1 : jS) (r : Int32) (hf : fT_isFirstOfItsLike N a0 z0 = some (r, z1)) : Ci l yT_isFirstOfItsLike (Cond.code yT_isFirstOfItsLike prog_6_method_22_code 3 (some .boolean) :: TB) ({ frames := 3, cells := 0, slots := 0, locals := 73 }) (dC, dI) vwCl [(cI, .int), (cC, .char), (cL, .object "SharedSyntax$Letters")] (jEn sk sv) [.ref (ad 1), .int a0] (wR cI cC ad z0) (wR cI cC ad z1) r := by
  refine Ci_of (cc := prog_6_method_22_code) (maxL := 3) (ret := (some .boolean)) (by decide) rfl (Nat.le_of_ble_eq_true rfl) ?_
  intro p e s m below meth c ls F hl hK hN hC
  obtain ⟨hx, hb, hml, hown, hts, hr, hlk⟩ := F
  have ht : ∀ w ∈ TB, w.before [.ref (ad 1), .int a0].toArray s = true := fun w h => hts w (List.mem_cons_of_mem _ h)
  have hA : ∀ q, s.heap.size ≤ q → va_A (wR cI cC ad z0) s.heap.size q := fun q h => Or.inr h
  have hl : lv_has ls 3 [(0, .ref (ad 1)), (1, .int a0)] := hl
  have L2 : ∀ (n : Nat) (x1 x2 : Int32) (s0 : jS) (ls : Array Slot) (H : Heap) (locs : List Loc), lv_has ls 3 [(0, .ref (ad 1)), (1, .int x1), (2, .int x2)] → jcx (dC, dI) vwCl (va_A (wR cI cC ad z0) s.heap.size) s.heap (wR cI cC ad s0) H locs → fT_isFirstOfItsLike_2 N n x1 x2 s0 = some (r, z1) → W p l e ({ frames := 3, cells := 0, slots := 0, locals := 73 }) s m [.ref (ad 1), .int a0].toArray below meth c H locs 0 0 (MQ below (jQi (dC, dI) vwCl [(cI, .int), (cC, .char), (cL, .object "SharedSyntax$Letters")] (wR cI cC ad z0) (wR cI cC ad z1) s.heap.size r) [.ref (ad 1), .int a0].toArray s 0 0 (va_A (wR cI cC ad z0) s.heap.size)) (F0 m 2 ls []) := by
    intro n
    induction n with
    | zero => exact fun _ _ _ _ _ _ _ _ hf => nomatch hf
    | succ n ih2 =>
      intro x1 x2 s0 ls H locs hl hC hf
      replace hf : fT_isFirstOfItsLike_b2 N (fT_isFirstOfItsLike_2 N n) x1 x2 s0 = some (r, z1) := hf
      generalize fT_isFirstOfItsLike_2 N n = k2 at ih2 hf
      unfold fT_isFirstOfItsLike_b2 at hf
      refine lv_iload_n hx hb dT_isFirstOfItsLike_2 rfl (lv_at hl 2 rfl) ?_
      refine lv_iload_n hx hb dT_isFirstOfItsLike_3 rfl (lv_at hl 1 rfl) ?_
      refine lv_icmp_ge (tgt := 25) hx hb dT_isFirstOfItsLike_4 (by decide) (fun c201 => ?_) (fun c201 => ?_)
      · replace hf := jif_t c201 hf
        refine lv_iconst (v := 1) hx hb dT_isFirstOfItsLike_25 (by decide) ?_
        cases hf
        exact jret_z hx hb hr (by decide +kernel) hlk hC hK dT_isFirstOfItsLike_26
      · replace hf := jif_f c201 hf
        refine lv_aload_n hx hb dT_isFirstOfItsLike_7 rfl (lv_at hl 0 rfl) ?_
        refine lv_iload_n hx hb dT_isFirstOfItsLike_8 rfl (lv_at hl 1 rfl) ?_
        refine lv_aload_n hx hb dT_isFirstOfItsLike_9 rfl (lv_at hl 0 rfl) ?_
        refine lv_iload_n hx hb dT_isFirstOfItsLike_10 rfl (lv_at hl 2 rfl) ?_
        obtain ⟨r202, s202, hc202, hf⟩ := jB_some hf
        refine jcall_i (va_runV (C := RcT) (As := [.int x1, .ref (ad 1), .int x2]) (rest := []) ⟨hx, hb, hml, hown, hts⟩ ((cT_matches_T l dC dI cI cC cL sk sv ad N x1 x2 s0 s202 r202 hc202) _) ⟨(callB_of 3 hts (tb_good tw544) rfl rfl rfl (ht _ tw4) (ht _ tw647) (by decide +kernel) ⟨Nat.le_of_ble_eq_true rfl, Nat.le_of_ble_eq_true rfl⟩), ht _ tw542, ht _ tw543⟩ (jpreV (jEn_ok sk sv) hC hA hK hN (wR_e1 cI cC ad s0) rfl rfl _) rfl rfl hl.1 rfl (lv_room (Nat.le_of_ble_eq_true rfl)) dT_isFirstOfItsLike_11 ⟨Nat.le_refl _, Nat.le_refl _⟩) hC hA (fun H locs hC => ?_)
        refine lv_if_eq (tgt := 19) hx hb dT_isFirstOfItsLike_14 (by decide) (fun c203 => ?_) (fun c203 => ?_)
        · replace hf := jif_t c203 hf
          refine lv_iinc (k := 2) (v := (x2 + (1 : Int32))) (lv' := [(2, .int (x2 + (1 : Int32))), (0, .ref (ad 1)), (1, .int x1)]) hx hb dT_isFirstOfItsLike_19 hl rfl rfl (by decide) rfl (fun ls hl => ?_)
          refine lv_goto (tgt := 2) hx hb dT_isFirstOfItsLike_22 (by decide) ?_
          exact ih2 x1 (x2 + (1 : Int32)) s202 ls _ _ (lv_sub hl [1, 2, 0] rfl) hC hf
        · replace hf := jif_f c203 hf
          refine lv_iconst (v := 0) hx hb dT_isFirstOfItsLike_17 (by decide) ?_
          cases hf
          exact jret_z hx hb hr (by decide +kernel) hlk hC hK dT_isFirstOfItsLike_18
  unfold fT_isFirstOfItsLike at hf
  refine lv_iconst (v := 0) hx hb dT_isFirstOfItsLike_0 (by decide) ?_
  refine lv_istore_n (lv' := [(2, .int (0 : Int32)), (0, .ref (ad 1)), (1, .int a0)]) hx hb dT_isFirstOfItsLike_1 rfl hl (by decide) rfl (fun ls hl => ?_)
  exact L2 N a0 (0 : Int32) z0 ls _ _ (lv_sub hl [1, 2, 0] rfl) hC hf

def fT_differentCount_b4 (N : Nat) (k4 : Int32 → Int32 → jS → Option (Int32 × jS)) (x1 x2 : Int32) (s0 : jS) : Option (Int32 × jS) := (if jgI s0 3 ≤ x2 then some (x1, s0) else (jB (fT_isFirstOfItsLike N x2 s0) fun r402 s402 => (if r402 = 0 then k4 x1 (x2 + (1 : Int32)) s402 else k4 (x1 + (1 : Int32)) (x2 + (1 : Int32)) s402)))
def fT_differentCount_4 (N : Nat) : Nat → Int32 → Int32 → jS → Option (Int32 × jS)
  | 0 => fun _ _ _ => none
  | n + 1 => fun x1 x2 s0 => fT_differentCount_b4 N (fT_differentCount_4 N n) x1 x2 s0
def fT_differentCount (N : Nat) (z0 : jS) : Option (Int32 × jS) := fT_differentCount_4 N N (0 : Int32) (0 : Int32) z0
set_option maxHeartbeats 4000000 in
set_option maxRecDepth 100000 in
theorem cT_differentCount (l : Launch) (dC : Nat → ClassId) (dI : Nat → Nat → Nat) (cI cC cL : ClassId) (sk sv : Nat → Nat) (ad : Nat → Nat) (N : Nat) (z0 z1 : jS) (r : Int32) (hf : fT_differentCount N z0 = some (r, z1)) : Ci l yT_differentCount (Cond.code yT_differentCount prog_6_method_21_code 3 (some .int) :: TB) ({ frames := 4, cells := 0, slots := 0, locals := 95 }) (dC, dI) vwCl [(cI, .int), (cC, .char), (cL, .object "SharedSyntax$Letters")] (jEn sk sv) [.ref (ad 1)] (wR cI cC ad z0) (wR cI cC ad z1) r := by
  refine Ci_of (cc := prog_6_method_21_code) (maxL := 3) (ret := (some .int)) (by decide) rfl (Nat.le_of_ble_eq_true rfl) ?_
  intro p e s m below meth c ls F hl hK hN hC
  obtain ⟨hx, hb, hml, hown, hts, hr, hlk⟩ := F
  have ht : ∀ w ∈ TB, w.before [.ref (ad 1)].toArray s = true := fun w h => hts w (List.mem_cons_of_mem _ h)
  have hA : ∀ q, s.heap.size ≤ q → va_A (wR cI cC ad z0) s.heap.size q := fun q h => Or.inr h
  have hl : lv_has ls 3 [(0, .ref (ad 1))] := hl
  have L4 : ∀ (n : Nat) (x1 x2 : Int32) (s0 : jS) (ls : Array Slot) (H : Heap) (locs : List Loc), lv_has ls 3 [(0, .ref (ad 1)), (1, .int x1), (2, .int x2)] → jcx (dC, dI) vwCl (va_A (wR cI cC ad z0) s.heap.size) s.heap (wR cI cC ad s0) H locs → fT_differentCount_4 N n x1 x2 s0 = some (r, z1) → W p l e ({ frames := 4, cells := 0, slots := 0, locals := 95 }) s m [.ref (ad 1)].toArray below meth c H locs 0 0 (MQ below (jQi (dC, dI) vwCl [(cI, .int), (cC, .char), (cL, .object "SharedSyntax$Letters")] (wR cI cC ad z0) (wR cI cC ad z1) s.heap.size r) [.ref (ad 1)].toArray s 0 0 (va_A (wR cI cC ad z0) s.heap.size)) (F0 m 4 ls []) := by
    intro n
    induction n with
    | zero => exact fun _ _ _ _ _ _ _ _ hf => nomatch hf
    | succ n ih4 =>
      intro x1 x2 s0 ls H locs hl hC hf
      replace hf : fT_differentCount_b4 N (fT_differentCount_4 N n) x1 x2 s0 = some (r, z1) := hf
      generalize fT_differentCount_4 N n = k4 at ih4 hf
      unfold fT_differentCount_b4 at hf
      refine lv_iload_n hx hb dT_differentCount_4 rfl (lv_at hl 2 rfl) ?_
      refine lv_aload_n hx hb dT_differentCount_5 rfl (lv_at hl 0 rfl) ?_
      refine va_get (D := (dC, dI)) (ci := 2) (v := .int (jgI s0 3)) (C := RcT) (T := TcT) (N := 9) hx hb ht in_cT hown hK hC.1 1 (wR_e1 cI cC ad s0) rfl 7 (by decide) (ht _ tw63) (fun _ h9 => h9) rfl dT_differentCount_6 ?_
      refine lv_icmp_ge (tgt := 29) hx hb dT_differentCount_9 (by decide) (fun c401 => ?_) (fun c401 => ?_)
      · replace hf := jif_t c401 hf
        refine lv_iload_n hx hb dT_differentCount_29 rfl (lv_at hl 1 rfl) ?_
        cases hf
        exact jret_i hx hb hr hlk hC hK dT_differentCount_30
      · replace hf := jif_f c401 hf
        refine lv_aload_n hx hb dT_differentCount_12 rfl (lv_at hl 0 rfl) ?_
        refine lv_iload_n hx hb dT_differentCount_13 rfl (lv_at hl 2 rfl) ?_
        obtain ⟨r402, s402, hc402, hf⟩ := jB_some hf
        refine jcall_i (va_runV (C := RcT) (As := [.int x2]) (rest := []) ⟨hx, hb, hml, hown, hts⟩ ((cT_isFirstOfItsLike l dC dI cI cC cL sk sv ad N x2 s0 s402 r402 hc402) _) ⟨(callB_of 1 hts (tb_good tw646) rfl rfl rfl (ht _ tw4) (ht _ tw643) (by decide +kernel) ⟨Nat.le_of_ble_eq_true rfl, Nat.le_of_ble_eq_true rfl⟩), ht _ tw645, ht _ (tb_sel pv_T_isFirstOfItsLike)⟩ (jpreV (jEn_ok sk sv) hC hA hK hN (wR_e1 cI cC ad s0) rfl rfl _) rfl rfl hl.1 rfl (lv_room (Nat.le_of_ble_eq_true rfl)) dT_differentCount_14 ⟨Nat.le_refl _, Nat.le_refl _⟩) hC hA (fun H locs hC => ?_)
        refine lv_if_eq (tgt := 23) hx hb dT_differentCount_17 (by decide) (fun c403 => ?_) (fun c403 => ?_)
        · replace hf := jif_t c403 hf
          refine lv_iinc (k := 2) (v := (x2 + (1 : Int32))) (lv' := [(2, .int (x2 + (1 : Int32))), (0, .ref (ad 1)), (1, .int x1)]) hx hb dT_differentCount_23 hl rfl rfl (by decide) rfl (fun ls hl => ?_)
          refine lv_goto (tgt := 4) hx hb dT_differentCount_26 (by decide) ?_
          exact ih4 x1 (x2 + (1 : Int32)) s402 ls _ _ (lv_sub hl [1, 2, 0] rfl) hC hf
        · replace hf := jif_f c403 hf
          refine lv_iinc (k := 1) (v := (x1 + (1 : Int32))) (lv' := [(1, .int (x1 + (1 : Int32))), (0, .ref (ad 1)), (2, .int x2)]) hx hb dT_differentCount_20 hl rfl rfl (by decide) rfl (fun ls hl => ?_)
          refine lv_iinc (k := 2) (v := (x2 + (1 : Int32))) (lv' := [(2, .int (x2 + (1 : Int32))), (1, .int (x1 + (1 : Int32))), (0, .ref (ad 1))]) hx hb dT_differentCount_23 hl rfl rfl (by decide) rfl (fun ls hl => ?_)
          refine lv_goto (tgt := 4) hx hb dT_differentCount_26 (by decide) ?_
          exact ih4 (x1 + (1 : Int32)) (x2 + (1 : Int32)) s402 ls _ _ (lv_sub hl [2, 1, 0] rfl) hC hf
  unfold fT_differentCount at hf
  refine lv_iconst (v := 0) hx hb dT_differentCount_0 (by decide) ?_
  refine lv_istore_n (lv' := [(1, .int (0 : Int32)), (0, .ref (ad 1))]) hx hb dT_differentCount_1 rfl hl (by decide) rfl (fun ls hl => ?_)
  refine lv_iconst (v := 0) hx hb dT_differentCount_2 (by decide) ?_
  refine lv_istore_n (lv' := [(2, .int (0 : Int32)), (1, .int (0 : Int32)), (0, .ref (ad 1))]) hx hb dT_differentCount_3 rfl hl (by decide) rfl (fun ls hl => ?_)
  exact L4 N (0 : Int32) (0 : Int32) z0 ls _ _ (lv_sub hl [2, 1, 0] rfl) hC hf
