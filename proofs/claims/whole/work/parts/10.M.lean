def fM_look (N : Nat) (a0 a1 : Int32) (z0 : jS) : Option (Int32 × jS) := (if jIn a0 2 = true then (if jgA z0 1 (a0).toNatClampNeg ≤ a1 then some ((0 : Int32), z0) else (if jIn (((60 : Int32) * a0) + a1) 120 = true then (if jCh (jgA z0 0 ((((60 : Int32) * a0) + a1)).toNatClampNeg) = true then some (jgA z0 0 ((((60 : Int32) * a0) + a1)).toNatClampNeg, z0) else none) else none)) else none)
set_option maxHeartbeats 4000000 in
set_option maxRecDepth 100000 in
theorem cM_look (l : Launch) (dC : Nat → ClassId) (dI : Nat → Nat → Nat) (cI cC cL : ClassId) (sk sv : Nat → Nat) (ad : Nat → Nat) (N : Nat) (a0 a1 : Int32) (z0 z1 : jS) (r : Int32) (hf : fM_look N a0 a1 z0 = some (r, z1)) : Ci l yM_look (Cond.code yM_look prog_8_method_2_code 3 (some .char) :: TB) ({ frames := 0, cells := 0, slots := 0, locals := 0 }) (dC, dI) vwCl [(cI, .int), (cC, .char), (cL, .object "SharedSyntax$Letters")] (jEn sk sv) [.ref (ad 0), .int a0, .int a1] (wM cI cC ad z0) (wM cI cC ad z1) r := by
  refine Ci_of (cc := prog_8_method_2_code) (maxL := 3) (ret := (some .char)) (by decide) rfl (Nat.le_of_ble_eq_true rfl) ?_
  intro p e s m below meth c ls F hl hK hN hC
  obtain ⟨hx, hb, hml, hown, hts, hr, hlk⟩ := F
  have ht : ∀ w ∈ TB, w.before [.ref (ad 0), .int a0, .int a1].toArray s = true := fun w h => hts w (List.mem_cons_of_mem _ h)
  have hA : ∀ q, s.heap.size ≤ q → va_A (wM cI cC ad z0) s.heap.size q := fun q h => Or.inr h
  have hl : lv_has ls 3 [(0, .ref (ad 0)), (1, .int a0), (2, .int a1)] := hl
  unfold fM_look at hf
  refine lv_iload_n hx hb dM_look_0 rfl (lv_at hl 2 rfl) ?_
  refine lv_aload_n hx hb dM_look_1 rfl (lv_at hl 0 rfl) ?_
  refine va_get (D := (dC, dI)) (ci := 6) (v := .ref (ad 2)) (C := RcM) (T := TcM) (N := 43) hx hb ht in_cM hown hK hC.1 0 (wM_e0 cI cC ad z0) rfl 2 (by decide) (ht _ tw762) (fun _ h9 => h9) rfl dM_look_2 ?_
  refine lv_iload_n hx hb dM_look_5 rfl (lv_at hl 1 rfl) ?_
  obtain ⟨hi1, hf⟩ := jC_in hf
  refine va_iald hx hb hK hC.1 2 0 (wM_e2 cI cC ad z0) rfl hi1 dM_look_6 ?_
  refine lv_icmp_ge (tgt := 24) hx hb dM_look_7 (by decide) (fun c2 => ?_) (fun c2 => ?_)
  · replace hf := jif_t c2 hf
    refine lv_iconst (v := 0) hx hb dM_look_24 (by decide) ?_
    cases hf
    exact jret_z hx hb hr (by decide +kernel) hlk hC hK dM_look_25
  · replace hf := jif_f c2 hf
    refine lv_aload_n hx hb dM_look_10 rfl (lv_at hl 0 rfl) ?_
    refine va_get (D := (dC, dI)) (ci := 6) (v := .ref (ad 1)) (C := RcM) (T := TcM) (N := 43) hx hb ht in_cM hown hK hC.1 0 (wM_e0 cI cC ad z0) rfl 1 (by decide) (ht _ tw761) (fun _ h9 => h9) rfl dM_look_11 ?_
    refine lv_bipush (v := 60) hx hb dM_look_14 (by decide) ?_
    refine lv_iload_n hx hb dM_look_16 rfl (lv_at hl 1 rfl) ?_
    refine lv_imul hx hb dM_look_17 ?_
    refine lv_iload_n hx hb dM_look_18 rfl (lv_at hl 2 rfl) ?_
    refine lv_iadd hx hb dM_look_19 ?_
    obtain ⟨hi3, hf⟩ := jC_in hf
    refine va_cald hx hb hK hC.1 1 1 (wM_e1 cI cC ad z0) rfl hi3 dM_look_20 ?_
    refine lv_goto (tgt := 25) hx hb dM_look_21 (by decide) ?_
    obtain ⟨hz, hf⟩ := jC_b hf
    cases hf
    exact jret_z hx hb hr (jCh_n hz) hlk hC hK dM_look_25

def fM_blanks_b69 (N : Nat) (k5 : Int32 → Int32 → Int32 → jS → Option (Int32 × jS)) (k69 : Int32 → Int32 → Int32 → Int32 → jS → Option (Int32 × jS)) (x1 x3 x4 x5 : Int32) (s0 : jS) : Option (Int32 × jS) := (if x5 = (35 : Int32) then (if jIn x1 2 = true then (if jgA s0 1 (x1).toNatClampNeg ≤ x3 then k5 x1 x3 x4 s0 else (jB (fM_look N x1 x3 s0) fun r6904 s6904 => (if r6904 = (10 : Int32) then k5 x1 x3 x4 s6904 else k69 x1 (x3 + (1 : Int32)) x4 x5 s6904))) else none) else k5 x1 x3 x4 s0)
def fM_blanks_69 (N : Nat) (k5 : Int32 → Int32 → Int32 → jS → Option (Int32 × jS)) : Nat → Int32 → Int32 → Int32 → Int32 → jS → Option (Int32 × jS)
  | 0 => fun _ _ _ _ _ => none
  | n + 1 => fun x1 x3 x4 x5 s0 => fM_blanks_b69 N k5 (fM_blanks_69 N k5 n) x1 x3 x4 x5 s0
def fM_blanks_49 (N : Nat) (k5 : Int32 → Int32 → Int32 → jS → Option (Int32 × jS)) (x1 x3 x5 : Int32) (s0 : jS) : Option (Int32 × jS) := fM_blanks_69 N k5 N x1 (x3 + (1 : Int32)) (1 : Int32) x5 s0
def fM_blanks_b5 (N : Nat) (k5 : Int32 → Int32 → Int32 → jS → Option (Int32 × jS)) (x1 x3 x4 : Int32) (s0 : jS) : Option (Int32 × jS) := (if x4 = 0 then some (x3, s0) else (if jIn x1 2 = true then (if jgA s0 1 (x1).toNatClampNeg ≤ x3 then some (x3, s0) else (jB (fM_look N x1 x3 s0) fun r504 s504 => (if r504 = (32 : Int32) then fM_blanks_49 N k5 x1 x3 r504 s504 else (if r504 = (10 : Int32) then fM_blanks_49 N k5 x1 x3 r504 s504 else (if r504 = (35 : Int32) then fM_blanks_49 N k5 x1 x3 r504 s504 else fM_blanks_69 N k5 N x1 x3 (0 : Int32) r504 s504))))) else none))
def fM_blanks_5 (N : Nat) : Nat → Int32 → Int32 → Int32 → jS → Option (Int32 × jS)
  | 0 => fun _ _ _ _ => none
  | n + 1 => fun x1 x3 x4 s0 => fM_blanks_b5 N (fM_blanks_5 N n) x1 x3 x4 s0
def fM_blanks (N : Nat) (a0 a1 : Int32) (z0 : jS) : Option (Int32 × jS) := fM_blanks_5 N N a0 a1 (1 : Int32) z0
set_option maxHeartbeats 4000000 in
set_option maxRecDepth 100000 in
theorem cM_blanks (l : Launch) (dC : Nat → ClassId) (dI : Nat → Nat → Nat) (cI cC cL : ClassId) (sk sv : Nat → Nat) (ad : Nat → Nat) (N : Nat) (a0 a1 : Int32) (z0 z1 : jS) (r : Int32) (hf : fM_blanks N a0 a1 z0 = some (r, z1)) : Ci l yM_blanks (Cond.code yM_blanks prog_8_method_3_code 6 (some .int) :: TB) ({ frames := 1, cells := 0, slots := 0, locals := 22 }) (dC, dI) vwCl [(cI, .int), (cC, .char), (cL, .object "SharedSyntax$Letters")] (jEn sk sv) [.ref (ad 0), .int a0, .int a1] (wM cI cC ad z0) (wM cI cC ad z1) r := by
  refine Ci_of (cc := prog_8_method_3_code) (maxL := 6) (ret := (some .int)) (by decide) rfl (Nat.le_of_ble_eq_true rfl) ?_
  intro p e s m below meth c ls F hl hK hN hC
  obtain ⟨hx, hb, hml, hown, hts, hr, hlk⟩ := F
  have ht : ∀ w ∈ TB, w.before [.ref (ad 0), .int a0, .int a1].toArray s = true := fun w h => hts w (List.mem_cons_of_mem _ h)
  have hA : ∀ q, s.heap.size ≤ q → va_A (wM cI cC ad z0) s.heap.size q := fun q h => Or.inr h
  have hl : lv_has ls 6 [(0, .ref (ad 0)), (1, .int a0), (2, .int a1)] := hl
  have L5 : ∀ (n : Nat) (x1 x3 x4 : Int32) (s0 : jS) (ls : Array Slot) (H : Heap) (locs : List Loc), lv_has ls 6 [(0, .ref (ad 0)), (1, .int x1), (3, .int x3), (4, .int x4)] → jcx (dC, dI) vwCl (va_A (wM cI cC ad z0) s.heap.size) s.heap (wM cI cC ad s0) H locs → fM_blanks_5 N n x1 x3 x4 s0 = some (r, z1) → W p l e ({ frames := 1, cells := 0, slots := 0, locals := 22 }) s m [.ref (ad 0), .int a0, .int a1].toArray below meth c H locs 0 0 (MQ below (jQi (dC, dI) vwCl [(cI, .int), (cC, .char), (cL, .object "SharedSyntax$Letters")] (wM cI cC ad z0) (wM cI cC ad z1) s.heap.size r) [.ref (ad 0), .int a0, .int a1].toArray s 0 0 (va_A (wM cI cC ad z0) s.heap.size)) (F0 m 5 ls []) := by
    intro n
    induction n with
    | zero => exact fun _ _ _ _ _ _ _ _ _ hf => nomatch hf
    | succ n ih5 =>
      intro x1 x3 x4 s0 ls H locs hl hC hf
      replace hf : fM_blanks_b5 N (fM_blanks_5 N n) x1 x3 x4 s0 = some (r, z1) := hf
      generalize fM_blanks_5 N n = k5 at ih5 hf
      have L69 : ∀ (n : Nat) (x1 x3 x4 x5 : Int32) (s0 : jS) (ls : Array Slot) (H : Heap) (locs : List Loc), lv_has ls 6 [(0, .ref (ad 0)), (1, .int x1), (3, .int x3), (4, .int x4), (5, .int x5)] → jcx (dC, dI) vwCl (va_A (wM cI cC ad z0) s.heap.size) s.heap (wM cI cC ad s0) H locs → fM_blanks_69 N k5 n x1 x3 x4 x5 s0 = some (r, z1) → W p l e ({ frames := 1, cells := 0, slots := 0, locals := 22 }) s m [.ref (ad 0), .int a0, .int a1].toArray below meth c H locs 0 0 (MQ below (jQi (dC, dI) vwCl [(cI, .int), (cC, .char), (cL, .object "SharedSyntax$Letters")] (wM cI cC ad z0) (wM cI cC ad z1) s.heap.size r) [.ref (ad 0), .int a0, .int a1].toArray s 0 0 (va_A (wM cI cC ad z0) s.heap.size)) (F0 m 69 ls []) := by
        intro n
        induction n with
        | zero => exact fun _ _ _ _ _ _ _ _ _ _ hf => nomatch hf
        | succ n ih69 =>
          intro x1 x3 x4 x5 s0 ls H locs hl hC hf
          replace hf : fM_blanks_b69 N k5 (fM_blanks_69 N k5 n) x1 x3 x4 x5 s0 = some (r, z1) := hf
          generalize fM_blanks_69 N k5 n = k69 at ih69 hf
          unfold fM_blanks_b69 at hf
          refine lv_iload hx hb dM_blanks_69 (lv_at hl 4 rfl) ?_
          refine lv_bipush (v := 35) hx hb dM_blanks_71 (by decide) ?_
          refine lv_icmp_ne (tgt := 103) hx hb dM_blanks_73 (by decide) (fun c6901 => ?_) (fun c6901 => ?_)
          · replace hf := jif_f c6901 hf
            refine lv_goto (tgt := 5) hx hb dM_blanks_103 (by decide) ?_
            exact ih5 x1 x3 x4 s0 ls _ _ (lv_sub hl [0, 1, 2, 3] rfl) hC hf
          · replace hf := jif_t c6901 hf
            refine lv_iload_n hx hb dM_blanks_76 rfl (lv_at hl 2 rfl) ?_
            refine lv_aload_n hx hb dM_blanks_77 rfl (lv_at hl 0 rfl) ?_
            refine va_get (D := (dC, dI)) (ci := 6) (v := .ref (ad 2)) (C := RcM) (T := TcM) (N := 43) hx hb ht in_cM hown hK hC.1 0 (wM_e0 cI cC ad s0) rfl 2 (by decide) (ht _ tw762) (fun _ h9 => h9) rfl dM_blanks_78 ?_
            refine lv_iload_n hx hb dM_blanks_81 rfl (lv_at hl 1 rfl) ?_
            obtain ⟨hi6902, hf⟩ := jC_in hf
            refine va_iald hx hb hK hC.1 2 0 (wM_e2 cI cC ad s0) rfl hi6902 dM_blanks_82 ?_
            refine lv_icmp_ge (tgt := 103) hx hb dM_blanks_83 (by decide) (fun c6903 => ?_) (fun c6903 => ?_)
            · replace hf := jif_t c6903 hf
              refine lv_goto (tgt := 5) hx hb dM_blanks_103 (by decide) ?_
              exact ih5 x1 x3 x4 s0 ls _ _ (lv_sub hl [0, 1, 2, 3] rfl) hC hf
            · replace hf := jif_f c6903 hf
              refine lv_aload_n hx hb dM_blanks_86 rfl (lv_at hl 0 rfl) ?_
              refine lv_iload_n hx hb dM_blanks_87 rfl (lv_at hl 1 rfl) ?_
              refine lv_iload_n hx hb dM_blanks_88 rfl (lv_at hl 2 rfl) ?_
              obtain ⟨r6904, s6904, hc6904, hf⟩ := jB_some hf
              refine jcall_i (va_runV (C := RcM) (As := [.int x1, .int x3]) (rest := []) ⟨hx, hb, hml, hown, hts⟩ ((cM_look l dC dI cI cC cL sk sv ad N x1 x3 s0 s6904 r6904 hc6904) _) ⟨(callB_of 2 hts (tb_good tw669) rfl rfl rfl (ht _ tw14) (ht _ tw666) (by decide +kernel) ⟨Nat.le_of_ble_eq_true rfl, Nat.le_of_ble_eq_true rfl⟩), ht _ tw668, ht _ (tb_sel pv_M_look)⟩ (jpreV (jEn_ok sk sv) hC hA hK hN (wM_e0 cI cC ad s0) rfl rfl _) rfl rfl hl.1 rfl (lv_room (Nat.le_of_ble_eq_true rfl)) dM_blanks_89 ⟨Nat.le_refl _, Nat.le_refl _⟩) hC hA (fun H locs hC => ?_)
              refine lv_bipush (v := 10) hx hb dM_blanks_92 (by decide) ?_
              refine lv_icmp_eq (tgt := 103) hx hb dM_blanks_94 (by decide) (fun c6905 => ?_) (fun c6905 => ?_)
              · replace hf := jif_t c6905 hf
                refine lv_goto (tgt := 5) hx hb dM_blanks_103 (by decide) ?_
                exact ih5 x1 x3 x4 s6904 ls _ _ (lv_sub hl [0, 1, 2, 3] rfl) hC hf
              · replace hf := jif_f c6905 hf
                refine lv_iinc (k := 2) (v := (x3 + (1 : Int32))) (lv' := [(3, .int (x3 + (1 : Int32))), (0, .ref (ad 0)), (1, .int x1), (4, .int x4), (5, .int x5)]) hx hb dM_blanks_97 hl rfl rfl (by decide) rfl (fun ls hl => ?_)
                refine lv_goto (tgt := 69) hx hb dM_blanks_100 (by decide) ?_
                exact ih69 x1 (x3 + (1 : Int32)) x4 x5 s6904 ls _ _ (lv_sub hl [1, 2, 0, 3, 4] rfl) hC hf
      have L49 : ∀ (x1 x3 x5 : Int32) (s0 : jS) (ls : Array Slot) (H : Heap) (locs : List Loc), lv_has ls 6 [(0, .ref (ad 0)), (1, .int x1), (3, .int x3), (5, .int x5)] → jcx (dC, dI) vwCl (va_A (wM cI cC ad z0) s.heap.size) s.heap (wM cI cC ad s0) H locs → fM_blanks_49 N k5 x1 x3 x5 s0 = some (r, z1) → W p l e ({ frames := 1, cells := 0, slots := 0, locals := 22 }) s m [.ref (ad 0), .int a0, .int a1].toArray below meth c H locs 0 0 (MQ below (jQi (dC, dI) vwCl [(cI, .int), (cC, .char), (cL, .object "SharedSyntax$Letters")] (wM cI cC ad z0) (wM cI cC ad z1) s.heap.size r) [.ref (ad 0), .int a0, .int a1].toArray s 0 0 (va_A (wM cI cC ad z0) s.heap.size)) (F0 m 49 ls []) := by
        intro x1 x3 x5 s0 ls H locs hl hC hf
        unfold fM_blanks_49 at hf
        refine lv_iconst (v := 1) hx hb dM_blanks_49 (by decide) ?_
        refine lv_goto (tgt := 54) hx hb dM_blanks_50 (by decide) ?_
        refine lv_istore (lv' := [(4, .int (1 : Int32)), (0, .ref (ad 0)), (1, .int x1), (3, .int x3), (5, .int x5)]) hx hb dM_blanks_54 hl (by decide) rfl (fun ls hl => ?_)
        refine lv_iload hx hb dM_blanks_56 (lv_at hl 0 rfl) ?_
        refine lv_if_eq (tgt := 67) hx hb dM_blanks_58 (by decide) (fun c => absurd c (by decide)) (fun _ => ?_)
        refine lv_iload_n hx hb dM_blanks_61 rfl (lv_at hl 3 rfl) ?_
        refine lv_iconst (v := 1) hx hb dM_blanks_62 (by decide) ?_
        refine lv_iadd hx hb dM_blanks_63 ?_
        refine lv_goto (tgt := 68) hx hb dM_blanks_64 (by decide) ?_
        refine lv_istore_n (lv' := [(3, .int (x3 + (1 : Int32))), (4, .int (1 : Int32)), (0, .ref (ad 0)), (1, .int x1), (5, .int x5)]) hx hb dM_blanks_68 rfl hl (by decide) rfl (fun ls hl => ?_)
        exact L69 N x1 (x3 + (1 : Int32)) (1 : Int32) x5 s0 ls _ _ (lv_sub hl [2, 3, 0, 1, 4] rfl) hC hf
      unfold fM_blanks_b5 at hf
      refine lv_iload hx hb dM_blanks_5 (lv_at hl 3 rfl) ?_
      refine lv_if_eq (tgt := 106) hx hb dM_blanks_7 (by decide) (fun c501 => ?_) (fun c501 => ?_)
      · replace hf := jif_t c501 hf
        refine lv_iload_n hx hb dM_blanks_106 rfl (lv_at hl 2 rfl) ?_
        cases hf
        exact jret_i hx hb hr hlk hC hK dM_blanks_107
      · replace hf := jif_f c501 hf
        refine lv_iload_n hx hb dM_blanks_10 rfl (lv_at hl 2 rfl) ?_
        refine lv_aload_n hx hb dM_blanks_11 rfl (lv_at hl 0 rfl) ?_
        refine va_get (D := (dC, dI)) (ci := 6) (v := .ref (ad 2)) (C := RcM) (T := TcM) (N := 43) hx hb ht in_cM hown hK hC.1 0 (wM_e0 cI cC ad s0) rfl 2 (by decide) (ht _ tw762) (fun _ h9 => h9) rfl dM_blanks_12 ?_
        refine lv_iload_n hx hb dM_blanks_15 rfl (lv_at hl 1 rfl) ?_
        obtain ⟨hi502, hf⟩ := jC_in hf
        refine va_iald hx hb hK hC.1 2 0 (wM_e2 cI cC ad s0) rfl hi502 dM_blanks_16 ?_
        refine lv_icmp_ge (tgt := 106) hx hb dM_blanks_17 (by decide) (fun c503 => ?_) (fun c503 => ?_)
        · replace hf := jif_t c503 hf
          refine lv_iload_n hx hb dM_blanks_106 rfl (lv_at hl 2 rfl) ?_
          cases hf
          exact jret_i hx hb hr hlk hC hK dM_blanks_107
        · replace hf := jif_f c503 hf
          refine lv_aload_n hx hb dM_blanks_20 rfl (lv_at hl 0 rfl) ?_
          refine lv_iload_n hx hb dM_blanks_21 rfl (lv_at hl 1 rfl) ?_
          refine lv_iload_n hx hb dM_blanks_22 rfl (lv_at hl 2 rfl) ?_
          obtain ⟨r504, s504, hc504, hf⟩ := jB_some hf
          refine jcall_i (va_runV (C := RcM) (As := [.int x1, .int x3]) (rest := []) ⟨hx, hb, hml, hown, hts⟩ ((cM_look l dC dI cI cC cL sk sv ad N x1 x3 s0 s504 r504 hc504) _) ⟨(callB_of 2 hts (tb_good tw669) rfl rfl rfl (ht _ tw14) (ht _ tw666) (by decide +kernel) ⟨Nat.le_of_ble_eq_true rfl, Nat.le_of_ble_eq_true rfl⟩), ht _ tw668, ht _ (tb_sel pv_M_look)⟩ (jpreV (jEn_ok sk sv) hC hA hK hN (wM_e0 cI cC ad s0) rfl rfl _) rfl rfl hl.1 rfl (lv_room (Nat.le_of_ble_eq_true rfl)) dM_blanks_23 ⟨Nat.le_refl _, Nat.le_refl _⟩) hC hA (fun H locs hC => ?_)
          refine lv_istore (lv' := [(5, .int r504), (0, .ref (ad 0)), (1, .int x1), (3, .int x3), (4, .int x4)]) hx hb dM_blanks_26 hl (by decide) rfl (fun ls hl => ?_)
          refine lv_iload hx hb dM_blanks_28 (lv_at hl 0 rfl) ?_
          refine lv_bipush (v := 32) hx hb dM_blanks_30 (by decide) ?_
          refine lv_icmp_eq (tgt := 49) hx hb dM_blanks_32 (by decide) (fun c505 => ?_) (fun c505 => ?_)
          · replace hf := jif_t c505 hf
            exact L49 x1 x3 r504 s504 ls _ _ (lv_sub hl [1, 2, 3, 0] rfl) hC hf
          · replace hf := jif_f c505 hf
            refine lv_iload hx hb dM_blanks_35 (lv_at hl 0 rfl) ?_
            refine lv_bipush (v := 10) hx hb dM_blanks_37 (by decide) ?_
            refine lv_icmp_eq (tgt := 49) hx hb dM_blanks_39 (by decide) (fun c506 => ?_) (fun c506 => ?_)
            · replace hf := jif_t c506 hf
              exact L49 x1 x3 r504 s504 ls _ _ (lv_sub hl [1, 2, 3, 0] rfl) hC hf
            · replace hf := jif_f c506 hf
              refine lv_iload hx hb dM_blanks_42 (lv_at hl 0 rfl) ?_
              refine lv_bipush (v := 35) hx hb dM_blanks_44 (by decide) ?_
              refine lv_icmp_ne (tgt := 53) hx hb dM_blanks_46 (by decide) (fun c507 => ?_) (fun c507 => ?_)
              · replace hf := jif_f c507 hf
                refine lv_iconst (v := 0) hx hb dM_blanks_53 (by decide) ?_
                refine lv_istore (lv' := [(4, .int (0 : Int32)), (5, .int r504), (0, .ref (ad 0)), (1, .int x1), (3, .int x3)]) hx hb dM_blanks_54 hl (by decide) rfl (fun ls hl => ?_)
                refine lv_iload hx hb dM_blanks_56 (lv_at hl 0 rfl) ?_
                refine lv_if_eq (tgt := 67) hx hb dM_blanks_58 (by decide) (fun _ => ?_) (fun c => absurd (by decide) c)
                refine lv_iload_n hx hb dM_blanks_67 rfl (lv_at hl 4 rfl) ?_
                refine lv_istore_n (lv' := [(3, .int x3), (4, .int (0 : Int32)), (5, .int r504), (0, .ref (ad 0)), (1, .int x1)]) hx hb dM_blanks_68 rfl hl (by decide) rfl (fun ls hl => ?_)
                exact L69 N x1 x3 (0 : Int32) r504 s504 ls _ _ (lv_sub hl [3, 4, 0, 1, 2] rfl) hC hf
              · replace hf := jif_t c507 hf
                exact L49 x1 x3 r504 s504 ls _ _ (lv_sub hl [1, 2, 3, 0] rfl) hC hf
  unfold fM_blanks at hf
  refine lv_iload_n hx hb dM_blanks_0 rfl (lv_at hl 2 rfl) ?_
  refine lv_istore_n (lv' := [(3, .int a1), (0, .ref (ad 0)), (1, .int a0), (2, .int a1)]) hx hb dM_blanks_1 rfl hl (by decide) rfl (fun ls hl => ?_)
  refine lv_iconst (v := 1) hx hb dM_blanks_2 (by decide) ?_
  refine lv_istore (lv' := [(4, .int (1 : Int32)), (3, .int a1), (0, .ref (ad 0)), (1, .int a0), (2, .int a1)]) hx hb dM_blanks_3 hl (by decide) rfl (fun ls hl => ?_)
  exact L5 N a0 a1 (1 : Int32) z0 ls _ _ (lv_sub hl [2, 3, 1, 0] rfl) hC hf

def fM_among (N : Nat) (a0 a1 : Int32) (z0 : jS) : Option (Int32 × jS) := (if a1 = 0 then (if a0 < (97 : Int32) then some ((0 : Int32), z0) else (if (122 : Int32) < a0 then some ((0 : Int32), z0) else some ((1 : Int32), z0))) else (if a0 < (48 : Int32) then some ((0 : Int32), z0) else (if (57 : Int32) < a0 then some ((0 : Int32), z0) else some ((1 : Int32), z0))))
set_option maxHeartbeats 4000000 in
set_option maxRecDepth 100000 in
theorem cM_among (l : Launch) (dC : Nat → ClassId) (dI : Nat → Nat → Nat) (cI cC cL : ClassId) (sk sv : Nat → Nat) (ad : Nat → Nat) (N : Nat) (a0 a1 : Int32) (z0 z1 : jS) (r : Int32) (hf : fM_among N a0 a1 z0 = some (r, z1)) : Ci l yM_among (Cond.code yM_among prog_8_method_4_code 2 (some .boolean) :: TB) ({ frames := 0, cells := 0, slots := 0, locals := 0 }) (dC, dI) vwCl [(cI, .int), (cC, .char), (cL, .object "SharedSyntax$Letters")] (jEn sk sv) [.int a0, .int a1] (wM cI cC ad z0) (wM cI cC ad z1) r := by
  refine Ci_of (cc := prog_8_method_4_code) (maxL := 2) (ret := (some .boolean)) (by decide) rfl (Nat.le_of_ble_eq_true rfl) ?_
  intro p e s m below meth c ls F hl hK hN hC
  obtain ⟨hx, hb, hml, hown, hts, hr, hlk⟩ := F
  have ht : ∀ w ∈ TB, w.before [.int a0, .int a1].toArray s = true := fun w h => hts w (List.mem_cons_of_mem _ h)
  have hA : ∀ q, s.heap.size ≤ q → va_A (wM cI cC ad z0) s.heap.size q := fun q h => Or.inr h
  have hl : lv_has ls 2 [(0, .int a0), (1, .int a1)] := hl
  unfold fM_among at hf
  refine lv_iload_n hx hb dM_among_0 rfl (lv_at hl 1 rfl) ?_
  refine lv_if_eq (tgt := 24) hx hb dM_among_1 (by decide) (fun c1 => ?_) (fun c1 => ?_)
  · replace hf := jif_t c1 hf
    refine lv_iload_n hx hb dM_among_24 rfl (lv_at hl 0 rfl) ?_
    refine lv_bipush (v := 97) hx hb dM_among_25 (by decide) ?_
    refine lv_icmp_lt (tgt := 40) hx hb dM_among_27 (by decide) (fun c2 => ?_) (fun c2 => ?_)
    · replace hf := jif_t c2 hf
      refine lv_iconst (v := 0) hx hb dM_among_40 (by decide) ?_
      cases hf
      exact jret_z hx hb hr (by decide +kernel) hlk hC hK dM_among_41
    · replace hf := jif_f c2 hf
      refine lv_iload_n hx hb dM_among_30 rfl (lv_at hl 0 rfl) ?_
      refine lv_bipush (v := 122) hx hb dM_among_31 (by decide) ?_
      refine lv_icmp_gt (tgt := 40) hx hb dM_among_33 (by decide) (fun c3 => ?_) (fun c3 => ?_)
      · replace hf := jif_t c3 hf
        refine lv_iconst (v := 0) hx hb dM_among_40 (by decide) ?_
        cases hf
        exact jret_z hx hb hr (by decide +kernel) hlk hC hK dM_among_41
      · replace hf := jif_f c3 hf
        refine lv_iconst (v := 1) hx hb dM_among_36 (by decide) ?_
        refine lv_goto (tgt := 41) hx hb dM_among_37 (by decide) ?_
        cases hf
        exact jret_z hx hb hr (by decide +kernel) hlk hC hK dM_among_41
  · replace hf := jif_f c1 hf
    refine lv_iload_n hx hb dM_among_4 rfl (lv_at hl 0 rfl) ?_
    refine lv_bipush (v := 48) hx hb dM_among_5 (by decide) ?_
    refine lv_icmp_lt (tgt := 20) hx hb dM_among_7 (by decide) (fun c4 => ?_) (fun c4 => ?_)
    · replace hf := jif_t c4 hf
      refine lv_iconst (v := 0) hx hb dM_among_20 (by decide) ?_
      refine lv_goto (tgt := 41) hx hb dM_among_21 (by decide) ?_
      cases hf
      exact jret_z hx hb hr (by decide +kernel) hlk hC hK dM_among_41
    · replace hf := jif_f c4 hf
      refine lv_iload_n hx hb dM_among_10 rfl (lv_at hl 0 rfl) ?_
      refine lv_bipush (v := 57) hx hb dM_among_11 (by decide) ?_
      refine lv_icmp_gt (tgt := 20) hx hb dM_among_13 (by decide) (fun c5 => ?_) (fun c5 => ?_)
      · replace hf := jif_t c5 hf
        refine lv_iconst (v := 0) hx hb dM_among_20 (by decide) ?_
        refine lv_goto (tgt := 41) hx hb dM_among_21 (by decide) ?_
        cases hf
        exact jret_z hx hb hr (by decide +kernel) hlk hC hK dM_among_41
      · replace hf := jif_f c5 hf
        refine lv_iconst (v := 1) hx hb dM_among_16 (by decide) ?_
        refine lv_goto (tgt := 41) hx hb dM_among_17 (by decide) ?_
        cases hf
        exact jret_z hx hb hr (by decide +kernel) hlk hC hK dM_among_41

def fM_behind_b46 (N : Nat) (k46 : Int32 → Int32 → Int32 → jS → Option (Int32 × jS)) (x1 x4 x5 : Int32) (s0 : jS) : Option (Int32 × jS) := (if jIn x1 2 = true then (if jgA s0 1 (x1).toNatClampNeg ≤ x5 then some (x5, s0) else (jB (fM_look N x1 x5 s0) fun r4603 s4603 => (if x4 = 0 then (jB (fM_among N r4603 (1 : Int32) s4603) fun r4607 s4607 => (if r4607 = 0 then some (x5, s4607) else k46 x1 x4 (x5 + (1 : Int32)) s4607)) else (jB (fM_among N r4603 (0 : Int32) s4603) fun r4605 s4605 => (if r4605 = 0 then some (x5, s4605) else k46 x1 x4 (x5 + (1 : Int32)) s4605))))) else none)
def fM_behind_46 (N : Nat) : Nat → Int32 → Int32 → Int32 → jS → Option (Int32 × jS)
  | 0 => fun _ _ _ _ => none
  | n + 1 => fun x1 x4 x5 s0 => fM_behind_b46 N (fM_behind_46 N n) x1 x4 x5 s0
def fM_behind (N : Nat) (a0 a1 : Int32) (z0 : jS) : Option (Int32 × jS) := (if jIn a0 2 = true then (if a1 < jgA z0 1 (a0).toNatClampNeg then (jB (fM_look N a0 a1 z0) fun r3 s3 => (jB (fM_among N r3 (0 : Int32) s3) fun r4 s4 => (if r4 = 0 then (jB (fM_among N r3 (1 : Int32) s4) fun r6 s6 => (if r6 = 0 then some ((a1 + (1 : Int32)), s6) else fM_behind_46 N N a0 r4 a1 s6)) else fM_behind_46 N N a0 r4 a1 s4))) else some (a1, z0)) else none)
set_option maxHeartbeats 4000000 in
set_option maxRecDepth 100000 in
theorem cM_behind (l : Launch) (dC : Nat → ClassId) (dI : Nat → Nat → Nat) (cI cC cL : ClassId) (sk sv : Nat → Nat) (ad : Nat → Nat) (N : Nat) (a0 a1 : Int32) (z0 z1 : jS) (r : Int32) (hf : fM_behind N a0 a1 z0 = some (r, z1)) : Ci l yM_behind (Cond.code yM_behind prog_8_method_5_code 6 (some .int) :: TB) ({ frames := 1, cells := 0, slots := 0, locals := 22 }) (dC, dI) vwCl [(cI, .int), (cC, .char), (cL, .object "SharedSyntax$Letters")] (jEn sk sv) [.ref (ad 0), .int a0, .int a1] (wM cI cC ad z0) (wM cI cC ad z1) r := by
  refine Ci_of (cc := prog_8_method_5_code) (maxL := 6) (ret := (some .int)) (by decide) rfl (Nat.le_of_ble_eq_true rfl) ?_
  intro p e s m below meth c ls F hl hK hN hC
  obtain ⟨hx, hb, hml, hown, hts, hr, hlk⟩ := F
  have ht : ∀ w ∈ TB, w.before [.ref (ad 0), .int a0, .int a1].toArray s = true := fun w h => hts w (List.mem_cons_of_mem _ h)
  have hA : ∀ q, s.heap.size ≤ q → va_A (wM cI cC ad z0) s.heap.size q := fun q h => Or.inr h
  have hl : lv_has ls 6 [(0, .ref (ad 0)), (1, .int a0), (2, .int a1)] := hl
  have L46 : ∀ (n : Nat) (x1 x4 x5 : Int32) (s0 : jS) (ls : Array Slot) (H : Heap) (locs : List Loc), lv_has ls 6 [(0, .ref (ad 0)), (1, .int x1), (4, .int x4), (5, .int x5)] → jcx (dC, dI) vwCl (va_A (wM cI cC ad z0) s.heap.size) s.heap (wM cI cC ad s0) H locs → fM_behind_46 N n x1 x4 x5 s0 = some (r, z1) → W p l e ({ frames := 1, cells := 0, slots := 0, locals := 22 }) s m [.ref (ad 0), .int a0, .int a1].toArray below meth c H locs 0 0 (MQ below (jQi (dC, dI) vwCl [(cI, .int), (cC, .char), (cL, .object "SharedSyntax$Letters")] (wM cI cC ad z0) (wM cI cC ad z1) s.heap.size r) [.ref (ad 0), .int a0, .int a1].toArray s 0 0 (va_A (wM cI cC ad z0) s.heap.size)) (F0 m 46 ls []) := by
    intro n
    induction n with
    | zero => exact fun _ _ _ _ _ _ _ _ _ hf => nomatch hf
    | succ n ih46 =>
      intro x1 x4 x5 s0 ls H locs hl hC hf
      replace hf : fM_behind_b46 N (fM_behind_46 N n) x1 x4 x5 s0 = some (r, z1) := hf
      generalize fM_behind_46 N n = k46 at ih46 hf
      unfold fM_behind_b46 at hf
      refine lv_iload hx hb dM_behind_46 (lv_at hl 3 rfl) ?_
      refine lv_aload_n hx hb dM_behind_48 rfl (lv_at hl 0 rfl) ?_
      refine va_get (D := (dC, dI)) (ci := 6) (v := .ref (ad 2)) (C := RcM) (T := TcM) (N := 43) hx hb ht in_cM hown hK hC.1 0 (wM_e0 cI cC ad s0) rfl 2 (by decide) (ht _ tw762) (fun _ h9 => h9) rfl dM_behind_49 ?_
      refine lv_iload_n hx hb dM_behind_52 rfl (lv_at hl 1 rfl) ?_
      obtain ⟨hi4601, hf⟩ := jC_in hf
      refine va_iald hx hb hK hC.1 2 0 (wM_e2 cI cC ad s0) rfl hi4601 dM_behind_53 ?_
      refine lv_icmp_ge (tgt := 86) hx hb dM_behind_54 (by decide) (fun c4602 => ?_) (fun c4602 => ?_)
      · replace hf := jif_t c4602 hf
        refine lv_iload hx hb dM_behind_86 (lv_at hl 3 rfl) ?_
        cases hf
        exact jret_i hx hb hr hlk hC hK dM_behind_88
      · replace hf := jif_f c4602 hf
        refine lv_aload_n hx hb dM_behind_57 rfl (lv_at hl 0 rfl) ?_
        refine lv_iload_n hx hb dM_behind_58 rfl (lv_at hl 1 rfl) ?_
        refine lv_iload hx hb dM_behind_59 (lv_at hl 3 rfl) ?_
        obtain ⟨r4603, s4603, hc4603, hf⟩ := jB_some hf
        refine jcall_i (va_runV (C := RcM) (As := [.int x1, .int x5]) (rest := []) ⟨hx, hb, hml, hown, hts⟩ ((cM_look l dC dI cI cC cL sk sv ad N x1 x5 s0 s4603 r4603 hc4603) _) ⟨(callB_of 2 hts (tb_good tw669) rfl rfl rfl (ht _ tw14) (ht _ tw666) (by decide +kernel) ⟨Nat.le_of_ble_eq_true rfl, Nat.le_of_ble_eq_true rfl⟩), ht _ tw668, ht _ (tb_sel pv_M_look)⟩ (jpreV (jEn_ok sk sv) hC hA hK hN (wM_e0 cI cC ad s0) rfl rfl _) rfl rfl hl.1 rfl (lv_room (Nat.le_of_ble_eq_true rfl)) dM_behind_61 ⟨Nat.le_refl _, Nat.le_refl _⟩) hC hA (fun H locs hC => ?_)
        refine lv_iload hx hb dM_behind_64 (lv_at hl 2 rfl) ?_
        refine lv_if_ne (tgt := 73) hx hb dM_behind_66 (by decide) (fun c4604 => ?_) (fun c4604 => ?_)
        · replace hf := jif_f c4604 hf
          refine lv_iconst (v := 0) hx hb dM_behind_73 (by decide) ?_
          obtain ⟨r4605, s4605, hc4605, hf⟩ := jB_some hf
          refine jcall_i (va_runS (As := [.int r4603, .int (0 : Int32)]) (rest := []) ⟨hx, hb, hml, hown, hts⟩ ((cM_among l dC dI cI cC cL sk sv ad N r4603 (0 : Int32) s4603 s4605 r4605 hc4605) _) ⟨(callB_of 2 hts (tb_good tw676) rfl rfl rfl (ht _ tw14) (ht _ tw674) (by decide +kernel) ⟨Nat.le_of_ble_eq_true rfl, Nat.le_of_ble_eq_true rfl⟩), ht _ tw675⟩ (jpreS (jEn_ok sk sv) hC hA hK hN _) rfl rfl hl.1 rfl (lv_room (Nat.le_of_ble_eq_true rfl)) dM_behind_74 ⟨Nat.le_refl _, Nat.le_refl _⟩) hC hA (fun H locs hC => ?_)
          refine lv_if_eq (tgt := 86) hx hb dM_behind_77 (by decide) (fun c4606 => ?_) (fun c4606 => ?_)
          · replace hf := jif_t c4606 hf
            refine lv_iload hx hb dM_behind_86 (lv_at hl 3 rfl) ?_
            cases hf
            exact jret_i hx hb hr hlk hC hK dM_behind_88
          · replace hf := jif_f c4606 hf
            refine lv_iinc (k := 3) (v := (x5 + (1 : Int32))) (lv' := [(5, .int (x5 + (1 : Int32))), (0, .ref (ad 0)), (1, .int x1), (4, .int x4)]) hx hb dM_behind_80 hl rfl rfl (by decide) rfl (fun ls hl => ?_)
            refine lv_goto (tgt := 46) hx hb dM_behind_83 (by decide) ?_
            exact ih46 x1 x4 (x5 + (1 : Int32)) s4605 ls _ _ (lv_sub hl [1, 2, 3, 0] rfl) hC hf
        · replace hf := jif_t c4604 hf
          refine lv_iconst (v := 1) hx hb dM_behind_69 (by decide) ?_
          refine lv_goto (tgt := 74) hx hb dM_behind_70 (by decide) ?_
          obtain ⟨r4607, s4607, hc4607, hf⟩ := jB_some hf
          refine jcall_i (va_runS (As := [.int r4603, .int (1 : Int32)]) (rest := []) ⟨hx, hb, hml, hown, hts⟩ ((cM_among l dC dI cI cC cL sk sv ad N r4603 (1 : Int32) s4603 s4607 r4607 hc4607) _) ⟨(callB_of 2 hts (tb_good tw676) rfl rfl rfl (ht _ tw14) (ht _ tw674) (by decide +kernel) ⟨Nat.le_of_ble_eq_true rfl, Nat.le_of_ble_eq_true rfl⟩), ht _ tw675⟩ (jpreS (jEn_ok sk sv) hC hA hK hN _) rfl rfl hl.1 rfl (lv_room (Nat.le_of_ble_eq_true rfl)) dM_behind_74 ⟨Nat.le_refl _, Nat.le_refl _⟩) hC hA (fun H locs hC => ?_)
          refine lv_if_eq (tgt := 86) hx hb dM_behind_77 (by decide) (fun c4608 => ?_) (fun c4608 => ?_)
          · replace hf := jif_t c4608 hf
            refine lv_iload hx hb dM_behind_86 (lv_at hl 3 rfl) ?_
            cases hf
            exact jret_i hx hb hr hlk hC hK dM_behind_88
          · replace hf := jif_f c4608 hf
            refine lv_iinc (k := 3) (v := (x5 + (1 : Int32))) (lv' := [(5, .int (x5 + (1 : Int32))), (0, .ref (ad 0)), (1, .int x1), (4, .int x4)]) hx hb dM_behind_80 hl rfl rfl (by decide) rfl (fun ls hl => ?_)
            refine lv_goto (tgt := 46) hx hb dM_behind_83 (by decide) ?_
            exact ih46 x1 x4 (x5 + (1 : Int32)) s4607 ls _ _ (lv_sub hl [1, 2, 3, 0] rfl) hC hf
  unfold fM_behind at hf
  refine lv_iload_n hx hb dM_behind_0 rfl (lv_at hl 2 rfl) ?_
  refine lv_aload_n hx hb dM_behind_1 rfl (lv_at hl 0 rfl) ?_
  refine va_get (D := (dC, dI)) (ci := 6) (v := .ref (ad 2)) (C := RcM) (T := TcM) (N := 43) hx hb ht in_cM hown hK hC.1 0 (wM_e0 cI cC ad z0) rfl 2 (by decide) (ht _ tw762) (fun _ h9 => h9) rfl dM_behind_2 ?_
  refine lv_iload_n hx hb dM_behind_5 rfl (lv_at hl 1 rfl) ?_
  obtain ⟨hi1, hf⟩ := jC_in hf
  refine va_iald hx hb hK hC.1 2 0 (wM_e2 cI cC ad z0) rfl hi1 dM_behind_6 ?_
  refine lv_icmp_lt (tgt := 12) hx hb dM_behind_7 (by decide) (fun c2 => ?_) (fun c2 => ?_)
  · replace hf := jif_t c2 hf
    refine lv_aload_n hx hb dM_behind_12 rfl (lv_at hl 0 rfl) ?_
    refine lv_iload_n hx hb dM_behind_13 rfl (lv_at hl 1 rfl) ?_
    refine lv_iload_n hx hb dM_behind_14 rfl (lv_at hl 2 rfl) ?_
    obtain ⟨r3, s3, hc3, hf⟩ := jB_some hf
    refine jcall_i (va_runV (C := RcM) (As := [.int a0, .int a1]) (rest := []) ⟨hx, hb, hml, hown, hts⟩ ((cM_look l dC dI cI cC cL sk sv ad N a0 a1 z0 s3 r3 hc3) _) ⟨(callB_of 2 hts (tb_good tw669) rfl rfl rfl (ht _ tw14) (ht _ tw666) (by decide +kernel) ⟨Nat.le_of_ble_eq_true rfl, Nat.le_of_ble_eq_true rfl⟩), ht _ tw668, ht _ (tb_sel pv_M_look)⟩ (jpreV (jEn_ok sk sv) hC hA hK hN (wM_e0 cI cC ad z0) rfl rfl _) rfl rfl hl.1 rfl (lv_room (Nat.le_of_ble_eq_true rfl)) dM_behind_15 ⟨Nat.le_refl _, Nat.le_refl _⟩) hC hA (fun H locs hC => ?_)
    refine lv_istore_n (lv' := [(3, .int r3), (0, .ref (ad 0)), (1, .int a0), (2, .int a1)]) hx hb dM_behind_18 rfl hl (by decide) rfl (fun ls hl => ?_)
    refine lv_iload_n hx hb dM_behind_19 rfl (lv_at hl 0 rfl) ?_
    refine lv_iconst (v := 0) hx hb dM_behind_20 (by decide) ?_
    obtain ⟨r4, s4, hc4, hf⟩ := jB_some hf
    refine jcall_i (va_runS (As := [.int r3, .int (0 : Int32)]) (rest := []) ⟨hx, hb, hml, hown, hts⟩ ((cM_among l dC dI cI cC cL sk sv ad N r3 (0 : Int32) s3 s4 r4 hc4) _) ⟨(callB_of 2 hts (tb_good tw676) rfl rfl rfl (ht _ tw14) (ht _ tw674) (by decide +kernel) ⟨Nat.le_of_ble_eq_true rfl, Nat.le_of_ble_eq_true rfl⟩), ht _ tw675⟩ (jpreS (jEn_ok sk sv) hC hA hK hN _) rfl rfl hl.1 rfl (lv_room (Nat.le_of_ble_eq_true rfl)) dM_behind_21 ⟨Nat.le_refl _, Nat.le_refl _⟩) hC hA (fun H locs hC => ?_)
    refine lv_istore (lv' := [(4, .int r4), (3, .int r3), (0, .ref (ad 0)), (1, .int a0), (2, .int a1)]) hx hb dM_behind_24 hl (by decide) rfl (fun ls hl => ?_)
    refine lv_iload hx hb dM_behind_26 (lv_at hl 0 rfl) ?_
    refine lv_if_ne (tgt := 43) hx hb dM_behind_28 (by decide) (fun c5 => ?_) (fun c5 => ?_)
    · replace hf := jif_f c5 hf
      refine lv_iload_n hx hb dM_behind_43 rfl (lv_at hl 4 rfl) ?_
      refine lv_istore (lv' := [(5, .int a1), (4, .int r4), (3, .int r3), (0, .ref (ad 0)), (1, .int a0), (2, .int a1)]) hx hb dM_behind_44 hl (by decide) rfl (fun ls hl => ?_)
      exact L46 N a0 r4 a1 s4 ls _ _ (lv_sub hl [3, 4, 1, 0] rfl) hC hf
    · replace hf := jif_t c5 hf
      refine lv_iload_n hx hb dM_behind_31 rfl (lv_at hl 1 rfl) ?_
      refine lv_iconst (v := 1) hx hb dM_behind_32 (by decide) ?_
      obtain ⟨r6, s6, hc6, hf⟩ := jB_some hf
      refine jcall_i (va_runS (As := [.int r3, .int (1 : Int32)]) (rest := []) ⟨hx, hb, hml, hown, hts⟩ ((cM_among l dC dI cI cC cL sk sv ad N r3 (1 : Int32) s4 s6 r6 hc6) _) ⟨(callB_of 2 hts (tb_good tw676) rfl rfl rfl (ht _ tw14) (ht _ tw674) (by decide +kernel) ⟨Nat.le_of_ble_eq_true rfl, Nat.le_of_ble_eq_true rfl⟩), ht _ tw675⟩ (jpreS (jEn_ok sk sv) hC hA hK hN _) rfl rfl hl.1 rfl (lv_room (Nat.le_of_ble_eq_true rfl)) dM_behind_33 ⟨Nat.le_refl _, Nat.le_refl _⟩) hC hA (fun H locs hC => ?_)
      refine lv_if_ne (tgt := 43) hx hb dM_behind_36 (by decide) (fun c7 => ?_) (fun c7 => ?_)
      · replace hf := jif_f c7 hf
        refine lv_iload_n hx hb dM_behind_43 rfl (lv_at hl 4 rfl) ?_
        refine lv_istore (lv' := [(5, .int a1), (4, .int r4), (3, .int r3), (0, .ref (ad 0)), (1, .int a0), (2, .int a1)]) hx hb dM_behind_44 hl (by decide) rfl (fun ls hl => ?_)
        exact L46 N a0 r4 a1 s6 ls _ _ (lv_sub hl [3, 4, 1, 0] rfl) hC hf
      · replace hf := jif_t c7 hf
        refine lv_iload_n hx hb dM_behind_39 rfl (lv_at hl 4 rfl) ?_
        refine lv_iconst (v := 1) hx hb dM_behind_40 (by decide) ?_
        refine lv_iadd hx hb dM_behind_41 ?_
        cases hf
        exact jret_i hx hb hr hlk hC hK dM_behind_42
  · replace hf := jif_f c2 hf
    refine lv_iload_n hx hb dM_behind_10 rfl (lv_at hl 2 rfl) ?_
    cases hf
    exact jret_i hx hb hr hlk hC hK dM_behind_11

def fM_kindOf_118 (N : Nat) (x1 x2 x3 x4 x5 x6 x7 : Int32) (s0 : jS) : Option (Int32 × jS) := (if (x3 - x2) = (5 : Int32) then (if x4 = (119 : Int32) then (if x5 = (104 : Int32) then (if x6 = (105 : Int32) then (if x7 = (108 : Int32) then (jB (fM_look N x1 (x2 + (4 : Int32)) s0) fun r11806 s11806 => (if r11806 = (101 : Int32) then some ((5 : Int32), s11806) else some ((1 : Int32), s11806))) else some ((1 : Int32), s0)) else some ((1 : Int32), s0)) else some ((1 : Int32), s0)) else some ((1 : Int32), s0)) else some ((1 : Int32), s0))
def fM_kindOf_61 (N : Nat) (x1 x2 x3 x4 x5 : Int32) (s0 : jS) : Option (Int32 × jS) := (jB (fM_look N x1 (x2 + (2 : Int32)) s0) fun r6101 s6101 => (jB (fM_look N x1 (x2 + (3 : Int32)) s6101) fun r6102 s6102 => (if (x3 - x2) = (4 : Int32) then (if x4 = (101 : Int32) then (if x5 = (108 : Int32) then (if r6101 = (115 : Int32) then (if r6102 = (101 : Int32) then some ((4 : Int32), s6102) else fM_kindOf_118 N x1 x2 x3 x4 x5 r6101 r6102 s6102) else fM_kindOf_118 N x1 x2 x3 x4 x5 r6101 r6102 s6102) else fM_kindOf_118 N x1 x2 x3 x4 x5 r6101 r6102 s6102) else fM_kindOf_118 N x1 x2 x3 x4 x5 r6101 r6102 s6102) else fM_kindOf_118 N x1 x2 x3 x4 x5 r6101 r6102 s6102)))
def fM_kindOf (N : Nat) (a0 a1 a2 : Int32) (z0 : jS) : Option (Int32 × jS) := (jB (fM_look N a0 a1 z0) fun r1 s1 => (jB (fM_look N a0 (a1 + (1 : Int32)) s1) fun r2 s2 => (jB (fM_among N r1 (1 : Int32) s2) fun r3 s3 => (if r3 = 0 then (jB (fM_among N r1 (0 : Int32) s3) fun r5 s5 => (if r5 = 0 then (if r1 = (40 : Int32) then some ((9 : Int32), s5) else (if r1 = (41 : Int32) then some ((10 : Int32), s5) else (if r1 = (42 : Int32) then some ((13 : Int32), s5) else (if r1 = (43 : Int32) then some ((11 : Int32), s5) else (if r1 = (45 : Int32) then some ((12 : Int32), s5) else (if r1 = (59 : Int32) then some ((6 : Int32), s5) else (if r1 = (60 : Int32) then some ((14 : Int32), s5) else (if r1 = (61 : Int32) then some ((15 : Int32), s5) else (if r1 = (123 : Int32) then some ((7 : Int32), s5) else (if r1 = (125 : Int32) then some ((8 : Int32), s5) else (if jIn a0 2 = true then (if jgA s5 1 (a0).toNatClampNeg ≤ a1 then some ((17 : Int32), s5) else some ((16 : Int32), s5)) else none))))))))))) else (if (a2 - a1) = (2 : Int32) then (if r1 = (105 : Int32) then (if r2 = (102 : Int32) then some ((3 : Int32), s5) else fM_kindOf_61 N a0 a1 a2 r1 r2 s5) else fM_kindOf_61 N a0 a1 a2 r1 r2 s5) else fM_kindOf_61 N a0 a1 a2 r1 r2 s5))) else some ((2 : Int32), s3)))))
set_option maxHeartbeats 4000000 in
set_option maxRecDepth 100000 in
theorem cM_kindOf (l : Launch) (dC : Nat → ClassId) (dI : Nat → Nat → Nat) (cI cC cL : ClassId) (sk sv : Nat → Nat) (ad : Nat → Nat) (N : Nat) (a0 a1 a2 : Int32) (z0 z1 : jS) (r : Int32) (hf : fM_kindOf N a0 a1 a2 z0 = some (r, z1)) : Ci l yM_kindOf (Cond.code yM_kindOf prog_8_method_6_code 8 (some .int) :: TB) ({ frames := 1, cells := 0, slots := 0, locals := 22 }) (dC, dI) vwCl [(cI, .int), (cC, .char), (cL, .object "SharedSyntax$Letters")] (jEn sk sv) [.ref (ad 0), .int a0, .int a1, .int a2] (wM cI cC ad z0) (wM cI cC ad z1) r := by
  refine Ci_of (cc := prog_8_method_6_code) (maxL := 8) (ret := (some .int)) (by decide) rfl (Nat.le_of_ble_eq_true rfl) ?_
  intro p e s m below meth c ls F hl hK hN hC
  obtain ⟨hx, hb, hml, hown, hts, hr, hlk⟩ := F
  have ht : ∀ w ∈ TB, w.before [.ref (ad 0), .int a0, .int a1, .int a2].toArray s = true := fun w h => hts w (List.mem_cons_of_mem _ h)
  have hA : ∀ q, s.heap.size ≤ q → va_A (wM cI cC ad z0) s.heap.size q := fun q h => Or.inr h
  have hl : lv_has ls 8 [(0, .ref (ad 0)), (1, .int a0), (2, .int a1), (3, .int a2)] := hl
  have L118 : ∀ (x1 x2 x3 x4 x5 x6 x7 : Int32) (s0 : jS) (ls : Array Slot) (H : Heap) (locs : List Loc), lv_has ls 8 [(0, .ref (ad 0)), (1, .int x1), (2, .int x2), (3, .int x3), (4, .int x4), (5, .int x5), (6, .int x6), (7, .int x7)] → jcx (dC, dI) vwCl (va_A (wM cI cC ad z0) s.heap.size) s.heap (wM cI cC ad s0) H locs → fM_kindOf_118 N x1 x2 x3 x4 x5 x6 x7 s0 = some (r, z1) → W p l e ({ frames := 1, cells := 0, slots := 0, locals := 22 }) s m [.ref (ad 0), .int a0, .int a1, .int a2].toArray below meth c H locs 0 0 (MQ below (jQi (dC, dI) vwCl [(cI, .int), (cC, .char), (cL, .object "SharedSyntax$Letters")] (wM cI cC ad z0) (wM cI cC ad z1) s.heap.size r) [.ref (ad 0), .int a0, .int a1, .int a2].toArray s 0 0 (va_A (wM cI cC ad z0) s.heap.size)) (F0 m 118 ls []) := by
    intro x1 x2 x3 x4 x5 x6 x7 s0 ls H locs hl hC hf
    unfold fM_kindOf_118 at hf
    refine lv_iload_n hx hb dM_kindOf_118 rfl (lv_at hl 3 rfl) ?_
    refine lv_iload_n hx hb dM_kindOf_119 rfl (lv_at hl 2 rfl) ?_
    refine lv_isub hx hb dM_kindOf_120 ?_
    refine lv_iconst (v := 5) hx hb dM_kindOf_121 (by decide) ?_
    refine lv_icmp_ne (tgt := 170) hx hb dM_kindOf_122 (by decide) (fun c11801 => ?_) (fun c11801 => ?_)
    · replace hf := jif_f c11801 hf
      refine lv_iconst (v := 1) hx hb dM_kindOf_170 (by decide) ?_
      cases hf
      exact jret_i hx hb hr hlk hC hK dM_kindOf_171
    · replace hf := jif_t c11801 hf
      refine lv_iload hx hb dM_kindOf_125 (lv_at hl 4 rfl) ?_
      refine lv_bipush (v := 119) hx hb dM_kindOf_127 (by decide) ?_
      refine lv_icmp_ne (tgt := 170) hx hb dM_kindOf_129 (by decide) (fun c11802 => ?_) (fun c11802 => ?_)
      · replace hf := jif_f c11802 hf
        refine lv_iconst (v := 1) hx hb dM_kindOf_170 (by decide) ?_
        cases hf
        exact jret_i hx hb hr hlk hC hK dM_kindOf_171
      · replace hf := jif_t c11802 hf
        refine lv_iload hx hb dM_kindOf_132 (lv_at hl 5 rfl) ?_
        refine lv_bipush (v := 104) hx hb dM_kindOf_134 (by decide) ?_
        refine lv_icmp_ne (tgt := 170) hx hb dM_kindOf_136 (by decide) (fun c11803 => ?_) (fun c11803 => ?_)
        · replace hf := jif_f c11803 hf
          refine lv_iconst (v := 1) hx hb dM_kindOf_170 (by decide) ?_
          cases hf
          exact jret_i hx hb hr hlk hC hK dM_kindOf_171
        · replace hf := jif_t c11803 hf
          refine lv_iload hx hb dM_kindOf_139 (lv_at hl 6 rfl) ?_
          refine lv_bipush (v := 105) hx hb dM_kindOf_141 (by decide) ?_
          refine lv_icmp_ne (tgt := 170) hx hb dM_kindOf_143 (by decide) (fun c11804 => ?_) (fun c11804 => ?_)
          · replace hf := jif_f c11804 hf
            refine lv_iconst (v := 1) hx hb dM_kindOf_170 (by decide) ?_
            cases hf
            exact jret_i hx hb hr hlk hC hK dM_kindOf_171
          · replace hf := jif_t c11804 hf
            refine lv_iload hx hb dM_kindOf_146 (lv_at hl 7 rfl) ?_
            refine lv_bipush (v := 108) hx hb dM_kindOf_148 (by decide) ?_
            refine lv_icmp_ne (tgt := 170) hx hb dM_kindOf_150 (by decide) (fun c11805 => ?_) (fun c11805 => ?_)
            · replace hf := jif_f c11805 hf
              refine lv_iconst (v := 1) hx hb dM_kindOf_170 (by decide) ?_
              cases hf
              exact jret_i hx hb hr hlk hC hK dM_kindOf_171
            · replace hf := jif_t c11805 hf
              refine lv_aload_n hx hb dM_kindOf_153 rfl (lv_at hl 0 rfl) ?_
              refine lv_iload_n hx hb dM_kindOf_154 rfl (lv_at hl 1 rfl) ?_
              refine lv_iload_n hx hb dM_kindOf_155 rfl (lv_at hl 2 rfl) ?_
              refine lv_iconst (v := 4) hx hb dM_kindOf_156 (by decide) ?_
              refine lv_iadd hx hb dM_kindOf_157 ?_
              obtain ⟨r11806, s11806, hc11806, hf⟩ := jB_some hf
              refine jcall_i (va_runV (C := RcM) (As := [.int x1, .int (x2 + (4 : Int32))]) (rest := []) ⟨hx, hb, hml, hown, hts⟩ ((cM_look l dC dI cI cC cL sk sv ad N x1 (x2 + (4 : Int32)) s0 s11806 r11806 hc11806) _) ⟨(callB_of 2 hts (tb_good tw669) rfl rfl rfl (ht _ tw14) (ht _ tw666) (by decide +kernel) ⟨Nat.le_of_ble_eq_true rfl, Nat.le_of_ble_eq_true rfl⟩), ht _ tw668, ht _ (tb_sel pv_M_look)⟩ (jpreV (jEn_ok sk sv) hC hA hK hN (wM_e0 cI cC ad s0) rfl rfl _) rfl rfl hl.1 rfl (lv_room (Nat.le_of_ble_eq_true rfl)) dM_kindOf_158 ⟨Nat.le_refl _, Nat.le_refl _⟩) hC hA (fun H locs hC => ?_)
              refine lv_bipush (v := 101) hx hb dM_kindOf_161 (by decide) ?_
              refine lv_icmp_ne (tgt := 170) hx hb dM_kindOf_163 (by decide) (fun c11807 => ?_) (fun c11807 => ?_)
              · replace hf := jif_f c11807 hf
                refine lv_iconst (v := 1) hx hb dM_kindOf_170 (by decide) ?_
                cases hf
                exact jret_i hx hb hr hlk hC hK dM_kindOf_171
              · replace hf := jif_t c11807 hf
                refine lv_iconst (v := 5) hx hb dM_kindOf_166 (by decide) ?_
                refine lv_goto (tgt := 171) hx hb dM_kindOf_167 (by decide) ?_
                cases hf
                exact jret_i hx hb hr hlk hC hK dM_kindOf_171
  have L61 : ∀ (x1 x2 x3 x4 x5 : Int32) (s0 : jS) (ls : Array Slot) (H : Heap) (locs : List Loc), lv_has ls 8 [(0, .ref (ad 0)), (1, .int x1), (2, .int x2), (3, .int x3), (4, .int x4), (5, .int x5)] → jcx (dC, dI) vwCl (va_A (wM cI cC ad z0) s.heap.size) s.heap (wM cI cC ad s0) H locs → fM_kindOf_61 N x1 x2 x3 x4 x5 s0 = some (r, z1) → W p l e ({ frames := 1, cells := 0, slots := 0, locals := 22 }) s m [.ref (ad 0), .int a0, .int a1, .int a2].toArray below meth c H locs 0 0 (MQ below (jQi (dC, dI) vwCl [(cI, .int), (cC, .char), (cL, .object "SharedSyntax$Letters")] (wM cI cC ad z0) (wM cI cC ad z1) s.heap.size r) [.ref (ad 0), .int a0, .int a1, .int a2].toArray s 0 0 (va_A (wM cI cC ad z0) s.heap.size)) (F0 m 61 ls []) := by
    intro x1 x2 x3 x4 x5 s0 ls H locs hl hC hf
    unfold fM_kindOf_61 at hf
    refine lv_aload_n hx hb dM_kindOf_61 rfl (lv_at hl 0 rfl) ?_
    refine lv_iload_n hx hb dM_kindOf_62 rfl (lv_at hl 1 rfl) ?_
    refine lv_iload_n hx hb dM_kindOf_63 rfl (lv_at hl 2 rfl) ?_
    refine lv_iconst (v := 2) hx hb dM_kindOf_64 (by decide) ?_
    refine lv_iadd hx hb dM_kindOf_65 ?_
    obtain ⟨r6101, s6101, hc6101, hf⟩ := jB_some hf
    refine jcall_i (va_runV (C := RcM) (As := [.int x1, .int (x2 + (2 : Int32))]) (rest := []) ⟨hx, hb, hml, hown, hts⟩ ((cM_look l dC dI cI cC cL sk sv ad N x1 (x2 + (2 : Int32)) s0 s6101 r6101 hc6101) _) ⟨(callB_of 2 hts (tb_good tw669) rfl rfl rfl (ht _ tw14) (ht _ tw666) (by decide +kernel) ⟨Nat.le_of_ble_eq_true rfl, Nat.le_of_ble_eq_true rfl⟩), ht _ tw668, ht _ (tb_sel pv_M_look)⟩ (jpreV (jEn_ok sk sv) hC hA hK hN (wM_e0 cI cC ad s0) rfl rfl _) rfl rfl hl.1 rfl (lv_room (Nat.le_of_ble_eq_true rfl)) dM_kindOf_66 ⟨Nat.le_refl _, Nat.le_refl _⟩) hC hA (fun H locs hC => ?_)
    refine lv_istore (lv' := [(6, .int r6101), (0, .ref (ad 0)), (1, .int x1), (2, .int x2), (3, .int x3), (4, .int x4), (5, .int x5)]) hx hb dM_kindOf_69 hl (by decide) rfl (fun ls hl => ?_)
    refine lv_aload_n hx hb dM_kindOf_71 rfl (lv_at hl 1 rfl) ?_
    refine lv_iload_n hx hb dM_kindOf_72 rfl (lv_at hl 2 rfl) ?_
    refine lv_iload_n hx hb dM_kindOf_73 rfl (lv_at hl 3 rfl) ?_
    refine lv_iconst (v := 3) hx hb dM_kindOf_74 (by decide) ?_
    refine lv_iadd hx hb dM_kindOf_75 ?_
    obtain ⟨r6102, s6102, hc6102, hf⟩ := jB_some hf
    refine jcall_i (va_runV (C := RcM) (As := [.int x1, .int (x2 + (3 : Int32))]) (rest := []) ⟨hx, hb, hml, hown, hts⟩ ((cM_look l dC dI cI cC cL sk sv ad N x1 (x2 + (3 : Int32)) s6101 s6102 r6102 hc6102) _) ⟨(callB_of 2 hts (tb_good tw669) rfl rfl rfl (ht _ tw14) (ht _ tw666) (by decide +kernel) ⟨Nat.le_of_ble_eq_true rfl, Nat.le_of_ble_eq_true rfl⟩), ht _ tw668, ht _ (tb_sel pv_M_look)⟩ (jpreV (jEn_ok sk sv) hC hA hK hN (wM_e0 cI cC ad s6101) rfl rfl _) rfl rfl hl.1 rfl (lv_room (Nat.le_of_ble_eq_true rfl)) dM_kindOf_76 ⟨Nat.le_refl _, Nat.le_refl _⟩) hC hA (fun H locs hC => ?_)
    refine lv_istore (lv' := [(7, .int r6102), (6, .int r6101), (0, .ref (ad 0)), (1, .int x1), (2, .int x2), (3, .int x3), (4, .int x4), (5, .int x5)]) hx hb dM_kindOf_79 hl (by decide) rfl (fun ls hl => ?_)
    refine lv_iload_n hx hb dM_kindOf_81 rfl (lv_at hl 5 rfl) ?_
    refine lv_iload_n hx hb dM_kindOf_82 rfl (lv_at hl 4 rfl) ?_
    refine lv_isub hx hb dM_kindOf_83 ?_
    refine lv_iconst (v := 4) hx hb dM_kindOf_84 (by decide) ?_
    refine lv_icmp_ne (tgt := 118) hx hb dM_kindOf_85 (by decide) (fun c6103 => ?_) (fun c6103 => ?_)
    · replace hf := jif_f c6103 hf
      exact L118 x1 x2 x3 x4 x5 r6101 r6102 s6102 ls _ _ (lv_sub hl [2, 3, 4, 5, 6, 7, 1, 0] rfl) hC hf
    · replace hf := jif_t c6103 hf
      refine lv_iload hx hb dM_kindOf_88 (lv_at hl 6 rfl) ?_
      refine lv_bipush (v := 101) hx hb dM_kindOf_90 (by decide) ?_
      refine lv_icmp_ne (tgt := 118) hx hb dM_kindOf_92 (by decide) (fun c6104 => ?_) (fun c6104 => ?_)
      · replace hf := jif_f c6104 hf
        exact L118 x1 x2 x3 x4 x5 r6101 r6102 s6102 ls _ _ (lv_sub hl [2, 3, 4, 5, 6, 7, 1, 0] rfl) hC hf
      · replace hf := jif_t c6104 hf
        refine lv_iload hx hb dM_kindOf_95 (lv_at hl 7 rfl) ?_
        refine lv_bipush (v := 108) hx hb dM_kindOf_97 (by decide) ?_
        refine lv_icmp_ne (tgt := 118) hx hb dM_kindOf_99 (by decide) (fun c6105 => ?_) (fun c6105 => ?_)
        · replace hf := jif_f c6105 hf
          exact L118 x1 x2 x3 x4 x5 r6101 r6102 s6102 ls _ _ (lv_sub hl [2, 3, 4, 5, 6, 7, 1, 0] rfl) hC hf
        · replace hf := jif_t c6105 hf
          refine lv_iload hx hb dM_kindOf_102 (lv_at hl 1 rfl) ?_
          refine lv_bipush (v := 115) hx hb dM_kindOf_104 (by decide) ?_
          refine lv_icmp_ne (tgt := 118) hx hb dM_kindOf_106 (by decide) (fun c6106 => ?_) (fun c6106 => ?_)
          · replace hf := jif_f c6106 hf
            exact L118 x1 x2 x3 x4 x5 r6101 r6102 s6102 ls _ _ (lv_sub hl [2, 3, 4, 5, 6, 7, 1, 0] rfl) hC hf
          · replace hf := jif_t c6106 hf
            refine lv_iload hx hb dM_kindOf_109 (lv_at hl 0 rfl) ?_
            refine lv_bipush (v := 101) hx hb dM_kindOf_111 (by decide) ?_
            refine lv_icmp_ne (tgt := 118) hx hb dM_kindOf_113 (by decide) (fun c6107 => ?_) (fun c6107 => ?_)
            · replace hf := jif_f c6107 hf
              exact L118 x1 x2 x3 x4 x5 r6101 r6102 s6102 ls _ _ (lv_sub hl [2, 3, 4, 5, 6, 7, 1, 0] rfl) hC hf
            · replace hf := jif_t c6107 hf
              refine lv_iconst (v := 4) hx hb dM_kindOf_116 (by decide) ?_
              cases hf
              exact jret_i hx hb hr hlk hC hK dM_kindOf_117
  unfold fM_kindOf at hf
  refine lv_aload_n hx hb dM_kindOf_0 rfl (lv_at hl 0 rfl) ?_
  refine lv_iload_n hx hb dM_kindOf_1 rfl (lv_at hl 1 rfl) ?_
  refine lv_iload_n hx hb dM_kindOf_2 rfl (lv_at hl 2 rfl) ?_
  obtain ⟨r1, s1, hc1, hf⟩ := jB_some hf
  refine jcall_i (va_runV (C := RcM) (As := [.int a0, .int a1]) (rest := []) ⟨hx, hb, hml, hown, hts⟩ ((cM_look l dC dI cI cC cL sk sv ad N a0 a1 z0 s1 r1 hc1) _) ⟨(callB_of 2 hts (tb_good tw669) rfl rfl rfl (ht _ tw14) (ht _ tw666) (by decide +kernel) ⟨Nat.le_of_ble_eq_true rfl, Nat.le_of_ble_eq_true rfl⟩), ht _ tw668, ht _ (tb_sel pv_M_look)⟩ (jpreV (jEn_ok sk sv) hC hA hK hN (wM_e0 cI cC ad z0) rfl rfl _) rfl rfl hl.1 rfl (lv_room (Nat.le_of_ble_eq_true rfl)) dM_kindOf_3 ⟨Nat.le_refl _, Nat.le_refl _⟩) hC hA (fun H locs hC => ?_)
  refine lv_istore (lv' := [(4, .int r1), (0, .ref (ad 0)), (1, .int a0), (2, .int a1), (3, .int a2)]) hx hb dM_kindOf_6 hl (by decide) rfl (fun ls hl => ?_)
  refine lv_aload_n hx hb dM_kindOf_8 rfl (lv_at hl 1 rfl) ?_
  refine lv_iload_n hx hb dM_kindOf_9 rfl (lv_at hl 2 rfl) ?_
  refine lv_iload_n hx hb dM_kindOf_10 rfl (lv_at hl 3 rfl) ?_
  refine lv_iconst (v := 1) hx hb dM_kindOf_11 (by decide) ?_
  refine lv_iadd hx hb dM_kindOf_12 ?_
  obtain ⟨r2, s2, hc2, hf⟩ := jB_some hf
  refine jcall_i (va_runV (C := RcM) (As := [.int a0, .int (a1 + (1 : Int32))]) (rest := []) ⟨hx, hb, hml, hown, hts⟩ ((cM_look l dC dI cI cC cL sk sv ad N a0 (a1 + (1 : Int32)) s1 s2 r2 hc2) _) ⟨(callB_of 2 hts (tb_good tw669) rfl rfl rfl (ht _ tw14) (ht _ tw666) (by decide +kernel) ⟨Nat.le_of_ble_eq_true rfl, Nat.le_of_ble_eq_true rfl⟩), ht _ tw668, ht _ (tb_sel pv_M_look)⟩ (jpreV (jEn_ok sk sv) hC hA hK hN (wM_e0 cI cC ad s1) rfl rfl _) rfl rfl hl.1 rfl (lv_room (Nat.le_of_ble_eq_true rfl)) dM_kindOf_13 ⟨Nat.le_refl _, Nat.le_refl _⟩) hC hA (fun H locs hC => ?_)
  refine lv_istore (lv' := [(5, .int r2), (4, .int r1), (0, .ref (ad 0)), (1, .int a0), (2, .int a1), (3, .int a2)]) hx hb dM_kindOf_16 hl (by decide) rfl (fun ls hl => ?_)
  refine lv_iload hx hb dM_kindOf_18 (lv_at hl 1 rfl) ?_
  refine lv_iconst (v := 1) hx hb dM_kindOf_20 (by decide) ?_
  obtain ⟨r3, s3, hc3, hf⟩ := jB_some hf
  refine jcall_i (va_runS (As := [.int r1, .int (1 : Int32)]) (rest := []) ⟨hx, hb, hml, hown, hts⟩ ((cM_among l dC dI cI cC cL sk sv ad N r1 (1 : Int32) s2 s3 r3 hc3) _) ⟨(callB_of 2 hts (tb_good tw676) rfl rfl rfl (ht _ tw14) (ht _ tw674) (by decide +kernel) ⟨Nat.le_of_ble_eq_true rfl, Nat.le_of_ble_eq_true rfl⟩), ht _ tw675⟩ (jpreS (jEn_ok sk sv) hC hA hK hN _) rfl rfl hl.1 rfl (lv_room (Nat.le_of_ble_eq_true rfl)) dM_kindOf_21 ⟨Nat.le_refl _, Nat.le_refl _⟩) hC hA (fun H locs hC => ?_)
  refine lv_if_eq (tgt := 29) hx hb dM_kindOf_24 (by decide) (fun c4 => ?_) (fun c4 => ?_)
  · replace hf := jif_t c4 hf
    refine lv_iload hx hb dM_kindOf_29 (lv_at hl 1 rfl) ?_
    refine lv_iconst (v := 0) hx hb dM_kindOf_31 (by decide) ?_
    obtain ⟨r5, s5, hc5, hf⟩ := jB_some hf
    refine jcall_i (va_runS (As := [.int r1, .int (0 : Int32)]) (rest := []) ⟨hx, hb, hml, hown, hts⟩ ((cM_among l dC dI cI cC cL sk sv ad N r1 (0 : Int32) s3 s5 r5 hc5) _) ⟨(callB_of 2 hts (tb_good tw676) rfl rfl rfl (ht _ tw14) (ht _ tw674) (by decide +kernel) ⟨Nat.le_of_ble_eq_true rfl, Nat.le_of_ble_eq_true rfl⟩), ht _ tw675⟩ (jpreS (jEn_ok sk sv) hC hA hK hN _) rfl rfl hl.1 rfl (lv_room (Nat.le_of_ble_eq_true rfl)) dM_kindOf_32 ⟨Nat.le_refl _, Nat.le_refl _⟩) hC hA (fun H locs hC => ?_)
    refine lv_if_eq (tgt := 172) hx hb dM_kindOf_35 (by decide) (fun c6 => ?_) (fun c6 => ?_)
    · replace hf := jif_t c6 hf
      refine lv_iload hx hb dM_kindOf_172 (lv_at hl 1 rfl) ?_
      by_cases w40 : r1 = (40 : Int32)
      · replace hf := jif_t w40 hf
        refine lv_lookup (tgt := 273) (off := 99) hx hb dM_kindOf_174 (by decide) (by rw [w40] <;> rfl) (by decide) ?_
        refine lv_bipush (v := 9) hx hb dM_kindOf_273 (by decide) ?_
        cases hf
        exact jret_i hx hb hr hlk hC hK dM_kindOf_275
      · replace hf := jif_f w40 hf
        by_cases w41 : r1 = (41 : Int32)
        · replace hf := jif_t w41 hf
          refine lv_lookup (tgt := 276) (off := 102) hx hb dM_kindOf_174 (by decide) (by rw [w41] <;> rfl) (by decide) ?_
          refine lv_bipush (v := 10) hx hb dM_kindOf_276 (by decide) ?_
          cases hf
          exact jret_i hx hb hr hlk hC hK dM_kindOf_278
        · replace hf := jif_f w41 hf
          by_cases w42 : r1 = (42 : Int32)
          · replace hf := jif_t w42 hf
            refine lv_lookup (tgt := 285) (off := 111) hx hb dM_kindOf_174 (by decide) (by rw [w42] <;> rfl) (by decide) ?_
            refine lv_bipush (v := 13) hx hb dM_kindOf_285 (by decide) ?_
            cases hf
            exact jret_i hx hb hr hlk hC hK dM_kindOf_287
          · replace hf := jif_f w42 hf
            by_cases w43 : r1 = (43 : Int32)
            · replace hf := jif_t w43 hf
              refine lv_lookup (tgt := 279) (off := 105) hx hb dM_kindOf_174 (by decide) (by rw [w43] <;> rfl) (by decide) ?_
              refine lv_bipush (v := 11) hx hb dM_kindOf_279 (by decide) ?_
              cases hf
              exact jret_i hx hb hr hlk hC hK dM_kindOf_281
            · replace hf := jif_f w43 hf
              by_cases w45 : r1 = (45 : Int32)
              · replace hf := jif_t w45 hf
                refine lv_lookup (tgt := 282) (off := 108) hx hb dM_kindOf_174 (by decide) (by rw [w45] <;> rfl) (by decide) ?_
                refine lv_bipush (v := 12) hx hb dM_kindOf_282 (by decide) ?_
                cases hf
                exact jret_i hx hb hr hlk hC hK dM_kindOf_284
              · replace hf := jif_f w45 hf
                by_cases w59 : r1 = (59 : Int32)
                · replace hf := jif_t w59 hf
                  refine lv_lookup (tgt := 264) (off := 90) hx hb dM_kindOf_174 (by decide) (by rw [w59] <;> rfl) (by decide) ?_
                  refine lv_bipush (v := 6) hx hb dM_kindOf_264 (by decide) ?_
                  cases hf
                  exact jret_i hx hb hr hlk hC hK dM_kindOf_266
                · replace hf := jif_f w59 hf
                  by_cases w60 : r1 = (60 : Int32)
                  · replace hf := jif_t w60 hf
                    refine lv_lookup (tgt := 288) (off := 114) hx hb dM_kindOf_174 (by decide) (by rw [w60] <;> rfl) (by decide) ?_
                    refine lv_bipush (v := 14) hx hb dM_kindOf_288 (by decide) ?_
                    cases hf
                    exact jret_i hx hb hr hlk hC hK dM_kindOf_290
                  · replace hf := jif_f w60 hf
                    by_cases w61 : r1 = (61 : Int32)
                    · replace hf := jif_t w61 hf
                      refine lv_lookup (tgt := 291) (off := 117) hx hb dM_kindOf_174 (by decide) (by rw [w61] <;> rfl) (by decide) ?_
                      refine lv_bipush (v := 15) hx hb dM_kindOf_291 (by decide) ?_
                      cases hf
                      exact jret_i hx hb hr hlk hC hK dM_kindOf_293
                    · replace hf := jif_f w61 hf
                      by_cases w123 : r1 = (123 : Int32)
                      · replace hf := jif_t w123 hf
                        refine lv_lookup (tgt := 267) (off := 93) hx hb dM_kindOf_174 (by decide) (by rw [w123] <;> rfl) (by decide) ?_
                        refine lv_bipush (v := 7) hx hb dM_kindOf_267 (by decide) ?_
                        cases hf
                        exact jret_i hx hb hr hlk hC hK dM_kindOf_269
                      · replace hf := jif_f w123 hf
                        by_cases w125 : r1 = (125 : Int32)
                        · replace hf := jif_t w125 hf
                          refine lv_lookup (tgt := 270) (off := 96) hx hb dM_kindOf_174 (by decide) (by rw [w125] <;> rfl) (by decide) ?_
                          refine lv_bipush (v := 8) hx hb dM_kindOf_270 (by decide) ?_
                          cases hf
                          exact jret_i hx hb hr hlk hC hK dM_kindOf_272
                        · replace hf := jif_f w125 hf
                          refine lv_lookup (tgt := 294) (off := 120) hx hb dM_kindOf_174 (by decide) (by show Op.lookupswitch.offset _ _ _ = _; rw [lv_osw w40 (by decide), lv_osw w41 (by decide), lv_osw w42 (by decide), lv_osw w43 (by decide), lv_osw w45 (by decide), lv_osw w59 (by decide), lv_osw w60 (by decide), lv_osw w61 (by decide), lv_osw w123 (by decide), lv_osw w125 (by decide)] <;> rfl) (by decide) ?_
                          refine lv_iload_n hx hb dM_kindOf_294 rfl (lv_at hl 4 rfl) ?_
                          refine lv_aload_n hx hb dM_kindOf_295 rfl (lv_at hl 2 rfl) ?_
                          refine va_get (D := (dC, dI)) (ci := 6) (v := .ref (ad 2)) (C := RcM) (T := TcM) (N := 43) hx hb ht in_cM hown hK hC.1 0 (wM_e0 cI cC ad s5) rfl 2 (by decide) (ht _ tw762) (fun _ h9 => h9) rfl dM_kindOf_296 ?_
                          refine lv_iload_n hx hb dM_kindOf_299 rfl (lv_at hl 3 rfl) ?_
                          obtain ⟨hi7, hf⟩ := jC_in hf
                          refine va_iald hx hb hK hC.1 2 0 (wM_e2 cI cC ad s5) rfl hi7 dM_kindOf_300 ?_
                          refine lv_icmp_ge (tgt := 309) hx hb dM_kindOf_301 (by decide) (fun c8 => ?_) (fun c8 => ?_)
                          · replace hf := jif_t c8 hf
                            refine lv_bipush (v := 17) hx hb dM_kindOf_309 (by decide) ?_
                            cases hf
                            exact jret_i hx hb hr hlk hC hK dM_kindOf_311
                          · replace hf := jif_f c8 hf
                            refine lv_bipush (v := 16) hx hb dM_kindOf_304 (by decide) ?_
                            refine lv_goto (tgt := 311) hx hb dM_kindOf_306 (by decide) ?_
                            cases hf
                            exact jret_i hx hb hr hlk hC hK dM_kindOf_311
    · replace hf := jif_f c6 hf
      refine lv_iload_n hx hb dM_kindOf_38 rfl (lv_at hl 5 rfl) ?_
      refine lv_iload_n hx hb dM_kindOf_39 rfl (lv_at hl 4 rfl) ?_
      refine lv_isub hx hb dM_kindOf_40 ?_
      refine lv_iconst (v := 2) hx hb dM_kindOf_41 (by decide) ?_
      refine lv_icmp_ne (tgt := 61) hx hb dM_kindOf_42 (by decide) (fun c9 => ?_) (fun c9 => ?_)
      · replace hf := jif_f c9 hf
        exact L61 a0 a1 a2 r1 r2 s5 ls _ _ (lv_sub hl [2, 3, 4, 5, 1, 0] rfl) hC hf
      · replace hf := jif_t c9 hf
        refine lv_iload hx hb dM_kindOf_45 (lv_at hl 1 rfl) ?_
        refine lv_bipush (v := 105) hx hb dM_kindOf_47 (by decide) ?_
        refine lv_icmp_ne (tgt := 61) hx hb dM_kindOf_49 (by decide) (fun c10 => ?_) (fun c10 => ?_)
        · replace hf := jif_f c10 hf
          exact L61 a0 a1 a2 r1 r2 s5 ls _ _ (lv_sub hl [2, 3, 4, 5, 1, 0] rfl) hC hf
        · replace hf := jif_t c10 hf
          refine lv_iload hx hb dM_kindOf_52 (lv_at hl 0 rfl) ?_
          refine lv_bipush (v := 102) hx hb dM_kindOf_54 (by decide) ?_
          refine lv_icmp_ne (tgt := 61) hx hb dM_kindOf_56 (by decide) (fun c11 => ?_) (fun c11 => ?_)
          · replace hf := jif_f c11 hf
            exact L61 a0 a1 a2 r1 r2 s5 ls _ _ (lv_sub hl [2, 3, 4, 5, 1, 0] rfl) hC hf
          · replace hf := jif_t c11 hf
            refine lv_iconst (v := 3) hx hb dM_kindOf_59 (by decide) ?_
            cases hf
            exact jret_i hx hb hr hlk hC hK dM_kindOf_60
  · replace hf := jif_f c4 hf
    refine lv_iconst (v := 2) hx hb dM_kindOf_27 (by decide) ?_
    cases hf
    exact jret_i hx hb hr hlk hC hK dM_kindOf_28

def fM_cut_b9 (N : Nat) (k9 : Int32 → Int32 → Int32 → jS → Option (Int32 × jS)) (x1 x2 x3 : Int32) (s0 : jS) : Option (Int32 × jS) := (if x3 = (17 : Int32) then some (0, s0) else (jB (fM_blanks N x1 x2 s0) fun r902 s902 => (jB (fM_behind N x1 r902 s902) fun r903 s903 => (jB (fM_kindOf N x1 r902 r903 s903) fun r904 s904 => (if jIn (jgI s904 5) 61 = true then (jL (jsA s904 15 (jgI s904 5).toNatClampNeg r904) fun s905 => (if jIn (jgI s905 5) 61 = true then (jL (jsA s905 16 (jgI s905 5).toNatClampNeg r902) fun s906 => (if jIn (jgI s906 5) 61 = true then (jL (jsA s906 17 (jgI s906 5).toNatClampNeg r903) fun s907 => (jL (jsI s907 5 (jgI s907 5 + (1 : Int32))) fun s908 => k9 x1 r903 r904 s908)) else none)) else none)) else none)))))
def fM_cut_9 (N : Nat) : Nat → Int32 → Int32 → Int32 → jS → Option (Int32 × jS)
  | 0 => fun _ _ _ _ => none
  | n + 1 => fun x1 x2 x3 s0 => fM_cut_b9 N (fM_cut_9 N n) x1 x2 x3 s0
def fM_cut (N : Nat) (a0 : Int32) (z0 : jS) : Option (Int32 × jS) := (jL (jsI z0 5 (0 : Int32)) fun s1 => fM_cut_9 N N a0 (0 : Int32) (0 : Int32) s1)
set_option maxHeartbeats 4000000 in
set_option maxRecDepth 100000 in
theorem cM_cut (l : Launch) (dC : Nat → ClassId) (dI : Nat → Nat → Nat) (cI cC cL : ClassId) (sk sv : Nat → Nat) (ad : Nat → Nat) (N : Nat) (a0 : Int32) (z0 z1 : jS) (r : Int32) (hf : fM_cut N a0 z0 = some (r, z1)) : Cv l yM_cut (Cond.code yM_cut prog_8_method_7_code 5 none :: TB) ({ frames := 2, cells := 0, slots := 0, locals := 49 }) (dC, dI) vwCl [(cI, .int), (cC, .char), (cL, .object "SharedSyntax$Letters")] (jEn sk sv) [.ref (ad 0), .int a0] (wM cI cC ad z0) (wM cI cC ad z1) := by
  refine Cv_of (cc := prog_8_method_7_code) (maxL := 5) (ret := none) (by decide) rfl (Nat.le_of_ble_eq_true rfl) ?_
  intro p e s m below meth c ls F hl hK hN hC
  obtain ⟨hx, hb, hml, hown, hts, hr, hlk⟩ := F
  have ht : ∀ w ∈ TB, w.before [.ref (ad 0), .int a0].toArray s = true := fun w h => hts w (List.mem_cons_of_mem _ h)
  have hA : ∀ q, s.heap.size ≤ q → va_A (wM cI cC ad z0) s.heap.size q := fun q h => Or.inr h
  have hl : lv_has ls 5 [(0, .ref (ad 0)), (1, .int a0)] := hl
  have L9 : ∀ (n : Nat) (x1 x2 x3 : Int32) (s0 : jS) (ls : Array Slot) (H : Heap) (locs : List Loc), lv_has ls 5 [(0, .ref (ad 0)), (1, .int x1), (2, .int x2), (3, .int x3)] → jcx (dC, dI) vwCl (va_A (wM cI cC ad z0) s.heap.size) s.heap (wM cI cC ad s0) H locs → fM_cut_9 N n x1 x2 x3 s0 = some (r, z1) → W p l e ({ frames := 2, cells := 0, slots := 0, locals := 49 }) s m [.ref (ad 0), .int a0].toArray below meth c H locs 0 0 (MQ below (jQv (dC, dI) vwCl [(cI, .int), (cC, .char), (cL, .object "SharedSyntax$Letters")] (wM cI cC ad z0) (wM cI cC ad z1) s.heap.size) [.ref (ad 0), .int a0].toArray s 0 0 (va_A (wM cI cC ad z0) s.heap.size)) (F0 m 9 ls []) := by
    intro n
    induction n with
    | zero => exact fun _ _ _ _ _ _ _ _ _ hf => nomatch hf
    | succ n ih9 =>
      intro x1 x2 x3 s0 ls H locs hl hC hf
      replace hf : fM_cut_b9 N (fM_cut_9 N n) x1 x2 x3 s0 = some (r, z1) := hf
      generalize fM_cut_9 N n = k9 at ih9 hf
      unfold fM_cut_b9 at hf
      refine lv_iload_n hx hb dM_cut_9 rfl (lv_at hl 3 rfl) ?_
      refine lv_bipush (v := 17) hx hb dM_cut_10 (by decide) ?_
      refine lv_icmp_eq (tgt := 86) hx hb dM_cut_12 (by decide) (fun c901 => ?_) (fun c901 => ?_)
      · replace hf := jif_t c901 hf
        cases hf
        exact jret_v hx hb hr hlk hC hK dM_cut_86
      · replace hf := jif_f c901 hf
        refine lv_aload_n hx hb dM_cut_15 rfl (lv_at hl 0 rfl) ?_
        refine lv_iload_n hx hb dM_cut_16 rfl (lv_at hl 1 rfl) ?_
        refine lv_iload_n hx hb dM_cut_17 rfl (lv_at hl 2 rfl) ?_
        obtain ⟨r902, s902, hc902, hf⟩ := jB_some hf
        refine jcall_i (va_runV (C := RcM) (As := [.int x1, .int x2]) (rest := []) ⟨hx, hb, hml, hown, hts⟩ ((cM_blanks l dC dI cI cC cL sk sv ad N x1 x2 s0 s902 r902 hc902) _) ⟨(callB_of 2 hts (tb_good tw665) rfl rfl rfl (ht _ tw14) (ht _ tw662) (by decide +kernel) ⟨Nat.le_of_ble_eq_true rfl, Nat.le_of_ble_eq_true rfl⟩), ht _ tw664, ht _ (tb_sel pv_M_blanks)⟩ (jpreV (jEn_ok sk sv) hC hA hK hN (wM_e0 cI cC ad s0) rfl rfl _) rfl rfl hl.1 rfl (lv_room (Nat.le_of_ble_eq_true rfl)) dM_cut_18 ⟨Nat.le_refl _, Nat.le_refl _⟩) hC hA (fun H locs hC => ?_)
        refine lv_istore_n (lv' := [(2, .int r902), (0, .ref (ad 0)), (1, .int x1), (3, .int x3)]) hx hb dM_cut_21 rfl hl (by decide) rfl (fun ls hl => ?_)
        refine lv_aload_n hx hb dM_cut_22 rfl (lv_at hl 1 rfl) ?_
        refine lv_iload_n hx hb dM_cut_23 rfl (lv_at hl 2 rfl) ?_
        refine lv_iload_n hx hb dM_cut_24 rfl (lv_at hl 0 rfl) ?_
        obtain ⟨r903, s903, hc903, hf⟩ := jB_some hf
        refine jcall_i (va_runV (C := RcM) (As := [.int x1, .int r902]) (rest := []) ⟨hx, hb, hml, hown, hts⟩ ((cM_behind l dC dI cI cC cL sk sv ad N x1 r902 s902 s903 r903 hc903) _) ⟨(callB_of 2 hts (tb_good tw673) rfl rfl rfl (ht _ tw14) (ht _ tw670) (by decide +kernel) ⟨Nat.le_of_ble_eq_true rfl, Nat.le_of_ble_eq_true rfl⟩), ht _ tw672, ht _ (tb_sel pv_M_behind)⟩ (jpreV (jEn_ok sk sv) hC hA hK hN (wM_e0 cI cC ad s902) rfl rfl _) rfl rfl hl.1 rfl (lv_room (Nat.le_of_ble_eq_true rfl)) dM_cut_25 ⟨Nat.le_refl _, Nat.le_refl _⟩) hC hA (fun H locs hC => ?_)
        refine lv_istore (lv' := [(4, .int r903), (2, .int r902), (0, .ref (ad 0)), (1, .int x1), (3, .int x3)]) hx hb dM_cut_28 hl (by decide) rfl (fun ls hl => ?_)
        refine lv_aload_n hx hb dM_cut_30 rfl (lv_at hl 2 rfl) ?_
        refine lv_iload_n hx hb dM_cut_31 rfl (lv_at hl 3 rfl) ?_
        refine lv_iload_n hx hb dM_cut_32 rfl (lv_at hl 1 rfl) ?_
        refine lv_iload hx hb dM_cut_33 (lv_at hl 0 rfl) ?_
        obtain ⟨r904, s904, hc904, hf⟩ := jB_some hf
        refine jcall_i (va_runV (C := RcM) (As := [.int x1, .int r902, .int r903]) (rest := []) ⟨hx, hb, hml, hown, hts⟩ ((cM_kindOf l dC dI cI cC cL sk sv ad N x1 r902 r903 s903 s904 r904 hc904) _) ⟨(callB_of 3 hts (tb_good tw680) rfl rfl rfl (ht _ tw14) (ht _ tw677) (by decide +kernel) ⟨Nat.le_of_ble_eq_true rfl, Nat.le_of_ble_eq_true rfl⟩), ht _ tw679, ht _ (tb_sel pv_M_kindOf)⟩ (jpreV (jEn_ok sk sv) hC hA hK hN (wM_e0 cI cC ad s903) rfl rfl _) rfl rfl hl.1 rfl (lv_room (Nat.le_of_ble_eq_true rfl)) dM_cut_35 ⟨Nat.le_refl _, Nat.le_refl _⟩) hC hA (fun H locs hC => ?_)
        refine lv_istore_n (lv' := [(3, .int r904), (4, .int r903), (2, .int r902), (0, .ref (ad 0)), (1, .int x1)]) hx hb dM_cut_38 rfl hl (by decide) rfl (fun ls hl => ?_)
        refine lv_aload_n hx hb dM_cut_39 rfl (lv_at hl 3 rfl) ?_
        refine va_get (D := (dC, dI)) (ci := 6) (v := .ref (ad 16)) (C := RcM) (T := TcM) (N := 43) hx hb ht in_cM hown hK hC.1 0 (wM_e0 cI cC ad s904) rfl 21 (by decide) (ht _ tw781) (fun _ h9 => h9) rfl dM_cut_40 ?_
        refine lv_aload_n hx hb dM_cut_43 rfl (lv_at hl 3 rfl) ?_
        refine va_get (D := (dC, dI)) (ci := 6) (v := .int (jgI s904 5)) (C := RcM) (T := TcM) (N := 43) hx hb ht in_cM hown hK hC.1 0 (wM_e0 cI cC ad s904) rfl 20 (by decide) (ht _ tw780) (fun _ h9 => h9) rfl dM_cut_44 ?_
        refine lv_iload_n hx hb dM_cut_47 rfl (lv_at hl 0 rfl) ?_
        obtain ⟨hi905, hf⟩ := jC_in hf
        obtain ⟨s905, e905, hf⟩ := jL_s hf
        refine jast_i hx hb hK hC 16 0 (wM_e16 cI cC ad s904) rfl hi905 dM_cut_48 ((wM_a15 cI cC ad s904 _ _).trans (congrArg (wM cI cC ad) e905.symm)) (fun H locs hC => ?_)
        refine lv_aload_n hx hb dM_cut_49 rfl (lv_at hl 3 rfl) ?_
        refine va_get (D := (dC, dI)) (ci := 6) (v := .ref (ad 17)) (C := RcM) (T := TcM) (N := 43) hx hb ht in_cM hown hK hC.1 0 (wM_e0 cI cC ad s905) rfl 22 (by decide) (ht _ tw782) (fun _ h9 => h9) rfl dM_cut_50 ?_
        refine lv_aload_n hx hb dM_cut_53 rfl (lv_at hl 3 rfl) ?_
        refine va_get (D := (dC, dI)) (ci := 6) (v := .int (jgI s905 5)) (C := RcM) (T := TcM) (N := 43) hx hb ht in_cM hown hK hC.1 0 (wM_e0 cI cC ad s905) rfl 20 (by decide) (ht _ tw780) (fun _ h9 => h9) rfl dM_cut_54 ?_
        refine lv_iload_n hx hb dM_cut_57 rfl (lv_at hl 2 rfl) ?_
        obtain ⟨hi906, hf⟩ := jC_in hf
        obtain ⟨s906, e906, hf⟩ := jL_s hf
        refine jast_i hx hb hK hC 17 0 (wM_e17 cI cC ad s905) rfl hi906 dM_cut_58 ((wM_a16 cI cC ad s905 _ _).trans (congrArg (wM cI cC ad) e906.symm)) (fun H locs hC => ?_)
        refine lv_aload_n hx hb dM_cut_59 rfl (lv_at hl 3 rfl) ?_
        refine va_get (D := (dC, dI)) (ci := 6) (v := .ref (ad 18)) (C := RcM) (T := TcM) (N := 43) hx hb ht in_cM hown hK hC.1 0 (wM_e0 cI cC ad s906) rfl 23 (by decide) (ht _ tw783) (fun _ h9 => h9) rfl dM_cut_60 ?_
        refine lv_aload_n hx hb dM_cut_63 rfl (lv_at hl 3 rfl) ?_
        refine va_get (D := (dC, dI)) (ci := 6) (v := .int (jgI s906 5)) (C := RcM) (T := TcM) (N := 43) hx hb ht in_cM hown hK hC.1 0 (wM_e0 cI cC ad s906) rfl 20 (by decide) (ht _ tw780) (fun _ h9 => h9) rfl dM_cut_64 ?_
        refine lv_iload hx hb dM_cut_67 (lv_at hl 1 rfl) ?_
        obtain ⟨hi907, hf⟩ := jC_in hf
        obtain ⟨s907, e907, hf⟩ := jL_s hf
        refine jast_i hx hb hK hC 18 0 (wM_e18 cI cC ad s906) rfl hi907 dM_cut_69 ((wM_a17 cI cC ad s906 _ _).trans (congrArg (wM cI cC ad) e907.symm)) (fun H locs hC => ?_)
        refine lv_aload_n hx hb dM_cut_70 rfl (lv_at hl 3 rfl) ?_
        refine lv_dup hx hb dM_cut_71 rfl ?_
        refine va_get (D := (dC, dI)) (ci := 6) (v := .int (jgI s907 5)) (C := RcM) (T := TcM) (N := 43) hx hb ht in_cM hown hK hC.1 0 (wM_e0 cI cC ad s907) rfl 20 (by decide) (ht _ tw780) (fun _ h9 => h9) rfl dM_cut_72 ?_
        refine lv_iconst (v := 1) hx hb dM_cut_75 (by decide) ?_
        refine lv_iadd hx hb dM_cut_76 ?_
        obtain ⟨s908, e908, hf⟩ := jL_s hf
        refine jput (ci := 6) (C := RcM) (T := TcM) (N := 43) hx hb ht in_cM tycM tycM_ok nmcM hown hK hC 0 (wM_e0 cI cC ad s907) rfl 20 (by decide) (ht _ tw780) (fun _ h9 => h9) rfl rfl (Nat.le_of_ble_eq_true rfl) dM_cut_77 ((wM_p5 cI cC ad s907 _).trans (congrArg (wM cI cC ad) e908.symm)) (fun H locs hC => ?_)
        refine lv_iload hx hb dM_cut_80 (lv_at hl 1 rfl) ?_
        refine lv_istore_n (lv' := [(2, .int r903), (3, .int r904), (4, .int r903), (0, .ref (ad 0)), (1, .int x1)]) hx hb dM_cut_82 rfl hl (by decide) rfl (fun ls hl => ?_)
        refine lv_goto (tgt := 9) hx hb dM_cut_83 (by decide) ?_
        exact ih9 x1 r903 r904 s908 ls _ _ (lv_sub hl [3, 4, 0, 1] rfl) hC hf
  unfold fM_cut at hf
  refine lv_aload_n hx hb dM_cut_0 rfl (lv_at hl 0 rfl) ?_
  refine lv_iconst (v := 0) hx hb dM_cut_1 (by decide) ?_
  obtain ⟨s1, e1, hf⟩ := jL_s hf
  refine jput (ci := 6) (C := RcM) (T := TcM) (N := 43) hx hb ht in_cM tycM tycM_ok nmcM hown hK hC 0 (wM_e0 cI cC ad z0) rfl 20 (by decide) (ht _ tw780) (fun _ h9 => h9) rfl rfl (Nat.le_of_ble_eq_true rfl) dM_cut_2 ((wM_p5 cI cC ad z0 _).trans (congrArg (wM cI cC ad) e1.symm)) (fun H locs hC => ?_)
  refine lv_iconst (v := 0) hx hb dM_cut_5 (by decide) ?_
  refine lv_istore_n (lv' := [(2, .int (0 : Int32)), (0, .ref (ad 0)), (1, .int a0)]) hx hb dM_cut_6 rfl hl (by decide) rfl (fun ls hl => ?_)
  refine lv_iconst (v := 0) hx hb dM_cut_7 (by decide) ?_
  refine lv_istore_n (lv' := [(3, .int (0 : Int32)), (2, .int (0 : Int32)), (0, .ref (ad 0)), (1, .int a0)]) hx hb dM_cut_8 rfl hl (by decide) rfl (fun ls hl => ?_)
  exact L9 N a0 (0 : Int32) (0 : Int32) s1 ls _ _ (lv_sub hl [2, 3, 1, 0] rfl) hC hf

def fM_current (N : Nat) (z0 : jS) : Option (Int32 × jS) := (if jIn (jgI z0 6) 61 = true then some (jgA z0 15 (jgI z0 6).toNatClampNeg, z0) else none)
set_option maxHeartbeats 4000000 in
set_option maxRecDepth 100000 in
theorem cM_current (l : Launch) (dC : Nat → ClassId) (dI : Nat → Nat → Nat) (cI cC cL : ClassId) (sk sv : Nat → Nat) (ad : Nat → Nat) (N : Nat) (z0 z1 : jS) (r : Int32) (hf : fM_current N z0 = some (r, z1)) : Ci l yM_current (Cond.code yM_current prog_8_method_8_code 1 (some .int) :: TB) ({ frames := 0, cells := 0, slots := 0, locals := 0 }) (dC, dI) vwCl [(cI, .int), (cC, .char), (cL, .object "SharedSyntax$Letters")] (jEn sk sv) [.ref (ad 0)] (wM cI cC ad z0) (wM cI cC ad z1) r := by
  refine Ci_of (cc := prog_8_method_8_code) (maxL := 1) (ret := (some .int)) (by decide) rfl (Nat.le_of_ble_eq_true rfl) ?_
  intro p e s m below meth c ls F hl hK hN hC
  obtain ⟨hx, hb, hml, hown, hts, hr, hlk⟩ := F
  have ht : ∀ w ∈ TB, w.before [.ref (ad 0)].toArray s = true := fun w h => hts w (List.mem_cons_of_mem _ h)
  have hA : ∀ q, s.heap.size ≤ q → va_A (wM cI cC ad z0) s.heap.size q := fun q h => Or.inr h
  have hl : lv_has ls 1 [(0, .ref (ad 0))] := hl
  unfold fM_current at hf
  refine lv_aload_n hx hb dM_current_0 rfl (lv_at hl 0 rfl) ?_
  refine va_get (D := (dC, dI)) (ci := 6) (v := .ref (ad 16)) (C := RcM) (T := TcM) (N := 43) hx hb ht in_cM hown hK hC.1 0 (wM_e0 cI cC ad z0) rfl 21 (by decide) (ht _ tw781) (fun _ h9 => h9) rfl dM_current_1 ?_
  refine lv_aload_n hx hb dM_current_4 rfl (lv_at hl 0 rfl) ?_
  refine va_get (D := (dC, dI)) (ci := 6) (v := .int (jgI z0 6)) (C := RcM) (T := TcM) (N := 43) hx hb ht in_cM hown hK hC.1 0 (wM_e0 cI cC ad z0) rfl 24 (by decide) (ht _ tw784) (fun _ h9 => h9) rfl dM_current_5 ?_
  obtain ⟨hi1, hf⟩ := jC_in hf
  refine va_iald hx hb hK hC.1 16 0 (wM_e16 cI cC ad z0) rfl hi1 dM_current_8 ?_
  cases hf
  exact jret_i hx hb hr hlk hC hK dM_current_9

def fM_starts (N : Nat) (a0 : Int32) (z0 : jS) : Option (Int32 × jS) := (if a0 = (1 : Int32) then some ((1 : Int32), z0) else (if a0 = (2 : Int32) then some ((1 : Int32), z0) else (if a0 = (3 : Int32) then some ((1 : Int32), z0) else (if a0 = (5 : Int32) then some ((1 : Int32), z0) else (if a0 = (6 : Int32) then some ((1 : Int32), z0) else (if a0 = (7 : Int32) then some ((1 : Int32), z0) else (if a0 = (9 : Int32) then some ((1 : Int32), z0) else (if a0 = (12 : Int32) then some ((1 : Int32), z0) else some ((0 : Int32), z0)))))))))
set_option maxHeartbeats 4000000 in
set_option maxRecDepth 100000 in
theorem cM_starts (l : Launch) (dC : Nat → ClassId) (dI : Nat → Nat → Nat) (cI cC cL : ClassId) (sk sv : Nat → Nat) (ad : Nat → Nat) (N : Nat) (a0 : Int32) (z0 z1 : jS) (r : Int32) (hf : fM_starts N a0 z0 = some (r, z1)) : Ci l yM_starts (Cond.code yM_starts prog_8_method_9_code 1 (some .boolean) :: TB) ({ frames := 0, cells := 0, slots := 0, locals := 0 }) (dC, dI) vwCl [(cI, .int), (cC, .char), (cL, .object "SharedSyntax$Letters")] (jEn sk sv) [.int a0] (wM cI cC ad z0) (wM cI cC ad z1) r := by
  refine Ci_of (cc := prog_8_method_9_code) (maxL := 1) (ret := (some .boolean)) (by decide) rfl (Nat.le_of_ble_eq_true rfl) ?_
  intro p e s m below meth c ls F hl hK hN hC
  obtain ⟨hx, hb, hml, hown, hts, hr, hlk⟩ := F
  have ht : ∀ w ∈ TB, w.before [.int a0].toArray s = true := fun w h => hts w (List.mem_cons_of_mem _ h)
  have hA : ∀ q, s.heap.size ≤ q → va_A (wM cI cC ad z0) s.heap.size q := fun q h => Or.inr h
  have hl : lv_has ls 1 [(0, .int a0)] := hl
  unfold fM_starts at hf
  refine lv_iload_n hx hb dM_starts_0 rfl (lv_at hl 0 rfl) ?_
  refine lv_iconst (v := 1) hx hb dM_starts_1 (by decide) ?_
  refine lv_icmp_eq (tgt := 44) hx hb dM_starts_2 (by decide) (fun c1 => ?_) (fun c1 => ?_)
  · replace hf := jif_t c1 hf
    refine lv_iconst (v := 1) hx hb dM_starts_44 (by decide) ?_
    refine lv_goto (tgt := 49) hx hb dM_starts_45 (by decide) ?_
    cases hf
    exact jret_z hx hb hr (by decide +kernel) hlk hC hK dM_starts_49
  · replace hf := jif_f c1 hf
    refine lv_iload_n hx hb dM_starts_5 rfl (lv_at hl 0 rfl) ?_
    refine lv_iconst (v := 2) hx hb dM_starts_6 (by decide) ?_
    refine lv_icmp_eq (tgt := 44) hx hb dM_starts_7 (by decide) (fun c2 => ?_) (fun c2 => ?_)
    · replace hf := jif_t c2 hf
      refine lv_iconst (v := 1) hx hb dM_starts_44 (by decide) ?_
      refine lv_goto (tgt := 49) hx hb dM_starts_45 (by decide) ?_
      cases hf
      exact jret_z hx hb hr (by decide +kernel) hlk hC hK dM_starts_49
    · replace hf := jif_f c2 hf
      refine lv_iload_n hx hb dM_starts_10 rfl (lv_at hl 0 rfl) ?_
      refine lv_iconst (v := 3) hx hb dM_starts_11 (by decide) ?_
      refine lv_icmp_eq (tgt := 44) hx hb dM_starts_12 (by decide) (fun c3 => ?_) (fun c3 => ?_)
      · replace hf := jif_t c3 hf
        refine lv_iconst (v := 1) hx hb dM_starts_44 (by decide) ?_
        refine lv_goto (tgt := 49) hx hb dM_starts_45 (by decide) ?_
        cases hf
        exact jret_z hx hb hr (by decide +kernel) hlk hC hK dM_starts_49
      · replace hf := jif_f c3 hf
        refine lv_iload_n hx hb dM_starts_15 rfl (lv_at hl 0 rfl) ?_
        refine lv_iconst (v := 5) hx hb dM_starts_16 (by decide) ?_
        refine lv_icmp_eq (tgt := 44) hx hb dM_starts_17 (by decide) (fun c4 => ?_) (fun c4 => ?_)
        · replace hf := jif_t c4 hf
          refine lv_iconst (v := 1) hx hb dM_starts_44 (by decide) ?_
          refine lv_goto (tgt := 49) hx hb dM_starts_45 (by decide) ?_
          cases hf
          exact jret_z hx hb hr (by decide +kernel) hlk hC hK dM_starts_49
        · replace hf := jif_f c4 hf
          refine lv_iload_n hx hb dM_starts_20 rfl (lv_at hl 0 rfl) ?_
          refine lv_bipush (v := 6) hx hb dM_starts_21 (by decide) ?_
          refine lv_icmp_eq (tgt := 44) hx hb dM_starts_23 (by decide) (fun c5 => ?_) (fun c5 => ?_)
          · replace hf := jif_t c5 hf
            refine lv_iconst (v := 1) hx hb dM_starts_44 (by decide) ?_
            refine lv_goto (tgt := 49) hx hb dM_starts_45 (by decide) ?_
            cases hf
            exact jret_z hx hb hr (by decide +kernel) hlk hC hK dM_starts_49
          · replace hf := jif_f c5 hf
            refine lv_iload_n hx hb dM_starts_26 rfl (lv_at hl 0 rfl) ?_
            refine lv_bipush (v := 7) hx hb dM_starts_27 (by decide) ?_
            refine lv_icmp_eq (tgt := 44) hx hb dM_starts_29 (by decide) (fun c6 => ?_) (fun c6 => ?_)
            · replace hf := jif_t c6 hf
              refine lv_iconst (v := 1) hx hb dM_starts_44 (by decide) ?_
              refine lv_goto (tgt := 49) hx hb dM_starts_45 (by decide) ?_
              cases hf
              exact jret_z hx hb hr (by decide +kernel) hlk hC hK dM_starts_49
            · replace hf := jif_f c6 hf
              refine lv_iload_n hx hb dM_starts_32 rfl (lv_at hl 0 rfl) ?_
              refine lv_bipush (v := 9) hx hb dM_starts_33 (by decide) ?_
              refine lv_icmp_eq (tgt := 44) hx hb dM_starts_35 (by decide) (fun c7 => ?_) (fun c7 => ?_)
              · replace hf := jif_t c7 hf
                refine lv_iconst (v := 1) hx hb dM_starts_44 (by decide) ?_
                refine lv_goto (tgt := 49) hx hb dM_starts_45 (by decide) ?_
                cases hf
                exact jret_z hx hb hr (by decide +kernel) hlk hC hK dM_starts_49
              · replace hf := jif_f c7 hf
                refine lv_iload_n hx hb dM_starts_38 rfl (lv_at hl 0 rfl) ?_
                refine lv_bipush (v := 12) hx hb dM_starts_39 (by decide) ?_
                refine lv_icmp_ne (tgt := 48) hx hb dM_starts_41 (by decide) (fun c8 => ?_) (fun c8 => ?_)
                · replace hf := jif_f c8 hf
                  refine lv_iconst (v := 0) hx hb dM_starts_48 (by decide) ?_
                  cases hf
                  exact jret_z hx hb hr (by decide +kernel) hlk hC hK dM_starts_49
                · replace hf := jif_t c8 hf
                  refine lv_iconst (v := 1) hx hb dM_starts_44 (by decide) ?_
                  refine lv_goto (tgt := 49) hx hb dM_starts_45 (by decide) ?_
                  cases hf
                  exact jret_z hx hb hr (by decide +kernel) hlk hC hK dM_starts_49

def fM_begins (N : Nat) (a0 : Int32) (z0 : jS) : Option (Int32 × jS) := (jB (fM_current N z0) fun r1 s1 => (jB (fM_starts N r1 s1) fun r2 s2 => (if r2 = 0 then some ((0 : Int32), s2) else (if a0 = (6 : Int32) then (if r1 = (3 : Int32) then some ((0 : Int32), s2) else (if r1 = (5 : Int32) then some ((0 : Int32), s2) else (if r1 = (7 : Int32) then some ((0 : Int32), s2) else some ((1 : Int32), s2)))) else some ((1 : Int32), s2)))))
set_option maxHeartbeats 4000000 in
set_option maxRecDepth 100000 in
theorem cM_begins (l : Launch) (dC : Nat → ClassId) (dI : Nat → Nat → Nat) (cI cC cL : ClassId) (sk sv : Nat → Nat) (ad : Nat → Nat) (N : Nat) (a0 : Int32) (z0 z1 : jS) (r : Int32) (hf : fM_begins N a0 z0 = some (r, z1)) : Ci l yM_begins (Cond.code yM_begins prog_8_method_10_code 3 (some .boolean) :: TB) ({ frames := 1, cells := 0, slots := 0, locals := 20 }) (dC, dI) vwCl [(cI, .int), (cC, .char), (cL, .object "SharedSyntax$Letters")] (jEn sk sv) [.ref (ad 0), .int a0] (wM cI cC ad z0) (wM cI cC ad z1) r := by
  refine Ci_of (cc := prog_8_method_10_code) (maxL := 3) (ret := (some .boolean)) (by decide) rfl (Nat.le_of_ble_eq_true rfl) ?_
  intro p e s m below meth c ls F hl hK hN hC
  obtain ⟨hx, hb, hml, hown, hts, hr, hlk⟩ := F
  have ht : ∀ w ∈ TB, w.before [.ref (ad 0), .int a0].toArray s = true := fun w h => hts w (List.mem_cons_of_mem _ h)
  have hA : ∀ q, s.heap.size ≤ q → va_A (wM cI cC ad z0) s.heap.size q := fun q h => Or.inr h
  have hl : lv_has ls 3 [(0, .ref (ad 0)), (1, .int a0)] := hl
  unfold fM_begins at hf
  refine lv_aload_n hx hb dM_begins_0 rfl (lv_at hl 0 rfl) ?_
  obtain ⟨r1, s1, hc1, hf⟩ := jB_some hf
  refine jcall_i (va_runV (C := RcM) (As := []) (rest := []) ⟨hx, hb, hml, hown, hts⟩ ((cM_current l dC dI cI cC cL sk sv ad N z0 s1 r1 hc1) _) ⟨(callB_of 0 hts (tb_good tw709) rfl rfl rfl (ht _ tw14) (ht _ tw706) (by decide +kernel) ⟨Nat.le_of_ble_eq_true rfl, Nat.le_of_ble_eq_true rfl⟩), ht _ tw708, ht _ (tb_sel pv_M_current)⟩ (jpreV (jEn_ok sk sv) hC hA hK hN (wM_e0 cI cC ad z0) rfl rfl _) rfl rfl hl.1 rfl (lv_room (Nat.le_of_ble_eq_true rfl)) dM_begins_1 ⟨Nat.le_refl _, Nat.le_refl _⟩) hC hA (fun H locs hC => ?_)
  refine lv_istore_n (lv' := [(2, .int r1), (0, .ref (ad 0)), (1, .int a0)]) hx hb dM_begins_4 rfl hl (by decide) rfl (fun ls hl => ?_)
  refine lv_iload_n hx hb dM_begins_5 rfl (lv_at hl 0 rfl) ?_
  obtain ⟨r2, s2, hc2, hf⟩ := jB_some hf
  refine jcall_i (va_runS (As := [.int r1]) (rest := []) ⟨hx, hb, hml, hown, hts⟩ ((cM_starts l dC dI cI cC cL sk sv ad N r1 s1 s2 r2 hc2) _) ⟨(callB_of 1 hts (tb_good tw716) rfl rfl rfl (ht _ tw14) (ht _ tw714) (by decide +kernel) ⟨Nat.le_of_ble_eq_true rfl, Nat.le_of_ble_eq_true rfl⟩), ht _ tw715⟩ (jpreS (jEn_ok sk sv) hC hA hK hN _) rfl rfl hl.1 rfl (lv_room (Nat.le_of_ble_eq_true rfl)) dM_begins_6 ⟨Nat.le_refl _, Nat.le_refl _⟩) hC hA (fun H locs hC => ?_)
  refine lv_if_eq (tgt := 38) hx hb dM_begins_9 (by decide) (fun c3 => ?_) (fun c3 => ?_)
  · replace hf := jif_t c3 hf
    refine lv_iconst (v := 0) hx hb dM_begins_38 (by decide) ?_
    cases hf
    exact jret_z hx hb hr (by decide +kernel) hlk hC hK dM_begins_39
  · replace hf := jif_f c3 hf
    refine lv_iload_n hx hb dM_begins_12 rfl (lv_at hl 2 rfl) ?_
    refine lv_bipush (v := 6) hx hb dM_begins_13 (by decide) ?_
    refine lv_icmp_ne (tgt := 34) hx hb dM_begins_15 (by decide) (fun c4 => ?_) (fun c4 => ?_)
    · replace hf := jif_f c4 hf
      refine lv_iconst (v := 1) hx hb dM_begins_34 (by decide) ?_
      refine lv_goto (tgt := 39) hx hb dM_begins_35 (by decide) ?_
      cases hf
      exact jret_z hx hb hr (by decide +kernel) hlk hC hK dM_begins_39
    · replace hf := jif_t c4 hf
      refine lv_iload_n hx hb dM_begins_18 rfl (lv_at hl 0 rfl) ?_
      refine lv_iconst (v := 3) hx hb dM_begins_19 (by decide) ?_
      refine lv_icmp_eq (tgt := 38) hx hb dM_begins_20 (by decide) (fun c5 => ?_) (fun c5 => ?_)
      · replace hf := jif_t c5 hf
        refine lv_iconst (v := 0) hx hb dM_begins_38 (by decide) ?_
        cases hf
        exact jret_z hx hb hr (by decide +kernel) hlk hC hK dM_begins_39
      · replace hf := jif_f c5 hf
        refine lv_iload_n hx hb dM_begins_23 rfl (lv_at hl 0 rfl) ?_
        refine lv_iconst (v := 5) hx hb dM_begins_24 (by decide) ?_
        refine lv_icmp_eq (tgt := 38) hx hb dM_begins_25 (by decide) (fun c6 => ?_) (fun c6 => ?_)
        · replace hf := jif_t c6 hf
          refine lv_iconst (v := 0) hx hb dM_begins_38 (by decide) ?_
          cases hf
          exact jret_z hx hb hr (by decide +kernel) hlk hC hK dM_begins_39
        · replace hf := jif_f c6 hf
          refine lv_iload_n hx hb dM_begins_28 rfl (lv_at hl 0 rfl) ?_
          refine lv_bipush (v := 7) hx hb dM_begins_29 (by decide) ?_
          refine lv_icmp_eq (tgt := 38) hx hb dM_begins_31 (by decide) (fun c7 => ?_) (fun c7 => ?_)
          · replace hf := jif_t c7 hf
            refine lv_iconst (v := 0) hx hb dM_begins_38 (by decide) ?_
            cases hf
            exact jret_z hx hb hr (by decide +kernel) hlk hC hK dM_begins_39
          · replace hf := jif_f c7 hf
            refine lv_iconst (v := 1) hx hb dM_begins_34 (by decide) ?_
            refine lv_goto (tgt := 39) hx hb dM_begins_35 (by decide) ?_
            cases hf
            exact jret_z hx hb hr (by decide +kernel) hlk hC hK dM_begins_39
