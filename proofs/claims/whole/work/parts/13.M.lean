def fM_parse_b80 (N : Nat) (k80 : Int32 → Int32 → jS → Option (Int32 × jS)) (x1 x2 : Int32) (s0 : jS) : Option (Int32 × jS) := (if (100000 : Int32) ≤ x2 then (jB (fM_number N x1 s0) fun r8002 s8002 => some (0, s8002)) else (if jgI s0 10 ≤ 0 then (jB (fM_number N x1 s0) fun r8004 s8004 => some (0, s8004)) else (jL (jsI s0 10 (jgI s0 10 - (1 : Int32))) fun s8005 => (if jIn (jgI s8005 10) 200 = true then (if jIn (jgI s8005 10) 200 = true then (if jIn (jgI s8005 10) 200 = true then (jB (fM_perform N x1 (jgA s8005 29 (jgI s8005 10).toNatClampNeg) (jgA s8005 30 (jgI s8005 10).toNatClampNeg) (jgA s8005 31 (jgI s8005 10).toNatClampNeg) s8005) fun r8009 s8009 => k80 x1 (x2 + (1 : Int32)) s8009) else none) else none) else none))))
def fM_parse_80 (N : Nat) : Nat → Int32 → Int32 → jS → Option (Int32 × jS)
  | 0 => fun _ _ _ => none
  | n + 1 => fun x1 x2 s0 => fM_parse_b80 N (fM_parse_80 N n) x1 x2 s0
def fM_parse_b7 (N : Nat) (k7 : Int32 → Int32 → jS → Option (Int32 × jS)) (x1 x2 : Int32) (s0 : jS) : Option (Int32 × jS) := (if (61 : Int32) ≤ x2 then (jL (jsI s0 8 (0 : Int32)) fun s702 => (jL (jsI s702 9 (0 : Int32)) fun s703 => (jL (jsI s703 6 (0 : Int32)) fun s704 => (jL (jsI s704 7 (0 : Int32)) fun s705 => (jL (jsI s705 10 (0 : Int32)) fun s706 => (jB (fM_add N (0 : Int32) (20 : Int32) (0 : Int32) s706) fun r707 s707 => (jB (fM_add N (1 : Int32) (0 : Int32) (0 : Int32) s707) fun r708 s708 => (jB (fM_add N (2 : Int32) (0 : Int32) (0 : Int32) s708) fun r709 s709 => fM_parse_80 N N x1 (0 : Int32) s709)))))))) else (if jIn (((61 : Int32) * x1) + x2) 122 = true then (jL (jsA s0 2 ((((61 : Int32) * x1) + x2)).toNatClampNeg (0 : Int32)) fun s710 => k7 x1 (x2 + (1 : Int32)) s710) else none))
def fM_parse_7 (N : Nat) : Nat → Int32 → Int32 → jS → Option (Int32 × jS)
  | 0 => fun _ _ _ => none
  | n + 1 => fun x1 x2 s0 => fM_parse_b7 N (fM_parse_7 N n) x1 x2 s0
def fM_parse (N : Nat) (a0 : Int32) (z0 : jS) : Option (Int32 × jS) := (jB (fM_cut N a0 z0) fun r1 s1 => fM_parse_7 N N a0 (0 : Int32) s1)
set_option maxHeartbeats 4000000 in
set_option maxRecDepth 100000 in
theorem cM_parse (l : Launch) (dC : Nat → ClassId) (dI : Nat → Nat → Nat) (cI cC cL : ClassId) (sk sv : Nat → Nat) (ad : Nat → Nat) (N : Nat) (a0 : Int32) (z0 z1 : jS) (r : Int32) (hf : fM_parse N a0 z0 = some (r, z1)) : Cv l yM_parse (Cond.code yM_parse prog_8_method_26_code 3 none :: TB) ({ frames := 4, cells := 0, slots := 0, locals := 101 }) (dC, dI) vwCl [(cI, .int), (cC, .char), (cL, .object "SharedSyntax$Letters")] (jEn sk sv) [.ref (ad 0), .int a0] (wM cI cC ad z0) (wM cI cC ad z1) := by
  refine Cv_of (cc := prog_8_method_26_code) (maxL := 3) (ret := none) (by decide) rfl (Nat.le_of_ble_eq_true rfl) ?_
  intro p e s m below meth c ls F hl hK hN hC
  obtain ⟨hx, hb, hml, hown, hts, hr, hlk⟩ := F
  have ht : ∀ w ∈ TB, w.before [.ref (ad 0), .int a0].toArray s = true := fun w h => hts w (List.mem_cons_of_mem _ h)
  have hA : ∀ q, s.heap.size ≤ q → va_A (wM cI cC ad z0) s.heap.size q := fun q h => Or.inr h
  have hl : lv_has ls 3 [(0, .ref (ad 0)), (1, .int a0)] := hl
  have L80 : ∀ (n : Nat) (x1 x2 : Int32) (s0 : jS) (ls : Array Slot) (H : Heap) (locs : List Loc), lv_has ls 3 [(0, .ref (ad 0)), (1, .int x1), (2, .int x2)] → jcx (dC, dI) vwCl (va_A (wM cI cC ad z0) s.heap.size) s.heap (wM cI cC ad s0) H locs → fM_parse_80 N n x1 x2 s0 = some (r, z1) → W p l e ({ frames := 4, cells := 0, slots := 0, locals := 101 }) s m [.ref (ad 0), .int a0].toArray below meth c H locs 0 0 (MQ below (jQv (dC, dI) vwCl [(cI, .int), (cC, .char), (cL, .object "SharedSyntax$Letters")] (wM cI cC ad z0) (wM cI cC ad z1) s.heap.size) [.ref (ad 0), .int a0].toArray s 0 0 (va_A (wM cI cC ad z0) s.heap.size)) (F0 m 80 ls []) := by
    intro n
    induction n with
    | zero => exact fun _ _ _ _ _ _ _ _ hf => nomatch hf
    | succ n ih80 =>
      intro x1 x2 s0 ls H locs hl hC hf
      replace hf : fM_parse_b80 N (fM_parse_80 N n) x1 x2 s0 = some (r, z1) := hf
      generalize fM_parse_80 N n = k80 at ih80 hf
      unfold fM_parse_b80 at hf
      refine lv_iload_n hx hb dM_parse_80 rfl (lv_at hl 2 rfl) ?_
      refine lv_ldc (v := 100000) hx hb hown (ht _ tw685) dM_parse_81 ?_
      refine lv_icmp_ge (tgt := 141) hx hb dM_parse_83 (by decide) (fun c8001 => ?_) (fun c8001 => ?_)
      · replace hf := jif_t c8001 hf
        refine lv_aload_n hx hb dM_parse_141 rfl (lv_at hl 0 rfl) ?_
        refine lv_iload_n hx hb dM_parse_142 rfl (lv_at hl 1 rfl) ?_
        obtain ⟨r8002, s8002, hc8002, hf⟩ := jB_some hf
        refine jcall_v (va_runV (C := RcM) (As := [.int x1]) (rest := []) ⟨hx, hb, hml, hown, hts⟩ ((cM_number l dC dI cI cC cL sk sv ad N x1 s0 s8002 r8002 hc8002) _) ⟨(callB_of 1 hts (tb_good tw755) rfl rfl rfl (ht _ tw14) (ht _ tw752) (by decide +kernel) ⟨Nat.le_of_ble_eq_true rfl, Nat.le_of_ble_eq_true rfl⟩), ht _ tw754, ht _ (tb_sel pv_M_number)⟩ (jpreV (jEn_ok sk sv) hC hA hK hN (wM_e0 cI cC ad s0) rfl rfl _) rfl rfl hl.1 rfl (lv_room (Nat.le_of_ble_eq_true rfl)) dM_parse_143 ⟨Nat.le_refl _, Nat.le_refl _⟩) hC hA (fun H locs hC => ?_)
        cases hf
        exact jret_v hx hb hr hlk hC hK dM_parse_146
      · replace hf := jif_f c8001 hf
        refine lv_aload_n hx hb dM_parse_86 rfl (lv_at hl 0 rfl) ?_
        refine va_get (D := (dC, dI)) (ci := 6) (v := .int (jgI s0 10)) (C := RcM) (T := TcM) (N := 43) hx hb ht in_cM hown hK hC.1 0 (wM_e0 cI cC ad s0) rfl 39 (by decide) (ht _ tw799) (fun _ h9 => h9) rfl dM_parse_87 ?_
        refine lv_if_le (tgt := 141) hx hb dM_parse_90 (by decide) (fun c8003 => ?_) (fun c8003 => ?_)
        · replace hf := jif_t c8003 hf
          refine lv_aload_n hx hb dM_parse_141 rfl (lv_at hl 0 rfl) ?_
          refine lv_iload_n hx hb dM_parse_142 rfl (lv_at hl 1 rfl) ?_
          obtain ⟨r8004, s8004, hc8004, hf⟩ := jB_some hf
          refine jcall_v (va_runV (C := RcM) (As := [.int x1]) (rest := []) ⟨hx, hb, hml, hown, hts⟩ ((cM_number l dC dI cI cC cL sk sv ad N x1 s0 s8004 r8004 hc8004) _) ⟨(callB_of 1 hts (tb_good tw755) rfl rfl rfl (ht _ tw14) (ht _ tw752) (by decide +kernel) ⟨Nat.le_of_ble_eq_true rfl, Nat.le_of_ble_eq_true rfl⟩), ht _ tw754, ht _ (tb_sel pv_M_number)⟩ (jpreV (jEn_ok sk sv) hC hA hK hN (wM_e0 cI cC ad s0) rfl rfl _) rfl rfl hl.1 rfl (lv_room (Nat.le_of_ble_eq_true rfl)) dM_parse_143 ⟨Nat.le_refl _, Nat.le_refl _⟩) hC hA (fun H locs hC => ?_)
          cases hf
          exact jret_v hx hb hr hlk hC hK dM_parse_146
        · replace hf := jif_f c8003 hf
          refine lv_aload_n hx hb dM_parse_93 rfl (lv_at hl 0 rfl) ?_
          refine lv_dup hx hb dM_parse_94 rfl ?_
          refine va_get (D := (dC, dI)) (ci := 6) (v := .int (jgI s0 10)) (C := RcM) (T := TcM) (N := 43) hx hb ht in_cM hown hK hC.1 0 (wM_e0 cI cC ad s0) rfl 39 (by decide) (ht _ tw799) (fun _ h9 => h9) rfl dM_parse_95 ?_
          refine lv_iconst (v := 1) hx hb dM_parse_98 (by decide) ?_
          refine lv_isub hx hb dM_parse_99 ?_
          obtain ⟨s8005, e8005, hf⟩ := jL_s hf
          refine jput (ci := 6) (C := RcM) (T := TcM) (N := 43) hx hb ht in_cM tycM tycM_ok nmcM hown hK hC 0 (wM_e0 cI cC ad s0) rfl 39 (by decide) (ht _ tw799) (fun _ h9 => h9) rfl rfl (Nat.le_of_ble_eq_true rfl) dM_parse_100 ((wM_p10 cI cC ad s0 _).trans (congrArg (wM cI cC ad) e8005.symm)) (fun H locs hC => ?_)
          refine lv_aload_n hx hb dM_parse_103 rfl (lv_at hl 0 rfl) ?_
          refine lv_iload_n hx hb dM_parse_104 rfl (lv_at hl 1 rfl) ?_
          refine lv_aload_n hx hb dM_parse_105 rfl (lv_at hl 0 rfl) ?_
          refine va_get (D := (dC, dI)) (ci := 6) (v := .ref (ad 30)) (C := RcM) (T := TcM) (N := 43) hx hb ht in_cM hown hK hC.1 0 (wM_e0 cI cC ad s8005) rfl 40 (by decide) (ht _ tw800) (fun _ h9 => h9) rfl dM_parse_106 ?_
          refine lv_aload_n hx hb dM_parse_109 rfl (lv_at hl 0 rfl) ?_
          refine va_get (D := (dC, dI)) (ci := 6) (v := .int (jgI s8005 10)) (C := RcM) (T := TcM) (N := 43) hx hb ht in_cM hown hK hC.1 0 (wM_e0 cI cC ad s8005) rfl 39 (by decide) (ht _ tw799) (fun _ h9 => h9) rfl dM_parse_110 ?_
          obtain ⟨hi8006, hf⟩ := jC_in hf
          refine va_iald hx hb hK hC.1 30 0 (wM_e30 cI cC ad s8005) rfl hi8006 dM_parse_113 ?_
          refine lv_aload_n hx hb dM_parse_114 rfl (lv_at hl 0 rfl) ?_
          refine va_get (D := (dC, dI)) (ci := 6) (v := .ref (ad 31)) (C := RcM) (T := TcM) (N := 43) hx hb ht in_cM hown hK hC.1 0 (wM_e0 cI cC ad s8005) rfl 41 (by decide) (ht _ tw801) (fun _ h9 => h9) rfl dM_parse_115 ?_
          refine lv_aload_n hx hb dM_parse_118 rfl (lv_at hl 0 rfl) ?_
          refine va_get (D := (dC, dI)) (ci := 6) (v := .int (jgI s8005 10)) (C := RcM) (T := TcM) (N := 43) hx hb ht in_cM hown hK hC.1 0 (wM_e0 cI cC ad s8005) rfl 39 (by decide) (ht _ tw799) (fun _ h9 => h9) rfl dM_parse_119 ?_
          obtain ⟨hi8007, hf⟩ := jC_in hf
          refine va_iald hx hb hK hC.1 31 0 (wM_e31 cI cC ad s8005) rfl hi8007 dM_parse_122 ?_
          refine lv_aload_n hx hb dM_parse_123 rfl (lv_at hl 0 rfl) ?_
          refine va_get (D := (dC, dI)) (ci := 6) (v := .ref (ad 32)) (C := RcM) (T := TcM) (N := 43) hx hb ht in_cM hown hK hC.1 0 (wM_e0 cI cC ad s8005) rfl 42 (by decide) (ht _ tw802) (fun _ h9 => h9) rfl dM_parse_124 ?_
          refine lv_aload_n hx hb dM_parse_127 rfl (lv_at hl 0 rfl) ?_
          refine va_get (D := (dC, dI)) (ci := 6) (v := .int (jgI s8005 10)) (C := RcM) (T := TcM) (N := 43) hx hb ht in_cM hown hK hC.1 0 (wM_e0 cI cC ad s8005) rfl 39 (by decide) (ht _ tw799) (fun _ h9 => h9) rfl dM_parse_128 ?_
          obtain ⟨hi8008, hf⟩ := jC_in hf
          refine va_iald hx hb hK hC.1 32 0 (wM_e32 cI cC ad s8005) rfl hi8008 dM_parse_131 ?_
          obtain ⟨r8009, s8009, hc8009, hf⟩ := jB_some hf
          refine jcall_v (va_runV (C := RcM) (As := [.int x1, .int (jgA s8005 29 (jgI s8005 10).toNatClampNeg), .int (jgA s8005 30 (jgI s8005 10).toNatClampNeg), .int (jgA s8005 31 (jgI s8005 10).toNatClampNeg)]) (rest := []) ⟨hx, hb, hml, hown, hts⟩ ((cM_perform l dC dI cI cC cL sk sv ad N x1 (jgA s8005 29 (jgI s8005 10).toNatClampNeg) (jgA s8005 30 (jgI s8005 10).toNatClampNeg) (jgA s8005 31 (jgI s8005 10).toNatClampNeg) s8005 s8009 r8009 hc8009) _) ⟨(callB_of 4 hts (tb_good tw689) rfl rfl rfl (ht _ tw14) (ht _ tw686) (by decide +kernel) ⟨Nat.le_of_ble_eq_true rfl, Nat.le_of_ble_eq_true rfl⟩), ht _ tw688, ht _ (tb_sel pv_M_perform)⟩ (jpreV (jEn_ok sk sv) hC hA hK hN (wM_e0 cI cC ad s8005) rfl rfl _) rfl rfl hl.1 rfl (lv_room (Nat.le_of_ble_eq_true rfl)) dM_parse_132 ⟨Nat.le_refl _, Nat.le_refl _⟩) hC hA (fun H locs hC => ?_)
          refine lv_iinc (k := 2) (v := (x2 + (1 : Int32))) (lv' := [(2, .int (x2 + (1 : Int32))), (0, .ref (ad 0)), (1, .int x1)]) hx hb dM_parse_135 hl rfl rfl (by decide) rfl (fun ls hl => ?_)
          refine lv_goto (tgt := 80) hx hb dM_parse_138 (by decide) ?_
          exact ih80 x1 (x2 + (1 : Int32)) s8009 ls _ _ (lv_sub hl [1, 2, 0] rfl) hC hf
  have L7 : ∀ (n : Nat) (x1 x2 : Int32) (s0 : jS) (ls : Array Slot) (H : Heap) (locs : List Loc), lv_has ls 3 [(0, .ref (ad 0)), (1, .int x1), (2, .int x2)] → jcx (dC, dI) vwCl (va_A (wM cI cC ad z0) s.heap.size) s.heap (wM cI cC ad s0) H locs → fM_parse_7 N n x1 x2 s0 = some (r, z1) → W p l e ({ frames := 4, cells := 0, slots := 0, locals := 101 }) s m [.ref (ad 0), .int a0].toArray below meth c H locs 0 0 (MQ below (jQv (dC, dI) vwCl [(cI, .int), (cC, .char), (cL, .object "SharedSyntax$Letters")] (wM cI cC ad z0) (wM cI cC ad z1) s.heap.size) [.ref (ad 0), .int a0].toArray s 0 0 (va_A (wM cI cC ad z0) s.heap.size)) (F0 m 7 ls []) := by
    intro n
    induction n with
    | zero => exact fun _ _ _ _ _ _ _ _ hf => nomatch hf
    | succ n ih7 =>
      intro x1 x2 s0 ls H locs hl hC hf
      replace hf : fM_parse_b7 N (fM_parse_7 N n) x1 x2 s0 = some (r, z1) := hf
      generalize fM_parse_7 N n = k7 at ih7 hf
      unfold fM_parse_b7 at hf
      refine lv_iload_n hx hb dM_parse_7 rfl (lv_at hl 2 rfl) ?_
      refine lv_bipush (v := 61) hx hb dM_parse_8 (by decide) ?_
      refine lv_icmp_ge (tgt := 31) hx hb dM_parse_10 (by decide) (fun c701 => ?_) (fun c701 => ?_)
      · replace hf := jif_t c701 hf
        refine lv_aload_n hx hb dM_parse_31 rfl (lv_at hl 0 rfl) ?_
        refine lv_iconst (v := 0) hx hb dM_parse_32 (by decide) ?_
        obtain ⟨s702, e702, hf⟩ := jL_s hf
        refine jput (ci := 6) (C := RcM) (T := TcM) (N := 43) hx hb ht in_cM tycM tycM_ok nmcM hown hK hC 0 (wM_e0 cI cC ad s0) rfl 26 (by decide) (ht _ tw786) (fun _ h9 => h9) rfl rfl (Nat.le_of_ble_eq_true rfl) dM_parse_33 ((wM_p8 cI cC ad s0 _).trans (congrArg (wM cI cC ad) e702.symm)) (fun H locs hC => ?_)
        refine lv_aload_n hx hb dM_parse_36 rfl (lv_at hl 0 rfl) ?_
        refine lv_iconst (v := 0) hx hb dM_parse_37 (by decide) ?_
        obtain ⟨s703, e703, hf⟩ := jL_s hf
        refine jput (ci := 6) (C := RcM) (T := TcM) (N := 43) hx hb ht in_cM tycM tycM_ok nmcM hown hK hC 0 (wM_e0 cI cC ad s702) rfl 37 (by decide) (ht _ tw797) (fun _ h9 => h9) rfl rfl (Nat.le_of_ble_eq_true rfl) dM_parse_38 ((wM_p9 cI cC ad s702 _).trans (congrArg (wM cI cC ad) e703.symm)) (fun H locs hC => ?_)
        refine lv_aload_n hx hb dM_parse_41 rfl (lv_at hl 0 rfl) ?_
        refine lv_iconst (v := 0) hx hb dM_parse_42 (by decide) ?_
        obtain ⟨s704, e704, hf⟩ := jL_s hf
        refine jput (ci := 6) (C := RcM) (T := TcM) (N := 43) hx hb ht in_cM tycM tycM_ok nmcM hown hK hC 0 (wM_e0 cI cC ad s703) rfl 24 (by decide) (ht _ tw784) (fun _ h9 => h9) rfl rfl (Nat.le_of_ble_eq_true rfl) dM_parse_43 ((wM_p6 cI cC ad s703 _).trans (congrArg (wM cI cC ad) e704.symm)) (fun H locs hC => ?_)
        refine lv_aload_n hx hb dM_parse_46 rfl (lv_at hl 0 rfl) ?_
        refine lv_iconst (v := 0) hx hb dM_parse_47 (by decide) ?_
        obtain ⟨s705, e705, hf⟩ := jL_s hf
        refine jput (ci := 6) (C := RcM) (T := TcM) (N := 43) hx hb ht in_cM tycM tycM_ok nmcM hown hK hC 0 (wM_e0 cI cC ad s704) rfl 25 (by decide) (ht _ tw785) (fun _ h9 => h9) rfl rfl (Nat.le_of_ble_eq_true rfl) dM_parse_48 ((wM_p7 cI cC ad s704 _).trans (congrArg (wM cI cC ad) e705.symm)) (fun H locs hC => ?_)
        refine lv_aload_n hx hb dM_parse_51 rfl (lv_at hl 0 rfl) ?_
        refine lv_iconst (v := 0) hx hb dM_parse_52 (by decide) ?_
        obtain ⟨s706, e706, hf⟩ := jL_s hf
        refine jput (ci := 6) (C := RcM) (T := TcM) (N := 43) hx hb ht in_cM tycM tycM_ok nmcM hown hK hC 0 (wM_e0 cI cC ad s705) rfl 39 (by decide) (ht _ tw799) (fun _ h9 => h9) rfl rfl (Nat.le_of_ble_eq_true rfl) dM_parse_53 ((wM_p10 cI cC ad s705 _).trans (congrArg (wM cI cC ad) e706.symm)) (fun H locs hC => ?_)
        refine lv_aload_n hx hb dM_parse_56 rfl (lv_at hl 0 rfl) ?_
        refine lv_iconst (v := 0) hx hb dM_parse_57 (by decide) ?_
        refine lv_bipush (v := 20) hx hb dM_parse_58 (by decide) ?_
        refine lv_iconst (v := 0) hx hb dM_parse_60 (by decide) ?_
        obtain ⟨r707, s707, hc707, hf⟩ := jB_some hf
        refine jcall_v (va_runV (C := RcM) (As := [.int (0 : Int32), .int (20 : Int32), .int (0 : Int32)]) (rest := []) ⟨hx, hb, hml, hown, hts⟩ ((cM_add l dC dI cI cC cL sk sv ad N (0 : Int32) (20 : Int32) (0 : Int32) s706 s707 r707 hc707) _) ⟨(callB_of 3 hts (tb_good tw684) rfl rfl rfl (ht _ tw14) (ht _ tw681) (by decide +kernel) ⟨Nat.le_of_ble_eq_true rfl, Nat.le_of_ble_eq_true rfl⟩), ht _ tw683, ht _ (tb_sel pv_M_add)⟩ (jpreV (jEn_ok sk sv) hC hA hK hN (wM_e0 cI cC ad s706) rfl rfl _) rfl rfl hl.1 rfl (lv_room (Nat.le_of_ble_eq_true rfl)) dM_parse_61 ⟨Nat.le_refl _, Nat.le_refl _⟩) hC hA (fun H locs hC => ?_)
        refine lv_aload_n hx hb dM_parse_64 rfl (lv_at hl 0 rfl) ?_
        refine lv_iconst (v := 1) hx hb dM_parse_65 (by decide) ?_
        refine lv_iconst (v := 0) hx hb dM_parse_66 (by decide) ?_
        refine lv_iconst (v := 0) hx hb dM_parse_67 (by decide) ?_
        obtain ⟨r708, s708, hc708, hf⟩ := jB_some hf
        refine jcall_v (va_runV (C := RcM) (As := [.int (1 : Int32), .int (0 : Int32), .int (0 : Int32)]) (rest := []) ⟨hx, hb, hml, hown, hts⟩ ((cM_add l dC dI cI cC cL sk sv ad N (1 : Int32) (0 : Int32) (0 : Int32) s707 s708 r708 hc708) _) ⟨(callB_of 3 hts (tb_good tw684) rfl rfl rfl (ht _ tw14) (ht _ tw681) (by decide +kernel) ⟨Nat.le_of_ble_eq_true rfl, Nat.le_of_ble_eq_true rfl⟩), ht _ tw683, ht _ (tb_sel pv_M_add)⟩ (jpreV (jEn_ok sk sv) hC hA hK hN (wM_e0 cI cC ad s707) rfl rfl _) rfl rfl hl.1 rfl (lv_room (Nat.le_of_ble_eq_true rfl)) dM_parse_68 ⟨Nat.le_refl _, Nat.le_refl _⟩) hC hA (fun H locs hC => ?_)
        refine lv_aload_n hx hb dM_parse_71 rfl (lv_at hl 0 rfl) ?_
        refine lv_iconst (v := 2) hx hb dM_parse_72 (by decide) ?_
        refine lv_iconst (v := 0) hx hb dM_parse_73 (by decide) ?_
        refine lv_iconst (v := 0) hx hb dM_parse_74 (by decide) ?_
        obtain ⟨r709, s709, hc709, hf⟩ := jB_some hf
        refine jcall_v (va_runV (C := RcM) (As := [.int (2 : Int32), .int (0 : Int32), .int (0 : Int32)]) (rest := []) ⟨hx, hb, hml, hown, hts⟩ ((cM_add l dC dI cI cC cL sk sv ad N (2 : Int32) (0 : Int32) (0 : Int32) s708 s709 r709 hc709) _) ⟨(callB_of 3 hts (tb_good tw684) rfl rfl rfl (ht _ tw14) (ht _ tw681) (by decide +kernel) ⟨Nat.le_of_ble_eq_true rfl, Nat.le_of_ble_eq_true rfl⟩), ht _ tw683, ht _ (tb_sel pv_M_add)⟩ (jpreV (jEn_ok sk sv) hC hA hK hN (wM_e0 cI cC ad s708) rfl rfl _) rfl rfl hl.1 rfl (lv_room (Nat.le_of_ble_eq_true rfl)) dM_parse_75 ⟨Nat.le_refl _, Nat.le_refl _⟩) hC hA (fun H locs hC => ?_)
        refine lv_iconst (v := 0) hx hb dM_parse_78 (by decide) ?_
        refine lv_istore_n (lv' := [(2, .int (0 : Int32)), (0, .ref (ad 0)), (1, .int x1)]) hx hb dM_parse_79 rfl hl (by decide) rfl (fun ls hl => ?_)
        exact L80 N x1 (0 : Int32) s709 ls _ _ (lv_sub hl [1, 2, 0] rfl) hC hf
      · replace hf := jif_f c701 hf
        refine lv_aload_n hx hb dM_parse_13 rfl (lv_at hl 0 rfl) ?_
        refine va_get (D := (dC, dI)) (ci := 6) (v := .ref (ad 3)) (C := RcM) (T := TcM) (N := 43) hx hb ht in_cM hown hK hC.1 0 (wM_e0 cI cC ad s0) rfl 3 (by decide) (ht _ tw763) (fun _ h9 => h9) rfl dM_parse_14 ?_
        refine lv_bipush (v := 61) hx hb dM_parse_17 (by decide) ?_
        refine lv_iload_n hx hb dM_parse_19 rfl (lv_at hl 1 rfl) ?_
        refine lv_imul hx hb dM_parse_20 ?_
        refine lv_iload_n hx hb dM_parse_21 rfl (lv_at hl 2 rfl) ?_
        refine lv_iadd hx hb dM_parse_22 ?_
        refine lv_iconst (v := 0) hx hb dM_parse_23 (by decide) ?_
        obtain ⟨hi710, hf⟩ := jC_in hf
        obtain ⟨s710, e710, hf⟩ := jL_s hf
        refine jast_i hx hb hK hC 3 0 (wM_e3 cI cC ad s0) rfl hi710 dM_parse_24 ((wM_a2 cI cC ad s0 _ _).trans (congrArg (wM cI cC ad) e710.symm)) (fun H locs hC => ?_)
        refine lv_iinc (k := 2) (v := (x2 + (1 : Int32))) (lv' := [(2, .int (x2 + (1 : Int32))), (0, .ref (ad 0)), (1, .int x1)]) hx hb dM_parse_25 hl rfl rfl (by decide) rfl (fun ls hl => ?_)
        refine lv_goto (tgt := 7) hx hb dM_parse_28 (by decide) ?_
        exact ih7 x1 (x2 + (1 : Int32)) s710 ls _ _ (lv_sub hl [1, 2, 0] rfl) hC hf
  unfold fM_parse at hf
  refine lv_aload_n hx hb dM_parse_0 rfl (lv_at hl 0 rfl) ?_
  refine lv_iload_n hx hb dM_parse_1 rfl (lv_at hl 1 rfl) ?_
  obtain ⟨r1, s1, hc1, hf⟩ := jB_some hf
  refine jcall_v (va_runV (C := RcM) (As := [.int a0]) (rest := []) ⟨hx, hb, hml, hown, hts⟩ ((cM_cut l dC dI cI cC cL sk sv ad N a0 z0 s1 r1 hc1) _) ⟨(callB_of 1 hts (tb_good tw661) rfl rfl rfl (ht _ tw14) (ht _ tw658) (by decide +kernel) ⟨Nat.le_of_ble_eq_true rfl, Nat.le_of_ble_eq_true rfl⟩), ht _ tw660, ht _ (tb_sel pv_M_cut)⟩ (jpreV (jEn_ok sk sv) hC hA hK hN (wM_e0 cI cC ad z0) rfl rfl _) rfl rfl hl.1 rfl (lv_room (Nat.le_of_ble_eq_true rfl)) dM_parse_2 ⟨Nat.le_refl _, Nat.le_refl _⟩) hC hA (fun H locs hC => ?_)
  refine lv_iconst (v := 0) hx hb dM_parse_5 (by decide) ?_
  refine lv_istore_n (lv' := [(2, .int (0 : Int32)), (0, .ref (ad 0)), (1, .int a0)]) hx hb dM_parse_6 rfl hl (by decide) rfl (fun ls hl => ?_)
  exact L7 N a0 (0 : Int32) s1 ls _ _ (lv_sub hl [1, 2, 0] rfl) hC hf

def fM_sameLeaf_b56 (N : Nat) (k56 : Int32 → Int32 → Int32 → Int32 → Int32 → Int32 → jS → Option (Int32 × jS)) (x1 x2 x3 x4 x5 x6 : Int32) (s0 : jS) : Option (Int32 × jS) := (if x5 ≤ x6 then some ((1 : Int32), s0) else (if jIn x2 800 = true then (if jIn ((((60 : Int32) * x1) + jgA s0 5 (x2).toNatClampNeg) + x6) 120 = true then (if jIn x4 800 = true then (if jIn ((((60 : Int32) * x3) + jgA s0 5 (x4).toNatClampNeg) + x6) 120 = true then (if jgA s0 0 (((((60 : Int32) * x1) + jgA s0 5 (x2).toNatClampNeg) + x6)).toNatClampNeg = jgA s0 0 (((((60 : Int32) * x3) + jgA s0 5 (x4).toNatClampNeg) + x6)).toNatClampNeg then (if jIn x2 800 = true then (if jIn ((((61 : Int32) * x1) + jgA s0 5 (x2).toNatClampNeg) + x6) 122 = true then (if jIn x4 800 = true then (if jIn ((((61 : Int32) * x3) + jgA s0 5 (x4).toNatClampNeg) + x6) 122 = true then (if jgA s0 2 (((((61 : Int32) * x1) + jgA s0 5 (x2).toNatClampNeg) + x6)).toNatClampNeg = jgA s0 2 (((((61 : Int32) * x3) + jgA s0 5 (x4).toNatClampNeg) + x6)).toNatClampNeg then k56 x1 x2 x3 x4 x5 (x6 + (1 : Int32)) s0 else some ((0 : Int32), s0)) else none) else none) else none) else none) else some ((0 : Int32), s0)) else none) else none) else none) else none))
def fM_sameLeaf_56 (N : Nat) : Nat → Int32 → Int32 → Int32 → Int32 → Int32 → Int32 → jS → Option (Int32 × jS)
  | 0 => fun _ _ _ _ _ _ _ => none
  | n + 1 => fun x1 x2 x3 x4 x5 x6 s0 => fM_sameLeaf_b56 N (fM_sameLeaf_56 N n) x1 x2 x3 x4 x5 x6 s0
def fM_sameLeaf (N : Nat) (a0 a1 a2 a3 : Int32) (z0 : jS) : Option (Int32 × jS) := (if jIn a1 800 = true then (if jIn a1 800 = true then (if jIn a1 800 = true then (if jIn a3 800 = true then (if jgA z0 8 (a1).toNatClampNeg = jgA z0 8 (a3).toNatClampNeg then (if jIn a3 800 = true then (if jIn a3 800 = true then (if (jgA z0 6 (a1).toNatClampNeg - jgA z0 5 (a1).toNatClampNeg) = (jgA z0 6 (a3).toNatClampNeg - jgA z0 5 (a3).toNatClampNeg) then fM_sameLeaf_56 N N a0 a1 a2 a3 (jgA z0 6 (a1).toNatClampNeg - jgA z0 5 (a1).toNatClampNeg) (0 : Int32) z0 else some ((0 : Int32), z0)) else none) else none) else some ((0 : Int32), z0)) else none) else none) else none) else none)
set_option maxHeartbeats 4000000 in
set_option maxRecDepth 100000 in
theorem cM_sameLeaf (l : Launch) (dC : Nat → ClassId) (dI : Nat → Nat → Nat) (cI cC cL : ClassId) (sk sv : Nat → Nat) (ad : Nat → Nat) (N : Nat) (a0 a1 a2 a3 : Int32) (z0 z1 : jS) (r : Int32) (hf : fM_sameLeaf N a0 a1 a2 a3 z0 = some (r, z1)) : Ci l yM_sameLeaf (Cond.code yM_sameLeaf prog_8_method_29_code 7 (some .boolean) :: TB) ({ frames := 0, cells := 0, slots := 0, locals := 0 }) (dC, dI) vwCl [(cI, .int), (cC, .char), (cL, .object "SharedSyntax$Letters")] (jEn sk sv) [.ref (ad 0), .int a0, .int a1, .int a2, .int a3] (wM cI cC ad z0) (wM cI cC ad z1) r := by
  refine Ci_of (cc := prog_8_method_29_code) (maxL := 7) (ret := (some .boolean)) (by decide) rfl (Nat.le_of_ble_eq_true rfl) ?_
  intro p e s m below meth c ls F hl hK hN hC
  obtain ⟨hx, hb, hml, hown, hts, hr, hlk⟩ := F
  have ht : ∀ w ∈ TB, w.before [.ref (ad 0), .int a0, .int a1, .int a2, .int a3].toArray s = true := fun w h => hts w (List.mem_cons_of_mem _ h)
  have hA : ∀ q, s.heap.size ≤ q → va_A (wM cI cC ad z0) s.heap.size q := fun q h => Or.inr h
  have hl : lv_has ls 7 [(0, .ref (ad 0)), (1, .int a0), (2, .int a1), (3, .int a2), (4, .int a3)] := hl
  have L56 : ∀ (n : Nat) (x1 x2 x3 x4 x5 x6 : Int32) (s0 : jS) (ls : Array Slot) (H : Heap) (locs : List Loc), lv_has ls 7 [(0, .ref (ad 0)), (1, .int x1), (2, .int x2), (3, .int x3), (4, .int x4), (5, .int x5), (6, .int x6)] → jcx (dC, dI) vwCl (va_A (wM cI cC ad z0) s.heap.size) s.heap (wM cI cC ad s0) H locs → fM_sameLeaf_56 N n x1 x2 x3 x4 x5 x6 s0 = some (r, z1) → W p l e ({ frames := 0, cells := 0, slots := 0, locals := 0 }) s m [.ref (ad 0), .int a0, .int a1, .int a2, .int a3].toArray below meth c H locs 0 0 (MQ below (jQi (dC, dI) vwCl [(cI, .int), (cC, .char), (cL, .object "SharedSyntax$Letters")] (wM cI cC ad z0) (wM cI cC ad z1) s.heap.size r) [.ref (ad 0), .int a0, .int a1, .int a2, .int a3].toArray s 0 0 (va_A (wM cI cC ad z0) s.heap.size)) (F0 m 56 ls []) := by
    intro n
    induction n with
    | zero => exact fun _ _ _ _ _ _ _ _ _ _ _ _ hf => nomatch hf
    | succ n ih56 =>
      intro x1 x2 x3 x4 x5 x6 s0 ls H locs hl hC hf
      replace hf : fM_sameLeaf_b56 N (fM_sameLeaf_56 N n) x1 x2 x3 x4 x5 x6 s0 = some (r, z1) := hf
      generalize fM_sameLeaf_56 N n = k56 at ih56 hf
      unfold fM_sameLeaf_b56 at hf
      refine lv_iload hx hb dM_sameLeaf_56 (lv_at hl 6 rfl) ?_
      refine lv_iload hx hb dM_sameLeaf_58 (lv_at hl 5 rfl) ?_
      refine lv_icmp_ge (tgt := 157) hx hb dM_sameLeaf_60 (by decide) (fun c5601 => ?_) (fun c5601 => ?_)
      · replace hf := jif_t c5601 hf
        refine lv_iconst (v := 1) hx hb dM_sameLeaf_157 (by decide) ?_
        cases hf
        exact jret_z hx hb hr (by decide +kernel) hlk hC hK dM_sameLeaf_158
      · replace hf := jif_f c5601 hf
        refine lv_aload_n hx hb dM_sameLeaf_63 rfl (lv_at hl 0 rfl) ?_
        refine va_get (D := (dC, dI)) (ci := 6) (v := .ref (ad 1)) (C := RcM) (T := TcM) (N := 43) hx hb ht in_cM hown hK hC.1 0 (wM_e0 cI cC ad s0) rfl 1 (by decide) (ht _ tw761) (fun _ h9 => h9) rfl dM_sameLeaf_64 ?_
        refine lv_bipush (v := 60) hx hb dM_sameLeaf_67 (by decide) ?_
        refine lv_iload_n hx hb dM_sameLeaf_69 rfl (lv_at hl 1 rfl) ?_
        refine lv_imul hx hb dM_sameLeaf_70 ?_
        refine lv_aload_n hx hb dM_sameLeaf_71 rfl (lv_at hl 0 rfl) ?_
        refine va_get (D := (dC, dI)) (ci := 6) (v := .ref (ad 6)) (C := RcM) (T := TcM) (N := 43) hx hb ht in_cM hown hK hC.1 0 (wM_e0 cI cC ad s0) rfl 6 (by decide) (ht _ tw766) (fun _ h9 => h9) rfl dM_sameLeaf_72 ?_
        refine lv_iload_n hx hb dM_sameLeaf_75 rfl (lv_at hl 2 rfl) ?_
        obtain ⟨hi5602, hf⟩ := jC_in hf
        refine va_iald hx hb hK hC.1 6 0 (wM_e6 cI cC ad s0) rfl hi5602 dM_sameLeaf_76 ?_
        refine lv_iadd hx hb dM_sameLeaf_77 ?_
        refine lv_iload hx hb dM_sameLeaf_78 (lv_at hl 6 rfl) ?_
        refine lv_iadd hx hb dM_sameLeaf_80 ?_
        obtain ⟨hi5603, hf⟩ := jC_in hf
        refine va_cald hx hb hK hC.1 1 1 (wM_e1 cI cC ad s0) rfl hi5603 dM_sameLeaf_81 ?_
        refine lv_aload_n hx hb dM_sameLeaf_82 rfl (lv_at hl 0 rfl) ?_
        refine va_get (D := (dC, dI)) (ci := 6) (v := .ref (ad 1)) (C := RcM) (T := TcM) (N := 43) hx hb ht in_cM hown hK hC.1 0 (wM_e0 cI cC ad s0) rfl 1 (by decide) (ht _ tw761) (fun _ h9 => h9) rfl dM_sameLeaf_83 ?_
        refine lv_bipush (v := 60) hx hb dM_sameLeaf_86 (by decide) ?_
        refine lv_iload_n hx hb dM_sameLeaf_88 rfl (lv_at hl 3 rfl) ?_
        refine lv_imul hx hb dM_sameLeaf_89 ?_
        refine lv_aload_n hx hb dM_sameLeaf_90 rfl (lv_at hl 0 rfl) ?_
        refine va_get (D := (dC, dI)) (ci := 6) (v := .ref (ad 6)) (C := RcM) (T := TcM) (N := 43) hx hb ht in_cM hown hK hC.1 0 (wM_e0 cI cC ad s0) rfl 6 (by decide) (ht _ tw766) (fun _ h9 => h9) rfl dM_sameLeaf_91 ?_
        refine lv_iload hx hb dM_sameLeaf_94 (lv_at hl 4 rfl) ?_
        obtain ⟨hi5604, hf⟩ := jC_in hf
        refine va_iald hx hb hK hC.1 6 0 (wM_e6 cI cC ad s0) rfl hi5604 dM_sameLeaf_96 ?_
        refine lv_iadd hx hb dM_sameLeaf_97 ?_
        refine lv_iload hx hb dM_sameLeaf_98 (lv_at hl 6 rfl) ?_
        refine lv_iadd hx hb dM_sameLeaf_100 ?_
        obtain ⟨hi5605, hf⟩ := jC_in hf
        refine va_cald hx hb hK hC.1 1 1 (wM_e1 cI cC ad s0) rfl hi5605 dM_sameLeaf_101 ?_
        refine lv_icmp_eq (tgt := 107) hx hb dM_sameLeaf_102 (by decide) (fun c5606 => ?_) (fun c5606 => ?_)
        · replace hf := jif_t c5606 hf
          refine lv_aload_n hx hb dM_sameLeaf_107 rfl (lv_at hl 0 rfl) ?_
          refine va_get (D := (dC, dI)) (ci := 6) (v := .ref (ad 3)) (C := RcM) (T := TcM) (N := 43) hx hb ht in_cM hown hK hC.1 0 (wM_e0 cI cC ad s0) rfl 3 (by decide) (ht _ tw763) (fun _ h9 => h9) rfl dM_sameLeaf_108 ?_
          refine lv_bipush (v := 61) hx hb dM_sameLeaf_111 (by decide) ?_
          refine lv_iload_n hx hb dM_sameLeaf_113 rfl (lv_at hl 1 rfl) ?_
          refine lv_imul hx hb dM_sameLeaf_114 ?_
          refine lv_aload_n hx hb dM_sameLeaf_115 rfl (lv_at hl 0 rfl) ?_
          refine va_get (D := (dC, dI)) (ci := 6) (v := .ref (ad 6)) (C := RcM) (T := TcM) (N := 43) hx hb ht in_cM hown hK hC.1 0 (wM_e0 cI cC ad s0) rfl 6 (by decide) (ht _ tw766) (fun _ h9 => h9) rfl dM_sameLeaf_116 ?_
          refine lv_iload_n hx hb dM_sameLeaf_119 rfl (lv_at hl 2 rfl) ?_
          obtain ⟨hi5607, hf⟩ := jC_in hf
          refine va_iald hx hb hK hC.1 6 0 (wM_e6 cI cC ad s0) rfl hi5607 dM_sameLeaf_120 ?_
          refine lv_iadd hx hb dM_sameLeaf_121 ?_
          refine lv_iload hx hb dM_sameLeaf_122 (lv_at hl 6 rfl) ?_
          refine lv_iadd hx hb dM_sameLeaf_124 ?_
          obtain ⟨hi5608, hf⟩ := jC_in hf
          refine va_iald hx hb hK hC.1 3 0 (wM_e3 cI cC ad s0) rfl hi5608 dM_sameLeaf_125 ?_
          refine lv_aload_n hx hb dM_sameLeaf_126 rfl (lv_at hl 0 rfl) ?_
          refine va_get (D := (dC, dI)) (ci := 6) (v := .ref (ad 3)) (C := RcM) (T := TcM) (N := 43) hx hb ht in_cM hown hK hC.1 0 (wM_e0 cI cC ad s0) rfl 3 (by decide) (ht _ tw763) (fun _ h9 => h9) rfl dM_sameLeaf_127 ?_
          refine lv_bipush (v := 61) hx hb dM_sameLeaf_130 (by decide) ?_
          refine lv_iload_n hx hb dM_sameLeaf_132 rfl (lv_at hl 3 rfl) ?_
          refine lv_imul hx hb dM_sameLeaf_133 ?_
          refine lv_aload_n hx hb dM_sameLeaf_134 rfl (lv_at hl 0 rfl) ?_
          refine va_get (D := (dC, dI)) (ci := 6) (v := .ref (ad 6)) (C := RcM) (T := TcM) (N := 43) hx hb ht in_cM hown hK hC.1 0 (wM_e0 cI cC ad s0) rfl 6 (by decide) (ht _ tw766) (fun _ h9 => h9) rfl dM_sameLeaf_135 ?_
          refine lv_iload hx hb dM_sameLeaf_138 (lv_at hl 4 rfl) ?_
          obtain ⟨hi5609, hf⟩ := jC_in hf
          refine va_iald hx hb hK hC.1 6 0 (wM_e6 cI cC ad s0) rfl hi5609 dM_sameLeaf_140 ?_
          refine lv_iadd hx hb dM_sameLeaf_141 ?_
          refine lv_iload hx hb dM_sameLeaf_142 (lv_at hl 6 rfl) ?_
          refine lv_iadd hx hb dM_sameLeaf_144 ?_
          obtain ⟨hi5610, hf⟩ := jC_in hf
          refine va_iald hx hb hK hC.1 3 0 (wM_e3 cI cC ad s0) rfl hi5610 dM_sameLeaf_145 ?_
          refine lv_icmp_eq (tgt := 151) hx hb dM_sameLeaf_146 (by decide) (fun c5611 => ?_) (fun c5611 => ?_)
          · replace hf := jif_t c5611 hf
            refine lv_iinc (k := 6) (v := (x6 + (1 : Int32))) (lv' := [(6, .int (x6 + (1 : Int32))), (0, .ref (ad 0)), (1, .int x1), (2, .int x2), (3, .int x3), (4, .int x4), (5, .int x5)]) hx hb dM_sameLeaf_151 hl rfl rfl (by decide) rfl (fun ls hl => ?_)
            refine lv_goto (tgt := 56) hx hb dM_sameLeaf_154 (by decide) ?_
            exact ih56 x1 x2 x3 x4 x5 (x6 + (1 : Int32)) s0 ls _ _ (lv_sub hl [1, 2, 3, 4, 5, 6, 0] rfl) hC hf
          · replace hf := jif_f c5611 hf
            refine lv_iconst (v := 0) hx hb dM_sameLeaf_149 (by decide) ?_
            cases hf
            exact jret_z hx hb hr (by decide +kernel) hlk hC hK dM_sameLeaf_150
        · replace hf := jif_f c5606 hf
          refine lv_iconst (v := 0) hx hb dM_sameLeaf_105 (by decide) ?_
          cases hf
          exact jret_z hx hb hr (by decide +kernel) hlk hC hK dM_sameLeaf_106
  unfold fM_sameLeaf at hf
  refine lv_aload_n hx hb dM_sameLeaf_0 rfl (lv_at hl 0 rfl) ?_
  refine va_get (D := (dC, dI)) (ci := 6) (v := .ref (ad 7)) (C := RcM) (T := TcM) (N := 43) hx hb ht in_cM hown hK hC.1 0 (wM_e0 cI cC ad z0) rfl 7 (by decide) (ht _ tw767) (fun _ h9 => h9) rfl dM_sameLeaf_1 ?_
  refine lv_iload_n hx hb dM_sameLeaf_4 rfl (lv_at hl 2 rfl) ?_
  obtain ⟨hi1, hf⟩ := jC_in hf
  refine va_iald hx hb hK hC.1 7 0 (wM_e7 cI cC ad z0) rfl hi1 dM_sameLeaf_5 ?_
  refine lv_aload_n hx hb dM_sameLeaf_6 rfl (lv_at hl 0 rfl) ?_
  refine va_get (D := (dC, dI)) (ci := 6) (v := .ref (ad 6)) (C := RcM) (T := TcM) (N := 43) hx hb ht in_cM hown hK hC.1 0 (wM_e0 cI cC ad z0) rfl 6 (by decide) (ht _ tw766) (fun _ h9 => h9) rfl dM_sameLeaf_7 ?_
  refine lv_iload_n hx hb dM_sameLeaf_10 rfl (lv_at hl 2 rfl) ?_
  obtain ⟨hi2, hf⟩ := jC_in hf
  refine va_iald hx hb hK hC.1 6 0 (wM_e6 cI cC ad z0) rfl hi2 dM_sameLeaf_11 ?_
  refine lv_isub hx hb dM_sameLeaf_12 ?_
  refine lv_istore (lv' := [(5, .int (jgA z0 6 (a1).toNatClampNeg - jgA z0 5 (a1).toNatClampNeg)), (0, .ref (ad 0)), (1, .int a0), (2, .int a1), (3, .int a2), (4, .int a3)]) hx hb dM_sameLeaf_13 hl (by decide) rfl (fun ls hl => ?_)
  refine lv_aload_n hx hb dM_sameLeaf_15 rfl (lv_at hl 1 rfl) ?_
  refine va_get (D := (dC, dI)) (ci := 6) (v := .ref (ad 9)) (C := RcM) (T := TcM) (N := 43) hx hb ht in_cM hown hK hC.1 0 (wM_e0 cI cC ad z0) rfl 9 (by decide) (ht _ tw769) (fun _ h9 => h9) rfl dM_sameLeaf_16 ?_
  refine lv_iload_n hx hb dM_sameLeaf_19 rfl (lv_at hl 3 rfl) ?_
  obtain ⟨hi3, hf⟩ := jC_in hf
  refine va_iald hx hb hK hC.1 9 0 (wM_e9 cI cC ad z0) rfl hi3 dM_sameLeaf_20 ?_
  refine lv_aload_n hx hb dM_sameLeaf_21 rfl (lv_at hl 1 rfl) ?_
  refine va_get (D := (dC, dI)) (ci := 6) (v := .ref (ad 9)) (C := RcM) (T := TcM) (N := 43) hx hb ht in_cM hown hK hC.1 0 (wM_e0 cI cC ad z0) rfl 9 (by decide) (ht _ tw769) (fun _ h9 => h9) rfl dM_sameLeaf_22 ?_
  refine lv_iload hx hb dM_sameLeaf_25 (lv_at hl 5 rfl) ?_
  obtain ⟨hi4, hf⟩ := jC_in hf
  refine va_iald hx hb hK hC.1 9 0 (wM_e9 cI cC ad z0) rfl hi4 dM_sameLeaf_27 ?_
  refine lv_icmp_ne (tgt := 51) hx hb dM_sameLeaf_28 (by decide) (fun c5 => ?_) (fun c5 => ?_)
  · replace hf := jif_f c5 hf
    refine lv_iconst (v := 0) hx hb dM_sameLeaf_51 (by decide) ?_
    cases hf
    exact jret_z hx hb hr (by decide +kernel) hlk hC hK dM_sameLeaf_52
  · replace hf := jif_t c5 hf
    refine lv_iload hx hb dM_sameLeaf_31 (lv_at hl 0 rfl) ?_
    refine lv_aload_n hx hb dM_sameLeaf_33 rfl (lv_at hl 1 rfl) ?_
    refine va_get (D := (dC, dI)) (ci := 6) (v := .ref (ad 7)) (C := RcM) (T := TcM) (N := 43) hx hb ht in_cM hown hK hC.1 0 (wM_e0 cI cC ad z0) rfl 7 (by decide) (ht _ tw767) (fun _ h9 => h9) rfl dM_sameLeaf_34 ?_
    refine lv_iload hx hb dM_sameLeaf_37 (lv_at hl 5 rfl) ?_
    obtain ⟨hi6, hf⟩ := jC_in hf
    refine va_iald hx hb hK hC.1 7 0 (wM_e7 cI cC ad z0) rfl hi6 dM_sameLeaf_39 ?_
    refine lv_aload_n hx hb dM_sameLeaf_40 rfl (lv_at hl 1 rfl) ?_
    refine va_get (D := (dC, dI)) (ci := 6) (v := .ref (ad 6)) (C := RcM) (T := TcM) (N := 43) hx hb ht in_cM hown hK hC.1 0 (wM_e0 cI cC ad z0) rfl 6 (by decide) (ht _ tw766) (fun _ h9 => h9) rfl dM_sameLeaf_41 ?_
    refine lv_iload hx hb dM_sameLeaf_44 (lv_at hl 5 rfl) ?_
    obtain ⟨hi7, hf⟩ := jC_in hf
    refine va_iald hx hb hK hC.1 6 0 (wM_e6 cI cC ad z0) rfl hi7 dM_sameLeaf_46 ?_
    refine lv_isub hx hb dM_sameLeaf_47 ?_
    refine lv_icmp_eq (tgt := 53) hx hb dM_sameLeaf_48 (by decide) (fun c8 => ?_) (fun c8 => ?_)
    · replace hf := jif_t c8 hf
      refine lv_iconst (v := 0) hx hb dM_sameLeaf_53 (by decide) ?_
      refine lv_istore (lv' := [(6, .int (0 : Int32)), (5, .int (jgA z0 6 (a1).toNatClampNeg - jgA z0 5 (a1).toNatClampNeg)), (0, .ref (ad 0)), (1, .int a0), (2, .int a1), (3, .int a2), (4, .int a3)]) hx hb dM_sameLeaf_54 hl (by decide) rfl (fun ls hl => ?_)
      exact L56 N a0 a1 a2 a3 (jgA z0 6 (a1).toNatClampNeg - jgA z0 5 (a1).toNatClampNeg) (0 : Int32) z0 ls _ _ (lv_sub hl [2, 3, 4, 5, 6, 1, 0] rfl) hC hf
    · replace hf := jif_f c8 hf
      refine lv_iconst (v := 0) hx hb dM_sameLeaf_51 (by decide) ?_
      cases hf
      exact jret_z hx hb hr (by decide +kernel) hlk hC hK dM_sameLeaf_52

def fM_alike_b41 (N : Nat) (k41 : Int32 → Int32 → Int32 → Int32 → Int32 → jS → Option (Int32 × jS)) (x1 x3 x5 x6 x7 : Int32) (s0 : jS) : Option (Int32 × jS) := (if jIn x5 800 = true then (if jgA s0 11 (x5).toNatClampNeg ≤ x7 then some ((1 : Int32), s0) else (if jIn (x5 + x7) 800 = true then (if jIn (x6 + x7) 800 = true then (if jgA s0 4 ((x5 + x7)).toNatClampNeg = jgA s0 4 ((x6 + x7)).toNatClampNeg then (if jIn (x5 + x7) 800 = true then (if jIn (x6 + x7) 800 = true then (if jgA s0 9 ((x5 + x7)).toNatClampNeg = jgA s0 9 ((x6 + x7)).toNatClampNeg then (if jIn (x5 + x7) 800 = true then (if jgA s0 9 ((x5 + x7)).toNatClampNeg = 0 then (jB (fM_sameLeaf N x1 (x5 + x7) x3 (x6 + x7) s0) fun r4111 s4111 => (if r4111 = 0 then some ((0 : Int32), s4111) else k41 x1 x3 x5 x6 (x7 + (1 : Int32)) s4111)) else k41 x1 x3 x5 x6 (x7 + (1 : Int32)) s0) else none) else some ((0 : Int32), s0)) else none) else none) else some ((0 : Int32), s0)) else none) else none)) else none)
def fM_alike_41 (N : Nat) : Nat → Int32 → Int32 → Int32 → Int32 → Int32 → jS → Option (Int32 × jS)
  | 0 => fun _ _ _ _ _ _ => none
  | n + 1 => fun x1 x3 x5 x6 x7 s0 => fM_alike_b41 N (fM_alike_41 N n) x1 x3 x5 x6 x7 s0
def fM_alike (N : Nat) (a0 a1 a2 a3 : Int32) (z0 : jS) : Option (Int32 × jS) := (if jIn (((400 : Int32) * a0) + a1) 800 = true then (if jIn (((400 : Int32) * a2) + a3) 800 = true then (if jgA z0 11 ((((400 : Int32) * a0) + a1)).toNatClampNeg = jgA z0 11 ((((400 : Int32) * a2) + a3)).toNatClampNeg then fM_alike_41 N N a0 a2 (((400 : Int32) * a0) + a1) (((400 : Int32) * a2) + a3) (0 : Int32) z0 else some ((0 : Int32), z0)) else none) else none)
set_option maxHeartbeats 4000000 in
set_option maxRecDepth 100000 in
theorem cM_alike (l : Launch) (dC : Nat → ClassId) (dI : Nat → Nat → Nat) (cI cC cL : ClassId) (sk sv : Nat → Nat) (ad : Nat → Nat) (N : Nat) (a0 a1 a2 a3 : Int32) (z0 z1 : jS) (r : Int32) (hf : fM_alike N a0 a1 a2 a3 z0 = some (r, z1)) : Ci l yM_alike (Cond.code yM_alike prog_8_method_30_code 8 (some .boolean) :: TB) ({ frames := 1, cells := 0, slots := 0, locals := 26 }) (dC, dI) vwCl [(cI, .int), (cC, .char), (cL, .object "SharedSyntax$Letters")] (jEn sk sv) [.ref (ad 0), .int a0, .int a1, .int a2, .int a3] (wM cI cC ad z0) (wM cI cC ad z1) r := by
  refine Ci_of (cc := prog_8_method_30_code) (maxL := 8) (ret := (some .boolean)) (by decide) rfl (Nat.le_of_ble_eq_true rfl) ?_
  intro p e s m below meth c ls F hl hK hN hC
  obtain ⟨hx, hb, hml, hown, hts, hr, hlk⟩ := F
  have ht : ∀ w ∈ TB, w.before [.ref (ad 0), .int a0, .int a1, .int a2, .int a3].toArray s = true := fun w h => hts w (List.mem_cons_of_mem _ h)
  have hA : ∀ q, s.heap.size ≤ q → va_A (wM cI cC ad z0) s.heap.size q := fun q h => Or.inr h
  have hl : lv_has ls 8 [(0, .ref (ad 0)), (1, .int a0), (2, .int a1), (3, .int a2), (4, .int a3)] := hl
  have L41 : ∀ (n : Nat) (x1 x3 x5 x6 x7 : Int32) (s0 : jS) (ls : Array Slot) (H : Heap) (locs : List Loc), lv_has ls 8 [(0, .ref (ad 0)), (1, .int x1), (3, .int x3), (5, .int x5), (6, .int x6), (7, .int x7)] → jcx (dC, dI) vwCl (va_A (wM cI cC ad z0) s.heap.size) s.heap (wM cI cC ad s0) H locs → fM_alike_41 N n x1 x3 x5 x6 x7 s0 = some (r, z1) → W p l e ({ frames := 1, cells := 0, slots := 0, locals := 26 }) s m [.ref (ad 0), .int a0, .int a1, .int a2, .int a3].toArray below meth c H locs 0 0 (MQ below (jQi (dC, dI) vwCl [(cI, .int), (cC, .char), (cL, .object "SharedSyntax$Letters")] (wM cI cC ad z0) (wM cI cC ad z1) s.heap.size r) [.ref (ad 0), .int a0, .int a1, .int a2, .int a3].toArray s 0 0 (va_A (wM cI cC ad z0) s.heap.size)) (F0 m 41 ls []) := by
    intro n
    induction n with
    | zero => exact fun _ _ _ _ _ _ _ _ _ _ _ hf => nomatch hf
    | succ n ih41 =>
      intro x1 x3 x5 x6 x7 s0 ls H locs hl hC hf
      replace hf : fM_alike_b41 N (fM_alike_41 N n) x1 x3 x5 x6 x7 s0 = some (r, z1) := hf
      generalize fM_alike_41 N n = k41 at ih41 hf
      unfold fM_alike_b41 at hf
      refine lv_iload hx hb dM_alike_41 (lv_at hl 5 rfl) ?_
      refine lv_aload_n hx hb dM_alike_43 rfl (lv_at hl 0 rfl) ?_
      refine va_get (D := (dC, dI)) (ci := 6) (v := .ref (ad 12)) (C := RcM) (T := TcM) (N := 43) hx hb ht in_cM hown hK hC.1 0 (wM_e0 cI cC ad s0) rfl 12 (by decide) (ht _ tw772) (fun _ h9 => h9) rfl dM_alike_44 ?_
      refine lv_iload hx hb dM_alike_47 (lv_at hl 3 rfl) ?_
      obtain ⟨hi4101, hf⟩ := jC_in hf
      refine va_iald hx hb hK hC.1 12 0 (wM_e12 cI cC ad s0) rfl hi4101 dM_alike_49 ?_
      refine lv_icmp_ge (tgt := 141) hx hb dM_alike_50 (by decide) (fun c4102 => ?_) (fun c4102 => ?_)
      · replace hf := jif_t c4102 hf
        refine lv_iconst (v := 1) hx hb dM_alike_141 (by decide) ?_
        cases hf
        exact jret_z hx hb hr (by decide +kernel) hlk hC hK dM_alike_142
      · replace hf := jif_f c4102 hf
        refine lv_aload_n hx hb dM_alike_53 rfl (lv_at hl 0 rfl) ?_
        refine va_get (D := (dC, dI)) (ci := 6) (v := .ref (ad 5)) (C := RcM) (T := TcM) (N := 43) hx hb ht in_cM hown hK hC.1 0 (wM_e0 cI cC ad s0) rfl 5 (by decide) (ht _ tw765) (fun _ h9 => h9) rfl dM_alike_54 ?_
        refine lv_iload hx hb dM_alike_57 (lv_at hl 3 rfl) ?_
        refine lv_iload hx hb dM_alike_59 (lv_at hl 5 rfl) ?_
        refine lv_iadd hx hb dM_alike_61 ?_
        obtain ⟨hi4103, hf⟩ := jC_in hf
        refine va_iald hx hb hK hC.1 5 0 (wM_e5 cI cC ad s0) rfl hi4103 dM_alike_62 ?_
        refine lv_aload_n hx hb dM_alike_63 rfl (lv_at hl 0 rfl) ?_
        refine va_get (D := (dC, dI)) (ci := 6) (v := .ref (ad 5)) (C := RcM) (T := TcM) (N := 43) hx hb ht in_cM hown hK hC.1 0 (wM_e0 cI cC ad s0) rfl 5 (by decide) (ht _ tw765) (fun _ h9 => h9) rfl dM_alike_64 ?_
        refine lv_iload hx hb dM_alike_67 (lv_at hl 4 rfl) ?_
        refine lv_iload hx hb dM_alike_69 (lv_at hl 5 rfl) ?_
        refine lv_iadd hx hb dM_alike_71 ?_
        obtain ⟨hi4104, hf⟩ := jC_in hf
        refine va_iald hx hb hK hC.1 5 0 (wM_e5 cI cC ad s0) rfl hi4104 dM_alike_72 ?_
        refine lv_icmp_ne (tgt := 99) hx hb dM_alike_73 (by decide) (fun c4105 => ?_) (fun c4105 => ?_)
        · replace hf := jif_f c4105 hf
          refine lv_iconst (v := 0) hx hb dM_alike_99 (by decide) ?_
          cases hf
          exact jret_z hx hb hr (by decide +kernel) hlk hC hK dM_alike_100
        · replace hf := jif_t c4105 hf
          refine lv_aload_n hx hb dM_alike_76 rfl (lv_at hl 0 rfl) ?_
          refine va_get (D := (dC, dI)) (ci := 6) (v := .ref (ad 10)) (C := RcM) (T := TcM) (N := 43) hx hb ht in_cM hown hK hC.1 0 (wM_e0 cI cC ad s0) rfl 10 (by decide) (ht _ tw770) (fun _ h9 => h9) rfl dM_alike_77 ?_
          refine lv_iload hx hb dM_alike_80 (lv_at hl 3 rfl) ?_
          refine lv_iload hx hb dM_alike_82 (lv_at hl 5 rfl) ?_
          refine lv_iadd hx hb dM_alike_84 ?_
          obtain ⟨hi4106, hf⟩ := jC_in hf
          refine va_iald hx hb hK hC.1 10 0 (wM_e10 cI cC ad s0) rfl hi4106 dM_alike_85 ?_
          refine lv_aload_n hx hb dM_alike_86 rfl (lv_at hl 0 rfl) ?_
          refine va_get (D := (dC, dI)) (ci := 6) (v := .ref (ad 10)) (C := RcM) (T := TcM) (N := 43) hx hb ht in_cM hown hK hC.1 0 (wM_e0 cI cC ad s0) rfl 10 (by decide) (ht _ tw770) (fun _ h9 => h9) rfl dM_alike_87 ?_
          refine lv_iload hx hb dM_alike_90 (lv_at hl 4 rfl) ?_
          refine lv_iload hx hb dM_alike_92 (lv_at hl 5 rfl) ?_
          refine lv_iadd hx hb dM_alike_94 ?_
          obtain ⟨hi4107, hf⟩ := jC_in hf
          refine va_iald hx hb hK hC.1 10 0 (wM_e10 cI cC ad s0) rfl hi4107 dM_alike_95 ?_
          refine lv_icmp_eq (tgt := 101) hx hb dM_alike_96 (by decide) (fun c4108 => ?_) (fun c4108 => ?_)
          · replace hf := jif_t c4108 hf
            refine lv_aload_n hx hb dM_alike_101 rfl (lv_at hl 0 rfl) ?_
            refine va_get (D := (dC, dI)) (ci := 6) (v := .ref (ad 10)) (C := RcM) (T := TcM) (N := 43) hx hb ht in_cM hown hK hC.1 0 (wM_e0 cI cC ad s0) rfl 10 (by decide) (ht _ tw770) (fun _ h9 => h9) rfl dM_alike_102 ?_
            refine lv_iload hx hb dM_alike_105 (lv_at hl 3 rfl) ?_
            refine lv_iload hx hb dM_alike_107 (lv_at hl 5 rfl) ?_
            refine lv_iadd hx hb dM_alike_109 ?_
            obtain ⟨hi4109, hf⟩ := jC_in hf
            refine va_iald hx hb hK hC.1 10 0 (wM_e10 cI cC ad s0) rfl hi4109 dM_alike_110 ?_
            refine lv_if_ne (tgt := 135) hx hb dM_alike_111 (by decide) (fun c4110 => ?_) (fun c4110 => ?_)
            · replace hf := jif_f c4110 hf
              refine lv_iinc (k := 5) (v := (x7 + (1 : Int32))) (lv' := [(7, .int (x7 + (1 : Int32))), (0, .ref (ad 0)), (1, .int x1), (3, .int x3), (5, .int x5), (6, .int x6)]) hx hb dM_alike_135 hl rfl rfl (by decide) rfl (fun ls hl => ?_)
              refine lv_goto (tgt := 41) hx hb dM_alike_138 (by decide) ?_
              exact ih41 x1 x3 x5 x6 (x7 + (1 : Int32)) s0 ls _ _ (lv_sub hl [1, 2, 3, 4, 5, 0] rfl) hC hf
            · replace hf := jif_t c4110 hf
              refine lv_aload_n hx hb dM_alike_114 rfl (lv_at hl 0 rfl) ?_
              refine lv_iload_n hx hb dM_alike_115 rfl (lv_at hl 1 rfl) ?_
              refine lv_iload hx hb dM_alike_116 (lv_at hl 3 rfl) ?_
              refine lv_iload hx hb dM_alike_118 (lv_at hl 5 rfl) ?_
              refine lv_iadd hx hb dM_alike_120 ?_
              refine lv_iload_n hx hb dM_alike_121 rfl (lv_at hl 2 rfl) ?_
              refine lv_iload hx hb dM_alike_122 (lv_at hl 4 rfl) ?_
              refine lv_iload hx hb dM_alike_124 (lv_at hl 5 rfl) ?_
              refine lv_iadd hx hb dM_alike_126 ?_
              obtain ⟨r4111, s4111, hc4111, hf⟩ := jB_some hf
              refine jcall_i (va_runV (C := RcM) (As := [.int x1, .int (x5 + x7), .int x3, .int (x6 + x7)]) (rest := []) ⟨hx, hb, hml, hown, hts⟩ ((cM_sameLeaf l dC dI cI cC cL sk sv ad N x1 (x5 + x7) x3 (x6 + x7) s0 s4111 r4111 hc4111) _) ⟨(callB_of 4 hts (tb_good tw914) rfl rfl rfl (ht _ tw14) (ht _ tw911) (by decide +kernel) ⟨Nat.le_of_ble_eq_true rfl, Nat.le_of_ble_eq_true rfl⟩), ht _ tw913, ht _ (tb_sel pv_M_sameLeaf)⟩ (jpreV (jEn_ok sk sv) hC hA hK hN (wM_e0 cI cC ad s0) rfl rfl _) rfl rfl hl.1 rfl (lv_room (Nat.le_of_ble_eq_true rfl)) dM_alike_127 ⟨Nat.le_refl _, Nat.le_refl _⟩) hC hA (fun H locs hC => ?_)
              refine lv_if_ne (tgt := 135) hx hb dM_alike_130 (by decide) (fun c4112 => ?_) (fun c4112 => ?_)
              · replace hf := jif_f c4112 hf
                refine lv_iinc (k := 5) (v := (x7 + (1 : Int32))) (lv' := [(7, .int (x7 + (1 : Int32))), (0, .ref (ad 0)), (1, .int x1), (3, .int x3), (5, .int x5), (6, .int x6)]) hx hb dM_alike_135 hl rfl rfl (by decide) rfl (fun ls hl => ?_)
                refine lv_goto (tgt := 41) hx hb dM_alike_138 (by decide) ?_
                exact ih41 x1 x3 x5 x6 (x7 + (1 : Int32)) s4111 ls _ _ (lv_sub hl [1, 2, 3, 4, 5, 0] rfl) hC hf
              · replace hf := jif_t c4112 hf
                refine lv_iconst (v := 0) hx hb dM_alike_133 (by decide) ?_
                cases hf
                exact jret_z hx hb hr (by decide +kernel) hlk hC hK dM_alike_134
          · replace hf := jif_f c4108 hf
            refine lv_iconst (v := 0) hx hb dM_alike_99 (by decide) ?_
            cases hf
            exact jret_z hx hb hr (by decide +kernel) hlk hC hK dM_alike_100
  unfold fM_alike at hf
  refine lv_sipush (v := 400) hx hb dM_alike_0 (by decide) ?_
  refine lv_iload_n hx hb dM_alike_3 rfl (lv_at hl 1 rfl) ?_
  refine lv_imul hx hb dM_alike_4 ?_
  refine lv_iload_n hx hb dM_alike_5 rfl (lv_at hl 2 rfl) ?_
  refine lv_iadd hx hb dM_alike_6 ?_
  refine lv_istore (lv' := [(5, .int (((400 : Int32) * a0) + a1)), (0, .ref (ad 0)), (1, .int a0), (2, .int a1), (3, .int a2), (4, .int a3)]) hx hb dM_alike_7 hl (by decide) rfl (fun ls hl => ?_)
  refine lv_sipush (v := 400) hx hb dM_alike_9 (by decide) ?_
  refine lv_iload_n hx hb dM_alike_12 rfl (lv_at hl 4 rfl) ?_
  refine lv_imul hx hb dM_alike_13 ?_
  refine lv_iload hx hb dM_alike_14 (lv_at hl 5 rfl) ?_
  refine lv_iadd hx hb dM_alike_16 ?_
  refine lv_istore (lv' := [(6, .int (((400 : Int32) * a2) + a3)), (5, .int (((400 : Int32) * a0) + a1)), (0, .ref (ad 0)), (1, .int a0), (2, .int a1), (3, .int a2), (4, .int a3)]) hx hb dM_alike_17 hl (by decide) rfl (fun ls hl => ?_)
  refine lv_aload_n hx hb dM_alike_19 rfl (lv_at hl 2 rfl) ?_
  refine va_get (D := (dC, dI)) (ci := 6) (v := .ref (ad 12)) (C := RcM) (T := TcM) (N := 43) hx hb ht in_cM hown hK hC.1 0 (wM_e0 cI cC ad z0) rfl 12 (by decide) (ht _ tw772) (fun _ h9 => h9) rfl dM_alike_20 ?_
  refine lv_iload hx hb dM_alike_23 (lv_at hl 1 rfl) ?_
  obtain ⟨hi1, hf⟩ := jC_in hf
  refine va_iald hx hb hK hC.1 12 0 (wM_e12 cI cC ad z0) rfl hi1 dM_alike_25 ?_
  refine lv_aload_n hx hb dM_alike_26 rfl (lv_at hl 2 rfl) ?_
  refine va_get (D := (dC, dI)) (ci := 6) (v := .ref (ad 12)) (C := RcM) (T := TcM) (N := 43) hx hb ht in_cM hown hK hC.1 0 (wM_e0 cI cC ad z0) rfl 12 (by decide) (ht _ tw772) (fun _ h9 => h9) rfl dM_alike_27 ?_
  refine lv_iload hx hb dM_alike_30 (lv_at hl 0 rfl) ?_
  obtain ⟨hi2, hf⟩ := jC_in hf
  refine va_iald hx hb hK hC.1 12 0 (wM_e12 cI cC ad z0) rfl hi2 dM_alike_32 ?_
  refine lv_icmp_eq (tgt := 38) hx hb dM_alike_33 (by decide) (fun c3 => ?_) (fun c3 => ?_)
  · replace hf := jif_t c3 hf
    refine lv_iconst (v := 0) hx hb dM_alike_38 (by decide) ?_
    refine lv_istore (lv' := [(7, .int (0 : Int32)), (6, .int (((400 : Int32) * a2) + a3)), (5, .int (((400 : Int32) * a0) + a1)), (0, .ref (ad 0)), (1, .int a0), (2, .int a1), (3, .int a2), (4, .int a3)]) hx hb dM_alike_39 hl (by decide) rfl (fun ls hl => ?_)
    exact L41 N a0 a2 (((400 : Int32) * a0) + a1) (((400 : Int32) * a2) + a3) (0 : Int32) z0 ls _ _ (lv_sub hl [3, 4, 6, 2, 1, 0] rfl) hC hf
  · replace hf := jif_f c3 hf
    refine lv_iconst (v := 0) hx hb dM_alike_36 (by decide) ?_
    cases hf
    exact jret_z hx hb hr (by decide +kernel) hlk hC hK dM_alike_37

def fM_type_18 (N : Nat) (x1 : Int32) (s0 : jS) : Option (Int32 × jS) := (if jgI s0 4 < (20 : Int32) then (if jIn (jgI s0 4) 20 = true then (jL (jsA s0 14 (jgI s0 4).toNatClampNeg (vp_nar .char x1)) fun s1802 => (jL (jsI s1802 4 (jgI s1802 4 + (1 : Int32))) fun s1803 => some ((1 : Int32), s1803))) else none) else some ((0 : Int32), s0))
def fM_type (N : Nat) (a0 : Int32) (z0 : jS) : Option (Int32 × jS) := (if a0 = (10 : Int32) then fM_type_18 N a0 z0 else (if a0 < (32 : Int32) then some ((0 : Int32), z0) else (if (126 : Int32) < a0 then some ((0 : Int32), z0) else fM_type_18 N a0 z0)))
set_option maxHeartbeats 4000000 in
set_option maxRecDepth 100000 in
theorem cM_type (l : Launch) (dC : Nat → ClassId) (dI : Nat → Nat → Nat) (cI cC cL : ClassId) (sk sv : Nat → Nat) (ad : Nat → Nat) (N : Nat) (a0 : Int32) (z0 z1 : jS) (r : Int32) (hf : fM_type N a0 z0 = some (r, z1)) : Ci l yM_type (Cond.code yM_type prog_8_method_31_code 2 (some .boolean) :: TB) ({ frames := 0, cells := 0, slots := 0, locals := 0 }) (dC, dI) vwCl [(cI, .int), (cC, .char), (cL, .object "SharedSyntax$Letters")] (jEn sk sv) [.ref (ad 0), .int a0] (wM cI cC ad z0) (wM cI cC ad z1) r := by
  refine Ci_of (cc := prog_8_method_31_code) (maxL := 2) (ret := (some .boolean)) (by decide) rfl (Nat.le_of_ble_eq_true rfl) ?_
  intro p e s m below meth c ls F hl hK hN hC
  obtain ⟨hx, hb, hml, hown, hts, hr, hlk⟩ := F
  have ht : ∀ w ∈ TB, w.before [.ref (ad 0), .int a0].toArray s = true := fun w h => hts w (List.mem_cons_of_mem _ h)
  have hA : ∀ q, s.heap.size ≤ q → va_A (wM cI cC ad z0) s.heap.size q := fun q h => Or.inr h
  have hl : lv_has ls 2 [(0, .ref (ad 0)), (1, .int a0)] := hl
  have L18 : ∀ (x1 : Int32) (s0 : jS) (ls : Array Slot) (H : Heap) (locs : List Loc), lv_has ls 2 [(0, .ref (ad 0)), (1, .int x1)] → jcx (dC, dI) vwCl (va_A (wM cI cC ad z0) s.heap.size) s.heap (wM cI cC ad s0) H locs → fM_type_18 N x1 s0 = some (r, z1) → W p l e ({ frames := 0, cells := 0, slots := 0, locals := 0 }) s m [.ref (ad 0), .int a0].toArray below meth c H locs 0 0 (MQ below (jQi (dC, dI) vwCl [(cI, .int), (cC, .char), (cL, .object "SharedSyntax$Letters")] (wM cI cC ad z0) (wM cI cC ad z1) s.heap.size r) [.ref (ad 0), .int a0].toArray s 0 0 (va_A (wM cI cC ad z0) s.heap.size)) (F0 m 18 ls []) := by
    intro x1 s0 ls H locs hl hC hf
    unfold fM_type_18 at hf
    refine lv_aload_n hx hb dM_type_18 rfl (lv_at hl 0 rfl) ?_
    refine va_get (D := (dC, dI)) (ci := 6) (v := .int (jgI s0 4)) (C := RcM) (T := TcM) (N := 43) hx hb ht in_cM hown hK hC.1 0 (wM_e0 cI cC ad s0) rfl 19 (by decide) (ht _ tw779) (fun _ h9 => h9) rfl dM_type_19 ?_
    refine lv_bipush (v := 20) hx hb dM_type_22 (by decide) ?_
    refine lv_icmp_lt (tgt := 29) hx hb dM_type_24 (by decide) (fun c1801 => ?_) (fun c1801 => ?_)
    · replace hf := jif_t c1801 hf
      refine lv_aload_n hx hb dM_type_29 rfl (lv_at hl 0 rfl) ?_
      refine va_get (D := (dC, dI)) (ci := 6) (v := .ref (ad 15)) (C := RcM) (T := TcM) (N := 43) hx hb ht in_cM hown hK hC.1 0 (wM_e0 cI cC ad s0) rfl 18 (by decide) (ht _ tw778) (fun _ h9 => h9) rfl dM_type_30 ?_
      refine lv_aload_n hx hb dM_type_33 rfl (lv_at hl 0 rfl) ?_
      refine va_get (D := (dC, dI)) (ci := 6) (v := .int (jgI s0 4)) (C := RcM) (T := TcM) (N := 43) hx hb ht in_cM hown hK hC.1 0 (wM_e0 cI cC ad s0) rfl 19 (by decide) (ht _ tw779) (fun _ h9 => h9) rfl dM_type_34 ?_
      refine lv_iload_n hx hb dM_type_37 rfl (lv_at hl 1 rfl) ?_
      obtain ⟨hi1802, hf⟩ := jC_in hf
      obtain ⟨s1802, e1802, hf⟩ := jL_s hf
      refine jast_c hx hb hK hC 15 1 (wM_e15 cI cC ad s0) rfl hi1802 dM_type_38 ((wM_a14 cI cC ad s0 _ _).trans (congrArg (wM cI cC ad) e1802.symm)) (fun H locs hC => ?_)
      refine lv_aload_n hx hb dM_type_39 rfl (lv_at hl 0 rfl) ?_
      refine lv_dup hx hb dM_type_40 rfl ?_
      refine va_get (D := (dC, dI)) (ci := 6) (v := .int (jgI s1802 4)) (C := RcM) (T := TcM) (N := 43) hx hb ht in_cM hown hK hC.1 0 (wM_e0 cI cC ad s1802) rfl 19 (by decide) (ht _ tw779) (fun _ h9 => h9) rfl dM_type_41 ?_
      refine lv_iconst (v := 1) hx hb dM_type_44 (by decide) ?_
      refine lv_iadd hx hb dM_type_45 ?_
      obtain ⟨s1803, e1803, hf⟩ := jL_s hf
      refine jput (ci := 6) (C := RcM) (T := TcM) (N := 43) hx hb ht in_cM tycM tycM_ok nmcM hown hK hC 0 (wM_e0 cI cC ad s1802) rfl 19 (by decide) (ht _ tw779) (fun _ h9 => h9) rfl rfl (Nat.le_of_ble_eq_true rfl) dM_type_46 ((wM_p4 cI cC ad s1802 _).trans (congrArg (wM cI cC ad) e1803.symm)) (fun H locs hC => ?_)
      refine lv_iconst (v := 1) hx hb dM_type_49 (by decide) ?_
      cases hf
      exact jret_z hx hb hr (by decide +kernel) hlk hC hK dM_type_50
    · replace hf := jif_f c1801 hf
      refine lv_iconst (v := 0) hx hb dM_type_27 (by decide) ?_
      cases hf
      exact jret_z hx hb hr (by decide +kernel) hlk hC hK dM_type_28
  unfold fM_type at hf
  refine lv_iload_n hx hb dM_type_0 rfl (lv_at hl 1 rfl) ?_
  refine lv_bipush (v := 10) hx hb dM_type_1 (by decide) ?_
  refine lv_icmp_eq (tgt := 18) hx hb dM_type_3 (by decide) (fun c1 => ?_) (fun c1 => ?_)
  · replace hf := jif_t c1 hf
    exact L18 a0 z0 ls _ _ (lv_sub hl [0, 1] rfl) hC hf
  · replace hf := jif_f c1 hf
    refine lv_iload_n hx hb dM_type_6 rfl (lv_at hl 1 rfl) ?_
    refine lv_bipush (v := 32) hx hb dM_type_7 (by decide) ?_
    refine lv_icmp_lt (tgt := 27) hx hb dM_type_9 (by decide) (fun c2 => ?_) (fun c2 => ?_)
    · replace hf := jif_t c2 hf
      refine lv_iconst (v := 0) hx hb dM_type_27 (by decide) ?_
      cases hf
      exact jret_z hx hb hr (by decide +kernel) hlk hC hK dM_type_28
    · replace hf := jif_f c2 hf
      refine lv_iload_n hx hb dM_type_12 rfl (lv_at hl 1 rfl) ?_
      refine lv_bipush (v := 126) hx hb dM_type_13 (by decide) ?_
      refine lv_icmp_gt (tgt := 27) hx hb dM_type_15 (by decide) (fun c3 => ?_) (fun c3 => ?_)
      · replace hf := jif_t c3 hf
        refine lv_iconst (v := 0) hx hb dM_type_27 (by decide) ?_
        cases hf
        exact jret_z hx hb hr (by decide +kernel) hlk hC hK dM_type_28
      · replace hf := jif_f c3 hf
        exact L18 a0 z0 ls _ _ (lv_sub hl [0, 1] rfl) hC hf

def fM_keep_b68 (N : Nat) (k68 : Int32 → jS → Option (Int32 × jS)) (x1 : Int32) (s0 : jS) : Option (Int32 × jS) := (if jIn (jgI s0 0) 2 = true then (if jgA s0 1 (jgI s0 0).toNatClampNeg ≤ x1 then (if jIn (jgI s0 0) 2 = true then (if jIn (jgI s0 1) 3 = true then (jL (jsA s0 13 (jgI s0 1).toNatClampNeg (jgA s0 1 (jgI s0 0).toNatClampNeg)) fun s6804 => (jL (jsI s6804 1 (jgI s6804 1 + (1 : Int32))) fun s6805 => some (0, s6805))) else none) else none) else (if jIn (((60 : Int32) * jgI s0 0) + x1) 120 = true then (if jIn (((60 : Int32) * jgI s0 1) + x1) 180 = true then (jL (jsA s0 12 ((((60 : Int32) * jgI s0 1) + x1)).toNatClampNeg (vp_nar .char (jgA s0 0 ((((60 : Int32) * jgI s0 0) + x1)).toNatClampNeg))) fun s6807 => k68 (x1 + (1 : Int32)) s6807) else none) else none)) else none)
def fM_keep_68 (N : Nat) : Nat → Int32 → jS → Option (Int32 × jS)
  | 0 => fun _ _ => none
  | n + 1 => fun x1 s0 => fM_keep_b68 N (fM_keep_68 N n) x1 s0
def fM_keep_b10 (N : Nat) (k10 : Int32 → jS → Option (Int32 × jS)) (x1 : Int32) (s0 : jS) : Option (Int32 × jS) := (if (120 : Int32) ≤ x1 then (if jIn (1 : Int32) 3 = true then (if jIn (0 : Int32) 3 = true then (jL (jsA s0 13 ((0 : Int32)).toNatClampNeg (jgA s0 13 ((1 : Int32)).toNatClampNeg)) fun s1003 => (if jIn (2 : Int32) 3 = true then (if jIn (1 : Int32) 3 = true then (jL (jsA s1003 13 ((1 : Int32)).toNatClampNeg (jgA s1003 13 ((2 : Int32)).toNatClampNeg)) fun s1005 => (jL (jsI s1005 1 (2 : Int32)) fun s1006 => fM_keep_68 N N (0 : Int32) s1006)) else none) else none)) else none) else none) else (if jIn (x1 + (60 : Int32)) 180 = true then (if jIn x1 180 = true then (jL (jsA s0 12 (x1).toNatClampNeg (vp_nar .char (jgA s0 12 ((x1 + (60 : Int32))).toNatClampNeg))) fun s1008 => k10 (x1 + (1 : Int32)) s1008) else none) else none))
def fM_keep_10 (N : Nat) : Nat → Int32 → jS → Option (Int32 × jS)
  | 0 => fun _ _ => none
  | n + 1 => fun x1 s0 => fM_keep_b10 N (fM_keep_10 N n) x1 s0
def fM_keep (N : Nat) (z0 : jS) : Option (Int32 × jS) := (if jgI z0 1 = (3 : Int32) then fM_keep_10 N N (0 : Int32) z0 else fM_keep_68 N N (0 : Int32) z0)
set_option maxHeartbeats 4000000 in
set_option maxRecDepth 100000 in
theorem cM_keep (l : Launch) (dC : Nat → ClassId) (dI : Nat → Nat → Nat) (cI cC cL : ClassId) (sk sv : Nat → Nat) (ad : Nat → Nat) (N : Nat) (z0 z1 : jS) (r : Int32) (hf : fM_keep N z0 = some (r, z1)) : Cv l yM_keep (Cond.code yM_keep prog_8_method_32_code 2 none :: TB) ({ frames := 0, cells := 0, slots := 0, locals := 0 }) (dC, dI) vwCl [(cI, .int), (cC, .char), (cL, .object "SharedSyntax$Letters")] (jEn sk sv) [.ref (ad 0)] (wM cI cC ad z0) (wM cI cC ad z1) := by
  refine Cv_of (cc := prog_8_method_32_code) (maxL := 2) (ret := none) (by decide) rfl (Nat.le_of_ble_eq_true rfl) ?_
  intro p e s m below meth c ls F hl hK hN hC
  obtain ⟨hx, hb, hml, hown, hts, hr, hlk⟩ := F
  have ht : ∀ w ∈ TB, w.before [.ref (ad 0)].toArray s = true := fun w h => hts w (List.mem_cons_of_mem _ h)
  have hA : ∀ q, s.heap.size ≤ q → va_A (wM cI cC ad z0) s.heap.size q := fun q h => Or.inr h
  have hl : lv_has ls 2 [(0, .ref (ad 0))] := hl
  have L68 : ∀ (n : Nat) (x1 : Int32) (s0 : jS) (ls : Array Slot) (H : Heap) (locs : List Loc), lv_has ls 2 [(0, .ref (ad 0)), (1, .int x1)] → jcx (dC, dI) vwCl (va_A (wM cI cC ad z0) s.heap.size) s.heap (wM cI cC ad s0) H locs → fM_keep_68 N n x1 s0 = some (r, z1) → W p l e ({ frames := 0, cells := 0, slots := 0, locals := 0 }) s m [.ref (ad 0)].toArray below meth c H locs 0 0 (MQ below (jQv (dC, dI) vwCl [(cI, .int), (cC, .char), (cL, .object "SharedSyntax$Letters")] (wM cI cC ad z0) (wM cI cC ad z1) s.heap.size) [.ref (ad 0)].toArray s 0 0 (va_A (wM cI cC ad z0) s.heap.size)) (F0 m 68 ls []) := by
    intro n
    induction n with
    | zero => exact fun _ _ _ _ _ _ _ hf => nomatch hf
    | succ n ih68 =>
      intro x1 s0 ls H locs hl hC hf
      replace hf : fM_keep_b68 N (fM_keep_68 N n) x1 s0 = some (r, z1) := hf
      generalize fM_keep_68 N n = k68 at ih68 hf
      unfold fM_keep_b68 at hf
      refine lv_iload_n hx hb dM_keep_68 rfl (lv_at hl 1 rfl) ?_
      refine lv_aload_n hx hb dM_keep_69 rfl (lv_at hl 0 rfl) ?_
      refine va_get (D := (dC, dI)) (ci := 6) (v := .ref (ad 2)) (C := RcM) (T := TcM) (N := 43) hx hb ht in_cM hown hK hC.1 0 (wM_e0 cI cC ad s0) rfl 2 (by decide) (ht _ tw762) (fun _ h9 => h9) rfl dM_keep_70 ?_
      refine lv_aload_n hx hb dM_keep_73 rfl (lv_at hl 0 rfl) ?_
      refine va_get (D := (dC, dI)) (ci := 6) (v := .int (jgI s0 0)) (C := RcM) (T := TcM) (N := 43) hx hb ht in_cM hown hK hC.1 0 (wM_e0 cI cC ad s0) rfl 0 (by decide) (ht _ tw760) (fun _ h9 => h9) rfl dM_keep_74 ?_
      obtain ⟨hi6801, hf⟩ := jC_in hf
      refine va_iald hx hb hK hC.1 2 0 (wM_e2 cI cC ad s0) rfl hi6801 dM_keep_77 ?_
      refine lv_icmp_ge (tgt := 115) hx hb dM_keep_78 (by decide) (fun c6802 => ?_) (fun c6802 => ?_)
      · replace hf := jif_t c6802 hf
        refine lv_aload_n hx hb dM_keep_115 rfl (lv_at hl 0 rfl) ?_
        refine va_get (D := (dC, dI)) (ci := 6) (v := .ref (ad 14)) (C := RcM) (T := TcM) (N := 43) hx hb ht in_cM hown hK hC.1 0 (wM_e0 cI cC ad s0) rfl 14 (by decide) (ht _ tw774) (fun _ h9 => h9) rfl dM_keep_116 ?_
        refine lv_aload_n hx hb dM_keep_119 rfl (lv_at hl 0 rfl) ?_
        refine va_get (D := (dC, dI)) (ci := 6) (v := .int (jgI s0 1)) (C := RcM) (T := TcM) (N := 43) hx hb ht in_cM hown hK hC.1 0 (wM_e0 cI cC ad s0) rfl 15 (by decide) (ht _ tw775) (fun _ h9 => h9) rfl dM_keep_120 ?_
        refine lv_aload_n hx hb dM_keep_123 rfl (lv_at hl 0 rfl) ?_
        refine va_get (D := (dC, dI)) (ci := 6) (v := .ref (ad 2)) (C := RcM) (T := TcM) (N := 43) hx hb ht in_cM hown hK hC.1 0 (wM_e0 cI cC ad s0) rfl 2 (by decide) (ht _ tw762) (fun _ h9 => h9) rfl dM_keep_124 ?_
        refine lv_aload_n hx hb dM_keep_127 rfl (lv_at hl 0 rfl) ?_
        refine va_get (D := (dC, dI)) (ci := 6) (v := .int (jgI s0 0)) (C := RcM) (T := TcM) (N := 43) hx hb ht in_cM hown hK hC.1 0 (wM_e0 cI cC ad s0) rfl 0 (by decide) (ht _ tw760) (fun _ h9 => h9) rfl dM_keep_128 ?_
        obtain ⟨hi6803, hf⟩ := jC_in hf
        refine va_iald hx hb hK hC.1 2 0 (wM_e2 cI cC ad s0) rfl hi6803 dM_keep_131 ?_
        obtain ⟨hi6804, hf⟩ := jC_in hf
        obtain ⟨s6804, e6804, hf⟩ := jL_s hf
        refine jast_i hx hb hK hC 14 0 (wM_e14 cI cC ad s0) rfl hi6804 dM_keep_132 ((wM_a13 cI cC ad s0 _ _).trans (congrArg (wM cI cC ad) e6804.symm)) (fun H locs hC => ?_)
        refine lv_aload_n hx hb dM_keep_133 rfl (lv_at hl 0 rfl) ?_
        refine lv_dup hx hb dM_keep_134 rfl ?_
        refine va_get (D := (dC, dI)) (ci := 6) (v := .int (jgI s6804 1)) (C := RcM) (T := TcM) (N := 43) hx hb ht in_cM hown hK hC.1 0 (wM_e0 cI cC ad s6804) rfl 15 (by decide) (ht _ tw775) (fun _ h9 => h9) rfl dM_keep_135 ?_
        refine lv_iconst (v := 1) hx hb dM_keep_138 (by decide) ?_
        refine lv_iadd hx hb dM_keep_139 ?_
        obtain ⟨s6805, e6805, hf⟩ := jL_s hf
        refine jput (ci := 6) (C := RcM) (T := TcM) (N := 43) hx hb ht in_cM tycM tycM_ok nmcM hown hK hC 0 (wM_e0 cI cC ad s6804) rfl 15 (by decide) (ht _ tw775) (fun _ h9 => h9) rfl rfl (Nat.le_of_ble_eq_true rfl) dM_keep_140 ((wM_p1 cI cC ad s6804 _).trans (congrArg (wM cI cC ad) e6805.symm)) (fun H locs hC => ?_)
        cases hf
        exact jret_v hx hb hr hlk hC hK dM_keep_143
      · replace hf := jif_f c6802 hf
        refine lv_aload_n hx hb dM_keep_81 rfl (lv_at hl 0 rfl) ?_
        refine va_get (D := (dC, dI)) (ci := 6) (v := .ref (ad 13)) (C := RcM) (T := TcM) (N := 43) hx hb ht in_cM hown hK hC.1 0 (wM_e0 cI cC ad s0) rfl 13 (by decide) (ht _ tw773) (fun _ h9 => h9) rfl dM_keep_82 ?_
        refine lv_bipush (v := 60) hx hb dM_keep_85 (by decide) ?_
        refine lv_aload_n hx hb dM_keep_87 rfl (lv_at hl 0 rfl) ?_
        refine va_get (D := (dC, dI)) (ci := 6) (v := .int (jgI s0 1)) (C := RcM) (T := TcM) (N := 43) hx hb ht in_cM hown hK hC.1 0 (wM_e0 cI cC ad s0) rfl 15 (by decide) (ht _ tw775) (fun _ h9 => h9) rfl dM_keep_88 ?_
        refine lv_imul hx hb dM_keep_91 ?_
        refine lv_iload_n hx hb dM_keep_92 rfl (lv_at hl 1 rfl) ?_
        refine lv_iadd hx hb dM_keep_93 ?_
        refine lv_aload_n hx hb dM_keep_94 rfl (lv_at hl 0 rfl) ?_
        refine va_get (D := (dC, dI)) (ci := 6) (v := .ref (ad 1)) (C := RcM) (T := TcM) (N := 43) hx hb ht in_cM hown hK hC.1 0 (wM_e0 cI cC ad s0) rfl 1 (by decide) (ht _ tw761) (fun _ h9 => h9) rfl dM_keep_95 ?_
        refine lv_bipush (v := 60) hx hb dM_keep_98 (by decide) ?_
        refine lv_aload_n hx hb dM_keep_100 rfl (lv_at hl 0 rfl) ?_
        refine va_get (D := (dC, dI)) (ci := 6) (v := .int (jgI s0 0)) (C := RcM) (T := TcM) (N := 43) hx hb ht in_cM hown hK hC.1 0 (wM_e0 cI cC ad s0) rfl 0 (by decide) (ht _ tw760) (fun _ h9 => h9) rfl dM_keep_101 ?_
        refine lv_imul hx hb dM_keep_104 ?_
        refine lv_iload_n hx hb dM_keep_105 rfl (lv_at hl 1 rfl) ?_
        refine lv_iadd hx hb dM_keep_106 ?_
        obtain ⟨hi6806, hf⟩ := jC_in hf
        refine va_cald hx hb hK hC.1 1 1 (wM_e1 cI cC ad s0) rfl hi6806 dM_keep_107 ?_
        obtain ⟨hi6807, hf⟩ := jC_in hf
        obtain ⟨s6807, e6807, hf⟩ := jL_s hf
        refine jast_c hx hb hK hC 13 1 (wM_e13 cI cC ad s0) rfl hi6807 dM_keep_108 ((wM_a12 cI cC ad s0 _ _).trans (congrArg (wM cI cC ad) e6807.symm)) (fun H locs hC => ?_)
        refine lv_iinc (k := 1) (v := (x1 + (1 : Int32))) (lv' := [(1, .int (x1 + (1 : Int32))), (0, .ref (ad 0))]) hx hb dM_keep_109 hl rfl rfl (by decide) rfl (fun ls hl => ?_)
        refine lv_goto (tgt := 68) hx hb dM_keep_112 (by decide) ?_
        exact ih68 (x1 + (1 : Int32)) s6807 ls _ _ (lv_sub hl [1, 0] rfl) hC hf
  have L10 : ∀ (n : Nat) (x1 : Int32) (s0 : jS) (ls : Array Slot) (H : Heap) (locs : List Loc), lv_has ls 2 [(0, .ref (ad 0)), (1, .int x1)] → jcx (dC, dI) vwCl (va_A (wM cI cC ad z0) s.heap.size) s.heap (wM cI cC ad s0) H locs → fM_keep_10 N n x1 s0 = some (r, z1) → W p l e ({ frames := 0, cells := 0, slots := 0, locals := 0 }) s m [.ref (ad 0)].toArray below meth c H locs 0 0 (MQ below (jQv (dC, dI) vwCl [(cI, .int), (cC, .char), (cL, .object "SharedSyntax$Letters")] (wM cI cC ad z0) (wM cI cC ad z1) s.heap.size) [.ref (ad 0)].toArray s 0 0 (va_A (wM cI cC ad z0) s.heap.size)) (F0 m 10 ls []) := by
    intro n
    induction n with
    | zero => exact fun _ _ _ _ _ _ _ hf => nomatch hf
    | succ n ih10 =>
      intro x1 s0 ls H locs hl hC hf
      replace hf : fM_keep_b10 N (fM_keep_10 N n) x1 s0 = some (r, z1) := hf
      generalize fM_keep_10 N n = k10 at ih10 hf
      unfold fM_keep_b10 at hf
      refine lv_iload_n hx hb dM_keep_10 rfl (lv_at hl 1 rfl) ?_
      refine lv_bipush (v := 120) hx hb dM_keep_11 (by decide) ?_
      refine lv_icmp_ge (tgt := 37) hx hb dM_keep_13 (by decide) (fun c1001 => ?_) (fun c1001 => ?_)
      · replace hf := jif_t c1001 hf
        refine lv_aload_n hx hb dM_keep_37 rfl (lv_at hl 0 rfl) ?_
        refine va_get (D := (dC, dI)) (ci := 6) (v := .ref (ad 14)) (C := RcM) (T := TcM) (N := 43) hx hb ht in_cM hown hK hC.1 0 (wM_e0 cI cC ad s0) rfl 14 (by decide) (ht _ tw774) (fun _ h9 => h9) rfl dM_keep_38 ?_
        refine lv_iconst (v := 0) hx hb dM_keep_41 (by decide) ?_
        refine lv_aload_n hx hb dM_keep_42 rfl (lv_at hl 0 rfl) ?_
        refine va_get (D := (dC, dI)) (ci := 6) (v := .ref (ad 14)) (C := RcM) (T := TcM) (N := 43) hx hb ht in_cM hown hK hC.1 0 (wM_e0 cI cC ad s0) rfl 14 (by decide) (ht _ tw774) (fun _ h9 => h9) rfl dM_keep_43 ?_
        refine lv_iconst (v := 1) hx hb dM_keep_46 (by decide) ?_
        obtain ⟨hi1002, hf⟩ := jC_in hf
        refine va_iald hx hb hK hC.1 14 0 (wM_e14 cI cC ad s0) rfl hi1002 dM_keep_47 ?_
        obtain ⟨hi1003, hf⟩ := jC_in hf
        obtain ⟨s1003, e1003, hf⟩ := jL_s hf
        refine jast_i hx hb hK hC 14 0 (wM_e14 cI cC ad s0) rfl hi1003 dM_keep_48 ((wM_a13 cI cC ad s0 _ _).trans (congrArg (wM cI cC ad) e1003.symm)) (fun H locs hC => ?_)
        refine lv_aload_n hx hb dM_keep_49 rfl (lv_at hl 0 rfl) ?_
        refine va_get (D := (dC, dI)) (ci := 6) (v := .ref (ad 14)) (C := RcM) (T := TcM) (N := 43) hx hb ht in_cM hown hK hC.1 0 (wM_e0 cI cC ad s1003) rfl 14 (by decide) (ht _ tw774) (fun _ h9 => h9) rfl dM_keep_50 ?_
        refine lv_iconst (v := 1) hx hb dM_keep_53 (by decide) ?_
        refine lv_aload_n hx hb dM_keep_54 rfl (lv_at hl 0 rfl) ?_
        refine va_get (D := (dC, dI)) (ci := 6) (v := .ref (ad 14)) (C := RcM) (T := TcM) (N := 43) hx hb ht in_cM hown hK hC.1 0 (wM_e0 cI cC ad s1003) rfl 14 (by decide) (ht _ tw774) (fun _ h9 => h9) rfl dM_keep_55 ?_
        refine lv_iconst (v := 2) hx hb dM_keep_58 (by decide) ?_
        obtain ⟨hi1004, hf⟩ := jC_in hf
        refine va_iald hx hb hK hC.1 14 0 (wM_e14 cI cC ad s1003) rfl hi1004 dM_keep_59 ?_
        obtain ⟨hi1005, hf⟩ := jC_in hf
        obtain ⟨s1005, e1005, hf⟩ := jL_s hf
        refine jast_i hx hb hK hC 14 0 (wM_e14 cI cC ad s1003) rfl hi1005 dM_keep_60 ((wM_a13 cI cC ad s1003 _ _).trans (congrArg (wM cI cC ad) e1005.symm)) (fun H locs hC => ?_)
        refine lv_aload_n hx hb dM_keep_61 rfl (lv_at hl 0 rfl) ?_
        refine lv_iconst (v := 2) hx hb dM_keep_62 (by decide) ?_
        obtain ⟨s1006, e1006, hf⟩ := jL_s hf
        refine jput (ci := 6) (C := RcM) (T := TcM) (N := 43) hx hb ht in_cM tycM tycM_ok nmcM hown hK hC 0 (wM_e0 cI cC ad s1005) rfl 15 (by decide) (ht _ tw775) (fun _ h9 => h9) rfl rfl (Nat.le_of_ble_eq_true rfl) dM_keep_63 ((wM_p1 cI cC ad s1005 _).trans (congrArg (wM cI cC ad) e1006.symm)) (fun H locs hC => ?_)
        refine lv_iconst (v := 0) hx hb dM_keep_66 (by decide) ?_
        refine lv_istore_n (lv' := [(1, .int (0 : Int32)), (0, .ref (ad 0))]) hx hb dM_keep_67 rfl hl (by decide) rfl (fun ls hl => ?_)
        exact L68 N (0 : Int32) s1006 ls _ _ (lv_sub hl [1, 0] rfl) hC hf
      · replace hf := jif_f c1001 hf
        refine lv_aload_n hx hb dM_keep_16 rfl (lv_at hl 0 rfl) ?_
        refine va_get (D := (dC, dI)) (ci := 6) (v := .ref (ad 13)) (C := RcM) (T := TcM) (N := 43) hx hb ht in_cM hown hK hC.1 0 (wM_e0 cI cC ad s0) rfl 13 (by decide) (ht _ tw773) (fun _ h9 => h9) rfl dM_keep_17 ?_
        refine lv_iload_n hx hb dM_keep_20 rfl (lv_at hl 1 rfl) ?_
        refine lv_aload_n hx hb dM_keep_21 rfl (lv_at hl 0 rfl) ?_
        refine va_get (D := (dC, dI)) (ci := 6) (v := .ref (ad 13)) (C := RcM) (T := TcM) (N := 43) hx hb ht in_cM hown hK hC.1 0 (wM_e0 cI cC ad s0) rfl 13 (by decide) (ht _ tw773) (fun _ h9 => h9) rfl dM_keep_22 ?_
        refine lv_iload_n hx hb dM_keep_25 rfl (lv_at hl 1 rfl) ?_
        refine lv_bipush (v := 60) hx hb dM_keep_26 (by decide) ?_
        refine lv_iadd hx hb dM_keep_28 ?_
        obtain ⟨hi1007, hf⟩ := jC_in hf
        refine va_cald hx hb hK hC.1 13 1 (wM_e13 cI cC ad s0) rfl hi1007 dM_keep_29 ?_
        obtain ⟨hi1008, hf⟩ := jC_in hf
        obtain ⟨s1008, e1008, hf⟩ := jL_s hf
        refine jast_c hx hb hK hC 13 1 (wM_e13 cI cC ad s0) rfl hi1008 dM_keep_30 ((wM_a12 cI cC ad s0 _ _).trans (congrArg (wM cI cC ad) e1008.symm)) (fun H locs hC => ?_)
        refine lv_iinc (k := 1) (v := (x1 + (1 : Int32))) (lv' := [(1, .int (x1 + (1 : Int32))), (0, .ref (ad 0))]) hx hb dM_keep_31 hl rfl rfl (by decide) rfl (fun ls hl => ?_)
        refine lv_goto (tgt := 10) hx hb dM_keep_34 (by decide) ?_
        exact ih10 (x1 + (1 : Int32)) s1008 ls _ _ (lv_sub hl [1, 0] rfl) hC hf
  unfold fM_keep at hf
  refine lv_aload_n hx hb dM_keep_0 rfl (lv_at hl 0 rfl) ?_
  refine va_get (D := (dC, dI)) (ci := 6) (v := .int (jgI z0 1)) (C := RcM) (T := TcM) (N := 43) hx hb ht in_cM hown hK hC.1 0 (wM_e0 cI cC ad z0) rfl 15 (by decide) (ht _ tw775) (fun _ h9 => h9) rfl dM_keep_1 ?_
  refine lv_iconst (v := 3) hx hb dM_keep_4 (by decide) ?_
  refine lv_icmp_ne (tgt := 66) hx hb dM_keep_5 (by decide) (fun c1 => ?_) (fun c1 => ?_)
  · replace hf := jif_f c1 hf
    refine lv_iconst (v := 0) hx hb dM_keep_66 (by decide) ?_
    refine lv_istore_n (lv' := [(1, .int (0 : Int32)), (0, .ref (ad 0))]) hx hb dM_keep_67 rfl hl (by decide) rfl (fun ls hl => ?_)
    exact L68 N (0 : Int32) z0 ls _ _ (lv_sub hl [1, 0] rfl) hC hf
  · replace hf := jif_t c1 hf
    refine lv_iconst (v := 0) hx hb dM_keep_8 (by decide) ?_
    refine lv_istore_n (lv' := [(1, .int (0 : Int32)), (0, .ref (ad 0))]) hx hb dM_keep_9 rfl hl (by decide) rfl (fun ls hl => ?_)
    exact L10 N (0 : Int32) z0 ls _ _ (lv_sub hl [1, 0] rfl) hC hf
