def fM_reused_115 (N : Nat) (k19 : Int32 → Int32 → Int32 → Int32 → Int32 → Int32 → Int32 → jS → Option (Int32 × jS)) (x1 x2 x3 x4 x5 x6 x7 : Int32) (s0 : jS) : Option (Int32 × jS) := (jB (fM_alike N ((1 : Int32) - x1) x2 x1 x7 s0) fun r11501 s11501 => (if r11501 = 0 then k19 x1 x2 x3 x4 x5 x6 (x7 + (1 : Int32)) s11501 else some ((1 : Int32), s11501)))
def fM_reused_103 (N : Nat) (k19 : Int32 → Int32 → Int32 → Int32 → Int32 → Int32 → Int32 → jS → Option (Int32 × jS)) (x1 x2 x3 x4 x5 x6 x7 x9 y0 : Int32) (s0 : jS) : Option (Int32 × jS) := (if x9 = 0 then (if y0 = 0 then k19 x1 x2 x3 x4 x5 x6 (x7 + (1 : Int32)) s0 else fM_reused_115 N k19 x1 x2 x3 x4 x5 x6 x7 s0) else fM_reused_115 N k19 x1 x2 x3 x4 x5 x6 x7 s0)
def fM_reused_102 (N : Nat) (k19 : Int32 → Int32 → Int32 → Int32 → Int32 → Int32 → Int32 → jS → Option (Int32 × jS)) (x1 x2 x3 x4 x5 x6 x7 x9 : Int32) (s0 : jS) : Option (Int32 × jS) := fM_reused_103 N k19 x1 x2 x3 x4 x5 x6 x7 x9 (0 : Int32) s0
def fM_reused_74 (N : Nat) (k19 : Int32 → Int32 → Int32 → Int32 → Int32 → Int32 → Int32 → jS → Option (Int32 × jS)) (x1 x2 x3 x4 x5 x6 x7 x8 y0 : Int32) (s0 : jS) : Option (Int32 × jS) := (if x8 < (x3 + x4) then fM_reused_102 N k19 x1 x2 x3 x4 x5 x6 x7 y0 s0 else (if x6 = ((x8 - x4) + x5) then fM_reused_103 N k19 x1 x2 x3 x4 x5 x6 x7 y0 (1 : Int32) s0 else fM_reused_102 N k19 x1 x2 x3 x4 x5 x6 x7 y0 s0))
def fM_reused_73 (N : Nat) (k19 : Int32 → Int32 → Int32 → Int32 → Int32 → Int32 → Int32 → jS → Option (Int32 × jS)) (x1 x2 x3 x4 x5 x6 x7 x8 : Int32) (s0 : jS) : Option (Int32 × jS) := fM_reused_74 N k19 x1 x2 x3 x4 x5 x6 x7 x8 (0 : Int32) s0
def fM_reused_b19 (N : Nat) (k19 : Int32 → Int32 → Int32 → Int32 → Int32 → Int32 → Int32 → jS → Option (Int32 × jS)) (x1 x2 x3 x4 x5 x6 x7 : Int32) (s0 : jS) : Option (Int32 × jS) := (if jIn x1 2 = true then (if jgA s0 3 (x1).toNatClampNeg ≤ x7 then some ((0 : Int32), s0) else (if jIn (((400 : Int32) * x1) + x7) 800 = true then (if jgA s0 5 ((((400 : Int32) * x1) + x7)).toNatClampNeg = x6 then (if jIn (((400 : Int32) * x1) + x7) 800 = true then (if x3 < jgA s0 6 ((((400 : Int32) * x1) + x7)).toNatClampNeg then fM_reused_73 N k19 x1 x2 x3 x4 x5 x6 x7 (jgA s0 5 ((((400 : Int32) * x1) + x7)).toNatClampNeg) s0 else fM_reused_74 N k19 x1 x2 x3 x4 x5 x6 x7 (jgA s0 5 ((((400 : Int32) * x1) + x7)).toNatClampNeg) (1 : Int32) s0) else none) else fM_reused_73 N k19 x1 x2 x3 x4 x5 x6 x7 (jgA s0 5 ((((400 : Int32) * x1) + x7)).toNatClampNeg) s0) else none)) else none)
def fM_reused_19 (N : Nat) : Nat → Int32 → Int32 → Int32 → Int32 → Int32 → Int32 → Int32 → jS → Option (Int32 × jS)
  | 0 => fun _ _ _ _ _ _ _ _ => none
  | n + 1 => fun x1 x2 x3 x4 x5 x6 x7 s0 => fM_reused_b19 N (fM_reused_19 N n) x1 x2 x3 x4 x5 x6 x7 s0
def fM_reused (N : Nat) (a0 a1 a2 a3 a4 : Int32) (z0 : jS) : Option (Int32 × jS) := (if jIn (((400 : Int32) * ((1 : Int32) - a0)) + a1) 800 = true then fM_reused_19 N N a0 a1 a2 a3 a4 (jgA z0 5 ((((400 : Int32) * ((1 : Int32) - a0)) + a1)).toNatClampNeg) (0 : Int32) z0 else none)
set_option maxHeartbeats 4000000 in
set_option maxRecDepth 100000 in
theorem cM_reused (l : Launch) (dC : Nat → ClassId) (dI : Nat → Nat → Nat) (cI cC cL : ClassId) (sk sv : Nat → Nat) (ad : Nat → Nat) (N : Nat) (a0 a1 a2 a3 a4 : Int32) (z0 z1 : jS) (r : Int32) (hf : fM_reused N a0 a1 a2 a3 a4 z0 = some (r, z1)) : Ci l yM_reused (Cond.code yM_reused prog_8_method_33_code 11 (some .boolean) :: TB) ({ frames := 2, cells := 0, slots := 0, locals := 53 }) (dC, dI) vwCl [(cI, .int), (cC, .char), (cL, .object "SharedSyntax$Letters")] (jEn sk sv) [.ref (ad 0), .int a0, .int a1, .int a2, .int a3, .int a4] (wM cI cC ad z0) (wM cI cC ad z1) r := by
  refine Ci_of (cc := prog_8_method_33_code) (maxL := 11) (ret := (some .boolean)) (by decide) rfl (Nat.le_of_ble_eq_true rfl) ?_
  intro p e s m below meth c ls F hl hK hN hC
  obtain ⟨hx, hb, hml, hown, hts, hr, hlk⟩ := F
  have ht : ∀ w ∈ TB, w.before [.ref (ad 0), .int a0, .int a1, .int a2, .int a3, .int a4].toArray s = true := fun w h => hts w (List.mem_cons_of_mem _ h)
  have hA : ∀ q, s.heap.size ≤ q → va_A (wM cI cC ad z0) s.heap.size q := fun q h => Or.inr h
  have hl : lv_has ls 11 [(0, .ref (ad 0)), (1, .int a0), (2, .int a1), (3, .int a2), (4, .int a3), (5, .int a4)] := hl
  have L19 : ∀ (n : Nat) (x1 x2 x3 x4 x5 x6 x7 : Int32) (s0 : jS) (ls : Array Slot) (H : Heap) (locs : List Loc), lv_has ls 11 [(0, .ref (ad 0)), (1, .int x1), (2, .int x2), (3, .int x3), (4, .int x4), (5, .int x5), (6, .int x6), (7, .int x7)] → jcx (dC, dI) vwCl (va_A (wM cI cC ad z0) s.heap.size) s.heap (wM cI cC ad s0) H locs → fM_reused_19 N n x1 x2 x3 x4 x5 x6 x7 s0 = some (r, z1) → W p l e ({ frames := 2, cells := 0, slots := 0, locals := 53 }) s m [.ref (ad 0), .int a0, .int a1, .int a2, .int a3, .int a4].toArray below meth c H locs 0 0 (MQ below (jQi (dC, dI) vwCl [(cI, .int), (cC, .char), (cL, .object "SharedSyntax$Letters")] (wM cI cC ad z0) (wM cI cC ad z1) s.heap.size r) [.ref (ad 0), .int a0, .int a1, .int a2, .int a3, .int a4].toArray s 0 0 (va_A (wM cI cC ad z0) s.heap.size)) (F0 m 19 ls []) := by
    intro n
    induction n with
    | zero => exact fun _ _ _ _ _ _ _ _ _ _ _ _ _ hf => nomatch hf
    | succ n ih19 =>
      intro x1 x2 x3 x4 x5 x6 x7 s0 ls H locs hl hC hf
      replace hf : fM_reused_b19 N (fM_reused_19 N n) x1 x2 x3 x4 x5 x6 x7 s0 = some (r, z1) := hf
      generalize fM_reused_19 N n = k19 at ih19 hf
      have L115 : ∀ (x1 x2 x3 x4 x5 x6 x7 : Int32) (s0 : jS) (ls : Array Slot) (H : Heap) (locs : List Loc), lv_has ls 11 [(0, .ref (ad 0)), (1, .int x1), (2, .int x2), (3, .int x3), (4, .int x4), (5, .int x5), (6, .int x6), (7, .int x7)] → jcx (dC, dI) vwCl (va_A (wM cI cC ad z0) s.heap.size) s.heap (wM cI cC ad s0) H locs → fM_reused_115 N k19 x1 x2 x3 x4 x5 x6 x7 s0 = some (r, z1) → W p l e ({ frames := 2, cells := 0, slots := 0, locals := 53 }) s m [.ref (ad 0), .int a0, .int a1, .int a2, .int a3, .int a4].toArray below meth c H locs 0 0 (MQ below (jQi (dC, dI) vwCl [(cI, .int), (cC, .char), (cL, .object "SharedSyntax$Letters")] (wM cI cC ad z0) (wM cI cC ad z1) s.heap.size r) [.ref (ad 0), .int a0, .int a1, .int a2, .int a3, .int a4].toArray s 0 0 (va_A (wM cI cC ad z0) s.heap.size)) (F0 m 115 ls []) := by
        intro x1 x2 x3 x4 x5 x6 x7 s0 ls H locs hl hC hf
        unfold fM_reused_115 at hf
        refine lv_aload_n hx hb dM_reused_115 rfl (lv_at hl 0 rfl) ?_
        refine lv_iconst (v := 1) hx hb dM_reused_116 (by decide) ?_
        refine lv_iload_n hx hb dM_reused_117 rfl (lv_at hl 1 rfl) ?_
        refine lv_isub hx hb dM_reused_118 ?_
        refine lv_iload_n hx hb dM_reused_119 rfl (lv_at hl 2 rfl) ?_
        refine lv_iload_n hx hb dM_reused_120 rfl (lv_at hl 1 rfl) ?_
        refine lv_iload hx hb dM_reused_121 (lv_at hl 7 rfl) ?_
        obtain ⟨r11501, s11501, hc11501, hf⟩ := jB_some hf
        refine jcall_i (va_runV (C := RcM) (As := [.int ((1 : Int32) - x1), .int x2, .int x1, .int x7]) (rest := []) ⟨hx, hb, hml, hown, hts⟩ ((cM_alike l dC dI cI cC cL sk sv ad N ((1 : Int32) - x1) x2 x1 x7 s0 s11501 r11501 hc11501) _) ⟨(callB_of 4 hts (tb_good tw910) rfl rfl rfl (ht _ tw14) (ht _ tw907) (by decide +kernel) ⟨Nat.le_of_ble_eq_true rfl, Nat.le_of_ble_eq_true rfl⟩), ht _ tw909, ht _ (tb_sel pv_M_alike)⟩ (jpreV (jEn_ok sk sv) hC hA hK hN (wM_e0 cI cC ad s0) rfl rfl _) rfl rfl hl.1 rfl (lv_room (Nat.le_of_ble_eq_true rfl)) dM_reused_123 ⟨Nat.le_refl _, Nat.le_refl _⟩) hC hA (fun H locs hC => ?_)
        refine lv_if_eq (tgt := 131) hx hb dM_reused_126 (by decide) (fun c11502 => ?_) (fun c11502 => ?_)
        · replace hf := jif_t c11502 hf
          refine lv_iinc (k := 7) (v := (x7 + (1 : Int32))) (lv' := [(7, .int (x7 + (1 : Int32))), (0, .ref (ad 0)), (1, .int x1), (2, .int x2), (3, .int x3), (4, .int x4), (5, .int x5), (6, .int x6)]) hx hb dM_reused_131 hl rfl rfl (by decide) rfl (fun ls hl => ?_)
          refine lv_goto (tgt := 19) hx hb dM_reused_134 (by decide) ?_
          exact ih19 x1 x2 x3 x4 x5 x6 (x7 + (1 : Int32)) s11501 ls _ _ (lv_sub hl [1, 2, 3, 4, 5, 6, 7, 0] rfl) hC hf
        · replace hf := jif_f c11502 hf
          refine lv_iconst (v := 1) hx hb dM_reused_129 (by decide) ?_
          cases hf
          exact jret_z hx hb hr (by decide +kernel) hlk hC hK dM_reused_130
      have L103 : ∀ (x1 x2 x3 x4 x5 x6 x7 x9 y0 : Int32) (s0 : jS) (ls : Array Slot) (H : Heap) (locs : List Loc), lv_has ls 11 [(0, .ref (ad 0)), (1, .int x1), (2, .int x2), (3, .int x3), (4, .int x4), (5, .int x5), (6, .int x6), (7, .int x7), (9, .int x9)] → jcx (dC, dI) vwCl (va_A (wM cI cC ad z0) s.heap.size) s.heap (wM cI cC ad s0) H locs → fM_reused_103 N k19 x1 x2 x3 x4 x5 x6 x7 x9 y0 s0 = some (r, z1) → W p l e ({ frames := 2, cells := 0, slots := 0, locals := 53 }) s m [.ref (ad 0), .int a0, .int a1, .int a2, .int a3, .int a4].toArray below meth c H locs 0 0 (MQ below (jQi (dC, dI) vwCl [(cI, .int), (cC, .char), (cL, .object "SharedSyntax$Letters")] (wM cI cC ad z0) (wM cI cC ad z1) s.heap.size r) [.ref (ad 0), .int a0, .int a1, .int a2, .int a3, .int a4].toArray s 0 0 (va_A (wM cI cC ad z0) s.heap.size)) (F0 m 103 ls [.int y0]) := by
        intro x1 x2 x3 x4 x5 x6 x7 x9 y0 s0 ls H locs hl hC hf
        unfold fM_reused_103 at hf
        refine lv_istore (lv' := [(10, .int y0), (0, .ref (ad 0)), (1, .int x1), (2, .int x2), (3, .int x3), (4, .int x4), (5, .int x5), (6, .int x6), (7, .int x7), (9, .int x9)]) hx hb dM_reused_103 hl (by decide) rfl (fun ls hl => ?_)
        refine lv_iload hx hb dM_reused_105 (lv_at hl 9 rfl) ?_
        refine lv_if_ne (tgt := 115) hx hb dM_reused_107 (by decide) (fun c10301 => ?_) (fun c10301 => ?_)
        · replace hf := jif_f c10301 hf
          exact L115 x1 x2 x3 x4 x5 x6 x7 s0 ls _ _ (lv_sub hl [1, 2, 3, 4, 5, 6, 7, 8] rfl) hC hf
        · replace hf := jif_t c10301 hf
          refine lv_iload hx hb dM_reused_110 (lv_at hl 0 rfl) ?_
          refine lv_if_eq (tgt := 131) hx hb dM_reused_112 (by decide) (fun c10302 => ?_) (fun c10302 => ?_)
          · replace hf := jif_t c10302 hf
            refine lv_iinc (k := 8) (v := (x7 + (1 : Int32))) (lv' := [(7, .int (x7 + (1 : Int32))), (10, .int y0), (0, .ref (ad 0)), (1, .int x1), (2, .int x2), (3, .int x3), (4, .int x4), (5, .int x5), (6, .int x6), (9, .int x9)]) hx hb dM_reused_131 hl rfl rfl (by decide) rfl (fun ls hl => ?_)
            refine lv_goto (tgt := 19) hx hb dM_reused_134 (by decide) ?_
            exact ih19 x1 x2 x3 x4 x5 x6 (x7 + (1 : Int32)) s0 ls _ _ (lv_sub hl [2, 3, 4, 5, 6, 7, 8, 0] rfl) hC hf
          · replace hf := jif_f c10302 hf
            exact L115 x1 x2 x3 x4 x5 x6 x7 s0 ls _ _ (lv_sub hl [1, 2, 3, 4, 5, 6, 7, 8] rfl) hC hf
      have L102 : ∀ (x1 x2 x3 x4 x5 x6 x7 x9 : Int32) (s0 : jS) (ls : Array Slot) (H : Heap) (locs : List Loc), lv_has ls 11 [(0, .ref (ad 0)), (1, .int x1), (2, .int x2), (3, .int x3), (4, .int x4), (5, .int x5), (6, .int x6), (7, .int x7), (9, .int x9)] → jcx (dC, dI) vwCl (va_A (wM cI cC ad z0) s.heap.size) s.heap (wM cI cC ad s0) H locs → fM_reused_102 N k19 x1 x2 x3 x4 x5 x6 x7 x9 s0 = some (r, z1) → W p l e ({ frames := 2, cells := 0, slots := 0, locals := 53 }) s m [.ref (ad 0), .int a0, .int a1, .int a2, .int a3, .int a4].toArray below meth c H locs 0 0 (MQ below (jQi (dC, dI) vwCl [(cI, .int), (cC, .char), (cL, .object "SharedSyntax$Letters")] (wM cI cC ad z0) (wM cI cC ad z1) s.heap.size r) [.ref (ad 0), .int a0, .int a1, .int a2, .int a3, .int a4].toArray s 0 0 (va_A (wM cI cC ad z0) s.heap.size)) (F0 m 102 ls []) := by
        intro x1 x2 x3 x4 x5 x6 x7 x9 s0 ls H locs hl hC hf
        unfold fM_reused_102 at hf
        refine lv_iconst (v := 0) hx hb dM_reused_102 (by decide) ?_
        exact L103 x1 x2 x3 x4 x5 x6 x7 x9 (0 : Int32) s0 ls _ _ (lv_sub hl [0, 1, 2, 3, 4, 5, 6, 7, 8] rfl) hC hf
      have L74 : ∀ (x1 x2 x3 x4 x5 x6 x7 x8 y0 : Int32) (s0 : jS) (ls : Array Slot) (H : Heap) (locs : List Loc), lv_has ls 11 [(0, .ref (ad 0)), (1, .int x1), (2, .int x2), (3, .int x3), (4, .int x4), (5, .int x5), (6, .int x6), (7, .int x7), (8, .int x8)] → jcx (dC, dI) vwCl (va_A (wM cI cC ad z0) s.heap.size) s.heap (wM cI cC ad s0) H locs → fM_reused_74 N k19 x1 x2 x3 x4 x5 x6 x7 x8 y0 s0 = some (r, z1) → W p l e ({ frames := 2, cells := 0, slots := 0, locals := 53 }) s m [.ref (ad 0), .int a0, .int a1, .int a2, .int a3, .int a4].toArray below meth c H locs 0 0 (MQ below (jQi (dC, dI) vwCl [(cI, .int), (cC, .char), (cL, .object "SharedSyntax$Letters")] (wM cI cC ad z0) (wM cI cC ad z1) s.heap.size r) [.ref (ad 0), .int a0, .int a1, .int a2, .int a3, .int a4].toArray s 0 0 (va_A (wM cI cC ad z0) s.heap.size)) (F0 m 74 ls [.int y0]) := by
        intro x1 x2 x3 x4 x5 x6 x7 x8 y0 s0 ls H locs hl hC hf
        unfold fM_reused_74 at hf
        refine lv_istore (lv' := [(9, .int y0), (0, .ref (ad 0)), (1, .int x1), (2, .int x2), (3, .int x3), (4, .int x4), (5, .int x5), (6, .int x6), (7, .int x7), (8, .int x8)]) hx hb dM_reused_74 hl (by decide) rfl (fun ls hl => ?_)
        refine lv_iload hx hb dM_reused_76 (lv_at hl 9 rfl) ?_
        refine lv_iload_n hx hb dM_reused_78 rfl (lv_at hl 4 rfl) ?_
        refine lv_iload hx hb dM_reused_79 (lv_at hl 5 rfl) ?_
        refine lv_iadd hx hb dM_reused_81 ?_
        refine lv_icmp_lt (tgt := 102) hx hb dM_reused_82 (by decide) (fun c7401 => ?_) (fun c7401 => ?_)
        · replace hf := jif_t c7401 hf
          exact L102 x1 x2 x3 x4 x5 x6 x7 y0 s0 ls _ _ (lv_sub hl [1, 2, 3, 4, 5, 6, 7, 8, 0] rfl) hC hf
        · replace hf := jif_f c7401 hf
          refine lv_iload hx hb dM_reused_85 (lv_at hl 7 rfl) ?_
          refine lv_iload hx hb dM_reused_87 (lv_at hl 9 rfl) ?_
          refine lv_iload hx hb dM_reused_89 (lv_at hl 5 rfl) ?_
          refine lv_isub hx hb dM_reused_91 ?_
          refine lv_iload hx hb dM_reused_92 (lv_at hl 6 rfl) ?_
          refine lv_iadd hx hb dM_reused_94 ?_
          refine lv_icmp_ne (tgt := 102) hx hb dM_reused_95 (by decide) (fun c7402 => ?_) (fun c7402 => ?_)
          · replace hf := jif_f c7402 hf
            exact L102 x1 x2 x3 x4 x5 x6 x7 y0 s0 ls _ _ (lv_sub hl [1, 2, 3, 4, 5, 6, 7, 8, 0] rfl) hC hf
          · replace hf := jif_t c7402 hf
            refine lv_iconst (v := 1) hx hb dM_reused_98 (by decide) ?_
            refine lv_goto (tgt := 103) hx hb dM_reused_99 (by decide) ?_
            exact L103 x1 x2 x3 x4 x5 x6 x7 y0 (1 : Int32) s0 ls _ _ (lv_sub hl [1, 2, 3, 4, 5, 6, 7, 8, 0] rfl) hC hf
      have L73 : ∀ (x1 x2 x3 x4 x5 x6 x7 x8 : Int32) (s0 : jS) (ls : Array Slot) (H : Heap) (locs : List Loc), lv_has ls 11 [(0, .ref (ad 0)), (1, .int x1), (2, .int x2), (3, .int x3), (4, .int x4), (5, .int x5), (6, .int x6), (7, .int x7), (8, .int x8)] → jcx (dC, dI) vwCl (va_A (wM cI cC ad z0) s.heap.size) s.heap (wM cI cC ad s0) H locs → fM_reused_73 N k19 x1 x2 x3 x4 x5 x6 x7 x8 s0 = some (r, z1) → W p l e ({ frames := 2, cells := 0, slots := 0, locals := 53 }) s m [.ref (ad 0), .int a0, .int a1, .int a2, .int a3, .int a4].toArray below meth c H locs 0 0 (MQ below (jQi (dC, dI) vwCl [(cI, .int), (cC, .char), (cL, .object "SharedSyntax$Letters")] (wM cI cC ad z0) (wM cI cC ad z1) s.heap.size r) [.ref (ad 0), .int a0, .int a1, .int a2, .int a3, .int a4].toArray s 0 0 (va_A (wM cI cC ad z0) s.heap.size)) (F0 m 73 ls []) := by
        intro x1 x2 x3 x4 x5 x6 x7 x8 s0 ls H locs hl hC hf
        unfold fM_reused_73 at hf
        refine lv_iconst (v := 0) hx hb dM_reused_73 (by decide) ?_
        exact L74 x1 x2 x3 x4 x5 x6 x7 x8 (0 : Int32) s0 ls _ _ (lv_sub hl [0, 1, 2, 3, 4, 5, 6, 7, 8] rfl) hC hf
      unfold fM_reused_b19 at hf
      refine lv_iload hx hb dM_reused_19 (lv_at hl 7 rfl) ?_
      refine lv_aload_n hx hb dM_reused_21 rfl (lv_at hl 0 rfl) ?_
      refine va_get (D := (dC, dI)) (ci := 6) (v := .ref (ad 4)) (C := RcM) (T := TcM) (N := 43) hx hb ht in_cM hown hK hC.1 0 (wM_e0 cI cC ad s0) rfl 4 (by decide) (ht _ tw764) (fun _ h9 => h9) rfl dM_reused_22 ?_
      refine lv_iload_n hx hb dM_reused_25 rfl (lv_at hl 1 rfl) ?_
      obtain ⟨hi1901, hf⟩ := jC_in hf
      refine va_iald hx hb hK hC.1 4 0 (wM_e4 cI cC ad s0) rfl hi1901 dM_reused_26 ?_
      refine lv_icmp_ge (tgt := 137) hx hb dM_reused_27 (by decide) (fun c1902 => ?_) (fun c1902 => ?_)
      · replace hf := jif_t c1902 hf
        refine lv_iconst (v := 0) hx hb dM_reused_137 (by decide) ?_
        cases hf
        exact jret_z hx hb hr (by decide +kernel) hlk hC hK dM_reused_138
      · replace hf := jif_f c1902 hf
        refine lv_aload_n hx hb dM_reused_30 rfl (lv_at hl 0 rfl) ?_
        refine va_get (D := (dC, dI)) (ci := 6) (v := .ref (ad 6)) (C := RcM) (T := TcM) (N := 43) hx hb ht in_cM hown hK hC.1 0 (wM_e0 cI cC ad s0) rfl 6 (by decide) (ht _ tw766) (fun _ h9 => h9) rfl dM_reused_31 ?_
        refine lv_sipush (v := 400) hx hb dM_reused_34 (by decide) ?_
        refine lv_iload_n hx hb dM_reused_37 rfl (lv_at hl 1 rfl) ?_
        refine lv_imul hx hb dM_reused_38 ?_
        refine lv_iload hx hb dM_reused_39 (lv_at hl 7 rfl) ?_
        refine lv_iadd hx hb dM_reused_41 ?_
        obtain ⟨hi1903, hf⟩ := jC_in hf
        refine va_iald hx hb hK hC.1 6 0 (wM_e6 cI cC ad s0) rfl hi1903 dM_reused_42 ?_
        refine lv_istore (lv' := [(8, .int (jgA s0 5 ((((400 : Int32) * x1) + x7)).toNatClampNeg)), (0, .ref (ad 0)), (1, .int x1), (2, .int x2), (3, .int x3), (4, .int x4), (5, .int x5), (6, .int x6), (7, .int x7)]) hx hb dM_reused_43 hl (by decide) rfl (fun ls hl => ?_)
        refine lv_iload hx hb dM_reused_45 (lv_at hl 0 rfl) ?_
        refine lv_iload hx hb dM_reused_47 (lv_at hl 7 rfl) ?_
        refine lv_icmp_ne (tgt := 73) hx hb dM_reused_49 (by decide) (fun c1904 => ?_) (fun c1904 => ?_)
        · replace hf := jif_f c1904 hf
          exact L73 x1 x2 x3 x4 x5 x6 x7 (jgA s0 5 ((((400 : Int32) * x1) + x7)).toNatClampNeg) s0 ls _ _ (lv_sub hl [1, 2, 3, 4, 5, 6, 7, 8, 0] rfl) hC hf
        · replace hf := jif_t c1904 hf
          refine lv_aload_n hx hb dM_reused_52 rfl (lv_at hl 1 rfl) ?_
          refine va_get (D := (dC, dI)) (ci := 6) (v := .ref (ad 7)) (C := RcM) (T := TcM) (N := 43) hx hb ht in_cM hown hK hC.1 0 (wM_e0 cI cC ad s0) rfl 7 (by decide) (ht _ tw767) (fun _ h9 => h9) rfl dM_reused_53 ?_
          refine lv_sipush (v := 400) hx hb dM_reused_56 (by decide) ?_
          refine lv_iload_n hx hb dM_reused_59 rfl (lv_at hl 2 rfl) ?_
          refine lv_imul hx hb dM_reused_60 ?_
          refine lv_iload hx hb dM_reused_61 (lv_at hl 8 rfl) ?_
          refine lv_iadd hx hb dM_reused_63 ?_
          obtain ⟨hi1905, hf⟩ := jC_in hf
          refine va_iald hx hb hK hC.1 7 0 (wM_e7 cI cC ad s0) rfl hi1905 dM_reused_64 ?_
          refine lv_iload_n hx hb dM_reused_65 rfl (lv_at hl 4 rfl) ?_
          refine lv_icmp_gt (tgt := 73) hx hb dM_reused_66 (by decide) (fun c1906 => ?_) (fun c1906 => ?_)
          · replace hf := jif_t c1906 hf
            exact L73 x1 x2 x3 x4 x5 x6 x7 (jgA s0 5 ((((400 : Int32) * x1) + x7)).toNatClampNeg) s0 ls _ _ (lv_sub hl [1, 2, 3, 4, 5, 6, 7, 8, 0] rfl) hC hf
          · replace hf := jif_f c1906 hf
            refine lv_iconst (v := 1) hx hb dM_reused_69 (by decide) ?_
            refine lv_goto (tgt := 74) hx hb dM_reused_70 (by decide) ?_
            exact L74 x1 x2 x3 x4 x5 x6 x7 (jgA s0 5 ((((400 : Int32) * x1) + x7)).toNatClampNeg) (1 : Int32) s0 ls _ _ (lv_sub hl [1, 2, 3, 4, 5, 6, 7, 8, 0] rfl) hC hf
  unfold fM_reused at hf
  refine lv_aload_n hx hb dM_reused_0 rfl (lv_at hl 0 rfl) ?_
  refine va_get (D := (dC, dI)) (ci := 6) (v := .ref (ad 6)) (C := RcM) (T := TcM) (N := 43) hx hb ht in_cM hown hK hC.1 0 (wM_e0 cI cC ad z0) rfl 6 (by decide) (ht _ tw766) (fun _ h9 => h9) rfl dM_reused_1 ?_
  refine lv_sipush (v := 400) hx hb dM_reused_4 (by decide) ?_
  refine lv_iconst (v := 1) hx hb dM_reused_7 (by decide) ?_
  refine lv_iload_n hx hb dM_reused_8 rfl (lv_at hl 1 rfl) ?_
  refine lv_isub hx hb dM_reused_9 ?_
  refine lv_imul hx hb dM_reused_10 ?_
  refine lv_iload_n hx hb dM_reused_11 rfl (lv_at hl 2 rfl) ?_
  refine lv_iadd hx hb dM_reused_12 ?_
  obtain ⟨hi1, hf⟩ := jC_in hf
  refine va_iald hx hb hK hC.1 6 0 (wM_e6 cI cC ad z0) rfl hi1 dM_reused_13 ?_
  refine lv_istore (lv' := [(6, .int (jgA z0 5 ((((400 : Int32) * ((1 : Int32) - a0)) + a1)).toNatClampNeg)), (0, .ref (ad 0)), (1, .int a0), (2, .int a1), (3, .int a2), (4, .int a3), (5, .int a4)]) hx hb dM_reused_14 hl (by decide) rfl (fun ls hl => ?_)
  refine lv_iconst (v := 0) hx hb dM_reused_16 (by decide) ?_
  refine lv_istore (lv' := [(7, .int (0 : Int32)), (6, .int (jgA z0 5 ((((400 : Int32) * ((1 : Int32) - a0)) + a1)).toNatClampNeg)), (0, .ref (ad 0)), (1, .int a0), (2, .int a1), (3, .int a2), (4, .int a3), (5, .int a4)]) hx hb dM_reused_17 hl (by decide) rfl (fun ls hl => ?_)
  exact L19 N a0 a1 a2 a3 a4 (jgA z0 5 ((((400 : Int32) * ((1 : Int32) - a0)) + a1)).toNatClampNeg) (0 : Int32) z0 ls _ _ (lv_sub hl [2, 3, 4, 5, 6, 7, 1, 0] rfl) hC hf

def fM_edit_128 (N : Nat) (k102 : Int32 → Int32 → Int32 → Int32 → Int32 → Int32 → jS → Option (Int32 × jS)) (x1 x2 x3 x4 x5 x6 y0 : Int32) (s0 : jS) : Option (Int32 × jS) := (if y0 = 0 then (if x1 ≤ x6 then (if jIn (((60 : Int32) * x4) + ((x6 - x3) + x2)) 120 = true then (if jIn (((60 : Int32) * jgI s0 0) + x6) 120 = true then (jL (jsA s0 0 ((((60 : Int32) * jgI s0 0) + x6)).toNatClampNeg (vp_nar .char (jgA s0 0 ((((60 : Int32) * x4) + ((x6 - x3) + x2))).toNatClampNeg))) fun s12804 => k102 x1 x2 x3 x4 x5 (x6 + (1 : Int32)) s12804) else none) else none) else (if jIn (((60 : Int32) * x4) + x6) 120 = true then (if jIn (((60 : Int32) * jgI s0 0) + x6) 120 = true then (jL (jsA s0 0 ((((60 : Int32) * jgI s0 0) + x6)).toNatClampNeg (vp_nar .char (jgA s0 0 ((((60 : Int32) * x4) + x6)).toNatClampNeg))) fun s12806 => k102 x1 x2 x3 x4 x5 (x6 + (1 : Int32)) s12806) else none) else none)) else (if jIn (x6 - x1) 20 = true then (if jIn (((60 : Int32) * jgI s0 0) + x6) 120 = true then (jL (jsA s0 0 ((((60 : Int32) * jgI s0 0) + x6)).toNatClampNeg (vp_nar .char (jgA s0 14 ((x6 - x1)).toNatClampNeg))) fun s12808 => k102 x1 x2 x3 x4 x5 (x6 + (1 : Int32)) s12808) else none) else none))
def fM_edit_127 (N : Nat) (k102 : Int32 → Int32 → Int32 → Int32 → Int32 → Int32 → jS → Option (Int32 × jS)) (x1 x2 x3 x4 x5 x6 : Int32) (s0 : jS) : Option (Int32 × jS) := fM_edit_128 N k102 x1 x2 x3 x4 x5 x6 (0 : Int32) s0
def fM_edit_b233 (N : Nat) (k233 : Int32 → Int32 → Int32 → Int32 → Int32 → jS → Option (Int32 × jS)) (x1 x2 x3 x4 x6 : Int32) (s0 : jS) : Option (Int32 × jS) := (if jIn (jgI s0 0) 2 = true then (if jgA s0 3 (jgI s0 0).toNatClampNeg ≤ x6 then some ((1 : Int32), s0) else (if jIn (((400 : Int32) * jgI s0 0) + x6) 800 = true then (if jgA s0 4 ((((400 : Int32) * jgI s0 0) + x6)).toNatClampNeg < (21 : Int32) then k233 x1 x2 x3 x4 (x6 + (1 : Int32)) s0 else (if (25 : Int32) < jgA s0 4 ((((400 : Int32) * jgI s0 0) + x6)).toNatClampNeg then k233 x1 x2 x3 x4 (x6 + (1 : Int32)) s0 else (jB (fM_reused N x4 x6 x1 x2 x3 s0) fun r23306 s23306 => (if r23306 = 0 then k233 x1 x2 x3 x4 (x6 + (1 : Int32)) s23306 else (jL (jsI s23306 3 (jgI s23306 3 + (1 : Int32))) fun s23308 => k233 x1 x2 x3 x4 (x6 + (1 : Int32)) s23308))))) else none)) else none)
def fM_edit_233 (N : Nat) : Nat → Int32 → Int32 → Int32 → Int32 → Int32 → jS → Option (Int32 × jS)
  | 0 => fun _ _ _ _ _ _ => none
  | n + 1 => fun x1 x2 x3 x4 x6 s0 => fM_edit_b233 N (fM_edit_233 N n) x1 x2 x3 x4 x6 s0
def fM_edit_b102 (N : Nat) (k102 : Int32 → Int32 → Int32 → Int32 → Int32 → Int32 → jS → Option (Int32 × jS)) (x1 x2 x3 x4 x5 x6 : Int32) (s0 : jS) : Option (Int32 × jS) := (if x5 ≤ x6 then (if jIn (jgI s0 0) 2 = true then (jL (jsA s0 1 (jgI s0 0).toNatClampNeg x5) fun s10202 => (jB (fM_parse N (jgI s10202 0) s10202) fun r10203 s10203 => (jL (jsI s10203 2 (jgI s10203 2 + (1 : Int32))) fun s10204 => (jL (jsI s10204 3 (0 : Int32)) fun s10205 => fM_edit_233 N N x1 x2 x3 x4 (0 : Int32) s10205)))) else none) else (if x6 < x1 then fM_edit_127 N k102 x1 x2 x3 x4 x5 x6 s0 else (if (x1 + x3) ≤ x6 then fM_edit_127 N k102 x1 x2 x3 x4 x5 x6 s0 else fM_edit_128 N k102 x1 x2 x3 x4 x5 x6 (1 : Int32) s0)))
def fM_edit_102 (N : Nat) : Nat → Int32 → Int32 → Int32 → Int32 → Int32 → Int32 → jS → Option (Int32 × jS)
  | 0 => fun _ _ _ _ _ _ _ => none
  | n + 1 => fun x1 x2 x3 x4 x5 x6 s0 => fM_edit_b102 N (fM_edit_102 N n) x1 x2 x3 x4 x5 x6 s0
def fM_edit (N : Nat) (a0 a1 : Int32) (z0 : jS) : Option (Int32 × jS) := (jL (jsI z0 4 (0 : Int32)) fun s1 => (if a0 < 0 then some ((0 : Int32), s1) else (if a1 < 0 then some ((0 : Int32), s1) else (if jIn (jgI s1 0) 2 = true then (if jgA s1 1 (jgI s1 0).toNatClampNeg < a0 then some ((0 : Int32), s1) else (if jIn (jgI s1 0) 2 = true then (if (jgA s1 1 (jgI s1 0).toNatClampNeg - a0) < a1 then some ((0 : Int32), s1) else (if jIn (jgI s1 0) 2 = true then (if ((jgA s1 1 (jgI s1 0).toNatClampNeg - a1) + jgI z0 4) ≤ (60 : Int32) then (jB (fM_keep N s1) fun r10 s10 => (jL (jsI s10 0 ((1 : Int32) - jgI s10 0)) fun s11 => (if jIn (jgI s10 0) 2 = true then fM_edit_102 N N a0 a1 (jgI z0 4) (jgI s10 0) ((jgA s11 1 (jgI s10 0).toNatClampNeg - a1) + jgI z0 4) (0 : Int32) s11 else none))) else some ((0 : Int32), s1)) else none)) else none)) else none))))
set_option maxHeartbeats 4000000 in
set_option maxRecDepth 100000 in
theorem cM_edit (l : Launch) (dC : Nat → ClassId) (dI : Nat → Nat → Nat) (cI cC cL : ClassId) (sk sv : Nat → Nat) (ad : Nat → Nat) (N : Nat) (a0 a1 : Int32) (z0 z1 : jS) (r : Int32) (hf : fM_edit N a0 a1 z0 = some (r, z1)) : Ci l yM_edit (Cond.code yM_edit prog_8_method_34_code 8 (some .boolean) :: TB) ({ frames := 5, cells := 0, slots := 0, locals := 123 }) (dC, dI) vwCl [(cI, .int), (cC, .char), (cL, .object "SharedSyntax$Letters")] (jEn sk sv) [.ref (ad 0), .int a0, .int a1] (wM cI cC ad z0) (wM cI cC ad z1) r := by
  refine Ci_of (cc := prog_8_method_34_code) (maxL := 8) (ret := (some .boolean)) (by decide) rfl (Nat.le_of_ble_eq_true rfl) ?_
  intro p e s m below meth c ls F hl hK hN hC
  obtain ⟨hx, hb, hml, hown, hts, hr, hlk⟩ := F
  have ht : ∀ w ∈ TB, w.before [.ref (ad 0), .int a0, .int a1].toArray s = true := fun w h => hts w (List.mem_cons_of_mem _ h)
  have hA : ∀ q, s.heap.size ≤ q → va_A (wM cI cC ad z0) s.heap.size q := fun q h => Or.inr h
  have hl : lv_has ls 8 [(0, .ref (ad 0)), (1, .int a0), (2, .int a1)] := hl
  have L233 : ∀ (n : Nat) (x1 x2 x3 x4 x6 : Int32) (s0 : jS) (ls : Array Slot) (H : Heap) (locs : List Loc), lv_has ls 8 [(0, .ref (ad 0)), (1, .int x1), (2, .int x2), (3, .int x3), (4, .int x4), (6, .int x6)] → jcx (dC, dI) vwCl (va_A (wM cI cC ad z0) s.heap.size) s.heap (wM cI cC ad s0) H locs → fM_edit_233 N n x1 x2 x3 x4 x6 s0 = some (r, z1) → W p l e ({ frames := 5, cells := 0, slots := 0, locals := 123 }) s m [.ref (ad 0), .int a0, .int a1].toArray below meth c H locs 0 0 (MQ below (jQi (dC, dI) vwCl [(cI, .int), (cC, .char), (cL, .object "SharedSyntax$Letters")] (wM cI cC ad z0) (wM cI cC ad z1) s.heap.size r) [.ref (ad 0), .int a0, .int a1].toArray s 0 0 (va_A (wM cI cC ad z0) s.heap.size)) (F0 m 233 ls []) := by
    intro n
    induction n with
    | zero => exact fun _ _ _ _ _ _ _ _ _ _ _ hf => nomatch hf
    | succ n ih233 =>
      intro x1 x2 x3 x4 x6 s0 ls H locs hl hC hf
      replace hf : fM_edit_b233 N (fM_edit_233 N n) x1 x2 x3 x4 x6 s0 = some (r, z1) := hf
      generalize fM_edit_233 N n = k233 at ih233 hf
      unfold fM_edit_b233 at hf
      refine lv_iload hx hb dM_edit_233 (lv_at hl 5 rfl) ?_
      refine lv_aload_n hx hb dM_edit_235 rfl (lv_at hl 0 rfl) ?_
      refine va_get (D := (dC, dI)) (ci := 6) (v := .ref (ad 4)) (C := RcM) (T := TcM) (N := 43) hx hb ht in_cM hown hK hC.1 0 (wM_e0 cI cC ad s0) rfl 4 (by decide) (ht _ tw764) (fun _ h9 => h9) rfl dM_edit_236 ?_
      refine lv_aload_n hx hb dM_edit_239 rfl (lv_at hl 0 rfl) ?_
      refine va_get (D := (dC, dI)) (ci := 6) (v := .int (jgI s0 0)) (C := RcM) (T := TcM) (N := 43) hx hb ht in_cM hown hK hC.1 0 (wM_e0 cI cC ad s0) rfl 0 (by decide) (ht _ tw760) (fun _ h9 => h9) rfl dM_edit_240 ?_
      obtain ⟨hi23301, hf⟩ := jC_in hf
      refine va_iald hx hb hK hC.1 4 0 (wM_e4 cI cC ad s0) rfl hi23301 dM_edit_243 ?_
      refine lv_icmp_ge (tgt := 309) hx hb dM_edit_244 (by decide) (fun c23302 => ?_) (fun c23302 => ?_)
      · replace hf := jif_t c23302 hf
        refine lv_iconst (v := 1) hx hb dM_edit_309 (by decide) ?_
        cases hf
        exact jret_z hx hb hr (by decide +kernel) hlk hC hK dM_edit_310
      · replace hf := jif_f c23302 hf
        refine lv_aload_n hx hb dM_edit_247 rfl (lv_at hl 0 rfl) ?_
        refine va_get (D := (dC, dI)) (ci := 6) (v := .ref (ad 5)) (C := RcM) (T := TcM) (N := 43) hx hb ht in_cM hown hK hC.1 0 (wM_e0 cI cC ad s0) rfl 5 (by decide) (ht _ tw765) (fun _ h9 => h9) rfl dM_edit_248 ?_
        refine lv_sipush (v := 400) hx hb dM_edit_251 (by decide) ?_
        refine lv_aload_n hx hb dM_edit_254 rfl (lv_at hl 0 rfl) ?_
        refine va_get (D := (dC, dI)) (ci := 6) (v := .int (jgI s0 0)) (C := RcM) (T := TcM) (N := 43) hx hb ht in_cM hown hK hC.1 0 (wM_e0 cI cC ad s0) rfl 0 (by decide) (ht _ tw760) (fun _ h9 => h9) rfl dM_edit_255 ?_
        refine lv_imul hx hb dM_edit_258 ?_
        refine lv_iload hx hb dM_edit_259 (lv_at hl 5 rfl) ?_
        refine lv_iadd hx hb dM_edit_261 ?_
        obtain ⟨hi23303, hf⟩ := jC_in hf
        refine va_iald hx hb hK hC.1 5 0 (wM_e5 cI cC ad s0) rfl hi23303 dM_edit_262 ?_
        refine lv_istore (lv' := [(7, .int (jgA s0 4 ((((400 : Int32) * jgI s0 0) + x6)).toNatClampNeg)), (0, .ref (ad 0)), (1, .int x1), (2, .int x2), (3, .int x3), (4, .int x4), (6, .int x6)]) hx hb dM_edit_263 hl (by decide) rfl (fun ls hl => ?_)
        refine lv_iload hx hb dM_edit_265 (lv_at hl 0 rfl) ?_
        refine lv_bipush (v := 21) hx hb dM_edit_267 (by decide) ?_
        refine lv_icmp_lt (tgt := 303) hx hb dM_edit_269 (by decide) (fun c23304 => ?_) (fun c23304 => ?_)
        · replace hf := jif_t c23304 hf
          refine lv_iinc (k := 6) (v := (x6 + (1 : Int32))) (lv' := [(6, .int (x6 + (1 : Int32))), (7, .int (jgA s0 4 ((((400 : Int32) * jgI s0 0) + x6)).toNatClampNeg)), (0, .ref (ad 0)), (1, .int x1), (2, .int x2), (3, .int x3), (4, .int x4)]) hx hb dM_edit_303 hl rfl rfl (by decide) rfl (fun ls hl => ?_)
          refine lv_goto (tgt := 233) hx hb dM_edit_306 (by decide) ?_
          exact ih233 x1 x2 x3 x4 (x6 + (1 : Int32)) s0 ls _ _ (lv_sub hl [2, 3, 4, 5, 6, 0] rfl) hC hf
        · replace hf := jif_f c23304 hf
          refine lv_iload hx hb dM_edit_272 (lv_at hl 0 rfl) ?_
          refine lv_bipush (v := 25) hx hb dM_edit_274 (by decide) ?_
          refine lv_icmp_gt (tgt := 303) hx hb dM_edit_276 (by decide) (fun c23305 => ?_) (fun c23305 => ?_)
          · replace hf := jif_t c23305 hf
            refine lv_iinc (k := 6) (v := (x6 + (1 : Int32))) (lv' := [(6, .int (x6 + (1 : Int32))), (7, .int (jgA s0 4 ((((400 : Int32) * jgI s0 0) + x6)).toNatClampNeg)), (0, .ref (ad 0)), (1, .int x1), (2, .int x2), (3, .int x3), (4, .int x4)]) hx hb dM_edit_303 hl rfl rfl (by decide) rfl (fun ls hl => ?_)
            refine lv_goto (tgt := 233) hx hb dM_edit_306 (by decide) ?_
            exact ih233 x1 x2 x3 x4 (x6 + (1 : Int32)) s0 ls _ _ (lv_sub hl [2, 3, 4, 5, 6, 0] rfl) hC hf
          · replace hf := jif_f c23305 hf
            refine lv_aload_n hx hb dM_edit_279 rfl (lv_at hl 1 rfl) ?_
            refine lv_iload hx hb dM_edit_280 (lv_at hl 5 rfl) ?_
            refine lv_iload hx hb dM_edit_282 (lv_at hl 6 rfl) ?_
            refine lv_iload_n hx hb dM_edit_284 rfl (lv_at hl 2 rfl) ?_
            refine lv_iload_n hx hb dM_edit_285 rfl (lv_at hl 3 rfl) ?_
            refine lv_iload_n hx hb dM_edit_286 rfl (lv_at hl 4 rfl) ?_
            obtain ⟨r23306, s23306, hc23306, hf⟩ := jB_some hf
            refine jcall_i (va_runV (C := RcM) (As := [.int x4, .int x6, .int x1, .int x2, .int x3]) (rest := []) ⟨hx, hb, hml, hown, hts⟩ ((cM_reused l dC dI cI cC cL sk sv ad N x4 x6 x1 x2 x3 s0 s23306 r23306 hc23306) _) ⟨(callB_of 5 hts (tb_good tw906) rfl rfl rfl (ht _ tw14) (ht _ tw903) (by decide +kernel) ⟨Nat.le_of_ble_eq_true rfl, Nat.le_of_ble_eq_true rfl⟩), ht _ tw905, ht _ (tb_sel pv_M_reused)⟩ (jpreV (jEn_ok sk sv) hC hA hK hN (wM_e0 cI cC ad s0) rfl rfl _) rfl rfl hl.1 rfl (lv_room (Nat.le_of_ble_eq_true rfl)) dM_edit_287 ⟨Nat.le_refl _, Nat.le_refl _⟩) hC hA (fun H locs hC => ?_)
            refine lv_if_eq (tgt := 303) hx hb dM_edit_290 (by decide) (fun c23307 => ?_) (fun c23307 => ?_)
            · replace hf := jif_t c23307 hf
              refine lv_iinc (k := 6) (v := (x6 + (1 : Int32))) (lv' := [(6, .int (x6 + (1 : Int32))), (7, .int (jgA s0 4 ((((400 : Int32) * jgI s0 0) + x6)).toNatClampNeg)), (0, .ref (ad 0)), (1, .int x1), (2, .int x2), (3, .int x3), (4, .int x4)]) hx hb dM_edit_303 hl rfl rfl (by decide) rfl (fun ls hl => ?_)
              refine lv_goto (tgt := 233) hx hb dM_edit_306 (by decide) ?_
              exact ih233 x1 x2 x3 x4 (x6 + (1 : Int32)) s23306 ls _ _ (lv_sub hl [2, 3, 4, 5, 6, 0] rfl) hC hf
            · replace hf := jif_f c23307 hf
              refine lv_aload_n hx hb dM_edit_293 rfl (lv_at hl 1 rfl) ?_
              refine lv_dup hx hb dM_edit_294 rfl ?_
              refine va_get (D := (dC, dI)) (ci := 6) (v := .int (jgI s23306 3)) (C := RcM) (T := TcM) (N := 43) hx hb ht in_cM hown hK hC.1 0 (wM_e0 cI cC ad s23306) rfl 17 (by decide) (ht _ tw777) (fun _ h9 => h9) rfl dM_edit_295 ?_
              refine lv_iconst (v := 1) hx hb dM_edit_298 (by decide) ?_
              refine lv_iadd hx hb dM_edit_299 ?_
              obtain ⟨s23308, e23308, hf⟩ := jL_s hf
              refine jput (ci := 6) (C := RcM) (T := TcM) (N := 43) hx hb ht in_cM tycM tycM_ok nmcM hown hK hC 0 (wM_e0 cI cC ad s23306) rfl 17 (by decide) (ht _ tw777) (fun _ h9 => h9) rfl rfl (Nat.le_of_ble_eq_true rfl) dM_edit_300 ((wM_p3 cI cC ad s23306 _).trans (congrArg (wM cI cC ad) e23308.symm)) (fun H locs hC => ?_)
              refine lv_iinc (k := 6) (v := (x6 + (1 : Int32))) (lv' := [(6, .int (x6 + (1 : Int32))), (7, .int (jgA s0 4 ((((400 : Int32) * jgI s0 0) + x6)).toNatClampNeg)), (0, .ref (ad 0)), (1, .int x1), (2, .int x2), (3, .int x3), (4, .int x4)]) hx hb dM_edit_303 hl rfl rfl (by decide) rfl (fun ls hl => ?_)
              refine lv_goto (tgt := 233) hx hb dM_edit_306 (by decide) ?_
              exact ih233 x1 x2 x3 x4 (x6 + (1 : Int32)) s23308 ls _ _ (lv_sub hl [2, 3, 4, 5, 6, 0] rfl) hC hf
  have L102 : ∀ (n : Nat) (x1 x2 x3 x4 x5 x6 : Int32) (s0 : jS) (ls : Array Slot) (H : Heap) (locs : List Loc), lv_has ls 8 [(0, .ref (ad 0)), (1, .int x1), (2, .int x2), (3, .int x3), (4, .int x4), (5, .int x5), (6, .int x6)] → jcx (dC, dI) vwCl (va_A (wM cI cC ad z0) s.heap.size) s.heap (wM cI cC ad s0) H locs → fM_edit_102 N n x1 x2 x3 x4 x5 x6 s0 = some (r, z1) → W p l e ({ frames := 5, cells := 0, slots := 0, locals := 123 }) s m [.ref (ad 0), .int a0, .int a1].toArray below meth c H locs 0 0 (MQ below (jQi (dC, dI) vwCl [(cI, .int), (cC, .char), (cL, .object "SharedSyntax$Letters")] (wM cI cC ad z0) (wM cI cC ad z1) s.heap.size r) [.ref (ad 0), .int a0, .int a1].toArray s 0 0 (va_A (wM cI cC ad z0) s.heap.size)) (F0 m 102 ls []) := by
    intro n
    induction n with
    | zero => exact fun _ _ _ _ _ _ _ _ _ _ _ _ hf => nomatch hf
    | succ n ih102 =>
      intro x1 x2 x3 x4 x5 x6 s0 ls H locs hl hC hf
      replace hf : fM_edit_b102 N (fM_edit_102 N n) x1 x2 x3 x4 x5 x6 s0 = some (r, z1) := hf
      generalize fM_edit_102 N n = k102 at ih102 hf
      have L128 : ∀ (x1 x2 x3 x4 x5 x6 y0 : Int32) (s0 : jS) (ls : Array Slot) (H : Heap) (locs : List Loc), lv_has ls 8 [(0, .ref (ad 0)), (1, .int x1), (2, .int x2), (3, .int x3), (4, .int x4), (5, .int x5), (6, .int x6)] → jcx (dC, dI) vwCl (va_A (wM cI cC ad z0) s.heap.size) s.heap (wM cI cC ad s0) H locs → fM_edit_128 N k102 x1 x2 x3 x4 x5 x6 y0 s0 = some (r, z1) → W p l e ({ frames := 5, cells := 0, slots := 0, locals := 123 }) s m [.ref (ad 0), .int a0, .int a1].toArray below meth c H locs 0 0 (MQ below (jQi (dC, dI) vwCl [(cI, .int), (cC, .char), (cL, .object "SharedSyntax$Letters")] (wM cI cC ad z0) (wM cI cC ad z1) s.heap.size r) [.ref (ad 0), .int a0, .int a1].toArray s 0 0 (va_A (wM cI cC ad z0) s.heap.size)) (F0 m 128 ls [.int y0]) := by
        intro x1 x2 x3 x4 x5 x6 y0 s0 ls H locs hl hC hf
        unfold fM_edit_128 at hf
        refine lv_istore (lv' := [(7, .int y0), (0, .ref (ad 0)), (1, .int x1), (2, .int x2), (3, .int x3), (4, .int x4), (5, .int x5), (6, .int x6)]) hx hb dM_edit_128 hl (by decide) rfl (fun ls hl => ?_)
        refine lv_aload_n hx hb dM_edit_130 rfl (lv_at hl 1 rfl) ?_
        refine va_get (D := (dC, dI)) (ci := 6) (v := .ref (ad 1)) (C := RcM) (T := TcM) (N := 43) hx hb ht in_cM hown hK hC.1 0 (wM_e0 cI cC ad s0) rfl 1 (by decide) (ht _ tw761) (fun _ h9 => h9) rfl dM_edit_131 ?_
        refine lv_bipush (v := 60) hx hb dM_edit_134 (by decide) ?_
        refine lv_aload_n hx hb dM_edit_136 rfl (lv_at hl 1 rfl) ?_
        refine va_get (D := (dC, dI)) (ci := 6) (v := .int (jgI s0 0)) (C := RcM) (T := TcM) (N := 43) hx hb ht in_cM hown hK hC.1 0 (wM_e0 cI cC ad s0) rfl 0 (by decide) (ht _ tw760) (fun _ h9 => h9) rfl dM_edit_137 ?_
        refine lv_imul hx hb dM_edit_140 ?_
        refine lv_iload hx hb dM_edit_141 (lv_at hl 7 rfl) ?_
        refine lv_iadd hx hb dM_edit_143 ?_
        refine lv_iload hx hb dM_edit_144 (lv_at hl 0 rfl) ?_
        refine lv_if_eq (tgt := 161) hx hb dM_edit_146 (by decide) (fun c12801 => ?_) (fun c12801 => ?_)
        · replace hf := jif_t c12801 hf
          refine lv_aload_n hx hb dM_edit_161 rfl (lv_at hl 1 rfl) ?_
          refine va_get (D := (dC, dI)) (ci := 6) (v := .ref (ad 1)) (C := RcM) (T := TcM) (N := 43) hx hb ht in_cM hown hK hC.1 0 (wM_e0 cI cC ad s0) rfl 1 (by decide) (ht _ tw761) (fun _ h9 => h9) rfl dM_edit_162 ?_
          refine lv_bipush (v := 60) hx hb dM_edit_165 (by decide) ?_
          refine lv_iload hx hb dM_edit_167 (lv_at hl 5 rfl) ?_
          refine lv_imul hx hb dM_edit_169 ?_
          refine lv_iload hx hb dM_edit_170 (lv_at hl 7 rfl) ?_
          refine lv_iload_n hx hb dM_edit_172 rfl (lv_at hl 2 rfl) ?_
          refine lv_icmp_ge (tgt := 181) hx hb dM_edit_173 (by decide) (fun c12802 => ?_) (fun c12802 => ?_)
          · replace hf := jif_t c12802 hf
            refine lv_iload hx hb dM_edit_181 (lv_at hl 7 rfl) ?_
            refine lv_iload_n hx hb dM_edit_183 rfl (lv_at hl 4 rfl) ?_
            refine lv_isub hx hb dM_edit_184 ?_
            refine lv_iload_n hx hb dM_edit_185 rfl (lv_at hl 3 rfl) ?_
            refine lv_iadd hx hb dM_edit_186 ?_
            refine lv_iadd hx hb dM_edit_187 ?_
            obtain ⟨hi12803, hf⟩ := jC_in hf
            refine va_cald hx hb hK hC.1 1 1 (wM_e1 cI cC ad s0) rfl hi12803 dM_edit_188 ?_
            obtain ⟨hi12804, hf⟩ := jC_in hf
            obtain ⟨s12804, e12804, hf⟩ := jL_s hf
            refine jast_c hx hb hK hC 1 1 (wM_e1 cI cC ad s0) rfl hi12804 dM_edit_189 ((wM_a0 cI cC ad s0 _ _).trans (congrArg (wM cI cC ad) e12804.symm)) (fun H locs hC => ?_)
            refine lv_iinc (k := 7) (v := (x6 + (1 : Int32))) (lv' := [(6, .int (x6 + (1 : Int32))), (7, .int y0), (0, .ref (ad 0)), (1, .int x1), (2, .int x2), (3, .int x3), (4, .int x4), (5, .int x5)]) hx hb dM_edit_190 hl rfl rfl (by decide) rfl (fun ls hl => ?_)
            refine lv_goto (tgt := 102) hx hb dM_edit_193 (by decide) ?_
            exact ih102 x1 x2 x3 x4 x5 (x6 + (1 : Int32)) s12804 ls _ _ (lv_sub hl [2, 3, 4, 5, 6, 7, 0] rfl) hC hf
          · replace hf := jif_f c12802 hf
            refine lv_iload hx hb dM_edit_176 (lv_at hl 7 rfl) ?_
            refine lv_goto (tgt := 187) hx hb dM_edit_178 (by decide) ?_
            refine lv_iadd hx hb dM_edit_187 ?_
            obtain ⟨hi12805, hf⟩ := jC_in hf
            refine va_cald hx hb hK hC.1 1 1 (wM_e1 cI cC ad s0) rfl hi12805 dM_edit_188 ?_
            obtain ⟨hi12806, hf⟩ := jC_in hf
            obtain ⟨s12806, e12806, hf⟩ := jL_s hf
            refine jast_c hx hb hK hC 1 1 (wM_e1 cI cC ad s0) rfl hi12806 dM_edit_189 ((wM_a0 cI cC ad s0 _ _).trans (congrArg (wM cI cC ad) e12806.symm)) (fun H locs hC => ?_)
            refine lv_iinc (k := 7) (v := (x6 + (1 : Int32))) (lv' := [(6, .int (x6 + (1 : Int32))), (7, .int y0), (0, .ref (ad 0)), (1, .int x1), (2, .int x2), (3, .int x3), (4, .int x4), (5, .int x5)]) hx hb dM_edit_190 hl rfl rfl (by decide) rfl (fun ls hl => ?_)
            refine lv_goto (tgt := 102) hx hb dM_edit_193 (by decide) ?_
            exact ih102 x1 x2 x3 x4 x5 (x6 + (1 : Int32)) s12806 ls _ _ (lv_sub hl [2, 3, 4, 5, 6, 7, 0] rfl) hC hf
        · replace hf := jif_f c12801 hf
          refine lv_aload_n hx hb dM_edit_149 rfl (lv_at hl 1 rfl) ?_
          refine va_get (D := (dC, dI)) (ci := 6) (v := .ref (ad 15)) (C := RcM) (T := TcM) (N := 43) hx hb ht in_cM hown hK hC.1 0 (wM_e0 cI cC ad s0) rfl 18 (by decide) (ht _ tw778) (fun _ h9 => h9) rfl dM_edit_150 ?_
          refine lv_iload hx hb dM_edit_153 (lv_at hl 7 rfl) ?_
          refine lv_iload_n hx hb dM_edit_155 rfl (lv_at hl 2 rfl) ?_
          refine lv_isub hx hb dM_edit_156 ?_
          obtain ⟨hi12807, hf⟩ := jC_in hf
          refine va_cald hx hb hK hC.1 15 1 (wM_e15 cI cC ad s0) rfl hi12807 dM_edit_157 ?_
          refine lv_goto (tgt := 189) hx hb dM_edit_158 (by decide) ?_
          obtain ⟨hi12808, hf⟩ := jC_in hf
          obtain ⟨s12808, e12808, hf⟩ := jL_s hf
          refine jast_c hx hb hK hC 1 1 (wM_e1 cI cC ad s0) rfl hi12808 dM_edit_189 ((wM_a0 cI cC ad s0 _ _).trans (congrArg (wM cI cC ad) e12808.symm)) (fun H locs hC => ?_)
          refine lv_iinc (k := 7) (v := (x6 + (1 : Int32))) (lv' := [(6, .int (x6 + (1 : Int32))), (7, .int y0), (0, .ref (ad 0)), (1, .int x1), (2, .int x2), (3, .int x3), (4, .int x4), (5, .int x5)]) hx hb dM_edit_190 hl rfl rfl (by decide) rfl (fun ls hl => ?_)
          refine lv_goto (tgt := 102) hx hb dM_edit_193 (by decide) ?_
          exact ih102 x1 x2 x3 x4 x5 (x6 + (1 : Int32)) s12808 ls _ _ (lv_sub hl [2, 3, 4, 5, 6, 7, 0] rfl) hC hf
      have L127 : ∀ (x1 x2 x3 x4 x5 x6 : Int32) (s0 : jS) (ls : Array Slot) (H : Heap) (locs : List Loc), lv_has ls 8 [(0, .ref (ad 0)), (1, .int x1), (2, .int x2), (3, .int x3), (4, .int x4), (5, .int x5), (6, .int x6)] → jcx (dC, dI) vwCl (va_A (wM cI cC ad z0) s.heap.size) s.heap (wM cI cC ad s0) H locs → fM_edit_127 N k102 x1 x2 x3 x4 x5 x6 s0 = some (r, z1) → W p l e ({ frames := 5, cells := 0, slots := 0, locals := 123 }) s m [.ref (ad 0), .int a0, .int a1].toArray below meth c H locs 0 0 (MQ below (jQi (dC, dI) vwCl [(cI, .int), (cC, .char), (cL, .object "SharedSyntax$Letters")] (wM cI cC ad z0) (wM cI cC ad z1) s.heap.size r) [.ref (ad 0), .int a0, .int a1].toArray s 0 0 (va_A (wM cI cC ad z0) s.heap.size)) (F0 m 127 ls []) := by
        intro x1 x2 x3 x4 x5 x6 s0 ls H locs hl hC hf
        unfold fM_edit_127 at hf
        refine lv_iconst (v := 0) hx hb dM_edit_127 (by decide) ?_
        exact L128 x1 x2 x3 x4 x5 x6 (0 : Int32) s0 ls _ _ (lv_sub hl [0, 1, 2, 3, 4, 5, 6] rfl) hC hf
      unfold fM_edit_b102 at hf
      refine lv_iload hx hb dM_edit_102 (lv_at hl 6 rfl) ?_
      refine lv_iload hx hb dM_edit_104 (lv_at hl 5 rfl) ?_
      refine lv_icmp_ge (tgt := 196) hx hb dM_edit_106 (by decide) (fun c10201 => ?_) (fun c10201 => ?_)
      · replace hf := jif_t c10201 hf
        refine lv_aload_n hx hb dM_edit_196 rfl (lv_at hl 0 rfl) ?_
        refine va_get (D := (dC, dI)) (ci := 6) (v := .ref (ad 2)) (C := RcM) (T := TcM) (N := 43) hx hb ht in_cM hown hK hC.1 0 (wM_e0 cI cC ad s0) rfl 2 (by decide) (ht _ tw762) (fun _ h9 => h9) rfl dM_edit_197 ?_
        refine lv_aload_n hx hb dM_edit_200 rfl (lv_at hl 0 rfl) ?_
        refine va_get (D := (dC, dI)) (ci := 6) (v := .int (jgI s0 0)) (C := RcM) (T := TcM) (N := 43) hx hb ht in_cM hown hK hC.1 0 (wM_e0 cI cC ad s0) rfl 0 (by decide) (ht _ tw760) (fun _ h9 => h9) rfl dM_edit_201 ?_
        refine lv_iload hx hb dM_edit_204 (lv_at hl 5 rfl) ?_
        obtain ⟨hi10202, hf⟩ := jC_in hf
        obtain ⟨s10202, e10202, hf⟩ := jL_s hf
        refine jast_i hx hb hK hC 2 0 (wM_e2 cI cC ad s0) rfl hi10202 dM_edit_206 ((wM_a1 cI cC ad s0 _ _).trans (congrArg (wM cI cC ad) e10202.symm)) (fun H locs hC => ?_)
        refine lv_aload_n hx hb dM_edit_207 rfl (lv_at hl 0 rfl) ?_
        refine lv_aload_n hx hb dM_edit_208 rfl (lv_at hl 0 rfl) ?_
        refine va_get (D := (dC, dI)) (ci := 6) (v := .int (jgI s10202 0)) (C := RcM) (T := TcM) (N := 43) hx hb ht in_cM hown hK hC.1 0 (wM_e0 cI cC ad s10202) rfl 0 (by decide) (ht _ tw760) (fun _ h9 => h9) rfl dM_edit_209 ?_
        obtain ⟨r10203, s10203, hc10203, hf⟩ := jB_some hf
        refine jcall_v (va_runV (C := RcM) (As := [.int (jgI s10202 0)]) (rest := []) ⟨hx, hb, hml, hown, hts⟩ ((cM_parse l dC dI cI cC cL sk sv ad N (jgI s10202 0) s10202 s10203 r10203 hc10203) _) ⟨(callB_of 1 hts (tb_good tw657) rfl rfl rfl (ht _ tw14) (ht _ tw654) (by decide +kernel) ⟨Nat.le_of_ble_eq_true rfl, Nat.le_of_ble_eq_true rfl⟩), ht _ tw656, ht _ (tb_sel pv_M_parse)⟩ (jpreV (jEn_ok sk sv) hC hA hK hN (wM_e0 cI cC ad s10202) rfl rfl _) rfl rfl hl.1 rfl (lv_room (Nat.le_of_ble_eq_true rfl)) dM_edit_212 ⟨Nat.le_refl _, Nat.le_refl _⟩) hC hA (fun H locs hC => ?_)
        refine lv_aload_n hx hb dM_edit_215 rfl (lv_at hl 0 rfl) ?_
        refine lv_dup hx hb dM_edit_216 rfl ?_
        refine va_get (D := (dC, dI)) (ci := 6) (v := .int (jgI s10203 2)) (C := RcM) (T := TcM) (N := 43) hx hb ht in_cM hown hK hC.1 0 (wM_e0 cI cC ad s10203) rfl 16 (by decide) (ht _ tw776) (fun _ h9 => h9) rfl dM_edit_217 ?_
        refine lv_iconst (v := 1) hx hb dM_edit_220 (by decide) ?_
        refine lv_iadd hx hb dM_edit_221 ?_
        obtain ⟨s10204, e10204, hf⟩ := jL_s hf
        refine jput (ci := 6) (C := RcM) (T := TcM) (N := 43) hx hb ht in_cM tycM tycM_ok nmcM hown hK hC 0 (wM_e0 cI cC ad s10203) rfl 16 (by decide) (ht _ tw776) (fun _ h9 => h9) rfl rfl (Nat.le_of_ble_eq_true rfl) dM_edit_222 ((wM_p2 cI cC ad s10203 _).trans (congrArg (wM cI cC ad) e10204.symm)) (fun H locs hC => ?_)
        refine lv_aload_n hx hb dM_edit_225 rfl (lv_at hl 0 rfl) ?_
        refine lv_iconst (v := 0) hx hb dM_edit_226 (by decide) ?_
        obtain ⟨s10205, e10205, hf⟩ := jL_s hf
        refine jput (ci := 6) (C := RcM) (T := TcM) (N := 43) hx hb ht in_cM tycM tycM_ok nmcM hown hK hC 0 (wM_e0 cI cC ad s10204) rfl 17 (by decide) (ht _ tw777) (fun _ h9 => h9) rfl rfl (Nat.le_of_ble_eq_true rfl) dM_edit_227 ((wM_p3 cI cC ad s10204 _).trans (congrArg (wM cI cC ad) e10205.symm)) (fun H locs hC => ?_)
        refine lv_iconst (v := 0) hx hb dM_edit_230 (by decide) ?_
        refine lv_istore (lv' := [(6, .int (0 : Int32)), (0, .ref (ad 0)), (1, .int x1), (2, .int x2), (3, .int x3), (4, .int x4), (5, .int x5)]) hx hb dM_edit_231 hl (by decide) rfl (fun ls hl => ?_)
        exact L233 N x1 x2 x3 x4 (0 : Int32) s10205 ls _ _ (lv_sub hl [1, 2, 3, 4, 5, 0] rfl) hC hf
      · replace hf := jif_f c10201 hf
        refine lv_iload hx hb dM_edit_109 (lv_at hl 6 rfl) ?_
        refine lv_iload_n hx hb dM_edit_111 rfl (lv_at hl 1 rfl) ?_
        refine lv_icmp_lt (tgt := 127) hx hb dM_edit_112 (by decide) (fun c10206 => ?_) (fun c10206 => ?_)
        · replace hf := jif_t c10206 hf
          exact L127 x1 x2 x3 x4 x5 x6 s0 ls _ _ (lv_sub hl [0, 1, 2, 3, 4, 5, 6] rfl) hC hf
        · replace hf := jif_f c10206 hf
          refine lv_iload hx hb dM_edit_115 (lv_at hl 6 rfl) ?_
          refine lv_iload_n hx hb dM_edit_117 rfl (lv_at hl 1 rfl) ?_
          refine lv_iload_n hx hb dM_edit_118 rfl (lv_at hl 3 rfl) ?_
          refine lv_iadd hx hb dM_edit_119 ?_
          refine lv_icmp_ge (tgt := 127) hx hb dM_edit_120 (by decide) (fun c10207 => ?_) (fun c10207 => ?_)
          · replace hf := jif_t c10207 hf
            exact L127 x1 x2 x3 x4 x5 x6 s0 ls _ _ (lv_sub hl [0, 1, 2, 3, 4, 5, 6] rfl) hC hf
          · replace hf := jif_f c10207 hf
            refine lv_iconst (v := 1) hx hb dM_edit_123 (by decide) ?_
            refine lv_goto (tgt := 128) hx hb dM_edit_124 (by decide) ?_
            exact L128 x1 x2 x3 x4 x5 x6 (1 : Int32) s0 ls _ _ (lv_sub hl [0, 1, 2, 3, 4, 5, 6] rfl) hC hf
  unfold fM_edit at hf
  refine lv_aload_n hx hb dM_edit_0 rfl (lv_at hl 0 rfl) ?_
  refine va_get (D := (dC, dI)) (ci := 6) (v := .int (jgI z0 4)) (C := RcM) (T := TcM) (N := 43) hx hb ht in_cM hown hK hC.1 0 (wM_e0 cI cC ad z0) rfl 19 (by decide) (ht _ tw779) (fun _ h9 => h9) rfl dM_edit_1 ?_
  refine lv_istore_n (lv' := [(3, .int (jgI z0 4)), (0, .ref (ad 0)), (1, .int a0), (2, .int a1)]) hx hb dM_edit_4 rfl hl (by decide) rfl (fun ls hl => ?_)
  refine lv_aload_n hx hb dM_edit_5 rfl (lv_at hl 1 rfl) ?_
  refine lv_iconst (v := 0) hx hb dM_edit_6 (by decide) ?_
  obtain ⟨s1, e1, hf⟩ := jL_s hf
  refine jput (ci := 6) (C := RcM) (T := TcM) (N := 43) hx hb ht in_cM tycM tycM_ok nmcM hown hK hC 0 (wM_e0 cI cC ad z0) rfl 19 (by decide) (ht _ tw779) (fun _ h9 => h9) rfl rfl (Nat.le_of_ble_eq_true rfl) dM_edit_7 ((wM_p4 cI cC ad z0 _).trans (congrArg (wM cI cC ad) e1.symm)) (fun H locs hC => ?_)
  refine lv_iload_n hx hb dM_edit_10 rfl (lv_at hl 2 rfl) ?_
  refine lv_if_lt (tgt := 64) hx hb dM_edit_11 (by decide) (fun c2 => ?_) (fun c2 => ?_)
  · replace hf := jif_t c2 hf
    refine lv_iconst (v := 0) hx hb dM_edit_64 (by decide) ?_
    cases hf
    exact jret_z hx hb hr (by decide +kernel) hlk hC hK dM_edit_65
  · replace hf := jif_f c2 hf
    refine lv_iload_n hx hb dM_edit_14 rfl (lv_at hl 3 rfl) ?_
    refine lv_if_lt (tgt := 64) hx hb dM_edit_15 (by decide) (fun c3 => ?_) (fun c3 => ?_)
    · replace hf := jif_t c3 hf
      refine lv_iconst (v := 0) hx hb dM_edit_64 (by decide) ?_
      cases hf
      exact jret_z hx hb hr (by decide +kernel) hlk hC hK dM_edit_65
    · replace hf := jif_f c3 hf
      refine lv_iload_n hx hb dM_edit_18 rfl (lv_at hl 2 rfl) ?_
      refine lv_aload_n hx hb dM_edit_19 rfl (lv_at hl 1 rfl) ?_
      refine va_get (D := (dC, dI)) (ci := 6) (v := .ref (ad 2)) (C := RcM) (T := TcM) (N := 43) hx hb ht in_cM hown hK hC.1 0 (wM_e0 cI cC ad s1) rfl 2 (by decide) (ht _ tw762) (fun _ h9 => h9) rfl dM_edit_20 ?_
      refine lv_aload_n hx hb dM_edit_23 rfl (lv_at hl 1 rfl) ?_
      refine va_get (D := (dC, dI)) (ci := 6) (v := .int (jgI s1 0)) (C := RcM) (T := TcM) (N := 43) hx hb ht in_cM hown hK hC.1 0 (wM_e0 cI cC ad s1) rfl 0 (by decide) (ht _ tw760) (fun _ h9 => h9) rfl dM_edit_24 ?_
      obtain ⟨hi4, hf⟩ := jC_in hf
      refine va_iald hx hb hK hC.1 2 0 (wM_e2 cI cC ad s1) rfl hi4 dM_edit_27 ?_
      refine lv_icmp_gt (tgt := 64) hx hb dM_edit_28 (by decide) (fun c5 => ?_) (fun c5 => ?_)
      · replace hf := jif_t c5 hf
        refine lv_iconst (v := 0) hx hb dM_edit_64 (by decide) ?_
        cases hf
        exact jret_z hx hb hr (by decide +kernel) hlk hC hK dM_edit_65
      · replace hf := jif_f c5 hf
        refine lv_iload_n hx hb dM_edit_31 rfl (lv_at hl 3 rfl) ?_
        refine lv_aload_n hx hb dM_edit_32 rfl (lv_at hl 1 rfl) ?_
        refine va_get (D := (dC, dI)) (ci := 6) (v := .ref (ad 2)) (C := RcM) (T := TcM) (N := 43) hx hb ht in_cM hown hK hC.1 0 (wM_e0 cI cC ad s1) rfl 2 (by decide) (ht _ tw762) (fun _ h9 => h9) rfl dM_edit_33 ?_
        refine lv_aload_n hx hb dM_edit_36 rfl (lv_at hl 1 rfl) ?_
        refine va_get (D := (dC, dI)) (ci := 6) (v := .int (jgI s1 0)) (C := RcM) (T := TcM) (N := 43) hx hb ht in_cM hown hK hC.1 0 (wM_e0 cI cC ad s1) rfl 0 (by decide) (ht _ tw760) (fun _ h9 => h9) rfl dM_edit_37 ?_
        obtain ⟨hi6, hf⟩ := jC_in hf
        refine va_iald hx hb hK hC.1 2 0 (wM_e2 cI cC ad s1) rfl hi6 dM_edit_40 ?_
        refine lv_iload_n hx hb dM_edit_41 rfl (lv_at hl 2 rfl) ?_
        refine lv_isub hx hb dM_edit_42 ?_
        refine lv_icmp_gt (tgt := 64) hx hb dM_edit_43 (by decide) (fun c7 => ?_) (fun c7 => ?_)
        · replace hf := jif_t c7 hf
          refine lv_iconst (v := 0) hx hb dM_edit_64 (by decide) ?_
          cases hf
          exact jret_z hx hb hr (by decide +kernel) hlk hC hK dM_edit_65
        · replace hf := jif_f c7 hf
          refine lv_aload_n hx hb dM_edit_46 rfl (lv_at hl 1 rfl) ?_
          refine va_get (D := (dC, dI)) (ci := 6) (v := .ref (ad 2)) (C := RcM) (T := TcM) (N := 43) hx hb ht in_cM hown hK hC.1 0 (wM_e0 cI cC ad s1) rfl 2 (by decide) (ht _ tw762) (fun _ h9 => h9) rfl dM_edit_47 ?_
          refine lv_aload_n hx hb dM_edit_50 rfl (lv_at hl 1 rfl) ?_
          refine va_get (D := (dC, dI)) (ci := 6) (v := .int (jgI s1 0)) (C := RcM) (T := TcM) (N := 43) hx hb ht in_cM hown hK hC.1 0 (wM_e0 cI cC ad s1) rfl 0 (by decide) (ht _ tw760) (fun _ h9 => h9) rfl dM_edit_51 ?_
          obtain ⟨hi8, hf⟩ := jC_in hf
          refine va_iald hx hb hK hC.1 2 0 (wM_e2 cI cC ad s1) rfl hi8 dM_edit_54 ?_
          refine lv_iload_n hx hb dM_edit_55 rfl (lv_at hl 3 rfl) ?_
          refine lv_isub hx hb dM_edit_56 ?_
          refine lv_iload_n hx hb dM_edit_57 rfl (lv_at hl 0 rfl) ?_
          refine lv_iadd hx hb dM_edit_58 ?_
          refine lv_bipush (v := 60) hx hb dM_edit_59 (by decide) ?_
          refine lv_icmp_le (tgt := 66) hx hb dM_edit_61 (by decide) (fun c9 => ?_) (fun c9 => ?_)
          · replace hf := jif_t c9 hf
            refine lv_aload_n hx hb dM_edit_66 rfl (lv_at hl 1 rfl) ?_
            obtain ⟨r10, s10, hc10, hf⟩ := jB_some hf
            refine jcall_v (va_runV (C := RcM) (As := []) (rest := []) ⟨hx, hb, hml, hown, hts⟩ ((cM_keep l dC dI cI cC cL sk sv ad N s1 s10 r10 hc10) _) ⟨(callB_of 0 hts (tb_good tw902) rfl rfl rfl (ht _ tw14) (ht _ tw899) (by decide +kernel) ⟨Nat.le_of_ble_eq_true rfl, Nat.le_of_ble_eq_true rfl⟩), ht _ tw901, ht _ (tb_sel pv_M_keep)⟩ (jpreV (jEn_ok sk sv) hC hA hK hN (wM_e0 cI cC ad s1) rfl rfl _) rfl rfl hl.1 rfl (lv_room (Nat.le_of_ble_eq_true rfl)) dM_edit_67 ⟨Nat.le_refl _, Nat.le_refl _⟩) hC hA (fun H locs hC => ?_)
            refine lv_aload_n hx hb dM_edit_70 rfl (lv_at hl 1 rfl) ?_
            refine va_get (D := (dC, dI)) (ci := 6) (v := .int (jgI s10 0)) (C := RcM) (T := TcM) (N := 43) hx hb ht in_cM hown hK hC.1 0 (wM_e0 cI cC ad s10) rfl 0 (by decide) (ht _ tw760) (fun _ h9 => h9) rfl dM_edit_71 ?_
            refine lv_istore (lv' := [(4, .int (jgI s10 0)), (3, .int (jgI z0 4)), (0, .ref (ad 0)), (1, .int a0), (2, .int a1)]) hx hb dM_edit_74 hl (by decide) rfl (fun ls hl => ?_)
            refine lv_aload_n hx hb dM_edit_76 rfl (lv_at hl 2 rfl) ?_
            refine lv_iconst (v := 1) hx hb dM_edit_77 (by decide) ?_
            refine lv_aload_n hx hb dM_edit_78 rfl (lv_at hl 2 rfl) ?_
            refine va_get (D := (dC, dI)) (ci := 6) (v := .int (jgI s10 0)) (C := RcM) (T := TcM) (N := 43) hx hb ht in_cM hown hK hC.1 0 (wM_e0 cI cC ad s10) rfl 0 (by decide) (ht _ tw760) (fun _ h9 => h9) rfl dM_edit_79 ?_
            refine lv_isub hx hb dM_edit_82 ?_
            obtain ⟨s11, e11, hf⟩ := jL_s hf
            refine jput (ci := 6) (C := RcM) (T := TcM) (N := 43) hx hb ht in_cM tycM tycM_ok nmcM hown hK hC 0 (wM_e0 cI cC ad s10) rfl 0 (by decide) (ht _ tw760) (fun _ h9 => h9) rfl rfl (Nat.le_of_ble_eq_true rfl) dM_edit_83 ((wM_p0 cI cC ad s10 _).trans (congrArg (wM cI cC ad) e11.symm)) (fun H locs hC => ?_)
            refine lv_aload_n hx hb dM_edit_86 rfl (lv_at hl 2 rfl) ?_
            refine va_get (D := (dC, dI)) (ci := 6) (v := .ref (ad 2)) (C := RcM) (T := TcM) (N := 43) hx hb ht in_cM hown hK hC.1 0 (wM_e0 cI cC ad s11) rfl 2 (by decide) (ht _ tw762) (fun _ h9 => h9) rfl dM_edit_87 ?_
            refine lv_iload hx hb dM_edit_90 (lv_at hl 0 rfl) ?_
            obtain ⟨hi12, hf⟩ := jC_in hf
            refine va_iald hx hb hK hC.1 2 0 (wM_e2 cI cC ad s11) rfl hi12 dM_edit_92 ?_
            refine lv_iload_n hx hb dM_edit_93 rfl (lv_at hl 4 rfl) ?_
            refine lv_isub hx hb dM_edit_94 ?_
            refine lv_iload_n hx hb dM_edit_95 rfl (lv_at hl 1 rfl) ?_
            refine lv_iadd hx hb dM_edit_96 ?_
            refine lv_istore (lv' := [(5, .int ((jgA s11 1 (jgI s10 0).toNatClampNeg - a1) + jgI z0 4)), (4, .int (jgI s10 0)), (3, .int (jgI z0 4)), (0, .ref (ad 0)), (1, .int a0), (2, .int a1)]) hx hb dM_edit_97 hl (by decide) rfl (fun ls hl => ?_)
            refine lv_iconst (v := 0) hx hb dM_edit_99 (by decide) ?_
            refine lv_istore (lv' := [(6, .int (0 : Int32)), (5, .int ((jgA s11 1 (jgI s10 0).toNatClampNeg - a1) + jgI z0 4)), (4, .int (jgI s10 0)), (3, .int (jgI z0 4)), (0, .ref (ad 0)), (1, .int a0), (2, .int a1)]) hx hb dM_edit_100 hl (by decide) rfl (fun ls hl => ?_)
            exact L102 N a0 a1 (jgI z0 4) (jgI s10 0) ((jgA s11 1 (jgI s10 0).toNatClampNeg - a1) + jgI z0 4) (0 : Int32) s11 ls _ _ (lv_sub hl [4, 5, 6, 3, 2, 1, 0] rfl) hC hf
          · replace hf := jif_f c9 hf
            refine lv_iconst (v := 0) hx hb dM_edit_64 (by decide) ?_
            cases hf
            exact jret_z hx hb hr (by decide +kernel) hlk hC hK dM_edit_65

def fM_undo_b49 (N : Nat) (k49 : Int32 → jS → Option (Int32 × jS)) (x1 : Int32) (s0 : jS) : Option (Int32 × jS) := (if jIn (jgI s0 0) 2 = true then (if jgA s0 1 (jgI s0 0).toNatClampNeg ≤ x1 then (jB (fM_parse N (jgI s0 0) s0) fun r4903 s4903 => some ((1 : Int32), s4903)) else (if jIn (((60 : Int32) * jgI s0 1) + x1) 180 = true then (if jIn (((60 : Int32) * jgI s0 0) + x1) 120 = true then (jL (jsA s0 0 ((((60 : Int32) * jgI s0 0) + x1)).toNatClampNeg (vp_nar .char (jgA s0 12 ((((60 : Int32) * jgI s0 1) + x1)).toNatClampNeg))) fun s4905 => k49 (x1 + (1 : Int32)) s4905) else none) else none)) else none)
def fM_undo_49 (N : Nat) : Nat → Int32 → jS → Option (Int32 × jS)
  | 0 => fun _ _ => none
  | n + 1 => fun x1 s0 => fM_undo_b49 N (fM_undo_49 N n) x1 s0
def fM_undo (N : Nat) (z0 : jS) : Option (Int32 × jS) := (if jgI z0 1 = 0 then some ((0 : Int32), z0) else (jL (jsI z0 1 (jgI z0 1 - (1 : Int32))) fun s2 => (jL (jsI s2 2 (jgI s2 2 - (1 : Int32))) fun s3 => (if jIn (jgI s3 1) 3 = true then (if jIn (jgI s3 0) 2 = true then (jL (jsA s3 1 (jgI s3 0).toNatClampNeg (jgA s3 13 (jgI s3 1).toNatClampNeg)) fun s5 => fM_undo_49 N N (0 : Int32) s5) else none) else none))))
set_option maxHeartbeats 4000000 in
set_option maxRecDepth 100000 in
theorem cM_undo (l : Launch) (dC : Nat → ClassId) (dI : Nat → Nat → Nat) (cI cC cL : ClassId) (sk sv : Nat → Nat) (ad : Nat → Nat) (N : Nat) (z0 z1 : jS) (r : Int32) (hf : fM_undo N z0 = some (r, z1)) : Ci l yM_undo (Cond.code yM_undo prog_8_method_35_code 2 (some .boolean) :: TB) ({ frames := 5, cells := 0, slots := 0, locals := 123 }) (dC, dI) vwCl [(cI, .int), (cC, .char), (cL, .object "SharedSyntax$Letters")] (jEn sk sv) [.ref (ad 0)] (wM cI cC ad z0) (wM cI cC ad z1) r := by
  refine Ci_of (cc := prog_8_method_35_code) (maxL := 2) (ret := (some .boolean)) (by decide) rfl (Nat.le_of_ble_eq_true rfl) ?_
  intro p e s m below meth c ls F hl hK hN hC
  obtain ⟨hx, hb, hml, hown, hts, hr, hlk⟩ := F
  have ht : ∀ w ∈ TB, w.before [.ref (ad 0)].toArray s = true := fun w h => hts w (List.mem_cons_of_mem _ h)
  have hA : ∀ q, s.heap.size ≤ q → va_A (wM cI cC ad z0) s.heap.size q := fun q h => Or.inr h
  have hl : lv_has ls 2 [(0, .ref (ad 0))] := hl
  have L49 : ∀ (n : Nat) (x1 : Int32) (s0 : jS) (ls : Array Slot) (H : Heap) (locs : List Loc), lv_has ls 2 [(0, .ref (ad 0)), (1, .int x1)] → jcx (dC, dI) vwCl (va_A (wM cI cC ad z0) s.heap.size) s.heap (wM cI cC ad s0) H locs → fM_undo_49 N n x1 s0 = some (r, z1) → W p l e ({ frames := 5, cells := 0, slots := 0, locals := 123 }) s m [.ref (ad 0)].toArray below meth c H locs 0 0 (MQ below (jQi (dC, dI) vwCl [(cI, .int), (cC, .char), (cL, .object "SharedSyntax$Letters")] (wM cI cC ad z0) (wM cI cC ad z1) s.heap.size r) [.ref (ad 0)].toArray s 0 0 (va_A (wM cI cC ad z0) s.heap.size)) (F0 m 49 ls []) := by
    intro n
    induction n with
    | zero => exact fun _ _ _ _ _ _ _ hf => nomatch hf
    | succ n ih49 =>
      intro x1 s0 ls H locs hl hC hf
      replace hf : fM_undo_b49 N (fM_undo_49 N n) x1 s0 = some (r, z1) := hf
      generalize fM_undo_49 N n = k49 at ih49 hf
      unfold fM_undo_b49 at hf
      refine lv_iload_n hx hb dM_undo_49 rfl (lv_at hl 1 rfl) ?_
      refine lv_aload_n hx hb dM_undo_50 rfl (lv_at hl 0 rfl) ?_
      refine va_get (D := (dC, dI)) (ci := 6) (v := .ref (ad 2)) (C := RcM) (T := TcM) (N := 43) hx hb ht in_cM hown hK hC.1 0 (wM_e0 cI cC ad s0) rfl 2 (by decide) (ht _ tw762) (fun _ h9 => h9) rfl dM_undo_51 ?_
      refine lv_aload_n hx hb dM_undo_54 rfl (lv_at hl 0 rfl) ?_
      refine va_get (D := (dC, dI)) (ci := 6) (v := .int (jgI s0 0)) (C := RcM) (T := TcM) (N := 43) hx hb ht in_cM hown hK hC.1 0 (wM_e0 cI cC ad s0) rfl 0 (by decide) (ht _ tw760) (fun _ h9 => h9) rfl dM_undo_55 ?_
      obtain ⟨hi4901, hf⟩ := jC_in hf
      refine va_iald hx hb hK hC.1 2 0 (wM_e2 cI cC ad s0) rfl hi4901 dM_undo_58 ?_
      refine lv_icmp_ge (tgt := 96) hx hb dM_undo_59 (by decide) (fun c4902 => ?_) (fun c4902 => ?_)
      · replace hf := jif_t c4902 hf
        refine lv_aload_n hx hb dM_undo_96 rfl (lv_at hl 0 rfl) ?_
        refine lv_aload_n hx hb dM_undo_97 rfl (lv_at hl 0 rfl) ?_
        refine va_get (D := (dC, dI)) (ci := 6) (v := .int (jgI s0 0)) (C := RcM) (T := TcM) (N := 43) hx hb ht in_cM hown hK hC.1 0 (wM_e0 cI cC ad s0) rfl 0 (by decide) (ht _ tw760) (fun _ h9 => h9) rfl dM_undo_98 ?_
        obtain ⟨r4903, s4903, hc4903, hf⟩ := jB_some hf
        refine jcall_v (va_runV (C := RcM) (As := [.int (jgI s0 0)]) (rest := []) ⟨hx, hb, hml, hown, hts⟩ ((cM_parse l dC dI cI cC cL sk sv ad N (jgI s0 0) s0 s4903 r4903 hc4903) _) ⟨(callB_of 1 hts (tb_good tw657) rfl rfl rfl (ht _ tw14) (ht _ tw654) (by decide +kernel) ⟨Nat.le_of_ble_eq_true rfl, Nat.le_of_ble_eq_true rfl⟩), ht _ tw656, ht _ (tb_sel pv_M_parse)⟩ (jpreV (jEn_ok sk sv) hC hA hK hN (wM_e0 cI cC ad s0) rfl rfl _) rfl rfl hl.1 rfl (lv_room (Nat.le_of_ble_eq_true rfl)) dM_undo_101 ⟨Nat.le_refl _, Nat.le_refl _⟩) hC hA (fun H locs hC => ?_)
        refine lv_iconst (v := 1) hx hb dM_undo_104 (by decide) ?_
        cases hf
        exact jret_z hx hb hr (by decide +kernel) hlk hC hK dM_undo_105
      · replace hf := jif_f c4902 hf
        refine lv_aload_n hx hb dM_undo_62 rfl (lv_at hl 0 rfl) ?_
        refine va_get (D := (dC, dI)) (ci := 6) (v := .ref (ad 1)) (C := RcM) (T := TcM) (N := 43) hx hb ht in_cM hown hK hC.1 0 (wM_e0 cI cC ad s0) rfl 1 (by decide) (ht _ tw761) (fun _ h9 => h9) rfl dM_undo_63 ?_
        refine lv_bipush (v := 60) hx hb dM_undo_66 (by decide) ?_
        refine lv_aload_n hx hb dM_undo_68 rfl (lv_at hl 0 rfl) ?_
        refine va_get (D := (dC, dI)) (ci := 6) (v := .int (jgI s0 0)) (C := RcM) (T := TcM) (N := 43) hx hb ht in_cM hown hK hC.1 0 (wM_e0 cI cC ad s0) rfl 0 (by decide) (ht _ tw760) (fun _ h9 => h9) rfl dM_undo_69 ?_
        refine lv_imul hx hb dM_undo_72 ?_
        refine lv_iload_n hx hb dM_undo_73 rfl (lv_at hl 1 rfl) ?_
        refine lv_iadd hx hb dM_undo_74 ?_
        refine lv_aload_n hx hb dM_undo_75 rfl (lv_at hl 0 rfl) ?_
        refine va_get (D := (dC, dI)) (ci := 6) (v := .ref (ad 13)) (C := RcM) (T := TcM) (N := 43) hx hb ht in_cM hown hK hC.1 0 (wM_e0 cI cC ad s0) rfl 13 (by decide) (ht _ tw773) (fun _ h9 => h9) rfl dM_undo_76 ?_
        refine lv_bipush (v := 60) hx hb dM_undo_79 (by decide) ?_
        refine lv_aload_n hx hb dM_undo_81 rfl (lv_at hl 0 rfl) ?_
        refine va_get (D := (dC, dI)) (ci := 6) (v := .int (jgI s0 1)) (C := RcM) (T := TcM) (N := 43) hx hb ht in_cM hown hK hC.1 0 (wM_e0 cI cC ad s0) rfl 15 (by decide) (ht _ tw775) (fun _ h9 => h9) rfl dM_undo_82 ?_
        refine lv_imul hx hb dM_undo_85 ?_
        refine lv_iload_n hx hb dM_undo_86 rfl (lv_at hl 1 rfl) ?_
        refine lv_iadd hx hb dM_undo_87 ?_
        obtain ⟨hi4904, hf⟩ := jC_in hf
        refine va_cald hx hb hK hC.1 13 1 (wM_e13 cI cC ad s0) rfl hi4904 dM_undo_88 ?_
        obtain ⟨hi4905, hf⟩ := jC_in hf
        obtain ⟨s4905, e4905, hf⟩ := jL_s hf
        refine jast_c hx hb hK hC 1 1 (wM_e1 cI cC ad s0) rfl hi4905 dM_undo_89 ((wM_a0 cI cC ad s0 _ _).trans (congrArg (wM cI cC ad) e4905.symm)) (fun H locs hC => ?_)
        refine lv_iinc (k := 1) (v := (x1 + (1 : Int32))) (lv' := [(1, .int (x1 + (1 : Int32))), (0, .ref (ad 0))]) hx hb dM_undo_90 hl rfl rfl (by decide) rfl (fun ls hl => ?_)
        refine lv_goto (tgt := 49) hx hb dM_undo_93 (by decide) ?_
        exact ih49 (x1 + (1 : Int32)) s4905 ls _ _ (lv_sub hl [1, 0] rfl) hC hf
  unfold fM_undo at hf
  refine lv_aload_n hx hb dM_undo_0 rfl (lv_at hl 0 rfl) ?_
  refine va_get (D := (dC, dI)) (ci := 6) (v := .int (jgI z0 1)) (C := RcM) (T := TcM) (N := 43) hx hb ht in_cM hown hK hC.1 0 (wM_e0 cI cC ad z0) rfl 15 (by decide) (ht _ tw775) (fun _ h9 => h9) rfl dM_undo_1 ?_
  refine lv_if_ne (tgt := 9) hx hb dM_undo_4 (by decide) (fun c1 => ?_) (fun c1 => ?_)
  · replace hf := jif_f c1 hf
    refine lv_aload_n hx hb dM_undo_9 rfl (lv_at hl 0 rfl) ?_
    refine lv_dup hx hb dM_undo_10 rfl ?_
    refine va_get (D := (dC, dI)) (ci := 6) (v := .int (jgI z0 1)) (C := RcM) (T := TcM) (N := 43) hx hb ht in_cM hown hK hC.1 0 (wM_e0 cI cC ad z0) rfl 15 (by decide) (ht _ tw775) (fun _ h9 => h9) rfl dM_undo_11 ?_
    refine lv_iconst (v := 1) hx hb dM_undo_14 (by decide) ?_
    refine lv_isub hx hb dM_undo_15 ?_
    obtain ⟨s2, e2, hf⟩ := jL_s hf
    refine jput (ci := 6) (C := RcM) (T := TcM) (N := 43) hx hb ht in_cM tycM tycM_ok nmcM hown hK hC 0 (wM_e0 cI cC ad z0) rfl 15 (by decide) (ht _ tw775) (fun _ h9 => h9) rfl rfl (Nat.le_of_ble_eq_true rfl) dM_undo_16 ((wM_p1 cI cC ad z0 _).trans (congrArg (wM cI cC ad) e2.symm)) (fun H locs hC => ?_)
    refine lv_aload_n hx hb dM_undo_19 rfl (lv_at hl 0 rfl) ?_
    refine lv_dup hx hb dM_undo_20 rfl ?_
    refine va_get (D := (dC, dI)) (ci := 6) (v := .int (jgI s2 2)) (C := RcM) (T := TcM) (N := 43) hx hb ht in_cM hown hK hC.1 0 (wM_e0 cI cC ad s2) rfl 16 (by decide) (ht _ tw776) (fun _ h9 => h9) rfl dM_undo_21 ?_
    refine lv_iconst (v := 1) hx hb dM_undo_24 (by decide) ?_
    refine lv_isub hx hb dM_undo_25 ?_
    obtain ⟨s3, e3, hf⟩ := jL_s hf
    refine jput (ci := 6) (C := RcM) (T := TcM) (N := 43) hx hb ht in_cM tycM tycM_ok nmcM hown hK hC 0 (wM_e0 cI cC ad s2) rfl 16 (by decide) (ht _ tw776) (fun _ h9 => h9) rfl rfl (Nat.le_of_ble_eq_true rfl) dM_undo_26 ((wM_p2 cI cC ad s2 _).trans (congrArg (wM cI cC ad) e3.symm)) (fun H locs hC => ?_)
    refine lv_aload_n hx hb dM_undo_29 rfl (lv_at hl 0 rfl) ?_
    refine va_get (D := (dC, dI)) (ci := 6) (v := .ref (ad 2)) (C := RcM) (T := TcM) (N := 43) hx hb ht in_cM hown hK hC.1 0 (wM_e0 cI cC ad s3) rfl 2 (by decide) (ht _ tw762) (fun _ h9 => h9) rfl dM_undo_30 ?_
    refine lv_aload_n hx hb dM_undo_33 rfl (lv_at hl 0 rfl) ?_
    refine va_get (D := (dC, dI)) (ci := 6) (v := .int (jgI s3 0)) (C := RcM) (T := TcM) (N := 43) hx hb ht in_cM hown hK hC.1 0 (wM_e0 cI cC ad s3) rfl 0 (by decide) (ht _ tw760) (fun _ h9 => h9) rfl dM_undo_34 ?_
    refine lv_aload_n hx hb dM_undo_37 rfl (lv_at hl 0 rfl) ?_
    refine va_get (D := (dC, dI)) (ci := 6) (v := .ref (ad 14)) (C := RcM) (T := TcM) (N := 43) hx hb ht in_cM hown hK hC.1 0 (wM_e0 cI cC ad s3) rfl 14 (by decide) (ht _ tw774) (fun _ h9 => h9) rfl dM_undo_38 ?_
    refine lv_aload_n hx hb dM_undo_41 rfl (lv_at hl 0 rfl) ?_
    refine va_get (D := (dC, dI)) (ci := 6) (v := .int (jgI s3 1)) (C := RcM) (T := TcM) (N := 43) hx hb ht in_cM hown hK hC.1 0 (wM_e0 cI cC ad s3) rfl 15 (by decide) (ht _ tw775) (fun _ h9 => h9) rfl dM_undo_42 ?_
    obtain ⟨hi4, hf⟩ := jC_in hf
    refine va_iald hx hb hK hC.1 14 0 (wM_e14 cI cC ad s3) rfl hi4 dM_undo_45 ?_
    obtain ⟨hi5, hf⟩ := jC_in hf
    obtain ⟨s5, e5, hf⟩ := jL_s hf
    refine jast_i hx hb hK hC 2 0 (wM_e2 cI cC ad s3) rfl hi5 dM_undo_46 ((wM_a1 cI cC ad s3 _ _).trans (congrArg (wM cI cC ad) e5.symm)) (fun H locs hC => ?_)
    refine lv_iconst (v := 0) hx hb dM_undo_47 (by decide) ?_
    refine lv_istore_n (lv' := [(1, .int (0 : Int32)), (0, .ref (ad 0))]) hx hb dM_undo_48 rfl hl (by decide) rfl (fun ls hl => ?_)
    exact L49 N (0 : Int32) s5 ls _ _ (lv_sub hl [1, 0] rfl) hC hf
  · replace hf := jif_t c1 hf
    refine lv_iconst (v := 0) hx hb dM_undo_7 (by decide) ?_
    cases hf
    exact jret_z hx hb hr (by decide +kernel) hlk hC hK dM_undo_8

def fM_length (N : Nat) (z0 : jS) : Option (Int32 × jS) := (if jIn (jgI z0 0) 2 = true then some (jgA z0 1 (jgI z0 0).toNatClampNeg, z0) else none)
set_option maxHeartbeats 4000000 in
set_option maxRecDepth 100000 in
theorem cM_length (l : Launch) (dC : Nat → ClassId) (dI : Nat → Nat → Nat) (cI cC cL : ClassId) (sk sv : Nat → Nat) (ad : Nat → Nat) (N : Nat) (z0 z1 : jS) (r : Int32) (hf : fM_length N z0 = some (r, z1)) : Ci l yM_length (Cond.code yM_length prog_8_method_36_code 1 (some .int) :: TB) ({ frames := 0, cells := 0, slots := 0, locals := 0 }) (dC, dI) vwCl [(cI, .int), (cC, .char), (cL, .object "SharedSyntax$Letters")] (jEn sk sv) [.ref (ad 0)] (wM cI cC ad z0) (wM cI cC ad z1) r := by
  refine Ci_of (cc := prog_8_method_36_code) (maxL := 1) (ret := (some .int)) (by decide) rfl (Nat.le_of_ble_eq_true rfl) ?_
  intro p e s m below meth c ls F hl hK hN hC
  obtain ⟨hx, hb, hml, hown, hts, hr, hlk⟩ := F
  have ht : ∀ w ∈ TB, w.before [.ref (ad 0)].toArray s = true := fun w h => hts w (List.mem_cons_of_mem _ h)
  have hA : ∀ q, s.heap.size ≤ q → va_A (wM cI cC ad z0) s.heap.size q := fun q h => Or.inr h
  have hl : lv_has ls 1 [(0, .ref (ad 0))] := hl
  unfold fM_length at hf
  refine lv_aload_n hx hb dM_length_0 rfl (lv_at hl 0 rfl) ?_
  refine va_get (D := (dC, dI)) (ci := 6) (v := .ref (ad 2)) (C := RcM) (T := TcM) (N := 43) hx hb ht in_cM hown hK hC.1 0 (wM_e0 cI cC ad z0) rfl 2 (by decide) (ht _ tw762) (fun _ h9 => h9) rfl dM_length_1 ?_
  refine lv_aload_n hx hb dM_length_4 rfl (lv_at hl 0 rfl) ?_
  refine va_get (D := (dC, dI)) (ci := 6) (v := .int (jgI z0 0)) (C := RcM) (T := TcM) (N := 43) hx hb ht in_cM hown hK hC.1 0 (wM_e0 cI cC ad z0) rfl 0 (by decide) (ht _ tw760) (fun _ h9 => h9) rfl dM_length_5 ?_
  obtain ⟨hi1, hf⟩ := jC_in hf
  refine va_iald hx hb hK hC.1 2 0 (wM_e2 cI cC ad z0) rfl hi1 dM_length_8 ?_
  cases hf
  exact jret_i hx hb hr hlk hC hK dM_length_9

def fM_letter (N : Nat) (a0 : Int32) (z0 : jS) : Option (Int32 × jS) := (if a0 < 0 then some ((0 : Int32), z0) else (if jIn (jgI z0 0) 2 = true then (if a0 < jgA z0 1 (jgI z0 0).toNatClampNeg then (if jIn (((60 : Int32) * jgI z0 0) + a0) 120 = true then some (jgA z0 0 ((((60 : Int32) * jgI z0 0) + a0)).toNatClampNeg, z0) else none) else some ((0 : Int32), z0)) else none))
set_option maxHeartbeats 4000000 in
set_option maxRecDepth 100000 in
theorem cM_letter (l : Launch) (dC : Nat → ClassId) (dI : Nat → Nat → Nat) (cI cC cL : ClassId) (sk sv : Nat → Nat) (ad : Nat → Nat) (N : Nat) (a0 : Int32) (z0 z1 : jS) (r : Int32) (hf : fM_letter N a0 z0 = some (r, z1)) : Ci l yM_letter (Cond.code yM_letter prog_8_method_37_code 2 (some .int) :: TB) ({ frames := 0, cells := 0, slots := 0, locals := 0 }) (dC, dI) vwCl [(cI, .int), (cC, .char), (cL, .object "SharedSyntax$Letters")] (jEn sk sv) [.ref (ad 0), .int a0] (wM cI cC ad z0) (wM cI cC ad z1) r := by
  refine Ci_of (cc := prog_8_method_37_code) (maxL := 2) (ret := (some .int)) (by decide) rfl (Nat.le_of_ble_eq_true rfl) ?_
  intro p e s m below meth c ls F hl hK hN hC
  obtain ⟨hx, hb, hml, hown, hts, hr, hlk⟩ := F
  have ht : ∀ w ∈ TB, w.before [.ref (ad 0), .int a0].toArray s = true := fun w h => hts w (List.mem_cons_of_mem _ h)
  have hA : ∀ q, s.heap.size ≤ q → va_A (wM cI cC ad z0) s.heap.size q := fun q h => Or.inr h
  have hl : lv_has ls 2 [(0, .ref (ad 0)), (1, .int a0)] := hl
  unfold fM_letter at hf
  refine lv_iload_n hx hb dM_letter_0 rfl (lv_at hl 1 rfl) ?_
  refine lv_if_lt (tgt := 17) hx hb dM_letter_1 (by decide) (fun c1 => ?_) (fun c1 => ?_)
  · replace hf := jif_t c1 hf
    refine lv_iconst (v := 0) hx hb dM_letter_17 (by decide) ?_
    refine lv_goto (tgt := 35) hx hb dM_letter_18 (by decide) ?_
    cases hf
    exact jret_i hx hb hr hlk hC hK dM_letter_35
  · replace hf := jif_f c1 hf
    refine lv_iload_n hx hb dM_letter_4 rfl (lv_at hl 1 rfl) ?_
    refine lv_aload_n hx hb dM_letter_5 rfl (lv_at hl 0 rfl) ?_
    refine va_get (D := (dC, dI)) (ci := 6) (v := .ref (ad 2)) (C := RcM) (T := TcM) (N := 43) hx hb ht in_cM hown hK hC.1 0 (wM_e0 cI cC ad z0) rfl 2 (by decide) (ht _ tw762) (fun _ h9 => h9) rfl dM_letter_6 ?_
    refine lv_aload_n hx hb dM_letter_9 rfl (lv_at hl 0 rfl) ?_
    refine va_get (D := (dC, dI)) (ci := 6) (v := .int (jgI z0 0)) (C := RcM) (T := TcM) (N := 43) hx hb ht in_cM hown hK hC.1 0 (wM_e0 cI cC ad z0) rfl 0 (by decide) (ht _ tw760) (fun _ h9 => h9) rfl dM_letter_10 ?_
    obtain ⟨hi2, hf⟩ := jC_in hf
    refine va_iald hx hb hK hC.1 2 0 (wM_e2 cI cC ad z0) rfl hi2 dM_letter_13 ?_
    refine lv_icmp_lt (tgt := 21) hx hb dM_letter_14 (by decide) (fun c3 => ?_) (fun c3 => ?_)
    · replace hf := jif_t c3 hf
      refine lv_aload_n hx hb dM_letter_21 rfl (lv_at hl 0 rfl) ?_
      refine va_get (D := (dC, dI)) (ci := 6) (v := .ref (ad 1)) (C := RcM) (T := TcM) (N := 43) hx hb ht in_cM hown hK hC.1 0 (wM_e0 cI cC ad z0) rfl 1 (by decide) (ht _ tw761) (fun _ h9 => h9) rfl dM_letter_22 ?_
      refine lv_bipush (v := 60) hx hb dM_letter_25 (by decide) ?_
      refine lv_aload_n hx hb dM_letter_27 rfl (lv_at hl 0 rfl) ?_
      refine va_get (D := (dC, dI)) (ci := 6) (v := .int (jgI z0 0)) (C := RcM) (T := TcM) (N := 43) hx hb ht in_cM hown hK hC.1 0 (wM_e0 cI cC ad z0) rfl 0 (by decide) (ht _ tw760) (fun _ h9 => h9) rfl dM_letter_28 ?_
      refine lv_imul hx hb dM_letter_31 ?_
      refine lv_iload_n hx hb dM_letter_32 rfl (lv_at hl 1 rfl) ?_
      refine lv_iadd hx hb dM_letter_33 ?_
      obtain ⟨hi4, hf⟩ := jC_in hf
      refine va_cald hx hb hK hC.1 1 1 (wM_e1 cI cC ad z0) rfl hi4 dM_letter_34 ?_
      cases hf
      exact jret_i hx hb hr hlk hC hK dM_letter_35
    · replace hf := jif_f c3 hf
      refine lv_iconst (v := 0) hx hb dM_letter_17 (by decide) ?_
      refine lv_goto (tgt := 35) hx hb dM_letter_18 (by decide) ?_
      cases hf
      exact jret_i hx hb hr hlk hC hK dM_letter_35

def fM_there (N : Nat) (a0 : Int32) (z0 : jS) : Option (Int32 × jS) := (if a0 < 0 then some ((0 : Int32), z0) else (if jIn (jgI z0 0) 2 = true then (if jgA z0 3 (jgI z0 0).toNatClampNeg ≤ a0 then some ((0 : Int32), z0) else some ((1 : Int32), z0)) else none))
set_option maxHeartbeats 4000000 in
set_option maxRecDepth 100000 in
theorem cM_there (l : Launch) (dC : Nat → ClassId) (dI : Nat → Nat → Nat) (cI cC cL : ClassId) (sk sv : Nat → Nat) (ad : Nat → Nat) (N : Nat) (a0 : Int32) (z0 z1 : jS) (r : Int32) (hf : fM_there N a0 z0 = some (r, z1)) : Ci l yM_there (Cond.code yM_there prog_8_method_38_code 2 (some .boolean) :: TB) ({ frames := 0, cells := 0, slots := 0, locals := 0 }) (dC, dI) vwCl [(cI, .int), (cC, .char), (cL, .object "SharedSyntax$Letters")] (jEn sk sv) [.ref (ad 0), .int a0] (wM cI cC ad z0) (wM cI cC ad z1) r := by
  refine Ci_of (cc := prog_8_method_38_code) (maxL := 2) (ret := (some .boolean)) (by decide) rfl (Nat.le_of_ble_eq_true rfl) ?_
  intro p e s m below meth c ls F hl hK hN hC
  obtain ⟨hx, hb, hml, hown, hts, hr, hlk⟩ := F
  have ht : ∀ w ∈ TB, w.before [.ref (ad 0), .int a0].toArray s = true := fun w h => hts w (List.mem_cons_of_mem _ h)
  have hA : ∀ q, s.heap.size ≤ q → va_A (wM cI cC ad z0) s.heap.size q := fun q h => Or.inr h
  have hl : lv_has ls 2 [(0, .ref (ad 0)), (1, .int a0)] := hl
  unfold fM_there at hf
  refine lv_iload_n hx hb dM_there_0 rfl (lv_at hl 1 rfl) ?_
  refine lv_if_lt (tgt := 21) hx hb dM_there_1 (by decide) (fun c1 => ?_) (fun c1 => ?_)
  · replace hf := jif_t c1 hf
    refine lv_iconst (v := 0) hx hb dM_there_21 (by decide) ?_
    cases hf
    exact jret_z hx hb hr (by decide +kernel) hlk hC hK dM_there_22
  · replace hf := jif_f c1 hf
    refine lv_iload_n hx hb dM_there_4 rfl (lv_at hl 1 rfl) ?_
    refine lv_aload_n hx hb dM_there_5 rfl (lv_at hl 0 rfl) ?_
    refine va_get (D := (dC, dI)) (ci := 6) (v := .ref (ad 4)) (C := RcM) (T := TcM) (N := 43) hx hb ht in_cM hown hK hC.1 0 (wM_e0 cI cC ad z0) rfl 4 (by decide) (ht _ tw764) (fun _ h9 => h9) rfl dM_there_6 ?_
    refine lv_aload_n hx hb dM_there_9 rfl (lv_at hl 0 rfl) ?_
    refine va_get (D := (dC, dI)) (ci := 6) (v := .int (jgI z0 0)) (C := RcM) (T := TcM) (N := 43) hx hb ht in_cM hown hK hC.1 0 (wM_e0 cI cC ad z0) rfl 0 (by decide) (ht _ tw760) (fun _ h9 => h9) rfl dM_there_10 ?_
    obtain ⟨hi2, hf⟩ := jC_in hf
    refine va_iald hx hb hK hC.1 4 0 (wM_e4 cI cC ad z0) rfl hi2 dM_there_13 ?_
    refine lv_icmp_ge (tgt := 21) hx hb dM_there_14 (by decide) (fun c3 => ?_) (fun c3 => ?_)
    · replace hf := jif_t c3 hf
      refine lv_iconst (v := 0) hx hb dM_there_21 (by decide) ?_
      cases hf
      exact jret_z hx hb hr (by decide +kernel) hlk hC hK dM_there_22
    · replace hf := jif_f c3 hf
      refine lv_iconst (v := 1) hx hb dM_there_17 (by decide) ?_
      refine lv_goto (tgt := 22) hx hb dM_there_18 (by decide) ?_
      cases hf
      exact jret_z hx hb hr (by decide +kernel) hlk hC hK dM_there_22

def fM_faultsOf_b33 (N : Nat) (k33 : Int32 → Int32 → Int32 → jS → Option (Int32 × jS)) (x1 x2 x3 : Int32) (s0 : jS) : Option (Int32 × jS) := (if jIn x1 800 = true then (if jgA s0 6 (x1).toNatClampNeg ≤ x3 then some (x2, s0) else (if jIn (((61 : Int32) * jgI s0 0) + x3) 122 = true then (if jgA s0 2 ((((61 : Int32) * jgI s0 0) + x3)).toNatClampNeg ≤ 0 then k33 x1 (x2 + (0 : Int32)) (x3 + (1 : Int32)) s0 else k33 x1 (x2 + (1 : Int32)) (x3 + (1 : Int32)) s0) else none)) else none)
def fM_faultsOf_33 (N : Nat) : Nat → Int32 → Int32 → Int32 → jS → Option (Int32 × jS)
  | 0 => fun _ _ _ _ => none
  | n + 1 => fun x1 x2 x3 s0 => fM_faultsOf_b33 N (fM_faultsOf_33 N n) x1 x2 x3 s0
def fM_faultsOf (N : Nat) (a0 : Int32) (z0 : jS) : Option (Int32 × jS) := (if jIn a0 800 = true then (if jgA z0 9 (a0).toNatClampNeg ≤ 0 then (if jIn a0 800 = true then (if jgA z0 8 (a0).toNatClampNeg ≤ 0 then (if jIn a0 800 = true then fM_faultsOf_33 N N a0 (0 : Int32) (jgA z0 5 (a0).toNatClampNeg) z0 else none) else (if jIn a0 800 = true then fM_faultsOf_33 N N a0 (1 : Int32) (jgA z0 5 (a0).toNatClampNeg) z0 else none)) else none) else some ((0 : Int32), z0)) else none)
set_option maxHeartbeats 4000000 in
set_option maxRecDepth 100000 in
theorem cM_faultsOf (l : Launch) (dC : Nat → ClassId) (dI : Nat → Nat → Nat) (cI cC cL : ClassId) (sk sv : Nat → Nat) (ad : Nat → Nat) (N : Nat) (a0 : Int32) (z0 z1 : jS) (r : Int32) (hf : fM_faultsOf N a0 z0 = some (r, z1)) : Ci l yM_faultsOf (Cond.code yM_faultsOf prog_8_method_39_code 4 (some .int) :: TB) ({ frames := 0, cells := 0, slots := 0, locals := 0 }) (dC, dI) vwCl [(cI, .int), (cC, .char), (cL, .object "SharedSyntax$Letters")] (jEn sk sv) [.ref (ad 0), .int a0] (wM cI cC ad z0) (wM cI cC ad z1) r := by
  refine Ci_of (cc := prog_8_method_39_code) (maxL := 4) (ret := (some .int)) (by decide) rfl (Nat.le_of_ble_eq_true rfl) ?_
  intro p e s m below meth c ls F hl hK hN hC
  obtain ⟨hx, hb, hml, hown, hts, hr, hlk⟩ := F
  have ht : ∀ w ∈ TB, w.before [.ref (ad 0), .int a0].toArray s = true := fun w h => hts w (List.mem_cons_of_mem _ h)
  have hA : ∀ q, s.heap.size ≤ q → va_A (wM cI cC ad z0) s.heap.size q := fun q h => Or.inr h
  have hl : lv_has ls 4 [(0, .ref (ad 0)), (1, .int a0)] := hl
  have L33 : ∀ (n : Nat) (x1 x2 x3 : Int32) (s0 : jS) (ls : Array Slot) (H : Heap) (locs : List Loc), lv_has ls 4 [(0, .ref (ad 0)), (1, .int x1), (2, .int x2), (3, .int x3)] → jcx (dC, dI) vwCl (va_A (wM cI cC ad z0) s.heap.size) s.heap (wM cI cC ad s0) H locs → fM_faultsOf_33 N n x1 x2 x3 s0 = some (r, z1) → W p l e ({ frames := 0, cells := 0, slots := 0, locals := 0 }) s m [.ref (ad 0), .int a0].toArray below meth c H locs 0 0 (MQ below (jQi (dC, dI) vwCl [(cI, .int), (cC, .char), (cL, .object "SharedSyntax$Letters")] (wM cI cC ad z0) (wM cI cC ad z1) s.heap.size r) [.ref (ad 0), .int a0].toArray s 0 0 (va_A (wM cI cC ad z0) s.heap.size)) (F0 m 33 ls []) := by
    intro n
    induction n with
    | zero => exact fun _ _ _ _ _ _ _ _ _ hf => nomatch hf
    | succ n ih33 =>
      intro x1 x2 x3 s0 ls H locs hl hC hf
      replace hf : fM_faultsOf_b33 N (fM_faultsOf_33 N n) x1 x2 x3 s0 = some (r, z1) := hf
      generalize fM_faultsOf_33 N n = k33 at ih33 hf
      unfold fM_faultsOf_b33 at hf
      refine lv_iload_n hx hb dM_faultsOf_33 rfl (lv_at hl 3 rfl) ?_
      refine lv_aload_n hx hb dM_faultsOf_34 rfl (lv_at hl 0 rfl) ?_
      refine va_get (D := (dC, dI)) (ci := 6) (v := .ref (ad 7)) (C := RcM) (T := TcM) (N := 43) hx hb ht in_cM hown hK hC.1 0 (wM_e0 cI cC ad s0) rfl 7 (by decide) (ht _ tw767) (fun _ h9 => h9) rfl dM_faultsOf_35 ?_
      refine lv_iload_n hx hb dM_faultsOf_38 rfl (lv_at hl 1 rfl) ?_
      obtain ⟨hi3301, hf⟩ := jC_in hf
      refine va_iald hx hb hK hC.1 7 0 (wM_e7 cI cC ad s0) rfl hi3301 dM_faultsOf_39 ?_
      refine lv_icmp_ge (tgt := 74) hx hb dM_faultsOf_40 (by decide) (fun c3302 => ?_) (fun c3302 => ?_)
      · replace hf := jif_t c3302 hf
        refine lv_iload_n hx hb dM_faultsOf_74 rfl (lv_at hl 2 rfl) ?_
        cases hf
        exact jret_i hx hb hr hlk hC hK dM_faultsOf_75
      · replace hf := jif_f c3302 hf
        refine lv_iload_n hx hb dM_faultsOf_43 rfl (lv_at hl 2 rfl) ?_
        refine lv_aload_n hx hb dM_faultsOf_44 rfl (lv_at hl 0 rfl) ?_
        refine va_get (D := (dC, dI)) (ci := 6) (v := .ref (ad 3)) (C := RcM) (T := TcM) (N := 43) hx hb ht in_cM hown hK hC.1 0 (wM_e0 cI cC ad s0) rfl 3 (by decide) (ht _ tw763) (fun _ h9 => h9) rfl dM_faultsOf_45 ?_
        refine lv_bipush (v := 61) hx hb dM_faultsOf_48 (by decide) ?_
        refine lv_aload_n hx hb dM_faultsOf_50 rfl (lv_at hl 0 rfl) ?_
        refine va_get (D := (dC, dI)) (ci := 6) (v := .int (jgI s0 0)) (C := RcM) (T := TcM) (N := 43) hx hb ht in_cM hown hK hC.1 0 (wM_e0 cI cC ad s0) rfl 0 (by decide) (ht _ tw760) (fun _ h9 => h9) rfl dM_faultsOf_51 ?_
        refine lv_imul hx hb dM_faultsOf_54 ?_
        refine lv_iload_n hx hb dM_faultsOf_55 rfl (lv_at hl 3 rfl) ?_
        refine lv_iadd hx hb dM_faultsOf_56 ?_
        obtain ⟨hi3303, hf⟩ := jC_in hf
        refine va_iald hx hb hK hC.1 3 0 (wM_e3 cI cC ad s0) rfl hi3303 dM_faultsOf_57 ?_
        refine lv_if_le (tgt := 65) hx hb dM_faultsOf_58 (by decide) (fun c3304 => ?_) (fun c3304 => ?_)
        · replace hf := jif_t c3304 hf
          refine lv_iconst (v := 0) hx hb dM_faultsOf_65 (by decide) ?_
          refine lv_iadd hx hb dM_faultsOf_66 ?_
          refine lv_istore_n (lv' := [(2, .int (x2 + (0 : Int32))), (0, .ref (ad 0)), (1, .int x1), (3, .int x3)]) hx hb dM_faultsOf_67 rfl hl (by decide) rfl (fun ls hl => ?_)
          refine lv_iinc (k := 3) (v := (x3 + (1 : Int32))) (lv' := [(3, .int (x3 + (1 : Int32))), (2, .int (x2 + (0 : Int32))), (0, .ref (ad 0)), (1, .int x1)]) hx hb dM_faultsOf_68 hl rfl rfl (by decide) rfl (fun ls hl => ?_)
          refine lv_goto (tgt := 33) hx hb dM_faultsOf_71 (by decide) ?_
          exact ih33 x1 (x2 + (0 : Int32)) (x3 + (1 : Int32)) s0 ls _ _ (lv_sub hl [2, 3, 1, 0] rfl) hC hf
        · replace hf := jif_f c3304 hf
          refine lv_iconst (v := 1) hx hb dM_faultsOf_61 (by decide) ?_
          refine lv_goto (tgt := 66) hx hb dM_faultsOf_62 (by decide) ?_
          refine lv_iadd hx hb dM_faultsOf_66 ?_
          refine lv_istore_n (lv' := [(2, .int (x2 + (1 : Int32))), (0, .ref (ad 0)), (1, .int x1), (3, .int x3)]) hx hb dM_faultsOf_67 rfl hl (by decide) rfl (fun ls hl => ?_)
          refine lv_iinc (k := 3) (v := (x3 + (1 : Int32))) (lv' := [(3, .int (x3 + (1 : Int32))), (2, .int (x2 + (1 : Int32))), (0, .ref (ad 0)), (1, .int x1)]) hx hb dM_faultsOf_68 hl rfl rfl (by decide) rfl (fun ls hl => ?_)
          refine lv_goto (tgt := 33) hx hb dM_faultsOf_71 (by decide) ?_
          exact ih33 x1 (x2 + (1 : Int32)) (x3 + (1 : Int32)) s0 ls _ _ (lv_sub hl [2, 3, 1, 0] rfl) hC hf
  unfold fM_faultsOf at hf
  refine lv_aload_n hx hb dM_faultsOf_0 rfl (lv_at hl 0 rfl) ?_
  refine va_get (D := (dC, dI)) (ci := 6) (v := .ref (ad 10)) (C := RcM) (T := TcM) (N := 43) hx hb ht in_cM hown hK hC.1 0 (wM_e0 cI cC ad z0) rfl 10 (by decide) (ht _ tw770) (fun _ h9 => h9) rfl dM_faultsOf_1 ?_
  refine lv_iload_n hx hb dM_faultsOf_4 rfl (lv_at hl 1 rfl) ?_
  obtain ⟨hi1, hf⟩ := jC_in hf
  refine va_iald hx hb hK hC.1 10 0 (wM_e10 cI cC ad z0) rfl hi1 dM_faultsOf_5 ?_
  refine lv_if_le (tgt := 11) hx hb dM_faultsOf_6 (by decide) (fun c2 => ?_) (fun c2 => ?_)
  · replace hf := jif_t c2 hf
    refine lv_aload_n hx hb dM_faultsOf_11 rfl (lv_at hl 0 rfl) ?_
    refine va_get (D := (dC, dI)) (ci := 6) (v := .ref (ad 9)) (C := RcM) (T := TcM) (N := 43) hx hb ht in_cM hown hK hC.1 0 (wM_e0 cI cC ad z0) rfl 9 (by decide) (ht _ tw769) (fun _ h9 => h9) rfl dM_faultsOf_12 ?_
    refine lv_iload_n hx hb dM_faultsOf_15 rfl (lv_at hl 1 rfl) ?_
    obtain ⟨hi3, hf⟩ := jC_in hf
    refine va_iald hx hb hK hC.1 9 0 (wM_e9 cI cC ad z0) rfl hi3 dM_faultsOf_16 ?_
    refine lv_if_le (tgt := 24) hx hb dM_faultsOf_17 (by decide) (fun c4 => ?_) (fun c4 => ?_)
    · replace hf := jif_t c4 hf
      refine lv_iconst (v := 0) hx hb dM_faultsOf_24 (by decide) ?_
      refine lv_istore_n (lv' := [(2, .int (0 : Int32)), (0, .ref (ad 0)), (1, .int a0)]) hx hb dM_faultsOf_25 rfl hl (by decide) rfl (fun ls hl => ?_)
      refine lv_aload_n hx hb dM_faultsOf_26 rfl (lv_at hl 1 rfl) ?_
      refine va_get (D := (dC, dI)) (ci := 6) (v := .ref (ad 6)) (C := RcM) (T := TcM) (N := 43) hx hb ht in_cM hown hK hC.1 0 (wM_e0 cI cC ad z0) rfl 6 (by decide) (ht _ tw766) (fun _ h9 => h9) rfl dM_faultsOf_27 ?_
      refine lv_iload_n hx hb dM_faultsOf_30 rfl (lv_at hl 2 rfl) ?_
      obtain ⟨hi5, hf⟩ := jC_in hf
      refine va_iald hx hb hK hC.1 6 0 (wM_e6 cI cC ad z0) rfl hi5 dM_faultsOf_31 ?_
      refine lv_istore_n (lv' := [(3, .int (jgA z0 5 (a0).toNatClampNeg)), (2, .int (0 : Int32)), (0, .ref (ad 0)), (1, .int a0)]) hx hb dM_faultsOf_32 rfl hl (by decide) rfl (fun ls hl => ?_)
      exact L33 N a0 (0 : Int32) (jgA z0 5 (a0).toNatClampNeg) z0 ls _ _ (lv_sub hl [2, 3, 1, 0] rfl) hC hf
    · replace hf := jif_f c4 hf
      refine lv_iconst (v := 1) hx hb dM_faultsOf_20 (by decide) ?_
      refine lv_goto (tgt := 25) hx hb dM_faultsOf_21 (by decide) ?_
      refine lv_istore_n (lv' := [(2, .int (1 : Int32)), (0, .ref (ad 0)), (1, .int a0)]) hx hb dM_faultsOf_25 rfl hl (by decide) rfl (fun ls hl => ?_)
      refine lv_aload_n hx hb dM_faultsOf_26 rfl (lv_at hl 1 rfl) ?_
      refine va_get (D := (dC, dI)) (ci := 6) (v := .ref (ad 6)) (C := RcM) (T := TcM) (N := 43) hx hb ht in_cM hown hK hC.1 0 (wM_e0 cI cC ad z0) rfl 6 (by decide) (ht _ tw766) (fun _ h9 => h9) rfl dM_faultsOf_27 ?_
      refine lv_iload_n hx hb dM_faultsOf_30 rfl (lv_at hl 2 rfl) ?_
      obtain ⟨hi6, hf⟩ := jC_in hf
      refine va_iald hx hb hK hC.1 6 0 (wM_e6 cI cC ad z0) rfl hi6 dM_faultsOf_31 ?_
      refine lv_istore_n (lv' := [(3, .int (jgA z0 5 (a0).toNatClampNeg)), (2, .int (1 : Int32)), (0, .ref (ad 0)), (1, .int a0)]) hx hb dM_faultsOf_32 rfl hl (by decide) rfl (fun ls hl => ?_)
      exact L33 N a0 (1 : Int32) (jgA z0 5 (a0).toNatClampNeg) z0 ls _ _ (lv_sub hl [2, 3, 1, 0] rfl) hC hf
  · replace hf := jif_f c2 hf
    refine lv_iconst (v := 0) hx hb dM_faultsOf_9 (by decide) ?_
    cases hf
    exact jret_i hx hb hr hlk hC hK dM_faultsOf_10
