def fM_part (N : Nat) (a0 : Int32) (z0 : jS) : Option (Int32 × jS) := (jB (fM_begins N a0 z0) fun r1 s1 => (if r1 = 0 then (jB (fM_add N (0 : Int32) (25 : Int32) (jgI s1 9) s1) fun r3 s3 => (jB (fM_current N s3) fun r4 s4 => (jB (fM_starts N r4 s4) fun r5 s5 => (if r5 = 0 then (jB (fM_lack N (6 : Int32) (2 : Int32) s5) fun r7 s7 => some (0, s7)) else (jB (fM_lack N (6 : Int32) (3 : Int32) s5) fun r8 s8 => some (0, s8)))))) else (jB (fM_add N (3 : Int32) a0 (0 : Int32) s1) fun r9 s9 => some (0, s9))))
set_option maxHeartbeats 4000000 in
set_option maxRecDepth 100000 in
theorem cM_part (l : Launch) (dC : Nat → ClassId) (dI : Nat → Nat → Nat) (cI cC cL : ClassId) (sk sv : Nat → Nat) (ad : Nat → Nat) (N : Nat) (a0 : Int32) (z0 z1 : jS) (r : Int32) (hf : fM_part N a0 z0 = some (r, z1)) : Cv l yM_part (Cond.code yM_part prog_8_method_22_code 2 none :: TB) ({ frames := 2, cells := 0, slots := 0, locals := 47 }) (dC, dI) vwCl [(cI, .int), (cC, .char), (cL, .object "SharedSyntax$Letters")] (jEn sk sv) [.ref (ad 0), .int a0] (wM cI cC ad z0) (wM cI cC ad z1) := by
  refine Cv_of (cc := prog_8_method_22_code) (maxL := 2) (ret := none) (by decide) rfl (Nat.le_of_ble_eq_true rfl) ?_
  intro p e s m below meth c ls F hl hK hN hC
  obtain ⟨hx, hb, hml, hown, hts, hr, hlk⟩ := F
  have ht : ∀ w ∈ TB, w.before [.ref (ad 0), .int a0].toArray s = true := fun w h => hts w (List.mem_cons_of_mem _ h)
  have hA : ∀ q, s.heap.size ≤ q → va_A (wM cI cC ad z0) s.heap.size q := fun q h => Or.inr h
  have hl : lv_has ls 2 [(0, .ref (ad 0)), (1, .int a0)] := hl
  unfold fM_part at hf
  refine lv_aload_n hx hb dM_part_0 rfl (lv_at hl 0 rfl) ?_
  refine lv_iload_n hx hb dM_part_1 rfl (lv_at hl 1 rfl) ?_
  obtain ⟨r1, s1, hc1, hf⟩ := jB_some hf
  refine jcall_i (va_runV (C := RcM) (As := [.int a0]) (rest := []) ⟨hx, hb, hml, hown, hts⟩ ((cM_begins l dC dI cI cC cL sk sv ad N a0 z0 s1 r1 hc1) _) ⟨(callB_of 1 hts (tb_good tw713) rfl rfl rfl (ht _ tw14) (ht _ tw710) (by decide +kernel) ⟨Nat.le_of_ble_eq_true rfl, Nat.le_of_ble_eq_true rfl⟩), ht _ tw712, ht _ (tb_sel pv_M_begins)⟩ (jpreV (jEn_ok sk sv) hC hA hK hN (wM_e0 cI cC ad z0) rfl rfl _) rfl rfl hl.1 rfl (lv_room (Nat.le_of_ble_eq_true rfl)) dM_part_2 ⟨Nat.le_refl _, Nat.le_refl _⟩) hC hA (fun H locs hC => ?_)
  refine lv_if_eq (tgt := 16) hx hb dM_part_5 (by decide) (fun c2 => ?_) (fun c2 => ?_)
  · replace hf := jif_t c2 hf
    refine lv_aload_n hx hb dM_part_16 rfl (lv_at hl 0 rfl) ?_
    refine lv_iconst (v := 0) hx hb dM_part_17 (by decide) ?_
    refine lv_bipush (v := 25) hx hb dM_part_18 (by decide) ?_
    refine lv_aload_n hx hb dM_part_20 rfl (lv_at hl 0 rfl) ?_
    refine va_get (D := (dC, dI)) (ci := 6) (v := .int (jgI s1 9)) (C := RcM) (T := TcM) (N := 43) hx hb ht in_cM hown hK hC.1 0 (wM_e0 cI cC ad s1) rfl 37 (by decide) (ht _ tw797) (fun _ h9 => h9) rfl dM_part_21 ?_
    obtain ⟨r3, s3, hc3, hf⟩ := jB_some hf
    refine jcall_v (va_runV (C := RcM) (As := [.int (0 : Int32), .int (25 : Int32), .int (jgI s1 9)]) (rest := []) ⟨hx, hb, hml, hown, hts⟩ ((cM_add l dC dI cI cC cL sk sv ad N (0 : Int32) (25 : Int32) (jgI s1 9) s1 s3 r3 hc3) _) ⟨(callB_of 3 hts (tb_good tw684) rfl rfl rfl (ht _ tw14) (ht _ tw681) (by decide +kernel) ⟨Nat.le_of_ble_eq_true rfl, Nat.le_of_ble_eq_true rfl⟩), ht _ tw683, ht _ (tb_sel pv_M_add)⟩ (jpreV (jEn_ok sk sv) hC hA hK hN (wM_e0 cI cC ad s1) rfl rfl _) rfl rfl hl.1 rfl (lv_room (Nat.le_of_ble_eq_true rfl)) dM_part_24 ⟨Nat.le_refl _, Nat.le_refl _⟩) hC hA (fun H locs hC => ?_)
    refine lv_aload_n hx hb dM_part_27 rfl (lv_at hl 0 rfl) ?_
    refine lv_bipush (v := 6) hx hb dM_part_28 (by decide) ?_
    refine lv_aload_n hx hb dM_part_30 rfl (lv_at hl 0 rfl) ?_
    obtain ⟨r4, s4, hc4, hf⟩ := jB_some hf
    refine jcall_i (va_runV (C := RcM) (As := []) (rest := [.int (6 : Int32), .ref (ad 0)]) ⟨hx, hb, hml, hown, hts⟩ ((cM_current l dC dI cI cC cL sk sv ad N s3 s4 r4 hc4) _) ⟨(callB_of 0 hts (tb_good tw709) rfl rfl rfl (ht _ tw14) (ht _ tw706) (by decide +kernel) ⟨Nat.le_of_ble_eq_true rfl, Nat.le_of_ble_eq_true rfl⟩), ht _ tw708, ht _ (tb_sel pv_M_current)⟩ (jpreV (jEn_ok sk sv) hC hA hK hN (wM_e0 cI cC ad s3) rfl rfl _) rfl rfl hl.1 rfl (lv_room (Nat.le_of_ble_eq_true rfl)) dM_part_31 ⟨Nat.le_refl _, Nat.le_refl _⟩) hC hA (fun H locs hC => ?_)
    obtain ⟨r5, s5, hc5, hf⟩ := jB_some hf
    refine jcall_i (va_runS (As := [.int r4]) (rest := [.int (6 : Int32), .ref (ad 0)]) ⟨hx, hb, hml, hown, hts⟩ ((cM_starts l dC dI cI cC cL sk sv ad N r4 s4 s5 r5 hc5) _) ⟨(callB_of 1 hts (tb_good tw716) rfl rfl rfl (ht _ tw14) (ht _ tw714) (by decide +kernel) ⟨Nat.le_of_ble_eq_true rfl, Nat.le_of_ble_eq_true rfl⟩), ht _ tw715⟩ (jpreS (jEn_ok sk sv) hC hA hK hN _) rfl rfl hl.1 rfl (lv_room (Nat.le_of_ble_eq_true rfl)) dM_part_34 ⟨Nat.le_refl _, Nat.le_refl _⟩) hC hA (fun H locs hC => ?_)
    refine lv_if_eq (tgt := 44) hx hb dM_part_37 (by decide) (fun c6 => ?_) (fun c6 => ?_)
    · replace hf := jif_t c6 hf
      refine lv_iconst (v := 2) hx hb dM_part_44 (by decide) ?_
      obtain ⟨r7, s7, hc7, hf⟩ := jB_some hf
      refine jcall_v (va_runV (C := RcM) (As := [.int (6 : Int32), .int (2 : Int32)]) (rest := []) ⟨hx, hb, hml, hown, hts⟩ ((cM_lack l dC dI cI cC cL sk sv ad N (6 : Int32) (2 : Int32) s5 s7 r7 hc7) _) ⟨(callB_of 2 hts (tb_good tw732) rfl rfl rfl (ht _ tw14) (ht _ tw729) (by decide +kernel) ⟨Nat.le_of_ble_eq_true rfl, Nat.le_of_ble_eq_true rfl⟩), ht _ tw731, ht _ (tb_sel pv_M_lack)⟩ (jpreV (jEn_ok sk sv) hC hA hK hN (wM_e0 cI cC ad s5) rfl rfl _) rfl rfl hl.1 rfl (lv_room (Nat.le_of_ble_eq_true rfl)) dM_part_45 ⟨Nat.le_refl _, Nat.le_refl _⟩) hC hA (fun H locs hC => ?_)
      cases hf
      exact jret_v hx hb hr hlk hC hK dM_part_48
    · replace hf := jif_f c6 hf
      refine lv_iconst (v := 3) hx hb dM_part_40 (by decide) ?_
      refine lv_goto (tgt := 45) hx hb dM_part_41 (by decide) ?_
      obtain ⟨r8, s8, hc8, hf⟩ := jB_some hf
      refine jcall_v (va_runV (C := RcM) (As := [.int (6 : Int32), .int (3 : Int32)]) (rest := []) ⟨hx, hb, hml, hown, hts⟩ ((cM_lack l dC dI cI cC cL sk sv ad N (6 : Int32) (3 : Int32) s5 s8 r8 hc8) _) ⟨(callB_of 2 hts (tb_good tw732) rfl rfl rfl (ht _ tw14) (ht _ tw729) (by decide +kernel) ⟨Nat.le_of_ble_eq_true rfl, Nat.le_of_ble_eq_true rfl⟩), ht _ tw731, ht _ (tb_sel pv_M_lack)⟩ (jpreV (jEn_ok sk sv) hC hA hK hN (wM_e0 cI cC ad s5) rfl rfl _) rfl rfl hl.1 rfl (lv_room (Nat.le_of_ble_eq_true rfl)) dM_part_45 ⟨Nat.le_refl _, Nat.le_refl _⟩) hC hA (fun H locs hC => ?_)
      cases hf
      exact jret_v hx hb hr hlk hC hK dM_part_48
  · replace hf := jif_f c2 hf
    refine lv_aload_n hx hb dM_part_8 rfl (lv_at hl 0 rfl) ?_
    refine lv_iconst (v := 3) hx hb dM_part_9 (by decide) ?_
    refine lv_iload_n hx hb dM_part_10 rfl (lv_at hl 1 rfl) ?_
    refine lv_iconst (v := 0) hx hb dM_part_11 (by decide) ?_
    obtain ⟨r9, s9, hc9, hf⟩ := jB_some hf
    refine jcall_v (va_runV (C := RcM) (As := [.int (3 : Int32), .int a0, .int (0 : Int32)]) (rest := []) ⟨hx, hb, hml, hown, hts⟩ ((cM_add l dC dI cI cC cL sk sv ad N (3 : Int32) a0 (0 : Int32) s1 s9 r9 hc9) _) ⟨(callB_of 3 hts (tb_good tw684) rfl rfl rfl (ht _ tw14) (ht _ tw681) (by decide +kernel) ⟨Nat.le_of_ble_eq_true rfl, Nat.le_of_ble_eq_true rfl⟩), ht _ tw683, ht _ (tb_sel pv_M_add)⟩ (jpreV (jEn_ok sk sv) hC hA hK hN (wM_e0 cI cC ad s1) rfl rfl _) rfl rfl hl.1 rfl (lv_room (Nat.le_of_ble_eq_true rfl)) dM_part_12 ⟨Nat.le_refl _, Nat.le_refl _⟩) hC hA (fun H locs hC => ?_)
    cases hf
    exact jret_v hx hb hr hlk hC hK dM_part_15

def fM_level (N : Nat) (a0 : Int32) (z0 : jS) : Option (Int32 × jS) := (if a0 = (13 : Int32) then some ((4 : Int32), z0) else (if a0 = (14 : Int32) then some ((2 : Int32), z0) else (if a0 = (15 : Int32) then some ((1 : Int32), z0) else some ((3 : Int32), z0))))
set_option maxHeartbeats 4000000 in
set_option maxRecDepth 100000 in
theorem cM_level (l : Launch) (dC : Nat → ClassId) (dI : Nat → Nat → Nat) (cI cC cL : ClassId) (sk sv : Nat → Nat) (ad : Nat → Nat) (N : Nat) (a0 : Int32) (z0 z1 : jS) (r : Int32) (hf : fM_level N a0 z0 = some (r, z1)) : Ci l yM_level (Cond.code yM_level prog_8_method_23_code 1 (some .int) :: TB) ({ frames := 0, cells := 0, slots := 0, locals := 0 }) (dC, dI) vwCl [(cI, .int), (cC, .char), (cL, .object "SharedSyntax$Letters")] (jEn sk sv) [.int a0] (wM cI cC ad z0) (wM cI cC ad z1) r := by
  refine Ci_of (cc := prog_8_method_23_code) (maxL := 1) (ret := (some .int)) (by decide) rfl (Nat.le_of_ble_eq_true rfl) ?_
  intro p e s m below meth c ls F hl hK hN hC
  obtain ⟨hx, hb, hml, hown, hts, hr, hlk⟩ := F
  have ht : ∀ w ∈ TB, w.before [.int a0].toArray s = true := fun w h => hts w (List.mem_cons_of_mem _ h)
  have hA : ∀ q, s.heap.size ≤ q → va_A (wM cI cC ad z0) s.heap.size q := fun q h => Or.inr h
  have hl : lv_has ls 1 [(0, .int a0)] := hl
  unfold fM_level at hf
  refine lv_iload_n hx hb dM_level_0 rfl (lv_at hl 0 rfl) ?_
  refine lv_bipush (v := 13) hx hb dM_level_1 (by decide) ?_
  refine lv_icmp_ne (tgt := 10) hx hb dM_level_3 (by decide) (fun c1 => ?_) (fun c1 => ?_)
  · replace hf := jif_f c1 hf
    refine lv_iload_n hx hb dM_level_10 rfl (lv_at hl 0 rfl) ?_
    refine lv_bipush (v := 14) hx hb dM_level_11 (by decide) ?_
    refine lv_icmp_ne (tgt := 20) hx hb dM_level_13 (by decide) (fun c2 => ?_) (fun c2 => ?_)
    · replace hf := jif_f c2 hf
      refine lv_iload_n hx hb dM_level_20 rfl (lv_at hl 0 rfl) ?_
      refine lv_bipush (v := 15) hx hb dM_level_21 (by decide) ?_
      refine lv_icmp_ne (tgt := 30) hx hb dM_level_23 (by decide) (fun c3 => ?_) (fun c3 => ?_)
      · replace hf := jif_f c3 hf
        refine lv_iconst (v := 3) hx hb dM_level_30 (by decide) ?_
        cases hf
        exact jret_i hx hb hr hlk hC hK dM_level_31
      · replace hf := jif_t c3 hf
        refine lv_iconst (v := 1) hx hb dM_level_26 (by decide) ?_
        refine lv_goto (tgt := 31) hx hb dM_level_27 (by decide) ?_
        cases hf
        exact jret_i hx hb hr hlk hC hK dM_level_31
    · replace hf := jif_t c2 hf
      refine lv_iconst (v := 2) hx hb dM_level_16 (by decide) ?_
      refine lv_goto (tgt := 31) hx hb dM_level_17 (by decide) ?_
      cases hf
      exact jret_i hx hb hr hlk hC hK dM_level_31
  · replace hf := jif_t c1 hf
    refine lv_iconst (v := 4) hx hb dM_level_6 (by decide) ?_
    refine lv_goto (tgt := 31) hx hb dM_level_7 (by decide) ?_
    cases hf
    exact jret_i hx hb hr hlk hC hK dM_level_31

def fM_more_92 (N : Nat) (k27 : Int32 → Int32 → Int32 → Int32 → Int32 → jS → Option (Int32 × jS)) (x1 x2 x3 x4 : Int32) (s0 : jS) : Option (Int32 × jS) := (jB (fM_reduce N (26 : Int32) (jgI s0 9 - (3 : Int32)) s0) fun r9202 s9202 => k27 x1 x2 x3 x4 (1 : Int32) s9202)
def fM_more_96 (N : Nat) (k27 : Int32 → Int32 → Int32 → Int32 → Int32 → jS → Option (Int32 × jS)) (x1 x2 x3 x4 : Int32) (s0 : jS) : Option (Int32 × jS) := k27 x1 x2 x3 x4 (0 : Int32) s0
def fM_more_119 (N : Nat) (x1 x2 x4 : Int32) (s0 : jS) : Option (Int32 × jS) := (if x4 = 0 then some (0, s0) else (jB (fM_take N s0) fun r11902 s11902 => (jB (fM_add N (8 : Int32) x1 x2 s11902) fun r11903 s11903 => (jB (fM_add N (9 : Int32) x1 (0 : Int32) s11903) fun r11904 s11904 => some (0, s11904)))))
def fM_more_b27 (N : Nat) (k27 : Int32 → Int32 → Int32 → Int32 → Int32 → jS → Option (Int32 × jS)) (x1 x2 x3 x4 x5 : Int32) (s0 : jS) : Option (Int32 × jS) := (if x5 = 0 then fM_more_119 N x1 x2 x4 s0 else (if (jgI s0 9 - x2) < (3 : Int32) then fM_more_119 N x1 x2 x4 s0 else (if jIn (jgI s0 9 - (2 : Int32)) 400 = true then (if jIn (jgA s0 28 ((jgI s0 9 - (2 : Int32))).toNatClampNeg) 400 = true then (jB (fM_level N (jgA s0 18 (jgA s0 28 ((jgI s0 9 - (2 : Int32))).toNatClampNeg).toNatClampNeg) s0) fun r2705 s2705 => (if x4 = 0 then fM_more_92 N k27 x1 x2 x3 x4 s2705 else (jB (fM_level N x3 s2705) fun r2707 s2707 => (if r2707 < r2705 then fM_more_92 N k27 x1 x2 x3 x4 s2707 else (jB (fM_level N x3 s2707) fun r2709 s2709 => (if r2705 = r2709 then (if x3 = (15 : Int32) then fM_more_96 N k27 x1 x2 x3 x4 s2709 else fM_more_92 N k27 x1 x2 x3 x4 s2709) else fM_more_96 N k27 x1 x2 x3 x4 s2709)))))) else none) else none)))
def fM_more_27 (N : Nat) : Nat → Int32 → Int32 → Int32 → Int32 → Int32 → jS → Option (Int32 × jS)
  | 0 => fun _ _ _ _ _ _ => none
  | n + 1 => fun x1 x2 x3 x4 x5 s0 => fM_more_b27 N (fM_more_27 N n) x1 x2 x3 x4 x5 s0
def fM_more (N : Nat) (a0 a1 : Int32) (z0 : jS) : Option (Int32 × jS) := (jB (fM_current N z0) fun r1 s1 => (if r1 < (11 : Int32) then fM_more_27 N N a0 a1 r1 (0 : Int32) (1 : Int32) s1 else (if (15 : Int32) < r1 then fM_more_27 N N a0 a1 r1 (0 : Int32) (1 : Int32) s1 else fM_more_27 N N a0 a1 r1 (1 : Int32) (1 : Int32) s1)))
set_option maxHeartbeats 4000000 in
set_option maxRecDepth 100000 in
theorem cM_more (l : Launch) (dC : Nat → ClassId) (dI : Nat → Nat → Nat) (cI cC cL : ClassId) (sk sv : Nat → Nat) (ad : Nat → Nat) (N : Nat) (a0 a1 : Int32) (z0 z1 : jS) (r : Int32) (hf : fM_more N a0 a1 z0 = some (r, z1)) : Cv l yM_more (Cond.code yM_more prog_8_method_24_code 7 none :: TB) ({ frames := 2, cells := 0, slots := 0, locals := 51 }) (dC, dI) vwCl [(cI, .int), (cC, .char), (cL, .object "SharedSyntax$Letters")] (jEn sk sv) [.ref (ad 0), .int a0, .int a1] (wM cI cC ad z0) (wM cI cC ad z1) := by
  refine Cv_of (cc := prog_8_method_24_code) (maxL := 7) (ret := none) (by decide) rfl (Nat.le_of_ble_eq_true rfl) ?_
  intro p e s m below meth c ls F hl hK hN hC
  obtain ⟨hx, hb, hml, hown, hts, hr, hlk⟩ := F
  have ht : ∀ w ∈ TB, w.before [.ref (ad 0), .int a0, .int a1].toArray s = true := fun w h => hts w (List.mem_cons_of_mem _ h)
  have hA : ∀ q, s.heap.size ≤ q → va_A (wM cI cC ad z0) s.heap.size q := fun q h => Or.inr h
  have hl : lv_has ls 7 [(0, .ref (ad 0)), (1, .int a0), (2, .int a1)] := hl
  have L119 : ∀ (x1 x2 x4 : Int32) (s0 : jS) (ls : Array Slot) (H : Heap) (locs : List Loc), lv_has ls 7 [(0, .ref (ad 0)), (1, .int x1), (2, .int x2), (4, .int x4)] → jcx (dC, dI) vwCl (va_A (wM cI cC ad z0) s.heap.size) s.heap (wM cI cC ad s0) H locs → fM_more_119 N x1 x2 x4 s0 = some (r, z1) → W p l e ({ frames := 2, cells := 0, slots := 0, locals := 51 }) s m [.ref (ad 0), .int a0, .int a1].toArray below meth c H locs 0 0 (MQ below (jQv (dC, dI) vwCl [(cI, .int), (cC, .char), (cL, .object "SharedSyntax$Letters")] (wM cI cC ad z0) (wM cI cC ad z1) s.heap.size) [.ref (ad 0), .int a0, .int a1].toArray s 0 0 (va_A (wM cI cC ad z0) s.heap.size)) (F0 m 119 ls []) := by
    intro x1 x2 x4 s0 ls H locs hl hC hf
    unfold fM_more_119 at hf
    refine lv_iload hx hb dM_more_119 (lv_at hl 3 rfl) ?_
    refine lv_if_ne (tgt := 125) hx hb dM_more_121 (by decide) (fun c11901 => ?_) (fun c11901 => ?_)
    · replace hf := jif_f c11901 hf
      refine lv_aload_n hx hb dM_more_125 rfl (lv_at hl 0 rfl) ?_
      obtain ⟨r11902, s11902, hc11902, hf⟩ := jB_some hf
      refine jcall_v (va_runV (C := RcM) (As := []) (rest := []) ⟨hx, hb, hml, hown, hts⟩ ((cM_take l dC dI cI cC cL sk sv ad N s0 s11902 r11902 hc11902) _) ⟨(callB_of 0 hts (tb_good tw701) rfl rfl rfl (ht _ tw14) (ht _ tw698) (by decide +kernel) ⟨Nat.le_of_ble_eq_true rfl, Nat.le_of_ble_eq_true rfl⟩), ht _ tw700, ht _ (tb_sel pv_M_take)⟩ (jpreV (jEn_ok sk sv) hC hA hK hN (wM_e0 cI cC ad s0) rfl rfl _) rfl rfl hl.1 rfl (lv_room (Nat.le_of_ble_eq_true rfl)) dM_more_126 ⟨Nat.le_refl _, Nat.le_refl _⟩) hC hA (fun H locs hC => ?_)
      refine lv_aload_n hx hb dM_more_129 rfl (lv_at hl 0 rfl) ?_
      refine lv_bipush (v := 8) hx hb dM_more_130 (by decide) ?_
      refine lv_iload_n hx hb dM_more_132 rfl (lv_at hl 1 rfl) ?_
      refine lv_iload_n hx hb dM_more_133 rfl (lv_at hl 2 rfl) ?_
      obtain ⟨r11903, s11903, hc11903, hf⟩ := jB_some hf
      refine jcall_v (va_runV (C := RcM) (As := [.int (8 : Int32), .int x1, .int x2]) (rest := []) ⟨hx, hb, hml, hown, hts⟩ ((cM_add l dC dI cI cC cL sk sv ad N (8 : Int32) x1 x2 s11902 s11903 r11903 hc11903) _) ⟨(callB_of 3 hts (tb_good tw684) rfl rfl rfl (ht _ tw14) (ht _ tw681) (by decide +kernel) ⟨Nat.le_of_ble_eq_true rfl, Nat.le_of_ble_eq_true rfl⟩), ht _ tw683, ht _ (tb_sel pv_M_add)⟩ (jpreV (jEn_ok sk sv) hC hA hK hN (wM_e0 cI cC ad s11902) rfl rfl _) rfl rfl hl.1 rfl (lv_room (Nat.le_of_ble_eq_true rfl)) dM_more_134 ⟨Nat.le_refl _, Nat.le_refl _⟩) hC hA (fun H locs hC => ?_)
      refine lv_aload_n hx hb dM_more_137 rfl (lv_at hl 0 rfl) ?_
      refine lv_bipush (v := 9) hx hb dM_more_138 (by decide) ?_
      refine lv_iload_n hx hb dM_more_140 rfl (lv_at hl 1 rfl) ?_
      refine lv_iconst (v := 0) hx hb dM_more_141 (by decide) ?_
      obtain ⟨r11904, s11904, hc11904, hf⟩ := jB_some hf
      refine jcall_v (va_runV (C := RcM) (As := [.int (9 : Int32), .int x1, .int (0 : Int32)]) (rest := []) ⟨hx, hb, hml, hown, hts⟩ ((cM_add l dC dI cI cC cL sk sv ad N (9 : Int32) x1 (0 : Int32) s11903 s11904 r11904 hc11904) _) ⟨(callB_of 3 hts (tb_good tw684) rfl rfl rfl (ht _ tw14) (ht _ tw681) (by decide +kernel) ⟨Nat.le_of_ble_eq_true rfl, Nat.le_of_ble_eq_true rfl⟩), ht _ tw683, ht _ (tb_sel pv_M_add)⟩ (jpreV (jEn_ok sk sv) hC hA hK hN (wM_e0 cI cC ad s11903) rfl rfl _) rfl rfl hl.1 rfl (lv_room (Nat.le_of_ble_eq_true rfl)) dM_more_142 ⟨Nat.le_refl _, Nat.le_refl _⟩) hC hA (fun H locs hC => ?_)
      cases hf
      exact jret_v hx hb hr hlk hC hK dM_more_145
    · replace hf := jif_t c11901 hf
      cases hf
      exact jret_v hx hb hr hlk hC hK dM_more_124
  have L27 : ∀ (n : Nat) (x1 x2 x3 x4 x5 : Int32) (s0 : jS) (ls : Array Slot) (H : Heap) (locs : List Loc), lv_has ls 7 [(0, .ref (ad 0)), (1, .int x1), (2, .int x2), (3, .int x3), (4, .int x4), (5, .int x5)] → jcx (dC, dI) vwCl (va_A (wM cI cC ad z0) s.heap.size) s.heap (wM cI cC ad s0) H locs → fM_more_27 N n x1 x2 x3 x4 x5 s0 = some (r, z1) → W p l e ({ frames := 2, cells := 0, slots := 0, locals := 51 }) s m [.ref (ad 0), .int a0, .int a1].toArray below meth c H locs 0 0 (MQ below (jQv (dC, dI) vwCl [(cI, .int), (cC, .char), (cL, .object "SharedSyntax$Letters")] (wM cI cC ad z0) (wM cI cC ad z1) s.heap.size) [.ref (ad 0), .int a0, .int a1].toArray s 0 0 (va_A (wM cI cC ad z0) s.heap.size)) (F0 m 27 ls []) := by
    intro n
    induction n with
    | zero => exact fun _ _ _ _ _ _ _ _ _ _ _ hf => nomatch hf
    | succ n ih27 =>
      intro x1 x2 x3 x4 x5 s0 ls H locs hl hC hf
      replace hf : fM_more_b27 N (fM_more_27 N n) x1 x2 x3 x4 x5 s0 = some (r, z1) := hf
      generalize fM_more_27 N n = k27 at ih27 hf
      have L92 : ∀ (x1 x2 x3 x4 : Int32) (s0 : jS) (ls : Array Slot) (H : Heap) (locs : List Loc), lv_has ls 7 [(0, .ref (ad 0)), (1, .int x1), (2, .int x2), (3, .int x3), (4, .int x4)] → jcx (dC, dI) vwCl (va_A (wM cI cC ad z0) s.heap.size) s.heap (wM cI cC ad s0) H locs → fM_more_92 N k27 x1 x2 x3 x4 s0 = some (r, z1) → W p l e ({ frames := 2, cells := 0, slots := 0, locals := 51 }) s m [.ref (ad 0), .int a0, .int a1].toArray below meth c H locs 0 0 (MQ below (jQv (dC, dI) vwCl [(cI, .int), (cC, .char), (cL, .object "SharedSyntax$Letters")] (wM cI cC ad z0) (wM cI cC ad z1) s.heap.size) [.ref (ad 0), .int a0, .int a1].toArray s 0 0 (va_A (wM cI cC ad z0) s.heap.size)) (F0 m 92 ls []) := by
        intro x1 x2 x3 x4 s0 ls H locs hl hC hf
        unfold fM_more_92 at hf
        refine lv_iconst (v := 1) hx hb dM_more_92 (by decide) ?_
        refine lv_goto (tgt := 97) hx hb dM_more_93 (by decide) ?_
        refine lv_istore (lv' := [(5, .int (1 : Int32)), (0, .ref (ad 0)), (1, .int x1), (2, .int x2), (3, .int x3), (4, .int x4)]) hx hb dM_more_97 hl (by decide) rfl (fun ls hl => ?_)
        refine lv_iload hx hb dM_more_99 (lv_at hl 0 rfl) ?_
        refine lv_if_eq (tgt := 116) hx hb dM_more_101 (by decide) (fun c => absurd c (by decide)) (fun _ => ?_)
        refine lv_aload_n hx hb dM_more_104 rfl (lv_at hl 1 rfl) ?_
        refine lv_bipush (v := 26) hx hb dM_more_105 (by decide) ?_
        refine lv_aload_n hx hb dM_more_107 rfl (lv_at hl 1 rfl) ?_
        refine va_get (D := (dC, dI)) (ci := 6) (v := .int (jgI s0 9)) (C := RcM) (T := TcM) (N := 43) hx hb ht in_cM hown hK hC.1 0 (wM_e0 cI cC ad s0) rfl 37 (by decide) (ht _ tw797) (fun _ h9 => h9) rfl dM_more_108 ?_
        refine lv_iconst (v := 3) hx hb dM_more_111 (by decide) ?_
        refine lv_isub hx hb dM_more_112 ?_
        obtain ⟨r9202, s9202, hc9202, hf⟩ := jB_some hf
        refine jcall_v (va_runV (C := RcM) (As := [.int (26 : Int32), .int (jgI s0 9 - (3 : Int32))]) (rest := []) ⟨hx, hb, hml, hown, hts⟩ ((cM_reduce l dC dI cI cC cL sk sv ad N (26 : Int32) (jgI s0 9 - (3 : Int32)) s0 s9202 r9202 hc9202) _) ⟨(callB_of 2 hts (tb_good tw693) rfl rfl rfl (ht _ tw14) (ht _ tw690) (by decide +kernel) ⟨Nat.le_of_ble_eq_true rfl, Nat.le_of_ble_eq_true rfl⟩), ht _ tw692, ht _ (tb_sel pv_M_reduce)⟩ (jpreV (jEn_ok sk sv) hC hA hK hN (wM_e0 cI cC ad s0) rfl rfl _) rfl rfl hl.1 rfl (lv_room (Nat.le_of_ble_eq_true rfl)) dM_more_113 ⟨Nat.le_refl _, Nat.le_refl _⟩) hC hA (fun H locs hC => ?_)
        refine lv_goto (tgt := 27) hx hb dM_more_116 (by decide) ?_
        exact ih27 x1 x2 x3 x4 (1 : Int32) s9202 ls _ _ (lv_sub hl [1, 2, 3, 4, 5, 0] rfl) hC hf
      have L96 : ∀ (x1 x2 x3 x4 : Int32) (s0 : jS) (ls : Array Slot) (H : Heap) (locs : List Loc), lv_has ls 7 [(0, .ref (ad 0)), (1, .int x1), (2, .int x2), (3, .int x3), (4, .int x4)] → jcx (dC, dI) vwCl (va_A (wM cI cC ad z0) s.heap.size) s.heap (wM cI cC ad s0) H locs → fM_more_96 N k27 x1 x2 x3 x4 s0 = some (r, z1) → W p l e ({ frames := 2, cells := 0, slots := 0, locals := 51 }) s m [.ref (ad 0), .int a0, .int a1].toArray below meth c H locs 0 0 (MQ below (jQv (dC, dI) vwCl [(cI, .int), (cC, .char), (cL, .object "SharedSyntax$Letters")] (wM cI cC ad z0) (wM cI cC ad z1) s.heap.size) [.ref (ad 0), .int a0, .int a1].toArray s 0 0 (va_A (wM cI cC ad z0) s.heap.size)) (F0 m 96 ls []) := by
        intro x1 x2 x3 x4 s0 ls H locs hl hC hf
        unfold fM_more_96 at hf
        refine lv_iconst (v := 0) hx hb dM_more_96 (by decide) ?_
        refine lv_istore (lv' := [(5, .int (0 : Int32)), (0, .ref (ad 0)), (1, .int x1), (2, .int x2), (3, .int x3), (4, .int x4)]) hx hb dM_more_97 hl (by decide) rfl (fun ls hl => ?_)
        refine lv_iload hx hb dM_more_99 (lv_at hl 0 rfl) ?_
        refine lv_if_eq (tgt := 116) hx hb dM_more_101 (by decide) (fun _ => ?_) (fun c => absurd (by decide) c)
        refine lv_goto (tgt := 27) hx hb dM_more_116 (by decide) ?_
        exact ih27 x1 x2 x3 x4 (0 : Int32) s0 ls _ _ (lv_sub hl [1, 2, 3, 4, 5, 0] rfl) hC hf
      unfold fM_more_b27 at hf
      refine lv_iload hx hb dM_more_27 (lv_at hl 5 rfl) ?_
      refine lv_if_eq (tgt := 119) hx hb dM_more_29 (by decide) (fun c2701 => ?_) (fun c2701 => ?_)
      · replace hf := jif_t c2701 hf
        exact L119 x1 x2 x4 s0 ls _ _ (lv_sub hl [0, 1, 2, 4] rfl) hC hf
      · replace hf := jif_f c2701 hf
        refine lv_aload_n hx hb dM_more_32 rfl (lv_at hl 0 rfl) ?_
        refine va_get (D := (dC, dI)) (ci := 6) (v := .int (jgI s0 9)) (C := RcM) (T := TcM) (N := 43) hx hb ht in_cM hown hK hC.1 0 (wM_e0 cI cC ad s0) rfl 37 (by decide) (ht _ tw797) (fun _ h9 => h9) rfl dM_more_33 ?_
        refine lv_iload_n hx hb dM_more_36 rfl (lv_at hl 2 rfl) ?_
        refine lv_isub hx hb dM_more_37 ?_
        refine lv_iconst (v := 3) hx hb dM_more_38 (by decide) ?_
        refine lv_icmp_lt (tgt := 119) hx hb dM_more_39 (by decide) (fun c2702 => ?_) (fun c2702 => ?_)
        · replace hf := jif_t c2702 hf
          exact L119 x1 x2 x4 s0 ls _ _ (lv_sub hl [0, 1, 2, 4] rfl) hC hf
        · replace hf := jif_f c2702 hf
          refine lv_aload_n hx hb dM_more_42 rfl (lv_at hl 0 rfl) ?_
          refine va_get (D := (dC, dI)) (ci := 6) (v := .ref (ad 19)) (C := RcM) (T := TcM) (N := 43) hx hb ht in_cM hown hK hC.1 0 (wM_e0 cI cC ad s0) rfl 27 (by decide) (ht _ tw787) (fun _ h9 => h9) rfl dM_more_43 ?_
          refine lv_aload_n hx hb dM_more_46 rfl (lv_at hl 0 rfl) ?_
          refine va_get (D := (dC, dI)) (ci := 6) (v := .ref (ad 29)) (C := RcM) (T := TcM) (N := 43) hx hb ht in_cM hown hK hC.1 0 (wM_e0 cI cC ad s0) rfl 38 (by decide) (ht _ tw798) (fun _ h9 => h9) rfl dM_more_47 ?_
          refine lv_aload_n hx hb dM_more_50 rfl (lv_at hl 0 rfl) ?_
          refine va_get (D := (dC, dI)) (ci := 6) (v := .int (jgI s0 9)) (C := RcM) (T := TcM) (N := 43) hx hb ht in_cM hown hK hC.1 0 (wM_e0 cI cC ad s0) rfl 37 (by decide) (ht _ tw797) (fun _ h9 => h9) rfl dM_more_51 ?_
          refine lv_iconst (v := 2) hx hb dM_more_54 (by decide) ?_
          refine lv_isub hx hb dM_more_55 ?_
          obtain ⟨hi2703, hf⟩ := jC_in hf
          refine va_iald hx hb hK hC.1 29 0 (wM_e29 cI cC ad s0) rfl hi2703 dM_more_56 ?_
          obtain ⟨hi2704, hf⟩ := jC_in hf
          refine va_iald hx hb hK hC.1 19 0 (wM_e19 cI cC ad s0) rfl hi2704 dM_more_57 ?_
          obtain ⟨r2705, s2705, hc2705, hf⟩ := jB_some hf
          refine jcall_i (va_runS (As := [.int (jgA s0 18 (jgA s0 28 ((jgI s0 9 - (2 : Int32))).toNatClampNeg).toNatClampNeg)]) (rest := []) ⟨hx, hb, hml, hown, hts⟩ ((cM_level l dC dI cI cC cL sk sv ad N (jgA s0 18 (jgA s0 28 ((jgI s0 9 - (2 : Int32))).toNatClampNeg).toNatClampNeg) s0 s2705 r2705 hc2705) _) ⟨(callB_of 1 hts (tb_good tw747) rfl rfl rfl (ht _ tw14) (ht _ tw745) (by decide +kernel) ⟨Nat.le_of_ble_eq_true rfl, Nat.le_of_ble_eq_true rfl⟩), ht _ tw746⟩ (jpreS (jEn_ok sk sv) hC hA hK hN _) rfl rfl hl.1 rfl (lv_room (Nat.le_of_ble_eq_true rfl)) dM_more_58 ⟨Nat.le_refl _, Nat.le_refl _⟩) hC hA (fun H locs hC => ?_)
          refine lv_istore (lv' := [(6, .int r2705), (0, .ref (ad 0)), (1, .int x1), (2, .int x2), (3, .int x3), (4, .int x4), (5, .int x5)]) hx hb dM_more_61 hl (by decide) rfl (fun ls hl => ?_)
          refine lv_iload hx hb dM_more_63 (lv_at hl 5 rfl) ?_
          refine lv_if_eq (tgt := 92) hx hb dM_more_65 (by decide) (fun c2706 => ?_) (fun c2706 => ?_)
          · replace hf := jif_t c2706 hf
            exact L92 x1 x2 x3 x4 s2705 ls _ _ (lv_sub hl [1, 2, 3, 4, 5] rfl) hC hf
          · replace hf := jif_f c2706 hf
            refine lv_iload hx hb dM_more_68 (lv_at hl 0 rfl) ?_
            refine lv_iload_n hx hb dM_more_70 rfl (lv_at hl 4 rfl) ?_
            obtain ⟨r2707, s2707, hc2707, hf⟩ := jB_some hf
            refine jcall_i (va_runS (As := [.int x3]) (rest := [.int r2705]) ⟨hx, hb, hml, hown, hts⟩ ((cM_level l dC dI cI cC cL sk sv ad N x3 s2705 s2707 r2707 hc2707) _) ⟨(callB_of 1 hts (tb_good tw747) rfl rfl rfl (ht _ tw14) (ht _ tw745) (by decide +kernel) ⟨Nat.le_of_ble_eq_true rfl, Nat.le_of_ble_eq_true rfl⟩), ht _ tw746⟩ (jpreS (jEn_ok sk sv) hC hA hK hN _) rfl rfl hl.1 rfl (lv_room (Nat.le_of_ble_eq_true rfl)) dM_more_71 ⟨Nat.le_refl _, Nat.le_refl _⟩) hC hA (fun H locs hC => ?_)
            refine lv_icmp_gt (tgt := 92) hx hb dM_more_74 (by decide) (fun c2708 => ?_) (fun c2708 => ?_)
            · replace hf := jif_t c2708 hf
              exact L92 x1 x2 x3 x4 s2707 ls _ _ (lv_sub hl [1, 2, 3, 4, 5] rfl) hC hf
            · replace hf := jif_f c2708 hf
              refine lv_iload hx hb dM_more_77 (lv_at hl 0 rfl) ?_
              refine lv_iload_n hx hb dM_more_79 rfl (lv_at hl 4 rfl) ?_
              obtain ⟨r2709, s2709, hc2709, hf⟩ := jB_some hf
              refine jcall_i (va_runS (As := [.int x3]) (rest := [.int r2705]) ⟨hx, hb, hml, hown, hts⟩ ((cM_level l dC dI cI cC cL sk sv ad N x3 s2707 s2709 r2709 hc2709) _) ⟨(callB_of 1 hts (tb_good tw747) rfl rfl rfl (ht _ tw14) (ht _ tw745) (by decide +kernel) ⟨Nat.le_of_ble_eq_true rfl, Nat.le_of_ble_eq_true rfl⟩), ht _ tw746⟩ (jpreS (jEn_ok sk sv) hC hA hK hN _) rfl rfl hl.1 rfl (lv_room (Nat.le_of_ble_eq_true rfl)) dM_more_80 ⟨Nat.le_refl _, Nat.le_refl _⟩) hC hA (fun H locs hC => ?_)
              refine lv_icmp_ne (tgt := 96) hx hb dM_more_83 (by decide) (fun c2710 => ?_) (fun c2710 => ?_)
              · replace hf := jif_f c2710 hf
                exact L96 x1 x2 x3 x4 s2709 ls _ _ (lv_sub hl [1, 2, 3, 4, 5] rfl) hC hf
              · replace hf := jif_t c2710 hf
                refine lv_iload_n hx hb dM_more_86 rfl (lv_at hl 4 rfl) ?_
                refine lv_bipush (v := 15) hx hb dM_more_87 (by decide) ?_
                refine lv_icmp_eq (tgt := 96) hx hb dM_more_89 (by decide) (fun c2711 => ?_) (fun c2711 => ?_)
                · replace hf := jif_t c2711 hf
                  exact L96 x1 x2 x3 x4 s2709 ls _ _ (lv_sub hl [1, 2, 3, 4, 5] rfl) hC hf
                · replace hf := jif_f c2711 hf
                  exact L92 x1 x2 x3 x4 s2709 ls _ _ (lv_sub hl [1, 2, 3, 4, 5] rfl) hC hf
  unfold fM_more at hf
  refine lv_aload_n hx hb dM_more_0 rfl (lv_at hl 0 rfl) ?_
  obtain ⟨r1, s1, hc1, hf⟩ := jB_some hf
  refine jcall_i (va_runV (C := RcM) (As := []) (rest := []) ⟨hx, hb, hml, hown, hts⟩ ((cM_current l dC dI cI cC cL sk sv ad N z0 s1 r1 hc1) _) ⟨(callB_of 0 hts (tb_good tw709) rfl rfl rfl (ht _ tw14) (ht _ tw706) (by decide +kernel) ⟨Nat.le_of_ble_eq_true rfl, Nat.le_of_ble_eq_true rfl⟩), ht _ tw708, ht _ (tb_sel pv_M_current)⟩ (jpreV (jEn_ok sk sv) hC hA hK hN (wM_e0 cI cC ad z0) rfl rfl _) rfl rfl hl.1 rfl (lv_room (Nat.le_of_ble_eq_true rfl)) dM_more_1 ⟨Nat.le_refl _, Nat.le_refl _⟩) hC hA (fun H locs hC => ?_)
  refine lv_istore_n (lv' := [(3, .int r1), (0, .ref (ad 0)), (1, .int a0), (2, .int a1)]) hx hb dM_more_4 rfl hl (by decide) rfl (fun ls hl => ?_)
  refine lv_iload_n hx hb dM_more_5 rfl (lv_at hl 0 rfl) ?_
  refine lv_bipush (v := 11) hx hb dM_more_6 (by decide) ?_
  refine lv_icmp_lt (tgt := 21) hx hb dM_more_8 (by decide) (fun c2 => ?_) (fun c2 => ?_)
  · replace hf := jif_t c2 hf
    refine lv_iconst (v := 0) hx hb dM_more_21 (by decide) ?_
    refine lv_istore (lv' := [(4, .int (0 : Int32)), (3, .int r1), (0, .ref (ad 0)), (1, .int a0), (2, .int a1)]) hx hb dM_more_22 hl (by decide) rfl (fun ls hl => ?_)
    refine lv_iconst (v := 1) hx hb dM_more_24 (by decide) ?_
    refine lv_istore (lv' := [(5, .int (1 : Int32)), (4, .int (0 : Int32)), (3, .int r1), (0, .ref (ad 0)), (1, .int a0), (2, .int a1)]) hx hb dM_more_25 hl (by decide) rfl (fun ls hl => ?_)
    exact L27 N a0 a1 r1 (0 : Int32) (1 : Int32) s1 ls _ _ (lv_sub hl [3, 4, 5, 2, 1, 0] rfl) hC hf
  · replace hf := jif_f c2 hf
    refine lv_iload_n hx hb dM_more_11 rfl (lv_at hl 0 rfl) ?_
    refine lv_bipush (v := 15) hx hb dM_more_12 (by decide) ?_
    refine lv_icmp_gt (tgt := 21) hx hb dM_more_14 (by decide) (fun c3 => ?_) (fun c3 => ?_)
    · replace hf := jif_t c3 hf
      refine lv_iconst (v := 0) hx hb dM_more_21 (by decide) ?_
      refine lv_istore (lv' := [(4, .int (0 : Int32)), (3, .int r1), (0, .ref (ad 0)), (1, .int a0), (2, .int a1)]) hx hb dM_more_22 hl (by decide) rfl (fun ls hl => ?_)
      refine lv_iconst (v := 1) hx hb dM_more_24 (by decide) ?_
      refine lv_istore (lv' := [(5, .int (1 : Int32)), (4, .int (0 : Int32)), (3, .int r1), (0, .ref (ad 0)), (1, .int a0), (2, .int a1)]) hx hb dM_more_25 hl (by decide) rfl (fun ls hl => ?_)
      exact L27 N a0 a1 r1 (0 : Int32) (1 : Int32) s1 ls _ _ (lv_sub hl [3, 4, 5, 2, 1, 0] rfl) hC hf
    · replace hf := jif_f c3 hf
      refine lv_iconst (v := 1) hx hb dM_more_17 (by decide) ?_
      refine lv_goto (tgt := 22) hx hb dM_more_18 (by decide) ?_
      refine lv_istore (lv' := [(4, .int (1 : Int32)), (3, .int r1), (0, .ref (ad 0)), (1, .int a0), (2, .int a1)]) hx hb dM_more_22 hl (by decide) rfl (fun ls hl => ?_)
      refine lv_iconst (v := 1) hx hb dM_more_24 (by decide) ?_
      refine lv_istore (lv' := [(5, .int (1 : Int32)), (4, .int (1 : Int32)), (3, .int r1), (0, .ref (ad 0)), (1, .int a0), (2, .int a1)]) hx hb dM_more_25 hl (by decide) rfl (fun ls hl => ?_)
      exact L27 N a0 a1 r1 (1 : Int32) (1 : Int32) s1 ls _ _ (lv_sub hl [3, 4, 5, 2, 1, 0] rfl) hC hf

def fM_operand_110 (N : Nat) (x2 : Int32) (s0 : jS) : Option (Int32 × jS) := (if x2 = (9 : Int32) then (jB (fM_lack N (1 : Int32) (3 : Int32) s0) fun r11002 s11002 => some (0, s11002)) else (if x2 = (12 : Int32) then (jB (fM_lack N (1 : Int32) (3 : Int32) s0) fun r11005 s11005 => some (0, s11005)) else (jB (fM_lack N (1 : Int32) (2 : Int32) s0) fun r11004 s11004 => some (0, s11004))))
def fM_operand_70 (N : Nat) (x1 x2 : Int32) (s0 : jS) : Option (Int32 × jS) := (if x1 = (6 : Int32) then fM_operand_110 N x2 s0 else (if x2 = (12 : Int32) then (jB (fM_add N (0 : Int32) (27 : Int32) (jgI s0 9) s0) fun r7003 s7003 => (jB (fM_add N (9 : Int32) (x1 + (1 : Int32)) (0 : Int32) s7003) fun r7004 s7004 => (jB (fM_take N s7004) fun r7005 s7005 => some (0, s7005)))) else fM_operand_110 N x2 s0))
def fM_operand (N : Nat) (a0 : Int32) (z0 : jS) : Option (Int32 × jS) := (jB (fM_current N z0) fun r1 s1 => (if r1 = (1 : Int32) then (jB (fM_take N s1) fun r3 s3 => some (0, s3)) else (if r1 = (2 : Int32) then (jB (fM_take N s1) fun r11 s11 => some (0, s11)) else (if a0 = (6 : Int32) then fM_operand_70 N a0 r1 s1 else (if r1 = (9 : Int32) then (jB (fM_add N (0 : Int32) (28 : Int32) (jgI s1 9) s1) fun r7 s7 => (jB (fM_add N (4 : Int32) (10 : Int32) (0 : Int32) s7) fun r8 s8 => (jB (fM_add N (7 : Int32) (a0 + (1 : Int32)) (0 : Int32) s8) fun r9 s9 => (jB (fM_take N s9) fun r10 s10 => some (0, s10))))) else fM_operand_70 N a0 r1 s1)))))
set_option maxHeartbeats 4000000 in
set_option maxRecDepth 100000 in
theorem cM_operand (l : Launch) (dC : Nat → ClassId) (dI : Nat → Nat → Nat) (cI cC cL : ClassId) (sk sv : Nat → Nat) (ad : Nat → Nat) (N : Nat) (a0 : Int32) (z0 z1 : jS) (r : Int32) (hf : fM_operand N a0 z0 = some (r, z1)) : Cv l yM_operand (Cond.code yM_operand prog_8_method_25_code 3 none :: TB) ({ frames := 2, cells := 0, slots := 0, locals := 47 }) (dC, dI) vwCl [(cI, .int), (cC, .char), (cL, .object "SharedSyntax$Letters")] (jEn sk sv) [.ref (ad 0), .int a0] (wM cI cC ad z0) (wM cI cC ad z1) := by
  refine Cv_of (cc := prog_8_method_25_code) (maxL := 3) (ret := none) (by decide) rfl (Nat.le_of_ble_eq_true rfl) ?_
  intro p e s m below meth c ls F hl hK hN hC
  obtain ⟨hx, hb, hml, hown, hts, hr, hlk⟩ := F
  have ht : ∀ w ∈ TB, w.before [.ref (ad 0), .int a0].toArray s = true := fun w h => hts w (List.mem_cons_of_mem _ h)
  have hA : ∀ q, s.heap.size ≤ q → va_A (wM cI cC ad z0) s.heap.size q := fun q h => Or.inr h
  have hl : lv_has ls 3 [(0, .ref (ad 0)), (1, .int a0)] := hl
  have L110 : ∀ (x2 : Int32) (s0 : jS) (ls : Array Slot) (H : Heap) (locs : List Loc), lv_has ls 3 [(0, .ref (ad 0)), (2, .int x2)] → jcx (dC, dI) vwCl (va_A (wM cI cC ad z0) s.heap.size) s.heap (wM cI cC ad s0) H locs → fM_operand_110 N x2 s0 = some (r, z1) → W p l e ({ frames := 2, cells := 0, slots := 0, locals := 47 }) s m [.ref (ad 0), .int a0].toArray below meth c H locs 0 0 (MQ below (jQv (dC, dI) vwCl [(cI, .int), (cC, .char), (cL, .object "SharedSyntax$Letters")] (wM cI cC ad z0) (wM cI cC ad z1) s.heap.size) [.ref (ad 0), .int a0].toArray s 0 0 (va_A (wM cI cC ad z0) s.heap.size)) (F0 m 110 ls []) := by
    intro x2 s0 ls H locs hl hC hf
    unfold fM_operand_110 at hf
    refine lv_aload_n hx hb dM_operand_110 rfl (lv_at hl 0 rfl) ?_
    refine lv_iconst (v := 1) hx hb dM_operand_111 (by decide) ?_
    refine lv_iload_n hx hb dM_operand_112 rfl (lv_at hl 1 rfl) ?_
    refine lv_bipush (v := 9) hx hb dM_operand_113 (by decide) ?_
    refine lv_icmp_eq (tgt := 124) hx hb dM_operand_115 (by decide) (fun c11001 => ?_) (fun c11001 => ?_)
    · replace hf := jif_t c11001 hf
      refine lv_iconst (v := 3) hx hb dM_operand_124 (by decide) ?_
      refine lv_goto (tgt := 129) hx hb dM_operand_125 (by decide) ?_
      obtain ⟨r11002, s11002, hc11002, hf⟩ := jB_some hf
      refine jcall_v (va_runV (C := RcM) (As := [.int (1 : Int32), .int (3 : Int32)]) (rest := []) ⟨hx, hb, hml, hown, hts⟩ ((cM_lack l dC dI cI cC cL sk sv ad N (1 : Int32) (3 : Int32) s0 s11002 r11002 hc11002) _) ⟨(callB_of 2 hts (tb_good tw732) rfl rfl rfl (ht _ tw14) (ht _ tw729) (by decide +kernel) ⟨Nat.le_of_ble_eq_true rfl, Nat.le_of_ble_eq_true rfl⟩), ht _ tw731, ht _ (tb_sel pv_M_lack)⟩ (jpreV (jEn_ok sk sv) hC hA hK hN (wM_e0 cI cC ad s0) rfl rfl _) rfl rfl hl.1 rfl (lv_room (Nat.le_of_ble_eq_true rfl)) dM_operand_129 ⟨Nat.le_refl _, Nat.le_refl _⟩) hC hA (fun H locs hC => ?_)
      cases hf
      exact jret_v hx hb hr hlk hC hK dM_operand_132
    · replace hf := jif_f c11001 hf
      refine lv_iload_n hx hb dM_operand_118 rfl (lv_at hl 1 rfl) ?_
      refine lv_bipush (v := 12) hx hb dM_operand_119 (by decide) ?_
      refine lv_icmp_ne (tgt := 128) hx hb dM_operand_121 (by decide) (fun c11003 => ?_) (fun c11003 => ?_)
      · replace hf := jif_f c11003 hf
        refine lv_iconst (v := 2) hx hb dM_operand_128 (by decide) ?_
        obtain ⟨r11004, s11004, hc11004, hf⟩ := jB_some hf
        refine jcall_v (va_runV (C := RcM) (As := [.int (1 : Int32), .int (2 : Int32)]) (rest := []) ⟨hx, hb, hml, hown, hts⟩ ((cM_lack l dC dI cI cC cL sk sv ad N (1 : Int32) (2 : Int32) s0 s11004 r11004 hc11004) _) ⟨(callB_of 2 hts (tb_good tw732) rfl rfl rfl (ht _ tw14) (ht _ tw729) (by decide +kernel) ⟨Nat.le_of_ble_eq_true rfl, Nat.le_of_ble_eq_true rfl⟩), ht _ tw731, ht _ (tb_sel pv_M_lack)⟩ (jpreV (jEn_ok sk sv) hC hA hK hN (wM_e0 cI cC ad s0) rfl rfl _) rfl rfl hl.1 rfl (lv_room (Nat.le_of_ble_eq_true rfl)) dM_operand_129 ⟨Nat.le_refl _, Nat.le_refl _⟩) hC hA (fun H locs hC => ?_)
        cases hf
        exact jret_v hx hb hr hlk hC hK dM_operand_132
      · replace hf := jif_t c11003 hf
        refine lv_iconst (v := 3) hx hb dM_operand_124 (by decide) ?_
        refine lv_goto (tgt := 129) hx hb dM_operand_125 (by decide) ?_
        obtain ⟨r11005, s11005, hc11005, hf⟩ := jB_some hf
        refine jcall_v (va_runV (C := RcM) (As := [.int (1 : Int32), .int (3 : Int32)]) (rest := []) ⟨hx, hb, hml, hown, hts⟩ ((cM_lack l dC dI cI cC cL sk sv ad N (1 : Int32) (3 : Int32) s0 s11005 r11005 hc11005) _) ⟨(callB_of 2 hts (tb_good tw732) rfl rfl rfl (ht _ tw14) (ht _ tw729) (by decide +kernel) ⟨Nat.le_of_ble_eq_true rfl, Nat.le_of_ble_eq_true rfl⟩), ht _ tw731, ht _ (tb_sel pv_M_lack)⟩ (jpreV (jEn_ok sk sv) hC hA hK hN (wM_e0 cI cC ad s0) rfl rfl _) rfl rfl hl.1 rfl (lv_room (Nat.le_of_ble_eq_true rfl)) dM_operand_129 ⟨Nat.le_refl _, Nat.le_refl _⟩) hC hA (fun H locs hC => ?_)
        cases hf
        exact jret_v hx hb hr hlk hC hK dM_operand_132
  have L70 : ∀ (x1 x2 : Int32) (s0 : jS) (ls : Array Slot) (H : Heap) (locs : List Loc), lv_has ls 3 [(0, .ref (ad 0)), (1, .int x1), (2, .int x2)] → jcx (dC, dI) vwCl (va_A (wM cI cC ad z0) s.heap.size) s.heap (wM cI cC ad s0) H locs → fM_operand_70 N x1 x2 s0 = some (r, z1) → W p l e ({ frames := 2, cells := 0, slots := 0, locals := 47 }) s m [.ref (ad 0), .int a0].toArray below meth c H locs 0 0 (MQ below (jQv (dC, dI) vwCl [(cI, .int), (cC, .char), (cL, .object "SharedSyntax$Letters")] (wM cI cC ad z0) (wM cI cC ad z1) s.heap.size) [.ref (ad 0), .int a0].toArray s 0 0 (va_A (wM cI cC ad z0) s.heap.size)) (F0 m 70 ls []) := by
    intro x1 x2 s0 ls H locs hl hC hf
    unfold fM_operand_70 at hf
    refine lv_iload_n hx hb dM_operand_70 rfl (lv_at hl 1 rfl) ?_
    refine lv_bipush (v := 6) hx hb dM_operand_71 (by decide) ?_
    refine lv_icmp_eq (tgt := 110) hx hb dM_operand_73 (by decide) (fun c7001 => ?_) (fun c7001 => ?_)
    · replace hf := jif_t c7001 hf
      exact L110 x2 s0 ls _ _ (lv_sub hl [0, 2] rfl) hC hf
    · replace hf := jif_f c7001 hf
      refine lv_iload_n hx hb dM_operand_76 rfl (lv_at hl 2 rfl) ?_
      refine lv_bipush (v := 12) hx hb dM_operand_77 (by decide) ?_
      refine lv_icmp_ne (tgt := 110) hx hb dM_operand_79 (by decide) (fun c7002 => ?_) (fun c7002 => ?_)
      · replace hf := jif_f c7002 hf
        exact L110 x2 s0 ls _ _ (lv_sub hl [0, 2] rfl) hC hf
      · replace hf := jif_t c7002 hf
        refine lv_aload_n hx hb dM_operand_82 rfl (lv_at hl 0 rfl) ?_
        refine lv_iconst (v := 0) hx hb dM_operand_83 (by decide) ?_
        refine lv_bipush (v := 27) hx hb dM_operand_84 (by decide) ?_
        refine lv_aload_n hx hb dM_operand_86 rfl (lv_at hl 0 rfl) ?_
        refine va_get (D := (dC, dI)) (ci := 6) (v := .int (jgI s0 9)) (C := RcM) (T := TcM) (N := 43) hx hb ht in_cM hown hK hC.1 0 (wM_e0 cI cC ad s0) rfl 37 (by decide) (ht _ tw797) (fun _ h9 => h9) rfl dM_operand_87 ?_
        obtain ⟨r7003, s7003, hc7003, hf⟩ := jB_some hf
        refine jcall_v (va_runV (C := RcM) (As := [.int (0 : Int32), .int (27 : Int32), .int (jgI s0 9)]) (rest := []) ⟨hx, hb, hml, hown, hts⟩ ((cM_add l dC dI cI cC cL sk sv ad N (0 : Int32) (27 : Int32) (jgI s0 9) s0 s7003 r7003 hc7003) _) ⟨(callB_of 3 hts (tb_good tw684) rfl rfl rfl (ht _ tw14) (ht _ tw681) (by decide +kernel) ⟨Nat.le_of_ble_eq_true rfl, Nat.le_of_ble_eq_true rfl⟩), ht _ tw683, ht _ (tb_sel pv_M_add)⟩ (jpreV (jEn_ok sk sv) hC hA hK hN (wM_e0 cI cC ad s0) rfl rfl _) rfl rfl hl.1 rfl (lv_room (Nat.le_of_ble_eq_true rfl)) dM_operand_90 ⟨Nat.le_refl _, Nat.le_refl _⟩) hC hA (fun H locs hC => ?_)
        refine lv_aload_n hx hb dM_operand_93 rfl (lv_at hl 0 rfl) ?_
        refine lv_bipush (v := 9) hx hb dM_operand_94 (by decide) ?_
        refine lv_iload_n hx hb dM_operand_96 rfl (lv_at hl 1 rfl) ?_
        refine lv_iconst (v := 1) hx hb dM_operand_97 (by decide) ?_
        refine lv_iadd hx hb dM_operand_98 ?_
        refine lv_iconst (v := 0) hx hb dM_operand_99 (by decide) ?_
        obtain ⟨r7004, s7004, hc7004, hf⟩ := jB_some hf
        refine jcall_v (va_runV (C := RcM) (As := [.int (9 : Int32), .int (x1 + (1 : Int32)), .int (0 : Int32)]) (rest := []) ⟨hx, hb, hml, hown, hts⟩ ((cM_add l dC dI cI cC cL sk sv ad N (9 : Int32) (x1 + (1 : Int32)) (0 : Int32) s7003 s7004 r7004 hc7004) _) ⟨(callB_of 3 hts (tb_good tw684) rfl rfl rfl (ht _ tw14) (ht _ tw681) (by decide +kernel) ⟨Nat.le_of_ble_eq_true rfl, Nat.le_of_ble_eq_true rfl⟩), ht _ tw683, ht _ (tb_sel pv_M_add)⟩ (jpreV (jEn_ok sk sv) hC hA hK hN (wM_e0 cI cC ad s7003) rfl rfl _) rfl rfl hl.1 rfl (lv_room (Nat.le_of_ble_eq_true rfl)) dM_operand_100 ⟨Nat.le_refl _, Nat.le_refl _⟩) hC hA (fun H locs hC => ?_)
        refine lv_aload_n hx hb dM_operand_103 rfl (lv_at hl 0 rfl) ?_
        obtain ⟨r7005, s7005, hc7005, hf⟩ := jB_some hf
        refine jcall_v (va_runV (C := RcM) (As := []) (rest := []) ⟨hx, hb, hml, hown, hts⟩ ((cM_take l dC dI cI cC cL sk sv ad N s7004 s7005 r7005 hc7005) _) ⟨(callB_of 0 hts (tb_good tw701) rfl rfl rfl (ht _ tw14) (ht _ tw698) (by decide +kernel) ⟨Nat.le_of_ble_eq_true rfl, Nat.le_of_ble_eq_true rfl⟩), ht _ tw700, ht _ (tb_sel pv_M_take)⟩ (jpreV (jEn_ok sk sv) hC hA hK hN (wM_e0 cI cC ad s7004) rfl rfl _) rfl rfl hl.1 rfl (lv_room (Nat.le_of_ble_eq_true rfl)) dM_operand_104 ⟨Nat.le_refl _, Nat.le_refl _⟩) hC hA (fun H locs hC => ?_)
        refine lv_goto (tgt := 132) hx hb dM_operand_107 (by decide) ?_
        cases hf
        exact jret_v hx hb hr hlk hC hK dM_operand_132
  unfold fM_operand at hf
  refine lv_aload_n hx hb dM_operand_0 rfl (lv_at hl 0 rfl) ?_
  obtain ⟨r1, s1, hc1, hf⟩ := jB_some hf
  refine jcall_i (va_runV (C := RcM) (As := []) (rest := []) ⟨hx, hb, hml, hown, hts⟩ ((cM_current l dC dI cI cC cL sk sv ad N z0 s1 r1 hc1) _) ⟨(callB_of 0 hts (tb_good tw709) rfl rfl rfl (ht _ tw14) (ht _ tw706) (by decide +kernel) ⟨Nat.le_of_ble_eq_true rfl, Nat.le_of_ble_eq_true rfl⟩), ht _ tw708, ht _ (tb_sel pv_M_current)⟩ (jpreV (jEn_ok sk sv) hC hA hK hN (wM_e0 cI cC ad z0) rfl rfl _) rfl rfl hl.1 rfl (lv_room (Nat.le_of_ble_eq_true rfl)) dM_operand_1 ⟨Nat.le_refl _, Nat.le_refl _⟩) hC hA (fun H locs hC => ?_)
  refine lv_istore_n (lv' := [(2, .int r1), (0, .ref (ad 0)), (1, .int a0)]) hx hb dM_operand_4 rfl hl (by decide) rfl (fun ls hl => ?_)
  refine lv_iload_n hx hb dM_operand_5 rfl (lv_at hl 0 rfl) ?_
  refine lv_iconst (v := 1) hx hb dM_operand_6 (by decide) ?_
  refine lv_icmp_eq (tgt := 15) hx hb dM_operand_7 (by decide) (fun c2 => ?_) (fun c2 => ?_)
  · replace hf := jif_t c2 hf
    refine lv_aload_n hx hb dM_operand_15 rfl (lv_at hl 1 rfl) ?_
    obtain ⟨r3, s3, hc3, hf⟩ := jB_some hf
    refine jcall_v (va_runV (C := RcM) (As := []) (rest := []) ⟨hx, hb, hml, hown, hts⟩ ((cM_take l dC dI cI cC cL sk sv ad N s1 s3 r3 hc3) _) ⟨(callB_of 0 hts (tb_good tw701) rfl rfl rfl (ht _ tw14) (ht _ tw698) (by decide +kernel) ⟨Nat.le_of_ble_eq_true rfl, Nat.le_of_ble_eq_true rfl⟩), ht _ tw700, ht _ (tb_sel pv_M_take)⟩ (jpreV (jEn_ok sk sv) hC hA hK hN (wM_e0 cI cC ad s1) rfl rfl _) rfl rfl hl.1 rfl (lv_room (Nat.le_of_ble_eq_true rfl)) dM_operand_16 ⟨Nat.le_refl _, Nat.le_refl _⟩) hC hA (fun H locs hC => ?_)
    refine lv_goto (tgt := 132) hx hb dM_operand_19 (by decide) ?_
    cases hf
    exact jret_v hx hb hr hlk hC hK dM_operand_132
  · replace hf := jif_f c2 hf
    refine lv_iload_n hx hb dM_operand_10 rfl (lv_at hl 0 rfl) ?_
    refine lv_iconst (v := 2) hx hb dM_operand_11 (by decide) ?_
    refine lv_icmp_ne (tgt := 22) hx hb dM_operand_12 (by decide) (fun c4 => ?_) (fun c4 => ?_)
    · replace hf := jif_f c4 hf
      refine lv_iload_n hx hb dM_operand_22 rfl (lv_at hl 2 rfl) ?_
      refine lv_bipush (v := 6) hx hb dM_operand_23 (by decide) ?_
      refine lv_icmp_eq (tgt := 70) hx hb dM_operand_25 (by decide) (fun c5 => ?_) (fun c5 => ?_)
      · replace hf := jif_t c5 hf
        exact L70 a0 r1 s1 ls _ _ (lv_sub hl [1, 2, 0] rfl) hC hf
      · replace hf := jif_f c5 hf
        refine lv_iload_n hx hb dM_operand_28 rfl (lv_at hl 0 rfl) ?_
        refine lv_bipush (v := 9) hx hb dM_operand_29 (by decide) ?_
        refine lv_icmp_ne (tgt := 70) hx hb dM_operand_31 (by decide) (fun c6 => ?_) (fun c6 => ?_)
        · replace hf := jif_f c6 hf
          exact L70 a0 r1 s1 ls _ _ (lv_sub hl [1, 2, 0] rfl) hC hf
        · replace hf := jif_t c6 hf
          refine lv_aload_n hx hb dM_operand_34 rfl (lv_at hl 1 rfl) ?_
          refine lv_iconst (v := 0) hx hb dM_operand_35 (by decide) ?_
          refine lv_bipush (v := 28) hx hb dM_operand_36 (by decide) ?_
          refine lv_aload_n hx hb dM_operand_38 rfl (lv_at hl 1 rfl) ?_
          refine va_get (D := (dC, dI)) (ci := 6) (v := .int (jgI s1 9)) (C := RcM) (T := TcM) (N := 43) hx hb ht in_cM hown hK hC.1 0 (wM_e0 cI cC ad s1) rfl 37 (by decide) (ht _ tw797) (fun _ h9 => h9) rfl dM_operand_39 ?_
          obtain ⟨r7, s7, hc7, hf⟩ := jB_some hf
          refine jcall_v (va_runV (C := RcM) (As := [.int (0 : Int32), .int (28 : Int32), .int (jgI s1 9)]) (rest := []) ⟨hx, hb, hml, hown, hts⟩ ((cM_add l dC dI cI cC cL sk sv ad N (0 : Int32) (28 : Int32) (jgI s1 9) s1 s7 r7 hc7) _) ⟨(callB_of 3 hts (tb_good tw684) rfl rfl rfl (ht _ tw14) (ht _ tw681) (by decide +kernel) ⟨Nat.le_of_ble_eq_true rfl, Nat.le_of_ble_eq_true rfl⟩), ht _ tw683, ht _ (tb_sel pv_M_add)⟩ (jpreV (jEn_ok sk sv) hC hA hK hN (wM_e0 cI cC ad s1) rfl rfl _) rfl rfl hl.1 rfl (lv_room (Nat.le_of_ble_eq_true rfl)) dM_operand_42 ⟨Nat.le_refl _, Nat.le_refl _⟩) hC hA (fun H locs hC => ?_)
          refine lv_aload_n hx hb dM_operand_45 rfl (lv_at hl 1 rfl) ?_
          refine lv_iconst (v := 4) hx hb dM_operand_46 (by decide) ?_
          refine lv_bipush (v := 10) hx hb dM_operand_47 (by decide) ?_
          refine lv_iconst (v := 0) hx hb dM_operand_49 (by decide) ?_
          obtain ⟨r8, s8, hc8, hf⟩ := jB_some hf
          refine jcall_v (va_runV (C := RcM) (As := [.int (4 : Int32), .int (10 : Int32), .int (0 : Int32)]) (rest := []) ⟨hx, hb, hml, hown, hts⟩ ((cM_add l dC dI cI cC cL sk sv ad N (4 : Int32) (10 : Int32) (0 : Int32) s7 s8 r8 hc8) _) ⟨(callB_of 3 hts (tb_good tw684) rfl rfl rfl (ht _ tw14) (ht _ tw681) (by decide +kernel) ⟨Nat.le_of_ble_eq_true rfl, Nat.le_of_ble_eq_true rfl⟩), ht _ tw683, ht _ (tb_sel pv_M_add)⟩ (jpreV (jEn_ok sk sv) hC hA hK hN (wM_e0 cI cC ad s7) rfl rfl _) rfl rfl hl.1 rfl (lv_room (Nat.le_of_ble_eq_true rfl)) dM_operand_50 ⟨Nat.le_refl _, Nat.le_refl _⟩) hC hA (fun H locs hC => ?_)
          refine lv_aload_n hx hb dM_operand_53 rfl (lv_at hl 1 rfl) ?_
          refine lv_bipush (v := 7) hx hb dM_operand_54 (by decide) ?_
          refine lv_iload_n hx hb dM_operand_56 rfl (lv_at hl 2 rfl) ?_
          refine lv_iconst (v := 1) hx hb dM_operand_57 (by decide) ?_
          refine lv_iadd hx hb dM_operand_58 ?_
          refine lv_iconst (v := 0) hx hb dM_operand_59 (by decide) ?_
          obtain ⟨r9, s9, hc9, hf⟩ := jB_some hf
          refine jcall_v (va_runV (C := RcM) (As := [.int (7 : Int32), .int (a0 + (1 : Int32)), .int (0 : Int32)]) (rest := []) ⟨hx, hb, hml, hown, hts⟩ ((cM_add l dC dI cI cC cL sk sv ad N (7 : Int32) (a0 + (1 : Int32)) (0 : Int32) s8 s9 r9 hc9) _) ⟨(callB_of 3 hts (tb_good tw684) rfl rfl rfl (ht _ tw14) (ht _ tw681) (by decide +kernel) ⟨Nat.le_of_ble_eq_true rfl, Nat.le_of_ble_eq_true rfl⟩), ht _ tw683, ht _ (tb_sel pv_M_add)⟩ (jpreV (jEn_ok sk sv) hC hA hK hN (wM_e0 cI cC ad s8) rfl rfl _) rfl rfl hl.1 rfl (lv_room (Nat.le_of_ble_eq_true rfl)) dM_operand_60 ⟨Nat.le_refl _, Nat.le_refl _⟩) hC hA (fun H locs hC => ?_)
          refine lv_aload_n hx hb dM_operand_63 rfl (lv_at hl 1 rfl) ?_
          obtain ⟨r10, s10, hc10, hf⟩ := jB_some hf
          refine jcall_v (va_runV (C := RcM) (As := []) (rest := []) ⟨hx, hb, hml, hown, hts⟩ ((cM_take l dC dI cI cC cL sk sv ad N s9 s10 r10 hc10) _) ⟨(callB_of 0 hts (tb_good tw701) rfl rfl rfl (ht _ tw14) (ht _ tw698) (by decide +kernel) ⟨Nat.le_of_ble_eq_true rfl, Nat.le_of_ble_eq_true rfl⟩), ht _ tw700, ht _ (tb_sel pv_M_take)⟩ (jpreV (jEn_ok sk sv) hC hA hK hN (wM_e0 cI cC ad s9) rfl rfl _) rfl rfl hl.1 rfl (lv_room (Nat.le_of_ble_eq_true rfl)) dM_operand_64 ⟨Nat.le_refl _, Nat.le_refl _⟩) hC hA (fun H locs hC => ?_)
          refine lv_goto (tgt := 132) hx hb dM_operand_67 (by decide) ?_
          cases hf
          exact jret_v hx hb hr hlk hC hK dM_operand_132
    · replace hf := jif_t c4 hf
      refine lv_aload_n hx hb dM_operand_15 rfl (lv_at hl 1 rfl) ?_
      obtain ⟨r11, s11, hc11, hf⟩ := jB_some hf
      refine jcall_v (va_runV (C := RcM) (As := []) (rest := []) ⟨hx, hb, hml, hown, hts⟩ ((cM_take l dC dI cI cC cL sk sv ad N s1 s11 r11 hc11) _) ⟨(callB_of 0 hts (tb_good tw701) rfl rfl rfl (ht _ tw14) (ht _ tw698) (by decide +kernel) ⟨Nat.le_of_ble_eq_true rfl, Nat.le_of_ble_eq_true rfl⟩), ht _ tw700, ht _ (tb_sel pv_M_take)⟩ (jpreV (jEn_ok sk sv) hC hA hK hN (wM_e0 cI cC ad s1) rfl rfl _) rfl rfl hl.1 rfl (lv_room (Nat.le_of_ble_eq_true rfl)) dM_operand_16 ⟨Nat.le_refl _, Nat.le_refl _⟩) hC hA (fun H locs hC => ?_)
      refine lv_goto (tgt := 132) hx hb dM_operand_19 (by decide) ?_
      cases hf
      exact jret_v hx hb hr hlk hC hK dM_operand_132

def fM_perform (N : Nat) (a0 a1 a2 a3 : Int32) (z0 : jS) : Option (Int32 × jS) := (if a1 = (0 : Int32) then (jB (fM_reduce N a2 a3 z0) fun r1 s1 => some (0, s1)) else (if a1 = (1 : Int32) then (jB (fM_take N z0) fun r2 s2 => some (0, s2)) else (if a1 = (2 : Int32) then (jB (fM_list N a0 a2 a3 z0) fun r3 s3 => some (0, s3)) else (if a1 = (3 : Int32) then (jB (fM_statement N a2 z0) fun r4 s4 => some (0, s4)) else (if a1 = (4 : Int32) then (jB (fM_expect N a2 z0) fun r5 s5 => some (0, s5)) else (if a1 = (5 : Int32) then (jB (fM_other N a2 z0) fun r6 s6 => some (0, s6)) else (if a1 = (6 : Int32) then (jB (fM_part N a2 z0) fun r7 s7 => some (0, s7)) else (if a1 = (7 : Int32) then (jB (fM_add N (8 : Int32) a2 (jgI z0 9) z0) fun r8 s8 => (jB (fM_add N (9 : Int32) a2 (0 : Int32) s8) fun r9 s9 => some (0, s9))) else (if a1 = (8 : Int32) then (jB (fM_more N a2 a3 z0) fun r10 s10 => some (0, s10)) else (jB (fM_operand N a2 z0) fun r11 s11 => some (0, s11)))))))))))
set_option maxHeartbeats 4000000 in
set_option maxRecDepth 100000 in
theorem cM_perform (l : Launch) (dC : Nat → ClassId) (dI : Nat → Nat → Nat) (cI cC cL : ClassId) (sk sv : Nat → Nat) (ad : Nat → Nat) (N : Nat) (a0 a1 a2 a3 : Int32) (z0 z1 : jS) (r : Int32) (hf : fM_perform N a0 a1 a2 a3 z0 = some (r, z1)) : Cv l yM_perform (Cond.code yM_perform prog_8_method_18_code 5 none :: TB) ({ frames := 3, cells := 0, slots := 0, locals := 77 }) (dC, dI) vwCl [(cI, .int), (cC, .char), (cL, .object "SharedSyntax$Letters")] (jEn sk sv) [.ref (ad 0), .int a0, .int a1, .int a2, .int a3] (wM cI cC ad z0) (wM cI cC ad z1) := by
  refine Cv_of (cc := prog_8_method_18_code) (maxL := 5) (ret := none) (by decide) rfl (Nat.le_of_ble_eq_true rfl) ?_
  intro p e s m below meth c ls F hl hK hN hC
  obtain ⟨hx, hb, hml, hown, hts, hr, hlk⟩ := F
  have ht : ∀ w ∈ TB, w.before [.ref (ad 0), .int a0, .int a1, .int a2, .int a3].toArray s = true := fun w h => hts w (List.mem_cons_of_mem _ h)
  have hA : ∀ q, s.heap.size ≤ q → va_A (wM cI cC ad z0) s.heap.size q := fun q h => Or.inr h
  have hl : lv_has ls 5 [(0, .ref (ad 0)), (1, .int a0), (2, .int a1), (3, .int a2), (4, .int a3)] := hl
  unfold fM_perform at hf
  refine lv_iload_n hx hb dM_perform_0 rfl (lv_at hl 2 rfl) ?_
  by_cases w0 : a1 = (0 : Int32)
  · replace hf := jif_t w0 hf
    refine lv_tableIn (tgt := 52) hx hb dM_perform_1 (by rw [w0]; decide) (by rw [w0]; decide) (by rw [w0]; rfl) (by decide) ?_
    refine lv_aload_n hx hb dM_perform_52 rfl (lv_at hl 0 rfl) ?_
    refine lv_iload_n hx hb dM_perform_53 rfl (lv_at hl 3 rfl) ?_
    refine lv_iload hx hb dM_perform_54 (lv_at hl 4 rfl) ?_
    obtain ⟨r1, s1, hc1, hf⟩ := jB_some hf
    refine jcall_v (va_runV (C := RcM) (As := [.int a2, .int a3]) (rest := []) ⟨hx, hb, hml, hown, hts⟩ ((cM_reduce l dC dI cI cC cL sk sv ad N a2 a3 z0 s1 r1 hc1) _) ⟨(callB_of 2 hts (tb_good tw693) rfl rfl rfl (ht _ tw14) (ht _ tw690) (by decide +kernel) ⟨Nat.le_of_ble_eq_true rfl, Nat.le_of_ble_eq_true rfl⟩), ht _ tw692, ht _ (tb_sel pv_M_reduce)⟩ (jpreV (jEn_ok sk sv) hC hA hK hN (wM_e0 cI cC ad z0) rfl rfl _) rfl rfl hl.1 rfl (lv_room (Nat.le_of_ble_eq_true rfl)) dM_perform_56 ⟨Nat.le_refl _, Nat.le_refl _⟩) hC hA (fun H locs hC => ?_)
    refine lv_goto (tgt := 149) hx hb dM_perform_59 (by decide) ?_
    cases hf
    exact jret_v hx hb hr hlk hC hK dM_perform_149
  · replace hf := jif_f w0 hf
    by_cases w1 : a1 = (1 : Int32)
    · replace hf := jif_t w1 hf
      refine lv_tableIn (tgt := 62) hx hb dM_perform_1 (by rw [w1]; decide) (by rw [w1]; decide) (by rw [w1]; rfl) (by decide) ?_
      refine lv_aload_n hx hb dM_perform_62 rfl (lv_at hl 0 rfl) ?_
      obtain ⟨r2, s2, hc2, hf⟩ := jB_some hf
      refine jcall_v (va_runV (C := RcM) (As := []) (rest := []) ⟨hx, hb, hml, hown, hts⟩ ((cM_take l dC dI cI cC cL sk sv ad N z0 s2 r2 hc2) _) ⟨(callB_of 0 hts (tb_good tw701) rfl rfl rfl (ht _ tw14) (ht _ tw698) (by decide +kernel) ⟨Nat.le_of_ble_eq_true rfl, Nat.le_of_ble_eq_true rfl⟩), ht _ tw700, ht _ (tb_sel pv_M_take)⟩ (jpreV (jEn_ok sk sv) hC hA hK hN (wM_e0 cI cC ad z0) rfl rfl _) rfl rfl hl.1 rfl (lv_room (Nat.le_of_ble_eq_true rfl)) dM_perform_63 ⟨Nat.le_refl _, Nat.le_refl _⟩) hC hA (fun H locs hC => ?_)
      refine lv_goto (tgt := 149) hx hb dM_perform_66 (by decide) ?_
      cases hf
      exact jret_v hx hb hr hlk hC hK dM_perform_149
    · replace hf := jif_f w1 hf
      by_cases w2 : a1 = (2 : Int32)
      · replace hf := jif_t w2 hf
        refine lv_tableIn (tgt := 69) hx hb dM_perform_1 (by rw [w2]; decide) (by rw [w2]; decide) (by rw [w2]; rfl) (by decide) ?_
        refine lv_aload_n hx hb dM_perform_69 rfl (lv_at hl 0 rfl) ?_
        refine lv_iload_n hx hb dM_perform_70 rfl (lv_at hl 1 rfl) ?_
        refine lv_iload_n hx hb dM_perform_71 rfl (lv_at hl 3 rfl) ?_
        refine lv_iload hx hb dM_perform_72 (lv_at hl 4 rfl) ?_
        obtain ⟨r3, s3, hc3, hf⟩ := jB_some hf
        refine jcall_v (va_runV (C := RcM) (As := [.int a0, .int a2, .int a3]) (rest := []) ⟨hx, hb, hml, hown, hts⟩ ((cM_list l dC dI cI cC cL sk sv ad N a0 a2 a3 z0 s3 r3 hc3) _) ⟨(callB_of 3 hts (tb_good tw705) rfl rfl rfl (ht _ tw14) (ht _ tw702) (by decide +kernel) ⟨Nat.le_of_ble_eq_true rfl, Nat.le_of_ble_eq_true rfl⟩), ht _ tw704, ht _ (tb_sel pv_M_list)⟩ (jpreV (jEn_ok sk sv) hC hA hK hN (wM_e0 cI cC ad z0) rfl rfl _) rfl rfl hl.1 rfl (lv_room (Nat.le_of_ble_eq_true rfl)) dM_perform_74 ⟨Nat.le_refl _, Nat.le_refl _⟩) hC hA (fun H locs hC => ?_)
        refine lv_goto (tgt := 149) hx hb dM_perform_77 (by decide) ?_
        cases hf
        exact jret_v hx hb hr hlk hC hK dM_perform_149
      · replace hf := jif_f w2 hf
        by_cases w3 : a1 = (3 : Int32)
        · replace hf := jif_t w3 hf
          refine lv_tableIn (tgt := 80) hx hb dM_perform_1 (by rw [w3]; decide) (by rw [w3]; decide) (by rw [w3]; rfl) (by decide) ?_
          refine lv_aload_n hx hb dM_perform_80 rfl (lv_at hl 0 rfl) ?_
          refine lv_iload_n hx hb dM_perform_81 rfl (lv_at hl 3 rfl) ?_
          obtain ⟨r4, s4, hc4, hf⟩ := jB_some hf
          refine jcall_v (va_runV (C := RcM) (As := [.int a2]) (rest := []) ⟨hx, hb, hml, hown, hts⟩ ((cM_statement l dC dI cI cC cL sk sv ad N a2 z0 s4 r4 hc4) _) ⟨(callB_of 1 hts (tb_good tw724) rfl rfl rfl (ht _ tw14) (ht _ tw721) (by decide +kernel) ⟨Nat.le_of_ble_eq_true rfl, Nat.le_of_ble_eq_true rfl⟩), ht _ tw723, ht _ (tb_sel pv_M_statement)⟩ (jpreV (jEn_ok sk sv) hC hA hK hN (wM_e0 cI cC ad z0) rfl rfl _) rfl rfl hl.1 rfl (lv_room (Nat.le_of_ble_eq_true rfl)) dM_perform_82 ⟨Nat.le_refl _, Nat.le_refl _⟩) hC hA (fun H locs hC => ?_)
          refine lv_goto (tgt := 149) hx hb dM_perform_85 (by decide) ?_
          cases hf
          exact jret_v hx hb hr hlk hC hK dM_perform_149
        · replace hf := jif_f w3 hf
          by_cases w4 : a1 = (4 : Int32)
          · replace hf := jif_t w4 hf
            refine lv_tableIn (tgt := 88) hx hb dM_perform_1 (by rw [w4]; decide) (by rw [w4]; decide) (by rw [w4]; rfl) (by decide) ?_
            refine lv_aload_n hx hb dM_perform_88 rfl (lv_at hl 0 rfl) ?_
            refine lv_iload_n hx hb dM_perform_89 rfl (lv_at hl 3 rfl) ?_
            obtain ⟨r5, s5, hc5, hf⟩ := jB_some hf
            refine jcall_v (va_runV (C := RcM) (As := [.int a2]) (rest := []) ⟨hx, hb, hml, hown, hts⟩ ((cM_expect l dC dI cI cC cL sk sv ad N a2 z0 s5 r5 hc5) _) ⟨(callB_of 1 hts (tb_good tw728) rfl rfl rfl (ht _ tw14) (ht _ tw725) (by decide +kernel) ⟨Nat.le_of_ble_eq_true rfl, Nat.le_of_ble_eq_true rfl⟩), ht _ tw727, ht _ (tb_sel pv_M_expect)⟩ (jpreV (jEn_ok sk sv) hC hA hK hN (wM_e0 cI cC ad z0) rfl rfl _) rfl rfl hl.1 rfl (lv_room (Nat.le_of_ble_eq_true rfl)) dM_perform_90 ⟨Nat.le_refl _, Nat.le_refl _⟩) hC hA (fun H locs hC => ?_)
            refine lv_goto (tgt := 149) hx hb dM_perform_93 (by decide) ?_
            cases hf
            exact jret_v hx hb hr hlk hC hK dM_perform_149
          · replace hf := jif_f w4 hf
            by_cases w5 : a1 = (5 : Int32)
            · replace hf := jif_t w5 hf
              refine lv_tableIn (tgt := 96) hx hb dM_perform_1 (by rw [w5]; decide) (by rw [w5]; decide) (by rw [w5]; rfl) (by decide) ?_
              refine lv_aload_n hx hb dM_perform_96 rfl (lv_at hl 0 rfl) ?_
              refine lv_iload_n hx hb dM_perform_97 rfl (lv_at hl 3 rfl) ?_
              obtain ⟨r6, s6, hc6, hf⟩ := jB_some hf
              refine jcall_v (va_runV (C := RcM) (As := [.int a2]) (rest := []) ⟨hx, hb, hml, hown, hts⟩ ((cM_other l dC dI cI cC cL sk sv ad N a2 z0 s6 r6 hc6) _) ⟨(callB_of 1 hts (tb_good tw736) rfl rfl rfl (ht _ tw14) (ht _ tw733) (by decide +kernel) ⟨Nat.le_of_ble_eq_true rfl, Nat.le_of_ble_eq_true rfl⟩), ht _ tw735, ht _ (tb_sel pv_M_other)⟩ (jpreV (jEn_ok sk sv) hC hA hK hN (wM_e0 cI cC ad z0) rfl rfl _) rfl rfl hl.1 rfl (lv_room (Nat.le_of_ble_eq_true rfl)) dM_perform_98 ⟨Nat.le_refl _, Nat.le_refl _⟩) hC hA (fun H locs hC => ?_)
              refine lv_goto (tgt := 149) hx hb dM_perform_101 (by decide) ?_
              cases hf
              exact jret_v hx hb hr hlk hC hK dM_perform_149
            · replace hf := jif_f w5 hf
              by_cases w6 : a1 = (6 : Int32)
              · replace hf := jif_t w6 hf
                refine lv_tableIn (tgt := 104) hx hb dM_perform_1 (by rw [w6]; decide) (by rw [w6]; decide) (by rw [w6]; rfl) (by decide) ?_
                refine lv_aload_n hx hb dM_perform_104 rfl (lv_at hl 0 rfl) ?_
                refine lv_iload_n hx hb dM_perform_105 rfl (lv_at hl 3 rfl) ?_
                obtain ⟨r7, s7, hc7, hf⟩ := jB_some hf
                refine jcall_v (va_runV (C := RcM) (As := [.int a2]) (rest := []) ⟨hx, hb, hml, hown, hts⟩ ((cM_part l dC dI cI cC cL sk sv ad N a2 z0 s7 r7 hc7) _) ⟨(callB_of 1 hts (tb_good tw740) rfl rfl rfl (ht _ tw14) (ht _ tw737) (by decide +kernel) ⟨Nat.le_of_ble_eq_true rfl, Nat.le_of_ble_eq_true rfl⟩), ht _ tw739, ht _ (tb_sel pv_M_part)⟩ (jpreV (jEn_ok sk sv) hC hA hK hN (wM_e0 cI cC ad z0) rfl rfl _) rfl rfl hl.1 rfl (lv_room (Nat.le_of_ble_eq_true rfl)) dM_perform_106 ⟨Nat.le_refl _, Nat.le_refl _⟩) hC hA (fun H locs hC => ?_)
                refine lv_goto (tgt := 149) hx hb dM_perform_109 (by decide) ?_
                cases hf
                exact jret_v hx hb hr hlk hC hK dM_perform_149
              · replace hf := jif_f w6 hf
                by_cases w7 : a1 = (7 : Int32)
                · replace hf := jif_t w7 hf
                  refine lv_tableIn (tgt := 112) hx hb dM_perform_1 (by rw [w7]; decide) (by rw [w7]; decide) (by rw [w7]; rfl) (by decide) ?_
                  refine lv_aload_n hx hb dM_perform_112 rfl (lv_at hl 0 rfl) ?_
                  refine lv_bipush (v := 8) hx hb dM_perform_113 (by decide) ?_
                  refine lv_iload_n hx hb dM_perform_115 rfl (lv_at hl 3 rfl) ?_
                  refine lv_aload_n hx hb dM_perform_116 rfl (lv_at hl 0 rfl) ?_
                  refine va_get (D := (dC, dI)) (ci := 6) (v := .int (jgI z0 9)) (C := RcM) (T := TcM) (N := 43) hx hb ht in_cM hown hK hC.1 0 (wM_e0 cI cC ad z0) rfl 37 (by decide) (ht _ tw797) (fun _ h9 => h9) rfl dM_perform_117 ?_
                  obtain ⟨r8, s8, hc8, hf⟩ := jB_some hf
                  refine jcall_v (va_runV (C := RcM) (As := [.int (8 : Int32), .int a2, .int (jgI z0 9)]) (rest := []) ⟨hx, hb, hml, hown, hts⟩ ((cM_add l dC dI cI cC cL sk sv ad N (8 : Int32) a2 (jgI z0 9) z0 s8 r8 hc8) _) ⟨(callB_of 3 hts (tb_good tw684) rfl rfl rfl (ht _ tw14) (ht _ tw681) (by decide +kernel) ⟨Nat.le_of_ble_eq_true rfl, Nat.le_of_ble_eq_true rfl⟩), ht _ tw683, ht _ (tb_sel pv_M_add)⟩ (jpreV (jEn_ok sk sv) hC hA hK hN (wM_e0 cI cC ad z0) rfl rfl _) rfl rfl hl.1 rfl (lv_room (Nat.le_of_ble_eq_true rfl)) dM_perform_120 ⟨Nat.le_refl _, Nat.le_refl _⟩) hC hA (fun H locs hC => ?_)
                  refine lv_aload_n hx hb dM_perform_123 rfl (lv_at hl 0 rfl) ?_
                  refine lv_bipush (v := 9) hx hb dM_perform_124 (by decide) ?_
                  refine lv_iload_n hx hb dM_perform_126 rfl (lv_at hl 3 rfl) ?_
                  refine lv_iconst (v := 0) hx hb dM_perform_127 (by decide) ?_
                  obtain ⟨r9, s9, hc9, hf⟩ := jB_some hf
                  refine jcall_v (va_runV (C := RcM) (As := [.int (9 : Int32), .int a2, .int (0 : Int32)]) (rest := []) ⟨hx, hb, hml, hown, hts⟩ ((cM_add l dC dI cI cC cL sk sv ad N (9 : Int32) a2 (0 : Int32) s8 s9 r9 hc9) _) ⟨(callB_of 3 hts (tb_good tw684) rfl rfl rfl (ht _ tw14) (ht _ tw681) (by decide +kernel) ⟨Nat.le_of_ble_eq_true rfl, Nat.le_of_ble_eq_true rfl⟩), ht _ tw683, ht _ (tb_sel pv_M_add)⟩ (jpreV (jEn_ok sk sv) hC hA hK hN (wM_e0 cI cC ad s8) rfl rfl _) rfl rfl hl.1 rfl (lv_room (Nat.le_of_ble_eq_true rfl)) dM_perform_128 ⟨Nat.le_refl _, Nat.le_refl _⟩) hC hA (fun H locs hC => ?_)
                  refine lv_goto (tgt := 149) hx hb dM_perform_131 (by decide) ?_
                  cases hf
                  exact jret_v hx hb hr hlk hC hK dM_perform_149
                · replace hf := jif_f w7 hf
                  by_cases w8 : a1 = (8 : Int32)
                  · replace hf := jif_t w8 hf
                    refine lv_tableIn (tgt := 134) hx hb dM_perform_1 (by rw [w8]; decide) (by rw [w8]; decide) (by rw [w8]; rfl) (by decide) ?_
                    refine lv_aload_n hx hb dM_perform_134 rfl (lv_at hl 0 rfl) ?_
                    refine lv_iload_n hx hb dM_perform_135 rfl (lv_at hl 3 rfl) ?_
                    refine lv_iload hx hb dM_perform_136 (lv_at hl 4 rfl) ?_
                    obtain ⟨r10, s10, hc10, hf⟩ := jB_some hf
                    refine jcall_v (va_runV (C := RcM) (As := [.int a2, .int a3]) (rest := []) ⟨hx, hb, hml, hown, hts⟩ ((cM_more l dC dI cI cC cL sk sv ad N a2 a3 z0 s10 r10 hc10) _) ⟨(callB_of 2 hts (tb_good tw744) rfl rfl rfl (ht _ tw14) (ht _ tw741) (by decide +kernel) ⟨Nat.le_of_ble_eq_true rfl, Nat.le_of_ble_eq_true rfl⟩), ht _ tw743, ht _ (tb_sel pv_M_more)⟩ (jpreV (jEn_ok sk sv) hC hA hK hN (wM_e0 cI cC ad z0) rfl rfl _) rfl rfl hl.1 rfl (lv_room (Nat.le_of_ble_eq_true rfl)) dM_perform_138 ⟨Nat.le_refl _, Nat.le_refl _⟩) hC hA (fun H locs hC => ?_)
                    refine lv_goto (tgt := 149) hx hb dM_perform_141 (by decide) ?_
                    cases hf
                    exact jret_v hx hb hr hlk hC hK dM_perform_149
                  · replace hf := jif_f w8 hf
                    refine lv_tableOut (tgt := 144) hx hb dM_perform_1 (by have e0 := lv_neT (a := 0) w0 (by decide); have e1 := lv_neT (a := 1) w1 (by decide); have e2 := lv_neT (a := 2) w2 (by decide); have e3 := lv_neT (a := 3) w3 (by decide); have e4 := lv_neT (a := 4) w4 (by decide); have e5 := lv_neT (a := 5) w5 (by decide); have e6 := lv_neT (a := 6) w6 (by decide); have e7 := lv_neT (a := 7) w7 (by decide); have e8 := lv_neT (a := 8) w8 (by decide); omega) (by decide) ?_
                    refine lv_aload_n hx hb dM_perform_144 rfl (lv_at hl 0 rfl) ?_
                    refine lv_iload_n hx hb dM_perform_145 rfl (lv_at hl 3 rfl) ?_
                    obtain ⟨r11, s11, hc11, hf⟩ := jB_some hf
                    refine jcall_v (va_runV (C := RcM) (As := [.int a2]) (rest := []) ⟨hx, hb, hml, hown, hts⟩ ((cM_operand l dC dI cI cC cL sk sv ad N a2 z0 s11 r11 hc11) _) ⟨(callB_of 1 hts (tb_good tw751) rfl rfl rfl (ht _ tw14) (ht _ tw748) (by decide +kernel) ⟨Nat.le_of_ble_eq_true rfl, Nat.le_of_ble_eq_true rfl⟩), ht _ tw750, ht _ (tb_sel pv_M_operand)⟩ (jpreV (jEn_ok sk sv) hC hA hK hN (wM_e0 cI cC ad z0) rfl rfl _) rfl rfl hl.1 rfl (lv_room (Nat.le_of_ble_eq_true rfl)) dM_perform_146 ⟨Nat.le_refl _, Nat.le_refl _⟩) hC hA (fun H locs hC => ?_)
                    cases hf
                    exact jret_v hx hb hr hlk hC hK dM_perform_149

def fM_following_41 (N : Nat) (x2 : Int32) (s0 : jS) : Option (Int32 × jS) := (if 0 ≤ x2 then (if jIn x2 400 = true then some (jgA s0 25 (x2).toNatClampNeg, s0) else none) else some ((-1 : Int32), s0))
def fM_following_b18 (N : Nat) (k18 : Int32 → jS → Option (Int32 × jS)) (x2 : Int32) (s0 : jS) : Option (Int32 × jS) := (if x2 < 0 then fM_following_41 N x2 s0 else (if jIn x2 400 = true then (if 0 ≤ jgA s0 25 (x2).toNatClampNeg then fM_following_41 N x2 s0 else (if jIn x2 400 = true then k18 (jgA s0 26 (x2).toNatClampNeg) s0 else none)) else none))
def fM_following_18 (N : Nat) : Nat → Int32 → jS → Option (Int32 × jS)
  | 0 => fun _ _ => none
  | n + 1 => fun x2 s0 => fM_following_b18 N (fM_following_18 N n) x2 s0
def fM_following (N : Nat) (a0 : Int32) (z0 : jS) : Option (Int32 × jS) := (if jIn a0 400 = true then (if jgA z0 24 (a0).toNatClampNeg < 0 then fM_following_18 N N a0 z0 else (if jIn a0 400 = true then some (jgA z0 24 (a0).toNatClampNeg, z0) else none)) else none)
set_option maxHeartbeats 4000000 in
set_option maxRecDepth 100000 in
theorem cM_following (l : Launch) (dC : Nat → ClassId) (dI : Nat → Nat → Nat) (cI cC cL : ClassId) (sk sv : Nat → Nat) (ad : Nat → Nat) (N : Nat) (a0 : Int32) (z0 z1 : jS) (r : Int32) (hf : fM_following N a0 z0 = some (r, z1)) : Ci l yM_following (Cond.code yM_following prog_8_method_27_code 3 (some .int) :: TB) ({ frames := 0, cells := 0, slots := 0, locals := 0 }) (dC, dI) vwCl [(cI, .int), (cC, .char), (cL, .object "SharedSyntax$Letters")] (jEn sk sv) [.ref (ad 0), .int a0] (wM cI cC ad z0) (wM cI cC ad z1) r := by
  refine Ci_of (cc := prog_8_method_27_code) (maxL := 3) (ret := (some .int)) (by decide) rfl (Nat.le_of_ble_eq_true rfl) ?_
  intro p e s m below meth c ls F hl hK hN hC
  obtain ⟨hx, hb, hml, hown, hts, hr, hlk⟩ := F
  have ht : ∀ w ∈ TB, w.before [.ref (ad 0), .int a0].toArray s = true := fun w h => hts w (List.mem_cons_of_mem _ h)
  have hA : ∀ q, s.heap.size ≤ q → va_A (wM cI cC ad z0) s.heap.size q := fun q h => Or.inr h
  have hl : lv_has ls 3 [(0, .ref (ad 0)), (1, .int a0)] := hl
  have L41 : ∀ (x2 : Int32) (s0 : jS) (ls : Array Slot) (H : Heap) (locs : List Loc), lv_has ls 3 [(0, .ref (ad 0)), (2, .int x2)] → jcx (dC, dI) vwCl (va_A (wM cI cC ad z0) s.heap.size) s.heap (wM cI cC ad s0) H locs → fM_following_41 N x2 s0 = some (r, z1) → W p l e ({ frames := 0, cells := 0, slots := 0, locals := 0 }) s m [.ref (ad 0), .int a0].toArray below meth c H locs 0 0 (MQ below (jQi (dC, dI) vwCl [(cI, .int), (cC, .char), (cL, .object "SharedSyntax$Letters")] (wM cI cC ad z0) (wM cI cC ad z1) s.heap.size r) [.ref (ad 0), .int a0].toArray s 0 0 (va_A (wM cI cC ad z0) s.heap.size)) (F0 m 41 ls []) := by
    intro x2 s0 ls H locs hl hC hf
    unfold fM_following_41 at hf
    refine lv_iload_n hx hb dM_following_41 rfl (lv_at hl 1 rfl) ?_
    refine lv_if_ge (tgt := 49) hx hb dM_following_42 (by decide) (fun c4101 => ?_) (fun c4101 => ?_)
    · replace hf := jif_t c4101 hf
      refine lv_aload_n hx hb dM_following_49 rfl (lv_at hl 0 rfl) ?_
      refine va_get (D := (dC, dI)) (ci := 6) (v := .ref (ad 26)) (C := RcM) (T := TcM) (N := 43) hx hb ht in_cM hown hK hC.1 0 (wM_e0 cI cC ad s0) rfl 34 (by decide) (ht _ tw794) (fun _ h9 => h9) rfl dM_following_50 ?_
      refine lv_iload_n hx hb dM_following_53 rfl (lv_at hl 1 rfl) ?_
      obtain ⟨hi4102, hf⟩ := jC_in hf
      refine va_iald hx hb hK hC.1 26 0 (wM_e26 cI cC ad s0) rfl hi4102 dM_following_54 ?_
      cases hf
      exact jret_i hx hb hr hlk hC hK dM_following_55
    · replace hf := jif_f c4101 hf
      refine lv_iconst (v := -1) hx hb dM_following_45 (by decide) ?_
      refine lv_goto (tgt := 55) hx hb dM_following_46 (by decide) ?_
      cases hf
      exact jret_i hx hb hr hlk hC hK dM_following_55
  have L18 : ∀ (n : Nat) (x2 : Int32) (s0 : jS) (ls : Array Slot) (H : Heap) (locs : List Loc), lv_has ls 3 [(0, .ref (ad 0)), (2, .int x2)] → jcx (dC, dI) vwCl (va_A (wM cI cC ad z0) s.heap.size) s.heap (wM cI cC ad s0) H locs → fM_following_18 N n x2 s0 = some (r, z1) → W p l e ({ frames := 0, cells := 0, slots := 0, locals := 0 }) s m [.ref (ad 0), .int a0].toArray below meth c H locs 0 0 (MQ below (jQi (dC, dI) vwCl [(cI, .int), (cC, .char), (cL, .object "SharedSyntax$Letters")] (wM cI cC ad z0) (wM cI cC ad z1) s.heap.size r) [.ref (ad 0), .int a0].toArray s 0 0 (va_A (wM cI cC ad z0) s.heap.size)) (F0 m 18 ls []) := by
    intro n
    induction n with
    | zero => exact fun _ _ _ _ _ _ _ hf => nomatch hf
    | succ n ih18 =>
      intro x2 s0 ls H locs hl hC hf
      replace hf : fM_following_b18 N (fM_following_18 N n) x2 s0 = some (r, z1) := hf
      generalize fM_following_18 N n = k18 at ih18 hf
      unfold fM_following_b18 at hf
      refine lv_iload_n hx hb dM_following_18 rfl (lv_at hl 1 rfl) ?_
      refine lv_if_lt (tgt := 41) hx hb dM_following_19 (by decide) (fun c1801 => ?_) (fun c1801 => ?_)
      · replace hf := jif_t c1801 hf
        exact L41 x2 s0 ls _ _ (lv_sub hl [0, 1] rfl) hC hf
      · replace hf := jif_f c1801 hf
        refine lv_aload_n hx hb dM_following_22 rfl (lv_at hl 0 rfl) ?_
        refine va_get (D := (dC, dI)) (ci := 6) (v := .ref (ad 26)) (C := RcM) (T := TcM) (N := 43) hx hb ht in_cM hown hK hC.1 0 (wM_e0 cI cC ad s0) rfl 34 (by decide) (ht _ tw794) (fun _ h9 => h9) rfl dM_following_23 ?_
        refine lv_iload_n hx hb dM_following_26 rfl (lv_at hl 1 rfl) ?_
        obtain ⟨hi1802, hf⟩ := jC_in hf
        refine va_iald hx hb hK hC.1 26 0 (wM_e26 cI cC ad s0) rfl hi1802 dM_following_27 ?_
        refine lv_if_ge (tgt := 41) hx hb dM_following_28 (by decide) (fun c1803 => ?_) (fun c1803 => ?_)
        · replace hf := jif_t c1803 hf
          exact L41 x2 s0 ls _ _ (lv_sub hl [0, 1] rfl) hC hf
        · replace hf := jif_f c1803 hf
          refine lv_aload_n hx hb dM_following_31 rfl (lv_at hl 0 rfl) ?_
          refine va_get (D := (dC, dI)) (ci := 6) (v := .ref (ad 27)) (C := RcM) (T := TcM) (N := 43) hx hb ht in_cM hown hK hC.1 0 (wM_e0 cI cC ad s0) rfl 35 (by decide) (ht _ tw795) (fun _ h9 => h9) rfl dM_following_32 ?_
          refine lv_iload_n hx hb dM_following_35 rfl (lv_at hl 1 rfl) ?_
          obtain ⟨hi1804, hf⟩ := jC_in hf
          refine va_iald hx hb hK hC.1 27 0 (wM_e27 cI cC ad s0) rfl hi1804 dM_following_36 ?_
          refine lv_istore_n (lv' := [(2, .int (jgA s0 26 (x2).toNatClampNeg)), (0, .ref (ad 0))]) hx hb dM_following_37 rfl hl (by decide) rfl (fun ls hl => ?_)
          refine lv_goto (tgt := 18) hx hb dM_following_38 (by decide) ?_
          exact ih18 (jgA s0 26 (x2).toNatClampNeg) s0 ls _ _ (lv_sub hl [1, 0] rfl) hC hf
  unfold fM_following at hf
  refine lv_aload_n hx hb dM_following_0 rfl (lv_at hl 0 rfl) ?_
  refine va_get (D := (dC, dI)) (ci := 6) (v := .ref (ad 25)) (C := RcM) (T := TcM) (N := 43) hx hb ht in_cM hown hK hC.1 0 (wM_e0 cI cC ad z0) rfl 33 (by decide) (ht _ tw793) (fun _ h9 => h9) rfl dM_following_1 ?_
  refine lv_iload_n hx hb dM_following_4 rfl (lv_at hl 1 rfl) ?_
  obtain ⟨hi1, hf⟩ := jC_in hf
  refine va_iald hx hb hK hC.1 25 0 (wM_e25 cI cC ad z0) rfl hi1 dM_following_5 ?_
  refine lv_if_lt (tgt := 16) hx hb dM_following_6 (by decide) (fun c2 => ?_) (fun c2 => ?_)
  · replace hf := jif_t c2 hf
    refine lv_iload_n hx hb dM_following_16 rfl (lv_at hl 1 rfl) ?_
    refine lv_istore_n (lv' := [(2, .int a0), (0, .ref (ad 0)), (1, .int a0)]) hx hb dM_following_17 rfl hl (by decide) rfl (fun ls hl => ?_)
    exact L18 N a0 z0 ls _ _ (lv_sub hl [1, 0] rfl) hC hf
  · replace hf := jif_f c2 hf
    refine lv_aload_n hx hb dM_following_9 rfl (lv_at hl 0 rfl) ?_
    refine va_get (D := (dC, dI)) (ci := 6) (v := .ref (ad 25)) (C := RcM) (T := TcM) (N := 43) hx hb ht in_cM hown hK hC.1 0 (wM_e0 cI cC ad z0) rfl 33 (by decide) (ht _ tw793) (fun _ h9 => h9) rfl dM_following_10 ?_
    refine lv_iload_n hx hb dM_following_13 rfl (lv_at hl 1 rfl) ?_
    obtain ⟨hi3, hf⟩ := jC_in hf
    refine va_iald hx hb hK hC.1 25 0 (wM_e25 cI cC ad z0) rfl hi3 dM_following_14 ?_
    cases hf
    exact jret_i hx hb hr hlk hC hK dM_following_15

def fM_number_b169 (N : Nat) (k169 : Int32 → Int32 → jS → Option (Int32 × jS)) (x1 x3 : Int32) (s0 : jS) : Option (Int32 × jS) := (if x3 ≤ 0 then some (0, s0) else (if jIn (((400 : Int32) * x1) + x3) 800 = true then (if jIn (((400 : Int32) * x1) + jgA s0 10 ((((400 : Int32) * x1) + x3)).toNatClampNeg) 800 = true then (if jIn (((400 : Int32) * x1) + x3) 800 = true then (if jIn (((400 : Int32) * x1) + jgA s0 10 ((((400 : Int32) * x1) + x3)).toNatClampNeg) 800 = true then (jL (jsA s0 11 ((((400 : Int32) * x1) + jgA s0 10 ((((400 : Int32) * x1) + x3)).toNatClampNeg)).toNatClampNeg (jgA s0 11 ((((400 : Int32) * x1) + jgA s0 10 ((((400 : Int32) * x1) + x3)).toNatClampNeg)).toNatClampNeg + jgA s0 11 ((((400 : Int32) * x1) + x3)).toNatClampNeg)) fun s16905 => k169 x1 (x3 + (-1 : Int32)) s16905) else none) else none) else none) else none))
def fM_number_169 (N : Nat) : Nat → Int32 → Int32 → jS → Option (Int32 × jS)
  | 0 => fun _ _ _ => none
  | n + 1 => fun x1 x3 s0 => fM_number_b169 N (fM_number_169 N n) x1 x3 s0
def fM_number_b9 (N : Nat) (k9 : Int32 → Int32 → Int32 → jS → Option (Int32 × jS)) (x1 x2 x3 : Int32) (s0 : jS) : Option (Int32 × jS) := (if x3 < 0 then (if jIn x1 2 = true then (jL (jsA s0 3 (x1).toNatClampNeg x2) fun s902 => fM_number_169 N N x1 (x2 - (1 : Int32)) s902) else none) else (if jIn x3 400 = true then (jL (jsA s0 27 (x3).toNatClampNeg x2) fun s903 => (if jIn x3 400 = true then (if jIn (((400 : Int32) * x1) + x2) 800 = true then (jL (jsA s903 4 ((((400 : Int32) * x1) + x2)).toNatClampNeg (jgA s903 18 (x3).toNatClampNeg)) fun s905 => (if jIn x3 400 = true then (if jIn (((400 : Int32) * x1) + x2) 800 = true then (jL (jsA s905 5 ((((400 : Int32) * x1) + x2)).toNatClampNeg (jgA s905 19 (x3).toNatClampNeg)) fun s907 => (if jIn x3 400 = true then (if jIn (((400 : Int32) * x1) + x2) 800 = true then (jL (jsA s907 6 ((((400 : Int32) * x1) + x2)).toNatClampNeg (jgA s907 20 (x3).toNatClampNeg)) fun s909 => (if jIn x3 400 = true then (if jIn (((400 : Int32) * x1) + x2) 800 = true then (jL (jsA s909 7 ((((400 : Int32) * x1) + x2)).toNatClampNeg (jgA s909 21 (x3).toNatClampNeg)) fun s911 => (if jIn x3 400 = true then (if jIn (((400 : Int32) * x1) + x2) 800 = true then (jL (jsA s911 8 ((((400 : Int32) * x1) + x2)).toNatClampNeg (jgA s911 22 (x3).toNatClampNeg)) fun s913 => (if jIn x3 400 = true then (if jIn (((400 : Int32) * x1) + x2) 800 = true then (jL (jsA s913 9 ((((400 : Int32) * x1) + x2)).toNatClampNeg (jgA s913 23 (x3).toNatClampNeg)) fun s915 => (if jIn x3 400 = true then (if 0 ≤ jgA s915 26 (x3).toNatClampNeg then (if jIn x3 400 = true then (if jIn (jgA s915 26 (x3).toNatClampNeg) 400 = true then (if jIn (((400 : Int32) * x1) + x2) 800 = true then (jL (jsA s915 10 ((((400 : Int32) * x1) + x2)).toNatClampNeg (jgA s915 27 (jgA s915 26 (x3).toNatClampNeg).toNatClampNeg)) fun s920 => (if jIn (((400 : Int32) * x1) + x2) 800 = true then (jL (jsA s920 11 ((((400 : Int32) * x1) + x2)).toNatClampNeg (1 : Int32)) fun s921 => (jB (fM_following N x3 s921) fun r922 s922 => k9 x1 (x2 + (1 : Int32)) r922 s922)) else none)) else none) else none) else none) else (if jIn (((400 : Int32) * x1) + x2) 800 = true then (jL (jsA s915 10 ((((400 : Int32) * x1) + x2)).toNatClampNeg (-1 : Int32)) fun s923 => (if jIn (((400 : Int32) * x1) + x2) 800 = true then (jL (jsA s923 11 ((((400 : Int32) * x1) + x2)).toNatClampNeg (1 : Int32)) fun s924 => (jB (fM_following N x3 s924) fun r925 s925 => k9 x1 (x2 + (1 : Int32)) r925 s925)) else none)) else none)) else none)) else none) else none)) else none) else none)) else none) else none)) else none) else none)) else none) else none)) else none) else none)) else none))
def fM_number_9 (N : Nat) : Nat → Int32 → Int32 → Int32 → jS → Option (Int32 × jS)
  | 0 => fun _ _ _ _ => none
  | n + 1 => fun x1 x2 x3 s0 => fM_number_b9 N (fM_number_9 N n) x1 x2 x3 s0
def fM_number (N : Nat) (a0 : Int32) (z0 : jS) : Option (Int32 × jS) := (if jIn (0 : Int32) 400 = true then fM_number_9 N N a0 (0 : Int32) (jgA z0 28 ((0 : Int32)).toNatClampNeg) z0 else none)
set_option maxHeartbeats 4000000 in
set_option maxRecDepth 100000 in
theorem cM_number (l : Launch) (dC : Nat → ClassId) (dI : Nat → Nat → Nat) (cI cC cL : ClassId) (sk sv : Nat → Nat) (ad : Nat → Nat) (N : Nat) (a0 : Int32) (z0 z1 : jS) (r : Int32) (hf : fM_number N a0 z0 = some (r, z1)) : Cv l yM_number (Cond.code yM_number prog_8_method_28_code 5 none :: TB) ({ frames := 1, cells := 0, slots := 0, locals := 22 }) (dC, dI) vwCl [(cI, .int), (cC, .char), (cL, .object "SharedSyntax$Letters")] (jEn sk sv) [.ref (ad 0), .int a0] (wM cI cC ad z0) (wM cI cC ad z1) := by
  refine Cv_of (cc := prog_8_method_28_code) (maxL := 5) (ret := none) (by decide) rfl (Nat.le_of_ble_eq_true rfl) ?_
  intro p e s m below meth c ls F hl hK hN hC
  obtain ⟨hx, hb, hml, hown, hts, hr, hlk⟩ := F
  have ht : ∀ w ∈ TB, w.before [.ref (ad 0), .int a0].toArray s = true := fun w h => hts w (List.mem_cons_of_mem _ h)
  have hA : ∀ q, s.heap.size ≤ q → va_A (wM cI cC ad z0) s.heap.size q := fun q h => Or.inr h
  have hl : lv_has ls 5 [(0, .ref (ad 0)), (1, .int a0)] := hl
  have L169 : ∀ (n : Nat) (x1 x3 : Int32) (s0 : jS) (ls : Array Slot) (H : Heap) (locs : List Loc), lv_has ls 5 [(0, .ref (ad 0)), (1, .int x1), (3, .int x3)] → jcx (dC, dI) vwCl (va_A (wM cI cC ad z0) s.heap.size) s.heap (wM cI cC ad s0) H locs → fM_number_169 N n x1 x3 s0 = some (r, z1) → W p l e ({ frames := 1, cells := 0, slots := 0, locals := 22 }) s m [.ref (ad 0), .int a0].toArray below meth c H locs 0 0 (MQ below (jQv (dC, dI) vwCl [(cI, .int), (cC, .char), (cL, .object "SharedSyntax$Letters")] (wM cI cC ad z0) (wM cI cC ad z1) s.heap.size) [.ref (ad 0), .int a0].toArray s 0 0 (va_A (wM cI cC ad z0) s.heap.size)) (F0 m 169 ls []) := by
    intro n
    induction n with
    | zero => exact fun _ _ _ _ _ _ _ _ hf => nomatch hf
    | succ n ih169 =>
      intro x1 x3 s0 ls H locs hl hC hf
      replace hf : fM_number_b169 N (fM_number_169 N n) x1 x3 s0 = some (r, z1) := hf
      generalize fM_number_169 N n = k169 at ih169 hf
      unfold fM_number_b169 at hf
      refine lv_iload_n hx hb dM_number_169 rfl (lv_at hl 2 rfl) ?_
      refine lv_if_le (tgt := 217) hx hb dM_number_170 (by decide) (fun c16901 => ?_) (fun c16901 => ?_)
      · replace hf := jif_t c16901 hf
        cases hf
        exact jret_v hx hb hr hlk hC hK dM_number_217
      · replace hf := jif_f c16901 hf
        refine lv_aload_n hx hb dM_number_173 rfl (lv_at hl 0 rfl) ?_
        refine va_get (D := (dC, dI)) (ci := 6) (v := .ref (ad 12)) (C := RcM) (T := TcM) (N := 43) hx hb ht in_cM hown hK hC.1 0 (wM_e0 cI cC ad s0) rfl 12 (by decide) (ht _ tw772) (fun _ h9 => h9) rfl dM_number_174 ?_
        refine lv_sipush (v := 400) hx hb dM_number_177 (by decide) ?_
        refine lv_iload_n hx hb dM_number_180 rfl (lv_at hl 1 rfl) ?_
        refine lv_imul hx hb dM_number_181 ?_
        refine lv_aload_n hx hb dM_number_182 rfl (lv_at hl 0 rfl) ?_
        refine va_get (D := (dC, dI)) (ci := 6) (v := .ref (ad 11)) (C := RcM) (T := TcM) (N := 43) hx hb ht in_cM hown hK hC.1 0 (wM_e0 cI cC ad s0) rfl 11 (by decide) (ht _ tw771) (fun _ h9 => h9) rfl dM_number_183 ?_
        refine lv_sipush (v := 400) hx hb dM_number_186 (by decide) ?_
        refine lv_iload_n hx hb dM_number_189 rfl (lv_at hl 1 rfl) ?_
        refine lv_imul hx hb dM_number_190 ?_
        refine lv_iload_n hx hb dM_number_191 rfl (lv_at hl 2 rfl) ?_
        refine lv_iadd hx hb dM_number_192 ?_
        obtain ⟨hi16902, hf⟩ := jC_in hf
        refine va_iald hx hb hK hC.1 11 0 (wM_e11 cI cC ad s0) rfl hi16902 dM_number_193 ?_
        refine lv_iadd hx hb dM_number_194 ?_
        refine lv_dup2_11 hx hb dM_number_195 rfl rfl ?_
        obtain ⟨hi16903, hf⟩ := jC_in hf
        refine va_iald hx hb hK hC.1 12 0 (wM_e12 cI cC ad s0) rfl hi16903 dM_number_196 ?_
        refine lv_aload_n hx hb dM_number_197 rfl (lv_at hl 0 rfl) ?_
        refine va_get (D := (dC, dI)) (ci := 6) (v := .ref (ad 12)) (C := RcM) (T := TcM) (N := 43) hx hb ht in_cM hown hK hC.1 0 (wM_e0 cI cC ad s0) rfl 12 (by decide) (ht _ tw772) (fun _ h9 => h9) rfl dM_number_198 ?_
        refine lv_sipush (v := 400) hx hb dM_number_201 (by decide) ?_
        refine lv_iload_n hx hb dM_number_204 rfl (lv_at hl 1 rfl) ?_
        refine lv_imul hx hb dM_number_205 ?_
        refine lv_iload_n hx hb dM_number_206 rfl (lv_at hl 2 rfl) ?_
        refine lv_iadd hx hb dM_number_207 ?_
        obtain ⟨hi16904, hf⟩ := jC_in hf
        refine va_iald hx hb hK hC.1 12 0 (wM_e12 cI cC ad s0) rfl hi16904 dM_number_208 ?_
        refine lv_iadd hx hb dM_number_209 ?_
        obtain ⟨hi16905, hf⟩ := jC_in hf
        obtain ⟨s16905, e16905, hf⟩ := jL_s hf
        refine jast_i hx hb hK hC 12 0 (wM_e12 cI cC ad s0) rfl hi16905 dM_number_210 ((wM_a11 cI cC ad s0 _ _).trans (congrArg (wM cI cC ad) e16905.symm)) (fun H locs hC => ?_)
        refine lv_iinc (k := 2) (v := (x3 + (-1 : Int32))) (lv' := [(3, .int (x3 + (-1 : Int32))), (0, .ref (ad 0)), (1, .int x1)]) hx hb dM_number_211 hl rfl rfl (by decide) rfl (fun ls hl => ?_)
        refine lv_goto (tgt := 169) hx hb dM_number_214 (by decide) ?_
        exact ih169 x1 (x3 + (-1 : Int32)) s16905 ls _ _ (lv_sub hl [1, 2, 0] rfl) hC hf
  have L9 : ∀ (n : Nat) (x1 x2 x3 : Int32) (s0 : jS) (ls : Array Slot) (H : Heap) (locs : List Loc), lv_has ls 5 [(0, .ref (ad 0)), (1, .int x1), (2, .int x2), (3, .int x3)] → jcx (dC, dI) vwCl (va_A (wM cI cC ad z0) s.heap.size) s.heap (wM cI cC ad s0) H locs → fM_number_9 N n x1 x2 x3 s0 = some (r, z1) → W p l e ({ frames := 1, cells := 0, slots := 0, locals := 22 }) s m [.ref (ad 0), .int a0].toArray below meth c H locs 0 0 (MQ below (jQv (dC, dI) vwCl [(cI, .int), (cC, .char), (cL, .object "SharedSyntax$Letters")] (wM cI cC ad z0) (wM cI cC ad z1) s.heap.size) [.ref (ad 0), .int a0].toArray s 0 0 (va_A (wM cI cC ad z0) s.heap.size)) (F0 m 9 ls []) := by
    intro n
    induction n with
    | zero => exact fun _ _ _ _ _ _ _ _ _ hf => nomatch hf
    | succ n ih9 =>
      intro x1 x2 x3 s0 ls H locs hl hC hf
      replace hf : fM_number_b9 N (fM_number_9 N n) x1 x2 x3 s0 = some (r, z1) := hf
      generalize fM_number_9 N n = k9 at ih9 hf
      unfold fM_number_b9 at hf
      refine lv_iload_n hx hb dM_number_9 rfl (lv_at hl 3 rfl) ?_
      refine lv_if_lt (tgt := 158) hx hb dM_number_10 (by decide) (fun c901 => ?_) (fun c901 => ?_)
      · replace hf := jif_t c901 hf
        refine lv_aload_n hx hb dM_number_158 rfl (lv_at hl 0 rfl) ?_
        refine va_get (D := (dC, dI)) (ci := 6) (v := .ref (ad 4)) (C := RcM) (T := TcM) (N := 43) hx hb ht in_cM hown hK hC.1 0 (wM_e0 cI cC ad s0) rfl 4 (by decide) (ht _ tw764) (fun _ h9 => h9) rfl dM_number_159 ?_
        refine lv_iload_n hx hb dM_number_162 rfl (lv_at hl 1 rfl) ?_
        refine lv_iload_n hx hb dM_number_163 rfl (lv_at hl 2 rfl) ?_
        obtain ⟨hi902, hf⟩ := jC_in hf
        obtain ⟨s902, e902, hf⟩ := jL_s hf
        refine jast_i hx hb hK hC 4 0 (wM_e4 cI cC ad s0) rfl hi902 dM_number_164 ((wM_a3 cI cC ad s0 _ _).trans (congrArg (wM cI cC ad) e902.symm)) (fun H locs hC => ?_)
        refine lv_iload_n hx hb dM_number_165 rfl (lv_at hl 2 rfl) ?_
        refine lv_iconst (v := 1) hx hb dM_number_166 (by decide) ?_
        refine lv_isub hx hb dM_number_167 ?_
        refine lv_istore_n (lv' := [(3, .int (x2 - (1 : Int32))), (0, .ref (ad 0)), (1, .int x1), (2, .int x2)]) hx hb dM_number_168 rfl hl (by decide) rfl (fun ls hl => ?_)
        exact L169 N x1 (x2 - (1 : Int32)) s902 ls _ _ (lv_sub hl [1, 2, 0] rfl) hC hf
      · replace hf := jif_f c901 hf
        refine lv_sipush (v := 400) hx hb dM_number_13 (by decide) ?_
        refine lv_iload_n hx hb dM_number_16 rfl (lv_at hl 1 rfl) ?_
        refine lv_imul hx hb dM_number_17 ?_
        refine lv_iload_n hx hb dM_number_18 rfl (lv_at hl 2 rfl) ?_
        refine lv_iadd hx hb dM_number_19 ?_
        refine lv_istore (lv' := [(4, .int (((400 : Int32) * x1) + x2)), (0, .ref (ad 0)), (1, .int x1), (2, .int x2), (3, .int x3)]) hx hb dM_number_20 hl (by decide) rfl (fun ls hl => ?_)
        refine lv_aload_n hx hb dM_number_22 rfl (lv_at hl 1 rfl) ?_
        refine va_get (D := (dC, dI)) (ci := 6) (v := .ref (ad 28)) (C := RcM) (T := TcM) (N := 43) hx hb ht in_cM hown hK hC.1 0 (wM_e0 cI cC ad s0) rfl 36 (by decide) (ht _ tw796) (fun _ h9 => h9) rfl dM_number_23 ?_
        refine lv_iload_n hx hb dM_number_26 rfl (lv_at hl 4 rfl) ?_
        refine lv_iload_n hx hb dM_number_27 rfl (lv_at hl 3 rfl) ?_
        obtain ⟨hi903, hf⟩ := jC_in hf
        obtain ⟨s903, e903, hf⟩ := jL_s hf
        refine jast_i hx hb hK hC 28 0 (wM_e28 cI cC ad s0) rfl hi903 dM_number_28 ((wM_a27 cI cC ad s0 _ _).trans (congrArg (wM cI cC ad) e903.symm)) (fun H locs hC => ?_)
        refine lv_aload_n hx hb dM_number_29 rfl (lv_at hl 1 rfl) ?_
        refine va_get (D := (dC, dI)) (ci := 6) (v := .ref (ad 5)) (C := RcM) (T := TcM) (N := 43) hx hb ht in_cM hown hK hC.1 0 (wM_e0 cI cC ad s903) rfl 5 (by decide) (ht _ tw765) (fun _ h9 => h9) rfl dM_number_30 ?_
        refine lv_iload hx hb dM_number_33 (lv_at hl 0 rfl) ?_
        refine lv_aload_n hx hb dM_number_35 rfl (lv_at hl 1 rfl) ?_
        refine va_get (D := (dC, dI)) (ci := 6) (v := .ref (ad 19)) (C := RcM) (T := TcM) (N := 43) hx hb ht in_cM hown hK hC.1 0 (wM_e0 cI cC ad s903) rfl 27 (by decide) (ht _ tw787) (fun _ h9 => h9) rfl dM_number_36 ?_
        refine lv_iload_n hx hb dM_number_39 rfl (lv_at hl 4 rfl) ?_
        obtain ⟨hi904, hf⟩ := jC_in hf
        refine va_iald hx hb hK hC.1 19 0 (wM_e19 cI cC ad s903) rfl hi904 dM_number_40 ?_
        obtain ⟨hi905, hf⟩ := jC_in hf
        obtain ⟨s905, e905, hf⟩ := jL_s hf
        refine jast_i hx hb hK hC 5 0 (wM_e5 cI cC ad s903) rfl hi905 dM_number_41 ((wM_a4 cI cC ad s903 _ _).trans (congrArg (wM cI cC ad) e905.symm)) (fun H locs hC => ?_)
        refine lv_aload_n hx hb dM_number_42 rfl (lv_at hl 1 rfl) ?_
        refine va_get (D := (dC, dI)) (ci := 6) (v := .ref (ad 6)) (C := RcM) (T := TcM) (N := 43) hx hb ht in_cM hown hK hC.1 0 (wM_e0 cI cC ad s905) rfl 6 (by decide) (ht _ tw766) (fun _ h9 => h9) rfl dM_number_43 ?_
        refine lv_iload hx hb dM_number_46 (lv_at hl 0 rfl) ?_
        refine lv_aload_n hx hb dM_number_48 rfl (lv_at hl 1 rfl) ?_
        refine va_get (D := (dC, dI)) (ci := 6) (v := .ref (ad 20)) (C := RcM) (T := TcM) (N := 43) hx hb ht in_cM hown hK hC.1 0 (wM_e0 cI cC ad s905) rfl 28 (by decide) (ht _ tw788) (fun _ h9 => h9) rfl dM_number_49 ?_
        refine lv_iload_n hx hb dM_number_52 rfl (lv_at hl 4 rfl) ?_
        obtain ⟨hi906, hf⟩ := jC_in hf
        refine va_iald hx hb hK hC.1 20 0 (wM_e20 cI cC ad s905) rfl hi906 dM_number_53 ?_
        obtain ⟨hi907, hf⟩ := jC_in hf
        obtain ⟨s907, e907, hf⟩ := jL_s hf
        refine jast_i hx hb hK hC 6 0 (wM_e6 cI cC ad s905) rfl hi907 dM_number_54 ((wM_a5 cI cC ad s905 _ _).trans (congrArg (wM cI cC ad) e907.symm)) (fun H locs hC => ?_)
        refine lv_aload_n hx hb dM_number_55 rfl (lv_at hl 1 rfl) ?_
        refine va_get (D := (dC, dI)) (ci := 6) (v := .ref (ad 7)) (C := RcM) (T := TcM) (N := 43) hx hb ht in_cM hown hK hC.1 0 (wM_e0 cI cC ad s907) rfl 7 (by decide) (ht _ tw767) (fun _ h9 => h9) rfl dM_number_56 ?_
        refine lv_iload hx hb dM_number_59 (lv_at hl 0 rfl) ?_
        refine lv_aload_n hx hb dM_number_61 rfl (lv_at hl 1 rfl) ?_
        refine va_get (D := (dC, dI)) (ci := 6) (v := .ref (ad 21)) (C := RcM) (T := TcM) (N := 43) hx hb ht in_cM hown hK hC.1 0 (wM_e0 cI cC ad s907) rfl 29 (by decide) (ht _ tw789) (fun _ h9 => h9) rfl dM_number_62 ?_
        refine lv_iload_n hx hb dM_number_65 rfl (lv_at hl 4 rfl) ?_
        obtain ⟨hi908, hf⟩ := jC_in hf
        refine va_iald hx hb hK hC.1 21 0 (wM_e21 cI cC ad s907) rfl hi908 dM_number_66 ?_
        obtain ⟨hi909, hf⟩ := jC_in hf
        obtain ⟨s909, e909, hf⟩ := jL_s hf
        refine jast_i hx hb hK hC 7 0 (wM_e7 cI cC ad s907) rfl hi909 dM_number_67 ((wM_a6 cI cC ad s907 _ _).trans (congrArg (wM cI cC ad) e909.symm)) (fun H locs hC => ?_)
        refine lv_aload_n hx hb dM_number_68 rfl (lv_at hl 1 rfl) ?_
        refine va_get (D := (dC, dI)) (ci := 6) (v := .ref (ad 8)) (C := RcM) (T := TcM) (N := 43) hx hb ht in_cM hown hK hC.1 0 (wM_e0 cI cC ad s909) rfl 8 (by decide) (ht _ tw768) (fun _ h9 => h9) rfl dM_number_69 ?_
        refine lv_iload hx hb dM_number_72 (lv_at hl 0 rfl) ?_
        refine lv_aload_n hx hb dM_number_74 rfl (lv_at hl 1 rfl) ?_
        refine va_get (D := (dC, dI)) (ci := 6) (v := .ref (ad 22)) (C := RcM) (T := TcM) (N := 43) hx hb ht in_cM hown hK hC.1 0 (wM_e0 cI cC ad s909) rfl 30 (by decide) (ht _ tw790) (fun _ h9 => h9) rfl dM_number_75 ?_
        refine lv_iload_n hx hb dM_number_78 rfl (lv_at hl 4 rfl) ?_
        obtain ⟨hi910, hf⟩ := jC_in hf
        refine va_iald hx hb hK hC.1 22 0 (wM_e22 cI cC ad s909) rfl hi910 dM_number_79 ?_
        obtain ⟨hi911, hf⟩ := jC_in hf
        obtain ⟨s911, e911, hf⟩ := jL_s hf
        refine jast_i hx hb hK hC 8 0 (wM_e8 cI cC ad s909) rfl hi911 dM_number_80 ((wM_a7 cI cC ad s909 _ _).trans (congrArg (wM cI cC ad) e911.symm)) (fun H locs hC => ?_)
        refine lv_aload_n hx hb dM_number_81 rfl (lv_at hl 1 rfl) ?_
        refine va_get (D := (dC, dI)) (ci := 6) (v := .ref (ad 9)) (C := RcM) (T := TcM) (N := 43) hx hb ht in_cM hown hK hC.1 0 (wM_e0 cI cC ad s911) rfl 9 (by decide) (ht _ tw769) (fun _ h9 => h9) rfl dM_number_82 ?_
        refine lv_iload hx hb dM_number_85 (lv_at hl 0 rfl) ?_
        refine lv_aload_n hx hb dM_number_87 rfl (lv_at hl 1 rfl) ?_
        refine va_get (D := (dC, dI)) (ci := 6) (v := .ref (ad 23)) (C := RcM) (T := TcM) (N := 43) hx hb ht in_cM hown hK hC.1 0 (wM_e0 cI cC ad s911) rfl 31 (by decide) (ht _ tw791) (fun _ h9 => h9) rfl dM_number_88 ?_
        refine lv_iload_n hx hb dM_number_91 rfl (lv_at hl 4 rfl) ?_
        obtain ⟨hi912, hf⟩ := jC_in hf
        refine va_iald hx hb hK hC.1 23 0 (wM_e23 cI cC ad s911) rfl hi912 dM_number_92 ?_
        obtain ⟨hi913, hf⟩ := jC_in hf
        obtain ⟨s913, e913, hf⟩ := jL_s hf
        refine jast_i hx hb hK hC 9 0 (wM_e9 cI cC ad s911) rfl hi913 dM_number_93 ((wM_a8 cI cC ad s911 _ _).trans (congrArg (wM cI cC ad) e913.symm)) (fun H locs hC => ?_)
        refine lv_aload_n hx hb dM_number_94 rfl (lv_at hl 1 rfl) ?_
        refine va_get (D := (dC, dI)) (ci := 6) (v := .ref (ad 10)) (C := RcM) (T := TcM) (N := 43) hx hb ht in_cM hown hK hC.1 0 (wM_e0 cI cC ad s913) rfl 10 (by decide) (ht _ tw770) (fun _ h9 => h9) rfl dM_number_95 ?_
        refine lv_iload hx hb dM_number_98 (lv_at hl 0 rfl) ?_
        refine lv_aload_n hx hb dM_number_100 rfl (lv_at hl 1 rfl) ?_
        refine va_get (D := (dC, dI)) (ci := 6) (v := .ref (ad 24)) (C := RcM) (T := TcM) (N := 43) hx hb ht in_cM hown hK hC.1 0 (wM_e0 cI cC ad s913) rfl 32 (by decide) (ht _ tw792) (fun _ h9 => h9) rfl dM_number_101 ?_
        refine lv_iload_n hx hb dM_number_104 rfl (lv_at hl 4 rfl) ?_
        obtain ⟨hi914, hf⟩ := jC_in hf
        refine va_iald hx hb hK hC.1 24 0 (wM_e24 cI cC ad s913) rfl hi914 dM_number_105 ?_
        obtain ⟨hi915, hf⟩ := jC_in hf
        obtain ⟨s915, e915, hf⟩ := jL_s hf
        refine jast_i hx hb hK hC 10 0 (wM_e10 cI cC ad s913) rfl hi915 dM_number_106 ((wM_a9 cI cC ad s913 _ _).trans (congrArg (wM cI cC ad) e915.symm)) (fun H locs hC => ?_)
        refine lv_aload_n hx hb dM_number_107 rfl (lv_at hl 1 rfl) ?_
        refine va_get (D := (dC, dI)) (ci := 6) (v := .ref (ad 11)) (C := RcM) (T := TcM) (N := 43) hx hb ht in_cM hown hK hC.1 0 (wM_e0 cI cC ad s915) rfl 11 (by decide) (ht _ tw771) (fun _ h9 => h9) rfl dM_number_108 ?_
        refine lv_iload hx hb dM_number_111 (lv_at hl 0 rfl) ?_
        refine lv_aload_n hx hb dM_number_113 rfl (lv_at hl 1 rfl) ?_
        refine va_get (D := (dC, dI)) (ci := 6) (v := .ref (ad 27)) (C := RcM) (T := TcM) (N := 43) hx hb ht in_cM hown hK hC.1 0 (wM_e0 cI cC ad s915) rfl 35 (by decide) (ht _ tw795) (fun _ h9 => h9) rfl dM_number_114 ?_
        refine lv_iload_n hx hb dM_number_117 rfl (lv_at hl 4 rfl) ?_
        obtain ⟨hi916, hf⟩ := jC_in hf
        refine va_iald hx hb hK hC.1 27 0 (wM_e27 cI cC ad s915) rfl hi916 dM_number_118 ?_
        refine lv_if_ge (tgt := 126) hx hb dM_number_119 (by decide) (fun c917 => ?_) (fun c917 => ?_)
        · replace hf := jif_t c917 hf
          refine lv_aload_n hx hb dM_number_126 rfl (lv_at hl 1 rfl) ?_
          refine va_get (D := (dC, dI)) (ci := 6) (v := .ref (ad 28)) (C := RcM) (T := TcM) (N := 43) hx hb ht in_cM hown hK hC.1 0 (wM_e0 cI cC ad s915) rfl 36 (by decide) (ht _ tw796) (fun _ h9 => h9) rfl dM_number_127 ?_
          refine lv_aload_n hx hb dM_number_130 rfl (lv_at hl 1 rfl) ?_
          refine va_get (D := (dC, dI)) (ci := 6) (v := .ref (ad 27)) (C := RcM) (T := TcM) (N := 43) hx hb ht in_cM hown hK hC.1 0 (wM_e0 cI cC ad s915) rfl 35 (by decide) (ht _ tw795) (fun _ h9 => h9) rfl dM_number_131 ?_
          refine lv_iload_n hx hb dM_number_134 rfl (lv_at hl 4 rfl) ?_
          obtain ⟨hi918, hf⟩ := jC_in hf
          refine va_iald hx hb hK hC.1 27 0 (wM_e27 cI cC ad s915) rfl hi918 dM_number_135 ?_
          obtain ⟨hi919, hf⟩ := jC_in hf
          refine va_iald hx hb hK hC.1 28 0 (wM_e28 cI cC ad s915) rfl hi919 dM_number_136 ?_
          obtain ⟨hi920, hf⟩ := jC_in hf
          obtain ⟨s920, e920, hf⟩ := jL_s hf
          refine jast_i hx hb hK hC 11 0 (wM_e11 cI cC ad s915) rfl hi920 dM_number_137 ((wM_a10 cI cC ad s915 _ _).trans (congrArg (wM cI cC ad) e920.symm)) (fun H locs hC => ?_)
          refine lv_aload_n hx hb dM_number_138 rfl (lv_at hl 1 rfl) ?_
          refine va_get (D := (dC, dI)) (ci := 6) (v := .ref (ad 12)) (C := RcM) (T := TcM) (N := 43) hx hb ht in_cM hown hK hC.1 0 (wM_e0 cI cC ad s920) rfl 12 (by decide) (ht _ tw772) (fun _ h9 => h9) rfl dM_number_139 ?_
          refine lv_iload hx hb dM_number_142 (lv_at hl 0 rfl) ?_
          refine lv_iconst (v := 1) hx hb dM_number_144 (by decide) ?_
          obtain ⟨hi921, hf⟩ := jC_in hf
          obtain ⟨s921, e921, hf⟩ := jL_s hf
          refine jast_i hx hb hK hC 12 0 (wM_e12 cI cC ad s920) rfl hi921 dM_number_145 ((wM_a11 cI cC ad s920 _ _).trans (congrArg (wM cI cC ad) e921.symm)) (fun H locs hC => ?_)
          refine lv_iinc (k := 3) (v := (x2 + (1 : Int32))) (lv' := [(2, .int (x2 + (1 : Int32))), (4, .int (((400 : Int32) * x1) + x2)), (0, .ref (ad 0)), (1, .int x1), (3, .int x3)]) hx hb dM_number_146 hl rfl rfl (by decide) rfl (fun ls hl => ?_)
          refine lv_aload_n hx hb dM_number_149 rfl (lv_at hl 2 rfl) ?_
          refine lv_iload_n hx hb dM_number_150 rfl (lv_at hl 4 rfl) ?_
          obtain ⟨r922, s922, hc922, hf⟩ := jB_some hf
          refine jcall_i (va_runV (C := RcM) (As := [.int x3]) (rest := []) ⟨hx, hb, hml, hown, hts⟩ ((cM_following l dC dI cI cC cL sk sv ad N x3 s921 s922 r922 hc922) _) ⟨(callB_of 1 hts (tb_good tw759) rfl rfl rfl (ht _ tw14) (ht _ tw756) (by decide +kernel) ⟨Nat.le_of_ble_eq_true rfl, Nat.le_of_ble_eq_true rfl⟩), ht _ tw758, ht _ (tb_sel pv_M_following)⟩ (jpreV (jEn_ok sk sv) hC hA hK hN (wM_e0 cI cC ad s921) rfl rfl _) rfl rfl hl.1 rfl (lv_room (Nat.le_of_ble_eq_true rfl)) dM_number_151 ⟨Nat.le_refl _, Nat.le_refl _⟩) hC hA (fun H locs hC => ?_)
          refine lv_istore_n (lv' := [(3, .int r922), (2, .int (x2 + (1 : Int32))), (4, .int (((400 : Int32) * x1) + x2)), (0, .ref (ad 0)), (1, .int x1)]) hx hb dM_number_154 rfl hl (by decide) rfl (fun ls hl => ?_)
          refine lv_goto (tgt := 9) hx hb dM_number_155 (by decide) ?_
          exact ih9 x1 (x2 + (1 : Int32)) r922 s922 ls _ _ (lv_sub hl [3, 4, 1, 0] rfl) hC hf
        · replace hf := jif_f c917 hf
          refine lv_iconst (v := -1) hx hb dM_number_122 (by decide) ?_
          refine lv_goto (tgt := 137) hx hb dM_number_123 (by decide) ?_
          obtain ⟨hi923, hf⟩ := jC_in hf
          obtain ⟨s923, e923, hf⟩ := jL_s hf
          refine jast_i hx hb hK hC 11 0 (wM_e11 cI cC ad s915) rfl hi923 dM_number_137 ((wM_a10 cI cC ad s915 _ _).trans (congrArg (wM cI cC ad) e923.symm)) (fun H locs hC => ?_)
          refine lv_aload_n hx hb dM_number_138 rfl (lv_at hl 1 rfl) ?_
          refine va_get (D := (dC, dI)) (ci := 6) (v := .ref (ad 12)) (C := RcM) (T := TcM) (N := 43) hx hb ht in_cM hown hK hC.1 0 (wM_e0 cI cC ad s923) rfl 12 (by decide) (ht _ tw772) (fun _ h9 => h9) rfl dM_number_139 ?_
          refine lv_iload hx hb dM_number_142 (lv_at hl 0 rfl) ?_
          refine lv_iconst (v := 1) hx hb dM_number_144 (by decide) ?_
          obtain ⟨hi924, hf⟩ := jC_in hf
          obtain ⟨s924, e924, hf⟩ := jL_s hf
          refine jast_i hx hb hK hC 12 0 (wM_e12 cI cC ad s923) rfl hi924 dM_number_145 ((wM_a11 cI cC ad s923 _ _).trans (congrArg (wM cI cC ad) e924.symm)) (fun H locs hC => ?_)
          refine lv_iinc (k := 3) (v := (x2 + (1 : Int32))) (lv' := [(2, .int (x2 + (1 : Int32))), (4, .int (((400 : Int32) * x1) + x2)), (0, .ref (ad 0)), (1, .int x1), (3, .int x3)]) hx hb dM_number_146 hl rfl rfl (by decide) rfl (fun ls hl => ?_)
          refine lv_aload_n hx hb dM_number_149 rfl (lv_at hl 2 rfl) ?_
          refine lv_iload_n hx hb dM_number_150 rfl (lv_at hl 4 rfl) ?_
          obtain ⟨r925, s925, hc925, hf⟩ := jB_some hf
          refine jcall_i (va_runV (C := RcM) (As := [.int x3]) (rest := []) ⟨hx, hb, hml, hown, hts⟩ ((cM_following l dC dI cI cC cL sk sv ad N x3 s924 s925 r925 hc925) _) ⟨(callB_of 1 hts (tb_good tw759) rfl rfl rfl (ht _ tw14) (ht _ tw756) (by decide +kernel) ⟨Nat.le_of_ble_eq_true rfl, Nat.le_of_ble_eq_true rfl⟩), ht _ tw758, ht _ (tb_sel pv_M_following)⟩ (jpreV (jEn_ok sk sv) hC hA hK hN (wM_e0 cI cC ad s924) rfl rfl _) rfl rfl hl.1 rfl (lv_room (Nat.le_of_ble_eq_true rfl)) dM_number_151 ⟨Nat.le_refl _, Nat.le_refl _⟩) hC hA (fun H locs hC => ?_)
          refine lv_istore_n (lv' := [(3, .int r925), (2, .int (x2 + (1 : Int32))), (4, .int (((400 : Int32) * x1) + x2)), (0, .ref (ad 0)), (1, .int x1)]) hx hb dM_number_154 rfl hl (by decide) rfl (fun ls hl => ?_)
          refine lv_goto (tgt := 9) hx hb dM_number_155 (by decide) ?_
          exact ih9 x1 (x2 + (1 : Int32)) r925 s925 ls _ _ (lv_sub hl [3, 4, 1, 0] rfl) hC hf
  unfold fM_number at hf
  refine lv_iconst (v := 0) hx hb dM_number_0 (by decide) ?_
  refine lv_istore_n (lv' := [(2, .int (0 : Int32)), (0, .ref (ad 0)), (1, .int a0)]) hx hb dM_number_1 rfl hl (by decide) rfl (fun ls hl => ?_)
  refine lv_aload_n hx hb dM_number_2 rfl (lv_at hl 1 rfl) ?_
  refine va_get (D := (dC, dI)) (ci := 6) (v := .ref (ad 29)) (C := RcM) (T := TcM) (N := 43) hx hb ht in_cM hown hK hC.1 0 (wM_e0 cI cC ad z0) rfl 38 (by decide) (ht _ tw798) (fun _ h9 => h9) rfl dM_number_3 ?_
  refine lv_iconst (v := 0) hx hb dM_number_6 (by decide) ?_
  obtain ⟨hi1, hf⟩ := jC_in hf
  refine va_iald hx hb hK hC.1 29 0 (wM_e29 cI cC ad z0) rfl hi1 dM_number_7 ?_
  refine lv_istore_n (lv' := [(3, .int (jgA z0 28 ((0 : Int32)).toNatClampNeg)), (2, .int (0 : Int32)), (0, .ref (ad 0)), (1, .int a0)]) hx hb dM_number_8 rfl hl (by decide) rfl (fun ls hl => ?_)
  exact L9 N a0 (0 : Int32) (jgA z0 28 ((0 : Int32)).toNatClampNeg) z0 ls _ _ (lv_sub hl [2, 3, 1, 0] rfl) hC hf
