def fT_close (N : Nat) (a0 : Int32) (z0 : jS) : Option (Int32 × jS) := (jB (fT_has N a0 z0) fun r1 s1 => (if r1 = 0 then some (0, s1) else (if jIn a0 363 = true then (jL (jsA s1 5 (a0).toNatClampNeg (jgI s1 3 - a0)) fun s3 => some (0, s3)) else none)))
set_option maxHeartbeats 4000000 in
set_option maxRecDepth 100000 in
theorem cT_close (l : Launch) (dC : Nat → ClassId) (dI : Nat → Nat → Nat) (cI cC cL : ClassId) (sk sv : Nat → Nat) (ad : Nat → Nat) (N : Nat) (a0 : Int32) (z0 z1 : jS) (r : Int32) (hf : fT_close N a0 z0 = some (r, z1)) : Cv l yT_close (Cond.code yT_close prog_6_method_7_code 2 none :: TB) ({ frames := 1, cells := 0, slots := 0, locals := 21 }) (dC, dI) vwCl [(cI, .int), (cC, .char), (cL, .object "SharedSyntax$Letters")] (jEn sk sv) [.ref (ad 1), .int a0] (wR cI cC ad z0) (wR cI cC ad z1) := by
  refine Cv_of (cc := prog_6_method_7_code) (maxL := 2) (ret := none) (by decide) rfl (Nat.le_of_ble_eq_true rfl) ?_
  intro p e s m below meth c ls F hl hK hN hC
  obtain ⟨hx, hb, hml, hown, hts, hr, hlk⟩ := F
  have ht : ∀ w ∈ TB, w.before [.ref (ad 1), .int a0].toArray s = true := fun w h => hts w (List.mem_cons_of_mem _ h)
  have hA : ∀ q, s.heap.size ≤ q → va_A (wR cI cC ad z0) s.heap.size q := fun q h => Or.inr h
  have hl : lv_has ls 2 [(0, .ref (ad 1)), (1, .int a0)] := hl
  unfold fT_close at hf
  refine lv_aload_n hx hb dT_close_0 rfl (lv_at hl 0 rfl) ?_
  refine lv_iload_n hx hb dT_close_1 rfl (lv_at hl 1 rfl) ?_
  obtain ⟨r1, s1, hc1, hf⟩ := jB_some hf
  refine jcall_i (va_runV (C := RcT) (As := [.int a0]) (rest := []) ⟨hx, hb, hml, hown, hts⟩ ((cT_has l dC dI cI cC cL sk sv ad N a0 z0 s1 r1 hc1) _) ⟨(callB_of 1 hts (tb_good tw363) rfl rfl rfl (ht _ tw4) (ht _ tw360) (by decide +kernel) ⟨Nat.le_of_ble_eq_true rfl, Nat.le_of_ble_eq_true rfl⟩), ht _ tw361, ht _ tw362⟩ (jpreV (jEn_ok sk sv) hC hA hK hN (wR_e1 cI cC ad z0) rfl rfl _) rfl rfl hl.1 rfl (lv_room (Nat.le_of_ble_eq_true rfl)) dT_close_2 ⟨Nat.le_refl _, Nat.le_refl _⟩) hC hA (fun H locs hC => ?_)
  refine lv_if_eq (tgt := 20) hx hb dT_close_5 (by decide) (fun c2 => ?_) (fun c2 => ?_)
  · replace hf := jif_t c2 hf
    cases hf
    exact jret_v hx hb hr hlk hC hK dT_close_20
  · replace hf := jif_f c2 hf
    refine lv_aload_n hx hb dT_close_8 rfl (lv_at hl 0 rfl) ?_
    refine va_get (D := (dC, dI)) (ci := 2) (v := .ref (ad 9)) (C := RcT) (T := TcT) (N := 9) hx hb ht in_cT hown hK hC.1 1 (wR_e1 cI cC ad s1) rfl 2 (by decide) (ht _ tw55) (fun _ h9 => h9) rfl dT_close_9 ?_
    refine lv_iload_n hx hb dT_close_12 rfl (lv_at hl 1 rfl) ?_
    refine lv_aload_n hx hb dT_close_13 rfl (lv_at hl 0 rfl) ?_
    refine va_get (D := (dC, dI)) (ci := 2) (v := .int (jgI s1 3)) (C := RcT) (T := TcT) (N := 9) hx hb ht in_cT hown hK hC.1 1 (wR_e1 cI cC ad s1) rfl 7 (by decide) (ht _ tw63) (fun _ h9 => h9) rfl dT_close_14 ?_
    refine lv_iload_n hx hb dT_close_17 rfl (lv_at hl 1 rfl) ?_
    refine lv_isub hx hb dT_close_18 ?_
    obtain ⟨hi3, hf⟩ := jC_in hf
    obtain ⟨s3, e3, hf⟩ := jL_s hf
    refine jast_i hx hb hK hC 9 0 (wR_e9 cI cC ad s1) rfl hi3 dT_close_19 ((wR_a5 cI cC ad s1 _ _).trans (congrArg (wR cI cC ad) e3.symm)) (fun H locs hC => ?_)
    cases hf
    exact jret_v hx hb hr hlk hC hK dT_close_20

def fR_closeSigns_b3 (N : Nat) (k3 : Int32 → Int32 → Int32 → jS → Option (Int32 × jS)) (x1 x2 x4 : Int32) (s0 : jS) : Option (Int32 × jS) := (if jgI s0 7 ≤ x1 then some (x4, s0) else (if jgI s0 7 ≤ 0 then some (x4, s0) else (if jIn (jgI s0 7 - (1 : Int32)) 60 = true then (if jgA s0 13 ((jgI s0 7 - (1 : Int32))).toNatClampNeg < x2 then some (x4, s0) else (jL (jsI s0 7 (jgI s0 7 - (1 : Int32))) fun s305 => (if jIn (jgI s305 7) 60 = true then (jB (fT_close N (jgA s305 12 (jgI s305 7).toNatClampNeg) s305) fun r307 s307 => k3 x1 x2 (jgA s305 12 (jgI s305 7).toNatClampNeg) s307) else none))) else none)))
def fR_closeSigns_3 (N : Nat) : Nat → Int32 → Int32 → Int32 → jS → Option (Int32 × jS)
  | 0 => fun _ _ _ _ => none
  | n + 1 => fun x1 x2 x4 s0 => fR_closeSigns_b3 N (fR_closeSigns_3 N n) x1 x2 x4 s0
def fR_closeSigns (N : Nat) (a0 a1 a2 : Int32) (z0 : jS) : Option (Int32 × jS) := fR_closeSigns_3 N N a0 a1 a2 z0
set_option maxHeartbeats 4000000 in
set_option maxRecDepth 100000 in
theorem cR_closeSigns (l : Launch) (dC : Nat → ClassId) (dI : Nat → Nat → Nat) (cI cC cL : ClassId) (sk sv : Nat → Nat) (ad : Nat → Nat) (N : Nat) (a0 a1 a2 : Int32) (z0 z1 : jS) (r : Int32) (hf : fR_closeSigns N a0 a1 a2 z0 = some (r, z1)) : Ci l yR_closeSigns (Cond.code yR_closeSigns prog_4_method_21_code 5 (some .int) :: TB) ({ frames := 2, cells := 0, slots := 0, locals := 42 }) (dC, dI) vwCl [(cI, .int), (cC, .char), (cL, .object "SharedSyntax$Letters")] (jEn sk sv) [.ref (ad 0), .int a0, .int a1, .int a2] (wR cI cC ad z0) (wR cI cC ad z1) r := by
  refine Ci_of (cc := prog_4_method_21_code) (maxL := 5) (ret := (some .int)) (by decide) rfl (Nat.le_of_ble_eq_true rfl) ?_
  intro p e s m below meth c ls F hl hK hN hC
  obtain ⟨hx, hb, hml, hown, hts, hr, hlk⟩ := F
  have ht : ∀ w ∈ TB, w.before [.ref (ad 0), .int a0, .int a1, .int a2].toArray s = true := fun w h => hts w (List.mem_cons_of_mem _ h)
  have hA : ∀ q, s.heap.size ≤ q → va_A (wR cI cC ad z0) s.heap.size q := fun q h => Or.inr h
  have hl : lv_has ls 5 [(0, .ref (ad 0)), (1, .int a0), (2, .int a1), (3, .int a2)] := hl
  have L3 : ∀ (n : Nat) (x1 x2 x4 : Int32) (s0 : jS) (ls : Array Slot) (H : Heap) (locs : List Loc), lv_has ls 5 [(0, .ref (ad 0)), (1, .int x1), (2, .int x2), (4, .int x4)] → jcx (dC, dI) vwCl (va_A (wR cI cC ad z0) s.heap.size) s.heap (wR cI cC ad s0) H locs → fR_closeSigns_3 N n x1 x2 x4 s0 = some (r, z1) → W p l e ({ frames := 2, cells := 0, slots := 0, locals := 42 }) s m [.ref (ad 0), .int a0, .int a1, .int a2].toArray below meth c H locs 0 0 (MQ below (jQi (dC, dI) vwCl [(cI, .int), (cC, .char), (cL, .object "SharedSyntax$Letters")] (wR cI cC ad z0) (wR cI cC ad z1) s.heap.size r) [.ref (ad 0), .int a0, .int a1, .int a2].toArray s 0 0 (va_A (wR cI cC ad z0) s.heap.size)) (F0 m 3 ls []) := by
    intro n
    induction n with
    | zero => exact fun _ _ _ _ _ _ _ _ _ hf => nomatch hf
    | succ n ih3 =>
      intro x1 x2 x4 s0 ls H locs hl hC hf
      replace hf : fR_closeSigns_b3 N (fR_closeSigns_3 N n) x1 x2 x4 s0 = some (r, z1) := hf
      generalize fR_closeSigns_3 N n = k3 at ih3 hf
      unfold fR_closeSigns_b3 at hf
      refine lv_aload_n hx hb dR_closeSigns_3 rfl (lv_at hl 0 rfl) ?_
      refine va_get (D := (dC, dI)) (ci := 3) (v := .int (jgI s0 7)) (C := RcR) (T := TcR) (N := 10) hx hb ht in_cR hown hK hC.1 0 (wR_e0 cI cC ad s0) rfl 9 (by decide) (ht _ tw123) (fun _ h9 => h9) rfl dR_closeSigns_4 ?_
      refine lv_iload_n hx hb dR_closeSigns_7 rfl (lv_at hl 1 rfl) ?_
      refine lv_icmp_le (tgt := 66) hx hb dR_closeSigns_8 (by decide) (fun c301 => ?_) (fun c301 => ?_)
      · replace hf := jif_t c301 hf
        refine lv_iload hx hb dR_closeSigns_66 (lv_at hl 3 rfl) ?_
        cases hf
        exact jret_i hx hb hr hlk hC hK dR_closeSigns_68
      · replace hf := jif_f c301 hf
        refine lv_aload_n hx hb dR_closeSigns_11 rfl (lv_at hl 0 rfl) ?_
        refine va_get (D := (dC, dI)) (ci := 3) (v := .int (jgI s0 7)) (C := RcR) (T := TcR) (N := 10) hx hb ht in_cR hown hK hC.1 0 (wR_e0 cI cC ad s0) rfl 9 (by decide) (ht _ tw123) (fun _ h9 => h9) rfl dR_closeSigns_12 ?_
        refine lv_if_le (tgt := 66) hx hb dR_closeSigns_15 (by decide) (fun c302 => ?_) (fun c302 => ?_)
        · replace hf := jif_t c302 hf
          refine lv_iload hx hb dR_closeSigns_66 (lv_at hl 3 rfl) ?_
          cases hf
          exact jret_i hx hb hr hlk hC hK dR_closeSigns_68
        · replace hf := jif_f c302 hf
          refine lv_aload_n hx hb dR_closeSigns_18 rfl (lv_at hl 0 rfl) ?_
          refine va_get (D := (dC, dI)) (ci := 3) (v := .ref (ad 17)) (C := RcR) (T := TcR) (N := 10) hx hb ht in_cR hown hK hC.1 0 (wR_e0 cI cC ad s0) rfl 8 (by decide) (ht _ tw122) (fun _ h9 => h9) rfl dR_closeSigns_19 ?_
          refine lv_aload_n hx hb dR_closeSigns_22 rfl (lv_at hl 0 rfl) ?_
          refine va_get (D := (dC, dI)) (ci := 3) (v := .int (jgI s0 7)) (C := RcR) (T := TcR) (N := 10) hx hb ht in_cR hown hK hC.1 0 (wR_e0 cI cC ad s0) rfl 9 (by decide) (ht _ tw123) (fun _ h9 => h9) rfl dR_closeSigns_23 ?_
          refine lv_iconst (v := 1) hx hb dR_closeSigns_26 (by decide) ?_
          refine lv_isub hx hb dR_closeSigns_27 ?_
          obtain ⟨hi303, hf⟩ := jC_in hf
          refine va_iald hx hb hK hC.1 17 0 (wR_e17 cI cC ad s0) rfl hi303 dR_closeSigns_28 ?_
          refine lv_iload_n hx hb dR_closeSigns_29 rfl (lv_at hl 2 rfl) ?_
          refine lv_icmp_lt (tgt := 66) hx hb dR_closeSigns_30 (by decide) (fun c304 => ?_) (fun c304 => ?_)
          · replace hf := jif_t c304 hf
            refine lv_iload hx hb dR_closeSigns_66 (lv_at hl 3 rfl) ?_
            cases hf
            exact jret_i hx hb hr hlk hC hK dR_closeSigns_68
          · replace hf := jif_f c304 hf
            refine lv_aload_n hx hb dR_closeSigns_33 rfl (lv_at hl 0 rfl) ?_
            refine lv_dup hx hb dR_closeSigns_34 rfl ?_
            refine va_get (D := (dC, dI)) (ci := 3) (v := .int (jgI s0 7)) (C := RcR) (T := TcR) (N := 10) hx hb ht in_cR hown hK hC.1 0 (wR_e0 cI cC ad s0) rfl 9 (by decide) (ht _ tw123) (fun _ h9 => h9) rfl dR_closeSigns_35 ?_
            refine lv_iconst (v := 1) hx hb dR_closeSigns_38 (by decide) ?_
            refine lv_isub hx hb dR_closeSigns_39 ?_
            obtain ⟨s305, e305, hf⟩ := jL_s hf
            refine jput (ci := 3) (C := RcR) (T := TcR) (N := 10) hx hb ht in_cR tycR tycR_ok nmcR hown hK hC 0 (wR_e0 cI cC ad s0) rfl 9 (by decide) (ht _ tw123) (fun _ h9 => h9) rfl rfl (Nat.le_of_ble_eq_true rfl) dR_closeSigns_40 ((wR_p7 cI cC ad s0 _).trans (congrArg (wR cI cC ad) e305.symm)) (fun H locs hC => ?_)
            refine lv_aload_n hx hb dR_closeSigns_43 rfl (lv_at hl 0 rfl) ?_
            refine va_get (D := (dC, dI)) (ci := 3) (v := .ref (ad 16)) (C := RcR) (T := TcR) (N := 10) hx hb ht in_cR hown hK hC.1 0 (wR_e0 cI cC ad s305) rfl 7 (by decide) (ht _ tw121) (fun _ h9 => h9) rfl dR_closeSigns_44 ?_
            refine lv_aload_n hx hb dR_closeSigns_47 rfl (lv_at hl 0 rfl) ?_
            refine va_get (D := (dC, dI)) (ci := 3) (v := .int (jgI s305 7)) (C := RcR) (T := TcR) (N := 10) hx hb ht in_cR hown hK hC.1 0 (wR_e0 cI cC ad s305) rfl 9 (by decide) (ht _ tw123) (fun _ h9 => h9) rfl dR_closeSigns_48 ?_
            obtain ⟨hi306, hf⟩ := jC_in hf
            refine va_iald hx hb hK hC.1 16 0 (wR_e16 cI cC ad s305) rfl hi306 dR_closeSigns_51 ?_
            refine lv_istore (lv' := [(4, .int (jgA s305 12 (jgI s305 7).toNatClampNeg)), (0, .ref (ad 0)), (1, .int x1), (2, .int x2)]) hx hb dR_closeSigns_52 hl (by decide) rfl (fun ls hl => ?_)
            refine lv_aload_n hx hb dR_closeSigns_54 rfl (lv_at hl 1 rfl) ?_
            refine va_get (D := (dC, dI)) (ci := 3) (v := .ref (ad 1)) (C := RcR) (T := TcR) (N := 10) hx hb ht in_cR hown hK hC.1 0 (wR_e0 cI cC ad s305) rfl 1 (by decide) (ht _ tw114) (fun _ h9 => h9) rfl dR_closeSigns_55 ?_
            refine lv_iload hx hb dR_closeSigns_58 (lv_at hl 0 rfl) ?_
            obtain ⟨r307, s307, hc307, hf⟩ := jB_some hf
            refine jcall_v (va_runV (C := RcT) (As := [.int (jgA s305 12 (jgI s305 7).toNatClampNeg)]) (rest := []) ⟨hx, hb, hml, hown, hts⟩ ((cT_close l dC dI cI cC cL sk sv ad N (jgA s305 12 (jgI s305 7).toNatClampNeg) s305 s307 r307 hc307) _) ⟨(callB_of 1 hts (tb_good tw359) rfl rfl rfl (ht _ tw4) (ht _ tw356) (by decide +kernel) ⟨Nat.le_of_ble_eq_true rfl, Nat.le_of_ble_eq_true rfl⟩), ht _ tw357, ht _ tw358⟩ (jpreV (jEn_ok sk sv) hC hA hK hN (wR_e1 cI cC ad s305) rfl rfl _) rfl rfl hl.1 rfl (lv_room (Nat.le_of_ble_eq_true rfl)) dR_closeSigns_60 ⟨Nat.le_refl _, Nat.le_refl _⟩) hC hA (fun H locs hC => ?_)
            refine lv_goto (tgt := 3) hx hb dR_closeSigns_63 (by decide) ?_
            exact ih3 x1 x2 (jgA s305 12 (jgI s305 7).toNatClampNeg) s307 ls _ _ (lv_sub hl [1, 2, 3, 0] rfl) hC hf
  unfold fR_closeSigns at hf
  refine lv_iload_n hx hb dR_closeSigns_0 rfl (lv_at hl 3 rfl) ?_
  refine lv_istore (lv' := [(4, .int a2), (0, .ref (ad 0)), (1, .int a0), (2, .int a1), (3, .int a2)]) hx hb dR_closeSigns_1 hl (by decide) rfl (fun ls hl => ?_)
  exact L3 N a0 a1 a2 z0 ls _ _ (lv_sub hl [1, 2, 3, 0] rfl) hC hf

def fT_shift_a4 (N : Nat) (a1 : Int32) (z0 : jS) : Option (Int32 × jS) := (if jCp a1 (a1 + (1 : Int32)) (jgI z0 3 - a1) 363 = true then (jL (jsF z0 4 (va_cpy (jgA z0 4) (jgA z0 4) (a1).toNatClampNeg ((a1 + (1 : Int32))).toNatClampNeg ((jgI z0 3 - a1)).toNatClampNeg)) fun s1 => some (0, s1)) else none)
set_option maxHeartbeats 4000000 in
set_option maxRecDepth 100000 in
theorem cT_shift_a4 (l : Launch) (dC : Nat → ClassId) (dI : Nat → Nat → Nat) (cI cC cL : ClassId) (sk sv : Nat → Nat) (ad : Nat → Nat) (N : Nat) (a1 : Int32) (z0 z1 : jS) (r : Int32) (hf : fT_shift_a4 N a1 z0 = some (r, z1)) : Cv l yT_shift (Cond.code yT_shift prog_6_method_6_code 3 none :: TB) ({ frames := 1, cells := 0, slots := 0, locals := 60 }) (dC, dI) vwCl [(cI, .int), (cC, .char), (cL, .object "SharedSyntax$Letters")] (jEn sk sv) [.ref (ad 1), .ref (ad 8), .int a1] (wR cI cC ad z0) (wR cI cC ad z1) := by
  refine Cv_of (cc := prog_6_method_6_code) (maxL := 3) (ret := none) (by decide) rfl (Nat.le_of_ble_eq_true rfl) ?_
  intro p e s m below meth c ls F hl hK hN hC
  obtain ⟨hx, hb, hml, hown, hts, hr, hlk⟩ := F
  have ht : ∀ w ∈ TB, w.before [.ref (ad 1), .ref (ad 8), .int a1].toArray s = true := fun w h => hts w (List.mem_cons_of_mem _ h)
  have hA : ∀ q, s.heap.size ≤ q → va_A (wR cI cC ad z0) s.heap.size q := fun q h => Or.inr h
  have hl : lv_has ls 3 [(0, .ref (ad 1)), (1, .ref (ad 8)), (2, .int a1)] := hl
  unfold fT_shift_a4 at hf
  refine lv_aload_n hx hb dT_shift_0 rfl (lv_at hl 1 rfl) ?_
  refine lv_iload_n hx hb dT_shift_1 rfl (lv_at hl 2 rfl) ?_
  refine lv_aload_n hx hb dT_shift_2 rfl (lv_at hl 1 rfl) ?_
  refine lv_iload_n hx hb dT_shift_3 rfl (lv_at hl 2 rfl) ?_
  refine lv_iconst (v := 1) hx hb dT_shift_4 (by decide) ?_
  refine lv_iadd hx hb dT_shift_5 ?_
  refine lv_aload_n hx hb dT_shift_6 rfl (lv_at hl 0 rfl) ?_
  refine va_get (D := (dC, dI)) (ci := 2) (v := .int (jgI z0 3)) (C := RcT) (T := TcT) (N := 9) hx hb ht in_cT hown hK hC.1 1 (wR_e1 cI cC ad z0) rfl 7 (by decide) (ht _ tw63) (fun _ h9 => h9) rfl dT_shift_7 ?_
  refine lv_iload_n hx hb dT_shift_10 rfl (lv_at hl 2 rfl) ?_
  refine lv_isub hx hb dT_shift_11 ?_
  obtain ⟨hq1, hf⟩ := jC_b hf
  obtain ⟨s1, ee1, hf⟩ := jL_s hf
  obtain ⟨e1, e2, e3, e4, e5⟩ := jCp_s hq1
  refine jcopy hx hb (by rw [hml]; exact hl.1.symm) hown (ht _ tw415) (ht _ tw417) (ht _ tw416) (ht _ tw12) hK hC 8 0 (wR_e8 cI cC ad z0) rfl e1 e2 e3 e4 e5 (Nat.le_of_ble_eq_true rfl) (Nat.le_of_ble_eq_true rfl) dT_shift_12 ((wR_f4 cI cC ad z0 _).trans (congrArg (wR cI cC ad) ee1.symm)) (fun H locs hC => ?_)
  cases hf
  exact jret_v hx hb hr hlk hC hK dT_shift_15

def fT_shift_a5 (N : Nat) (a1 : Int32) (z0 : jS) : Option (Int32 × jS) := (if jCp a1 (a1 + (1 : Int32)) (jgI z0 3 - a1) 363 = true then (jL (jsF z0 5 (va_cpy (jgA z0 5) (jgA z0 5) (a1).toNatClampNeg ((a1 + (1 : Int32))).toNatClampNeg ((jgI z0 3 - a1)).toNatClampNeg)) fun s1 => some (0, s1)) else none)
set_option maxHeartbeats 4000000 in
set_option maxRecDepth 100000 in
theorem cT_shift_a5 (l : Launch) (dC : Nat → ClassId) (dI : Nat → Nat → Nat) (cI cC cL : ClassId) (sk sv : Nat → Nat) (ad : Nat → Nat) (N : Nat) (a1 : Int32) (z0 z1 : jS) (r : Int32) (hf : fT_shift_a5 N a1 z0 = some (r, z1)) : Cv l yT_shift (Cond.code yT_shift prog_6_method_6_code 3 none :: TB) ({ frames := 1, cells := 0, slots := 0, locals := 60 }) (dC, dI) vwCl [(cI, .int), (cC, .char), (cL, .object "SharedSyntax$Letters")] (jEn sk sv) [.ref (ad 1), .ref (ad 9), .int a1] (wR cI cC ad z0) (wR cI cC ad z1) := by
  refine Cv_of (cc := prog_6_method_6_code) (maxL := 3) (ret := none) (by decide) rfl (Nat.le_of_ble_eq_true rfl) ?_
  intro p e s m below meth c ls F hl hK hN hC
  obtain ⟨hx, hb, hml, hown, hts, hr, hlk⟩ := F
  have ht : ∀ w ∈ TB, w.before [.ref (ad 1), .ref (ad 9), .int a1].toArray s = true := fun w h => hts w (List.mem_cons_of_mem _ h)
  have hA : ∀ q, s.heap.size ≤ q → va_A (wR cI cC ad z0) s.heap.size q := fun q h => Or.inr h
  have hl : lv_has ls 3 [(0, .ref (ad 1)), (1, .ref (ad 9)), (2, .int a1)] := hl
  unfold fT_shift_a5 at hf
  refine lv_aload_n hx hb dT_shift_0 rfl (lv_at hl 1 rfl) ?_
  refine lv_iload_n hx hb dT_shift_1 rfl (lv_at hl 2 rfl) ?_
  refine lv_aload_n hx hb dT_shift_2 rfl (lv_at hl 1 rfl) ?_
  refine lv_iload_n hx hb dT_shift_3 rfl (lv_at hl 2 rfl) ?_
  refine lv_iconst (v := 1) hx hb dT_shift_4 (by decide) ?_
  refine lv_iadd hx hb dT_shift_5 ?_
  refine lv_aload_n hx hb dT_shift_6 rfl (lv_at hl 0 rfl) ?_
  refine va_get (D := (dC, dI)) (ci := 2) (v := .int (jgI z0 3)) (C := RcT) (T := TcT) (N := 9) hx hb ht in_cT hown hK hC.1 1 (wR_e1 cI cC ad z0) rfl 7 (by decide) (ht _ tw63) (fun _ h9 => h9) rfl dT_shift_7 ?_
  refine lv_iload_n hx hb dT_shift_10 rfl (lv_at hl 2 rfl) ?_
  refine lv_isub hx hb dT_shift_11 ?_
  obtain ⟨hq1, hf⟩ := jC_b hf
  obtain ⟨s1, ee1, hf⟩ := jL_s hf
  obtain ⟨e1, e2, e3, e4, e5⟩ := jCp_s hq1
  refine jcopy hx hb (by rw [hml]; exact hl.1.symm) hown (ht _ tw415) (ht _ tw417) (ht _ tw416) (ht _ tw12) hK hC 9 0 (wR_e9 cI cC ad z0) rfl e1 e2 e3 e4 e5 (Nat.le_of_ble_eq_true rfl) (Nat.le_of_ble_eq_true rfl) dT_shift_12 ((wR_f5 cI cC ad z0 _).trans (congrArg (wR cI cC ad) ee1.symm)) (fun H locs hC => ?_)
  cases hf
  exact jret_v hx hb hr hlk hC hK dT_shift_15

def fT_shift_a6 (N : Nat) (a1 : Int32) (z0 : jS) : Option (Int32 × jS) := (if jCp a1 (a1 + (1 : Int32)) (jgI z0 3 - a1) 363 = true then (jL (jsF z0 6 (va_cpy (jgA z0 6) (jgA z0 6) (a1).toNatClampNeg ((a1 + (1 : Int32))).toNatClampNeg ((jgI z0 3 - a1)).toNatClampNeg)) fun s1 => some (0, s1)) else none)
set_option maxHeartbeats 4000000 in
set_option maxRecDepth 100000 in
theorem cT_shift_a6 (l : Launch) (dC : Nat → ClassId) (dI : Nat → Nat → Nat) (cI cC cL : ClassId) (sk sv : Nat → Nat) (ad : Nat → Nat) (N : Nat) (a1 : Int32) (z0 z1 : jS) (r : Int32) (hf : fT_shift_a6 N a1 z0 = some (r, z1)) : Cv l yT_shift (Cond.code yT_shift prog_6_method_6_code 3 none :: TB) ({ frames := 1, cells := 0, slots := 0, locals := 60 }) (dC, dI) vwCl [(cI, .int), (cC, .char), (cL, .object "SharedSyntax$Letters")] (jEn sk sv) [.ref (ad 1), .ref (ad 10), .int a1] (wR cI cC ad z0) (wR cI cC ad z1) := by
  refine Cv_of (cc := prog_6_method_6_code) (maxL := 3) (ret := none) (by decide) rfl (Nat.le_of_ble_eq_true rfl) ?_
  intro p e s m below meth c ls F hl hK hN hC
  obtain ⟨hx, hb, hml, hown, hts, hr, hlk⟩ := F
  have ht : ∀ w ∈ TB, w.before [.ref (ad 1), .ref (ad 10), .int a1].toArray s = true := fun w h => hts w (List.mem_cons_of_mem _ h)
  have hA : ∀ q, s.heap.size ≤ q → va_A (wR cI cC ad z0) s.heap.size q := fun q h => Or.inr h
  have hl : lv_has ls 3 [(0, .ref (ad 1)), (1, .ref (ad 10)), (2, .int a1)] := hl
  unfold fT_shift_a6 at hf
  refine lv_aload_n hx hb dT_shift_0 rfl (lv_at hl 1 rfl) ?_
  refine lv_iload_n hx hb dT_shift_1 rfl (lv_at hl 2 rfl) ?_
  refine lv_aload_n hx hb dT_shift_2 rfl (lv_at hl 1 rfl) ?_
  refine lv_iload_n hx hb dT_shift_3 rfl (lv_at hl 2 rfl) ?_
  refine lv_iconst (v := 1) hx hb dT_shift_4 (by decide) ?_
  refine lv_iadd hx hb dT_shift_5 ?_
  refine lv_aload_n hx hb dT_shift_6 rfl (lv_at hl 0 rfl) ?_
  refine va_get (D := (dC, dI)) (ci := 2) (v := .int (jgI z0 3)) (C := RcT) (T := TcT) (N := 9) hx hb ht in_cT hown hK hC.1 1 (wR_e1 cI cC ad z0) rfl 7 (by decide) (ht _ tw63) (fun _ h9 => h9) rfl dT_shift_7 ?_
  refine lv_iload_n hx hb dT_shift_10 rfl (lv_at hl 2 rfl) ?_
  refine lv_isub hx hb dT_shift_11 ?_
  obtain ⟨hq1, hf⟩ := jC_b hf
  obtain ⟨s1, ee1, hf⟩ := jL_s hf
  obtain ⟨e1, e2, e3, e4, e5⟩ := jCp_s hq1
  refine jcopy hx hb (by rw [hml]; exact hl.1.symm) hown (ht _ tw415) (ht _ tw417) (ht _ tw416) (ht _ tw12) hK hC 10 0 (wR_e10 cI cC ad z0) rfl e1 e2 e3 e4 e5 (Nat.le_of_ble_eq_true rfl) (Nat.le_of_ble_eq_true rfl) dT_shift_12 ((wR_f6 cI cC ad z0 _).trans (congrArg (wR cI cC ad) ee1.symm)) (fun H locs hC => ?_)
  cases hf
  exact jret_v hx hb hr hlk hC hK dT_shift_15

def fT_shift_a7 (N : Nat) (a1 : Int32) (z0 : jS) : Option (Int32 × jS) := (if jCp a1 (a1 + (1 : Int32)) (jgI z0 3 - a1) 363 = true then (jL (jsF z0 7 (va_cpy (jgA z0 7) (jgA z0 7) (a1).toNatClampNeg ((a1 + (1 : Int32))).toNatClampNeg ((jgI z0 3 - a1)).toNatClampNeg)) fun s1 => some (0, s1)) else none)
set_option maxHeartbeats 4000000 in
set_option maxRecDepth 100000 in
theorem cT_shift_a7 (l : Launch) (dC : Nat → ClassId) (dI : Nat → Nat → Nat) (cI cC cL : ClassId) (sk sv : Nat → Nat) (ad : Nat → Nat) (N : Nat) (a1 : Int32) (z0 z1 : jS) (r : Int32) (hf : fT_shift_a7 N a1 z0 = some (r, z1)) : Cv l yT_shift (Cond.code yT_shift prog_6_method_6_code 3 none :: TB) ({ frames := 1, cells := 0, slots := 0, locals := 60 }) (dC, dI) vwCl [(cI, .int), (cC, .char), (cL, .object "SharedSyntax$Letters")] (jEn sk sv) [.ref (ad 1), .ref (ad 11), .int a1] (wR cI cC ad z0) (wR cI cC ad z1) := by
  refine Cv_of (cc := prog_6_method_6_code) (maxL := 3) (ret := none) (by decide) rfl (Nat.le_of_ble_eq_true rfl) ?_
  intro p e s m below meth c ls F hl hK hN hC
  obtain ⟨hx, hb, hml, hown, hts, hr, hlk⟩ := F
  have ht : ∀ w ∈ TB, w.before [.ref (ad 1), .ref (ad 11), .int a1].toArray s = true := fun w h => hts w (List.mem_cons_of_mem _ h)
  have hA : ∀ q, s.heap.size ≤ q → va_A (wR cI cC ad z0) s.heap.size q := fun q h => Or.inr h
  have hl : lv_has ls 3 [(0, .ref (ad 1)), (1, .ref (ad 11)), (2, .int a1)] := hl
  unfold fT_shift_a7 at hf
  refine lv_aload_n hx hb dT_shift_0 rfl (lv_at hl 1 rfl) ?_
  refine lv_iload_n hx hb dT_shift_1 rfl (lv_at hl 2 rfl) ?_
  refine lv_aload_n hx hb dT_shift_2 rfl (lv_at hl 1 rfl) ?_
  refine lv_iload_n hx hb dT_shift_3 rfl (lv_at hl 2 rfl) ?_
  refine lv_iconst (v := 1) hx hb dT_shift_4 (by decide) ?_
  refine lv_iadd hx hb dT_shift_5 ?_
  refine lv_aload_n hx hb dT_shift_6 rfl (lv_at hl 0 rfl) ?_
  refine va_get (D := (dC, dI)) (ci := 2) (v := .int (jgI z0 3)) (C := RcT) (T := TcT) (N := 9) hx hb ht in_cT hown hK hC.1 1 (wR_e1 cI cC ad z0) rfl 7 (by decide) (ht _ tw63) (fun _ h9 => h9) rfl dT_shift_7 ?_
  refine lv_iload_n hx hb dT_shift_10 rfl (lv_at hl 2 rfl) ?_
  refine lv_isub hx hb dT_shift_11 ?_
  obtain ⟨hq1, hf⟩ := jC_b hf
  obtain ⟨s1, ee1, hf⟩ := jL_s hf
  obtain ⟨e1, e2, e3, e4, e5⟩ := jCp_s hq1
  refine jcopy hx hb (by rw [hml]; exact hl.1.symm) hown (ht _ tw415) (ht _ tw417) (ht _ tw416) (ht _ tw12) hK hC 11 0 (wR_e11 cI cC ad z0) rfl e1 e2 e3 e4 e5 (Nat.le_of_ble_eq_true rfl) (Nat.le_of_ble_eq_true rfl) dT_shift_12 ((wR_f7 cI cC ad z0 _).trans (congrArg (wR cI cC ad) ee1.symm)) (fun H locs hC => ?_)
  cases hf
  exact jret_v hx hb hr hlk hC hK dT_shift_15

def fT_shift_a8 (N : Nat) (a1 : Int32) (z0 : jS) : Option (Int32 × jS) := (if jCp a1 (a1 + (1 : Int32)) (jgI z0 3 - a1) 363 = true then (jL (jsF z0 8 (va_cpy (jgA z0 8) (jgA z0 8) (a1).toNatClampNeg ((a1 + (1 : Int32))).toNatClampNeg ((jgI z0 3 - a1)).toNatClampNeg)) fun s1 => some (0, s1)) else none)
set_option maxHeartbeats 4000000 in
set_option maxRecDepth 100000 in
theorem cT_shift_a8 (l : Launch) (dC : Nat → ClassId) (dI : Nat → Nat → Nat) (cI cC cL : ClassId) (sk sv : Nat → Nat) (ad : Nat → Nat) (N : Nat) (a1 : Int32) (z0 z1 : jS) (r : Int32) (hf : fT_shift_a8 N a1 z0 = some (r, z1)) : Cv l yT_shift (Cond.code yT_shift prog_6_method_6_code 3 none :: TB) ({ frames := 1, cells := 0, slots := 0, locals := 60 }) (dC, dI) vwCl [(cI, .int), (cC, .char), (cL, .object "SharedSyntax$Letters")] (jEn sk sv) [.ref (ad 1), .ref (ad 12), .int a1] (wR cI cC ad z0) (wR cI cC ad z1) := by
  refine Cv_of (cc := prog_6_method_6_code) (maxL := 3) (ret := none) (by decide) rfl (Nat.le_of_ble_eq_true rfl) ?_
  intro p e s m below meth c ls F hl hK hN hC
  obtain ⟨hx, hb, hml, hown, hts, hr, hlk⟩ := F
  have ht : ∀ w ∈ TB, w.before [.ref (ad 1), .ref (ad 12), .int a1].toArray s = true := fun w h => hts w (List.mem_cons_of_mem _ h)
  have hA : ∀ q, s.heap.size ≤ q → va_A (wR cI cC ad z0) s.heap.size q := fun q h => Or.inr h
  have hl : lv_has ls 3 [(0, .ref (ad 1)), (1, .ref (ad 12)), (2, .int a1)] := hl
  unfold fT_shift_a8 at hf
  refine lv_aload_n hx hb dT_shift_0 rfl (lv_at hl 1 rfl) ?_
  refine lv_iload_n hx hb dT_shift_1 rfl (lv_at hl 2 rfl) ?_
  refine lv_aload_n hx hb dT_shift_2 rfl (lv_at hl 1 rfl) ?_
  refine lv_iload_n hx hb dT_shift_3 rfl (lv_at hl 2 rfl) ?_
  refine lv_iconst (v := 1) hx hb dT_shift_4 (by decide) ?_
  refine lv_iadd hx hb dT_shift_5 ?_
  refine lv_aload_n hx hb dT_shift_6 rfl (lv_at hl 0 rfl) ?_
  refine va_get (D := (dC, dI)) (ci := 2) (v := .int (jgI z0 3)) (C := RcT) (T := TcT) (N := 9) hx hb ht in_cT hown hK hC.1 1 (wR_e1 cI cC ad z0) rfl 7 (by decide) (ht _ tw63) (fun _ h9 => h9) rfl dT_shift_7 ?_
  refine lv_iload_n hx hb dT_shift_10 rfl (lv_at hl 2 rfl) ?_
  refine lv_isub hx hb dT_shift_11 ?_
  obtain ⟨hq1, hf⟩ := jC_b hf
  obtain ⟨s1, ee1, hf⟩ := jL_s hf
  obtain ⟨e1, e2, e3, e4, e5⟩ := jCp_s hq1
  refine jcopy hx hb (by rw [hml]; exact hl.1.symm) hown (ht _ tw415) (ht _ tw417) (ht _ tw416) (ht _ tw12) hK hC 12 0 (wR_e12 cI cC ad z0) rfl e1 e2 e3 e4 e5 (Nat.le_of_ble_eq_true rfl) (Nat.le_of_ble_eq_true rfl) dT_shift_12 ((wR_f8 cI cC ad z0 _).trans (congrArg (wR cI cC ad) ee1.symm)) (fun H locs hC => ?_)
  cases hf
  exact jret_v hx hb hr hlk hC hK dT_shift_15

def fT_wrap (N : Nat) (a0 a1 : Int32) (z0 : jS) : Option (Int32 × jS) := (jB (fT_has N a0 z0) fun r1 s1 => (if r1 = 0 then some (0, s1) else (if jgI s1 3 < (362 : Int32) then (jB (fT_shift_a4 N a0 s1) fun r4 s4 => (jB (fT_shift_a5 N a0 s4) fun r5 s5 => (jB (fT_shift_a6 N a0 s5) fun r6 s6 => (jB (fT_shift_a7 N a0 s6) fun r7 s7 => (jB (fT_shift_a8 N a0 s7) fun r8 s8 => (jL (jsI s8 3 (jgI s8 3 + (1 : Int32))) fun s9 => (if jIn a0 363 = true then (jL (jsA s9 4 (a0).toNatClampNeg a1) fun s10 => some (0, s10)) else none))))))) else some (0, s1))))
set_option maxHeartbeats 4000000 in
set_option maxRecDepth 100000 in
theorem cT_wrap (l : Launch) (dC : Nat → ClassId) (dI : Nat → Nat → Nat) (cI cC cL : ClassId) (sk sv : Nat → Nat) (ad : Nat → Nat) (N : Nat) (a0 a1 : Int32) (z0 z1 : jS) (r : Int32) (hf : fT_wrap N a0 a1 z0 = some (r, z1)) : Cv l yT_wrap (Cond.code yT_wrap prog_6_method_5_code 3 none :: TB) ({ frames := 2, cells := 0, slots := 0, locals := 82 }) (dC, dI) vwCl [(cI, .int), (cC, .char), (cL, .object "SharedSyntax$Letters")] (jEn sk sv) [.ref (ad 1), .int a0, .int a1] (wR cI cC ad z0) (wR cI cC ad z1) := by
  refine Cv_of (cc := prog_6_method_5_code) (maxL := 3) (ret := none) (by decide) rfl (Nat.le_of_ble_eq_true rfl) ?_
  intro p e s m below meth c ls F hl hK hN hC
  obtain ⟨hx, hb, hml, hown, hts, hr, hlk⟩ := F
  have ht : ∀ w ∈ TB, w.before [.ref (ad 1), .int a0, .int a1].toArray s = true := fun w h => hts w (List.mem_cons_of_mem _ h)
  have hA : ∀ q, s.heap.size ≤ q → va_A (wR cI cC ad z0) s.heap.size q := fun q h => Or.inr h
  have hl : lv_has ls 3 [(0, .ref (ad 1)), (1, .int a0), (2, .int a1)] := hl
  unfold fT_wrap at hf
  refine lv_aload_n hx hb dT_wrap_0 rfl (lv_at hl 0 rfl) ?_
  refine lv_iload_n hx hb dT_wrap_1 rfl (lv_at hl 1 rfl) ?_
  obtain ⟨r1, s1, hc1, hf⟩ := jB_some hf
  refine jcall_i (va_runV (C := RcT) (As := [.int a0]) (rest := []) ⟨hx, hb, hml, hown, hts⟩ ((cT_has l dC dI cI cC cL sk sv ad N a0 z0 s1 r1 hc1) _) ⟨(callB_of 1 hts (tb_good tw363) rfl rfl rfl (ht _ tw4) (ht _ tw360) (by decide +kernel) ⟨Nat.le_of_ble_eq_true rfl, Nat.le_of_ble_eq_true rfl⟩), ht _ tw361, ht _ tw362⟩ (jpreV (jEn_ok sk sv) hC hA hK hN (wR_e1 cI cC ad z0) rfl rfl _) rfl rfl hl.1 rfl (lv_room (Nat.le_of_ble_eq_true rfl)) dT_wrap_2 ⟨Nat.le_refl _, Nat.le_refl _⟩) hC hA (fun H locs hC => ?_)
  refine lv_if_eq (tgt := 18) hx hb dT_wrap_5 (by decide) (fun c2 => ?_) (fun c2 => ?_)
  · replace hf := jif_t c2 hf
    cases hf
    exact jret_v hx hb hr hlk hC hK dT_wrap_18
  · replace hf := jif_f c2 hf
    refine lv_aload_n hx hb dT_wrap_8 rfl (lv_at hl 0 rfl) ?_
    refine va_get (D := (dC, dI)) (ci := 2) (v := .int (jgI s1 3)) (C := RcT) (T := TcT) (N := 9) hx hb ht in_cT hown hK hC.1 1 (wR_e1 cI cC ad s1) rfl 7 (by decide) (ht _ tw63) (fun _ h9 => h9) rfl dT_wrap_9 ?_
    refine lv_sipush (v := 362) hx hb dT_wrap_12 (by decide) ?_
    refine lv_icmp_lt (tgt := 19) hx hb dT_wrap_15 (by decide) (fun c3 => ?_) (fun c3 => ?_)
    · replace hf := jif_t c3 hf
      refine lv_aload_n hx hb dT_wrap_19 rfl (lv_at hl 0 rfl) ?_
      refine lv_aload_n hx hb dT_wrap_20 rfl (lv_at hl 0 rfl) ?_
      refine va_get (D := (dC, dI)) (ci := 2) (v := .ref (ad 8)) (C := RcT) (T := TcT) (N := 9) hx hb ht in_cT hown hK hC.1 1 (wR_e1 cI cC ad s1) rfl 1 (by decide) (ht _ tw53) (fun _ h9 => h9) rfl dT_wrap_21 ?_
      refine lv_iload_n hx hb dT_wrap_24 rfl (lv_at hl 1 rfl) ?_
      obtain ⟨r4, s4, hc4, hf⟩ := jB_some hf
      refine jcall_v (va_runV (C := RcT) (As := [.ref (ad 8), .int a0]) (rest := []) ⟨hx, hb, hml, hown, hts⟩ ((cT_shift_a4 l dC dI cI cC cL sk sv ad N a0 s1 s4 r4 hc4) _) ⟨(callB_of 2 hts (tb_good tw414) rfl rfl rfl (ht _ tw4) (ht _ tw411) (by decide +kernel) ⟨Nat.le_of_ble_eq_true rfl, Nat.le_of_ble_eq_true rfl⟩), ht _ tw413, ht _ (tb_sel pv_T_shift)⟩ (jpreV (jEn_ok sk sv) hC hA hK hN (wR_e1 cI cC ad s1) rfl rfl _) rfl rfl hl.1 rfl (lv_room (Nat.le_of_ble_eq_true rfl)) dT_wrap_25 ⟨Nat.le_refl _, Nat.le_refl _⟩) hC hA (fun H locs hC => ?_)
      refine lv_aload_n hx hb dT_wrap_28 rfl (lv_at hl 0 rfl) ?_
      refine lv_aload_n hx hb dT_wrap_29 rfl (lv_at hl 0 rfl) ?_
      refine va_get (D := (dC, dI)) (ci := 2) (v := .ref (ad 9)) (C := RcT) (T := TcT) (N := 9) hx hb ht in_cT hown hK hC.1 1 (wR_e1 cI cC ad s4) rfl 2 (by decide) (ht _ tw55) (fun _ h9 => h9) rfl dT_wrap_30 ?_
      refine lv_iload_n hx hb dT_wrap_33 rfl (lv_at hl 1 rfl) ?_
      obtain ⟨r5, s5, hc5, hf⟩ := jB_some hf
      refine jcall_v (va_runV (C := RcT) (As := [.ref (ad 9), .int a0]) (rest := []) ⟨hx, hb, hml, hown, hts⟩ ((cT_shift_a5 l dC dI cI cC cL sk sv ad N a0 s4 s5 r5 hc5) _) ⟨(callB_of 2 hts (tb_good tw414) rfl rfl rfl (ht _ tw4) (ht _ tw411) (by decide +kernel) ⟨Nat.le_of_ble_eq_true rfl, Nat.le_of_ble_eq_true rfl⟩), ht _ tw413, ht _ (tb_sel pv_T_shift)⟩ (jpreV (jEn_ok sk sv) hC hA hK hN (wR_e1 cI cC ad s4) rfl rfl _) rfl rfl hl.1 rfl (lv_room (Nat.le_of_ble_eq_true rfl)) dT_wrap_34 ⟨Nat.le_refl _, Nat.le_refl _⟩) hC hA (fun H locs hC => ?_)
      refine lv_aload_n hx hb dT_wrap_37 rfl (lv_at hl 0 rfl) ?_
      refine lv_aload_n hx hb dT_wrap_38 rfl (lv_at hl 0 rfl) ?_
      refine va_get (D := (dC, dI)) (ci := 2) (v := .ref (ad 10)) (C := RcT) (T := TcT) (N := 9) hx hb ht in_cT hown hK hC.1 1 (wR_e1 cI cC ad s5) rfl 3 (by decide) (ht _ tw57) (fun _ h9 => h9) rfl dT_wrap_39 ?_
      refine lv_iload_n hx hb dT_wrap_42 rfl (lv_at hl 1 rfl) ?_
      obtain ⟨r6, s6, hc6, hf⟩ := jB_some hf
      refine jcall_v (va_runV (C := RcT) (As := [.ref (ad 10), .int a0]) (rest := []) ⟨hx, hb, hml, hown, hts⟩ ((cT_shift_a6 l dC dI cI cC cL sk sv ad N a0 s5 s6 r6 hc6) _) ⟨(callB_of 2 hts (tb_good tw414) rfl rfl rfl (ht _ tw4) (ht _ tw411) (by decide +kernel) ⟨Nat.le_of_ble_eq_true rfl, Nat.le_of_ble_eq_true rfl⟩), ht _ tw413, ht _ (tb_sel pv_T_shift)⟩ (jpreV (jEn_ok sk sv) hC hA hK hN (wR_e1 cI cC ad s5) rfl rfl _) rfl rfl hl.1 rfl (lv_room (Nat.le_of_ble_eq_true rfl)) dT_wrap_43 ⟨Nat.le_refl _, Nat.le_refl _⟩) hC hA (fun H locs hC => ?_)
      refine lv_aload_n hx hb dT_wrap_46 rfl (lv_at hl 0 rfl) ?_
      refine lv_aload_n hx hb dT_wrap_47 rfl (lv_at hl 0 rfl) ?_
      refine va_get (D := (dC, dI)) (ci := 2) (v := .ref (ad 11)) (C := RcT) (T := TcT) (N := 9) hx hb ht in_cT hown hK hC.1 1 (wR_e1 cI cC ad s6) rfl 4 (by decide) (ht _ tw59) (fun _ h9 => h9) rfl dT_wrap_48 ?_
      refine lv_iload_n hx hb dT_wrap_51 rfl (lv_at hl 1 rfl) ?_
      obtain ⟨r7, s7, hc7, hf⟩ := jB_some hf
      refine jcall_v (va_runV (C := RcT) (As := [.ref (ad 11), .int a0]) (rest := []) ⟨hx, hb, hml, hown, hts⟩ ((cT_shift_a7 l dC dI cI cC cL sk sv ad N a0 s6 s7 r7 hc7) _) ⟨(callB_of 2 hts (tb_good tw414) rfl rfl rfl (ht _ tw4) (ht _ tw411) (by decide +kernel) ⟨Nat.le_of_ble_eq_true rfl, Nat.le_of_ble_eq_true rfl⟩), ht _ tw413, ht _ (tb_sel pv_T_shift)⟩ (jpreV (jEn_ok sk sv) hC hA hK hN (wR_e1 cI cC ad s6) rfl rfl _) rfl rfl hl.1 rfl (lv_room (Nat.le_of_ble_eq_true rfl)) dT_wrap_52 ⟨Nat.le_refl _, Nat.le_refl _⟩) hC hA (fun H locs hC => ?_)
      refine lv_aload_n hx hb dT_wrap_55 rfl (lv_at hl 0 rfl) ?_
      refine lv_aload_n hx hb dT_wrap_56 rfl (lv_at hl 0 rfl) ?_
      refine va_get (D := (dC, dI)) (ci := 2) (v := .ref (ad 12)) (C := RcT) (T := TcT) (N := 9) hx hb ht in_cT hown hK hC.1 1 (wR_e1 cI cC ad s7) rfl 5 (by decide) (ht _ tw60) (fun _ h9 => h9) rfl dT_wrap_57 ?_
      refine lv_iload_n hx hb dT_wrap_60 rfl (lv_at hl 1 rfl) ?_
      obtain ⟨r8, s8, hc8, hf⟩ := jB_some hf
      refine jcall_v (va_runV (C := RcT) (As := [.ref (ad 12), .int a0]) (rest := []) ⟨hx, hb, hml, hown, hts⟩ ((cT_shift_a8 l dC dI cI cC cL sk sv ad N a0 s7 s8 r8 hc8) _) ⟨(callB_of 2 hts (tb_good tw414) rfl rfl rfl (ht _ tw4) (ht _ tw411) (by decide +kernel) ⟨Nat.le_of_ble_eq_true rfl, Nat.le_of_ble_eq_true rfl⟩), ht _ tw413, ht _ (tb_sel pv_T_shift)⟩ (jpreV (jEn_ok sk sv) hC hA hK hN (wR_e1 cI cC ad s7) rfl rfl _) rfl rfl hl.1 rfl (lv_room (Nat.le_of_ble_eq_true rfl)) dT_wrap_61 ⟨Nat.le_refl _, Nat.le_refl _⟩) hC hA (fun H locs hC => ?_)
      refine lv_aload_n hx hb dT_wrap_64 rfl (lv_at hl 0 rfl) ?_
      refine lv_dup hx hb dT_wrap_65 rfl ?_
      refine va_get (D := (dC, dI)) (ci := 2) (v := .int (jgI s8 3)) (C := RcT) (T := TcT) (N := 9) hx hb ht in_cT hown hK hC.1 1 (wR_e1 cI cC ad s8) rfl 7 (by decide) (ht _ tw63) (fun _ h9 => h9) rfl dT_wrap_66 ?_
      refine lv_iconst (v := 1) hx hb dT_wrap_69 (by decide) ?_
      refine lv_iadd hx hb dT_wrap_70 ?_
      obtain ⟨s9, e9, hf⟩ := jL_s hf
      refine jput (ci := 2) (C := RcT) (T := TcT) (N := 9) hx hb ht in_cT tycT tycT_ok nmcT hown hK hC 1 (wR_e1 cI cC ad s8) rfl 7 (by decide) (ht _ tw63) (fun _ h9 => h9) rfl rfl (Nat.le_of_ble_eq_true rfl) dT_wrap_71 ((wR_p3 cI cC ad s8 _).trans (congrArg (wR cI cC ad) e9.symm)) (fun H locs hC => ?_)
      refine lv_aload_n hx hb dT_wrap_74 rfl (lv_at hl 0 rfl) ?_
      refine va_get (D := (dC, dI)) (ci := 2) (v := .ref (ad 8)) (C := RcT) (T := TcT) (N := 9) hx hb ht in_cT hown hK hC.1 1 (wR_e1 cI cC ad s9) rfl 1 (by decide) (ht _ tw53) (fun _ h9 => h9) rfl dT_wrap_75 ?_
      refine lv_iload_n hx hb dT_wrap_78 rfl (lv_at hl 1 rfl) ?_
      refine lv_iload_n hx hb dT_wrap_79 rfl (lv_at hl 2 rfl) ?_
      obtain ⟨hi10, hf⟩ := jC_in hf
      obtain ⟨s10, e10, hf⟩ := jL_s hf
      refine jast_i hx hb hK hC 8 0 (wR_e8 cI cC ad s9) rfl hi10 dT_wrap_80 ((wR_a4 cI cC ad s9 _ _).trans (congrArg (wR cI cC ad) e10.symm)) (fun H locs hC => ?_)
      cases hf
      exact jret_v hx hb hr hlk hC hK dT_wrap_81
    · replace hf := jif_f c3 hf
      cases hf
      exact jret_v hx hb hr hlk hC hK dT_wrap_18

def fR_openSign (N : Nat) (a0 a1 : Int32) (z0 : jS) : Option (Int32 × jS) := (if (60 : Int32) ≤ jgI z0 7 then some (0, z0) else (if jIn (jgI z0 7) 60 = true then (jL (jsA z0 12 (jgI z0 7).toNatClampNeg a0) fun s2 => (if jIn (jgI s2 7) 60 = true then (jL (jsA s2 13 (jgI s2 7).toNatClampNeg a1) fun s3 => (jL (jsI s3 7 (jgI s3 7 + (1 : Int32))) fun s4 => some (0, s4))) else none)) else none))
set_option maxHeartbeats 4000000 in
set_option maxRecDepth 100000 in
theorem cR_openSign (l : Launch) (dC : Nat → ClassId) (dI : Nat → Nat → Nat) (cI cC cL : ClassId) (sk sv : Nat → Nat) (ad : Nat → Nat) (N : Nat) (a0 a1 : Int32) (z0 z1 : jS) (r : Int32) (hf : fR_openSign N a0 a1 z0 = some (r, z1)) : Cv l yR_openSign (Cond.code yR_openSign prog_4_method_22_code 3 none :: TB) ({ frames := 0, cells := 0, slots := 0, locals := 0 }) (dC, dI) vwCl [(cI, .int), (cC, .char), (cL, .object "SharedSyntax$Letters")] (jEn sk sv) [.ref (ad 0), .int a0, .int a1] (wR cI cC ad z0) (wR cI cC ad z1) := by
  refine Cv_of (cc := prog_4_method_22_code) (maxL := 3) (ret := none) (by decide) rfl (Nat.le_of_ble_eq_true rfl) ?_
  intro p e s m below meth c ls F hl hK hN hC
  obtain ⟨hx, hb, hml, hown, hts, hr, hlk⟩ := F
  have ht : ∀ w ∈ TB, w.before [.ref (ad 0), .int a0, .int a1].toArray s = true := fun w h => hts w (List.mem_cons_of_mem _ h)
  have hA : ∀ q, s.heap.size ≤ q → va_A (wR cI cC ad z0) s.heap.size q := fun q h => Or.inr h
  have hl : lv_has ls 3 [(0, .ref (ad 0)), (1, .int a0), (2, .int a1)] := hl
  unfold fR_openSign at hf
  refine lv_aload_n hx hb dR_openSign_0 rfl (lv_at hl 0 rfl) ?_
  refine va_get (D := (dC, dI)) (ci := 3) (v := .int (jgI z0 7)) (C := RcR) (T := TcR) (N := 10) hx hb ht in_cR hown hK hC.1 0 (wR_e0 cI cC ad z0) rfl 9 (by decide) (ht _ tw123) (fun _ h9 => h9) rfl dR_openSign_1 ?_
  refine lv_bipush (v := 60) hx hb dR_openSign_4 (by decide) ?_
  refine lv_icmp_ge (tgt := 39) hx hb dR_openSign_6 (by decide) (fun c1 => ?_) (fun c1 => ?_)
  · replace hf := jif_t c1 hf
    cases hf
    exact jret_v hx hb hr hlk hC hK dR_openSign_39
  · replace hf := jif_f c1 hf
    refine lv_aload_n hx hb dR_openSign_9 rfl (lv_at hl 0 rfl) ?_
    refine va_get (D := (dC, dI)) (ci := 3) (v := .ref (ad 16)) (C := RcR) (T := TcR) (N := 10) hx hb ht in_cR hown hK hC.1 0 (wR_e0 cI cC ad z0) rfl 7 (by decide) (ht _ tw121) (fun _ h9 => h9) rfl dR_openSign_10 ?_
    refine lv_aload_n hx hb dR_openSign_13 rfl (lv_at hl 0 rfl) ?_
    refine va_get (D := (dC, dI)) (ci := 3) (v := .int (jgI z0 7)) (C := RcR) (T := TcR) (N := 10) hx hb ht in_cR hown hK hC.1 0 (wR_e0 cI cC ad z0) rfl 9 (by decide) (ht _ tw123) (fun _ h9 => h9) rfl dR_openSign_14 ?_
    refine lv_iload_n hx hb dR_openSign_17 rfl (lv_at hl 1 rfl) ?_
    obtain ⟨hi2, hf⟩ := jC_in hf
    obtain ⟨s2, e2, hf⟩ := jL_s hf
    refine jast_i hx hb hK hC 16 0 (wR_e16 cI cC ad z0) rfl hi2 dR_openSign_18 ((wR_a12 cI cC ad z0 _ _).trans (congrArg (wR cI cC ad) e2.symm)) (fun H locs hC => ?_)
    refine lv_aload_n hx hb dR_openSign_19 rfl (lv_at hl 0 rfl) ?_
    refine va_get (D := (dC, dI)) (ci := 3) (v := .ref (ad 17)) (C := RcR) (T := TcR) (N := 10) hx hb ht in_cR hown hK hC.1 0 (wR_e0 cI cC ad s2) rfl 8 (by decide) (ht _ tw122) (fun _ h9 => h9) rfl dR_openSign_20 ?_
    refine lv_aload_n hx hb dR_openSign_23 rfl (lv_at hl 0 rfl) ?_
    refine va_get (D := (dC, dI)) (ci := 3) (v := .int (jgI s2 7)) (C := RcR) (T := TcR) (N := 10) hx hb ht in_cR hown hK hC.1 0 (wR_e0 cI cC ad s2) rfl 9 (by decide) (ht _ tw123) (fun _ h9 => h9) rfl dR_openSign_24 ?_
    refine lv_iload_n hx hb dR_openSign_27 rfl (lv_at hl 2 rfl) ?_
    obtain ⟨hi3, hf⟩ := jC_in hf
    obtain ⟨s3, e3, hf⟩ := jL_s hf
    refine jast_i hx hb hK hC 17 0 (wR_e17 cI cC ad s2) rfl hi3 dR_openSign_28 ((wR_a13 cI cC ad s2 _ _).trans (congrArg (wR cI cC ad) e3.symm)) (fun H locs hC => ?_)
    refine lv_aload_n hx hb dR_openSign_29 rfl (lv_at hl 0 rfl) ?_
    refine lv_dup hx hb dR_openSign_30 rfl ?_
    refine va_get (D := (dC, dI)) (ci := 3) (v := .int (jgI s3 7)) (C := RcR) (T := TcR) (N := 10) hx hb ht in_cR hown hK hC.1 0 (wR_e0 cI cC ad s3) rfl 9 (by decide) (ht _ tw123) (fun _ h9 => h9) rfl dR_openSign_31 ?_
    refine lv_iconst (v := 1) hx hb dR_openSign_34 (by decide) ?_
    refine lv_iadd hx hb dR_openSign_35 ?_
    obtain ⟨s4, e4, hf⟩ := jL_s hf
    refine jput (ci := 3) (C := RcR) (T := TcR) (N := 10) hx hb ht in_cR tycR tycR_ok nmcR hown hK hC 0 (wR_e0 cI cC ad s3) rfl 9 (by decide) (ht _ tw123) (fun _ h9 => h9) rfl rfl (Nat.le_of_ble_eq_true rfl) dR_openSign_36 ((wR_p7 cI cC ad s3 _).trans (congrArg (wR cI cC ad) e4.symm)) (fun H locs hC => ?_)
    cases hf
    exact jret_v hx hb hr hlk hC hK dR_openSign_39

def fR_bindingOf (N : Nat) (a0 : Int32) (z0 : jS) : Option (Int32 × jS) := (if a0 = (11 : Int32) then some ((3 : Int32), z0) else (if a0 = (12 : Int32) then some ((3 : Int32), z0) else (if a0 = (13 : Int32) then some ((4 : Int32), z0) else (if a0 = (14 : Int32) then some ((2 : Int32), z0) else (if a0 = (15 : Int32) then some ((1 : Int32), z0) else some ((0 : Int32), z0))))))
set_option maxHeartbeats 4000000 in
set_option maxRecDepth 100000 in
theorem cR_bindingOf (l : Launch) (dC : Nat → ClassId) (dI : Nat → Nat → Nat) (cI cC cL : ClassId) (sk sv : Nat → Nat) (ad : Nat → Nat) (N : Nat) (a0 : Int32) (z0 z1 : jS) (r : Int32) (hf : fR_bindingOf N a0 z0 = some (r, z1)) : Ci l yR_bindingOf (Cond.code yR_bindingOf prog_4_method_23_code 1 (some .int) :: TB) ({ frames := 0, cells := 0, slots := 0, locals := 0 }) (dC, dI) vwCl [(cI, .int), (cC, .char), (cL, .object "SharedSyntax$Letters")] (jEn sk sv) [.int a0] (wR cI cC ad z0) (wR cI cC ad z1) r := by
  refine Ci_of (cc := prog_4_method_23_code) (maxL := 1) (ret := (some .int)) (by decide) rfl (Nat.le_of_ble_eq_true rfl) ?_
  intro p e s m below meth c ls F hl hK hN hC
  obtain ⟨hx, hb, hml, hown, hts, hr, hlk⟩ := F
  have ht : ∀ w ∈ TB, w.before [.int a0].toArray s = true := fun w h => hts w (List.mem_cons_of_mem _ h)
  have hA : ∀ q, s.heap.size ≤ q → va_A (wR cI cC ad z0) s.heap.size q := fun q h => Or.inr h
  have hl : lv_has ls 1 [(0, .int a0)] := hl
  unfold fR_bindingOf at hf
  refine lv_iload_n hx hb dR_bindingOf_0 rfl (lv_at hl 0 rfl) ?_
  by_cases w11 : a0 = (11 : Int32)
  · replace hf := jif_t w11 hf
    refine lv_tableIn (tgt := 40) hx hb dR_bindingOf_1 (by rw [w11]; decide) (by rw [w11]; decide) (by rw [w11]; rfl) (by decide) ?_
    refine lv_iconst (v := 3) hx hb dR_bindingOf_40 (by decide) ?_
    cases hf
    exact jret_i hx hb hr hlk hC hK dR_bindingOf_41
  · replace hf := jif_f w11 hf
    by_cases w12 : a0 = (12 : Int32)
    · replace hf := jif_t w12 hf
      refine lv_tableIn (tgt := 42) hx hb dR_bindingOf_1 (by rw [w12]; decide) (by rw [w12]; decide) (by rw [w12]; rfl) (by decide) ?_
      refine lv_iconst (v := 3) hx hb dR_bindingOf_42 (by decide) ?_
      cases hf
      exact jret_i hx hb hr hlk hC hK dR_bindingOf_43
    · replace hf := jif_f w12 hf
      by_cases w13 : a0 = (13 : Int32)
      · replace hf := jif_t w13 hf
        refine lv_tableIn (tgt := 44) hx hb dR_bindingOf_1 (by rw [w13]; decide) (by rw [w13]; decide) (by rw [w13]; rfl) (by decide) ?_
        refine lv_iconst (v := 4) hx hb dR_bindingOf_44 (by decide) ?_
        cases hf
        exact jret_i hx hb hr hlk hC hK dR_bindingOf_45
      · replace hf := jif_f w13 hf
        by_cases w14 : a0 = (14 : Int32)
        · replace hf := jif_t w14 hf
          refine lv_tableIn (tgt := 38) hx hb dR_bindingOf_1 (by rw [w14]; decide) (by rw [w14]; decide) (by rw [w14]; rfl) (by decide) ?_
          refine lv_iconst (v := 2) hx hb dR_bindingOf_38 (by decide) ?_
          cases hf
          exact jret_i hx hb hr hlk hC hK dR_bindingOf_39
        · replace hf := jif_f w14 hf
          by_cases w15 : a0 = (15 : Int32)
          · replace hf := jif_t w15 hf
            refine lv_tableIn (tgt := 36) hx hb dR_bindingOf_1 (by rw [w15]; decide) (by rw [w15]; decide) (by rw [w15]; rfl) (by decide) ?_
            refine lv_iconst (v := 1) hx hb dR_bindingOf_36 (by decide) ?_
            cases hf
            exact jret_i hx hb hr hlk hC hK dR_bindingOf_37
          · replace hf := jif_f w15 hf
            refine lv_tableOut (tgt := 46) hx hb dR_bindingOf_1 (by have e11 := lv_neT (a := 11) w11 (by decide); have e12 := lv_neT (a := 12) w12 (by decide); have e13 := lv_neT (a := 13) w13 (by decide); have e14 := lv_neT (a := 14) w14 (by decide); have e15 := lv_neT (a := 15) w15 (by decide); omega) (by decide) ?_
            refine lv_iconst (v := 0) hx hb dR_bindingOf_46 (by decide) ?_
            cases hf
            exact jret_i hx hb hr hlk hC hK dR_bindingOf_47

def fR_expression_74 (N : Nat) (k21 : Int32 → Int32 → Int32 → Int32 → jS → Option (Int32 × jS)) (g : Nat → Int32 → jS → Option (Int32 × jS)) (x1 x2 x3 x4 x5 y0 : Int32) (s0 : jS) : Option (Int32 × jS) := (jB (fR_closeSigns N x2 y0 x3 s0) fun r7401 s7401 => (jB (fT_wrap N r7401 (26 : Int32) s7401) fun r7402 s7402 => (jB (fR_openSign N r7401 x5 s7402) fun r7403 s7403 => (jB (fR_take N s7403) fun r7404 s7404 => (jB (g 1 x1 s7404) fun r7405 s7405 => k21 x1 x2 (jgI s7404 3) (x4 + (1 : Int32)) s7405)))))
def fR_expression_125 (N : Nat) (g : Nat → Int32 → jS → Option (Int32 × jS)) (x2 x3 : Int32) (s0 : jS) : Option (Int32 × jS) := (jB (fR_closeSigns N x2 (0 : Int32) x3 s0) fun r12501 s12501 => some (0, s12501))
def fR_expression_b21 (N : Nat) (k21 : Int32 → Int32 → Int32 → Int32 → jS → Option (Int32 × jS)) (g : Nat → Int32 → jS → Option (Int32 × jS)) (x1 x2 x3 x4 : Int32) (s0 : jS) : Option (Int32 × jS) := (if (60 : Int32) ≤ x4 then fR_expression_125 N g x2 x3 s0 else (jB (fK_kind N s0) fun r2102 s2102 => (jB (fR_bindingOf N r2102 s2102) fun r2103 s2103 => (if r2103 ≤ 0 then fR_expression_125 N g x2 x3 s2103 else (jB (fK_kind N s2103) fun r2105 s2105 => (jB (fR_bindingOf N r2105 s2105) fun r2106 s2106 => (jB (fK_kind N s2106) fun r2107 s2107 => (if r2107 = (15 : Int32) then fR_expression_74 N k21 g x1 x2 x3 x4 r2106 (r2106 + (1 : Int32)) s2107 else fR_expression_74 N k21 g x1 x2 x3 x4 r2106 r2106 s2107))))))))
def fR_expression_21 (N : Nat) : Nat → (Nat → Int32 → jS → Option (Int32 × jS)) → Int32 → Int32 → Int32 → Int32 → jS → Option (Int32 × jS)
  | 0 => fun _ _ _ _ _ _ => none
  | n + 1 => fun g x1 x2 x3 x4 s0 => fR_expression_b21 N (fR_expression_21 N n g) g x1 x2 x3 x4 s0
def fR_expression (N : Nat) (g : Nat → Int32 → jS → Option (Int32 × jS)) (a0 : Int32) (z0 : jS) : Option (Int32 × jS) := (jB (g 1 a0 z0) fun r1 s1 => fR_expression_21 N N g a0 (jgI z0 7) (jgI z0 3) (0 : Int32) s1)
set_option maxHeartbeats 4000000 in
set_option maxRecDepth 100000 in
theorem cR_expression (l : Launch) (dC : Nat → ClassId) (dI : Nat → Nat → Nat) (cI cC cL : ClassId) (sk sv : Nat → Nat) (ad : Nat → Nat) (N : Nat) (g : Nat → Int32 → jS → Option (Int32 × jS)) (d : Nat) (hg0 : ∀ (a : Int32) (s : jS) (r : Int32) (s1 : jS), g 0 a s = some (r, s1) → Cv l yR_expression (Cond.code yR_expression prog_4_method_20_code 7 none :: TB) ({ frames := 3 + d, cells := 0, slots := 0, locals := 104 + d * 40 }) (dC, dI) vwCl [(cI, .int), (cC, .char), (cL, .object "SharedSyntax$Letters")] (jEn sk sv) [.ref (ad 0), .int a] (wR cI cC ad s) (wR cI cC ad s1)) (hg1 : ∀ (a : Int32) (s : jS) (r : Int32) (s1 : jS), g 1 a s = some (r, s1) → Cv l yR_operand (Cond.code yR_operand prog_4_method_24_code 4 none :: TB) ({ frames := 3 + d, cells := 0, slots := 0, locals := 104 + d * 40 }) (dC, dI) vwCl [(cI, .int), (cC, .char), (cL, .object "SharedSyntax$Letters")] (jEn sk sv) [.ref (ad 0), .int a] (wR cI cC ad s) (wR cI cC ad s1)) (hg2 : ∀ (a : Int32) (s : jS) (r : Int32) (s1 : jS), g 2 a s = some (r, s1) → Cv l yR_parentheses (Cond.code yR_parentheses prog_4_method_25_code 3 none :: TB) ({ frames := 3 + d, cells := 0, slots := 0, locals := 104 + d * 40 }) (dC, dI) vwCl [(cI, .int), (cC, .char), (cL, .object "SharedSyntax$Letters")] (jEn sk sv) [.ref (ad 0), .int a] (wR cI cC ad s) (wR cI cC ad s1)) (hg3 : ∀ (a : Int32) (s : jS) (r : Int32) (s1 : jS), g 3 a s = some (r, s1) → Cv l yR_negative (Cond.code yR_negative prog_4_method_26_code 3 none :: TB) ({ frames := 3 + d, cells := 0, slots := 0, locals := 104 + d * 40 }) (dC, dI) vwCl [(cI, .int), (cC, .char), (cL, .object "SharedSyntax$Letters")] (jEn sk sv) [.ref (ad 0), .int a] (wR cI cC ad s) (wR cI cC ad s1)) (a0 : Int32) (z0 z1 : jS) (r : Int32) (hf : fR_expression N g a0 z0 = some (r, z1)) : Cv l yR_expression (Cond.code yR_expression prog_4_method_20_code 7 none :: TB) ({ frames := 3 + (d + 1), cells := 0, slots := 0, locals := 104 + (d + 1) * 40 }) (dC, dI) vwCl [(cI, .int), (cC, .char), (cL, .object "SharedSyntax$Letters")] (jEn sk sv) [.ref (ad 0), .int a0] (wR cI cC ad z0) (wR cI cC ad z1) := by
  refine Cv_of (cc := prog_4_method_20_code) (maxL := 7) (ret := none) (by decide) rfl (Nat.le_of_ble_eq_true rfl) ?_
  intro p e s m below meth c ls F hl hK hN hC
  obtain ⟨hx, hb, hml, hown, hts, hr, hlk⟩ := F
  have ht : ∀ w ∈ TB, w.before [.ref (ad 0), .int a0].toArray s = true := fun w h => hts w (List.mem_cons_of_mem _ h)
  have hA : ∀ q, s.heap.size ≤ q → va_A (wR cI cC ad z0) s.heap.size q := fun q h => Or.inr h
  have hl : lv_has ls 7 [(0, .ref (ad 0)), (1, .int a0)] := hl
  have L125 : ∀ (x2 x3 : Int32) (s0 : jS) (ls : Array Slot) (H : Heap) (locs : List Loc), lv_has ls 7 [(0, .ref (ad 0)), (2, .int x2), (3, .int x3)] → jcx (dC, dI) vwCl (va_A (wR cI cC ad z0) s.heap.size) s.heap (wR cI cC ad s0) H locs → fR_expression_125 N g x2 x3 s0 = some (r, z1) → W p l e ({ frames := 3 + (d + 1), cells := 0, slots := 0, locals := 104 + (d + 1) * 40 }) s m [.ref (ad 0), .int a0].toArray below meth c H locs 0 0 (MQ below (jQv (dC, dI) vwCl [(cI, .int), (cC, .char), (cL, .object "SharedSyntax$Letters")] (wR cI cC ad z0) (wR cI cC ad z1) s.heap.size) [.ref (ad 0), .int a0].toArray s 0 0 (va_A (wR cI cC ad z0) s.heap.size)) (F0 m 125 ls []) := by
    intro x2 x3 s0 ls H locs hl hC hf
    unfold fR_expression_125 at hf
    refine lv_aload_n hx hb dR_expression_125 rfl (lv_at hl 0 rfl) ?_
    refine lv_iload_n hx hb dR_expression_126 rfl (lv_at hl 1 rfl) ?_
    refine lv_iconst (v := 0) hx hb dR_expression_127 (by decide) ?_
    refine lv_iload_n hx hb dR_expression_128 rfl (lv_at hl 2 rfl) ?_
    obtain ⟨r12501, s12501, hc12501, hf⟩ := jB_some hf
    refine jcall_i (va_runV (C := RcR) (As := [.int x2, .int (0 : Int32), .int x3]) (rest := []) ⟨hx, hb, hml, hown, hts⟩ ((cR_closeSigns l dC dI cI cC cL sk sv ad N x2 (0 : Int32) x3 s0 s12501 r12501 hc12501) _) ⟨(callB_of 3 hts (tb_good tw406) rfl rfl rfl (ht _ tw2) (ht _ tw403) (by decide +kernel) ⟨by dsimp only; omega, by dsimp only; omega⟩), ht _ tw405, ht _ (tb_sel pv_R_closeSigns)⟩ (jpreV (jEn_ok sk sv) hC hA hK hN (wR_e0 cI cC ad s0) rfl rfl _) rfl rfl hl.1 rfl (lv_room (Nat.le_of_ble_eq_true rfl)) dR_expression_129 ⟨Nat.le_refl _, Nat.le_refl _⟩) hC hA (fun H locs hC => ?_)
    refine lv_pop hx hb dR_expression_132 rfl ?_
    cases hf
    exact jret_v hx hb hr hlk hC hK dR_expression_133
  have L21 : ∀ (n : Nat) (x1 x2 x3 x4 : Int32) (s0 : jS) (ls : Array Slot) (H : Heap) (locs : List Loc), lv_has ls 7 [(0, .ref (ad 0)), (1, .int x1), (2, .int x2), (3, .int x3), (4, .int x4)] → jcx (dC, dI) vwCl (va_A (wR cI cC ad z0) s.heap.size) s.heap (wR cI cC ad s0) H locs → fR_expression_21 N n g x1 x2 x3 x4 s0 = some (r, z1) → W p l e ({ frames := 3 + (d + 1), cells := 0, slots := 0, locals := 104 + (d + 1) * 40 }) s m [.ref (ad 0), .int a0].toArray below meth c H locs 0 0 (MQ below (jQv (dC, dI) vwCl [(cI, .int), (cC, .char), (cL, .object "SharedSyntax$Letters")] (wR cI cC ad z0) (wR cI cC ad z1) s.heap.size) [.ref (ad 0), .int a0].toArray s 0 0 (va_A (wR cI cC ad z0) s.heap.size)) (F0 m 21 ls []) := by
    intro n
    induction n with
    | zero => exact fun _ _ _ _ _ _ _ _ _ _ hf => nomatch hf
    | succ n ih21 =>
      intro x1 x2 x3 x4 s0 ls H locs hl hC hf
      replace hf : fR_expression_b21 N (fR_expression_21 N n g) g x1 x2 x3 x4 s0 = some (r, z1) := hf
      generalize fR_expression_21 N n g = k21 at ih21 hf
      have L74 : ∀ (x1 x2 x3 x4 x5 y0 : Int32) (s0 : jS) (ls : Array Slot) (H : Heap) (locs : List Loc), lv_has ls 7 [(0, .ref (ad 0)), (1, .int x1), (2, .int x2), (3, .int x3), (4, .int x4), (5, .int x5)] → jcx (dC, dI) vwCl (va_A (wR cI cC ad z0) s.heap.size) s.heap (wR cI cC ad s0) H locs → fR_expression_74 N k21 g x1 x2 x3 x4 x5 y0 s0 = some (r, z1) → W p l e ({ frames := 3 + (d + 1), cells := 0, slots := 0, locals := 104 + (d + 1) * 40 }) s m [.ref (ad 0), .int a0].toArray below meth c H locs 0 0 (MQ below (jQv (dC, dI) vwCl [(cI, .int), (cC, .char), (cL, .object "SharedSyntax$Letters")] (wR cI cC ad z0) (wR cI cC ad z1) s.heap.size) [.ref (ad 0), .int a0].toArray s 0 0 (va_A (wR cI cC ad z0) s.heap.size)) (F0 m 74 ls [.int y0]) := by
        intro x1 x2 x3 x4 x5 y0 s0 ls H locs hl hC hf
        unfold fR_expression_74 at hf
        refine lv_istore (lv' := [(6, .int y0), (0, .ref (ad 0)), (1, .int x1), (2, .int x2), (3, .int x3), (4, .int x4), (5, .int x5)]) hx hb dR_expression_74 hl (by decide) rfl (fun ls hl => ?_)
        refine lv_aload_n hx hb dR_expression_76 rfl (lv_at hl 1 rfl) ?_
        refine lv_iload_n hx hb dR_expression_77 rfl (lv_at hl 3 rfl) ?_
        refine lv_iload hx hb dR_expression_78 (lv_at hl 0 rfl) ?_
        refine lv_iload_n hx hb dR_expression_80 rfl (lv_at hl 4 rfl) ?_
        obtain ⟨r7401, s7401, hc7401, hf⟩ := jB_some hf
        refine jcall_i (va_runV (C := RcR) (As := [.int x2, .int y0, .int x3]) (rest := []) ⟨hx, hb, hml, hown, hts⟩ ((cR_closeSigns l dC dI cI cC cL sk sv ad N x2 y0 x3 s0 s7401 r7401 hc7401) _) ⟨(callB_of 3 hts (tb_good tw406) rfl rfl rfl (ht _ tw2) (ht _ tw403) (by decide +kernel) ⟨by dsimp only; omega, by dsimp only; omega⟩), ht _ tw405, ht _ (tb_sel pv_R_closeSigns)⟩ (jpreV (jEn_ok sk sv) hC hA hK hN (wR_e0 cI cC ad s0) rfl rfl _) rfl rfl hl.1 rfl (lv_room (Nat.le_of_ble_eq_true rfl)) dR_expression_81 ⟨Nat.le_refl _, Nat.le_refl _⟩) hC hA (fun H locs hC => ?_)
        refine lv_istore_n (lv' := [(3, .int r7401), (6, .int y0), (0, .ref (ad 0)), (1, .int x1), (2, .int x2), (4, .int x4), (5, .int x5)]) hx hb dR_expression_84 rfl hl (by decide) rfl (fun ls hl => ?_)
        refine lv_aload_n hx hb dR_expression_85 rfl (lv_at hl 2 rfl) ?_
        refine va_get (D := (dC, dI)) (ci := 3) (v := .ref (ad 1)) (C := RcR) (T := TcR) (N := 10) hx hb ht in_cR hown hK hC.1 0 (wR_e0 cI cC ad s7401) rfl 1 (by decide) (ht _ tw114) (fun _ h9 => h9) rfl dR_expression_86 ?_
        refine lv_iload_n hx hb dR_expression_89 rfl (lv_at hl 0 rfl) ?_
        refine lv_bipush (v := 26) hx hb dR_expression_90 (by decide) ?_
        obtain ⟨r7402, s7402, hc7402, hf⟩ := jB_some hf
        refine jcall_v (va_runV (C := RcT) (As := [.int r7401, .int (26 : Int32)]) (rest := []) ⟨hx, hb, hml, hown, hts⟩ ((cT_wrap l dC dI cI cC cL sk sv ad N r7401 (26 : Int32) s7401 s7402 r7402 hc7402) _) ⟨(callB_of 2 hts (tb_good tw410) rfl rfl rfl (ht _ tw4) (ht _ tw407) (by decide +kernel) ⟨by dsimp only; omega, by dsimp only; omega⟩), ht _ tw408, ht _ tw409⟩ (jpreV (jEn_ok sk sv) hC hA hK hN (wR_e1 cI cC ad s7401) rfl rfl _) rfl rfl hl.1 rfl (lv_room (Nat.le_of_ble_eq_true rfl)) dR_expression_92 ⟨Nat.le_refl _, Nat.le_refl _⟩) hC hA (fun H locs hC => ?_)
        refine lv_aload_n hx hb dR_expression_95 rfl (lv_at hl 2 rfl) ?_
        refine lv_iload_n hx hb dR_expression_96 rfl (lv_at hl 0 rfl) ?_
        refine lv_iload hx hb dR_expression_97 (lv_at hl 6 rfl) ?_
        obtain ⟨r7403, s7403, hc7403, hf⟩ := jB_some hf
        refine jcall_v (va_runV (C := RcR) (As := [.int r7401, .int x5]) (rest := []) ⟨hx, hb, hml, hown, hts⟩ ((cR_openSign l dC dI cI cC cL sk sv ad N r7401 x5 s7402 s7403 r7403 hc7403) _) ⟨(callB_of 2 hts (tb_good tw421) rfl rfl rfl (ht _ tw2) (ht _ tw418) (by decide +kernel) ⟨by dsimp only; omega, by dsimp only; omega⟩), ht _ tw420, ht _ (tb_sel pv_R_openSign)⟩ (jpreV (jEn_ok sk sv) hC hA hK hN (wR_e0 cI cC ad s7402) rfl rfl _) rfl rfl hl.1 rfl (lv_room (Nat.le_of_ble_eq_true rfl)) dR_expression_99 ⟨Nat.le_refl _, Nat.le_refl _⟩) hC hA (fun H locs hC => ?_)
        refine lv_aload_n hx hb dR_expression_102 rfl (lv_at hl 2 rfl) ?_
        obtain ⟨r7404, s7404, hc7404, hf⟩ := jB_some hf
        refine jcall_v (va_runV (C := RcR) (As := []) (rest := []) ⟨hx, hb, hml, hown, hts⟩ ((cR_take l dC dI cI cC cL sk sv ad N s7403 s7404 r7404 hc7404) _) ⟨(callB_of 0 hts (tb_good tw339) rfl rfl rfl (ht _ tw2) (ht _ tw336) (by decide +kernel) ⟨by dsimp only; omega, by dsimp only; omega⟩), ht _ tw338, ht _ (tb_sel pv_R_take)⟩ (jpreV (jEn_ok sk sv) hC hA hK hN (wR_e0 cI cC ad s7403) rfl rfl _) rfl rfl hl.1 rfl (lv_room (Nat.le_of_ble_eq_true rfl)) dR_expression_103 ⟨Nat.le_refl _, Nat.le_refl _⟩) hC hA (fun H locs hC => ?_)
        refine lv_aload_n hx hb dR_expression_106 rfl (lv_at hl 2 rfl) ?_
        refine va_get (D := (dC, dI)) (ci := 3) (v := .ref (ad 1)) (C := RcR) (T := TcR) (N := 10) hx hb ht in_cR hown hK hC.1 0 (wR_e0 cI cC ad s7404) rfl 1 (by decide) (ht _ tw114) (fun _ h9 => h9) rfl dR_expression_107 ?_
        refine va_getN (D := (dC, dI)) (ci := 2) (v := .int (jgI s7404 3)) (C := RcT) (T := TcT) (N := 9) hx hb ht in_cT hown hK hC.1 1 (wR_e1 cI cC ad s7404) rfl 7 (by decide) (va_Nw.use rfl (hN.1 _ nw65)) (fun _ h9 => h9) rfl dR_expression_110 ?_
        refine lv_istore_n (lv' := [(3, .int (jgI s7404 3)), (6, .int y0), (0, .ref (ad 0)), (1, .int x1), (2, .int x2), (4, .int x4), (5, .int x5)]) hx hb dR_expression_113 rfl hl (by decide) rfl (fun ls hl => ?_)
        refine lv_aload_n hx hb dR_expression_114 rfl (lv_at hl 2 rfl) ?_
        refine lv_iload_n hx hb dR_expression_115 rfl (lv_at hl 3 rfl) ?_
        obtain ⟨r7405, s7405, hc7405, hf⟩ := jB_some hf
        refine jcall_v (va_runV (C := RcR) (As := [.int x1]) (rest := []) ⟨hx, hb, hml, hown, hts⟩ ((hg1 x1 s7404 r7405 s7405 hc7405) _) ⟨(callB_of 1 hts (tb_good tw391) rfl rfl rfl (ht _ tw2) (ht _ tw388) (by decide +kernel) ⟨by dsimp only; omega, by dsimp only; omega⟩), ht _ tw390, ht _ (tb_sel pv_R_operand)⟩ (jpreV (jEn_ok sk sv) hC hA hK hN (wR_e0 cI cC ad s7404) rfl rfl _) rfl rfl hl.1 rfl (lv_room (Nat.le_of_ble_eq_true rfl)) dR_expression_116 ⟨Nat.le_refl _, Nat.le_refl _⟩) hC hA (fun H locs hC => ?_)
        refine lv_iinc (k := 5) (v := (x4 + (1 : Int32))) (lv' := [(4, .int (x4 + (1 : Int32))), (3, .int (jgI s7404 3)), (6, .int y0), (0, .ref (ad 0)), (1, .int x1), (2, .int x2), (5, .int x5)]) hx hb dR_expression_119 hl rfl rfl (by decide) rfl (fun ls hl => ?_)
        refine lv_goto (tgt := 21) hx hb dR_expression_122 (by decide) ?_
        exact ih21 x1 x2 (jgI s7404 3) (x4 + (1 : Int32)) s7405 ls _ _ (lv_sub hl [3, 4, 5, 1, 0] rfl) hC hf
      unfold fR_expression_b21 at hf
      refine lv_iload hx hb dR_expression_21 (lv_at hl 4 rfl) ?_
      refine lv_bipush (v := 60) hx hb dR_expression_23 (by decide) ?_
      refine lv_icmp_ge (tgt := 125) hx hb dR_expression_25 (by decide) (fun c2101 => ?_) (fun c2101 => ?_)
      · replace hf := jif_t c2101 hf
        exact L125 x2 x3 s0 ls _ _ (lv_sub hl [0, 2, 3] rfl) hC hf
      · replace hf := jif_f c2101 hf
        refine lv_aload_n hx hb dR_expression_28 rfl (lv_at hl 0 rfl) ?_
        refine va_get (D := (dC, dI)) (ci := 3) (v := .ref (ad 2)) (C := RcR) (T := TcR) (N := 10) hx hb ht in_cR hown hK hC.1 0 (wR_e0 cI cC ad s0) rfl 2 (by decide) (ht _ tw116) (fun _ h9 => h9) rfl dR_expression_29 ?_
        obtain ⟨r2102, s2102, hc2102, hf⟩ := jB_some hf
        refine jcall_i (va_runV (C := RcK) (As := []) (rest := []) ⟨hx, hb, hml, hown, hts⟩ ((cK_kind l dC dI cI cC cL sk sv ad N s0 s2102 r2102 hc2102) _) ⟨(callB_of 0 hts (tb_good tw320) rfl rfl rfl (ht _ tw5) (ht _ tw317) (by decide +kernel) ⟨by dsimp only; omega, by dsimp only; omega⟩), ht _ tw318, ht _ tw319⟩ (jpreV (jEn_ok sk sv) hC hA hK hN (wR_e2 cI cC ad s0) rfl rfl _) rfl rfl hl.1 rfl (lv_room (Nat.le_of_ble_eq_true rfl)) dR_expression_32 ⟨Nat.le_refl _, Nat.le_refl _⟩) hC hA (fun H locs hC => ?_)
        obtain ⟨r2103, s2103, hc2103, hf⟩ := jB_some hf
        refine jcall_i (va_runS (As := [.int r2102]) (rest := []) ⟨hx, hb, hml, hown, hts⟩ ((cR_bindingOf l dC dI cI cC cL sk sv ad N r2102 s2102 s2103 r2103 hc2103) _) ⟨(callB_of 1 hts (tb_good tw402) rfl rfl rfl (ht _ tw2) (ht _ tw400) (by decide +kernel) ⟨by dsimp only; omega, by dsimp only; omega⟩), ht _ tw401⟩ (jpreS (jEn_ok sk sv) hC hA hK hN _) rfl rfl hl.1 rfl (lv_room (Nat.le_of_ble_eq_true rfl)) dR_expression_35 ⟨Nat.le_refl _, Nat.le_refl _⟩) hC hA (fun H locs hC => ?_)
        refine lv_if_le (tgt := 125) hx hb dR_expression_38 (by decide) (fun c2104 => ?_) (fun c2104 => ?_)
        · replace hf := jif_t c2104 hf
          exact L125 x2 x3 s2103 ls _ _ (lv_sub hl [0, 2, 3] rfl) hC hf
        · replace hf := jif_f c2104 hf
          refine lv_aload_n hx hb dR_expression_41 rfl (lv_at hl 0 rfl) ?_
          refine va_get (D := (dC, dI)) (ci := 3) (v := .ref (ad 2)) (C := RcR) (T := TcR) (N := 10) hx hb ht in_cR hown hK hC.1 0 (wR_e0 cI cC ad s2103) rfl 2 (by decide) (ht _ tw116) (fun _ h9 => h9) rfl dR_expression_42 ?_
          obtain ⟨r2105, s2105, hc2105, hf⟩ := jB_some hf
          refine jcall_i (va_runV (C := RcK) (As := []) (rest := []) ⟨hx, hb, hml, hown, hts⟩ ((cK_kind l dC dI cI cC cL sk sv ad N s2103 s2105 r2105 hc2105) _) ⟨(callB_of 0 hts (tb_good tw320) rfl rfl rfl (ht _ tw5) (ht _ tw317) (by decide +kernel) ⟨by dsimp only; omega, by dsimp only; omega⟩), ht _ tw318, ht _ tw319⟩ (jpreV (jEn_ok sk sv) hC hA hK hN (wR_e2 cI cC ad s2103) rfl rfl _) rfl rfl hl.1 rfl (lv_room (Nat.le_of_ble_eq_true rfl)) dR_expression_45 ⟨Nat.le_refl _, Nat.le_refl _⟩) hC hA (fun H locs hC => ?_)
          obtain ⟨r2106, s2106, hc2106, hf⟩ := jB_some hf
          refine jcall_i (va_runS (As := [.int r2105]) (rest := []) ⟨hx, hb, hml, hown, hts⟩ ((cR_bindingOf l dC dI cI cC cL sk sv ad N r2105 s2105 s2106 r2106 hc2106) _) ⟨(callB_of 1 hts (tb_good tw402) rfl rfl rfl (ht _ tw2) (ht _ tw400) (by decide +kernel) ⟨by dsimp only; omega, by dsimp only; omega⟩), ht _ tw401⟩ (jpreS (jEn_ok sk sv) hC hA hK hN _) rfl rfl hl.1 rfl (lv_room (Nat.le_of_ble_eq_true rfl)) dR_expression_48 ⟨Nat.le_refl _, Nat.le_refl _⟩) hC hA (fun H locs hC => ?_)
          refine lv_istore (lv' := [(5, .int r2106), (0, .ref (ad 0)), (1, .int x1), (2, .int x2), (3, .int x3), (4, .int x4)]) hx hb dR_expression_51 hl (by decide) rfl (fun ls hl => ?_)
          refine lv_aload_n hx hb dR_expression_53 rfl (lv_at hl 1 rfl) ?_
          refine va_get (D := (dC, dI)) (ci := 3) (v := .ref (ad 2)) (C := RcR) (T := TcR) (N := 10) hx hb ht in_cR hown hK hC.1 0 (wR_e0 cI cC ad s2106) rfl 2 (by decide) (ht _ tw116) (fun _ h9 => h9) rfl dR_expression_54 ?_
          obtain ⟨r2107, s2107, hc2107, hf⟩ := jB_some hf
          refine jcall_i (va_runV (C := RcK) (As := []) (rest := []) ⟨hx, hb, hml, hown, hts⟩ ((cK_kind l dC dI cI cC cL sk sv ad N s2106 s2107 r2107 hc2107) _) ⟨(callB_of 0 hts (tb_good tw320) rfl rfl rfl (ht _ tw5) (ht _ tw317) (by decide +kernel) ⟨by dsimp only; omega, by dsimp only; omega⟩), ht _ tw318, ht _ tw319⟩ (jpreV (jEn_ok sk sv) hC hA hK hN (wR_e2 cI cC ad s2106) rfl rfl _) rfl rfl hl.1 rfl (lv_room (Nat.le_of_ble_eq_true rfl)) dR_expression_57 ⟨Nat.le_refl _, Nat.le_refl _⟩) hC hA (fun H locs hC => ?_)
          refine lv_bipush (v := 15) hx hb dR_expression_60 (by decide) ?_
          refine lv_icmp_ne (tgt := 72) hx hb dR_expression_62 (by decide) (fun c2108 => ?_) (fun c2108 => ?_)
          · replace hf := jif_f c2108 hf
            refine lv_iload hx hb dR_expression_72 (lv_at hl 0 rfl) ?_
            exact L74 x1 x2 x3 x4 r2106 r2106 s2107 ls _ _ (lv_sub hl [1, 2, 3, 4, 5, 0] rfl) hC hf
          · replace hf := jif_t c2108 hf
            refine lv_iload hx hb dR_expression_65 (lv_at hl 0 rfl) ?_
            refine lv_iconst (v := 1) hx hb dR_expression_67 (by decide) ?_
            refine lv_iadd hx hb dR_expression_68 ?_
            refine lv_goto (tgt := 74) hx hb dR_expression_69 (by decide) ?_
            exact L74 x1 x2 x3 x4 r2106 (r2106 + (1 : Int32)) s2107 ls _ _ (lv_sub hl [1, 2, 3, 4, 5, 0] rfl) hC hf
  unfold fR_expression at hf
  refine lv_aload_n hx hb dR_expression_0 rfl (lv_at hl 0 rfl) ?_
  refine va_get (D := (dC, dI)) (ci := 3) (v := .int (jgI z0 7)) (C := RcR) (T := TcR) (N := 10) hx hb ht in_cR hown hK hC.1 0 (wR_e0 cI cC ad z0) rfl 9 (by decide) (ht _ tw123) (fun _ h9 => h9) rfl dR_expression_1 ?_
  refine lv_istore_n (lv' := [(2, .int (jgI z0 7)), (0, .ref (ad 0)), (1, .int a0)]) hx hb dR_expression_4 rfl hl (by decide) rfl (fun ls hl => ?_)
  refine lv_aload_n hx hb dR_expression_5 rfl (lv_at hl 1 rfl) ?_
  refine va_get (D := (dC, dI)) (ci := 3) (v := .ref (ad 1)) (C := RcR) (T := TcR) (N := 10) hx hb ht in_cR hown hK hC.1 0 (wR_e0 cI cC ad z0) rfl 1 (by decide) (ht _ tw114) (fun _ h9 => h9) rfl dR_expression_6 ?_
  refine va_getN (D := (dC, dI)) (ci := 2) (v := .int (jgI z0 3)) (C := RcT) (T := TcT) (N := 9) hx hb ht in_cT hown hK hC.1 1 (wR_e1 cI cC ad z0) rfl 7 (by decide) (va_Nw.use rfl (hN.1 _ nw65)) (fun _ h9 => h9) rfl dR_expression_9 ?_
  refine lv_istore_n (lv' := [(3, .int (jgI z0 3)), (2, .int (jgI z0 7)), (0, .ref (ad 0)), (1, .int a0)]) hx hb dR_expression_12 rfl hl (by decide) rfl (fun ls hl => ?_)
  refine lv_aload_n hx hb dR_expression_13 rfl (lv_at hl 2 rfl) ?_
  refine lv_iload_n hx hb dR_expression_14 rfl (lv_at hl 3 rfl) ?_
  obtain ⟨r1, s1, hc1, hf⟩ := jB_some hf
  refine jcall_v (va_runV (C := RcR) (As := [.int a0]) (rest := []) ⟨hx, hb, hml, hown, hts⟩ ((hg1 a0 z0 r1 s1 hc1) _) ⟨(callB_of 1 hts (tb_good tw391) rfl rfl rfl (ht _ tw2) (ht _ tw388) (by decide +kernel) ⟨by dsimp only; omega, by dsimp only; omega⟩), ht _ tw390, ht _ (tb_sel pv_R_operand)⟩ (jpreV (jEn_ok sk sv) hC hA hK hN (wR_e0 cI cC ad z0) rfl rfl _) rfl rfl hl.1 rfl (lv_room (Nat.le_of_ble_eq_true rfl)) dR_expression_15 ⟨Nat.le_refl _, Nat.le_refl _⟩) hC hA (fun H locs hC => ?_)
  refine lv_iconst (v := 0) hx hb dR_expression_18 (by decide) ?_
  refine lv_istore (lv' := [(4, .int (0 : Int32)), (3, .int (jgI z0 3)), (2, .int (jgI z0 7)), (0, .ref (ad 0)), (1, .int a0)]) hx hb dR_expression_19 hl (by decide) rfl (fun ls hl => ?_)
  exact L21 N a0 (jgI z0 7) (jgI z0 3) (0 : Int32) s1 ls _ _ (lv_sub hl [3, 4, 2, 1, 0] rfl) hC hf

def fR_operand_25 (N : Nat) (g : Nat → Int32 → jS → Option (Int32 × jS)) (x1 x2 y0 : Int32) (s0 : jS) : Option (Int32 × jS) := (if x2 = (1 : Int32) then (jB (fR_take N s0) fun r2502 s2502 => some (0, s2502)) else (if x2 = (2 : Int32) then (jB (fR_take N s0) fun r2511 s2511 => some (0, s2511)) else (if y0 = 0 then (jB (fR_miss N (1 : Int32) (2 : Int32) s0) fun r2510 s2510 => some (0, s2510)) else (if x1 < (6 : Int32) then (if x2 = (9 : Int32) then (jB (g 2 x1 s0) fun r2508 s2508 => some (0, s2508)) else (jB (g 3 x1 s0) fun r2507 s2507 => some (0, s2507))) else (jB (fR_miss N (1 : Int32) (3 : Int32) s0) fun r2509 s2509 => some (0, s2509))))))
def fR_operand_20 (N : Nat) (g : Nat → Int32 → jS → Option (Int32 × jS)) (x1 x2 : Int32) (s0 : jS) : Option (Int32 × jS) := fR_operand_25 N g x1 x2 (1 : Int32) s0
def fR_operand (N : Nat) (g : Nat → Int32 → jS → Option (Int32 × jS)) (a0 : Int32) (z0 : jS) : Option (Int32 × jS) := (jB (fK_kind N z0) fun r1 s1 => (if r1 = (9 : Int32) then fR_operand_20 N g a0 r1 s1 else (if r1 = (12 : Int32) then fR_operand_20 N g a0 r1 s1 else fR_operand_25 N g a0 r1 (0 : Int32) s1)))
set_option maxHeartbeats 4000000 in
set_option maxRecDepth 100000 in
theorem cR_operand (l : Launch) (dC : Nat → ClassId) (dI : Nat → Nat → Nat) (cI cC cL : ClassId) (sk sv : Nat → Nat) (ad : Nat → Nat) (N : Nat) (g : Nat → Int32 → jS → Option (Int32 × jS)) (d : Nat) (hg0 : ∀ (a : Int32) (s : jS) (r : Int32) (s1 : jS), g 0 a s = some (r, s1) → Cv l yR_expression (Cond.code yR_expression prog_4_method_20_code 7 none :: TB) ({ frames := 3 + d, cells := 0, slots := 0, locals := 104 + d * 40 }) (dC, dI) vwCl [(cI, .int), (cC, .char), (cL, .object "SharedSyntax$Letters")] (jEn sk sv) [.ref (ad 0), .int a] (wR cI cC ad s) (wR cI cC ad s1)) (hg1 : ∀ (a : Int32) (s : jS) (r : Int32) (s1 : jS), g 1 a s = some (r, s1) → Cv l yR_operand (Cond.code yR_operand prog_4_method_24_code 4 none :: TB) ({ frames := 3 + d, cells := 0, slots := 0, locals := 104 + d * 40 }) (dC, dI) vwCl [(cI, .int), (cC, .char), (cL, .object "SharedSyntax$Letters")] (jEn sk sv) [.ref (ad 0), .int a] (wR cI cC ad s) (wR cI cC ad s1)) (hg2 : ∀ (a : Int32) (s : jS) (r : Int32) (s1 : jS), g 2 a s = some (r, s1) → Cv l yR_parentheses (Cond.code yR_parentheses prog_4_method_25_code 3 none :: TB) ({ frames := 3 + d, cells := 0, slots := 0, locals := 104 + d * 40 }) (dC, dI) vwCl [(cI, .int), (cC, .char), (cL, .object "SharedSyntax$Letters")] (jEn sk sv) [.ref (ad 0), .int a] (wR cI cC ad s) (wR cI cC ad s1)) (hg3 : ∀ (a : Int32) (s : jS) (r : Int32) (s1 : jS), g 3 a s = some (r, s1) → Cv l yR_negative (Cond.code yR_negative prog_4_method_26_code 3 none :: TB) ({ frames := 3 + d, cells := 0, slots := 0, locals := 104 + d * 40 }) (dC, dI) vwCl [(cI, .int), (cC, .char), (cL, .object "SharedSyntax$Letters")] (jEn sk sv) [.ref (ad 0), .int a] (wR cI cC ad s) (wR cI cC ad s1)) (a0 : Int32) (z0 z1 : jS) (r : Int32) (hf : fR_operand N g a0 z0 = some (r, z1)) : Cv l yR_operand (Cond.code yR_operand prog_4_method_24_code 4 none :: TB) ({ frames := 3 + (d + 1), cells := 0, slots := 0, locals := 104 + (d + 1) * 40 }) (dC, dI) vwCl [(cI, .int), (cC, .char), (cL, .object "SharedSyntax$Letters")] (jEn sk sv) [.ref (ad 0), .int a0] (wR cI cC ad z0) (wR cI cC ad z1) := by
  refine Cv_of (cc := prog_4_method_24_code) (maxL := 4) (ret := none) (by decide) rfl (Nat.le_of_ble_eq_true rfl) ?_
  intro p e s m below meth c ls F hl hK hN hC
  obtain ⟨hx, hb, hml, hown, hts, hr, hlk⟩ := F
  have ht : ∀ w ∈ TB, w.before [.ref (ad 0), .int a0].toArray s = true := fun w h => hts w (List.mem_cons_of_mem _ h)
  have hA : ∀ q, s.heap.size ≤ q → va_A (wR cI cC ad z0) s.heap.size q := fun q h => Or.inr h
  have hl : lv_has ls 4 [(0, .ref (ad 0)), (1, .int a0)] := hl
  have L25 : ∀ (x1 x2 y0 : Int32) (s0 : jS) (ls : Array Slot) (H : Heap) (locs : List Loc), lv_has ls 4 [(0, .ref (ad 0)), (1, .int x1), (2, .int x2)] → jcx (dC, dI) vwCl (va_A (wR cI cC ad z0) s.heap.size) s.heap (wR cI cC ad s0) H locs → fR_operand_25 N g x1 x2 y0 s0 = some (r, z1) → W p l e ({ frames := 3 + (d + 1), cells := 0, slots := 0, locals := 104 + (d + 1) * 40 }) s m [.ref (ad 0), .int a0].toArray below meth c H locs 0 0 (MQ below (jQv (dC, dI) vwCl [(cI, .int), (cC, .char), (cL, .object "SharedSyntax$Letters")] (wR cI cC ad z0) (wR cI cC ad z1) s.heap.size) [.ref (ad 0), .int a0].toArray s 0 0 (va_A (wR cI cC ad z0) s.heap.size)) (F0 m 25 ls [.int y0]) := by
    intro x1 x2 y0 s0 ls H locs hl hC hf
    unfold fR_operand_25 at hf
    refine lv_istore_n (lv' := [(3, .int y0), (0, .ref (ad 0)), (1, .int x1), (2, .int x2)]) hx hb dR_operand_25 rfl hl (by decide) rfl (fun ls hl => ?_)
    refine lv_iload_n hx hb dR_operand_26 rfl (lv_at hl 3 rfl) ?_
    refine lv_iconst (v := 1) hx hb dR_operand_27 (by decide) ?_
    refine lv_icmp_eq (tgt := 36) hx hb dR_operand_28 (by decide) (fun c2501 => ?_) (fun c2501 => ?_)
    · replace hf := jif_t c2501 hf
      refine lv_aload_n hx hb dR_operand_36 rfl (lv_at hl 1 rfl) ?_
      obtain ⟨r2502, s2502, hc2502, hf⟩ := jB_some hf
      refine jcall_v (va_runV (C := RcR) (As := []) (rest := []) ⟨hx, hb, hml, hown, hts⟩ ((cR_take l dC dI cI cC cL sk sv ad N s0 s2502 r2502 hc2502) _) ⟨(callB_of 0 hts (tb_good tw339) rfl rfl rfl (ht _ tw2) (ht _ tw336) (by decide +kernel) ⟨by dsimp only; omega, by dsimp only; omega⟩), ht _ tw338, ht _ (tb_sel pv_R_take)⟩ (jpreV (jEn_ok sk sv) hC hA hK hN (wR_e0 cI cC ad s0) rfl rfl _) rfl rfl hl.1 rfl (lv_room (Nat.le_of_ble_eq_true rfl)) dR_operand_37 ⟨Nat.le_refl _, Nat.le_refl _⟩) hC hA (fun H locs hC => ?_)
      refine lv_goto (tgt := 90) hx hb dR_operand_40 (by decide) ?_
      cases hf
      exact jret_v hx hb hr hlk hC hK dR_operand_90
    · replace hf := jif_f c2501 hf
      refine lv_iload_n hx hb dR_operand_31 rfl (lv_at hl 3 rfl) ?_
      refine lv_iconst (v := 2) hx hb dR_operand_32 (by decide) ?_
      refine lv_icmp_ne (tgt := 43) hx hb dR_operand_33 (by decide) (fun c2503 => ?_) (fun c2503 => ?_)
      · replace hf := jif_f c2503 hf
        refine lv_iload_n hx hb dR_operand_43 rfl (lv_at hl 0 rfl) ?_
        refine lv_if_ne (tgt := 56) hx hb dR_operand_44 (by decide) (fun c2504 => ?_) (fun c2504 => ?_)
        · replace hf := jif_f c2504 hf
          refine lv_iload_n hx hb dR_operand_56 rfl (lv_at hl 2 rfl) ?_
          refine lv_bipush (v := 6) hx hb dR_operand_57 (by decide) ?_
          refine lv_icmp_lt (tgt := 71) hx hb dR_operand_59 (by decide) (fun c2505 => ?_) (fun c2505 => ?_)
          · replace hf := jif_t c2505 hf
            refine lv_iload_n hx hb dR_operand_71 rfl (lv_at hl 3 rfl) ?_
            refine lv_bipush (v := 9) hx hb dR_operand_72 (by decide) ?_
            refine lv_icmp_ne (tgt := 85) hx hb dR_operand_74 (by decide) (fun c2506 => ?_) (fun c2506 => ?_)
            · replace hf := jif_f c2506 hf
              refine lv_aload_n hx hb dR_operand_85 rfl (lv_at hl 1 rfl) ?_
              refine lv_iload_n hx hb dR_operand_86 rfl (lv_at hl 2 rfl) ?_
              obtain ⟨r2507, s2507, hc2507, hf⟩ := jB_some hf
              refine jcall_v (va_runV (C := RcR) (As := [.int x1]) (rest := []) ⟨hx, hb, hml, hown, hts⟩ ((hg3 x1 s0 r2507 s2507 hc2507) _) ⟨(callB_of 1 hts (tb_good tw399) rfl rfl rfl (ht _ tw2) (ht _ tw396) (by decide +kernel) ⟨by dsimp only; omega, by dsimp only; omega⟩), ht _ tw398, ht _ (tb_sel pv_R_negative)⟩ (jpreV (jEn_ok sk sv) hC hA hK hN (wR_e0 cI cC ad s0) rfl rfl _) rfl rfl hl.1 rfl (lv_room (Nat.le_of_ble_eq_true rfl)) dR_operand_87 ⟨Nat.le_refl _, Nat.le_refl _⟩) hC hA (fun H locs hC => ?_)
              cases hf
              exact jret_v hx hb hr hlk hC hK dR_operand_90
            · replace hf := jif_t c2506 hf
              refine lv_aload_n hx hb dR_operand_77 rfl (lv_at hl 1 rfl) ?_
              refine lv_iload_n hx hb dR_operand_78 rfl (lv_at hl 2 rfl) ?_
              obtain ⟨r2508, s2508, hc2508, hf⟩ := jB_some hf
              refine jcall_v (va_runV (C := RcR) (As := [.int x1]) (rest := []) ⟨hx, hb, hml, hown, hts⟩ ((hg2 x1 s0 r2508 s2508 hc2508) _) ⟨(callB_of 1 hts (tb_good tw395) rfl rfl rfl (ht _ tw2) (ht _ tw392) (by decide +kernel) ⟨by dsimp only; omega, by dsimp only; omega⟩), ht _ tw394, ht _ (tb_sel pv_R_parentheses)⟩ (jpreV (jEn_ok sk sv) hC hA hK hN (wR_e0 cI cC ad s0) rfl rfl _) rfl rfl hl.1 rfl (lv_room (Nat.le_of_ble_eq_true rfl)) dR_operand_79 ⟨Nat.le_refl _, Nat.le_refl _⟩) hC hA (fun H locs hC => ?_)
              refine lv_goto (tgt := 90) hx hb dR_operand_82 (by decide) ?_
              cases hf
              exact jret_v hx hb hr hlk hC hK dR_operand_90
          · replace hf := jif_f c2505 hf
            refine lv_aload_n hx hb dR_operand_62 rfl (lv_at hl 1 rfl) ?_
            refine lv_iconst (v := 1) hx hb dR_operand_63 (by decide) ?_
            refine lv_iconst (v := 3) hx hb dR_operand_64 (by decide) ?_
            obtain ⟨r2509, s2509, hc2509, hf⟩ := jB_some hf
            refine jcall_v (va_runV (C := RcR) (As := [.int (1 : Int32), .int (3 : Int32)]) (rest := []) ⟨hx, hb, hml, hown, hts⟩ ((cR_miss l dC dI cI cC cL sk sv ad N (1 : Int32) (3 : Int32) s0 s2509 r2509 hc2509) _) ⟨(callB_of 2 hts (tb_good tw375) rfl rfl rfl (ht _ tw2) (ht _ tw372) (by decide +kernel) ⟨by dsimp only; omega, by dsimp only; omega⟩), ht _ tw374, ht _ (tb_sel pv_R_miss)⟩ (jpreV (jEn_ok sk sv) hC hA hK hN (wR_e0 cI cC ad s0) rfl rfl _) rfl rfl hl.1 rfl (lv_room (Nat.le_of_ble_eq_true rfl)) dR_operand_65 ⟨Nat.le_refl _, Nat.le_refl _⟩) hC hA (fun H locs hC => ?_)
            refine lv_goto (tgt := 90) hx hb dR_operand_68 (by decide) ?_
            cases hf
            exact jret_v hx hb hr hlk hC hK dR_operand_90
        · replace hf := jif_t c2504 hf
          refine lv_aload_n hx hb dR_operand_47 rfl (lv_at hl 1 rfl) ?_
          refine lv_iconst (v := 1) hx hb dR_operand_48 (by decide) ?_
          refine lv_iconst (v := 2) hx hb dR_operand_49 (by decide) ?_
          obtain ⟨r2510, s2510, hc2510, hf⟩ := jB_some hf
          refine jcall_v (va_runV (C := RcR) (As := [.int (1 : Int32), .int (2 : Int32)]) (rest := []) ⟨hx, hb, hml, hown, hts⟩ ((cR_miss l dC dI cI cC cL sk sv ad N (1 : Int32) (2 : Int32) s0 s2510 r2510 hc2510) _) ⟨(callB_of 2 hts (tb_good tw375) rfl rfl rfl (ht _ tw2) (ht _ tw372) (by decide +kernel) ⟨by dsimp only; omega, by dsimp only; omega⟩), ht _ tw374, ht _ (tb_sel pv_R_miss)⟩ (jpreV (jEn_ok sk sv) hC hA hK hN (wR_e0 cI cC ad s0) rfl rfl _) rfl rfl hl.1 rfl (lv_room (Nat.le_of_ble_eq_true rfl)) dR_operand_50 ⟨Nat.le_refl _, Nat.le_refl _⟩) hC hA (fun H locs hC => ?_)
          refine lv_goto (tgt := 90) hx hb dR_operand_53 (by decide) ?_
          cases hf
          exact jret_v hx hb hr hlk hC hK dR_operand_90
      · replace hf := jif_t c2503 hf
        refine lv_aload_n hx hb dR_operand_36 rfl (lv_at hl 1 rfl) ?_
        obtain ⟨r2511, s2511, hc2511, hf⟩ := jB_some hf
        refine jcall_v (va_runV (C := RcR) (As := []) (rest := []) ⟨hx, hb, hml, hown, hts⟩ ((cR_take l dC dI cI cC cL sk sv ad N s0 s2511 r2511 hc2511) _) ⟨(callB_of 0 hts (tb_good tw339) rfl rfl rfl (ht _ tw2) (ht _ tw336) (by decide +kernel) ⟨by dsimp only; omega, by dsimp only; omega⟩), ht _ tw338, ht _ (tb_sel pv_R_take)⟩ (jpreV (jEn_ok sk sv) hC hA hK hN (wR_e0 cI cC ad s0) rfl rfl _) rfl rfl hl.1 rfl (lv_room (Nat.le_of_ble_eq_true rfl)) dR_operand_37 ⟨Nat.le_refl _, Nat.le_refl _⟩) hC hA (fun H locs hC => ?_)
        refine lv_goto (tgt := 90) hx hb dR_operand_40 (by decide) ?_
        cases hf
        exact jret_v hx hb hr hlk hC hK dR_operand_90
  have L20 : ∀ (x1 x2 : Int32) (s0 : jS) (ls : Array Slot) (H : Heap) (locs : List Loc), lv_has ls 4 [(0, .ref (ad 0)), (1, .int x1), (2, .int x2)] → jcx (dC, dI) vwCl (va_A (wR cI cC ad z0) s.heap.size) s.heap (wR cI cC ad s0) H locs → fR_operand_20 N g x1 x2 s0 = some (r, z1) → W p l e ({ frames := 3 + (d + 1), cells := 0, slots := 0, locals := 104 + (d + 1) * 40 }) s m [.ref (ad 0), .int a0].toArray below meth c H locs 0 0 (MQ below (jQv (dC, dI) vwCl [(cI, .int), (cC, .char), (cL, .object "SharedSyntax$Letters")] (wR cI cC ad z0) (wR cI cC ad z1) s.heap.size) [.ref (ad 0), .int a0].toArray s 0 0 (va_A (wR cI cC ad z0) s.heap.size)) (F0 m 20 ls []) := by
    intro x1 x2 s0 ls H locs hl hC hf
    unfold fR_operand_20 at hf
    refine lv_iconst (v := 1) hx hb dR_operand_20 (by decide) ?_
    refine lv_goto (tgt := 25) hx hb dR_operand_21 (by decide) ?_
    exact L25 x1 x2 (1 : Int32) s0 ls _ _ (lv_sub hl [0, 1, 2] rfl) hC hf
  unfold fR_operand at hf
  refine lv_aload_n hx hb dR_operand_0 rfl (lv_at hl 0 rfl) ?_
  refine va_get (D := (dC, dI)) (ci := 3) (v := .ref (ad 2)) (C := RcR) (T := TcR) (N := 10) hx hb ht in_cR hown hK hC.1 0 (wR_e0 cI cC ad z0) rfl 2 (by decide) (ht _ tw116) (fun _ h9 => h9) rfl dR_operand_1 ?_
  obtain ⟨r1, s1, hc1, hf⟩ := jB_some hf
  refine jcall_i (va_runV (C := RcK) (As := []) (rest := []) ⟨hx, hb, hml, hown, hts⟩ ((cK_kind l dC dI cI cC cL sk sv ad N z0 s1 r1 hc1) _) ⟨(callB_of 0 hts (tb_good tw320) rfl rfl rfl (ht _ tw5) (ht _ tw317) (by decide +kernel) ⟨by dsimp only; omega, by dsimp only; omega⟩), ht _ tw318, ht _ tw319⟩ (jpreV (jEn_ok sk sv) hC hA hK hN (wR_e2 cI cC ad z0) rfl rfl _) rfl rfl hl.1 rfl (lv_room (Nat.le_of_ble_eq_true rfl)) dR_operand_4 ⟨Nat.le_refl _, Nat.le_refl _⟩) hC hA (fun H locs hC => ?_)
  refine lv_istore_n (lv' := [(2, .int r1), (0, .ref (ad 0)), (1, .int a0)]) hx hb dR_operand_7 rfl hl (by decide) rfl (fun ls hl => ?_)
  refine lv_iload_n hx hb dR_operand_8 rfl (lv_at hl 0 rfl) ?_
  refine lv_bipush (v := 9) hx hb dR_operand_9 (by decide) ?_
  refine lv_icmp_eq (tgt := 20) hx hb dR_operand_11 (by decide) (fun c2 => ?_) (fun c2 => ?_)
  · replace hf := jif_t c2 hf
    exact L20 a0 r1 s1 ls _ _ (lv_sub hl [1, 2, 0] rfl) hC hf
  · replace hf := jif_f c2 hf
    refine lv_iload_n hx hb dR_operand_14 rfl (lv_at hl 0 rfl) ?_
    refine lv_bipush (v := 12) hx hb dR_operand_15 (by decide) ?_
    refine lv_icmp_ne (tgt := 24) hx hb dR_operand_17 (by decide) (fun c3 => ?_) (fun c3 => ?_)
    · replace hf := jif_f c3 hf
      refine lv_iconst (v := 0) hx hb dR_operand_24 (by decide) ?_
      exact L25 a0 r1 (0 : Int32) s1 ls _ _ (lv_sub hl [1, 2, 0] rfl) hC hf
    · replace hf := jif_t c3 hf
      exact L20 a0 r1 s1 ls _ _ (lv_sub hl [1, 2, 0] rfl) hC hf

def fR_parentheses (N : Nat) (g : Nat → Int32 → jS → Option (Int32 × jS)) (a0 : Int32) (z0 : jS) : Option (Int32 × jS) := (jB (fR_begin N (28 : Int32) z0) fun r1 s1 => (jB (fR_take N s1) fun r2 s2 => (jB (g 0 (a0 + (1 : Int32)) s2) fun r3 s3 => (jB (fR_expect N (10 : Int32) s3) fun r4 s4 => (jB (fT_close N r1 s4) fun r5 s5 => some (0, s5))))))
set_option maxHeartbeats 4000000 in
set_option maxRecDepth 100000 in
theorem cR_parentheses (l : Launch) (dC : Nat → ClassId) (dI : Nat → Nat → Nat) (cI cC cL : ClassId) (sk sv : Nat → Nat) (ad : Nat → Nat) (N : Nat) (g : Nat → Int32 → jS → Option (Int32 × jS)) (d : Nat) (hg0 : ∀ (a : Int32) (s : jS) (r : Int32) (s1 : jS), g 0 a s = some (r, s1) → Cv l yR_expression (Cond.code yR_expression prog_4_method_20_code 7 none :: TB) ({ frames := 3 + d, cells := 0, slots := 0, locals := 104 + d * 40 }) (dC, dI) vwCl [(cI, .int), (cC, .char), (cL, .object "SharedSyntax$Letters")] (jEn sk sv) [.ref (ad 0), .int a] (wR cI cC ad s) (wR cI cC ad s1)) (hg1 : ∀ (a : Int32) (s : jS) (r : Int32) (s1 : jS), g 1 a s = some (r, s1) → Cv l yR_operand (Cond.code yR_operand prog_4_method_24_code 4 none :: TB) ({ frames := 3 + d, cells := 0, slots := 0, locals := 104 + d * 40 }) (dC, dI) vwCl [(cI, .int), (cC, .char), (cL, .object "SharedSyntax$Letters")] (jEn sk sv) [.ref (ad 0), .int a] (wR cI cC ad s) (wR cI cC ad s1)) (hg2 : ∀ (a : Int32) (s : jS) (r : Int32) (s1 : jS), g 2 a s = some (r, s1) → Cv l yR_parentheses (Cond.code yR_parentheses prog_4_method_25_code 3 none :: TB) ({ frames := 3 + d, cells := 0, slots := 0, locals := 104 + d * 40 }) (dC, dI) vwCl [(cI, .int), (cC, .char), (cL, .object "SharedSyntax$Letters")] (jEn sk sv) [.ref (ad 0), .int a] (wR cI cC ad s) (wR cI cC ad s1)) (hg3 : ∀ (a : Int32) (s : jS) (r : Int32) (s1 : jS), g 3 a s = some (r, s1) → Cv l yR_negative (Cond.code yR_negative prog_4_method_26_code 3 none :: TB) ({ frames := 3 + d, cells := 0, slots := 0, locals := 104 + d * 40 }) (dC, dI) vwCl [(cI, .int), (cC, .char), (cL, .object "SharedSyntax$Letters")] (jEn sk sv) [.ref (ad 0), .int a] (wR cI cC ad s) (wR cI cC ad s1)) (a0 : Int32) (z0 z1 : jS) (r : Int32) (hf : fR_parentheses N g a0 z0 = some (r, z1)) : Cv l yR_parentheses (Cond.code yR_parentheses prog_4_method_25_code 3 none :: TB) ({ frames := 3 + (d + 1), cells := 0, slots := 0, locals := 104 + (d + 1) * 40 }) (dC, dI) vwCl [(cI, .int), (cC, .char), (cL, .object "SharedSyntax$Letters")] (jEn sk sv) [.ref (ad 0), .int a0] (wR cI cC ad z0) (wR cI cC ad z1) := by
  refine Cv_of (cc := prog_4_method_25_code) (maxL := 3) (ret := none) (by decide) rfl (Nat.le_of_ble_eq_true rfl) ?_
  intro p e s m below meth c ls F hl hK hN hC
  obtain ⟨hx, hb, hml, hown, hts, hr, hlk⟩ := F
  have ht : ∀ w ∈ TB, w.before [.ref (ad 0), .int a0].toArray s = true := fun w h => hts w (List.mem_cons_of_mem _ h)
  have hA : ∀ q, s.heap.size ≤ q → va_A (wR cI cC ad z0) s.heap.size q := fun q h => Or.inr h
  have hl : lv_has ls 3 [(0, .ref (ad 0)), (1, .int a0)] := hl
  unfold fR_parentheses at hf
  refine lv_aload_n hx hb dR_parentheses_0 rfl (lv_at hl 0 rfl) ?_
  refine lv_bipush (v := 28) hx hb dR_parentheses_1 (by decide) ?_
  obtain ⟨r1, s1, hc1, hf⟩ := jB_some hf
  refine jcall_i (va_runV (C := RcR) (As := [.int (28 : Int32)]) (rest := []) ⟨hx, hb, hml, hown, hts⟩ ((cR_begin l dC dI cI cC cL sk sv ad N (28 : Int32) z0 s1 r1 hc1) _) ⟨(callB_of 1 hts (tb_good tw304) rfl rfl rfl (ht _ tw2) (ht _ tw301) (by decide +kernel) ⟨by dsimp only; omega, by dsimp only; omega⟩), ht _ tw303, ht _ (tb_sel pv_R_begin)⟩ (jpreV (jEn_ok sk sv) hC hA hK hN (wR_e0 cI cC ad z0) rfl rfl _) rfl rfl hl.1 rfl (lv_room (Nat.le_of_ble_eq_true rfl)) dR_parentheses_3 ⟨Nat.le_refl _, Nat.le_refl _⟩) hC hA (fun H locs hC => ?_)
  refine lv_istore_n (lv' := [(2, .int r1), (0, .ref (ad 0)), (1, .int a0)]) hx hb dR_parentheses_6 rfl hl (by decide) rfl (fun ls hl => ?_)
  refine lv_aload_n hx hb dR_parentheses_7 rfl (lv_at hl 1 rfl) ?_
  obtain ⟨r2, s2, hc2, hf⟩ := jB_some hf
  refine jcall_v (va_runV (C := RcR) (As := []) (rest := []) ⟨hx, hb, hml, hown, hts⟩ ((cR_take l dC dI cI cC cL sk sv ad N s1 s2 r2 hc2) _) ⟨(callB_of 0 hts (tb_good tw339) rfl rfl rfl (ht _ tw2) (ht _ tw336) (by decide +kernel) ⟨by dsimp only; omega, by dsimp only; omega⟩), ht _ tw338, ht _ (tb_sel pv_R_take)⟩ (jpreV (jEn_ok sk sv) hC hA hK hN (wR_e0 cI cC ad s1) rfl rfl _) rfl rfl hl.1 rfl (lv_room (Nat.le_of_ble_eq_true rfl)) dR_parentheses_8 ⟨Nat.le_refl _, Nat.le_refl _⟩) hC hA (fun H locs hC => ?_)
  refine lv_aload_n hx hb dR_parentheses_11 rfl (lv_at hl 1 rfl) ?_
  refine lv_iload_n hx hb dR_parentheses_12 rfl (lv_at hl 2 rfl) ?_
  refine lv_iconst (v := 1) hx hb dR_parentheses_13 (by decide) ?_
  refine lv_iadd hx hb dR_parentheses_14 ?_
  obtain ⟨r3, s3, hc3, hf⟩ := jB_some hf
  refine jcall_v (va_runV (C := RcR) (As := [.int (a0 + (1 : Int32))]) (rest := []) ⟨hx, hb, hml, hown, hts⟩ ((hg0 (a0 + (1 : Int32)) s2 r3 s3 hc3) _) ⟨(callB_of 1 hts (tb_good tw387) rfl rfl rfl (ht _ tw2) (ht _ tw384) (by decide +kernel) ⟨by dsimp only; omega, by dsimp only; omega⟩), ht _ tw386, ht _ (tb_sel pv_R_expression)⟩ (jpreV (jEn_ok sk sv) hC hA hK hN (wR_e0 cI cC ad s2) rfl rfl _) rfl rfl hl.1 rfl (lv_room (Nat.le_of_ble_eq_true rfl)) dR_parentheses_15 ⟨Nat.le_refl _, Nat.le_refl _⟩) hC hA (fun H locs hC => ?_)
  refine lv_aload_n hx hb dR_parentheses_18 rfl (lv_at hl 1 rfl) ?_
  refine lv_bipush (v := 10) hx hb dR_parentheses_19 (by decide) ?_
  obtain ⟨r4, s4, hc4, hf⟩ := jB_some hf
  refine jcall_v (va_runV (C := RcR) (As := [.int (10 : Int32)]) (rest := []) ⟨hx, hb, hml, hown, hts⟩ ((cR_expect l dC dI cI cC cL sk sv ad N (10 : Int32) s3 s4 r4 hc4) _) ⟨(callB_of 1 hts (tb_good tw371) rfl rfl rfl (ht _ tw2) (ht _ tw368) (by decide +kernel) ⟨by dsimp only; omega, by dsimp only; omega⟩), ht _ tw370, ht _ (tb_sel pv_R_expect)⟩ (jpreV (jEn_ok sk sv) hC hA hK hN (wR_e0 cI cC ad s3) rfl rfl _) rfl rfl hl.1 rfl (lv_room (Nat.le_of_ble_eq_true rfl)) dR_parentheses_21 ⟨Nat.le_refl _, Nat.le_refl _⟩) hC hA (fun H locs hC => ?_)
  refine lv_aload_n hx hb dR_parentheses_24 rfl (lv_at hl 1 rfl) ?_
  refine va_get (D := (dC, dI)) (ci := 3) (v := .ref (ad 1)) (C := RcR) (T := TcR) (N := 10) hx hb ht in_cR hown hK hC.1 0 (wR_e0 cI cC ad s4) rfl 1 (by decide) (ht _ tw114) (fun _ h9 => h9) rfl dR_parentheses_25 ?_
  refine lv_iload_n hx hb dR_parentheses_28 rfl (lv_at hl 0 rfl) ?_
  obtain ⟨r5, s5, hc5, hf⟩ := jB_some hf
  refine jcall_v (va_runV (C := RcT) (As := [.int r1]) (rest := []) ⟨hx, hb, hml, hown, hts⟩ ((cT_close l dC dI cI cC cL sk sv ad N r1 s4 s5 r5 hc5) _) ⟨(callB_of 1 hts (tb_good tw359) rfl rfl rfl (ht _ tw4) (ht _ tw356) (by decide +kernel) ⟨by dsimp only; omega, by dsimp only; omega⟩), ht _ tw357, ht _ tw358⟩ (jpreV (jEn_ok sk sv) hC hA hK hN (wR_e1 cI cC ad s4) rfl rfl _) rfl rfl hl.1 rfl (lv_room (Nat.le_of_ble_eq_true rfl)) dR_parentheses_29 ⟨Nat.le_refl _, Nat.le_refl _⟩) hC hA (fun H locs hC => ?_)
  cases hf
  exact jret_v hx hb hr hlk hC hK dR_parentheses_32

def fR_negative (N : Nat) (g : Nat → Int32 → jS → Option (Int32 × jS)) (a0 : Int32) (z0 : jS) : Option (Int32 × jS) := (jB (fR_begin N (27 : Int32) z0) fun r1 s1 => (jB (fR_take N s1) fun r2 s2 => (jB (g 1 (a0 + (1 : Int32)) s2) fun r3 s3 => (jB (fT_close N r1 s3) fun r4 s4 => some (0, s4)))))
set_option maxHeartbeats 4000000 in
set_option maxRecDepth 100000 in
theorem cR_negative (l : Launch) (dC : Nat → ClassId) (dI : Nat → Nat → Nat) (cI cC cL : ClassId) (sk sv : Nat → Nat) (ad : Nat → Nat) (N : Nat) (g : Nat → Int32 → jS → Option (Int32 × jS)) (d : Nat) (hg0 : ∀ (a : Int32) (s : jS) (r : Int32) (s1 : jS), g 0 a s = some (r, s1) → Cv l yR_expression (Cond.code yR_expression prog_4_method_20_code 7 none :: TB) ({ frames := 3 + d, cells := 0, slots := 0, locals := 104 + d * 40 }) (dC, dI) vwCl [(cI, .int), (cC, .char), (cL, .object "SharedSyntax$Letters")] (jEn sk sv) [.ref (ad 0), .int a] (wR cI cC ad s) (wR cI cC ad s1)) (hg1 : ∀ (a : Int32) (s : jS) (r : Int32) (s1 : jS), g 1 a s = some (r, s1) → Cv l yR_operand (Cond.code yR_operand prog_4_method_24_code 4 none :: TB) ({ frames := 3 + d, cells := 0, slots := 0, locals := 104 + d * 40 }) (dC, dI) vwCl [(cI, .int), (cC, .char), (cL, .object "SharedSyntax$Letters")] (jEn sk sv) [.ref (ad 0), .int a] (wR cI cC ad s) (wR cI cC ad s1)) (hg2 : ∀ (a : Int32) (s : jS) (r : Int32) (s1 : jS), g 2 a s = some (r, s1) → Cv l yR_parentheses (Cond.code yR_parentheses prog_4_method_25_code 3 none :: TB) ({ frames := 3 + d, cells := 0, slots := 0, locals := 104 + d * 40 }) (dC, dI) vwCl [(cI, .int), (cC, .char), (cL, .object "SharedSyntax$Letters")] (jEn sk sv) [.ref (ad 0), .int a] (wR cI cC ad s) (wR cI cC ad s1)) (hg3 : ∀ (a : Int32) (s : jS) (r : Int32) (s1 : jS), g 3 a s = some (r, s1) → Cv l yR_negative (Cond.code yR_negative prog_4_method_26_code 3 none :: TB) ({ frames := 3 + d, cells := 0, slots := 0, locals := 104 + d * 40 }) (dC, dI) vwCl [(cI, .int), (cC, .char), (cL, .object "SharedSyntax$Letters")] (jEn sk sv) [.ref (ad 0), .int a] (wR cI cC ad s) (wR cI cC ad s1)) (a0 : Int32) (z0 z1 : jS) (r : Int32) (hf : fR_negative N g a0 z0 = some (r, z1)) : Cv l yR_negative (Cond.code yR_negative prog_4_method_26_code 3 none :: TB) ({ frames := 3 + (d + 1), cells := 0, slots := 0, locals := 104 + (d + 1) * 40 }) (dC, dI) vwCl [(cI, .int), (cC, .char), (cL, .object "SharedSyntax$Letters")] (jEn sk sv) [.ref (ad 0), .int a0] (wR cI cC ad z0) (wR cI cC ad z1) := by
  refine Cv_of (cc := prog_4_method_26_code) (maxL := 3) (ret := none) (by decide) rfl (Nat.le_of_ble_eq_true rfl) ?_
  intro p e s m below meth c ls F hl hK hN hC
  obtain ⟨hx, hb, hml, hown, hts, hr, hlk⟩ := F
  have ht : ∀ w ∈ TB, w.before [.ref (ad 0), .int a0].toArray s = true := fun w h => hts w (List.mem_cons_of_mem _ h)
  have hA : ∀ q, s.heap.size ≤ q → va_A (wR cI cC ad z0) s.heap.size q := fun q h => Or.inr h
  have hl : lv_has ls 3 [(0, .ref (ad 0)), (1, .int a0)] := hl
  unfold fR_negative at hf
  refine lv_aload_n hx hb dR_negative_0 rfl (lv_at hl 0 rfl) ?_
  refine lv_bipush (v := 27) hx hb dR_negative_1 (by decide) ?_
  obtain ⟨r1, s1, hc1, hf⟩ := jB_some hf
  refine jcall_i (va_runV (C := RcR) (As := [.int (27 : Int32)]) (rest := []) ⟨hx, hb, hml, hown, hts⟩ ((cR_begin l dC dI cI cC cL sk sv ad N (27 : Int32) z0 s1 r1 hc1) _) ⟨(callB_of 1 hts (tb_good tw304) rfl rfl rfl (ht _ tw2) (ht _ tw301) (by decide +kernel) ⟨by dsimp only; omega, by dsimp only; omega⟩), ht _ tw303, ht _ (tb_sel pv_R_begin)⟩ (jpreV (jEn_ok sk sv) hC hA hK hN (wR_e0 cI cC ad z0) rfl rfl _) rfl rfl hl.1 rfl (lv_room (Nat.le_of_ble_eq_true rfl)) dR_negative_3 ⟨Nat.le_refl _, Nat.le_refl _⟩) hC hA (fun H locs hC => ?_)
  refine lv_istore_n (lv' := [(2, .int r1), (0, .ref (ad 0)), (1, .int a0)]) hx hb dR_negative_6 rfl hl (by decide) rfl (fun ls hl => ?_)
  refine lv_aload_n hx hb dR_negative_7 rfl (lv_at hl 1 rfl) ?_
  obtain ⟨r2, s2, hc2, hf⟩ := jB_some hf
  refine jcall_v (va_runV (C := RcR) (As := []) (rest := []) ⟨hx, hb, hml, hown, hts⟩ ((cR_take l dC dI cI cC cL sk sv ad N s1 s2 r2 hc2) _) ⟨(callB_of 0 hts (tb_good tw339) rfl rfl rfl (ht _ tw2) (ht _ tw336) (by decide +kernel) ⟨by dsimp only; omega, by dsimp only; omega⟩), ht _ tw338, ht _ (tb_sel pv_R_take)⟩ (jpreV (jEn_ok sk sv) hC hA hK hN (wR_e0 cI cC ad s1) rfl rfl _) rfl rfl hl.1 rfl (lv_room (Nat.le_of_ble_eq_true rfl)) dR_negative_8 ⟨Nat.le_refl _, Nat.le_refl _⟩) hC hA (fun H locs hC => ?_)
  refine lv_aload_n hx hb dR_negative_11 rfl (lv_at hl 1 rfl) ?_
  refine lv_iload_n hx hb dR_negative_12 rfl (lv_at hl 2 rfl) ?_
  refine lv_iconst (v := 1) hx hb dR_negative_13 (by decide) ?_
  refine lv_iadd hx hb dR_negative_14 ?_
  obtain ⟨r3, s3, hc3, hf⟩ := jB_some hf
  refine jcall_v (va_runV (C := RcR) (As := [.int (a0 + (1 : Int32))]) (rest := []) ⟨hx, hb, hml, hown, hts⟩ ((hg1 (a0 + (1 : Int32)) s2 r3 s3 hc3) _) ⟨(callB_of 1 hts (tb_good tw391) rfl rfl rfl (ht _ tw2) (ht _ tw388) (by decide +kernel) ⟨by dsimp only; omega, by dsimp only; omega⟩), ht _ tw390, ht _ (tb_sel pv_R_operand)⟩ (jpreV (jEn_ok sk sv) hC hA hK hN (wR_e0 cI cC ad s2) rfl rfl _) rfl rfl hl.1 rfl (lv_room (Nat.le_of_ble_eq_true rfl)) dR_negative_15 ⟨Nat.le_refl _, Nat.le_refl _⟩) hC hA (fun H locs hC => ?_)
  refine lv_aload_n hx hb dR_negative_18 rfl (lv_at hl 1 rfl) ?_
  refine va_get (D := (dC, dI)) (ci := 3) (v := .ref (ad 1)) (C := RcR) (T := TcR) (N := 10) hx hb ht in_cR hown hK hC.1 0 (wR_e0 cI cC ad s3) rfl 1 (by decide) (ht _ tw114) (fun _ h9 => h9) rfl dR_negative_19 ?_
  refine lv_iload_n hx hb dR_negative_22 rfl (lv_at hl 0 rfl) ?_
  obtain ⟨r4, s4, hc4, hf⟩ := jB_some hf
  refine jcall_v (va_runV (C := RcT) (As := [.int r1]) (rest := []) ⟨hx, hb, hml, hown, hts⟩ ((cT_close l dC dI cI cC cL sk sv ad N r1 s3 s4 r4 hc4) _) ⟨(callB_of 1 hts (tb_good tw359) rfl rfl rfl (ht _ tw4) (ht _ tw356) (by decide +kernel) ⟨by dsimp only; omega, by dsimp only; omega⟩), ht _ tw357, ht _ tw358⟩ (jpreV (jEn_ok sk sv) hC hA hK hN (wR_e1 cI cC ad s3) rfl rfl _) rfl rfl hl.1 rfl (lv_room (Nat.le_of_ble_eq_true rfl)) dR_negative_23 ⟨Nat.le_refl _, Nat.le_refl _⟩) hC hA (fun H locs hC => ?_)
  cases hf
  exact jret_v hx hb hr hlk hC hK dR_negative_26

def gex (N : Nat) : Nat → Nat → Int32 → jS → Option (Int32 × jS)
  | 0 => fun _ _ _ => none
  | d + 1 => fun t a s => (if t = 0 then fR_expression N (gex N d) a s else (if t = 1 then fR_operand N (gex N d) a s else (if t = 2 then fR_parentheses N (gex N d) a s else (if t = 3 then fR_negative N (gex N d) a s else none))))

theorem cgex (l : Launch) (dC : Nat → ClassId) (dI : Nat → Nat → Nat) (cI cC cL : ClassId) (sk sv ad : Nat → Nat) (N : Nat) : ∀ d : Nat, (∀ (a : Int32) (s : jS) (r : Int32) (s1 : jS), gex N d 0 a s = some (r, s1) → Cv l yR_expression (Cond.code yR_expression prog_4_method_20_code 7 none :: TB) ({ frames := 3 + d, cells := 0, slots := 0, locals := 104 + d * 40 }) (dC, dI) vwCl [(cI, .int), (cC, .char), (cL, .object "SharedSyntax$Letters")] (jEn sk sv) [.ref (ad 0), .int a] (wR cI cC ad s) (wR cI cC ad s1)) ∧ (∀ (a : Int32) (s : jS) (r : Int32) (s1 : jS), gex N d 1 a s = some (r, s1) → Cv l yR_operand (Cond.code yR_operand prog_4_method_24_code 4 none :: TB) ({ frames := 3 + d, cells := 0, slots := 0, locals := 104 + d * 40 }) (dC, dI) vwCl [(cI, .int), (cC, .char), (cL, .object "SharedSyntax$Letters")] (jEn sk sv) [.ref (ad 0), .int a] (wR cI cC ad s) (wR cI cC ad s1)) ∧ (∀ (a : Int32) (s : jS) (r : Int32) (s1 : jS), gex N d 2 a s = some (r, s1) → Cv l yR_parentheses (Cond.code yR_parentheses prog_4_method_25_code 3 none :: TB) ({ frames := 3 + d, cells := 0, slots := 0, locals := 104 + d * 40 }) (dC, dI) vwCl [(cI, .int), (cC, .char), (cL, .object "SharedSyntax$Letters")] (jEn sk sv) [.ref (ad 0), .int a] (wR cI cC ad s) (wR cI cC ad s1)) ∧ (∀ (a : Int32) (s : jS) (r : Int32) (s1 : jS), gex N d 3 a s = some (r, s1) → Cv l yR_negative (Cond.code yR_negative prog_4_method_26_code 3 none :: TB) ({ frames := 3 + d, cells := 0, slots := 0, locals := 104 + d * 40 }) (dC, dI) vwCl [(cI, .int), (cC, .char), (cL, .object "SharedSyntax$Letters")] (jEn sk sv) [.ref (ad 0), .int a] (wR cI cC ad s) (wR cI cC ad s1)) := by
  intro d
  induction d with
  | zero => exact ⟨fun _ _ _ _ h => (nomatch h), fun _ _ _ _ h => (nomatch h), fun _ _ _ _ h => (nomatch h), fun _ _ _ _ h => (nomatch h)⟩
  | succ d ih =>
    obtain ⟨h0, h1, h2, h3⟩ := ih
    exact ⟨fun a s r s1 h => cR_expression l dC dI cI cC cL sk sv ad N (gex N d) d h0 h1 h2 h3 a s s1 r h, fun a s r s1 h => cR_operand l dC dI cI cC cL sk sv ad N (gex N d) d h0 h1 h2 h3 a s s1 r h, fun a s r s1 h => cR_parentheses l dC dI cI cC cL sk sv ad N (gex N d) d h0 h1 h2 h3 a s s1 r h, fun a s r s1 h => cR_negative l dC dI cI cC cL sk sv ad N (gex N d) d h0 h1 h2 h3 a s s1 r h⟩

theorem cgex_0 (l : Launch) (dC : Nat → ClassId) (dI : Nat → Nat → Nat) (cI cC cL : ClassId) (sk sv ad : Nat → Nat) (N : Nat) (d : Nat) (a : Int32) (s s1 : jS) (r : Int32) (h : gex N d 0 a s = some (r, s1)) : Cv l yR_expression (Cond.code yR_expression prog_4_method_20_code 7 none :: TB) ({ frames := 3 + d, cells := 0, slots := 0, locals := 104 + d * 40 }) (dC, dI) vwCl [(cI, .int), (cC, .char), (cL, .object "SharedSyntax$Letters")] (jEn sk sv) [.ref (ad 0), .int a] (wR cI cC ad s) (wR cI cC ad s1) := (cgex l dC dI cI cC cL sk sv ad N d).1 a s r s1 h

theorem cgex_1 (l : Launch) (dC : Nat → ClassId) (dI : Nat → Nat → Nat) (cI cC cL : ClassId) (sk sv ad : Nat → Nat) (N : Nat) (d : Nat) (a : Int32) (s s1 : jS) (r : Int32) (h : gex N d 1 a s = some (r, s1)) : Cv l yR_operand (Cond.code yR_operand prog_4_method_24_code 4 none :: TB) ({ frames := 3 + d, cells := 0, slots := 0, locals := 104 + d * 40 }) (dC, dI) vwCl [(cI, .int), (cC, .char), (cL, .object "SharedSyntax$Letters")] (jEn sk sv) [.ref (ad 0), .int a] (wR cI cC ad s) (wR cI cC ad s1) := (cgex l dC dI cI cC cL sk sv ad N d).2.1 a s r s1 h

theorem cgex_2 (l : Launch) (dC : Nat → ClassId) (dI : Nat → Nat → Nat) (cI cC cL : ClassId) (sk sv ad : Nat → Nat) (N : Nat) (d : Nat) (a : Int32) (s s1 : jS) (r : Int32) (h : gex N d 2 a s = some (r, s1)) : Cv l yR_parentheses (Cond.code yR_parentheses prog_4_method_25_code 3 none :: TB) ({ frames := 3 + d, cells := 0, slots := 0, locals := 104 + d * 40 }) (dC, dI) vwCl [(cI, .int), (cC, .char), (cL, .object "SharedSyntax$Letters")] (jEn sk sv) [.ref (ad 0), .int a] (wR cI cC ad s) (wR cI cC ad s1) := (cgex l dC dI cI cC cL sk sv ad N d).2.2.1 a s r s1 h

theorem cgex_3 (l : Launch) (dC : Nat → ClassId) (dI : Nat → Nat → Nat) (cI cC cL : ClassId) (sk sv ad : Nat → Nat) (N : Nat) (d : Nat) (a : Int32) (s s1 : jS) (r : Int32) (h : gex N d 3 a s = some (r, s1)) : Cv l yR_negative (Cond.code yR_negative prog_4_method_26_code 3 none :: TB) ({ frames := 3 + d, cells := 0, slots := 0, locals := 104 + d * 40 }) (dC, dI) vwCl [(cI, .int), (cC, .char), (cL, .object "SharedSyntax$Letters")] (jEn sk sv) [.ref (ad 0), .int a] (wR cI cC ad s) (wR cI cC ad s1) := (cgex l dC dI cI cC cL sk sv ad N d).2.2.2 a s r s1 h

def fR_condition (N : Nat) (z0 : jS) : Option (Int32 × jS) := (jB (fR_expect N (9 : Int32) z0) fun r1 s1 => (jB (gex N 30 0 (0 : Int32) s1) fun r2 s2 => (jB (fR_expect N (10 : Int32) s2) fun r3 s3 => some (0, s3))))
set_option maxHeartbeats 4000000 in
set_option maxRecDepth 100000 in
theorem cR_condition (l : Launch) (dC : Nat → ClassId) (dI : Nat → Nat → Nat) (cI cC cL : ClassId) (sk sv : Nat → Nat) (ad : Nat → Nat) (N : Nat) (z0 z1 : jS) (r : Int32) (hf : fR_condition N z0 = some (r, z1)) : Cv l yR_condition (Cond.code yR_condition prog_4_method_18_code 1 none :: TB) ({ frames := 34, cells := 0, slots := 0, locals := 1330 }) (dC, dI) vwCl [(cI, .int), (cC, .char), (cL, .object "SharedSyntax$Letters")] (jEn sk sv) [.ref (ad 0)] (wR cI cC ad z0) (wR cI cC ad z1) := by
  refine Cv_of (cc := prog_4_method_18_code) (maxL := 1) (ret := none) (by decide) rfl (Nat.le_of_ble_eq_true rfl) ?_
  intro p e s m below meth c ls F hl hK hN hC
  obtain ⟨hx, hb, hml, hown, hts, hr, hlk⟩ := F
  have ht : ∀ w ∈ TB, w.before [.ref (ad 0)].toArray s = true := fun w h => hts w (List.mem_cons_of_mem _ h)
  have hA : ∀ q, s.heap.size ≤ q → va_A (wR cI cC ad z0) s.heap.size q := fun q h => Or.inr h
  have hl : lv_has ls 1 [(0, .ref (ad 0))] := hl
  unfold fR_condition at hf
  refine lv_aload_n hx hb dR_condition_0 rfl (lv_at hl 0 rfl) ?_
  refine lv_bipush (v := 9) hx hb dR_condition_1 (by decide) ?_
  obtain ⟨r1, s1, hc1, hf⟩ := jB_some hf
  refine jcall_v (va_runV (C := RcR) (As := [.int (9 : Int32)]) (rest := []) ⟨hx, hb, hml, hown, hts⟩ ((cR_expect l dC dI cI cC cL sk sv ad N (9 : Int32) z0 s1 r1 hc1) _) ⟨(callB_of 1 hts (tb_good tw371) rfl rfl rfl (ht _ tw2) (ht _ tw368) (by decide +kernel) ⟨Nat.le_of_ble_eq_true rfl, Nat.le_of_ble_eq_true rfl⟩), ht _ tw370, ht _ (tb_sel pv_R_expect)⟩ (jpreV (jEn_ok sk sv) hC hA hK hN (wR_e0 cI cC ad z0) rfl rfl _) rfl rfl hl.1 rfl (lv_room (Nat.le_of_ble_eq_true rfl)) dR_condition_3 ⟨Nat.le_refl _, Nat.le_refl _⟩) hC hA (fun H locs hC => ?_)
  refine lv_aload_n hx hb dR_condition_6 rfl (lv_at hl 0 rfl) ?_
  refine lv_iconst (v := 0) hx hb dR_condition_7 (by decide) ?_
  obtain ⟨r2, s2, hc2, hf⟩ := jB_some hf
  refine jcall_v (va_runV (C := RcR) (As := [.int (0 : Int32)]) (rest := []) ⟨hx, hb, hml, hown, hts⟩ ((cgex_0 l dC dI cI cC cL sk sv ad N 30 (0 : Int32) s1 s2 r2 hc2) _) ⟨(callB_of 1 hts (tb_good tw387) rfl rfl rfl (ht _ tw2) (ht _ tw384) (by decide +kernel) ⟨Nat.le_of_ble_eq_true rfl, Nat.le_of_ble_eq_true rfl⟩), ht _ tw386, ht _ (tb_sel pv_R_expression)⟩ (jpreV (jEn_ok sk sv) hC hA hK hN (wR_e0 cI cC ad s1) rfl rfl _) rfl rfl hl.1 rfl (lv_room (Nat.le_of_ble_eq_true rfl)) dR_condition_8 ⟨Nat.le_refl _, Nat.le_refl _⟩) hC hA (fun H locs hC => ?_)
  refine lv_aload_n hx hb dR_condition_11 rfl (lv_at hl 0 rfl) ?_
  refine lv_bipush (v := 10) hx hb dR_condition_12 (by decide) ?_
  obtain ⟨r3, s3, hc3, hf⟩ := jB_some hf
  refine jcall_v (va_runV (C := RcR) (As := [.int (10 : Int32)]) (rest := []) ⟨hx, hb, hml, hown, hts⟩ ((cR_expect l dC dI cI cC cL sk sv ad N (10 : Int32) s2 s3 r3 hc3) _) ⟨(callB_of 1 hts (tb_good tw371) rfl rfl rfl (ht _ tw2) (ht _ tw368) (by decide +kernel) ⟨Nat.le_of_ble_eq_true rfl, Nat.le_of_ble_eq_true rfl⟩), ht _ tw370, ht _ (tb_sel pv_R_expect)⟩ (jpreV (jEn_ok sk sv) hC hA hK hN (wR_e0 cI cC ad s2) rfl rfl _) rfl rfl hl.1 rfl (lv_room (Nat.le_of_ble_eq_true rfl)) dR_condition_14 ⟨Nat.le_refl _, Nat.le_refl _⟩) hC hA (fun H locs hC => ?_)
  cases hf
  exact jret_v hx hb hr hlk hC hK dR_condition_17

def fR_simpleStatement (N : Nat) (z0 : jS) : Option (Int32 × jS) := (jB (fR_begin N (24 : Int32) z0) fun r1 s1 => (jB (gex N 30 0 (0 : Int32) s1) fun r2 s2 => (jB (fR_expect N (6 : Int32) s2) fun r3 s3 => (jB (fT_close N r1 s3) fun r4 s4 => some (0, s4)))))
set_option maxHeartbeats 4000000 in
set_option maxRecDepth 100000 in
theorem cR_simpleStatement (l : Launch) (dC : Nat → ClassId) (dI : Nat → Nat → Nat) (cI cC cL : ClassId) (sk sv : Nat → Nat) (ad : Nat → Nat) (N : Nat) (z0 z1 : jS) (r : Int32) (hf : fR_simpleStatement N z0 = some (r, z1)) : Cv l yR_simpleStatement (Cond.code yR_simpleStatement prog_4_method_17_code 2 none :: TB) ({ frames := 34, cells := 0, slots := 0, locals := 1330 }) (dC, dI) vwCl [(cI, .int), (cC, .char), (cL, .object "SharedSyntax$Letters")] (jEn sk sv) [.ref (ad 0)] (wR cI cC ad z0) (wR cI cC ad z1) := by
  refine Cv_of (cc := prog_4_method_17_code) (maxL := 2) (ret := none) (by decide) rfl (Nat.le_of_ble_eq_true rfl) ?_
  intro p e s m below meth c ls F hl hK hN hC
  obtain ⟨hx, hb, hml, hown, hts, hr, hlk⟩ := F
  have ht : ∀ w ∈ TB, w.before [.ref (ad 0)].toArray s = true := fun w h => hts w (List.mem_cons_of_mem _ h)
  have hA : ∀ q, s.heap.size ≤ q → va_A (wR cI cC ad z0) s.heap.size q := fun q h => Or.inr h
  have hl : lv_has ls 2 [(0, .ref (ad 0))] := hl
  unfold fR_simpleStatement at hf
  refine lv_aload_n hx hb dR_simpleStatement_0 rfl (lv_at hl 0 rfl) ?_
  refine lv_bipush (v := 24) hx hb dR_simpleStatement_1 (by decide) ?_
  obtain ⟨r1, s1, hc1, hf⟩ := jB_some hf
  refine jcall_i (va_runV (C := RcR) (As := [.int (24 : Int32)]) (rest := []) ⟨hx, hb, hml, hown, hts⟩ ((cR_begin l dC dI cI cC cL sk sv ad N (24 : Int32) z0 s1 r1 hc1) _) ⟨(callB_of 1 hts (tb_good tw304) rfl rfl rfl (ht _ tw2) (ht _ tw301) (by decide +kernel) ⟨Nat.le_of_ble_eq_true rfl, Nat.le_of_ble_eq_true rfl⟩), ht _ tw303, ht _ (tb_sel pv_R_begin)⟩ (jpreV (jEn_ok sk sv) hC hA hK hN (wR_e0 cI cC ad z0) rfl rfl _) rfl rfl hl.1 rfl (lv_room (Nat.le_of_ble_eq_true rfl)) dR_simpleStatement_3 ⟨Nat.le_refl _, Nat.le_refl _⟩) hC hA (fun H locs hC => ?_)
  refine lv_istore_n (lv' := [(1, .int r1), (0, .ref (ad 0))]) hx hb dR_simpleStatement_6 rfl hl (by decide) rfl (fun ls hl => ?_)
  refine lv_aload_n hx hb dR_simpleStatement_7 rfl (lv_at hl 1 rfl) ?_
  refine lv_iconst (v := 0) hx hb dR_simpleStatement_8 (by decide) ?_
  obtain ⟨r2, s2, hc2, hf⟩ := jB_some hf
  refine jcall_v (va_runV (C := RcR) (As := [.int (0 : Int32)]) (rest := []) ⟨hx, hb, hml, hown, hts⟩ ((cgex_0 l dC dI cI cC cL sk sv ad N 30 (0 : Int32) s1 s2 r2 hc2) _) ⟨(callB_of 1 hts (tb_good tw387) rfl rfl rfl (ht _ tw2) (ht _ tw384) (by decide +kernel) ⟨Nat.le_of_ble_eq_true rfl, Nat.le_of_ble_eq_true rfl⟩), ht _ tw386, ht _ (tb_sel pv_R_expression)⟩ (jpreV (jEn_ok sk sv) hC hA hK hN (wR_e0 cI cC ad s1) rfl rfl _) rfl rfl hl.1 rfl (lv_room (Nat.le_of_ble_eq_true rfl)) dR_simpleStatement_9 ⟨Nat.le_refl _, Nat.le_refl _⟩) hC hA (fun H locs hC => ?_)
  refine lv_aload_n hx hb dR_simpleStatement_12 rfl (lv_at hl 1 rfl) ?_
  refine lv_bipush (v := 6) hx hb dR_simpleStatement_13 (by decide) ?_
  obtain ⟨r3, s3, hc3, hf⟩ := jB_some hf
  refine jcall_v (va_runV (C := RcR) (As := [.int (6 : Int32)]) (rest := []) ⟨hx, hb, hml, hown, hts⟩ ((cR_expect l dC dI cI cC cL sk sv ad N (6 : Int32) s2 s3 r3 hc3) _) ⟨(callB_of 1 hts (tb_good tw371) rfl rfl rfl (ht _ tw2) (ht _ tw368) (by decide +kernel) ⟨Nat.le_of_ble_eq_true rfl, Nat.le_of_ble_eq_true rfl⟩), ht _ tw370, ht _ (tb_sel pv_R_expect)⟩ (jpreV (jEn_ok sk sv) hC hA hK hN (wR_e0 cI cC ad s2) rfl rfl _) rfl rfl hl.1 rfl (lv_room (Nat.le_of_ble_eq_true rfl)) dR_simpleStatement_15 ⟨Nat.le_refl _, Nat.le_refl _⟩) hC hA (fun H locs hC => ?_)
  refine lv_aload_n hx hb dR_simpleStatement_18 rfl (lv_at hl 1 rfl) ?_
  refine va_get (D := (dC, dI)) (ci := 3) (v := .ref (ad 1)) (C := RcR) (T := TcR) (N := 10) hx hb ht in_cR hown hK hC.1 0 (wR_e0 cI cC ad s3) rfl 1 (by decide) (ht _ tw114) (fun _ h9 => h9) rfl dR_simpleStatement_19 ?_
  refine lv_iload_n hx hb dR_simpleStatement_22 rfl (lv_at hl 0 rfl) ?_
  obtain ⟨r4, s4, hc4, hf⟩ := jB_some hf
  refine jcall_v (va_runV (C := RcT) (As := [.int r1]) (rest := []) ⟨hx, hb, hml, hown, hts⟩ ((cT_close l dC dI cI cC cL sk sv ad N r1 s3 s4 r4 hc4) _) ⟨(callB_of 1 hts (tb_good tw359) rfl rfl rfl (ht _ tw4) (ht _ tw356) (by decide +kernel) ⟨Nat.le_of_ble_eq_true rfl, Nat.le_of_ble_eq_true rfl⟩), ht _ tw357, ht _ tw358⟩ (jpreV (jEn_ok sk sv) hC hA hK hN (wR_e1 cI cC ad s3) rfl rfl _) rfl rfl hl.1 rfl (lv_room (Nat.le_of_ble_eq_true rfl)) dR_simpleStatement_23 ⟨Nat.le_refl _, Nat.le_refl _⟩) hC hA (fun H locs hC => ?_)
  cases hf
  exact jret_v hx hb hr hlk hC hK dR_simpleStatement_26

def fR_emptyStatement (N : Nat) (z0 : jS) : Option (Int32 × jS) := (jB (fR_begin N (25 : Int32) z0) fun r1 s1 => (jB (fR_take N s1) fun r2 s2 => (jB (fT_close N r1 s2) fun r3 s3 => some (0, s3))))
set_option maxHeartbeats 4000000 in
set_option maxRecDepth 100000 in
theorem cR_emptyStatement (l : Launch) (dC : Nat → ClassId) (dI : Nat → Nat → Nat) (cI cC cL : ClassId) (sk sv : Nat → Nat) (ad : Nat → Nat) (N : Nat) (z0 z1 : jS) (r : Int32) (hf : fR_emptyStatement N z0 = some (r, z1)) : Cv l yR_emptyStatement (Cond.code yR_emptyStatement prog_4_method_13_code 2 none :: TB) ({ frames := 2, cells := 0, slots := 0, locals := 44 }) (dC, dI) vwCl [(cI, .int), (cC, .char), (cL, .object "SharedSyntax$Letters")] (jEn sk sv) [.ref (ad 0)] (wR cI cC ad z0) (wR cI cC ad z1) := by
  refine Cv_of (cc := prog_4_method_13_code) (maxL := 2) (ret := none) (by decide) rfl (Nat.le_of_ble_eq_true rfl) ?_
  intro p e s m below meth c ls F hl hK hN hC
  obtain ⟨hx, hb, hml, hown, hts, hr, hlk⟩ := F
  have ht : ∀ w ∈ TB, w.before [.ref (ad 0)].toArray s = true := fun w h => hts w (List.mem_cons_of_mem _ h)
  have hA : ∀ q, s.heap.size ≤ q → va_A (wR cI cC ad z0) s.heap.size q := fun q h => Or.inr h
  have hl : lv_has ls 2 [(0, .ref (ad 0))] := hl
  unfold fR_emptyStatement at hf
  refine lv_aload_n hx hb dR_emptyStatement_0 rfl (lv_at hl 0 rfl) ?_
  refine lv_bipush (v := 25) hx hb dR_emptyStatement_1 (by decide) ?_
  obtain ⟨r1, s1, hc1, hf⟩ := jB_some hf
  refine jcall_i (va_runV (C := RcR) (As := [.int (25 : Int32)]) (rest := []) ⟨hx, hb, hml, hown, hts⟩ ((cR_begin l dC dI cI cC cL sk sv ad N (25 : Int32) z0 s1 r1 hc1) _) ⟨(callB_of 1 hts (tb_good tw304) rfl rfl rfl (ht _ tw2) (ht _ tw301) (by decide +kernel) ⟨Nat.le_of_ble_eq_true rfl, Nat.le_of_ble_eq_true rfl⟩), ht _ tw303, ht _ (tb_sel pv_R_begin)⟩ (jpreV (jEn_ok sk sv) hC hA hK hN (wR_e0 cI cC ad z0) rfl rfl _) rfl rfl hl.1 rfl (lv_room (Nat.le_of_ble_eq_true rfl)) dR_emptyStatement_3 ⟨Nat.le_refl _, Nat.le_refl _⟩) hC hA (fun H locs hC => ?_)
  refine lv_istore_n (lv' := [(1, .int r1), (0, .ref (ad 0))]) hx hb dR_emptyStatement_6 rfl hl (by decide) rfl (fun ls hl => ?_)
  refine lv_aload_n hx hb dR_emptyStatement_7 rfl (lv_at hl 1 rfl) ?_
  obtain ⟨r2, s2, hc2, hf⟩ := jB_some hf
  refine jcall_v (va_runV (C := RcR) (As := []) (rest := []) ⟨hx, hb, hml, hown, hts⟩ ((cR_take l dC dI cI cC cL sk sv ad N s1 s2 r2 hc2) _) ⟨(callB_of 0 hts (tb_good tw339) rfl rfl rfl (ht _ tw2) (ht _ tw336) (by decide +kernel) ⟨Nat.le_of_ble_eq_true rfl, Nat.le_of_ble_eq_true rfl⟩), ht _ tw338, ht _ (tb_sel pv_R_take)⟩ (jpreV (jEn_ok sk sv) hC hA hK hN (wR_e0 cI cC ad s1) rfl rfl _) rfl rfl hl.1 rfl (lv_room (Nat.le_of_ble_eq_true rfl)) dR_emptyStatement_8 ⟨Nat.le_refl _, Nat.le_refl _⟩) hC hA (fun H locs hC => ?_)
  refine lv_aload_n hx hb dR_emptyStatement_11 rfl (lv_at hl 1 rfl) ?_
  refine va_get (D := (dC, dI)) (ci := 3) (v := .ref (ad 1)) (C := RcR) (T := TcR) (N := 10) hx hb ht in_cR hown hK hC.1 0 (wR_e0 cI cC ad s2) rfl 1 (by decide) (ht _ tw114) (fun _ h9 => h9) rfl dR_emptyStatement_12 ?_
  refine lv_iload_n hx hb dR_emptyStatement_15 rfl (lv_at hl 0 rfl) ?_
  obtain ⟨r3, s3, hc3, hf⟩ := jB_some hf
  refine jcall_v (va_runV (C := RcT) (As := [.int r1]) (rest := []) ⟨hx, hb, hml, hown, hts⟩ ((cT_close l dC dI cI cC cL sk sv ad N r1 s2 s3 r3 hc3) _) ⟨(callB_of 1 hts (tb_good tw359) rfl rfl rfl (ht _ tw4) (ht _ tw356) (by decide +kernel) ⟨Nat.le_of_ble_eq_true rfl, Nat.le_of_ble_eq_true rfl⟩), ht _ tw357, ht _ tw358⟩ (jpreV (jEn_ok sk sv) hC hA hK hN (wR_e1 cI cC ad s2) rfl rfl _) rfl rfl hl.1 rfl (lv_room (Nat.le_of_ble_eq_true rfl)) dR_emptyStatement_16 ⟨Nat.le_refl _, Nat.le_refl _⟩) hC hA (fun H locs hC => ?_)
  cases hf
  exact jret_v hx hb hr hlk hC hK dR_emptyStatement_19
