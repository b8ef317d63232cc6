def fL_clear (N : Nat) (z0 : jS) : Option (Int32 × jS) := (jL (jsI z0 0 (0 : Int32)) fun s1 => some (0, s1))
set_option maxHeartbeats 4000000 in
set_option maxRecDepth 100000 in
theorem cL_clear (l : Launch) (dC : Nat → ClassId) (dI : Nat → Nat → Nat) (cI cC cL : ClassId) (sk sv : Nat → Nat) (ad : Nat → Nat) (N : Nat) (z0 z1 : jS) (r : Int32) (hf : fL_clear N z0 = some (r, z1)) : Cv l yL_clear (Cond.code yL_clear prog_3_method_4_code 1 none :: TB) ({ frames := 0, cells := 0, slots := 0, locals := 0 }) (dC, dI) vwCl [(cI, .int), (cC, .char), (cL, .object "SharedSyntax$Letters")] (jEn sk sv) [.ref (ad 3)] (wR cI cC ad z0) (wR cI cC ad z1) := by
  refine Cv_of (cc := prog_3_method_4_code) (maxL := 1) (ret := none) (by decide) rfl (Nat.le_of_ble_eq_true rfl) ?_
  intro p e s m below meth c ls F hl hK hN hC
  obtain ⟨hx, hb, hml, hown, hts, hr, hlk⟩ := F
  have ht : ∀ w ∈ TB, w.before [.ref (ad 3)].toArray s = true := fun w h => hts w (List.mem_cons_of_mem _ h)
  have hA : ∀ q, s.heap.size ≤ q → va_A (wR cI cC ad z0) s.heap.size q := fun q h => Or.inr h
  have hl : lv_has ls 1 [(0, .ref (ad 3))] := hl
  unfold fL_clear at hf
  refine lv_aload_n hx hb dL_clear_0 rfl (lv_at hl 0 rfl) ?_
  refine lv_iconst (v := 0) hx hb dL_clear_1 (by decide) ?_
  obtain ⟨s1, e1, hf⟩ := jL_s hf
  refine jput (ci := 0) (C := RcL) (T := TcL) (N := 2) hx hb ht in_cL tycL tycL_ok nmcL hown hK hC 3 (wR_e3 cI cC ad z0) rfl 1 (by decide) (ht _ tw32) (fun _ h9 => h9) rfl rfl (Nat.le_of_ble_eq_true rfl) dL_clear_2 ((wR_p0 cI cC ad z0 _).trans (congrArg (wR cI cC ad) e1.symm)) (fun H locs hC => ?_)
  cases hf
  exact jret_v hx hb hr hlk hC hK dL_clear_5

def fL_append (N : Nat) (a0 : Int32) (z0 : jS) : Option (Int32 × jS) := (if jgI z0 0 < (60 : Int32) then (if jIn (jgI z0 0) 60 = true then (jL (jsA z0 0 (jgI z0 0).toNatClampNeg a0) fun s2 => (jL (jsI s2 0 (jgI s2 0 + (1 : Int32))) fun s3 => some ((1 : Int32), s3))) else none) else some ((0 : Int32), z0))
set_option maxHeartbeats 4000000 in
set_option maxRecDepth 100000 in
theorem cL_append (l : Launch) (dC : Nat → ClassId) (dI : Nat → Nat → Nat) (cI cC cL : ClassId) (sk sv : Nat → Nat) (ad : Nat → Nat) (N : Nat) (a0 : Int32) (z0 z1 : jS) (r : Int32) (hf : fL_append N a0 z0 = some (r, z1)) : Ci l yL_append (Cond.code yL_append prog_3_method_3_code 2 (some .boolean) :: TB) ({ frames := 0, cells := 0, slots := 0, locals := 0 }) (dC, dI) vwCl [(cI, .int), (cC, .char), (cL, .object "SharedSyntax$Letters")] (jEn sk sv) [.ref (ad 3), .int a0] (wR cI cC ad z0) (wR cI cC ad z1) r := by
  refine Ci_of (cc := prog_3_method_3_code) (maxL := 2) (ret := (some .boolean)) (by decide) rfl (Nat.le_of_ble_eq_true rfl) ?_
  intro p e s m below meth c ls F hl hK hN hC
  obtain ⟨hx, hb, hml, hown, hts, hr, hlk⟩ := F
  have ht : ∀ w ∈ TB, w.before [.ref (ad 3), .int a0].toArray s = true := fun w h => hts w (List.mem_cons_of_mem _ h)
  have hA : ∀ q, s.heap.size ≤ q → va_A (wR cI cC ad z0) s.heap.size q := fun q h => Or.inr h
  have hl : lv_has ls 2 [(0, .ref (ad 3)), (1, .int a0)] := hl
  unfold fL_append at hf
  refine lv_aload_n hx hb dL_append_0 rfl (lv_at hl 0 rfl) ?_
  refine va_get (D := (dC, dI)) (ci := 0) (v := .int (jgI z0 0)) (C := RcL) (T := TcL) (N := 2) hx hb ht in_cL hown hK hC.1 3 (wR_e3 cI cC ad z0) rfl 1 (by decide) (ht _ tw32) (fun _ h9 => h9) rfl dL_append_1 ?_
  refine lv_aload_n hx hb dL_append_4 rfl (lv_at hl 0 rfl) ?_
  refine va_get (D := (dC, dI)) (ci := 0) (v := .ref (ad 4)) (C := RcL) (T := TcL) (N := 2) hx hb ht in_cL hown hK hC.1 3 (wR_e3 cI cC ad z0) rfl 0 (by decide) (ht _ tw31) (fun _ h9 => h9) rfl dL_append_5 ?_
  refine va_alen (v := 60) hx hb hK hC.1 4 0 (wR_e4 cI cC ad z0) rfl rfl dL_append_8 ?_
  refine lv_icmp_lt (tgt := 14) hx hb dL_append_9 (by decide) (fun c1 => ?_) (fun c1 => ?_)
  · replace hf := jif_t c1 hf
    refine lv_aload_n hx hb dL_append_14 rfl (lv_at hl 0 rfl) ?_
    refine va_get (D := (dC, dI)) (ci := 0) (v := .ref (ad 4)) (C := RcL) (T := TcL) (N := 2) hx hb ht in_cL hown hK hC.1 3 (wR_e3 cI cC ad z0) rfl 0 (by decide) (ht _ tw31) (fun _ h9 => h9) rfl dL_append_15 ?_
    refine lv_aload_n hx hb dL_append_18 rfl (lv_at hl 0 rfl) ?_
    refine va_get (D := (dC, dI)) (ci := 0) (v := .int (jgI z0 0)) (C := RcL) (T := TcL) (N := 2) hx hb ht in_cL hown hK hC.1 3 (wR_e3 cI cC ad z0) rfl 1 (by decide) (ht _ tw32) (fun _ h9 => h9) rfl dL_append_19 ?_
    refine lv_iload_n hx hb dL_append_22 rfl (lv_at hl 1 rfl) ?_
    obtain ⟨hi2, hf⟩ := jC_in hf
    obtain ⟨s2, e2, hf⟩ := jL_s hf
    refine jast_i hx hb hK hC 4 0 (wR_e4 cI cC ad z0) rfl hi2 dL_append_23 ((wR_a0 cI cC ad z0 _ _).trans (congrArg (wR cI cC ad) e2.symm)) (fun H locs hC => ?_)
    refine lv_aload_n hx hb dL_append_24 rfl (lv_at hl 0 rfl) ?_
    refine lv_dup hx hb dL_append_25 rfl ?_
    refine va_get (D := (dC, dI)) (ci := 0) (v := .int (jgI s2 0)) (C := RcL) (T := TcL) (N := 2) hx hb ht in_cL hown hK hC.1 3 (wR_e3 cI cC ad s2) rfl 1 (by decide) (ht _ tw32) (fun _ h9 => h9) rfl dL_append_26 ?_
    refine lv_iconst (v := 1) hx hb dL_append_29 (by decide) ?_
    refine lv_iadd hx hb dL_append_30 ?_
    obtain ⟨s3, e3, hf⟩ := jL_s hf
    refine jput (ci := 0) (C := RcL) (T := TcL) (N := 2) hx hb ht in_cL tycL tycL_ok nmcL hown hK hC 3 (wR_e3 cI cC ad s2) rfl 1 (by decide) (ht _ tw32) (fun _ h9 => h9) rfl rfl (Nat.le_of_ble_eq_true rfl) dL_append_31 ((wR_p0 cI cC ad s2 _).trans (congrArg (wR cI cC ad) e3.symm)) (fun H locs hC => ?_)
    refine lv_iconst (v := 1) hx hb dL_append_34 (by decide) ?_
    cases hf
    exact jret_z hx hb hr (by decide +kernel) hlk hC hK dL_append_35
  · replace hf := jif_f c1 hf
    refine lv_iconst (v := 0) hx hb dL_append_12 (by decide) ?_
    cases hf
    exact jret_z hx hb hr (by decide +kernel) hlk hC hK dL_append_13
