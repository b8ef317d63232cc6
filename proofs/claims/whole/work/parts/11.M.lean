def fM_make (N : Nat) (a0 a1 a2 a3 a4 : Int32) (z0 : jS) : Option (Int32 × jS) := (if jIn (jgI z0 8) 400 = true then (jL (jsA z0 18 (jgI z0 8).toNatClampNeg a0) fun s1 => (if jIn (jgI s1 8) 400 = true then (jL (jsA s1 19 (jgI s1 8).toNatClampNeg a1) fun s2 => (if jIn (jgI s2 8) 400 = true then (jL (jsA s2 21 (jgI s2 8).toNatClampNeg a2) fun s3 => (if jIn (jgI s3 8) 400 = true then (jL (jsA s3 20 (jgI s3 8).toNatClampNeg a3) fun s4 => (if jIn (jgI s4 8) 400 = true then (jL (jsA s4 22 (jgI s4 8).toNatClampNeg a4) fun s5 => (if jIn (jgI s5 8) 400 = true then (jL (jsA s5 23 (jgI s5 8).toNatClampNeg (0 : Int32)) fun s6 => (if jIn (jgI s6 8) 400 = true then (jL (jsA s6 24 (jgI s6 8).toNatClampNeg (-1 : Int32)) fun s7 => (if jIn (jgI s7 8) 400 = true then (jL (jsA s7 25 (jgI s7 8).toNatClampNeg (-1 : Int32)) fun s8 => (if jIn (jgI s8 8) 400 = true then (jL (jsA s8 26 (jgI s8 8).toNatClampNeg (-1 : Int32)) fun s9 => (if jIn (jgI s9 9) 400 = true then (jL (jsA s9 28 (jgI s9 9).toNatClampNeg (jgI s9 8)) fun s10 => (jL (jsI s10 9 (jgI s10 9 + (1 : Int32))) fun s11 => (jL (jsI s11 8 (jgI s11 8 + (1 : Int32))) fun s12 => some (0, s12)))) else none)) else none)) else none)) else none)) else none)) else none)) else none)) else none)) else none)) else none)
set_option maxHeartbeats 4000000 in
set_option maxRecDepth 100000 in
theorem cM_make (l : Launch) (dC : Nat → ClassId) (dI : Nat → Nat → Nat) (cI cC cL : ClassId) (sk sv : Nat → Nat) (ad : Nat → Nat) (N : Nat) (a0 a1 a2 a3 a4 : Int32) (z0 z1 : jS) (r : Int32) (hf : fM_make N a0 a1 a2 a3 a4 z0 = some (r, z1)) : Cv l yM_make (Cond.code yM_make prog_8_method_11_code 6 none :: TB) ({ frames := 0, cells := 0, slots := 0, locals := 0 }) (dC, dI) vwCl [(cI, .int), (cC, .char), (cL, .object "SharedSyntax$Letters")] (jEn sk sv) [.ref (ad 0), .int a0, .int a1, .int a2, .int a3, .int a4] (wM cI cC ad z0) (wM cI cC ad z1) := by
  refine Cv_of (cc := prog_8_method_11_code) (maxL := 6) (ret := none) (by decide) rfl (Nat.le_of_ble_eq_true rfl) ?_
  intro p e s m below meth c ls F hl hK hN hC
  obtain ⟨hx, hb, hml, hown, hts, hr, hlk⟩ := F
  have ht : ∀ w ∈ TB, w.before [.ref (ad 0), .int a0, .int a1, .int a2, .int a3, .int a4].toArray s = true := fun w h => hts w (List.mem_cons_of_mem _ h)
  have hA : ∀ q, s.heap.size ≤ q → va_A (wM cI cC ad z0) s.heap.size q := fun q h => Or.inr h
  have hl : lv_has ls 6 [(0, .ref (ad 0)), (1, .int a0), (2, .int a1), (3, .int a2), (4, .int a3), (5, .int a4)] := hl
  unfold fM_make at hf
  refine lv_aload_n hx hb dM_make_0 rfl (lv_at hl 0 rfl) ?_
  refine va_get (D := (dC, dI)) (ci := 6) (v := .ref (ad 19)) (C := RcM) (T := TcM) (N := 43) hx hb ht in_cM hown hK hC.1 0 (wM_e0 cI cC ad z0) rfl 27 (by decide) (ht _ tw787) (fun _ h9 => h9) rfl dM_make_1 ?_
  refine lv_aload_n hx hb dM_make_4 rfl (lv_at hl 0 rfl) ?_
  refine va_get (D := (dC, dI)) (ci := 6) (v := .int (jgI z0 8)) (C := RcM) (T := TcM) (N := 43) hx hb ht in_cM hown hK hC.1 0 (wM_e0 cI cC ad z0) rfl 26 (by decide) (ht _ tw786) (fun _ h9 => h9) rfl dM_make_5 ?_
  refine lv_iload_n hx hb dM_make_8 rfl (lv_at hl 1 rfl) ?_
  obtain ⟨hi1, hf⟩ := jC_in hf
  obtain ⟨s1, e1, hf⟩ := jL_s hf
  refine jast_i hx hb hK hC 19 0 (wM_e19 cI cC ad z0) rfl hi1 dM_make_9 ((wM_a18 cI cC ad z0 _ _).trans (congrArg (wM cI cC ad) e1.symm)) (fun H locs hC => ?_)
  refine lv_aload_n hx hb dM_make_10 rfl (lv_at hl 0 rfl) ?_
  refine va_get (D := (dC, dI)) (ci := 6) (v := .ref (ad 20)) (C := RcM) (T := TcM) (N := 43) hx hb ht in_cM hown hK hC.1 0 (wM_e0 cI cC ad s1) rfl 28 (by decide) (ht _ tw788) (fun _ h9 => h9) rfl dM_make_11 ?_
  refine lv_aload_n hx hb dM_make_14 rfl (lv_at hl 0 rfl) ?_
  refine va_get (D := (dC, dI)) (ci := 6) (v := .int (jgI s1 8)) (C := RcM) (T := TcM) (N := 43) hx hb ht in_cM hown hK hC.1 0 (wM_e0 cI cC ad s1) rfl 26 (by decide) (ht _ tw786) (fun _ h9 => h9) rfl dM_make_15 ?_
  refine lv_iload_n hx hb dM_make_18 rfl (lv_at hl 2 rfl) ?_
  obtain ⟨hi2, hf⟩ := jC_in hf
  obtain ⟨s2, e2, hf⟩ := jL_s hf
  refine jast_i hx hb hK hC 20 0 (wM_e20 cI cC ad s1) rfl hi2 dM_make_19 ((wM_a19 cI cC ad s1 _ _).trans (congrArg (wM cI cC ad) e2.symm)) (fun H locs hC => ?_)
  refine lv_aload_n hx hb dM_make_20 rfl (lv_at hl 0 rfl) ?_
  refine va_get (D := (dC, dI)) (ci := 6) (v := .ref (ad 22)) (C := RcM) (T := TcM) (N := 43) hx hb ht in_cM hown hK hC.1 0 (wM_e0 cI cC ad s2) rfl 30 (by decide) (ht _ tw790) (fun _ h9 => h9) rfl dM_make_21 ?_
  refine lv_aload_n hx hb dM_make_24 rfl (lv_at hl 0 rfl) ?_
  refine va_get (D := (dC, dI)) (ci := 6) (v := .int (jgI s2 8)) (C := RcM) (T := TcM) (N := 43) hx hb ht in_cM hown hK hC.1 0 (wM_e0 cI cC ad s2) rfl 26 (by decide) (ht _ tw786) (fun _ h9 => h9) rfl dM_make_25 ?_
  refine lv_iload_n hx hb dM_make_28 rfl (lv_at hl 3 rfl) ?_
  obtain ⟨hi3, hf⟩ := jC_in hf
  obtain ⟨s3, e3, hf⟩ := jL_s hf
  refine jast_i hx hb hK hC 22 0 (wM_e22 cI cC ad s2) rfl hi3 dM_make_29 ((wM_a21 cI cC ad s2 _ _).trans (congrArg (wM cI cC ad) e3.symm)) (fun H locs hC => ?_)
  refine lv_aload_n hx hb dM_make_30 rfl (lv_at hl 0 rfl) ?_
  refine va_get (D := (dC, dI)) (ci := 6) (v := .ref (ad 21)) (C := RcM) (T := TcM) (N := 43) hx hb ht in_cM hown hK hC.1 0 (wM_e0 cI cC ad s3) rfl 29 (by decide) (ht _ tw789) (fun _ h9 => h9) rfl dM_make_31 ?_
  refine lv_aload_n hx hb dM_make_34 rfl (lv_at hl 0 rfl) ?_
  refine va_get (D := (dC, dI)) (ci := 6) (v := .int (jgI s3 8)) (C := RcM) (T := TcM) (N := 43) hx hb ht in_cM hown hK hC.1 0 (wM_e0 cI cC ad s3) rfl 26 (by decide) (ht _ tw786) (fun _ h9 => h9) rfl dM_make_35 ?_
  refine lv_iload hx hb dM_make_38 (lv_at hl 4 rfl) ?_
  obtain ⟨hi4, hf⟩ := jC_in hf
  obtain ⟨s4, e4, hf⟩ := jL_s hf
  refine jast_i hx hb hK hC 21 0 (wM_e21 cI cC ad s3) rfl hi4 dM_make_40 ((wM_a20 cI cC ad s3 _ _).trans (congrArg (wM cI cC ad) e4.symm)) (fun H locs hC => ?_)
  refine lv_aload_n hx hb dM_make_41 rfl (lv_at hl 0 rfl) ?_
  refine va_get (D := (dC, dI)) (ci := 6) (v := .ref (ad 23)) (C := RcM) (T := TcM) (N := 43) hx hb ht in_cM hown hK hC.1 0 (wM_e0 cI cC ad s4) rfl 31 (by decide) (ht _ tw791) (fun _ h9 => h9) rfl dM_make_42 ?_
  refine lv_aload_n hx hb dM_make_45 rfl (lv_at hl 0 rfl) ?_
  refine va_get (D := (dC, dI)) (ci := 6) (v := .int (jgI s4 8)) (C := RcM) (T := TcM) (N := 43) hx hb ht in_cM hown hK hC.1 0 (wM_e0 cI cC ad s4) rfl 26 (by decide) (ht _ tw786) (fun _ h9 => h9) rfl dM_make_46 ?_
  refine lv_iload hx hb dM_make_49 (lv_at hl 5 rfl) ?_
  obtain ⟨hi5, hf⟩ := jC_in hf
  obtain ⟨s5, e5, hf⟩ := jL_s hf
  refine jast_i hx hb hK hC 23 0 (wM_e23 cI cC ad s4) rfl hi5 dM_make_51 ((wM_a22 cI cC ad s4 _ _).trans (congrArg (wM cI cC ad) e5.symm)) (fun H locs hC => ?_)
  refine lv_aload_n hx hb dM_make_52 rfl (lv_at hl 0 rfl) ?_
  refine va_get (D := (dC, dI)) (ci := 6) (v := .ref (ad 24)) (C := RcM) (T := TcM) (N := 43) hx hb ht in_cM hown hK hC.1 0 (wM_e0 cI cC ad s5) rfl 32 (by decide) (ht _ tw792) (fun _ h9 => h9) rfl dM_make_53 ?_
  refine lv_aload_n hx hb dM_make_56 rfl (lv_at hl 0 rfl) ?_
  refine va_get (D := (dC, dI)) (ci := 6) (v := .int (jgI s5 8)) (C := RcM) (T := TcM) (N := 43) hx hb ht in_cM hown hK hC.1 0 (wM_e0 cI cC ad s5) rfl 26 (by decide) (ht _ tw786) (fun _ h9 => h9) rfl dM_make_57 ?_
  refine lv_iconst (v := 0) hx hb dM_make_60 (by decide) ?_
  obtain ⟨hi6, hf⟩ := jC_in hf
  obtain ⟨s6, e6, hf⟩ := jL_s hf
  refine jast_i hx hb hK hC 24 0 (wM_e24 cI cC ad s5) rfl hi6 dM_make_61 ((wM_a23 cI cC ad s5 _ _).trans (congrArg (wM cI cC ad) e6.symm)) (fun H locs hC => ?_)
  refine lv_aload_n hx hb dM_make_62 rfl (lv_at hl 0 rfl) ?_
  refine va_get (D := (dC, dI)) (ci := 6) (v := .ref (ad 25)) (C := RcM) (T := TcM) (N := 43) hx hb ht in_cM hown hK hC.1 0 (wM_e0 cI cC ad s6) rfl 33 (by decide) (ht _ tw793) (fun _ h9 => h9) rfl dM_make_63 ?_
  refine lv_aload_n hx hb dM_make_66 rfl (lv_at hl 0 rfl) ?_
  refine va_get (D := (dC, dI)) (ci := 6) (v := .int (jgI s6 8)) (C := RcM) (T := TcM) (N := 43) hx hb ht in_cM hown hK hC.1 0 (wM_e0 cI cC ad s6) rfl 26 (by decide) (ht _ tw786) (fun _ h9 => h9) rfl dM_make_67 ?_
  refine lv_iconst (v := -1) hx hb dM_make_70 (by decide) ?_
  obtain ⟨hi7, hf⟩ := jC_in hf
  obtain ⟨s7, e7, hf⟩ := jL_s hf
  refine jast_i hx hb hK hC 25 0 (wM_e25 cI cC ad s6) rfl hi7 dM_make_71 ((wM_a24 cI cC ad s6 _ _).trans (congrArg (wM cI cC ad) e7.symm)) (fun H locs hC => ?_)
  refine lv_aload_n hx hb dM_make_72 rfl (lv_at hl 0 rfl) ?_
  refine va_get (D := (dC, dI)) (ci := 6) (v := .ref (ad 26)) (C := RcM) (T := TcM) (N := 43) hx hb ht in_cM hown hK hC.1 0 (wM_e0 cI cC ad s7) rfl 34 (by decide) (ht _ tw794) (fun _ h9 => h9) rfl dM_make_73 ?_
  refine lv_aload_n hx hb dM_make_76 rfl (lv_at hl 0 rfl) ?_
  refine va_get (D := (dC, dI)) (ci := 6) (v := .int (jgI s7 8)) (C := RcM) (T := TcM) (N := 43) hx hb ht in_cM hown hK hC.1 0 (wM_e0 cI cC ad s7) rfl 26 (by decide) (ht _ tw786) (fun _ h9 => h9) rfl dM_make_77 ?_
  refine lv_iconst (v := -1) hx hb dM_make_80 (by decide) ?_
  obtain ⟨hi8, hf⟩ := jC_in hf
  obtain ⟨s8, e8, hf⟩ := jL_s hf
  refine jast_i hx hb hK hC 26 0 (wM_e26 cI cC ad s7) rfl hi8 dM_make_81 ((wM_a25 cI cC ad s7 _ _).trans (congrArg (wM cI cC ad) e8.symm)) (fun H locs hC => ?_)
  refine lv_aload_n hx hb dM_make_82 rfl (lv_at hl 0 rfl) ?_
  refine va_get (D := (dC, dI)) (ci := 6) (v := .ref (ad 27)) (C := RcM) (T := TcM) (N := 43) hx hb ht in_cM hown hK hC.1 0 (wM_e0 cI cC ad s8) rfl 35 (by decide) (ht _ tw795) (fun _ h9 => h9) rfl dM_make_83 ?_
  refine lv_aload_n hx hb dM_make_86 rfl (lv_at hl 0 rfl) ?_
  refine va_get (D := (dC, dI)) (ci := 6) (v := .int (jgI s8 8)) (C := RcM) (T := TcM) (N := 43) hx hb ht in_cM hown hK hC.1 0 (wM_e0 cI cC ad s8) rfl 26 (by decide) (ht _ tw786) (fun _ h9 => h9) rfl dM_make_87 ?_
  refine lv_iconst (v := -1) hx hb dM_make_90 (by decide) ?_
  obtain ⟨hi9, hf⟩ := jC_in hf
  obtain ⟨s9, e9, hf⟩ := jL_s hf
  refine jast_i hx hb hK hC 27 0 (wM_e27 cI cC ad s8) rfl hi9 dM_make_91 ((wM_a26 cI cC ad s8 _ _).trans (congrArg (wM cI cC ad) e9.symm)) (fun H locs hC => ?_)
  refine lv_aload_n hx hb dM_make_92 rfl (lv_at hl 0 rfl) ?_
  refine va_get (D := (dC, dI)) (ci := 6) (v := .ref (ad 29)) (C := RcM) (T := TcM) (N := 43) hx hb ht in_cM hown hK hC.1 0 (wM_e0 cI cC ad s9) rfl 38 (by decide) (ht _ tw798) (fun _ h9 => h9) rfl dM_make_93 ?_
  refine lv_aload_n hx hb dM_make_96 rfl (lv_at hl 0 rfl) ?_
  refine va_get (D := (dC, dI)) (ci := 6) (v := .int (jgI s9 9)) (C := RcM) (T := TcM) (N := 43) hx hb ht in_cM hown hK hC.1 0 (wM_e0 cI cC ad s9) rfl 37 (by decide) (ht _ tw797) (fun _ h9 => h9) rfl dM_make_97 ?_
  refine lv_aload_n hx hb dM_make_100 rfl (lv_at hl 0 rfl) ?_
  refine va_get (D := (dC, dI)) (ci := 6) (v := .int (jgI s9 8)) (C := RcM) (T := TcM) (N := 43) hx hb ht in_cM hown hK hC.1 0 (wM_e0 cI cC ad s9) rfl 26 (by decide) (ht _ tw786) (fun _ h9 => h9) rfl dM_make_101 ?_
  obtain ⟨hi10, hf⟩ := jC_in hf
  obtain ⟨s10, e10, hf⟩ := jL_s hf
  refine jast_i hx hb hK hC 29 0 (wM_e29 cI cC ad s9) rfl hi10 dM_make_104 ((wM_a28 cI cC ad s9 _ _).trans (congrArg (wM cI cC ad) e10.symm)) (fun H locs hC => ?_)
  refine lv_aload_n hx hb dM_make_105 rfl (lv_at hl 0 rfl) ?_
  refine lv_dup hx hb dM_make_106 rfl ?_
  refine va_get (D := (dC, dI)) (ci := 6) (v := .int (jgI s10 9)) (C := RcM) (T := TcM) (N := 43) hx hb ht in_cM hown hK hC.1 0 (wM_e0 cI cC ad s10) rfl 37 (by decide) (ht _ tw797) (fun _ h9 => h9) rfl dM_make_107 ?_
  refine lv_iconst (v := 1) hx hb dM_make_110 (by decide) ?_
  refine lv_iadd hx hb dM_make_111 ?_
  obtain ⟨s11, e11, hf⟩ := jL_s hf
  refine jput (ci := 6) (C := RcM) (T := TcM) (N := 43) hx hb ht in_cM tycM tycM_ok nmcM hown hK hC 0 (wM_e0 cI cC ad s10) rfl 37 (by decide) (ht _ tw797) (fun _ h9 => h9) rfl rfl (Nat.le_of_ble_eq_true rfl) dM_make_112 ((wM_p9 cI cC ad s10 _).trans (congrArg (wM cI cC ad) e11.symm)) (fun H locs hC => ?_)
  refine lv_aload_n hx hb dM_make_115 rfl (lv_at hl 0 rfl) ?_
  refine lv_dup hx hb dM_make_116 rfl ?_
  refine va_get (D := (dC, dI)) (ci := 6) (v := .int (jgI s11 8)) (C := RcM) (T := TcM) (N := 43) hx hb ht in_cM hown hK hC.1 0 (wM_e0 cI cC ad s11) rfl 26 (by decide) (ht _ tw786) (fun _ h9 => h9) rfl dM_make_117 ?_
  refine lv_iconst (v := 1) hx hb dM_make_120 (by decide) ?_
  refine lv_iadd hx hb dM_make_121 ?_
  obtain ⟨s12, e12, hf⟩ := jL_s hf
  refine jput (ci := 6) (C := RcM) (T := TcM) (N := 43) hx hb ht in_cM tycM tycM_ok nmcM hown hK hC 0 (wM_e0 cI cC ad s11) rfl 26 (by decide) (ht _ tw786) (fun _ h9 => h9) rfl rfl (Nat.le_of_ble_eq_true rfl) dM_make_122 ((wM_p8 cI cC ad s11 _).trans (congrArg (wM cI cC ad) e12.symm)) (fun H locs hC => ?_)
  cases hf
  exact jret_v hx hb hr hlk hC hK dM_make_125

def fM_take (N : Nat) (z0 : jS) : Option (Int32 × jS) := (if jIn (jgI z0 6) 61 = true then (if jIn (jgI z0 6) 61 = true then (if jIn (jgI z0 6) 61 = true then (jB (fM_make N (jgA z0 15 (jgI z0 6).toNatClampNeg) (jgI z0 7) (jgA z0 16 (jgI z0 6).toNatClampNeg) (jgA z0 17 (jgI z0 6).toNatClampNeg) (0 : Int32) z0) fun r4 s4 => (if jIn (jgI s4 6) 61 = true then (jL (jsI s4 7 (jgA s4 17 (jgI s4 6).toNatClampNeg)) fun s6 => (jL (jsI s6 6 (jgI s6 6 + (1 : Int32))) fun s7 => some (0, s7))) else none)) else none) else none) else none)
set_option maxHeartbeats 4000000 in
set_option maxRecDepth 100000 in
theorem cM_take (l : Launch) (dC : Nat → ClassId) (dI : Nat → Nat → Nat) (cI cC cL : ClassId) (sk sv : Nat → Nat) (ad : Nat → Nat) (N : Nat) (z0 z1 : jS) (r : Int32) (hf : fM_take N z0 = some (r, z1)) : Cv l yM_take (Cond.code yM_take prog_8_method_12_code 1 none :: TB) ({ frames := 1, cells := 0, slots := 0, locals := 25 }) (dC, dI) vwCl [(cI, .int), (cC, .char), (cL, .object "SharedSyntax$Letters")] (jEn sk sv) [.ref (ad 0)] (wM cI cC ad z0) (wM cI cC ad z1) := by
  refine Cv_of (cc := prog_8_method_12_code) (maxL := 1) (ret := none) (by decide) rfl (Nat.le_of_ble_eq_true rfl) ?_
  intro p e s m below meth c ls F hl hK hN hC
  obtain ⟨hx, hb, hml, hown, hts, hr, hlk⟩ := F
  have ht : ∀ w ∈ TB, w.before [.ref (ad 0)].toArray s = true := fun w h => hts w (List.mem_cons_of_mem _ h)
  have hA : ∀ q, s.heap.size ≤ q → va_A (wM cI cC ad z0) s.heap.size q := fun q h => Or.inr h
  have hl : lv_has ls 1 [(0, .ref (ad 0))] := hl
  unfold fM_take at hf
  refine lv_aload_n hx hb dM_take_0 rfl (lv_at hl 0 rfl) ?_
  refine lv_aload_n hx hb dM_take_1 rfl (lv_at hl 0 rfl) ?_
  refine va_get (D := (dC, dI)) (ci := 6) (v := .ref (ad 16)) (C := RcM) (T := TcM) (N := 43) hx hb ht in_cM hown hK hC.1 0 (wM_e0 cI cC ad z0) rfl 21 (by decide) (ht _ tw781) (fun _ h9 => h9) rfl dM_take_2 ?_
  refine lv_aload_n hx hb dM_take_5 rfl (lv_at hl 0 rfl) ?_
  refine va_get (D := (dC, dI)) (ci := 6) (v := .int (jgI z0 6)) (C := RcM) (T := TcM) (N := 43) hx hb ht in_cM hown hK hC.1 0 (wM_e0 cI cC ad z0) rfl 24 (by decide) (ht _ tw784) (fun _ h9 => h9) rfl dM_take_6 ?_
  obtain ⟨hi1, hf⟩ := jC_in hf
  refine va_iald hx hb hK hC.1 16 0 (wM_e16 cI cC ad z0) rfl hi1 dM_take_9 ?_
  refine lv_aload_n hx hb dM_take_10 rfl (lv_at hl 0 rfl) ?_
  refine va_get (D := (dC, dI)) (ci := 6) (v := .int (jgI z0 7)) (C := RcM) (T := TcM) (N := 43) hx hb ht in_cM hown hK hC.1 0 (wM_e0 cI cC ad z0) rfl 25 (by decide) (ht _ tw785) (fun _ h9 => h9) rfl dM_take_11 ?_
  refine lv_aload_n hx hb dM_take_14 rfl (lv_at hl 0 rfl) ?_
  refine va_get (D := (dC, dI)) (ci := 6) (v := .ref (ad 17)) (C := RcM) (T := TcM) (N := 43) hx hb ht in_cM hown hK hC.1 0 (wM_e0 cI cC ad z0) rfl 22 (by decide) (ht _ tw782) (fun _ h9 => h9) rfl dM_take_15 ?_
  refine lv_aload_n hx hb dM_take_18 rfl (lv_at hl 0 rfl) ?_
  refine va_get (D := (dC, dI)) (ci := 6) (v := .int (jgI z0 6)) (C := RcM) (T := TcM) (N := 43) hx hb ht in_cM hown hK hC.1 0 (wM_e0 cI cC ad z0) rfl 24 (by decide) (ht _ tw784) (fun _ h9 => h9) rfl dM_take_19 ?_
  obtain ⟨hi2, hf⟩ := jC_in hf
  refine va_iald hx hb hK hC.1 17 0 (wM_e17 cI cC ad z0) rfl hi2 dM_take_22 ?_
  refine lv_aload_n hx hb dM_take_23 rfl (lv_at hl 0 rfl) ?_
  refine va_get (D := (dC, dI)) (ci := 6) (v := .ref (ad 18)) (C := RcM) (T := TcM) (N := 43) hx hb ht in_cM hown hK hC.1 0 (wM_e0 cI cC ad z0) rfl 23 (by decide) (ht _ tw783) (fun _ h9 => h9) rfl dM_take_24 ?_
  refine lv_aload_n hx hb dM_take_27 rfl (lv_at hl 0 rfl) ?_
  refine va_get (D := (dC, dI)) (ci := 6) (v := .int (jgI z0 6)) (C := RcM) (T := TcM) (N := 43) hx hb ht in_cM hown hK hC.1 0 (wM_e0 cI cC ad z0) rfl 24 (by decide) (ht _ tw784) (fun _ h9 => h9) rfl dM_take_28 ?_
  obtain ⟨hi3, hf⟩ := jC_in hf
  refine va_iald hx hb hK hC.1 18 0 (wM_e18 cI cC ad z0) rfl hi3 dM_take_31 ?_
  refine lv_iconst (v := 0) hx hb dM_take_32 (by decide) ?_
  obtain ⟨r4, s4, hc4, hf⟩ := jB_some hf
  refine jcall_v (va_runV (C := RcM) (As := [.int (jgA z0 15 (jgI z0 6).toNatClampNeg), .int (jgI z0 7), .int (jgA z0 16 (jgI z0 6).toNatClampNeg), .int (jgA z0 17 (jgI z0 6).toNatClampNeg), .int (0 : Int32)]) (rest := []) ⟨hx, hb, hml, hown, hts⟩ ((cM_make l dC dI cI cC cL sk sv ad N (jgA z0 15 (jgI z0 6).toNatClampNeg) (jgI z0 7) (jgA z0 16 (jgI z0 6).toNatClampNeg) (jgA z0 17 (jgI z0 6).toNatClampNeg) (0 : Int32) z0 s4 r4 hc4) _) ⟨(callB_of 5 hts (tb_good tw697) rfl rfl rfl (ht _ tw14) (ht _ tw694) (by decide +kernel) ⟨Nat.le_of_ble_eq_true rfl, Nat.le_of_ble_eq_true rfl⟩), ht _ tw696, ht _ (tb_sel pv_M_make)⟩ (jpreV (jEn_ok sk sv) hC hA hK hN (wM_e0 cI cC ad z0) rfl rfl _) rfl rfl hl.1 rfl (lv_room (Nat.le_of_ble_eq_true rfl)) dM_take_33 ⟨Nat.le_refl _, Nat.le_refl _⟩) hC hA (fun H locs hC => ?_)
  refine lv_aload_n hx hb dM_take_36 rfl (lv_at hl 0 rfl) ?_
  refine lv_aload_n hx hb dM_take_37 rfl (lv_at hl 0 rfl) ?_
  refine va_get (D := (dC, dI)) (ci := 6) (v := .ref (ad 18)) (C := RcM) (T := TcM) (N := 43) hx hb ht in_cM hown hK hC.1 0 (wM_e0 cI cC ad s4) rfl 23 (by decide) (ht _ tw783) (fun _ h9 => h9) rfl dM_take_38 ?_
  refine lv_aload_n hx hb dM_take_41 rfl (lv_at hl 0 rfl) ?_
  refine va_get (D := (dC, dI)) (ci := 6) (v := .int (jgI s4 6)) (C := RcM) (T := TcM) (N := 43) hx hb ht in_cM hown hK hC.1 0 (wM_e0 cI cC ad s4) rfl 24 (by decide) (ht _ tw784) (fun _ h9 => h9) rfl dM_take_42 ?_
  obtain ⟨hi5, hf⟩ := jC_in hf
  refine va_iald hx hb hK hC.1 18 0 (wM_e18 cI cC ad s4) rfl hi5 dM_take_45 ?_
  obtain ⟨s6, e6, hf⟩ := jL_s hf
  refine jput (ci := 6) (C := RcM) (T := TcM) (N := 43) hx hb ht in_cM tycM tycM_ok nmcM hown hK hC 0 (wM_e0 cI cC ad s4) rfl 25 (by decide) (ht _ tw785) (fun _ h9 => h9) rfl rfl (Nat.le_of_ble_eq_true rfl) dM_take_46 ((wM_p7 cI cC ad s4 _).trans (congrArg (wM cI cC ad) e6.symm)) (fun H locs hC => ?_)
  refine lv_aload_n hx hb dM_take_49 rfl (lv_at hl 0 rfl) ?_
  refine lv_dup hx hb dM_take_50 rfl ?_
  refine va_get (D := (dC, dI)) (ci := 6) (v := .int (jgI s6 6)) (C := RcM) (T := TcM) (N := 43) hx hb ht in_cM hown hK hC.1 0 (wM_e0 cI cC ad s6) rfl 24 (by decide) (ht _ tw784) (fun _ h9 => h9) rfl dM_take_51 ?_
  refine lv_iconst (v := 1) hx hb dM_take_54 (by decide) ?_
  refine lv_iadd hx hb dM_take_55 ?_
  obtain ⟨s7, e7, hf⟩ := jL_s hf
  refine jput (ci := 6) (C := RcM) (T := TcM) (N := 43) hx hb ht in_cM tycM tycM_ok nmcM hown hK hC 0 (wM_e0 cI cC ad s6) rfl 24 (by decide) (ht _ tw784) (fun _ h9 => h9) rfl rfl (Nat.le_of_ble_eq_true rfl) dM_take_56 ((wM_p6 cI cC ad s6 _).trans (congrArg (wM cI cC ad) e7.symm)) (fun H locs hC => ?_)
  cases hf
  exact jret_v hx hb hr hlk hC hK dM_take_59

def fM_lack (N : Nat) (a0 a1 : Int32) (z0 : jS) : Option (Int32 × jS) := (jB (fM_make N a0 (jgI z0 7) (jgI z0 7) (jgI z0 7) a1 z0) fun r1 s1 => some (0, s1))
set_option maxHeartbeats 4000000 in
set_option maxRecDepth 100000 in
theorem cM_lack (l : Launch) (dC : Nat → ClassId) (dI : Nat → Nat → Nat) (cI cC cL : ClassId) (sk sv : Nat → Nat) (ad : Nat → Nat) (N : Nat) (a0 a1 : Int32) (z0 z1 : jS) (r : Int32) (hf : fM_lack N a0 a1 z0 = some (r, z1)) : Cv l yM_lack (Cond.code yM_lack prog_8_method_13_code 3 none :: TB) ({ frames := 1, cells := 0, slots := 0, locals := 25 }) (dC, dI) vwCl [(cI, .int), (cC, .char), (cL, .object "SharedSyntax$Letters")] (jEn sk sv) [.ref (ad 0), .int a0, .int a1] (wM cI cC ad z0) (wM cI cC ad z1) := by
  refine Cv_of (cc := prog_8_method_13_code) (maxL := 3) (ret := none) (by decide) rfl (Nat.le_of_ble_eq_true rfl) ?_
  intro p e s m below meth c ls F hl hK hN hC
  obtain ⟨hx, hb, hml, hown, hts, hr, hlk⟩ := F
  have ht : ∀ w ∈ TB, w.before [.ref (ad 0), .int a0, .int a1].toArray s = true := fun w h => hts w (List.mem_cons_of_mem _ h)
  have hA : ∀ q, s.heap.size ≤ q → va_A (wM cI cC ad z0) s.heap.size q := fun q h => Or.inr h
  have hl : lv_has ls 3 [(0, .ref (ad 0)), (1, .int a0), (2, .int a1)] := hl
  unfold fM_lack at hf
  refine lv_aload_n hx hb dM_lack_0 rfl (lv_at hl 0 rfl) ?_
  refine lv_iload_n hx hb dM_lack_1 rfl (lv_at hl 1 rfl) ?_
  refine lv_aload_n hx hb dM_lack_2 rfl (lv_at hl 0 rfl) ?_
  refine va_get (D := (dC, dI)) (ci := 6) (v := .int (jgI z0 7)) (C := RcM) (T := TcM) (N := 43) hx hb ht in_cM hown hK hC.1 0 (wM_e0 cI cC ad z0) rfl 25 (by decide) (ht _ tw785) (fun _ h9 => h9) rfl dM_lack_3 ?_
  refine lv_aload_n hx hb dM_lack_6 rfl (lv_at hl 0 rfl) ?_
  refine va_get (D := (dC, dI)) (ci := 6) (v := .int (jgI z0 7)) (C := RcM) (T := TcM) (N := 43) hx hb ht in_cM hown hK hC.1 0 (wM_e0 cI cC ad z0) rfl 25 (by decide) (ht _ tw785) (fun _ h9 => h9) rfl dM_lack_7 ?_
  refine lv_aload_n hx hb dM_lack_10 rfl (lv_at hl 0 rfl) ?_
  refine va_get (D := (dC, dI)) (ci := 6) (v := .int (jgI z0 7)) (C := RcM) (T := TcM) (N := 43) hx hb ht in_cM hown hK hC.1 0 (wM_e0 cI cC ad z0) rfl 25 (by decide) (ht _ tw785) (fun _ h9 => h9) rfl dM_lack_11 ?_
  refine lv_iload_n hx hb dM_lack_14 rfl (lv_at hl 2 rfl) ?_
  obtain ⟨r1, s1, hc1, hf⟩ := jB_some hf
  refine jcall_v (va_runV (C := RcM) (As := [.int a0, .int (jgI z0 7), .int (jgI z0 7), .int (jgI z0 7), .int a1]) (rest := []) ⟨hx, hb, hml, hown, hts⟩ ((cM_make l dC dI cI cC cL sk sv ad N a0 (jgI z0 7) (jgI z0 7) (jgI z0 7) a1 z0 s1 r1 hc1) _) ⟨(callB_of 5 hts (tb_good tw697) rfl rfl rfl (ht _ tw14) (ht _ tw694) (by decide +kernel) ⟨Nat.le_of_ble_eq_true rfl, Nat.le_of_ble_eq_true rfl⟩), ht _ tw696, ht _ (tb_sel pv_M_make)⟩ (jpreV (jEn_ok sk sv) hC hA hK hN (wM_e0 cI cC ad z0) rfl rfl _) rfl rfl hl.1 rfl (lv_room (Nat.le_of_ble_eq_true rfl)) dM_lack_15 ⟨Nat.le_refl _, Nat.le_refl _⟩) hC hA (fun H locs hC => ?_)
  cases hf
  exact jret_v hx hb hr hlk hC hK dM_lack_18

def fM_expect (N : Nat) (a0 : Int32) (z0 : jS) : Option (Int32 × jS) := (jB (fM_current N z0) fun r1 s1 => (if r1 = a0 then (jB (fM_take N s1) fun r4 s4 => some (0, s4)) else (jB (fM_lack N a0 (2 : Int32) s1) fun r3 s3 => some (0, s3))))
set_option maxHeartbeats 4000000 in
set_option maxRecDepth 100000 in
theorem cM_expect (l : Launch) (dC : Nat → ClassId) (dI : Nat → Nat → Nat) (cI cC cL : ClassId) (sk sv : Nat → Nat) (ad : Nat → Nat) (N : Nat) (a0 : Int32) (z0 z1 : jS) (r : Int32) (hf : fM_expect N a0 z0 = some (r, z1)) : Cv l yM_expect (Cond.code yM_expect prog_8_method_14_code 2 none :: TB) ({ frames := 2, cells := 0, slots := 0, locals := 47 }) (dC, dI) vwCl [(cI, .int), (cC, .char), (cL, .object "SharedSyntax$Letters")] (jEn sk sv) [.ref (ad 0), .int a0] (wM cI cC ad z0) (wM cI cC ad z1) := by
  refine Cv_of (cc := prog_8_method_14_code) (maxL := 2) (ret := none) (by decide) rfl (Nat.le_of_ble_eq_true rfl) ?_
  intro p e s m below meth c ls F hl hK hN hC
  obtain ⟨hx, hb, hml, hown, hts, hr, hlk⟩ := F
  have ht : ∀ w ∈ TB, w.before [.ref (ad 0), .int a0].toArray s = true := fun w h => hts w (List.mem_cons_of_mem _ h)
  have hA : ∀ q, s.heap.size ≤ q → va_A (wM cI cC ad z0) s.heap.size q := fun q h => Or.inr h
  have hl : lv_has ls 2 [(0, .ref (ad 0)), (1, .int a0)] := hl
  unfold fM_expect at hf
  refine lv_aload_n hx hb dM_expect_0 rfl (lv_at hl 0 rfl) ?_
  obtain ⟨r1, s1, hc1, hf⟩ := jB_some hf
  refine jcall_i (va_runV (C := RcM) (As := []) (rest := []) ⟨hx, hb, hml, hown, hts⟩ ((cM_current l dC dI cI cC cL sk sv ad N z0 s1 r1 hc1) _) ⟨(callB_of 0 hts (tb_good tw709) rfl rfl rfl (ht _ tw14) (ht _ tw706) (by decide +kernel) ⟨Nat.le_of_ble_eq_true rfl, Nat.le_of_ble_eq_true rfl⟩), ht _ tw708, ht _ (tb_sel pv_M_current)⟩ (jpreV (jEn_ok sk sv) hC hA hK hN (wM_e0 cI cC ad z0) rfl rfl _) rfl rfl hl.1 rfl (lv_room (Nat.le_of_ble_eq_true rfl)) dM_expect_1 ⟨Nat.le_refl _, Nat.le_refl _⟩) hC hA (fun H locs hC => ?_)
  refine lv_iload_n hx hb dM_expect_4 rfl (lv_at hl 1 rfl) ?_
  refine lv_icmp_ne (tgt := 15) hx hb dM_expect_5 (by decide) (fun c2 => ?_) (fun c2 => ?_)
  · replace hf := jif_f c2 hf
    refine lv_aload_n hx hb dM_expect_15 rfl (lv_at hl 0 rfl) ?_
    refine lv_iload_n hx hb dM_expect_16 rfl (lv_at hl 1 rfl) ?_
    refine lv_iconst (v := 2) hx hb dM_expect_17 (by decide) ?_
    obtain ⟨r3, s3, hc3, hf⟩ := jB_some hf
    refine jcall_v (va_runV (C := RcM) (As := [.int a0, .int (2 : Int32)]) (rest := []) ⟨hx, hb, hml, hown, hts⟩ ((cM_lack l dC dI cI cC cL sk sv ad N a0 (2 : Int32) s1 s3 r3 hc3) _) ⟨(callB_of 2 hts (tb_good tw732) rfl rfl rfl (ht _ tw14) (ht _ tw729) (by decide +kernel) ⟨Nat.le_of_ble_eq_true rfl, Nat.le_of_ble_eq_true rfl⟩), ht _ tw731, ht _ (tb_sel pv_M_lack)⟩ (jpreV (jEn_ok sk sv) hC hA hK hN (wM_e0 cI cC ad s1) rfl rfl _) rfl rfl hl.1 rfl (lv_room (Nat.le_of_ble_eq_true rfl)) dM_expect_18 ⟨Nat.le_refl _, Nat.le_refl _⟩) hC hA (fun H locs hC => ?_)
    cases hf
    exact jret_v hx hb hr hlk hC hK dM_expect_21
  · replace hf := jif_t c2 hf
    refine lv_aload_n hx hb dM_expect_8 rfl (lv_at hl 0 rfl) ?_
    obtain ⟨r4, s4, hc4, hf⟩ := jB_some hf
    refine jcall_v (va_runV (C := RcM) (As := []) (rest := []) ⟨hx, hb, hml, hown, hts⟩ ((cM_take l dC dI cI cC cL sk sv ad N s1 s4 r4 hc4) _) ⟨(callB_of 0 hts (tb_good tw701) rfl rfl rfl (ht _ tw14) (ht _ tw698) (by decide +kernel) ⟨Nat.le_of_ble_eq_true rfl, Nat.le_of_ble_eq_true rfl⟩), ht _ tw700, ht _ (tb_sel pv_M_take)⟩ (jpreV (jEn_ok sk sv) hC hA hK hN (wM_e0 cI cC ad s1) rfl rfl _) rfl rfl hl.1 rfl (lv_room (Nat.le_of_ble_eq_true rfl)) dM_expect_9 ⟨Nat.le_refl _, Nat.le_refl _⟩) hC hA (fun H locs hC => ?_)
    refine lv_goto (tgt := 21) hx hb dM_expect_12 (by decide) ?_
    cases hf
    exact jret_v hx hb hr hlk hC hK dM_expect_21

def fM_leaveOut (N : Nat) (a0 : Int32) (z0 : jS) : Option (Int32 × jS) := (if jIn (jgI z0 6) 61 = true then (jB (fM_current N z0) fun r2 s2 => (jB (fM_starts N r2 s2) fun r3 s3 => (if r3 = 0 then (if jIn (((61 : Int32) * a0) + jgA z0 16 (jgI z0 6).toNatClampNeg) 122 = true then (jL (jsA s3 2 ((((61 : Int32) * a0) + jgA z0 16 (jgI z0 6).toNatClampNeg)).toNatClampNeg (1 : Int32)) fun s5 => (jL (jsI s5 6 (jgI s5 6 + (1 : Int32))) fun s6 => some (0, s6))) else none) else (if jIn (((61 : Int32) * a0) + jgA z0 16 (jgI z0 6).toNatClampNeg) 122 = true then (jL (jsA s3 2 ((((61 : Int32) * a0) + jgA z0 16 (jgI z0 6).toNatClampNeg)).toNatClampNeg (3 : Int32)) fun s7 => (jL (jsI s7 6 (jgI s7 6 + (1 : Int32))) fun s8 => some (0, s8))) else none)))) else none)
set_option maxHeartbeats 4000000 in
set_option maxRecDepth 100000 in
theorem cM_leaveOut (l : Launch) (dC : Nat → ClassId) (dI : Nat → Nat → Nat) (cI cC cL : ClassId) (sk sv : Nat → Nat) (ad : Nat → Nat) (N : Nat) (a0 : Int32) (z0 z1 : jS) (r : Int32) (hf : fM_leaveOut N a0 z0 = some (r, z1)) : Cv l yM_leaveOut (Cond.code yM_leaveOut prog_8_method_15_code 2 none :: TB) ({ frames := 1, cells := 0, slots := 0, locals := 20 }) (dC, dI) vwCl [(cI, .int), (cC, .char), (cL, .object "SharedSyntax$Letters")] (jEn sk sv) [.ref (ad 0), .int a0] (wM cI cC ad z0) (wM cI cC ad z1) := by
  refine Cv_of (cc := prog_8_method_15_code) (maxL := 2) (ret := none) (by decide) rfl (Nat.le_of_ble_eq_true rfl) ?_
  intro p e s m below meth c ls F hl hK hN hC
  obtain ⟨hx, hb, hml, hown, hts, hr, hlk⟩ := F
  have ht : ∀ w ∈ TB, w.before [.ref (ad 0), .int a0].toArray s = true := fun w h => hts w (List.mem_cons_of_mem _ h)
  have hA : ∀ q, s.heap.size ≤ q → va_A (wM cI cC ad z0) s.heap.size q := fun q h => Or.inr h
  have hl : lv_has ls 2 [(0, .ref (ad 0)), (1, .int a0)] := hl
  unfold fM_leaveOut at hf
  refine lv_aload_n hx hb dM_leaveOut_0 rfl (lv_at hl 0 rfl) ?_
  refine va_get (D := (dC, dI)) (ci := 6) (v := .ref (ad 3)) (C := RcM) (T := TcM) (N := 43) hx hb ht in_cM hown hK hC.1 0 (wM_e0 cI cC ad z0) rfl 3 (by decide) (ht _ tw763) (fun _ h9 => h9) rfl dM_leaveOut_1 ?_
  refine lv_bipush (v := 61) hx hb dM_leaveOut_4 (by decide) ?_
  refine lv_iload_n hx hb dM_leaveOut_6 rfl (lv_at hl 1 rfl) ?_
  refine lv_imul hx hb dM_leaveOut_7 ?_
  refine lv_aload_n hx hb dM_leaveOut_8 rfl (lv_at hl 0 rfl) ?_
  refine va_get (D := (dC, dI)) (ci := 6) (v := .ref (ad 17)) (C := RcM) (T := TcM) (N := 43) hx hb ht in_cM hown hK hC.1 0 (wM_e0 cI cC ad z0) rfl 22 (by decide) (ht _ tw782) (fun _ h9 => h9) rfl dM_leaveOut_9 ?_
  refine lv_aload_n hx hb dM_leaveOut_12 rfl (lv_at hl 0 rfl) ?_
  refine va_get (D := (dC, dI)) (ci := 6) (v := .int (jgI z0 6)) (C := RcM) (T := TcM) (N := 43) hx hb ht in_cM hown hK hC.1 0 (wM_e0 cI cC ad z0) rfl 24 (by decide) (ht _ tw784) (fun _ h9 => h9) rfl dM_leaveOut_13 ?_
  obtain ⟨hi1, hf⟩ := jC_in hf
  refine va_iald hx hb hK hC.1 17 0 (wM_e17 cI cC ad z0) rfl hi1 dM_leaveOut_16 ?_
  refine lv_iadd hx hb dM_leaveOut_17 ?_
  refine lv_aload_n hx hb dM_leaveOut_18 rfl (lv_at hl 0 rfl) ?_
  obtain ⟨r2, s2, hc2, hf⟩ := jB_some hf
  refine jcall_i (va_runV (C := RcM) (As := []) (rest := [.int (((61 : Int32) * a0) + jgA z0 16 (jgI z0 6).toNatClampNeg), .ref (ad 3)]) ⟨hx, hb, hml, hown, hts⟩ ((cM_current l dC dI cI cC cL sk sv ad N z0 s2 r2 hc2) _) ⟨(callB_of 0 hts (tb_good tw709) rfl rfl rfl (ht _ tw14) (ht _ tw706) (by decide +kernel) ⟨Nat.le_of_ble_eq_true rfl, Nat.le_of_ble_eq_true rfl⟩), ht _ tw708, ht _ (tb_sel pv_M_current)⟩ (jpreV (jEn_ok sk sv) hC hA hK hN (wM_e0 cI cC ad z0) rfl rfl _) rfl rfl hl.1 rfl (lv_room (Nat.le_of_ble_eq_true rfl)) dM_leaveOut_19 ⟨Nat.le_refl _, Nat.le_refl _⟩) hC hA (fun H locs hC => ?_)
  obtain ⟨r3, s3, hc3, hf⟩ := jB_some hf
  refine jcall_i (va_runS (As := [.int r2]) (rest := [.int (((61 : Int32) * a0) + jgA z0 16 (jgI z0 6).toNatClampNeg), .ref (ad 3)]) ⟨hx, hb, hml, hown, hts⟩ ((cM_starts l dC dI cI cC cL sk sv ad N r2 s2 s3 r3 hc3) _) ⟨(callB_of 1 hts (tb_good tw716) rfl rfl rfl (ht _ tw14) (ht _ tw714) (by decide +kernel) ⟨Nat.le_of_ble_eq_true rfl, Nat.le_of_ble_eq_true rfl⟩), ht _ tw715⟩ (jpreS (jEn_ok sk sv) hC hA hK hN _) rfl rfl hl.1 rfl (lv_room (Nat.le_of_ble_eq_true rfl)) dM_leaveOut_22 ⟨Nat.le_refl _, Nat.le_refl _⟩) hC hA (fun H locs hC => ?_)
  refine lv_if_eq (tgt := 32) hx hb dM_leaveOut_25 (by decide) (fun c4 => ?_) (fun c4 => ?_)
  · replace hf := jif_t c4 hf
    refine lv_iconst (v := 1) hx hb dM_leaveOut_32 (by decide) ?_
    obtain ⟨hi5, hf⟩ := jC_in hf
    obtain ⟨s5, e5, hf⟩ := jL_s hf
    refine jast_i hx hb hK hC 3 0 (wM_e3 cI cC ad s3) rfl hi5 dM_leaveOut_33 ((wM_a2 cI cC ad s3 _ _).trans (congrArg (wM cI cC ad) e5.symm)) (fun H locs hC => ?_)
    refine lv_aload_n hx hb dM_leaveOut_34 rfl (lv_at hl 0 rfl) ?_
    refine lv_dup hx hb dM_leaveOut_35 rfl ?_
    refine va_get (D := (dC, dI)) (ci := 6) (v := .int (jgI s5 6)) (C := RcM) (T := TcM) (N := 43) hx hb ht in_cM hown hK hC.1 0 (wM_e0 cI cC ad s5) rfl 24 (by decide) (ht _ tw784) (fun _ h9 => h9) rfl dM_leaveOut_36 ?_
    refine lv_iconst (v := 1) hx hb dM_leaveOut_39 (by decide) ?_
    refine lv_iadd hx hb dM_leaveOut_40 ?_
    obtain ⟨s6, e6, hf⟩ := jL_s hf
    refine jput (ci := 6) (C := RcM) (T := TcM) (N := 43) hx hb ht in_cM tycM tycM_ok nmcM hown hK hC 0 (wM_e0 cI cC ad s5) rfl 24 (by decide) (ht _ tw784) (fun _ h9 => h9) rfl rfl (Nat.le_of_ble_eq_true rfl) dM_leaveOut_41 ((wM_p6 cI cC ad s5 _).trans (congrArg (wM cI cC ad) e6.symm)) (fun H locs hC => ?_)
    cases hf
    exact jret_v hx hb hr hlk hC hK dM_leaveOut_44
  · replace hf := jif_f c4 hf
    refine lv_iconst (v := 3) hx hb dM_leaveOut_28 (by decide) ?_
    refine lv_goto (tgt := 33) hx hb dM_leaveOut_29 (by decide) ?_
    obtain ⟨hi7, hf⟩ := jC_in hf
    obtain ⟨s7, e7, hf⟩ := jL_s hf
    refine jast_i hx hb hK hC 3 0 (wM_e3 cI cC ad s3) rfl hi7 dM_leaveOut_33 ((wM_a2 cI cC ad s3 _ _).trans (congrArg (wM cI cC ad) e7.symm)) (fun H locs hC => ?_)
    refine lv_aload_n hx hb dM_leaveOut_34 rfl (lv_at hl 0 rfl) ?_
    refine lv_dup hx hb dM_leaveOut_35 rfl ?_
    refine va_get (D := (dC, dI)) (ci := 6) (v := .int (jgI s7 6)) (C := RcM) (T := TcM) (N := 43) hx hb ht in_cM hown hK hC.1 0 (wM_e0 cI cC ad s7) rfl 24 (by decide) (ht _ tw784) (fun _ h9 => h9) rfl dM_leaveOut_36 ?_
    refine lv_iconst (v := 1) hx hb dM_leaveOut_39 (by decide) ?_
    refine lv_iadd hx hb dM_leaveOut_40 ?_
    obtain ⟨s8, e8, hf⟩ := jL_s hf
    refine jput (ci := 6) (C := RcM) (T := TcM) (N := 43) hx hb ht in_cM tycM tycM_ok nmcM hown hK hC 0 (wM_e0 cI cC ad s7) rfl 24 (by decide) (ht _ tw784) (fun _ h9 => h9) rfl rfl (Nat.le_of_ble_eq_true rfl) dM_leaveOut_41 ((wM_p6 cI cC ad s7 _).trans (congrArg (wM cI cC ad) e8.symm)) (fun H locs hC => ?_)
    cases hf
    exact jret_v hx hb hr hlk hC hK dM_leaveOut_44

def fM_reduce_b31 (N : Nat) (k31 : Int32 → Int32 → Int32 → Int32 → Int32 → Int32 → jS → Option (Int32 × jS)) (x1 x2 x3 x4 x5 x6 : Int32) (s0 : jS) : Option (Int32 × jS) := (if jgI s0 9 ≤ x6 then (jL (jsI s0 9 x2) fun s3102 => (if jIn x3 400 = true then (if jIn x3 400 = true then (if jIn x4 400 = true then (jB (fM_make N x1 (jgA s3102 19 (x3).toNatClampNeg) (jgA s3102 21 (x3).toNatClampNeg) (jgA s3102 20 (x4).toNatClampNeg) (0 : Int32) s3102) fun r3106 s3106 => (if jIn (jgI s3106 8 - (1 : Int32)) 400 = true then (jL (jsA s3106 24 ((jgI s3106 8 - (1 : Int32))).toNatClampNeg x3) fun s3107 => (if jIn (jgI s3107 8 - (1 : Int32)) 400 = true then (jL (jsA s3107 23 ((jgI s3107 8 - (1 : Int32))).toNatClampNeg x5) fun s3108 => some (0, s3108)) else none)) else none)) else none) else none) else none)) else (if jIn x6 400 = true then (if jIn (jgA s0 28 (x6).toNatClampNeg) 400 = true then (jL (jsA s0 26 (jgA s0 28 (x6).toNatClampNeg).toNatClampNeg (jgI s0 8)) fun s3110 => (if jIn x6 400 = true then (if jgI s3110 9 ≤ (x6 + (1 : Int32)) then (if jIn (jgA s3110 28 (x6).toNatClampNeg) 400 = true then (jL (jsA s3110 25 (jgA s3110 28 (x6).toNatClampNeg).toNatClampNeg (-1 : Int32)) fun s3113 => k31 x1 x2 x3 x4 x5 (x6 + (1 : Int32)) s3113) else none) else (if jIn (x6 + (1 : Int32)) 400 = true then (if jIn (jgA s3110 28 (x6).toNatClampNeg) 400 = true then (jL (jsA s3110 25 (jgA s3110 28 (x6).toNatClampNeg).toNatClampNeg (jgA s3110 28 ((x6 + (1 : Int32))).toNatClampNeg)) fun s3115 => k31 x1 x2 x3 x4 x5 (x6 + (1 : Int32)) s3115) else none) else none)) else none)) else none) else none))
def fM_reduce_31 (N : Nat) : Nat → Int32 → Int32 → Int32 → Int32 → Int32 → Int32 → jS → Option (Int32 × jS)
  | 0 => fun _ _ _ _ _ _ _ => none
  | n + 1 => fun x1 x2 x3 x4 x5 x6 s0 => fM_reduce_b31 N (fM_reduce_31 N n) x1 x2 x3 x4 x5 x6 s0
def fM_reduce (N : Nat) (a0 a1 : Int32) (z0 : jS) : Option (Int32 × jS) := (if jIn a1 400 = true then (if jIn (jgI z0 9 - (1 : Int32)) 400 = true then fM_reduce_31 N N a0 a1 (jgA z0 28 (a1).toNatClampNeg) (jgA z0 28 ((jgI z0 9 - (1 : Int32))).toNatClampNeg) (jgI z0 9 - a1) a1 z0 else none) else none)
set_option maxHeartbeats 4000000 in
set_option maxRecDepth 100000 in
theorem cM_reduce (l : Launch) (dC : Nat → ClassId) (dI : Nat → Nat → Nat) (cI cC cL : ClassId) (sk sv : Nat → Nat) (ad : Nat → Nat) (N : Nat) (a0 a1 : Int32) (z0 z1 : jS) (r : Int32) (hf : fM_reduce N a0 a1 z0 = some (r, z1)) : Cv l yM_reduce (Cond.code yM_reduce prog_8_method_16_code 7 none :: TB) ({ frames := 1, cells := 0, slots := 0, locals := 25 }) (dC, dI) vwCl [(cI, .int), (cC, .char), (cL, .object "SharedSyntax$Letters")] (jEn sk sv) [.ref (ad 0), .int a0, .int a1] (wM cI cC ad z0) (wM cI cC ad z1) := by
  refine Cv_of (cc := prog_8_method_16_code) (maxL := 7) (ret := none) (by decide) rfl (Nat.le_of_ble_eq_true rfl) ?_
  intro p e s m below meth c ls F hl hK hN hC
  obtain ⟨hx, hb, hml, hown, hts, hr, hlk⟩ := F
  have ht : ∀ w ∈ TB, w.before [.ref (ad 0), .int a0, .int a1].toArray s = true := fun w h => hts w (List.mem_cons_of_mem _ h)
  have hA : ∀ q, s.heap.size ≤ q → va_A (wM cI cC ad z0) s.heap.size q := fun q h => Or.inr h
  have hl : lv_has ls 7 [(0, .ref (ad 0)), (1, .int a0), (2, .int a1)] := hl
  have L31 : ∀ (n : Nat) (x1 x2 x3 x4 x5 x6 : Int32) (s0 : jS) (ls : Array Slot) (H : Heap) (locs : List Loc), lv_has ls 7 [(0, .ref (ad 0)), (1, .int x1), (2, .int x2), (3, .int x3), (4, .int x4), (5, .int x5), (6, .int x6)] → jcx (dC, dI) vwCl (va_A (wM cI cC ad z0) s.heap.size) s.heap (wM cI cC ad s0) H locs → fM_reduce_31 N n x1 x2 x3 x4 x5 x6 s0 = some (r, z1) → W p l e ({ frames := 1, cells := 0, slots := 0, locals := 25 }) s m [.ref (ad 0), .int a0, .int a1].toArray below meth c H locs 0 0 (MQ below (jQv (dC, dI) vwCl [(cI, .int), (cC, .char), (cL, .object "SharedSyntax$Letters")] (wM cI cC ad z0) (wM cI cC ad z1) s.heap.size) [.ref (ad 0), .int a0, .int a1].toArray s 0 0 (va_A (wM cI cC ad z0) s.heap.size)) (F0 m 31 ls []) := by
    intro n
    induction n with
    | zero => exact fun _ _ _ _ _ _ _ _ _ _ _ _ hf => nomatch hf
    | succ n ih31 =>
      intro x1 x2 x3 x4 x5 x6 s0 ls H locs hl hC hf
      replace hf : fM_reduce_b31 N (fM_reduce_31 N n) x1 x2 x3 x4 x5 x6 s0 = some (r, z1) := hf
      generalize fM_reduce_31 N n = k31 at ih31 hf
      unfold fM_reduce_b31 at hf
      refine lv_iload hx hb dM_reduce_31 (lv_at hl 6 rfl) ?_
      refine lv_aload_n hx hb dM_reduce_33 rfl (lv_at hl 0 rfl) ?_
      refine va_get (D := (dC, dI)) (ci := 6) (v := .int (jgI s0 9)) (C := RcM) (T := TcM) (N := 43) hx hb ht in_cM hown hK hC.1 0 (wM_e0 cI cC ad s0) rfl 37 (by decide) (ht _ tw797) (fun _ h9 => h9) rfl dM_reduce_34 ?_
      refine lv_icmp_ge (tgt := 98) hx hb dM_reduce_37 (by decide) (fun c3101 => ?_) (fun c3101 => ?_)
      · replace hf := jif_t c3101 hf
        refine lv_aload_n hx hb dM_reduce_98 rfl (lv_at hl 0 rfl) ?_
        refine lv_iload_n hx hb dM_reduce_99 rfl (lv_at hl 2 rfl) ?_
        obtain ⟨s3102, e3102, hf⟩ := jL_s hf
        refine jput (ci := 6) (C := RcM) (T := TcM) (N := 43) hx hb ht in_cM tycM tycM_ok nmcM hown hK hC 0 (wM_e0 cI cC ad s0) rfl 37 (by decide) (ht _ tw797) (fun _ h9 => h9) rfl rfl (Nat.le_of_ble_eq_true rfl) dM_reduce_100 ((wM_p9 cI cC ad s0 _).trans (congrArg (wM cI cC ad) e3102.symm)) (fun H locs hC => ?_)
        refine lv_aload_n hx hb dM_reduce_103 rfl (lv_at hl 0 rfl) ?_
        refine lv_iload_n hx hb dM_reduce_104 rfl (lv_at hl 1 rfl) ?_
        refine lv_aload_n hx hb dM_reduce_105 rfl (lv_at hl 0 rfl) ?_
        refine va_get (D := (dC, dI)) (ci := 6) (v := .ref (ad 20)) (C := RcM) (T := TcM) (N := 43) hx hb ht in_cM hown hK hC.1 0 (wM_e0 cI cC ad s3102) rfl 28 (by decide) (ht _ tw788) (fun _ h9 => h9) rfl dM_reduce_106 ?_
        refine lv_iload_n hx hb dM_reduce_109 rfl (lv_at hl 3 rfl) ?_
        obtain ⟨hi3103, hf⟩ := jC_in hf
        refine va_iald hx hb hK hC.1 20 0 (wM_e20 cI cC ad s3102) rfl hi3103 dM_reduce_110 ?_
        refine lv_aload_n hx hb dM_reduce_111 rfl (lv_at hl 0 rfl) ?_
        refine va_get (D := (dC, dI)) (ci := 6) (v := .ref (ad 22)) (C := RcM) (T := TcM) (N := 43) hx hb ht in_cM hown hK hC.1 0 (wM_e0 cI cC ad s3102) rfl 30 (by decide) (ht _ tw790) (fun _ h9 => h9) rfl dM_reduce_112 ?_
        refine lv_iload_n hx hb dM_reduce_115 rfl (lv_at hl 3 rfl) ?_
        obtain ⟨hi3104, hf⟩ := jC_in hf
        refine va_iald hx hb hK hC.1 22 0 (wM_e22 cI cC ad s3102) rfl hi3104 dM_reduce_116 ?_
        refine lv_aload_n hx hb dM_reduce_117 rfl (lv_at hl 0 rfl) ?_
        refine va_get (D := (dC, dI)) (ci := 6) (v := .ref (ad 21)) (C := RcM) (T := TcM) (N := 43) hx hb ht in_cM hown hK hC.1 0 (wM_e0 cI cC ad s3102) rfl 29 (by decide) (ht _ tw789) (fun _ h9 => h9) rfl dM_reduce_118 ?_
        refine lv_iload hx hb dM_reduce_121 (lv_at hl 4 rfl) ?_
        obtain ⟨hi3105, hf⟩ := jC_in hf
        refine va_iald hx hb hK hC.1 21 0 (wM_e21 cI cC ad s3102) rfl hi3105 dM_reduce_123 ?_
        refine lv_iconst (v := 0) hx hb dM_reduce_124 (by decide) ?_
        obtain ⟨r3106, s3106, hc3106, hf⟩ := jB_some hf
        refine jcall_v (va_runV (C := RcM) (As := [.int x1, .int (jgA s3102 19 (x3).toNatClampNeg), .int (jgA s3102 21 (x3).toNatClampNeg), .int (jgA s3102 20 (x4).toNatClampNeg), .int (0 : Int32)]) (rest := []) ⟨hx, hb, hml, hown, hts⟩ ((cM_make l dC dI cI cC cL sk sv ad N x1 (jgA s3102 19 (x3).toNatClampNeg) (jgA s3102 21 (x3).toNatClampNeg) (jgA s3102 20 (x4).toNatClampNeg) (0 : Int32) s3102 s3106 r3106 hc3106) _) ⟨(callB_of 5 hts (tb_good tw697) rfl rfl rfl (ht _ tw14) (ht _ tw694) (by decide +kernel) ⟨Nat.le_of_ble_eq_true rfl, Nat.le_of_ble_eq_true rfl⟩), ht _ tw696, ht _ (tb_sel pv_M_make)⟩ (jpreV (jEn_ok sk sv) hC hA hK hN (wM_e0 cI cC ad s3102) rfl rfl _) rfl rfl hl.1 rfl (lv_room (Nat.le_of_ble_eq_true rfl)) dM_reduce_125 ⟨Nat.le_refl _, Nat.le_refl _⟩) hC hA (fun H locs hC => ?_)
        refine lv_aload_n hx hb dM_reduce_128 rfl (lv_at hl 0 rfl) ?_
        refine va_get (D := (dC, dI)) (ci := 6) (v := .ref (ad 25)) (C := RcM) (T := TcM) (N := 43) hx hb ht in_cM hown hK hC.1 0 (wM_e0 cI cC ad s3106) rfl 33 (by decide) (ht _ tw793) (fun _ h9 => h9) rfl dM_reduce_129 ?_
        refine lv_aload_n hx hb dM_reduce_132 rfl (lv_at hl 0 rfl) ?_
        refine va_get (D := (dC, dI)) (ci := 6) (v := .int (jgI s3106 8)) (C := RcM) (T := TcM) (N := 43) hx hb ht in_cM hown hK hC.1 0 (wM_e0 cI cC ad s3106) rfl 26 (by decide) (ht _ tw786) (fun _ h9 => h9) rfl dM_reduce_133 ?_
        refine lv_iconst (v := 1) hx hb dM_reduce_136 (by decide) ?_
        refine lv_isub hx hb dM_reduce_137 ?_
        refine lv_iload_n hx hb dM_reduce_138 rfl (lv_at hl 3 rfl) ?_
        obtain ⟨hi3107, hf⟩ := jC_in hf
        obtain ⟨s3107, e3107, hf⟩ := jL_s hf
        refine jast_i hx hb hK hC 25 0 (wM_e25 cI cC ad s3106) rfl hi3107 dM_reduce_139 ((wM_a24 cI cC ad s3106 _ _).trans (congrArg (wM cI cC ad) e3107.symm)) (fun H locs hC => ?_)
        refine lv_aload_n hx hb dM_reduce_140 rfl (lv_at hl 0 rfl) ?_
        refine va_get (D := (dC, dI)) (ci := 6) (v := .ref (ad 24)) (C := RcM) (T := TcM) (N := 43) hx hb ht in_cM hown hK hC.1 0 (wM_e0 cI cC ad s3107) rfl 32 (by decide) (ht _ tw792) (fun _ h9 => h9) rfl dM_reduce_141 ?_
        refine lv_aload_n hx hb dM_reduce_144 rfl (lv_at hl 0 rfl) ?_
        refine va_get (D := (dC, dI)) (ci := 6) (v := .int (jgI s3107 8)) (C := RcM) (T := TcM) (N := 43) hx hb ht in_cM hown hK hC.1 0 (wM_e0 cI cC ad s3107) rfl 26 (by decide) (ht _ tw786) (fun _ h9 => h9) rfl dM_reduce_145 ?_
        refine lv_iconst (v := 1) hx hb dM_reduce_148 (by decide) ?_
        refine lv_isub hx hb dM_reduce_149 ?_
        refine lv_iload hx hb dM_reduce_150 (lv_at hl 5 rfl) ?_
        obtain ⟨hi3108, hf⟩ := jC_in hf
        obtain ⟨s3108, e3108, hf⟩ := jL_s hf
        refine jast_i hx hb hK hC 24 0 (wM_e24 cI cC ad s3107) rfl hi3108 dM_reduce_152 ((wM_a23 cI cC ad s3107 _ _).trans (congrArg (wM cI cC ad) e3108.symm)) (fun H locs hC => ?_)
        cases hf
        exact jret_v hx hb hr hlk hC hK dM_reduce_153
      · replace hf := jif_f c3101 hf
        refine lv_aload_n hx hb dM_reduce_40 rfl (lv_at hl 0 rfl) ?_
        refine va_get (D := (dC, dI)) (ci := 6) (v := .ref (ad 27)) (C := RcM) (T := TcM) (N := 43) hx hb ht in_cM hown hK hC.1 0 (wM_e0 cI cC ad s0) rfl 35 (by decide) (ht _ tw795) (fun _ h9 => h9) rfl dM_reduce_41 ?_
        refine lv_aload_n hx hb dM_reduce_44 rfl (lv_at hl 0 rfl) ?_
        refine va_get (D := (dC, dI)) (ci := 6) (v := .ref (ad 29)) (C := RcM) (T := TcM) (N := 43) hx hb ht in_cM hown hK hC.1 0 (wM_e0 cI cC ad s0) rfl 38 (by decide) (ht _ tw798) (fun _ h9 => h9) rfl dM_reduce_45 ?_
        refine lv_iload hx hb dM_reduce_48 (lv_at hl 6 rfl) ?_
        obtain ⟨hi3109, hf⟩ := jC_in hf
        refine va_iald hx hb hK hC.1 29 0 (wM_e29 cI cC ad s0) rfl hi3109 dM_reduce_50 ?_
        refine lv_aload_n hx hb dM_reduce_51 rfl (lv_at hl 0 rfl) ?_
        refine va_get (D := (dC, dI)) (ci := 6) (v := .int (jgI s0 8)) (C := RcM) (T := TcM) (N := 43) hx hb ht in_cM hown hK hC.1 0 (wM_e0 cI cC ad s0) rfl 26 (by decide) (ht _ tw786) (fun _ h9 => h9) rfl dM_reduce_52 ?_
        obtain ⟨hi3110, hf⟩ := jC_in hf
        obtain ⟨s3110, e3110, hf⟩ := jL_s hf
        refine jast_i hx hb hK hC 27 0 (wM_e27 cI cC ad s0) rfl hi3110 dM_reduce_55 ((wM_a26 cI cC ad s0 _ _).trans (congrArg (wM cI cC ad) e3110.symm)) (fun H locs hC => ?_)
        refine lv_aload_n hx hb dM_reduce_56 rfl (lv_at hl 0 rfl) ?_
        refine va_get (D := (dC, dI)) (ci := 6) (v := .ref (ad 26)) (C := RcM) (T := TcM) (N := 43) hx hb ht in_cM hown hK hC.1 0 (wM_e0 cI cC ad s3110) rfl 34 (by decide) (ht _ tw794) (fun _ h9 => h9) rfl dM_reduce_57 ?_
        refine lv_aload_n hx hb dM_reduce_60 rfl (lv_at hl 0 rfl) ?_
        refine va_get (D := (dC, dI)) (ci := 6) (v := .ref (ad 29)) (C := RcM) (T := TcM) (N := 43) hx hb ht in_cM hown hK hC.1 0 (wM_e0 cI cC ad s3110) rfl 38 (by decide) (ht _ tw798) (fun _ h9 => h9) rfl dM_reduce_61 ?_
        refine lv_iload hx hb dM_reduce_64 (lv_at hl 6 rfl) ?_
        obtain ⟨hi3111, hf⟩ := jC_in hf
        refine va_iald hx hb hK hC.1 29 0 (wM_e29 cI cC ad s3110) rfl hi3111 dM_reduce_66 ?_
        refine lv_iload hx hb dM_reduce_67 (lv_at hl 6 rfl) ?_
        refine lv_iconst (v := 1) hx hb dM_reduce_69 (by decide) ?_
        refine lv_iadd hx hb dM_reduce_70 ?_
        refine lv_aload_n hx hb dM_reduce_71 rfl (lv_at hl 0 rfl) ?_
        refine va_get (D := (dC, dI)) (ci := 6) (v := .int (jgI s3110 9)) (C := RcM) (T := TcM) (N := 43) hx hb ht in_cM hown hK hC.1 0 (wM_e0 cI cC ad s3110) rfl 37 (by decide) (ht _ tw797) (fun _ h9 => h9) rfl dM_reduce_72 ?_
        refine lv_icmp_ge (tgt := 90) hx hb dM_reduce_75 (by decide) (fun c3112 => ?_) (fun c3112 => ?_)
        · replace hf := jif_t c3112 hf
          refine lv_iconst (v := -1) hx hb dM_reduce_90 (by decide) ?_
          obtain ⟨hi3113, hf⟩ := jC_in hf
          obtain ⟨s3113, e3113, hf⟩ := jL_s hf
          refine jast_i hx hb hK hC 26 0 (wM_e26 cI cC ad s3110) rfl hi3113 dM_reduce_91 ((wM_a25 cI cC ad s3110 _ _).trans (congrArg (wM cI cC ad) e3113.symm)) (fun H locs hC => ?_)
          refine lv_iinc (k := 6) (v := (x6 + (1 : Int32))) (lv' := [(6, .int (x6 + (1 : Int32))), (0, .ref (ad 0)), (1, .int x1), (2, .int x2), (3, .int x3), (4, .int x4), (5, .int x5)]) hx hb dM_reduce_92 hl rfl rfl (by decide) rfl (fun ls hl => ?_)
          refine lv_goto (tgt := 31) hx hb dM_reduce_95 (by decide) ?_
          exact ih31 x1 x2 x3 x4 x5 (x6 + (1 : Int32)) s3113 ls _ _ (lv_sub hl [1, 2, 3, 4, 5, 6, 0] rfl) hC hf
        · replace hf := jif_f c3112 hf
          refine lv_aload_n hx hb dM_reduce_78 rfl (lv_at hl 0 rfl) ?_
          refine va_get (D := (dC, dI)) (ci := 6) (v := .ref (ad 29)) (C := RcM) (T := TcM) (N := 43) hx hb ht in_cM hown hK hC.1 0 (wM_e0 cI cC ad s3110) rfl 38 (by decide) (ht _ tw798) (fun _ h9 => h9) rfl dM_reduce_79 ?_
          refine lv_iload hx hb dM_reduce_82 (lv_at hl 6 rfl) ?_
          refine lv_iconst (v := 1) hx hb dM_reduce_84 (by decide) ?_
          refine lv_iadd hx hb dM_reduce_85 ?_
          obtain ⟨hi3114, hf⟩ := jC_in hf
          refine va_iald hx hb hK hC.1 29 0 (wM_e29 cI cC ad s3110) rfl hi3114 dM_reduce_86 ?_
          refine lv_goto (tgt := 91) hx hb dM_reduce_87 (by decide) ?_
          obtain ⟨hi3115, hf⟩ := jC_in hf
          obtain ⟨s3115, e3115, hf⟩ := jL_s hf
          refine jast_i hx hb hK hC 26 0 (wM_e26 cI cC ad s3110) rfl hi3115 dM_reduce_91 ((wM_a25 cI cC ad s3110 _ _).trans (congrArg (wM cI cC ad) e3115.symm)) (fun H locs hC => ?_)
          refine lv_iinc (k := 6) (v := (x6 + (1 : Int32))) (lv' := [(6, .int (x6 + (1 : Int32))), (0, .ref (ad 0)), (1, .int x1), (2, .int x2), (3, .int x3), (4, .int x4), (5, .int x5)]) hx hb dM_reduce_92 hl rfl rfl (by decide) rfl (fun ls hl => ?_)
          refine lv_goto (tgt := 31) hx hb dM_reduce_95 (by decide) ?_
          exact ih31 x1 x2 x3 x4 x5 (x6 + (1 : Int32)) s3115 ls _ _ (lv_sub hl [1, 2, 3, 4, 5, 6, 0] rfl) hC hf
  unfold fM_reduce at hf
  refine lv_aload_n hx hb dM_reduce_0 rfl (lv_at hl 0 rfl) ?_
  refine va_get (D := (dC, dI)) (ci := 6) (v := .ref (ad 29)) (C := RcM) (T := TcM) (N := 43) hx hb ht in_cM hown hK hC.1 0 (wM_e0 cI cC ad z0) rfl 38 (by decide) (ht _ tw798) (fun _ h9 => h9) rfl dM_reduce_1 ?_
  refine lv_iload_n hx hb dM_reduce_4 rfl (lv_at hl 2 rfl) ?_
  obtain ⟨hi1, hf⟩ := jC_in hf
  refine va_iald hx hb hK hC.1 29 0 (wM_e29 cI cC ad z0) rfl hi1 dM_reduce_5 ?_
  refine lv_istore_n (lv' := [(3, .int (jgA z0 28 (a1).toNatClampNeg)), (0, .ref (ad 0)), (1, .int a0), (2, .int a1)]) hx hb dM_reduce_6 rfl hl (by decide) rfl (fun ls hl => ?_)
  refine lv_aload_n hx hb dM_reduce_7 rfl (lv_at hl 1 rfl) ?_
  refine va_get (D := (dC, dI)) (ci := 6) (v := .ref (ad 29)) (C := RcM) (T := TcM) (N := 43) hx hb ht in_cM hown hK hC.1 0 (wM_e0 cI cC ad z0) rfl 38 (by decide) (ht _ tw798) (fun _ h9 => h9) rfl dM_reduce_8 ?_
  refine lv_aload_n hx hb dM_reduce_11 rfl (lv_at hl 1 rfl) ?_
  refine va_get (D := (dC, dI)) (ci := 6) (v := .int (jgI z0 9)) (C := RcM) (T := TcM) (N := 43) hx hb ht in_cM hown hK hC.1 0 (wM_e0 cI cC ad z0) rfl 37 (by decide) (ht _ tw797) (fun _ h9 => h9) rfl dM_reduce_12 ?_
  refine lv_iconst (v := 1) hx hb dM_reduce_15 (by decide) ?_
  refine lv_isub hx hb dM_reduce_16 ?_
  obtain ⟨hi2, hf⟩ := jC_in hf
  refine va_iald hx hb hK hC.1 29 0 (wM_e29 cI cC ad z0) rfl hi2 dM_reduce_17 ?_
  refine lv_istore (lv' := [(4, .int (jgA z0 28 ((jgI z0 9 - (1 : Int32))).toNatClampNeg)), (3, .int (jgA z0 28 (a1).toNatClampNeg)), (0, .ref (ad 0)), (1, .int a0), (2, .int a1)]) hx hb dM_reduce_18 hl (by decide) rfl (fun ls hl => ?_)
  refine lv_aload_n hx hb dM_reduce_20 rfl (lv_at hl 2 rfl) ?_
  refine va_get (D := (dC, dI)) (ci := 6) (v := .int (jgI z0 9)) (C := RcM) (T := TcM) (N := 43) hx hb ht in_cM hown hK hC.1 0 (wM_e0 cI cC ad z0) rfl 37 (by decide) (ht _ tw797) (fun _ h9 => h9) rfl dM_reduce_21 ?_
  refine lv_iload_n hx hb dM_reduce_24 rfl (lv_at hl 4 rfl) ?_
  refine lv_isub hx hb dM_reduce_25 ?_
  refine lv_istore (lv' := [(5, .int (jgI z0 9 - a1)), (4, .int (jgA z0 28 ((jgI z0 9 - (1 : Int32))).toNatClampNeg)), (3, .int (jgA z0 28 (a1).toNatClampNeg)), (0, .ref (ad 0)), (1, .int a0), (2, .int a1)]) hx hb dM_reduce_26 hl (by decide) rfl (fun ls hl => ?_)
  refine lv_iload_n hx hb dM_reduce_28 rfl (lv_at hl 5 rfl) ?_
  refine lv_istore (lv' := [(6, .int a1), (5, .int (jgI z0 9 - a1)), (4, .int (jgA z0 28 ((jgI z0 9 - (1 : Int32))).toNatClampNeg)), (3, .int (jgA z0 28 (a1).toNatClampNeg)), (0, .ref (ad 0)), (1, .int a0), (2, .int a1)]) hx hb dM_reduce_29 hl (by decide) rfl (fun ls hl => ?_)
  exact L31 N a0 a1 (jgA z0 28 (a1).toNatClampNeg) (jgA z0 28 ((jgI z0 9 - (1 : Int32))).toNatClampNeg) (jgI z0 9 - a1) a1 z0 ls _ _ (lv_sub hl [4, 5, 6, 3, 2, 1, 0] rfl) hC hf

def fM_add (N : Nat) (a0 a1 a2 : Int32) (z0 : jS) : Option (Int32 × jS) := (if jIn (jgI z0 10) 200 = true then (jL (jsA z0 29 (jgI z0 10).toNatClampNeg a0) fun s1 => (if jIn (jgI s1 10) 200 = true then (jL (jsA s1 30 (jgI s1 10).toNatClampNeg a1) fun s2 => (if jIn (jgI s2 10) 200 = true then (jL (jsA s2 31 (jgI s2 10).toNatClampNeg a2) fun s3 => (jL (jsI s3 10 (jgI s3 10 + (1 : Int32))) fun s4 => some (0, s4))) else none)) else none)) else none)
set_option maxHeartbeats 4000000 in
set_option maxRecDepth 100000 in
theorem cM_add (l : Launch) (dC : Nat → ClassId) (dI : Nat → Nat → Nat) (cI cC cL : ClassId) (sk sv : Nat → Nat) (ad : Nat → Nat) (N : Nat) (a0 a1 a2 : Int32) (z0 z1 : jS) (r : Int32) (hf : fM_add N a0 a1 a2 z0 = some (r, z1)) : Cv l yM_add (Cond.code yM_add prog_8_method_17_code 4 none :: TB) ({ frames := 0, cells := 0, slots := 0, locals := 0 }) (dC, dI) vwCl [(cI, .int), (cC, .char), (cL, .object "SharedSyntax$Letters")] (jEn sk sv) [.ref (ad 0), .int a0, .int a1, .int a2] (wM cI cC ad z0) (wM cI cC ad z1) := by
  refine Cv_of (cc := prog_8_method_17_code) (maxL := 4) (ret := none) (by decide) rfl (Nat.le_of_ble_eq_true rfl) ?_
  intro p e s m below meth c ls F hl hK hN hC
  obtain ⟨hx, hb, hml, hown, hts, hr, hlk⟩ := F
  have ht : ∀ w ∈ TB, w.before [.ref (ad 0), .int a0, .int a1, .int a2].toArray s = true := fun w h => hts w (List.mem_cons_of_mem _ h)
  have hA : ∀ q, s.heap.size ≤ q → va_A (wM cI cC ad z0) s.heap.size q := fun q h => Or.inr h
  have hl : lv_has ls 4 [(0, .ref (ad 0)), (1, .int a0), (2, .int a1), (3, .int a2)] := hl
  unfold fM_add at hf
  refine lv_aload_n hx hb dM_add_0 rfl (lv_at hl 0 rfl) ?_
  refine va_get (D := (dC, dI)) (ci := 6) (v := .ref (ad 30)) (C := RcM) (T := TcM) (N := 43) hx hb ht in_cM hown hK hC.1 0 (wM_e0 cI cC ad z0) rfl 40 (by decide) (ht _ tw800) (fun _ h9 => h9) rfl dM_add_1 ?_
  refine lv_aload_n hx hb dM_add_4 rfl (lv_at hl 0 rfl) ?_
  refine va_get (D := (dC, dI)) (ci := 6) (v := .int (jgI z0 10)) (C := RcM) (T := TcM) (N := 43) hx hb ht in_cM hown hK hC.1 0 (wM_e0 cI cC ad z0) rfl 39 (by decide) (ht _ tw799) (fun _ h9 => h9) rfl dM_add_5 ?_
  refine lv_iload_n hx hb dM_add_8 rfl (lv_at hl 1 rfl) ?_
  obtain ⟨hi1, hf⟩ := jC_in hf
  obtain ⟨s1, e1, hf⟩ := jL_s hf
  refine jast_i hx hb hK hC 30 0 (wM_e30 cI cC ad z0) rfl hi1 dM_add_9 ((wM_a29 cI cC ad z0 _ _).trans (congrArg (wM cI cC ad) e1.symm)) (fun H locs hC => ?_)
  refine lv_aload_n hx hb dM_add_10 rfl (lv_at hl 0 rfl) ?_
  refine va_get (D := (dC, dI)) (ci := 6) (v := .ref (ad 31)) (C := RcM) (T := TcM) (N := 43) hx hb ht in_cM hown hK hC.1 0 (wM_e0 cI cC ad s1) rfl 41 (by decide) (ht _ tw801) (fun _ h9 => h9) rfl dM_add_11 ?_
  refine lv_aload_n hx hb dM_add_14 rfl (lv_at hl 0 rfl) ?_
  refine va_get (D := (dC, dI)) (ci := 6) (v := .int (jgI s1 10)) (C := RcM) (T := TcM) (N := 43) hx hb ht in_cM hown hK hC.1 0 (wM_e0 cI cC ad s1) rfl 39 (by decide) (ht _ tw799) (fun _ h9 => h9) rfl dM_add_15 ?_
  refine lv_iload_n hx hb dM_add_18 rfl (lv_at hl 2 rfl) ?_
  obtain ⟨hi2, hf⟩ := jC_in hf
  obtain ⟨s2, e2, hf⟩ := jL_s hf
  refine jast_i hx hb hK hC 31 0 (wM_e31 cI cC ad s1) rfl hi2 dM_add_19 ((wM_a30 cI cC ad s1 _ _).trans (congrArg (wM cI cC ad) e2.symm)) (fun H locs hC => ?_)
  refine lv_aload_n hx hb dM_add_20 rfl (lv_at hl 0 rfl) ?_
  refine va_get (D := (dC, dI)) (ci := 6) (v := .ref (ad 32)) (C := RcM) (T := TcM) (N := 43) hx hb ht in_cM hown hK hC.1 0 (wM_e0 cI cC ad s2) rfl 42 (by decide) (ht _ tw802) (fun _ h9 => h9) rfl dM_add_21 ?_
  refine lv_aload_n hx hb dM_add_24 rfl (lv_at hl 0 rfl) ?_
  refine va_get (D := (dC, dI)) (ci := 6) (v := .int (jgI s2 10)) (C := RcM) (T := TcM) (N := 43) hx hb ht in_cM hown hK hC.1 0 (wM_e0 cI cC ad s2) rfl 39 (by decide) (ht _ tw799) (fun _ h9 => h9) rfl dM_add_25 ?_
  refine lv_iload_n hx hb dM_add_28 rfl (lv_at hl 3 rfl) ?_
  obtain ⟨hi3, hf⟩ := jC_in hf
  obtain ⟨s3, e3, hf⟩ := jL_s hf
  refine jast_i hx hb hK hC 32 0 (wM_e32 cI cC ad s2) rfl hi3 dM_add_29 ((wM_a31 cI cC ad s2 _ _).trans (congrArg (wM cI cC ad) e3.symm)) (fun H locs hC => ?_)
  refine lv_aload_n hx hb dM_add_30 rfl (lv_at hl 0 rfl) ?_
  refine lv_dup hx hb dM_add_31 rfl ?_
  refine va_get (D := (dC, dI)) (ci := 6) (v := .int (jgI s3 10)) (C := RcM) (T := TcM) (N := 43) hx hb ht in_cM hown hK hC.1 0 (wM_e0 cI cC ad s3) rfl 39 (by decide) (ht _ tw799) (fun _ h9 => h9) rfl dM_add_32 ?_
  refine lv_iconst (v := 1) hx hb dM_add_35 (by decide) ?_
  refine lv_iadd hx hb dM_add_36 ?_
  obtain ⟨s4, e4, hf⟩ := jL_s hf
  refine jput (ci := 6) (C := RcM) (T := TcM) (N := 43) hx hb ht in_cM tycM tycM_ok nmcM hown hK hC 0 (wM_e0 cI cC ad s3) rfl 39 (by decide) (ht _ tw799) (fun _ h9 => h9) rfl rfl (Nat.le_of_ble_eq_true rfl) dM_add_37 ((wM_p10 cI cC ad s3 _).trans (congrArg (wM cI cC ad) e4.symm)) (fun H locs hC => ?_)
  cases hf
  exact jret_v hx hb hr hlk hC hK dM_add_40

def fM_list_26 (N : Nat) (x1 x2 x3 : Int32) (s0 : jS) : Option (Int32 × jS) := (jB (fM_add N (2 : Int32) x2 x3 s0) fun r2601 s2601 => (jB (fM_begins N x2 s2601) fun r2602 s2602 => (if r2602 = 0 then (jB (fM_leaveOut N x1 s2602) fun r2604 s2604 => some (0, s2604)) else (jB (fM_add N (3 : Int32) x2 (0 : Int32) s2602) fun r2605 s2605 => some (0, s2605)))))
def fM_list (N : Nat) (a0 a1 a2 : Int32) (z0 : jS) : Option (Int32 × jS) := (jB (fM_current N z0) fun r1 s1 => (if r1 = (17 : Int32) then some (0, s1) else (if a2 = (1 : Int32) then (if r1 = (8 : Int32) then some (0, s1) else fM_list_26 N a0 a1 a2 s1) else fM_list_26 N a0 a1 a2 s1)))
set_option maxHeartbeats 4000000 in
set_option maxRecDepth 100000 in
theorem cM_list (l : Launch) (dC : Nat → ClassId) (dI : Nat → Nat → Nat) (cI cC cL : ClassId) (sk sv : Nat → Nat) (ad : Nat → Nat) (N : Nat) (a0 a1 a2 : Int32) (z0 z1 : jS) (r : Int32) (hf : fM_list N a0 a1 a2 z0 = some (r, z1)) : Cv l yM_list (Cond.code yM_list prog_8_method_19_code 5 none :: TB) ({ frames := 2, cells := 0, slots := 0, locals := 42 }) (dC, dI) vwCl [(cI, .int), (cC, .char), (cL, .object "SharedSyntax$Letters")] (jEn sk sv) [.ref (ad 0), .int a0, .int a1, .int a2] (wM cI cC ad z0) (wM cI cC ad z1) := by
  refine Cv_of (cc := prog_8_method_19_code) (maxL := 5) (ret := none) (by decide) rfl (Nat.le_of_ble_eq_true rfl) ?_
  intro p e s m below meth c ls F hl hK hN hC
  obtain ⟨hx, hb, hml, hown, hts, hr, hlk⟩ := F
  have ht : ∀ w ∈ TB, w.before [.ref (ad 0), .int a0, .int a1, .int a2].toArray s = true := fun w h => hts w (List.mem_cons_of_mem _ h)
  have hA : ∀ q, s.heap.size ≤ q → va_A (wM cI cC ad z0) s.heap.size q := fun q h => Or.inr h
  have hl : lv_has ls 5 [(0, .ref (ad 0)), (1, .int a0), (2, .int a1), (3, .int a2)] := hl
  have L26 : ∀ (x1 x2 x3 : Int32) (s0 : jS) (ls : Array Slot) (H : Heap) (locs : List Loc), lv_has ls 5 [(0, .ref (ad 0)), (1, .int x1), (2, .int x2), (3, .int x3)] → jcx (dC, dI) vwCl (va_A (wM cI cC ad z0) s.heap.size) s.heap (wM cI cC ad s0) H locs → fM_list_26 N x1 x2 x3 s0 = some (r, z1) → W p l e ({ frames := 2, cells := 0, slots := 0, locals := 42 }) s m [.ref (ad 0), .int a0, .int a1, .int a2].toArray below meth c H locs 0 0 (MQ below (jQv (dC, dI) vwCl [(cI, .int), (cC, .char), (cL, .object "SharedSyntax$Letters")] (wM cI cC ad z0) (wM cI cC ad z1) s.heap.size) [.ref (ad 0), .int a0, .int a1, .int a2].toArray s 0 0 (va_A (wM cI cC ad z0) s.heap.size)) (F0 m 26 ls []) := by
    intro x1 x2 x3 s0 ls H locs hl hC hf
    unfold fM_list_26 at hf
    refine lv_aload_n hx hb dM_list_26 rfl (lv_at hl 0 rfl) ?_
    refine lv_iconst (v := 2) hx hb dM_list_27 (by decide) ?_
    refine lv_iload_n hx hb dM_list_28 rfl (lv_at hl 2 rfl) ?_
    refine lv_iload_n hx hb dM_list_29 rfl (lv_at hl 3 rfl) ?_
    obtain ⟨r2601, s2601, hc2601, hf⟩ := jB_some hf
    refine jcall_v (va_runV (C := RcM) (As := [.int (2 : Int32), .int x2, .int x3]) (rest := []) ⟨hx, hb, hml, hown, hts⟩ ((cM_add l dC dI cI cC cL sk sv ad N (2 : Int32) x2 x3 s0 s2601 r2601 hc2601) _) ⟨(callB_of 3 hts (tb_good tw684) rfl rfl rfl (ht _ tw14) (ht _ tw681) (by decide +kernel) ⟨Nat.le_of_ble_eq_true rfl, Nat.le_of_ble_eq_true rfl⟩), ht _ tw683, ht _ (tb_sel pv_M_add)⟩ (jpreV (jEn_ok sk sv) hC hA hK hN (wM_e0 cI cC ad s0) rfl rfl _) rfl rfl hl.1 rfl (lv_room (Nat.le_of_ble_eq_true rfl)) dM_list_30 ⟨Nat.le_refl _, Nat.le_refl _⟩) hC hA (fun H locs hC => ?_)
    refine lv_aload_n hx hb dM_list_33 rfl (lv_at hl 0 rfl) ?_
    refine lv_iload_n hx hb dM_list_34 rfl (lv_at hl 2 rfl) ?_
    obtain ⟨r2602, s2602, hc2602, hf⟩ := jB_some hf
    refine jcall_i (va_runV (C := RcM) (As := [.int x2]) (rest := []) ⟨hx, hb, hml, hown, hts⟩ ((cM_begins l dC dI cI cC cL sk sv ad N x2 s2601 s2602 r2602 hc2602) _) ⟨(callB_of 1 hts (tb_good tw713) rfl rfl rfl (ht _ tw14) (ht _ tw710) (by decide +kernel) ⟨Nat.le_of_ble_eq_true rfl, Nat.le_of_ble_eq_true rfl⟩), ht _ tw712, ht _ (tb_sel pv_M_begins)⟩ (jpreV (jEn_ok sk sv) hC hA hK hN (wM_e0 cI cC ad s2601) rfl rfl _) rfl rfl hl.1 rfl (lv_room (Nat.le_of_ble_eq_true rfl)) dM_list_35 ⟨Nat.le_refl _, Nat.le_refl _⟩) hC hA (fun H locs hC => ?_)
    refine lv_if_eq (tgt := 51) hx hb dM_list_38 (by decide) (fun c2603 => ?_) (fun c2603 => ?_)
    · replace hf := jif_t c2603 hf
      refine lv_aload_n hx hb dM_list_51 rfl (lv_at hl 0 rfl) ?_
      refine lv_iload_n hx hb dM_list_52 rfl (lv_at hl 1 rfl) ?_
      obtain ⟨r2604, s2604, hc2604, hf⟩ := jB_some hf
      refine jcall_v (va_runV (C := RcM) (As := [.int x1]) (rest := []) ⟨hx, hb, hml, hown, hts⟩ ((cM_leaveOut l dC dI cI cC cL sk sv ad N x1 s2602 s2604 r2604 hc2604) _) ⟨(callB_of 1 hts (tb_good tw720) rfl rfl rfl (ht _ tw14) (ht _ tw717) (by decide +kernel) ⟨Nat.le_of_ble_eq_true rfl, Nat.le_of_ble_eq_true rfl⟩), ht _ tw719, ht _ (tb_sel pv_M_leaveOut)⟩ (jpreV (jEn_ok sk sv) hC hA hK hN (wM_e0 cI cC ad s2602) rfl rfl _) rfl rfl hl.1 rfl (lv_room (Nat.le_of_ble_eq_true rfl)) dM_list_53 ⟨Nat.le_refl _, Nat.le_refl _⟩) hC hA (fun H locs hC => ?_)
      cases hf
      exact jret_v hx hb hr hlk hC hK dM_list_56
    · replace hf := jif_f c2603 hf
      refine lv_aload_n hx hb dM_list_41 rfl (lv_at hl 0 rfl) ?_
      refine lv_iconst (v := 3) hx hb dM_list_42 (by decide) ?_
      refine lv_iload_n hx hb dM_list_43 rfl (lv_at hl 2 rfl) ?_
      refine lv_iconst (v := 0) hx hb dM_list_44 (by decide) ?_
      obtain ⟨r2605, s2605, hc2605, hf⟩ := jB_some hf
      refine jcall_v (va_runV (C := RcM) (As := [.int (3 : Int32), .int x2, .int (0 : Int32)]) (rest := []) ⟨hx, hb, hml, hown, hts⟩ ((cM_add l dC dI cI cC cL sk sv ad N (3 : Int32) x2 (0 : Int32) s2602 s2605 r2605 hc2605) _) ⟨(callB_of 3 hts (tb_good tw684) rfl rfl rfl (ht _ tw14) (ht _ tw681) (by decide +kernel) ⟨Nat.le_of_ble_eq_true rfl, Nat.le_of_ble_eq_true rfl⟩), ht _ tw683, ht _ (tb_sel pv_M_add)⟩ (jpreV (jEn_ok sk sv) hC hA hK hN (wM_e0 cI cC ad s2602) rfl rfl _) rfl rfl hl.1 rfl (lv_room (Nat.le_of_ble_eq_true rfl)) dM_list_45 ⟨Nat.le_refl _, Nat.le_refl _⟩) hC hA (fun H locs hC => ?_)
      refine lv_goto (tgt := 56) hx hb dM_list_48 (by decide) ?_
      cases hf
      exact jret_v hx hb hr hlk hC hK dM_list_56
  unfold fM_list at hf
  refine lv_aload_n hx hb dM_list_0 rfl (lv_at hl 0 rfl) ?_
  obtain ⟨r1, s1, hc1, hf⟩ := jB_some hf
  refine jcall_i (va_runV (C := RcM) (As := []) (rest := []) ⟨hx, hb, hml, hown, hts⟩ ((cM_current l dC dI cI cC cL sk sv ad N z0 s1 r1 hc1) _) ⟨(callB_of 0 hts (tb_good tw709) rfl rfl rfl (ht _ tw14) (ht _ tw706) (by decide +kernel) ⟨Nat.le_of_ble_eq_true rfl, Nat.le_of_ble_eq_true rfl⟩), ht _ tw708, ht _ (tb_sel pv_M_current)⟩ (jpreV (jEn_ok sk sv) hC hA hK hN (wM_e0 cI cC ad z0) rfl rfl _) rfl rfl hl.1 rfl (lv_room (Nat.le_of_ble_eq_true rfl)) dM_list_1 ⟨Nat.le_refl _, Nat.le_refl _⟩) hC hA (fun H locs hC => ?_)
  refine lv_istore (lv' := [(4, .int r1), (0, .ref (ad 0)), (1, .int a0), (2, .int a1), (3, .int a2)]) hx hb dM_list_4 hl (by decide) rfl (fun ls hl => ?_)
  refine lv_iload hx hb dM_list_6 (lv_at hl 0 rfl) ?_
  refine lv_bipush (v := 17) hx hb dM_list_8 (by decide) ?_
  refine lv_icmp_eq (tgt := 25) hx hb dM_list_10 (by decide) (fun c2 => ?_) (fun c2 => ?_)
  · replace hf := jif_t c2 hf
    cases hf
    exact jret_v hx hb hr hlk hC hK dM_list_25
  · replace hf := jif_f c2 hf
    refine lv_iload_n hx hb dM_list_13 rfl (lv_at hl 4 rfl) ?_
    refine lv_iconst (v := 1) hx hb dM_list_14 (by decide) ?_
    refine lv_icmp_ne (tgt := 26) hx hb dM_list_15 (by decide) (fun c3 => ?_) (fun c3 => ?_)
    · replace hf := jif_f c3 hf
      exact L26 a0 a1 a2 s1 ls _ _ (lv_sub hl [1, 2, 3, 4] rfl) hC hf
    · replace hf := jif_t c3 hf
      refine lv_iload hx hb dM_list_18 (lv_at hl 0 rfl) ?_
      refine lv_bipush (v := 8) hx hb dM_list_20 (by decide) ?_
      refine lv_icmp_ne (tgt := 26) hx hb dM_list_22 (by decide) (fun c4 => ?_) (fun c4 => ?_)
      · replace hf := jif_f c4 hf
        exact L26 a0 a1 a2 s1 ls _ _ (lv_sub hl [1, 2, 3, 4] rfl) hC hf
      · replace hf := jif_t c4 hf
        cases hf
        exact jret_v hx hb hr hlk hC hK dM_list_25

def fM_statement_111 (N : Nat) (x1 : Int32) (s0 : jS) : Option (Int32 × jS) := (jB (fM_add N (6 : Int32) (x1 + (1 : Int32)) (0 : Int32) s0) fun r11101 s11101 => (jB (fM_add N (4 : Int32) (10 : Int32) (0 : Int32) s11101) fun r11102 s11102 => (jB (fM_add N (7 : Int32) (0 : Int32) (0 : Int32) s11102) fun r11103 s11103 => (jB (fM_add N (4 : Int32) (9 : Int32) (0 : Int32) s11103) fun r11104 s11104 => (jB (fM_take N s11104) fun r11105 s11105 => some (0, s11105))))))
def fM_statement_93 (N : Nat) (x1 x2 x3 y0 y1 : Int32) (s0 : jS) : Option (Int32 × jS) := (jB (fM_add N y1 y0 x2 s0) fun r9301 s9301 => (if x3 = (3 : Int32) then (jB (fM_add N (5 : Int32) (x1 + (1 : Int32)) (0 : Int32) s9301) fun r9303 s9303 => fM_statement_111 N x1 s9303) else fM_statement_111 N x1 s9301))
def fM_statement_79 (N : Nat) (x1 x2 x3 : Int32) (s0 : jS) : Option (Int32 × jS) := (if x3 = (3 : Int32) then fM_statement_93 N x1 x2 x3 (22 : Int32) (0 : Int32) s0 else fM_statement_93 N x1 x2 x3 (23 : Int32) (0 : Int32) s0)
def fM_statement (N : Nat) (a0 : Int32) (z0 : jS) : Option (Int32 × jS) := (jB (fM_current N z0) fun r1 s1 => (if r1 = (6 : Int32) then (jB (fM_add N (0 : Int32) (25 : Int32) (jgI z0 9) s1) fun r13 s13 => (jB (fM_take N s13) fun r14 s14 => some (0, s14))) else (if r1 = (7 : Int32) then (jB (fM_add N (0 : Int32) (21 : Int32) (jgI z0 9) s1) fun r9 s9 => (jB (fM_add N (4 : Int32) (8 : Int32) (0 : Int32) s9) fun r10 s10 => (jB (fM_add N (2 : Int32) (a0 + (1 : Int32)) (1 : Int32) s10) fun r11 s11 => (jB (fM_take N s11) fun r12 s12 => some (0, s12))))) else (if r1 = (3 : Int32) then fM_statement_79 N a0 (jgI z0 9) r1 s1 else (if r1 = (5 : Int32) then fM_statement_79 N a0 (jgI z0 9) r1 s1 else (jB (fM_add N (0 : Int32) (24 : Int32) (jgI z0 9) s1) fun r6 s6 => (jB (fM_add N (4 : Int32) (6 : Int32) (0 : Int32) s6) fun r7 s7 => (jB (fM_add N (7 : Int32) (0 : Int32) (0 : Int32) s7) fun r8 s8 => some (0, s8)))))))))
set_option maxHeartbeats 4000000 in
set_option maxRecDepth 100000 in
theorem cM_statement (l : Launch) (dC : Nat → ClassId) (dI : Nat → Nat → Nat) (cI cC cL : ClassId) (sk sv : Nat → Nat) (ad : Nat → Nat) (N : Nat) (a0 : Int32) (z0 z1 : jS) (r : Int32) (hf : fM_statement N a0 z0 = some (r, z1)) : Cv l yM_statement (Cond.code yM_statement prog_8_method_20_code 4 none :: TB) ({ frames := 2, cells := 0, slots := 0, locals := 45 }) (dC, dI) vwCl [(cI, .int), (cC, .char), (cL, .object "SharedSyntax$Letters")] (jEn sk sv) [.ref (ad 0), .int a0] (wM cI cC ad z0) (wM cI cC ad z1) := by
  refine Cv_of (cc := prog_8_method_20_code) (maxL := 4) (ret := none) (by decide) rfl (Nat.le_of_ble_eq_true rfl) ?_
  intro p e s m below meth c ls F hl hK hN hC
  obtain ⟨hx, hb, hml, hown, hts, hr, hlk⟩ := F
  have ht : ∀ w ∈ TB, w.before [.ref (ad 0), .int a0].toArray s = true := fun w h => hts w (List.mem_cons_of_mem _ h)
  have hA : ∀ q, s.heap.size ≤ q → va_A (wM cI cC ad z0) s.heap.size q := fun q h => Or.inr h
  have hl : lv_has ls 4 [(0, .ref (ad 0)), (1, .int a0)] := hl
  have L111 : ∀ (x1 : Int32) (s0 : jS) (ls : Array Slot) (H : Heap) (locs : List Loc), lv_has ls 4 [(0, .ref (ad 0)), (1, .int x1)] → jcx (dC, dI) vwCl (va_A (wM cI cC ad z0) s.heap.size) s.heap (wM cI cC ad s0) H locs → fM_statement_111 N x1 s0 = some (r, z1) → W p l e ({ frames := 2, cells := 0, slots := 0, locals := 45 }) s m [.ref (ad 0), .int a0].toArray below meth c H locs 0 0 (MQ below (jQv (dC, dI) vwCl [(cI, .int), (cC, .char), (cL, .object "SharedSyntax$Letters")] (wM cI cC ad z0) (wM cI cC ad z1) s.heap.size) [.ref (ad 0), .int a0].toArray s 0 0 (va_A (wM cI cC ad z0) s.heap.size)) (F0 m 111 ls []) := by
    intro x1 s0 ls H locs hl hC hf
    unfold fM_statement_111 at hf
    refine lv_aload_n hx hb dM_statement_111 rfl (lv_at hl 0 rfl) ?_
    refine lv_bipush (v := 6) hx hb dM_statement_112 (by decide) ?_
    refine lv_iload_n hx hb dM_statement_114 rfl (lv_at hl 1 rfl) ?_
    refine lv_iconst (v := 1) hx hb dM_statement_115 (by decide) ?_
    refine lv_iadd hx hb dM_statement_116 ?_
    refine lv_iconst (v := 0) hx hb dM_statement_117 (by decide) ?_
    obtain ⟨r11101, s11101, hc11101, hf⟩ := jB_some hf
    refine jcall_v (va_runV (C := RcM) (As := [.int (6 : Int32), .int (x1 + (1 : Int32)), .int (0 : Int32)]) (rest := []) ⟨hx, hb, hml, hown, hts⟩ ((cM_add l dC dI cI cC cL sk sv ad N (6 : Int32) (x1 + (1 : Int32)) (0 : Int32) s0 s11101 r11101 hc11101) _) ⟨(callB_of 3 hts (tb_good tw684) rfl rfl rfl (ht _ tw14) (ht _ tw681) (by decide +kernel) ⟨Nat.le_of_ble_eq_true rfl, Nat.le_of_ble_eq_true rfl⟩), ht _ tw683, ht _ (tb_sel pv_M_add)⟩ (jpreV (jEn_ok sk sv) hC hA hK hN (wM_e0 cI cC ad s0) rfl rfl _) rfl rfl hl.1 rfl (lv_room (Nat.le_of_ble_eq_true rfl)) dM_statement_118 ⟨Nat.le_refl _, Nat.le_refl _⟩) hC hA (fun H locs hC => ?_)
    refine lv_aload_n hx hb dM_statement_121 rfl (lv_at hl 0 rfl) ?_
    refine lv_iconst (v := 4) hx hb dM_statement_122 (by decide) ?_
    refine lv_bipush (v := 10) hx hb dM_statement_123 (by decide) ?_
    refine lv_iconst (v := 0) hx hb dM_statement_125 (by decide) ?_
    obtain ⟨r11102, s11102, hc11102, hf⟩ := jB_some hf
    refine jcall_v (va_runV (C := RcM) (As := [.int (4 : Int32), .int (10 : Int32), .int (0 : Int32)]) (rest := []) ⟨hx, hb, hml, hown, hts⟩ ((cM_add l dC dI cI cC cL sk sv ad N (4 : Int32) (10 : Int32) (0 : Int32) s11101 s11102 r11102 hc11102) _) ⟨(callB_of 3 hts (tb_good tw684) rfl rfl rfl (ht _ tw14) (ht _ tw681) (by decide +kernel) ⟨Nat.le_of_ble_eq_true rfl, Nat.le_of_ble_eq_true rfl⟩), ht _ tw683, ht _ (tb_sel pv_M_add)⟩ (jpreV (jEn_ok sk sv) hC hA hK hN (wM_e0 cI cC ad s11101) rfl rfl _) rfl rfl hl.1 rfl (lv_room (Nat.le_of_ble_eq_true rfl)) dM_statement_126 ⟨Nat.le_refl _, Nat.le_refl _⟩) hC hA (fun H locs hC => ?_)
    refine lv_aload_n hx hb dM_statement_129 rfl (lv_at hl 0 rfl) ?_
    refine lv_bipush (v := 7) hx hb dM_statement_130 (by decide) ?_
    refine lv_iconst (v := 0) hx hb dM_statement_132 (by decide) ?_
    refine lv_iconst (v := 0) hx hb dM_statement_133 (by decide) ?_
    obtain ⟨r11103, s11103, hc11103, hf⟩ := jB_some hf
    refine jcall_v (va_runV (C := RcM) (As := [.int (7 : Int32), .int (0 : Int32), .int (0 : Int32)]) (rest := []) ⟨hx, hb, hml, hown, hts⟩ ((cM_add l dC dI cI cC cL sk sv ad N (7 : Int32) (0 : Int32) (0 : Int32) s11102 s11103 r11103 hc11103) _) ⟨(callB_of 3 hts (tb_good tw684) rfl rfl rfl (ht _ tw14) (ht _ tw681) (by decide +kernel) ⟨Nat.le_of_ble_eq_true rfl, Nat.le_of_ble_eq_true rfl⟩), ht _ tw683, ht _ (tb_sel pv_M_add)⟩ (jpreV (jEn_ok sk sv) hC hA hK hN (wM_e0 cI cC ad s11102) rfl rfl _) rfl rfl hl.1 rfl (lv_room (Nat.le_of_ble_eq_true rfl)) dM_statement_134 ⟨Nat.le_refl _, Nat.le_refl _⟩) hC hA (fun H locs hC => ?_)
    refine lv_aload_n hx hb dM_statement_137 rfl (lv_at hl 0 rfl) ?_
    refine lv_iconst (v := 4) hx hb dM_statement_138 (by decide) ?_
    refine lv_bipush (v := 9) hx hb dM_statement_139 (by decide) ?_
    refine lv_iconst (v := 0) hx hb dM_statement_141 (by decide) ?_
    obtain ⟨r11104, s11104, hc11104, hf⟩ := jB_some hf
    refine jcall_v (va_runV (C := RcM) (As := [.int (4 : Int32), .int (9 : Int32), .int (0 : Int32)]) (rest := []) ⟨hx, hb, hml, hown, hts⟩ ((cM_add l dC dI cI cC cL sk sv ad N (4 : Int32) (9 : Int32) (0 : Int32) s11103 s11104 r11104 hc11104) _) ⟨(callB_of 3 hts (tb_good tw684) rfl rfl rfl (ht _ tw14) (ht _ tw681) (by decide +kernel) ⟨Nat.le_of_ble_eq_true rfl, Nat.le_of_ble_eq_true rfl⟩), ht _ tw683, ht _ (tb_sel pv_M_add)⟩ (jpreV (jEn_ok sk sv) hC hA hK hN (wM_e0 cI cC ad s11103) rfl rfl _) rfl rfl hl.1 rfl (lv_room (Nat.le_of_ble_eq_true rfl)) dM_statement_142 ⟨Nat.le_refl _, Nat.le_refl _⟩) hC hA (fun H locs hC => ?_)
    refine lv_aload_n hx hb dM_statement_145 rfl (lv_at hl 0 rfl) ?_
    obtain ⟨r11105, s11105, hc11105, hf⟩ := jB_some hf
    refine jcall_v (va_runV (C := RcM) (As := []) (rest := []) ⟨hx, hb, hml, hown, hts⟩ ((cM_take l dC dI cI cC cL sk sv ad N s11104 s11105 r11105 hc11105) _) ⟨(callB_of 0 hts (tb_good tw701) rfl rfl rfl (ht _ tw14) (ht _ tw698) (by decide +kernel) ⟨Nat.le_of_ble_eq_true rfl, Nat.le_of_ble_eq_true rfl⟩), ht _ tw700, ht _ (tb_sel pv_M_take)⟩ (jpreV (jEn_ok sk sv) hC hA hK hN (wM_e0 cI cC ad s11104) rfl rfl _) rfl rfl hl.1 rfl (lv_room (Nat.le_of_ble_eq_true rfl)) dM_statement_146 ⟨Nat.le_refl _, Nat.le_refl _⟩) hC hA (fun H locs hC => ?_)
    refine lv_goto (tgt := 176) hx hb dM_statement_149 (by decide) ?_
    cases hf
    exact jret_v hx hb hr hlk hC hK dM_statement_176
  have L93 : ∀ (x1 x2 x3 y0 y1 : Int32) (s0 : jS) (ls : Array Slot) (H : Heap) (locs : List Loc), lv_has ls 4 [(0, .ref (ad 0)), (1, .int x1), (2, .int x2), (3, .int x3)] → jcx (dC, dI) vwCl (va_A (wM cI cC ad z0) s.heap.size) s.heap (wM cI cC ad s0) H locs → fM_statement_93 N x1 x2 x3 y0 y1 s0 = some (r, z1) → W p l e ({ frames := 2, cells := 0, slots := 0, locals := 45 }) s m [.ref (ad 0), .int a0].toArray below meth c H locs 0 0 (MQ below (jQv (dC, dI) vwCl [(cI, .int), (cC, .char), (cL, .object "SharedSyntax$Letters")] (wM cI cC ad z0) (wM cI cC ad z1) s.heap.size) [.ref (ad 0), .int a0].toArray s 0 0 (va_A (wM cI cC ad z0) s.heap.size)) (F0 m 93 ls [.int y0, .int y1, .ref (ad 0)]) := by
    intro x1 x2 x3 y0 y1 s0 ls H locs hl hC hf
    unfold fM_statement_93 at hf
    refine lv_iload_n hx hb dM_statement_93 rfl (lv_at hl 2 rfl) ?_
    obtain ⟨r9301, s9301, hc9301, hf⟩ := jB_some hf
    refine jcall_v (va_runV (C := RcM) (As := [.int y1, .int y0, .int x2]) (rest := []) ⟨hx, hb, hml, hown, hts⟩ ((cM_add l dC dI cI cC cL sk sv ad N y1 y0 x2 s0 s9301 r9301 hc9301) _) ⟨(callB_of 3 hts (tb_good tw684) rfl rfl rfl (ht _ tw14) (ht _ tw681) (by decide +kernel) ⟨Nat.le_of_ble_eq_true rfl, Nat.le_of_ble_eq_true rfl⟩), ht _ tw683, ht _ (tb_sel pv_M_add)⟩ (jpreV (jEn_ok sk sv) hC hA hK hN (wM_e0 cI cC ad s0) rfl rfl _) rfl rfl hl.1 rfl (lv_room (Nat.le_of_ble_eq_true rfl)) dM_statement_94 ⟨Nat.le_refl _, Nat.le_refl _⟩) hC hA (fun H locs hC => ?_)
    refine lv_iload_n hx hb dM_statement_97 rfl (lv_at hl 3 rfl) ?_
    refine lv_iconst (v := 3) hx hb dM_statement_98 (by decide) ?_
    refine lv_icmp_ne (tgt := 111) hx hb dM_statement_99 (by decide) (fun c9302 => ?_) (fun c9302 => ?_)
    · replace hf := jif_f c9302 hf
      exact L111 x1 s9301 ls _ _ (lv_sub hl [0, 1] rfl) hC hf
    · replace hf := jif_t c9302 hf
      refine lv_aload_n hx hb dM_statement_102 rfl (lv_at hl 0 rfl) ?_
      refine lv_iconst (v := 5) hx hb dM_statement_103 (by decide) ?_
      refine lv_iload_n hx hb dM_statement_104 rfl (lv_at hl 1 rfl) ?_
      refine lv_iconst (v := 1) hx hb dM_statement_105 (by decide) ?_
      refine lv_iadd hx hb dM_statement_106 ?_
      refine lv_iconst (v := 0) hx hb dM_statement_107 (by decide) ?_
      obtain ⟨r9303, s9303, hc9303, hf⟩ := jB_some hf
      refine jcall_v (va_runV (C := RcM) (As := [.int (5 : Int32), .int (x1 + (1 : Int32)), .int (0 : Int32)]) (rest := []) ⟨hx, hb, hml, hown, hts⟩ ((cM_add l dC dI cI cC cL sk sv ad N (5 : Int32) (x1 + (1 : Int32)) (0 : Int32) s9301 s9303 r9303 hc9303) _) ⟨(callB_of 3 hts (tb_good tw684) rfl rfl rfl (ht _ tw14) (ht _ tw681) (by decide +kernel) ⟨Nat.le_of_ble_eq_true rfl, Nat.le_of_ble_eq_true rfl⟩), ht _ tw683, ht _ (tb_sel pv_M_add)⟩ (jpreV (jEn_ok sk sv) hC hA hK hN (wM_e0 cI cC ad s9301) rfl rfl _) rfl rfl hl.1 rfl (lv_room (Nat.le_of_ble_eq_true rfl)) dM_statement_108 ⟨Nat.le_refl _, Nat.le_refl _⟩) hC hA (fun H locs hC => ?_)
      exact L111 x1 s9303 ls _ _ (lv_sub hl [0, 1] rfl) hC hf
  have L79 : ∀ (x1 x2 x3 : Int32) (s0 : jS) (ls : Array Slot) (H : Heap) (locs : List Loc), lv_has ls 4 [(0, .ref (ad 0)), (1, .int x1), (2, .int x2), (3, .int x3)] → jcx (dC, dI) vwCl (va_A (wM cI cC ad z0) s.heap.size) s.heap (wM cI cC ad s0) H locs → fM_statement_79 N x1 x2 x3 s0 = some (r, z1) → W p l e ({ frames := 2, cells := 0, slots := 0, locals := 45 }) s m [.ref (ad 0), .int a0].toArray below meth c H locs 0 0 (MQ below (jQv (dC, dI) vwCl [(cI, .int), (cC, .char), (cL, .object "SharedSyntax$Letters")] (wM cI cC ad z0) (wM cI cC ad z1) s.heap.size) [.ref (ad 0), .int a0].toArray s 0 0 (va_A (wM cI cC ad z0) s.heap.size)) (F0 m 79 ls []) := by
    intro x1 x2 x3 s0 ls H locs hl hC hf
    unfold fM_statement_79 at hf
    refine lv_aload_n hx hb dM_statement_79 rfl (lv_at hl 0 rfl) ?_
    refine lv_iconst (v := 0) hx hb dM_statement_80 (by decide) ?_
    refine lv_iload_n hx hb dM_statement_81 rfl (lv_at hl 3 rfl) ?_
    refine lv_iconst (v := 3) hx hb dM_statement_82 (by decide) ?_
    refine lv_icmp_ne (tgt := 91) hx hb dM_statement_83 (by decide) (fun c7901 => ?_) (fun c7901 => ?_)
    · replace hf := jif_f c7901 hf
      refine lv_bipush (v := 23) hx hb dM_statement_91 (by decide) ?_
      exact L93 x1 x2 x3 (23 : Int32) (0 : Int32) s0 ls _ _ (lv_sub hl [0, 1, 2, 3] rfl) hC hf
    · replace hf := jif_t c7901 hf
      refine lv_bipush (v := 22) hx hb dM_statement_86 (by decide) ?_
      refine lv_goto (tgt := 93) hx hb dM_statement_88 (by decide) ?_
      exact L93 x1 x2 x3 (22 : Int32) (0 : Int32) s0 ls _ _ (lv_sub hl [0, 1, 2, 3] rfl) hC hf
  unfold fM_statement at hf
  refine lv_aload_n hx hb dM_statement_0 rfl (lv_at hl 0 rfl) ?_
  refine va_get (D := (dC, dI)) (ci := 6) (v := .int (jgI z0 9)) (C := RcM) (T := TcM) (N := 43) hx hb ht in_cM hown hK hC.1 0 (wM_e0 cI cC ad z0) rfl 37 (by decide) (ht _ tw797) (fun _ h9 => h9) rfl dM_statement_1 ?_
  refine lv_istore_n (lv' := [(2, .int (jgI z0 9)), (0, .ref (ad 0)), (1, .int a0)]) hx hb dM_statement_4 rfl hl (by decide) rfl (fun ls hl => ?_)
  refine lv_aload_n hx hb dM_statement_5 rfl (lv_at hl 1 rfl) ?_
  obtain ⟨r1, s1, hc1, hf⟩ := jB_some hf
  refine jcall_i (va_runV (C := RcM) (As := []) (rest := []) ⟨hx, hb, hml, hown, hts⟩ ((cM_current l dC dI cI cC cL sk sv ad N z0 s1 r1 hc1) _) ⟨(callB_of 0 hts (tb_good tw709) rfl rfl rfl (ht _ tw14) (ht _ tw706) (by decide +kernel) ⟨Nat.le_of_ble_eq_true rfl, Nat.le_of_ble_eq_true rfl⟩), ht _ tw708, ht _ (tb_sel pv_M_current)⟩ (jpreV (jEn_ok sk sv) hC hA hK hN (wM_e0 cI cC ad z0) rfl rfl _) rfl rfl hl.1 rfl (lv_room (Nat.le_of_ble_eq_true rfl)) dM_statement_6 ⟨Nat.le_refl _, Nat.le_refl _⟩) hC hA (fun H locs hC => ?_)
  refine lv_istore_n (lv' := [(3, .int r1), (2, .int (jgI z0 9)), (0, .ref (ad 0)), (1, .int a0)]) hx hb dM_statement_9 rfl hl (by decide) rfl (fun ls hl => ?_)
  refine lv_iload_n hx hb dM_statement_10 rfl (lv_at hl 0 rfl) ?_
  refine lv_bipush (v := 6) hx hb dM_statement_11 (by decide) ?_
  refine lv_icmp_ne (tgt := 31) hx hb dM_statement_13 (by decide) (fun c2 => ?_) (fun c2 => ?_)
  · replace hf := jif_f c2 hf
    refine lv_iload_n hx hb dM_statement_31 rfl (lv_at hl 0 rfl) ?_
    refine lv_bipush (v := 7) hx hb dM_statement_32 (by decide) ?_
    refine lv_icmp_ne (tgt := 69) hx hb dM_statement_34 (by decide) (fun c3 => ?_) (fun c3 => ?_)
    · replace hf := jif_f c3 hf
      refine lv_iload_n hx hb dM_statement_69 rfl (lv_at hl 0 rfl) ?_
      refine lv_iconst (v := 3) hx hb dM_statement_70 (by decide) ?_
      refine lv_icmp_eq (tgt := 79) hx hb dM_statement_71 (by decide) (fun c4 => ?_) (fun c4 => ?_)
      · replace hf := jif_t c4 hf
        exact L79 a0 (jgI z0 9) r1 s1 ls _ _ (lv_sub hl [2, 3, 1, 0] rfl) hC hf
      · replace hf := jif_f c4 hf
        refine lv_iload_n hx hb dM_statement_74 rfl (lv_at hl 0 rfl) ?_
        refine lv_iconst (v := 5) hx hb dM_statement_75 (by decide) ?_
        refine lv_icmp_ne (tgt := 152) hx hb dM_statement_76 (by decide) (fun c5 => ?_) (fun c5 => ?_)
        · replace hf := jif_f c5 hf
          refine lv_aload_n hx hb dM_statement_152 rfl (lv_at hl 2 rfl) ?_
          refine lv_iconst (v := 0) hx hb dM_statement_153 (by decide) ?_
          refine lv_bipush (v := 24) hx hb dM_statement_154 (by decide) ?_
          refine lv_iload_n hx hb dM_statement_156 rfl (lv_at hl 1 rfl) ?_
          obtain ⟨r6, s6, hc6, hf⟩ := jB_some hf
          refine jcall_v (va_runV (C := RcM) (As := [.int (0 : Int32), .int (24 : Int32), .int (jgI z0 9)]) (rest := []) ⟨hx, hb, hml, hown, hts⟩ ((cM_add l dC dI cI cC cL sk sv ad N (0 : Int32) (24 : Int32) (jgI z0 9) s1 s6 r6 hc6) _) ⟨(callB_of 3 hts (tb_good tw684) rfl rfl rfl (ht _ tw14) (ht _ tw681) (by decide +kernel) ⟨Nat.le_of_ble_eq_true rfl, Nat.le_of_ble_eq_true rfl⟩), ht _ tw683, ht _ (tb_sel pv_M_add)⟩ (jpreV (jEn_ok sk sv) hC hA hK hN (wM_e0 cI cC ad s1) rfl rfl _) rfl rfl hl.1 rfl (lv_room (Nat.le_of_ble_eq_true rfl)) dM_statement_157 ⟨Nat.le_refl _, Nat.le_refl _⟩) hC hA (fun H locs hC => ?_)
          refine lv_aload_n hx hb dM_statement_160 rfl (lv_at hl 2 rfl) ?_
          refine lv_iconst (v := 4) hx hb dM_statement_161 (by decide) ?_
          refine lv_bipush (v := 6) hx hb dM_statement_162 (by decide) ?_
          refine lv_iconst (v := 0) hx hb dM_statement_164 (by decide) ?_
          obtain ⟨r7, s7, hc7, hf⟩ := jB_some hf
          refine jcall_v (va_runV (C := RcM) (As := [.int (4 : Int32), .int (6 : Int32), .int (0 : Int32)]) (rest := []) ⟨hx, hb, hml, hown, hts⟩ ((cM_add l dC dI cI cC cL sk sv ad N (4 : Int32) (6 : Int32) (0 : Int32) s6 s7 r7 hc7) _) ⟨(callB_of 3 hts (tb_good tw684) rfl rfl rfl (ht _ tw14) (ht _ tw681) (by decide +kernel) ⟨Nat.le_of_ble_eq_true rfl, Nat.le_of_ble_eq_true rfl⟩), ht _ tw683, ht _ (tb_sel pv_M_add)⟩ (jpreV (jEn_ok sk sv) hC hA hK hN (wM_e0 cI cC ad s6) rfl rfl _) rfl rfl hl.1 rfl (lv_room (Nat.le_of_ble_eq_true rfl)) dM_statement_165 ⟨Nat.le_refl _, Nat.le_refl _⟩) hC hA (fun H locs hC => ?_)
          refine lv_aload_n hx hb dM_statement_168 rfl (lv_at hl 2 rfl) ?_
          refine lv_bipush (v := 7) hx hb dM_statement_169 (by decide) ?_
          refine lv_iconst (v := 0) hx hb dM_statement_171 (by decide) ?_
          refine lv_iconst (v := 0) hx hb dM_statement_172 (by decide) ?_
          obtain ⟨r8, s8, hc8, hf⟩ := jB_some hf
          refine jcall_v (va_runV (C := RcM) (As := [.int (7 : Int32), .int (0 : Int32), .int (0 : Int32)]) (rest := []) ⟨hx, hb, hml, hown, hts⟩ ((cM_add l dC dI cI cC cL sk sv ad N (7 : Int32) (0 : Int32) (0 : Int32) s7 s8 r8 hc8) _) ⟨(callB_of 3 hts (tb_good tw684) rfl rfl rfl (ht _ tw14) (ht _ tw681) (by decide +kernel) ⟨Nat.le_of_ble_eq_true rfl, Nat.le_of_ble_eq_true rfl⟩), ht _ tw683, ht _ (tb_sel pv_M_add)⟩ (jpreV (jEn_ok sk sv) hC hA hK hN (wM_e0 cI cC ad s7) rfl rfl _) rfl rfl hl.1 rfl (lv_room (Nat.le_of_ble_eq_true rfl)) dM_statement_173 ⟨Nat.le_refl _, Nat.le_refl _⟩) hC hA (fun H locs hC => ?_)
          cases hf
          exact jret_v hx hb hr hlk hC hK dM_statement_176
        · replace hf := jif_t c5 hf
          exact L79 a0 (jgI z0 9) r1 s1 ls _ _ (lv_sub hl [2, 3, 1, 0] rfl) hC hf
    · replace hf := jif_t c3 hf
      refine lv_aload_n hx hb dM_statement_37 rfl (lv_at hl 2 rfl) ?_
      refine lv_iconst (v := 0) hx hb dM_statement_38 (by decide) ?_
      refine lv_bipush (v := 21) hx hb dM_statement_39 (by decide) ?_
      refine lv_iload_n hx hb dM_statement_41 rfl (lv_at hl 1 rfl) ?_
      obtain ⟨r9, s9, hc9, hf⟩ := jB_some hf
      refine jcall_v (va_runV (C := RcM) (As := [.int (0 : Int32), .int (21 : Int32), .int (jgI z0 9)]) (rest := []) ⟨hx, hb, hml, hown, hts⟩ ((cM_add l dC dI cI cC cL sk sv ad N (0 : Int32) (21 : Int32) (jgI z0 9) s1 s9 r9 hc9) _) ⟨(callB_of 3 hts (tb_good tw684) rfl rfl rfl (ht _ tw14) (ht _ tw681) (by decide +kernel) ⟨Nat.le_of_ble_eq_true rfl, Nat.le_of_ble_eq_true rfl⟩), ht _ tw683, ht _ (tb_sel pv_M_add)⟩ (jpreV (jEn_ok sk sv) hC hA hK hN (wM_e0 cI cC ad s1) rfl rfl _) rfl rfl hl.1 rfl (lv_room (Nat.le_of_ble_eq_true rfl)) dM_statement_42 ⟨Nat.le_refl _, Nat.le_refl _⟩) hC hA (fun H locs hC => ?_)
      refine lv_aload_n hx hb dM_statement_45 rfl (lv_at hl 2 rfl) ?_
      refine lv_iconst (v := 4) hx hb dM_statement_46 (by decide) ?_
      refine lv_bipush (v := 8) hx hb dM_statement_47 (by decide) ?_
      refine lv_iconst (v := 0) hx hb dM_statement_49 (by decide) ?_
      obtain ⟨r10, s10, hc10, hf⟩ := jB_some hf
      refine jcall_v (va_runV (C := RcM) (As := [.int (4 : Int32), .int (8 : Int32), .int (0 : Int32)]) (rest := []) ⟨hx, hb, hml, hown, hts⟩ ((cM_add l dC dI cI cC cL sk sv ad N (4 : Int32) (8 : Int32) (0 : Int32) s9 s10 r10 hc10) _) ⟨(callB_of 3 hts (tb_good tw684) rfl rfl rfl (ht _ tw14) (ht _ tw681) (by decide +kernel) ⟨Nat.le_of_ble_eq_true rfl, Nat.le_of_ble_eq_true rfl⟩), ht _ tw683, ht _ (tb_sel pv_M_add)⟩ (jpreV (jEn_ok sk sv) hC hA hK hN (wM_e0 cI cC ad s9) rfl rfl _) rfl rfl hl.1 rfl (lv_room (Nat.le_of_ble_eq_true rfl)) dM_statement_50 ⟨Nat.le_refl _, Nat.le_refl _⟩) hC hA (fun H locs hC => ?_)
      refine lv_aload_n hx hb dM_statement_53 rfl (lv_at hl 2 rfl) ?_
      refine lv_iconst (v := 2) hx hb dM_statement_54 (by decide) ?_
      refine lv_iload_n hx hb dM_statement_55 rfl (lv_at hl 3 rfl) ?_
      refine lv_iconst (v := 1) hx hb dM_statement_56 (by decide) ?_
      refine lv_iadd hx hb dM_statement_57 ?_
      refine lv_iconst (v := 1) hx hb dM_statement_58 (by decide) ?_
      obtain ⟨r11, s11, hc11, hf⟩ := jB_some hf
      refine jcall_v (va_runV (C := RcM) (As := [.int (2 : Int32), .int (a0 + (1 : Int32)), .int (1 : Int32)]) (rest := []) ⟨hx, hb, hml, hown, hts⟩ ((cM_add l dC dI cI cC cL sk sv ad N (2 : Int32) (a0 + (1 : Int32)) (1 : Int32) s10 s11 r11 hc11) _) ⟨(callB_of 3 hts (tb_good tw684) rfl rfl rfl (ht _ tw14) (ht _ tw681) (by decide +kernel) ⟨Nat.le_of_ble_eq_true rfl, Nat.le_of_ble_eq_true rfl⟩), ht _ tw683, ht _ (tb_sel pv_M_add)⟩ (jpreV (jEn_ok sk sv) hC hA hK hN (wM_e0 cI cC ad s10) rfl rfl _) rfl rfl hl.1 rfl (lv_room (Nat.le_of_ble_eq_true rfl)) dM_statement_59 ⟨Nat.le_refl _, Nat.le_refl _⟩) hC hA (fun H locs hC => ?_)
      refine lv_aload_n hx hb dM_statement_62 rfl (lv_at hl 2 rfl) ?_
      obtain ⟨r12, s12, hc12, hf⟩ := jB_some hf
      refine jcall_v (va_runV (C := RcM) (As := []) (rest := []) ⟨hx, hb, hml, hown, hts⟩ ((cM_take l dC dI cI cC cL sk sv ad N s11 s12 r12 hc12) _) ⟨(callB_of 0 hts (tb_good tw701) rfl rfl rfl (ht _ tw14) (ht _ tw698) (by decide +kernel) ⟨Nat.le_of_ble_eq_true rfl, Nat.le_of_ble_eq_true rfl⟩), ht _ tw700, ht _ (tb_sel pv_M_take)⟩ (jpreV (jEn_ok sk sv) hC hA hK hN (wM_e0 cI cC ad s11) rfl rfl _) rfl rfl hl.1 rfl (lv_room (Nat.le_of_ble_eq_true rfl)) dM_statement_63 ⟨Nat.le_refl _, Nat.le_refl _⟩) hC hA (fun H locs hC => ?_)
      refine lv_goto (tgt := 176) hx hb dM_statement_66 (by decide) ?_
      cases hf
      exact jret_v hx hb hr hlk hC hK dM_statement_176
  · replace hf := jif_t c2 hf
    refine lv_aload_n hx hb dM_statement_16 rfl (lv_at hl 2 rfl) ?_
    refine lv_iconst (v := 0) hx hb dM_statement_17 (by decide) ?_
    refine lv_bipush (v := 25) hx hb dM_statement_18 (by decide) ?_
    refine lv_iload_n hx hb dM_statement_20 rfl (lv_at hl 1 rfl) ?_
    obtain ⟨r13, s13, hc13, hf⟩ := jB_some hf
    refine jcall_v (va_runV (C := RcM) (As := [.int (0 : Int32), .int (25 : Int32), .int (jgI z0 9)]) (rest := []) ⟨hx, hb, hml, hown, hts⟩ ((cM_add l dC dI cI cC cL sk sv ad N (0 : Int32) (25 : Int32) (jgI z0 9) s1 s13 r13 hc13) _) ⟨(callB_of 3 hts (tb_good tw684) rfl rfl rfl (ht _ tw14) (ht _ tw681) (by decide +kernel) ⟨Nat.le_of_ble_eq_true rfl, Nat.le_of_ble_eq_true rfl⟩), ht _ tw683, ht _ (tb_sel pv_M_add)⟩ (jpreV (jEn_ok sk sv) hC hA hK hN (wM_e0 cI cC ad s1) rfl rfl _) rfl rfl hl.1 rfl (lv_room (Nat.le_of_ble_eq_true rfl)) dM_statement_21 ⟨Nat.le_refl _, Nat.le_refl _⟩) hC hA (fun H locs hC => ?_)
    refine lv_aload_n hx hb dM_statement_24 rfl (lv_at hl 2 rfl) ?_
    obtain ⟨r14, s14, hc14, hf⟩ := jB_some hf
    refine jcall_v (va_runV (C := RcM) (As := []) (rest := []) ⟨hx, hb, hml, hown, hts⟩ ((cM_take l dC dI cI cC cL sk sv ad N s13 s14 r14 hc14) _) ⟨(callB_of 0 hts (tb_good tw701) rfl rfl rfl (ht _ tw14) (ht _ tw698) (by decide +kernel) ⟨Nat.le_of_ble_eq_true rfl, Nat.le_of_ble_eq_true rfl⟩), ht _ tw700, ht _ (tb_sel pv_M_take)⟩ (jpreV (jEn_ok sk sv) hC hA hK hN (wM_e0 cI cC ad s13) rfl rfl _) rfl rfl hl.1 rfl (lv_room (Nat.le_of_ble_eq_true rfl)) dM_statement_25 ⟨Nat.le_refl _, Nat.le_refl _⟩) hC hA (fun H locs hC => ?_)
    refine lv_goto (tgt := 176) hx hb dM_statement_28 (by decide) ?_
    cases hf
    exact jret_v hx hb hr hlk hC hK dM_statement_176

def fM_other (N : Nat) (a0 : Int32) (z0 : jS) : Option (Int32 × jS) := (jB (fM_current N z0) fun r1 s1 => (if r1 = (4 : Int32) then (jB (fM_take N s1) fun r3 s3 => (jB (fM_add N (6 : Int32) a0 (0 : Int32) s3) fun r4 s4 => some (0, s4))) else some (0, s1)))
set_option maxHeartbeats 4000000 in
set_option maxRecDepth 100000 in
theorem cM_other (l : Launch) (dC : Nat → ClassId) (dI : Nat → Nat → Nat) (cI cC cL : ClassId) (sk sv : Nat → Nat) (ad : Nat → Nat) (N : Nat) (a0 : Int32) (z0 z1 : jS) (r : Int32) (hf : fM_other N a0 z0 = some (r, z1)) : Cv l yM_other (Cond.code yM_other prog_8_method_21_code 2 none :: TB) ({ frames := 2, cells := 0, slots := 0, locals := 45 }) (dC, dI) vwCl [(cI, .int), (cC, .char), (cL, .object "SharedSyntax$Letters")] (jEn sk sv) [.ref (ad 0), .int a0] (wM cI cC ad z0) (wM cI cC ad z1) := by
  refine Cv_of (cc := prog_8_method_21_code) (maxL := 2) (ret := none) (by decide) rfl (Nat.le_of_ble_eq_true rfl) ?_
  intro p e s m below meth c ls F hl hK hN hC
  obtain ⟨hx, hb, hml, hown, hts, hr, hlk⟩ := F
  have ht : ∀ w ∈ TB, w.before [.ref (ad 0), .int a0].toArray s = true := fun w h => hts w (List.mem_cons_of_mem _ h)
  have hA : ∀ q, s.heap.size ≤ q → va_A (wM cI cC ad z0) s.heap.size q := fun q h => Or.inr h
  have hl : lv_has ls 2 [(0, .ref (ad 0)), (1, .int a0)] := hl
  unfold fM_other at hf
  refine lv_aload_n hx hb dM_other_0 rfl (lv_at hl 0 rfl) ?_
  obtain ⟨r1, s1, hc1, hf⟩ := jB_some hf
  refine jcall_i (va_runV (C := RcM) (As := []) (rest := []) ⟨hx, hb, hml, hown, hts⟩ ((cM_current l dC dI cI cC cL sk sv ad N z0 s1 r1 hc1) _) ⟨(callB_of 0 hts (tb_good tw709) rfl rfl rfl (ht _ tw14) (ht _ tw706) (by decide +kernel) ⟨Nat.le_of_ble_eq_true rfl, Nat.le_of_ble_eq_true rfl⟩), ht _ tw708, ht _ (tb_sel pv_M_current)⟩ (jpreV (jEn_ok sk sv) hC hA hK hN (wM_e0 cI cC ad z0) rfl rfl _) rfl rfl hl.1 rfl (lv_room (Nat.le_of_ble_eq_true rfl)) dM_other_1 ⟨Nat.le_refl _, Nat.le_refl _⟩) hC hA (fun H locs hC => ?_)
  refine lv_iconst (v := 4) hx hb dM_other_4 (by decide) ?_
  refine lv_icmp_eq (tgt := 9) hx hb dM_other_5 (by decide) (fun c2 => ?_) (fun c2 => ?_)
  · replace hf := jif_t c2 hf
    refine lv_aload_n hx hb dM_other_9 rfl (lv_at hl 0 rfl) ?_
    obtain ⟨r3, s3, hc3, hf⟩ := jB_some hf
    refine jcall_v (va_runV (C := RcM) (As := []) (rest := []) ⟨hx, hb, hml, hown, hts⟩ ((cM_take l dC dI cI cC cL sk sv ad N s1 s3 r3 hc3) _) ⟨(callB_of 0 hts (tb_good tw701) rfl rfl rfl (ht _ tw14) (ht _ tw698) (by decide +kernel) ⟨Nat.le_of_ble_eq_true rfl, Nat.le_of_ble_eq_true rfl⟩), ht _ tw700, ht _ (tb_sel pv_M_take)⟩ (jpreV (jEn_ok sk sv) hC hA hK hN (wM_e0 cI cC ad s1) rfl rfl _) rfl rfl hl.1 rfl (lv_room (Nat.le_of_ble_eq_true rfl)) dM_other_10 ⟨Nat.le_refl _, Nat.le_refl _⟩) hC hA (fun H locs hC => ?_)
    refine lv_aload_n hx hb dM_other_13 rfl (lv_at hl 0 rfl) ?_
    refine lv_bipush (v := 6) hx hb dM_other_14 (by decide) ?_
    refine lv_iload_n hx hb dM_other_16 rfl (lv_at hl 1 rfl) ?_
    refine lv_iconst (v := 0) hx hb dM_other_17 (by decide) ?_
    obtain ⟨r4, s4, hc4, hf⟩ := jB_some hf
    refine jcall_v (va_runV (C := RcM) (As := [.int (6 : Int32), .int a0, .int (0 : Int32)]) (rest := []) ⟨hx, hb, hml, hown, hts⟩ ((cM_add l dC dI cI cC cL sk sv ad N (6 : Int32) a0 (0 : Int32) s3 s4 r4 hc4) _) ⟨(callB_of 3 hts (tb_good tw684) rfl rfl rfl (ht _ tw14) (ht _ tw681) (by decide +kernel) ⟨Nat.le_of_ble_eq_true rfl, Nat.le_of_ble_eq_true rfl⟩), ht _ tw683, ht _ (tb_sel pv_M_add)⟩ (jpreV (jEn_ok sk sv) hC hA hK hN (wM_e0 cI cC ad s3) rfl rfl _) rfl rfl hl.1 rfl (lv_room (Nat.le_of_ble_eq_true rfl)) dM_other_18 ⟨Nat.le_refl _, Nat.le_refl _⟩) hC hA (fun H locs hC => ?_)
    cases hf
    exact jret_v hx hb hr hlk hC hK dM_other_21
  · replace hf := jif_f c2 hf
    cases hf
    exact jret_v hx hb hr hlk hC hK dM_other_8
