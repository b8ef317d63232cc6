def fM_node_63 (N : Nat) (x2 x3 x4 : Int32) (s0 : jS) : Option (Int32 × jS) := (if x2 = (0 : Int32) then (if jIn x3 800 = true then some (jgA s0 4 (x3).toNatClampNeg, s0) else none) else (if x2 = (1 : Int32) then (if jIn x3 800 = true then some (jgA s0 5 (x3).toNatClampNeg, s0) else none) else (if x2 = (2 : Int32) then (if jIn x3 800 = true then (if jIn x3 800 = true then some ((jgA s0 6 (x3).toNatClampNeg - jgA s0 5 (x3).toNatClampNeg), s0) else none) else none) else (if x2 = (3 : Int32) then (if jIn x3 800 = true then some (jgA s0 7 (x3).toNatClampNeg, s0) else none) else (if x2 = (4 : Int32) then (if jIn x3 800 = true then some (jgA s0 9 (x3).toNatClampNeg, s0) else none) else (if x2 = (5 : Int32) then (if jIn x3 800 = true then some (jgA s0 10 (x3).toNatClampNeg, s0) else none) else (if x2 = (6 : Int32) then (if jIn x3 800 = true then (if jgA s0 8 (x3).toNatClampNeg ≤ 0 then some ((0 : Int32), s0) else some ((1 : Int32), s0)) else none) else (if x2 = (7 : Int32) then some (x4, s0) else (if x2 = (8 : Int32) then (if jIn x3 800 = true then some (jgA s0 11 (x3).toNatClampNeg, s0) else none) else some ((-1 : Int32), s0))))))))))
def fM_node_b27 (N : Nat) (k27 : Int32 → Int32 → Int32 → Int32 → jS → Option (Int32 × jS)) (x2 x3 x4 x5 : Int32) (s0 : jS) : Option (Int32 × jS) := (if jIn x3 800 = true then (if jgA s0 11 (x3).toNatClampNeg ≤ x5 then fM_node_63 N x2 x3 x4 s0 else (if x2 = (7 : Int32) then (jB (fM_faultsOf N (x3 + x5) s0) fun r2704 s2704 => k27 x2 x3 (x4 + r2704) (x5 + (1 : Int32)) s2704) else fM_node_63 N x2 x3 x4 s0)) else none)
def fM_node_27 (N : Nat) : Nat → Int32 → Int32 → Int32 → Int32 → jS → Option (Int32 × jS)
  | 0 => fun _ _ _ _ _ => none
  | n + 1 => fun x2 x3 x4 x5 s0 => fM_node_b27 N (fM_node_27 N n) x2 x3 x4 x5 s0
def fM_node (N : Nat) (a0 a1 : Int32) (z0 : jS) : Option (Int32 × jS) := (jB (fM_there N a0 z0) fun r1 s1 => (if r1 = 0 then some ((-1 : Int32), s1) else fM_node_27 N N a1 (((400 : Int32) * jgI s1 0) + a0) (0 : Int32) (0 : Int32) s1))
set_option maxHeartbeats 4000000 in
set_option maxRecDepth 100000 in
theorem cM_node (l : Launch) (dC : Nat → ClassId) (dI : Nat → Nat → Nat) (cI cC cL : ClassId) (sk sv : Nat → Nat) (ad : Nat → Nat) (N : Nat) (a0 a1 : Int32) (z0 z1 : jS) (r : Int32) (hf : fM_node N a0 a1 z0 = some (r, z1)) : Ci l yM_node (Cond.code yM_node prog_8_method_40_code 6 (some .int) :: TB) ({ frames := 1, cells := 0, slots := 0, locals := 23 }) (dC, dI) vwCl [(cI, .int), (cC, .char), (cL, .object "SharedSyntax$Letters")] (jEn sk sv) [.ref (ad 0), .int a0, .int a1] (wM cI cC ad z0) (wM cI cC ad z1) r := by
  refine Ci_of (cc := prog_8_method_40_code) (maxL := 6) (ret := (some .int)) (by decide) rfl (Nat.le_of_ble_eq_true rfl) ?_
  intro p e s m below meth c ls F hl hK hN hC
  obtain ⟨hx, hb, hml, hown, hts, hr, hlk⟩ := F
  have ht : ∀ w ∈ TB, w.before [.ref (ad 0), .int a0, .int a1].toArray s = true := fun w h => hts w (List.mem_cons_of_mem _ h)
  have hA : ∀ q, s.heap.size ≤ q → va_A (wM cI cC ad z0) s.heap.size q := fun q h => Or.inr h
  have hl : lv_has ls 6 [(0, .ref (ad 0)), (1, .int a0), (2, .int a1)] := hl
  have L63 : ∀ (x2 x3 x4 : Int32) (s0 : jS) (ls : Array Slot) (H : Heap) (locs : List Loc), lv_has ls 6 [(0, .ref (ad 0)), (2, .int x2), (3, .int x3), (4, .int x4)] → jcx (dC, dI) vwCl (va_A (wM cI cC ad z0) s.heap.size) s.heap (wM cI cC ad s0) H locs → fM_node_63 N x2 x3 x4 s0 = some (r, z1) → W p l e ({ frames := 1, cells := 0, slots := 0, locals := 23 }) s m [.ref (ad 0), .int a0, .int a1].toArray below meth c H locs 0 0 (MQ below (jQi (dC, dI) vwCl [(cI, .int), (cC, .char), (cL, .object "SharedSyntax$Letters")] (wM cI cC ad z0) (wM cI cC ad z1) s.heap.size r) [.ref (ad 0), .int a0, .int a1].toArray s 0 0 (va_A (wM cI cC ad z0) s.heap.size)) (F0 m 63 ls []) := by
    intro x2 x3 x4 s0 ls H locs hl hC hf
    unfold fM_node_63 at hf
    refine lv_iload_n hx hb dM_node_63 rfl (lv_at hl 1 rfl) ?_
    by_cases w0 : x2 = (0 : Int32)
    · replace hf := jif_t w0 hf
      refine lv_tableIn (tgt := 116) hx hb dM_node_64 (by rw [w0]; decide) (by rw [w0]; decide) (by rw [w0]; rfl) (by decide) ?_
      refine lv_aload_n hx hb dM_node_116 rfl (lv_at hl 0 rfl) ?_
      refine va_get (D := (dC, dI)) (ci := 6) (v := .ref (ad 5)) (C := RcM) (T := TcM) (N := 43) hx hb ht in_cM hown hK hC.1 0 (wM_e0 cI cC ad s0) rfl 5 (by decide) (ht _ tw765) (fun _ h9 => h9) rfl dM_node_117 ?_
      refine lv_iload_n hx hb dM_node_120 rfl (lv_at hl 2 rfl) ?_
      obtain ⟨hi6301, hf⟩ := jC_in hf
      refine va_iald hx hb hK hC.1 5 0 (wM_e5 cI cC ad s0) rfl hi6301 dM_node_121 ?_
      cases hf
      exact jret_i hx hb hr hlk hC hK dM_node_122
    · replace hf := jif_f w0 hf
      by_cases w1 : x2 = (1 : Int32)
      · replace hf := jif_t w1 hf
        refine lv_tableIn (tgt := 123) hx hb dM_node_64 (by rw [w1]; decide) (by rw [w1]; decide) (by rw [w1]; rfl) (by decide) ?_
        refine lv_aload_n hx hb dM_node_123 rfl (lv_at hl 0 rfl) ?_
        refine va_get (D := (dC, dI)) (ci := 6) (v := .ref (ad 6)) (C := RcM) (T := TcM) (N := 43) hx hb ht in_cM hown hK hC.1 0 (wM_e0 cI cC ad s0) rfl 6 (by decide) (ht _ tw766) (fun _ h9 => h9) rfl dM_node_124 ?_
        refine lv_iload_n hx hb dM_node_127 rfl (lv_at hl 2 rfl) ?_
        obtain ⟨hi6302, hf⟩ := jC_in hf
        refine va_iald hx hb hK hC.1 6 0 (wM_e6 cI cC ad s0) rfl hi6302 dM_node_128 ?_
        cases hf
        exact jret_i hx hb hr hlk hC hK dM_node_129
      · replace hf := jif_f w1 hf
        by_cases w2 : x2 = (2 : Int32)
        · replace hf := jif_t w2 hf
          refine lv_tableIn (tgt := 130) hx hb dM_node_64 (by rw [w2]; decide) (by rw [w2]; decide) (by rw [w2]; rfl) (by decide) ?_
          refine lv_aload_n hx hb dM_node_130 rfl (lv_at hl 0 rfl) ?_
          refine va_get (D := (dC, dI)) (ci := 6) (v := .ref (ad 7)) (C := RcM) (T := TcM) (N := 43) hx hb ht in_cM hown hK hC.1 0 (wM_e0 cI cC ad s0) rfl 7 (by decide) (ht _ tw767) (fun _ h9 => h9) rfl dM_node_131 ?_
          refine lv_iload_n hx hb dM_node_134 rfl (lv_at hl 2 rfl) ?_
          obtain ⟨hi6303, hf⟩ := jC_in hf
          refine va_iald hx hb hK hC.1 7 0 (wM_e7 cI cC ad s0) rfl hi6303 dM_node_135 ?_
          refine lv_aload_n hx hb dM_node_136 rfl (lv_at hl 0 rfl) ?_
          refine va_get (D := (dC, dI)) (ci := 6) (v := .ref (ad 6)) (C := RcM) (T := TcM) (N := 43) hx hb ht in_cM hown hK hC.1 0 (wM_e0 cI cC ad s0) rfl 6 (by decide) (ht _ tw766) (fun _ h9 => h9) rfl dM_node_137 ?_
          refine lv_iload_n hx hb dM_node_140 rfl (lv_at hl 2 rfl) ?_
          obtain ⟨hi6304, hf⟩ := jC_in hf
          refine va_iald hx hb hK hC.1 6 0 (wM_e6 cI cC ad s0) rfl hi6304 dM_node_141 ?_
          refine lv_isub hx hb dM_node_142 ?_
          cases hf
          exact jret_i hx hb hr hlk hC hK dM_node_143
        · replace hf := jif_f w2 hf
          by_cases w3 : x2 = (3 : Int32)
          · replace hf := jif_t w3 hf
            refine lv_tableIn (tgt := 144) hx hb dM_node_64 (by rw [w3]; decide) (by rw [w3]; decide) (by rw [w3]; rfl) (by decide) ?_
            refine lv_aload_n hx hb dM_node_144 rfl (lv_at hl 0 rfl) ?_
            refine va_get (D := (dC, dI)) (ci := 6) (v := .ref (ad 8)) (C := RcM) (T := TcM) (N := 43) hx hb ht in_cM hown hK hC.1 0 (wM_e0 cI cC ad s0) rfl 8 (by decide) (ht _ tw768) (fun _ h9 => h9) rfl dM_node_145 ?_
            refine lv_iload_n hx hb dM_node_148 rfl (lv_at hl 2 rfl) ?_
            obtain ⟨hi6305, hf⟩ := jC_in hf
            refine va_iald hx hb hK hC.1 8 0 (wM_e8 cI cC ad s0) rfl hi6305 dM_node_149 ?_
            cases hf
            exact jret_i hx hb hr hlk hC hK dM_node_150
          · replace hf := jif_f w3 hf
            by_cases w4 : x2 = (4 : Int32)
            · replace hf := jif_t w4 hf
              refine lv_tableIn (tgt := 151) hx hb dM_node_64 (by rw [w4]; decide) (by rw [w4]; decide) (by rw [w4]; rfl) (by decide) ?_
              refine lv_aload_n hx hb dM_node_151 rfl (lv_at hl 0 rfl) ?_
              refine va_get (D := (dC, dI)) (ci := 6) (v := .ref (ad 10)) (C := RcM) (T := TcM) (N := 43) hx hb ht in_cM hown hK hC.1 0 (wM_e0 cI cC ad s0) rfl 10 (by decide) (ht _ tw770) (fun _ h9 => h9) rfl dM_node_152 ?_
              refine lv_iload_n hx hb dM_node_155 rfl (lv_at hl 2 rfl) ?_
              obtain ⟨hi6306, hf⟩ := jC_in hf
              refine va_iald hx hb hK hC.1 10 0 (wM_e10 cI cC ad s0) rfl hi6306 dM_node_156 ?_
              cases hf
              exact jret_i hx hb hr hlk hC hK dM_node_157
            · replace hf := jif_f w4 hf
              by_cases w5 : x2 = (5 : Int32)
              · replace hf := jif_t w5 hf
                refine lv_tableIn (tgt := 158) hx hb dM_node_64 (by rw [w5]; decide) (by rw [w5]; decide) (by rw [w5]; rfl) (by decide) ?_
                refine lv_aload_n hx hb dM_node_158 rfl (lv_at hl 0 rfl) ?_
                refine va_get (D := (dC, dI)) (ci := 6) (v := .ref (ad 11)) (C := RcM) (T := TcM) (N := 43) hx hb ht in_cM hown hK hC.1 0 (wM_e0 cI cC ad s0) rfl 11 (by decide) (ht _ tw771) (fun _ h9 => h9) rfl dM_node_159 ?_
                refine lv_iload_n hx hb dM_node_162 rfl (lv_at hl 2 rfl) ?_
                obtain ⟨hi6307, hf⟩ := jC_in hf
                refine va_iald hx hb hK hC.1 11 0 (wM_e11 cI cC ad s0) rfl hi6307 dM_node_163 ?_
                cases hf
                exact jret_i hx hb hr hlk hC hK dM_node_164
              · replace hf := jif_f w5 hf
                by_cases w6 : x2 = (6 : Int32)
                · replace hf := jif_t w6 hf
                  refine lv_tableIn (tgt := 165) hx hb dM_node_64 (by rw [w6]; decide) (by rw [w6]; decide) (by rw [w6]; rfl) (by decide) ?_
                  refine lv_aload_n hx hb dM_node_165 rfl (lv_at hl 0 rfl) ?_
                  refine va_get (D := (dC, dI)) (ci := 6) (v := .ref (ad 9)) (C := RcM) (T := TcM) (N := 43) hx hb ht in_cM hown hK hC.1 0 (wM_e0 cI cC ad s0) rfl 9 (by decide) (ht _ tw769) (fun _ h9 => h9) rfl dM_node_166 ?_
                  refine lv_iload_n hx hb dM_node_169 rfl (lv_at hl 2 rfl) ?_
                  obtain ⟨hi6308, hf⟩ := jC_in hf
                  refine va_iald hx hb hK hC.1 9 0 (wM_e9 cI cC ad s0) rfl hi6308 dM_node_170 ?_
                  refine lv_if_le (tgt := 178) hx hb dM_node_171 (by decide) (fun c6309 => ?_) (fun c6309 => ?_)
                  · replace hf := jif_t c6309 hf
                    refine lv_iconst (v := 0) hx hb dM_node_178 (by decide) ?_
                    cases hf
                    exact jret_i hx hb hr hlk hC hK dM_node_179
                  · replace hf := jif_f c6309 hf
                    refine lv_iconst (v := 1) hx hb dM_node_174 (by decide) ?_
                    refine lv_goto (tgt := 179) hx hb dM_node_175 (by decide) ?_
                    cases hf
                    exact jret_i hx hb hr hlk hC hK dM_node_179
                · replace hf := jif_f w6 hf
                  by_cases w7 : x2 = (7 : Int32)
                  · replace hf := jif_t w7 hf
                    refine lv_tableIn (tgt := 180) hx hb dM_node_64 (by rw [w7]; decide) (by rw [w7]; decide) (by rw [w7]; rfl) (by decide) ?_
                    refine lv_iload hx hb dM_node_180 (lv_at hl 3 rfl) ?_
                    cases hf
                    exact jret_i hx hb hr hlk hC hK dM_node_182
                  · replace hf := jif_f w7 hf
                    by_cases w8 : x2 = (8 : Int32)
                    · replace hf := jif_t w8 hf
                      refine lv_tableIn (tgt := 183) hx hb dM_node_64 (by rw [w8]; decide) (by rw [w8]; decide) (by rw [w8]; rfl) (by decide) ?_
                      refine lv_aload_n hx hb dM_node_183 rfl (lv_at hl 0 rfl) ?_
                      refine va_get (D := (dC, dI)) (ci := 6) (v := .ref (ad 12)) (C := RcM) (T := TcM) (N := 43) hx hb ht in_cM hown hK hC.1 0 (wM_e0 cI cC ad s0) rfl 12 (by decide) (ht _ tw772) (fun _ h9 => h9) rfl dM_node_184 ?_
                      refine lv_iload_n hx hb dM_node_187 rfl (lv_at hl 2 rfl) ?_
                      obtain ⟨hi6310, hf⟩ := jC_in hf
                      refine va_iald hx hb hK hC.1 12 0 (wM_e12 cI cC ad s0) rfl hi6310 dM_node_188 ?_
                      cases hf
                      exact jret_i hx hb hr hlk hC hK dM_node_189
                    · replace hf := jif_f w8 hf
                      refine lv_tableOut (tgt := 190) hx hb dM_node_64 (by have e0 := lv_neT (a := 0) w0 (by decide); have e1 := lv_neT (a := 1) w1 (by decide); have e2 := lv_neT (a := 2) w2 (by decide); have e3 := lv_neT (a := 3) w3 (by decide); have e4 := lv_neT (a := 4) w4 (by decide); have e5 := lv_neT (a := 5) w5 (by decide); have e6 := lv_neT (a := 6) w6 (by decide); have e7 := lv_neT (a := 7) w7 (by decide); have e8 := lv_neT (a := 8) w8 (by decide); omega) (by decide) ?_
                      refine lv_iconst (v := -1) hx hb dM_node_190 (by decide) ?_
                      cases hf
                      exact jret_i hx hb hr hlk hC hK dM_node_191
  have L27 : ∀ (n : Nat) (x2 x3 x4 x5 : Int32) (s0 : jS) (ls : Array Slot) (H : Heap) (locs : List Loc), lv_has ls 6 [(0, .ref (ad 0)), (2, .int x2), (3, .int x3), (4, .int x4), (5, .int x5)] → jcx (dC, dI) vwCl (va_A (wM cI cC ad z0) s.heap.size) s.heap (wM cI cC ad s0) H locs → fM_node_27 N n x2 x3 x4 x5 s0 = some (r, z1) → W p l e ({ frames := 1, cells := 0, slots := 0, locals := 23 }) s m [.ref (ad 0), .int a0, .int a1].toArray below meth c H locs 0 0 (MQ below (jQi (dC, dI) vwCl [(cI, .int), (cC, .char), (cL, .object "SharedSyntax$Letters")] (wM cI cC ad z0) (wM cI cC ad z1) s.heap.size r) [.ref (ad 0), .int a0, .int a1].toArray s 0 0 (va_A (wM cI cC ad z0) s.heap.size)) (F0 m 27 ls []) := by
    intro n
    induction n with
    | zero => exact fun _ _ _ _ _ _ _ _ _ _ hf => nomatch hf
    | succ n ih27 =>
      intro x2 x3 x4 x5 s0 ls H locs hl hC hf
      replace hf : fM_node_b27 N (fM_node_27 N n) x2 x3 x4 x5 s0 = some (r, z1) := hf
      generalize fM_node_27 N n = k27 at ih27 hf
      unfold fM_node_b27 at hf
      refine lv_iload hx hb dM_node_27 (lv_at hl 4 rfl) ?_
      refine lv_aload_n hx hb dM_node_29 rfl (lv_at hl 0 rfl) ?_
      refine va_get (D := (dC, dI)) (ci := 6) (v := .ref (ad 12)) (C := RcM) (T := TcM) (N := 43) hx hb ht in_cM hown hK hC.1 0 (wM_e0 cI cC ad s0) rfl 12 (by decide) (ht _ tw772) (fun _ h9 => h9) rfl dM_node_30 ?_
      refine lv_iload_n hx hb dM_node_33 rfl (lv_at hl 2 rfl) ?_
      obtain ⟨hi2701, hf⟩ := jC_in hf
      refine va_iald hx hb hK hC.1 12 0 (wM_e12 cI cC ad s0) rfl hi2701 dM_node_34 ?_
      refine lv_icmp_ge (tgt := 63) hx hb dM_node_35 (by decide) (fun c2702 => ?_) (fun c2702 => ?_)
      · replace hf := jif_t c2702 hf
        exact L63 x2 x3 x4 s0 ls _ _ (lv_sub hl [0, 1, 2, 3] rfl) hC hf
      · replace hf := jif_f c2702 hf
        refine lv_iload_n hx hb dM_node_38 rfl (lv_at hl 1 rfl) ?_
        refine lv_bipush (v := 7) hx hb dM_node_39 (by decide) ?_
        refine lv_icmp_ne (tgt := 63) hx hb dM_node_41 (by decide) (fun c2703 => ?_) (fun c2703 => ?_)
        · replace hf := jif_f c2703 hf
          exact L63 x2 x3 x4 s0 ls _ _ (lv_sub hl [0, 1, 2, 3] rfl) hC hf
        · replace hf := jif_t c2703 hf
          refine lv_iload hx hb dM_node_44 (lv_at hl 3 rfl) ?_
          refine lv_aload_n hx hb dM_node_46 rfl (lv_at hl 0 rfl) ?_
          refine lv_iload_n hx hb dM_node_47 rfl (lv_at hl 2 rfl) ?_
          refine lv_iload hx hb dM_node_48 (lv_at hl 4 rfl) ?_
          refine lv_iadd hx hb dM_node_50 ?_
          obtain ⟨r2704, s2704, hc2704, hf⟩ := jB_some hf
          refine jcall_i (va_runV (C := RcM) (As := [.int (x3 + x5)]) (rest := [.int x4]) ⟨hx, hb, hml, hown, hts⟩ ((cM_faultsOf l dC dI cI cC cL sk sv ad N (x3 + x5) s0 s2704 r2704 hc2704) _) ⟨(callB_of 1 hts (tb_good tw938) rfl rfl rfl (ht _ tw14) (ht _ tw935) (by decide +kernel) ⟨Nat.le_of_ble_eq_true rfl, Nat.le_of_ble_eq_true rfl⟩), ht _ tw937, ht _ (tb_sel pv_M_faultsOf)⟩ (jpreV (jEn_ok sk sv) hC hA hK hN (wM_e0 cI cC ad s0) rfl rfl _) rfl rfl hl.1 rfl (lv_room (Nat.le_of_ble_eq_true rfl)) dM_node_51 ⟨Nat.le_refl _, Nat.le_refl _⟩) hC hA (fun H locs hC => ?_)
          refine lv_iadd hx hb dM_node_54 ?_
          refine lv_istore (lv' := [(4, .int (x4 + r2704)), (0, .ref (ad 0)), (2, .int x2), (3, .int x3), (5, .int x5)]) hx hb dM_node_55 hl (by decide) rfl (fun ls hl => ?_)
          refine lv_iinc (k := 4) (v := (x5 + (1 : Int32))) (lv' := [(5, .int (x5 + (1 : Int32))), (4, .int (x4 + r2704)), (0, .ref (ad 0)), (2, .int x2), (3, .int x3)]) hx hb dM_node_57 hl rfl rfl (by decide) rfl (fun ls hl => ?_)
          refine lv_goto (tgt := 27) hx hb dM_node_60 (by decide) ?_
          exact ih27 x2 x3 (x4 + r2704) (x5 + (1 : Int32)) s2704 ls _ _ (lv_sub hl [2, 3, 4, 1, 0] rfl) hC hf
  unfold fM_node at hf
  refine lv_aload_n hx hb dM_node_0 rfl (lv_at hl 0 rfl) ?_
  refine lv_iload_n hx hb dM_node_1 rfl (lv_at hl 1 rfl) ?_
  obtain ⟨r1, s1, hc1, hf⟩ := jB_some hf
  refine jcall_i (va_runV (C := RcM) (As := [.int a0]) (rest := []) ⟨hx, hb, hml, hown, hts⟩ ((cM_there l dC dI cI cC cL sk sv ad N a0 z0 s1 r1 hc1) _) ⟨(callB_of 1 hts (tb_good tw934) rfl rfl rfl (ht _ tw14) (ht _ tw931) (by decide +kernel) ⟨Nat.le_of_ble_eq_true rfl, Nat.le_of_ble_eq_true rfl⟩), ht _ tw933, ht _ (tb_sel pv_M_there)⟩ (jpreV (jEn_ok sk sv) hC hA hK hN (wM_e0 cI cC ad z0) rfl rfl _) rfl rfl hl.1 rfl (lv_room (Nat.le_of_ble_eq_true rfl)) dM_node_2 ⟨Nat.le_refl _, Nat.le_refl _⟩) hC hA (fun H locs hC => ?_)
  refine lv_if_ne (tgt := 10) hx hb dM_node_5 (by decide) (fun c2 => ?_) (fun c2 => ?_)
  · replace hf := jif_f c2 hf
    refine lv_sipush (v := 400) hx hb dM_node_10 (by decide) ?_
    refine lv_aload_n hx hb dM_node_13 rfl (lv_at hl 0 rfl) ?_
    refine va_get (D := (dC, dI)) (ci := 6) (v := .int (jgI s1 0)) (C := RcM) (T := TcM) (N := 43) hx hb ht in_cM hown hK hC.1 0 (wM_e0 cI cC ad s1) rfl 0 (by decide) (ht _ tw760) (fun _ h9 => h9) rfl dM_node_14 ?_
    refine lv_imul hx hb dM_node_17 ?_
    refine lv_iload_n hx hb dM_node_18 rfl (lv_at hl 1 rfl) ?_
    refine lv_iadd hx hb dM_node_19 ?_
    refine lv_istore_n (lv' := [(3, .int (((400 : Int32) * jgI s1 0) + a0)), (0, .ref (ad 0)), (1, .int a0), (2, .int a1)]) hx hb dM_node_20 rfl hl (by decide) rfl (fun ls hl => ?_)
    refine lv_iconst (v := 0) hx hb dM_node_21 (by decide) ?_
    refine lv_istore (lv' := [(4, .int (0 : Int32)), (3, .int (((400 : Int32) * jgI s1 0) + a0)), (0, .ref (ad 0)), (1, .int a0), (2, .int a1)]) hx hb dM_node_22 hl (by decide) rfl (fun ls hl => ?_)
    refine lv_iconst (v := 0) hx hb dM_node_24 (by decide) ?_
    refine lv_istore (lv' := [(5, .int (0 : Int32)), (4, .int (0 : Int32)), (3, .int (((400 : Int32) * jgI s1 0) + a0)), (0, .ref (ad 0)), (1, .int a0), (2, .int a1)]) hx hb dM_node_25 hl (by decide) rfl (fun ls hl => ?_)
    exact L27 N a1 (((400 : Int32) * jgI s1 0) + a0) (0 : Int32) (0 : Int32) s1 ls _ _ (lv_sub hl [3, 5, 2, 1, 0] rfl) hC hf
  · replace hf := jif_t c2 hf
    refine lv_iconst (v := -1) hx hb dM_node_8 (by decide) ?_
    cases hf
    exact jret_i hx hb hr hlk hC hK dM_node_9

def fM_child_b40 (N : Nat) (k40 : Int32 → Int32 → Int32 → jS → Option (Int32 × jS)) (x2 x3 x4 : Int32) (s0 : jS) : Option (Int32 × jS) := (if x2 ≤ x4 then some (x3, s0) else (if jIn (((400 : Int32) * jgI s0 0) + x3) 800 = true then k40 x2 (x3 + jgA s0 11 ((((400 : Int32) * jgI s0 0) + x3)).toNatClampNeg) (x4 + (1 : Int32)) s0 else none))
def fM_child_40 (N : Nat) : Nat → Int32 → Int32 → Int32 → jS → Option (Int32 × jS)
  | 0 => fun _ _ _ _ => none
  | n + 1 => fun x2 x3 x4 s0 => fM_child_b40 N (fM_child_40 N n) x2 x3 x4 s0
def fM_child (N : Nat) (a0 a1 : Int32) (z0 : jS) : Option (Int32 × jS) := (jB (fM_there N a0 z0) fun r1 s1 => (if r1 = 0 then some ((-1 : Int32), s1) else (if a1 < 0 then some ((-1 : Int32), s1) else (if jIn (((400 : Int32) * jgI s1 0) + a0) 800 = true then (if a1 < jgA s1 9 ((((400 : Int32) * jgI s1 0) + a0)).toNatClampNeg then fM_child_40 N N a1 (a0 + (1 : Int32)) (0 : Int32) s1 else some ((-1 : Int32), s1)) else none))))
set_option maxHeartbeats 4000000 in
set_option maxRecDepth 100000 in
theorem cM_child (l : Launch) (dC : Nat → ClassId) (dI : Nat → Nat → Nat) (cI cC cL : ClassId) (sk sv : Nat → Nat) (ad : Nat → Nat) (N : Nat) (a0 a1 : Int32) (z0 z1 : jS) (r : Int32) (hf : fM_child N a0 a1 z0 = some (r, z1)) : Ci l yM_child (Cond.code yM_child prog_8_method_41_code 5 (some .int) :: TB) ({ frames := 1, cells := 0, slots := 0, locals := 21 }) (dC, dI) vwCl [(cI, .int), (cC, .char), (cL, .object "SharedSyntax$Letters")] (jEn sk sv) [.ref (ad 0), .int a0, .int a1] (wM cI cC ad z0) (wM cI cC ad z1) r := by
  refine Ci_of (cc := prog_8_method_41_code) (maxL := 5) (ret := (some .int)) (by decide) rfl (Nat.le_of_ble_eq_true rfl) ?_
  intro p e s m below meth c ls F hl hK hN hC
  obtain ⟨hx, hb, hml, hown, hts, hr, hlk⟩ := F
  have ht : ∀ w ∈ TB, w.before [.ref (ad 0), .int a0, .int a1].toArray s = true := fun w h => hts w (List.mem_cons_of_mem _ h)
  have hA : ∀ q, s.heap.size ≤ q → va_A (wM cI cC ad z0) s.heap.size q := fun q h => Or.inr h
  have hl : lv_has ls 5 [(0, .ref (ad 0)), (1, .int a0), (2, .int a1)] := hl
  have L40 : ∀ (n : Nat) (x2 x3 x4 : Int32) (s0 : jS) (ls : Array Slot) (H : Heap) (locs : List Loc), lv_has ls 5 [(0, .ref (ad 0)), (2, .int x2), (3, .int x3), (4, .int x4)] → jcx (dC, dI) vwCl (va_A (wM cI cC ad z0) s.heap.size) s.heap (wM cI cC ad s0) H locs → fM_child_40 N n x2 x3 x4 s0 = some (r, z1) → W p l e ({ frames := 1, cells := 0, slots := 0, locals := 21 }) s m [.ref (ad 0), .int a0, .int a1].toArray below meth c H locs 0 0 (MQ below (jQi (dC, dI) vwCl [(cI, .int), (cC, .char), (cL, .object "SharedSyntax$Letters")] (wM cI cC ad z0) (wM cI cC ad z1) s.heap.size r) [.ref (ad 0), .int a0, .int a1].toArray s 0 0 (va_A (wM cI cC ad z0) s.heap.size)) (F0 m 40 ls []) := by
    intro n
    induction n with
    | zero => exact fun _ _ _ _ _ _ _ _ _ hf => nomatch hf
    | succ n ih40 =>
      intro x2 x3 x4 s0 ls H locs hl hC hf
      replace hf : fM_child_b40 N (fM_child_40 N n) x2 x3 x4 s0 = some (r, z1) := hf
      generalize fM_child_40 N n = k40 at ih40 hf
      unfold fM_child_b40 at hf
      refine lv_iload hx hb dM_child_40 (lv_at hl 3 rfl) ?_
      refine lv_iload_n hx hb dM_child_42 rfl (lv_at hl 1 rfl) ?_
      refine lv_icmp_ge (tgt := 70) hx hb dM_child_43 (by decide) (fun c4001 => ?_) (fun c4001 => ?_)
      · replace hf := jif_t c4001 hf
        refine lv_iload_n hx hb dM_child_70 rfl (lv_at hl 2 rfl) ?_
        cases hf
        exact jret_i hx hb hr hlk hC hK dM_child_71
      · replace hf := jif_f c4001 hf
        refine lv_iload_n hx hb dM_child_46 rfl (lv_at hl 2 rfl) ?_
        refine lv_aload_n hx hb dM_child_47 rfl (lv_at hl 0 rfl) ?_
        refine va_get (D := (dC, dI)) (ci := 6) (v := .ref (ad 12)) (C := RcM) (T := TcM) (N := 43) hx hb ht in_cM hown hK hC.1 0 (wM_e0 cI cC ad s0) rfl 12 (by decide) (ht _ tw772) (fun _ h9 => h9) rfl dM_child_48 ?_
        refine lv_sipush (v := 400) hx hb dM_child_51 (by decide) ?_
        refine lv_aload_n hx hb dM_child_54 rfl (lv_at hl 0 rfl) ?_
        refine va_get (D := (dC, dI)) (ci := 6) (v := .int (jgI s0 0)) (C := RcM) (T := TcM) (N := 43) hx hb ht in_cM hown hK hC.1 0 (wM_e0 cI cC ad s0) rfl 0 (by decide) (ht _ tw760) (fun _ h9 => h9) rfl dM_child_55 ?_
        refine lv_imul hx hb dM_child_58 ?_
        refine lv_iload_n hx hb dM_child_59 rfl (lv_at hl 2 rfl) ?_
        refine lv_iadd hx hb dM_child_60 ?_
        obtain ⟨hi4002, hf⟩ := jC_in hf
        refine va_iald hx hb hK hC.1 12 0 (wM_e12 cI cC ad s0) rfl hi4002 dM_child_61 ?_
        refine lv_iadd hx hb dM_child_62 ?_
        refine lv_istore_n (lv' := [(3, .int (x3 + jgA s0 11 ((((400 : Int32) * jgI s0 0) + x3)).toNatClampNeg)), (0, .ref (ad 0)), (2, .int x2), (4, .int x4)]) hx hb dM_child_63 rfl hl (by decide) rfl (fun ls hl => ?_)
        refine lv_iinc (k := 3) (v := (x4 + (1 : Int32))) (lv' := [(4, .int (x4 + (1 : Int32))), (3, .int (x3 + jgA s0 11 ((((400 : Int32) * jgI s0 0) + x3)).toNatClampNeg)), (0, .ref (ad 0)), (2, .int x2)]) hx hb dM_child_64 hl rfl rfl (by decide) rfl (fun ls hl => ?_)
        refine lv_goto (tgt := 40) hx hb dM_child_67 (by decide) ?_
        exact ih40 x2 (x3 + jgA s0 11 ((((400 : Int32) * jgI s0 0) + x3)).toNatClampNeg) (x4 + (1 : Int32)) s0 ls _ _ (lv_sub hl [2, 3, 1, 0] rfl) hC hf
  unfold fM_child at hf
  refine lv_aload_n hx hb dM_child_0 rfl (lv_at hl 0 rfl) ?_
  refine lv_iload_n hx hb dM_child_1 rfl (lv_at hl 1 rfl) ?_
  obtain ⟨r1, s1, hc1, hf⟩ := jB_some hf
  refine jcall_i (va_runV (C := RcM) (As := [.int a0]) (rest := []) ⟨hx, hb, hml, hown, hts⟩ ((cM_there l dC dI cI cC cL sk sv ad N a0 z0 s1 r1 hc1) _) ⟨(callB_of 1 hts (tb_good tw934) rfl rfl rfl (ht _ tw14) (ht _ tw931) (by decide +kernel) ⟨Nat.le_of_ble_eq_true rfl, Nat.le_of_ble_eq_true rfl⟩), ht _ tw933, ht _ (tb_sel pv_M_there)⟩ (jpreV (jEn_ok sk sv) hC hA hK hN (wM_e0 cI cC ad z0) rfl rfl _) rfl rfl hl.1 rfl (lv_room (Nat.le_of_ble_eq_true rfl)) dM_child_2 ⟨Nat.le_refl _, Nat.le_refl _⟩) hC hA (fun H locs hC => ?_)
  refine lv_if_eq (tgt := 31) hx hb dM_child_5 (by decide) (fun c2 => ?_) (fun c2 => ?_)
  · replace hf := jif_t c2 hf
    refine lv_iconst (v := -1) hx hb dM_child_31 (by decide) ?_
    cases hf
    exact jret_i hx hb hr hlk hC hK dM_child_32
  · replace hf := jif_f c2 hf
    refine lv_iload_n hx hb dM_child_8 rfl (lv_at hl 2 rfl) ?_
    refine lv_if_lt (tgt := 31) hx hb dM_child_9 (by decide) (fun c3 => ?_) (fun c3 => ?_)
    · replace hf := jif_t c3 hf
      refine lv_iconst (v := -1) hx hb dM_child_31 (by decide) ?_
      cases hf
      exact jret_i hx hb hr hlk hC hK dM_child_32
    · replace hf := jif_f c3 hf
      refine lv_iload_n hx hb dM_child_12 rfl (lv_at hl 2 rfl) ?_
      refine lv_aload_n hx hb dM_child_13 rfl (lv_at hl 0 rfl) ?_
      refine va_get (D := (dC, dI)) (ci := 6) (v := .ref (ad 10)) (C := RcM) (T := TcM) (N := 43) hx hb ht in_cM hown hK hC.1 0 (wM_e0 cI cC ad s1) rfl 10 (by decide) (ht _ tw770) (fun _ h9 => h9) rfl dM_child_14 ?_
      refine lv_sipush (v := 400) hx hb dM_child_17 (by decide) ?_
      refine lv_aload_n hx hb dM_child_20 rfl (lv_at hl 0 rfl) ?_
      refine va_get (D := (dC, dI)) (ci := 6) (v := .int (jgI s1 0)) (C := RcM) (T := TcM) (N := 43) hx hb ht in_cM hown hK hC.1 0 (wM_e0 cI cC ad s1) rfl 0 (by decide) (ht _ tw760) (fun _ h9 => h9) rfl dM_child_21 ?_
      refine lv_imul hx hb dM_child_24 ?_
      refine lv_iload_n hx hb dM_child_25 rfl (lv_at hl 1 rfl) ?_
      refine lv_iadd hx hb dM_child_26 ?_
      obtain ⟨hi4, hf⟩ := jC_in hf
      refine va_iald hx hb hK hC.1 10 0 (wM_e10 cI cC ad s1) rfl hi4 dM_child_27 ?_
      refine lv_icmp_lt (tgt := 33) hx hb dM_child_28 (by decide) (fun c5 => ?_) (fun c5 => ?_)
      · replace hf := jif_t c5 hf
        refine lv_iload_n hx hb dM_child_33 rfl (lv_at hl 1 rfl) ?_
        refine lv_iconst (v := 1) hx hb dM_child_34 (by decide) ?_
        refine lv_iadd hx hb dM_child_35 ?_
        refine lv_istore_n (lv' := [(3, .int (a0 + (1 : Int32))), (0, .ref (ad 0)), (1, .int a0), (2, .int a1)]) hx hb dM_child_36 rfl hl (by decide) rfl (fun ls hl => ?_)
        refine lv_iconst (v := 0) hx hb dM_child_37 (by decide) ?_
        refine lv_istore (lv' := [(4, .int (0 : Int32)), (3, .int (a0 + (1 : Int32))), (0, .ref (ad 0)), (1, .int a0), (2, .int a1)]) hx hb dM_child_38 hl (by decide) rfl (fun ls hl => ?_)
        exact L40 N a1 (a0 + (1 : Int32)) (0 : Int32) s1 ls _ _ (lv_sub hl [2, 4, 1, 0] rfl) hC hf
      · replace hf := jif_f c5 hf
        refine lv_iconst (v := -1) hx hb dM_child_31 (by decide) ?_
        cases hf
        exact jret_i hx hb hr hlk hC hK dM_child_32

def fM_find_b21 (N : Nat) (k21 : Int32 → Int32 → jS → Option (Int32 × jS)) (x1 x2 : Int32) (s0 : jS) : Option (Int32 × jS) := (if jIn (jgI s0 0) 2 = true then (if jgA s0 3 (jgI s0 0).toNatClampNeg ≤ x2 then some ((-1 : Int32), s0) else (if jIn (((400 : Int32) * jgI s0 0) + x2) 800 = true then (if jgA s0 9 ((((400 : Int32) * jgI s0 0) + x2)).toNatClampNeg = 0 then (if jIn (((400 : Int32) * jgI s0 0) + x2) 800 = true then (if jgA s0 4 ((((400 : Int32) * jgI s0 0) + x2)).toNatClampNeg = (17 : Int32) then some (x2, s0) else (if jIn (((400 : Int32) * jgI s0 0) + x2) 800 = true then (if x1 < jgA s0 5 ((((400 : Int32) * jgI s0 0) + x2)).toNatClampNeg then k21 x1 (x2 + (1 : Int32)) s0 else (if jIn (((400 : Int32) * jgI s0 0) + x2) 800 = true then (if jgA s0 6 ((((400 : Int32) * jgI s0 0) + x2)).toNatClampNeg ≤ x1 then k21 x1 (x2 + (1 : Int32)) s0 else some (x2, s0)) else none)) else none)) else none) else k21 x1 (x2 + (1 : Int32)) s0) else none)) else none)
def fM_find_21 (N : Nat) : Nat → Int32 → Int32 → jS → Option (Int32 × jS)
  | 0 => fun _ _ _ => none
  | n + 1 => fun x1 x2 s0 => fM_find_b21 N (fM_find_21 N n) x1 x2 s0
def fM_find (N : Nat) (a0 : Int32) (z0 : jS) : Option (Int32 × jS) := (if a0 < 0 then some ((-1 : Int32), z0) else (if jIn (jgI z0 0) 2 = true then (if a0 ≤ jgA z0 1 (jgI z0 0).toNatClampNeg then fM_find_21 N N a0 (0 : Int32) z0 else some ((-1 : Int32), z0)) else none))
set_option maxHeartbeats 4000000 in
set_option maxRecDepth 100000 in
theorem cM_find (l : Launch) (dC : Nat → ClassId) (dI : Nat → Nat → Nat) (cI cC cL : ClassId) (sk sv : Nat → Nat) (ad : Nat → Nat) (N : Nat) (a0 : Int32) (z0 z1 : jS) (r : Int32) (hf : fM_find N a0 z0 = some (r, z1)) : Ci l yM_find (Cond.code yM_find prog_8_method_42_code 4 (some .int) :: TB) ({ frames := 0, cells := 0, slots := 0, locals := 0 }) (dC, dI) vwCl [(cI, .int), (cC, .char), (cL, .object "SharedSyntax$Letters")] (jEn sk sv) [.ref (ad 0), .int a0] (wM cI cC ad z0) (wM cI cC ad z1) r := by
  refine Ci_of (cc := prog_8_method_42_code) (maxL := 4) (ret := (some .int)) (by decide) rfl (Nat.le_of_ble_eq_true rfl) ?_
  intro p e s m below meth c ls F hl hK hN hC
  obtain ⟨hx, hb, hml, hown, hts, hr, hlk⟩ := F
  have ht : ∀ w ∈ TB, w.before [.ref (ad 0), .int a0].toArray s = true := fun w h => hts w (List.mem_cons_of_mem _ h)
  have hA : ∀ q, s.heap.size ≤ q → va_A (wM cI cC ad z0) s.heap.size q := fun q h => Or.inr h
  have hl : lv_has ls 4 [(0, .ref (ad 0)), (1, .int a0)] := hl
  have L21 : ∀ (n : Nat) (x1 x2 : Int32) (s0 : jS) (ls : Array Slot) (H : Heap) (locs : List Loc), lv_has ls 4 [(0, .ref (ad 0)), (1, .int x1), (2, .int x2)] → jcx (dC, dI) vwCl (va_A (wM cI cC ad z0) s.heap.size) s.heap (wM cI cC ad s0) H locs → fM_find_21 N n x1 x2 s0 = some (r, z1) → W p l e ({ frames := 0, cells := 0, slots := 0, locals := 0 }) s m [.ref (ad 0), .int a0].toArray below meth c H locs 0 0 (MQ below (jQi (dC, dI) vwCl [(cI, .int), (cC, .char), (cL, .object "SharedSyntax$Letters")] (wM cI cC ad z0) (wM cI cC ad z1) s.heap.size r) [.ref (ad 0), .int a0].toArray s 0 0 (va_A (wM cI cC ad z0) s.heap.size)) (F0 m 21 ls []) := by
    intro n
    induction n with
    | zero => exact fun _ _ _ _ _ _ _ _ hf => nomatch hf
    | succ n ih21 =>
      intro x1 x2 s0 ls H locs hl hC hf
      replace hf : fM_find_b21 N (fM_find_21 N n) x1 x2 s0 = some (r, z1) := hf
      generalize fM_find_21 N n = k21 at ih21 hf
      unfold fM_find_b21 at hf
      refine lv_iload_n hx hb dM_find_21 rfl (lv_at hl 2 rfl) ?_
      refine lv_aload_n hx hb dM_find_22 rfl (lv_at hl 0 rfl) ?_
      refine va_get (D := (dC, dI)) (ci := 6) (v := .ref (ad 4)) (C := RcM) (T := TcM) (N := 43) hx hb ht in_cM hown hK hC.1 0 (wM_e0 cI cC ad s0) rfl 4 (by decide) (ht _ tw764) (fun _ h9 => h9) rfl dM_find_23 ?_
      refine lv_aload_n hx hb dM_find_26 rfl (lv_at hl 0 rfl) ?_
      refine va_get (D := (dC, dI)) (ci := 6) (v := .int (jgI s0 0)) (C := RcM) (T := TcM) (N := 43) hx hb ht in_cM hown hK hC.1 0 (wM_e0 cI cC ad s0) rfl 0 (by decide) (ht _ tw760) (fun _ h9 => h9) rfl dM_find_27 ?_
      obtain ⟨hi2101, hf⟩ := jC_in hf
      refine va_iald hx hb hK hC.1 4 0 (wM_e4 cI cC ad s0) rfl hi2101 dM_find_30 ?_
      refine lv_icmp_ge (tgt := 93) hx hb dM_find_31 (by decide) (fun c2102 => ?_) (fun c2102 => ?_)
      · replace hf := jif_t c2102 hf
        refine lv_iconst (v := -1) hx hb dM_find_93 (by decide) ?_
        cases hf
        exact jret_i hx hb hr hlk hC hK dM_find_94
      · replace hf := jif_f c2102 hf
        refine lv_sipush (v := 400) hx hb dM_find_34 (by decide) ?_
        refine lv_aload_n hx hb dM_find_37 rfl (lv_at hl 0 rfl) ?_
        refine va_get (D := (dC, dI)) (ci := 6) (v := .int (jgI s0 0)) (C := RcM) (T := TcM) (N := 43) hx hb ht in_cM hown hK hC.1 0 (wM_e0 cI cC ad s0) rfl 0 (by decide) (ht _ tw760) (fun _ h9 => h9) rfl dM_find_38 ?_
        refine lv_imul hx hb dM_find_41 ?_
        refine lv_iload_n hx hb dM_find_42 rfl (lv_at hl 2 rfl) ?_
        refine lv_iadd hx hb dM_find_43 ?_
        refine lv_istore_n (lv' := [(3, .int (((400 : Int32) * jgI s0 0) + x2)), (0, .ref (ad 0)), (1, .int x1), (2, .int x2)]) hx hb dM_find_44 rfl hl (by decide) rfl (fun ls hl => ?_)
        refine lv_aload_n hx hb dM_find_45 rfl (lv_at hl 1 rfl) ?_
        refine va_get (D := (dC, dI)) (ci := 6) (v := .ref (ad 10)) (C := RcM) (T := TcM) (N := 43) hx hb ht in_cM hown hK hC.1 0 (wM_e0 cI cC ad s0) rfl 10 (by decide) (ht _ tw770) (fun _ h9 => h9) rfl dM_find_46 ?_
        refine lv_iload_n hx hb dM_find_49 rfl (lv_at hl 0 rfl) ?_
        obtain ⟨hi2103, hf⟩ := jC_in hf
        refine va_iald hx hb hK hC.1 10 0 (wM_e10 cI cC ad s0) rfl hi2103 dM_find_50 ?_
        refine lv_if_ne (tgt := 87) hx hb dM_find_51 (by decide) (fun c2104 => ?_) (fun c2104 => ?_)
        · replace hf := jif_f c2104 hf
          refine lv_iinc (k := 3) (v := (x2 + (1 : Int32))) (lv' := [(2, .int (x2 + (1 : Int32))), (3, .int (((400 : Int32) * jgI s0 0) + x2)), (0, .ref (ad 0)), (1, .int x1)]) hx hb dM_find_87 hl rfl rfl (by decide) rfl (fun ls hl => ?_)
          refine lv_goto (tgt := 21) hx hb dM_find_90 (by decide) ?_
          exact ih21 x1 (x2 + (1 : Int32)) s0 ls _ _ (lv_sub hl [2, 3, 0] rfl) hC hf
        · replace hf := jif_t c2104 hf
          refine lv_aload_n hx hb dM_find_54 rfl (lv_at hl 1 rfl) ?_
          refine va_get (D := (dC, dI)) (ci := 6) (v := .ref (ad 5)) (C := RcM) (T := TcM) (N := 43) hx hb ht in_cM hown hK hC.1 0 (wM_e0 cI cC ad s0) rfl 5 (by decide) (ht _ tw765) (fun _ h9 => h9) rfl dM_find_55 ?_
          refine lv_iload_n hx hb dM_find_58 rfl (lv_at hl 0 rfl) ?_
          obtain ⟨hi2105, hf⟩ := jC_in hf
          refine va_iald hx hb hK hC.1 5 0 (wM_e5 cI cC ad s0) rfl hi2105 dM_find_59 ?_
          refine lv_bipush (v := 17) hx hb dM_find_60 (by decide) ?_
          refine lv_icmp_eq (tgt := 85) hx hb dM_find_62 (by decide) (fun c2106 => ?_) (fun c2106 => ?_)
          · replace hf := jif_t c2106 hf
            refine lv_iload_n hx hb dM_find_85 rfl (lv_at hl 3 rfl) ?_
            cases hf
            exact jret_i hx hb hr hlk hC hK dM_find_86
          · replace hf := jif_f c2106 hf
            refine lv_iload_n hx hb dM_find_65 rfl (lv_at hl 2 rfl) ?_
            refine lv_aload_n hx hb dM_find_66 rfl (lv_at hl 1 rfl) ?_
            refine va_get (D := (dC, dI)) (ci := 6) (v := .ref (ad 6)) (C := RcM) (T := TcM) (N := 43) hx hb ht in_cM hown hK hC.1 0 (wM_e0 cI cC ad s0) rfl 6 (by decide) (ht _ tw766) (fun _ h9 => h9) rfl dM_find_67 ?_
            refine lv_iload_n hx hb dM_find_70 rfl (lv_at hl 0 rfl) ?_
            obtain ⟨hi2107, hf⟩ := jC_in hf
            refine va_iald hx hb hK hC.1 6 0 (wM_e6 cI cC ad s0) rfl hi2107 dM_find_71 ?_
            refine lv_icmp_lt (tgt := 87) hx hb dM_find_72 (by decide) (fun c2108 => ?_) (fun c2108 => ?_)
            · replace hf := jif_t c2108 hf
              refine lv_iinc (k := 3) (v := (x2 + (1 : Int32))) (lv' := [(2, .int (x2 + (1 : Int32))), (3, .int (((400 : Int32) * jgI s0 0) + x2)), (0, .ref (ad 0)), (1, .int x1)]) hx hb dM_find_87 hl rfl rfl (by decide) rfl (fun ls hl => ?_)
              refine lv_goto (tgt := 21) hx hb dM_find_90 (by decide) ?_
              exact ih21 x1 (x2 + (1 : Int32)) s0 ls _ _ (lv_sub hl [2, 3, 0] rfl) hC hf
            · replace hf := jif_f c2108 hf
              refine lv_iload_n hx hb dM_find_75 rfl (lv_at hl 2 rfl) ?_
              refine lv_aload_n hx hb dM_find_76 rfl (lv_at hl 1 rfl) ?_
              refine va_get (D := (dC, dI)) (ci := 6) (v := .ref (ad 7)) (C := RcM) (T := TcM) (N := 43) hx hb ht in_cM hown hK hC.1 0 (wM_e0 cI cC ad s0) rfl 7 (by decide) (ht _ tw767) (fun _ h9 => h9) rfl dM_find_77 ?_
              refine lv_iload_n hx hb dM_find_80 rfl (lv_at hl 0 rfl) ?_
              obtain ⟨hi2109, hf⟩ := jC_in hf
              refine va_iald hx hb hK hC.1 7 0 (wM_e7 cI cC ad s0) rfl hi2109 dM_find_81 ?_
              refine lv_icmp_ge (tgt := 87) hx hb dM_find_82 (by decide) (fun c2110 => ?_) (fun c2110 => ?_)
              · replace hf := jif_t c2110 hf
                refine lv_iinc (k := 3) (v := (x2 + (1 : Int32))) (lv' := [(2, .int (x2 + (1 : Int32))), (3, .int (((400 : Int32) * jgI s0 0) + x2)), (0, .ref (ad 0)), (1, .int x1)]) hx hb dM_find_87 hl rfl rfl (by decide) rfl (fun ls hl => ?_)
                refine lv_goto (tgt := 21) hx hb dM_find_90 (by decide) ?_
                exact ih21 x1 (x2 + (1 : Int32)) s0 ls _ _ (lv_sub hl [2, 3, 0] rfl) hC hf
              · replace hf := jif_f c2110 hf
                refine lv_iload_n hx hb dM_find_85 rfl (lv_at hl 3 rfl) ?_
                cases hf
                exact jret_i hx hb hr hlk hC hK dM_find_86
  unfold fM_find at hf
  refine lv_iload_n hx hb dM_find_0 rfl (lv_at hl 1 rfl) ?_
  refine lv_if_lt (tgt := 17) hx hb dM_find_1 (by decide) (fun c1 => ?_) (fun c1 => ?_)
  · replace hf := jif_t c1 hf
    refine lv_iconst (v := -1) hx hb dM_find_17 (by decide) ?_
    cases hf
    exact jret_i hx hb hr hlk hC hK dM_find_18
  · replace hf := jif_f c1 hf
    refine lv_iload_n hx hb dM_find_4 rfl (lv_at hl 1 rfl) ?_
    refine lv_aload_n hx hb dM_find_5 rfl (lv_at hl 0 rfl) ?_
    refine va_get (D := (dC, dI)) (ci := 6) (v := .ref (ad 2)) (C := RcM) (T := TcM) (N := 43) hx hb ht in_cM hown hK hC.1 0 (wM_e0 cI cC ad z0) rfl 2 (by decide) (ht _ tw762) (fun _ h9 => h9) rfl dM_find_6 ?_
    refine lv_aload_n hx hb dM_find_9 rfl (lv_at hl 0 rfl) ?_
    refine va_get (D := (dC, dI)) (ci := 6) (v := .int (jgI z0 0)) (C := RcM) (T := TcM) (N := 43) hx hb ht in_cM hown hK hC.1 0 (wM_e0 cI cC ad z0) rfl 0 (by decide) (ht _ tw760) (fun _ h9 => h9) rfl dM_find_10 ?_
    obtain ⟨hi2, hf⟩ := jC_in hf
    refine va_iald hx hb hK hC.1 2 0 (wM_e2 cI cC ad z0) rfl hi2 dM_find_13 ?_
    refine lv_icmp_le (tgt := 19) hx hb dM_find_14 (by decide) (fun c3 => ?_) (fun c3 => ?_)
    · replace hf := jif_t c3 hf
      refine lv_iconst (v := 0) hx hb dM_find_19 (by decide) ?_
      refine lv_istore_n (lv' := [(2, .int (0 : Int32)), (0, .ref (ad 0)), (1, .int a0)]) hx hb dM_find_20 rfl hl (by decide) rfl (fun ls hl => ?_)
      exact L21 N a0 (0 : Int32) z0 ls _ _ (lv_sub hl [1, 2, 0] rfl) hC hf
    · replace hf := jif_f c3 hf
      refine lv_iconst (v := -1) hx hb dM_find_17 (by decide) ?_
      cases hf
      exact jret_i hx hb hr hlk hC hK dM_find_18

def fM_equal (N : Nat) (a0 a1 : Int32) (z0 : jS) : Option (Int32 × jS) := (jB (fM_there N a0 z0) fun r1 s1 => (if r1 = 0 then some ((0 : Int32), s1) else (jB (fM_there N a1 s1) fun r3 s3 => (if r3 = 0 then some ((0 : Int32), s3) else (jB (fM_alike N (jgI s3 0) a0 (jgI s3 0) a1 s3) fun r5 s5 => (if r5 = 0 then some ((0 : Int32), s5) else some ((1 : Int32), s5)))))))
set_option maxHeartbeats 4000000 in
set_option maxRecDepth 100000 in
theorem cM_equal (l : Launch) (dC : Nat → ClassId) (dI : Nat → Nat → Nat) (cI cC cL : ClassId) (sk sv : Nat → Nat) (ad : Nat → Nat) (N : Nat) (a0 a1 : Int32) (z0 z1 : jS) (r : Int32) (hf : fM_equal N a0 a1 z0 = some (r, z1)) : Ci l yM_equal (Cond.code yM_equal prog_8_method_43_code 3 (some .boolean) :: TB) ({ frames := 2, cells := 0, slots := 0, locals := 53 }) (dC, dI) vwCl [(cI, .int), (cC, .char), (cL, .object "SharedSyntax$Letters")] (jEn sk sv) [.ref (ad 0), .int a0, .int a1] (wM cI cC ad z0) (wM cI cC ad z1) r := by
  refine Ci_of (cc := prog_8_method_43_code) (maxL := 3) (ret := (some .boolean)) (by decide) rfl (Nat.le_of_ble_eq_true rfl) ?_
  intro p e s m below meth c ls F hl hK hN hC
  obtain ⟨hx, hb, hml, hown, hts, hr, hlk⟩ := F
  have ht : ∀ w ∈ TB, w.before [.ref (ad 0), .int a0, .int a1].toArray s = true := fun w h => hts w (List.mem_cons_of_mem _ h)
  have hA : ∀ q, s.heap.size ≤ q → va_A (wM cI cC ad z0) s.heap.size q := fun q h => Or.inr h
  have hl : lv_has ls 3 [(0, .ref (ad 0)), (1, .int a0), (2, .int a1)] := hl
  unfold fM_equal at hf
  refine lv_aload_n hx hb dM_equal_0 rfl (lv_at hl 0 rfl) ?_
  refine lv_iload_n hx hb dM_equal_1 rfl (lv_at hl 1 rfl) ?_
  obtain ⟨r1, s1, hc1, hf⟩ := jB_some hf
  refine jcall_i (va_runV (C := RcM) (As := [.int a0]) (rest := []) ⟨hx, hb, hml, hown, hts⟩ ((cM_there l dC dI cI cC cL sk sv ad N a0 z0 s1 r1 hc1) _) ⟨(callB_of 1 hts (tb_good tw934) rfl rfl rfl (ht _ tw14) (ht _ tw931) (by decide +kernel) ⟨Nat.le_of_ble_eq_true rfl, Nat.le_of_ble_eq_true rfl⟩), ht _ tw933, ht _ (tb_sel pv_M_there)⟩ (jpreV (jEn_ok sk sv) hC hA hK hN (wM_e0 cI cC ad z0) rfl rfl _) rfl rfl hl.1 rfl (lv_room (Nat.le_of_ble_eq_true rfl)) dM_equal_2 ⟨Nat.le_refl _, Nat.le_refl _⟩) hC hA (fun H locs hC => ?_)
  refine lv_if_eq (tgt := 37) hx hb dM_equal_5 (by decide) (fun c2 => ?_) (fun c2 => ?_)
  · replace hf := jif_t c2 hf
    refine lv_iconst (v := 0) hx hb dM_equal_37 (by decide) ?_
    cases hf
    exact jret_z hx hb hr (by decide +kernel) hlk hC hK dM_equal_38
  · replace hf := jif_f c2 hf
    refine lv_aload_n hx hb dM_equal_8 rfl (lv_at hl 0 rfl) ?_
    refine lv_iload_n hx hb dM_equal_9 rfl (lv_at hl 2 rfl) ?_
    obtain ⟨r3, s3, hc3, hf⟩ := jB_some hf
    refine jcall_i (va_runV (C := RcM) (As := [.int a1]) (rest := []) ⟨hx, hb, hml, hown, hts⟩ ((cM_there l dC dI cI cC cL sk sv ad N a1 s1 s3 r3 hc3) _) ⟨(callB_of 1 hts (tb_good tw934) rfl rfl rfl (ht _ tw14) (ht _ tw931) (by decide +kernel) ⟨Nat.le_of_ble_eq_true rfl, Nat.le_of_ble_eq_true rfl⟩), ht _ tw933, ht _ (tb_sel pv_M_there)⟩ (jpreV (jEn_ok sk sv) hC hA hK hN (wM_e0 cI cC ad s1) rfl rfl _) rfl rfl hl.1 rfl (lv_room (Nat.le_of_ble_eq_true rfl)) dM_equal_10 ⟨Nat.le_refl _, Nat.le_refl _⟩) hC hA (fun H locs hC => ?_)
    refine lv_if_eq (tgt := 37) hx hb dM_equal_13 (by decide) (fun c4 => ?_) (fun c4 => ?_)
    · replace hf := jif_t c4 hf
      refine lv_iconst (v := 0) hx hb dM_equal_37 (by decide) ?_
      cases hf
      exact jret_z hx hb hr (by decide +kernel) hlk hC hK dM_equal_38
    · replace hf := jif_f c4 hf
      refine lv_aload_n hx hb dM_equal_16 rfl (lv_at hl 0 rfl) ?_
      refine lv_aload_n hx hb dM_equal_17 rfl (lv_at hl 0 rfl) ?_
      refine va_get (D := (dC, dI)) (ci := 6) (v := .int (jgI s3 0)) (C := RcM) (T := TcM) (N := 43) hx hb ht in_cM hown hK hC.1 0 (wM_e0 cI cC ad s3) rfl 0 (by decide) (ht _ tw760) (fun _ h9 => h9) rfl dM_equal_18 ?_
      refine lv_iload_n hx hb dM_equal_21 rfl (lv_at hl 1 rfl) ?_
      refine lv_aload_n hx hb dM_equal_22 rfl (lv_at hl 0 rfl) ?_
      refine va_get (D := (dC, dI)) (ci := 6) (v := .int (jgI s3 0)) (C := RcM) (T := TcM) (N := 43) hx hb ht in_cM hown hK hC.1 0 (wM_e0 cI cC ad s3) rfl 0 (by decide) (ht _ tw760) (fun _ h9 => h9) rfl dM_equal_23 ?_
      refine lv_iload_n hx hb dM_equal_26 rfl (lv_at hl 2 rfl) ?_
      obtain ⟨r5, s5, hc5, hf⟩ := jB_some hf
      refine jcall_i (va_runV (C := RcM) (As := [.int (jgI s3 0), .int a0, .int (jgI s3 0), .int a1]) (rest := []) ⟨hx, hb, hml, hown, hts⟩ ((cM_alike l dC dI cI cC cL sk sv ad N (jgI s3 0) a0 (jgI s3 0) a1 s3 s5 r5 hc5) _) ⟨(callB_of 4 hts (tb_good tw910) rfl rfl rfl (ht _ tw14) (ht _ tw907) (by decide +kernel) ⟨Nat.le_of_ble_eq_true rfl, Nat.le_of_ble_eq_true rfl⟩), ht _ tw909, ht _ (tb_sel pv_M_alike)⟩ (jpreV (jEn_ok sk sv) hC hA hK hN (wM_e0 cI cC ad s3) rfl rfl _) rfl rfl hl.1 rfl (lv_room (Nat.le_of_ble_eq_true rfl)) dM_equal_27 ⟨Nat.le_refl _, Nat.le_refl _⟩) hC hA (fun H locs hC => ?_)
      refine lv_if_eq (tgt := 37) hx hb dM_equal_30 (by decide) (fun c6 => ?_) (fun c6 => ?_)
      · replace hf := jif_t c6 hf
        refine lv_iconst (v := 0) hx hb dM_equal_37 (by decide) ?_
        cases hf
        exact jret_z hx hb hr (by decide +kernel) hlk hC hK dM_equal_38
      · replace hf := jif_f c6 hf
        refine lv_iconst (v := 1) hx hb dM_equal_33 (by decide) ?_
        refine lv_goto (tgt := 38) hx hb dM_equal_34 (by decide) ?_
        cases hf
        exact jret_z hx hb hr (by decide +kernel) hlk hC hK dM_equal_38

def fM_faultIn_80 (N : Nat) (k35 : Int32 → Int32 → Int32 → jS → Option (Int32 × jS)) (x1 x3 x4 x5 : Int32) (s0 : jS) : Option (Int32 × jS) := (if x5 ≤ 0 then k35 x1 x3 (x4 + (1 : Int32)) s0 else k35 x1 (x3 - (1 : Int32)) (x4 + (1 : Int32)) s0)
def fM_faultIn_b35 (N : Nat) (k35 : Int32 → Int32 → Int32 → jS → Option (Int32 × jS)) (x1 x3 x4 : Int32) (s0 : jS) : Option (Int32 × jS) := (if jIn x1 800 = true then (if jgA s0 6 (x1).toNatClampNeg ≤ x4 then some ((-1 : Int32), s0) else (if jIn (((61 : Int32) * jgI s0 0) + x4) 122 = true then (if jgA s0 2 ((((61 : Int32) * jgI s0 0) + x4)).toNatClampNeg ≤ 0 then fM_faultIn_80 N k35 x1 x3 x4 (jgA s0 2 ((((61 : Int32) * jgI s0 0) + x4)).toNatClampNeg) s0 else (if x3 = 0 then some ((((4 : Int32) * x4) + jgA s0 2 ((((61 : Int32) * jgI s0 0) + x4)).toNatClampNeg), s0) else fM_faultIn_80 N k35 x1 x3 x4 (jgA s0 2 ((((61 : Int32) * jgI s0 0) + x4)).toNatClampNeg) s0)) else none)) else none)
def fM_faultIn_35 (N : Nat) : Nat → Int32 → Int32 → Int32 → jS → Option (Int32 × jS)
  | 0 => fun _ _ _ _ => none
  | n + 1 => fun x1 x3 x4 s0 => fM_faultIn_b35 N (fM_faultIn_35 N n) x1 x3 x4 s0
def fM_faultIn (N : Nat) (a0 a1 : Int32) (z0 : jS) : Option (Int32 × jS) := (if jIn a0 800 = true then (if jgA z0 8 (a0).toNatClampNeg ≤ 0 then (if jIn a0 800 = true then fM_faultIn_35 N N a0 a1 (jgA z0 5 (a0).toNatClampNeg) z0 else none) else (if jIn a0 800 = true then (if jIn a0 800 = true then some ((((4 : Int32) * jgA z0 5 (a0).toNatClampNeg) + jgA z0 8 (a0).toNatClampNeg), z0) else none) else none)) else none)
set_option maxHeartbeats 4000000 in
set_option maxRecDepth 100000 in
theorem cM_faultIn (l : Launch) (dC : Nat → ClassId) (dI : Nat → Nat → Nat) (cI cC cL : ClassId) (sk sv : Nat → Nat) (ad : Nat → Nat) (N : Nat) (a0 a1 : Int32) (z0 z1 : jS) (r : Int32) (hf : fM_faultIn N a0 a1 z0 = some (r, z1)) : Ci l yM_faultIn (Cond.code yM_faultIn prog_8_method_45_code 6 (some .int) :: TB) ({ frames := 0, cells := 0, slots := 0, locals := 0 }) (dC, dI) vwCl [(cI, .int), (cC, .char), (cL, .object "SharedSyntax$Letters")] (jEn sk sv) [.ref (ad 0), .int a0, .int a1] (wM cI cC ad z0) (wM cI cC ad z1) r := by
  refine Ci_of (cc := prog_8_method_45_code) (maxL := 6) (ret := (some .int)) (by decide) rfl (Nat.le_of_ble_eq_true rfl) ?_
  intro p e s m below meth c ls F hl hK hN hC
  obtain ⟨hx, hb, hml, hown, hts, hr, hlk⟩ := F
  have ht : ∀ w ∈ TB, w.before [.ref (ad 0), .int a0, .int a1].toArray s = true := fun w h => hts w (List.mem_cons_of_mem _ h)
  have hA : ∀ q, s.heap.size ≤ q → va_A (wM cI cC ad z0) s.heap.size q := fun q h => Or.inr h
  have hl : lv_has ls 6 [(0, .ref (ad 0)), (1, .int a0), (2, .int a1)] := hl
  have L35 : ∀ (n : Nat) (x1 x3 x4 : Int32) (s0 : jS) (ls : Array Slot) (H : Heap) (locs : List Loc), lv_has ls 6 [(0, .ref (ad 0)), (1, .int x1), (3, .int x3), (4, .int x4)] → jcx (dC, dI) vwCl (va_A (wM cI cC ad z0) s.heap.size) s.heap (wM cI cC ad s0) H locs → fM_faultIn_35 N n x1 x3 x4 s0 = some (r, z1) → W p l e ({ frames := 0, cells := 0, slots := 0, locals := 0 }) s m [.ref (ad 0), .int a0, .int a1].toArray below meth c H locs 0 0 (MQ below (jQi (dC, dI) vwCl [(cI, .int), (cC, .char), (cL, .object "SharedSyntax$Letters")] (wM cI cC ad z0) (wM cI cC ad z1) s.heap.size r) [.ref (ad 0), .int a0, .int a1].toArray s 0 0 (va_A (wM cI cC ad z0) s.heap.size)) (F0 m 35 ls []) := by
    intro n
    induction n with
    | zero => exact fun _ _ _ _ _ _ _ _ _ hf => nomatch hf
    | succ n ih35 =>
      intro x1 x3 x4 s0 ls H locs hl hC hf
      replace hf : fM_faultIn_b35 N (fM_faultIn_35 N n) x1 x3 x4 s0 = some (r, z1) := hf
      generalize fM_faultIn_35 N n = k35 at ih35 hf
      have L80 : ∀ (x1 x3 x4 x5 : Int32) (s0 : jS) (ls : Array Slot) (H : Heap) (locs : List Loc), lv_has ls 6 [(0, .ref (ad 0)), (1, .int x1), (3, .int x3), (4, .int x4), (5, .int x5)] → jcx (dC, dI) vwCl (va_A (wM cI cC ad z0) s.heap.size) s.heap (wM cI cC ad s0) H locs → fM_faultIn_80 N k35 x1 x3 x4 x5 s0 = some (r, z1) → W p l e ({ frames := 0, cells := 0, slots := 0, locals := 0 }) s m [.ref (ad 0), .int a0, .int a1].toArray below meth c H locs 0 0 (MQ below (jQi (dC, dI) vwCl [(cI, .int), (cC, .char), (cL, .object "SharedSyntax$Letters")] (wM cI cC ad z0) (wM cI cC ad z1) s.heap.size r) [.ref (ad 0), .int a0, .int a1].toArray s 0 0 (va_A (wM cI cC ad z0) s.heap.size)) (F0 m 80 ls []) := by
        intro x1 x3 x4 x5 s0 ls H locs hl hC hf
        unfold fM_faultIn_80 at hf
        refine lv_iload hx hb dM_faultIn_80 (lv_at hl 4 rfl) ?_
        refine lv_if_le (tgt := 91) hx hb dM_faultIn_82 (by decide) (fun c8001 => ?_) (fun c8001 => ?_)
        · replace hf := jif_t c8001 hf
          refine lv_iload_n hx hb dM_faultIn_91 rfl (lv_at hl 2 rfl) ?_
          refine lv_istore_n (lv' := [(3, .int x3), (0, .ref (ad 0)), (1, .int x1), (4, .int x4), (5, .int x5)]) hx hb dM_faultIn_92 rfl hl (by decide) rfl (fun ls hl => ?_)
          refine lv_iinc (k := 3) (v := (x4 + (1 : Int32))) (lv' := [(4, .int (x4 + (1 : Int32))), (3, .int x3), (0, .ref (ad 0)), (1, .int x1), (5, .int x5)]) hx hb dM_faultIn_93 hl rfl rfl (by decide) rfl (fun ls hl => ?_)
          refine lv_goto (tgt := 35) hx hb dM_faultIn_96 (by decide) ?_
          exact ih35 x1 x3 (x4 + (1 : Int32)) s0 ls _ _ (lv_sub hl [2, 3, 1, 0] rfl) hC hf
        · replace hf := jif_f c8001 hf
          refine lv_iload_n hx hb dM_faultIn_85 rfl (lv_at hl 2 rfl) ?_
          refine lv_iconst (v := 1) hx hb dM_faultIn_86 (by decide) ?_
          refine lv_isub hx hb dM_faultIn_87 ?_
          refine lv_goto (tgt := 92) hx hb dM_faultIn_88 (by decide) ?_
          refine lv_istore_n (lv' := [(3, .int (x3 - (1 : Int32))), (0, .ref (ad 0)), (1, .int x1), (4, .int x4), (5, .int x5)]) hx hb dM_faultIn_92 rfl hl (by decide) rfl (fun ls hl => ?_)
          refine lv_iinc (k := 3) (v := (x4 + (1 : Int32))) (lv' := [(4, .int (x4 + (1 : Int32))), (3, .int (x3 - (1 : Int32))), (0, .ref (ad 0)), (1, .int x1), (5, .int x5)]) hx hb dM_faultIn_93 hl rfl rfl (by decide) rfl (fun ls hl => ?_)
          refine lv_goto (tgt := 35) hx hb dM_faultIn_96 (by decide) ?_
          exact ih35 x1 (x3 - (1 : Int32)) (x4 + (1 : Int32)) s0 ls _ _ (lv_sub hl [2, 3, 1, 0] rfl) hC hf
      unfold fM_faultIn_b35 at hf
      refine lv_iload hx hb dM_faultIn_35 (lv_at hl 3 rfl) ?_
      refine lv_aload_n hx hb dM_faultIn_37 rfl (lv_at hl 0 rfl) ?_
      refine va_get (D := (dC, dI)) (ci := 6) (v := .ref (ad 7)) (C := RcM) (T := TcM) (N := 43) hx hb ht in_cM hown hK hC.1 0 (wM_e0 cI cC ad s0) rfl 7 (by decide) (ht _ tw767) (fun _ h9 => h9) rfl dM_faultIn_38 ?_
      refine lv_iload_n hx hb dM_faultIn_41 rfl (lv_at hl 1 rfl) ?_
      obtain ⟨hi3501, hf⟩ := jC_in hf
      refine va_iald hx hb hK hC.1 7 0 (wM_e7 cI cC ad s0) rfl hi3501 dM_faultIn_42 ?_
      refine lv_icmp_ge (tgt := 99) hx hb dM_faultIn_43 (by decide) (fun c3502 => ?_) (fun c3502 => ?_)
      · replace hf := jif_t c3502 hf
        refine lv_iconst (v := -1) hx hb dM_faultIn_99 (by decide) ?_
        cases hf
        exact jret_i hx hb hr hlk hC hK dM_faultIn_100
      · replace hf := jif_f c3502 hf
        refine lv_aload_n hx hb dM_faultIn_46 rfl (lv_at hl 0 rfl) ?_
        refine va_get (D := (dC, dI)) (ci := 6) (v := .ref (ad 3)) (C := RcM) (T := TcM) (N := 43) hx hb ht in_cM hown hK hC.1 0 (wM_e0 cI cC ad s0) rfl 3 (by decide) (ht _ tw763) (fun _ h9 => h9) rfl dM_faultIn_47 ?_
        refine lv_bipush (v := 61) hx hb dM_faultIn_50 (by decide) ?_
        refine lv_aload_n hx hb dM_faultIn_52 rfl (lv_at hl 0 rfl) ?_
        refine va_get (D := (dC, dI)) (ci := 6) (v := .int (jgI s0 0)) (C := RcM) (T := TcM) (N := 43) hx hb ht in_cM hown hK hC.1 0 (wM_e0 cI cC ad s0) rfl 0 (by decide) (ht _ tw760) (fun _ h9 => h9) rfl dM_faultIn_53 ?_
        refine lv_imul hx hb dM_faultIn_56 ?_
        refine lv_iload hx hb dM_faultIn_57 (lv_at hl 3 rfl) ?_
        refine lv_iadd hx hb dM_faultIn_59 ?_
        obtain ⟨hi3503, hf⟩ := jC_in hf
        refine va_iald hx hb hK hC.1 3 0 (wM_e3 cI cC ad s0) rfl hi3503 dM_faultIn_60 ?_
        refine lv_istore (lv' := [(5, .int (jgA s0 2 ((((61 : Int32) * jgI s0 0) + x4)).toNatClampNeg)), (0, .ref (ad 0)), (1, .int x1), (3, .int x3), (4, .int x4)]) hx hb dM_faultIn_61 hl (by decide) rfl (fun ls hl => ?_)
        refine lv_iload hx hb dM_faultIn_63 (lv_at hl 0 rfl) ?_
        refine lv_if_le (tgt := 80) hx hb dM_faultIn_65 (by decide) (fun c3504 => ?_) (fun c3504 => ?_)
        · replace hf := jif_t c3504 hf
          exact L80 x1 x3 x4 (jgA s0 2 ((((61 : Int32) * jgI s0 0) + x4)).toNatClampNeg) s0 ls _ _ (lv_sub hl [1, 2, 3, 4, 0] rfl) hC hf
        · replace hf := jif_f c3504 hf
          refine lv_iload_n hx hb dM_faultIn_68 rfl (lv_at hl 3 rfl) ?_
          refine lv_if_ne (tgt := 80) hx hb dM_faultIn_69 (by decide) (fun c3505 => ?_) (fun c3505 => ?_)
          · replace hf := jif_f c3505 hf
            exact L80 x1 x3 x4 (jgA s0 2 ((((61 : Int32) * jgI s0 0) + x4)).toNatClampNeg) s0 ls _ _ (lv_sub hl [1, 2, 3, 4, 0] rfl) hC hf
          · replace hf := jif_t c3505 hf
            refine lv_iconst (v := 4) hx hb dM_faultIn_72 (by decide) ?_
            refine lv_iload hx hb dM_faultIn_73 (lv_at hl 4 rfl) ?_
            refine lv_imul hx hb dM_faultIn_75 ?_
            refine lv_iload hx hb dM_faultIn_76 (lv_at hl 0 rfl) ?_
            refine lv_iadd hx hb dM_faultIn_78 ?_
            cases hf
            exact jret_i hx hb hr hlk hC hK dM_faultIn_79
  unfold fM_faultIn at hf
  refine lv_aload_n hx hb dM_faultIn_0 rfl (lv_at hl 0 rfl) ?_
  refine va_get (D := (dC, dI)) (ci := 6) (v := .ref (ad 9)) (C := RcM) (T := TcM) (N := 43) hx hb ht in_cM hown hK hC.1 0 (wM_e0 cI cC ad z0) rfl 9 (by decide) (ht _ tw769) (fun _ h9 => h9) rfl dM_faultIn_1 ?_
  refine lv_iload_n hx hb dM_faultIn_4 rfl (lv_at hl 1 rfl) ?_
  obtain ⟨hi1, hf⟩ := jC_in hf
  refine va_iald hx hb hK hC.1 9 0 (wM_e9 cI cC ad z0) rfl hi1 dM_faultIn_5 ?_
  refine lv_if_le (tgt := 25) hx hb dM_faultIn_6 (by decide) (fun c2 => ?_) (fun c2 => ?_)
  · replace hf := jif_t c2 hf
    refine lv_iload_n hx hb dM_faultIn_25 rfl (lv_at hl 2 rfl) ?_
    refine lv_istore_n (lv' := [(3, .int a1), (0, .ref (ad 0)), (1, .int a0), (2, .int a1)]) hx hb dM_faultIn_26 rfl hl (by decide) rfl (fun ls hl => ?_)
    refine lv_aload_n hx hb dM_faultIn_27 rfl (lv_at hl 1 rfl) ?_
    refine va_get (D := (dC, dI)) (ci := 6) (v := .ref (ad 6)) (C := RcM) (T := TcM) (N := 43) hx hb ht in_cM hown hK hC.1 0 (wM_e0 cI cC ad z0) rfl 6 (by decide) (ht _ tw766) (fun _ h9 => h9) rfl dM_faultIn_28 ?_
    refine lv_iload_n hx hb dM_faultIn_31 rfl (lv_at hl 2 rfl) ?_
    obtain ⟨hi3, hf⟩ := jC_in hf
    refine va_iald hx hb hK hC.1 6 0 (wM_e6 cI cC ad z0) rfl hi3 dM_faultIn_32 ?_
    refine lv_istore (lv' := [(4, .int (jgA z0 5 (a0).toNatClampNeg)), (3, .int a1), (0, .ref (ad 0)), (1, .int a0), (2, .int a1)]) hx hb dM_faultIn_33 hl (by decide) rfl (fun ls hl => ?_)
    exact L35 N a0 a1 (jgA z0 5 (a0).toNatClampNeg) z0 ls _ _ (lv_sub hl [2, 3, 1, 0] rfl) hC hf
  · replace hf := jif_f c2 hf
    refine lv_iconst (v := 4) hx hb dM_faultIn_9 (by decide) ?_
    refine lv_aload_n hx hb dM_faultIn_10 rfl (lv_at hl 0 rfl) ?_
    refine va_get (D := (dC, dI)) (ci := 6) (v := .ref (ad 6)) (C := RcM) (T := TcM) (N := 43) hx hb ht in_cM hown hK hC.1 0 (wM_e0 cI cC ad z0) rfl 6 (by decide) (ht _ tw766) (fun _ h9 => h9) rfl dM_faultIn_11 ?_
    refine lv_iload_n hx hb dM_faultIn_14 rfl (lv_at hl 1 rfl) ?_
    obtain ⟨hi4, hf⟩ := jC_in hf
    refine va_iald hx hb hK hC.1 6 0 (wM_e6 cI cC ad z0) rfl hi4 dM_faultIn_15 ?_
    refine lv_imul hx hb dM_faultIn_16 ?_
    refine lv_aload_n hx hb dM_faultIn_17 rfl (lv_at hl 0 rfl) ?_
    refine va_get (D := (dC, dI)) (ci := 6) (v := .ref (ad 9)) (C := RcM) (T := TcM) (N := 43) hx hb ht in_cM hown hK hC.1 0 (wM_e0 cI cC ad z0) rfl 9 (by decide) (ht _ tw769) (fun _ h9 => h9) rfl dM_faultIn_18 ?_
    refine lv_iload_n hx hb dM_faultIn_21 rfl (lv_at hl 1 rfl) ?_
    obtain ⟨hi5, hf⟩ := jC_in hf
    refine va_iald hx hb hK hC.1 9 0 (wM_e9 cI cC ad z0) rfl hi5 dM_faultIn_22 ?_
    refine lv_iadd hx hb dM_faultIn_23 ?_
    cases hf
    exact jret_i hx hb hr hlk hC hK dM_faultIn_24

def fM_fault_b4 (N : Nat) (k4 : Int32 → Int32 → Int32 → jS → Option (Int32 × jS)) (x1 x2 x3 : Int32) (s0 : jS) : Option (Int32 × jS) := (if jIn (jgI s0 0) 2 = true then (if jgA s0 3 (jgI s0 0).toNatClampNeg ≤ x3 then some ((-1 : Int32), s0) else (if x1 < 0 then some ((-1 : Int32), s0) else (jB (fM_faultsOf N (((400 : Int32) * jgI s0 0) + x3) s0) fun r404 s404 => (if r404 ≤ x2 then k4 x1 (x2 - r404) (x3 + (1 : Int32)) s404 else (jB (fM_faultIn N (((400 : Int32) * jgI s0 0) + x3) x2 s404) fun r406 s406 => some (r406, s406)))))) else none)
def fM_fault_4 (N : Nat) : Nat → Int32 → Int32 → Int32 → jS → Option (Int32 × jS)
  | 0 => fun _ _ _ _ => none
  | n + 1 => fun x1 x2 x3 s0 => fM_fault_b4 N (fM_fault_4 N n) x1 x2 x3 s0
def fM_fault (N : Nat) (a0 : Int32) (z0 : jS) : Option (Int32 × jS) := fM_fault_4 N N a0 a0 (0 : Int32) z0
set_option maxHeartbeats 4000000 in
set_option maxRecDepth 100000 in
theorem cM_fault (l : Launch) (dC : Nat → ClassId) (dI : Nat → Nat → Nat) (cI cC cL : ClassId) (sk sv : Nat → Nat) (ad : Nat → Nat) (N : Nat) (a0 : Int32) (z0 z1 : jS) (r : Int32) (hf : fM_fault N a0 z0 = some (r, z1)) : Ci l yM_fault (Cond.code yM_fault prog_8_method_44_code 6 (some .int) :: TB) ({ frames := 1, cells := 0, slots := 0, locals := 25 }) (dC, dI) vwCl [(cI, .int), (cC, .char), (cL, .object "SharedSyntax$Letters")] (jEn sk sv) [.ref (ad 0), .int a0] (wM cI cC ad z0) (wM cI cC ad z1) r := by
  refine Ci_of (cc := prog_8_method_44_code) (maxL := 6) (ret := (some .int)) (by decide) rfl (Nat.le_of_ble_eq_true rfl) ?_
  intro p e s m below meth c ls F hl hK hN hC
  obtain ⟨hx, hb, hml, hown, hts, hr, hlk⟩ := F
  have ht : ∀ w ∈ TB, w.before [.ref (ad 0), .int a0].toArray s = true := fun w h => hts w (List.mem_cons_of_mem _ h)
  have hA : ∀ q, s.heap.size ≤ q → va_A (wM cI cC ad z0) s.heap.size q := fun q h => Or.inr h
  have hl : lv_has ls 6 [(0, .ref (ad 0)), (1, .int a0)] := hl
  have L4 : ∀ (n : Nat) (x1 x2 x3 : Int32) (s0 : jS) (ls : Array Slot) (H : Heap) (locs : List Loc), lv_has ls 6 [(0, .ref (ad 0)), (1, .int x1), (2, .int x2), (3, .int x3)] → jcx (dC, dI) vwCl (va_A (wM cI cC ad z0) s.heap.size) s.heap (wM cI cC ad s0) H locs → fM_fault_4 N n x1 x2 x3 s0 = some (r, z1) → W p l e ({ frames := 1, cells := 0, slots := 0, locals := 25 }) s m [.ref (ad 0), .int a0].toArray below meth c H locs 0 0 (MQ below (jQi (dC, dI) vwCl [(cI, .int), (cC, .char), (cL, .object "SharedSyntax$Letters")] (wM cI cC ad z0) (wM cI cC ad z1) s.heap.size r) [.ref (ad 0), .int a0].toArray s 0 0 (va_A (wM cI cC ad z0) s.heap.size)) (F0 m 4 ls []) := by
    intro n
    induction n with
    | zero => exact fun _ _ _ _ _ _ _ _ _ hf => nomatch hf
    | succ n ih4 =>
      intro x1 x2 x3 s0 ls H locs hl hC hf
      replace hf : fM_fault_b4 N (fM_fault_4 N n) x1 x2 x3 s0 = some (r, z1) := hf
      generalize fM_fault_4 N n = k4 at ih4 hf
      unfold fM_fault_b4 at hf
      refine lv_iload_n hx hb dM_fault_4 rfl (lv_at hl 3 rfl) ?_
      refine lv_aload_n hx hb dM_fault_5 rfl (lv_at hl 0 rfl) ?_
      refine va_get (D := (dC, dI)) (ci := 6) (v := .ref (ad 4)) (C := RcM) (T := TcM) (N := 43) hx hb ht in_cM hown hK hC.1 0 (wM_e0 cI cC ad s0) rfl 4 (by decide) (ht _ tw764) (fun _ h9 => h9) rfl dM_fault_6 ?_
      refine lv_aload_n hx hb dM_fault_9 rfl (lv_at hl 0 rfl) ?_
      refine va_get (D := (dC, dI)) (ci := 6) (v := .int (jgI s0 0)) (C := RcM) (T := TcM) (N := 43) hx hb ht in_cM hown hK hC.1 0 (wM_e0 cI cC ad s0) rfl 0 (by decide) (ht _ tw760) (fun _ h9 => h9) rfl dM_fault_10 ?_
      obtain ⟨hi401, hf⟩ := jC_in hf
      refine va_iald hx hb hK hC.1 4 0 (wM_e4 cI cC ad s0) rfl hi401 dM_fault_13 ?_
      refine lv_icmp_ge (tgt := 66) hx hb dM_fault_14 (by decide) (fun c402 => ?_) (fun c402 => ?_)
      · replace hf := jif_t c402 hf
        refine lv_iconst (v := -1) hx hb dM_fault_66 (by decide) ?_
        cases hf
        exact jret_i hx hb hr hlk hC hK dM_fault_67
      · replace hf := jif_f c402 hf
        refine lv_iload_n hx hb dM_fault_17 rfl (lv_at hl 1 rfl) ?_
        refine lv_if_lt (tgt := 66) hx hb dM_fault_18 (by decide) (fun c403 => ?_) (fun c403 => ?_)
        · replace hf := jif_t c403 hf
          refine lv_iconst (v := -1) hx hb dM_fault_66 (by decide) ?_
          cases hf
          exact jret_i hx hb hr hlk hC hK dM_fault_67
        · replace hf := jif_f c403 hf
          refine lv_sipush (v := 400) hx hb dM_fault_21 (by decide) ?_
          refine lv_aload_n hx hb dM_fault_24 rfl (lv_at hl 0 rfl) ?_
          refine va_get (D := (dC, dI)) (ci := 6) (v := .int (jgI s0 0)) (C := RcM) (T := TcM) (N := 43) hx hb ht in_cM hown hK hC.1 0 (wM_e0 cI cC ad s0) rfl 0 (by decide) (ht _ tw760) (fun _ h9 => h9) rfl dM_fault_25 ?_
          refine lv_imul hx hb dM_fault_28 ?_
          refine lv_iload_n hx hb dM_fault_29 rfl (lv_at hl 3 rfl) ?_
          refine lv_iadd hx hb dM_fault_30 ?_
          refine lv_istore (lv' := [(4, .int (((400 : Int32) * jgI s0 0) + x3)), (0, .ref (ad 0)), (1, .int x1), (2, .int x2), (3, .int x3)]) hx hb dM_fault_31 hl (by decide) rfl (fun ls hl => ?_)
          refine lv_aload_n hx hb dM_fault_33 rfl (lv_at hl 1 rfl) ?_
          refine lv_iload hx hb dM_fault_34 (lv_at hl 0 rfl) ?_
          obtain ⟨r404, s404, hc404, hf⟩ := jB_some hf
          refine jcall_i (va_runV (C := RcM) (As := [.int (((400 : Int32) * jgI s0 0) + x3)]) (rest := []) ⟨hx, hb, hml, hown, hts⟩ ((cM_faultsOf l dC dI cI cC cL sk sv ad N (((400 : Int32) * jgI s0 0) + x3) s0 s404 r404 hc404) _) ⟨(callB_of 1 hts (tb_good tw938) rfl rfl rfl (ht _ tw14) (ht _ tw935) (by decide +kernel) ⟨Nat.le_of_ble_eq_true rfl, Nat.le_of_ble_eq_true rfl⟩), ht _ tw937, ht _ (tb_sel pv_M_faultsOf)⟩ (jpreV (jEn_ok sk sv) hC hA hK hN (wM_e0 cI cC ad s0) rfl rfl _) rfl rfl hl.1 rfl (lv_room (Nat.le_of_ble_eq_true rfl)) dM_fault_36 ⟨Nat.le_refl _, Nat.le_refl _⟩) hC hA (fun H locs hC => ?_)
          refine lv_istore (lv' := [(5, .int r404), (4, .int (((400 : Int32) * jgI s0 0) + x3)), (0, .ref (ad 0)), (1, .int x1), (2, .int x2), (3, .int x3)]) hx hb dM_fault_39 hl (by decide) rfl (fun ls hl => ?_)
          refine lv_iload_n hx hb dM_fault_41 rfl (lv_at hl 4 rfl) ?_
          refine lv_iload hx hb dM_fault_42 (lv_at hl 0 rfl) ?_
          refine lv_icmp_ge (tgt := 55) hx hb dM_fault_44 (by decide) (fun c405 => ?_) (fun c405 => ?_)
          · replace hf := jif_t c405 hf
            refine lv_iload_n hx hb dM_fault_55 rfl (lv_at hl 4 rfl) ?_
            refine lv_iload hx hb dM_fault_56 (lv_at hl 0 rfl) ?_
            refine lv_isub hx hb dM_fault_58 ?_
            refine lv_istore_n (lv' := [(2, .int (x2 - r404)), (5, .int r404), (4, .int (((400 : Int32) * jgI s0 0) + x3)), (0, .ref (ad 0)), (1, .int x1), (3, .int x3)]) hx hb dM_fault_59 rfl hl (by decide) rfl (fun ls hl => ?_)
            refine lv_iinc (k := 5) (v := (x3 + (1 : Int32))) (lv' := [(3, .int (x3 + (1 : Int32))), (2, .int (x2 - r404)), (5, .int r404), (4, .int (((400 : Int32) * jgI s0 0) + x3)), (0, .ref (ad 0)), (1, .int x1)]) hx hb dM_fault_60 hl rfl rfl (by decide) rfl (fun ls hl => ?_)
            refine lv_goto (tgt := 4) hx hb dM_fault_63 (by decide) ?_
            exact ih4 x1 (x2 - r404) (x3 + (1 : Int32)) s404 ls _ _ (lv_sub hl [4, 5, 1, 0] rfl) hC hf
          · replace hf := jif_f c405 hf
            refine lv_aload_n hx hb dM_fault_47 rfl (lv_at hl 2 rfl) ?_
            refine lv_iload hx hb dM_fault_48 (lv_at hl 1 rfl) ?_
            refine lv_iload_n hx hb dM_fault_50 rfl (lv_at hl 4 rfl) ?_
            obtain ⟨r406, s406, hc406, hf⟩ := jB_some hf
            refine jcall_i (va_runV (C := RcM) (As := [.int (((400 : Int32) * jgI s0 0) + x3), .int x2]) (rest := []) ⟨hx, hb, hml, hown, hts⟩ ((cM_faultIn l dC dI cI cC cL sk sv ad N (((400 : Int32) * jgI s0 0) + x3) x2 s404 s406 r406 hc406) _) ⟨(callB_of 2 hts (tb_good tw958) rfl rfl rfl (ht _ tw14) (ht _ tw955) (by decide +kernel) ⟨Nat.le_of_ble_eq_true rfl, Nat.le_of_ble_eq_true rfl⟩), ht _ tw957, ht _ (tb_sel pv_M_faultIn)⟩ (jpreV (jEn_ok sk sv) hC hA hK hN (wM_e0 cI cC ad s404) rfl rfl _) rfl rfl hl.1 rfl (lv_room (Nat.le_of_ble_eq_true rfl)) dM_fault_51 ⟨Nat.le_refl _, Nat.le_refl _⟩) hC hA (fun H locs hC => ?_)
            cases hf
            exact jret_i hx hb hr hlk hC hK dM_fault_54
  unfold fM_fault at hf
  refine lv_iload_n hx hb dM_fault_0 rfl (lv_at hl 1 rfl) ?_
  refine lv_istore_n (lv' := [(2, .int a0), (0, .ref (ad 0)), (1, .int a0)]) hx hb dM_fault_1 rfl hl (by decide) rfl (fun ls hl => ?_)
  refine lv_iconst (v := 0) hx hb dM_fault_2 (by decide) ?_
  refine lv_istore_n (lv' := [(3, .int (0 : Int32)), (2, .int a0), (0, .ref (ad 0)), (1, .int a0)]) hx hb dM_fault_3 rfl hl (by decide) rfl (fun ls hl => ?_)
  exact L4 N a0 a0 (0 : Int32) z0 ls _ _ (lv_sub hl [2, 3, 1, 0] rfl) hC hf

def fM_different_62 (N : Nat) (k4 : Int32 → Int32 → jS → Option (Int32 × jS)) (x1 x2 x3 : Int32) (s0 : jS) : Option (Int32 × jS) := (if x3 = 0 then k4 x1 (x2 + (1 : Int32)) s0 else k4 (x1 + (1 : Int32)) (x2 + (1 : Int32)) s0)
def fM_different_b22 (N : Nat) (k4 : Int32 → Int32 → jS → Option (Int32 × jS)) (k22 : Int32 → Int32 → Int32 → Int32 → jS → Option (Int32 × jS)) (x1 x2 x3 x4 : Int32) (s0 : jS) : Option (Int32 × jS) := (if x2 ≤ x4 then fM_different_62 N k4 x1 x2 x3 s0 else (if x3 = 0 then fM_different_62 N k4 x1 x2 x3 s0 else (jB (fM_alike N (jgI s0 0) x2 (jgI s0 0) x4 s0) fun r2203 s2203 => (if r2203 = 0 then k22 x1 x2 (1 : Int32) (x4 + (1 : Int32)) s2203 else k22 x1 x2 (0 : Int32) (x4 + (1 : Int32)) s2203))))
def fM_different_22 (N : Nat) (k4 : Int32 → Int32 → jS → Option (Int32 × jS)) : Nat → Int32 → Int32 → Int32 → Int32 → jS → Option (Int32 × jS)
  | 0 => fun _ _ _ _ _ => none
  | n + 1 => fun x1 x2 x3 x4 s0 => fM_different_b22 N k4 (fM_different_22 N k4 n) x1 x2 x3 x4 s0
def fM_different_b4 (N : Nat) (k4 : Int32 → Int32 → jS → Option (Int32 × jS)) (x1 x2 : Int32) (s0 : jS) : Option (Int32 × jS) := (if jIn (jgI s0 0) 2 = true then (if jgA s0 3 (jgI s0 0).toNatClampNeg ≤ x2 then some (x1, s0) else fM_different_22 N k4 N x1 x2 (1 : Int32) (0 : Int32) s0) else none)
def fM_different_4 (N : Nat) : Nat → Int32 → Int32 → jS → Option (Int32 × jS)
  | 0 => fun _ _ _ => none
  | n + 1 => fun x1 x2 s0 => fM_different_b4 N (fM_different_4 N n) x1 x2 s0
def fM_different (N : Nat) (z0 : jS) : Option (Int32 × jS) := fM_different_4 N N (0 : Int32) (0 : Int32) z0
set_option maxHeartbeats 4000000 in
set_option maxRecDepth 100000 in
theorem cM_different (l : Launch) (dC : Nat → ClassId) (dI : Nat → Nat → Nat) (cI cC cL : ClassId) (sk sv : Nat → Nat) (ad : Nat → Nat) (N : Nat) (z0 z1 : jS) (r : Int32) (hf : fM_different N z0 = some (r, z1)) : Ci l yM_different (Cond.code yM_different prog_8_method_46_code 5 (some .int) :: TB) ({ frames := 2, cells := 0, slots := 0, locals := 53 }) (dC, dI) vwCl [(cI, .int), (cC, .char), (cL, .object "SharedSyntax$Letters")] (jEn sk sv) [.ref (ad 0)] (wM cI cC ad z0) (wM cI cC ad z1) r := by
  refine Ci_of (cc := prog_8_method_46_code) (maxL := 5) (ret := (some .int)) (by decide) rfl (Nat.le_of_ble_eq_true rfl) ?_
  intro p e s m below meth c ls F hl hK hN hC
  obtain ⟨hx, hb, hml, hown, hts, hr, hlk⟩ := F
  have ht : ∀ w ∈ TB, w.before [.ref (ad 0)].toArray s = true := fun w h => hts w (List.mem_cons_of_mem _ h)
  have hA : ∀ q, s.heap.size ≤ q → va_A (wM cI cC ad z0) s.heap.size q := fun q h => Or.inr h
  have hl : lv_has ls 5 [(0, .ref (ad 0))] := hl
  have L4 : ∀ (n : Nat) (x1 x2 : Int32) (s0 : jS) (ls : Array Slot) (H : Heap) (locs : List Loc), lv_has ls 5 [(0, .ref (ad 0)), (1, .int x1), (2, .int x2)] → jcx (dC, dI) vwCl (va_A (wM cI cC ad z0) s.heap.size) s.heap (wM cI cC ad s0) H locs → fM_different_4 N n x1 x2 s0 = some (r, z1) → W p l e ({ frames := 2, cells := 0, slots := 0, locals := 53 }) s m [.ref (ad 0)].toArray below meth c H locs 0 0 (MQ below (jQi (dC, dI) vwCl [(cI, .int), (cC, .char), (cL, .object "SharedSyntax$Letters")] (wM cI cC ad z0) (wM cI cC ad z1) s.heap.size r) [.ref (ad 0)].toArray s 0 0 (va_A (wM cI cC ad z0) s.heap.size)) (F0 m 4 ls []) := by
    intro n
    induction n with
    | zero => exact fun _ _ _ _ _ _ _ _ hf => nomatch hf
    | succ n ih4 =>
      intro x1 x2 s0 ls H locs hl hC hf
      replace hf : fM_different_b4 N (fM_different_4 N n) x1 x2 s0 = some (r, z1) := hf
      generalize fM_different_4 N n = k4 at ih4 hf
      have L62 : ∀ (x1 x2 x3 : Int32) (s0 : jS) (ls : Array Slot) (H : Heap) (locs : List Loc), lv_has ls 5 [(0, .ref (ad 0)), (1, .int x1), (2, .int x2), (3, .int x3)] → jcx (dC, dI) vwCl (va_A (wM cI cC ad z0) s.heap.size) s.heap (wM cI cC ad s0) H locs → fM_different_62 N k4 x1 x2 x3 s0 = some (r, z1) → W p l e ({ frames := 2, cells := 0, slots := 0, locals := 53 }) s m [.ref (ad 0)].toArray below meth c H locs 0 0 (MQ below (jQi (dC, dI) vwCl [(cI, .int), (cC, .char), (cL, .object "SharedSyntax$Letters")] (wM cI cC ad z0) (wM cI cC ad z1) s.heap.size r) [.ref (ad 0)].toArray s 0 0 (va_A (wM cI cC ad z0) s.heap.size)) (F0 m 62 ls []) := by
        intro x1 x2 x3 s0 ls H locs hl hC hf
        unfold fM_different_62 at hf
        refine lv_iload_n hx hb dM_different_62 rfl (lv_at hl 3 rfl) ?_
        refine lv_if_eq (tgt := 72) hx hb dM_different_63 (by decide) (fun c6201 => ?_) (fun c6201 => ?_)
        · replace hf := jif_t c6201 hf
          refine lv_iload_n hx hb dM_different_72 rfl (lv_at hl 1 rfl) ?_
          refine lv_istore_n (lv' := [(1, .int x1), (0, .ref (ad 0)), (2, .int x2), (3, .int x3)]) hx hb dM_different_73 rfl hl (by decide) rfl (fun ls hl => ?_)
          refine lv_iinc (k := 2) (v := (x2 + (1 : Int32))) (lv' := [(2, .int (x2 + (1 : Int32))), (1, .int x1), (0, .ref (ad 0)), (3, .int x3)]) hx hb dM_different_74 hl rfl rfl (by decide) rfl (fun ls hl => ?_)
          refine lv_goto (tgt := 4) hx hb dM_different_77 (by decide) ?_
          exact ih4 x1 (x2 + (1 : Int32)) s0 ls _ _ (lv_sub hl [2, 1, 0] rfl) hC hf
        · replace hf := jif_f c6201 hf
          refine lv_iload_n hx hb dM_different_66 rfl (lv_at hl 1 rfl) ?_
          refine lv_iconst (v := 1) hx hb dM_different_67 (by decide) ?_
          refine lv_iadd hx hb dM_different_68 ?_
          refine lv_goto (tgt := 73) hx hb dM_different_69 (by decide) ?_
          refine lv_istore_n (lv' := [(1, .int (x1 + (1 : Int32))), (0, .ref (ad 0)), (2, .int x2), (3, .int x3)]) hx hb dM_different_73 rfl hl (by decide) rfl (fun ls hl => ?_)
          refine lv_iinc (k := 2) (v := (x2 + (1 : Int32))) (lv' := [(2, .int (x2 + (1 : Int32))), (1, .int (x1 + (1 : Int32))), (0, .ref (ad 0)), (3, .int x3)]) hx hb dM_different_74 hl rfl rfl (by decide) rfl (fun ls hl => ?_)
          refine lv_goto (tgt := 4) hx hb dM_different_77 (by decide) ?_
          exact ih4 (x1 + (1 : Int32)) (x2 + (1 : Int32)) s0 ls _ _ (lv_sub hl [2, 1, 0] rfl) hC hf
      have L22 : ∀ (n : Nat) (x1 x2 x3 x4 : Int32) (s0 : jS) (ls : Array Slot) (H : Heap) (locs : List Loc), lv_has ls 5 [(0, .ref (ad 0)), (1, .int x1), (2, .int x2), (3, .int x3), (4, .int x4)] → jcx (dC, dI) vwCl (va_A (wM cI cC ad z0) s.heap.size) s.heap (wM cI cC ad s0) H locs → fM_different_22 N k4 n x1 x2 x3 x4 s0 = some (r, z1) → W p l e ({ frames := 2, cells := 0, slots := 0, locals := 53 }) s m [.ref (ad 0)].toArray below meth c H locs 0 0 (MQ below (jQi (dC, dI) vwCl [(cI, .int), (cC, .char), (cL, .object "SharedSyntax$Letters")] (wM cI cC ad z0) (wM cI cC ad z1) s.heap.size r) [.ref (ad 0)].toArray s 0 0 (va_A (wM cI cC ad z0) s.heap.size)) (F0 m 22 ls []) := by
        intro n
        induction n with
        | zero => exact fun _ _ _ _ _ _ _ _ _ _ hf => nomatch hf
        | succ n ih22 =>
          intro x1 x2 x3 x4 s0 ls H locs hl hC hf
          replace hf : fM_different_b22 N k4 (fM_different_22 N k4 n) x1 x2 x3 x4 s0 = some (r, z1) := hf
          generalize fM_different_22 N k4 n = k22 at ih22 hf
          unfold fM_different_b22 at hf
          refine lv_iload hx hb dM_different_22 (lv_at hl 4 rfl) ?_
          refine lv_iload_n hx hb dM_different_24 rfl (lv_at hl 2 rfl) ?_
          refine lv_icmp_ge (tgt := 62) hx hb dM_different_25 (by decide) (fun c2201 => ?_) (fun c2201 => ?_)
          · replace hf := jif_t c2201 hf
            exact L62 x1 x2 x3 s0 ls _ _ (lv_sub hl [0, 1, 2, 3] rfl) hC hf
          · replace hf := jif_f c2201 hf
            refine lv_iload_n hx hb dM_different_28 rfl (lv_at hl 3 rfl) ?_
            refine lv_if_eq (tgt := 62) hx hb dM_different_29 (by decide) (fun c2202 => ?_) (fun c2202 => ?_)
            · replace hf := jif_t c2202 hf
              exact L62 x1 x2 x3 s0 ls _ _ (lv_sub hl [0, 1, 2, 3] rfl) hC hf
            · replace hf := jif_f c2202 hf
              refine lv_aload_n hx hb dM_different_32 rfl (lv_at hl 0 rfl) ?_
              refine lv_aload_n hx hb dM_different_33 rfl (lv_at hl 0 rfl) ?_
              refine va_get (D := (dC, dI)) (ci := 6) (v := .int (jgI s0 0)) (C := RcM) (T := TcM) (N := 43) hx hb ht in_cM hown hK hC.1 0 (wM_e0 cI cC ad s0) rfl 0 (by decide) (ht _ tw760) (fun _ h9 => h9) rfl dM_different_34 ?_
              refine lv_iload_n hx hb dM_different_37 rfl (lv_at hl 2 rfl) ?_
              refine lv_aload_n hx hb dM_different_38 rfl (lv_at hl 0 rfl) ?_
              refine va_get (D := (dC, dI)) (ci := 6) (v := .int (jgI s0 0)) (C := RcM) (T := TcM) (N := 43) hx hb ht in_cM hown hK hC.1 0 (wM_e0 cI cC ad s0) rfl 0 (by decide) (ht _ tw760) (fun _ h9 => h9) rfl dM_different_39 ?_
              refine lv_iload hx hb dM_different_42 (lv_at hl 4 rfl) ?_
              obtain ⟨r2203, s2203, hc2203, hf⟩ := jB_some hf
              refine jcall_i (va_runV (C := RcM) (As := [.int (jgI s0 0), .int x2, .int (jgI s0 0), .int x4]) (rest := []) ⟨hx, hb, hml, hown, hts⟩ ((cM_alike l dC dI cI cC cL sk sv ad N (jgI s0 0) x2 (jgI s0 0) x4 s0 s2203 r2203 hc2203) _) ⟨(callB_of 4 hts (tb_good tw910) rfl rfl rfl (ht _ tw14) (ht _ tw907) (by decide +kernel) ⟨Nat.le_of_ble_eq_true rfl, Nat.le_of_ble_eq_true rfl⟩), ht _ tw909, ht _ (tb_sel pv_M_alike)⟩ (jpreV (jEn_ok sk sv) hC hA hK hN (wM_e0 cI cC ad s0) rfl rfl _) rfl rfl hl.1 rfl (lv_room (Nat.le_of_ble_eq_true rfl)) dM_different_44 ⟨Nat.le_refl _, Nat.le_refl _⟩) hC hA (fun H locs hC => ?_)
              refine lv_if_ne (tgt := 54) hx hb dM_different_47 (by decide) (fun c2204 => ?_) (fun c2204 => ?_)
              · replace hf := jif_f c2204 hf
                refine lv_iconst (v := 0) hx hb dM_different_54 (by decide) ?_
                refine lv_istore_n (lv' := [(3, .int (0 : Int32)), (0, .ref (ad 0)), (1, .int x1), (2, .int x2), (4, .int x4)]) hx hb dM_different_55 rfl hl (by decide) rfl (fun ls hl => ?_)
                refine lv_iinc (k := 4) (v := (x4 + (1 : Int32))) (lv' := [(4, .int (x4 + (1 : Int32))), (3, .int (0 : Int32)), (0, .ref (ad 0)), (1, .int x1), (2, .int x2)]) hx hb dM_different_56 hl rfl rfl (by decide) rfl (fun ls hl => ?_)
                refine lv_goto (tgt := 22) hx hb dM_different_59 (by decide) ?_
                exact ih22 x1 x2 (0 : Int32) (x4 + (1 : Int32)) s2203 ls _ _ (lv_sub hl [2, 3, 4, 1, 0] rfl) hC hf
              · replace hf := jif_t c2204 hf
                refine lv_iconst (v := 1) hx hb dM_different_50 (by decide) ?_
                refine lv_goto (tgt := 55) hx hb dM_different_51 (by decide) ?_
                refine lv_istore_n (lv' := [(3, .int (1 : Int32)), (0, .ref (ad 0)), (1, .int x1), (2, .int x2), (4, .int x4)]) hx hb dM_different_55 rfl hl (by decide) rfl (fun ls hl => ?_)
                refine lv_iinc (k := 4) (v := (x4 + (1 : Int32))) (lv' := [(4, .int (x4 + (1 : Int32))), (3, .int (1 : Int32)), (0, .ref (ad 0)), (1, .int x1), (2, .int x2)]) hx hb dM_different_56 hl rfl rfl (by decide) rfl (fun ls hl => ?_)
                refine lv_goto (tgt := 22) hx hb dM_different_59 (by decide) ?_
                exact ih22 x1 x2 (1 : Int32) (x4 + (1 : Int32)) s2203 ls _ _ (lv_sub hl [2, 3, 4, 1, 0] rfl) hC hf
      unfold fM_different_b4 at hf
      refine lv_iload_n hx hb dM_different_4 rfl (lv_at hl 2 rfl) ?_
      refine lv_aload_n hx hb dM_different_5 rfl (lv_at hl 0 rfl) ?_
      refine va_get (D := (dC, dI)) (ci := 6) (v := .ref (ad 4)) (C := RcM) (T := TcM) (N := 43) hx hb ht in_cM hown hK hC.1 0 (wM_e0 cI cC ad s0) rfl 4 (by decide) (ht _ tw764) (fun _ h9 => h9) rfl dM_different_6 ?_
      refine lv_aload_n hx hb dM_different_9 rfl (lv_at hl 0 rfl) ?_
      refine va_get (D := (dC, dI)) (ci := 6) (v := .int (jgI s0 0)) (C := RcM) (T := TcM) (N := 43) hx hb ht in_cM hown hK hC.1 0 (wM_e0 cI cC ad s0) rfl 0 (by decide) (ht _ tw760) (fun _ h9 => h9) rfl dM_different_10 ?_
      obtain ⟨hi401, hf⟩ := jC_in hf
      refine va_iald hx hb hK hC.1 4 0 (wM_e4 cI cC ad s0) rfl hi401 dM_different_13 ?_
      refine lv_icmp_ge (tgt := 80) hx hb dM_different_14 (by decide) (fun c402 => ?_) (fun c402 => ?_)
      · replace hf := jif_t c402 hf
        refine lv_iload_n hx hb dM_different_80 rfl (lv_at hl 1 rfl) ?_
        cases hf
        exact jret_i hx hb hr hlk hC hK dM_different_81
      · replace hf := jif_f c402 hf
        refine lv_iconst (v := 1) hx hb dM_different_17 (by decide) ?_
        refine lv_istore_n (lv' := [(3, .int (1 : Int32)), (0, .ref (ad 0)), (1, .int x1), (2, .int x2)]) hx hb dM_different_18 rfl hl (by decide) rfl (fun ls hl => ?_)
        refine lv_iconst (v := 0) hx hb dM_different_19 (by decide) ?_
        refine lv_istore (lv' := [(4, .int (0 : Int32)), (3, .int (1 : Int32)), (0, .ref (ad 0)), (1, .int x1), (2, .int x2)]) hx hb dM_different_20 hl (by decide) rfl (fun ls hl => ?_)
        exact L22 N x1 x2 (1 : Int32) (0 : Int32) s0 ls _ _ (lv_sub hl [2, 3, 4, 1, 0] rfl) hC hf
  unfold fM_different at hf
  refine lv_iconst (v := 0) hx hb dM_different_0 (by decide) ?_
  refine lv_istore_n (lv' := [(1, .int (0 : Int32)), (0, .ref (ad 0))]) hx hb dM_different_1 rfl hl (by decide) rfl (fun ls hl => ?_)
  refine lv_iconst (v := 0) hx hb dM_different_2 (by decide) ?_
  refine lv_istore_n (lv' := [(2, .int (0 : Int32)), (1, .int (0 : Int32)), (0, .ref (ad 0))]) hx hb dM_different_3 rfl hl (by decide) rfl (fun ls hl => ?_)
  exact L4 N (0 : Int32) (0 : Int32) z0 ls _ _ (lv_sub hl [2, 1, 0] rfl) hC hf

def fM_leaves_b4 (N : Nat) (k4 : Int32 → Int32 → jS → Option (Int32 × jS)) (x1 x2 : Int32) (s0 : jS) : Option (Int32 × jS) := (if jIn (jgI s0 0) 2 = true then (if jgA s0 3 (jgI s0 0).toNatClampNeg ≤ x2 then some (x1, s0) else (if jIn (((400 : Int32) * jgI s0 0) + x2) 800 = true then (if jgA s0 9 ((((400 : Int32) * jgI s0 0) + x2)).toNatClampNeg = 0 then k4 (x1 + (1 : Int32)) (x2 + (1 : Int32)) s0 else k4 (x1 + (0 : Int32)) (x2 + (1 : Int32)) s0) else none)) else none)
def fM_leaves_4 (N : Nat) : Nat → Int32 → Int32 → jS → Option (Int32 × jS)
  | 0 => fun _ _ _ => none
  | n + 1 => fun x1 x2 s0 => fM_leaves_b4 N (fM_leaves_4 N n) x1 x2 s0
def fM_leaves (N : Nat) (z0 : jS) : Option (Int32 × jS) := fM_leaves_4 N N (0 : Int32) (0 : Int32) z0
set_option maxHeartbeats 4000000 in
set_option maxRecDepth 100000 in
theorem cM_leaves (l : Launch) (dC : Nat → ClassId) (dI : Nat → Nat → Nat) (cI cC cL : ClassId) (sk sv : Nat → Nat) (ad : Nat → Nat) (N : Nat) (z0 z1 : jS) (r : Int32) (hf : fM_leaves N z0 = some (r, z1)) : Ci l yM_leaves (Cond.code yM_leaves prog_8_method_47_code 3 (some .int) :: TB) ({ frames := 0, cells := 0, slots := 0, locals := 0 }) (dC, dI) vwCl [(cI, .int), (cC, .char), (cL, .object "SharedSyntax$Letters")] (jEn sk sv) [.ref (ad 0)] (wM cI cC ad z0) (wM cI cC ad z1) r := by
  refine Ci_of (cc := prog_8_method_47_code) (maxL := 3) (ret := (some .int)) (by decide) rfl (Nat.le_of_ble_eq_true rfl) ?_
  intro p e s m below meth c ls F hl hK hN hC
  obtain ⟨hx, hb, hml, hown, hts, hr, hlk⟩ := F
  have ht : ∀ w ∈ TB, w.before [.ref (ad 0)].toArray s = true := fun w h => hts w (List.mem_cons_of_mem _ h)
  have hA : ∀ q, s.heap.size ≤ q → va_A (wM cI cC ad z0) s.heap.size q := fun q h => Or.inr h
  have hl : lv_has ls 3 [(0, .ref (ad 0))] := hl
  have L4 : ∀ (n : Nat) (x1 x2 : Int32) (s0 : jS) (ls : Array Slot) (H : Heap) (locs : List Loc), lv_has ls 3 [(0, .ref (ad 0)), (1, .int x1), (2, .int x2)] → jcx (dC, dI) vwCl (va_A (wM cI cC ad z0) s.heap.size) s.heap (wM cI cC ad s0) H locs → fM_leaves_4 N n x1 x2 s0 = some (r, z1) → W p l e ({ frames := 0, cells := 0, slots := 0, locals := 0 }) s m [.ref (ad 0)].toArray below meth c H locs 0 0 (MQ below (jQi (dC, dI) vwCl [(cI, .int), (cC, .char), (cL, .object "SharedSyntax$Letters")] (wM cI cC ad z0) (wM cI cC ad z1) s.heap.size r) [.ref (ad 0)].toArray s 0 0 (va_A (wM cI cC ad z0) s.heap.size)) (F0 m 4 ls []) := by
    intro n
    induction n with
    | zero => exact fun _ _ _ _ _ _ _ _ hf => nomatch hf
    | succ n ih4 =>
      intro x1 x2 s0 ls H locs hl hC hf
      replace hf : fM_leaves_b4 N (fM_leaves_4 N n) x1 x2 s0 = some (r, z1) := hf
      generalize fM_leaves_4 N n = k4 at ih4 hf
      unfold fM_leaves_b4 at hf
      refine lv_iload_n hx hb dM_leaves_4 rfl (lv_at hl 2 rfl) ?_
      refine lv_aload_n hx hb dM_leaves_5 rfl (lv_at hl 0 rfl) ?_
      refine va_get (D := (dC, dI)) (ci := 6) (v := .ref (ad 4)) (C := RcM) (T := TcM) (N := 43) hx hb ht in_cM hown hK hC.1 0 (wM_e0 cI cC ad s0) rfl 4 (by decide) (ht _ tw764) (fun _ h9 => h9) rfl dM_leaves_6 ?_
      refine lv_aload_n hx hb dM_leaves_9 rfl (lv_at hl 0 rfl) ?_
      refine va_get (D := (dC, dI)) (ci := 6) (v := .int (jgI s0 0)) (C := RcM) (T := TcM) (N := 43) hx hb ht in_cM hown hK hC.1 0 (wM_e0 cI cC ad s0) rfl 0 (by decide) (ht _ tw760) (fun _ h9 => h9) rfl dM_leaves_10 ?_
      obtain ⟨hi401, hf⟩ := jC_in hf
      refine va_iald hx hb hK hC.1 4 0 (wM_e4 cI cC ad s0) rfl hi401 dM_leaves_13 ?_
      refine lv_icmp_ge (tgt := 49) hx hb dM_leaves_14 (by decide) (fun c402 => ?_) (fun c402 => ?_)
      · replace hf := jif_t c402 hf
        refine lv_iload_n hx hb dM_leaves_49 rfl (lv_at hl 1 rfl) ?_
        cases hf
        exact jret_i hx hb hr hlk hC hK dM_leaves_50
      · replace hf := jif_f c402 hf
        refine lv_iload_n hx hb dM_leaves_17 rfl (lv_at hl 1 rfl) ?_
        refine lv_aload_n hx hb dM_leaves_18 rfl (lv_at hl 0 rfl) ?_
        refine va_get (D := (dC, dI)) (ci := 6) (v := .ref (ad 10)) (C := RcM) (T := TcM) (N := 43) hx hb ht in_cM hown hK hC.1 0 (wM_e0 cI cC ad s0) rfl 10 (by decide) (ht _ tw770) (fun _ h9 => h9) rfl dM_leaves_19 ?_
        refine lv_sipush (v := 400) hx hb dM_leaves_22 (by decide) ?_
        refine lv_aload_n hx hb dM_leaves_25 rfl (lv_at hl 0 rfl) ?_
        refine va_get (D := (dC, dI)) (ci := 6) (v := .int (jgI s0 0)) (C := RcM) (T := TcM) (N := 43) hx hb ht in_cM hown hK hC.1 0 (wM_e0 cI cC ad s0) rfl 0 (by decide) (ht _ tw760) (fun _ h9 => h9) rfl dM_leaves_26 ?_
        refine lv_imul hx hb dM_leaves_29 ?_
        refine lv_iload_n hx hb dM_leaves_30 rfl (lv_at hl 2 rfl) ?_
        refine lv_iadd hx hb dM_leaves_31 ?_
        obtain ⟨hi403, hf⟩ := jC_in hf
        refine va_iald hx hb hK hC.1 10 0 (wM_e10 cI cC ad s0) rfl hi403 dM_leaves_32 ?_
        refine lv_if_ne (tgt := 40) hx hb dM_leaves_33 (by decide) (fun c404 => ?_) (fun c404 => ?_)
        · replace hf := jif_f c404 hf
          refine lv_iconst (v := 0) hx hb dM_leaves_40 (by decide) ?_
          refine lv_iadd hx hb dM_leaves_41 ?_
          refine lv_istore_n (lv' := [(1, .int (x1 + (0 : Int32))), (0, .ref (ad 0)), (2, .int x2)]) hx hb dM_leaves_42 rfl hl (by decide) rfl (fun ls hl => ?_)
          refine lv_iinc (k := 2) (v := (x2 + (1 : Int32))) (lv' := [(2, .int (x2 + (1 : Int32))), (1, .int (x1 + (0 : Int32))), (0, .ref (ad 0))]) hx hb dM_leaves_43 hl rfl rfl (by decide) rfl (fun ls hl => ?_)
          refine lv_goto (tgt := 4) hx hb dM_leaves_46 (by decide) ?_
          exact ih4 (x1 + (0 : Int32)) (x2 + (1 : Int32)) s0 ls _ _ (lv_sub hl [2, 1, 0] rfl) hC hf
        · replace hf := jif_t c404 hf
          refine lv_iconst (v := 1) hx hb dM_leaves_36 (by decide) ?_
          refine lv_goto (tgt := 41) hx hb dM_leaves_37 (by decide) ?_
          refine lv_iadd hx hb dM_leaves_41 ?_
          refine lv_istore_n (lv' := [(1, .int (x1 + (1 : Int32))), (0, .ref (ad 0)), (2, .int x2)]) hx hb dM_leaves_42 rfl hl (by decide) rfl (fun ls hl => ?_)
          refine lv_iinc (k := 2) (v := (x2 + (1 : Int32))) (lv' := [(2, .int (x2 + (1 : Int32))), (1, .int (x1 + (1 : Int32))), (0, .ref (ad 0))]) hx hb dM_leaves_43 hl rfl rfl (by decide) rfl (fun ls hl => ?_)
          refine lv_goto (tgt := 4) hx hb dM_leaves_46 (by decide) ?_
          exact ih4 (x1 + (1 : Int32)) (x2 + (1 : Int32)) s0 ls _ _ (lv_sub hl [2, 1, 0] rfl) hC hf
  unfold fM_leaves at hf
  refine lv_iconst (v := 0) hx hb dM_leaves_0 (by decide) ?_
  refine lv_istore_n (lv' := [(1, .int (0 : Int32)), (0, .ref (ad 0))]) hx hb dM_leaves_1 rfl hl (by decide) rfl (fun ls hl => ?_)
  refine lv_iconst (v := 0) hx hb dM_leaves_2 (by decide) ?_
  refine lv_istore_n (lv' := [(2, .int (0 : Int32)), (1, .int (0 : Int32)), (0, .ref (ad 0))]) hx hb dM_leaves_3 rfl hl (by decide) rfl (fun ls hl => ?_)
  exact L4 N (0 : Int32) (0 : Int32) z0 ls _ _ (lv_sub hl [2, 1, 0] rfl) hC hf

def fM_count (N : Nat) (a0 : Int32) (z0 : jS) : Option (Int32 × jS) := (if a0 = (0 : Int32) then (if jIn (jgI z0 0) 2 = true then some (jgA z0 3 (jgI z0 0).toNatClampNeg, z0) else none) else (if a0 = (1 : Int32) then (jB (fM_leaves N z0) fun r2 s2 => some (r2, s2)) else (if a0 = (2 : Int32) then (jB (fM_node N (0 : Int32) (7 : Int32) z0) fun r3 s3 => some (r3, s3)) else (if a0 = (3 : Int32) then (jB (fM_different N z0) fun r4 s4 => some (r4, s4)) else (if a0 = (4 : Int32) then some (jgI z0 2, z0) else (if a0 = (5 : Int32) then some (jgI z0 1, z0) else (if a0 = (6 : Int32) then some (jgI z0 3, z0) else (if a0 = (7 : Int32) then some (jgI z0 4, z0) else some ((-1 : Int32), z0)))))))))
set_option maxHeartbeats 4000000 in
set_option maxRecDepth 100000 in
theorem cM_count (l : Launch) (dC : Nat → ClassId) (dI : Nat → Nat → Nat) (cI cC cL : ClassId) (sk sv : Nat → Nat) (ad : Nat → Nat) (N : Nat) (a0 : Int32) (z0 z1 : jS) (r : Int32) (hf : fM_count N a0 z0 = some (r, z1)) : Ci l yM_count (Cond.code yM_count prog_8_method_48_code 2 (some .int) :: TB) ({ frames := 3, cells := 0, slots := 0, locals := 77 }) (dC, dI) vwCl [(cI, .int), (cC, .char), (cL, .object "SharedSyntax$Letters")] (jEn sk sv) [.ref (ad 0), .int a0] (wM cI cC ad z0) (wM cI cC ad z1) r := by
  refine Ci_of (cc := prog_8_method_48_code) (maxL := 2) (ret := (some .int)) (by decide) rfl (Nat.le_of_ble_eq_true rfl) ?_
  intro p e s m below meth c ls F hl hK hN hC
  obtain ⟨hx, hb, hml, hown, hts, hr, hlk⟩ := F
  have ht : ∀ w ∈ TB, w.before [.ref (ad 0), .int a0].toArray s = true := fun w h => hts w (List.mem_cons_of_mem _ h)
  have hA : ∀ q, s.heap.size ≤ q → va_A (wM cI cC ad z0) s.heap.size q := fun q h => Or.inr h
  have hl : lv_has ls 2 [(0, .ref (ad 0)), (1, .int a0)] := hl
  unfold fM_count at hf
  refine lv_iload_n hx hb dM_count_0 rfl (lv_at hl 1 rfl) ?_
  by_cases w0 : a0 = (0 : Int32)
  · replace hf := jif_t w0 hf
    refine lv_tableIn (tgt := 48) hx hb dM_count_1 (by rw [w0]; decide) (by rw [w0]; decide) (by rw [w0]; rfl) (by decide) ?_
    refine lv_aload_n hx hb dM_count_48 rfl (lv_at hl 0 rfl) ?_
    refine va_get (D := (dC, dI)) (ci := 6) (v := .ref (ad 4)) (C := RcM) (T := TcM) (N := 43) hx hb ht in_cM hown hK hC.1 0 (wM_e0 cI cC ad z0) rfl 4 (by decide) (ht _ tw764) (fun _ h9 => h9) rfl dM_count_49 ?_
    refine lv_aload_n hx hb dM_count_52 rfl (lv_at hl 0 rfl) ?_
    refine va_get (D := (dC, dI)) (ci := 6) (v := .int (jgI z0 0)) (C := RcM) (T := TcM) (N := 43) hx hb ht in_cM hown hK hC.1 0 (wM_e0 cI cC ad z0) rfl 0 (by decide) (ht _ tw760) (fun _ h9 => h9) rfl dM_count_53 ?_
    obtain ⟨hi1, hf⟩ := jC_in hf
    refine va_iald hx hb hK hC.1 4 0 (wM_e4 cI cC ad z0) rfl hi1 dM_count_56 ?_
    cases hf
    exact jret_i hx hb hr hlk hC hK dM_count_57
  · replace hf := jif_f w0 hf
    by_cases w1 : a0 = (1 : Int32)
    · replace hf := jif_t w1 hf
      refine lv_tableIn (tgt := 58) hx hb dM_count_1 (by rw [w1]; decide) (by rw [w1]; decide) (by rw [w1]; rfl) (by decide) ?_
      refine lv_aload_n hx hb dM_count_58 rfl (lv_at hl 0 rfl) ?_
      obtain ⟨r2, s2, hc2, hf⟩ := jB_some hf
      refine jcall_i (va_runV (C := RcM) (As := []) (rest := []) ⟨hx, hb, hml, hown, hts⟩ ((cM_leaves l dC dI cI cC cL sk sv ad N z0 s2 r2 hc2) _) ⟨(callB_of 0 hts (tb_good tw966) rfl rfl rfl (ht _ tw14) (ht _ tw963) (by decide +kernel) ⟨Nat.le_of_ble_eq_true rfl, Nat.le_of_ble_eq_true rfl⟩), ht _ tw965, ht _ (tb_sel pv_M_leaves)⟩ (jpreV (jEn_ok sk sv) hC hA hK hN (wM_e0 cI cC ad z0) rfl rfl _) rfl rfl hl.1 rfl (lv_room (Nat.le_of_ble_eq_true rfl)) dM_count_59 ⟨Nat.le_refl _, Nat.le_refl _⟩) hC hA (fun H locs hC => ?_)
      cases hf
      exact jret_i hx hb hr hlk hC hK dM_count_62
    · replace hf := jif_f w1 hf
      by_cases w2 : a0 = (2 : Int32)
      · replace hf := jif_t w2 hf
        refine lv_tableIn (tgt := 63) hx hb dM_count_1 (by rw [w2]; decide) (by rw [w2]; decide) (by rw [w2]; rfl) (by decide) ?_
        refine lv_aload_n hx hb dM_count_63 rfl (lv_at hl 0 rfl) ?_
        refine lv_iconst (v := 0) hx hb dM_count_64 (by decide) ?_
        refine lv_bipush (v := 7) hx hb dM_count_65 (by decide) ?_
        obtain ⟨r3, s3, hc3, hf⟩ := jB_some hf
        refine jcall_i (va_runV (C := RcM) (As := [.int (0 : Int32), .int (7 : Int32)]) (rest := []) ⟨hx, hb, hml, hown, hts⟩ ((cM_node l dC dI cI cC cL sk sv ad N (0 : Int32) (7 : Int32) z0 s3 r3 hc3) _) ⟨(callB_of 2 hts (tb_good tw930) rfl rfl rfl (ht _ tw14) (ht _ tw967) (by decide +kernel) ⟨Nat.le_of_ble_eq_true rfl, Nat.le_of_ble_eq_true rfl⟩), ht _ tw928, ht _ tw929⟩ (jpreV (jEn_ok sk sv) hC hA hK hN (wM_e0 cI cC ad z0) rfl rfl _) rfl rfl hl.1 rfl (lv_room (Nat.le_of_ble_eq_true rfl)) dM_count_67 ⟨Nat.le_refl _, Nat.le_refl _⟩) hC hA (fun H locs hC => ?_)
        cases hf
        exact jret_i hx hb hr hlk hC hK dM_count_70
      · replace hf := jif_f w2 hf
        by_cases w3 : a0 = (3 : Int32)
        · replace hf := jif_t w3 hf
          refine lv_tableIn (tgt := 71) hx hb dM_count_1 (by rw [w3]; decide) (by rw [w3]; decide) (by rw [w3]; rfl) (by decide) ?_
          refine lv_aload_n hx hb dM_count_71 rfl (lv_at hl 0 rfl) ?_
          obtain ⟨r4, s4, hc4, hf⟩ := jB_some hf
          refine jcall_i (va_runV (C := RcM) (As := []) (rest := []) ⟨hx, hb, hml, hown, hts⟩ ((cM_different l dC dI cI cC cL sk sv ad N z0 s4 r4 hc4) _) ⟨(callB_of 0 hts (tb_good tw971) rfl rfl rfl (ht _ tw14) (ht _ tw968) (by decide +kernel) ⟨Nat.le_of_ble_eq_true rfl, Nat.le_of_ble_eq_true rfl⟩), ht _ tw970, ht _ (tb_sel pv_M_different)⟩ (jpreV (jEn_ok sk sv) hC hA hK hN (wM_e0 cI cC ad z0) rfl rfl _) rfl rfl hl.1 rfl (lv_room (Nat.le_of_ble_eq_true rfl)) dM_count_72 ⟨Nat.le_refl _, Nat.le_refl _⟩) hC hA (fun H locs hC => ?_)
          cases hf
          exact jret_i hx hb hr hlk hC hK dM_count_75
        · replace hf := jif_f w3 hf
          by_cases w4 : a0 = (4 : Int32)
          · replace hf := jif_t w4 hf
            refine lv_tableIn (tgt := 76) hx hb dM_count_1 (by rw [w4]; decide) (by rw [w4]; decide) (by rw [w4]; rfl) (by decide) ?_
            refine lv_aload_n hx hb dM_count_76 rfl (lv_at hl 0 rfl) ?_
            refine va_get (D := (dC, dI)) (ci := 6) (v := .int (jgI z0 2)) (C := RcM) (T := TcM) (N := 43) hx hb ht in_cM hown hK hC.1 0 (wM_e0 cI cC ad z0) rfl 16 (by decide) (ht _ tw776) (fun _ h9 => h9) rfl dM_count_77 ?_
            cases hf
            exact jret_i hx hb hr hlk hC hK dM_count_80
          · replace hf := jif_f w4 hf
            by_cases w5 : a0 = (5 : Int32)
            · replace hf := jif_t w5 hf
              refine lv_tableIn (tgt := 81) hx hb dM_count_1 (by rw [w5]; decide) (by rw [w5]; decide) (by rw [w5]; rfl) (by decide) ?_
              refine lv_aload_n hx hb dM_count_81 rfl (lv_at hl 0 rfl) ?_
              refine va_get (D := (dC, dI)) (ci := 6) (v := .int (jgI z0 1)) (C := RcM) (T := TcM) (N := 43) hx hb ht in_cM hown hK hC.1 0 (wM_e0 cI cC ad z0) rfl 15 (by decide) (ht _ tw775) (fun _ h9 => h9) rfl dM_count_82 ?_
              cases hf
              exact jret_i hx hb hr hlk hC hK dM_count_85
            · replace hf := jif_f w5 hf
              by_cases w6 : a0 = (6 : Int32)
              · replace hf := jif_t w6 hf
                refine lv_tableIn (tgt := 86) hx hb dM_count_1 (by rw [w6]; decide) (by rw [w6]; decide) (by rw [w6]; rfl) (by decide) ?_
                refine lv_aload_n hx hb dM_count_86 rfl (lv_at hl 0 rfl) ?_
                refine va_get (D := (dC, dI)) (ci := 6) (v := .int (jgI z0 3)) (C := RcM) (T := TcM) (N := 43) hx hb ht in_cM hown hK hC.1 0 (wM_e0 cI cC ad z0) rfl 17 (by decide) (ht _ tw777) (fun _ h9 => h9) rfl dM_count_87 ?_
                cases hf
                exact jret_i hx hb hr hlk hC hK dM_count_90
              · replace hf := jif_f w6 hf
                by_cases w7 : a0 = (7 : Int32)
                · replace hf := jif_t w7 hf
                  refine lv_tableIn (tgt := 91) hx hb dM_count_1 (by rw [w7]; decide) (by rw [w7]; decide) (by rw [w7]; rfl) (by decide) ?_
                  refine lv_aload_n hx hb dM_count_91 rfl (lv_at hl 0 rfl) ?_
                  refine va_get (D := (dC, dI)) (ci := 6) (v := .int (jgI z0 4)) (C := RcM) (T := TcM) (N := 43) hx hb ht in_cM hown hK hC.1 0 (wM_e0 cI cC ad z0) rfl 19 (by decide) (ht _ tw779) (fun _ h9 => h9) rfl dM_count_92 ?_
                  cases hf
                  exact jret_i hx hb hr hlk hC hK dM_count_95
                · replace hf := jif_f w7 hf
                  refine lv_tableOut (tgt := 96) hx hb dM_count_1 (by have e0 := lv_neT (a := 0) w0 (by decide); have e1 := lv_neT (a := 1) w1 (by decide); have e2 := lv_neT (a := 2) w2 (by decide); have e3 := lv_neT (a := 3) w3 (by decide); have e4 := lv_neT (a := 4) w4 (by decide); have e5 := lv_neT (a := 5) w5 (by decide); have e6 := lv_neT (a := 6) w6 (by decide); have e7 := lv_neT (a := 7) w7 (by decide); omega) (by decide) ?_
                  refine lv_iconst (v := -1) hx hb dM_count_96 (by decide) ?_
                  cases hf
                  exact jret_i hx hb hr hlk hC hK dM_count_97
