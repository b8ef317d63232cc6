/-! constructors: the world grows -/
def jz : jS := (fun _ => 0, fun _ _ => 0)
def jQk (D : va_G) (cl : List vw_C) (tys : List (ClassId × FieldType)) (w : va_W) (sz : Nat) (B : va_W → Prop) : Array Value → State → Outcome → State → Prop := va_Qv (fun (u : va_W) => B u) (fun u t => va_P D cl u t.heap ∧ va_K D cl tys t ∧ va_D (va_A w sz) u) (va_A w sz)
def Kc (l : Launch) (y : MethodName) (ws : List Cond) (rm : Room) (D : va_G) (cl : List vw_C) (tys : List (ClassId × FieldType)) (E : jEv) (av : List Value) (w : va_W) (B : va_W → Prop) (mc ms : Nat) : Prop := ∀ sz : Nat, Met l y ws rm (jPc D cl tys E av w sz) (jQk D cl tys w sz B) mc ms (va_A w sz)
theorem Kc_of {l : Launch} {y : MethodName} {ws ws' : List Cond} {rm : Room} {D : va_G} {cl : List vw_C} {tys : List (ClassId × FieldType)} {E : jEv} {av : List Value} {w : va_W} {B : va_W → Prop} {mc ms : Nat} {cc : ByteArray} {maxL : Nat} {ret : Option FieldType} (hy : plainName y.cls = true) (hw : ws = Cond.code y cc maxL ret :: ws') (hlen : (lg_sl av).length ≤ maxL)
    (body : ∀ (p : Program) (e : Env) (s : State) (m : MethodId) (below : List Frame) (meth : Method) (c : Code) (ls : Array Slot), jFx p s m av.toArray meth c cc maxL ret ws y.cls → meth.name = y.name → lv_has ls maxL (lv_args 0 av) → va_K D cl tys s → E (va_A w s.heap.size) s s.heap → jcx D cl (va_A w s.heap.size) s.heap w s.heap [] →
      W p l e rm s m av.toArray below meth c s.heap [] 0 0 (MQ below (jQk D cl tys w s.heap.size B) av.toArray s mc ms (va_A w s.heap.size)) (F0 m 0 ls [])) : Kc l y ws rm D cl tys E av w B mc ms := by
  intro sz
  refine Met.ofW (cc := cc) (maxL := maxL) (ret := ret) hy hw ?_
  intro p e s m args below meth c s₁ B hml hv
  obtain ⟨rfl, hsz, hP, hK, hD0, hN⟩ := hv
  subst hsz
  have hl := lv_entry av (n := maxL) hlen
  rw [lg_entry_eq]
  exact body p e s m below meth c _ ⟨B.exec, B.bytes, hml, findClass_of_methodNamed B.named, atoms_spec (ws := ws) B.pre, B.returns, B.notSynchronized⟩ (name_of_methodNamed B.named B.method).1 hl hK hN ⟨hP, hD0.self, va_S.rf⟩
section JK
variable {p : Program} {l : Launch} {e : Env} {R : Room} {s : State} {m : MethodId} {args : Array Value} {below : List Frame} {meth : Method} {c : Code} {H : Heap} {locs : List Loc} {cells slots : Nat} {Q : State → Prop}
variable {cc : ByteArray} {pc : Nat} {ls : Array Slot} {rest st0 : List Value} {D : va_G} {cl : List vw_C} {A : Nat → Prop} {tys : List (ClassId × FieldType)} {w w' wc wr : va_W} {H0 : Heap} {a : Array Value} {B : va_W → Prop} {mc ms : Nat} {isC isR : List Nat}
theorem jret_k (hx : p.tables.exec = Jvm.exec) (hb : c.code = cc) (hr : meth.sig.returnType = none) (hlk : meth.locks = false) (hC : jcx D cl (va_A w s.heap.size) s.heap w' H locs) (hK : va_K D cl tys s) (hB : B w') (hdg : decode cc pc = .ok (.return_, 1)) :
    W p l e R s m args below meth c H locs mc ms (MQ below (jQk D cl tys w s.heap.size B) args s mc ms (va_A w s.heap.size)) (F0 m pc ls []) :=
  W.vret hx hb hr (fun t ht hW => ⟨⟨w', rfl, hB, by rw [ht]; exact hC.1, va_K.moved hW.alike hK, hC.2.1⟩, hC.2.2.F ht⟩) hC.2.2.2.2 hdg hlk
theorem jcall_k (hCm : isC.map (fun i => w[i]?) = wc.map some) (hRm : isR.map (fun i => w[i]?) = wr.map some) (hn : va_nd isR = true) (hdis : ∀ i ∈ isR, i ∉ isC)
    (hr : va_Run p l e R s m args below meth c H locs cells slots mc ms (F0 m pc ls st0) rest (jQk D cl tys wc H.size B a) (va_A wc H.size)) (hC : jcx D cl A H0 w H locs) (hA : ∀ q, H0.size ≤ q → A q)
    (kk : ∀ (u : va_W) (H1 : Heap) (locs1 : List Loc), B u → jcx D cl A H0 (wr ++ u) H1 locs1 → W p l e R s m args below meth c H1 locs1 (cells + mc) (slots + ms) Q (F0 m (pc + 3) ls rest)) : W p l e R s m args below meth c H locs cells slots Q (F0 m pc ls st0) := by
  have hF := va_free hC.2.1 hC.2.2 hA isC hCm
  refine va_callv (A1 := va_A wc H.size) hr hC.2.2 (fun q _ h => hF q h) hF (fun u t H1 locs1 ht hvm hp hB hz hk hS => ?_)
  obtain ⟨hP1, hK1, hD1⟩ := hB
  rw [ht] at hP1
  obtain ⟨hP2, hD2⟩ := va_join hC.1 hC.2.1 isC isR hCm hRm hn hdis hk hF hP1 hD1
  exact kk u H1 locs1 hp ⟨hP2, hD2, hS⟩
theorem jcA {U : State} {cA cB : ClassId} (h1 : U.vm.findClass ("[" ++ FieldType.int.toString) = some cA) (h2 : U.vm.findClass ("[" ++ FieldType.int.toString) = some cB) : cA = cB := Option.some.inj (h1.symm.trans h2)
theorem jcB {U : State} {cA cB : ClassId} (h1 : U.vm.findClass ("[" ++ FieldType.char.toString) = some cA) (h2 : U.vm.findClass ("[" ++ FieldType.char.toString) = some cB) : cA = cB := Option.some.inj (h1.symm.trans h2)
theorem jcQ {U : State} {C : String} {cA cB : ClassId} (h1 : va_RA U cA (.object C)) (h2 : va_RA U cB (.object C)) : cA = cB := by
  obtain ⟨_, _, -, -, -, e1⟩ := h1
  obtain ⟨_, _, -, -, -, e2⟩ := h2
  exact Option.some.inj (e1.symm.trans e2)
end JK
theorem kd_L : ∀ j, j < 2 → defaultValue (tycL j) = vp_V [.null, .int 0] j := by
  intro j hj
  match j, hj with
  | 0, _ => rfl
  | 1, _ => rfl
theorem kd_K : ∀ j, j < 6 → defaultValue (tycK j) = vp_V [.null, .null, .null, .null, .int 0, .int 0] j := by
  intro j hj
  match j, hj with
  | 0, _ => rfl
  | 1, _ => rfl
  | 2, _ => rfl
  | 3, _ => rfl
  | 4, _ => rfl
  | 5, _ => rfl
theorem kd_T : ∀ j, j < 9 → defaultValue (tycT j) = vp_V [.null, .null, .null, .null, .null, .null, .null, .int 0, .int 0] j := by
  intro j hj
  match j, hj with
  | 0, _ => rfl
  | 1, _ => rfl
  | 2, _ => rfl
  | 3, _ => rfl
  | 4, _ => rfl
  | 5, _ => rfl
  | 6, _ => rfl
  | 7, _ => rfl
  | 8, _ => rfl
theorem kd_R : ∀ j, j < 10 → defaultValue (tycR j) = vp_V [.null, .null, .null, .int 0, .null, .null, .int 0, .null, .null, .int 0] j := by
  intro j hj
  match j, hj with
  | 0, _ => rfl
  | 1, _ => rfl
  | 2, _ => rfl
  | 3, _ => rfl
  | 4, _ => rfl
  | 5, _ => rfl
  | 6, _ => rfl
  | 7, _ => rfl
  | 8, _ => rfl
  | 9, _ => rfl
theorem kd_H : ∀ j, j < 2 → defaultValue (tycH j) = vp_V [.null, .int 0] j := by
  intro j hj
  match j, hj with
  | 0, _ => rfl
  | 1, _ => rfl
theorem kd_X : ∀ j, j < 6 → defaultValue (tycX j) = vp_V [.null, .null, .null, .null, .int 0, .int 0] j := by
  intro j hj
  match j, hj with
  | 0, _ => rfl
  | 1, _ => rfl
  | 2, _ => rfl
  | 3, _ => rfl
  | 4, _ => rfl
  | 5, _ => rfl
theorem kd_M : ∀ j, j < 43 → defaultValue (tycM j) = vp_V [.int 0, .null, .null, .null, .null, .null, .null, .null, .null, .null, .null, .null, .null, .null, .null, .int 0, .int 0, .int 0, .null, .int 0, .int 0, .null, .null, .null, .int 0, .int 0, .int 0, .null, .null, .null, .null, .null, .null, .null, .null, .null, .null, .int 0, .null, .int 0, .null, .null, .null] j := by
  intro j hj
  match j, hj with
  | 0, _ => rfl
  | 1, _ => rfl
  | 2, _ => rfl
  | 3, _ => rfl
  | 4, _ => rfl
  | 5, _ => rfl
  | 6, _ => rfl
  | 7, _ => rfl
  | 8, _ => rfl
  | 9, _ => rfl
  | 10, _ => rfl
  | 11, _ => rfl
  | 12, _ => rfl
  | 13, _ => rfl
  | 14, _ => rfl
  | 15, _ => rfl
  | 16, _ => rfl
  | 17, _ => rfl
  | 18, _ => rfl
  | 19, _ => rfl
  | 20, _ => rfl
  | 21, _ => rfl
  | 22, _ => rfl
  | 23, _ => rfl
  | 24, _ => rfl
  | 25, _ => rfl
  | 26, _ => rfl
  | 27, _ => rfl
  | 28, _ => rfl
  | 29, _ => rfl
  | 30, _ => rfl
  | 31, _ => rfl
  | 32, _ => rfl
  | 33, _ => rfl
  | 34, _ => rfl
  | 35, _ => rfl
  | 36, _ => rfl
  | 37, _ => rfl
  | 38, _ => rfl
  | 39, _ => rfl
  | 40, _ => rfl
  | 41, _ => rfl
  | 42, _ => rfl
  | n + 43, h => exact absurd h (by omega)
set_option maxHeartbeats 8000000 in
set_option maxRecDepth 100000 in
theorem kL_init60 (l : Launch) (dC : Nat → ClassId) (dI : Nat → Nat → Nat) (cI cC cL : ClassId) (sk sv : Nat → Nat) (h0 : Nat)  : Kc l yL_init (Cond.code yL_init prog_3_method_1_code 2 none :: TB) ({ frames := 1, cells := 1, slots := 60, locals := 12 }) (dC, dI) vwCl [(cI, .int), (cC, .char), (cL, .object "SharedSyntax$Letters")] (jEn sk sv) [.ref h0, .int 60] [(h0, .inr (0, [.null, .int 0]))] (fun u => ∃ q1 : Nat, u = [(h0, .inr (0, [.ref q1, .int 0])), (q1, .inl (cI, 60, .inl (fun _ => 0)))]) 1 60 := by
  refine Kc_of (cc := prog_3_method_1_code) (maxL := 2) (ret := none) (by decide) rfl (Nat.le_of_ble_eq_true rfl) ?_
  intro p e s m below meth c ls F hin hl hK hN hC
  obtain ⟨hx, hb, hml, hown, hts, hr, hlk⟩ := F
  have ht : ∀ w ∈ TB, w.before [.ref h0, .int 60].toArray s = true := fun w h => hts w (List.mem_cons_of_mem _ h)
  have hA : ∀ q, s.heap.size ≤ q → va_A [(h0, .inr (0, [.null, .int 0]))] s.heap.size q := fun q h => Or.inr h
  have hl : lv_has ls 2 [(0, .ref h0), (1, .int 60)] := hl
  refine lv_aload_n hx hb dL_init_0 rfl (lv_at hl 0 rfl) ?_
  refine W.objInit hx hb hown (ht _ tw30) (ht _ tw21) (ht _ tw22) rfl (by rw [hml]; exact hl.1) rfl dL_init_1 (Nat.le_of_ble_eq_true rfl) (Nat.le_of_ble_eq_true rfl) ?_
  refine W.eq (g2 := F0 m 4 ls []) rfl ?_
  refine lv_aload_n hx hb dL_init_4 rfl (lv_at hl 0 rfl) ?_
  refine lv_iload_n hx hb dL_init_5 rfl (lv_at hl 1 rfl) ?_
  refine va_newa (atype := .int) (ty := .int) (N' := 60) (a0 := (60, .inl (fun _ => 0))) hx hb (ht _ tw41) rfl hK hC.1 hC.2.1 hC.2.2 hA (fun _ => rfl) (by decide) (by decide) (by decide) (Nat.le_of_ble_eq_true rfl) (Nat.le_of_ble_eq_true rfl) dL_init_6 (fun q1 cA H hK2 hP hD hS => ?_)
  obtain rfl : cI = cA := jcA (hK2.2 0 (cI, .int) rfl).2 (hK2.2 3 (cA, .int) rfl).2
  have hC : jcx (dC, dI) vwCl (va_A [(h0, .inr (0, [.null, .int 0]))] s.heap.size) s.heap [(h0, .inr (0, [.null, .int 0])), (q1, .inl (cI, 60, .inl (fun _ => 0)))] H _ := ⟨hP, hD, hS⟩
  refine W.widen (k := 1) (n := 60) (Nat.le_of_ble_eq_true rfl) (Nat.le_of_ble_eq_true rfl) ?_
  refine va_putF (D := (dC, dI)) (ci := 0) (v := .ref q1) (ty := (.array .int)) (C := RcL) (T := TcL) (N := 2) hx hb ht in_cL tycL tycL_ok nmcL hown hK hC.1 hC.2.1 hC.2.2 0 rfl rfl 0 (by decide) (ht _ tw31) (fun _ h9 => h9) rfl hin rfl (by decide +kernel) rfl rfl (Nat.le_of_ble_eq_true rfl) dL_init_8 (fun H locs hP hD hS => ?_)
  have hC : jcx (dC, dI) vwCl (va_A [(h0, .inr (0, [.null, .int 0]))] s.heap.size) s.heap [(h0, .inr (0, [.ref q1, .int 0])), (q1, .inl (cI, 60, .inl (fun _ => 0)))] H locs := ⟨hP, hD, hS⟩
  refine lv_aload_n hx hb dL_init_11 rfl (lv_at hl 0 rfl) ?_
  refine lv_iconst (v := 0) hx hb dL_init_12 (by decide) ?_
  refine va_put (D := (dC, dI)) (ci := 0) (v := .int 0) (ty := .int) (C := RcL) (T := TcL) (N := 2) hx hb ht in_cL tycL tycL_ok nmcL hown hK hC.1 hC.2.1 hC.2.2 0 rfl rfl 1 (by decide) (ht _ tw32) (fun _ h9 => h9) rfl (by decide +kernel) rfl rfl (Nat.le_of_ble_eq_true rfl) dL_init_13 (fun H locs hP hD hS => ?_)
  have hC : jcx (dC, dI) vwCl (va_A [(h0, .inr (0, [.null, .int 0]))] s.heap.size) s.heap [(h0, .inr (0, [.ref q1, .int 0])), (q1, .inl (cI, 60, .inl (fun _ => 0)))] H locs := ⟨hP, hD, hS⟩
  exact jret_k hx hb hr hlk hC hK ⟨q1, rfl⟩ dL_init_16

set_option maxHeartbeats 8000000 in
set_option maxRecDepth 100000 in
theorem kL_init20 (l : Launch) (dC : Nat → ClassId) (dI : Nat → Nat → Nat) (cI cC cL : ClassId) (sk sv : Nat → Nat) (h0 : Nat)  : Kc l yL_init (Cond.code yL_init prog_3_method_1_code 2 none :: TB) ({ frames := 1, cells := 1, slots := 20, locals := 12 }) (dC, dI) vwCl [(cI, .int), (cC, .char), (cL, .object "SharedSyntax$Letters")] (jEn sk sv) [.ref h0, .int 20] [(h0, .inr (0, [.null, .int 0]))] (fun u => ∃ q1 : Nat, u = [(h0, .inr (0, [.ref q1, .int 0])), (q1, .inl (cI, 20, .inl (fun _ => 0)))]) 1 20 := by
  refine Kc_of (cc := prog_3_method_1_code) (maxL := 2) (ret := none) (by decide) rfl (Nat.le_of_ble_eq_true rfl) ?_
  intro p e s m below meth c ls F hin hl hK hN hC
  obtain ⟨hx, hb, hml, hown, hts, hr, hlk⟩ := F
  have ht : ∀ w ∈ TB, w.before [.ref h0, .int 20].toArray s = true := fun w h => hts w (List.mem_cons_of_mem _ h)
  have hA : ∀ q, s.heap.size ≤ q → va_A [(h0, .inr (0, [.null, .int 0]))] s.heap.size q := fun q h => Or.inr h
  have hl : lv_has ls 2 [(0, .ref h0), (1, .int 20)] := hl
  refine lv_aload_n hx hb dL_init_0 rfl (lv_at hl 0 rfl) ?_
  refine W.objInit hx hb hown (ht _ tw30) (ht _ tw21) (ht _ tw22) rfl (by rw [hml]; exact hl.1) rfl dL_init_1 (Nat.le_of_ble_eq_true rfl) (Nat.le_of_ble_eq_true rfl) ?_
  refine W.eq (g2 := F0 m 4 ls []) rfl ?_
  refine lv_aload_n hx hb dL_init_4 rfl (lv_at hl 0 rfl) ?_
  refine lv_iload_n hx hb dL_init_5 rfl (lv_at hl 1 rfl) ?_
  refine va_newa (atype := .int) (ty := .int) (N' := 20) (a0 := (20, .inl (fun _ => 0))) hx hb (ht _ tw41) rfl hK hC.1 hC.2.1 hC.2.2 hA (fun _ => rfl) (by decide) (by decide) (by decide) (Nat.le_of_ble_eq_true rfl) (Nat.le_of_ble_eq_true rfl) dL_init_6 (fun q1 cA H hK2 hP hD hS => ?_)
  obtain rfl : cI = cA := jcA (hK2.2 0 (cI, .int) rfl).2 (hK2.2 3 (cA, .int) rfl).2
  have hC : jcx (dC, dI) vwCl (va_A [(h0, .inr (0, [.null, .int 0]))] s.heap.size) s.heap [(h0, .inr (0, [.null, .int 0])), (q1, .inl (cI, 20, .inl (fun _ => 0)))] H _ := ⟨hP, hD, hS⟩
  refine W.widen (k := 1) (n := 20) (Nat.le_of_ble_eq_true rfl) (Nat.le_of_ble_eq_true rfl) ?_
  refine va_putF (D := (dC, dI)) (ci := 0) (v := .ref q1) (ty := (.array .int)) (C := RcL) (T := TcL) (N := 2) hx hb ht in_cL tycL tycL_ok nmcL hown hK hC.1 hC.2.1 hC.2.2 0 rfl rfl 0 (by decide) (ht _ tw31) (fun _ h9 => h9) rfl hin rfl (by decide +kernel) rfl rfl (Nat.le_of_ble_eq_true rfl) dL_init_8 (fun H locs hP hD hS => ?_)
  have hC : jcx (dC, dI) vwCl (va_A [(h0, .inr (0, [.null, .int 0]))] s.heap.size) s.heap [(h0, .inr (0, [.ref q1, .int 0])), (q1, .inl (cI, 20, .inl (fun _ => 0)))] H locs := ⟨hP, hD, hS⟩
  refine lv_aload_n hx hb dL_init_11 rfl (lv_at hl 0 rfl) ?_
  refine lv_iconst (v := 0) hx hb dL_init_12 (by decide) ?_
  refine va_put (D := (dC, dI)) (ci := 0) (v := .int 0) (ty := .int) (C := RcL) (T := TcL) (N := 2) hx hb ht in_cL tycL tycL_ok nmcL hown hK hC.1 hC.2.1 hC.2.2 0 rfl rfl 1 (by decide) (ht _ tw32) (fun _ h9 => h9) rfl (by decide +kernel) rfl rfl (Nat.le_of_ble_eq_true rfl) dL_init_13 (fun H locs hP hD hS => ?_)
  have hC : jcx (dC, dI) vwCl (va_A [(h0, .inr (0, [.null, .int 0]))] s.heap.size) s.heap [(h0, .inr (0, [.ref q1, .int 0])), (q1, .inl (cI, 20, .inl (fun _ => 0)))] H locs := ⟨hP, hD, hS⟩
  exact jret_k hx hb hr hlk hC hK ⟨q1, rfl⟩ dL_init_16

set_option maxHeartbeats 8000000 in
set_option maxRecDepth 100000 in
theorem kK_init (l : Launch) (dC : Nat → ClassId) (dI : Nat → Nat → Nat) (cI cC cL : ClassId) (sk sv : Nat → Nat) (h0 : Nat) (t0 : Nat)  : Kc l yK_init (Cond.code yK_init prog_5_method_1_code 2 none :: TB) ({ frames := 1, cells := 3, slots := 183, locals := 12 }) (dC, dI) vwCl [(cI, .int), (cC, .char), (cL, .object "SharedSyntax$Letters")] (jEn sk sv) [.ref h0, .ref t0] [(h0, .inr (1, [.null, .null, .null, .null, .int 0, .int 0]))] (fun u => ∃ q1 q2 q3 : Nat, u = [(h0, .inr (1, [.ref t0, .ref q1, .ref q2, .ref q3, .int 0, .int 0])), (q1, .inl (cI, 61, .inl (fun _ => 0))), (q2, .inl (cI, 61, .inl (fun _ => 0))), (q3, .inl (cI, 61, .inl (fun _ => 0)))]) 3 183 := by
  refine Kc_of (cc := prog_5_method_1_code) (maxL := 2) (ret := none) (by decide) rfl (Nat.le_of_ble_eq_true rfl) ?_
  intro p e s m below meth c ls F hin hl hK hN hC
  obtain ⟨hx, hb, hml, hown, hts, hr, hlk⟩ := F
  have ht : ∀ w ∈ TB, w.before [.ref h0, .ref t0].toArray s = true := fun w h => hts w (List.mem_cons_of_mem _ h)
  have hA : ∀ q, s.heap.size ≤ q → va_A [(h0, .inr (1, [.null, .null, .null, .null, .int 0, .int 0]))] s.heap.size q := fun q h => Or.inr h
  have hl : lv_has ls 2 [(0, .ref h0), (1, .ref t0)] := hl
  refine lv_aload_n hx hb dK_init_0 rfl (lv_at hl 0 rfl) ?_
  refine W.objInit hx hb hown (ht _ tw92) (ht _ tw21) (ht _ tw22) rfl (by rw [hml]; exact hl.1) rfl dK_init_1 (Nat.le_of_ble_eq_true rfl) (Nat.le_of_ble_eq_true rfl) ?_
  refine W.eq (g2 := F0 m 4 ls []) rfl ?_
  refine lv_aload_n hx hb dK_init_4 rfl (lv_at hl 0 rfl) ?_
  refine lv_aload_n hx hb dK_init_5 rfl (lv_at hl 1 rfl) ?_
  refine va_putF (D := (dC, dI)) (ci := 1) (v := .ref t0) (ty := (.object "SharedSyntax$Letters")) (C := RcK) (T := TcK) (N := 6) hx hb ht in_cK tycK tycK_ok nmcK hown hK hC.1 hC.2.1 hC.2.2 0 rfl rfl 0 (by decide) (ht _ tw93) (fun _ h9 => h9) rfl hin rfl (by decide +kernel) rfl rfl (Nat.le_of_ble_eq_true rfl) dK_init_6 (fun H locs hP hD hS => ?_)
  have hC : jcx (dC, dI) vwCl (va_A [(h0, .inr (1, [.null, .null, .null, .null, .int 0, .int 0]))] s.heap.size) s.heap [(h0, .inr (1, [.ref t0, .null, .null, .null, .int 0, .int 0]))] H locs := ⟨hP, hD, hS⟩
  refine lv_aload_n hx hb dK_init_9 rfl (lv_at hl 0 rfl) ?_
  refine lv_bipush (v := 61) hx hb dK_init_10 (by decide) ?_
  refine va_newa (atype := .int) (ty := .int) (N' := 61) (a0 := (61, .inl (fun _ => 0))) hx hb (ht _ tw41) rfl hK hC.1 hC.2.1 hC.2.2 hA (fun _ => rfl) (by decide) (by decide) (by decide) (Nat.le_of_ble_eq_true rfl) (Nat.le_of_ble_eq_true rfl) dK_init_12 (fun q1 cA H hK2 hP hD hS => ?_)
  obtain rfl : cI = cA := jcA (hK2.2 0 (cI, .int) rfl).2 (hK2.2 3 (cA, .int) rfl).2
  have hC : jcx (dC, dI) vwCl (va_A [(h0, .inr (1, [.null, .null, .null, .null, .int 0, .int 0]))] s.heap.size) s.heap [(h0, .inr (1, [.ref t0, .null, .null, .null, .int 0, .int 0])), (q1, .inl (cI, 61, .inl (fun _ => 0)))] H _ := ⟨hP, hD, hS⟩
  refine W.widen (k := 1) (n := 61) (Nat.le_of_ble_eq_true rfl) (Nat.le_of_ble_eq_true rfl) ?_
  refine va_putF (D := (dC, dI)) (ci := 1) (v := .ref q1) (ty := (.array .int)) (C := RcK) (T := TcK) (N := 6) hx hb ht in_cK tycK tycK_ok nmcK hown hK hC.1 hC.2.1 hC.2.2 0 rfl rfl 1 (by decide) (ht _ tw94) (fun _ h9 => h9) rfl hin rfl (by decide +kernel) rfl rfl (Nat.le_of_ble_eq_true rfl) dK_init_14 (fun H locs hP hD hS => ?_)
  have hC : jcx (dC, dI) vwCl (va_A [(h0, .inr (1, [.null, .null, .null, .null, .int 0, .int 0]))] s.heap.size) s.heap [(h0, .inr (1, [.ref t0, .ref q1, .null, .null, .int 0, .int 0])), (q1, .inl (cI, 61, .inl (fun _ => 0)))] H locs := ⟨hP, hD, hS⟩
  refine lv_aload_n hx hb dK_init_17 rfl (lv_at hl 0 rfl) ?_
  refine lv_bipush (v := 61) hx hb dK_init_18 (by decide) ?_
  refine va_newa (atype := .int) (ty := .int) (N' := 61) (a0 := (61, .inl (fun _ => 0))) hx hb (ht _ tw41) rfl hK hC.1 hC.2.1 hC.2.2 hA (fun _ => rfl) (by decide) (by decide) (by decide) (Nat.le_of_ble_eq_true rfl) (Nat.le_of_ble_eq_true rfl) dK_init_20 (fun q2 cA H hK2 hP hD hS => ?_)
  obtain rfl : cI = cA := jcA (hK2.2 0 (cI, .int) rfl).2 (hK2.2 3 (cA, .int) rfl).2
  have hC : jcx (dC, dI) vwCl (va_A [(h0, .inr (1, [.null, .null, .null, .null, .int 0, .int 0]))] s.heap.size) s.heap [(h0, .inr (1, [.ref t0, .ref q1, .null, .null, .int 0, .int 0])), (q1, .inl (cI, 61, .inl (fun _ => 0))), (q2, .inl (cI, 61, .inl (fun _ => 0)))] H _ := ⟨hP, hD, hS⟩
  refine W.widen (k := 2) (n := 122) (Nat.le_of_ble_eq_true rfl) (Nat.le_of_ble_eq_true rfl) ?_
  refine va_putF (D := (dC, dI)) (ci := 1) (v := .ref q2) (ty := (.array .int)) (C := RcK) (T := TcK) (N := 6) hx hb ht in_cK tycK tycK_ok nmcK hown hK hC.1 hC.2.1 hC.2.2 0 rfl rfl 2 (by decide) (ht _ tw95) (fun _ h9 => h9) rfl hin rfl (by decide +kernel) rfl rfl (Nat.le_of_ble_eq_true rfl) dK_init_22 (fun H locs hP hD hS => ?_)
  have hC : jcx (dC, dI) vwCl (va_A [(h0, .inr (1, [.null, .null, .null, .null, .int 0, .int 0]))] s.heap.size) s.heap [(h0, .inr (1, [.ref t0, .ref q1, .ref q2, .null, .int 0, .int 0])), (q1, .inl (cI, 61, .inl (fun _ => 0))), (q2, .inl (cI, 61, .inl (fun _ => 0)))] H locs := ⟨hP, hD, hS⟩
  refine lv_aload_n hx hb dK_init_25 rfl (lv_at hl 0 rfl) ?_
  refine lv_bipush (v := 61) hx hb dK_init_26 (by decide) ?_
  refine va_newa (atype := .int) (ty := .int) (N' := 61) (a0 := (61, .inl (fun _ => 0))) hx hb (ht _ tw41) rfl hK hC.1 hC.2.1 hC.2.2 hA (fun _ => rfl) (by decide) (by decide) (by decide) (Nat.le_of_ble_eq_true rfl) (Nat.le_of_ble_eq_true rfl) dK_init_28 (fun q3 cA H hK2 hP hD hS => ?_)
  obtain rfl : cI = cA := jcA (hK2.2 0 (cI, .int) rfl).2 (hK2.2 3 (cA, .int) rfl).2
  have hC : jcx (dC, dI) vwCl (va_A [(h0, .inr (1, [.null, .null, .null, .null, .int 0, .int 0]))] s.heap.size) s.heap [(h0, .inr (1, [.ref t0, .ref q1, .ref q2, .null, .int 0, .int 0])), (q1, .inl (cI, 61, .inl (fun _ => 0))), (q2, .inl (cI, 61, .inl (fun _ => 0))), (q3, .inl (cI, 61, .inl (fun _ => 0)))] H _ := ⟨hP, hD, hS⟩
  refine W.widen (k := 3) (n := 183) (Nat.le_of_ble_eq_true rfl) (Nat.le_of_ble_eq_true rfl) ?_
  refine va_putF (D := (dC, dI)) (ci := 1) (v := .ref q3) (ty := (.array .int)) (C := RcK) (T := TcK) (N := 6) hx hb ht in_cK tycK tycK_ok nmcK hown hK hC.1 hC.2.1 hC.2.2 0 rfl rfl 3 (by decide) (ht _ tw96) (fun _ h9 => h9) rfl hin rfl (by decide +kernel) rfl rfl (Nat.le_of_ble_eq_true rfl) dK_init_30 (fun H locs hP hD hS => ?_)
  have hC : jcx (dC, dI) vwCl (va_A [(h0, .inr (1, [.null, .null, .null, .null, .int 0, .int 0]))] s.heap.size) s.heap [(h0, .inr (1, [.ref t0, .ref q1, .ref q2, .ref q3, .int 0, .int 0])), (q1, .inl (cI, 61, .inl (fun _ => 0))), (q2, .inl (cI, 61, .inl (fun _ => 0))), (q3, .inl (cI, 61, .inl (fun _ => 0)))] H locs := ⟨hP, hD, hS⟩
  refine lv_aload_n hx hb dK_init_33 rfl (lv_at hl 0 rfl) ?_
  refine lv_iconst (v := 0) hx hb dK_init_34 (by decide) ?_
  refine va_put (D := (dC, dI)) (ci := 1) (v := .int 0) (ty := .int) (C := RcK) (T := TcK) (N := 6) hx hb ht in_cK tycK tycK_ok nmcK hown hK hC.1 hC.2.1 hC.2.2 0 rfl rfl 4 (by decide) (ht _ tw97) (fun _ h9 => h9) rfl (by decide +kernel) rfl rfl (Nat.le_of_ble_eq_true rfl) dK_init_35 (fun H locs hP hD hS => ?_)
  have hC : jcx (dC, dI) vwCl (va_A [(h0, .inr (1, [.null, .null, .null, .null, .int 0, .int 0]))] s.heap.size) s.heap [(h0, .inr (1, [.ref t0, .ref q1, .ref q2, .ref q3, .int 0, .int 0])), (q1, .inl (cI, 61, .inl (fun _ => 0))), (q2, .inl (cI, 61, .inl (fun _ => 0))), (q3, .inl (cI, 61, .inl (fun _ => 0)))] H locs := ⟨hP, hD, hS⟩
  refine lv_aload_n hx hb dK_init_38 rfl (lv_at hl 0 rfl) ?_
  refine lv_iconst (v := 0) hx hb dK_init_39 (by decide) ?_
  refine va_put (D := (dC, dI)) (ci := 1) (v := .int 0) (ty := .int) (C := RcK) (T := TcK) (N := 6) hx hb ht in_cK tycK tycK_ok nmcK hown hK hC.1 hC.2.1 hC.2.2 0 rfl rfl 5 (by decide) (ht _ tw98) (fun _ h9 => h9) rfl (by decide +kernel) rfl rfl (Nat.le_of_ble_eq_true rfl) dK_init_40 (fun H locs hP hD hS => ?_)
  have hC : jcx (dC, dI) vwCl (va_A [(h0, .inr (1, [.null, .null, .null, .null, .int 0, .int 0]))] s.heap.size) s.heap [(h0, .inr (1, [.ref t0, .ref q1, .ref q2, .ref q3, .int 0, .int 0])), (q1, .inl (cI, 61, .inl (fun _ => 0))), (q2, .inl (cI, 61, .inl (fun _ => 0))), (q3, .inl (cI, 61, .inl (fun _ => 0)))] H locs := ⟨hP, hD, hS⟩
  exact jret_k hx hb hr hlk hC hK ⟨q1, q2, q3, rfl⟩ dK_init_43

set_option maxHeartbeats 8000000 in
set_option maxRecDepth 100000 in
theorem kT_init (l : Launch) (dC : Nat → ClassId) (dI : Nat → Nat → Nat) (cI cC cL : ClassId) (sk sv : Nat → Nat) (h0 : Nat) (t0 : Nat)  : Kc l yT_init (Cond.code yT_init prog_6_method_1_code 2 none :: TB) ({ frames := 1, cells := 6, slots := 1995, locals := 12 }) (dC, dI) vwCl [(cI, .int), (cC, .char), (cL, .object "SharedSyntax$Letters")] (jEn sk sv) [.ref h0, .ref t0] [(h0, .inr (2, [.null, .null, .null, .null, .null, .null, .null, .int 0, .int 0]))] (fun u => ∃ q1 q2 q3 q4 q5 q6 : Nat, u = [(h0, .inr (2, [.ref t0, .ref q1, .ref q2, .ref q3, .ref q4, .ref q5, .ref q6, .int 0, .int 0])), (q1, .inl (cI, 363, .inl (fun _ => 0))), (q2, .inl (cI, 363, .inl (fun _ => 0))), (q3, .inl (cI, 363, .inl (fun _ => 0))), (q4, .inl (cI, 363, .inl (fun _ => 0))), (q5, .inl (cI, 363, .inl (fun _ => 0))), (q6, .inl (cI, 180, .inl (fun _ => 0)))]) 6 1995 := by
  refine Kc_of (cc := prog_6_method_1_code) (maxL := 2) (ret := none) (by decide) rfl (Nat.le_of_ble_eq_true rfl) ?_
  intro p e s m below meth c ls F hin hl hK hN hC
  obtain ⟨hx, hb, hml, hown, hts, hr, hlk⟩ := F
  have ht : ∀ w ∈ TB, w.before [.ref h0, .ref t0].toArray s = true := fun w h => hts w (List.mem_cons_of_mem _ h)
  have hA : ∀ q, s.heap.size ≤ q → va_A [(h0, .inr (2, [.null, .null, .null, .null, .null, .null, .null, .int 0, .int 0]))] s.heap.size q := fun q h => Or.inr h
  have hl : lv_has ls 2 [(0, .ref h0), (1, .ref t0)] := hl
  refine lv_aload_n hx hb dT_init_0 rfl (lv_at hl 0 rfl) ?_
  refine W.objInit hx hb hown (ht _ tw51) (ht _ tw21) (ht _ tw22) rfl (by rw [hml]; exact hl.1) rfl dT_init_1 (Nat.le_of_ble_eq_true rfl) (Nat.le_of_ble_eq_true rfl) ?_
  refine W.eq (g2 := F0 m 4 ls []) rfl ?_
  refine lv_aload_n hx hb dT_init_4 rfl (lv_at hl 0 rfl) ?_
  refine lv_aload_n hx hb dT_init_5 rfl (lv_at hl 1 rfl) ?_
  refine va_putF (D := (dC, dI)) (ci := 2) (v := .ref t0) (ty := (.object "SharedSyntax$Letters")) (C := RcT) (T := TcT) (N := 9) hx hb ht in_cT tycT tycT_ok nmcT hown hK hC.1 hC.2.1 hC.2.2 0 rfl rfl 0 (by decide) (ht _ tw52) (fun _ h9 => h9) rfl hin rfl (by decide +kernel) rfl rfl (Nat.le_of_ble_eq_true rfl) dT_init_6 (fun H locs hP hD hS => ?_)
  have hC : jcx (dC, dI) vwCl (va_A [(h0, .inr (2, [.null, .null, .null, .null, .null, .null, .null, .int 0, .int 0]))] s.heap.size) s.heap [(h0, .inr (2, [.ref t0, .null, .null, .null, .null, .null, .null, .int 0, .int 0]))] H locs := ⟨hP, hD, hS⟩
  refine lv_aload_n hx hb dT_init_9 rfl (lv_at hl 0 rfl) ?_
  refine lv_sipush (v := 363) hx hb dT_init_10 (by decide) ?_
  refine va_newa (atype := .int) (ty := .int) (N' := 363) (a0 := (363, .inl (fun _ => 0))) hx hb (ht _ tw41) rfl hK hC.1 hC.2.1 hC.2.2 hA (fun _ => rfl) (by decide) (by decide) (by decide) (Nat.le_of_ble_eq_true rfl) (Nat.le_of_ble_eq_true rfl) dT_init_13 (fun q1 cA H hK2 hP hD hS => ?_)
  obtain rfl : cI = cA := jcA (hK2.2 0 (cI, .int) rfl).2 (hK2.2 3 (cA, .int) rfl).2
  have hC : jcx (dC, dI) vwCl (va_A [(h0, .inr (2, [.null, .null, .null, .null, .null, .null, .null, .int 0, .int 0]))] s.heap.size) s.heap [(h0, .inr (2, [.ref t0, .null, .null, .null, .null, .null, .null, .int 0, .int 0])), (q1, .inl (cI, 363, .inl (fun _ => 0)))] H _ := ⟨hP, hD, hS⟩
  refine W.widen (k := 1) (n := 363) (Nat.le_of_ble_eq_true rfl) (Nat.le_of_ble_eq_true rfl) ?_
  refine va_putF (D := (dC, dI)) (ci := 2) (v := .ref q1) (ty := (.array .int)) (C := RcT) (T := TcT) (N := 9) hx hb ht in_cT tycT tycT_ok nmcT hown hK hC.1 hC.2.1 hC.2.2 0 rfl rfl 1 (by decide) (ht _ tw53) (fun _ h9 => h9) rfl hin rfl (by decide +kernel) rfl rfl (Nat.le_of_ble_eq_true rfl) dT_init_15 (fun H locs hP hD hS => ?_)
  have hC : jcx (dC, dI) vwCl (va_A [(h0, .inr (2, [.null, .null, .null, .null, .null, .null, .null, .int 0, .int 0]))] s.heap.size) s.heap [(h0, .inr (2, [.ref t0, .ref q1, .null, .null, .null, .null, .null, .int 0, .int 0])), (q1, .inl (cI, 363, .inl (fun _ => 0)))] H locs := ⟨hP, hD, hS⟩
  refine lv_aload_n hx hb dT_init_18 rfl (lv_at hl 0 rfl) ?_
  refine lv_sipush (v := 363) hx hb dT_init_19 (by decide) ?_
  refine va_newa (atype := .int) (ty := .int) (N' := 363) (a0 := (363, .inl (fun _ => 0))) hx hb (ht _ tw41) rfl hK hC.1 hC.2.1 hC.2.2 hA (fun _ => rfl) (by decide) (by decide) (by decide) (Nat.le_of_ble_eq_true rfl) (Nat.le_of_ble_eq_true rfl) dT_init_22 (fun q2 cA H hK2 hP hD hS => ?_)
  obtain rfl : cI = cA := jcA (hK2.2 0 (cI, .int) rfl).2 (hK2.2 3 (cA, .int) rfl).2
  have hC : jcx (dC, dI) vwCl (va_A [(h0, .inr (2, [.null, .null, .null, .null, .null, .null, .null, .int 0, .int 0]))] s.heap.size) s.heap [(h0, .inr (2, [.ref t0, .ref q1, .null, .null, .null, .null, .null, .int 0, .int 0])), (q1, .inl (cI, 363, .inl (fun _ => 0))), (q2, .inl (cI, 363, .inl (fun _ => 0)))] H _ := ⟨hP, hD, hS⟩
  refine W.widen (k := 2) (n := 726) (Nat.le_of_ble_eq_true rfl) (Nat.le_of_ble_eq_true rfl) ?_
  refine va_putF (D := (dC, dI)) (ci := 2) (v := .ref q2) (ty := (.array .int)) (C := RcT) (T := TcT) (N := 9) hx hb ht in_cT tycT tycT_ok nmcT hown hK hC.1 hC.2.1 hC.2.2 0 rfl rfl 2 (by decide) (ht _ tw55) (fun _ h9 => h9) rfl hin rfl (by decide +kernel) rfl rfl (Nat.le_of_ble_eq_true rfl) dT_init_24 (fun H locs hP hD hS => ?_)
  have hC : jcx (dC, dI) vwCl (va_A [(h0, .inr (2, [.null, .null, .null, .null, .null, .null, .null, .int 0, .int 0]))] s.heap.size) s.heap [(h0, .inr (2, [.ref t0, .ref q1, .ref q2, .null, .null, .null, .null, .int 0, .int 0])), (q1, .inl (cI, 363, .inl (fun _ => 0))), (q2, .inl (cI, 363, .inl (fun _ => 0)))] H locs := ⟨hP, hD, hS⟩
  refine lv_aload_n hx hb dT_init_27 rfl (lv_at hl 0 rfl) ?_
  refine lv_sipush (v := 363) hx hb dT_init_28 (by decide) ?_
  refine va_newa (atype := .int) (ty := .int) (N' := 363) (a0 := (363, .inl (fun _ => 0))) hx hb (ht _ tw41) rfl hK hC.1 hC.2.1 hC.2.2 hA (fun _ => rfl) (by decide) (by decide) (by decide) (Nat.le_of_ble_eq_true rfl) (Nat.le_of_ble_eq_true rfl) dT_init_31 (fun q3 cA H hK2 hP hD hS => ?_)
  obtain rfl : cI = cA := jcA (hK2.2 0 (cI, .int) rfl).2 (hK2.2 3 (cA, .int) rfl).2
  have hC : jcx (dC, dI) vwCl (va_A [(h0, .inr (2, [.null, .null, .null, .null, .null, .null, .null, .int 0, .int 0]))] s.heap.size) s.heap [(h0, .inr (2, [.ref t0, .ref q1, .ref q2, .null, .null, .null, .null, .int 0, .int 0])), (q1, .inl (cI, 363, .inl (fun _ => 0))), (q2, .inl (cI, 363, .inl (fun _ => 0))), (q3, .inl (cI, 363, .inl (fun _ => 0)))] H _ := ⟨hP, hD, hS⟩
  refine W.widen (k := 3) (n := 1089) (Nat.le_of_ble_eq_true rfl) (Nat.le_of_ble_eq_true rfl) ?_
  refine va_putF (D := (dC, dI)) (ci := 2) (v := .ref q3) (ty := (.array .int)) (C := RcT) (T := TcT) (N := 9) hx hb ht in_cT tycT tycT_ok nmcT hown hK hC.1 hC.2.1 hC.2.2 0 rfl rfl 3 (by decide) (ht _ tw57) (fun _ h9 => h9) rfl hin rfl (by decide +kernel) rfl rfl (Nat.le_of_ble_eq_true rfl) dT_init_33 (fun H locs hP hD hS => ?_)
  have hC : jcx (dC, dI) vwCl (va_A [(h0, .inr (2, [.null, .null, .null, .null, .null, .null, .null, .int 0, .int 0]))] s.heap.size) s.heap [(h0, .inr (2, [.ref t0, .ref q1, .ref q2, .ref q3, .null, .null, .null, .int 0, .int 0])), (q1, .inl (cI, 363, .inl (fun _ => 0))), (q2, .inl (cI, 363, .inl (fun _ => 0))), (q3, .inl (cI, 363, .inl (fun _ => 0)))] H locs := ⟨hP, hD, hS⟩
  refine lv_aload_n hx hb dT_init_36 rfl (lv_at hl 0 rfl) ?_
  refine lv_sipush (v := 363) hx hb dT_init_37 (by decide) ?_
  refine va_newa (atype := .int) (ty := .int) (N' := 363) (a0 := (363, .inl (fun _ => 0))) hx hb (ht _ tw41) rfl hK hC.1 hC.2.1 hC.2.2 hA (fun _ => rfl) (by decide) (by decide) (by decide) (Nat.le_of_ble_eq_true rfl) (Nat.le_of_ble_eq_true rfl) dT_init_40 (fun q4 cA H hK2 hP hD hS => ?_)
  obtain rfl : cI = cA := jcA (hK2.2 0 (cI, .int) rfl).2 (hK2.2 3 (cA, .int) rfl).2
  have hC : jcx (dC, dI) vwCl (va_A [(h0, .inr (2, [.null, .null, .null, .null, .null, .null, .null, .int 0, .int 0]))] s.heap.size) s.heap [(h0, .inr (2, [.ref t0, .ref q1, .ref q2, .ref q3, .null, .null, .null, .int 0, .int 0])), (q1, .inl (cI, 363, .inl (fun _ => 0))), (q2, .inl (cI, 363, .inl (fun _ => 0))), (q3, .inl (cI, 363, .inl (fun _ => 0))), (q4, .inl (cI, 363, .inl (fun _ => 0)))] H _ := ⟨hP, hD, hS⟩
  refine W.widen (k := 4) (n := 1452) (Nat.le_of_ble_eq_true rfl) (Nat.le_of_ble_eq_true rfl) ?_
  refine va_putF (D := (dC, dI)) (ci := 2) (v := .ref q4) (ty := (.array .int)) (C := RcT) (T := TcT) (N := 9) hx hb ht in_cT tycT tycT_ok nmcT hown hK hC.1 hC.2.1 hC.2.2 0 rfl rfl 4 (by decide) (ht _ tw59) (fun _ h9 => h9) rfl hin rfl (by decide +kernel) rfl rfl (Nat.le_of_ble_eq_true rfl) dT_init_42 (fun H locs hP hD hS => ?_)
  have hC : jcx (dC, dI) vwCl (va_A [(h0, .inr (2, [.null, .null, .null, .null, .null, .null, .null, .int 0, .int 0]))] s.heap.size) s.heap [(h0, .inr (2, [.ref t0, .ref q1, .ref q2, .ref q3, .ref q4, .null, .null, .int 0, .int 0])), (q1, .inl (cI, 363, .inl (fun _ => 0))), (q2, .inl (cI, 363, .inl (fun _ => 0))), (q3, .inl (cI, 363, .inl (fun _ => 0))), (q4, .inl (cI, 363, .inl (fun _ => 0)))] H locs := ⟨hP, hD, hS⟩
  refine lv_aload_n hx hb dT_init_45 rfl (lv_at hl 0 rfl) ?_
  refine lv_sipush (v := 363) hx hb dT_init_46 (by decide) ?_
  refine va_newa (atype := .int) (ty := .int) (N' := 363) (a0 := (363, .inl (fun _ => 0))) hx hb (ht _ tw41) rfl hK hC.1 hC.2.1 hC.2.2 hA (fun _ => rfl) (by decide) (by decide) (by decide) (Nat.le_of_ble_eq_true rfl) (Nat.le_of_ble_eq_true rfl) dT_init_49 (fun q5 cA H hK2 hP hD hS => ?_)
  obtain rfl : cI = cA := jcA (hK2.2 0 (cI, .int) rfl).2 (hK2.2 3 (cA, .int) rfl).2
  have hC : jcx (dC, dI) vwCl (va_A [(h0, .inr (2, [.null, .null, .null, .null, .null, .null, .null, .int 0, .int 0]))] s.heap.size) s.heap [(h0, .inr (2, [.ref t0, .ref q1, .ref q2, .ref q3, .ref q4, .null, .null, .int 0, .int 0])), (q1, .inl (cI, 363, .inl (fun _ => 0))), (q2, .inl (cI, 363, .inl (fun _ => 0))), (q3, .inl (cI, 363, .inl (fun _ => 0))), (q4, .inl (cI, 363, .inl (fun _ => 0))), (q5, .inl (cI, 363, .inl (fun _ => 0)))] H _ := ⟨hP, hD, hS⟩
  refine W.widen (k := 5) (n := 1815) (Nat.le_of_ble_eq_true rfl) (Nat.le_of_ble_eq_true rfl) ?_
  refine va_putF (D := (dC, dI)) (ci := 2) (v := .ref q5) (ty := (.array .int)) (C := RcT) (T := TcT) (N := 9) hx hb ht in_cT tycT tycT_ok nmcT hown hK hC.1 hC.2.1 hC.2.2 0 rfl rfl 5 (by decide) (ht _ tw60) (fun _ h9 => h9) rfl hin rfl (by decide +kernel) rfl rfl (Nat.le_of_ble_eq_true rfl) dT_init_51 (fun H locs hP hD hS => ?_)
  have hC : jcx (dC, dI) vwCl (va_A [(h0, .inr (2, [.null, .null, .null, .null, .null, .null, .null, .int 0, .int 0]))] s.heap.size) s.heap [(h0, .inr (2, [.ref t0, .ref q1, .ref q2, .ref q3, .ref q4, .ref q5, .null, .int 0, .int 0])), (q1, .inl (cI, 363, .inl (fun _ => 0))), (q2, .inl (cI, 363, .inl (fun _ => 0))), (q3, .inl (cI, 363, .inl (fun _ => 0))), (q4, .inl (cI, 363, .inl (fun _ => 0))), (q5, .inl (cI, 363, .inl (fun _ => 0)))] H locs := ⟨hP, hD, hS⟩
  refine lv_aload_n hx hb dT_init_54 rfl (lv_at hl 0 rfl) ?_
  refine lv_sipush (v := 180) hx hb dT_init_55 (by decide) ?_
  refine va_newa (atype := .int) (ty := .int) (N' := 180) (a0 := (180, .inl (fun _ => 0))) hx hb (ht _ tw41) rfl hK hC.1 hC.2.1 hC.2.2 hA (fun _ => rfl) (by decide) (by decide) (by decide) (Nat.le_of_ble_eq_true rfl) (Nat.le_of_ble_eq_true rfl) dT_init_58 (fun q6 cA H hK2 hP hD hS => ?_)
  obtain rfl : cI = cA := jcA (hK2.2 0 (cI, .int) rfl).2 (hK2.2 3 (cA, .int) rfl).2
  have hC : jcx (dC, dI) vwCl (va_A [(h0, .inr (2, [.null, .null, .null, .null, .null, .null, .null, .int 0, .int 0]))] s.heap.size) s.heap [(h0, .inr (2, [.ref t0, .ref q1, .ref q2, .ref q3, .ref q4, .ref q5, .null, .int 0, .int 0])), (q1, .inl (cI, 363, .inl (fun _ => 0))), (q2, .inl (cI, 363, .inl (fun _ => 0))), (q3, .inl (cI, 363, .inl (fun _ => 0))), (q4, .inl (cI, 363, .inl (fun _ => 0))), (q5, .inl (cI, 363, .inl (fun _ => 0))), (q6, .inl (cI, 180, .inl (fun _ => 0)))] H _ := ⟨hP, hD, hS⟩
  refine W.widen (k := 6) (n := 1995) (Nat.le_of_ble_eq_true rfl) (Nat.le_of_ble_eq_true rfl) ?_
  refine va_putF (D := (dC, dI)) (ci := 2) (v := .ref q6) (ty := (.array .int)) (C := RcT) (T := TcT) (N := 9) hx hb ht in_cT tycT tycT_ok nmcT hown hK hC.1 hC.2.1 hC.2.2 0 rfl rfl 6 (by decide) (ht _ tw61) (fun _ h9 => h9) rfl hin rfl (by decide +kernel) rfl rfl (Nat.le_of_ble_eq_true rfl) dT_init_60 (fun H locs hP hD hS => ?_)
  have hC : jcx (dC, dI) vwCl (va_A [(h0, .inr (2, [.null, .null, .null, .null, .null, .null, .null, .int 0, .int 0]))] s.heap.size) s.heap [(h0, .inr (2, [.ref t0, .ref q1, .ref q2, .ref q3, .ref q4, .ref q5, .ref q6, .int 0, .int 0])), (q1, .inl (cI, 363, .inl (fun _ => 0))), (q2, .inl (cI, 363, .inl (fun _ => 0))), (q3, .inl (cI, 363, .inl (fun _ => 0))), (q4, .inl (cI, 363, .inl (fun _ => 0))), (q5, .inl (cI, 363, .inl (fun _ => 0))), (q6, .inl (cI, 180, .inl (fun _ => 0)))] H locs := ⟨hP, hD, hS⟩
  refine lv_aload_n hx hb dT_init_63 rfl (lv_at hl 0 rfl) ?_
  refine lv_iconst (v := 0) hx hb dT_init_64 (by decide) ?_
  refine va_put (D := (dC, dI)) (ci := 2) (v := .int 0) (ty := .int) (C := RcT) (T := TcT) (N := 9) hx hb ht in_cT tycT tycT_ok nmcT hown hK hC.1 hC.2.1 hC.2.2 0 rfl rfl 7 (by decide) (ht _ tw63) (fun _ h9 => h9) rfl (by decide +kernel) rfl rfl (Nat.le_of_ble_eq_true rfl) dT_init_65 (fun H locs hP hD hS => ?_)
  have hC : jcx (dC, dI) vwCl (va_A [(h0, .inr (2, [.null, .null, .null, .null, .null, .null, .null, .int 0, .int 0]))] s.heap.size) s.heap [(h0, .inr (2, [.ref t0, .ref q1, .ref q2, .ref q3, .ref q4, .ref q5, .ref q6, .int 0, .int 0])), (q1, .inl (cI, 363, .inl (fun _ => 0))), (q2, .inl (cI, 363, .inl (fun _ => 0))), (q3, .inl (cI, 363, .inl (fun _ => 0))), (q4, .inl (cI, 363, .inl (fun _ => 0))), (q5, .inl (cI, 363, .inl (fun _ => 0))), (q6, .inl (cI, 180, .inl (fun _ => 0)))] H locs := ⟨hP, hD, hS⟩
  refine lv_aload_n hx hb dT_init_68 rfl (lv_at hl 0 rfl) ?_
  refine lv_iconst (v := 0) hx hb dT_init_69 (by decide) ?_
  refine va_put (D := (dC, dI)) (ci := 2) (v := .int 0) (ty := .int) (C := RcT) (T := TcT) (N := 9) hx hb ht in_cT tycT tycT_ok nmcT hown hK hC.1 hC.2.1 hC.2.2 0 rfl rfl 8 (by decide) (ht _ tw66) (fun _ h9 => h9) rfl (by decide +kernel) rfl rfl (Nat.le_of_ble_eq_true rfl) dT_init_70 (fun H locs hP hD hS => ?_)
  have hC : jcx (dC, dI) vwCl (va_A [(h0, .inr (2, [.null, .null, .null, .null, .null, .null, .null, .int 0, .int 0]))] s.heap.size) s.heap [(h0, .inr (2, [.ref t0, .ref q1, .ref q2, .ref q3, .ref q4, .ref q5, .ref q6, .int 0, .int 0])), (q1, .inl (cI, 363, .inl (fun _ => 0))), (q2, .inl (cI, 363, .inl (fun _ => 0))), (q3, .inl (cI, 363, .inl (fun _ => 0))), (q4, .inl (cI, 363, .inl (fun _ => 0))), (q5, .inl (cI, 363, .inl (fun _ => 0))), (q6, .inl (cI, 180, .inl (fun _ => 0)))] H locs := ⟨hP, hD, hS⟩
  exact jret_k hx hb hr hlk hC hK ⟨q1, q2, q3, q4, q5, q6, rfl⟩ dT_init_73

set_option maxHeartbeats 8000000 in
set_option maxRecDepth 100000 in
theorem kR_init (l : Launch) (dC : Nat → ClassId) (dI : Nat → Nat → Nat) (cI cC cL : ClassId) (sk sv : Nat → Nat) (h0 : Nat) (t0 : Nat)  : Kc l yR_init (Cond.code yR_init prog_4_method_1_code 2 none :: TB) ({ frames := 2, cells := 15, slots := 2433, locals := 33 }) (dC, dI) vwCl [(cI, .int), (cC, .char), (cL, .object "SharedSyntax$Letters")] (jEn sk sv) [.ref h0, .ref t0] [(h0, .inr (3, [.null, .null, .null, .int 0, .null, .null, .int 0, .null, .null, .int 0]))] (fun u => ∃ q1 q2 q3 q4 q5 q6 q7 q8 q9 q10 q11 q12 q13 q14 q15 : Nat, u = [(h0, .inr (3, [.ref t0, .ref q1, .ref q8, .int 0, .ref q12, .ref q13, .int 0, .ref q14, .ref q15, .int 0])), (q1, .inr (2, [.ref t0, .ref q2, .ref q3, .ref q4, .ref q5, .ref q6, .ref q7, .int 0, .int 0])), (q2, .inl (cI, 363, .inl (fun _ => 0))), (q3, .inl (cI, 363, .inl (fun _ => 0))), (q4, .inl (cI, 363, .inl (fun _ => 0))), (q5, .inl (cI, 363, .inl (fun _ => 0))), (q6, .inl (cI, 363, .inl (fun _ => 0))), (q7, .inl (cI, 180, .inl (fun _ => 0))), (q8, .inr (1, [.ref t0, .ref q9, .ref q10, .ref q11, .int 0, .int 0])), (q9, .inl (cI, 61, .inl (fun _ => 0))), (q10, .inl (cI, 61, .inl (fun _ => 0))), (q11, .inl (cI, 61, .inl (fun _ => 0))), (q12, .inl (cI, 60, .inl (fun _ => 0))), (q13, .inl (cI, 60, .inl (fun _ => 0))), (q14, .inl (cI, 60, .inl (fun _ => 0))), (q15, .inl (cI, 60, .inl (fun _ => 0)))]) 15 2433 := by
  refine Kc_of (cc := prog_4_method_1_code) (maxL := 2) (ret := none) (by decide) rfl (Nat.le_of_ble_eq_true rfl) ?_
  intro p e s m below meth c ls F hin hl hK hN hC
  obtain ⟨hx, hb, hml, hown, hts, hr, hlk⟩ := F
  have ht : ∀ w ∈ TB, w.before [.ref h0, .ref t0].toArray s = true := fun w h => hts w (List.mem_cons_of_mem _ h)
  have hA : ∀ q, s.heap.size ≤ q → va_A [(h0, .inr (3, [.null, .null, .null, .int 0, .null, .null, .int 0, .null, .null, .int 0]))] s.heap.size q := fun q h => Or.inr h
  have hl : lv_has ls 2 [(0, .ref h0), (1, .ref t0)] := hl
  refine lv_aload_n hx hb dR_init_0 rfl (lv_at hl 0 rfl) ?_
  refine W.objInit hx hb hown (ht _ tw45) (ht _ tw21) (ht _ tw22) rfl (by rw [hml]; exact hl.1) rfl dR_init_1 (Nat.le_of_ble_eq_true rfl) (Nat.le_of_ble_eq_true rfl) ?_
  refine W.eq (g2 := F0 m 4 ls []) rfl ?_
  refine lv_aload_n hx hb dR_init_4 rfl (lv_at hl 0 rfl) ?_
  refine lv_aload_n hx hb dR_init_5 rfl (lv_at hl 1 rfl) ?_
  refine va_putF (D := (dC, dI)) (ci := 3) (v := .ref t0) (ty := (.object "SharedSyntax$Letters")) (C := RcR) (T := TcR) (N := 10) hx hb ht in_cR tycR tycR_ok nmcR hown hK hC.1 hC.2.1 hC.2.2 0 rfl rfl 0 (by decide) (ht _ tw112) (fun _ h9 => h9) rfl hin rfl (by decide +kernel) rfl rfl (Nat.le_of_ble_eq_true rfl) dR_init_6 (fun H locs hP hD hS => ?_)
  have hC : jcx (dC, dI) vwCl (va_A [(h0, .inr (3, [.null, .null, .null, .int 0, .null, .null, .int 0, .null, .null, .int 0]))] s.heap.size) s.heap [(h0, .inr (3, [.ref t0, .null, .null, .int 0, .null, .null, .int 0, .null, .null, .int 0]))] H locs := ⟨hP, hD, hS⟩
  refine lv_aload_n hx hb dR_init_9 rfl (lv_at hl 0 rfl) ?_
  refine va_new (ci := 2) (fs := [.null, .null, .null, .null, .null, .null, .null, .int 0, .int 0]) (C := RcT) (T := TcT) (N := 9) hx hb ht in_cT tycT tycT_ok hown (ht _ tw46) (ht _ tw47) (ht _ tw4) hK hC.1 hC.2.1 hC.2.2 hA rfl (kd_T) (Nat.le_of_ble_eq_true rfl) (Nat.le_of_ble_eq_true rfl) dR_init_10 (fun q1 H hP hD hS => ?_)
  have hC : jcx (dC, dI) vwCl (va_A [(h0, .inr (3, [.null, .null, .null, .int 0, .null, .null, .int 0, .null, .null, .int 0]))] s.heap.size) s.heap [(h0, .inr (3, [.ref t0, .null, .null, .int 0, .null, .null, .int 0, .null, .null, .int 0])), (q1, .inr (2, [.null, .null, .null, .null, .null, .null, .null, .int 0, .int 0]))] H _ := ⟨hP, hD, hS⟩
  refine W.widen (k := 1) (n := 9) (Nat.le_of_ble_eq_true rfl) (Nat.le_of_ble_eq_true rfl) ?_
  refine lv_dup hx hb dR_init_13 rfl ?_
  refine lv_aload_n hx hb dR_init_14 rfl (lv_at hl 1 rfl) ?_
  have hCc : jcx (dC, dI) vwCl (va_A [(h0, .inr (3, [.null, .null, .null, .int 0, .null, .null, .int 0, .null, .null, .int 0]))] s.heap.size) s.heap [(q1, .inr (2, [.null, .null, .null, .null, .null, .null, .null, .int 0, .int 0]))] _ _ := ⟨hC.1.sub [1] rfl, hC.2.1.sub [1] rfl rfl, hC.2.2⟩
  refine jcall_k (isC := [1]) (isR := [0]) (wc := [(q1, .inr (2, [.null, .null, .null, .null, .null, .null, .null, .int 0, .int 0]))]) (wr := [(h0, .inr (3, [.ref t0, .null, .null, .int 0, .null, .null, .int 0, .null, .null, .int 0]))]) rfl rfl rfl (by decide) (va_runI (As := [.ref t0]) (rest := [.ref q1, .ref h0]) ⟨hx, hb, hml, hown, hts⟩ (kT_init l dC dI cI cC cL sk sv q1 t0 _) ⟨(callB_of 1 hts (tb_good tw50) rfl rfl rfl (ht _ tw4) (ht _ tw48) (by decide +kernel) ⟨Nat.le_of_ble_eq_true rfl, Nat.le_of_ble_eq_true rfl⟩), rfl, ht _ tw49⟩ (jpreS (jEn_ok sk sv) hCc hA hK hN _) rfl rfl hl.1 rfl (lv_room (Nat.le_of_ble_eq_true rfl)) dR_init_15 ⟨Nat.le_of_ble_eq_true rfl, Nat.le_of_ble_eq_true rfl⟩) hC hA (fun u H locs hB hC => ?_)
  obtain ⟨q2, q3, q4, q5, q6, q7, rfl⟩ := hB
  have hC : jcx (dC, dI) vwCl (va_A [(h0, .inr (3, [.null, .null, .null, .int 0, .null, .null, .int 0, .null, .null, .int 0]))] s.heap.size) s.heap [(h0, .inr (3, [.ref t0, .null, .null, .int 0, .null, .null, .int 0, .null, .null, .int 0])), (q1, .inr (2, [.ref t0, .ref q2, .ref q3, .ref q4, .ref q5, .ref q6, .ref q7, .int 0, .int 0])), (q2, .inl (cI, 363, .inl (fun _ => 0))), (q3, .inl (cI, 363, .inl (fun _ => 0))), (q4, .inl (cI, 363, .inl (fun _ => 0))), (q5, .inl (cI, 363, .inl (fun _ => 0))), (q6, .inl (cI, 363, .inl (fun _ => 0))), (q7, .inl (cI, 180, .inl (fun _ => 0)))] H locs := hC
  refine W.widen (k := 7) (n := 2004) (Nat.le_of_ble_eq_true rfl) (Nat.le_of_ble_eq_true rfl) ?_
  refine va_putF (D := (dC, dI)) (ci := 3) (v := .ref q1) (ty := (.object "SharedSyntax$Tree")) (C := RcR) (T := TcR) (N := 10) hx hb ht in_cR tycR tycR_ok nmcR hown hK hC.1 hC.2.1 hC.2.2 0 rfl rfl 1 (by decide) (ht _ tw114) (fun _ h9 => h9) rfl hin rfl (by decide +kernel) rfl rfl (Nat.le_of_ble_eq_true rfl) dR_init_18 (fun H locs hP hD hS => ?_)
  have hC : jcx (dC, dI) vwCl (va_A [(h0, .inr (3, [.null, .null, .null, .int 0, .null, .null, .int 0, .null, .null, .int 0]))] s.heap.size) s.heap [(h0, .inr (3, [.ref t0, .ref q1, .null, .int 0, .null, .null, .int 0, .null, .null, .int 0])), (q1, .inr (2, [.ref t0, .ref q2, .ref q3, .ref q4, .ref q5, .ref q6, .ref q7, .int 0, .int 0])), (q2, .inl (cI, 363, .inl (fun _ => 0))), (q3, .inl (cI, 363, .inl (fun _ => 0))), (q4, .inl (cI, 363, .inl (fun _ => 0))), (q5, .inl (cI, 363, .inl (fun _ => 0))), (q6, .inl (cI, 363, .inl (fun _ => 0))), (q7, .inl (cI, 180, .inl (fun _ => 0)))] H locs := ⟨hP, hD, hS⟩
  refine lv_aload_n hx hb dR_init_21 rfl (lv_at hl 0 rfl) ?_
  refine va_new (ci := 1) (fs := [.null, .null, .null, .null, .int 0, .int 0]) (C := RcK) (T := TcK) (N := 6) hx hb ht in_cK tycK tycK_ok hown (ht _ tw87) (ht _ tw88) (ht _ tw5) hK hC.1 hC.2.1 hC.2.2 hA rfl (kd_K) (Nat.le_of_ble_eq_true rfl) (Nat.le_of_ble_eq_true rfl) dR_init_22 (fun q8 H hP hD hS => ?_)
  have hC : jcx (dC, dI) vwCl (va_A [(h0, .inr (3, [.null, .null, .null, .int 0, .null, .null, .int 0, .null, .null, .int 0]))] s.heap.size) s.heap [(h0, .inr (3, [.ref t0, .ref q1, .null, .int 0, .null, .null, .int 0, .null, .null, .int 0])), (q1, .inr (2, [.ref t0, .ref q2, .ref q3, .ref q4, .ref q5, .ref q6, .ref q7, .int 0, .int 0])), (q2, .inl (cI, 363, .inl (fun _ => 0))), (q3, .inl (cI, 363, .inl (fun _ => 0))), (q4, .inl (cI, 363, .inl (fun _ => 0))), (q5, .inl (cI, 363, .inl (fun _ => 0))), (q6, .inl (cI, 363, .inl (fun _ => 0))), (q7, .inl (cI, 180, .inl (fun _ => 0))), (q8, .inr (1, [.null, .null, .null, .null, .int 0, .int 0]))] H _ := ⟨hP, hD, hS⟩
  refine W.widen (k := 8) (n := 2010) (Nat.le_of_ble_eq_true rfl) (Nat.le_of_ble_eq_true rfl) ?_
  refine lv_dup hx hb dR_init_25 rfl ?_
  refine lv_aload_n hx hb dR_init_26 rfl (lv_at hl 1 rfl) ?_
  have hCc : jcx (dC, dI) vwCl (va_A [(h0, .inr (3, [.null, .null, .null, .int 0, .null, .null, .int 0, .null, .null, .int 0]))] s.heap.size) s.heap [(q8, .inr (1, [.null, .null, .null, .null, .int 0, .int 0]))] _ _ := ⟨hC.1.sub [8] rfl, hC.2.1.sub [8] rfl rfl, hC.2.2⟩
  refine jcall_k (isC := [8]) (isR := [0, 1, 2, 3, 4, 5, 6, 7]) (wc := [(q8, .inr (1, [.null, .null, .null, .null, .int 0, .int 0]))]) (wr := [(h0, .inr (3, [.ref t0, .ref q1, .null, .int 0, .null, .null, .int 0, .null, .null, .int 0])), (q1, .inr (2, [.ref t0, .ref q2, .ref q3, .ref q4, .ref q5, .ref q6, .ref q7, .int 0, .int 0])), (q2, .inl (cI, 363, .inl (fun _ => 0))), (q3, .inl (cI, 363, .inl (fun _ => 0))), (q4, .inl (cI, 363, .inl (fun _ => 0))), (q5, .inl (cI, 363, .inl (fun _ => 0))), (q6, .inl (cI, 363, .inl (fun _ => 0))), (q7, .inl (cI, 180, .inl (fun _ => 0)))]) rfl rfl rfl (by decide) (va_runI (As := [.ref t0]) (rest := [.ref q8, .ref h0]) ⟨hx, hb, hml, hown, hts⟩ (kK_init l dC dI cI cC cL sk sv q8 t0 _) ⟨(callB_of 1 hts (tb_good tw91) rfl rfl rfl (ht _ tw5) (ht _ tw89) (by decide +kernel) ⟨Nat.le_of_ble_eq_true rfl, Nat.le_of_ble_eq_true rfl⟩), rfl, ht _ tw90⟩ (jpreS (jEn_ok sk sv) hCc hA hK hN _) rfl rfl hl.1 rfl (lv_room (Nat.le_of_ble_eq_true rfl)) dR_init_27 ⟨Nat.le_of_ble_eq_true rfl, Nat.le_of_ble_eq_true rfl⟩) hC hA (fun u H locs hB hC => ?_)
  obtain ⟨q9, q10, q11, rfl⟩ := hB
  have hC : jcx (dC, dI) vwCl (va_A [(h0, .inr (3, [.null, .null, .null, .int 0, .null, .null, .int 0, .null, .null, .int 0]))] s.heap.size) s.heap [(h0, .inr (3, [.ref t0, .ref q1, .null, .int 0, .null, .null, .int 0, .null, .null, .int 0])), (q1, .inr (2, [.ref t0, .ref q2, .ref q3, .ref q4, .ref q5, .ref q6, .ref q7, .int 0, .int 0])), (q2, .inl (cI, 363, .inl (fun _ => 0))), (q3, .inl (cI, 363, .inl (fun _ => 0))), (q4, .inl (cI, 363, .inl (fun _ => 0))), (q5, .inl (cI, 363, .inl (fun _ => 0))), (q6, .inl (cI, 363, .inl (fun _ => 0))), (q7, .inl (cI, 180, .inl (fun _ => 0))), (q8, .inr (1, [.ref t0, .ref q9, .ref q10, .ref q11, .int 0, .int 0])), (q9, .inl (cI, 61, .inl (fun _ => 0))), (q10, .inl (cI, 61, .inl (fun _ => 0))), (q11, .inl (cI, 61, .inl (fun _ => 0)))] H locs := hC
  refine W.widen (k := 11) (n := 2193) (Nat.le_of_ble_eq_true rfl) (Nat.le_of_ble_eq_true rfl) ?_
  refine va_putF (D := (dC, dI)) (ci := 3) (v := .ref q8) (ty := (.object "SharedSyntax$Tokens")) (C := RcR) (T := TcR) (N := 10) hx hb ht in_cR tycR tycR_ok nmcR hown hK hC.1 hC.2.1 hC.2.2 0 rfl rfl 2 (by decide) (ht _ tw116) (fun _ h9 => h9) rfl hin rfl (by decide +kernel) rfl rfl (Nat.le_of_ble_eq_true rfl) dR_init_30 (fun H locs hP hD hS => ?_)
  have hC : jcx (dC, dI) vwCl (va_A [(h0, .inr (3, [.null, .null, .null, .int 0, .null, .null, .int 0, .null, .null, .int 0]))] s.heap.size) s.heap [(h0, .inr (3, [.ref t0, .ref q1, .ref q8, .int 0, .null, .null, .int 0, .null, .null, .int 0])), (q1, .inr (2, [.ref t0, .ref q2, .ref q3, .ref q4, .ref q5, .ref q6, .ref q7, .int 0, .int 0])), (q2, .inl (cI, 363, .inl (fun _ => 0))), (q3, .inl (cI, 363, .inl (fun _ => 0))), (q4, .inl (cI, 363, .inl (fun _ => 0))), (q5, .inl (cI, 363, .inl (fun _ => 0))), (q6, .inl (cI, 363, .inl (fun _ => 0))), (q7, .inl (cI, 180, .inl (fun _ => 0))), (q8, .inr (1, [.ref t0, .ref q9, .ref q10, .ref q11, .int 0, .int 0])), (q9, .inl (cI, 61, .inl (fun _ => 0))), (q10, .inl (cI, 61, .inl (fun _ => 0))), (q11, .inl (cI, 61, .inl (fun _ => 0)))] H locs := ⟨hP, hD, hS⟩
  refine lv_aload_n hx hb dR_init_33 rfl (lv_at hl 0 rfl) ?_
  refine lv_bipush (v := 60) hx hb dR_init_34 (by decide) ?_
  refine va_newa (atype := .int) (ty := .int) (N' := 60) (a0 := (60, .inl (fun _ => 0))) hx hb (ht _ tw41) rfl hK hC.1 hC.2.1 hC.2.2 hA (fun _ => rfl) (by decide) (by decide) (by decide) (Nat.le_of_ble_eq_true rfl) (Nat.le_of_ble_eq_true rfl) dR_init_36 (fun q12 cA H hK2 hP hD hS => ?_)
  obtain rfl : cI = cA := jcA (hK2.2 0 (cI, .int) rfl).2 (hK2.2 3 (cA, .int) rfl).2
  have hC : jcx (dC, dI) vwCl (va_A [(h0, .inr (3, [.null, .null, .null, .int 0, .null, .null, .int 0, .null, .null, .int 0]))] s.heap.size) s.heap [(h0, .inr (3, [.ref t0, .ref q1, .ref q8, .int 0, .null, .null, .int 0, .null, .null, .int 0])), (q1, .inr (2, [.ref t0, .ref q2, .ref q3, .ref q4, .ref q5, .ref q6, .ref q7, .int 0, .int 0])), (q2, .inl (cI, 363, .inl (fun _ => 0))), (q3, .inl (cI, 363, .inl (fun _ => 0))), (q4, .inl (cI, 363, .inl (fun _ => 0))), (q5, .inl (cI, 363, .inl (fun _ => 0))), (q6, .inl (cI, 363, .inl (fun _ => 0))), (q7, .inl (cI, 180, .inl (fun _ => 0))), (q8, .inr (1, [.ref t0, .ref q9, .ref q10, .ref q11, .int 0, .int 0])), (q9, .inl (cI, 61, .inl (fun _ => 0))), (q10, .inl (cI, 61, .inl (fun _ => 0))), (q11, .inl (cI, 61, .inl (fun _ => 0))), (q12, .inl (cI, 60, .inl (fun _ => 0)))] H _ := ⟨hP, hD, hS⟩
  refine W.widen (k := 12) (n := 2253) (Nat.le_of_ble_eq_true rfl) (Nat.le_of_ble_eq_true rfl) ?_
  refine va_putF (D := (dC, dI)) (ci := 3) (v := .ref q12) (ty := (.array .int)) (C := RcR) (T := TcR) (N := 10) hx hb ht in_cR tycR tycR_ok nmcR hown hK hC.1 hC.2.1 hC.2.2 0 rfl rfl 4 (by decide) (ht _ tw118) (fun _ h9 => h9) rfl hin rfl (by decide +kernel) rfl rfl (Nat.le_of_ble_eq_true rfl) dR_init_38 (fun H locs hP hD hS => ?_)
  have hC : jcx (dC, dI) vwCl (va_A [(h0, .inr (3, [.null, .null, .null, .int 0, .null, .null, .int 0, .null, .null, .int 0]))] s.heap.size) s.heap [(h0, .inr (3, [.ref t0, .ref q1, .ref q8, .int 0, .ref q12, .null, .int 0, .null, .null, .int 0])), (q1, .inr (2, [.ref t0, .ref q2, .ref q3, .ref q4, .ref q5, .ref q6, .ref q7, .int 0, .int 0])), (q2, .inl (cI, 363, .inl (fun _ => 0))), (q3, .inl (cI, 363, .inl (fun _ => 0))), (q4, .inl (cI, 363, .inl (fun _ => 0))), (q5, .inl (cI, 363, .inl (fun _ => 0))), (q6, .inl (cI, 363, .inl (fun _ => 0))), (q7, .inl (cI, 180, .inl (fun _ => 0))), (q8, .inr (1, [.ref t0, .ref q9, .ref q10, .ref q11, .int 0, .int 0])), (q9, .inl (cI, 61, .inl (fun _ => 0))), (q10, .inl (cI, 61, .inl (fun _ => 0))), (q11, .inl (cI, 61, .inl (fun _ => 0))), (q12, .inl (cI, 60, .inl (fun _ => 0)))] H locs := ⟨hP, hD, hS⟩
  refine lv_aload_n hx hb dR_init_41 rfl (lv_at hl 0 rfl) ?_
  refine lv_bipush (v := 60) hx hb dR_init_42 (by decide) ?_
  refine va_newa (atype := .int) (ty := .int) (N' := 60) (a0 := (60, .inl (fun _ => 0))) hx hb (ht _ tw41) rfl hK hC.1 hC.2.1 hC.2.2 hA (fun _ => rfl) (by decide) (by decide) (by decide) (Nat.le_of_ble_eq_true rfl) (Nat.le_of_ble_eq_true rfl) dR_init_44 (fun q13 cA H hK2 hP hD hS => ?_)
  obtain rfl : cI = cA := jcA (hK2.2 0 (cI, .int) rfl).2 (hK2.2 3 (cA, .int) rfl).2
  have hC : jcx (dC, dI) vwCl (va_A [(h0, .inr (3, [.null, .null, .null, .int 0, .null, .null, .int 0, .null, .null, .int 0]))] s.heap.size) s.heap [(h0, .inr (3, [.ref t0, .ref q1, .ref q8, .int 0, .ref q12, .null, .int 0, .null, .null, .int 0])), (q1, .inr (2, [.ref t0, .ref q2, .ref q3, .ref q4, .ref q5, .ref q6, .ref q7, .int 0, .int 0])), (q2, .inl (cI, 363, .inl (fun _ => 0))), (q3, .inl (cI, 363, .inl (fun _ => 0))), (q4, .inl (cI, 363, .inl (fun _ => 0))), (q5, .inl (cI, 363, .inl (fun _ => 0))), (q6, .inl (cI, 363, .inl (fun _ => 0))), (q7, .inl (cI, 180, .inl (fun _ => 0))), (q8, .inr (1, [.ref t0, .ref q9, .ref q10, .ref q11, .int 0, .int 0])), (q9, .inl (cI, 61, .inl (fun _ => 0))), (q10, .inl (cI, 61, .inl (fun _ => 0))), (q11, .inl (cI, 61, .inl (fun _ => 0))), (q12, .inl (cI, 60, .inl (fun _ => 0))), (q13, .inl (cI, 60, .inl (fun _ => 0)))] H _ := ⟨hP, hD, hS⟩
  refine W.widen (k := 13) (n := 2313) (Nat.le_of_ble_eq_true rfl) (Nat.le_of_ble_eq_true rfl) ?_
  refine va_putF (D := (dC, dI)) (ci := 3) (v := .ref q13) (ty := (.array .int)) (C := RcR) (T := TcR) (N := 10) hx hb ht in_cR tycR tycR_ok nmcR hown hK hC.1 hC.2.1 hC.2.2 0 rfl rfl 5 (by decide) (ht _ tw119) (fun _ h9 => h9) rfl hin rfl (by decide +kernel) rfl rfl (Nat.le_of_ble_eq_true rfl) dR_init_46 (fun H locs hP hD hS => ?_)
  have hC : jcx (dC, dI) vwCl (va_A [(h0, .inr (3, [.null, .null, .null, .int 0, .null, .null, .int 0, .null, .null, .int 0]))] s.heap.size) s.heap [(h0, .inr (3, [.ref t0, .ref q1, .ref q8, .int 0, .ref q12, .ref q13, .int 0, .null, .null, .int 0])), (q1, .inr (2, [.ref t0, .ref q2, .ref q3, .ref q4, .ref q5, .ref q6, .ref q7, .int 0, .int 0])), (q2, .inl (cI, 363, .inl (fun _ => 0))), (q3, .inl (cI, 363, .inl (fun _ => 0))), (q4, .inl (cI, 363, .inl (fun _ => 0))), (q5, .inl (cI, 363, .inl (fun _ => 0))), (q6, .inl (cI, 363, .inl (fun _ => 0))), (q7, .inl (cI, 180, .inl (fun _ => 0))), (q8, .inr (1, [.ref t0, .ref q9, .ref q10, .ref q11, .int 0, .int 0])), (q9, .inl (cI, 61, .inl (fun _ => 0))), (q10, .inl (cI, 61, .inl (fun _ => 0))), (q11, .inl (cI, 61, .inl (fun _ => 0))), (q12, .inl (cI, 60, .inl (fun _ => 0))), (q13, .inl (cI, 60, .inl (fun _ => 0)))] H locs := ⟨hP, hD, hS⟩
  refine lv_aload_n hx hb dR_init_49 rfl (lv_at hl 0 rfl) ?_
  refine lv_bipush (v := 60) hx hb dR_init_50 (by decide) ?_
  refine va_newa (atype := .int) (ty := .int) (N' := 60) (a0 := (60, .inl (fun _ => 0))) hx hb (ht _ tw41) rfl hK hC.1 hC.2.1 hC.2.2 hA (fun _ => rfl) (by decide) (by decide) (by decide) (Nat.le_of_ble_eq_true rfl) (Nat.le_of_ble_eq_true rfl) dR_init_52 (fun q14 cA H hK2 hP hD hS => ?_)
  obtain rfl : cI = cA := jcA (hK2.2 0 (cI, .int) rfl).2 (hK2.2 3 (cA, .int) rfl).2
  have hC : jcx (dC, dI) vwCl (va_A [(h0, .inr (3, [.null, .null, .null, .int 0, .null, .null, .int 0, .null, .null, .int 0]))] s.heap.size) s.heap [(h0, .inr (3, [.ref t0, .ref q1, .ref q8, .int 0, .ref q12, .ref q13, .int 0, .null, .null, .int 0])), (q1, .inr (2, [.ref t0, .ref q2, .ref q3, .ref q4, .ref q5, .ref q6, .ref q7, .int 0, .int 0])), (q2, .inl (cI, 363, .inl (fun _ => 0))), (q3, .inl (cI, 363, .inl (fun _ => 0))), (q4, .inl (cI, 363, .inl (fun _ => 0))), (q5, .inl (cI, 363, .inl (fun _ => 0))), (q6, .inl (cI, 363, .inl (fun _ => 0))), (q7, .inl (cI, 180, .inl (fun _ => 0))), (q8, .inr (1, [.ref t0, .ref q9, .ref q10, .ref q11, .int 0, .int 0])), (q9, .inl (cI, 61, .inl (fun _ => 0))), (q10, .inl (cI, 61, .inl (fun _ => 0))), (q11, .inl (cI, 61, .inl (fun _ => 0))), (q12, .inl (cI, 60, .inl (fun _ => 0))), (q13, .inl (cI, 60, .inl (fun _ => 0))), (q14, .inl (cI, 60, .inl (fun _ => 0)))] H _ := ⟨hP, hD, hS⟩
  refine W.widen (k := 14) (n := 2373) (Nat.le_of_ble_eq_true rfl) (Nat.le_of_ble_eq_true rfl) ?_
  refine va_putF (D := (dC, dI)) (ci := 3) (v := .ref q14) (ty := (.array .int)) (C := RcR) (T := TcR) (N := 10) hx hb ht in_cR tycR tycR_ok nmcR hown hK hC.1 hC.2.1 hC.2.2 0 rfl rfl 7 (by decide) (ht _ tw121) (fun _ h9 => h9) rfl hin rfl (by decide +kernel) rfl rfl (Nat.le_of_ble_eq_true rfl) dR_init_54 (fun H locs hP hD hS => ?_)
  have hC : jcx (dC, dI) vwCl (va_A [(h0, .inr (3, [.null, .null, .null, .int 0, .null, .null, .int 0, .null, .null, .int 0]))] s.heap.size) s.heap [(h0, .inr (3, [.ref t0, .ref q1, .ref q8, .int 0, .ref q12, .ref q13, .int 0, .ref q14, .null, .int 0])), (q1, .inr (2, [.ref t0, .ref q2, .ref q3, .ref q4, .ref q5, .ref q6, .ref q7, .int 0, .int 0])), (q2, .inl (cI, 363, .inl (fun _ => 0))), (q3, .inl (cI, 363, .inl (fun _ => 0))), (q4, .inl (cI, 363, .inl (fun _ => 0))), (q5, .inl (cI, 363, .inl (fun _ => 0))), (q6, .inl (cI, 363, .inl (fun _ => 0))), (q7, .inl (cI, 180, .inl (fun _ => 0))), (q8, .inr (1, [.ref t0, .ref q9, .ref q10, .ref q11, .int 0, .int 0])), (q9, .inl (cI, 61, .inl (fun _ => 0))), (q10, .inl (cI, 61, .inl (fun _ => 0))), (q11, .inl (cI, 61, .inl (fun _ => 0))), (q12, .inl (cI, 60, .inl (fun _ => 0))), (q13, .inl (cI, 60, .inl (fun _ => 0))), (q14, .inl (cI, 60, .inl (fun _ => 0)))] H locs := ⟨hP, hD, hS⟩
  refine lv_aload_n hx hb dR_init_57 rfl (lv_at hl 0 rfl) ?_
  refine lv_bipush (v := 60) hx hb dR_init_58 (by decide) ?_
  refine va_newa (atype := .int) (ty := .int) (N' := 60) (a0 := (60, .inl (fun _ => 0))) hx hb (ht _ tw41) rfl hK hC.1 hC.2.1 hC.2.2 hA (fun _ => rfl) (by decide) (by decide) (by decide) (Nat.le_of_ble_eq_true rfl) (Nat.le_of_ble_eq_true rfl) dR_init_60 (fun q15 cA H hK2 hP hD hS => ?_)
  obtain rfl : cI = cA := jcA (hK2.2 0 (cI, .int) rfl).2 (hK2.2 3 (cA, .int) rfl).2
  have hC : jcx (dC, dI) vwCl (va_A [(h0, .inr (3, [.null, .null, .null, .int 0, .null, .null, .int 0, .null, .null, .int 0]))] s.heap.size) s.heap [(h0, .inr (3, [.ref t0, .ref q1, .ref q8, .int 0, .ref q12, .ref q13, .int 0, .ref q14, .null, .int 0])), (q1, .inr (2, [.ref t0, .ref q2, .ref q3, .ref q4, .ref q5, .ref q6, .ref q7, .int 0, .int 0])), (q2, .inl (cI, 363, .inl (fun _ => 0))), (q3, .inl (cI, 363, .inl (fun _ => 0))), (q4, .inl (cI, 363, .inl (fun _ => 0))), (q5, .inl (cI, 363, .inl (fun _ => 0))), (q6, .inl (cI, 363, .inl (fun _ => 0))), (q7, .inl (cI, 180, .inl (fun _ => 0))), (q8, .inr (1, [.ref t0, .ref q9, .ref q10, .ref q11, .int 0, .int 0])), (q9, .inl (cI, 61, .inl (fun _ => 0))), (q10, .inl (cI, 61, .inl (fun _ => 0))), (q11, .inl (cI, 61, .inl (fun _ => 0))), (q12, .inl (cI, 60, .inl (fun _ => 0))), (q13, .inl (cI, 60, .inl (fun _ => 0))), (q14, .inl (cI, 60, .inl (fun _ => 0))), (q15, .inl (cI, 60, .inl (fun _ => 0)))] H _ := ⟨hP, hD, hS⟩
  refine W.widen (k := 15) (n := 2433) (Nat.le_of_ble_eq_true rfl) (Nat.le_of_ble_eq_true rfl) ?_
  refine va_putF (D := (dC, dI)) (ci := 3) (v := .ref q15) (ty := (.array .int)) (C := RcR) (T := TcR) (N := 10) hx hb ht in_cR tycR tycR_ok nmcR hown hK hC.1 hC.2.1 hC.2.2 0 rfl rfl 8 (by decide) (ht _ tw122) (fun _ h9 => h9) rfl hin rfl (by decide +kernel) rfl rfl (Nat.le_of_ble_eq_true rfl) dR_init_62 (fun H locs hP hD hS => ?_)
  have hC : jcx (dC, dI) vwCl (va_A [(h0, .inr (3, [.null, .null, .null, .int 0, .null, .null, .int 0, .null, .null, .int 0]))] s.heap.size) s.heap [(h0, .inr (3, [.ref t0, .ref q1, .ref q8, .int 0, .ref q12, .ref q13, .int 0, .ref q14, .ref q15, .int 0])), (q1, .inr (2, [.ref t0, .ref q2, .ref q3, .ref q4, .ref q5, .ref q6, .ref q7, .int 0, .int 0])), (q2, .inl (cI, 363, .inl (fun _ => 0))), (q3, .inl (cI, 363, .inl (fun _ => 0))), (q4, .inl (cI, 363, .inl (fun _ => 0))), (q5, .inl (cI, 363, .inl (fun _ => 0))), (q6, .inl (cI, 363, .inl (fun _ => 0))), (q7, .inl (cI, 180, .inl (fun _ => 0))), (q8, .inr (1, [.ref t0, .ref q9, .ref q10, .ref q11, .int 0, .int 0])), (q9, .inl (cI, 61, .inl (fun _ => 0))), (q10, .inl (cI, 61, .inl (fun _ => 0))), (q11, .inl (cI, 61, .inl (fun _ => 0))), (q12, .inl (cI, 60, .inl (fun _ => 0))), (q13, .inl (cI, 60, .inl (fun _ => 0))), (q14, .inl (cI, 60, .inl (fun _ => 0))), (q15, .inl (cI, 60, .inl (fun _ => 0)))] H locs := ⟨hP, hD, hS⟩
  refine lv_aload_n hx hb dR_init_65 rfl (lv_at hl 0 rfl) ?_
  refine lv_iconst (v := 0) hx hb dR_init_66 (by decide) ?_
  refine va_put (D := (dC, dI)) (ci := 3) (v := .int 0) (ty := .int) (C := RcR) (T := TcR) (N := 10) hx hb ht in_cR tycR tycR_ok nmcR hown hK hC.1 hC.2.1 hC.2.2 0 rfl rfl 3 (by decide) (ht _ tw117) (fun _ h9 => h9) rfl (by decide +kernel) rfl rfl (Nat.le_of_ble_eq_true rfl) dR_init_67 (fun H locs hP hD hS => ?_)
  have hC : jcx (dC, dI) vwCl (va_A [(h0, .inr (3, [.null, .null, .null, .int 0, .null, .null, .int 0, .null, .null, .int 0]))] s.heap.size) s.heap [(h0, .inr (3, [.ref t0, .ref q1, .ref q8, .int 0, .ref q12, .ref q13, .int 0, .ref q14, .ref q15, .int 0])), (q1, .inr (2, [.ref t0, .ref q2, .ref q3, .ref q4, .ref q5, .ref q6, .ref q7, .int 0, .int 0])), (q2, .inl (cI, 363, .inl (fun _ => 0))), (q3, .inl (cI, 363, .inl (fun _ => 0))), (q4, .inl (cI, 363, .inl (fun _ => 0))), (q5, .inl (cI, 363, .inl (fun _ => 0))), (q6, .inl (cI, 363, .inl (fun _ => 0))), (q7, .inl (cI, 180, .inl (fun _ => 0))), (q8, .inr (1, [.ref t0, .ref q9, .ref q10, .ref q11, .int 0, .int 0])), (q9, .inl (cI, 61, .inl (fun _ => 0))), (q10, .inl (cI, 61, .inl (fun _ => 0))), (q11, .inl (cI, 61, .inl (fun _ => 0))), (q12, .inl (cI, 60, .inl (fun _ => 0))), (q13, .inl (cI, 60, .inl (fun _ => 0))), (q14, .inl (cI, 60, .inl (fun _ => 0))), (q15, .inl (cI, 60, .inl (fun _ => 0)))] H locs := ⟨hP, hD, hS⟩
  refine lv_aload_n hx hb dR_init_70 rfl (lv_at hl 0 rfl) ?_
  refine lv_iconst (v := 0) hx hb dR_init_71 (by decide) ?_
  refine va_put (D := (dC, dI)) (ci := 3) (v := .int 0) (ty := .int) (C := RcR) (T := TcR) (N := 10) hx hb ht in_cR tycR tycR_ok nmcR hown hK hC.1 hC.2.1 hC.2.2 0 rfl rfl 6 (by decide) (ht _ tw120) (fun _ h9 => h9) rfl (by decide +kernel) rfl rfl (Nat.le_of_ble_eq_true rfl) dR_init_72 (fun H locs hP hD hS => ?_)
  have hC : jcx (dC, dI) vwCl (va_A [(h0, .inr (3, [.null, .null, .null, .int 0, .null, .null, .int 0, .null, .null, .int 0]))] s.heap.size) s.heap [(h0, .inr (3, [.ref t0, .ref q1, .ref q8, .int 0, .ref q12, .ref q13, .int 0, .ref q14, .ref q15, .int 0])), (q1, .inr (2, [.ref t0, .ref q2, .ref q3, .ref q4, .ref q5, .ref q6, .ref q7, .int 0, .int 0])), (q2, .inl (cI, 363, .inl (fun _ => 0))), (q3, .inl (cI, 363, .inl (fun _ => 0))), (q4, .inl (cI, 363, .inl (fun _ => 0))), (q5, .inl (cI, 363, .inl (fun _ => 0))), (q6, .inl (cI, 363, .inl (fun _ => 0))), (q7, .inl (cI, 180, .inl (fun _ => 0))), (q8, .inr (1, [.ref t0, .ref q9, .ref q10, .ref q11, .int 0, .int 0])), (q9, .inl (cI, 61, .inl (fun _ => 0))), (q10, .inl (cI, 61, .inl (fun _ => 0))), (q11, .inl (cI, 61, .inl (fun _ => 0))), (q12, .inl (cI, 60, .inl (fun _ => 0))), (q13, .inl (cI, 60, .inl (fun _ => 0))), (q14, .inl (cI, 60, .inl (fun _ => 0))), (q15, .inl (cI, 60, .inl (fun _ => 0)))] H locs := ⟨hP, hD, hS⟩
  refine lv_aload_n hx hb dR_init_75 rfl (lv_at hl 0 rfl) ?_
  refine lv_iconst (v := 0) hx hb dR_init_76 (by decide) ?_
  refine va_put (D := (dC, dI)) (ci := 3) (v := .int 0) (ty := .int) (C := RcR) (T := TcR) (N := 10) hx hb ht in_cR tycR tycR_ok nmcR hown hK hC.1 hC.2.1 hC.2.2 0 rfl rfl 9 (by decide) (ht _ tw123) (fun _ h9 => h9) rfl (by decide +kernel) rfl rfl (Nat.le_of_ble_eq_true rfl) dR_init_77 (fun H locs hP hD hS => ?_)
  have hC : jcx (dC, dI) vwCl (va_A [(h0, .inr (3, [.null, .null, .null, .int 0, .null, .null, .int 0, .null, .null, .int 0]))] s.heap.size) s.heap [(h0, .inr (3, [.ref t0, .ref q1, .ref q8, .int 0, .ref q12, .ref q13, .int 0, .ref q14, .ref q15, .int 0])), (q1, .inr (2, [.ref t0, .ref q2, .ref q3, .ref q4, .ref q5, .ref q6, .ref q7, .int 0, .int 0])), (q2, .inl (cI, 363, .inl (fun _ => 0))), (q3, .inl (cI, 363, .inl (fun _ => 0))), (q4, .inl (cI, 363, .inl (fun _ => 0))), (q5, .inl (cI, 363, .inl (fun _ => 0))), (q6, .inl (cI, 363, .inl (fun _ => 0))), (q7, .inl (cI, 180, .inl (fun _ => 0))), (q8, .inr (1, [.ref t0, .ref q9, .ref q10, .ref q11, .int 0, .int 0])), (q9, .inl (cI, 61, .inl (fun _ => 0))), (q10, .inl (cI, 61, .inl (fun _ => 0))), (q11, .inl (cI, 61, .inl (fun _ => 0))), (q12, .inl (cI, 60, .inl (fun _ => 0))), (q13, .inl (cI, 60, .inl (fun _ => 0))), (q14, .inl (cI, 60, .inl (fun _ => 0))), (q15, .inl (cI, 60, .inl (fun _ => 0)))] H locs := ⟨hP, hD, hS⟩
  exact jret_k hx hb hr hlk hC hK ⟨q1, q2, q3, q4, q5, q6, q7, q8, q9, q10, q11, q12, q13, q14, q15, rfl⟩ dR_init_80

set_option maxHeartbeats 8000000 in
set_option maxRecDepth 100000 in
theorem kH_init (l : Launch) (dC : Nat → ClassId) (dI : Nat → Nat → Nat) (cI cC cL : ClassId) (sk sv : Nat → Nat) (h0 : Nat)  : Kc l yH_init (Cond.code yH_init prog_2_method_1_code 2 none :: TB) ({ frames := 2, cells := 7, slots := 189, locals := 33 }) (dC, dI) vwCl [(cI, .int), (cC, .char), (cL, .object "SharedSyntax$Letters")] (jEn sk sv) [.ref h0] [(h0, .inr (4, [.null, .int 0]))] (fun u => ∃ q1 q2 q3 q4 q5 q6 q7 : Nat, u = [(h0, .inr (4, [.ref q1, .int 0])), (q1, .inl (cL, 3, .inr (.inr (.inr (.inr (va_up (va_up (va_up (fun _ => none) ((0 : Int32)).toNatClampNeg (some q2)) ((1 : Int32)).toNatClampNeg (some q4)) ((2 : Int32)).toNatClampNeg (some q6))))))), (q2, .inr (0, [.ref q3, .int 0])), (q3, .inl (cI, 60, .inl (fun _ => 0))), (q4, .inr (0, [.ref q5, .int 0])), (q5, .inl (cI, 60, .inl (fun _ => 0))), (q6, .inr (0, [.ref q7, .int 0])), (q7, .inl (cI, 60, .inl (fun _ => 0)))]) 7 189 := by
  refine Kc_of (cc := prog_2_method_1_code) (maxL := 2) (ret := none) (by decide) rfl (Nat.le_of_ble_eq_true rfl) ?_
  intro p e s m below meth c ls F hin hl hK hN hC
  obtain ⟨hx, hb, hml, hown, hts, hr, hlk⟩ := F
  have ht : ∀ w ∈ TB, w.before [.ref h0].toArray s = true := fun w h => hts w (List.mem_cons_of_mem _ h)
  have hA : ∀ q, s.heap.size ≤ q → va_A [(h0, .inr (4, [.null, .int 0]))] s.heap.size q := fun q h => Or.inr h
  have hl : lv_has ls 2 [(0, .ref h0)] := hl
  refine lv_aload_n hx hb dH_init_0 rfl (lv_at hl 0 rfl) ?_
  refine W.objInit hx hb hown (ht _ tw447) (ht _ tw21) (ht _ tw22) rfl (by rw [hml]; exact hl.1) rfl dH_init_1 (Nat.le_of_ble_eq_true rfl) (Nat.le_of_ble_eq_true rfl) ?_
  refine W.eq (g2 := F0 m 4 ls []) rfl ?_
  refine lv_aload_n hx hb dH_init_4 rfl (lv_at hl 0 rfl) ?_
  refine lv_iconst (v := 3) hx hb dH_init_5 (by decide) ?_
  refine va_newq (N' := 3) hx hb hown (ht _ tw448) hN.2.2.2.2.2 hK hC.1 hC.2.1 hC.2.2 hA (by decide) (by decide) (by decide) (Nat.le_of_ble_eq_true rfl) (Nat.le_of_ble_eq_true rfl) dH_init_6 (fun q1 cA H hK2 hP hD hS => ?_)
  obtain rfl : cL = cA := jcQ (hK2.2 2 (cL, .object "SharedSyntax$Letters") rfl).2 (hK2.2 3 (cA, .object "SharedSyntax$Letters") rfl).2
  have hC : jcx (dC, dI) vwCl (va_A [(h0, .inr (4, [.null, .int 0]))] s.heap.size) s.heap [(h0, .inr (4, [.null, .int 0])), (q1, .inl (cL, 3, .inr (.inr (.inr (.inr (fun _ => none))))))] H _ := ⟨hP, hD, hS⟩
  refine W.widen (k := 1) (n := 3) (Nat.le_of_ble_eq_true rfl) (Nat.le_of_ble_eq_true rfl) ?_
  refine va_putF (D := (dC, dI)) (ci := 4) (v := .ref q1) (ty := (.array (.object "SharedSyntax$Letters"))) (C := RcH) (T := TcH) (N := 2) hx hb ht in_cH tycH tycH_ok nmcH hown hK hC.1 hC.2.1 hC.2.2 0 rfl rfl 0 (by decide) (ht _ tw451) (fun _ h9 => h9) rfl hin rfl (by decide +kernel) rfl rfl (Nat.le_of_ble_eq_true rfl) dH_init_9 (fun H locs hP hD hS => ?_)
  have hC : jcx (dC, dI) vwCl (va_A [(h0, .inr (4, [.null, .int 0]))] s.heap.size) s.heap [(h0, .inr (4, [.ref q1, .int 0])), (q1, .inl (cL, 3, .inr (.inr (.inr (.inr (fun _ => none))))))] H locs := ⟨hP, hD, hS⟩
  refine lv_iconst (v := 0) hx hb dH_init_12 (by decide) ?_
  refine lv_istore_n (lv' := [(1, .int 0), (0, .ref h0)]) hx hb dH_init_13 rfl hl (by decide) rfl (fun ls hl => ?_)
  refine lv_iload_n hx hb dH_init_14 rfl (lv_at hl 0 rfl) ?_
  refine lv_iconst (v := 3) hx hb dH_init_15 (by decide) ?_
  refine lv_icmp_ge (tgt := 40) hx hb dH_init_16 (by decide) (fun c => absurd c (by decide)) (fun _ => ?_)
  refine lv_aload_n hx hb dH_init_19 rfl (lv_at hl 1 rfl) ?_
  refine va_get (D := (dC, dI)) (ci := 4) (v := .ref q1) (C := RcH) (T := TcH) (N := 2) hx hb ht in_cH hown hK hC.1 0 rfl rfl 0 (by decide) (ht _ tw451) (fun _ h9 => h9) rfl dH_init_20 ?_
  refine lv_iload_n hx hb dH_init_23 rfl (lv_at hl 0 rfl) ?_
  refine va_new (ci := 0) (fs := [.null, .int 0]) (C := RcL) (T := TcL) (N := 2) hx hb ht in_cL tycL tycL_ok hown (ht _ tw448) (ht _ tw26) (ht _ tw3) hK hC.1 hC.2.1 hC.2.2 hA rfl (kd_L) (Nat.le_of_ble_eq_true rfl) (Nat.le_of_ble_eq_true rfl) dH_init_24 (fun q2 H hP hD hS => ?_)
  have hC : jcx (dC, dI) vwCl (va_A [(h0, .inr (4, [.null, .int 0]))] s.heap.size) s.heap [(h0, .inr (4, [.ref q1, .int 0])), (q1, .inl (cL, 3, .inr (.inr (.inr (.inr (fun _ => none)))))), (q2, .inr (0, [.null, .int 0]))] H _ := ⟨hP, hD, hS⟩
  refine W.widen (k := 2) (n := 5) (Nat.le_of_ble_eq_true rfl) (Nat.le_of_ble_eq_true rfl) ?_
  refine lv_dup hx hb dH_init_27 rfl ?_
  refine lv_bipush (v := 60) hx hb dH_init_28 (by decide) ?_
  have hCc : jcx (dC, dI) vwCl (va_A [(h0, .inr (4, [.null, .int 0]))] s.heap.size) s.heap [(q2, .inr (0, [.null, .int 0]))] _ _ := ⟨hC.1.sub [2] rfl, hC.2.1.sub [2] rfl rfl, hC.2.2⟩
  refine jcall_k (isC := [2]) (isR := [0, 1]) (wc := [(q2, .inr (0, [.null, .int 0]))]) (wr := [(h0, .inr (4, [.ref q1, .int 0])), (q1, .inl (cL, 3, .inr (.inr (.inr (.inr (fun _ => none))))))]) rfl rfl rfl (by decide) (va_runI (As := [.int 60]) (rest := [.ref q2, .int 0, .ref q1]) ⟨hx, hb, hml, hown, hts⟩ (kL_init60 l dC dI cI cC cL sk sv q2  _) ⟨(callB_of 1 hts (tb_good tw29) rfl rfl rfl (ht _ tw3) (ht _ tw450) (by decide +kernel) ⟨Nat.le_of_ble_eq_true rfl, Nat.le_of_ble_eq_true rfl⟩), rfl, ht _ tw28⟩ (jpreS (jEn_ok sk sv) hCc hA hK hN _) rfl rfl hl.1 rfl (lv_room (Nat.le_of_ble_eq_true rfl)) dH_init_30 ⟨Nat.le_of_ble_eq_true rfl, Nat.le_of_ble_eq_true rfl⟩) hC hA (fun u H locs hB hC => ?_)
  obtain ⟨q3, rfl⟩ := hB
  have hC : jcx (dC, dI) vwCl (va_A [(h0, .inr (4, [.null, .int 0]))] s.heap.size) s.heap [(h0, .inr (4, [.ref q1, .int 0])), (q1, .inl (cL, 3, .inr (.inr (.inr (.inr (fun _ => none)))))), (q2, .inr (0, [.ref q3, .int 0])), (q3, .inl (cI, 60, .inl (fun _ => 0)))] H locs := hC
  refine W.widen (k := 3) (n := 65) (Nat.le_of_ble_eq_true rfl) (Nat.le_of_ble_eq_true rfl) ?_
  refine va_astq hx hb hK hC.1 hC.2.1 hC.2.2 1 2 2 0 rfl rfl rfl rfl (pk_in 0 3 (by decide)) dH_init_33 (fun H locs hP hD hS => ?_)
  have hC : jcx (dC, dI) vwCl (va_A [(h0, .inr (4, [.null, .int 0]))] s.heap.size) s.heap [(h0, .inr (4, [.ref q1, .int 0])), (q1, .inl (cL, 3, .inr (.inr (.inr (.inr (va_up (fun _ => none) ((0 : Int32)).toNatClampNeg (some q2))))))), (q2, .inr (0, [.ref q3, .int 0])), (q3, .inl (cI, 60, .inl (fun _ => 0)))] H locs := ⟨hP, hD, hS⟩
  refine lv_iinc (k := 0) (v := 1) (lv' := [(1, .int 1), (0, .ref h0)]) hx hb dH_init_34 hl rfl (by decide) (by decide) rfl (fun ls hl => ?_)
  refine lv_goto (tgt := 14) hx hb dH_init_37 (by decide) ?_
  refine lv_iload_n hx hb dH_init_14 rfl (lv_at hl 0 rfl) ?_
  refine lv_iconst (v := 3) hx hb dH_init_15 (by decide) ?_
  refine lv_icmp_ge (tgt := 40) hx hb dH_init_16 (by decide) (fun c => absurd c (by decide)) (fun _ => ?_)
  refine lv_aload_n hx hb dH_init_19 rfl (lv_at hl 1 rfl) ?_
  refine va_get (D := (dC, dI)) (ci := 4) (v := .ref q1) (C := RcH) (T := TcH) (N := 2) hx hb ht in_cH hown hK hC.1 0 rfl rfl 0 (by decide) (ht _ tw451) (fun _ h9 => h9) rfl dH_init_20 ?_
  refine lv_iload_n hx hb dH_init_23 rfl (lv_at hl 0 rfl) ?_
  refine va_new (ci := 0) (fs := [.null, .int 0]) (C := RcL) (T := TcL) (N := 2) hx hb ht in_cL tycL tycL_ok hown (ht _ tw448) (ht _ tw26) (ht _ tw3) hK hC.1 hC.2.1 hC.2.2 hA rfl (kd_L) (Nat.le_of_ble_eq_true rfl) (Nat.le_of_ble_eq_true rfl) dH_init_24 (fun q4 H hP hD hS => ?_)
  have hC : jcx (dC, dI) vwCl (va_A [(h0, .inr (4, [.null, .int 0]))] s.heap.size) s.heap [(h0, .inr (4, [.ref q1, .int 0])), (q1, .inl (cL, 3, .inr (.inr (.inr (.inr (va_up (fun _ => none) ((0 : Int32)).toNatClampNeg (some q2))))))), (q2, .inr (0, [.ref q3, .int 0])), (q3, .inl (cI, 60, .inl (fun _ => 0))), (q4, .inr (0, [.null, .int 0]))] H _ := ⟨hP, hD, hS⟩
  refine W.widen (k := 4) (n := 67) (Nat.le_of_ble_eq_true rfl) (Nat.le_of_ble_eq_true rfl) ?_
  refine lv_dup hx hb dH_init_27 rfl ?_
  refine lv_bipush (v := 60) hx hb dH_init_28 (by decide) ?_
  have hCc : jcx (dC, dI) vwCl (va_A [(h0, .inr (4, [.null, .int 0]))] s.heap.size) s.heap [(q4, .inr (0, [.null, .int 0]))] _ _ := ⟨hC.1.sub [4] rfl, hC.2.1.sub [4] rfl rfl, hC.2.2⟩
  refine jcall_k (isC := [4]) (isR := [0, 1, 2, 3]) (wc := [(q4, .inr (0, [.null, .int 0]))]) (wr := [(h0, .inr (4, [.ref q1, .int 0])), (q1, .inl (cL, 3, .inr (.inr (.inr (.inr (va_up (fun _ => none) ((0 : Int32)).toNatClampNeg (some q2))))))), (q2, .inr (0, [.ref q3, .int 0])), (q3, .inl (cI, 60, .inl (fun _ => 0)))]) rfl rfl rfl (by decide) (va_runI (As := [.int 60]) (rest := [.ref q4, .int 1, .ref q1]) ⟨hx, hb, hml, hown, hts⟩ (kL_init60 l dC dI cI cC cL sk sv q4  _) ⟨(callB_of 1 hts (tb_good tw29) rfl rfl rfl (ht _ tw3) (ht _ tw450) (by decide +kernel) ⟨Nat.le_of_ble_eq_true rfl, Nat.le_of_ble_eq_true rfl⟩), rfl, ht _ tw28⟩ (jpreS (jEn_ok sk sv) hCc hA hK hN _) rfl rfl hl.1 rfl (lv_room (Nat.le_of_ble_eq_true rfl)) dH_init_30 ⟨Nat.le_of_ble_eq_true rfl, Nat.le_of_ble_eq_true rfl⟩) hC hA (fun u H locs hB hC => ?_)
  obtain ⟨q5, rfl⟩ := hB
  have hC : jcx (dC, dI) vwCl (va_A [(h0, .inr (4, [.null, .int 0]))] s.heap.size) s.heap [(h0, .inr (4, [.ref q1, .int 0])), (q1, .inl (cL, 3, .inr (.inr (.inr (.inr (va_up (fun _ => none) ((0 : Int32)).toNatClampNeg (some q2))))))), (q2, .inr (0, [.ref q3, .int 0])), (q3, .inl (cI, 60, .inl (fun _ => 0))), (q4, .inr (0, [.ref q5, .int 0])), (q5, .inl (cI, 60, .inl (fun _ => 0)))] H locs := hC
  refine W.widen (k := 5) (n := 127) (Nat.le_of_ble_eq_true rfl) (Nat.le_of_ble_eq_true rfl) ?_
  refine va_astq hx hb hK hC.1 hC.2.1 hC.2.2 1 2 4 0 rfl rfl rfl rfl (pk_in 1 3 (by decide)) dH_init_33 (fun H locs hP hD hS => ?_)
  have hC : jcx (dC, dI) vwCl (va_A [(h0, .inr (4, [.null, .int 0]))] s.heap.size) s.heap [(h0, .inr (4, [.ref q1, .int 0])), (q1, .inl (cL, 3, .inr (.inr (.inr (.inr (va_up (va_up (fun _ => none) ((0 : Int32)).toNatClampNeg (some q2)) ((1 : Int32)).toNatClampNeg (some q4))))))), (q2, .inr (0, [.ref q3, .int 0])), (q3, .inl (cI, 60, .inl (fun _ => 0))), (q4, .inr (0, [.ref q5, .int 0])), (q5, .inl (cI, 60, .inl (fun _ => 0)))] H locs := ⟨hP, hD, hS⟩
  refine lv_iinc (k := 0) (v := 2) (lv' := [(1, .int 2), (0, .ref h0)]) hx hb dH_init_34 hl rfl (by decide) (by decide) rfl (fun ls hl => ?_)
  refine lv_goto (tgt := 14) hx hb dH_init_37 (by decide) ?_
  refine lv_iload_n hx hb dH_init_14 rfl (lv_at hl 0 rfl) ?_
  refine lv_iconst (v := 3) hx hb dH_init_15 (by decide) ?_
  refine lv_icmp_ge (tgt := 40) hx hb dH_init_16 (by decide) (fun c => absurd c (by decide)) (fun _ => ?_)
  refine lv_aload_n hx hb dH_init_19 rfl (lv_at hl 1 rfl) ?_
  refine va_get (D := (dC, dI)) (ci := 4) (v := .ref q1) (C := RcH) (T := TcH) (N := 2) hx hb ht in_cH hown hK hC.1 0 rfl rfl 0 (by decide) (ht _ tw451) (fun _ h9 => h9) rfl dH_init_20 ?_
  refine lv_iload_n hx hb dH_init_23 rfl (lv_at hl 0 rfl) ?_
  refine va_new (ci := 0) (fs := [.null, .int 0]) (C := RcL) (T := TcL) (N := 2) hx hb ht in_cL tycL tycL_ok hown (ht _ tw448) (ht _ tw26) (ht _ tw3) hK hC.1 hC.2.1 hC.2.2 hA rfl (kd_L) (Nat.le_of_ble_eq_true rfl) (Nat.le_of_ble_eq_true rfl) dH_init_24 (fun q6 H hP hD hS => ?_)
  have hC : jcx (dC, dI) vwCl (va_A [(h0, .inr (4, [.null, .int 0]))] s.heap.size) s.heap [(h0, .inr (4, [.ref q1, .int 0])), (q1, .inl (cL, 3, .inr (.inr (.inr (.inr (va_up (va_up (fun _ => none) ((0 : Int32)).toNatClampNeg (some q2)) ((1 : Int32)).toNatClampNeg (some q4))))))), (q2, .inr (0, [.ref q3, .int 0])), (q3, .inl (cI, 60, .inl (fun _ => 0))), (q4, .inr (0, [.ref q5, .int 0])), (q5, .inl (cI, 60, .inl (fun _ => 0))), (q6, .inr (0, [.null, .int 0]))] H _ := ⟨hP, hD, hS⟩
  refine W.widen (k := 6) (n := 129) (Nat.le_of_ble_eq_true rfl) (Nat.le_of_ble_eq_true rfl) ?_
  refine lv_dup hx hb dH_init_27 rfl ?_
  refine lv_bipush (v := 60) hx hb dH_init_28 (by decide) ?_
  have hCc : jcx (dC, dI) vwCl (va_A [(h0, .inr (4, [.null, .int 0]))] s.heap.size) s.heap [(q6, .inr (0, [.null, .int 0]))] _ _ := ⟨hC.1.sub [6] rfl, hC.2.1.sub [6] rfl rfl, hC.2.2⟩
  refine jcall_k (isC := [6]) (isR := [0, 1, 2, 3, 4, 5]) (wc := [(q6, .inr (0, [.null, .int 0]))]) (wr := [(h0, .inr (4, [.ref q1, .int 0])), (q1, .inl (cL, 3, .inr (.inr (.inr (.inr (va_up (va_up (fun _ => none) ((0 : Int32)).toNatClampNeg (some q2)) ((1 : Int32)).toNatClampNeg (some q4))))))), (q2, .inr (0, [.ref q3, .int 0])), (q3, .inl (cI, 60, .inl (fun _ => 0))), (q4, .inr (0, [.ref q5, .int 0])), (q5, .inl (cI, 60, .inl (fun _ => 0)))]) rfl rfl rfl (by decide) (va_runI (As := [.int 60]) (rest := [.ref q6, .int 2, .ref q1]) ⟨hx, hb, hml, hown, hts⟩ (kL_init60 l dC dI cI cC cL sk sv q6  _) ⟨(callB_of 1 hts (tb_good tw29) rfl rfl rfl (ht _ tw3) (ht _ tw450) (by decide +kernel) ⟨Nat.le_of_ble_eq_true rfl, Nat.le_of_ble_eq_true rfl⟩), rfl, ht _ tw28⟩ (jpreS (jEn_ok sk sv) hCc hA hK hN _) rfl rfl hl.1 rfl (lv_room (Nat.le_of_ble_eq_true rfl)) dH_init_30 ⟨Nat.le_of_ble_eq_true rfl, Nat.le_of_ble_eq_true rfl⟩) hC hA (fun u H locs hB hC => ?_)
  obtain ⟨q7, rfl⟩ := hB
  have hC : jcx (dC, dI) vwCl (va_A [(h0, .inr (4, [.null, .int 0]))] s.heap.size) s.heap [(h0, .inr (4, [.ref q1, .int 0])), (q1, .inl (cL, 3, .inr (.inr (.inr (.inr (va_up (va_up (fun _ => none) ((0 : Int32)).toNatClampNeg (some q2)) ((1 : Int32)).toNatClampNeg (some q4))))))), (q2, .inr (0, [.ref q3, .int 0])), (q3, .inl (cI, 60, .inl (fun _ => 0))), (q4, .inr (0, [.ref q5, .int 0])), (q5, .inl (cI, 60, .inl (fun _ => 0))), (q6, .inr (0, [.ref q7, .int 0])), (q7, .inl (cI, 60, .inl (fun _ => 0)))] H locs := hC
  refine W.widen (k := 7) (n := 189) (Nat.le_of_ble_eq_true rfl) (Nat.le_of_ble_eq_true rfl) ?_
  refine va_astq hx hb hK hC.1 hC.2.1 hC.2.2 1 2 6 0 rfl rfl rfl rfl (pk_in 2 3 (by decide)) dH_init_33 (fun H locs hP hD hS => ?_)
  have hC : jcx (dC, dI) vwCl (va_A [(h0, .inr (4, [.null, .int 0]))] s.heap.size) s.heap [(h0, .inr (4, [.ref q1, .int 0])), (q1, .inl (cL, 3, .inr (.inr (.inr (.inr (va_up (va_up (va_up (fun _ => none) ((0 : Int32)).toNatClampNeg (some q2)) ((1 : Int32)).toNatClampNeg (some q4)) ((2 : Int32)).toNatClampNeg (some q6))))))), (q2, .inr (0, [.ref q3, .int 0])), (q3, .inl (cI, 60, .inl (fun _ => 0))), (q4, .inr (0, [.ref q5, .int 0])), (q5, .inl (cI, 60, .inl (fun _ => 0))), (q6, .inr (0, [.ref q7, .int 0])), (q7, .inl (cI, 60, .inl (fun _ => 0)))] H locs := ⟨hP, hD, hS⟩
  refine lv_iinc (k := 0) (v := 3) (lv' := [(1, .int 3), (0, .ref h0)]) hx hb dH_init_34 hl rfl (by decide) (by decide) rfl (fun ls hl => ?_)
  refine lv_goto (tgt := 14) hx hb dH_init_37 (by decide) ?_
  refine lv_iload_n hx hb dH_init_14 rfl (lv_at hl 0 rfl) ?_
  refine lv_iconst (v := 3) hx hb dH_init_15 (by decide) ?_
  refine lv_icmp_ge (tgt := 40) hx hb dH_init_16 (by decide) (fun _ => ?_) (fun c => absurd (by decide) c)
  refine lv_aload_n hx hb dH_init_40 rfl (lv_at hl 1 rfl) ?_
  refine lv_iconst (v := 0) hx hb dH_init_41 (by decide) ?_
  refine va_put (D := (dC, dI)) (ci := 4) (v := .int 0) (ty := .int) (C := RcH) (T := TcH) (N := 2) hx hb ht in_cH tycH tycH_ok nmcH hown hK hC.1 hC.2.1 hC.2.2 0 rfl rfl 1 (by decide) (ht _ tw452) (fun _ h9 => h9) rfl (by decide +kernel) rfl rfl (Nat.le_of_ble_eq_true rfl) dH_init_42 (fun H locs hP hD hS => ?_)
  have hC : jcx (dC, dI) vwCl (va_A [(h0, .inr (4, [.null, .int 0]))] s.heap.size) s.heap [(h0, .inr (4, [.ref q1, .int 0])), (q1, .inl (cL, 3, .inr (.inr (.inr (.inr (va_up (va_up (va_up (fun _ => none) ((0 : Int32)).toNatClampNeg (some q2)) ((1 : Int32)).toNatClampNeg (some q4)) ((2 : Int32)).toNatClampNeg (some q6))))))), (q2, .inr (0, [.ref q3, .int 0])), (q3, .inl (cI, 60, .inl (fun _ => 0))), (q4, .inr (0, [.ref q5, .int 0])), (q5, .inl (cI, 60, .inl (fun _ => 0))), (q6, .inr (0, [.ref q7, .int 0])), (q7, .inl (cI, 60, .inl (fun _ => 0)))] H locs := ⟨hP, hD, hS⟩
  exact jret_k hx hb hr hlk hC hK ⟨q1, q2, q3, q4, q5, q6, q7, rfl⟩ dH_init_45
