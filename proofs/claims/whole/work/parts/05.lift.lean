/-! own rows: pure states, and the walk's bundle (used by the texts that lift.py writes) -/
abbrev jS : Type := (Nat → Int32) × (Nat → Nat → Int32)
def jgI (s : jS) (k : Nat) : Int32 := s.1 k
def jgA (s : jS) (a i : Nat) : Int32 := s.2 a i
def jsI (s : jS) (k : Nat) (v : Int32) : jS := (fun j => if j = k then v else s.1 j, s.2)
def jsF (s : jS) (a : Nat) (f : Nat → Int32) : jS := (s.1, fun b => if b = a then f else s.2 b)
def jsA (s : jS) (a i : Nat) (v : Int32) : jS := jsF s a (upd (jgA s a) i v)
def jIn (i : Int32) (n : Nat) : Bool := decide (0 ≤ i.toInt) && decide (i.toInt < (n : Int))
def jBo (v : Int32) : Bool := decide (v = 0) || decide (v = 1)
def jCh (v : Int32) : Bool := decide (0 ≤ v.toInt) && decide (v.toInt < 65536)
def jB {σ ρ : Type} (x : Option (Int32 × σ)) (k : Int32 → σ → Option ρ) : Option ρ := match x with
  | none => none
  | some q => k q.1 q.2
def jL {σ ρ : Type} (x : σ) (k : σ → ρ) : ρ := k x
theorem jL_s {σ ρ : Type} {x : σ} {k : σ → ρ} {z : ρ} (h : jL x k = z) : ∃ y : σ, y = x ∧ k y = z := ⟨x, rfl, h⟩
theorem jB_some {σ ρ : Type} {x : Option (Int32 × σ)} {k : Int32 → σ → Option ρ} {z : ρ} (h : jB x k = some z) : ∃ (r : Int32) (s : σ), x = some (r, s) ∧ k r s = some z := by
  cases x with
  | none => cases h
  | some q => exact ⟨q.1, q.2, rfl, h⟩
theorem jIn_vp {i : Int32} {n : Nat} (h : jIn i n = true) : vp_in i n := by
  simp only [jIn, Bool.and_eq_true, decide_eq_true_eq] at h
  exact vp_in_iff.mpr h
theorem jC_in {α : Type} {i : Int32} {n : Nat} {x : Option α} {z : α} (h : (if jIn i n = true then x else none) = some z) : vp_in i n ∧ x = some z := by
  by_cases c : jIn i n = true
  · rw [if_pos c] at h
    exact ⟨jIn_vp c, h⟩
  · rw [if_neg c] at h
    cases h
theorem jC_b {α : Type} {b : Bool} {x : Option α} {z : α} (h : (if b = true then x else none) = some z) : b = true ∧ x = some z := by
  by_cases c : b = true
  · rw [if_pos c] at h
    exact ⟨c, h⟩
  · rw [if_neg c] at h
    cases h
theorem jif_t {α : Type} {c : Prop} [Decidable c] {a b z : α} (h : c) (e : (if c then a else b) = z) : a = z := by rw [if_pos h] at e; exact e
theorem jif_f {α : Type} {c : Prop} [Decidable c] {a b z : α} (h : ¬ c) (e : (if c then a else b) = z) : b = z := by rw [if_neg h] at e; exact e
theorem jBo_n {v : Int32} (h : jBo v = true) : narrow .boolean (.int v) = .int v := by
  simp only [jBo, Bool.or_eq_true, decide_eq_true_eq] at h
  rcases h with rfl | rfl <;> decide +kernel
theorem jCh_n {v : Int32} (h : jCh v = true) : narrow .char (.int v) = .int v := by
  simp only [jCh, Bool.and_eq_true, decide_eq_true_eq] at h
  have h0 : ¬ v < 0 := fun q => by
    have := Int32.lt_iff_toInt_lt.mp q
    have e : (0 : Int32).toInt = 0 := by decide
    omega
  obtain ⟨j, hj, e⟩ := nI_of h0
  subst e
  rw [nI_toInt hj] at h
  exact (pk_charN (by omega)).1
/-- the world, its frame, what has been written -/
def jcx (D : va_G) (cl : List vw_C) (A : Nat → Prop) (H0 : Heap) (w : va_W) (H : Heap) (locs : List Loc) : Prop := va_P D cl w H ∧ va_D A w ∧ va_S A H0 H locs
/-- words of the tables that don't stand in a contract's list: links to a nest mate's private members -/
def jnw (NW : List Cond) (U : State) : Prop := ∀ w ∈ NW, va_Nw w U
def jNest : Cond → Bool
  | .fieldLinkNest .. => true
  | .methodLinkNest .. => true
  | _ => false
theorem jnw.warm {NW : List Cond} (hN : NW.all jNest = true) {s U : State} (hW : s.WarmedH U.vm) (h : jnw NW s) : jnw NW U := by
  intro w hw
  have h1 := List.all_eq_true.mp hN w hw
  have h2 := h w hw
  cases w <;> first | exact va_Nw.warmF hW h2 | exact va_Nw.warmM hW h2 | (simp [jNest] at h1)
theorem jnw.same {NW : List Cond} (hN : NW.all jNest = true) {u U : State} (hv : u.vm = U.vm) (h : jnw NW u) : jnw NW U := by
  intro w hw
  have h1 := List.all_eq_true.mp hN w hw
  have h2 := h w hw
  cases w <;> first | exact va_Nw.same rfl hv h2 | (simp [jNest] at h1)
/-- what stays round about: nest links, String constants, statics; E: free cells, state, heap -/
abbrev jEv : Type := (Nat → Prop) → State → Heap → Prop
def jEok (E : jEv) : Prop := (∀ (A : Nat → Prop) (s U : State) (H : Heap), s.WarmedH U.vm → E A s H → E A U H) ∧ (∀ (A : Nat → Prop) (u U : State) (H : Heap), u.vm = U.vm → E A u H → E A U H) ∧ (∀ (A : Nat → Prop) (U : State) (H H1 : Heap), (∀ a : Nat, a < H.size → ¬ A a → H1[a]? = H[a]?) → E A U H → E A U H1) ∧ (∀ (A B : Nat → Prop) (U : State) (H : Heap), (∀ q, B q → A q) → E A U H → E B U H)
def jPc (D : va_G) (cl : List vw_C) (tys : List (ClassId × FieldType)) (E : jEv) (av : List Value) (w : va_W) (sz : Nat) : Array Value → State → Prop := va_Pc av (fun U => U.heap.size = sz ∧ va_P D cl w U.heap ∧ va_K D cl tys U ∧ va_D (fun _ => True) w ∧ E (va_A w sz) U U.heap)
def jQi (D : va_G) (cl : List vw_C) (tys : List (ClassId × FieldType)) (w w' : va_W) (sz : Nat) (r : Int32) : Array Value → State → Outcome → State → Prop := va_Qi (fun (x : Int32) (_ : Unit) => x = r) (fun _ t => va_P D cl w' t.heap ∧ va_K D cl tys t ∧ va_D (va_A w sz) w') (va_A w sz)
def jQv (D : va_G) (cl : List vw_C) (tys : List (ClassId × FieldType)) (w w' : va_W) (sz : Nat) : Array Value → State → Outcome → State → Prop := va_Qv (fun (_ : Unit) => True) (fun _ t => va_P D cl w' t.heap ∧ va_K D cl tys t ∧ va_D (va_A w sz) w') (va_A w sz)
/-- a contract: the method turns the world w into w', and answers r -/
def Ci (l : Launch) (y : MethodName) (ws : List Cond) (rm : Room) (D : va_G) (cl : List vw_C) (tys : List (ClassId × FieldType)) (E : jEv) (av : List Value) (w w' : va_W) (r : Int32) : Prop := ∀ sz : Nat, Met l y ws rm (jPc D cl tys E av w sz) (jQi D cl tys w w' sz r) 0 0 (va_A w sz)
def Cv (l : Launch) (y : MethodName) (ws : List Cond) (rm : Room) (D : va_G) (cl : List vw_C) (tys : List (ClassId × FieldType)) (E : jEv) (av : List Value) (w w' : va_W) : Prop := ∀ sz : Nat, Met l y ws rm (jPc D cl tys E av w sz) (jQv D cl tys w w' sz) 0 0 (va_A w sz)
def jFx (p : Program) (s : State) (m : MethodId) (args : Array Value) (meth : Method) (c : Code) (cc : ByteArray) (nL : Nat) (ret : Option FieldType) (ws : List Cond) (own : String) : Prop :=
  p.tables.exec = Jvm.exec ∧ c.code = cc ∧ c.maxLocals = nL ∧ s.vm.findClass own = some m.cls ∧ (∀ w ∈ ws, w.before args s = true) ∧ meth.sig.returnType = ret ∧ meth.locks = false
section JW
variable {l : Launch} {y : MethodName} {ws ws' : List Cond} {rm : Room} {D : va_G} {cl : List vw_C} {tys : List (ClassId × FieldType)} {E : jEv} {av : List Value} {w w' : va_W} {r : Int32} {cc : ByteArray} {maxL : Nat} {ret : Option FieldType}
theorem Ci_of (hy : plainName y.cls = true) (hw : ws = Cond.code y cc maxL ret :: ws') (hlen : (lg_sl av).length ≤ maxL)
    (body : ∀ (p : Program) (e : Env) (s : State) (m : MethodId) (below : List Frame) (meth : Method) (c : Code) (ls : Array Slot), jFx p s m av.toArray meth c cc maxL ret ws y.cls → lv_has ls maxL (lv_args 0 av) → va_K D cl tys s → E (va_A w s.heap.size) s s.heap → jcx D cl (va_A w s.heap.size) s.heap w s.heap [] →
      W p l e rm s m av.toArray below meth c s.heap [] 0 0 (MQ below (jQi D cl tys w w' s.heap.size r) av.toArray s 0 0 (va_A w s.heap.size)) (F0 m 0 ls [])) : Ci l y ws rm D cl tys E av w w' r := by
  intro sz
  refine Met.ofW (cc := cc) (maxL := maxL) (ret := ret) hy hw ?_
  intro p e s m args below meth c s₁ B hml hv
  obtain ⟨rfl, hsz, hP, hK, hD0, hN⟩ := hv
  subst hsz
  have hl := lv_entry av (n := maxL) hlen
  rw [lg_entry_eq]
  exact body p e s m below meth c _ ⟨B.exec, B.bytes, hml, findClass_of_methodNamed B.named, atoms_spec (ws := ws) B.pre, B.returns, B.notSynchronized⟩ hl hK hN ⟨hP, hD0.self, va_S.rf⟩
theorem Cv_of (hy : plainName y.cls = true) (hw : ws = Cond.code y cc maxL ret :: ws') (hlen : (lg_sl av).length ≤ maxL)
    (body : ∀ (p : Program) (e : Env) (s : State) (m : MethodId) (below : List Frame) (meth : Method) (c : Code) (ls : Array Slot), jFx p s m av.toArray meth c cc maxL ret ws y.cls → lv_has ls maxL (lv_args 0 av) → va_K D cl tys s → E (va_A w s.heap.size) s s.heap → jcx D cl (va_A w s.heap.size) s.heap w s.heap [] →
      W p l e rm s m av.toArray below meth c s.heap [] 0 0 (MQ below (jQv D cl tys w w' s.heap.size) av.toArray s 0 0 (va_A w s.heap.size)) (F0 m 0 ls [])) : Cv l y ws rm D cl tys E av w w' := by
  intro sz
  refine Met.ofW (cc := cc) (maxL := maxL) (ret := ret) hy hw ?_
  intro p e s m args below meth c s₁ B hml hv
  obtain ⟨rfl, hsz, hP, hK, hD0, hN⟩ := hv
  subst hsz
  have hl := lv_entry av (n := maxL) hlen
  rw [lg_entry_eq]
  exact body p e s m below meth c _ ⟨B.exec, B.bytes, hml, findClass_of_methodNamed B.named, atoms_spec (ws := ws) B.pre, B.returns, B.notSynchronized⟩ hl hK hN ⟨hP, hD0.self, va_S.rf⟩
end JW
section JR
variable {p : Program} {l : Launch} {e : Env} {R : Room} {s : State} {m : MethodId} {args : Array Value} {below : List Frame} {meth : Method} {c : Code} {H : Heap} {locs : List Loc} {cells slots : Nat} {Q : State → Prop}
variable {cc : ByteArray} {pc : Nat} {ls : Array Slot} {rest : List Value} {D : va_G} {cl : List vw_C} {A : Nat → Prop} {tys : List (ClassId × FieldType)} {w w' : va_W} {H0 : Heap} {r : Int32}
theorem jret_i (hx : p.tables.exec = Jvm.exec) (hb : c.code = cc) (hr : meth.sig.returnType = some .int) (hlk : meth.locks = false) (hC : jcx D cl (va_A w s.heap.size) s.heap w' H locs) (hK : va_K D cl tys s) (hdg : decode cc pc = .ok (.ireturn, 1)) :
    W p l e R s m args below meth c H locs 0 0 (MQ below (jQi D cl tys w w' s.heap.size r) args s 0 0 (va_A w s.heap.size)) (F0 m pc ls [.int r]) :=
  W.iret hx hb hr (fun t ht hW => ⟨⟨r, (), rfl, rfl, by rw [ht]; exact hC.1, va_K.moved hW.alike hK, hC.2.1⟩, hC.2.2.F ht⟩) hC.2.2.2.2 hdg hlk
theorem jret_z {ty : FieldType} (hx : p.tables.exec = Jvm.exec) (hb : c.code = cc) (hr : meth.sig.returnType = some ty) (hn : narrow ty (.int r) = .int r) (hlk : meth.locks = false) (hC : jcx D cl (va_A w s.heap.size) s.heap w' H locs) (hK : va_K D cl tys s) (hdg : decode cc pc = .ok (.ireturn, 1)) :
    W p l e R s m args below meth c H locs 0 0 (MQ below (jQi D cl tys w w' s.heap.size r) args s 0 0 (va_A w s.heap.size)) (F0 m pc ls [.int r]) :=
  W.zret hx hb hr hn (fun t ht hW => ⟨⟨r, (), rfl, rfl, by rw [ht]; exact hC.1, va_K.moved hW.alike hK, hC.2.1⟩, hC.2.2.F ht⟩) hC.2.2.2.2 hdg hlk
theorem jret_v (hx : p.tables.exec = Jvm.exec) (hb : c.code = cc) (hr : meth.sig.returnType = none) (hlk : meth.locks = false) (hC : jcx D cl (va_A w s.heap.size) s.heap w' H locs) (hK : va_K D cl tys s) (hdg : decode cc pc = .ok (.return_, 1)) :
    W p l e R s m args below meth c H locs 0 0 (MQ below (jQv D cl tys w w' s.heap.size) args s 0 0 (va_A w s.heap.size)) (F0 m pc ls []) :=
  W.vret hx hb hr (fun t ht hW => ⟨⟨(), rfl, trivial, by rw [ht]; exact hC.1, va_K.moved hW.alike hK, hC.2.1⟩, hC.2.2.F ht⟩) hC.2.2.2.2 hdg hlk
theorem jast_i {a : Nat} (hx : p.tables.exec = Jvm.exec) (hb : c.code = cc) (hK : va_K D cl tys s) (hC : jcx D cl A H0 w H locs) (q0 t0 : Nat) {cA : ClassId} {n : Nat} {f : Nat → Int32} (ha : w[q0]? = some (a, .inl (cA, n, .inl f))) (ht : tys[t0]? = some (cA, .int)) {i x : Int32} (hin : vp_in i n) (hdg : decode cc pc = .ok (.iastore, 1)) (hw : w.set q0 (a, .inl (cA, n, .inl (upd f i.toNatClampNeg x))) = w')
    (kk : ∀ (H1 : Heap) (locs1 : List Loc), jcx D cl A H0 w' H1 locs1 → W p l e R s m args below meth c H1 locs1 cells slots Q (F0 m (pc + 1) ls rest)) : W p l e R s m args below meth c H locs cells slots Q (F0 m pc ls (.int x :: .int i :: .ref a :: rest)) := by
  subst hw
  exact va_iast hx hb hK hC.1 hC.2.1 hC.2.2 q0 t0 ha ht hin hdg (fun H1 locs1 h1 h2 h3 => kk H1 locs1 ⟨h1, h2, h3⟩)
theorem jast_c {a : Nat} (hx : p.tables.exec = Jvm.exec) (hb : c.code = cc) (hK : va_K D cl tys s) (hC : jcx D cl A H0 w H locs) (q0 t0 : Nat) {cA : ClassId} {n : Nat} {f : Nat → Int32} (ha : w[q0]? = some (a, .inl (cA, n, .inl f))) (ht : tys[t0]? = some (cA, .char)) {i x : Int32} (hin : vp_in i n) (hdg : decode cc pc = .ok (.castore, 1)) (hw : w.set q0 (a, .inl (cA, n, .inl (upd f i.toNatClampNeg (vp_nar .char x)))) = w')
    (kk : ∀ (H1 : Heap) (locs1 : List Loc), jcx D cl A H0 w' H1 locs1 → W p l e R s m args below meth c H1 locs1 cells slots Q (F0 m (pc + 1) ls rest)) : W p l e R s m args below meth c H locs cells slots Q (F0 m pc ls (.int x :: .int i :: .ref a :: rest)) := by
  subst hw
  exact va_cast hx hb hK hC.1 hC.2.1 hC.2.2 q0 t0 ha ht hin hdg (fun H1 locs1 h1 h2 h3 => kk H1 locs1 ⟨h1, h2, h3⟩)
theorem jput {a : Nat} (hx : p.tables.exec = Jvm.exec) (hb : c.code = cc) {own ref C : String} {T : u_T} {N ci index : Nat} {Ts : List Cond} (hts : ∀ w ∈ Ts, w.before args s = true) (hin : ∀ w ∈ u_ws C T N, w ∈ Ts) (ty0 : Nat → FieldType) (hty : ∀ k, k < N → parseFieldDescriptor (T k).2.2.1 = some (ty0 k)) (hnm : ∀ a, a < N → ∀ b, b < N → a ≠ b → (T a).2.1 ≠ (T b).2.1) (hown : s.vm.findClass own = some m.cls) (hK : va_K D cl tys s) (hC : jcx D cl A H0 w H locs) (q0 : Nat) {fs : List Value} (he : w[q0]? = some (a, .inr (ci, fs))) (hc : cl[ci]? = some (C, T, N)) (k : Nat) (hk : k < N) (hlink : (Cond.fieldLink own index ref (T k).2.1 (T k).2.2.1).before args s = true) (hsame : ∀ x, s.fieldFound? (T k).1 (T k).2.1 (T k).2.2.1 = some x → s.fieldFound? ref (T k).2.1 (T k).2.2.1 = some x) (hfin : (T k).2.2.2 = false) {v : Int32} (hd : parseFieldDescriptor (T k).2.2.1 = some .int) (hl : k < fs.length)
    (hdg : decode cc pc = .ok (.putfield index, 3)) (hw : w.set q0 (a, .inr (ci, fs.set k (.int v))) = w') (kk : ∀ (H1 : Heap) (locs1 : List Loc), jcx D cl A H0 w' H1 locs1 → W p l e R s m args below meth c H1 locs1 cells slots Q (F0 m (pc + 3) ls rest)) : W p l e R s m args below meth c H locs cells slots Q (F0 m pc ls (.int v :: .ref a :: rest)) := by
  subst hw
  exact va_put hx hb hts hin ty0 hty hnm hown hK hC.1 hC.2.1 hC.2.2 q0 he hc k hk hlink hsame hfin hd rfl rfl hl hdg (fun H1 locs1 h1 h2 h3 => kk H1 locs1 ⟨h1, h2, h3⟩)
theorem jputN {a : Nat} (hx : p.tables.exec = Jvm.exec) (hb : c.code = cc) {own ref C host : String} {T : u_T} {N ci index : Nat} {Ts : List Cond} (hts : ∀ w ∈ Ts, w.before args s = true) (hin : ∀ w ∈ u_ws C T N, w ∈ Ts) (ty0 : Nat → FieldType) (hty : ∀ k, k < N → parseFieldDescriptor (T k).2.2.1 = some (ty0 k)) (hnm : ∀ a, a < N → ∀ b, b < N → a ≠ b → (T a).2.1 ≠ (T b).2.1) (hown : s.vm.findClass own = some m.cls) (hK : va_K D cl tys s) (hC : jcx D cl A H0 w H locs) (q0 : Nat) {fs : List Value} (he : w[q0]? = some (a, .inr (ci, fs))) (hc : cl[ci]? = some (C, T, N)) (k : Nat) (hk : k < N) (hlink : (Cond.fieldLinkNest own index ref (T k).2.1 (T k).2.2.1 host).before args s = true) (hsame : ∀ x, s.fieldFound? (T k).1 (T k).2.1 (T k).2.2.1 = some x → s.fieldFound? ref (T k).2.1 (T k).2.2.1 = some x) (hfin : (T k).2.2.2 = false) {v : Int32} (hd : parseFieldDescriptor (T k).2.2.1 = some .int) (hl : k < fs.length)
    (hdg : decode cc pc = .ok (.putfield index, 3)) (hw : w.set q0 (a, .inr (ci, fs.set k (.int v))) = w') (kk : ∀ (H1 : Heap) (locs1 : List Loc), jcx D cl A H0 w' H1 locs1 → W p l e R s m args below meth c H1 locs1 cells slots Q (F0 m (pc + 3) ls rest)) : W p l e R s m args below meth c H locs cells slots Q (F0 m pc ls (.int v :: .ref a :: rest)) := by
  subst hw
  exact va_putN hx hb hts hin ty0 hty hnm hown hK hC.1 hC.2.1 hC.2.2 q0 he hc k hk hlink hsame hfin hd rfl rfl hl hdg (fun H1 locs1 h1 h2 h3 => kk H1 locs1 ⟨h1, h2, h3⟩)
end JR
def jCp (sp dp n : Int32) (L : Nat) : Bool := decide (¬ sp < 0) && decide (¬ dp < 0) && decide (¬ n < 0) && decide (sp.toNatClampNeg + n.toNatClampNeg ≤ L) && decide (dp.toNatClampNeg + n.toNatClampNeg ≤ L)
theorem jCp_s {sp dp n : Int32} {L : Nat} (h : jCp sp dp n L = true) : ¬ sp < 0 ∧ ¬ dp < 0 ∧ ¬ n < 0 ∧ sp.toNatClampNeg + n.toNatClampNeg ≤ L ∧ dp.toNatClampNeg + n.toNatClampNeg ≤ L := by
  simp only [jCp, Bool.and_eq_true, decide_eq_true_eq] at h
  exact ⟨h.1.1.1.1, h.1.1.1.2, h.1.1.2, h.1.2, h.2⟩
section JC
variable {p : Program} {l : Launch} {e : Env} {R : Room} {s : State} {m : MethodId} {args : Array Value} {below : List Frame} {meth : Method} {c : Code} {H : Heap} {locs : List Loc} {cells slots : Nat} {Q : State → Prop}
variable {cc : ByteArray} {pc : Nat} {ls : Array Slot} {rest st0 : List Value} {D : va_G} {cl : List vw_C} {A : Nat → Prop} {tys : List (ClassId × FieldType)} {w w' : va_W} {H0 : Heap} {r : Int32} {E : jEv} {a : Array Value}
theorem jfree (hC : jcx D cl A H0 w H locs) (hA : ∀ q, H0.size ≤ q → A q) : ∀ q, va_A w H.size q → A q := fun q h => by
  rcases h with ⟨k, e, h⟩ | h
  · exact hC.2.1.2 k (q, e) h
  · exact hA q (Nat.le_trans hC.2.2.1 h)
theorem jcall_i (hr : va_Run p l e R s m args below meth c H locs cells slots 0 0 (F0 m pc ls st0) rest (jQi D cl tys w w' H.size r a) (va_A w H.size)) (hC : jcx D cl A H0 w H locs) (hA : ∀ q, H0.size ≤ q → A q)
    (kk : ∀ (H1 : Heap) (locs1 : List Loc), jcx D cl A H0 w' H1 locs1 → W p l e R s m args below meth c H1 locs1 cells slots Q (F0 m (pc + 3) ls (.int r :: rest))) : W p l e R s m args below meth c H locs cells slots Q (F0 m pc ls st0) := by
  have hF := jfree hC hA
  refine va_calli (A1 := va_A w H.size) hr hC.2.2 (fun q _ h => hF q h) hF (fun x u t H1 locs1 ht hvm hp hB hz hk hS => ?_)
  obtain ⟨hP1, hK1, hD1⟩ := hB
  have hp : x = r := hp
  rw [ht] at hP1
  rw [hp]
  exact kk H1 locs1 ⟨hP1, hD1.weaken (fun k q _ h => hF q.1 h), hS⟩
theorem jcall_v (hr : va_Run p l e R s m args below meth c H locs cells slots 0 0 (F0 m pc ls st0) rest (jQv D cl tys w w' H.size a) (va_A w H.size)) (hC : jcx D cl A H0 w H locs) (hA : ∀ q, H0.size ≤ q → A q)
    (kk : ∀ (H1 : Heap) (locs1 : List Loc), jcx D cl A H0 w' H1 locs1 → W p l e R s m args below meth c H1 locs1 cells slots Q (F0 m (pc + 3) ls rest)) : W p l e R s m args below meth c H locs cells slots Q (F0 m pc ls st0) := by
  have hF := jfree hC hA
  refine va_callv (A1 := va_A w H.size) hr hC.2.2 (fun q _ h => hF q h) hF (fun u t H1 locs1 ht hvm hp hB hz hk hS => ?_)
  obtain ⟨hP1, hK1, hD1⟩ := hB
  rw [ht] at hP1
  exact kk H1 locs1 ⟨hP1, hD1.weaken (fun k q _ h => hF q.1 h), hS⟩
theorem jblind (hE : jEok E) (av : List Value) (sz : Nat) : FrameBlind (jPc D cl tys E av w sz) := by
  intro a U g mk q
  obtain ⟨q0, q1, qP, qK, qD, qN⟩ := q
  exact ⟨q0, q1, qP, va_K.moved (u := U) (U := U.calling g mk a) (Vm.Alike.refl U.vm) qK, qD, hE.2.1 _ U (U.calling g mk a) _ rfl qN⟩
theorem jpre (hE : jEok E) (hC : jcx D cl A s.heap w H locs) (hA : ∀ q, s.heap.size ≤ q → A q) (hK : va_K D cl tys s) (hN : E A s s.heap) (av : List Value) : ∀ U : State, U.heap = H → s.WarmedH U.vm → jPc D cl tys E av w H.size av.toArray U := by
  intro U hU hW
  refine ⟨rfl, by rw [hU], by rw [hU]; exact hC.1, va_K.moved hW.alike hK, hC.2.1.weaken (fun _ _ _ _ => trivial), ?_⟩
  rw [hU]
  exact hE.2.2.2 _ _ _ _ (jfree hC hA) (hE.2.2.1 _ _ _ _ hC.2.2.2.1 (hE.1 _ _ _ _ hW hN))
theorem jpreV (hE : jEok E) (hC : jcx D cl A s.heap w H locs) (hA : ∀ q, s.heap.size ≤ q → A q) (hK : va_K D cl tys s) (hN : E A s s.heap) {b q0 ci : Nat} {fs : List Value} {qc : vw_C} {C : String} (he : w[q0]? = some (b, .inr (ci, fs))) (hc : cl[ci]? = some qc) (hCn : qc.1 = C) (As : List Value) : PreV s H C b (jPc D cl tys E (.ref b :: As) w H.size) As := by
  subst hCn
  exact ⟨jblind hE _ _, va_recv hK hC.1 hc he, jpre hE hC hA hK hN _⟩
theorem jpreO (hE : jEok E) (hC : jcx D cl A s.heap w H locs) (hA : ∀ q, s.heap.size ≤ q → A q) (hK : va_K D cl tys s) (hN : E A s s.heap) {b : Nat} {C : String} (hr : ∃ cell : Cell, H[b]? = some cell ∧ cell.vm.isStatics = false ∧ s.vm.findClass C = some cell.cls) (As : List Value) : PreV s H C b (jPc D cl tys E (.ref b :: As) w H.size) As := ⟨jblind hE _ _, hr, jpre hE hC hA hK hN _⟩
theorem jpreS (hE : jEok E) (hC : jcx D cl A s.heap w H locs) (hA : ∀ q, s.heap.size ≤ q → A q) (hK : va_K D cl tys s) (hN : E A s s.heap) (As : List Value) : PreS s H (jPc D cl tys E As w H.size) As := ⟨jblind hE _ _, jpre hE hC hA hK hN _⟩
theorem jcopy {a : Nat} (hx : p.tables.exec = Jvm.exec) (hb : c.code = cc) (hml : c.maxLocals = ls.size) {own : String} {index : Nat} (hown : s.vm.findClass own = some m.cls) (hlink : (Cond.methodLink own index arraycopyName).before args s = true) (hnat : (Cond.native arraycopyName).before args s = true) (hstat : (Cond.static arraycopyName).before args s = true) (hini : (Cond.initialized "java/lang/System").before args s = true)
    (hK : va_K D cl tys s) (hC : jcx D cl A H0 w H locs) (q0 t0 : Nat) {cA : ClassId} {n0 : Nat} {f : Nat → Int32} (ha : w[q0]? = some (a, .inl (cA, n0, .inl f))) (ht : tys[t0]? = some (cA, .int)) {sp dp n : Int32} (h1 : ¬ sp < 0) (h2 : ¬ dp < 0) (h3 : ¬ n < 0) (h4 : sp.toNatClampNeg + n.toNatClampNeg ≤ n0) (h5 : dp.toNatClampNeg + n.toNatClampNeg ≤ n0)
    (hframes : 1 ≤ R.frames) (hlocals : (rest.map fun v => v.category).sum + (nativeFrameWords "java/lang/System" "arraycopy" 5 + 11) ≤ R.locals) (hdg : decode cc pc = .ok (.invokestatic index, 3)) (hw : w.set q0 (a, .inl (cA, n0, .inl (va_cpy f f sp.toNatClampNeg dp.toNatClampNeg n.toNatClampNeg))) = w')
    (kk : ∀ (H1 : Heap) (locs1 : List Loc), jcx D cl A H0 w' H1 locs1 → W p l e R s m args below meth c H1 locs1 cells slots Q (F0 m (pc + 3) ls rest)) : W p l e R s m args below meth c H locs cells slots Q (F0 m pc ls (.int n :: .int dp :: .ref a :: .int sp :: .ref a :: rest)) := by
  subst hw
  exact va_copyi hx hb hml hown hlink hnat hstat hini hK hC.1 hC.2.1 hC.2.2 q0 q0 t0 t0 ha ha ht ht rfl h1 h2 h3 h4 h5 (fun _ _ => rfl) hframes hlocals hdg (fun H1 locs1 g1 g2 g3 => kk H1 locs1 ⟨g1, g2, g3⟩)
end JC
