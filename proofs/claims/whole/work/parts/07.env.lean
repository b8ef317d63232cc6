/-! what stays round about in this claim: the four String constants, two statics, the nest links; the check of an index -/
def lenJ : List Nat := [2, 4, 5, 10]
def bytJ : List (List Int32) := [[105, 102], [101, 108, 115, 101], [119, 104, 105, 108, 101], [59, 123, 125, 40, 41, 43, 45, 42, 60, 61]]
def jEn (sk sv : Nat → Nat) : jEv := fun A U H => jnw NW U ∧ vk_S 4 lenJ bytJ sk sv A U H ∧ (vk_R "SharedSyntax$Tokens" 63 "if" (sk 0) U ∧ vk_R "SharedSyntax$Tokens" 69 "else" (sk 1) U ∧ vk_R "SharedSyntax$Tokens" 71 "while" (sk 2) U ∧ vk_R "SharedSyntax$Tokens" 83 ";{}()+-*<=" (sk 3) U) ∧ va_Z "java/lang/String" "COMPACT_STRINGS" "Z" (.int 1) A U H ∧ va_Zq "jdk/internal/util/Preconditions" "SIOOBE_FORMATTER" "Ljava/util/function/BiFunction;" A U H ∧ va_AO "SharedSyntax$Letters" U
theorem jEn_ok (sk sv : Nat → Nat) : jEok (jEn sk sv) := by
  refine ⟨fun A s U H hW h => ?_, fun A u U H hv h => ?_, fun A U H H1 hq h => ?_, fun A B U H hAB h => ?_⟩
  · obtain ⟨h1, h2, ⟨r0, r1, r2, r3⟩, h4, h5, h6⟩ := h
    exact ⟨jnw.warm NW_ok hW h1, vk_S.moved hW.alike h2, ⟨vk_R.warm hW r0, vk_R.warm hW r1, vk_R.warm hW r2, vk_R.warm hW r3⟩, va_Z.moved hW.alike h4, va_Zq.moved hW.alike h5, va_AO.moved hW.alike h6⟩
  · obtain ⟨h1, h2, ⟨r0, r1, r2, r3⟩, h4, h5, h6⟩ := h
    have ha : u.vm.Alike U.vm := by rw [hv]; exact Vm.Alike.refl _
    exact ⟨jnw.same NW_ok hv h1, vk_S.moved ha h2, ⟨vk_R.same hv.symm r0, vk_R.same hv.symm r1, vk_R.same hv.symm r2, vk_R.same hv.symm r3⟩, va_Z.moved ha h4, va_Zq.moved ha h5, va_AO.moved ha h6⟩
  · obtain ⟨h1, h2, h3, h4, h5, h6⟩ := h
    exact ⟨h1, vk_S.kept h2 hq, h3, va_Z.kept h4 hq, va_Zq.kept h5 hq, h6⟩
  · obtain ⟨h1, h2, h3, h4, h5, h6⟩ := h
    exact ⟨h1, vk_S.narrow h2 hAB, h3, va_Z.narrow h4 hAB, va_Zq.narrow h5 hAB, h6⟩
theorem jck_s {α : Type} {a b : Int32} {x : Option α} {z : α} (h : (if a < 0 then none else (if a < b then x else none)) = some z) : ¬ a < 0 ∧ a < b ∧ x = some z := by
  by_cases h1 : a < 0
  · rw [if_pos h1] at h
    cases h
  · rw [if_neg h1] at h
    by_cases h2 : a < b
    · rw [if_pos h2] at h
      exact ⟨h1, h2, h⟩
    · rw [if_neg h2] at h
      cases h
set_option maxHeartbeats 4000000 in
set_option maxRecDepth 100000 in
theorem cJP_checkIndex (l : Launch) (dC : Nat → ClassId) (dI : Nat → Nat → Nat) (sk sv : Nat → Nat) (tys : List (ClassId × FieldType)) (w : va_W) (v : Value) (hv : v = .null ∨ ∃ t, v = .ref t) (a b : Int32) (h1 : ¬ a < 0) (h2 : a < b) : Ci l yJP_checkIndex (Cond.code yJP_checkIndex prog_15_method_11_code 3 (some .int) :: TB) ({ frames := 0, cells := 0, slots := 0, locals := 0 }) (dC, dI) vwCl tys (jEn sk sv) [.int a, .int b, v] w w a := by
  have hlen : (lg_sl [.int a, .int b, v]).length ≤ 3 := by rcases hv with rfl | ⟨t, rfl⟩ <;> exact Nat.le_of_ble_eq_true rfl
  refine Ci_of (cc := prog_15_method_11_code) (maxL := 3) (ret := (some .int)) (by decide) rfl hlen ?_
  intro p e s m below meth c ls F hl hK hN hC
  obtain ⟨hx, hb, hml, hown, hts, hr, hlk⟩ := F
  have hl : lv_has ls 3 [(0, .int a), (1, .int b), (2, v)] := hl
  refine lv_iload_n hx hb dJP_checkIndex_0 rfl (lv_at hl 0 rfl) ?_
  refine lv_if_lt (tgt := 9) hx hb dJP_checkIndex_1 (by decide) (fun c => absurd c h1) (fun _ => ?_)
  refine lv_iload_n hx hb dJP_checkIndex_4 rfl (lv_at hl 0 rfl) ?_
  refine lv_iload_n hx hb dJP_checkIndex_5 rfl (lv_at hl 1 rfl) ?_
  refine lv_icmp_lt (tgt := 16) hx hb dJP_checkIndex_6 (by decide) (fun _ => ?_) (fun c => absurd h2 c)
  refine lv_iload_n hx hb dJP_checkIndex_16 rfl (lv_at hl 0 rfl) ?_
  exact jret_i hx hb hr hlk hC hK dJP_checkIndex_17
set_option maxHeartbeats 4000000 in
set_option maxRecDepth 100000 in
theorem cJS_checkIndex (l : Launch) (dC : Nat → ClassId) (dI : Nat → Nat → Nat) (sk sv : Nat → Nat) (tys : List (ClassId × FieldType)) (w : va_W) (a b : Int32) (h1 : ¬ a < 0) (h2 : a < b) : Cv l yJS_checkIndex (Cond.code yJS_checkIndex prog_11_method_155_code 2 none :: TB) ({ frames := 1, cells := 0, slots := 0, locals := 22 }) (dC, dI) vwCl tys (jEn sk sv) [.int a, .int b] w w := by
  refine Cv_of (cc := prog_11_method_155_code) (maxL := 2) (ret := none) (by decide) rfl (Nat.le_of_ble_eq_true rfl) ?_
  intro p e s m below meth c ls F hl hK hN hC
  obtain ⟨hx, hb, hml, hown, hts, hr, hlk⟩ := F
  have ht : ∀ w ∈ TB, w.before [.int a, .int b].toArray s = true := fun w h => hts w (List.mem_cons_of_mem _ h)
  have hA : ∀ q, s.heap.size ≤ q → va_A w s.heap.size q := fun q h => Or.inr h
  have hl : lv_has ls 2 [(0, .int a), (1, .int b)] := hl
  refine lv_iload_n hx hb dJS_checkIndex_0 rfl (lv_at hl 0 rfl) ?_
  refine lv_iload_n hx hb dJS_checkIndex_1 rfl (lv_at hl 1 rfl) ?_
  have go : ∀ v : Value, (v = .null ∨ ∃ t, v = .ref t) → W p l e ({ frames := 1, cells := 0, slots := 0, locals := 22 }) s m [.int a, .int b].toArray below meth c s.heap [] 0 0 (MQ below (jQv (dC, dI) vwCl tys w w s.heap.size) [.int a, .int b].toArray s 0 0 (va_A w s.heap.size)) (F0 m 5 ls [v, .int b, .int a]) := by
    intro v hv
    refine jcall_i (va_runS (As := [.int a, .int b, v]) (rest := []) ⟨hx, hb, hml, hown, hts⟩ (cJP_checkIndex l dC dI sk sv tys w v hv a b h1 h2 _) ⟨(callB_of 3 hts (tb_good tw216) rfl rfl rfl (ht _ tw8) (ht _ tw214) (by decide +kernel) ⟨Nat.le_of_ble_eq_true rfl, Nat.le_of_ble_eq_true rfl⟩), ht _ tw215⟩ (jpreS (jEn_ok sk sv) hC hA hK hN _) rfl rfl hl.1 rfl (lv_room (Nat.le_of_ble_eq_true rfl)) dJS_checkIndex_5 ⟨Nat.le_refl _, Nat.le_refl _⟩) hC hA (fun H locs hC => ?_)
    refine lv_pop hx hb dJS_checkIndex_8 rfl ?_
    exact jret_v hx hb hr hlk hC hK dJS_checkIndex_9
  obtain hz | ⟨t, hz⟩ := hN.2.2.2.2.1
  · exact va_gets hx hb hz hC.2.2 hown (ht _ tw212) (fun _ h9 => h9) dJS_checkIndex_2 (go _ (Or.inl rfl))
  · exact va_gets hx hb hz hC.2.2 hown (ht _ tw212) (fun _ h9 => h9) dJS_checkIndex_2 (go _ (Or.inr ⟨t, rfl⟩))
