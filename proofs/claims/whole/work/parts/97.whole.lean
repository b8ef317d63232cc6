/-! the whole, from the entry -/
theorem whole_start {p : Program} {e : Env} {s : State} {m : MethodId} {below : List Frame} {meth : Method} {c : Code} (l : Launch) {b L : Nat} {xs : Nat → Int32} (hL : L ≤ 1536) (C0 : lw_At p s m meth c b L xs) : W p l e room_1 s m #[Value.ref b] below meth c s.heap [] 0 0 (lw_Z below #[Value.ref b] s) (entryFrame m ([Value.ref b] : List Value).toArray 4) := by
  obtain ⟨N, hN⟩ : ∃ N : Nat, 200000 ≤ N := ⟨200000, Nat.le_refl _⟩
  obtain ⟨zc, zm, e1, e2, hI⟩ := p_start hN
  exact start_of l hL C0 N InvX (p_step hN) zc zm 0 0 e1 e2 hI
