/-! a letter stays itself as a char -/
theorem vn_ok {c : Int32} (h : qOk c) : vp_nar .char c = c := by
  unfold vp_nar
  rw [jCh_n (jCh_ok h)]
