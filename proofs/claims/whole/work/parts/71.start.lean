/-! THE START, given that 'law' answers alike -/
theorem the_start (hlaw : lR) {p : Program} {e : Env} {s : State} {m : MethodId} {below : List Frame} {meth : Method} {c : Code} (l : Launch) {b L : Nat} {xs : Nat → Int32} (hL : L ≤ 3072) (C0 : lw_At p s m meth c b L xs) : W p l e room_1 s m #[Value.ref b] below meth c s.heap [] 0 0 (lw_Z below #[Value.ref b] s) (entryFrame m ([Value.ref b] : List Value).toArray 4) := by
  obtain ⟨w, hmb, hel, hea, hex, h0, h1, h2, F⟩ := m_world hL C0
  have hx : ∀ j, -2147483648 ≤ mex w 3 j ∧ mex w 3 j < 2147483648 := fun j => by
    rw [hex j]
    exact i32_in (xs j)
  obtain ⟨n, σ', h⟩ := the_run (w := w) hlaw (by rw [hel]; exact hL) hx h0 h1 h2
  exact law_out l C0 F hmb hea h
