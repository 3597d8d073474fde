/-! PURE PART 43: the law, case by case -/
section
variable {mx : Int × Int} {σ : mM} {k i Nn : Nat} {xs : Nat → Int}
theorem RR_8 {N : Int} (R : RR xs N k σ) : (∀ j, σ 903 j = xs j) ∧ σ 904 0 = N := by
  obtain ⟨V, L, H, n, s, b, -, -, -, -, -, -, -, g⟩ := R
  exact g.2.2.2
/-- 'law' answers alike (it wants a depth of its own) -/
def lR : Prop := ∀ (xs : Nat → Int) (N : Int) (k : Nat) (σ : mM), k ≤ 600 → RR xs N k σ → ∃ r σ1 σ2, mcall 2000 93 [(29, 0)] σ = some (r, σ1) ∧ mcall 2000 163 [(30, 64)] σ1 = some (r, σ2) ∧ RR xs N (k + 1) σ2 ∧ σ1 903 = σ 903 ∧ σ1 904 = σ 904
def nX (mx : Int × Int) (xs : Nat → Int) (Nn k i : Nat) : Prop := ∀ τ, RR xs (Nn : Int) (k + 1) τ → ∃ σ', mgo (mcall 2000) mx 229 1385 [(4, 903), (29, 0), (30, 64), (0, (i : Int))] [] τ = some (1, σ')
theorem z_200 (hi : i + 6 ≤ Nn) (hN : Nn ≤ 3072) (hx : ∀ j, -2147483648 ≤ xs j ∧ xs j < 2147483648) (hk : k ≤ 600) (R : RR xs (Nn : Int) k σ) (nxt : nX mx xs Nn k i) : ∃ σ', mgo (mcall 2000) mx 229 200 [(4, 903), (29, 0), (30, 64), (0, (i : Int))] [] σ = some (1, σ') := by
  have c : cR 88 139 [(0, xs (i + 1)), (0, xs (i + 2))] := r_house
  obtain ⟨r, σ1, σ2, c1, c2, R2, e3, e4⟩ := c 1960 xs (Nn : Int) k σ hk R
  replace c1 : mcall 2000 88 [(29, 0), (0, xs (i + 1)), (0, xs (i + 2))] σ = some (r, σ1) := c1
  replace c2 : mcall 2000 139 [(30, 64), (0, xs (i + 1)), (0, xs (i + 2))] σ1 = some (r, σ2) := c2
  obtain ⟨σ', h⟩ := nxt σ2 R2
  obtain ⟨g3, g4⟩ := RR_8 R
  have w1 : w32 ((i : Int) + 1) = ((i + 1 : Nat) : Int) := by rw [w32_e (by omega)]; rfl
  have w2 : w32 ((i : Int) + 2) = ((i + 2 : Nat) : Int) := by rw [w32_e (by omega)]; rfl
  have k4 : σ1 904 0 = (Nn : Int) := by rw [e4]; exact g4
  have k3 : ∀ j, σ1 903 j = xs j := fun j => by rw [e3]; exact g3 j
  exact ⟨σ', by rw [f_229_200, w1, w2, g4, bIn_t (by omega), bIn_t (by omega), tn_n (i + 1), tn_n (i + 2), g3 (i + 1), g3 (i + 2), c1, bK_t, k4, bIn_t (by omega), bIn_t (by omega), k3 (i + 1), k3 (i + 2), c2, bK_t, bEq_t rfl]; exact h⟩
theorem z_233 (hi : i + 6 ≤ Nn) (hN : Nn ≤ 3072) (hx : ∀ j, -2147483648 ≤ xs j ∧ xs j < 2147483648) (hk : k ≤ 600) (R : RR xs (Nn : Int) k σ) (nxt : nX mx xs Nn k i) : ∃ σ', mgo (mcall 2000) mx 229 233 [(4, 903), (29, 0), (30, 64), (0, (i : Int))] [] σ = some (1, σ') := by
  have c : cR 89 140 [(0, xs (i + 1)), (0, xs (i + 2)), (0, xs (i + 3))] := r_houses (by have := hx (i + 2); omega)
  obtain ⟨r, σ1, σ2, c1, c2, R2, e3, e4⟩ := c 1960 xs (Nn : Int) k σ hk R
  replace c1 : mcall 2000 89 [(29, 0), (0, xs (i + 1)), (0, xs (i + 2)), (0, xs (i + 3))] σ = some (r, σ1) := c1
  replace c2 : mcall 2000 140 [(30, 64), (0, xs (i + 1)), (0, xs (i + 2)), (0, xs (i + 3))] σ1 = some (r, σ2) := c2
  obtain ⟨σ', h⟩ := nxt σ2 R2
  obtain ⟨g3, g4⟩ := RR_8 R
  have w1 : w32 ((i : Int) + 1) = ((i + 1 : Nat) : Int) := by rw [w32_e (by omega)]; rfl
  have w2 : w32 ((i : Int) + 2) = ((i + 2 : Nat) : Int) := by rw [w32_e (by omega)]; rfl
  have w3 : w32 ((i : Int) + 3) = ((i + 3 : Nat) : Int) := by rw [w32_e (by omega)]; rfl
  have k4 : σ1 904 0 = (Nn : Int) := by rw [e4]; exact g4
  have k3 : ∀ j, σ1 903 j = xs j := fun j => by rw [e3]; exact g3 j
  exact ⟨σ', by rw [f_229_233, w1, w2, w3, g4, bIn_t (by omega), bIn_t (by omega), bIn_t (by omega), tn_n (i + 1), tn_n (i + 2), tn_n (i + 3), g3 (i + 1), g3 (i + 2), g3 (i + 3), c1, bK_t, k4, bIn_t (by omega), bIn_t (by omega), bIn_t (by omega), k3 (i + 1), k3 (i + 2), k3 (i + 3), c2, bK_t, bEq_t rfl]; exact h⟩
theorem z_276 (hi : i + 6 ≤ Nn) (hN : Nn ≤ 3072) (hx : ∀ j, -2147483648 ≤ xs j ∧ xs j < 2147483648) (hk : k ≤ 600) (R : RR xs (Nn : Int) k σ) (nxt : nX mx xs Nn k i) : ∃ σ', mgo (mcall 2000) mx 229 276 [(4, 903), (29, 0), (30, 64), (0, (i : Int))] [] σ = some (1, σ') := by
  have c : cR 90 146 [(0, xs (i + 1)), (0, xs (i + 2)), (0, xs (i + 3))] := r_mend
  obtain ⟨r, σ1, σ2, c1, c2, R2, e3, e4⟩ := c 1960 xs (Nn : Int) k σ hk R
  replace c1 : mcall 2000 90 [(29, 0), (0, xs (i + 1)), (0, xs (i + 2)), (0, xs (i + 3))] σ = some (r, σ1) := c1
  replace c2 : mcall 2000 146 [(30, 64), (0, xs (i + 1)), (0, xs (i + 2)), (0, xs (i + 3))] σ1 = some (r, σ2) := c2
  obtain ⟨σ', h⟩ := nxt σ2 R2
  obtain ⟨g3, g4⟩ := RR_8 R
  have w1 : w32 ((i : Int) + 1) = ((i + 1 : Nat) : Int) := by rw [w32_e (by omega)]; rfl
  have w2 : w32 ((i : Int) + 2) = ((i + 2 : Nat) : Int) := by rw [w32_e (by omega)]; rfl
  have w3 : w32 ((i : Int) + 3) = ((i + 3 : Nat) : Int) := by rw [w32_e (by omega)]; rfl
  have k4 : σ1 904 0 = (Nn : Int) := by rw [e4]; exact g4
  have k3 : ∀ j, σ1 903 j = xs j := fun j => by rw [e3]; exact g3 j
  exact ⟨σ', by rw [f_229_276, w1, w2, w3, g4, bIn_t (by omega), bIn_t (by omega), bIn_t (by omega), tn_n (i + 1), tn_n (i + 2), tn_n (i + 3), g3 (i + 1), g3 (i + 2), g3 (i + 3), c1, bK_t, k4, bIn_t (by omega), bIn_t (by omega), bIn_t (by omega), k3 (i + 1), k3 (i + 2), k3 (i + 3), c2, bK_t, bEq_t rfl]; exact h⟩
theorem z_319 (hi : i + 6 ≤ Nn) (hN : Nn ≤ 3072) (hx : ∀ j, -2147483648 ≤ xs j ∧ xs j < 2147483648) (hk : k ≤ 600) (R : RR xs (Nn : Int) k σ) (nxt : nX mx xs Nn k i) : ∃ σ', mgo (mcall 2000) mx 229 319 [(4, 903), (29, 0), (30, 64), (0, (i : Int))] [] σ = some (1, σ') := by
  have c : cR 91 147 [(0, xs (i + 1)), (0, xs (i + 2))] := r_of
  obtain ⟨r, σ1, σ2, c1, c2, R2, e3, e4⟩ := c 1960 xs (Nn : Int) k σ hk R
  replace c1 : mcall 2000 91 [(29, 0), (0, xs (i + 1)), (0, xs (i + 2))] σ = some (r, σ1) := c1
  replace c2 : mcall 2000 147 [(30, 64), (0, xs (i + 1)), (0, xs (i + 2))] σ1 = some (r, σ2) := c2
  obtain ⟨σ', h⟩ := nxt σ2 R2
  obtain ⟨g3, g4⟩ := RR_8 R
  have w1 : w32 ((i : Int) + 1) = ((i + 1 : Nat) : Int) := by rw [w32_e (by omega)]; rfl
  have w2 : w32 ((i : Int) + 2) = ((i + 2 : Nat) : Int) := by rw [w32_e (by omega)]; rfl
  have k4 : σ1 904 0 = (Nn : Int) := by rw [e4]; exact g4
  have k3 : ∀ j, σ1 903 j = xs j := fun j => by rw [e3]; exact g3 j
  exact ⟨σ', by rw [f_229_319, w1, w2, g4, bIn_t (by omega), bIn_t (by omega), tn_n (i + 1), tn_n (i + 2), g3 (i + 1), g3 (i + 2), c1, bK_t, k4, bIn_t (by omega), bIn_t (by omega), k3 (i + 1), k3 (i + 2), c2, bK_t, bEq_t rfl]; exact h⟩
theorem z_352 (hi : i + 6 ≤ Nn) (hN : Nn ≤ 3072) (hx : ∀ j, -2147483648 ≤ xs j ∧ xs j < 2147483648) (hk : k ≤ 600) (R : RR xs (Nn : Int) k σ) (nxt : nX mx xs Nn k i) : ∃ σ', mgo (mcall 2000) mx 229 352 [(4, 903), (29, 0), (30, 64), (0, (i : Int))] [] σ = some (1, σ') := by
  have c : cR 92 150 [(0, xs (i + 1))] := r_feed
  obtain ⟨r, σ1, σ2, c1, c2, R2, e3, e4⟩ := c 1960 xs (Nn : Int) k σ hk R
  replace c1 : mcall 2000 92 [(29, 0), (0, xs (i + 1))] σ = some (r, σ1) := c1
  replace c2 : mcall 2000 150 [(30, 64), (0, xs (i + 1))] σ1 = some (r, σ2) := c2
  obtain ⟨σ', h⟩ := nxt σ2 R2
  obtain ⟨g3, g4⟩ := RR_8 R
  have w1 : w32 ((i : Int) + 1) = ((i + 1 : Nat) : Int) := by rw [w32_e (by omega)]; rfl
  have k4 : σ1 904 0 = (Nn : Int) := by rw [e4]; exact g4
  have k3 : ∀ j, σ1 903 j = xs j := fun j => by rw [e3]; exact g3 j
  exact ⟨σ', by rw [f_229_352, w1, g4, bIn_t (by omega), tn_n (i + 1), g3 (i + 1), c1, bK_t, k4, bIn_t (by omega), k3 (i + 1), c2, bK_t, bEq_t rfl]; exact h⟩
theorem z_375 (hlaw : lR) (hi : i + 6 ≤ Nn) (hN : Nn ≤ 3072) (hx : ∀ j, -2147483648 ≤ xs j ∧ xs j < 2147483648) (hk : k ≤ 600) (R : RR xs (Nn : Int) k σ) (nxt : nX mx xs Nn k i) : ∃ σ', mgo (mcall 2000) mx 229 375 [(4, 903), (29, 0), (30, 64), (0, (i : Int))] [] σ = some (1, σ') := by
  obtain ⟨r, σ1, σ2, c1, c2, R2, e3, e4⟩ := hlaw xs (Nn : Int) k σ hk R
  replace c1 : mcall 2000 93 [(29, 0)] σ = some (r, σ1) := c1
  replace c2 : mcall 2000 163 [(30, 64)] σ1 = some (r, σ2) := c2
  obtain ⟨σ', h⟩ := nxt σ2 R2
  obtain ⟨g3, g4⟩ := RR_8 R
  exact ⟨σ', by rw [f_229_375, c1, bK_t, c2, bK_t, bEq_t rfl]; exact h⟩
theorem z_388 (hi : i + 6 ≤ Nn) (hN : Nn ≤ 3072) (hx : ∀ j, -2147483648 ≤ xs j ∧ xs j < 2147483648) (hk : k ≤ 600) (R : RR xs (Nn : Int) k σ) (nxt : nX mx xs Nn k i) : ∃ σ', mgo (mcall 2000) mx 229 388 [(4, 903), (29, 0), (30, 64), (0, (i : Int))] [] σ = some (1, σ') := by
  have c : cR 94 181 [(0, xs (i + 1)), (0, xs (i + 2)), (0, xs (i + 3))] := r_later
  obtain ⟨r, σ1, σ2, c1, c2, R2, e3, e4⟩ := c 1960 xs (Nn : Int) k σ hk R
  replace c1 : mcall 2000 94 [(29, 0), (0, xs (i + 1)), (0, xs (i + 2)), (0, xs (i + 3))] σ = some (r, σ1) := c1
  replace c2 : mcall 2000 181 [(30, 64), (0, xs (i + 1)), (0, xs (i + 2)), (0, xs (i + 3))] σ1 = some (r, σ2) := c2
  obtain ⟨σ', h⟩ := nxt σ2 R2
  obtain ⟨g3, g4⟩ := RR_8 R
  have w1 : w32 ((i : Int) + 1) = ((i + 1 : Nat) : Int) := by rw [w32_e (by omega)]; rfl
  have w2 : w32 ((i : Int) + 2) = ((i + 2 : Nat) : Int) := by rw [w32_e (by omega)]; rfl
  have w3 : w32 ((i : Int) + 3) = ((i + 3 : Nat) : Int) := by rw [w32_e (by omega)]; rfl
  have k4 : σ1 904 0 = (Nn : Int) := by rw [e4]; exact g4
  have k3 : ∀ j, σ1 903 j = xs j := fun j => by rw [e3]; exact g3 j
  exact ⟨σ', by rw [f_229_388, w1, w2, w3, g4, bIn_t (by omega), bIn_t (by omega), bIn_t (by omega), tn_n (i + 1), tn_n (i + 2), tn_n (i + 3), g3 (i + 1), g3 (i + 2), g3 (i + 3), c1, bK_t, k4, bIn_t (by omega), bIn_t (by omega), bIn_t (by omega), k3 (i + 1), k3 (i + 2), k3 (i + 3), c2, bK_t, bEq_t rfl]; exact h⟩
theorem z_431 (hi : i + 6 ≤ Nn) (hN : Nn ≤ 3072) (hx : ∀ j, -2147483648 ≤ xs j ∧ xs j < 2147483648) (hk : k ≤ 600) (R : RR xs (Nn : Int) k σ) (nxt : nX mx xs Nn k i) : ∃ σ', mgo (mcall 2000) mx 229 431 [(4, 903), (29, 0), (30, 64), (0, (i : Int))] [] σ = some (1, σ') := by
  have c : cR 95 183 [(0, xs (i + 1)), (0, xs (i + 2))] := r_cold
  obtain ⟨r, σ1, σ2, c1, c2, R2, e3, e4⟩ := c 1960 xs (Nn : Int) k σ hk R
  replace c1 : mcall 2000 95 [(29, 0), (0, xs (i + 1)), (0, xs (i + 2))] σ = some (r, σ1) := c1
  replace c2 : mcall 2000 183 [(30, 64), (0, xs (i + 1)), (0, xs (i + 2))] σ1 = some (r, σ2) := c2
  obtain ⟨σ', h⟩ := nxt σ2 R2
  obtain ⟨g3, g4⟩ := RR_8 R
  have w1 : w32 ((i : Int) + 1) = ((i + 1 : Nat) : Int) := by rw [w32_e (by omega)]; rfl
  have w2 : w32 ((i : Int) + 2) = ((i + 2 : Nat) : Int) := by rw [w32_e (by omega)]; rfl
  have k4 : σ1 904 0 = (Nn : Int) := by rw [e4]; exact g4
  have k3 : ∀ j, σ1 903 j = xs j := fun j => by rw [e3]; exact g3 j
  exact ⟨σ', by rw [f_229_431, w1, w2, g4, bIn_t (by omega), bIn_t (by omega), tn_n (i + 1), tn_n (i + 2), g3 (i + 1), g3 (i + 2), c1, bK_t, k4, bIn_t (by omega), bIn_t (by omega), k3 (i + 1), k3 (i + 2), c2, bK_t, bEq_t rfl]; exact h⟩
theorem z_464 (hi : i + 6 ≤ Nn) (hN : Nn ≤ 3072) (hx : ∀ j, -2147483648 ≤ xs j ∧ xs j < 2147483648) (hk : k ≤ 600) (R : RR xs (Nn : Int) k σ) (nxt : nX mx xs Nn k i) : ∃ σ', mgo (mcall 2000) mx 229 464 [(4, 903), (29, 0), (30, 64), (0, (i : Int))] [] σ = some (1, σ') := by
  have c : cR 96 184 [(0, xs (i + 1))] := r_first
  obtain ⟨r, σ1, σ2, c1, c2, R2, e3, e4⟩ := c 1960 xs (Nn : Int) k σ hk R
  replace c1 : mcall 2000 96 [(29, 0), (0, xs (i + 1))] σ = some (r, σ1) := c1
  replace c2 : mcall 2000 184 [(30, 64), (0, xs (i + 1))] σ1 = some (r, σ2) := c2
  obtain ⟨σ', h⟩ := nxt σ2 R2
  obtain ⟨g3, g4⟩ := RR_8 R
  have w1 : w32 ((i : Int) + 1) = ((i + 1 : Nat) : Int) := by rw [w32_e (by omega)]; rfl
  have k4 : σ1 904 0 = (Nn : Int) := by rw [e4]; exact g4
  have k3 : ∀ j, σ1 903 j = xs j := fun j => by rw [e3]; exact g3 j
  exact ⟨σ', by rw [f_229_464, w1, g4, bIn_t (by omega), tn_n (i + 1), g3 (i + 1), c1, bK_t, k4, bIn_t (by omega), k3 (i + 1), c2, bK_t, bEq_t rfl]; exact h⟩
theorem z_487 (hi : i + 6 ≤ Nn) (hN : Nn ≤ 3072) (hx : ∀ j, -2147483648 ≤ xs j ∧ xs j < 2147483648) (hk : k ≤ 600) (R : RR xs (Nn : Int) k σ) (nxt : nX mx xs Nn k i) : ∃ σ', mgo (mcall 2000) mx 229 487 [(4, 903), (29, 0), (30, 64), (0, (i : Int))] [] σ = some (1, σ') := by
  have c : cR 97 185 [(0, xs (i + 1)), (0, xs (i + 2))] := r_often
  obtain ⟨r, σ1, σ2, c1, c2, R2, e3, e4⟩ := c 1960 xs (Nn : Int) k σ hk R
  replace c1 : mcall 2000 97 [(29, 0), (0, xs (i + 1)), (0, xs (i + 2))] σ = some (r, σ1) := c1
  replace c2 : mcall 2000 185 [(30, 64), (0, xs (i + 1)), (0, xs (i + 2))] σ1 = some (r, σ2) := c2
  obtain ⟨σ', h⟩ := nxt σ2 R2
  obtain ⟨g3, g4⟩ := RR_8 R
  have w1 : w32 ((i : Int) + 1) = ((i + 1 : Nat) : Int) := by rw [w32_e (by omega)]; rfl
  have w2 : w32 ((i : Int) + 2) = ((i + 2 : Nat) : Int) := by rw [w32_e (by omega)]; rfl
  have k4 : σ1 904 0 = (Nn : Int) := by rw [e4]; exact g4
  have k3 : ∀ j, σ1 903 j = xs j := fun j => by rw [e3]; exact g3 j
  exact ⟨σ', by rw [f_229_487, w1, w2, g4, bIn_t (by omega), bIn_t (by omega), tn_n (i + 1), tn_n (i + 2), g3 (i + 1), g3 (i + 2), c1, bK_t, k4, bIn_t (by omega), bIn_t (by omega), k3 (i + 1), k3 (i + 2), c2, bK_t, bEq_t rfl]; exact h⟩
theorem z_520 (hi : i + 6 ≤ Nn) (hN : Nn ≤ 3072) (hx : ∀ j, -2147483648 ≤ xs j ∧ xs j < 2147483648) (hk : k ≤ 600) (R : RR xs (Nn : Int) k σ) (nxt : nX mx xs Nn k i) : ∃ σ', mgo (mcall 2000) mx 229 520 [(4, 903), (29, 0), (30, 64), (0, (i : Int))] [] σ = some (1, σ') := by
  have c : cR 98 187 [(0, xs (i + 1)), (0, xs (i + 2))] := r_pulls
  obtain ⟨r, σ1, σ2, c1, c2, R2, e3, e4⟩ := c 1960 xs (Nn : Int) k σ hk R
  replace c1 : mcall 2000 98 [(29, 0), (0, xs (i + 1)), (0, xs (i + 2))] σ = some (r, σ1) := c1
  replace c2 : mcall 2000 187 [(30, 64), (0, xs (i + 1)), (0, xs (i + 2))] σ1 = some (r, σ2) := c2
  obtain ⟨σ', h⟩ := nxt σ2 R2
  obtain ⟨g3, g4⟩ := RR_8 R
  have w1 : w32 ((i : Int) + 1) = ((i + 1 : Nat) : Int) := by rw [w32_e (by omega)]; rfl
  have w2 : w32 ((i : Int) + 2) = ((i + 2 : Nat) : Int) := by rw [w32_e (by omega)]; rfl
  have k4 : σ1 904 0 = (Nn : Int) := by rw [e4]; exact g4
  have k3 : ∀ j, σ1 903 j = xs j := fun j => by rw [e3]; exact g3 j
  exact ⟨σ', by rw [f_229_520, w1, w2, g4, bIn_t (by omega), bIn_t (by omega), tn_n (i + 1), tn_n (i + 2), g3 (i + 1), g3 (i + 2), c1, bK_t, k4, bIn_t (by omega), bIn_t (by omega), k3 (i + 1), k3 (i + 2), c2, bK_t, bEq_t rfl]; exact h⟩
theorem z_553 (hi : i + 6 ≤ Nn) (hN : Nn ≤ 3072) (hx : ∀ j, -2147483648 ≤ xs j ∧ xs j < 2147483648) (hk : k ≤ 600) (R : RR xs (Nn : Int) k σ) (nxt : nX mx xs Nn k i) : ∃ σ', mgo (mcall 2000) mx 229 553 [(4, 903), (29, 0), (30, 64), (0, (i : Int))] [] σ = some (1, σ') := by
  have c : cR 99 188 [(0, xs (i + 1))] := r_shakes
  obtain ⟨r, σ1, σ2, c1, c2, R2, e3, e4⟩ := c 1960 xs (Nn : Int) k σ hk R
  replace c1 : mcall 2000 99 [(29, 0), (0, xs (i + 1))] σ = some (r, σ1) := c1
  replace c2 : mcall 2000 188 [(30, 64), (0, xs (i + 1))] σ1 = some (r, σ2) := c2
  obtain ⟨σ', h⟩ := nxt σ2 R2
  obtain ⟨g3, g4⟩ := RR_8 R
  have w1 : w32 ((i : Int) + 1) = ((i + 1 : Nat) : Int) := by rw [w32_e (by omega)]; rfl
  have k4 : σ1 904 0 = (Nn : Int) := by rw [e4]; exact g4
  have k3 : ∀ j, σ1 903 j = xs j := fun j => by rw [e3]; exact g3 j
  exact ⟨σ', by rw [f_229_553, w1, g4, bIn_t (by omega), tn_n (i + 1), g3 (i + 1), c1, bK_t, k4, bIn_t (by omega), k3 (i + 1), c2, bK_t, bEq_t rfl]; exact h⟩
theorem z_576 (hi : i + 6 ≤ Nn) (hN : Nn ≤ 3072) (hx : ∀ j, -2147483648 ≤ xs j ∧ xs j < 2147483648) (hk : k ≤ 600) (R : RR xs (Nn : Int) k σ) (nxt : nX mx xs Nn k i) : ∃ σ', mgo (mcall 2000) mx 229 576 [(4, 903), (29, 0), (30, 64), (0, (i : Int))] [] σ = some (1, σ') := by
  have c : cR 100 190 [(0, xs (i + 1)), (0, xs (i + 2))] := r_stuffs
  obtain ⟨r, σ1, σ2, c1, c2, R2, e3, e4⟩ := c 1960 xs (Nn : Int) k σ hk R
  replace c1 : mcall 2000 100 [(29, 0), (0, xs (i + 1)), (0, xs (i + 2))] σ = some (r, σ1) := c1
  replace c2 : mcall 2000 190 [(30, 64), (0, xs (i + 1)), (0, xs (i + 2))] σ1 = some (r, σ2) := c2
  obtain ⟨σ', h⟩ := nxt σ2 R2
  obtain ⟨g3, g4⟩ := RR_8 R
  have w1 : w32 ((i : Int) + 1) = ((i + 1 : Nat) : Int) := by rw [w32_e (by omega)]; rfl
  have w2 : w32 ((i : Int) + 2) = ((i + 2 : Nat) : Int) := by rw [w32_e (by omega)]; rfl
  have k4 : σ1 904 0 = (Nn : Int) := by rw [e4]; exact g4
  have k3 : ∀ j, σ1 903 j = xs j := fun j => by rw [e3]; exact g3 j
  exact ⟨σ', by rw [f_229_576, w1, w2, g4, bIn_t (by omega), bIn_t (by omega), tn_n (i + 1), tn_n (i + 2), g3 (i + 1), g3 (i + 2), c1, bK_t, k4, bIn_t (by omega), bIn_t (by omega), k3 (i + 1), k3 (i + 2), c2, bK_t, bEq_t rfl]; exact h⟩
theorem z_609 (hi : i + 6 ≤ Nn) (hN : Nn ≤ 3072) (hx : ∀ j, -2147483648 ≤ xs j ∧ xs j < 2147483648) (hk : k ≤ 600) (R : RR xs (Nn : Int) k σ) (nxt : nX mx xs Nn k i) : ∃ σ', mgo (mcall 2000) mx 229 609 [(4, 903), (29, 0), (30, 64), (0, (i : Int))] [] σ = some (1, σ') := by
  have c : cR 101 193 [(0, xs (i + 1))] := r_judge (by have := hx (i + 1); omega)
  obtain ⟨r, σ1, σ2, c1, c2, R2, e3, e4⟩ := c 1960 xs (Nn : Int) k σ hk R
  replace c1 : mcall 2000 101 [(29, 0), (0, xs (i + 1))] σ = some (r, σ1) := c1
  replace c2 : mcall 2000 193 [(30, 64), (0, xs (i + 1))] σ1 = some (r, σ2) := c2
  obtain ⟨σ', h⟩ := nxt σ2 R2
  obtain ⟨g3, g4⟩ := RR_8 R
  have w1 : w32 ((i : Int) + 1) = ((i + 1 : Nat) : Int) := by rw [w32_e (by omega)]; rfl
  have k4 : σ1 904 0 = (Nn : Int) := by rw [e4]; exact g4
  have k3 : ∀ j, σ1 903 j = xs j := fun j => by rw [e3]; exact g3 j
  exact ⟨σ', by rw [f_229_609, w1, g4, bIn_t (by omega), tn_n (i + 1), g3 (i + 1), c1, bK_t, k4, bIn_t (by omega), k3 (i + 1), c2, bK_t, bEq_t rfl]; exact h⟩
theorem z_632 (hi : i + 6 ≤ Nn) (hN : Nn ≤ 3072) (hx : ∀ j, -2147483648 ≤ xs j ∧ xs j < 2147483648) (hk : k ≤ 600) (R : RR xs (Nn : Int) k σ) (nxt : nX mx xs Nn k i) : ∃ σ', mgo (mcall 2000) mx 229 632 [(4, 903), (29, 0), (30, 64), (0, (i : Int))] [] σ = some (1, σ') := by
  have c : cR 102 195 [(0, xs (i + 1)), (0, xs (i + 2)), (0, xs (i + 3))] := r_felt (by have := hx (i + 1); omega)
  obtain ⟨r, σ1, σ2, c1, c2, R2, e3, e4⟩ := c 1960 xs (Nn : Int) k σ hk R
  replace c1 : mcall 2000 102 [(29, 0), (0, xs (i + 1)), (0, xs (i + 2)), (0, xs (i + 3))] σ = some (r, σ1) := c1
  replace c2 : mcall 2000 195 [(30, 64), (0, xs (i + 1)), (0, xs (i + 2)), (0, xs (i + 3))] σ1 = some (r, σ2) := c2
  obtain ⟨σ', h⟩ := nxt σ2 R2
  obtain ⟨g3, g4⟩ := RR_8 R
  have w1 : w32 ((i : Int) + 1) = ((i + 1 : Nat) : Int) := by rw [w32_e (by omega)]; rfl
  have w2 : w32 ((i : Int) + 2) = ((i + 2 : Nat) : Int) := by rw [w32_e (by omega)]; rfl
  have w3 : w32 ((i : Int) + 3) = ((i + 3 : Nat) : Int) := by rw [w32_e (by omega)]; rfl
  have k4 : σ1 904 0 = (Nn : Int) := by rw [e4]; exact g4
  have k3 : ∀ j, σ1 903 j = xs j := fun j => by rw [e3]; exact g3 j
  exact ⟨σ', by rw [f_229_632, w1, w2, w3, g4, bIn_t (by omega), bIn_t (by omega), bIn_t (by omega), tn_n (i + 1), tn_n (i + 2), tn_n (i + 3), g3 (i + 1), g3 (i + 2), g3 (i + 3), c1, bK_t, k4, bIn_t (by omega), bIn_t (by omega), bIn_t (by omega), k3 (i + 1), k3 (i + 2), k3 (i + 3), c2, bK_t, bEq_t rfl]; exact h⟩
theorem z_675 (hi : i + 6 ≤ Nn) (hN : Nn ≤ 3072) (hx : ∀ j, -2147483648 ≤ xs j ∧ xs j < 2147483648) (hk : k ≤ 600) (R : RR xs (Nn : Int) k σ) (nxt : nX mx xs Nn k i) : ∃ σ', mgo (mcall 2000) mx 229 675 [(4, 903), (29, 0), (30, 64), (0, (i : Int))] [] σ = some (1, σ') := by
  have c : cR 103 197 [(0, xs (i + 1)), (0, xs (i + 2))] := r_walk
  obtain ⟨r, σ1, σ2, c1, c2, R2, e3, e4⟩ := c 1960 xs (Nn : Int) k σ hk R
  replace c1 : mcall 2000 103 [(29, 0), (0, xs (i + 1)), (0, xs (i + 2))] σ = some (r, σ1) := c1
  replace c2 : mcall 2000 197 [(30, 64), (0, xs (i + 1)), (0, xs (i + 2))] σ1 = some (r, σ2) := c2
  obtain ⟨σ', h⟩ := nxt σ2 R2
  obtain ⟨g3, g4⟩ := RR_8 R
  have w1 : w32 ((i : Int) + 1) = ((i + 1 : Nat) : Int) := by rw [w32_e (by omega)]; rfl
  have w2 : w32 ((i : Int) + 2) = ((i + 2 : Nat) : Int) := by rw [w32_e (by omega)]; rfl
  have k4 : σ1 904 0 = (Nn : Int) := by rw [e4]; exact g4
  have k3 : ∀ j, σ1 903 j = xs j := fun j => by rw [e3]; exact g3 j
  exact ⟨σ', by rw [f_229_675, w1, w2, g4, bIn_t (by omega), bIn_t (by omega), tn_n (i + 1), tn_n (i + 2), g3 (i + 1), g3 (i + 2), c1, bK_t, k4, bIn_t (by omega), bIn_t (by omega), k3 (i + 1), k3 (i + 2), c2, bK_t, bEq_t rfl]; exact h⟩
theorem z_708 (hi : i + 6 ≤ Nn) (hN : Nn ≤ 3072) (hx : ∀ j, -2147483648 ≤ xs j ∧ xs j < 2147483648) (hk : k ≤ 600) (R : RR xs (Nn : Int) k σ) (nxt : nX mx xs Nn k i) : ∃ σ', mgo (mcall 2000) mx 229 708 [(4, 903), (29, 0), (30, 64), (0, (i : Int))] [] σ = some (1, σ') := by
  have c : cR 104 198 [(0, xs (i + 1))] := r_patches
  obtain ⟨r, σ1, σ2, c1, c2, R2, e3, e4⟩ := c 1960 xs (Nn : Int) k σ hk R
  replace c1 : mcall 2000 104 [(29, 0), (0, xs (i + 1))] σ = some (r, σ1) := c1
  replace c2 : mcall 2000 198 [(30, 64), (0, xs (i + 1))] σ1 = some (r, σ2) := c2
  obtain ⟨σ', h⟩ := nxt σ2 R2
  obtain ⟨g3, g4⟩ := RR_8 R
  have w1 : w32 ((i : Int) + 1) = ((i + 1 : Nat) : Int) := by rw [w32_e (by omega)]; rfl
  have k4 : σ1 904 0 = (Nn : Int) := by rw [e4]; exact g4
  have k3 : ∀ j, σ1 903 j = xs j := fun j => by rw [e3]; exact g3 j
  exact ⟨σ', by rw [f_229_708, w1, g4, bIn_t (by omega), tn_n (i + 1), g3 (i + 1), c1, bK_t, k4, bIn_t (by omega), k3 (i + 1), c2, bK_t, bEq_t rfl]; exact h⟩
theorem z_731 (hi : i + 6 ≤ Nn) (hN : Nn ≤ 3072) (hx : ∀ j, -2147483648 ≤ xs j ∧ xs j < 2147483648) (hk : k ≤ 600) (R : RR xs (Nn : Int) k σ) (nxt : nX mx xs Nn k i) : ∃ σ', mgo (mcall 2000) mx 229 731 [(4, 903), (29, 0), (30, 64), (0, (i : Int))] [] σ = some (1, σ') := by
  have c : cR 105 200 [(0, xs (i + 1)), (0, xs (i + 2)), (0, xs (i + 3)), (0, xs (i + 4))] := r_byTurns (by have := hx (i + 1); omega) (by have := hx (i + 2); omega)
  obtain ⟨r, σ1, σ2, c1, c2, R2, e3, e4⟩ := c 1960 xs (Nn : Int) k σ hk R
  replace c1 : mcall 2000 105 [(29, 0), (0, xs (i + 1)), (0, xs (i + 2)), (0, xs (i + 3)), (0, xs (i + 4))] σ = some (r, σ1) := c1
  replace c2 : mcall 2000 200 [(30, 64), (0, xs (i + 1)), (0, xs (i + 2)), (0, xs (i + 3)), (0, xs (i + 4))] σ1 = some (r, σ2) := c2
  obtain ⟨σ', h⟩ := nxt σ2 R2
  obtain ⟨g3, g4⟩ := RR_8 R
  have w1 : w32 ((i : Int) + 1) = ((i + 1 : Nat) : Int) := by rw [w32_e (by omega)]; rfl
  have w2 : w32 ((i : Int) + 2) = ((i + 2 : Nat) : Int) := by rw [w32_e (by omega)]; rfl
  have w3 : w32 ((i : Int) + 3) = ((i + 3 : Nat) : Int) := by rw [w32_e (by omega)]; rfl
  have w4 : w32 ((i : Int) + 4) = ((i + 4 : Nat) : Int) := by rw [w32_e (by omega)]; rfl
  have k4 : σ1 904 0 = (Nn : Int) := by rw [e4]; exact g4
  have k3 : ∀ j, σ1 903 j = xs j := fun j => by rw [e3]; exact g3 j
  exact ⟨σ', by rw [f_229_731, w1, w2, w3, w4, g4, bIn_t (by omega), bIn_t (by omega), bIn_t (by omega), bIn_t (by omega), tn_n (i + 1), tn_n (i + 2), tn_n (i + 3), tn_n (i + 4), g3 (i + 1), g3 (i + 2), g3 (i + 3), g3 (i + 4), c1, bK_t, k4, bIn_t (by omega), bIn_t (by omega), bIn_t (by omega), bIn_t (by omega), k3 (i + 1), k3 (i + 2), k3 (i + 3), k3 (i + 4), c2, bK_t, bEq_t rfl]; exact h⟩
theorem z_784 (hi : i + 6 ≤ Nn) (hN : Nn ≤ 3072) (hx : ∀ j, -2147483648 ≤ xs j ∧ xs j < 2147483648) (hk : k ≤ 600) (R : RR xs (Nn : Int) k σ) (nxt : nX mx xs Nn k i) : ∃ σ', mgo (mcall 2000) mx 229 784 [(4, 903), (29, 0), (30, 64), (0, (i : Int))] [] σ = some (1, σ') := by
  have c : cR 106 201 [(0, xs (i + 1)), (0, xs (i + 2)), (0, xs (i + 3))] := r_drawn (by have := hx (i + 2); omega)
  obtain ⟨r, σ1, σ2, c1, c2, R2, e3, e4⟩ := c 1960 xs (Nn : Int) k σ hk R
  replace c1 : mcall 2000 106 [(29, 0), (0, xs (i + 1)), (0, xs (i + 2)), (0, xs (i + 3))] σ = some (r, σ1) := c1
  replace c2 : mcall 2000 201 [(30, 64), (0, xs (i + 1)), (0, xs (i + 2)), (0, xs (i + 3))] σ1 = some (r, σ2) := c2
  obtain ⟨σ', h⟩ := nxt σ2 R2
  obtain ⟨g3, g4⟩ := RR_8 R
  have w1 : w32 ((i : Int) + 1) = ((i + 1 : Nat) : Int) := by rw [w32_e (by omega)]; rfl
  have w2 : w32 ((i : Int) + 2) = ((i + 2 : Nat) : Int) := by rw [w32_e (by omega)]; rfl
  have w3 : w32 ((i : Int) + 3) = ((i + 3 : Nat) : Int) := by rw [w32_e (by omega)]; rfl
  have k4 : σ1 904 0 = (Nn : Int) := by rw [e4]; exact g4
  have k3 : ∀ j, σ1 903 j = xs j := fun j => by rw [e3]; exact g3 j
  exact ⟨σ', by rw [f_229_784, w1, w2, w3, g4, bIn_t (by omega), bIn_t (by omega), bIn_t (by omega), tn_n (i + 1), tn_n (i + 2), tn_n (i + 3), g3 (i + 1), g3 (i + 2), g3 (i + 3), c1, bK_t, k4, bIn_t (by omega), bIn_t (by omega), bIn_t (by omega), k3 (i + 1), k3 (i + 2), k3 (i + 3), c2, bK_t, bEq_t rfl]; exact h⟩
theorem z_827 (hi : i + 6 ≤ Nn) (hN : Nn ≤ 3072) (hx : ∀ j, -2147483648 ≤ xs j ∧ xs j < 2147483648) (hk : k ≤ 600) (R : RR xs (Nn : Int) k σ) (nxt : nX mx xs Nn k i) : ∃ σ', mgo (mcall 2000) mx 229 827 [(4, 903), (29, 0), (30, 64), (0, (i : Int))] [] σ = some (1, σ') := by
  have c : cR 107 202 [] := r_month
  obtain ⟨r, σ1, σ2, c1, c2, R2, e3, e4⟩ := c 1960 xs (Nn : Int) k σ hk R
  replace c1 : mcall 2000 107 [(29, 0)] σ = some (r, σ1) := c1
  replace c2 : mcall 2000 202 [(30, 64)] σ1 = some (r, σ2) := c2
  obtain ⟨σ', h⟩ := nxt σ2 R2
  obtain ⟨g3, g4⟩ := RR_8 R
  exact ⟨σ', by rw [f_229_827, c1, bK_t, c2, bK_t, bEq_t rfl]; exact h⟩
theorem z_840 (hi : i + 6 ≤ Nn) (hN : Nn ≤ 3072) (hx : ∀ j, -2147483648 ≤ xs j ∧ xs j < 2147483648) (hk : k ≤ 600) (R : RR xs (Nn : Int) k σ) (nxt : nX mx xs Nn k i) : ∃ σ', mgo (mcall 2000) mx 229 840 [(4, 903), (29, 0), (30, 64), (0, (i : Int))] [] σ = some (1, σ') := by
  have c : cR 108 203 [(0, xs (i + 1))] := r_pull
  obtain ⟨r, σ1, σ2, c1, c2, R2, e3, e4⟩ := c 1960 xs (Nn : Int) k σ hk R
  replace c1 : mcall 2000 108 [(29, 0), (0, xs (i + 1))] σ = some (r, σ1) := c1
  replace c2 : mcall 2000 203 [(30, 64), (0, xs (i + 1))] σ1 = some (r, σ2) := c2
  obtain ⟨σ', h⟩ := nxt σ2 R2
  obtain ⟨g3, g4⟩ := RR_8 R
  have w1 : w32 ((i : Int) + 1) = ((i + 1 : Nat) : Int) := by rw [w32_e (by omega)]; rfl
  have k4 : σ1 904 0 = (Nn : Int) := by rw [e4]; exact g4
  have k3 : ∀ j, σ1 903 j = xs j := fun j => by rw [e3]; exact g3 j
  exact ⟨σ', by rw [f_229_840, w1, g4, bIn_t (by omega), tn_n (i + 1), g3 (i + 1), c1, bK_t, k4, bIn_t (by omega), k3 (i + 1), c2, bK_t, bEq_t rfl]; exact h⟩
theorem z_863 (hi : i + 6 ≤ Nn) (hN : Nn ≤ 3072) (hx : ∀ j, -2147483648 ≤ xs j ∧ xs j < 2147483648) (hk : k ≤ 600) (R : RR xs (Nn : Int) k σ) (nxt : nX mx xs Nn k i) : ∃ σ', mgo (mcall 2000) mx 229 863 [(4, 903), (29, 0), (30, 64), (0, (i : Int))] [] σ = some (1, σ') := by
  have c : cR 109 204 [(0, xs (i + 1))] := r_shake
  obtain ⟨r, σ1, σ2, c1, c2, R2, e3, e4⟩ := c 1960 xs (Nn : Int) k σ hk R
  replace c1 : mcall 2000 109 [(29, 0), (0, xs (i + 1))] σ = some (r, σ1) := c1
  replace c2 : mcall 2000 204 [(30, 64), (0, xs (i + 1))] σ1 = some (r, σ2) := c2
  obtain ⟨σ', h⟩ := nxt σ2 R2
  obtain ⟨g3, g4⟩ := RR_8 R
  have w1 : w32 ((i : Int) + 1) = ((i + 1 : Nat) : Int) := by rw [w32_e (by omega)]; rfl
  have k4 : σ1 904 0 = (Nn : Int) := by rw [e4]; exact g4
  have k3 : ∀ j, σ1 903 j = xs j := fun j => by rw [e3]; exact g3 j
  exact ⟨σ', by rw [f_229_863, w1, g4, bIn_t (by omega), tn_n (i + 1), g3 (i + 1), c1, bK_t, k4, bIn_t (by omega), k3 (i + 1), c2, bK_t, bEq_t rfl]; exact h⟩
theorem z_886 (hi : i + 6 ≤ Nn) (hN : Nn ≤ 3072) (hx : ∀ j, -2147483648 ≤ xs j ∧ xs j < 2147483648) (hk : k ≤ 600) (R : RR xs (Nn : Int) k σ) (nxt : nX mx xs Nn k i) : ∃ σ', mgo (mcall 2000) mx 229 886 [(4, 903), (29, 0), (30, 64), (0, (i : Int))] [] σ = some (1, σ') := by
  have c : cR 110 205 [(0, xs (i + 1)), (0, xs (i + 2))] := r_stuff (by have := hx (i + 2); omega)
  obtain ⟨r, σ1, σ2, c1, c2, R2, e3, e4⟩ := c 1960 xs (Nn : Int) k σ hk R
  replace c1 : mcall 2000 110 [(29, 0), (0, xs (i + 1)), (0, xs (i + 2))] σ = some (r, σ1) := c1
  replace c2 : mcall 2000 205 [(30, 64), (0, xs (i + 1)), (0, xs (i + 2))] σ1 = some (r, σ2) := c2
  obtain ⟨σ', h⟩ := nxt σ2 R2
  obtain ⟨g3, g4⟩ := RR_8 R
  have w1 : w32 ((i : Int) + 1) = ((i + 1 : Nat) : Int) := by rw [w32_e (by omega)]; rfl
  have w2 : w32 ((i : Int) + 2) = ((i + 2 : Nat) : Int) := by rw [w32_e (by omega)]; rfl
  have k4 : σ1 904 0 = (Nn : Int) := by rw [e4]; exact g4
  have k3 : ∀ j, σ1 903 j = xs j := fun j => by rw [e3]; exact g3 j
  exact ⟨σ', by rw [f_229_886, w1, w2, g4, bIn_t (by omega), bIn_t (by omega), tn_n (i + 1), tn_n (i + 2), g3 (i + 1), g3 (i + 2), c1, bK_t, k4, bIn_t (by omega), bIn_t (by omega), k3 (i + 1), k3 (i + 2), c2, bK_t, bEq_t rfl]; exact h⟩
theorem z_919 (hi : i + 6 ≤ Nn) (hN : Nn ≤ 3072) (hx : ∀ j, -2147483648 ≤ xs j ∧ xs j < 2147483648) (hk : k ≤ 600) (R : RR xs (Nn : Int) k σ) (nxt : nX mx xs Nn k i) : ∃ σ', mgo (mcall 2000) mx 229 919 [(4, 903), (29, 0), (30, 64), (0, (i : Int))] [] σ = some (1, σ') := by
  have c : cR 111 206 [(0, xs (i + 1))] := r_led
  obtain ⟨r, σ1, σ2, c1, c2, R2, e3, e4⟩ := c 1960 xs (Nn : Int) k σ hk R
  replace c1 : mcall 2000 111 [(29, 0), (0, xs (i + 1))] σ = some (r, σ1) := c1
  replace c2 : mcall 2000 206 [(30, 64), (0, xs (i + 1))] σ1 = some (r, σ2) := c2
  obtain ⟨σ', h⟩ := nxt σ2 R2
  obtain ⟨g3, g4⟩ := RR_8 R
  have w1 : w32 ((i : Int) + 1) = ((i + 1 : Nat) : Int) := by rw [w32_e (by omega)]; rfl
  have k4 : σ1 904 0 = (Nn : Int) := by rw [e4]; exact g4
  have k3 : ∀ j, σ1 903 j = xs j := fun j => by rw [e3]; exact g3 j
  exact ⟨σ', by rw [f_229_919, w1, g4, bIn_t (by omega), tn_n (i + 1), g3 (i + 1), c1, bK_t, k4, bIn_t (by omega), k3 (i + 1), c2, bK_t, bEq_t rfl]; exact h⟩
theorem z_942 (hi : i + 6 ≤ Nn) (hN : Nn ≤ 3072) (hx : ∀ j, -2147483648 ≤ xs j ∧ xs j < 2147483648) (hk : k ≤ 600) (R : RR xs (Nn : Int) k σ) (nxt : nX mx xs Nn k i) : ∃ σ', mgo (mcall 2000) mx 229 942 [(4, 903), (29, 0), (30, 64), (0, (i : Int))] [] σ = some (1, σ') := by
  have c : cR 112 207 [] := r_image
  obtain ⟨r, σ1, σ2, c1, c2, R2, e3, e4⟩ := c 1960 xs (Nn : Int) k σ hk R
  replace c1 : mcall 2000 112 [(29, 0)] σ = some (r, σ1) := c1
  replace c2 : mcall 2000 207 [(30, 64)] σ1 = some (r, σ2) := c2
  obtain ⟨σ', h⟩ := nxt σ2 R2
  obtain ⟨g3, g4⟩ := RR_8 R
  exact ⟨σ', by rw [f_229_942, c1, bK_t, c2, bK_t, bEq_t rfl]; exact h⟩
theorem z_955 (hi : i + 6 ≤ Nn) (hN : Nn ≤ 3072) (hx : ∀ j, -2147483648 ≤ xs j ∧ xs j < 2147483648) (hk : k ≤ 600) (R : RR xs (Nn : Int) k σ) (nxt : nX mx xs Nn k i) : ∃ σ', mgo (mcall 2000) mx 229 955 [(4, 903), (29, 0), (30, 64), (0, (i : Int))] [] σ = some (1, σ') := by
  have c : cR 113 208 [] := r_back
  obtain ⟨r, σ1, σ2, c1, c2, R2, e3, e4⟩ := c 1960 xs (Nn : Int) k σ hk R
  replace c1 : mcall 2000 113 [(29, 0)] σ = some (r, σ1) := c1
  replace c2 : mcall 2000 208 [(30, 64)] σ1 = some (r, σ2) := c2
  obtain ⟨σ', h⟩ := nxt σ2 R2
  obtain ⟨g3, g4⟩ := RR_8 R
  exact ⟨σ', by rw [f_229_955, c1, bK_t, c2, bK_t, bEq_t rfl]; exact h⟩
theorem z_968 (hi : i + 6 ≤ Nn) (hN : Nn ≤ 3072) (hx : ∀ j, -2147483648 ≤ xs j ∧ xs j < 2147483648) (hk : k ≤ 600) (R : RR xs (Nn : Int) k σ) (nxt : nX mx xs Nn k i) : ∃ σ', mgo (mcall 2000) mx 229 968 [(4, 903), (29, 0), (30, 64), (0, (i : Int))] [] σ = some (1, σ') := by
  have c : cR 114 148 [] := r_undo
  obtain ⟨r, σ1, σ2, c1, c2, R2, e3, e4⟩ := c 1960 xs (Nn : Int) k σ hk R
  replace c1 : mcall 2000 114 [(29, 0)] σ = some (r, σ1) := c1
  replace c2 : mcall 2000 148 [(30, 64)] σ1 = some (r, σ2) := c2
  obtain ⟨σ', h⟩ := nxt σ2 R2
  obtain ⟨g3, g4⟩ := RR_8 R
  exact ⟨σ', by rw [f_229_968, c1, bK_t, c2, bK_t, bEq_t rfl]; exact h⟩
theorem z_981 (hi : i + 6 ≤ Nn) (hN : Nn ≤ 3072) (hx : ∀ j, -2147483648 ≤ xs j ∧ xs j < 2147483648) (hk : k ≤ 600) (R : RR xs (Nn : Int) k σ) (nxt : nX mx xs Nn k i) : ∃ σ', mgo (mcall 2000) mx 229 981 [(4, 903), (29, 0), (30, 64), (0, (i : Int))] [] σ = some (1, σ') := by
  have c : cR 115 149 [] := r_redo
  obtain ⟨r, σ1, σ2, c1, c2, R2, e3, e4⟩ := c 1960 xs (Nn : Int) k σ hk R
  replace c1 : mcall 2000 115 [(29, 0)] σ = some (r, σ1) := c1
  replace c2 : mcall 2000 149 [(30, 64)] σ1 = some (r, σ2) := c2
  obtain ⟨σ', h⟩ := nxt σ2 R2
  obtain ⟨g3, g4⟩ := RR_8 R
  exact ⟨σ', by rw [f_229_981, c1, bK_t, c2, bK_t, bEq_t rfl]; exact h⟩
theorem z_994 (hi : i + 6 ≤ Nn) (hN : Nn ≤ 3072) (hx : ∀ j, -2147483648 ≤ xs j ∧ xs j < 2147483648) (hk : k ≤ 600) (R : RR xs (Nn : Int) k σ) (nxt : nX mx xs Nn k i) : ∃ σ', mgo (mcall 2000) mx 229 994 [(4, 903), (29, 0), (30, 64), (0, (i : Int))] [] σ = some (1, σ') := by
  have c : cR 116 215 [(0, xs (i + 1))] := r_body
  obtain ⟨r, σ1, σ2, c1, c2, R2, e3, e4⟩ := c 1960 xs (Nn : Int) k σ hk R
  replace c1 : mcall 2000 116 [(29, 0), (0, xs (i + 1))] σ = some (r, σ1) := c1
  replace c2 : mcall 2000 215 [(30, 64), (0, xs (i + 1))] σ1 = some (r, σ2) := c2
  obtain ⟨σ', h⟩ := nxt σ2 R2
  obtain ⟨g3, g4⟩ := RR_8 R
  have w1 : w32 ((i : Int) + 1) = ((i + 1 : Nat) : Int) := by rw [w32_e (by omega)]; rfl
  have k4 : σ1 904 0 = (Nn : Int) := by rw [e4]; exact g4
  have k3 : ∀ j, σ1 903 j = xs j := fun j => by rw [e3]; exact g3 j
  exact ⟨σ', by rw [f_229_994, w1, g4, bIn_t (by omega), tn_n (i + 1), g3 (i + 1), c1, bK_t, k4, bIn_t (by omega), k3 (i + 1), c2, bK_t, bEq_t rfl]; exact h⟩
theorem z_1017 (hi : i + 6 ≤ Nn) (hN : Nn ≤ 3072) (hx : ∀ j, -2147483648 ≤ xs j ∧ xs j < 2147483648) (hk : k ≤ 600) (R : RR xs (Nn : Int) k σ) (nxt : nX mx xs Nn k i) : ∃ σ', mgo (mcall 2000) mx 229 1017 [(4, 903), (29, 0), (30, 64), (0, (i : Int))] [] σ = some (1, σ') := by
  have c : cR 117 216 [(0, xs (i + 1)), (0, xs (i + 2)), (0, xs (i + 3))] := r_act
  obtain ⟨r, σ1, σ2, c1, c2, R2, e3, e4⟩ := c 1960 xs (Nn : Int) k σ hk R
  replace c1 : mcall 2000 117 [(29, 0), (0, xs (i + 1)), (0, xs (i + 2)), (0, xs (i + 3))] σ = some (r, σ1) := c1
  replace c2 : mcall 2000 216 [(30, 64), (0, xs (i + 1)), (0, xs (i + 2)), (0, xs (i + 3))] σ1 = some (r, σ2) := c2
  obtain ⟨σ', h⟩ := nxt σ2 R2
  obtain ⟨g3, g4⟩ := RR_8 R
  have w1 : w32 ((i : Int) + 1) = ((i + 1 : Nat) : Int) := by rw [w32_e (by omega)]; rfl
  have w2 : w32 ((i : Int) + 2) = ((i + 2 : Nat) : Int) := by rw [w32_e (by omega)]; rfl
  have w3 : w32 ((i : Int) + 3) = ((i + 3 : Nat) : Int) := by rw [w32_e (by omega)]; rfl
  have k4 : σ1 904 0 = (Nn : Int) := by rw [e4]; exact g4
  have k3 : ∀ j, σ1 903 j = xs j := fun j => by rw [e3]; exact g3 j
  exact ⟨σ', by rw [f_229_1017, w1, w2, w3, g4, bIn_t (by omega), bIn_t (by omega), bIn_t (by omega), tn_n (i + 1), tn_n (i + 2), tn_n (i + 3), g3 (i + 1), g3 (i + 2), g3 (i + 3), c1, bK_t, k4, bIn_t (by omega), bIn_t (by omega), bIn_t (by omega), k3 (i + 1), k3 (i + 2), k3 (i + 3), c2, bK_t, bEq_t rfl]; exact h⟩
theorem z_1060 (hi : i + 6 ≤ Nn) (hN : Nn ≤ 3072) (hx : ∀ j, -2147483648 ≤ xs j ∧ xs j < 2147483648) (hk : k ≤ 600) (R : RR xs (Nn : Int) k σ) (nxt : nX mx xs Nn k i) : ∃ σ', mgo (mcall 2000) mx 229 1060 [(4, 903), (29, 0), (30, 64), (0, (i : Int))] [] σ = some (1, σ') := by
  have c : cR 118 217 [(0, xs (i + 1))] := r_trace
  obtain ⟨r, σ1, σ2, c1, c2, R2, e3, e4⟩ := c 1960 xs (Nn : Int) k σ hk R
  replace c1 : mcall 2000 118 [(29, 0), (0, xs (i + 1))] σ = some (r, σ1) := c1
  replace c2 : mcall 2000 217 [(30, 64), (0, xs (i + 1))] σ1 = some (r, σ2) := c2
  obtain ⟨σ', h⟩ := nxt σ2 R2
  obtain ⟨g3, g4⟩ := RR_8 R
  have w1 : w32 ((i : Int) + 1) = ((i + 1 : Nat) : Int) := by rw [w32_e (by omega)]; rfl
  have k4 : σ1 904 0 = (Nn : Int) := by rw [e4]; exact g4
  have k3 : ∀ j, σ1 903 j = xs j := fun j => by rw [e3]; exact g3 j
  exact ⟨σ', by rw [f_229_1060, w1, g4, bIn_t (by omega), tn_n (i + 1), g3 (i + 1), c1, bK_t, k4, bIn_t (by omega), k3 (i + 1), c2, bK_t, bEq_t rfl]; exact h⟩
theorem z_1083 (hi : i + 6 ≤ Nn) (hN : Nn ≤ 3072) (hx : ∀ j, -2147483648 ≤ xs j ∧ xs j < 2147483648) (hk : k ≤ 600) (R : RR xs (Nn : Int) k σ) (nxt : nX mx xs Nn k i) : ∃ σ', mgo (mcall 2000) mx 229 1083 [(4, 903), (29, 0), (30, 64), (0, (i : Int))] [] σ = some (1, σ') := by
  have c : cR 119 218 [(0, xs (i + 1)), (0, xs (i + 2))] := r_keep
  obtain ⟨r, σ1, σ2, c1, c2, R2, e3, e4⟩ := c 1960 xs (Nn : Int) k σ hk R
  replace c1 : mcall 2000 119 [(29, 0), (0, xs (i + 1)), (0, xs (i + 2))] σ = some (r, σ1) := c1
  replace c2 : mcall 2000 218 [(30, 64), (0, xs (i + 1)), (0, xs (i + 2))] σ1 = some (r, σ2) := c2
  obtain ⟨σ', h⟩ := nxt σ2 R2
  obtain ⟨g3, g4⟩ := RR_8 R
  have w1 : w32 ((i : Int) + 1) = ((i + 1 : Nat) : Int) := by rw [w32_e (by omega)]; rfl
  have w2 : w32 ((i : Int) + 2) = ((i + 2 : Nat) : Int) := by rw [w32_e (by omega)]; rfl
  have k4 : σ1 904 0 = (Nn : Int) := by rw [e4]; exact g4
  have k3 : ∀ j, σ1 903 j = xs j := fun j => by rw [e3]; exact g3 j
  exact ⟨σ', by rw [f_229_1083, w1, w2, g4, bIn_t (by omega), bIn_t (by omega), tn_n (i + 1), tn_n (i + 2), g3 (i + 1), g3 (i + 2), c1, bK_t, k4, bIn_t (by omega), bIn_t (by omega), k3 (i + 1), k3 (i + 2), c2, bK_t, bEq_t rfl]; exact h⟩
theorem z_1116 (hi : i + 6 ≤ Nn) (hN : Nn ≤ 3072) (hx : ∀ j, -2147483648 ≤ xs j ∧ xs j < 2147483648) (hk : k ≤ 600) (R : RR xs (Nn : Int) k σ) (nxt : nX mx xs Nn k i) : ∃ σ', mgo (mcall 2000) mx 229 1116 [(4, 903), (29, 0), (30, 64), (0, (i : Int))] [] σ = some (1, σ') := by
  have c : cR 120 219 [(0, xs (i + 1)), (0, xs (i + 2)), (0, xs (i + 3))] := r_row
  obtain ⟨r, σ1, σ2, c1, c2, R2, e3, e4⟩ := c 1960 xs (Nn : Int) k σ hk R
  replace c1 : mcall 2000 120 [(29, 0), (0, xs (i + 1)), (0, xs (i + 2)), (0, xs (i + 3))] σ = some (r, σ1) := c1
  replace c2 : mcall 2000 219 [(30, 64), (0, xs (i + 1)), (0, xs (i + 2)), (0, xs (i + 3))] σ1 = some (r, σ2) := c2
  obtain ⟨σ', h⟩ := nxt σ2 R2
  obtain ⟨g3, g4⟩ := RR_8 R
  have w1 : w32 ((i : Int) + 1) = ((i + 1 : Nat) : Int) := by rw [w32_e (by omega)]; rfl
  have w2 : w32 ((i : Int) + 2) = ((i + 2 : Nat) : Int) := by rw [w32_e (by omega)]; rfl
  have w3 : w32 ((i : Int) + 3) = ((i + 3 : Nat) : Int) := by rw [w32_e (by omega)]; rfl
  have k4 : σ1 904 0 = (Nn : Int) := by rw [e4]; exact g4
  have k3 : ∀ j, σ1 903 j = xs j := fun j => by rw [e3]; exact g3 j
  exact ⟨σ', by rw [f_229_1116, w1, w2, w3, g4, bIn_t (by omega), bIn_t (by omega), bIn_t (by omega), tn_n (i + 1), tn_n (i + 2), tn_n (i + 3), g3 (i + 1), g3 (i + 2), g3 (i + 3), c1, bK_t, k4, bIn_t (by omega), bIn_t (by omega), bIn_t (by omega), k3 (i + 1), k3 (i + 2), k3 (i + 3), c2, bK_t, bEq_t rfl]; exact h⟩
theorem z_1159 (hi : i + 6 ≤ Nn) (hN : Nn ≤ 3072) (hx : ∀ j, -2147483648 ≤ xs j ∧ xs j < 2147483648) (hk : k ≤ 600) (R : RR xs (Nn : Int) k σ) (nxt : nX mx xs Nn k i) : ∃ σ', mgo (mcall 2000) mx 229 1159 [(4, 903), (29, 0), (30, 64), (0, (i : Int))] [] σ = some (1, σ') := by
  have c : cR 121 222 [(0, xs (i + 1)), (0, xs (i + 2)), (1, m64 (· ||| ·) ((Int64.ofInt (xs (i + 3)) <<< ((Int32.ofInt 32).toInt64 &&& 63)).toInt) (m64 (· &&& ·) (xs (i + 4)) 4294967295))] := r_put
  obtain ⟨r, σ1, σ2, c1, c2, R2, e3, e4⟩ := c 1960 xs (Nn : Int) k σ hk R
  replace c1 : mcall 2000 121 [(29, 0), (0, xs (i + 1)), (0, xs (i + 2)), (1, m64 (· ||| ·) ((Int64.ofInt (xs (i + 3)) <<< ((Int32.ofInt 32).toInt64 &&& 63)).toInt) (m64 (· &&& ·) (xs (i + 4)) 4294967295))] σ = some (r, σ1) := c1
  replace c2 : mcall 2000 222 [(30, 64), (0, xs (i + 1)), (0, xs (i + 2)), (1, m64 (· ||| ·) ((Int64.ofInt (xs (i + 3)) <<< ((Int32.ofInt 32).toInt64 &&& 63)).toInt) (m64 (· &&& ·) (xs (i + 4)) 4294967295))] σ1 = some (r, σ2) := c2
  obtain ⟨σ', h⟩ := nxt σ2 R2
  obtain ⟨g3, g4⟩ := RR_8 R
  have w1 : w32 ((i : Int) + 1) = ((i + 1 : Nat) : Int) := by rw [w32_e (by omega)]; rfl
  have w2 : w32 ((i : Int) + 2) = ((i + 2 : Nat) : Int) := by rw [w32_e (by omega)]; rfl
  have w3 : w32 ((i : Int) + 3) = ((i + 3 : Nat) : Int) := by rw [w32_e (by omega)]; rfl
  have w4 : w32 ((i : Int) + 4) = ((i + 4 : Nat) : Int) := by rw [w32_e (by omega)]; rfl
  have k4 : σ1 904 0 = (Nn : Int) := by rw [e4]; exact g4
  have k3 : ∀ j, σ1 903 j = xs j := fun j => by rw [e3]; exact g3 j
  exact ⟨σ', by rw [f_229_1159, w1, w2, w3, w4, g4, bIn_t (by omega), bIn_t (by omega), bIn_t (by omega), bIn_t (by omega), tn_n (i + 1), tn_n (i + 2), tn_n (i + 3), tn_n (i + 4), g3 (i + 1), g3 (i + 2), g3 (i + 3), g3 (i + 4), c1, bK_t, k4, bIn_t (by omega), bIn_t (by omega), bIn_t (by omega), bIn_t (by omega), k3 (i + 1), k3 (i + 2), k3 (i + 3), k3 (i + 4), c2, bK_t, bEq_t rfl]; exact h⟩
theorem z_1232 (hi : i + 6 ≤ Nn) (hN : Nn ≤ 3072) (hx : ∀ j, -2147483648 ≤ xs j ∧ xs j < 2147483648) (hk : k ≤ 600) (R : RR xs (Nn : Int) k σ) (nxt : nX mx xs Nn k i) : ∃ σ', mgo (mcall 2000) mx 229 1232 [(4, 903), (29, 0), (30, 64), (0, (i : Int))] [] σ = some (1, σ') := by
  have c : cR 122 223 [(0, xs (i + 1)), (0, xs (i + 2))] := r_element
  obtain ⟨r, σ1, σ2, c1, c2, R2, e3, e4⟩ := c 1960 xs (Nn : Int) k σ hk R
  replace c1 : mcall 2000 122 [(29, 0), (0, xs (i + 1)), (0, xs (i + 2))] σ = some (r, σ1) := c1
  replace c2 : mcall 2000 223 [(30, 64), (0, xs (i + 1)), (0, xs (i + 2))] σ1 = some (r, σ2) := c2
  obtain ⟨σ', h⟩ := nxt σ2 R2
  obtain ⟨g3, g4⟩ := RR_8 R
  have w1 : w32 ((i : Int) + 1) = ((i + 1 : Nat) : Int) := by rw [w32_e (by omega)]; rfl
  have w2 : w32 ((i : Int) + 2) = ((i + 2 : Nat) : Int) := by rw [w32_e (by omega)]; rfl
  have k4 : σ1 904 0 = (Nn : Int) := by rw [e4]; exact g4
  have k3 : ∀ j, σ1 903 j = xs j := fun j => by rw [e3]; exact g3 j
  exact ⟨σ', by rw [f_229_1232, w1, w2, g4, bIn_t (by omega), bIn_t (by omega), tn_n (i + 1), tn_n (i + 2), g3 (i + 1), g3 (i + 2), c1, bK_t, k4, bIn_t (by omega), bIn_t (by omega), k3 (i + 1), k3 (i + 2), c2, bK_t, if_neg (Int.lt_irrefl r), if_pos rfl, bEq_t rfl]; exact h⟩
theorem z_1266 (hi : i + 6 ≤ Nn) (hN : Nn ≤ 3072) (hx : ∀ j, -2147483648 ≤ xs j ∧ xs j < 2147483648) (hk : k ≤ 600) (R : RR xs (Nn : Int) k σ) (nxt : nX mx xs Nn k i) : ∃ σ', mgo (mcall 2000) mx 229 1266 [(4, 903), (29, 0), (30, 64), (0, (i : Int))] [] σ = some (1, σ') := by
  have c : cR 123 224 [(0, xs (i + 1)), (0, xs (i + 2)), (0, xs (i + 3)), (0, xs (i + 4)), (0, xs (i + 5))] := r_shift (by have := hx (i + 2); omega) (by have := hx (i + 4); omega) (by have := hx (i + 5); omega)
  obtain ⟨r, σ1, σ2, c1, c2, R2, e3, e4⟩ := c 1960 xs (Nn : Int) k σ hk R
  replace c1 : mcall 2000 123 [(29, 0), (0, xs (i + 1)), (0, xs (i + 2)), (0, xs (i + 3)), (0, xs (i + 4)), (0, xs (i + 5))] σ = some (r, σ1) := c1
  replace c2 : mcall 2000 224 [(30, 64), (0, xs (i + 1)), (0, xs (i + 2)), (0, xs (i + 3)), (0, xs (i + 4)), (0, xs (i + 5))] σ1 = some (r, σ2) := c2
  obtain ⟨σ', h⟩ := nxt σ2 R2
  obtain ⟨g3, g4⟩ := RR_8 R
  have w1 : w32 ((i : Int) + 1) = ((i + 1 : Nat) : Int) := by rw [w32_e (by omega)]; rfl
  have w2 : w32 ((i : Int) + 2) = ((i + 2 : Nat) : Int) := by rw [w32_e (by omega)]; rfl
  have w3 : w32 ((i : Int) + 3) = ((i + 3 : Nat) : Int) := by rw [w32_e (by omega)]; rfl
  have w4 : w32 ((i : Int) + 4) = ((i + 4 : Nat) : Int) := by rw [w32_e (by omega)]; rfl
  have w5 : w32 ((i : Int) + 5) = ((i + 5 : Nat) : Int) := by rw [w32_e (by omega)]; rfl
  have k4 : σ1 904 0 = (Nn : Int) := by rw [e4]; exact g4
  have k3 : ∀ j, σ1 903 j = xs j := fun j => by rw [e3]; exact g3 j
  exact ⟨σ', by rw [f_229_1266, w1, w2, w3, w4, w5, g4, bIn_t (by omega), bIn_t (by omega), bIn_t (by omega), bIn_t (by omega), bIn_t (by omega), tn_n (i + 1), tn_n (i + 2), tn_n (i + 3), tn_n (i + 4), tn_n (i + 5), g3 (i + 1), g3 (i + 2), g3 (i + 3), g3 (i + 4), g3 (i + 5), c1, bK_t, k4, bIn_t (by omega), bIn_t (by omega), bIn_t (by omega), bIn_t (by omega), bIn_t (by omega), k3 (i + 1), k3 (i + 2), k3 (i + 3), k3 (i + 4), k3 (i + 5), c2, bK_t, bEq_t rfl]; exact h⟩
theorem z_1329 (hi : i + 6 ≤ Nn) (hN : Nn ≤ 3072) (hx : ∀ j, -2147483648 ≤ xs j ∧ xs j < 2147483648) (hk : k ≤ 600) (R : RR xs (Nn : Int) k σ) (nxt : nX mx xs Nn k i) : ∃ σ', mgo (mcall 2000) mx 229 1329 [(4, 903), (29, 0), (30, 64), (0, (i : Int))] [] σ = some (1, σ') := by
  have c : cR 124 225 [(0, xs (i + 1)), (0, xs (i + 2))] := r_taken
  obtain ⟨r, σ1, σ2, c1, c2, R2, e3, e4⟩ := c 1960 xs (Nn : Int) k σ hk R
  replace c1 : mcall 2000 124 [(29, 0), (0, xs (i + 1)), (0, xs (i + 2))] σ = some (r, σ1) := c1
  replace c2 : mcall 2000 225 [(30, 64), (0, xs (i + 1)), (0, xs (i + 2))] σ1 = some (r, σ2) := c2
  obtain ⟨σ', h⟩ := nxt σ2 R2
  obtain ⟨g3, g4⟩ := RR_8 R
  have w1 : w32 ((i : Int) + 1) = ((i + 1 : Nat) : Int) := by rw [w32_e (by omega)]; rfl
  have w2 : w32 ((i : Int) + 2) = ((i + 2 : Nat) : Int) := by rw [w32_e (by omega)]; rfl
  have k4 : σ1 904 0 = (Nn : Int) := by rw [e4]; exact g4
  have k3 : ∀ j, σ1 903 j = xs j := fun j => by rw [e3]; exact g3 j
  exact ⟨σ', by rw [f_229_1329, w1, w2, g4, bIn_t (by omega), bIn_t (by omega), tn_n (i + 1), tn_n (i + 2), g3 (i + 1), g3 (i + 2), c1, bK_t, k4, bIn_t (by omega), bIn_t (by omega), k3 (i + 1), k3 (i + 2), c2, bK_t, bEq_t rfl]; exact h⟩
theorem z_1362 (hi : i + 6 ≤ Nn) (hN : Nn ≤ 3072) (hx : ∀ j, -2147483648 ≤ xs j ∧ xs j < 2147483648) (hk : k ≤ 600) (R : RR xs (Nn : Int) k σ) (nxt : nX mx xs Nn k i) : ∃ σ', mgo (mcall 2000) mx 229 1362 [(4, 903), (29, 0), (30, 64), (0, (i : Int))] [] σ = some (1, σ') := by
  have c : cR 125 226 [(0, xs (i + 1))] := r_count
  obtain ⟨r, σ1, σ2, c1, c2, R2, e3, e4⟩ := c 1960 xs (Nn : Int) k σ hk R
  replace c1 : mcall 2000 125 [(29, 0), (0, xs (i + 1))] σ = some (r, σ1) := c1
  replace c2 : mcall 2000 226 [(30, 64), (0, xs (i + 1))] σ1 = some (r, σ2) := c2
  obtain ⟨σ', h⟩ := nxt σ2 R2
  obtain ⟨g3, g4⟩ := RR_8 R
  have w1 : w32 ((i : Int) + 1) = ((i + 1 : Nat) : Int) := by rw [w32_e (by omega)]; rfl
  have k4 : σ1 904 0 = (Nn : Int) := by rw [e4]; exact g4
  have k3 : ∀ j, σ1 903 j = xs j := fun j => by rw [e3]; exact g3 j
  exact ⟨σ', by rw [f_229_1362, w1, g4, bIn_t (by omega), tn_n (i + 1), g3 (i + 1), c1, bK_t, k4, bIn_t (by omega), k3 (i + 1), c2, bK_t, bEq_t rfl]; exact h⟩
theorem l_loop (hlaw : lR) (hN : Nn ≤ 3072) (hx : ∀ j, -2147483648 ≤ xs j ∧ xs j < 2147483648) : ∀ (f i k : Nat) (σ : mM), Nn ≤ i + 6 * f → i ≤ 3072 + 6 → k + f ≤ 600 → RR xs (Nn : Int) k σ → ∃ σ', mgo (mcall 2000) mx 229 18 [(4, 903), (29, 0), (30, 64), (0, (i : Int))] [] σ = some (1, σ') := by
  intro f
  induction f with
  | zero =>
    intro i k σ h1 h2 h3 R
    obtain ⟨g3, g4⟩ := RR_8 R
    exact ⟨σ, by rw [f_229_18, g4, w32_e (by omega), bLt_t (by omega), bIn_t (by omega)]⟩
  | succ f ih =>
    intro i k σ h1 h2 h3 R
    obtain ⟨g3, g4⟩ := RR_8 R
    by_cases hi : i + 6 ≤ Nn
    · have nxt : nX mx xs Nn k i := fun τ R' => by
        obtain ⟨σ', h⟩ := ih (i + 6) (k + 1) τ (by omega) (by omega) (by omega) R'
        exact ⟨σ', by rw [f_229_1385, show w32 ((i : Int) + 6) = ((i + 6 : Nat) : Int) from by rw [w32_e (by omega)]; rfl]; exact h⟩
      have hk : k ≤ 600 := by omega
      rw [f_229_18, g4, w32_e (by omega), bLt_f (by omega), bIn_t (by omega), tn_n, g3 i]
      generalize m32 (· &&& ·) (xs i) 63 = y
      by_cases h0 : y = 0
      · rw [bEq_t h0]; exact z_200 hi hN hx hk R nxt
      rw [bEq_f h0]
      by_cases h1 : y = 1
      · rw [bEq_t h1]; exact z_233 hi hN hx hk R nxt
      rw [bEq_f h1]
      by_cases h2 : y = 2
      · rw [bEq_t h2]; exact z_276 hi hN hx hk R nxt
      rw [bEq_f h2]
      by_cases h3 : y = 3
      · rw [bEq_t h3]; exact z_319 hi hN hx hk R nxt
      rw [bEq_f h3]
      by_cases h4 : y = 4
      · rw [bEq_t h4]; exact z_352 hi hN hx hk R nxt
      rw [bEq_f h4]
      by_cases h5 : y = 5
      · rw [bEq_t h5]; exact z_375 hlaw hi hN hx hk R nxt
      rw [bEq_f h5]
      by_cases h6 : y = 6
      · rw [bEq_t h6]; exact z_388 hi hN hx hk R nxt
      rw [bEq_f h6]
      by_cases h7 : y = 7
      · rw [bEq_t h7]; exact z_431 hi hN hx hk R nxt
      rw [bEq_f h7]
      by_cases h8 : y = 8
      · rw [bEq_t h8]; exact z_464 hi hN hx hk R nxt
      rw [bEq_f h8]
      by_cases h9 : y = 9
      · rw [bEq_t h9]; exact z_487 hi hN hx hk R nxt
      rw [bEq_f h9]
      by_cases h10 : y = 10
      · rw [bEq_t h10]; exact z_520 hi hN hx hk R nxt
      rw [bEq_f h10]
      by_cases h11 : y = 11
      · rw [bEq_t h11]; exact z_553 hi hN hx hk R nxt
      rw [bEq_f h11]
      by_cases h12 : y = 12
      · rw [bEq_t h12]; exact z_576 hi hN hx hk R nxt
      rw [bEq_f h12]
      by_cases h13 : y = 13
      · rw [bEq_t h13]; exact z_609 hi hN hx hk R nxt
      rw [bEq_f h13]
      by_cases h14 : y = 14
      · rw [bEq_t h14]; exact z_632 hi hN hx hk R nxt
      rw [bEq_f h14]
      by_cases h15 : y = 15
      · rw [bEq_t h15]; exact z_675 hi hN hx hk R nxt
      rw [bEq_f h15]
      by_cases h16 : y = 16
      · rw [bEq_t h16]; exact z_708 hi hN hx hk R nxt
      rw [bEq_f h16]
      by_cases h17 : y = 17
      · rw [bEq_t h17]; exact z_731 hi hN hx hk R nxt
      rw [bEq_f h17]
      by_cases h18 : y = 18
      · rw [bEq_t h18]; exact z_784 hi hN hx hk R nxt
      rw [bEq_f h18]
      by_cases h19 : y = 19
      · rw [bEq_t h19]; exact z_827 hi hN hx hk R nxt
      rw [bEq_f h19]
      by_cases h20 : y = 20
      · rw [bEq_t h20]; exact z_840 hi hN hx hk R nxt
      rw [bEq_f h20]
      by_cases h21 : y = 21
      · rw [bEq_t h21]; exact z_863 hi hN hx hk R nxt
      rw [bEq_f h21]
      by_cases h22 : y = 22
      · rw [bEq_t h22]; exact z_886 hi hN hx hk R nxt
      rw [bEq_f h22]
      by_cases h23 : y = 23
      · rw [bEq_t h23]; exact z_919 hi hN hx hk R nxt
      rw [bEq_f h23]
      by_cases h24 : y = 24
      · rw [bEq_t h24]; exact z_942 hi hN hx hk R nxt
      rw [bEq_f h24]
      by_cases h25 : y = 25
      · rw [bEq_t h25]; exact z_955 hi hN hx hk R nxt
      rw [bEq_f h25]
      by_cases h26 : y = 26
      · rw [bEq_t h26]; exact z_968 hi hN hx hk R nxt
      rw [bEq_f h26]
      by_cases h27 : y = 27
      · rw [bEq_t h27]; exact z_981 hi hN hx hk R nxt
      rw [bEq_f h27]
      by_cases h28 : y = 28
      · rw [bEq_t h28]; exact z_994 hi hN hx hk R nxt
      rw [bEq_f h28]
      by_cases h29 : y = 29
      · rw [bEq_t h29]; exact z_1017 hi hN hx hk R nxt
      rw [bEq_f h29]
      by_cases h30 : y = 30
      · rw [bEq_t h30]; exact z_1060 hi hN hx hk R nxt
      rw [bEq_f h30]
      by_cases h31 : y = 31
      · rw [bEq_t h31]; exact z_1083 hi hN hx hk R nxt
      rw [bEq_f h31]
      by_cases h32 : y = 32
      · rw [bEq_t h32]; exact z_1116 hi hN hx hk R nxt
      rw [bEq_f h32]
      by_cases h33 : y = 33
      · rw [bEq_t h33]; exact z_1159 hi hN hx hk R nxt
      rw [bEq_f h33]
      by_cases h34 : y = 34
      · rw [bEq_t h34]; exact z_1232 hi hN hx hk R nxt
      rw [bEq_f h34]
      by_cases h35 : y = 35
      · rw [bEq_t h35]; exact z_1266 hi hN hx hk R nxt
      rw [bEq_f h35]
      by_cases h36 : y = 36
      · rw [bEq_t h36]; exact z_1329 hi hN hx hk R nxt
      rw [bEq_f h36]
      by_cases h37 : y = 37
      · rw [bEq_t h37]; exact z_1362 hi hN hx hk R nxt
      rw [bEq_f h37]
      exact nxt σ (RR_i R)
    · exact ⟨σ, by rw [f_229_18, g4, w32_e (by omega), bLt_t (by omega), bIn_t (by omega)]⟩
end
