/-! PURE PART 5: the cover of the model -/
def up3 (V : cV) (q : Nat) (f : Nat → Int) : cV := fun k j => if k < 3 ∧ j = q then f k else V k j
theorem up3_u {V : cV} {q : Nat} {a b c : Int} {f : Nat → Int} (ha : a = f 0) (hb : b = f 1) (hc : c = f 2) : up (up (up V 0 q a) 1 q b) 2 q c = up3 V q f := by
  funext k j
  subst ha hb hc
  by_cases h : k < 3 ∧ j = q
  · rw [show up3 V q f k j = f k from if_pos h]
    obtain ⟨h1, h2⟩ := h
    subst h2
    rcases (by omega : k = 0 ∨ k = 1 ∨ k = 2) with rfl | rfl | rfl
    · rw [up_o (by omega), up_o (by omega), up_e]
    · rw [up_o (by omega), up_e]
    · rw [up_e]
  · rw [show up3 V q f k j = V k j from if_neg h, up_o (by omega), up_o (by omega), up_o (by omega)]
theorem up3_e {V : cV} {q k : Nat} {f : Nat → Int} (h : k < 3) : up3 V q f k q = f k := if_pos ⟨h, rfl⟩
theorem up3_o {V : cV} {q k j : Nat} {f : Nat → Int} (h : 3 ≤ k ∨ j ≠ q) : up3 V q f k j = V k j := if_neg (by omega)
theorem s_173 {d x y : Nat} {V : cV} {σ : mM} (hx : x < 30) (hy : y < 30) : mcall (d + 1) 173 [(30, 64), (0, (x : Int)), (0, (y : Int))] (sL 65 66 67 69 0 64 6 V σ) = some (0, sL 65 66 67 69 0 64 6 (up3 V y (fun k => V k x)) σ) := by
  rw [e_173, bIn_t (by omega), bIn_t (by omega), bIn_t (by omega), bIn_t (by omega), bIn_t (by omega), bIn_t (by omega)]
  simp only [tn_n, sL_1 hx, uL_1 hy, sL_2 dM hx, uL_2 dM hy, sL_3 dM hx, uL_3 dM hy]
  rw [up_o (k := 0) (a := 1) (by omega), up_o (k := 1) (a := 2) (by omega), up_o (k := 0) (a := 2) (by omega), up3_u (f := fun k => V k x) rfl rfl rfl]
/-- columns that have slipped -/
def slipI (n : Nat) (V : cV) : cV := fun k j => if k < 3 ∧ j % 6 < n then sliR (V k) j else V k j
theorem slipI_r {V : cV} {n k j : Nat} (h : n ≤ j % 6) : slipI n V k j = V k j := if_neg (by omega)
theorem slx_i {V : cV} {i q1 q2 q3 q4 : Nat} (hi : i < 6) (h1 : q1 = 6 + i) (h2 : q2 = 12 + i) (h3 : q3 = 18 + i) (h4 : q4 = 24 + i) :
    up3 (up3 (up3 (up3 (up3 (slipI i V) q4 (fun k => V k q3)) q3 (fun k => V k q2)) q2 (fun k => V k q1)) q1 (fun k => V k i)) i (fun k => V k q4) = slipI (i + 1) V := by
  funext k j
  by_cases hk : k < 3
  · by_cases e0 : j = i
    · subst e0
      rw [up3_e hk, show slipI (j + 1) V k j = sliR (V k) j from if_pos (by omega), show sliR (V k) j = V k (24 + j) from if_pos hi, h4]
    · rw [up3_o (Or.inr e0)]
      by_cases e1 : j = q1
      · rw [e1, up3_e hk, show slipI (i + 1) V k q1 = sliR (V k) q1 from if_pos (by omega), show sliR (V k) q1 = V k (q1 - 6) from (if_neg (by omega)).trans (if_pos (by omega)), show q1 - 6 = i by omega]
      · rw [up3_o (Or.inr e1)]
        by_cases e2 : j = q2
        · rw [e2, up3_e hk, show slipI (i + 1) V k q2 = sliR (V k) q2 from if_pos (by omega), show sliR (V k) q2 = V k (q2 - 6) from (if_neg (by omega)).trans (if_pos (by omega)), show q2 - 6 = q1 by omega]
        · rw [up3_o (Or.inr e2)]
          by_cases e3 : j = q3
          · rw [e3, up3_e hk, show slipI (i + 1) V k q3 = sliR (V k) q3 from if_pos (by omega), show sliR (V k) q3 = V k (q3 - 6) from (if_neg (by omega)).trans (if_pos (by omega)), show q3 - 6 = q2 by omega]
          · rw [up3_o (Or.inr e3)]
            by_cases e4 : j = q4
            · rw [e4, up3_e hk, show slipI (i + 1) V k q4 = sliR (V k) q4 from if_pos (by omega), show sliR (V k) q4 = V k (q4 - 6) from (if_neg (by omega)).trans (if_pos (by omega)), show q4 - 6 = q3 by omega]
            · rw [up3_o (Or.inr e4)]
              by_cases h : j % 6 < i
              · rw [show slipI i V k j = sliR (V k) j from if_pos ⟨hk, h⟩, show slipI (i + 1) V k j = sliR (V k) j from if_pos (by omega)]
              · rw [slipI_r (by omega)]
                by_cases h' : j % 6 < i + 1
                · rw [show slipI (i + 1) V k j = sliR (V k) j from if_pos ⟨hk, h'⟩, show sliR (V k) j = V k j from (if_neg (by omega)).trans (if_neg (by omega))]
                · rw [slipI_r (by omega)]
  · rw [up3_o (by omega), up3_o (by omega), up3_o (by omega), up3_o (by omega), up3_o (by omega), show slipI i V k j = V k j from if_neg (by omega), show slipI (i + 1) V k j = V k j from if_neg (by omega)]
theorem s_172s {d x y : Nat} {mx : Int × Int} {V : cV} {σ : mM} {v2 v3 v4 v5 : Int} (hx : x < 6) (hy : y < 4) : mgo (mcall (d + 1)) mx 172 39 [(30, 64), (0, (x : Int)), (0, v2), (0, v3), (0, v4), (0, v5), (0, ((y + 1 : Nat) : Int))] [] (sL 65 66 67 69 0 64 6 V σ) = mgo (mcall (d + 1)) mx 172 39 [(30, 64), (0, (x : Int)), (0, v2), (0, v3), (0, v4), (0, v5), (0, (y : Int))] [] (sL 65 66 67 69 0 64 6 (up3 V (6 * y + 6 + x) (fun k => V k (6 * y + x))) σ) := by
  have w1 : w32 (((y + 1 : Nat) : Int) - 1) = (y : Int) := by rw [w32_e (by omega)]; omega
  have w2 : w32 ((w32 (6 * (y : Int))) + (x : Int)) = ((6 * y + x : Nat) : Int) := by rw [w32_e (x := 6 * (y : Int)) (by omega), w32_e (by omega)]; omega
  have w3 : w32 ((w32 (6 * ((y + 1 : Nat) : Int))) + (x : Int)) = ((6 * y + 6 + x : Nat) : Int) := by rw [w32_e (x := 6 * ((y + 1 : Nat) : Int)) (by omega), w32_e (by omega)]; omega
  have w4 : w32 (((y + 1 : Nat) : Int) + (-1)) = (y : Int) := by rw [w32_e (by omega)]; omega
  rw [b_172_39, bLt_t (by omega), w1, w2, w3, w4, s_173 (by omega) (by omega), bK_t]
theorem s_172i {d x q4 : Nat} {mx : Int × Int} {V : cV} {σ : mM} {v2 : Int} (hx : x < 6) (h4 : q4 = 24 + x) : mgo (mcall (d + 1)) mx 172 39 [(30, 64), (0, (x : Int)), (0, v2), (0, V 0 q4), (0, V 1 q4), (0, V 2 q4), (0, 4)] [] (sL 65 66 67 69 0 64 6 (slipI x V) σ) = mgo (mcall (d + 1)) mx 172 2 [(30, 64), (0, ((x + 1 : Nat) : Int)), (0, v2), (0, V 0 q4), (0, V 1 q4), (0, V 2 q4), (0, 0)] [] (sL 65 66 67 69 0 64 6 (slipI (x + 1) V) σ) := by
  obtain ⟨q3, h3⟩ : ∃ q, q = 18 + x := ⟨_, rfl⟩
  obtain ⟨q2, h2⟩ : ∃ q, q = 12 + x := ⟨_, rfl⟩
  obtain ⟨q1, h1⟩ : ∃ q, q = 6 + x := ⟨_, rfl⟩
  have z := slx_i (V := V) hx h1 h2 h3 h4
  have g : ∀ j, j % 6 = x → ∀ k, slipI x V k j = V k j := fun j hj k => slipI_r (by omega)
  have a4 := s_172s (d := d) (x := x) (y := 3) (mx := mx) (V := slipI x V) (σ := σ) (v2 := v2) (v3 := V 0 q4) (v4 := V 1 q4) (v5 := V 2 q4) hx (by omega)
  refine Eq.trans a4 ?_
  rw [show 6 * 3 + 6 + x = q4 by omega, show 6 * 3 + x = q3 by omega, show (fun k => slipI x V k q3) = fun k => V k q3 from funext (g q3 (by omega))]
  have a3 := s_172s (d := d) (x := x) (y := 2) (mx := mx) (V := up3 (slipI x V) q4 (fun k => V k q3)) (σ := σ) (v2 := v2) (v3 := V 0 q4) (v4 := V 1 q4) (v5 := V 2 q4) hx (by omega)
  refine Eq.trans a3 ?_
  rw [show 6 * 2 + 6 + x = q3 by omega, show 6 * 2 + x = q2 by omega, show (fun k => up3 (slipI x V) q4 (fun k => V k q3) k q2) = fun k => V k q2 from funext fun k => (up3_o (by omega)).trans (g q2 (by omega) k)]
  have a2 := s_172s (d := d) (x := x) (y := 1) (mx := mx) (V := up3 (up3 (slipI x V) q4 (fun k => V k q3)) q3 (fun k => V k q2)) (σ := σ) (v2 := v2) (v3 := V 0 q4) (v4 := V 1 q4) (v5 := V 2 q4) hx (by omega)
  refine Eq.trans a2 ?_
  rw [show 6 * 1 + 6 + x = q2 by omega, show 6 * 1 + x = q1 by omega, show (fun k => up3 (up3 (slipI x V) q4 (fun k => V k q3)) q3 (fun k => V k q2) k q1) = fun k => V k q1 from funext fun k => (up3_o (by omega)).trans ((up3_o (by omega)).trans (g q1 (by omega) k))]
  have a1 := s_172s (d := d) (x := x) (y := 0) (mx := mx) (V := up3 (up3 (up3 (slipI x V) q4 (fun k => V k q3)) q3 (fun k => V k q2)) q2 (fun k => V k q1)) (σ := σ) (v2 := v2) (v3 := V 0 q4) (v4 := V 1 q4) (v5 := V 2 q4) hx (by omega)
  refine Eq.trans a1 ?_
  rw [show 6 * 0 + 6 + x = q1 by omega, show 6 * 0 + x = x by omega, show (fun k => up3 (up3 (up3 (slipI x V) q4 (fun k => V k q3)) q3 (fun k => V k q2)) q2 (fun k => V k q1) k x) = fun k => V k x from funext fun k => (up3_o (by omega)).trans ((up3_o (by omega)).trans ((up3_o (by omega)).trans (g x (by omega) k)))]
  have hx3 : x < 30 := by omega
  have b0 := b_172_39 (mcall (d + 1)) mx (x : Int) v2 (V 0 q4) (V 1 q4) (V 2 q4) 0 (sL 65 66 67 69 0 64 6 (up3 (up3 (up3 (up3 (slipI x V) q4 (fun k => V k q3)) q3 (fun k => V k q2)) q2 (fun k => V k q1)) q1 (fun k => V k x)) σ)
  refine Eq.trans b0 ?_
  rw [bLt_f (by omega), bIn_t (by omega), bIn_t (by omega), bIn_t (by omega), w32_n (by omega)]
  simp only [tn_n, uL_1 hx3, uL_2 dM hx3, uL_3 dM hx3]
  rw [up3_u (f := fun k => V k q4) rfl rfl rfl, z]
theorem s_172l {d : Nat} {mx : Int × Int} {V : cV} {σ : mM} : ∀ (n x : Nat) (v2 v3 v4 v5 v6 : Int), x + n = 6 → mgo (mcall (d + 1)) mx 172 2 [(30, 64), (0, (x : Int)), (0, v2), (0, v3), (0, v4), (0, v5), (0, v6)] [] (sL 65 66 67 69 0 64 6 (slipI x V) σ) = some (0, sL 65 66 67 69 0 64 6 (slipI 6 V) σ) := by
  intro n
  induction n with
  | zero =>
    intro x v2 v3 v4 v5 v6 hx
    rw [b_172_2, bLt_f (by omega), show x = 6 by omega]
  | succ n ih =>
    intro x v2 v3 v4 v5 v6 hx
    have hq : 24 + x < 30 := by omega
    have e : w32 (24 + (x : Int)) = ((24 + x : Nat) : Int) := by rw [w32_e (by omega)]; omega
    rw [b_172_2, bLt_t (by omega), e, bIn_t (by omega), bIn_t (by omega), bIn_t (by omega)]
    simp only [tn_n, sL_1 hq, sL_2 dM hq, sL_3 dM hq]
    rw [slipI_r (by omega), slipI_r (by omega), slipI_r (by omega), s_172i (by omega) rfl]
    exact ih (x + 1) _ _ _ _ _ (by omega)
theorem slipI_0 {V : cV} : slipI 0 V = V := by
  funext k j
  exact if_neg (by omega)
theorem slipI_6 {V : cV} : slipI 6 V = slideA V := by
  funext k j
  unfold slipI slideA rV
  by_cases h2 : k = 2
  · subst h2; rw [if_pos (by omega), if_pos rfl]
  · rw [if_neg h2]
    by_cases h1 : k = 1
    · subst h1; rw [if_pos (by omega), if_pos rfl]
    · rw [if_neg h1]
      by_cases h0 : k = 0
      · subst h0; rw [if_pos (by omega), if_pos rfl]
      · rw [if_neg h0, if_neg (by omega)]
theorem s_172 {d : Nat} {V : cV} {σ : mM} : mcall (d + 2) 172 [(30, 64)] (sL 65 66 67 69 0 64 6 V σ) = some (0, sL 65 66 67 69 0 64 6 (slideA V) σ) := by
  have hq : 24 + 0 < 30 := by omega
  have h := s_172i (d := d) (x := 0) (q4 := 24) (mx := mX 172 (sL 65 66 67 69 0 64 6 V σ)) (V := V) (σ := σ) (v2 := 24) (by omega) rfl
  rw [slipI_0] at h
  rw [e_172, b_172_2a, bLt_t (by omega), show w32 (24 + 0) = 24 by rfl, bIn_t (by omega), bIn_t (by omega), bIn_t (by omega), show ((24 : Int)).toNat = 24 by rfl, sL_1 hq, sL_2 dM hq, sL_3 dM hq]
  refine Eq.trans h ?_
  rw [s_172l 5 1 _ _ _ _ _ (by omega), slipI_6]
