/-! PURE PART 29: shifts, what is taken, houses from a row -/
section
variable {d n b k : Nat} {σ τ : mM} {V : cV} {L : List (List Int × List Int)} {H : Nat → Nat → Int} {s : Int} {xs : Nat → Int} {N : Int} {vh : Nat → Int} {l : Nat → Nat} {B : Nat → Nat → Int} {st : Nat → Int}
theorem cmp_g {a b : Int} (h : b < a) : 0 < (if a < b then (-1 : Int) else if a = b then 0 else 1) := by rw [if_neg (by omega), if_neg (by omega)]; omega
theorem cmp_n {a b : Int} (h : ¬ b < a) : (if a < b then (-1 : Int) else if a = b then 0 else 1) ≤ 0 := by
  split
  · omega
  · rw [if_pos (by omega)]; omega
theorem w64_e {x : Int} (h : -9223372036854775808 ≤ x ∧ x < 9223372036854775808) : w64 x = x := by unfold w64; omega
theorem w603 {p i m : Nat} (hp : p < 6) (hi : i + m < 60) : w32 ((w32 ((w32 (60 * (p : Int))) + (i : Int))) + (m : Int)) = ((60 * p + i + m : Nat) : Int) := by rw [w60 hp (by omega), w32_e (by omega)]; omega
theorem mcc_s {x p q m : Nat} (h : p ≥ q ∨ p + m < q ∨ q + m ≤ p) : mset (mcopy σ x x p q m) x (q + m) (mcopy σ x x p q m x (p + m)) = mcopy σ x x p q (m + 1) := by
  rw [mcp_o (a := x) (j := p + m) (by omega)]
  funext a' j
  by_cases h1 : a' = x ∧ j = q + m
  · rw [h1.1, h1.2, ms_e, mcp_i (by omega), show p + (q + m - q) = p + m by omega]
  · rw [ms_n (by omega)]
    by_cases h2 : a' = x ∧ q ≤ j ∧ j < q + m
    · obtain ⟨h3, h4⟩ := h2
      subst h3
      rw [mcp_i h4, mcp_i (by omega)]
    · rw [mcp_o (by omega), mcp_o (by omega)]
/-- copied from above, down to a place -/
def mcD (x p q m r : Nat) (σ : mM) : mM := fun a j => if a = x ∧ q + m ≤ j ∧ j < q + r then σ x (p + (j - q)) else σ a j
theorem mcD_s {x p q m r : Nat} (hr : m < r) (h : p < q) : mset (mcD x p q (m + 1) r σ) x (q + m) (mcD x p q (m + 1) r σ x (p + m)) = mcD x p q m r σ := by
  rw [show mcD x p q (m + 1) r σ x (p + m) = σ x (p + m) from if_neg (by omega)]
  funext a j
  by_cases h1 : a = x ∧ j = q + m
  · rw [h1.1, h1.2, ms_e]
    exact ((if_pos (by omega)).trans (congrArg (σ x) (by omega))).symm
  · rw [ms_n (by omega)]
    unfold mcD
    by_cases h2 : a = x ∧ q + (m + 1) ≤ j ∧ j < q + r
    · rw [if_pos h2, if_pos (by omega)]
    · rw [if_neg h2, if_neg (by omega)]
theorem s_224f {p q i j m : Nat} {mx : Int × Int} {K : mK} (hp : p < 6) (hq : q < 6) (hi : i + m ≤ 60) (hj : j + m ≤ 60) (hh : p ≠ q ∨ j ≤ i) : mgo K mx 224 188 [(30, 64), (0, (p : Int)), (0, (i : Int)), (0, (q : Int)), (0, (j : Int)), (0, (m : Int)), (0, 0)] [] σ = some ((m : Int), mcopy σ 89 89 (60 * p + i) (60 * q + j) m) := by
  have k : ∀ (r t : Nat), t + r = m → mgo K mx 224 188 [(30, 64), (0, (p : Int)), (0, (i : Int)), (0, (q : Int)), (0, (j : Int)), (0, (m : Int)), (0, (t : Int))] [] (mcopy σ 89 89 (60 * p + i) (60 * q + j) t) = some ((m : Int), mcopy σ 89 89 (60 * p + i) (60 * q + j) m) := by
    intro r
    induction r with
    | zero => intro t ht; rw [f_224_188, bLt_f (by omega), f_224_230, show t = m by omega]
    | succ r ih =>
      intro t ht
      rw [f_224_188, bLt_t (by omega), w603 hp (by omega), w603 hq (by omega), bIn_t (by omega), bIn_t (by omega), tn_n, tn_n, mcc_s (by omega), w32_n (by omega)]
      exact ih (t + 1) (by omega)
  have z := k m 0 (by omega)
  rw [show mcopy σ 89 89 (60 * p + i) (60 * q + j) 0 = σ from funext fun a => funext fun b => mcp_o (by omega)] at z
  exact z
theorem s_224b {p i j m : Nat} {mx : Int × Int} {K : mK} (hp : p < 6) (hi : i + m ≤ 60) (hj : j + m ≤ 60) (hh : i < j) : mgo K mx 224 142 [(30, 64), (0, (p : Int)), (0, (i : Int)), (0, (p : Int)), (0, (j : Int)), (0, (m : Int)), (0, (m : Int) - 1)] [] σ = some ((m : Int), mcopy σ 89 89 (60 * p + i) (60 * p + j) m) := by
  have k : ∀ (t : Nat), t ≤ m → mgo K mx 224 142 [(30, 64), (0, (p : Int)), (0, (i : Int)), (0, (p : Int)), (0, (j : Int)), (0, (m : Int)), (0, (t : Int) - 1)] [] (mcD 89 (60 * p + i) (60 * p + j) t m σ) = some ((m : Int), mcD 89 (60 * p + i) (60 * p + j) 0 m σ) := by
    intro t
    induction t with
    | zero => intro ht; rw [f_224_142, bLt_t (by omega), f_224_230]
    | succ t ih =>
      intro ht
      rw [f_224_142, bLt_f (by omega), show ((t + 1 : Nat) : Int) - 1 = (t : Int) by omega, w603 hp (by omega), w603 hp (by omega), bIn_t (by omega), bIn_t (by omega), tn_n, tn_n, mcD_s (by omega) (by omega), show w32 ((t : Int) + (-1)) = (t : Int) - 1 by rw [w32_e (by omega)]; omega]
      exact ih (by omega)
  have z := k m (Nat.le_refl _)
  rw [show mcD 89 (60 * p + i) (60 * p + j) m m σ = σ from funext fun a => funext fun b => if_neg (by omega)] at z
  rw [z]
  refine congrArg (fun τ : mM => some ((m : Int), τ)) ?_
  funext a t
  unfold mcD mcopy
  by_cases h : a = 89 ∧ 60 * p + j ≤ t ∧ t < 60 * p + j + m
  · rw [if_pos (by omega), if_pos h]
  · rw [if_neg (by omega), if_neg h]
theorem r_shift {x i y j m : Int} (hi : -2147483648 ≤ i ∧ i < 2147483648) (hj : -2147483648 ≤ j ∧ j < 2147483648) (hm : -2147483648 ≤ m ∧ m < 2147483648) : cR 123 224 [(0, x), (0, i), (0, y), (0, j), (0, m)] := by
  intro d xs N k σ hk R
  have R' := R
  obtain ⟨V, L, H, n, s, b, -, -, -, -, ⟨vh, l, B, st, s1, s2, s3⟩, -, ⟨v1, -⟩, -⟩ := R
  have sm : ∀ r : Int, mcall (d + 40) 123 [(29, 0), (0, x), (0, i), (0, y), (0, j), (0, m)] σ = some (r, σ) → mcall (d + 40) 224 [(30, 64), (0, x), (0, i), (0, y), (0, j), (0, m)] σ = some (r, σ) → ∃ r σ1 σ2, mcall (d + 40) 123 [(29, 0), (0, x), (0, i), (0, y), (0, j), (0, m)] σ = some (r, σ1) ∧ mcall (d + 40) 224 [(30, 64), (0, x), (0, i), (0, y), (0, j), (0, m)] σ1 = some (r, σ2) ∧ RR xs N (k + 1) σ2 ∧ σ1 903 = σ 903 ∧ σ1 904 = σ 904 := fun r h1 h2 => ⟨r, σ, σ, h1, h2, RR_i R', rfl, rfl⟩
  by_cases h1 : 0 ≤ x ∧ x < 6
  · by_cases h2 : 0 ≤ y ∧ y < 6
    · obtain ⟨p, hp⟩ : ∃ i : Nat, x = (i : Int) := ⟨x.toNat, by omega⟩
      obtain ⟨q, hq⟩ : ∃ i : Nat, y = (i : Int) := ⟨y.toNat, by omega⟩
      subst hp hq
      obtain ⟨c1, c2, c3, c4, c5⟩ := sh_re (i := i) s2 h1
      obtain ⟨e1, e2, e3, e4, e5⟩ := sh_re (i := i) s2 h2
      rw [tn_n] at c1 c2 c3 c4 c5 e1 e2 e3 e4 e5
      obtain ⟨a1, a2, a3, a4, a5⟩ := s1 p (by omega)
      obtain ⟨b1, b2, b3, b4, b5⟩ := s1 q (by omega)
      by_cases h3 : vh p = -2
      · refine sm (-11) ?_ ?_
        · rw [e_123, s_128, bK_t, if_pos h1, bEq_f (by omega), s_128, bK_t, if_pos h2, bEq_f (by omega), bIn_t (by omega), bIn_t (by omega), shx, tn_n, a1, bEq_t h3]
        · rw [f_224, s_137, bK_t, if_pos h1, bEq_f (by omega), s_137, bK_t, if_pos h2, bEq_f (by omega), bIn_t (by omega), tn_n p, bEq_t (c1.mpr h3), f_224_36]
      · by_cases h4 : vh q = -2
        · refine sm (-11) ?_ ?_
          · rw [e_123, s_128, bK_t, if_pos h1, bEq_f (by omega), s_128, bK_t, if_pos h2, bEq_f (by omega), bIn_t (by omega), bIn_t (by omega), shx, shx, tn_n, tn_n, a1, b1, bEq_f h3, bEq_t h4]
          · rw [f_224, s_137, bK_t, if_pos h1, bEq_f (by omega), s_137, bK_t, if_pos h2, bEq_f (by omega), bIn_t (by omega), tn_n p, bEq_f (fun z => h3 (c1.mp z)), bIn_t (by omega), tn_n q, bEq_t (e1.mpr h4), f_224_36]
        · by_cases h5 : 0 ≤ vh p ∧ vh p = vh q
          · have hq0 : 0 ≤ vh q := by omega
            have x5 : σ 87 p = σ 87 q := by rw [c5 h5.1, e5 hq0, h5.2]
            by_cases h6 : 0 ≤ m ∧ 0 ≤ i ∧ 0 ≤ j ∧ i + m ≤ (l p : Int) ∧ j + m ≤ (l q : Int)
            · obtain ⟨i', hi'⟩ : ∃ t : Nat, i = (t : Int) := ⟨i.toNat, by omega⟩
              obtain ⟨j', hj'⟩ : ∃ t : Nat, j = (t : Int) := ⟨j.toNat, by omega⟩
              obtain ⟨m', hm'⟩ : ∃ t : Nat, m = (t : Int) := ⟨m.toNat, by omega⟩
              subst hi' hj' hm'
              have q1 : ∀ a, a ≠ 48 + 2 * q → mcopy σ (48 + 2 * p) (48 + 2 * q) i' j' m' a = σ a := fun a ha => funext fun t => mcp_o (Or.inl ha)
              refine ⟨(m' : Int), mcopy σ (48 + 2 * p) (48 + 2 * q) i' j' m', mcopy (mcopy σ (48 + 2 * p) (48 + 2 * q) i' j' m') 89 89 (60 * p + i') (60 * q + j') m', ?_, ?_, RR_5 R' (fun a j h => ?_) (fun b' hb' => ?_), q1 _ (by omega), q1 _ (by omega)⟩
              · rw [e_123, s_128, bK_t, if_pos h1, bEq_f (by omega), s_128, bK_t, if_pos h2, bEq_f (by omega), bIn_t (by omega), bIn_t (by omega), shx, shx, shx1, shx1]
                simp only [tn_n]
                rw [a1, b1, bEq_f h3, bEq_f h4, s_33 a1, bK_t, if_pos h5.1, bEq_f (by omega), a1, b1, bEq_t h5.2, s_34 a2 a3, bK_t, if_pos (by omega), bEq_f (by omega), s_34 b2 b3, bK_t, if_pos (by omega), bEq_f (by omega), bCp_t (by omega)]
              · rw [f_224, s_137, bK_t, if_pos h1, bEq_f (by omega), s_137, bK_t, if_pos h2, bEq_f (by omega), bIn_t (by omega)]
                rw [tn_n p, tn_n q, q1 87 (by omega), bEq_f (fun z => h3 (c1.mp z)), bIn_t (by omega), bEq_f (fun z => h4 (e1.mp z)), s_220 (by omega), bK_t, q1 87 (by omega), if_pos (c2.mp h5.1), bEq_f (by omega), s_220 (by omega), bK_t, q1 87 (by omega), if_pos (e2.mp hq0), bEq_f (by omega), bIn_t (by omega), bIn_t (by omega), bEq_t x5, bLt_f (by omega), bLt_f (by omega), bLt_f (by omega), bIn_t (by omega), q1 88 (by omega), c3, e3, bLt_f (x := 0) (cmp_n (by rw [w64_e (by omega)]; omega)), bIn_t (by omega), bLt_f (x := 0) (cmp_n (by rw [w64_e (by omega)]; omega))]
                by_cases hpq : (p : Int) = (q : Int)
                · have hpq' : p = q := by omega
                  subst hpq'
                  rw [bEq_t hpq]
                  by_cases hij : (i' : Int) < (j' : Int)
                  · rw [bLt_t hij, w32_e (by omega), s_224b (by omega) (by omega) (by omega) (by omega)]
                  · rw [bLt_f (by omega), f_224_185, s_224f (by omega) (by omega) (by omega) (by omega) (by omega)]
                · rw [bEq_f hpq, f_224_185, s_224f (by omega) (by omega) (by omega) (by omega) (by omega)]
              · unfold P5 SC at h
                rw [mcp_o (by omega), mcp_o (by omega)]
              · have hbb : b = b' := by have := hb'.1; omega
                subst hbb
                refine ⟨vh, l, uf B q (fun t => if j' ≤ t ∧ t < j' + m' then B p (i' + (t - j')) else B q t), st, fun k hk => ?_, fun k hk => ?_, s3⟩
                · obtain ⟨y1, y2, y3, y4, y5⟩ := s1 k hk
                  rw [mcp_o (by omega), mcp_o (by omega), mcp_o (by omega), mcp_o (by omega), mcp_o (by omega), mcp_o (by omega)]
                  refine ⟨y1, y2, y3, fun t ht => ?_, y5⟩
                  rw [mcp_o (by omega)]
                  by_cases he : k = q
                  · subst he
                    rw [uf_e]
                    by_cases hw : j' ≤ t ∧ t < j' + m'
                    · rw [if_pos hw, mcp_i hw]; exact a4 _ (by omega)
                    · rw [if_neg hw, mcp_o (by omega)]; exact y4 t ht
                  · rw [uf_o he, mcp_o (by omega)]; exact y4 t ht
                · obtain ⟨y1, y2, y3, y4⟩ := s2 k hk
                  rw [mcp_o (by omega), mcp_o (by omega), mcp_o (by omega), mcp_o (by omega)]
                  refine ⟨y1, y2, y3, fun t ht => ?_⟩
                  by_cases he : k = q
                  · subst he
                    rw [uf_e]
                    by_cases hw : j' ≤ t ∧ t < j' + m'
                    · rw [if_pos hw, mcp_i (by omega), mcp_o (by omega)]
                      have z := (s2 p (by omega)).2.2.2 (i' + (t - j')) (by omega)
                      rw [show 60 * p + i' + (60 * k + t - (60 * k + j')) = 60 * p + (i' + (t - j')) by omega, ← h5.2]
                      exact z
                    · rw [if_neg hw, mcp_o (by omega), mcp_o (by omega)]; exact y4 t ht
                  · rw [uf_o he, mcp_o (by omega), mcp_o (by omega)]; exact y4 t ht
            · refine sm (-13) ?_ ?_
              · rw [e_123, s_128, bK_t, if_pos h1, bEq_f (by omega), s_128, bK_t, if_pos h2, bEq_f (by omega), bIn_t (by omega), bIn_t (by omega), shx, shx, shx1, shx1]
                simp only [tn_n]
                rw [a1, b1, bEq_f h3, bEq_f h4, s_33 a1, bK_t, if_pos h5.1, bEq_f (by omega), a1, b1, bEq_t h5.2, s_34 a2 a3, bK_t]
                by_cases h7 : 0 ≤ i ∧ 0 ≤ m ∧ m ≤ (l p : Int) ∧ i ≤ (l p : Int) - m
                · rw [if_pos h7, bEq_f (by omega), s_34 b2 b3, bK_t, if_neg (by omega), bEq_t (by rfl)]
                · rw [if_neg h7, bEq_t (by rfl)]
              · rw [f_224, s_137, bK_t, if_pos h1, bEq_f (by omega), s_137, bK_t, if_pos h2, bEq_f (by omega), bIn_t (by omega)]
                rw [tn_n p, tn_n q, bEq_f (fun z => h3 (c1.mp z)), bIn_t (by omega), bEq_f (fun z => h4 (e1.mp z)), s_220 (by omega), bK_t, if_pos (c2.mp h5.1), bEq_f (by omega), s_220 (by omega), bK_t, if_pos (e2.mp hq0), bEq_f (by omega), bIn_t (by omega), bIn_t (by omega), bEq_t x5]
                simp only [f_224_122]
                by_cases k1 : m < 0
                · rw [bLt_t k1]
                · rw [bLt_f (by omega)]
                  by_cases k2 : i < 0
                  · rw [bLt_t k2]
                  · rw [bLt_f (by omega)]
                    by_cases k3 : j < 0
                    · rw [bLt_t k3]
                    · rw [bLt_f (by omega), bIn_t (by omega), c3, e3]
                      by_cases k4 : (l p : Int) < i + m
                      · rw [bLt_t (cmp_g (by rw [w64_e (by omega)]; omega))]
                      · rw [bLt_f (x := 0) (cmp_n (by rw [w64_e (by omega)]; omega)), bIn_t (by omega), bLt_t (cmp_g (by rw [w64_e (by omega)]; omega))]
          · refine sm (-12) ?_ ?_
            · rw [e_123, s_128, bK_t, if_pos h1, bEq_f (by omega), s_128, bK_t, if_pos h2, bEq_f (by omega), bIn_t (by omega), bIn_t (by omega), shx, shx, shx1, shx1]
              simp only [tn_n]
              rw [a1, b1, bEq_f h3, bEq_f h4, s_33 a1, bK_t]
              by_cases h6 : 0 ≤ vh p
              · rw [if_pos h6, bEq_f (by omega), a1, b1, bEq_f (by omega)]
              · rw [if_neg h6, bEq_t (by rfl)]
            · rw [f_224, s_137, bK_t, if_pos h1, bEq_f (by omega), s_137, bK_t, if_pos h2, bEq_f (by omega), bIn_t (by omega)]
              rw [tn_n p, tn_n q, bEq_f (fun z => h3 (c1.mp z)), bIn_t (by omega), bEq_f (fun z => h4 (e1.mp z)), s_220 (by omega), bK_t]
              by_cases h6 : 0 ≤ vh p
              · rw [if_pos (c2.mp h6), bEq_f (by omega), s_220 (by omega), bK_t]
                by_cases h7 : 0 ≤ vh q
                · rw [if_pos (e2.mp h7), bEq_f (by omega), bIn_t (by omega), bIn_t (by omega), bEq_f (by rw [c5 h6, e5 h7]; omega), f_224_70]
                · rw [if_neg (fun z => h7 (e2.mpr z)), bEq_t (by rfl), f_224_70]
              · rw [if_neg (fun z => h6 (c2.mpr z)), bEq_t (by rfl), f_224_70]
    · refine sm (-1) ?_ ?_
      · rw [e_123, s_128, bK_t, if_pos h1, bEq_f (by omega), s_128, bK_t, if_neg h2, bEq_t (by rfl)]
      · rw [f_224, s_137, bK_t, if_pos h1, bEq_f (by omega), s_137, bK_t, if_neg h2, bEq_t (by rfl), f_224_14]
  · refine sm (-1) ?_ ?_
    · rw [e_123, s_128, bK_t, if_neg h1, bEq_t (by rfl)]
    · rw [f_224, s_137, bK_t, if_neg h1, bEq_t (by rfl), f_224_14]
/-! taken -/
def abA (t : Nat) : Nat := if t = 3 then 2 else if t = 4 then 1 else if t = 5 then 3 else if t = 7 then 4 else 0
theorem abA_lt {t : Nat} (h : 0 < t) : abA t < t := by
  unfold abA
  repeat' split
  all_goals omega
theorem mC1_e {t : Nat} (h : 0 < t) (h8 : t < 8) : mC1 t = (abA t : Int) := by
  rcases (by omega : t = 1 ∨ t = 2 ∨ t = 3 ∨ t = 4 ∨ t = 5 ∨ t = 6 ∨ t = 7) with rfl | rfl | rfl | rfl | rfl | rfl | rfl <;> rfl
theorem s_209 {t : Nat} (h8 : t < 8) : mcall (d + 1) 209 [(0, (t : Int))] σ = some ((abA t : Int), σ) := by
  have e := e_209 d (t : Int) σ
  rcases (by omega : t = 0 ∨ t = 1 ∨ t = 2 ∨ t = 3 ∨ t = 4 ∨ t = 5 ∨ t = 6 ∨ t = 7) with rfl | rfl | rfl | rfl | rfl | rfl | rfl | rfl <;> exact e
/-- whether a kind is one or under it -/
def anA (k : Nat) : Nat → Nat → Bool
  | 0, t => decide (t = k)
  | f + 1, t => decide (t = k) || (decide (0 < t) && anA k f (abA t))
theorem s_50l {mx : Int × Int} {K : mK} {v1 : Int} {q : Nat} (hc : ∀ j, σ 901 j = mC1 j) : ∀ (f t j : Nat), t ≤ f → t < 8 → j + t ≤ 7 → mgo K mx 50 20 [(25, 43), (0, v1), (0, (q : Int)), (0, (t : Int)), (0, (j : Int))] [] σ = some (bif anA q f t then 1 else 0, σ) := by
  intro f
  induction f with
  | zero =>
    intro t j ht h8 hj
    have ht : t = 0 := by omega
    subst ht
    rw [b_50_20, bLt_t (by omega), bLt_f (by omega)]
    show _ = some (bif decide (0 = q) then 1 else 0, σ)
    by_cases h : 0 = q
    · rw [bEq_t (by omega), bEq_t (by omega), bIn_t (by omega), decide_eq_true h]; rfl
    · rw [bEq_f (by omega), bIn_t (by omega), tn_n, hc, show mC1 0 = -1 from rfl, w32_n (by omega), decide_eq_false h, b_50_20]
      by_cases h2 : ((j + 1 : Nat) : Int) < 8
      · rw [bLt_t h2, bLt_t (by omega), bEq_f (by omega), bIn_t (by omega)]; rfl
      · rw [bLt_f (by omega), bEq_f (by omega), bIn_t (by omega)]; rfl
  | succ f ih =>
    intro t j ht h8 hj
    rw [b_50_20, bLt_t (by omega), bLt_f (by omega)]
    show _ = some (bif (decide (t = q) || (decide (0 < t) && anA q f (abA t))) then 1 else 0, σ)
    by_cases h : t = q
    · rw [bEq_t (by omega), bEq_t (by omega), bIn_t (by omega), decide_eq_true h]; rfl
    · rw [bEq_f (by omega), bIn_t (by omega), tn_n, hc, w32_n (by omega), decide_eq_false h, Bool.false_or]
      by_cases h0 : 0 < t
      · have := abA_lt h0
        rw [mC1_e h0 h8, decide_eq_true h0, Bool.true_and]
        exact ih (abA t) (j + 1) (by omega) (by omega) (by omega)
      · have ht : t = 0 := by omega
        subst ht
        rw [show mC1 0 = -1 from rfl, decide_eq_false h0, b_50_20]
        by_cases h2 : ((j + 1 : Nat) : Int) < 8
        · rw [bLt_t h2, bLt_t (by omega), bEq_f (by omega), bIn_t (by omega)]; rfl
        · rw [bLt_f (by omega), bEq_f (by omega), bIn_t (by omega)]; rfl
theorem s_225l {mx : Int × Int} {d : Nat} {v1 v3 : Int} {q : Nat} : ∀ (f t : Nat), t ≤ f → t < 8 → mgo (mcall (d + 1)) mx 225 61 [(30, 64), (0, v1), (0, (q : Int)), (0, v3), (0, (t : Int))] [] σ = some (bif anA q f t then v3 else -12, σ) := by
  intro f
  induction f with
  | zero =>
    intro t ht h8
    have ht : t = 0 := by omega
    subst ht
    rw [b_225_61]
    show _ = some (bif decide (0 = q) then v3 else -12, σ)
    by_cases h : 0 = q
    · rw [bEq_t (by omega), bEq_t (by omega), decide_eq_true h]; rfl
    · rw [bEq_f (by omega), bLt_f (by omega), bEq_f (by omega), decide_eq_false h]; rfl
  | succ f ih =>
    intro t ht h8
    rw [b_225_61]
    show _ = some (bif (decide (t = q) || (decide (0 < t) && anA q f (abA t))) then v3 else -12, σ)
    by_cases h : t = q
    · rw [bEq_t (by omega), bEq_t (by omega), decide_eq_true h]; rfl
    · rw [bEq_f (by omega), decide_eq_false h, Bool.false_or]
      by_cases h0 : 0 < t
      · have := abA_lt h0
        rw [bLt_t (by omega), s_209 h8, bK_t, decide_eq_true h0, Bool.true_and]
        exact ih (abA t) (by omega) (by omega)
      · rw [bLt_f (by omega), bEq_f (by omega), decide_eq_false h0]; rfl
theorem r_taken {x y : Int} : cR 124 225 [(0, x), (0, y)] := by
  intro d xs N k σ hk R
  have R' := R
  obtain ⟨V, L, H, n, s, b, -, -, -, -, ⟨vh, l, B, st, s1, s2, s3⟩, -, ⟨v1, v2, v3, v4, -⟩, ⟨-, k1, -⟩⟩ := R
  have sm : ∀ r : Int, mcall (d + 40) 124 [(29, 0), (0, x), (0, y)] σ = some (r, σ) → mcall (d + 40) 225 [(30, 64), (0, x), (0, y)] σ = some (r, σ) → ∃ r σ1 σ2, mcall (d + 40) 124 [(29, 0), (0, x), (0, y)] σ = some (r, σ1) ∧ mcall (d + 40) 225 [(30, 64), (0, x), (0, y)] σ1 = some (r, σ2) ∧ RR xs N (k + 1) σ2 ∧ σ1 903 = σ 903 ∧ σ1 904 = σ 904 := fun r h1 h2 => ⟨r, σ, σ, h1, h2, RR_i R', rfl, rfl⟩
  by_cases h1 : 0 ≤ x ∧ x < 6
  · by_cases h2 : 0 ≤ y ∧ y < 8
    · obtain ⟨p, hp⟩ : ∃ i : Nat, x = (i : Int) := ⟨x.toNat, by omega⟩
      obtain ⟨q, hq⟩ : ∃ i : Nat, y = (i : Int) := ⟨y.toNat, by omega⟩
      subst hp hq
      obtain ⟨c1, c2, c3, c4, c5⟩ := sh_re (i := 0) s2 h1
      rw [tn_n] at c1 c2 c3 c4 c5
      obtain ⟨a1, a2, a3, a4, a5⟩ := s1 p (by omega)
      obtain ⟨b1, -⟩ := s2 p (by omega)
      by_cases h3 : vh p = -2
      · refine sm (-11) ?_ ?_
        · rw [e_124, s_128, bK_t, if_pos h1, bEq_f (by omega), s_47, bK_t, if_pos h2, bEq_f (by omega), bIn_t (by omega), shx, tn_n, a1, bEq_t h3]
        · rw [e_225, s_137, bK_t, if_pos h1, bEq_f (by omega), s_133, bK_t, if_pos (by omega), bEq_f (by omega), bIn_t (by omega), tn_n p, bEq_t (c1.mpr h3)]
      · by_cases h4 : vh p = -1
        · have a5 := a5 h4
          obtain ⟨g1, g2, g3, g4⟩ : vh p = -1 ∧ σ 87 p = 10 + st p ∧ 0 ≤ st p ∧ st p < 50 := by omega
          have g5 := s3 p (by omega) h4
          obtain ⟨z, hz⟩ : ∃ z : Nat, st p = (z : Int) := ⟨(st p).toNat, by omega⟩
          obtain ⟨u1, u2, u3⟩ := v4 z (by omega)
          obtain ⟨t, ht⟩ : ∃ t : Nat, σ 44 z = (t : Int) := ⟨(σ 44 z).toNat, by omega⟩
          have ht2 : σ 85 z = (t : Int) := by rw [← u1]; exact ht
          refine sm (bif anA q 7 t then (t : Int) else -12) ?_ ?_
          · rw [e_124, s_128, bK_t, if_pos h1, bEq_f (by omega), s_47, bK_t, if_pos h2, bEq_f (by omega), bIn_t (by omega), shx, tn_n, a1, bEq_f h3, bEq_t h4, a5, hz, e_50, s_48 v1, bK_t, if_pos (by omega), bEq_f (by omega), bIn_t (by omega), tn_n, ht]
            have z := s_50l (mx := mX 50 σ) (K := mcall (d + 38)) (v1 := (z : Int)) (q := q) k1 7 t 0 (by omega) (by omega) (by omega)
            rw [show ((0 : Nat) : Int) = 0 from rfl] at z
            rw [z, bK_t]
            cases anA q 7 t
            · rw [bEq_t (by rfl)]; rfl
            · rw [bEq_f (by show (1 : Int) ≠ 0; omega), a5, hz, bIn_t (by omega), tn_n, ht]; rfl
          · rw [e_225, s_137, bK_t, if_pos h1, bEq_f (by omega), s_133, bK_t, if_pos (by omega), bEq_f (by omega), bIn_t (by omega), tn_n p, bEq_f (by omega), s_220 (by omega), bK_t, if_neg (by omega), bEq_t (by rfl), bIn_t (by omega), g2, hz, w32_e (by omega), show (10 + (z : Int) - 10) = (z : Int) by omega, bIn_t (by omega), tn_n, ht2]
            exact s_225l 7 t (by omega) (by omega)
        · have hr : 0 ≤ vh p := by omega
          refine sm (-12) ?_ ?_
          · rw [e_124, s_128, bK_t, if_pos h1, bEq_f (by omega), s_47, bK_t, if_pos h2, bEq_f (by omega), bIn_t (by omega), shx, tn_n, a1, bEq_f h3, bEq_f h4]
          · rw [e_225, s_137, bK_t, if_pos h1, bEq_f (by omega), s_133, bK_t, if_pos (by omega), bEq_f (by omega), bIn_t (by omega), tn_n p, bEq_f (fun z => h3 (c1.mp z)), s_220 (by omega), bK_t, if_pos (c2.mp hr), bEq_f (by omega)]
    · refine sm (-1) ?_ ?_
      · rw [e_124, s_128, bK_t, if_pos h1, bEq_f (by omega), s_47, bK_t, if_neg h2, bEq_t (by rfl)]
      · rw [e_225, s_137, bK_t, if_pos h1, bEq_f (by omega), s_133, bK_t, if_neg (by omega), bEq_t (by rfl)]
  · refine sm (-1) ?_ ?_
    · rw [e_124, s_128, bK_t, if_neg h1, bEq_t (by rfl)]
    · rw [e_225, s_137, bK_t, if_neg h1, bEq_t (by rfl)]
/-! houses from a row -/
def hvA (B : Nat → Int) (l : Nat) (i : Int) (c n : Nat) : Prop := 0 ≤ i ∧ i + 3 * (c : Int) + 3 ≤ (l : Int) ∧ n < 8 ∧ (0 ≤ B (i.toNat + 3 * c) ∧ B (i.toNat + 3 * c) ≤ 29) ∧ (0 ≤ B (i.toNat + 3 * c + 1) ∧ B (i.toNat + 3 * c + 1) ≤ 99) ∧ (0 ≤ B (i.toNat + 3 * c + 2) ∧ B (i.toNat + 3 * c + 2) ≤ 4095)
noncomputable def hsC (B : Nat → Int) (l : Nat) (i : Int) : Nat → Nat → Nat → Nat
  | 0, c, _ => c
  | r + 1, c, n => @ite _ (hvA B l i c n) (Classical.propDecidable _) (hsC B l i r (c + 1) (n + 1)) c
noncomputable def hsN (B : Nat → Int) (l : Nat) (i : Int) : Nat → Nat → Nat → Nat
  | 0, _, n => n
  | r + 1, c, n => @ite _ (hvA B l i c n) (Classical.propDecidable _) (hsN B l i r (c + 1) (n + 1)) n
noncomputable def hsH (B : Nat → Int) (l : Nat) (i : Int) : Nat → Nat → Nat → (Nat → Nat → Int) → Nat → Nat → Int
  | 0, _, _, H => H
  | r + 1, c, n, H => @ite _ (hvA B l i c n) (Classical.propDecidable _) (hsH B l i r (c + 1) (n + 1) (addH H n (B (i.toNat + 3 * c)) (B (i.toNat + 3 * c + 1)) (B (i.toNat + 3 * c + 2)))) H
theorem hsN_le {B : Nat → Int} {l : Nat} {i : Int} : ∀ (r c n : Nat), n ≤ hsN B l i r c n := by
  intro r
  induction r with
  | zero => intro c n; exact Nat.le_refl _
  | succ r ih =>
    intro c n
    unfold hsN
    split
    · have := ih (c + 1) (n + 1); omega
    · exact Nat.le_refl _
theorem s_129 {p c : Nat} {i : Int} (hp : p < 6) (hc : c < 8) (h1 : σ (47 + 2 * p) 1 = vh p) (h2 : σ (47 + 2 * p) 2 = (l p : Int)) (h3 : l p ≤ 60) (h4 : ∀ t, t < l p → σ (48 + 2 * p) t = B p t) (h5 : vh p = 1) (h6 : ∀ t, t < l p → -32768 ≤ B p t ∧ B p t ≤ 32767) (k9 : ∀ j, σ 900 j = mC0 j) (E : envC σ L H n s) :
    (hvA (B p) (l p) i c n → ∃ μ, mcall (d + 2) 129 [(29, 0), (23, ((47 + 2 * p : Nat) : Int)), (0, i), (0, (c : Int))] σ = some (1, μ) ∧ envC μ L (addH H n (B p (i.toNat + 3 * c)) (B p (i.toNat + 3 * c + 1)) (B p (i.toNat + 3 * c + 2))) (n + 1) s ∧ ∀ a j, ¬ ((7 ≤ a ∧ a ≤ 9) ∨ (a = 1 ∧ j = 4)) → μ a j = σ a j) ∧
    (¬ hvA (B p) (l p) i c n → mcall (d + 2) 129 [(29, 0), (23, ((47 + 2 * p : Nat) : Int)), (0, i), (0, (c : Int))] σ = some (0, σ)) := by
  have w1 : Unit → w32 ((w32 ((l p : Int) - (w32 (3 * (c : Int))))) - 2) = (l p : Int) - 3 * (c : Int) - 2 := fun _ => by rw [w32_e (x := 3 * (c : Int)) (by omega), w32_e (x := (l p : Int) - 3 * (c : Int)) (by omega), w32_e (by omega)]
  have k3 : σ 900 3 = 29 := k9 3
  have k4 : σ 900 4 = 99 := k9 4
  have k5 : σ 900 5 = 4095 := k9 5
  have base : 0 ≤ i → i + 3 * (c : Int) + 3 ≤ (l p : Int) → mcall (d + 2) 129 [(29, 0), (23, ((47 + 2 * p : Nat) : Int)), (0, i), (0, (c : Int))] σ = bK (mcall (d + 1) 126 [(0, B p (i.toNat + 3 * c)), (0, 29)] σ) (fun r1 s2 => bEq r1 0 (bIn 0 2 (some (0, s2))) (bIn 4 8 (bK (mcall (d + 1) 126 [(0, B p (i.toNat + 3 * c + 1)), (0, s2 900 4)] s2) (fun r3 s4 => bEq r3 0 (bIn 0 2 (some (0, s4))) (bIn 5 8 (bK (mcall (d + 1) 126 [(0, B p (i.toNat + 3 * c + 2)), (0, s4 900 5)] s4) (fun r5 s6 => bEq r5 0 (bIn 0 2 (some (0, s6))) (bK (mcall (d + 1) 39 [(24, 1), (0, B p (i.toNat + 3 * c)), (0, B p (i.toNat + 3 * c + 1)), (0, B p (i.toNat + 3 * c + 2))] s6) (fun r7 s8 => bLt r7 0 (bIn 0 2 (some (0, s8))) (bIn 1 2 (some (1, s8)))))))))))) := by
    intro hi hl
    obtain ⟨i', hi'⟩ : ∃ t : Nat, i = (t : Int) := ⟨i.toNat, by omega⟩
    subst hi'
    have u0 : Unit → w32 ((i' : Int) + (w32 (3 * (c : Int)))) = ((i' + 3 * c : Nat) : Int) := fun _ => by rw [w32_e (x := 3 * (c : Int)) (by omega), w32_e (by omega)]; omega
    have u1 : Unit → w32 (((i' + 3 * c : Nat) : Int) + 1) = ((i' + 3 * c + 1 : Nat) : Int) := fun _ => w32_n (by omega)
    have u2 : Unit → w32 (((i' + 3 * c : Nat) : Int) + 2) = ((i' + 3 * c + 2 : Nat) : Int) := fun _ => by rw [w32_e (by omega)]; omega
    have y0 := h6 (i' + 3 * c) (by omega)
    have y1 := h6 (i' + 3 * c + 1) (by omega)
    have y2 := h6 (i' + 3 * c + 2) (by omega)
    rw [e_129, bLt_f (by omega), h2, w1 (), bLt_t (by omega), h1, bEq_t h5, u0 (), u1 (), u2 (), bIn_t (by omega), bIn_t (by omega), bIn_t (by omega), bIn_t (by omega), show 47 + 2 * p + 1 = 48 + 2 * p by omega]
    simp only [tn_n]
    rw [h4 _ (by omega), h4 _ (by omega), h4 _ (by omega), w32_e (x := B p (i' + 3 * c)) (by omega), w32_e (x := B p (i' + 3 * c + 1)) (by omega), w32_e (x := B p (i' + 3 * c + 2)) (by omega), k3]
  constructor
  · rintro ⟨g1, g2, g3, g4, g5, g6⟩
    obtain ⟨μ, m1, m2, m3⟩ := s_39e (d := d) (y := B p (i.toNat + 3 * c + 1)) (z := B p (i.toNat + 3 * c + 2)) E g3 (by omega : 0 ≤ B p (i.toNat + 3 * c) ∧ B p (i.toNat + 3 * c) < 30)
    refine ⟨μ, ?_, m2, m3⟩
    rw [base g1 g2, s_126, bK_t, if_pos g4, bEq_f (by omega), bIn_t (by omega), k4, s_126, bK_t, if_pos g5, bEq_f (by omega), bIn_t (by omega), k5, s_126, bK_t, if_pos g6, bEq_f (by omega), m1, bK_t, bLt_f (by omega), bIn_t (by omega)]
  · intro hn
    by_cases g1 : 0 ≤ i
    · by_cases g2 : i + 3 * (c : Int) + 3 ≤ (l p : Int)
      · rw [base g1 g2, s_126, bK_t]
        by_cases g4 : 0 ≤ B p (i.toNat + 3 * c) ∧ B p (i.toNat + 3 * c) ≤ 29
        · rw [if_pos g4, bEq_f (by omega), bIn_t (by omega), k4, s_126, bK_t]
          by_cases g5 : 0 ≤ B p (i.toNat + 3 * c + 1) ∧ B p (i.toNat + 3 * c + 1) ≤ 99
          · rw [if_pos g5, bEq_f (by omega), bIn_t (by omega), k5, s_126, bK_t]
            by_cases g6 : 0 ≤ B p (i.toNat + 3 * c + 2) ∧ B p (i.toNat + 3 * c + 2) ≤ 4095
            · have g3 : ¬ n < 8 := fun q => hn ⟨g1, g2, q, g4, g5, g6⟩
              rw [if_pos g6, bEq_f (by omega), s_39f E.2.1 g3, bK_t, bLt_t (by omega), bIn_t (by omega)]
            · rw [if_neg g6, bEq_t (by rfl), bIn_t (by omega)]
          · rw [if_neg g5, bEq_t (by rfl), bIn_t (by omega)]
        · rw [if_neg g4, bEq_t (by rfl), bIn_t (by omega)]
      · rw [e_129, bLt_f (by omega), h2, w1 (), bLt_f (by omega), bIn_t (by omega)]
    · rw [e_129, bLt_t (by omega), bIn_t (by omega)]
theorem s_89l {p M : Nat} {i : Int} {mx : Int × Int} (hp : p < 6) (hM : M ≤ 8) (h5 : vh p = 1) (h3 : l p ≤ 60) (h6 : ∀ t, t < l p → -32768 ≤ B p t ∧ B p t ≤ 32767) : ∀ (r c n : Nat) (H : Nat → Nat → Int) (σ : mM), c + r = M → σ (47 + 2 * p) 1 = vh p → σ (47 + 2 * p) 2 = (l p : Int) → (∀ t, t < l p → σ (48 + 2 * p) t = B p t) → (∀ j, σ 900 j = mC0 j) → envC σ L H n s → ∃ μ, mgo (mcall (d + 2)) mx 89 53 [(29, 0), (0, (p : Int)), (0, i), (0, (M : Int)), (23, ((47 + 2 * p : Nat) : Int)), (0, (c : Int))] [] σ = some ((hsC (B p) (l p) i r c n : Int), μ) ∧ envC μ L (hsH (B p) (l p) i r c n H) (hsN (B p) (l p) i r c n) s ∧ ∀ a j, ¬ ((7 ≤ a ∧ a ≤ 9) ∨ (a = 1 ∧ j = 4)) → μ a j = σ a j := by
  intro r
  induction r with
  | zero =>
    intro c n H σ hc a1 a2 a4 k9 E
    refine ⟨σ, ?_, E, fun _ _ _ => rfl⟩
    rw [b_89_53, bLt_f (by omega)]
    rfl
  | succ r ih =>
    intro c n H σ hc a1 a2 a4 k9 E
    obtain ⟨y, z⟩ := s_129 (d := d) (i := i) (c := c) hp (by omega) a1 a2 h3 a4 h5 h6 k9 E
    unfold hsC hsH hsN
    by_cases hv : hvA (B p) (l p) i c n
    · obtain ⟨μ, m1, m2, m3⟩ := y hv
      rw [if_pos hv, if_pos hv, if_pos hv]
      obtain ⟨ν, n1, n2, n3⟩ := ih (c + 1) (n + 1) _ μ (by omega) ((m3 _ _ (by omega)).trans a1) ((m3 _ _ (by omega)).trans a2) (fun t ht => (m3 _ _ (by omega)).trans (a4 t ht)) (fun j => (m3 _ _ (by omega)).trans (k9 j)) m2
      refine ⟨ν, ?_, n2, fun a j h => (n3 a j h).trans (m3 a j h)⟩
      rw [b_89_53, bLt_t (by omega), m1, bK_t, bEq_f (by omega), w32_n (by omega)]
      exact n1
    · rw [if_neg hv, if_neg hv, if_neg hv]
      refine ⟨σ, ?_, E, fun _ _ _ => rfl⟩
      rw [b_89_53, bLt_t (by omega), z hv, bK_t, bEq_t (by rfl)]
theorem g_140 {K : mK} {mx : Int × Int} {v1 v2 v3 v4 v5 : Int} {u6 u8 : mV} (hu : (u6 = (2, 0) ∧ u8 = (2, 0)) ∨ ∃ x y, u6 = (1, x) ∧ u8 = (0, y)) : mgo K mx 140 50 [(30, 64), (0, v1), (0, v2), (0, v3), (0, v4), (0, v5), u6, (2, 0), u8] [] σ =
  bLt v5 v3 (bLt (if (w64 (v2 + (w64 (3 * v5)))) < 0 then -1 else if (w64 (v2 + (w64 (3 * v5)))) = 0 then 0 else 1) 0 (some (v4, σ)) (bIn v1 6 (bLt 0 (if (w64 ((w64 (v2 + (w64 (3 * v5)))) + 3)) < (σ 88 v1.toNat) then -1 else if (w64 ((w64 (v2 + (w64 (3 * v5)))) + 3)) = (σ 88 v1.toNat) then 0 else 1) (some (v4, σ)) (bEq (σ 64 3) 8 (some (v4, σ)) (bK (K 141 [(30, 64), (0, v1), (0, w32 (w64 (v2 + (w64 (3 * v5)))))] σ) (fun r1 s2 => bK (K 134 [(0, r1)] s2) (fun r3 s4 => bEq r3 0 (some (v4, s4)) (bK (K 141 [(30, 64), (0, v1), (0, w32 ((w32 (w64 (v2 + (w64 (3 * v5))))) + 1))] s4) (fun r5 s6 => bK (K 133 [(0, r5), (0, 0), (0, 99)] s6) (fun r7 s8 => bEq r7 0 (some (v4, s8)) (bK (K 141 [(30, 64), (0, v1), (0, w32 ((w32 (w64 (v2 + (w64 (3 * v5))))) + 2))] s8) (fun r9 s10 => bK (K 133 [(0, r9), (0, 0), (0, 4095)] s10) (fun r11 s12 => bEq r11 0 (some (v4, s12)) (bK (K 141 [(30, 64), (0, v1), (0, w32 (w64 (v2 + (w64 (3 * v5)))))] s12) (fun r13 s14 => bK (K 141 [(30, 64), (0, v1), (0, w32 ((w32 (w64 (v2 + (w64 (3 * v5))))) + 1))] s14) (fun r15 s16 => bK (K 141 [(30, 64), (0, v1), (0, w32 ((w32 (w64 (v2 + (w64 (3 * v5))))) + 2))] s16) (fun r17 s18 => bK (K 138 [(30, 64), (0, r13), (0, r15), (0, r17)] s18) (fun r19 s20 => mgo K mx 140 50 [(30, 64), (0, v1), (0, v2), (0, v3), (0, w32 (v4 + 1)), (0, w32 (v5 + 1)), (1, w64 (v2 + (w64 (3 * v5)))), (2, 0), (0, w32 (w64 (v2 + (w64 (3 * v5)))))] [] s20)))))))))))))))))) (some (v4, σ)) := by
  rcases hu with ⟨rfl, rfl⟩ | ⟨x, y, rfl, rfl⟩
  · rw [f_140_50a]; simp only [f_140_101a, f_140_159]
  · rw [f_140_50]; simp only [f_140_101, f_140_159]
theorem s_140l {p M : Nat} {i : Int} {mx : Int × Int} (hp : p < 6) (hM : M ≤ 8) (hi : -2147483648 ≤ i ∧ i < 2147483648) (h3 : l p ≤ 60) (h6 : ∀ t, t < l p → -32768 ≤ B p t ∧ B p t ≤ 32767) : ∀ (r c n : Nat) (H : Nat → Nat → Int) (u6 u8 : mV) (σ : mM), c + r = M → (0 ≤ i ∨ c = 0) → ((u6 = (2, 0) ∧ u8 = (2, 0)) ∨ ∃ x y, u6 = (1, x) ∧ u8 = (0, y)) → σ 88 p = (l p : Int) → (∀ t, t < l p → σ 89 (60 * p + t) = B p t) → envM σ L H n s → ∃ μ, mgo (mcall (d + 2)) mx 140 50 [(30, 64), (0, (p : Int)), (0, i), (0, (M : Int)), (0, (c : Int)), (0, (c : Int)), u6, (2, 0), u8] [] σ = some ((hsC (B p) (l p) i r c n : Int), μ) ∧ envM μ L (hsH (B p) (l p) i r c n H) (hsN (B p) (l p) i r c n) s ∧ ∀ a j, ¬ (a = 68 ∨ (a = 64 ∧ j = 3)) → μ a j = σ a j := by
  intro r
  induction r with
  | zero =>
    intro c n H u6 u8 σ hc hic hu a1 a2 E
    refine ⟨σ, ?_, E, fun _ _ _ => rfl⟩
    rw [g_140 hu, bLt_f (by omega)]
    rfl
  | succ r ih =>
    intro c n H u6 u8 σ hc hic hu a1 a2 E
    have hn8 := E.2.2.2.1
    have z1 : Unit → w64 (i + (w64 (3 * (c : Int)))) = i + 3 * (c : Int) := fun _ => by rw [w64_e (x := 3 * (c : Int)) (by omega), w64_e (by omega)]
    have stop : ¬ hvA (B p) (l p) i c n → mgo (mcall (d + 2)) mx 140 50 [(30, 64), (0, (p : Int)), (0, i), (0, (M : Int)), (0, (c : Int)), (0, (c : Int)), u6, (2, 0), u8] [] σ = some ((c : Int), σ) → ∃ μ, mgo (mcall (d + 2)) mx 140 50 [(30, 64), (0, (p : Int)), (0, i), (0, (M : Int)), (0, (c : Int)), (0, (c : Int)), u6, (2, 0), u8] [] σ = some ((hsC (B p) (l p) i (r + 1) c n : Int), μ) ∧ envM μ L (hsH (B p) (l p) i (r + 1) c n H) (hsN (B p) (l p) i (r + 1) c n) s ∧ ∀ a j, ¬ (a = 68 ∨ (a = 64 ∧ j = 3)) → μ a j = σ a j := by
      intro hn hz
      unfold hsC hsH hsN
      rw [if_neg hn, if_neg hn, if_neg hn]
      exact ⟨σ, hz, E, fun _ _ _ => rfl⟩
    have hg := g_140 (K := mcall (d + 2)) (mx := mx) (v1 := (p : Int)) (v2 := i) (v3 := (M : Int)) (v4 := (c : Int)) (v5 := (c : Int)) (σ := σ) hu
    rw [bLt_t (by omega), z1 ()] at hg
    by_cases g1 : i + 3 * (c : Int) < 0
    · rw [bLt_t (x := if i + 3 * (c : Int) < 0 then -1 else _) (by rw [if_pos g1]; omega)] at hg
      exact stop (fun q => by have := q.1; omega) hg
    · rw [bLt_f (x := if i + 3 * (c : Int) < 0 then -1 else _) (by rw [if_neg g1]; split <;> omega), bIn_t (by omega), tn_n, a1, w64_e (x := i + 3 * (c : Int) + 3) (by omega)] at hg
      by_cases g2 : (l p : Int) < i + 3 * (c : Int) + 3
      · rw [bLt_t (cmp_g g2)] at hg
        exact stop (fun q => by have := q.2.1; omega) hg
      · rw [bLt_f (x := 0) (cmp_n g2), E.2.2.1] at hg
        by_cases g3 : n < 8
        · rw [bEq_f (by omega)] at hg
          by_cases gi : 0 ≤ i
          · obtain ⟨i', hi'⟩ : ∃ t : Nat, i = (t : Int) := ⟨i.toNat, by omega⟩
            subst hi'
            have u0 : Unit → w32 ((i' : Int) + 3 * (c : Int)) = ((i' + 3 * c : Nat) : Int) := fun _ => by rw [w32_e (by omega)]; omega
            have u1 : Unit → w32 (((i' + 3 * c : Nat) : Int) + 1) = ((i' + 3 * c + 1 : Nat) : Int) := fun _ => w32_n (by omega)
            have u2 : Unit → w32 (((i' + 3 * c : Nat) : Int) + 2) = ((i' + 3 * c + 2 : Nat) : Int) := fun _ => by rw [w32_e (by omega)]; omega
            have y : ∀ t, t < l p → mcall (d + 2) 141 [(30, 64), (0, (p : Int)), (0, (t : Int))] σ = some (B p t, σ) := fun t ht => s_141 (d := d + 1) (B := B) hp (by omega) (a2 t ht) (by have := h6 t ht; omega)
            rw [u0 (), u1 (), u2 (), y _ (by omega), bK_t, s_134, bK_t] at hg
            have hv0 : hvA (B p) (l p) (i' : Int) c n ↔ (0 ≤ B p (i' + 3 * c) ∧ B p (i' + 3 * c) ≤ 29) ∧ (0 ≤ B p (i' + 3 * c + 1) ∧ B p (i' + 3 * c + 1) ≤ 99) ∧ (0 ≤ B p (i' + 3 * c + 2) ∧ B p (i' + 3 * c + 2) ≤ 4095) := by
              unfold hvA
              rw [tn_n]
              exact ⟨fun q => q.2.2.2, fun q => ⟨by omega, by omega, g3, q⟩⟩
            by_cases g4 : 0 ≤ B p (i' + 3 * c) ∧ B p (i' + 3 * c) < 30
            · rw [if_pos g4, bEq_f (by omega), y _ (by omega), bK_t, s_133, bK_t] at hg
              by_cases g5 : 0 ≤ B p (i' + 3 * c + 1) ∧ B p (i' + 3 * c + 1) ≤ 99
              · rw [if_pos g5, bEq_f (by omega), y _ (by omega), bK_t, s_133, bK_t] at hg
                by_cases g6 : 0 ≤ B p (i' + 3 * c + 2) ∧ B p (i' + 3 * c + 2) ≤ 4095
                · obtain ⟨μ, m1, m2, m3⟩ := s_138e (d := d + 1) (y := B p (i' + 3 * c + 1)) (z := B p (i' + 3 * c + 2)) E g3 g4
                  obtain ⟨ν, n1, n2, n3⟩ := ih (c + 1) (n + 1) _ (1, (i' : Int) + 3 * (c : Int)) (0, ((i' + 3 * c : Nat) : Int)) μ (by omega) (Or.inl gi) (Or.inr ⟨_, _, rfl, rfl⟩) ((m3 _ _ (by omega)).trans a1) (fun t ht => (m3 _ _ (by omega)).trans (a2 t ht)) m2
                  rw [if_pos g6, bEq_f (by omega), y _ (by omega), bK_t, y _ (by omega), bK_t, y _ (by omega), bK_t, m1, bK_t, w32_n (by omega)] at hg
                  have hv := hv0.mpr ⟨by omega, g5, g6⟩
                  unfold hsC hsH hsN
                  rw [if_pos hv, if_pos hv, if_pos hv, tn_n]
                  exact ⟨ν, hg.trans n1, n2, fun a j h => (n3 a j h).trans (m3 a j h)⟩
                · rw [if_neg g6, bEq_t (by rfl)] at hg
                  exact stop (fun q => g6 (hv0.mp q).2.2) hg
              · rw [if_neg g5, bEq_t (by rfl)] at hg
                exact stop (fun q => g5 (hv0.mp q).2.1) hg
            · rw [if_neg g4, bEq_t (by rfl)] at hg
              exact stop (fun q => g4 (by have := (hv0.mp q).1; omega)) hg
          · exfalso; omega
        · rw [bEq_t (by omega)] at hg
          exact stop (fun q => g3 q.2.2.1) hg
end
