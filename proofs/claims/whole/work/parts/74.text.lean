/-! PURE PART 51: reading, in the class: expressions -/
section
variable {d n a w : Nat} {T : Nat → Int} {σ τ : mM} {K : mK} {mx : Int × Int}
def rs (w : Nat) (x : Bool × Nat × List Int) (σ : mM) : mA := some (if x.1 = true then 1 else 0, st w x.2.2 x.2.1 σ)
theorem st_w {l : List Int} {b : Nat} (hw : w = 10 ∨ w = 17) : st w l b σ w 2 = σ w 2 + (l.length : Int) := by
  unfold st
  rw [ms_n (by omega), em_c]
theorem s_23s {l : List Int} {b : Nat} {x : Int} (hw : w = 10 ∨ w = 17) (h0 : 0 ≤ σ w 2) (h1 : σ w 2 + (l.length : Int) < 120) : mcall (d + 1) 23 [(22, (w : Int)), (0, sgC x), (0, nuC x)] (st w l b σ) = some (0, st w (l ++ [x]) b σ) := by
  rw [s_23 hw (by rw [st_w hw]; omega) (by rw [st_w hw]; omega)]
  unfold st
  rw [em1_t (by omega), ← em_a]
  rfl
theorem lp58 {D r o most : Nat} {g : Nat → Bool × Nat × List Int} (hr : r < 5) (hm : most ≤ 120) (ih : ∀ a τ, rd T n w a τ → mcall (D + 1) 58 [(26, 24), (0, ((r + 1 : Nat) : Int)), (0, (o : Int))] τ = rs w (g a) τ) (hg : ∀ a, a ≤ n → gd n a (g a)) {a0 : Nat} (R0 : rd T n w a0 σ) : ∀ (k j a' : Nat) (l : List Int) (u : mV), uvl u → a0 < a' → a' ≤ n → l.length + a0 ≤ a' → j + k = most → mgo (mcall (D + 1)) mx 58 41 [(26, 24), (0, (r : Int)), (0, (o : Int)), (0, (most : Int)), (0, (j : Int)), u] [] (st w l a' σ) = rs w (lp T n g r k a' l) σ := by
  intro k
  have n120 := R0.1
  have hw := R0.2.2.1
  have c0 := R0.2.2.2.2.2.2.2.1
  have c1 := R0.2.2.2.2.2.2.2.2
  have gu : ∀ (j : Int) (u : mV) (τ : mM), uvl u → mgo (mcall (D + 1)) mx 58 41 [(26, 24), (0, (r : Int)), (0, (o : Int)), (0, (most : Int)), (0, j), u] [] τ = bLt j (most : Int) (bK (mcall (D + 1) 63 [(26, 24)] τ) (fun r1 s2 => bK (mcall (D + 1) 65 [(0, r1)] s2) (fun r3 s4 => bEq r3 (r : Int) (bK (mcall (D + 1) 63 [(26, 24)] s4) (fun r5 s6 => bK (mcall (D + 1) 58 [(26, 24), (0, w32 ((r : Int) + 1)), (0, (o : Int))] (mset s6 24 2 (w32 ((s6 24 2) + 1)))) (fun r7 s8 => bEq r7 0 (bIn 0 2 (some (0, s8))) (bLt (s8 24 3) 0 none (bK (mcall (D + 1) 23 [(22, s8 24 3), (0, r5), (0, 0)] s8) (fun _ s10 => mgo (mcall (D + 1)) mx 58 41 [(26, 24), (0, (r : Int)), (0, (o : Int)), (0, (most : Int)), (0, w32 (j + 1)), (0, r5)] [] s10)))))) (bIn 1 2 (some (1, s4)))))) (bIn 1 2 (some (1, τ))) := by
    intro j u τ hu
    rcases hu with rfl | ⟨x, rfl⟩
    · exact b_58_41a ..
    · exact b_58_41 ..
  induction k with
  | zero =>
    intro j a' l u hu h1 h2 h3 hj
    rw [gu _ _ _ hu, bLt_f (by omega), bIn_t (by omega)]
    rfl
  | succ k ihk =>
    intro j a' l u hu h1 h2 h3 hj
    have R1 := rd_st (b := a') (l := l) R0 h2 h3
    rw [gu _ _ _ hu, bLt_t (by omega), s_63 R1, bK_t, s_65, bK_t]
    unfold lp
    by_cases h : rkO (nx T n a') = r
    · have hn : a' < n := nx_lt (T := T) (fun e => by rw [e] at h; have : rkO (-1) = 9 := rfl; omega)
      obtain ⟨o1, o2⟩ := sg_op (c := nx T n a') (by omega)
      have R2 := rd_st (b := a' + 1) (l := l) R0 (by omega) (by omega)
      have G := hg (a' + 1) (by omega)
      rw [if_pos (by omega), if_pos h, bEq_t (by omega), s_63 R1, bK_t, R1.2.2.2.2.1, w32_n (by omega), w32_n (by omega), st_m, ih (a' + 1) _ R2]
      rcases hx : g (a' + 1) with ⟨ok, b, m⟩
      rw [hx] at G
      obtain ⟨g1, g2, g3, g4⟩ := G
      simp only at g1 g2 g3
      unfold rs
      simp only
      rw [bK_t, st_st (by omega)]
      cases ok with
      | false =>
        rw [if_neg (by decide), bEq_t rfl, bIn_t (by omega)]
      | true =>
        have R3 := rd_st (b := b) (l := l ++ m) R0 g2 (by rw [List.length_append]; omega)
        have s := s_23s (d := D) (l := l ++ m) (b := b) (x := opO (nx T n a')) hw c0 (by rw [List.length_append]; omega)
        rw [o1, o2] at s
        rw [if_pos rfl, bEq_f (by omega), R3.2.2.2.2.2.1, bLt_f (by omega), s, bK_t, w32_n (by omega), List.append_assoc]
        exact ihk (j + 1) b (l ++ (m ++ [opO (nx T n a')])) _ (Or.inr ⟨_, rfl⟩) (by omega) g2 (by rw [List.length_append, List.length_append, List.length_singleton]; omega) (by omega)
    · rw [if_neg h]
      by_cases h5 : rkO (nx T n a') < 5
      · rw [if_pos h5, bEq_f (by omega), bIn_t (by omega)]; rfl
      · rw [if_neg h5, bEq_f (by omega), bIn_t (by omega)]; rfl
theorem l_62 (R0 : rd T n w a σ) (ha : a < n) : ∀ (k j b : Nat) (v : Int), j + k = 4 → a ≤ b → b ≤ n → 0 ≤ v → v < 10 ^ j → mgo (mcall (d + 1)) mx 62 4 [(26, 24), (0, v), (0, (j : Int))] [] (st w [] b σ) = some (0, st w [18 + (nuP T n k b v).2] (nuP T n k b v).1 σ) := by
  intro k
  have n120 := R0.1
  have hw := R0.2.2.1
  have c0 := R0.2.2.2.2.2.2.2.1
  have c1 := R0.2.2.2.2.2.2.2.2
  have fin : ∀ (b : Nat) (v : Int), 0 ≤ v → mcall (d + 1) 23 [(22, (w : Int)), (0, 48), (0, v)] (st w [] b σ) = some (0, st w [18 + v] b σ) := fun b v hv => by
    have s := s_23s (d := d) (σ := σ) (l := []) (b := b) (x := 18 + v) hw c0 (by show σ w 2 + ((0 : Nat) : Int) < 120; omega)
    have e1 : sgC (18 + v) = 48 := by unfold sgC; rw [if_pos (by omega)]
    have e2 : nuC (18 + v) = v := by unfold nuC; rw [if_pos (by omega)]; omega
    rw [e1, e2] at s
    exact s
  induction k with
  | zero =>
    intro j b v hj h1 h2 h3 h4
    have R := rd_st (b := b) (l := []) R0 h2 (by show 0 + a ≤ b; omega)
    rw [b_62_4, bLt_f (by omega), R.2.2.2.2.2.1, bLt_f (by omega), fin b v h3, bK_t]
    rfl
  | succ k ih =>
    intro j b v hj h1 h2 h3 h4
    have R := rd_st (b := b) (l := []) R0 h2 (by show 0 + a ≤ b; omega)
    rw [b_62_4, bLt_t (by omega), s_63 R, bK_t, s_64, bK_t]
    unfold nuP
    by_cases hd : 48 ≤ nx T n b ∧ nx T n b ≤ 57
    · have hb : b < n := nx_lt (T := T) (by omega)
      have v9 : v ≤ 999 := by
        have e3 : (10 : Int) ^ 3 = 1000 := rfl
        have e2 : (10 : Int) ^ 2 = 100 := rfl
        have e1 : (10 : Int) ^ 1 = 10 := rfl
        have e0 : (10 : Int) ^ 0 = 1 := rfl
        rcases (by omega : j = 0 ∨ j = 1 ∨ j = 2 ∨ j = 3) with rfl | rfl | rfl | rfl
        · rw [e0] at h4; omega
        · rw [e1] at h4; omega
        · rw [e2] at h4; omega
        · rw [e3] at h4; omega
      rw [if_pos hd, if_pos hd, bEq_f (by omega), s_63 R, bK_t, R.2.2.2.2.1, w32_n (by omega), w32_n (by omega), st_m, w32_e (x := v * 10) (by omega), w32_e (x := v * 10 + nx T n b) (by omega), w32_e (x := v * 10 + nx T n b - 48) (by omega)]
      refine ih (j + 1) (b + 1) _ (by omega) (by omega) (by omega) (by omega) ?_
      rw [Int.pow_succ]
      generalize (10 : Int) ^ j = P at h4
      omega
    · rw [if_neg hd, if_neg hd, bEq_t rfl, R.2.2.2.2.2.1, bLt_f (by omega), fin b v h3, bK_t]
theorem s_62 (R0 : rd T n w a σ) (ha : a < n) : mcall (d + 2) 62 [(26, 24)] σ = some (0, st w [18 + (nuP T n 4 a 0).2] (nuP T n 4 a 0).1 σ) := by
  have l := l_62 (d := d) (mx := mX 62 σ) R0 ha 4 0 a 0 (by omega) (Nat.le_refl _) (by omega) (by omega) (by decide)
  rw [st_0 R0.2.2.2.2.1] at l
  rw [e_62]
  exact l
/-- an operand, given what stands in brackets -/
theorem c59 {f o D : Nat} (ho : o ≤ 6) (R : rd T n w a σ) (h60 : o < 6 → ∀ a τ, rd T n w a τ → mcall (D + 2) 58 [(26, 24), (0, 0), (0, ((o + 1 : Nat) : Int))] τ = rs w (pr T n f 0 (o + 1) a) τ) (h61 : o < 6 → ∀ a τ, rd T n w a τ → mcall (D + 2) 59 [(26, 24), (0, ((o + 1 : Nat) : Int))] τ = rs w (pr T n f 5 (o + 1) a) τ) : mcall (D + 4) 59 [(26, 24), (0, (o : Int))] σ = rs w (pr T n (f + 1) 5 o a) σ := by
  have n120 := R.1
  have ra := R.2.1
  have hw := R.2.2.1
  have c0 := R.2.2.2.2.2.2.2.1
  have c1 := R.2.2.2.2.2.2.2.2
  have e24 := R.2.2.2.2.1
  rw [e_59, s_63 R, bK_t, s_64, bK_t]
  unfold pr
  rw [if_neg (show ¬ 5 < 5 by omega)]
  by_cases hd : 48 ≤ nx T n a ∧ nx T n a ≤ 57
  · have ha : a < n := nx_lt (T := T) (by omega)
    rw [if_pos hd, if_pos hd, bEq_f (by omega), s_62 R ha, bK_t, bIn_t (by omega)]
    rfl
  rw [if_neg hd, if_neg hd, bEq_t rfl, s_28, bK_t]
  by_cases hm : 0 ≤ nmO (nx T n a)
  · have ha : a < n := nx_lt (T := T) (fun e => by rw [e] at hm; exact absurd hm (by decide))
    have b := nmO_b (c := nx T n a)
    have s := s_23s (d := D + 2) (σ := σ) (l := []) (b := a + 1) (x := nmO (nx T n a)) hw c0 (by show σ w 2 + ((0 : Nat) : Int) < 120; omega)
    have e1 : sgC (nmO (nx T n a)) = 97 := by unfold sgC; rw [if_neg (by omega), if_pos (by omega)]
    have e2 : nuC (nmO (nx T n a)) = nmO (nx T n a) := by unfold nuC; rw [if_neg (by omega), if_pos (by omega)]
    rw [e1, e2] at s
    have sm : mset σ 24 2 ((a + 1 : Nat) : Int) = st w [] (a + 1) σ := rfl
    rw [bLt_f (by omega), if_pos hm, e24, w32_n (by omega), sm, (show st w [] (a + 1) σ 24 3 = (w : Int) from (ms_n (by omega)).trans R.2.2.2.2.2.1), bLt_f (by omega), s_28, bK_t, s, bK_t, bIn_t (by omega)]
    rfl
  rw [bLt_t (by omega), if_neg hm]
  have sm : mset σ 24 2 ((a + 1 : Nat) : Int) = st w [] (a + 1) σ := rfl
  have ah : ∀ (c : Int), nx T n a = c → c ≠ -1 → o < 6 → (c = 33 ∨ c = 45) → bK (mcall (D + 3) 61 [(26, 24), (0, c), (0, w32 ((o : Int) + 1))] (mset σ 24 2 (w32 (σ 24 2 + 1)))) (fun r7 s8 => bIn r7 2 (some (r7, s8))) = rs w (match pr T n f 5 (o + 1) (a + 1) with
      | (false, b, l) => (false, b, l)
      | (true, b, l) => (true, b, l ++ [if c = 33 then 16 else 17])) σ := by
    intro c hc hc1 h6 hcc
    have ha : a < n := nx_lt (T := T) (by omega)
    have R1 := rd_st (b := a + 1) (l := []) R (by omega) (by show 0 + a ≤ a + 1; omega)
    have G := pr_g (T := T) f 5 (o + 1) (a + 1) ha
    rw [e24, w32_n (by omega), w32_n (by omega), sm, e_61, h61 h6 (a + 1) _ R1]
    rcases hx : pr T n f 5 (o + 1) (a + 1) with ⟨ok, b, l⟩
    rw [hx] at G
    obtain ⟨g1, g2, g3, g4⟩ := G
    simp only at g1 g2 g3
    unfold rs
    simp only
    rw [bK_t, st_st (by omega), List.nil_append]
    cases ok with
    | false => rw [if_neg (by decide), bEq_t rfl, bIn_t (by omega), bK_t, bIn_t (by omega)]
    | true =>
      have R3 := rd_st (b := b) (l := l) R g2 (by omega)
      have s := fun x => s_23s (d := D + 1) (σ := σ) (l := l) (b := b) (x := x) hw c0 (by omega)
      rw [if_pos rfl, bEq_f (by omega), R3.2.2.2.2.2.1, bLt_f (by omega)]
      rcases hcc with rfl | rfl
      · have s16 := s 16
        rw [show sgC 16 = 33 from rfl, show nuC 16 = 0 from rfl] at s16
        rw [bEq_f (by omega), s16, bK_t, bIn_t (by omega), bK_t, bIn_t (by omega)]; rfl
      · have s17 := s 17
        rw [show sgC 17 = 126 from rfl, show nuC 17 = 0 from rfl] at s17
        rw [bEq_t rfl, s17, bK_t, bIn_t (by omega), bK_t, bIn_t (by omega)]; rfl
  by_cases h1 : nx T n a = 33
  · rw [bEq_t h1, h1]
    by_cases h6 : o < 6
    · rw [bLt_t (by omega), bEq_f (by omega), if_pos ⟨Or.inl rfl, h6⟩]
      exact ah 33 h1 (by omega) h6 (Or.inl rfl)
    · rw [bLt_f (by omega), bIn_t (by omega), if_neg (fun z => h6 z.2), if_neg (fun z => h6 z.2)]
      unfold rs; rw [st_0 e24]; rfl
  rw [bEq_f h1]
  by_cases h2 : nx T n a = 45
  · rw [bEq_t h2, h2]
    by_cases h6 : o < 6
    · rw [bLt_t (by omega), bEq_f (by omega), if_pos ⟨Or.inr rfl, h6⟩]
      exact ah 45 h2 (by omega) h6 (Or.inr rfl)
    · rw [bLt_f (by omega), bIn_t (by omega), if_neg (fun z => h6 z.2), if_neg (fun z => h6 z.2)]
      unfold rs; rw [st_0 e24]; rfl
  rw [bEq_f h2, if_neg (fun z => by rcases z.1 with z | z; exact h1 z; exact h2 z)]
  by_cases h3 : nx T n a = 40
  · rw [bEq_t h3, h3]
    by_cases h6 : o < 6
    · have ha : a < n := nx_lt (T := T) (by omega)
      have R1 := rd_st (b := a + 1) (l := []) R (by omega) (by show 0 + a ≤ a + 1; omega)
      have G := pr_g (T := T) f 0 (o + 1) (a + 1) ha
      rw [bLt_t (by omega), bEq_t rfl, if_pos ⟨rfl, h6⟩, e24, w32_n (by omega), w32_n (by omega), sm, e_60, h60 h6 (a + 1) _ R1]
      rcases hx : pr T n f 0 (o + 1) (a + 1) with ⟨ok, b, l⟩
      rw [hx] at G
      obtain ⟨g1, g2, g3, g4⟩ := G
      simp only at g1 g2 g3
      unfold rs
      simp only
      rw [bK_t, st_st (by omega), List.nil_append]
      cases ok with
      | false => rw [if_neg (by decide), bEq_t rfl, bIn_t (by omega), bK_t, bIn_t (by omega)]
      | true =>
        have R3 := rd_st (b := b) (l := l) R g2 (by omega)
        rw [if_pos rfl, bEq_f (by omega), s_63 R3, bK_t]
        by_cases h4 : nx T n b = 41
        · rw [bEq_t h4, bIn_t (by omega), bK_t, bIn_t (by omega), R3.2.2.2.2.1, w32_n (by omega), st_m]
          simp only [if_pos h4]
          rfl
        · rw [bEq_f h4, bIn_t (by omega), bK_t, bIn_t (by omega)]
          simp only [if_neg h4]
          rfl
    · rw [bLt_f (by omega), bIn_t (by omega), if_neg (fun z => h6 z.2)]
      unfold rs; rw [st_0 e24]; rfl
  rw [bEq_f h3, bIn_t (by omega), if_neg (fun z => h3 z.1)]
  unfold rs; rw [st_0 e24]; rfl
end
