/-! PURE PART 46: the constructors of the class and of the model -/
section
variable {σ τ μ : mM} {c z0 z y s p q i z' y' : Nat} {S S' : List Nat} {t : Nat}
theorem Tn_p {a j p' : Nat} (h : a ≠ 46) : Tn p q a j = Tn p' q a j := by
  unfold Tn
  simp only [h, false_and, if_false]
theorem Tn_q {a j q' : Nat} (h : a ≠ 87) : Tn p q a j = Tn p q' a j := by
  unfold Tn
  simp only [h, false_and, if_false]
theorem pW {n : Nat} (h : pg i q 0 1 z y S σ τ) (g : pg i q z (z + 1) z' y' S' (mnew τ t n) μ) (gf : ∀ j, μ z j = Tn i q z j) (hz : z = 47 + 2 * i) (hi : i < 6) (hzz : z < z') (hz9 : z' < 900) : pg (i + 1) q 0 1 z' y' S σ (mset μ 46 i (z : Int)) := by
  obtain ⟨h0, h1, h2, h3, h4⟩ := h
  obtain ⟨g0, g1, g2, g3, g4⟩ := g
  refine ⟨by rw [ms_n (by omega)]; exact g0, by rw [ms_n (by omega)]; exact g1, fun a j k1 k2 k3 => ?_, fun a j k1 k2 => ?_, fun j => ?_⟩
  · rw [ms_n (by omega), g2 a j k1 (by omega) (by omega), nw_o h0 (by omega) k1]; exact h2 a j k1 k2 (by omega)
  · by_cases he : a = 46
    · subst he
      by_cases hj : j = i
      · subst hj
        rw [ms_e]
        unfold Tn
        rw [if_pos ⟨rfl, by omega⟩]
        omega
      · rw [ms_n (by omega), g2 46 j (by omega) (by omega) (by omega), nw_o h0 (by omega) (by omega), h3 46 j (by omega) (by omega)]
        unfold Tn
        by_cases hl : j < i
        · rw [if_pos ⟨rfl, hl⟩, if_pos ⟨rfl, by omega⟩]
        · rw [if_neg (fun z => hl z.2), if_neg (c := 46 = 46 ∧ j < i + 1) (fun z => by have := z.2; omega)]
    · rw [ms_n (by omega), Tn_p (p' := i) he]
      by_cases hz2 : a = z
      · rw [hz2]; exact gf j
      · by_cases hl : a < z
        · rw [g2 a j (by omega) hz2 (by omega), nw_o h0 hz2 (by omega)]; exact h3 a j k1 hl
        · exact g3 a j (by omega) k2
  · rw [ms_n (by omega), g2 0 j (by omega) (by omega) (by omega), nw_o h0 (by omega) (by omega), h4 j]
    by_cases hm : j ∈ S
    · rw [if_pos hm, if_pos hm]; exact Tn_p (by omega)
    · rw [if_neg hm, if_neg hm]
theorem pV (h : pg p i 64 65 z y S σ τ) (hi : i < 6) (hz : 87 < z) : pg p (i + 1) 64 65 z y S σ (mset τ 87 i (-1)) := by
  obtain ⟨h0, h1, h2, h3, h4⟩ := h
  refine ⟨by rw [ms_n (by omega)]; exact h0, by rw [ms_n (by omega)]; exact h1, fun a j k1 k2 k3 => ?_, fun a j k1 k2 => ?_, fun j => ?_⟩
  · rw [ms_n (by omega)]; exact h2 a j k1 k2 k3
  · by_cases he : a = 87
    · subst he
      by_cases hj : j = i
      · subst hj
        rw [ms_e]
        unfold Tn
        rw [if_neg (by omega), if_pos ⟨rfl, by omega⟩]
      · rw [ms_n (by omega), h3 87 j (by omega) (by omega)]
        unfold Tn
        rw [if_neg (by omega), if_neg (c := 87 = 46 ∧ j < p) (by omega)]
        by_cases hl : j < i
        · rw [if_pos ⟨rfl, hl⟩, if_pos ⟨rfl, by omega⟩]
        · rw [if_neg (fun z => hl z.2), if_neg (c := 87 = 87 ∧ j < i + 1) (fun z => by have := z.2; omega)]
    · rw [ms_n (by omega), Tn_q (q' := i) he]; exact h3 a j k1 k2
  · rw [ms_n (by omega), h4 j]
    by_cases hm : j ∈ S
    · rw [if_pos hm, if_pos hm]; exact Tn_q (by omega)
    · rw [if_neg hm, if_neg hm]
theorem Tn_46 {j : Nat} : mdef 9006 j = Tn 0 q 46 j := by
  unfold Tn
  rw [if_neg (by omega), if_neg (by omega), if_neg (by omega), if_neg (by omega), if_neg (by show ¬ (9006 = 23 ∧ j = 1); omega)]
  rfl
theorem Tn_87 {j : Nat} : mdef 1006 j = Tn p 0 87 j := by
  unfold Tn
  rw [if_neg (by omega), if_neg (by omega), if_neg (by omega), if_neg (by omega), if_neg (by show ¬ (1006 = 23 ∧ j = 1); omega)]
  rfl
theorem k_87_0 {q y d : Nat} {σ : mM} (h0 : σ 905 0 = ((1 : Nat) : Int)) (h1 : σ 905 1 = (y : Int)) (h : ∀ j, σ 0 j = mdef (mlay 0) j) : ∃ τ S, mcall (d + 3) 87 [(29, ((0 : Nat) : Int))] σ = some (0, τ) ∧ pg 6 q 0 1 64 (y + 2459) S σ τ ∧ ∀ j, τ 0 j = Tn 6 q 0 j := by
  have e := e_87 (d + 2) 0 σ
  rw [mX_t h0 h1, show mal 87 = 63 from rfl, show msl 87 = 2459 from rfl] at e
  have P0 : pg 0 q 0 1 1 (y + 0) [] σ σ := pg_0 (p := 0) (q := q) (c := 0) h0 h1 h
  rw [nO_t P0 (by rfl) (by show ((1 : Nat) : Int) + 1 ≤ ((64 : Nat) : Int); omega) (by show ((y + 0 : Nat) : Int) + 8 ≤ ((y + 2459 : Nat) : Int); omega)] at e
  have w0 : (mnew σ (20 + 4) 8) 905 0 = ((2 : Nat) : Int) := nw_0 P0.1 (by omega)
  have w1 : (mnew σ (20 + 4) 8) 905 1 = ((y + 8 : Nat) : Int) := nw_1 P0.1 P0.2.1 (by omega)
  obtain ⟨μ0, S0, c1, g0, f0⟩ := k_36_1 (p := 0) (q := q) (d := d + 0) (y := y + 8) (σ := mnew σ (20 + 4) 8) w0 w1 (fun j => nw_e P0.1)
  replace c1 : mcall (d + 2) 36 [(24, ((1 : Nat) : Int))] (mnew σ (20 + 4) 8) = some (0, μ0) := c1
  rw [c1, bK_t, nC_t (z := 2) (y := y + 8) w0 w1 g0.1 g0.2.1 (by show ((24 : Nat) : Int) ≤ ((64 : Nat) : Int); omega) (by show ((y + 1360 : Nat) : Int) ≤ ((y + 2459 : Nat) : Int); omega)] at e
  have P1 : pg 0 q 0 1 24 (y + 1360) [0] σ (mset μ0 0 0 ((1 : Nat) : Int)) := pO P0 g0 f0 (by omega) (by omega) (by omega) (by omega) rfl
  clear c1 w0 w1 g0 f0
  generalize mset μ0 0 0 ((1 : Nat) : Int) = τ1 at P1 e
  rw [nO_t P1 (by rfl) (by show ((24 : Nat) : Int) + 1 ≤ ((64 : Nat) : Int); omega) (by show ((y + 1360 : Nat) : Int) + 4 ≤ ((y + 2459 : Nat) : Int); omega)] at e
  have w0 : (mnew τ1 (20 + 6) 4) 905 0 = ((25 : Nat) : Int) := nw_0 P1.1 (by omega)
  have w1 : (mnew τ1 (20 + 6) 4) 905 1 = ((y + 1364 : Nat) : Int) := nw_1 P1.1 P1.2.1 (by omega)
  obtain ⟨μ1, S1, c1, g1, f1⟩ := k_54_24 (p := 0) (q := q) (d := d + 1) (y := y + 1364) (σ := mnew τ1 (20 + 6) 4) w0 w1 (fun j => nw_e P1.1)
  replace c1 : mcall (d + 2) 54 [(26, ((24 : Nat) : Int))] (mnew τ1 (20 + 6) 4) = some (0, μ1) := c1
  rw [c1, bK_t, nC_t (z := 25) (y := y + 1364) w0 w1 g1.1 g1.2.1 (by show ((26 : Nat) : Int) ≤ ((64 : Nat) : Int); omega) (by show ((y + 1484 : Nat) : Int) ≤ ((y + 2459 : Nat) : Int); omega)] at e
  have P2 : pg 0 q 0 1 26 (y + 1484) [1, 0] σ (mset μ1 0 1 ((24 : Nat) : Int)) := pO P1 g1 f1 (by omega) (by omega) (by omega) (by omega) rfl
  clear c1 w0 w1 g1 f1
  generalize mset μ1 0 1 ((24 : Nat) : Int) = τ2 at P2 e
  rw [nO_t P2 (by rfl) (by show ((26 : Nat) : Int) + 1 ≤ ((64 : Nat) : Int); omega) (by show ((y + 1484 : Nat) : Int) + 10 ≤ ((y + 2459 : Nat) : Int); omega)] at e
  have w0 : (mnew τ2 (20 + 7) 10) 905 0 = ((27 : Nat) : Int) := nw_0 P2.1 (by omega)
  have w1 : (mnew τ2 (20 + 7) 10) 905 1 = ((y + 1494 : Nat) : Int) := nw_1 P2.1 P2.2.1 (by omega)
  obtain ⟨μ2, S2, c1, g2, f2⟩ := k_66_26 (p := 0) (q := q) (d := d + 0) (y := y + 1494) (σ := mnew τ2 (20 + 7) 10) w0 w1 (fun j => nw_e P2.1)
  replace c1 : mcall (d + 2) 66 [(27, ((26 : Nat) : Int)), (24, ((1 : Nat) : Int))] (mnew τ2 (20 + 7) 10) = some (0, μ2) := c1
  rw [c1, bK_t, nC_t (z := 27) (y := y + 1494) w0 w1 g2.1 g2.2.1 (by show ((33 : Nat) : Int) ≤ ((64 : Nat) : Int); omega) (by show ((y + 1597 : Nat) : Int) ≤ ((y + 2459 : Nat) : Int); omega)] at e
  have P3 : pg 0 q 0 1 33 (y + 1597) [2, 1, 0] σ (mset μ2 0 2 ((26 : Nat) : Int)) := pO P2 g2 f2 (by omega) (by omega) (by omega) (by omega) rfl
  clear c1 w0 w1 g2 f2
  generalize mset μ2 0 2 ((26 : Nat) : Int) = τ3 at P3 e
  rw [nO_t P3 (by rfl) (by show ((33 : Nat) : Int) + 1 ≤ ((64 : Nat) : Int); omega) (by show ((y + 1597 : Nat) : Int) + 8 ≤ ((y + 2459 : Nat) : Int); omega)] at e
  have w0 : (mnew τ3 (20 + 8) 8) 905 0 = ((34 : Nat) : Int) := nw_0 P3.1 (by omega)
  have w1 : (mnew τ3 (20 + 8) 8) 905 1 = ((y + 1605 : Nat) : Int) := nw_1 P3.1 P3.2.1 (by omega)
  obtain ⟨μ3, S3, c1, g3, f3⟩ := k_82_33 (p := 0) (q := q) (d := d + 1) (y := y + 1605) (σ := mnew τ3 (20 + 8) 8) w0 w1 (fun j => nw_e P3.1)
  replace c1 : mcall (d + 2) 82 [(28, ((33 : Nat) : Int))] (mnew τ3 (20 + 8) 8) = some (0, μ3) := c1
  rw [c1, bK_t, nC_t (z := 34) (y := y + 1605) w0 w1 g3.1 g3.2.1 (by show ((38 : Nat) : Int) ≤ ((64 : Nat) : Int); omega) (by show ((y + 1725 : Nat) : Int) ≤ ((y + 2459 : Nat) : Int); omega)] at e
  have P4 : pg 0 q 0 1 38 (y + 1725) [3, 2, 1, 0] σ (mset μ3 0 3 ((33 : Nat) : Int)) := pO P3 g3 f3 (by omega) (by omega) (by omega) (by omega) rfl
  clear c1 w0 w1 g3 f3
  generalize mset μ3 0 3 ((33 : Nat) : Int) = τ4 at P4 e
  rw [nO_t P4 (by rfl) (by show ((38 : Nat) : Int) + 1 ≤ ((64 : Nat) : Int); omega) (by show ((y + 1725 : Nat) : Int) + 6 ≤ ((y + 2459 : Nat) : Int); omega)] at e
  have w0 : (mnew τ4 (20 + 0) 6) 905 0 = ((39 : Nat) : Int) := nw_0 P4.1 (by omega)
  have w1 : (mnew τ4 (20 + 0) 6) 905 1 = ((y + 1731 : Nat) : Int) := nw_1 P4.1 P4.2.1 (by omega)
  obtain ⟨μ4, S4, c1, g4, f4⟩ := k_0_38 (p := 0) (q := q) (d := d + 1) (y := y + 1731) (σ := mnew τ4 (20 + 0) 6) w0 w1 (fun j => nw_e P4.1)
  replace c1 : mcall (d + 2) 0 [(20, ((38 : Nat) : Int))] (mnew τ4 (20 + 0) 6) = some (0, μ4) := c1
  rw [c1, bK_t, nC_t (z := 39) (y := y + 1731) w0 w1 g4.1 g4.2.1 (by show ((43 : Nat) : Int) ≤ ((64 : Nat) : Int); omega) (by show ((y + 1891 : Nat) : Int) ≤ ((y + 2459 : Nat) : Int); omega)] at e
  have P5 : pg 0 q 0 1 43 (y + 1891) [4, 3, 2, 1, 0] σ (mset μ4 0 4 ((38 : Nat) : Int)) := pO P4 g4 f4 (by omega) (by omega) (by omega) (by omega) rfl
  clear c1 w0 w1 g4 f4
  generalize mset μ4 0 4 ((38 : Nat) : Int) = τ5 at P5 e
  rw [nO_t P5 (by rfl) (by show ((43 : Nat) : Int) + 1 ≤ ((64 : Nat) : Int); omega) (by show ((y + 1891 : Nat) : Int) + 4 ≤ ((y + 2459 : Nat) : Int); omega)] at e
  have w0 : (mnew τ5 (20 + 5) 4) 905 0 = ((44 : Nat) : Int) := nw_0 P5.1 (by omega)
  have w1 : (mnew τ5 (20 + 5) 4) 905 1 = ((y + 1895 : Nat) : Int) := nw_1 P5.1 P5.2.1 (by omega)
  obtain ⟨μ5, S5, c1, g5, f5⟩ := k_46_43 (p := 0) (q := q) (d := d + 1) (y := y + 1895) (σ := mnew τ5 (20 + 5) 4) w0 w1 (fun j => nw_e P5.1)
  replace c1 : mcall (d + 2) 46 [(25, ((43 : Nat) : Int))] (mnew τ5 (20 + 5) 4) = some (0, μ5) := c1
  rw [c1, bK_t, nC_t (z := 44) (y := y + 1895) w0 w1 g5.1 g5.2.1 (by show ((46 : Nat) : Int) ≤ ((64 : Nat) : Int); omega) (by show ((y + 1969 : Nat) : Int) ≤ ((y + 2459 : Nat) : Int); omega)] at e
  have P6 : pg 0 q 0 1 46 (y + 1969) [5, 4, 3, 2, 1, 0] σ (mset μ5 0 5 ((43 : Nat) : Int)) := pO P5 g5 f5 (by omega) (by omega) (by omega) (by omega) rfl
  clear c1 w0 w1 g5 f5
  generalize mset μ5 0 5 ((43 : Nat) : Int) = τ6 at P6 e
  rw [nA_t P6 (by rfl) (by omega) (by omega) (by show ((46 : Nat) : Int) + 1 ≤ ((64 : Nat) : Int); omega) (by show ((y + 1969 : Nat) : Int) + 6 ≤ ((y + 2459 : Nat) : Int); omega)] at e
  have P7 : pg 0 q 0 1 47 (y + 1975) [6, 5, 4, 3, 2, 1, 0] σ (mset (mnew τ6 (9000 + (6 : Int).toNat) (6 : Int).toNat) 0 6 ((46 : Nat) : Int)) := pA P6 (by omega) (by omega) (by omega) (fun j => Tn_46) rfl
  generalize mset (mnew τ6 (9000 + (6 : Int).toNat) (6 : Int).toNat) 0 6 ((46 : Nat) : Int) = τ7 at P7 e
  have q6 : τ7 0 6 = 46 := by rw [P7.2.2.2.2 6, if_pos (by decide)]; rfl
  rw [b_87_84, bLt_t (by omega), q6, bLt_f (by omega)] at e
  rw [nO_t P7 (by rfl) (by show ((47 : Nat) : Int) + 1 ≤ ((64 : Nat) : Int); omega) (by show ((y + 1975 : Nat) : Int) + 4 ≤ ((y + 2459 : Nat) : Int); omega)] at e
  have w0 : (mnew τ7 (20 + 3) 4) 905 0 = ((48 : Nat) : Int) := nw_0 P7.1 (by omega)
  have w1 : (mnew τ7 (20 + 3) 4) 905 1 = ((y + 1979 : Nat) : Int) := nw_1 P7.1 P7.2.1 (by omega)
  obtain ⟨μ7, S7, c1, g7, f7⟩ := k_30_47 (p := 0) (q := q) (d := d + 1) (y := y + 1979) (σ := mnew τ7 (20 + 3) 4) w0 w1 (fun j => nw_e P7.1)
  replace c1 : mcall (d + 2) 30 [(23, ((47 : Nat) : Int))] (mnew τ7 (20 + 3) 4) = some (0, μ7) := c1
  rw [c1, bK_t, nC_t (z := 48) (y := y + 1979) w0 w1 g7.1 g7.2.1 (by show ((49 : Nat) : Int) ≤ ((64 : Nat) : Int); omega) (by show ((y + 2039 : Nat) : Int) ≤ ((y + 2459 : Nat) : Int); omega)] at e
  rw [bIn_t (by omega), show w32 ((0 : Int) + 1) = 1 from by decide] at e
  have P8 : pg 1 q 0 1 49 (y + 2039) [6, 5, 4, 3, 2, 1, 0] σ (mset μ7 ((46 : Int)).toNat ((0 : Int)).toNat ((47 : Nat) : Int)) := pW P7 g7 f7 (by omega) (by omega) (by omega) (by omega)
  clear c1 w0 w1 g7 f7 q6
  generalize mset μ7 ((46 : Int)).toNat ((0 : Int)).toNat ((47 : Nat) : Int) = τ8 at P8 e
  have q6 : τ8 0 6 = 46 := by rw [P8.2.2.2.2 6, if_pos (by decide)]; rfl
  rw [b_87_84, bLt_t (by omega), q6, bLt_f (by omega)] at e
  rw [nO_t P8 (by rfl) (by show ((49 : Nat) : Int) + 1 ≤ ((64 : Nat) : Int); omega) (by show ((y + 2039 : Nat) : Int) + 4 ≤ ((y + 2459 : Nat) : Int); omega)] at e
  have w0 : (mnew τ8 (20 + 3) 4) 905 0 = ((50 : Nat) : Int) := nw_0 P8.1 (by omega)
  have w1 : (mnew τ8 (20 + 3) 4) 905 1 = ((y + 2043 : Nat) : Int) := nw_1 P8.1 P8.2.1 (by omega)
  obtain ⟨μ8, S8, c1, g8, f8⟩ := k_30_49 (p := 1) (q := q) (d := d + 1) (y := y + 2043) (σ := mnew τ8 (20 + 3) 4) w0 w1 (fun j => nw_e P8.1)
  replace c1 : mcall (d + 2) 30 [(23, ((49 : Nat) : Int))] (mnew τ8 (20 + 3) 4) = some (0, μ8) := c1
  rw [c1, bK_t, nC_t (z := 50) (y := y + 2043) w0 w1 g8.1 g8.2.1 (by show ((51 : Nat) : Int) ≤ ((64 : Nat) : Int); omega) (by show ((y + 2103 : Nat) : Int) ≤ ((y + 2459 : Nat) : Int); omega)] at e
  rw [bIn_t (by omega), show w32 ((1 : Int) + 1) = 2 from by decide] at e
  have P9 : pg 2 q 0 1 51 (y + 2103) [6, 5, 4, 3, 2, 1, 0] σ (mset μ8 ((46 : Int)).toNat ((1 : Int)).toNat ((49 : Nat) : Int)) := pW P8 g8 f8 (by omega) (by omega) (by omega) (by omega)
  clear c1 w0 w1 g8 f8 q6
  generalize mset μ8 ((46 : Int)).toNat ((1 : Int)).toNat ((49 : Nat) : Int) = τ9 at P9 e
  have q6 : τ9 0 6 = 46 := by rw [P9.2.2.2.2 6, if_pos (by decide)]; rfl
  rw [b_87_84, bLt_t (by omega), q6, bLt_f (by omega)] at e
  rw [nO_t P9 (by rfl) (by show ((51 : Nat) : Int) + 1 ≤ ((64 : Nat) : Int); omega) (by show ((y + 2103 : Nat) : Int) + 4 ≤ ((y + 2459 : Nat) : Int); omega)] at e
  have w0 : (mnew τ9 (20 + 3) 4) 905 0 = ((52 : Nat) : Int) := nw_0 P9.1 (by omega)
  have w1 : (mnew τ9 (20 + 3) 4) 905 1 = ((y + 2107 : Nat) : Int) := nw_1 P9.1 P9.2.1 (by omega)
  obtain ⟨μ9, S9, c1, g9, f9⟩ := k_30_51 (p := 2) (q := q) (d := d + 1) (y := y + 2107) (σ := mnew τ9 (20 + 3) 4) w0 w1 (fun j => nw_e P9.1)
  replace c1 : mcall (d + 2) 30 [(23, ((51 : Nat) : Int))] (mnew τ9 (20 + 3) 4) = some (0, μ9) := c1
  rw [c1, bK_t, nC_t (z := 52) (y := y + 2107) w0 w1 g9.1 g9.2.1 (by show ((53 : Nat) : Int) ≤ ((64 : Nat) : Int); omega) (by show ((y + 2167 : Nat) : Int) ≤ ((y + 2459 : Nat) : Int); omega)] at e
  rw [bIn_t (by omega), show w32 ((2 : Int) + 1) = 3 from by decide] at e
  have P10 : pg 3 q 0 1 53 (y + 2167) [6, 5, 4, 3, 2, 1, 0] σ (mset μ9 ((46 : Int)).toNat ((2 : Int)).toNat ((51 : Nat) : Int)) := pW P9 g9 f9 (by omega) (by omega) (by omega) (by omega)
  clear c1 w0 w1 g9 f9 q6
  generalize mset μ9 ((46 : Int)).toNat ((2 : Int)).toNat ((51 : Nat) : Int) = τ10 at P10 e
  have q6 : τ10 0 6 = 46 := by rw [P10.2.2.2.2 6, if_pos (by decide)]; rfl
  rw [b_87_84, bLt_t (by omega), q6, bLt_f (by omega)] at e
  rw [nO_t P10 (by rfl) (by show ((53 : Nat) : Int) + 1 ≤ ((64 : Nat) : Int); omega) (by show ((y + 2167 : Nat) : Int) + 4 ≤ ((y + 2459 : Nat) : Int); omega)] at e
  have w0 : (mnew τ10 (20 + 3) 4) 905 0 = ((54 : Nat) : Int) := nw_0 P10.1 (by omega)
  have w1 : (mnew τ10 (20 + 3) 4) 905 1 = ((y + 2171 : Nat) : Int) := nw_1 P10.1 P10.2.1 (by omega)
  obtain ⟨μ10, S10, c1, g10, f10⟩ := k_30_53 (p := 3) (q := q) (d := d + 1) (y := y + 2171) (σ := mnew τ10 (20 + 3) 4) w0 w1 (fun j => nw_e P10.1)
  replace c1 : mcall (d + 2) 30 [(23, ((53 : Nat) : Int))] (mnew τ10 (20 + 3) 4) = some (0, μ10) := c1
  rw [c1, bK_t, nC_t (z := 54) (y := y + 2171) w0 w1 g10.1 g10.2.1 (by show ((55 : Nat) : Int) ≤ ((64 : Nat) : Int); omega) (by show ((y + 2231 : Nat) : Int) ≤ ((y + 2459 : Nat) : Int); omega)] at e
  rw [bIn_t (by omega), show w32 ((3 : Int) + 1) = 4 from by decide] at e
  have P11 : pg 4 q 0 1 55 (y + 2231) [6, 5, 4, 3, 2, 1, 0] σ (mset μ10 ((46 : Int)).toNat ((3 : Int)).toNat ((53 : Nat) : Int)) := pW P10 g10 f10 (by omega) (by omega) (by omega) (by omega)
  clear c1 w0 w1 g10 f10 q6
  generalize mset μ10 ((46 : Int)).toNat ((3 : Int)).toNat ((53 : Nat) : Int) = τ11 at P11 e
  have q6 : τ11 0 6 = 46 := by rw [P11.2.2.2.2 6, if_pos (by decide)]; rfl
  rw [b_87_84, bLt_t (by omega), q6, bLt_f (by omega)] at e
  rw [nO_t P11 (by rfl) (by show ((55 : Nat) : Int) + 1 ≤ ((64 : Nat) : Int); omega) (by show ((y + 2231 : Nat) : Int) + 4 ≤ ((y + 2459 : Nat) : Int); omega)] at e
  have w0 : (mnew τ11 (20 + 3) 4) 905 0 = ((56 : Nat) : Int) := nw_0 P11.1 (by omega)
  have w1 : (mnew τ11 (20 + 3) 4) 905 1 = ((y + 2235 : Nat) : Int) := nw_1 P11.1 P11.2.1 (by omega)
  obtain ⟨μ11, S11, c1, g11, f11⟩ := k_30_55 (p := 4) (q := q) (d := d + 1) (y := y + 2235) (σ := mnew τ11 (20 + 3) 4) w0 w1 (fun j => nw_e P11.1)
  replace c1 : mcall (d + 2) 30 [(23, ((55 : Nat) : Int))] (mnew τ11 (20 + 3) 4) = some (0, μ11) := c1
  rw [c1, bK_t, nC_t (z := 56) (y := y + 2235) w0 w1 g11.1 g11.2.1 (by show ((57 : Nat) : Int) ≤ ((64 : Nat) : Int); omega) (by show ((y + 2295 : Nat) : Int) ≤ ((y + 2459 : Nat) : Int); omega)] at e
  rw [bIn_t (by omega), show w32 ((4 : Int) + 1) = 5 from by decide] at e
  have P12 : pg 5 q 0 1 57 (y + 2295) [6, 5, 4, 3, 2, 1, 0] σ (mset μ11 ((46 : Int)).toNat ((4 : Int)).toNat ((55 : Nat) : Int)) := pW P11 g11 f11 (by omega) (by omega) (by omega) (by omega)
  clear c1 w0 w1 g11 f11 q6
  generalize mset μ11 ((46 : Int)).toNat ((4 : Int)).toNat ((55 : Nat) : Int) = τ12 at P12 e
  have q6 : τ12 0 6 = 46 := by rw [P12.2.2.2.2 6, if_pos (by decide)]; rfl
  rw [b_87_84, bLt_t (by omega), q6, bLt_f (by omega)] at e
  rw [nO_t P12 (by rfl) (by show ((57 : Nat) : Int) + 1 ≤ ((64 : Nat) : Int); omega) (by show ((y + 2295 : Nat) : Int) + 4 ≤ ((y + 2459 : Nat) : Int); omega)] at e
  have w0 : (mnew τ12 (20 + 3) 4) 905 0 = ((58 : Nat) : Int) := nw_0 P12.1 (by omega)
  have w1 : (mnew τ12 (20 + 3) 4) 905 1 = ((y + 2299 : Nat) : Int) := nw_1 P12.1 P12.2.1 (by omega)
  obtain ⟨μ12, S12, c1, g12, f12⟩ := k_30_57 (p := 5) (q := q) (d := d + 1) (y := y + 2299) (σ := mnew τ12 (20 + 3) 4) w0 w1 (fun j => nw_e P12.1)
  replace c1 : mcall (d + 2) 30 [(23, ((57 : Nat) : Int))] (mnew τ12 (20 + 3) 4) = some (0, μ12) := c1
  rw [c1, bK_t, nC_t (z := 58) (y := y + 2299) w0 w1 g12.1 g12.2.1 (by show ((59 : Nat) : Int) ≤ ((64 : Nat) : Int); omega) (by show ((y + 2359 : Nat) : Int) ≤ ((y + 2459 : Nat) : Int); omega)] at e
  rw [bIn_t (by omega), show w32 ((5 : Int) + 1) = 6 from by decide] at e
  have P13 : pg 6 q 0 1 59 (y + 2359) [6, 5, 4, 3, 2, 1, 0] σ (mset μ12 ((46 : Int)).toNat ((5 : Int)).toNat ((57 : Nat) : Int)) := pW P12 g12 f12 (by omega) (by omega) (by omega) (by omega)
  clear c1 w0 w1 g12 f12 q6
  generalize mset μ12 ((46 : Int)).toNat ((5 : Int)).toNat ((57 : Nat) : Int) = τ13 at P13 e
  rw [b_87_84, bLt_f (by omega)] at e
  rw [nO_t P13 (by rfl) (by show ((59 : Nat) : Int) + 1 ≤ ((64 : Nat) : Int); omega) (by show ((y + 2359 : Nat) : Int) + 5 ≤ ((y + 2459 : Nat) : Int); omega)] at e
  have w0 : (mnew τ13 (20 + 1) 5) 905 0 = ((60 : Nat) : Int) := nw_0 P13.1 (by omega)
  have w1 : (mnew τ13 (20 + 1) 5) 905 1 = ((y + 2364 : Nat) : Int) := nw_1 P13.1 P13.2.1 (by omega)
  obtain ⟨μ13, S13, c1, g13, f13⟩ := k_5_59 (p := 6) (q := q) (d := d + 1) (y := y + 2364) (σ := mnew τ13 (20 + 1) 5) w0 w1 (fun j => nw_e P13.1)
  replace c1 : mcall (d + 2) 5 [(21, ((59 : Nat) : Int))] (mnew τ13 (20 + 1) 5) = some (0, μ13) := c1
  rw [c1, bK_t, nC_t (z := 60) (y := y + 2364) w0 w1 g13.1 g13.2.1 (by show ((64 : Nat) : Int) ≤ ((64 : Nat) : Int); omega) (by show ((y + 2459 : Nat) : Int) ≤ ((y + 2459 : Nat) : Int); omega)] at e
  rw [bIn_t (by omega)] at e
  have P14 : pg 6 q 0 1 64 (y + 2459) [7, 6, 5, 4, 3, 2, 1, 0] σ (mset μ13 0 7 ((59 : Nat) : Int)) := pO P13 g13 f13 (by omega) (by omega) (by omega) (by omega) rfl
  generalize mset μ13 0 7 ((59 : Nat) : Int) = τ14 at P14 e
  have P15 : pg 6 q 0 1 64 (y + 2459) [8, 7, 6, 5, 4, 3, 2, 1, 0] σ (mset τ14 0 8 0) := pN P14 (by omega) (by omega) rfl
  generalize mset τ14 0 8 0 = τ15 at P15 e
  exact ⟨τ15, [8, 7, 6, 5, 4, 3, 2, 1, 0], e, P15, pg_f P15 (by omega) (by omega) (by decide +kernel)⟩
theorem k_132_64 {p y d : Nat} {σ : mM} (h0 : σ 905 0 = ((65 : Nat) : Int)) (h1 : σ 905 1 = (y : Int)) (h : ∀ j, σ 64 j = mdef (mlay 64) j) : ∃ τ S, mcall (d + 1) 132 [(30, ((64 : Nat) : Int))] σ = some (0, τ) ∧ pg p 6 64 65 95 (y + 2160) S σ τ ∧ ∀ j, τ 64 j = Tn p 6 64 j := by
  have e := e_132 (d + 0) 64 σ
  rw [mX_t h0 h1, show mal 132 = 30 from rfl, show msl 132 = 2160 from rfl] at e
  have P0 : pg p 0 64 65 65 (y + 0) [] σ σ := pg_0 (p := p) (q := 0) (c := 64) h0 h1 h
  rw [nA_t P0 (by rfl) (by omega) (by omega) (by show ((65 : Nat) : Int) + 1 ≤ ((95 : Nat) : Int); omega) (by show ((y + 0 : Nat) : Int) + 30 ≤ ((y + 2160 : Nat) : Int); omega)] at e
  have P1 : pg p 0 64 65 66 (y + 30) [0] σ (mset (mnew σ (1000 + (30 : Int).toNat) (30 : Int).toNat) 64 0 ((65 : Nat) : Int)) := pA P0 (by omega) (by omega) (by omega) (fun j => rfl) rfl
  generalize mset (mnew σ (1000 + (30 : Int).toNat) (30 : Int).toNat) 64 0 ((65 : Nat) : Int) = τ1 at P1 e
  rw [nA_t P1 (by rfl) (by omega) (by omega) (by show ((66 : Nat) : Int) + 1 ≤ ((95 : Nat) : Int); omega) (by show ((y + 30 : Nat) : Int) + 30 ≤ ((y + 2160 : Nat) : Int); omega)] at e
  have P2 : pg p 0 64 65 67 (y + 60) [1, 0] σ (mset (mnew τ1 (1000 + (30 : Int).toNat) (30 : Int).toNat) 64 1 ((66 : Nat) : Int)) := pA P1 (by omega) (by omega) (by omega) (fun j => rfl) rfl
  generalize mset (mnew τ1 (1000 + (30 : Int).toNat) (30 : Int).toNat) 64 1 ((66 : Nat) : Int) = τ2 at P2 e
  rw [nA_t P2 (by rfl) (by omega) (by omega) (by show ((67 : Nat) : Int) + 1 ≤ ((95 : Nat) : Int); omega) (by show ((y + 60 : Nat) : Int) + 30 ≤ ((y + 2160 : Nat) : Int); omega)] at e
  have P3 : pg p 0 64 65 68 (y + 90) [2, 1, 0] σ (mset (mnew τ2 (1000 + (30 : Int).toNat) (30 : Int).toNat) 64 2 ((67 : Nat) : Int)) := pA P2 (by omega) (by omega) (by omega) (fun j => rfl) rfl
  generalize mset (mnew τ2 (1000 + (30 : Int).toNat) (30 : Int).toNat) 64 2 ((67 : Nat) : Int) = τ3 at P3 e
  rw [nA_t P3 (by rfl) (by omega) (by omega) (by show ((68 : Nat) : Int) + 1 ≤ ((95 : Nat) : Int); omega) (by show ((y + 90 : Nat) : Int) + 24 ≤ ((y + 2160 : Nat) : Int); omega)] at e
  have P4 : pg p 0 64 65 69 (y + 114) [4, 2, 1, 0] σ (mset (mnew τ3 (1000 + (24 : Int).toNat) (24 : Int).toNat) 64 4 ((68 : Nat) : Int)) := pA P3 (by omega) (by omega) (by omega) (fun j => rfl) rfl
  generalize mset (mnew τ3 (1000 + (24 : Int).toNat) (24 : Int).toNat) 64 4 ((68 : Nat) : Int) = τ4 at P4 e
  rw [nA_t P4 (by rfl) (by omega) (by omega) (by show ((69 : Nat) : Int) + 1 ≤ ((95 : Nat) : Int); omega) (by show ((y + 114 : Nat) : Int) + 2 ≤ ((y + 2160 : Nat) : Int); omega)] at e
  have P5 : pg p 0 64 65 70 (y + 116) [5, 4, 2, 1, 0] σ (mset (mnew τ4 (1000 + (2 : Int).toNat) (2 : Int).toNat) 64 5 ((69 : Nat) : Int)) := pA P4 (by omega) (by omega) (by omega) (fun j => rfl) rfl
  generalize mset (mnew τ4 (1000 + (2 : Int).toNat) (2 : Int).toNat) 64 5 ((69 : Nat) : Int) = τ5 at P5 e
  rw [b_132_43] at e
  rw [nA_t P5 (by rfl) (by omega) (by omega) (by show ((70 : Nat) : Int) + 1 ≤ ((95 : Nat) : Int); omega) (by show ((y + 116 : Nat) : Int) + 120 ≤ ((y + 2160 : Nat) : Int); omega)] at e
  have P6 : pg p 0 64 65 71 (y + 236) [8, 5, 4, 2, 1, 0] σ (mset (mnew τ5 (1000 + (120 : Int).toNat) (120 : Int).toNat) 64 8 ((70 : Nat) : Int)) := pA P5 (by omega) (by omega) (by omega) (fun j => rfl) rfl
  generalize mset (mnew τ5 (1000 + (120 : Int).toNat) (120 : Int).toNat) 64 8 ((70 : Nat) : Int) = τ6 at P6 e
  rw [nA_t P6 (by rfl) (by omega) (by omega) (by show ((71 : Nat) : Int) + 1 ≤ ((95 : Nat) : Int); omega) (by show ((y + 236 : Nat) : Int) + 60 ≤ ((y + 2160 : Nat) : Int); omega)] at e
  have P7 : pg p 0 64 65 72 (y + 296) [11, 8, 5, 4, 2, 1, 0] σ (mset (mnew τ6 (1000 + (60 : Int).toNat) (60 : Int).toNat) 64 11 ((71 : Nat) : Int)) := pA P6 (by omega) (by omega) (by omega) (fun j => rfl) rfl
  generalize mset (mnew τ6 (1000 + (60 : Int).toNat) (60 : Int).toNat) 64 11 ((71 : Nat) : Int) = τ7 at P7 e
  rw [nA_t P7 (by rfl) (by omega) (by omega) (by show ((72 : Nat) : Int) + 1 ≤ ((95 : Nat) : Int); omega) (by show ((y + 296 : Nat) : Int) + 60 ≤ ((y + 2160 : Nat) : Int); omega)] at e
  have P8 : pg p 0 64 65 73 (y + 356) [12, 11, 8, 5, 4, 2, 1, 0] σ (mset (mnew τ7 (1000 + (60 : Int).toNat) (60 : Int).toNat) 64 12 ((72 : Nat) : Int)) := pA P7 (by omega) (by omega) (by omega) (fun j => rfl) rfl
  generalize mset (mnew τ7 (1000 + (60 : Int).toNat) (60 : Int).toNat) 64 12 ((72 : Nat) : Int) = τ8 at P8 e
  rw [nA_t P8 (by rfl) (by omega) (by omega) (by show ((73 : Nat) : Int) + 1 ≤ ((95 : Nat) : Int); omega) (by show ((y + 356 : Nat) : Int) + 60 ≤ ((y + 2160 : Nat) : Int); omega)] at e
  have P9 : pg p 0 64 65 74 (y + 416) [13, 12, 11, 8, 5, 4, 2, 1, 0] σ (mset (mnew τ8 (1000 + (60 : Int).toNat) (60 : Int).toNat) 64 13 ((73 : Nat) : Int)) := pA P8 (by omega) (by omega) (by omega) (fun j => rfl) rfl
  generalize mset (mnew τ8 (1000 + (60 : Int).toNat) (60 : Int).toNat) 64 13 ((73 : Nat) : Int) = τ9 at P9 e
  rw [nA_t P9 (by rfl) (by omega) (by omega) (by show ((74 : Nat) : Int) + 1 ≤ ((95 : Nat) : Int); omega) (by show ((y + 416 : Nat) : Int) + 200 ≤ ((y + 2160 : Nat) : Int); omega)] at e
  have P10 : pg p 0 64 65 75 (y + 616) [14, 13, 12, 11, 8, 5, 4, 2, 1, 0] σ (mset (mnew τ9 (1000 + (200 : Int).toNat) (200 : Int).toNat) 64 14 ((74 : Nat) : Int)) := pA P9 (by omega) (by omega) (by omega) (fun j => rfl) rfl
  generalize mset (mnew τ9 (1000 + (200 : Int).toNat) (200 : Int).toNat) 64 14 ((74 : Nat) : Int) = τ10 at P10 e
  rw [b_132_84] at e
  rw [nA_t P10 (by rfl) (by omega) (by omega) (by show ((75 : Nat) : Int) + 1 ≤ ((95 : Nat) : Int); omega) (by show ((y + 616 : Nat) : Int) + 61 ≤ ((y + 2160 : Nat) : Int); omega)] at e
  have P11 : pg p 0 64 65 76 (y + 677) [19, 14, 13, 12, 11, 8, 5, 4, 2, 1, 0] σ (mset (mnew τ10 (1000 + (61 : Int).toNat) (61 : Int).toNat) 64 19 ((75 : Nat) : Int)) := pA P10 (by omega) (by omega) (by omega) (fun j => rfl) rfl
  generalize mset (mnew τ10 (1000 + (61 : Int).toNat) (61 : Int).toNat) 64 19 ((75 : Nat) : Int) = τ11 at P11 e
  rw [nA_t P11 (by rfl) (by omega) (by omega) (by show ((76 : Nat) : Int) + 1 ≤ ((95 : Nat) : Int); omega) (by show ((y + 677 : Nat) : Int) + 61 ≤ ((y + 2160 : Nat) : Int); omega)] at e
  have P12 : pg p 0 64 65 77 (y + 738) [20, 19, 14, 13, 12, 11, 8, 5, 4, 2, 1, 0] σ (mset (mnew τ11 (1000 + (61 : Int).toNat) (61 : Int).toNat) 64 20 ((76 : Nat) : Int)) := pA P11 (by omega) (by omega) (by omega) (fun j => rfl) rfl
  generalize mset (mnew τ11 (1000 + (61 : Int).toNat) (61 : Int).toNat) 64 20 ((76 : Nat) : Int) = τ12 at P12 e
  rw [nA_t P12 (by rfl) (by omega) (by omega) (by show ((77 : Nat) : Int) + 1 ≤ ((95 : Nat) : Int); omega) (by show ((y + 738 : Nat) : Int) + 61 ≤ ((y + 2160 : Nat) : Int); omega)] at e
  have P13 : pg p 0 64 65 78 (y + 799) [21, 20, 19, 14, 13, 12, 11, 8, 5, 4, 2, 1, 0] σ (mset (mnew τ12 (1000 + (61 : Int).toNat) (61 : Int).toNat) 64 21 ((77 : Nat) : Int)) := pA P12 (by omega) (by omega) (by omega) (fun j => rfl) rfl
  generalize mset (mnew τ12 (1000 + (61 : Int).toNat) (61 : Int).toNat) 64 21 ((77 : Nat) : Int) = τ13 at P13 e
  rw [nA_t P13 (by rfl) (by omega) (by omega) (by show ((78 : Nat) : Int) + 1 ≤ ((95 : Nat) : Int); omega) (by show ((y + 799 : Nat) : Int) + 200 ≤ ((y + 2160 : Nat) : Int); omega)] at e
  have P14 : pg p 0 64 65 79 (y + 999) [22, 21, 20, 19, 14, 13, 12, 11, 8, 5, 4, 2, 1, 0] σ (mset (mnew τ13 (1000 + (200 : Int).toNat) (200 : Int).toNat) 64 22 ((78 : Nat) : Int)) := pA P13 (by omega) (by omega) (by omega) (fun j => rfl) rfl
  generalize mset (mnew τ13 (1000 + (200 : Int).toNat) (200 : Int).toNat) 64 22 ((78 : Nat) : Int) = τ14 at P14 e
  rw [nA_t P14 (by rfl) (by omega) (by omega) (by show ((79 : Nat) : Int) + 1 ≤ ((95 : Nat) : Int); omega) (by show ((y + 999 : Nat) : Int) + 200 ≤ ((y + 2160 : Nat) : Int); omega)] at e
  have P15 : pg p 0 64 65 80 (y + 1199) [23, 22, 21, 20, 19, 14, 13, 12, 11, 8, 5, 4, 2, 1, 0] σ (mset (mnew τ14 (1000 + (200 : Int).toNat) (200 : Int).toNat) 64 23 ((79 : Nat) : Int)) := pA P14 (by omega) (by omega) (by omega) (fun j => rfl) rfl
  generalize mset (mnew τ14 (1000 + (200 : Int).toNat) (200 : Int).toNat) 64 23 ((79 : Nat) : Int) = τ15 at P15 e
  rw [b_132_126] at e
  rw [nA_t P15 (by rfl) (by omega) (by omega) (by show ((80 : Nat) : Int) + 1 ≤ ((95 : Nat) : Int); omega) (by show ((y + 1199 : Nat) : Int) + 6 ≤ ((y + 2160 : Nat) : Int); omega)] at e
  have P16 : pg p 0 64 65 81 (y + 1205) [24, 23, 22, 21, 20, 19, 14, 13, 12, 11, 8, 5, 4, 2, 1, 0] σ (mset (mnew τ15 (1000 + (6 : Int).toNat) (6 : Int).toNat) 64 24 ((80 : Nat) : Int)) := pA P15 (by omega) (by omega) (by omega) (fun j => rfl) rfl
  generalize mset (mnew τ15 (1000 + (6 : Int).toNat) (6 : Int).toNat) 64 24 ((80 : Nat) : Int) = τ16 at P16 e
  rw [nA_t P16 (by rfl) (by omega) (by omega) (by show ((81 : Nat) : Int) + 1 ≤ ((95 : Nat) : Int); omega) (by show ((y + 1205 : Nat) : Int) + 5 ≤ ((y + 2160 : Nat) : Int); omega)] at e
  have P17 : pg p 0 64 65 82 (y + 1210) [25, 24, 23, 22, 21, 20, 19, 14, 13, 12, 11, 8, 5, 4, 2, 1, 0] σ (mset (mnew τ16 (1000 + (5 : Int).toNat) (5 : Int).toNat) 64 25 ((81 : Nat) : Int)) := pA P16 (by omega) (by omega) (by omega) (fun j => rfl) rfl
  generalize mset (mnew τ16 (1000 + (5 : Int).toNat) (5 : Int).toNat) 64 25 ((81 : Nat) : Int) = τ17 at P17 e
  rw [nA_t P17 (by rfl) (by omega) (by omega) (by show ((82 : Nat) : Int) + 1 ≤ ((95 : Nat) : Int); omega) (by show ((y + 1210 : Nat) : Int) + 92 ≤ ((y + 2160 : Nat) : Int); omega)] at e
  have P18 : pg p 0 64 65 83 (y + 1302) [27, 25, 24, 23, 22, 21, 20, 19, 14, 13, 12, 11, 8, 5, 4, 2, 1, 0] σ (mset (mnew τ17 (1000 + (92 : Int).toNat) (92 : Int).toNat) 64 27 ((82 : Nat) : Int)) := pA P17 (by omega) (by omega) (by omega) (fun j => rfl) rfl
  generalize mset (mnew τ17 (1000 + (92 : Int).toNat) (92 : Int).toNat) 64 27 ((82 : Nat) : Int) = τ18 at P18 e
  rw [nA_t P18 (by rfl) (by omega) (by omega) (by show ((83 : Nat) : Int) + 1 ≤ ((95 : Nat) : Int); omega) (by show ((y + 1302 : Nat) : Int) + 5 ≤ ((y + 2160 : Nat) : Int); omega)] at e
  have P19 : pg p 0 64 65 84 (y + 1307) [28, 27, 25, 24, 23, 22, 21, 20, 19, 14, 13, 12, 11, 8, 5, 4, 2, 1, 0] σ (mset (mnew τ18 (1000 + (5 : Int).toNat) (5 : Int).toNat) 64 28 ((83 : Nat) : Int)) := pA P18 (by omega) (by omega) (by omega) (fun j => rfl) rfl
  generalize mset (mnew τ18 (1000 + (5 : Int).toNat) (5 : Int).toNat) 64 28 ((83 : Nat) : Int) = τ19 at P19 e
  rw [nA_t P19 (by rfl) (by omega) (by omega) (by show ((84 : Nat) : Int) + 1 ≤ ((95 : Nat) : Int); omega) (by show ((y + 1307 : Nat) : Int) + 160 ≤ ((y + 2160 : Nat) : Int); omega)] at e
  have P20 : pg p 0 64 65 85 (y + 1467) [31, 28, 27, 25, 24, 23, 22, 21, 20, 19, 14, 13, 12, 11, 8, 5, 4, 2, 1, 0] σ (mset (mnew τ19 (1000 + (160 : Int).toNat) (160 : Int).toNat) 64 31 ((84 : Nat) : Int)) := pA P19 (by omega) (by omega) (by omega) (fun j => rfl) rfl
  generalize mset (mnew τ19 (1000 + (160 : Int).toNat) (160 : Int).toNat) 64 31 ((84 : Nat) : Int) = τ20 at P20 e
  rw [b_132_165] at e
  rw [nA_t P20 (by rfl) (by omega) (by omega) (by show ((85 : Nat) : Int) + 1 ≤ ((95 : Nat) : Int); omega) (by show ((y + 1467 : Nat) : Int) + 50 ≤ ((y + 2160 : Nat) : Int); omega)] at e
  have P21 : pg p 0 64 65 86 (y + 1517) [33, 31, 28, 27, 25, 24, 23, 22, 21, 20, 19, 14, 13, 12, 11, 8, 5, 4, 2, 1, 0] σ (mset (mnew τ20 (1000 + (50 : Int).toNat) (50 : Int).toNat) 64 33 ((85 : Nat) : Int)) := pA P20 (by omega) (by omega) (by omega) (fun j => rfl) rfl
  generalize mset (mnew τ20 (1000 + (50 : Int).toNat) (50 : Int).toNat) 64 33 ((85 : Nat) : Int) = τ21 at P21 e
  rw [nA_t P21 (by rfl) (by omega) (by omega) (by show ((86 : Nat) : Int) + 1 ≤ ((95 : Nat) : Int); omega) (by show ((y + 1517 : Nat) : Int) + 24 ≤ ((y + 2160 : Nat) : Int); omega)] at e
  have P22 : pg p 0 64 65 87 (y + 1541) [35, 33, 31, 28, 27, 25, 24, 23, 22, 21, 20, 19, 14, 13, 12, 11, 8, 5, 4, 2, 1, 0] σ (mset (mnew τ21 (1000 + (24 : Int).toNat) (24 : Int).toNat) 64 35 ((86 : Nat) : Int)) := pA P21 (by omega) (by omega) (by omega) (fun j => rfl) rfl
  generalize mset (mnew τ21 (1000 + (24 : Int).toNat) (24 : Int).toNat) 64 35 ((86 : Nat) : Int) = τ22 at P22 e
  rw [nA_t P22 (by rfl) (by omega) (by omega) (by show ((87 : Nat) : Int) + 1 ≤ ((95 : Nat) : Int); omega) (by show ((y + 1541 : Nat) : Int) + 6 ≤ ((y + 2160 : Nat) : Int); omega)] at e
  have P23 : pg p 0 64 65 88 (y + 1547) [36, 35, 33, 31, 28, 27, 25, 24, 23, 22, 21, 20, 19, 14, 13, 12, 11, 8, 5, 4, 2, 1, 0] σ (mset (mnew τ22 (1000 + (6 : Int).toNat) (6 : Int).toNat) 64 36 ((87 : Nat) : Int)) := pA P22 (by omega) (by omega) (by omega) (fun j => Tn_87) rfl
  generalize mset (mnew τ22 (1000 + (6 : Int).toNat) (6 : Int).toNat) 64 36 ((87 : Nat) : Int) = τ23 at P23 e
  rw [nA_t P23 (by rfl) (by omega) (by omega) (by show ((88 : Nat) : Int) + 1 ≤ ((95 : Nat) : Int); omega) (by show ((y + 1547 : Nat) : Int) + 6 ≤ ((y + 2160 : Nat) : Int); omega)] at e
  have P24 : pg p 0 64 65 89 (y + 1553) [37, 36, 35, 33, 31, 28, 27, 25, 24, 23, 22, 21, 20, 19, 14, 13, 12, 11, 8, 5, 4, 2, 1, 0] σ (mset (mnew τ23 (1000 + (6 : Int).toNat) (6 : Int).toNat) 64 37 ((88 : Nat) : Int)) := pA P23 (by omega) (by omega) (by omega) (fun j => rfl) rfl
  generalize mset (mnew τ23 (1000 + (6 : Int).toNat) (6 : Int).toNat) 64 37 ((88 : Nat) : Int) = τ24 at P24 e
  rw [nA_t P24 (by rfl) (by omega) (by omega) (by show ((89 : Nat) : Int) + 1 ≤ ((95 : Nat) : Int); omega) (by show ((y + 1553 : Nat) : Int) + 360 ≤ ((y + 2160 : Nat) : Int); omega)] at e
  have P25 : pg p 0 64 65 90 (y + 1913) [38, 37, 36, 35, 33, 31, 28, 27, 25, 24, 23, 22, 21, 20, 19, 14, 13, 12, 11, 8, 5, 4, 2, 1, 0] σ (mset (mnew τ24 (3000 + (360 : Int).toNat) (360 : Int).toNat) 64 38 ((89 : Nat) : Int)) := pA P24 (by omega) (by omega) (by omega) (fun j => rfl) rfl
  generalize mset (mnew τ24 (3000 + (360 : Int).toNat) (360 : Int).toNat) 64 38 ((89 : Nat) : Int) = τ25 at P25 e
  rw [b_132_206] at e
  rw [nA_t P25 (by rfl) (by omega) (by omega) (by show ((90 : Nat) : Int) + 1 ≤ ((95 : Nat) : Int); omega) (by show ((y + 1913 : Nat) : Int) + 92 ≤ ((y + 2160 : Nat) : Int); omega)] at e
  have P26 : pg p 0 64 65 91 (y + 2005) [39, 38, 37, 36, 35, 33, 31, 28, 27, 25, 24, 23, 22, 21, 20, 19, 14, 13, 12, 11, 8, 5, 4, 2, 1, 0] σ (mset (mnew τ25 (1000 + (92 : Int).toNat) (92 : Int).toNat) 64 39 ((90 : Nat) : Int)) := pA P25 (by omega) (by omega) (by omega) (fun j => rfl) rfl
  generalize mset (mnew τ25 (1000 + (92 : Int).toNat) (92 : Int).toNat) 64 39 ((90 : Nat) : Int) = τ26 at P26 e
  rw [nA_t P26 (by rfl) (by omega) (by omega) (by show ((91 : Nat) : Int) + 1 ≤ ((95 : Nat) : Int); omega) (by show ((y + 2005 : Nat) : Int) + 92 ≤ ((y + 2160 : Nat) : Int); omega)] at e
  have P27 : pg p 0 64 65 92 (y + 2097) [40, 39, 38, 37, 36, 35, 33, 31, 28, 27, 25, 24, 23, 22, 21, 20, 19, 14, 13, 12, 11, 8, 5, 4, 2, 1, 0] σ (mset (mnew τ26 (1000 + (92 : Int).toNat) (92 : Int).toNat) 64 40 ((91 : Nat) : Int)) := pA P26 (by omega) (by omega) (by omega) (fun j => rfl) rfl
  generalize mset (mnew τ26 (1000 + (92 : Int).toNat) (92 : Int).toNat) 64 40 ((91 : Nat) : Int) = τ27 at P27 e
  rw [nA_t P27 (by rfl) (by omega) (by omega) (by show ((92 : Nat) : Int) + 1 ≤ ((95 : Nat) : Int); omega) (by show ((y + 2097 : Nat) : Int) + 3 ≤ ((y + 2160 : Nat) : Int); omega)] at e
  have P28 : pg p 0 64 65 93 (y + 2100) [41, 40, 39, 38, 37, 36, 35, 33, 31, 28, 27, 25, 24, 23, 22, 21, 20, 19, 14, 13, 12, 11, 8, 5, 4, 2, 1, 0] σ (mset (mnew τ27 (1000 + (3 : Int).toNat) (3 : Int).toNat) 64 41 ((92 : Nat) : Int)) := pA P27 (by omega) (by omega) (by omega) (fun j => rfl) rfl
  generalize mset (mnew τ27 (1000 + (3 : Int).toNat) (3 : Int).toNat) 64 41 ((92 : Nat) : Int) = τ28 at P28 e
  rw [nA_t P28 (by rfl) (by omega) (by omega) (by show ((93 : Nat) : Int) + 1 ≤ ((95 : Nat) : Int); omega) (by show ((y + 2100 : Nat) : Int) + 30 ≤ ((y + 2160 : Nat) : Int); omega)] at e
  have P29 : pg p 0 64 65 94 (y + 2130) [42, 41, 40, 39, 38, 37, 36, 35, 33, 31, 28, 27, 25, 24, 23, 22, 21, 20, 19, 14, 13, 12, 11, 8, 5, 4, 2, 1, 0] σ (mset (mnew τ28 (1000 + (30 : Int).toNat) (30 : Int).toNat) 64 42 ((93 : Nat) : Int)) := pA P28 (by omega) (by omega) (by omega) (fun j => rfl) rfl
  generalize mset (mnew τ28 (1000 + (30 : Int).toNat) (30 : Int).toNat) 64 42 ((93 : Nat) : Int) = τ29 at P29 e
  rw [nA_t P29 (by rfl) (by omega) (by omega) (by show ((94 : Nat) : Int) + 1 ≤ ((95 : Nat) : Int); omega) (by show ((y + 2130 : Nat) : Int) + 30 ≤ ((y + 2160 : Nat) : Int); omega)] at e
  have P30 : pg p 0 64 65 95 (y + 2160) [43, 42, 41, 40, 39, 38, 37, 36, 35, 33, 31, 28, 27, 25, 24, 23, 22, 21, 20, 19, 14, 13, 12, 11, 8, 5, 4, 2, 1, 0] σ (mset (mnew τ29 (1000 + (30 : Int).toNat) (30 : Int).toNat) 64 43 ((94 : Nat) : Int)) := pA P29 (by omega) (by omega) (by omega) (fun j => rfl) rfl
  generalize mset (mnew τ29 (1000 + (30 : Int).toNat) (30 : Int).toNat) 64 43 ((94 : Nat) : Int) = τ30 at P30 e
  rw [b_132_245] at e
  have q6 : τ30 64 36 = 87 := by rw [P30.2.2.2.2 36, if_pos (by decide)]; rfl
  rw [b_132_247, bLt_t (by omega), q6, bLt_f (by omega), bIn_t (by omega), show w32 ((0 : Int) + 1) = 1 from by decide] at e
  have P31 : pg p 1 64 65 95 (y + 2160) [43, 42, 41, 40, 39, 38, 37, 36, 35, 33, 31, 28, 27, 25, 24, 23, 22, 21, 20, 19, 14, 13, 12, 11, 8, 5, 4, 2, 1, 0] σ (mset τ30 ((87 : Int)).toNat ((0 : Int)).toNat (-1)) := pV P30 (by omega) (by omega)
  clear q6
  generalize mset τ30 ((87 : Int)).toNat ((0 : Int)).toNat (-1) = τ31 at P31 e
  have q6 : τ31 64 36 = 87 := by rw [P31.2.2.2.2 36, if_pos (by decide)]; rfl
  rw [b_132_247, bLt_t (by omega), q6, bLt_f (by omega), bIn_t (by omega), show w32 ((1 : Int) + 1) = 2 from by decide] at e
  have P32 : pg p 2 64 65 95 (y + 2160) [43, 42, 41, 40, 39, 38, 37, 36, 35, 33, 31, 28, 27, 25, 24, 23, 22, 21, 20, 19, 14, 13, 12, 11, 8, 5, 4, 2, 1, 0] σ (mset τ31 ((87 : Int)).toNat ((1 : Int)).toNat (-1)) := pV P31 (by omega) (by omega)
  clear q6
  generalize mset τ31 ((87 : Int)).toNat ((1 : Int)).toNat (-1) = τ32 at P32 e
  have q6 : τ32 64 36 = 87 := by rw [P32.2.2.2.2 36, if_pos (by decide)]; rfl
  rw [b_132_247, bLt_t (by omega), q6, bLt_f (by omega), bIn_t (by omega), show w32 ((2 : Int) + 1) = 3 from by decide] at e
  have P33 : pg p 3 64 65 95 (y + 2160) [43, 42, 41, 40, 39, 38, 37, 36, 35, 33, 31, 28, 27, 25, 24, 23, 22, 21, 20, 19, 14, 13, 12, 11, 8, 5, 4, 2, 1, 0] σ (mset τ32 ((87 : Int)).toNat ((2 : Int)).toNat (-1)) := pV P32 (by omega) (by omega)
  clear q6
  generalize mset τ32 ((87 : Int)).toNat ((2 : Int)).toNat (-1) = τ33 at P33 e
  have q6 : τ33 64 36 = 87 := by rw [P33.2.2.2.2 36, if_pos (by decide)]; rfl
  rw [b_132_247, bLt_t (by omega), q6, bLt_f (by omega), bIn_t (by omega), show w32 ((3 : Int) + 1) = 4 from by decide] at e
  have P34 : pg p 4 64 65 95 (y + 2160) [43, 42, 41, 40, 39, 38, 37, 36, 35, 33, 31, 28, 27, 25, 24, 23, 22, 21, 20, 19, 14, 13, 12, 11, 8, 5, 4, 2, 1, 0] σ (mset τ33 ((87 : Int)).toNat ((3 : Int)).toNat (-1)) := pV P33 (by omega) (by omega)
  clear q6
  generalize mset τ33 ((87 : Int)).toNat ((3 : Int)).toNat (-1) = τ34 at P34 e
  have q6 : τ34 64 36 = 87 := by rw [P34.2.2.2.2 36, if_pos (by decide)]; rfl
  rw [b_132_247, bLt_t (by omega), q6, bLt_f (by omega), bIn_t (by omega), show w32 ((4 : Int) + 1) = 5 from by decide] at e
  have P35 : pg p 5 64 65 95 (y + 2160) [43, 42, 41, 40, 39, 38, 37, 36, 35, 33, 31, 28, 27, 25, 24, 23, 22, 21, 20, 19, 14, 13, 12, 11, 8, 5, 4, 2, 1, 0] σ (mset τ34 ((87 : Int)).toNat ((4 : Int)).toNat (-1)) := pV P34 (by omega) (by omega)
  clear q6
  generalize mset τ34 ((87 : Int)).toNat ((4 : Int)).toNat (-1) = τ35 at P35 e
  have q6 : τ35 64 36 = 87 := by rw [P35.2.2.2.2 36, if_pos (by decide)]; rfl
  rw [b_132_247, bLt_t (by omega), q6, bLt_f (by omega), bIn_t (by omega), show w32 ((5 : Int) + 1) = 6 from by decide] at e
  have P36 : pg p 6 64 65 95 (y + 2160) [43, 42, 41, 40, 39, 38, 37, 36, 35, 33, 31, 28, 27, 25, 24, 23, 22, 21, 20, 19, 14, 13, 12, 11, 8, 5, 4, 2, 1, 0] σ (mset τ35 ((87 : Int)).toNat ((5 : Int)).toNat (-1)) := pV P35 (by omega) (by omega)
  clear q6
  generalize mset τ35 ((87 : Int)).toNat ((5 : Int)).toNat (-1) = τ36 at P36 e
  rw [b_132_247, bLt_f (by omega)] at e
  exact ⟨τ36, [43, 42, 41, 40, 39, 38, 37, 36, 35, 33, 31, 28, 27, 25, 24, 23, 22, 21, 20, 19, 14, 13, 12, 11, 8, 5, 4, 2, 1, 0], e, P36, pg_f P36 (by omega) (by omega) (by decide +kernel)⟩
end
