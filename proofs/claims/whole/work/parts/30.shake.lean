/-! PURE PART 10: the model's shake -/
theorem nin_3 {q y x : Nat} (hq : inner q) (hx : x < 3) : ((nin q (3 * y + x) : Nat) : Int) = (q : Int) + 6 * ((y : Int) - 1) + ((x : Int) - 1) := by
  unfold inner at hq
  unfold nin
  omega
theorem sh_w {q y x : Nat} (hq : inner q) (hy : y < 3) (hx : x < 3) : w32 ((w32 ((q : Int) + (w32 (6 * ((y : Int) - 1))))) + ((x : Int) - 1)) = ((nin q (3 * y + x) : Nat) : Int) := by
  rw [nin_3 hq hx]
  unfold inner at hq
  have hq3 : q < 30 := by omega
  rw [w32_e (x := 6 * ((y : Int) - 1)) (by omega), w32_e (x := (q : Int) + 6 * ((y : Int) - 1)) (by omega), w32_e (by omega)]
theorem sh_s {x : Nat} (hx : x < 3) : w32 ((x : Int) - 1 + 1) = ((x + 1 : Nat) : Int) - 1 := by rw [w32_e (by omega)]; omega
theorem s_177a {K : mK} {mx : Int × Int} {q y x : Nat} {V : cV} {σ : mM} (hq : inner q) (ok : okC V) (hy : y < 3) (hx : x < 3) : mgo K mx 177 12 [(30, 64), (0, (q : Int)), (0, sumA q V (3 * y + x)), (0, (y : Int) - 1), (0, (x : Int) - 1)] [] (sL 65 66 67 69 0 64 6 V σ) = mgo K mx 177 12 [(30, 64), (0, (q : Int)), (0, sumA q V (3 * y + (x + 1))), (0, (y : Int) - 1), (0, ((x + 1 : Nat) : Int) - 1)] [] (sL 65 66 67 69 0 64 6 V σ) := by
  have hn := nin_lt hq (k := 3 * y + x) (by omega)
  have b0 := sumA_b (q := q) ok (3 * y + x)
  have b1 := ok.2.2.1 (nin q (3 * y + x))
  rw [b_177_12, bLt_t (by omega), sh_w hq hy hx, bIn_t (by omega), tn_n, sL_2 dM hn, w32_e (x := sumA q V (3 * y + x) + V 1 (nin q (3 * y + x))) (by omega), sh_s hx]
  rfl
theorem s_177r {K : mK} {mx : Int × Int} {q y : Nat} {V : cV} {σ : mM} (hq : inner q) (ok : okC V) (hy : y < 3) : mgo K mx 177 12 [(30, 64), (0, (q : Int)), (0, sumA q V (3 * y)), (0, (y : Int) - 1), (0, -1)] [] (sL 65 66 67 69 0 64 6 V σ) = mgo K mx 177 4 [(30, 64), (0, (q : Int)), (0, sumA q V (3 * (y + 1))), (0, ((y + 1 : Nat) : Int) - 1), (0, 2)] [] (sL 65 66 67 69 0 64 6 V σ) := by
  refine Eq.trans (s_177a (x := 0) hq ok hy (by omega)) (Eq.trans (s_177a (x := 1) hq ok hy (by omega)) (Eq.trans (s_177a (x := 2) hq ok hy (by omega)) ?_))
  have b := b_177_12 K mx (q : Int) (sumA q V (3 * y + 3)) ((y : Int) - 1) 2 (sL 65 66 67 69 0 64 6 V σ)
  refine Eq.trans b ?_
  rw [bLt_f (by omega), sh_s hy]
  rfl
theorem s_177b {K : mK} {mx : Int × Int} {q y x : Nat} {S : Int} {V : cV} {σ : mM} (hq : inner q) (hS : 0 ≤ S ∧ S ≤ 81) (hy : y < 3) (hx : x < 3) : mgo K mx 177 57 [(30, 64), (0, (q : Int)), (0, S), (0, (y : Int) - 1), (0, (x : Int) - 1)] [] (sL 65 66 67 69 0 64 6 (mixI q (Int.tdiv S 9) V (3 * y + x)) σ) = mgo K mx 177 57 [(30, 64), (0, (q : Int)), (0, S), (0, (y : Int) - 1), (0, ((x + 1 : Nat) : Int) - 1)] [] (sL 65 66 67 69 0 64 6 (mixI q (Int.tdiv S 9) V (3 * y + (x + 1))) σ) := by
  have e1 : 0 ≤ Int.tdiv S 9 ∧ Int.tdiv S 9 ≤ 9 := by rw [Int.tdiv_eq_ediv_of_nonneg hS.1]; omega
  have hn := nin_lt hq (k := 3 * y + x) (by omega)
  rw [b_177_57, bLt_t (by omega), bEq_f (by omega), sh_w hq hy hx, bIn_t (by omega), tn_n, uL_2 dM hn, w32_e (x := Int.tdiv S 9) (by omega), sh_s hx]
  rfl
theorem s_177q {K : mK} {mx : Int × Int} {q y : Nat} {S : Int} {V : cV} {σ : mM} (hq : inner q) (hS : 0 ≤ S ∧ S ≤ 81) (hy : y < 3) : mgo K mx 177 57 [(30, 64), (0, (q : Int)), (0, S), (0, (y : Int) - 1), (0, -1)] [] (sL 65 66 67 69 0 64 6 (mixI q (Int.tdiv S 9) V (3 * y)) σ) = mgo K mx 177 49 [(30, 64), (0, (q : Int)), (0, S), (0, ((y + 1 : Nat) : Int) - 1), (0, 2)] [] (sL 65 66 67 69 0 64 6 (mixI q (Int.tdiv S 9) V (3 * (y + 1))) σ) := by
  refine Eq.trans (s_177b (x := 0) hq hS hy (by omega)) (Eq.trans (s_177b (x := 1) hq hS hy (by omega)) (Eq.trans (s_177b (x := 2) hq hS hy (by omega)) ?_))
  have b := b_177_57 K mx (q : Int) S ((y : Int) - 1) 2 (sL 65 66 67 69 0 64 6 (mixI q (Int.tdiv S 9) V (3 * y + 3)) σ)
  refine Eq.trans b ?_
  rw [bLt_f (by omega), sh_s hy]
  rfl
theorem s_177 {d q : Nat} {V : cV} {σ : mM} (hq : inner q) (ok : okC V) : mcall (d + 1) 177 [(30, 64), (0, (q : Int))] (sL 65 66 67 69 0 64 6 V σ) = some (0, sL 65 66 67 69 0 64 6 (mixA q V) σ) := by
  have hS := sumA_b (q := q) ok 9
  have hq3 : q < 30 := by unfold inner at hq; omega
  rw [e_177, b_177_4a, bLt_t (by omega)]
  refine Eq.trans (s_177r (y := 0) hq ok (by omega)) ?_
  rw [b_177_4, bLt_t (by omega)]
  refine Eq.trans (s_177r (y := 1) hq ok (by omega)) ?_
  rw [b_177_4, bLt_t (by omega)]
  refine Eq.trans (s_177r (y := 2) hq ok (by omega)) ?_
  rw [b_177_4, bLt_f (by omega), b_177_49, bLt_t (by omega)]
  unfold mixA
  rw [show 3 * (2 + 1) = 9 from rfl]
  generalize sumA q V 9 = S at *
  have hS : 0 ≤ S ∧ S ≤ 81 := by omega
  have e1 : 0 ≤ Int.tdiv S 9 ∧ Int.tdiv S 9 ≤ 9 := by rw [Int.tdiv_eq_ediv_of_nonneg hS.1]; omega
  have e2 : 0 ≤ Int.tmod S 9 ∧ Int.tmod S 9 < 9 := by rw [Int.tmod_eq_emod_of_nonneg hS.1]; omega
  refine Eq.trans (s_177q (y := 0) (V := V) hq hS (by omega)) ?_
  rw [b_177_49, bLt_t (by omega)]
  refine Eq.trans (s_177q (y := 1) (V := V) hq hS (by omega)) ?_
  rw [b_177_49, bLt_t (by omega)]
  refine Eq.trans (s_177q (y := 2) (V := V) hq hS (by omega)) ?_
  rw [b_177_49, bLt_f (by omega), bEq_f (by omega), bEq_f (by omega), bIn_t (by omega), tn_n, w32_e (x := Int.tdiv S 9) (by omega), w32_e (by omega), uL_2 dM hq3]
