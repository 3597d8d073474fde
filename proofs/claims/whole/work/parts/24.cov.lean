/-! PURE PART 4: more of the cover of the class -/
theorem sm_c {a b : Int} {σ : mM} (h : a = b) : (some (a, σ) : mA) = some (b, σ) := by rw [h]
theorem td_n (q k : Nat) : Int.tdiv (q : Int) (k : Int) = ((q / k : Nat) : Int) := rfl
theorem tm_n (q k : Nat) : Int.tmod (q : Int) (k : Int) = ((q % k : Nat) : Int) := rfl
def nearA (T : Nat → Int) (q : Nat) : Int := (if 6 ≤ q then T (q - 6) else 0) + (if q % 6 < 5 then T (q + 1) else 0) + (if q < 24 then T (q + 6) else 0) + (if 0 < q % 6 then T (q - 1) else 0)
theorem near_w {a b c d : Int} (ha : 0 ≤ a ∧ a ≤ 9) (hb : 0 ≤ b ∧ b ≤ 9) (hc : 0 ≤ c ∧ c ≤ 9) (hd : 0 ≤ d ∧ d ≤ 9) : w32 (w32 (w32 (a + b) + c) + d) = a + b + c + d := by
  rw [w32_e (x := a + b) (by omega), w32_e (x := a + b + c) (by omega), w32_e (by omega)]
theorem s_13 {d c q : Nat} {τ : mM} (hq : q < 30) (hT : ∀ j, j < 30 → 0 ≤ τ (c + 2) j ∧ τ (c + 2) j ≤ 9) : mcall (d + 1) 13 [(21, (c : Int)), (0, (q : Int))] τ = some (nearA (τ (c + 2)) q, τ) := by
  have t : Int.tmod (q : Int) 6 = ((q % 6 : Nat) : Int) := rfl
  have j1 : 6 ≤ q → w32 ((q : Int) - 6) = ((q - 6 : Nat) : Int) := fun h => by rw [w32_e (by omega)]; omega
  have j2 : w32 ((q : Int) + 1) = ((q + 1 : Nat) : Int) := w32_n (by omega)
  have j3 : w32 ((q : Int) + 6) = ((q + 6 : Nat) : Int) := by rw [w32_e (by omega)]; omega
  have j4 : 0 < q % 6 → w32 ((q : Int) - 1) = ((q - 1 : Nat) : Int) := fun h => by rw [w32_e (by omega)]; omega
  have b1 : 6 ≤ q → 0 ≤ τ (c + 2) (q - 6) ∧ τ (c + 2) (q - 6) ≤ 9 := fun h => hT _ (by omega)
  have b2 : q % 6 < 5 → 0 ≤ τ (c + 2) (q + 1) ∧ τ (c + 2) (q + 1) ≤ 9 := fun h => hT _ (by omega)
  have b3 : q < 24 → 0 ≤ τ (c + 2) (q + 6) ∧ τ (c + 2) (q + 6) ≤ 9 := fun h => hT _ (by omega)
  have b4 : 0 < q % 6 → 0 ≤ τ (c + 2) (q - 1) ∧ τ (c + 2) (q - 1) ≤ 9 := fun h => hT _ (by omega)
  rw [e_13, bEq_f (by omega), t]
  unfold nearA
  generalize τ (c + 2) = T at *
  by_cases h1 : q < 6 <;> by_cases h2 : q % 6 < 5 <;> by_cases h3 : q < 24 <;> by_cases h4 : 0 < q % 6
  all_goals first
    | (exfalso; omega)
    | (repeat (first | rw [bLt_t (by omega)] | rw [bLt_f (by omega)] | rw [j1 (by omega)] | rw [j2] | rw [j3] | rw [j4 (by omega)] | rw [bIn_t (by omega)])
       refine sm_c ?_
       simp only [tn_n]
       rw [near_w (by omega) (by omega) (by omega) (by omega)]
       repeat (first | rw [if_pos (by omega)] | rw [if_neg (by omega)]))
def besA (q way : Nat) : Int := if way = 0 then (if 6 ≤ q then (q : Int) - 6 else -1) else if way = 1 then (if q % 6 < 5 then (q : Int) + 1 else -1) else if way = 2 then (if q < 24 then (q : Int) + 6 else -1) else (if 0 < q % 6 then (q : Int) - 1 else -1)
theorem s_11 {d q way : Nat} {τ : mM} (hq : q < 30) (hw : way < 4) : mcall (d + 1) 11 [(0, (q : Int)), (0, (way : Int))] τ = some (besA q way, τ) := by
  have t : Int.tmod (q : Int) 6 = ((q % 6 : Nat) : Int) := rfl
  rw [e_11, t, bEq_f (x := 6) (by omega), bEq_f (x := 6) (by omega)]
  unfold besA
  rcases (by omega : way = 0 ∨ way = 1 ∨ way = 2 ∨ way = 3) with rfl | rfl | rfl | rfl
  · rw [bEq_t (by rfl), if_pos rfl]
    by_cases h : 6 ≤ q
    · rw [bLt_f (by omega), if_pos h, w32_e (by omega)]
    · rw [bLt_t (by omega), if_neg h]
  · rw [bEq_f (by omega), bEq_t (by rfl), if_neg (by omega), if_pos rfl]
    by_cases h : q % 6 < 5
    · rw [bLt_t (by omega), if_pos h, w32_e (by omega)]
    · rw [bLt_f (by omega), if_neg h]
  · rw [bEq_f (by omega), bEq_f (by omega), bEq_t (by rfl), if_neg (by omega), if_neg (by omega), if_pos rfl]
    by_cases h : q < 24
    · rw [bLt_t (by omega), if_pos h, w32_e (by omega)]
    · rw [bLt_f (by omega), if_neg h]
  · rw [bEq_f (by omega), bEq_f (by omega), bEq_f (by omega), if_neg (by omega), if_neg (by omega), if_neg (by omega)]
    by_cases h : 0 < q % 6
    · rw [bLt_t (by omega), if_pos h, w32_e (by omega)]
    · rw [bLt_f (by omega), if_neg h]
/-- not at the rim -/
def inner (q : Nat) : Prop := 0 < q % 6 ∧ q % 6 < 5 ∧ 0 < q / 6 ∧ q / 6 < 4
theorem s_12 {d q : Nat} {τ : mM} (hq : q < 30) : mcall (d + 1) 12 [(0, (q : Int))] τ = some ((if 0 < q % 6 ∧ q % 6 < 5 ∧ 0 < q / 6 ∧ q / 6 < 4 then 1 else 0), τ) := by
  have t : Int.tmod (q : Int) 6 = ((q % 6 : Nat) : Int) := rfl
  have v : w32 (Int.tdiv (q : Int) 6) = ((q / 6 : Nat) : Int) := by rw [show Int.tdiv (q : Int) 6 = ((q / 6 : Nat) : Int) from rfl, w32_e (by omega)]
  rw [e_12, t, v, bEq_f (by omega), bEq_f (by omega)]
  by_cases h1 : 0 < q % 6
  · rw [bLt_t (by omega)]
    by_cases h2 : q % 6 < 5
    · rw [bLt_t (by omega)]
      by_cases h3 : 0 < q / 6
      · rw [bLt_t (by omega)]
        by_cases h4 : q / 6 < 4
        · rw [bLt_t (by omega), bIn_t (by omega), if_pos ⟨h1, h2, h3, h4⟩]
        · rw [bLt_f (by omega), bIn_t (by omega), if_neg (by omega)]
      · rw [bLt_f (by omega), bIn_t (by omega), if_neg (by omega)]
    · rw [bLt_f (by omega), bIn_t (by omega), if_neg (by omega)]
  · rw [bLt_f (by omega), bIn_t (by omega), if_neg (by omega)]
/-- the k-th of the nine squares about one -/
def nin (q k : Nat) : Nat := q + 6 * (k / 3) + k % 3 - 7
theorem nin_lt {q k : Nat} (h : inner q) (hk : k < 9) : nin q k < 30 := by unfold nin inner at *; omega
theorem s_20 {d q k : Nat} {τ : mM} (h : inner q) (hk : k < 9) : mcall (d + 1) 20 [(0, (q : Int)), (0, (k : Int))] τ = some ((nin q k : Int), τ) := by
  have t : Int.tmod (k : Int) 3 = ((k % 3 : Nat) : Int) := rfl
  have v : Int.tdiv (k : Int) 3 = ((k / 3 : Nat) : Int) := rfl
  rw [e_20, t, v, bEq_f (by omega), bEq_f (by omega)]
  unfold inner at h
  refine sm_c ?_
  unfold nin
  have u1 : k / 3 < 3 := by omega
  have u2 : k % 3 < 3 := by omega
  have u3 : 7 ≤ q := by omega
  have u4 : q < 30 := by omega
  generalize k / 3 = a at *
  generalize k % 3 = r at *
  rw [w32_e (x := (a : Int)) (by omega), w32_e (x := (a : Int) - 1) (by omega), w32_e (x := ((a : Int) - 1) * 6) (by omega), w32_e (x := (q : Int) + ((a : Int) - 1) * 6) (by omega), w32_e (x := (q : Int) + ((a : Int) - 1) * 6 + (r : Int)) (by omega), w32_e (by omega)]
  omega
def sumA (q : Nat) (V : cV) : Nat → Int
  | 0 => 0
  | n + 1 => sumA q V n + V 1 (nin q n)
def mixI (q : Nat) (v : Int) (V : cV) : Nat → cV
  | 0 => V
  | n + 1 => up (mixI q v V n) 1 (nin q n) v
def mixA (q : Nat) (V : cV) : cV := up (mixI q (Int.tdiv (sumA q V 9) 9) V 9) 1 q (if Int.tdiv (sumA q V 9) 9 + Int.tmod (sumA q V 9) 9 < 9 then Int.tdiv (sumA q V 9) 9 + Int.tmod (sumA q V 9) 9 else 9)
theorem sumA_b {q : Nat} {V : cV} (ok : okC V) : ∀ n : Nat, 0 ≤ sumA q V n ∧ sumA q V n ≤ 9 * (n : Int) := by
  intro n
  induction n with
  | zero => exact ⟨Int.le_refl _, Int.le_refl _⟩
  | succ n ih =>
    have := ok.2.2.1 (nin q n)
    unfold sumA
    omega
theorem s_19a {d c q : Nat} {mx : Int × Int} {V : cV} {σ : mM} (h : inner q) (ok : okC V) : ∀ (n k : Nat), k + n = 9 → mgo (mcall (d + 1)) mx 19 4 [(21, (c : Int)), (0, (q : Int)), (0, sumA q V k), (0, (k : Int))] [] (sL (c + 1) (c + 2) (c + 3) c 4 (c + 4) 0 V σ) = mgo (mcall (d + 1)) mx 19 31 [(21, (c : Int)), (0, (q : Int)), (0, sumA q V 9), (0, 0)] [] (sL (c + 1) (c + 2) (c + 3) c 4 (c + 4) 0 V σ) := by
  intro n
  induction n with
  | zero =>
    intro k hk
    rw [b_19_4, bLt_f (by omega), show k = 9 by omega]
  | succ n ih =>
    intro k hk
    have hn := nin_lt h (k := k) (by omega)
    have b0 := sumA_b (q := q) ok k
    have b1 := ok.2.2.1 (nin q k)
    rw [b_19_4, bLt_t (by omega), s_20 h (by omega), bK_t, bIn_t (by omega), tn_n, sL_2 (dC c) hn, w32_n (by omega), w32_e (by omega)]
    exact ih (k + 1) (by omega)
theorem s_19b {d c q : Nat} {mx : Int × Int} {V : cV} {σ : mM} {S : Int} (h : inner q) (hS : 0 ≤ S ∧ S ≤ 81) : ∀ (n k : Nat), k + n = 9 → mgo (mcall (d + 1)) mx 19 31 [(21, (c : Int)), (0, (q : Int)), (0, S), (0, (k : Int))] [] (sL (c + 1) (c + 2) (c + 3) c 4 (c + 4) 0 (mixI q (Int.tdiv S 9) V k) σ) = some (0, sL (c + 1) (c + 2) (c + 3) c 4 (c + 4) 0 (up (mixI q (Int.tdiv S 9) V 9) 1 q (if Int.tdiv S 9 + Int.tmod S 9 < 9 then Int.tdiv S 9 + Int.tmod S 9 else 9)) σ) := by
  intro n
  have e1 : 0 ≤ Int.tdiv S 9 ∧ Int.tdiv S 9 ≤ 9 := by rw [Int.tdiv_eq_ediv_of_nonneg hS.1]; omega
  have e2 : 0 ≤ Int.tmod S 9 ∧ Int.tmod S 9 < 9 := by rw [Int.tmod_eq_emod_of_nonneg hS.1]; omega
  induction n with
  | zero =>
    intro k hk
    have hq : q < 30 := by unfold inner at h; omega
    rw [b_19_31, bLt_f (by omega), bEq_f (by omega), bEq_f (by omega), bIn_t (by omega), tn_n, w32_e (x := Int.tdiv S 9) (by omega), w32_e (by omega), uL_2 (dC c) hq, show k = 9 by omega]
  | succ n ih =>
    intro k hk
    have hn := nin_lt h (k := k) (by omega)
    rw [b_19_31, bLt_t (by omega), s_20 h (by omega), bK_t, bEq_f (by omega), bIn_t (by omega), tn_n, uL_2 (dC c) hn, w32_n (by omega), w32_e (by omega)]
    exact ih (k + 1) (by omega)
theorem s_19 {d c q : Nat} {V : cV} {σ : mM} (h : inner q) (ok : okC V) : mcall (d + 2) 19 [(21, (c : Int)), (0, (q : Int))] (sL (c + 1) (c + 2) (c + 3) c 4 (c + 4) 0 V σ) = some (0, sL (c + 1) (c + 2) (c + 3) c 4 (c + 4) 0 (mixA q V) σ) := by
  have b := sumA_b (q := q) ok 9
  rw [e_19]
  have h1 := s_19a (d := d) (c := c) (mx := mX 19 (sL (c + 1) (c + 2) (c + 3) c 4 (c + 4) 0 V σ)) (σ := σ) h ok 9 0 rfl
  refine Eq.trans h1 ?_
  exact s_19b (V := V) (S := sumA q V 9) h (by omega) 9 0 rfl
