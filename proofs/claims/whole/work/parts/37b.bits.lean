/-! PURE PART 18: bits set one by one -/
/-- bits set from below -/
def ftA (P : Nat → Bool) : Nat → Int
  | 0 => 0
  | v + 1 => bif P v then or1 (ftA P v) v else ftA P v
def bnA (P : Nat → Bool) : Nat → Nat
  | 0 => 0
  | v + 1 => bnA P v + (bif P v then 2 ^ v else 0)
def pcA (P : Nat → Bool) : Nat → Nat
  | 0 => 0
  | v + 1 => pcA P v + (bif P v then 1 else 0)
def lsA (P : Nat → Bool) : Nat → Int
  | 0 => -2
  | v + 1 => bif P v then (if lsA P v = -2 then (v : Int) else lsA P v) else lsA P v
theorem bnA_lt (P : Nat → Bool) : ∀ n, bnA P n < 2 ^ n := by
  intro n
  induction n with
  | zero => exact Nat.one_pos
  | succ n ih =>
    show bnA P n + (bif P n then 2 ^ n else 0) < 2 ^ (n + 1)
    rw [Nat.pow_succ]
    cases P n <;> simp only [cond_true, cond_false] <;> omega
theorem ft_bn (P : Nat → Bool) : ∀ n, n ≤ 13 → ftA P n = ((bnA P n : Nat) : Int) := by
  intro n
  induction n with
  | zero => intro _; rfl
  | succ n ih =>
    intro h
    show (bif P n then or1 (ftA P n) n else ftA P n) = ((bnA P n + (bif P n then 2 ^ n else 0) : Nat) : Int)
    rw [ih (by omega)]
    cases P n
    · rfl
    · exact or_lo n (by omega) _ (bnA_lt P n)
theorem bc_pc (P : Nat → Bool) : ∀ n, n ≤ 13 → bcA (ftA P n) = ((pcA P n : Nat) : Int) := by
  intro n
  induction n with
  | zero => intro _; exact bc_0
  | succ n ih =>
    intro h
    have ih := ih (by omega)
    rw [ft_bn P n (by omega)] at ih
    rw [ft_bn P (n + 1) h]
    show bcA ((bnA P n + (bif P n then 2 ^ n else 0) : Nat) : Int) = ((pcA P n + (bif P n then 1 else 0) : Nat) : Int)
    cases P n
    · exact ih
    · simp only [cond_true]
      rw [bc_s n (by omega) _ (bnA_lt P n), ih]
      omega
theorem ls_b (P : Nat → Bool) : ∀ n, lsA P n = -2 ∨ 0 ≤ lsA P n := by
  intro n
  induction n with
  | zero => exact Or.inl rfl
  | succ n ih =>
    show (bif P n then (if lsA P n = -2 then (n : Int) else lsA P n) else lsA P n) = -2 ∨ 0 ≤ (bif P n then (if lsA P n = -2 then (n : Int) else lsA P n) else lsA P n)
    cases P n
    · exact ih
    · simp only [cond_true]
      split <;> omega
theorem nz_ls (P : Nat → Bool) : ∀ n, n ≤ 13 → lsA P n = if ftA P n = 0 then -2 else nzA (ftA P n) := by
  intro n
  induction n with
  | zero => intro _; rfl
  | succ n ih =>
    intro h
    have ih := ih (by omega)
    have hb := bnA_lt P n
    have hp : 0 < 2 ^ n := Nat.two_pow_pos n
    rw [ft_bn P n (by omega)] at ih
    rw [ft_bn P (n + 1) h]
    show (bif P n then (if lsA P n = -2 then (n : Int) else lsA P n) else lsA P n) = if ((bnA P n + (bif P n then 2 ^ n else 0) : Nat) : Int) = 0 then -2 else nzA ((bnA P n + (bif P n then 2 ^ n else 0) : Nat) : Int)
    cases P n
    · exact ih
    · simp only [cond_true]
      have h1 : ((bnA P n + 2 ^ n : Nat) : Int) ≠ 0 := by
        have : bnA P n + 2 ^ n ≠ 0 := by omega
        exact_mod_cast this
      rw [if_neg h1, nz_s n (by omega) _ hb]
      have h8 : 2 ^ n ≤ 2 ^ 12 := Nat.pow_le_pow_right (by omega : 0 < 2) (by omega : n ≤ 12)
      by_cases h0 : bnA P n = 0
      · rw [if_pos h0, ih, if_pos (by omega)]
      · have := nz_b (bnA P n) (Nat.lt_of_lt_of_le hb h8) h0
        rw [if_neg h0, ih, if_neg (by omega), if_neg (by omega)]
theorem pcA_le (P : Nat → Bool) : ∀ n, pcA P n ≤ n := by
  intro n
  induction n with
  | zero => exact Nat.le_refl _
  | succ n ih =>
    show pcA P n + (bif P n then 1 else 0) ≤ n + 1
    cases P n <;> simp only [cond_true, cond_false] <;> omega
/-- from above: how many (0), the least (1), bits (2) -/
def soA (P : Nat → Bool) (w : Int) : Nat → Int → Int → Int → Int
  | 0, a, b, c => if w = 0 then a else if w = 1 then b else c
  | m + 1, a, b, c => bif P m then soA P w m (w32 (a + 1)) (m : Int) (or1 c m) else soA P w m a b c
theorem so_0 (P : Nat → Bool) {b c : Int} : ∀ (m : Nat) (a b c : Int), 0 ≤ a → a + (m : Int) ≤ 1000 → m ≤ 13 → soA P 0 m a b c = a + ((pcA P m : Nat) : Int) := by
  intro m
  induction m with
  | zero => intro a b c _ _ _; simp [soA, pcA]
  | succ m ih =>
    intro a b c h0 h1 hm
    have hp := pcA_le P m
    show (bif P m then soA P 0 m (w32 (a + 1)) (m : Int) (or1 c m) else soA P 0 m a b c) = a + ((pcA P m + (bif P m then 1 else 0) : Nat) : Int)
    cases P m
    · simp only [cond_false]
      exact ih a b c h0 (by omega) (by omega)
    · simp only [cond_true]
      rw [w32_e (by omega), ih (a + 1) _ _ (by omega) (by omega) (by omega)]
      omega
theorem so_1 (P : Nat → Bool) : ∀ (m : Nat) (a b c : Int), soA P 1 m a b c = if lsA P m = -2 then b else lsA P m := by
  intro m
  induction m with
  | zero => intro a b c; rfl
  | succ m ih =>
    intro a b c
    show (bif P m then soA P 1 m (w32 (a + 1)) (m : Int) (or1 c m) else soA P 1 m a b c) = if (bif P m then (if lsA P m = -2 then (m : Int) else lsA P m) else lsA P m) = -2 then b else (bif P m then (if lsA P m = -2 then (m : Int) else lsA P m) else lsA P m)
    cases P m
    · exact ih _ _ _
    · simp only [cond_true]
      rw [ih]
      by_cases h : lsA P m = -2
      · rw [if_pos h, if_neg (by omega)]
      · rw [if_neg h, if_neg h]
theorem so_2 (P : Nat → Bool) : ∀ (m y : Nat) (a b : Int), m ≤ 13 → y < 2 ^ (13 - m) → soA P 2 m a b ((y * 2 ^ m : Nat) : Int) = ((y * 2 ^ m + bnA P m : Nat) : Int) := by
  intro m
  induction m with
  | zero => intro y a b _ _; rfl
  | succ m ih =>
    intro y a b hm hy
    have e1 : y * 2 ^ (m + 1) = (2 * y) * 2 ^ m := by rw [Nat.pow_succ, Nat.mul_comm (2 ^ m) 2, ← Nat.mul_assoc, Nat.mul_comm y 2]
    have e2 : 2 ^ (13 - m) = 2 ^ (13 - (m + 1)) * 2 := by rw [← Nat.pow_succ]; exact congrArg (2 ^ ·) (by omega)
    show (bif P m then soA P 2 m (w32 (a + 1)) (m : Int) (or1 ((y * 2 ^ (m + 1) : Nat) : Int) m) else soA P 2 m a b ((y * 2 ^ (m + 1) : Nat) : Int)) = ((y * 2 ^ (m + 1) + (bnA P m + (bif P m then 2 ^ m else 0)) : Nat) : Int)
    cases P m
    · simp only [cond_false]
      rw [e1, ih (2 * y) a b (by omega) (by omega)]
      rfl
    · simp only [cond_true]
      rw [or_hi m (by omega) y (by rw [show 12 - m = 13 - (m + 1) by omega]; exact hy), e1, show 2 * y * 2 ^ m + 2 ^ m = (2 * y + 1) * 2 ^ m by rw [Nat.add_mul, Nat.one_mul], ih (2 * y + 1) _ _ (by omega) (by omega), Nat.add_mul, Nat.one_mul]
      omega
theorem so_e (P : Nat → Bool) {m : Nat} (hm : m ≤ 13) : soA P 0 m 0 (-2) 0 = bcA (ftA P m) ∧ (soA P 1 m 0 (-2) 0 = if ftA P m = 0 then -2 else nzA (ftA P m)) ∧ soA P 2 m 0 (-2) 0 = ftA P m := by
  refine ⟨?_, ?_, ?_⟩
  · rw [so_0 P (b := 0) (c := 0) m 0 (-2) 0 (by omega) (by omega) hm, bc_pc P m hm]; omega
  · rw [so_1, ← nz_ls P m hm]; split <;> omega
  · have z := so_2 P m 0 0 (-2) hm (Nat.two_pow_pos _)
    rw [Nat.zero_mul, Nat.zero_add] at z
    rw [ft_bn P m hm]
    exact z
