/-! PURE PART 53: reading, in the model: small methods -/
section
variable {d n a o : Nat} {T : Nat → Int} {σ τ : mM} {K : mK} {mx : Int × Int}
def eM1 (x : Int) (σ : mM) : mM := mset (mset σ 64 17 (σ 64 17 + 1)) 78 (σ 64 17).toNat x
def eM : List Int → mM → mM
  | [], σ => σ
  | x :: l, σ => eM l (eM1 x σ)
def sM (l : List Int) (b o : Nat) (σ : mM) : mM := mset (mset (eM l σ) 64 15 (b : Int)) 64 16 (o : Int)
theorem eM1_o {x : Int} {b j : Nat} (h : b ≠ 78) (h2 : b ≠ 64 ∨ j ≠ 17) : eM1 x σ b j = σ b j := by
  unfold eM1
  rw [ms_n (Or.inl h), ms_n h2]
theorem eM1_c {x : Int} : eM1 x σ 64 17 = σ 64 17 + 1 := by unfold eM1; rw [ms_n (by omega), ms_e]
theorem eM_o {b j : Nat} (h : b ≠ 78) (h2 : b ≠ 64 ∨ j ≠ 17) : ∀ (l : List Int) (σ : mM), eM l σ b j = σ b j := by
  intro l
  induction l with
  | nil => intro σ; rfl
  | cons x l ih => intro σ; exact (ih (eM1 x σ)).trans (eM1_o h h2)
theorem eM_c : ∀ (l : List Int) (σ : mM), eM l σ 64 17 = σ 64 17 + (l.length : Int) := by
  intro l
  induction l with
  | nil => intro σ; exact (Int.add_zero _).symm
  | cons x l ih =>
    intro σ
    refine (ih (eM1 x σ)).trans ?_
    rw [eM1_c, List.length_cons]
    omega
theorem eM_a : ∀ (l m : List Int) (σ : mM), eM m (eM l σ) = eM (l ++ m) σ := by
  intro l
  induction l with
  | nil => intro m σ; rfl
  | cons x l ih => intro m σ; exact ih m (eM1 x σ)
theorem eM1_t {x v : Int} {i : Nat} (hi : i ≠ 17) : eM1 x (mset σ 64 i v) = mset (eM1 x σ) 64 i v := by
  unfold eM1
  rw [ms_n (a := 64) (j := 17) (by omega), mset_c (c := 64) (e := 64) (by omega), mset_c (c := 64) (e := 78) (by omega)]
theorem eM_t {v : Int} {i : Nat} (hi : i ≠ 17) : ∀ (l : List Int) (σ : mM), eM l (mset σ 64 i v) = mset (eM l σ) 64 i v := by
  intro l
  induction l with
  | nil => intro σ; rfl
  | cons x l ih =>
    intro σ
    show eM l (eM1 x (mset σ 64 i v)) = mset (eM l (eM1 x σ)) 64 i v
    rw [eM1_t hi]
    exact ih _
theorem sM_a {l : List Int} {b c : Nat} : mset (sM l b o σ) 64 15 (c : Int) = sM l c o σ := by
  unfold sM
  rw [mset_c (by omega), mset_s]
theorem sM_b {l : List Int} {b p : Nat} : mset (sM l b o σ) 64 16 (p : Int) = sM l b p σ := mset_s
theorem sM_s {l m : List Int} {b c p : Nat} : sM m c p (sM l b o σ) = sM (l ++ m) c p σ := by
  unfold sM
  rw [eM_t (by omega), eM_t (by omega), mset_c (c := 64) (i := 16) (e := 64) (j := 15) (by omega), mset_s, mset_s, eM_a]
theorem sM_1 {l : List Int} {b : Nat} {x : Int} : eM1 x (sM l b o σ) = sM (l ++ [x]) b o σ := by
  unfold sM
  rw [eM1_t (by omega), eM1_t (by omega), ← eM_a]
  rfl
theorem sM_0 {b : Nat} (h : σ 64 15 = (b : Int)) (h' : σ 64 16 = (o : Int)) : sM [] b o σ = σ := by
  funext x y
  show mset (mset σ 64 15 (b : Int)) 64 16 (o : Int) x y = σ x y
  by_cases h1 : x = 64 ∧ y = 16
  · rw [h1.1, h1.2, ms_e, h']
  · rw [ms_n (by omega)]
    by_cases h2 : x = 64 ∧ y = 15
    · rw [h2.1, h2.2, ms_e, h]
    · rw [ms_n (by omega)]
/-- the model's reader at place a, o brackets open -/
def rM (T : Nat → Int) (n a o : Nat) (σ : mM) : Prop := n ≤ 120 ∧ a ≤ n ∧ o ≤ 6 ∧ σ 64 7 = (n : Int) ∧ σ 64 15 = (a : Int) ∧ σ 64 16 = (o : Int) ∧ (∀ i, i < n → σ 70 i = T i) ∧ 0 ≤ σ 64 17 ∧ σ 64 17 ≤ (a : Int)
theorem rM_s {l : List Int} {b p : Nat} (R : rM T n a o σ) (h1 : b ≤ n) (h2 : l.length + a ≤ b) (hp : p ≤ 6) : rM T n b p (sM l b p σ) := by
  obtain ⟨r1, r2, r3, r4, r5, r6, r7, r8, r9⟩ := R
  have c : sM l b p σ 64 17 = σ 64 17 + (l.length : Int) := by
    unfold sM
    rw [ms_n (by omega), ms_n (by omega), eM_c]
  refine ⟨r1, h1, hp, ?_, ?_, ms_e, fun i hi => ?_, by rw [c]; omega, by rw [c]; omega⟩
  · unfold sM; rw [ms_n (by omega), ms_n (by omega), eM_o (by omega) (by omega)]; exact r4
  · unfold sM; rw [ms_n (by omega), ms_e]
  · unfold sM; rw [ms_n (by omega), ms_n (by omega), eM_o (by omega) (by omega)]; exact r7 i hi
theorem s_151 (R : rM T n a o σ) : mcall (d + 1) 151 [(30, 64)] σ = some (nx T n a, σ) := by
  obtain ⟨r1, r2, r3, r4, r5, r6, r7, r8, r9⟩ := R
  rw [e_151, r5, r4]
  unfold nx
  by_cases h : a < n
  · rw [bLt_t (by omega), bIn_t (by omega), tn_n, r7 a h, if_pos h]
  · rw [bLt_f (by omega), if_neg h]
theorem s_152 {c : Int} (R : rM T n a o σ) : mcall (d + 2) 152 [(30, 64), (0, c)] σ = if nx T n a = c then some (1, sM [] (a + 1) o σ) else some (0, σ) := by
  have n120 := R.1
  have ra := R.2.1
  rw [e_152, s_151 R, bK_t]
  by_cases h : nx T n a = c
  · rw [bEq_t h, if_pos h, bIn_t (by omega), R.2.2.2.2.1, w32_n (by omega)]
    have e := sM_a (l := []) (b := a) (c := a + 1) (o := o) (σ := σ)
    rw [sM_0 R.2.2.2.2.1 R.2.2.2.2.2.1] at e
    rw [e]
  · rw [bEq_f h, if_neg h, bIn_t (by omega)]
theorem s_153 {x : Int} (h0 : 0 ≤ σ 64 17) (h1 : σ 64 17 < 200) : mcall (d + 1) 153 [(30, 64), (0, x)] σ = some (1, eM1 x σ) := by
  rw [e_153, bIn_t ⟨h0, h1⟩, bIn_t (by omega), w32_e (by omega)]
  rfl
theorem s_154 (R : rM T n a o σ) : mcall (d + 2) 154 [(30, 64)] σ = some (if 48 ≤ nx T n a ∧ nx T n a ≤ 57 then 1 else 0, σ) := by
  rw [e_154, s_151 R, bK_t]
  by_cases h1 : nx T n a < 48
  · rw [bLt_t h1, bIn_t (by omega), if_neg (by omega)]
  · rw [bLt_f (by omega), s_151 R, bK_t]
    by_cases h2 : 57 < nx T n a
    · rw [bLt_t h2, bIn_t (by omega), if_neg (by omega)]
    · rw [bLt_f (by omega), bIn_t (by omega), if_pos (by omega)]
theorem s_155 {c : Int} : mcall (d + 1) 155 [(0, c)] σ = some (nmO c, σ) := by
  rw [e_155, ← e_28 d c σ, s_28]
def rsM (o : Nat) (x : Bool × Nat × List Int) (σ : mM) : mA := some (if x.1 = true then 1 else 0, sM x.2.2 x.2.1 o σ)
theorem l_156 (R0 : rM T n a o σ) : ∀ (k j b : Nat) (v : Int), j + k = 4 → a ≤ b → b ≤ n → 0 ≤ v → v < 10 ^ j → mgo (mcall (d + 2)) mx 156 11 [(30, 64), (0, v), (0, (j : Int))] [] (sM [] b o σ) = some (1, sM [18 + (nuP T n k b v).2] (nuP T n k b v).1 o σ) := by
  intro k
  have n120 := R0.1
  have c0 := R0.2.2.2.2.2.2.2.1
  have c1 := R0.2.2.2.2.2.2.2.2
  have ra := R0.2.1
  have fin : ∀ (b j : Nat) (v : Int), 0 ≤ v → v ≤ 9999 → mgo (mcall (d + 2)) mx 156 57 [(30, 64), (0, v), (0, (j : Int))] [] (sM [] b o σ) = some (1, sM [18 + v] b o σ) := fun b j v h0 h9 => by
    have c : sM [] b o σ 64 17 = σ 64 17 := by
      unfold sM
      rw [ms_n (by omega), ms_n (by omega)]; rfl
    rw [f_156_57, w32_e (by omega), s_153 (by rw [c]; exact c0) (by rw [c]; omega), bK_t, bIn_t (by omega), sM_1]
    rfl
  induction k with
  | zero =>
    intro j b v hj h1 h2 h3 h4
    have hj : j = 4 := by omega
    subst hj
    have e4 : (10 : Int) ^ 4 = 10000 := rfl
    rw [e4] at h4
    rw [f_156_11, bLt_f (by omega), fin b 4 v h3 (by omega)]
    rfl
  | succ k ih =>
    intro j b v hj h1 h2 h3 h4
    have R := rM_s (b := b) (l := []) (p := o) R0 h2 (by show 0 + a ≤ b; omega) R0.2.2.1
    have v9 : v ≤ 999 := by
      have e3 : (10 : Int) ^ 3 = 1000 := rfl
      have e2 : (10 : Int) ^ 2 = 100 := rfl
      have e1 : (10 : Int) ^ 1 = 10 := rfl
      have e0 : (10 : Int) ^ 0 = 1 := rfl
      rcases (by omega : j = 0 ∨ j = 1 ∨ j = 2 ∨ j = 3) with rfl | rfl | rfl | rfl
      · rw [e0] at h4; omega
      · rw [e1] at h4; omega
      · rw [e2] at h4; omega
      · rw [e3] at h4; omega
    rw [f_156_11, bLt_t (by omega), s_154 R, bK_t]
    unfold nuP
    by_cases hd : 48 ≤ nx T n b ∧ nx T n b ≤ 57
    · have hb : b < n := nx_lt (T := T) (by omega)
      have t : sM [] b o σ 70 b = nx T n b := by
        unfold nx
        rw [if_pos hb]
        exact R.2.2.2.2.2.2.1 b hb
      rw [if_pos hd, if_pos hd, bEq_f (by omega), R.2.2.2.2.1, bIn_t (by omega), tn_n, t, w32_n (by omega), w32_n (by omega), sM_a, w32_e (x := 10 * v) (by omega), w32_e (x := 10 * v + nx T n b) (by omega), w32_e (x := 10 * v + nx T n b - 48) (by omega), show 10 * v + nx T n b - 48 = v * 10 + nx T n b - 48 from by omega]
      refine ih (j + 1) (b + 1) _ (by omega) (by omega) (by omega) (by omega) ?_
      rw [Int.pow_succ]
      generalize (10 : Int) ^ j = P at h4
      omega
    · rw [if_neg hd, if_neg hd, bEq_t rfl, fin b j v h3 (by omega)]
end
