/-! PURE PART 56: reading, in the model: an expression -/
section
variable {n o D : Nat} {T : Nat → Int} {τ : mM} {mx : Int × Int}
theorem chn {f r M m' a : Nat} {Lo : mV → List mV} (h2 : r ≠ 2) (h5 : r < 5) (step : stp T n o D r M m' mx Lo) (E : mcall (D + 3) M [(30, 64)] τ = bK (mcall (D + 2) m' [(30, 64)] τ) (fun r1 s2 => bEq r1 0 (bIn 0 2 (some (0, s2))) (mgo (mcall (D + 2)) mx M 9 (Lo (2, 0)) [] s2))) (ih : ∀ a τ, rM T n a o τ → mcall (D + 2) m' [(30, 64)] τ = rsM o (pr T n f (r + 1) o a) τ) (R : rM T n a o τ) : mcall (D + 3) M [(30, 64)] τ = rsM o (pr T n (f + 1) r o a) τ := by
  have G := pr_g (T := T) f (r + 1) o a R.2.1
  rw [E, ih a τ R]
  show _ = rsM o (if r < 5 then (match pr T n f (r + 1) o a with
    | (false, b, l) => (false, b, l)
    | (true, b, l) => lp T n (fun a => pr T n f (r + 1) o a) r (if r = 2 then 1 else n) b l) else _) τ
  rw [if_pos h5]
  rcases hx : pr T n f (r + 1) o a with ⟨ok, b, l⟩
  rw [hx] at G
  obtain ⟨g1, g2, g3, g4⟩ := G
  simp only at g1 g2 g3
  unfold rsM
  simp only
  rw [bK_t]
  cases ok with
  | false => rw [if_neg (by decide), bEq_t rfl, bIn_t (by omega)]
  | true =>
    have g6 := (g4 rfl).2
    simp only at g6
    rw [if_pos rfl, bEq_f (by omega), if_neg h2]
    exact lpM step ih (fun a ha => pr_g f (r + 1) o a ha) (by omega) R n b l (2, 0) (Or.inl rfl) (by omega) g6 g2 g3
theorem m159 {f a : Nat} (ih : ∀ a τ, rM T n a o τ → mcall (D + 2) 158 [(30, 64)] τ = rsM o (pr T n f 3 o a) τ) (R : rM T n a o τ) : mcall (D + 3) 159 [(30, 64)] τ = rsM o (pr T n (f + 1) 2 o a) τ := by
  have n120 := R.1
  have o6 := R.2.2.1
  have c0 := R.2.2.2.2.2.2.2.1
  have c1 := R.2.2.2.2.2.2.2.2
  have G := pr_g (T := T) f 3 o a R.2.1
  rw [e_159, ih a τ R]
  show _ = rsM o (match pr T n f 3 o a with
    | (false, b, l) => (false, b, l)
    | (true, b, l) => lp T n (fun a => pr T n f 3 o a) 2 1 b l) τ
  rcases hx : pr T n f 3 o a with ⟨ok, b, l⟩
  rw [hx] at G
  obtain ⟨g1, g2, g3, g4⟩ := G
  simp only at g1 g2 g3
  unfold rsM
  simp only
  rw [bK_t]
  cases ok with
  | false => rw [if_neg (by decide), bEq_t rfl, bIn_t (by omega)]
  | true =>
    have R3 : rM T n b o (sM l b o τ) := rM_s R g2 g3 o6
    have tl : rkO (nx T n b) = 2 → (bK (mcall (D + 2) 158 [(30, 64)] (mset (sM l b o τ) 64 15 (w32 (sM l b o τ 64 15 + 1)))) (fun r5 s6 => bEq r5 0 (bIn 0 2 (some (0, s6))) (bK (mcall (D + 2) 153 [(30, 64), (0, opO (nx T n b))] s6) (fun r7 s8 => bEq r7 0 (bIn 0 2 (some (0, s8))) (bIn 1 2 (some (1, s8))))))) = rsM o (lp T n (fun a => pr T n f 3 o a) 2 1 b l) τ := by
      intro h
      have hn : b < n := nx_lt (T := T) (fun e => by rw [e] at h; have : rkO (-1) = 9 := rfl; omega)
      have g' := pr_g (T := T) f 3 o (b + 1) hn
      have R4 : rM T n (b + 1) o (sM l (b + 1) o τ) := rM_s R hn (by omega) o6
      rw [sM_p R3, sM_s, List.append_nil, ih (b + 1) _ R4]
      unfold lp
      rw [if_pos h]
      rcases hy : pr T n f 3 o (b + 1) with ⟨ok, b', m⟩
      rw [hy] at g'
      obtain ⟨k1, k2, k3, k4⟩ := g'
      simp only at k1 k2 k3
      unfold rsM
      simp only
      rw [bK_t, sM_s]
      cases ok with
      | false => rw [if_neg (by decide), bEq_t rfl, bIn_t (by omega)]
      | true =>
        rw [if_pos rfl, bEq_f (by omega), s_153 (by rw [sM_17]; omega) (by rw [sM_17, List.length_append]; omega), bK_t, bEq_f (by omega), bIn_t (by omega), sM_1, List.append_assoc]
        rfl
    have e8 : ∀ c : Int, nx T n b = c → opO (nx T n b) = opO c := fun c h => by rw [h]
    rw [if_pos rfl, bEq_f (by omega), s_151 R3, bK_t]
    by_cases h1 : nx T n b = 60
    · have t := tl (by rw [h1]; rfl)
      rw [show opO (nx T n b) = 8 from by rw [h1]; rfl] at t
      rw [bEq_t h1, bLt_f (by omega)]
      exact t
    rw [bEq_f h1, s_151 R3, bK_t]
    by_cases h2 : nx T n b = 61
    · have t := tl (by rw [h2]; rfl)
      rw [show opO (nx T n b) = 9 from by rw [h2]; rfl] at t
      rw [bEq_t h2, bLt_f (by omega)]
      exact t
    rw [bEq_f h2, s_151 R3, bK_t]
    by_cases h3 : nx T n b = 62
    · have t := tl (by rw [h3]; rfl)
      rw [show opO (nx T n b) = 10 from by rw [h3]; rfl] at t
      rw [bEq_t h3, bLt_f (by omega)]
      exact t
    have e : ¬ rkO (nx T n b) = 2 := by
      unfold rkO
      rw [if_neg (c := nx T n b = 60 ∨ nx T n b = 61 ∨ nx T n b = 62) (by omega)]
      repeat' split
      all_goals omega
    have e2 : lp T n (fun a => pr T n f 3 o a) 2 1 b l = (true, b, l) := by
      unfold lp
      rw [if_neg e]
    rw [bEq_f h3, bLt_t (by omega), bIn_t (by omega)]
    show _ = rsM o (lp T n (fun a => pr T n f 3 o a) 2 1 b l) τ
    rw [e2]
    rfl
theorem mall : ∀ (f r o a : Nat) (τ : mM) (d : Nat), r ≤ 5 → o ≤ 6 → 7 * (6 - o) + (6 - r) ≤ f → rM T n a o τ → mcall (d + f + 3) (161 - r) [(30, 64)] τ = rsM o (pr T n f r o a) τ := by
  intro f
  induction f with
  | zero => intro r o a τ d h1 h2 h3; omega
  | succ f ih =>
    intro r o a τ d hr ho hf R
    have q : ∀ (r' o' : Nat), r' ≤ 5 → o' ≤ 6 → 7 * (6 - o') + (6 - r') ≤ f → ∀ a τ, rM T n a o' τ → mcall (d + f + 1 + 2) (161 - r') [(30, 64)] τ = rsM o' (pr T n f r' o' a) τ := fun r' o' h1 h2 h3 a τ R => ih r' o' a τ d h1 h2 h3 R
    rw [show d + (f + 1) + 3 = d + f + 1 + 3 from by omega]
    rcases (by omega : r = 0 ∨ r = 1 ∨ r = 2 ∨ r = 3 ∨ r = 4 ∨ r = 5) with rfl | rfl | rfl | rfl | rfl | rfl
    · exact chn (by omega) (by omega) stp_161 (e_161 (d + f + 1 + 2) τ) (q 1 o (by omega) ho (by omega)) R
    · exact chn (by omega) (by omega) stp_160 (e_160 (d + f + 1 + 2) τ) (q 2 o (by omega) ho (by omega)) R
    · exact m159 (q 3 o (by omega) ho (by omega)) R
    · exact chn (by omega) (by omega) stp_158 (e_158 (d + f + 1 + 2) τ) (q 4 o (by omega) ho (by omega)) R
    · exact chn (by omega) (by omega) stp_157 (e_157 (d + f + 1 + 2) τ) (q 5 o (by omega) ho (by omega)) R
    · exact m156 R (fun h6 => q 0 (o + 1) (by omega) (by omega) (by omega)) (fun h6 => q 5 (o + 1) (by omega) (by omega) (by omega))
/-- a whole expression -/
theorem s_161 {d a : Nat} (R : rM T n a 0 τ) : mcall (d + 60) 161 [(30, 64)] τ = rsM 0 (pr T n 48 0 0 a) τ := mall 48 0 0 a τ (d + 9) (by omega) (by omega) (by omega) R
end
