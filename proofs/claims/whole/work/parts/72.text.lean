/-! PURE PART 49: how a text is read -/
section
variable {T : Nat → Int} {n : Nat}
def nx (T : Nat → Int) (n a : Nat) : Int := if a < n then T a else -1
def rkO (c : Int) : Nat := if c = 124 then 0 else if c = 38 then 1 else if c = 60 ∨ c = 61 ∨ c = 62 then 2 else if c = 43 ∨ c = 45 then 3 else if c = 42 ∨ c = 47 ∨ c = 37 then 4 else 9
def opO (c : Int) : Int := if c = 124 then 6 else if c = 38 then 7 else if c = 60 then 8 else if c = 61 then 9 else if c = 62 then 10 else if c = 43 then 11 else if c = 45 then 12 else if c = 42 then 13 else if c = 47 then 14 else 15
def nmO (c : Int) : Int := if c = 115 then 0 else if c = 116 then 1 else if c = 119 then 2 else if c = 109 then 3 else if c = 110 then 4 else if c = 121 then 5 else -1
def nuP (T : Nat → Int) (n : Nat) : Nat → Nat → Int → Nat × Int
  | 0, a, v => (a, v)
  | k + 1, a, v => if 48 ≤ nx T n a ∧ nx T n a ≤ 57 then nuP T n k (a + 1) (v * 10 + nx T n a - 48) else (a, v)
def lp (T : Nat → Int) (n : Nat) (g : Nat → Bool × Nat × List Int) (r : Nat) : Nat → Nat → List Int → Bool × Nat × List Int
  | 0, a, l => (true, a, l)
  | k + 1, a, l => if rkO (nx T n a) = r then (match g (a + 1) with
    | (false, b, m) => (false, b, l ++ m)
    | (true, b, m) => lp T n g r k b (l ++ (m ++ [opO (nx T n a)]))) else (true, a, l)
/-- an expression from rank r on, o brackets open, from place a on: whether, where, the codes -/
def pr (T : Nat → Int) (n : Nat) : Nat → Nat → Nat → Nat → Bool × Nat × List Int
  | 0, _, _, a => (false, a, [])
  | f + 1, r, o, a => if r < 5 then (match pr T n f (r + 1) o a with
      | (false, b, l) => (false, b, l)
      | (true, b, l) => lp T n (fun a => pr T n f (r + 1) o a) r (if r = 2 then 1 else n) b l)
    else if 48 ≤ nx T n a ∧ nx T n a ≤ 57 then (true, (nuP T n 4 a 0).1, [18 + (nuP T n 4 a 0).2])
    else if 0 ≤ nmO (nx T n a) then (true, a + 1, [nmO (nx T n a)])
    else if (nx T n a = 33 ∨ nx T n a = 45) ∧ o < 6 then (match pr T n f 5 (o + 1) (a + 1) with
      | (false, b, l) => (false, b, l)
      | (true, b, l) => (true, b, l ++ [if nx T n a = 33 then 16 else 17]))
    else if nx T n a = 40 ∧ o < 6 then (match pr T n f 0 (o + 1) (a + 1) with
      | (false, b, l) => (false, b, l)
      | (true, b, l) => if nx T n b = 41 then (true, b + 1, l) else (false, b, l))
    else (false, a, [])
def vE (l : List Int) : Prop := ∀ h r, vld (h + 1) r → vld h (l ++ r)
/-- what a reading from a gives -/
def gd (n a : Nat) (x : Bool × Nat × List Int) : Prop := a ≤ x.2.1 ∧ x.2.1 ≤ n ∧ x.2.2.length + a ≤ x.2.1 ∧ (x.1 = true → vE x.2.2 ∧ a < x.2.1)
theorem nx_lt {a : Nat} (h : nx T n a ≠ -1) : a < n := by
  unfold nx at h
  by_cases ha : a < n
  · exact ha
  · rw [if_neg ha] at h; exact absurd rfl h
theorem nuP_a : ∀ (k a : Nat) (v : Int), a ≤ n → a ≤ (nuP T n k a v).1 ∧ (nuP T n k a v).1 ≤ n := by
  intro k
  induction k with
  | zero => intro a v h; exact ⟨Nat.le_refl _, h⟩
  | succ k ih =>
    intro a v h
    unfold nuP
    by_cases hd : 48 ≤ nx T n a ∧ nx T n a ≤ 57
    · rw [if_pos hd]
      have := nx_lt (T := T) (n := n) (a := a) (by omega)
      have := ih (a + 1) (v * 10 + nx T n a - 48) (by omega)
      omega
    · rw [if_neg hd]; exact ⟨Nat.le_refl _, h⟩
theorem nuP_v : ∀ (k a : Nat) (v : Int), 0 ≤ v → 0 ≤ (nuP T n k a v).2 ∧ (nuP T n k a v).2 + 1 ≤ (v + 1) * 10 ^ k := by
  intro k
  induction k with
  | zero => intro a v h; exact ⟨h, by show v + 1 ≤ (v + 1) * 1; omega⟩
  | succ k ih =>
    intro a v h
    unfold nuP
    by_cases hd : 48 ≤ nx T n a ∧ nx T n a ≤ 57
    · rw [if_pos hd]
      obtain ⟨i1, i2⟩ := ih (a + 1) (v * 10 + nx T n a - 48) (by omega)
      refine ⟨i1, Int.le_trans i2 ?_⟩
      rw [Int.pow_succ, Int.mul_comm (10 ^ k) 10, ← Int.mul_assoc]
      refine Int.mul_le_mul_of_nonneg_right (by omega) ?_
      exact Int.le_of_lt (Int.pow_pos (by omega))
    · rw [if_neg hd]
      refine ⟨h, ?_⟩
      have h1 : (1 : Int) ≤ 10 ^ (k + 1) := Int.pow_pos (by omega)
      have := Int.mul_le_mul_of_nonneg_left h1 (show (0 : Int) ≤ v + 1 by omega)
      omega
theorem opO_b {c : Int} : 6 ≤ opO c ∧ opO c ≤ 15 := by
  unfold opO
  repeat' split
  all_goals omega
theorem vE_op {l m : List Int} {c : Int} (hl : vE l) (hm : vE m) : vE (l ++ (m ++ [opO c])) := by
  intro h r hr
  have b := opO_b (c := c)
  rw [List.append_assoc, List.append_assoc]
  refine hl h _ (hm (h + 1) _ ?_)
  show vld (h + 1 + 1) (opO c :: r)
  unfold vld
  rw [if_neg (by omega), if_neg (by omega), if_neg (by omega)]
  exact ⟨by omega, hr⟩
theorem lp_g {g : Nat → Bool × Nat × List Int} {r : Nat} (hr : r < 9) (hg : ∀ a, a ≤ n → gd n a (g a)) : ∀ (k a a0 : Nat) (l : List Int), a0 < a → a ≤ n → l.length + a0 ≤ a → vE l → gd n a0 (lp T n g r k a l) := by
  intro k
  induction k with
  | zero => intro a a0 l h0 ha hl hv; exact ⟨by show a0 ≤ a; omega, ha, hl, fun _ => ⟨hv, h0⟩⟩
  | succ k ih =>
    intro a a0 l h0 ha hl hv
    unfold lp
    by_cases h : rkO (nx T n a) = r
    · rw [if_pos h]
      have hn : a < n := nx_lt (T := T) (fun e => by rw [e] at h; have : rkO (-1) = 9 := rfl; omega)
      have G := hg (a + 1) (by omega)
      rcases hx : g (a + 1) with ⟨ok, b, m⟩
      rw [hx] at G
      obtain ⟨g1, g2, g3, g4⟩ := G
      simp only at g1 g2 g3 g4
      cases ok with
      | false =>
        refine ⟨by show a0 ≤ b; omega, g2, ?_, fun z => by cases z⟩
        show (l ++ m).length + a0 ≤ b
        rw [List.length_append]; omega
      | true =>
        obtain ⟨g5, g6⟩ := g4 rfl
        refine ih b a0 _ (by omega) g2 ?_ (vE_op hv g5)
        rw [List.length_append, List.length_append, List.length_singleton]; omega
    · rw [if_neg h]
      exact ⟨by show a0 ≤ a; omega, ha, hl, fun _ => ⟨hv, h0⟩⟩
theorem nmO_b {c : Int} : -1 ≤ nmO c ∧ nmO c ≤ 5 := by
  unfold nmO
  repeat' split
  all_goals omega
theorem pr_g : ∀ (f r o a : Nat), a ≤ n → gd n a (pr T n f r o a) := by
  intro f
  induction f with
  | zero => intro r o a ha; exact ⟨Nat.le_refl _, ha, by show 0 + a ≤ a; omega, fun z => by cases z⟩
  | succ f ih =>
    intro r o a ha
    unfold pr
    by_cases hr : r < 5
    · rw [if_pos hr]
      have G := ih (r + 1) o a ha
      rcases hx : pr T n f (r + 1) o a with ⟨ok, b, l⟩
      rw [hx] at G
      cases ok with
      | false => exact G
      | true =>
        obtain ⟨g1, g2, g3, g4⟩ := G
        simp only at g1 g2 g3 g4
        obtain ⟨g5, g6⟩ := g4 trivial
        exact lp_g (by omega) (fun a ha => ih (r + 1) o a ha) _ b a l g6 g2 g3 g5
    · rw [if_neg hr]
      by_cases hd : 48 ≤ nx T n a ∧ nx T n a ≤ 57
      · rw [if_pos hd]
        have hn : a < n := nx_lt (T := T) (by omega)
        have e : nuP T n 4 a 0 = nuP T n 3 (a + 1) (0 * 10 + nx T n a - 48) := by
          show (if 48 ≤ nx T n a ∧ nx T n a ≤ 57 then nuP T n 3 (a + 1) (0 * 10 + nx T n a - 48) else (a, 0)) = _
          rw [if_pos hd]
        have p := nuP_a (T := T) (n := n) 3 (a + 1) (0 * 10 + nx T n a - 48) (by omega)
        have v := nuP_v (T := T) (n := n) 4 a 0 (by omega)
        rw [← e] at p
        refine ⟨by show a ≤ (nuP T n 4 a 0).1; omega, p.2, by show 1 + a ≤ (nuP T n 4 a 0).1; omega, fun _ => ⟨fun h r hr => ?_, by show a < (nuP T n 4 a 0).1; omega⟩⟩
        show vld h ((18 + (nuP T n 4 a 0).2) :: r)
        have v2 : (nuP T n 4 a 0).2 + 1 ≤ 10000 := v.2
        unfold vld
        rw [if_pos (by omega)]
        exact ⟨by omega, hr⟩
      · rw [if_neg hd]
        by_cases hm : 0 ≤ nmO (nx T n a)
        · rw [if_pos hm]
          have hn : a < n := nx_lt (T := T) (fun e => by rw [e] at hm; exact absurd hm (by decide))
          have b := nmO_b (c := nx T n a)
          refine ⟨Nat.le_succ a, hn, by show 1 + a ≤ a + 1; omega, fun _ => ⟨fun h r hr => ?_, Nat.lt_succ_self a⟩⟩
          show vld h (nmO (nx T n a) :: r)
          unfold vld
          rw [if_neg (by omega), if_pos (by omega)]
          exact ⟨hm, hr⟩
        · rw [if_neg hm]
          by_cases h1 : (nx T n a = 33 ∨ nx T n a = 45) ∧ o < 6
          · rw [if_pos h1]
            have hn : a < n := nx_lt (T := T) (by omega)
            have G := ih 5 (o + 1) (a + 1) hn
            rcases hx : pr T n f 5 (o + 1) (a + 1) with ⟨ok, b, l⟩
            rw [hx] at G
            obtain ⟨g1, g2, g3, g4⟩ := G
            simp only at g1 g2 g3 g4
            cases ok with
            | false => exact ⟨by show a ≤ b; omega, g2, by show l.length + a ≤ b; omega, fun z => by cases z⟩
            | true =>
              obtain ⟨g5, g6⟩ := g4 rfl
              refine ⟨by show a ≤ b; omega, g2, by show (l ++ _).length + a ≤ b; rw [List.length_append, List.length_singleton]; omega, fun _ => ⟨fun h r hr => ?_, by show a < b; omega⟩⟩
              show vld h ((l ++ [_]) ++ r)
              rw [List.append_assoc]
              refine g5 h _ ?_
              show vld (h + 1) ((if nx T n a = 33 then (16 : Int) else 17) :: r)
              unfold vld
              by_cases h33 : nx T n a = 33
              · rw [if_pos h33, if_neg (by omega), if_neg (by omega), if_pos (by omega)]
                exact ⟨by omega, by omega, hr⟩
              · rw [if_neg h33, if_neg (by omega), if_neg (by omega), if_pos (by omega)]
                exact ⟨by omega, by omega, hr⟩
          · rw [if_neg h1]
            by_cases h2 : nx T n a = 40 ∧ o < 6
            · rw [if_pos h2]
              have hn : a < n := nx_lt (T := T) (by omega)
              have G := ih 0 (o + 1) (a + 1) hn
              rcases hx : pr T n f 0 (o + 1) (a + 1) with ⟨ok, b, l⟩
              rw [hx] at G
              obtain ⟨g1, g2, g3, g4⟩ := G
              simp only at g1 g2 g3 g4
              cases ok with
              | false => exact ⟨by show a ≤ b; omega, g2, by show l.length + a ≤ b; omega, fun z => by cases z⟩
              | true =>
                obtain ⟨g5, g6⟩ := g4 rfl
                by_cases h41 : nx T n b = 41
                · have hb : b < n := nx_lt (T := T) (by omega)
                  simp only [if_pos h41]
                  exact ⟨by show a ≤ b + 1; omega, hb, by show l.length + a ≤ b + 1; omega, fun _ => ⟨g5, by show a < b + 1; omega⟩⟩
                · simp only [if_neg h41]
                  exact ⟨by show a ≤ b; omega, g2, by show l.length + a ≤ b; omega, fun z => by cases z⟩
            · rw [if_neg h2]
              exact ⟨Nat.le_refl _, ha, by show 0 + a ≤ a; omega, fun z => by cases z⟩
end
