/-! PURE PART 12: a law as it is worked out -/
def sgC (c : Int) : Int := if 18 ≤ c then 48 else if c ≤ 5 then 97 else if c = 6 then 124 else if c = 7 then 38 else if c = 8 then 60 else if c = 9 then 61 else if c = 10 then 62 else if c = 11 then 43 else if c = 12 then 45 else if c = 13 then 42 else if c = 14 then 47 else if c = 15 then 37 else if c = 16 then 33 else 126
def nuC (c : Int) : Int := if 18 ≤ c then c - 18 else if c ≤ 5 then c else 0
def joA (c x y : Int) : Int := if c = 6 then (if x = 0 ∧ y = 0 then 0 else 1) else if c = 7 then (if x = 0 ∨ y = 0 then 0 else 1) else if c = 8 then (if x < y then 1 else 0) else if c = 9 then (if x = y then 1 else 0) else if c = 10 then (if y < x then 1 else 0) else if c = 11 then w32 (x + y) else if c = 12 then w32 (x - y) else if c = 13 then w32 (x * y) else if c = 14 then (if y = 0 then 0 else w32 (Int.tdiv x y)) else (if y = 0 then 0 else Int.tmod x y)
theorem s_164 {d : Nat} {c x y : Int} {τ : mM} (h : 6 ≤ c ∧ c ≤ 15) : mcall (d + 1) 164 [(0, c), (0, x), (0, y)] τ = some (joA c x y, τ) := by
  rcases (by omega : c = 6 ∨ c = 7 ∨ c = 8 ∨ c = 9 ∨ c = 10 ∨ c = 11 ∨ c = 12 ∨ c = 13 ∨ c = 14 ∨ c = 15) with rfl | rfl | rfl | rfl | rfl | rfl | rfl | rfl | rfl | rfl
  · rw [e_164, bEq_t (by rfl), show joA 6 x y = (if x = 0 ∧ y = 0 then 0 else 1) from rfl]
    by_cases hx : x = 0 <;> by_cases hy : y = 0 <;> simp [bEq_i, hx, hy]
  · rw [e_164, bEq_f (by omega), bEq_t (by rfl), show joA 7 x y = (if x = 0 ∨ y = 0 then 0 else 1) from rfl]
    by_cases hx : x = 0 <;> by_cases hy : y = 0 <;> simp [bEq_i, hx, hy]
  · rw [e_164, bEq_f (by omega), bEq_f (by omega), bEq_t (by rfl), show joA 8 x y = (if x < y then 1 else 0) from rfl]
    by_cases hx : x < y <;> simp [bLt_i, hx]
  · rw [e_164, bEq_f (by omega), bEq_f (by omega), bEq_f (by omega), bEq_t (by rfl), show joA 9 x y = (if x = y then 1 else 0) from rfl]
    by_cases hx : x = y <;> simp [bEq_i, hx]
  · rw [e_164, bEq_f (by omega), bEq_f (by omega), bEq_f (by omega), bEq_f (by omega), bEq_t (by rfl), show joA 10 x y = (if y < x then 1 else 0) from rfl]
    by_cases hx : y < x <;> simp [bLt_i, hx]
  · rw [e_164, bEq_f (by omega), bEq_f (by omega), bEq_f (by omega), bEq_f (by omega), bEq_f (by omega), bEq_t (by rfl), show joA 11 x y = (w32 (x + y)) from rfl]
  · rw [e_164, bEq_f (by omega), bEq_f (by omega), bEq_f (by omega), bEq_f (by omega), bEq_f (by omega), bEq_f (by omega), bEq_t (by rfl), show joA 12 x y = (w32 (x - y)) from rfl]
  · rw [e_164, bEq_f (by omega), bEq_f (by omega), bEq_f (by omega), bEq_f (by omega), bEq_f (by omega), bEq_f (by omega), bEq_f (by omega), bEq_t (by rfl), show joA 13 x y = (w32 (x * y)) from rfl]
  · rw [e_164, bEq_f (by omega), bEq_f (by omega), bEq_f (by omega), bEq_f (by omega), bEq_f (by omega), bEq_f (by omega), bEq_f (by omega), bEq_f (by omega), bEq_t (by rfl), show joA 14 x y = (if y = 0 then 0 else w32 (Int.tdiv x y)) from rfl]
    by_cases hy : y = 0 <;> simp [bEq_i, hy]
  · rw [e_164, bEq_f (by omega), bEq_f (by omega), bEq_f (by omega), bEq_f (by omega), bEq_f (by omega), bEq_f (by omega), bEq_f (by omega), bEq_f (by omega), bEq_f (by omega), show joA 15 x y = (if y = 0 then 0 else Int.tmod x y) from rfl]
    by_cases hy : y = 0 <;> simp [bEq_i, hy]
theorem sgC_op {c : Int} (h : 6 ≤ c ∧ c ≤ 15) : sgC c ≠ 48 ∧ sgC c ≠ 97 ∧ sgC c ≠ 33 ∧ sgC c ≠ 126 := by
  unfold sgC
  repeat' split
  all_goals omega
theorem s_29 {d : Nat} {c x y : Int} {τ : mM} (h : 6 ≤ c ∧ c ≤ 15) : mcall (d + 1) 29 [(0, sgC c), (0, x), (0, y)] τ = some (joA c x y, τ) := by
  rcases (by omega : c = 6 ∨ c = 7 ∨ c = 8 ∨ c = 9 ∨ c = 10 ∨ c = 11 ∨ c = 12 ∨ c = 13 ∨ c = 14 ∨ c = 15) with rfl | rfl | rfl | rfl | rfl | rfl | rfl | rfl | rfl | rfl
  · rw [show sgC 6 = 124 by decide, e_29, bEq_f (by omega), bEq_f (by omega), bEq_f (by omega), bEq_f (by omega), bEq_f (by omega), bEq_f (by omega), bEq_f (by omega), bEq_f (by omega), bEq_t (by rfl), show joA 6 x y = (if x = 0 ∧ y = 0 then 0 else 1) from rfl]
    by_cases hx : x = 0 <;> by_cases hy : y = 0 <;> simp [bEq_i, hx, hy]
  · rw [show sgC 7 = 38 by decide, e_29, bEq_t (by rfl), show joA 7 x y = (if x = 0 ∨ y = 0 then 0 else 1) from rfl]
    by_cases hx : x = 0 <;> by_cases hy : y = 0 <;> simp [bEq_i, hx, hy]
  · rw [show sgC 8 = 60 by decide, e_29, bEq_f (by omega), bEq_f (by omega), bEq_f (by omega), bEq_f (by omega), bEq_f (by omega), bEq_t (by rfl), show joA 8 x y = (if x < y then 1 else 0) from rfl]
    by_cases hx : x < y <;> simp [bLt_i, hx]
  · rw [show sgC 9 = 61 by decide, e_29, bEq_f (by omega), bEq_f (by omega), bEq_f (by omega), bEq_f (by omega), bEq_f (by omega), bEq_f (by omega), bEq_t (by rfl), show joA 9 x y = (if x = y then 1 else 0) from rfl]
    by_cases hx : x = y <;> simp [bEq_i, hx]
  · rw [show sgC 10 = 62 by decide, e_29, bEq_f (by omega), bEq_f (by omega), bEq_f (by omega), bEq_f (by omega), bEq_f (by omega), bEq_f (by omega), bEq_f (by omega), bEq_t (by rfl), show joA 10 x y = (if y < x then 1 else 0) from rfl]
    by_cases hx : y < x <;> simp [bLt_i, hx]
  · rw [show sgC 11 = 43 by decide, e_29, bEq_f (by omega), bEq_f (by omega), bEq_t (by rfl), show joA 11 x y = (w32 (x + y)) from rfl]
  · rw [show sgC 12 = 45 by decide, e_29, bEq_f (by omega), bEq_f (by omega), bEq_f (by omega), bEq_t (by rfl), show joA 12 x y = (w32 (x - y)) from rfl]
  · rw [show sgC 13 = 42 by decide, e_29, bEq_f (by omega), bEq_t (by rfl), show joA 13 x y = (w32 (x * y)) from rfl]
  · rw [show sgC 14 = 47 by decide, e_29, bEq_f (by omega), bEq_f (by omega), bEq_f (by omega), bEq_f (by omega), bEq_t (by rfl), show joA 14 x y = (if y = 0 then 0 else w32 (Int.tdiv x y)) from rfl]
    by_cases hy : y = 0 <;> simp [bEq_i, hy]
  · rw [show sgC 15 = 37 by decide, e_29, bEq_f (by omega), bEq_f (by omega), bEq_f (by omega), bEq_f (by omega), bEq_f (by omega), bEq_f (by omega), bEq_f (by omega), bEq_f (by omega), bEq_f (by omega), show joA 15 x y = (if y = 0 then 0 else Int.tmod x y) from rfl]
    by_cases hy : y = 0 <;> simp [bEq_i, hy]

def ev (N : Nat → Int) : List Int → List Int → List Int
  | [], s => s
  | c :: r, s => if 18 ≤ c then ev N r ((c - 18) :: s) else if c ≤ 5 then ev N r (N c.toNat :: s) else if 16 ≤ c then (match s with | x :: t => ev N r ((if c = 17 then w32 (-x) else if x = 0 then 1 else 0) :: t) | [] => []) else (match s with | y :: x :: t => ev N r (joA c x y :: t) | _ => [])
def vld : Nat → List Int → Prop
  | h, [] => h = 1
  | h, c :: r => if 18 ≤ c then c ≤ 10017 ∧ vld (h + 1) r else if c ≤ 5 then 0 ≤ c ∧ vld (h + 1) r else if 16 ≤ c then c ≤ 17 ∧ 1 ≤ h ∧ vld h r else 2 ≤ h ∧ vld (h - 1) r
def stk (f : Nat → Int) : List Int → Prop
  | [] => True
  | x :: t => f t.length = x ∧ stk f t
theorem stk_s {τ : mM} {c k : Nat} {v : Int} : ∀ {s : List Int}, s.length ≤ k → stk (τ c) s → stk (mset τ c k v c) s
  | [], _, _ => trivial
  | x :: t, h, g => ⟨(ms_n (Or.inr (by have : t.length + 1 ≤ k := h; omega))).trans g.1, stk_s (by have : t.length + 1 ≤ k := h; omega) g.2⟩
theorem stk_p {τ : mM} {c : Nat} {v : Int} {s : List Int} (h : stk (τ c) s) : stk (mset τ c s.length v c) (v :: s) := ⟨ms_e, stk_s (Nat.le_refl _) h⟩
def segC (τ : mM) (w : Nat) : Nat → List Int → Prop
  | _, [] => True
  | o, c :: r => τ (w + 1) o = sgC c ∧ τ (w + 2) o = nuC c ∧ segC τ w (o + 1) r
def segM (τ : mM) (x : Nat) : Nat → List Int → Prop
  | _, [] => True
  | o, c :: r => τ x o = c ∧ segM τ x (o + 1) r
theorem s_27l {d w p e : Nat} {mx : Int × Int} {τ : mM} {N : Nat → Int} (hp : p < 120) (he : e ≤ 120) (hE : τ (w + 3) p = (e : Int)) (hN : ∀ i, i < 6 → τ (w + 6) i = N i) : ∀ (l : List Int) (o : Nat) (s : List Int) (v : Int) (μ : mM), o + l.length = e → s.length ≤ o → fr [w + 5] τ μ → stk (μ (w + 5)) s → segC τ w o l → vld s.length l → ∃ μ', mgo (mcall (d + 1)) mx 27 19 [(22, (w : Int)), (0, (p : Int)), (0, (s.length : Int)), (0, (o : Int)), (0, v)] [] μ = some ((ev N l s).headD 0, μ') ∧ fr [w + 5] τ μ' := by
  intro l
  induction l with
  | nil =>
    intro o s v μ ho hs F S _ hv
    have hE' : μ (w + 3) p = (e : Int) := (fr_e F (by simp) p).trans hE
    have ho : o = e := ho
    have h1 : s.length = 1 := hv
    match s, h1 with
    | [x], _ =>
      refine ⟨μ, ?_, F⟩
      rw [b_27_19, bIn_t (by omega), tn_n, hE', bLt_f (by omega), bLt_t (by show (0 : Int) < 1; omega), bIn_t (by omega), show μ (w + 5) 0 = x from S.1]
      rfl
  | cons c r ih =>
    intro o s v μ ho hs F S G hv
    obtain ⟨g1, g2, g3⟩ := G
    have hE' : μ (w + 3) p = (e : Int) := (fr_e F (by simp) p).trans hE
    have q1 : μ (w + 1) o = sgC c := (fr_e F (by simp) o).trans g1
    have q2 : μ (w + 2) o = nuC c := (fr_e F (by simp) o).trans g2
    have ho : o + (r.length + 1) = e := ho
    have hl : s.length < 120 := by omega
    rw [b_27_19, bIn_t (by omega), tn_n, hE', bLt_t (by omega), bIn_t (by omega)]
    simp only [tn_n, q1, q2]
    unfold vld at hv
    by_cases h18 : 18 ≤ c
    · rw [if_pos h18] at hv
      have e1 : sgC c = 48 := if_pos h18
      have e2 : nuC c = c - 18 := if_pos h18
      obtain ⟨μ', z1, z2⟩ := ih (o + 1) ((c - 18) :: s) 48 (mset μ (w + 5) s.length (c - 18)) (by omega) (by show s.length + 1 ≤ o + 1; omega) (fr_s F (by simp)) (stk_p S) g3 hv.2
      refine ⟨μ', ?_, z2⟩
      rw [e1, e2, bEq_t (by rfl), bLt_t (by omega), bEq_t (by rfl), bIn_t (by omega), bIn_t (by omega), w32_n (by omega), w32_n (by omega), show ev N (c :: r) s = ev N r ((c - 18) :: s) from if_pos h18]
      exact z1
    · rw [if_neg h18] at hv
      by_cases h5 : c ≤ 5
      · rw [if_pos h5] at hv
        have e1 : sgC c = 97 := (if_neg h18).trans (if_pos h5)
        have e2 : nuC c = c := (if_neg h18).trans (if_pos h5)
        have e3 : μ (w + 6) c.toNat = N c.toNat := (fr_e F (by simp) _).trans (hN _ (by omega))
        obtain ⟨μ', z1, z2⟩ := ih (o + 1) (N c.toNat :: s) 97 (mset μ (w + 5) s.length (N c.toNat)) (by omega) (by show s.length + 1 ≤ o + 1; omega) (fr_s F (by simp)) (stk_p S) g3 hv.2
        refine ⟨μ', ?_, z2⟩
        rw [e1, e2, e3, bEq_f (by omega), bEq_t (by rfl), bLt_t (by omega), bEq_f (by omega), bIn_t (by omega), bIn_t (by omega), bIn_t (by omega), w32_n (by omega), w32_n (by omega), show ev N (c :: r) s = ev N r (N c.toNat :: s) from (if_neg h18).trans (if_pos h5)]
        exact z1
      · rw [if_neg h5] at hv
        by_cases h16 : 16 ≤ c
        · rw [if_pos h16] at hv
          obtain ⟨h17, hh, hv⟩ := hv
          match s, hh, hs, S, hv, hl with
          | x :: t, _, hs, S, hv, hl =>
            have hl2 : t.length + 1 < 120 := hl
            have hlen : (((x :: t).length : Nat) : Int) = ((t.length + 1 : Nat) : Int) := rfl
            have w1 : w32 (((t.length + 1 : Nat) : Int) - 1) = (t.length : Int) := by rw [w32_e (by omega)]; omega
            have e4 : μ (w + 5) t.length = x := S.1
            have S2 : ∀ v, stk (mset μ (w + 5) t.length v (w + 5)) (v :: t) := fun v => stk_p S.2
            have hs2 : t.length + 1 ≤ o := hs
            rw [hlen, show ev N (c :: r) (x :: t) = ev N r ((if c = 17 then w32 (-x) else if x = 0 then 1 else 0) :: t) from (if_neg h18).trans ((if_neg h5).trans (if_pos h16))]
            rcases (by omega : c = 16 ∨ c = 17) with rfl | rfl
            · rw [show sgC 16 = 33 by decide, bEq_f (by omega), bEq_f (by omega), bEq_t (by rfl), bLt_t (by omega), bEq_t (by rfl), w1, bIn_t (by omega), tn_n, e4, if_neg (by omega)]
              obtain ⟨μ', z1, z2⟩ := ih (o + 1) ((if x = 0 then 1 else 0) :: t) 33 (mset μ (w + 5) t.length (if x = 0 then 1 else 0)) (by omega) (by show t.length + 1 ≤ o + 1; omega) (fr_s F (by simp)) (S2 _) g3 hv
              refine ⟨μ', ?_, z2⟩
              by_cases hx : x = 0
              · rw [bEq_t hx, bIn_t (by omega), w32_n (by omega)]
                rw [if_pos hx] at z1 ⊢
                exact z1
              · rw [bEq_f hx, bIn_t (by omega), w32_n (by omega)]
                rw [if_neg hx] at z1 ⊢
                exact z1
            · obtain ⟨μ', z1, z2⟩ := ih (o + 1) (w32 (-x) :: t) 126 (mset μ (w + 5) t.length (w32 (-x))) (by omega) (by show t.length + 1 ≤ o + 1; omega) (fr_s F (by simp)) (S2 _) g3 hv
              refine ⟨μ', ?_, z2⟩
              rw [show sgC 17 = 126 by decide, bEq_f (by omega), bEq_f (by omega), bEq_f (by omega), bEq_t (by rfl), bLt_t (by omega), bEq_f (by omega), w1, bIn_t (by omega), bIn_t (by omega), tn_n, e4, if_pos rfl, w32_n (by omega)]
              exact z1
        · rw [if_neg h16] at hv
          obtain ⟨hh, hv⟩ := hv
          match s, hh, hs, S, hv, hl with
          | y :: x :: t, _, hs, S, hv, hl =>
            obtain ⟨o1, o2, o3, o4⟩ := sgC_op (c := c) (by omega)
            have hl2 : t.length + 2 < 120 := hl
            have hs2 : t.length + 2 ≤ o := hs
            have hlen : (((y :: x :: t).length : Nat) : Int) = ((t.length + 2 : Nat) : Int) := rfl
            have w1 : w32 (((t.length + 2 : Nat) : Int) + (-1)) = ((t.length + 1 : Nat) : Int) := by rw [w32_e (by omega)]; omega
            have w2 : w32 (((t.length + 1 : Nat) : Int) - 1) = (t.length : Int) := by rw [w32_e (by omega)]; omega
            have e4 : μ (w + 5) (t.length + 1) = y := S.1
            have e5 : μ (w + 5) t.length = x := S.2.1
            obtain ⟨μ', z1, z2⟩ := ih (o + 1) (joA c x y :: t) (sgC c) (mset μ (w + 5) t.length (joA c x y)) (by omega) (by show t.length + 1 ≤ o + 1; omega) (fr_s F (by simp)) (stk_p S.2.2) g3 hv
            refine ⟨μ', ?_, z2⟩
            rw [hlen, bEq_f o1, bEq_f o2, bEq_f o3, bEq_f o4, bLt_t (by omega), w1, w2, bIn_t (by omega), bIn_t (by omega), tn_n, tn_n, e4, e5, s_29 (by omega), bK_t, bIn_t (by omega), w32_n (by omega), show ev N (c :: r) (y :: x :: t) = ev N r (joA c x y :: t) from (if_neg h18).trans ((if_neg h5).trans (if_neg h16))]
            exact z1
theorem s_27 {d w p o e : Nat} {τ : mM} {N : Nat → Int} {l : List Int} (hp : p < 120) (he : e ≤ 120) (hE : τ (w + 3) p = (e : Int)) (hN : ∀ i, i < 6 → τ (w + 6) i = N i) (hst : (p = 0 ∧ o = 0) ∨ (0 < p ∧ τ (w + 3) (p - 1) = (o : Int))) (ho : o + l.length = e) (G : segC τ w o l) (hv : vld 0 l) : ∃ μ', mcall (d + 2) 27 [(22, (w : Int)), (0, (p : Int))] τ = some ((ev N l []).headD 0, μ') ∧ fr [w + 5] τ μ' := by
  obtain ⟨μ', z1, z2⟩ := s_27l (d := d) (mx := mX 27 τ) hp he hE hN l o [] 0 τ ho (Nat.zero_le _) fr_r trivial G hv
  refine ⟨μ', ?_, z2⟩
  have u : ∀ (o : Int), mgo (mcall (d + 1)) (mX 27 τ) 27 19 [(22, (w : Int)), (0, (p : Int)), (0, 0), (0, o), (2, 0)] [] τ = mgo (mcall (d + 1)) (mX 27 τ) 27 19 [(22, (w : Int)), (0, (p : Int)), (0, 0), (0, o), (0, 0)] [] τ := fun o => (b_27_19a _ _ _ _ _ _ _).trans (b_27_19 _ _ _ _ _ _ _ _).symm
  rw [e_27]
  rcases hst with ⟨rfl, rfl⟩ | ⟨h0, h1⟩
  · rw [bEq_t (by rfl), u]
    exact z1
  · have w1 : w32 ((p : Int) - 1) = ((p - 1 : Nat) : Int) := by rw [w32_e (by omega)]; omega
    rw [bEq_f (by omega), w1, bIn_t (by omega), tn_n, h1, u]
    exact z1
/-- the names -/
def nmA (V : cV) (q : Nat) : Nat → Int := fun i => if i = 0 then V 0 q else if i = 1 then V 1 q else if i = 2 then V 2 q else if i = 3 then V 3 0 else if i = 4 then nearA (V 1) q else ((q / 6 : Nat) : Int)
section
variable {c q j : Nat} {τ : mM} {V : cV}
theorem gC_0 (h : gC c τ = V) (hj : j < 30) : τ (c + 1) j = V 0 j := by
  rw [← h]
  unfold gC gL
  rw [if_pos rfl, if_pos hj]
theorem gC_1 (h : gC c τ = V) (hj : j < 30) : τ (c + 2) j = V 1 j := by
  rw [← h]
  unfold gC gL
  rw [if_neg (by decide), if_pos rfl, if_pos hj]
theorem gC_2 (h : gC c τ = V) (hj : j < 30) : τ (c + 3) j = V 2 j := by
  rw [← h]
  unfold gC gL
  rw [if_neg (by decide), if_neg (by decide), if_pos rfl, if_pos hj]
theorem gC_3 (h : gC c τ = V) : τ c 4 = V 3 0 := by
  rw [← h]
  rfl
theorem gC_4 (h : gC c τ = V) : τ (c + 4) 0 = V 3 1 := by
  rw [← h]
  rfl
theorem gM_0 (h : gM τ = V) (hj : j < 30) : τ 65 j = V 0 j := by
  rw [← h]
  unfold gM gL
  rw [if_pos rfl, if_pos hj]
theorem gM_1 (h : gM τ = V) (hj : j < 30) : τ 66 j = V 1 j := by
  rw [← h]
  unfold gM gL
  rw [if_neg (by decide), if_pos rfl, if_pos hj]
theorem gM_2 (h : gM τ = V) (hj : j < 30) : τ 67 j = V 2 j := by
  rw [← h]
  unfold gM gL
  rw [if_neg (by decide), if_neg (by decide), if_pos rfl, if_pos hj]
theorem gM_3 (h : gM τ = V) : τ 69 0 = V 3 0 := by
  rw [← h]
  rfl
theorem gM_4 (h : gM τ = V) : τ 64 6 = V 3 1 := by
  rw [← h]
  rfl
end
theorem near_cg {f g : Nat → Int} {q : Nat} (hq : q < 30) (h : ∀ j, j < 30 → f j = g j) : nearA f q = nearA g q := by
  unfold nearA
  by_cases h1 : 6 ≤ q <;> by_cases h2 : q % 6 < 5 <;> by_cases h3 : q < 24 <;> by_cases h4 : 0 < q % 6
  all_goals first
    | (exfalso; omega)
    | (repeat (first | rw [if_pos (by assumption)] | rw [if_neg (by assumption)])
       repeat (first | rw [h (q - 6) (by omega)] | rw [h (q + 1) (by omega)] | rw [h (q + 6) (by omega)] | rw [h (q - 1) (by omega)]))
theorem gC_f {c : Nat} {l : List Nat} {τ μ : mM} (F : fr l τ μ) (h : ∀ a, c ≤ a → a ≤ c + 4 → a ∉ l) : gC c μ = gC c τ := gL_cg (F _ (h _ (by omega) (by omega))) (F _ (h _ (by omega) (by omega))) (F _ (h _ (by omega) (by omega))) (fr_e F (h _ (by omega) (by omega)) _) (fr_e F (h _ (by omega) (by omega)) _)
theorem s_13' {d c q : Nat} {τ : mM} {V : cV} (h : gC c τ = V) (ok : okC V) (hq : q < 30) : mcall (d + 1) 13 [(21, (c : Int)), (0, (q : Int))] τ = some (nearA (V 1) q, τ) := by
  rw [s_13 hq (fun j hj => by rw [gC_1 h hj]; exact ok.2.2.1 j), near_cg hq (fun j hj => gC_1 h hj)]
theorem s_167' {d q : Nat} {τ : mM} {V : cV} (h : gM τ = V) (ok : okC V) (hq : q < 30) : mcall (d + 2) 167 [(30, 64), (0, (q : Int))] τ = some (nearA (V 1) q, τ) := by
  rw [s_167 hq (fun j hj => by rw [gM_1 h hj]; exact ok.2.2.1 j), near_cg hq (fun j hj => gM_1 h hj)]
theorem s_26 {d c w q : Nat} {τ : mM} {V : cV} (hap : c + 5 ≤ w ∨ w + 7 ≤ c) (h : gC c τ = V) (ok : okC V) (hq : q < 30) : ∃ μ, mcall (d + 2) 26 [(22, (w : Int)), (21, (c : Int)), (0, (q : Int))] τ = some (0, μ) ∧ fr [w + 6] τ μ ∧ ∀ i, i < 6 → μ (w + 6) i = nmA V q i := by
  have a0 : τ (c + 1) q = V 0 q := gC_0 h hq
  have a1 : τ (c + 2) q = V 1 q := gC_1 h hq
  have a2 : τ (c + 3) q = V 2 q := gC_2 h hq
  have a3 : τ c 4 = V 3 0 := gC_3 h
  have r1 : ∀ (a i j : Nat) (v : Int) (τ : mM), c ≤ a → a ≤ c + 4 → mset τ (w + 6) i v a j = τ a j := fun a i j v τ h1 h2 => ms_n (Or.inl (by omega))
  have v : w32 (Int.tdiv (q : Int) 6) = ((q / 6 : Nat) : Int) := by rw [show Int.tdiv (q : Int) 6 = ((q / 6 : Nat) : Int) from rfl, w32_e (by omega)]
  rw [e_26, bIn_t (by omega), bIn_t (by omega), bIn_t (by omega), bIn_t (by omega), bIn_t (by omega), bIn_t (by omega), bIn_t (by omega), tn_n]
  simp only [r1 (c + 2) _ _ _ _ (by omega) (by omega), r1 (c + 3) _ _ _ _ (by omega) (by omega), r1 c _ _ _ _ (by omega) (by omega), a0, a1, a2, a3]
  have F : ∀ i v μ, fr [w + 6] τ μ → fr [w + 6] τ (mset μ (w + 6) i v) := fun i v μ h => fr_s h (by simp)
  have g : ∀ μ, fr [w + 6] τ μ → gC c μ = V := fun μ hf => (gC_f hf (fun a h1 h2 => by simp only [List.mem_singleton]; omega)).trans h
  rw [s_13' (g _ (F _ _ _ (F _ _ _ (F _ _ _ (F _ _ _ fr_r))))) ok hq, bK_t, bIn_t (by omega), bEq_f (by omega), bIn_t (by omega), v]
  refine ⟨_, rfl, F _ _ _ (F _ _ _ (F _ _ _ (F _ _ _ (F _ _ _ (F _ _ _ fr_r))))), fun i hi => ?_⟩
  rcases (by omega : i = 0 ∨ i = 1 ∨ i = 2 ∨ i = 3 ∨ i = 4 ∨ i = 5) with rfl | rfl | rfl | rfl | rfl | rfl
  · rw [ms_n (by omega), ms_n (by omega), ms_n (by omega), ms_n (by omega), ms_n (by omega), ms_e]; rfl
  · rw [ms_n (by omega), ms_n (by omega), ms_n (by omega), ms_n (by omega), ms_e]; rfl
  · rw [ms_n (by omega), ms_n (by omega), ms_n (by omega), ms_e]; rfl
  · rw [ms_n (by omega), ms_n (by omega), ms_e]; rfl
  · rw [ms_n (by omega), ms_e]; rfl
  · rw [ms_e]; rfl
