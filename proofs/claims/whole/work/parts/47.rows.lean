/-! PURE PART 28: rows on shelves -/
def zrA (x p m : Nat) (σ : mM) : mM := fun a j => if a = x ∧ p ≤ j ∧ j < p + m then 0 else σ a j
theorem zrA_s {x p m : Nat} {σ : mM} : mset (zrA x p m σ) x (p + m) 0 = zrA x p (m + 1) σ := by
  funext a j
  by_cases h : a = x ∧ j = p + m
  · rw [h.1, h.2, ms_e]; exact (if_pos (by omega)).symm
  · rw [ms_n (by omega)]
    unfold zrA
    by_cases h2 : a = x ∧ p ≤ j ∧ j < p + m
    · rw [if_pos h2, if_pos (by omega)]
    · rw [if_neg h2, if_neg (by omega)]
theorem zrA_0 {x p : Nat} {σ : mM} : zrA x p 0 σ = σ := by
  funext a j
  exact if_neg (by omega)
theorem zrA_o {x p m a j : Nat} {σ : mM} (h : a ≠ x ∨ j < p ∨ p + m ≤ j) : zrA x p m σ a j = σ a j := if_neg (by omega)
theorem zrA_i {x p m j : Nat} {σ : mM} (h : p ≤ j ∧ j < p + m) : zrA x p m σ x j = 0 := if_pos ⟨rfl, h⟩
/-- what a row keeps of a number -/
def lbA (t v : Int) : Int := if t = 0 then (w32 v + 128) % 256 - 128 else if t = 1 then (w32 v + 32768) % 65536 - 32768 else if t = 2 then w32 v else if t = 3 then v else if v = 0 then 0 else 1
section
variable {d n b k : Nat} {σ τ : mM} {V : cV} {L : List (List Int × List Int)} {H : Nat → Nat → Int} {s : Int} {xs : Nat → Int} {N : Int} {vh : Nat → Int} {l : Nat → Nat} {B : Nat → Nat → Int} {st : Nat → Int}
theorem s_32 {c m : Nat} {t : Int} (hm : m ≤ 60) : mcall (d + 1) 32 [(23, (c : Int)), (0, t), (0, (m : Int))] σ = some (0, zrA (c + 1) 0 m (mset (mset σ c 1 t) c 2 (m : Int))) := by
  have q : ∀ (τ : mM) (r i : Nat) (σ : mM), i + r = m → mgo (mcall d) (mX 32 τ) 32 12 [(23, (c : Int)), (0, t), (0, (m : Int)), (0, (i : Int))] [] (zrA (c + 1) 0 i σ) = some (0, zrA (c + 1) 0 m σ) := by
    intro τ r
    induction r with
    | zero => intro i σ hi; rw [b_32_12, bLt_f (by omega), show i = m by omega]
    | succ r ih =>
      intro i σ hi
      have z := zrA_s (x := c + 1) (p := 0) (m := i) (σ := σ)
      rw [Nat.zero_add] at z
      rw [b_32_12, bLt_t (by omega), bLt_t (by omega), bIn_t (by omega), tn_n, z, w32_n (by omega)]
      exact ih (i + 1) σ (by omega)
  have z := q σ m 0 (mset (mset σ c 1 t) c 2 (m : Int)) (by omega)
  rw [zrA_0] at z
  rw [e_32]
  exact z
theorem s_219l {i : Nat} {mx : Int × Int} {K : mK} {v2 v3 : Int} (hi : i < 6) : mgo K mx 219 48 [(30, 64), (0, (i : Int)), (0, v2), (0, v3), (0, 0)] [] σ = some (1, zrA 89 (60 * i) 60 σ) := by
  have q : ∀ (r j : Nat) (σ : mM), j + r = 60 → mgo K mx 219 48 [(30, 64), (0, (i : Int)), (0, v2), (0, v3), (0, (j : Int))] [] (zrA 89 (60 * i) j σ) = some (1, zrA 89 (60 * i) 60 σ) := by
    intro r
    induction r with
    | zero => intro j σ hj; rw [b_219_48, bLt_f (by omega), show j = 60 by omega]
    | succ r ih =>
      intro j σ hj
      have w : Unit → w32 ((w32 (60 * (i : Int))) + (j : Int)) = ((60 * i + j : Nat) : Int) := fun _ => by rw [w32_e (x := 60 * (i : Int)) (by omega), w32_e (by omega)]; omega
      rw [b_219_48, bLt_t (by omega), w (), bIn_t (by omega), tn_n, zrA_s, w32_n (by omega)]
      exact ih (j + 1) σ (by omega)
  have z := q 60 0 σ rfl
  rw [zrA_0] at z
  exact z
theorem r_row {x y z : Int} : cR 120 219 [(0, x), (0, y), (0, z)] := by
  intro d xs N k σ hk R
  have R' := R
  obtain ⟨V, L, H, n, s, b, -, -, -, -, g5, -, ⟨v1, v2, v3, v4, -⟩, -⟩ := R
  by_cases h1 : 0 ≤ x ∧ x < 6
  · obtain ⟨i, hi⟩ : ∃ i : Nat, x = (i : Int) := ⟨x.toNat, by omega⟩
    subst hi
    have hi6 : i < 6 := by omega
    by_cases h2 : 0 ≤ y ∧ y ≤ 4
    · by_cases h3 : 60 < z
      · refine ⟨-1, σ, σ, ?_, ?_, RR_i R', rfl, rfl⟩
        · rw [e_120, s_128, bK_t, if_pos h1, bEq_f (by omega), s_126, bK_t, if_pos h2, bEq_f (by omega), bLt_t h3]
        · rw [e_219, s_137, bK_t, if_pos h1, bEq_f (by omega), s_133, bK_t, if_pos h2, bEq_f (by omega), bLt_t h3]
      · by_cases h4 : z < 0
        · refine ⟨-14, σ, σ, ?_, ?_, RR_i R', rfl, rfl⟩
          · rw [e_120, s_128, bK_t, if_pos h1, bEq_f (by omega), s_126, bK_t, if_pos h2, bEq_f (by omega), bLt_f (by omega), bLt_t h4]
          · rw [e_219, s_137, bK_t, if_pos h1, bEq_f (by omega), s_133, bK_t, if_pos h2, bEq_f (by omega), bLt_f (by omega), bLt_t h4]
        · obtain ⟨m, hm⟩ : ∃ m : Nat, z = (m : Int) := ⟨z.toNat, by omega⟩
          subst hm
          refine ⟨1, zrA (48 + 2 * i) 0 m (mset (mset σ (47 + 2 * i) 1 y) (47 + 2 * i) 2 (m : Int)), zrA 89 (60 * i) 60 (mset (mset (zrA (48 + 2 * i) 0 m (mset (mset σ (47 + 2 * i) 1 y) (47 + 2 * i) 2 (m : Int))) 87 i y) 88 i (m : Int)), ?_, ?_, RR_5 R' (fun a j h => ?_) (fun b' hb' => ?_), ?_, ?_⟩
          · rw [e_120, s_128, bK_t, if_pos h1, bEq_f (by omega), s_126, bK_t, if_pos h2, bEq_f (by omega), bLt_f (by omega), bLt_f (by omega), bIn_t (by omega), shx, s_32 (by omega), bK_t, show 47 + 2 * i + 1 = 48 + 2 * i by omega]
          · rw [e_219, s_137, bK_t, if_pos h1, bEq_f (by omega), s_133, bK_t, if_pos h2, bEq_f (by omega), bLt_f (by omega), bLt_f (by omega), bIn_t (by omega), bIn_t (by omega), tn_n, s_219l hi6]
          · unfold P5 SC at h
            rw [zrA_o (by omega), ms_n (by omega), ms_n (by omega), zrA_o (by omega), ms_n (by omega), ms_n (by omega)]
          · have hbb : b = b' := by have := hb'.1; omega
            subst hbb
            obtain ⟨vh, l, B, st, s1, s2, s3⟩ := g5
            refine ⟨uf vh i y, uf l i m, uf B i (fun _ => 0), st, fun k hk => ?_, fun k hk => ?_, fun k hk hv => ?_⟩
            · have q : ∀ a j, a ≤ 58 → zrA 89 (60 * i) 60 (mset (mset (zrA (48 + 2 * i) 0 m (mset (mset σ (47 + 2 * i) 1 y) (47 + 2 * i) 2 (m : Int))) 87 i y) 88 i (m : Int)) a j = zrA (48 + 2 * i) 0 m (mset (mset σ (47 + 2 * i) 1 y) (47 + 2 * i) 2 (m : Int)) a j := fun a j ha => by rw [zrA_o (by omega), ms_n (by omega), ms_n (by omega)]
              rw [q _ 1 (by omega), q _ 2 (by omega), q _ 3 (by omega)]
              by_cases he : k = i
              · subst he
                rw [uf_e, uf_e, uf_e, zrA_o (a := 47 + 2 * k) (by omega), zrA_o (a := 47 + 2 * k) (by omega), zrA_o (a := 47 + 2 * k) (by omega), ms_n (by omega), ms_e, ms_e]
                exact ⟨rfl, rfl, by omega, fun i' hi' => by rw [q _ _ (by omega), zrA_i (by omega)], fun hv => by omega⟩
              · rw [uf_o he, uf_o he, uf_o he, zrA_o (a := 47 + 2 * k) (by omega), zrA_o (a := 47 + 2 * k) (by omega), zrA_o (a := 47 + 2 * k) (by omega), ms_n (by omega), ms_n (by omega), ms_n (by omega), ms_n (by omega), ms_n (by omega), ms_n (by omega)]
                obtain ⟨a1, a2, a3, a4, a5⟩ := s1 k hk
                exact ⟨a1, a2, a3, fun i' hi' => by rw [q _ _ (by omega), zrA_o (by omega), ms_n (by omega), ms_n (by omega)]; exact a4 i' hi', a5⟩
            · by_cases he : k = i
              · subst he
                rw [uf_e, uf_e, uf_e, zrA_o (a := 87) (by omega), ms_n (by omega), ms_e, zrA_o (a := 88) (by omega), ms_e]
                exact ⟨Or.inr (Or.inr ⟨h2.1, h2.2, rfl⟩), rfl, by omega, fun i' hi' => ⟨zrA_i (by omega), fun _ => by omega, fun _ => by omega⟩⟩
              · rw [uf_o he, uf_o he, uf_o he, zrA_o (a := 87) (by omega), zrA_o (a := 88) (by omega), ms_n (by omega), ms_n (by omega), ms_n (by omega), ms_n (by omega), zrA_o (by omega), zrA_o (by omega), ms_n (by omega), ms_n (by omega), ms_n (by omega), ms_n (by omega)]
                obtain ⟨a1, a2, a3, a4⟩ := s2 k hk
                exact ⟨a1, a2, a3, fun i' hi' => by rw [zrA_o (by omega), ms_n (by omega), ms_n (by omega), zrA_o (by omega), ms_n (by omega), ms_n (by omega)]; exact a4 i' hi'⟩
            · by_cases he : k = i
              · subst he; rw [uf_e] at hv; omega
              · rw [uf_o he] at hv; exact s3 k hk hv
          · funext j; rw [zrA_o (by omega), ms_n (by omega), ms_n (by omega)]
          · funext j; rw [zrA_o (by omega), ms_n (by omega), ms_n (by omega)]
    · refine ⟨-1, σ, σ, ?_, ?_, RR_i R', rfl, rfl⟩
      · rw [e_120, s_128, bK_t, if_pos h1, bEq_f (by omega), s_126, bK_t, if_neg h2, bEq_t (by rfl)]
      · rw [e_219, s_137, bK_t, if_pos h1, bEq_f (by omega), s_133, bK_t, if_neg h2, bEq_t (by rfl)]
  · refine ⟨-1, σ, σ, ?_, ?_, RR_i R', rfl, rfl⟩
    · rw [e_120, s_128, bK_t, if_neg h1, bEq_t (by rfl)]
    · rw [e_219, s_137, bK_t, if_neg h1, bEq_t (by rfl)]
theorem s_33 {c : Nat} {v : Int} (h : σ c 1 = v) : mcall (d + 1) 33 [(23, (c : Int))] σ = some (if 0 ≤ v then 1 else 0, σ) := by
  rw [e_33, h]
  by_cases h1 : v < 0
  · rw [bLt_t h1, bIn_t (by omega), if_neg (by omega)]
  · rw [bLt_f (by omega), bIn_t (by omega), if_pos (by omega)]
theorem s_34 {c m : Nat} {i r : Int} (h : σ c 2 = (m : Int)) (hm : m ≤ 60) : mcall (d + 1) 34 [(23, (c : Int)), (0, i), (0, r)] σ = some (if 0 ≤ i ∧ 0 ≤ r ∧ r ≤ (m : Int) ∧ i ≤ (m : Int) - r then 1 else 0, σ) := by
  rw [e_34, h]
  by_cases h1 : i < 0
  · rw [bLt_t h1, bIn_t (by omega), if_neg (by omega)]
  · rw [bLt_f (by omega)]
    by_cases h2 : r < 0
    · rw [bLt_t h2, bIn_t (by omega), if_neg (by omega)]
    · rw [bLt_f (by omega)]
      by_cases h3 : (m : Int) < r
      · rw [bLt_t h3, bIn_t (by omega), if_neg (by omega)]
      · rw [bLt_f (by omega), w32_e (by omega)]
        by_cases h4 : (m : Int) - r < i
        · rw [bLt_t h4, bIn_t (by omega), if_neg (by omega)]
        · rw [bLt_f (by omega), bIn_t (by omega), if_pos (by omega)]
def reA (vh : Nat → Int) (l : Nat → Nat) (x i : Int) : Int := if 0 ≤ x ∧ x < 6 then (if vh x.toNat = -2 then -11 else if 0 ≤ vh x.toNat then (if 0 ≤ i ∧ i < (l x.toNat : Int) then 0 else -13) else -12) else -1
theorem s_131 {x i : Int} (h : shC σ vh l B st) : mcall (d + 2) 131 [(29, 0), (0, x), (0, i)] σ = some (reA vh l x i, σ) := by
  rw [e_131, s_128, bK_t]
  unfold reA
  by_cases h1 : 0 ≤ x ∧ x < 6
  · obtain ⟨p, hp⟩ : ∃ i : Nat, x = (i : Int) := ⟨x.toNat, by omega⟩
    subst hp
    obtain ⟨a1, a2, a3, a4, a5⟩ := h p (by omega)
    rw [if_pos h1, if_pos h1, bEq_f (by omega), bIn_t (by omega), shx, tn_n, tn_n, a1]
    by_cases h2 : vh p = -2
    · rw [bEq_t h2, if_pos h2]
    · rw [bEq_f h2, if_neg h2, bIn_t (by omega), s_33 a1, bK_t]
      by_cases h3 : 0 ≤ vh p
      · rw [if_pos h3, if_pos h3, bEq_f (by omega), bIn_t (by omega), s_34 a2 a3, bK_t]
        by_cases h4 : 0 ≤ i ∧ i < (l p : Int)
        · rw [if_pos (by omega), if_pos h4, bEq_f (by omega)]
        · rw [if_neg (by omega), if_neg h4, bEq_t (by rfl)]
      · rw [if_neg h3, if_neg h3, bEq_t (by rfl)]
  · rw [if_neg h1, if_neg h1, bEq_t (by rfl)]
theorem s_220 {p : Nat} (hp : p < 6) : mcall (d + 2) 220 [(30, 64), (0, (p : Int))] σ = some (if 0 ≤ σ 87 p ∧ σ 87 p ≤ 4 then 1 else 0, σ) := by
  rw [e_220, bIn_t (by omega), tn_n, s_133, bK_t, bIn_t i01]
theorem s_35 {t v : Int} : mcall (d + 1) 35 [(0, t), (1, v)] σ = some (lbA t v, σ) := by
  rw [e_35]
  unfold lbA
  by_cases h0 : t = 0
  · rw [bEq_t h0, if_pos h0]
  · rw [bEq_f h0, if_neg h0]
    by_cases h1 : t = 1
    · rw [bEq_t h1, if_pos h1]
    · rw [bEq_f h1, if_neg h1]
      by_cases h2 : t = 2
      · rw [bEq_t h2, if_pos h2]
      · rw [bEq_f h2, if_neg h2]
        by_cases h3 : t = 3
        · rw [bEq_t h3, if_pos h3]
        · rw [bEq_f h3, if_neg h3]
          by_cases h4 : v = 0
          · rw [bEq_t (cmp_t h4), if_pos h4]
          · rw [bEq_f (cmp_f h4), if_neg h4]
theorem s_221 {t v : Int} : mcall (d + 1) 221 [(0, t), (1, v)] σ = some (lbA t v, σ) := by
  rw [e_221]
  unfold lbA
  by_cases h0 : t = 0
  · rw [bEq_t h0, if_pos h0]
  · rw [bEq_f h0, if_neg h0]
    by_cases h1 : t = 1
    · rw [bEq_t h1, if_pos h1]
    · rw [bEq_f h1, if_neg h1]
      by_cases h2 : t = 2
      · rw [bEq_t h2, if_pos h2]
      · rw [bEq_f h2, if_neg h2]
        by_cases h3 : t = 3
        · rw [bEq_t h3, if_pos h3]
        · rw [bEq_f h3, if_neg h3]
          by_cases h4 : v = 0
          · rw [bEq_t (cmp_t h4), if_pos h4]
          · rw [bEq_f (cmp_f h4), if_neg h4]
theorem lb_in {t v : Int} : inK t (lbA t v) := by
  unfold inK lbA
  refine ⟨fun h => ?_, fun h => ?_⟩
  · rw [if_pos h]; omega
  · rw [if_neg (by omega), if_pos h]; omega
theorem w60 {p i : Nat} (hp : p < 6) (hi : i < 60) : w32 ((w32 (60 * (p : Int))) + (i : Int)) = ((60 * p + i : Nat) : Int) := by rw [w32_e (x := 60 * (p : Int)) (by omega), w32_e (by omega)]; omega
/-- what holds of the model's shelf, by the refusal -/
theorem sh_re {x i : Int} (h : shM σ vh l B st) (hx : 0 ≤ x ∧ x < 6) : (σ 87 x.toNat = -1 ↔ vh x.toNat = -2) ∧ (0 ≤ vh x.toNat ↔ (0 ≤ σ 87 x.toNat ∧ σ 87 x.toNat ≤ 4)) ∧ σ 88 x.toNat = (l x.toNat : Int) ∧ l x.toNat ≤ 60 ∧ (0 ≤ vh x.toNat → σ 87 x.toNat = vh x.toNat) := by
  obtain ⟨a1, a2, a3, a4⟩ := h x.toNat (by omega)
  refine ⟨?_, ?_, a2, a3, ?_⟩ <;> omega
theorem r_put {x i v : Int} : cR 121 222 [(0, x), (0, i), (1, v)] := by
  intro d xs N k σ hk R
  have R' := R
  obtain ⟨V, L, H, n, s, b, -, -, -, -, ⟨vh, l, B, st, s1, s2, s3⟩, -, ⟨v1, -⟩, -⟩ := R
  by_cases h0 : reA vh l x i < 0
  · refine ⟨reA vh l x i, σ, σ, ?_, ?_, RR_i R', rfl, rfl⟩
    · rw [e_121, s_131 s1, bK_t, bLt_t h0]
    · rw [e_222, s_137, bK_t]
      unfold reA at h0 ⊢
      by_cases h1 : 0 ≤ x ∧ x < 6
      · obtain ⟨c1, c2, c3, c4, c5⟩ := sh_re (i := i) s2 h1
        obtain ⟨p, hp⟩ : ∃ i : Nat, x = (i : Int) := ⟨x.toNat, by omega⟩
        subst hp
        rw [tn_n] at c1 c2 c3 c4 c5
        rw [if_pos h1] at h0 ⊢
        rw [if_pos h1, bEq_f (by omega), bIn_t (by omega), tn_n]
        rw [tn_n] at h0
        by_cases h2 : vh p = -2
        · rw [bEq_t (c1.mpr h2), if_pos h2]
        · rw [bEq_f (fun q => h2 (c1.mp q)), if_neg h2, s_220 (by omega), bK_t]
          by_cases h3 : 0 ≤ vh p
          · rw [if_pos (c2.mp h3), if_pos h3, bEq_f (by omega), bIn_t (by omega), c3, w32_e (by omega), s_133, bK_t]
            rw [if_neg h2, if_pos h3] at h0
            by_cases h4 : 0 ≤ i ∧ i < (l p : Int)
            · rw [if_pos h4] at h0; omega
            · rw [if_neg (by omega), if_neg h4, bEq_t (by rfl)]
          · rw [if_neg (fun q => h3 (c2.mpr q)), if_neg h3, bEq_t (by rfl)]
      · rw [if_neg h1, if_neg h1, bEq_t (by rfl)]
  · have h0' := h0
    unfold reA at h0
    by_cases h1 : 0 ≤ x ∧ x < 6
    · obtain ⟨c1, c2, c3, c4, c5⟩ := sh_re (i := i) s2 h1
      obtain ⟨p, hp⟩ : ∃ i : Nat, x = (i : Int) := ⟨x.toNat, by omega⟩
      subst hp
      rw [tn_n] at c1 c2 c3 c4 c5
      rw [if_pos h1, tn_n] at h0
      have h2 : vh p ≠ -2 := fun q => by rw [if_pos q] at h0; omega
      have h3 : 0 ≤ vh p := by
        apply Classical.byContradiction
        intro q
        rw [if_neg h2, if_neg q] at h0; omega
      have h4 : 0 ≤ i ∧ i < (l p : Int) := by
        apply Classical.byContradiction
        intro q
        rw [if_neg h2, if_pos h3, if_neg q] at h0; omega
      obtain ⟨j, hj⟩ : ∃ j : Nat, i = (j : Int) := ⟨i.toNat, by omega⟩
      subst hj
      have hp6 : p < 6 := by omega
      obtain ⟨a1, a2, a3, a4, a5⟩ := s1 p hp6
      have q1 : ∀ a, a ≠ 48 + 2 * p → mset σ (48 + 2 * p) j (lbA (vh p) v) a = σ a := fun a ha => funext fun j => ms_n (by omega)
      refine ⟨1, mset σ (48 + 2 * p) j (lbA (vh p) v), mset (mset σ (48 + 2 * p) j (lbA (vh p) v)) 89 (60 * p + j) (lbA (vh p) v), ?_, ?_, RR_5 R' (fun a j h => ?_) (fun b' hb' => ?_), q1 _ (by omega), q1 _ (by omega)⟩
      · rw [e_121, s_131 s1, bK_t, bLt_f (by omega), bIn_t (by omega), bIn_t (by omega), shx, tn_n, a1, s_35, bK_t, bIn_t (by omega), shx1, tn_n, tn_n]
      · rw [e_222, s_137, bK_t, if_pos h1, bEq_f (by omega), bIn_t (by omega), tn_n, q1 87 (by omega), bEq_f (fun q => h2 (c1.mp q)), s_220 hp6, bK_t, q1 87 (by omega), if_pos (c2.mp h3), bEq_f (by omega), bIn_t (by omega), q1 88 (by omega), c3, w32_e (x := (l p : Int) - 1) (by omega), s_133, bK_t, if_pos (by omega), bEq_f (by omega), bIn_t (by omega), q1 87 (by omega), c5 h3, s_221, bK_t, w60 hp6 (by omega), bIn_t (by omega), tn_n]
      · unfold P5 SC at h
        rw [ms_n (by omega), ms_n (by omega)]
      · have hbb : b = b' := by have := hb'.1; omega
        subst hbb
        refine ⟨vh, l, uf B p (uf (B p) j (lbA (vh p) v)), st, fun k hk => ?_, fun k hk => ?_, s3⟩
        · obtain ⟨y1, y2, y3, y4, y5⟩ := s1 k hk
          rw [ms_n (by omega), ms_n (by omega), ms_n (by omega), ms_n (by omega), ms_n (by omega), ms_n (by omega)]
          refine ⟨y1, y2, y3, fun i' hi' => ?_, y5⟩
          rw [ms_n (by omega)]
          by_cases he : k = p
          · subst he
            rw [uf_e]
            by_cases hj : i' = j
            · subst hj; rw [uf_e, ms_e]
            · rw [uf_o hj, ms_n (by omega)]; exact y4 i' hi'
          · rw [uf_o he, ms_n (by omega)]; exact y4 i' hi'
        · obtain ⟨y1, y2, y3, y4⟩ := s2 k hk
          rw [ms_n (by omega), ms_n (by omega), ms_n (by omega), ms_n (by omega)]
          refine ⟨y1, y2, y3, fun i' hi' => ?_⟩
          by_cases he : k = p
          · subst he
            rw [uf_e]
            by_cases hj : i' = j
            · subst hj; rw [uf_e, ms_e]; exact ⟨rfl, lb_in⟩
            · rw [uf_o hj, ms_n (by omega), ms_n (by omega)]; exact y4 i' hi'
          · rw [uf_o he, ms_n (by omega), ms_n (by omega)]; exact y4 i' hi'
    · rw [if_neg h1] at h0; omega
theorem r_element {x i : Int} : cR 122 223 [(0, x), (0, i)] := by
  intro d xs N k σ hk R
  have R' := R
  obtain ⟨V, L, H, n, s, b, -, -, -, -, ⟨vh, l, B, st, s1, s2, s3⟩, -, ⟨v1, -⟩, -⟩ := R
  by_cases h0 : reA vh l x i < 0
  · refine ⟨-9223372036854775808, σ, σ, ?_, ?_, RR_i R', rfl, rfl⟩
    · rw [e_122, s_131 s1, bK_t, bLt_t h0]
    · rw [e_223, s_137, bK_t]
      unfold reA at h0
      by_cases h1 : 0 ≤ x ∧ x < 6
      · obtain ⟨c1, c2, c3, c4, c5⟩ := sh_re (i := i) s2 h1
        obtain ⟨p, hp⟩ : ∃ i : Nat, x = (i : Int) := ⟨x.toNat, by omega⟩
        subst hp
        rw [tn_n] at c1 c2 c3 c4 c5
        rw [if_pos h1, tn_n] at h0
        rw [if_pos h1, bEq_f (by omega), s_220 (by omega), bK_t]
        by_cases h3 : 0 ≤ vh p
        · rw [if_pos (c2.mp h3), bEq_f (by omega), bIn_t (by omega), tn_n, c3, w32_e (by omega), s_133, bK_t]
          rw [if_neg (by omega), if_pos h3] at h0
          by_cases h4 : 0 ≤ i ∧ i < (l p : Int)
          · rw [if_pos h4] at h0; omega
          · rw [if_neg (by omega), bEq_t (by rfl)]
        · rw [if_neg (fun q => h3 (c2.mpr q)), bEq_t (by rfl)]
      · rw [if_neg h1, bEq_t (by rfl)]
  · have h0' := h0
    unfold reA at h0
    by_cases h1 : 0 ≤ x ∧ x < 6
    · obtain ⟨c1, c2, c3, c4, c5⟩ := sh_re (i := i) s2 h1
      obtain ⟨p, hp⟩ : ∃ i : Nat, x = (i : Int) := ⟨x.toNat, by omega⟩
      subst hp
      rw [tn_n] at c1 c2 c3 c4 c5
      rw [if_pos h1, tn_n] at h0
      have h2 : vh p ≠ -2 := fun q => by rw [if_pos q] at h0; omega
      have h3 : 0 ≤ vh p := by
        apply Classical.byContradiction
        intro q
        rw [if_neg h2, if_neg q] at h0; omega
      have h4 : 0 ≤ i ∧ i < (l p : Int) := by
        apply Classical.byContradiction
        intro q
        rw [if_neg h2, if_pos h3, if_neg q] at h0; omega
      obtain ⟨j, hj⟩ : ∃ j : Nat, i = (j : Int) := ⟨i.toNat, by omega⟩
      subst hj
      have hp6 : p < 6 := by omega
      obtain ⟨a1, a2, a3, a4, a5⟩ := s1 p hp6
      obtain ⟨b1, b2, b3, b4⟩ := s2 p hp6
      refine ⟨B p j, σ, σ, ?_, ?_, RR_i R', rfl, rfl⟩
      · rw [e_122, s_131 s1, bK_t, bLt_f (by omega), bIn_t (by omega), bIn_t (by omega), shx, shx1, tn_n, tn_n, a4 j (by omega)]
      · rw [e_223, s_137, bK_t, if_pos h1, bEq_f (by omega), s_220 hp6, bK_t, if_pos (c2.mp h3), bEq_f (by omega), bIn_t (by omega), tn_n, c3, w32_e (x := (l p : Int) - 1) (by omega), s_133, bK_t, if_pos (by omega), bEq_f (by omega), w60 hp6 (by omega), bIn_t (by omega), tn_n, (b4 j (by omega)).1]
    · rw [if_neg h1] at h0; omega
end
