/-! PURE PART 34: act -/
section
variable {d k : Nat} {σ τ : mM} {xs : Nat → Int} {N : Int}
theorem u_a {num o a : Nat} (hn : num < 50) (ho : o < 8) (ha : a < 4) : aA num o o a (211 + a) 3 12 14 := by
  rcases (by omega : a = 0 ∨ a = 1 ∨ a = 2 ∨ a = 3) with rfl | rfl | rfl | rfl
  · exact aA_m (u_w hn ho) (by omega) (by omega) (by omega)
  · exact aA_m (u_s hn ho ho) (by omega) (by omega) (by omega)
  · exact aA_m (u_i hn ho ho) (by omega) (by omega) (by omega)
  · exact aA_m (u_t hn ho ho) (by omega) (by omega) (by omega)
theorem act_m {b : Nat} {x y z : Int} (hb : σ 64 32 = (b : Int)) (h5 : b ≤ 50) : (¬ ((0 ≤ x ∧ x < (b : Int)) ∧ 0 ≤ y ∧ y ≤ 3) → mcall (d + 2) 216 [(30, 64), (0, x), (0, y), (0, z)] σ = some (0, mset σ 64 34 0)) ∧ ∀ num a : Nat, num < b → x = (num : Int) → a < 4 → y = (a : Int) → ∀ v s2, mcall (d + 1) (211 + a) [(30, 64), (0, x), (0, σ 85 num), (0, z)] (mset σ 64 34 0) = some (v, s2) → mcall (d + 2) 216 [(30, 64), (0, x), (0, y), (0, z)] σ = some (v, s2) := by
  have e : w32 ((mset σ 64 34 0) 64 32 - 1) = (b : Int) - 1 := by rw [ms_n (by omega), hb, w32_e (by omega)]
  refine ⟨fun h => ?_, fun num a hn hx ha hy v s2 h => ?_⟩
  · rw [e_216, e, s_133, bK_t]
    by_cases hx : 0 ≤ x ∧ x ≤ (b : Int) - 1
    · rw [if_pos hx, bEq_f (by omega), s_133, bK_t, if_neg (by omega), bEq_t (by rfl)]
    · rw [if_neg hx, bEq_t (by rfl)]
  · subst hx hy
    rw [e_216, e, s_133, bK_t, if_pos (by omega), bEq_f (by omega), s_133, bK_t, if_pos (by omega), bEq_f (by omega), bIn_t (by omega), tn_n, ms_n (by omega)]
    rcases (by omega : a = 0 ∨ a = 1 ∨ a = 2 ∨ a = 3) with rfl | rfl | rfl | rfl
    · rw [bEq_t (by rfl), h, bK_t]
    · rw [bEq_f (by omega), bEq_t (by rfl), h, bK_t]
    · rw [bEq_f (by omega), bEq_f (by omega), bEq_t (by rfl), h, bK_t]
    · rw [bEq_f (by omega), bEq_f (by omega), bEq_f (by omega), h, bK_t]
theorem act_c {b : Nat} {x y z : Int} (hb : σ 43 1 = (b : Int)) (h5 : b ≤ 50) : (¬ ((0 ≤ x ∧ x < (b : Int)) ∧ 0 ≤ y ∧ y ≤ 3) → mcall (d + 3) 117 [(29, 0), (0, x), (0, y), (0, z)] σ = some (0, mset σ 43 3 0)) ∧ ∀ num : Nat, num < b → x = (num : Int) → 0 ≤ y → y ≤ 3 → ∀ v s2, mcall (d + 1) 52 [(25, 43), (0, x), (0, σ 44 num), (0, y), (0, z), (0, 0)] (mset σ 43 3 0) = some (v, s2) → mcall (d + 3) 117 [(29, 0), (0, x), (0, y), (0, z)] σ = some (v, s2) := by
  have e : (mset σ 43 3 0) 43 1 = (b : Int) := by rw [ms_n (by omega), hb]
  refine ⟨fun h => ?_, fun num hn hx h0 h3 v s2 h => ?_⟩
  · rw [e_117, e_51, s_48 e, bK_t]
    by_cases hx : 0 ≤ x ∧ x < (b : Int)
    · rw [if_pos hx, bEq_f (by omega)]
      by_cases hy : y < 0
      · rw [bLt_t hy, bK_t]
      · rw [bLt_f (by omega), bLt_t (by omega), bK_t]
    · rw [if_neg hx, bEq_t (by rfl), bK_t]
  · subst hx
    rw [e_117, e_51, s_48 e, bK_t, if_pos (by omega), bEq_f (by omega), bLt_f (by omega), bLt_f (by omega), bIn_t (by omega), tn_n, ms_n (by omega), h, bK_t, bK_t]
theorem r_act {x y z : Int} : cR 117 216 [(0, x), (0, y), (0, z)] := by
  intro d xs N k σ hk R
  have R' := R
  obtain ⟨V, L, H, n, s, b, -, -, -, -, -, -, ⟨v1, v2, v3, v4, r, hr, v5, v6, v7⟩, ⟨-, k1, k2, -⟩⟩ := R
  by_cases h : (0 ≤ x ∧ x < (b : Int)) ∧ 0 ≤ y ∧ y ≤ 3
  · obtain ⟨num, hx⟩ : ∃ i : Nat, x = (i : Int) := ⟨x.toNat, by omega⟩
    obtain ⟨a, hy⟩ : ∃ i : Nat, y = (i : Int) := ⟨y.toNat, by omega⟩
    obtain ⟨w1, w2, w3⟩ := v4 num (by omega)
    obtain ⟨o, ho⟩ : ∃ i : Nat, σ 44 num = (i : Int) := ⟨(σ 44 num).toNat, by omega⟩
    obtain ⟨v, bs, l, c1, c2⟩ := u_a (num := num) (o := o) (a := a) (by omega) (by omega) (by omega) z
    have C0 : CC num o (mset σ 43 3 0) := ⟨fun j => by rw [ms_n (by omega)]; exact k1 j, fun j => by rw [ms_n (by omega)]; exact k2 j, by rw [ms_n (by omega), ho], by rw [ms_e]; omega⟩
    have q1 := aA_52 (d := d + 13) (e := 0) C0 c1 (by omega) (by omega) (by rw [ms_e]; omega) (by omega)
    have p1 : mcall (d + 40) 117 [(29, 0), (0, x), (0, y), (0, z)] σ = some (v, tw 43 3 45 bs (mset σ 43 3 0)) := (act_c (d := d + 37) v1 v3).2 num (by omega) hx (by omega) (by omega) _ _ (by rw [hx, hy, ho]; exact q1)
    have M : ∀ a j, ¬ (a = 43 ∧ j = 3) → a ≠ 45 → tw 43 3 45 bs (mset σ 43 3 0) a j = σ a j := fun a j h1 h2 => by rw [tw_n (by omega) (by omega), ms_n (by omega)]
    have D0 : MC num o (mset (tw 43 3 45 bs (mset σ 43 3 0)) 64 34 0) := ⟨by rw [ms_n (by omega), M 85 num (by omega) (by omega), ← w1, ho], by rw [ms_e]; omega⟩
    have q2 := c2 (d + 15) _ D0 (by rw [ms_e]; omega)
    have p2 : mcall (d + 40) 216 [(30, 64), (0, x), (0, y), (0, z)] (tw 43 3 45 bs (mset σ 43 3 0)) = some (v, tw 64 34 86 bs (mset (tw 43 3 45 bs (mset σ 43 3 0)) 64 34 0)) := (act_m (d := d + 38) (b := b) (by rw [M 64 32 (by omega) (by omega), v2]) v3).2 num a (by omega) hx (by omega) hy _ _ (by rw [M 85 num (by omega) (by omega), ← w1, ho, hx]; exact q2)
    have M2 : ∀ a j, ¬ (a = 43 ∧ j = 3) → ¬ (a = 64 ∧ j = 34) → a ≠ 45 → a ≠ 86 → tw 64 34 86 bs (mset (tw 43 3 45 bs (mset σ 43 3 0)) 64 34 0) a j = σ a j := fun a j h1 h2 h3 h4 => by rw [tw_n (by omega) (by omega), ms_n (by omega), M a j h1 h3]
    have t1 : tw 43 3 45 bs (mset σ 43 3 0) 43 3 = (bs.length : Int) := by rw [tw_c, ms_e]; omega
    have t2 : tw 64 34 86 bs (mset (tw 43 3 45 bs (mset σ 43 3 0)) 64 34 0) 64 34 = (bs.length : Int) := by rw [tw_c, ms_e]; omega
    refine ⟨v, _, _, p1, p2, RR_7 (b' := b) R' (fun a j h => ?_) (fun b0 h0 => by have := h0.1; omega) ⟨?_, ?_, v3, fun i hi => ?_, bs.length, by omega, ?_, t2, fun i h1 h2 => ?_⟩, ?_, ?_⟩
    · unfold P7 SC at h
      exact M2 a j (by omega) (by omega) (by omega) (by omega)
    · rw [M2 43 1 (by omega) (by omega) (by omega) (by omega), v1]
    · rw [M2 64 32 (by omega) (by omega) (by omega) (by omega), v2]
    · rw [M2 44 i (by omega) (by omega) (by omega) (by omega), M2 85 i (by omega) (by omega) (by omega) (by omega)]
      exact v4 i hi
    · rw [tw_n (by omega) (by omega), ms_n (by omega), t1]
    · have := tw_eq (c := 43) (s := 3) (t := 45) (c' := 64) (s' := 34) (t' := 86) (by omega) (by omega) bs 0 (mset σ 43 3 0) (mset (tw 43 3 45 bs (mset σ 43 3 0)) 64 34 0) ms_e ms_e (fun i hi => absurd hi (by omega)) i (by omega) h2
      rw [tw_n (by omega) (by omega), ms_n (by omega), this]
    · exact funext fun j => M 903 j (by omega) (by omega)
    · exact funext fun j => M 904 j (by omega) (by omega)
  · have p1 := (act_c (d := d + 37) (x := x) (y := y) (z := z) v1 v3).1 h
    have p2 := (act_m (d := d + 38) (b := b) (σ := mset σ 43 3 0) (x := x) (y := y) (z := z) (by rw [ms_n (by omega), v2]) v3).1 h
    refine ⟨0, _, _, p1, p2, RR_7 (b' := b) R' (fun a j h => ?_) (fun b0 h0 => by have := h0.1; omega) ⟨?_, ?_, v3, fun i hi => ?_, 0, by omega, ?_, ?_, fun i h1 h2 => by omega⟩, ?_, ?_⟩
    · unfold P7 SC at h
      rw [ms_n (by omega), ms_n (by omega)]
    · rw [ms_n (by omega), ms_n (by omega), v1]
    · rw [ms_n (by omega), ms_n (by omega), v2]
    · rw [ms_n (by omega), ms_n (by omega), ms_n (by omega), ms_n (by omega)]
      exact v4 i hi
    · rw [ms_n (by omega), ms_e]; rfl
    · rw [ms_e]; rfl
    · exact funext fun j => ms_n (by omega)
    · exact funext fun j => ms_n (by omega)
end
