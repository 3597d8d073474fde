/-! PURE PART 32: acts of stitches -/
section
variable {d : Nat} {σ τ : mM}
def twS (c s t : Nat) (σ : mM) (b : Int) : mM := if σ c s < 24 then mset (mset σ t (σ c s).toNat b) c s (σ c s + 1) else mset σ c s (σ c s + 1)
def tw (c s t : Nat) (bs : List Int) (σ : mM) : mM := bs.foldl (twS c s t) σ
theorem twS_n {c s t a j : Nat} {b : Int} (h1 : a ≠ c ∨ j ≠ s) (h2 : a ≠ t) : twS c s t σ b a j = σ a j := by
  unfold twS
  split
  · rw [ms_n h1, ms_n (Or.inl h2)]
  · rw [ms_n h1]
theorem twS_c {c s t : Nat} {b : Int} : twS c s t σ b c s = σ c s + 1 := by
  unfold twS
  split <;> rw [ms_e]
theorem tw_n {c s t a j : Nat} (h1 : a ≠ c ∨ j ≠ s) (h2 : a ≠ t) : ∀ {bs : List Int} {σ : mM}, tw c s t bs σ a j = σ a j := by
  intro bs
  induction bs with
  | nil => intro σ; rfl
  | cons b r ih => intro σ; exact (ih (σ := twS c s t σ b)).trans (twS_n h1 h2)
theorem tw_c {c s t : Nat} : ∀ {bs : List Int} {σ : mM}, tw c s t bs σ c s = σ c s + (bs.length : Int) := by
  intro bs
  induction bs with
  | nil => intro σ; exact (Int.add_zero _).symm
  | cons b r ih =>
    intro σ
    refine (ih (σ := twS c s t σ b)).trans ?_
    rw [twS_c, List.length_cons]
    omega
theorem tw_a {c s t : Nat} {a b : List Int} : tw c s t b (tw c s t a σ) = tw c s t (a ++ b) σ := (List.foldl_append ..).symm
theorem tw_eq {c s t c' s' t' : Nat} (h : c ≠ t) (h' : c' ≠ t') : ∀ (bs : List Int) (r : Nat) (σ τ : mM), σ c s = (r : Int) → τ c' s' = (r : Int) → (∀ i, i < r → i < 24 → σ t i = τ t' i) → ∀ i, i < r + bs.length → i < 24 → tw c s t bs σ t i = tw c' s' t' bs τ t' i := by
  intro bs
  induction bs with
  | nil => intro r σ τ _ _ h3 i hi h24; exact h3 i (by simpa using hi) h24
  | cons b q ih =>
    intro r σ τ h1 h2 h3 i hi h24
    have e1 : twS c s t σ b c s = ((r + 1 : Nat) : Int) := by rw [twS_c, h1]; omega
    have e2 : twS c' s' t' τ b c' s' = ((r + 1 : Nat) : Int) := by rw [twS_c, h2]; omega
    refine ih (r + 1) (twS c s t σ b) (twS c' s' t' τ b) e1 e2 (fun i hi h24 => ?_) i (by rw [List.length_cons] at hi; omega) h24
    unfold twS
    rw [h1, h2]
    by_cases hr : (r : Int) < 24
    · rw [if_pos hr, if_pos hr, ms_n (by omega), ms_n (c := c') (by omega), tn_n]
      by_cases he : i = r
      · subst he; rw [ms_e, ms_e]
      · rw [ms_n (by omega), ms_n (by omega)]; exact h3 i (by omega) h24
    · rw [if_neg hr, if_neg hr, ms_n (by omega), ms_n (c := c') (by omega)]; exact h3 i (by omega) h24
/-- what the class, the model have at an act -/
def CC (num o : Nat) (σ : mM) : Prop := (∀ j, σ 901 j = mC1 j) ∧ (∀ j, σ 902 j = mC2 j) ∧ σ 44 num = (o : Int) ∧ 0 ≤ σ 43 3
def MC (num o : Nat) (σ : mM) : Prop := σ 85 num = (o : Int) ∧ 0 ≤ σ 64 34
theorem CC_t {num o : Nat} {bs : List Int} (h : CC num o σ) : CC num o (tw 43 3 45 bs σ) := by
  obtain ⟨h1, h2, h3, h4⟩ := h
  refine ⟨fun j => ?_, fun j => ?_, ?_, ?_⟩
  · rw [tw_n (by omega) (by omega)]; exact h1 j
  · rw [tw_n (by omega) (by omega)]; exact h2 j
  · rw [tw_n (by omega) (by omega)]; exact h3
  · rw [tw_c]; omega
theorem MC_t {num o : Nat} {bs : List Int} (h : MC num o σ) : MC num o (tw 64 34 86 bs σ) := by
  obtain ⟨h1, h2⟩ := h
  refine ⟨?_, ?_⟩
  · rw [tw_n (by omega) (by omega)]; exact h1
  · rw [tw_c]; omega
theorem cls_i {k a : Nat} (hk : k < 8) (ha : a < 4) : w32 ((w32 ((k : Int) * 4)) + (a : Int)) = ((4 * k + a : Nat) : Int) := by
  rw [w32_e (x := (k : Int) * 4) (by omega), w32_e (by omega)]
  omega
theorem cls_z {K : mK} {mx : Int × Int} {num o k a : Nat} {v2 x e j : Int} (hk : k < 8) (ha : a < 4) (hb : mC2 (4 * k + a) = 0) (C : CC num o σ) (h0 : 0 ≤ j) (h7 : j ≤ 7) : mgo K mx 52 6 [(25, 43), (0, (num : Int)), (0, v2), (0, (a : Int)), (0, x), (0, e), (0, (k : Int)), (0, j)] [] σ = mgo K mx 52 6 [(25, 43), (0, (num : Int)), (0, v2), (0, (a : Int)), (0, x), (0, e), (0, mC1 k), (0, j + 1)] [] σ := by
  rw [b_52_6, bLt_t (by omega), bLt_f (by omega), cls_i hk ha, bIn_t (by omega), tn_n, C.2.1, hb, bEq_t (by rfl), bIn_t (by omega), tn_n, C.1, w32_e (by omega)]
theorem cls_nz {K : mK} {mx : Int × Int} {num o k a : Nat} {v2 x e j b : Int} (hk : k < 8) (ha : a < 4) (hb : mC2 (4 * k + a) = b) (hb0 : b ≠ 0) (C : CC num o σ) (hr : σ 43 3 ≤ 1000) (he : 0 ≤ e) (he4 : e ≤ 40) (h0 : 0 ≤ j) (h7 : j ≤ 7) : mgo K mx 52 6 [(25, 43), (0, (num : Int)), (0, v2), (0, (a : Int)), (0, x), (0, e), (0, (k : Int)), (0, j)] [] σ = bK (K 53 [(25, 43), (0, b), (0, (num : Int)), (0, mC1 k), (0, x), (0, e + 1)] (twS 43 3 45 σ b)) (fun r s => some (r, s)) := by
  have hc := C.2.2.2
  rw [b_52_6, bLt_t (by omega), bLt_f (by omega), cls_i hk ha, bIn_t (by omega), tn_n, C.2.1, hb, bEq_f hb0, bLt_f (by omega), bLt_f (by omega), bIn_t (by omega), w32_e (x := e + 1) (by omega)]
  unfold twS
  by_cases h : σ 43 3 < 24
  · rw [bLt_t h, bIn_t (by omega), bIn_t (by omega), if_pos h, tn_n k, ms_n (by omega), ms_n (by omega), C.1, ms_n (a := 43) (by omega), w32_e (by omega)]
  · rw [bLt_f (by omega), bIn_t (by omega), if_neg h, tn_n k, ms_n (by omega), C.1, w32_e (by omega)]
theorem s_210 {b : Int} (h : 0 ≤ σ 64 34) (hr : σ 64 34 ≤ 1000) : mcall (d + 1) 210 [(30, 64), (0, b)] σ = some (0, twS 64 34 86 σ b) := by
  rw [e_210]
  unfold twS
  by_cases hh : σ 64 34 < 24
  · rw [bLt_t hh, bIn_t (by omega), if_pos hh, ms_n (by omega), w32_e (by omega)]
  · rw [bLt_f (by omega), if_neg hh, w32_e (by omega)]
/-- an act of a kind: what both answer, and the bodies run -/
def aA (num o k a m z h n : Nat) : Prop := ∀ x : Int, ∃ v, ∃ bs : List Int, bs.length ≤ n ∧ (∀ d e σ mx v2 j, CC num o σ → 0 ≤ e → e + (h : Int) ≤ 40 → σ 43 3 + (n : Int) ≤ 1000 → 0 ≤ j → j + (z : Int) ≤ 7 → mgo (mcall (d + 2 * h)) mx 52 6 [(25, 43), (0, (num : Int)), (0, v2), (0, (a : Int)), (0, x), (0, e), (0, (k : Int)), (0, j)] [] σ = some (v, tw 43 3 45 bs σ)) ∧ (∀ d σ, MC num o σ → σ 64 34 + (n : Int) ≤ 1000 → mcall (d + 2 * h) m [(30, 64), (0, (num : Int)), (0, (k : Int)), (0, x)] σ = some (v, tw 64 34 86 bs σ))
variable {num o k a m z h n : Nat}
theorem aA_m {z' h' n' : Nat} (A : aA num o k a m z h n) (hz : z ≤ z') (hh : h ≤ h') (hn : n ≤ n') : aA num o k a m z' h' n' := by
  intro x
  obtain ⟨v, bs, h1, h2, h3⟩ := A x
  refine ⟨v, bs, by omega, fun d e σ mx v2 j g1 g2 g3 g4 g5 g6 => ?_, fun d σ g1 g2 => ?_⟩
  · have := h2 (d + 2 * (h' - h)) e σ mx v2 j g1 g2 (by omega) (by omega) g5 (by omega)
    rw [show d + 2 * (h' - h) + 2 * h = d + 2 * h' from by omega] at this
    exact this
  · have := h3 (d + 2 * (h' - h)) σ g1 (by omega)
    rw [show d + 2 * (h' - h) + 2 * h = d + 2 * h' from by omega] at this
    exact this
theorem aA_z (hk0 : 0 < k) (hk : k < 8) (ha : a < 4) (hb : mC2 (4 * k + a) = 0) (hh : 1 ≤ h) (hm : ∀ (d : Nat) (x : Int) (σ : mM), mcall (d + 1) m [(30, 64), (0, (num : Int)), (0, (k : Int)), (0, x)] σ = bK ((mcall d) 209 [(0, (k : Int))] σ) (fun r1 s2 => bK ((mcall d) m [(30, 64), (0, (num : Int)), (0, r1), (0, x)] s2) (fun r3 s4 => some (r3, s4)))) (A : aA num o (abA k) a m z h n) : aA num o k a m (z + 1) (h + 1) n := by
  intro x
  obtain ⟨v, bs, h1, h2, h3⟩ := A x
  refine ⟨v, bs, h1, fun d e σ mx v2 j g1 g2 g3 g4 g5 g6 => ?_, fun d σ g1 g2 => ?_⟩
  · rw [cls_z hk ha hb g1 g5 (by omega), mC1_e hk0 hk]
    rw [show d + 2 * (h + 1) = d + 2 + 2 * h from by omega]
    exact h2 (d + 2) e σ mx v2 (j + 1) g1 g2 (by omega) g4 (by omega) (by omega)
  · have e1 := h3 (d + 1) σ g1 g2
    rw [show d + 2 * (h + 1) = (d + 1 + 2 * h) + 1 from by omega, hm, show d + 1 + 2 * h = (d + 2 * h) + 1 from by omega, s_209 hk, bK_t, show d + 2 * h + 1 = d + 1 + 2 * h from by omega, e1, bK_t]
/-- a body that runs nothing -/
theorem aA_0 {b : Int} {f : Int → Int} (hk : k < 8) (ha : a < 4) (hb : mC2 (4 * k + a) = b) (hb0 : b ≠ 0) (hc : ∀ (d : Nat) (x u e : Int) (σ : mM), mcall (d + 1) 53 [(25, 43), (0, b), (0, (num : Int)), (0, u), (0, x), (0, e)] σ = some (f x, σ)) (hm : ∀ (d : Nat) (x : Int) (σ : mM), mcall (d + 1) m [(30, 64), (0, (num : Int)), (0, (k : Int)), (0, x)] σ = bK ((mcall d) 210 [(30, 64), (0, b)] σ) (fun _ s => some (f x, s))) : aA num o k a m 0 1 1 := by
  intro x
  refine ⟨f x, [b], Nat.le_refl _, fun d e σ mx v2 j g1 g2 g3 g4 g5 g6 => ?_, fun d σ g1 g2 => ?_⟩
  · rw [cls_nz hk ha hb hb0 g1 (by omega) g2 (by omega) g5 (by omega), show d + 2 * 1 = (d + 1) + 1 from by omega, hc, bK_t]
    rfl
  · rw [show d + 2 * 1 = (d + 1) + 1 from by omega, hm, s_210 g1.2 (by omega), bK_t]
    rfl
theorem aA_52 {v : Int} {x e : Int} {bs : List Int} {d : Nat} (C : CC num o σ) (h2 : ∀ d e σ mx v2 j, CC num o σ → 0 ≤ e → e + (h : Int) ≤ 40 → σ 43 3 + (n : Int) ≤ 1000 → 0 ≤ j → j + (z : Int) ≤ 7 → mgo (mcall (d + 2 * h)) mx 52 6 [(25, 43), (0, (num : Int)), (0, v2), (0, (a : Int)), (0, x), (0, e), (0, (k : Int)), (0, j)] [] σ = some (v, tw 43 3 45 bs σ)) (he : 0 ≤ e) (h40 : e + (h : Int) ≤ 40) (hr : σ 43 3 + (n : Int) ≤ 1000) (hz : z ≤ 7) : mcall (d + 2 * h + 1) 52 [(25, 43), (0, (num : Int)), (0, (k : Int)), (0, (a : Int)), (0, x), (0, e)] σ = some (v, tw 43 3 45 bs σ) := by
  rw [e_52]
  exact h2 d e σ _ _ 0 C he h40 hr (by omega) (by omega)
/-- a body that runs one act -/
theorem aA_1 {b : Int} {k1 a1 m1 : Nat} {f g : Int → Int} (hz : z ≤ 7) (hk : k < 8) (ha : a < 4) (hb : mC2 (4 * k + a) = b) (hb0 : b ≠ 0) (hc : ∀ (d : Nat) (x e : Int) (σ : mM), CC num o σ → mcall (d + 1) 53 [(25, 43), (0, b), (0, (num : Int)), (0, mC1 k), (0, x), (0, e)] σ = bK ((mcall d) 52 [(25, 43), (0, (num : Int)), (0, (k1 : Int)), (0, (a1 : Int)), (0, g x), (0, e)] σ) (fun r s => some (f r, s))) (hm : ∀ (d : Nat) (x : Int) (σ : mM), MC num o σ → σ 64 34 ≤ 1000 → mcall (d + 2) m [(30, 64), (0, (num : Int)), (0, (k : Int)), (0, x)] σ = bK ((mcall (d + 1)) m1 [(30, 64), (0, (num : Int)), (0, (k1 : Int)), (0, g x)] (twS 64 34 86 σ b)) (fun r s => some (f r, s))) (A : aA num o k1 a1 m1 z h n) : aA num o k a m 0 (h + 1) (n + 1) := by
  intro x
  obtain ⟨v, bs, h1, h2, h3⟩ := A (g x)
  refine ⟨f v, b :: bs, by rw [List.length_cons]; omega, fun d e σ mx v2 j g1 g2 g3 g4 g5 g6 => ?_, fun d σ g1 g2 => ?_⟩
  · have C' : CC num o (twS 43 3 45 σ b) := CC_t (bs := [b]) g1
    have r' : twS 43 3 45 σ b 43 3 = σ 43 3 + 1 := twS_c
    rw [cls_nz hk ha hb hb0 g1 (by omega) g2 (by omega) g5 (by omega), show d + 2 * (h + 1) = (d + 2 * h + 1) + 1 from by omega, hc _ _ _ _ C', aA_52 C' h2 (by omega) (by omega) (by omega) hz, bK_t, bK_t]
    rfl
  · have C' : MC num o (twS 64 34 86 σ b) := MC_t (bs := [b]) g1
    have r' : twS 64 34 86 σ b 64 34 = σ 64 34 + 1 := twS_c
    rw [show d + 2 * (h + 1) = (d + 2 * h) + 2 from by omega, hm _ _ _ g1 (by omega), show d + 2 * h + 1 = (d + 1) + 2 * h from by omega, h3 _ _ C' (by omega), bK_t]
    rfl
/-- a body that runs two acts -/
theorem aA_2 {b x2 : Int} {k1 a1 m1 k2 a2 m2 n2 : Nat} {f : Int → Int → Int} (hz : z ≤ 7) (hn50 : num < 50) (hk : k < 8) (ha : a < 4) (hb : mC2 (4 * k + a) = b) (hb0 : b ≠ 0) (hk2 : k2 = o) (hc : ∀ (d : Nat) (x e : Int) (σ : mM), CC num o σ → mcall (d + 1) 53 [(25, 43), (0, b), (0, (num : Int)), (0, mC1 k), (0, x), (0, e)] σ = bK ((mcall d) 52 [(25, 43), (0, (num : Int)), (0, (k1 : Int)), (0, (a1 : Int)), (0, x), (0, e)] σ) (fun r s => bK ((mcall d) 52 [(25, 43), (0, (num : Int)), (0, (k2 : Int)), (0, (a2 : Int)), (0, x2), (0, e)] s) (fun r' s' => some (f r r', s')))) (hm : ∀ (d : Nat) (x : Int) (σ : mM), MC num o σ → σ 64 34 ≤ 1000 → mcall (d + 2) m [(30, 64), (0, (num : Int)), (0, (k : Int)), (0, x)] σ = bK ((mcall (d + 1)) m1 [(30, 64), (0, (num : Int)), (0, (k1 : Int)), (0, x)] (twS 64 34 86 σ b)) (fun r s => bIn (num : Int) 50 (bK ((mcall (d + 1)) m2 [(30, 64), (0, (num : Int)), (0, s 85 num), (0, x2)] s) (fun r' s' => some (f r r', s'))))) (A : aA num o k1 a1 m1 z h n) (B : aA num o k2 a2 m2 z h n2) : aA num o k a m 0 (h + 1) (n + n2 + 1) := by
  subst hk2
  intro x
  obtain ⟨v, bs, h1, h2, h3⟩ := A x
  obtain ⟨v', bs', i1, i2, i3⟩ := B x2
  refine ⟨f v v', b :: (bs ++ bs'), by rw [List.length_cons, List.length_append]; omega, fun d e σ mx v2 j g1 g2 g3 g4 g5 g6 => ?_, fun d σ g1 g2 => ?_⟩
  · have C' : CC num k2 (twS 43 3 45 σ b) := CC_t (bs := [b]) g1
    have r' : twS 43 3 45 σ b 43 3 = σ 43 3 + 1 := twS_c
    have r2 : tw 43 3 45 bs (twS 43 3 45 σ b) 43 3 = twS 43 3 45 σ b 43 3 + (bs.length : Int) := tw_c
    rw [cls_nz hk ha hb hb0 g1 (by omega) g2 (by omega) g5 (by omega), show d + 2 * (h + 1) = (d + 2 * h + 1) + 1 from by omega, hc _ _ _ _ C', aA_52 C' h2 (by omega) (by omega) (by omega) hz, bK_t, aA_52 (CC_t C') i2 (by omega) (by omega) (by omega) hz, bK_t, bK_t, tw_a]
    rfl
  · have C' : MC num k2 (twS 64 34 86 σ b) := MC_t (bs := [b]) g1
    have r' : twS 64 34 86 σ b 64 34 = σ 64 34 + 1 := twS_c
    have r2 : tw 64 34 86 bs (twS 64 34 86 σ b) 64 34 = twS 64 34 86 σ b 64 34 + (bs.length : Int) := tw_c
    have C2 := MC_t (bs := bs) C'
    rw [show d + 2 * (h + 1) = (d + 2 * h) + 2 from by omega, hm _ _ _ g1 (by omega), show d + 2 * h + 1 = (d + 1) + 2 * h from by omega, h3 _ _ C' (by omega), bK_t, bIn_t (by omega), C2.1, i3 _ _ C2 (by omega), bK_t, tw_a]
    rfl
end
