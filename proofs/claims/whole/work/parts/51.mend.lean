/-! PURE PART 32: mend, undo, redo alike -/
section
variable {d n b k : Nat} {σ τ : mM} {V : cV} {L : List (List Int × List Int)} {H : Nat → Nat → Int} {s : Int} {xs : Nat → Int} {N : Int}
theorem G6_new {D U E sh : Nat} {a b c e : Int} (h6 : ∀ i, i < D + U → σ 39 i = σ 84 (4 * i) ∧ σ 40 i = σ 84 (4 * i + 1) ∧ σ 41 i = σ 84 (4 * i + 2) ∧ σ 42 i = σ 84 (4 * i + 3) ∧ okE n (σ 39 i) (σ 40 i) (σ 41 i) (σ 42 i)) (hE : E + sh ≤ D + U) (h40 : E + 1 ≤ 40) (t1 : τ 38 4 = ((E + 1 : Nat) : Int)) (t2 : τ 38 5 = 0) (t3 : τ 64 30 = ((E + 1 : Nat) : Int)) (t4 : τ 64 29 = ((E + 1 : Nat) : Int)) (y : ∀ x i, 39 ≤ x → x ≤ 42 → i < E → τ x i = σ x (i + sh)) (z : ∀ j, j < 4 * E → τ 84 j = σ 84 (j + 4 * sh)) (c1 : τ 39 E = a ∧ τ 40 E = b ∧ τ 41 E = c ∧ τ 42 E = e) (c2 : τ 84 (4 * E) = a ∧ τ 84 (4 * E + 1) = b ∧ τ 84 (4 * E + 2) = c ∧ τ 84 (4 * E + 3) = e) (ho : okE n a b c e) : G6 τ n := by
  refine ⟨E + 1, 0, by omega, t1, t2, t3, t4, fun i hi => ?_⟩
  by_cases he : i = E
  · subst he
    obtain ⟨p1, p2, p3, p4⟩ := c1
    obtain ⟨q1, q2, q3, q4⟩ := c2
    rw [p1, p2, p3, p4, q1, q2, q3, q4]
    exact ⟨rfl, rfl, rfl, rfl, ho⟩
  · have hi' : i < E := by omega
    obtain ⟨r1, r2, r3, r4, r5⟩ := h6 (i + sh) (by omega)
    rw [y 39 i (by omega) (by omega) hi', y 40 i (by omega) (by omega) hi', y 41 i (by omega) (by omega) hi', y 42 i (by omega) (by omega) hi', z (4 * i) (by omega), z (4 * i + 1) (by omega), z (4 * i + 2) (by omega), z (4 * i + 3) (by omega), show 4 * i + 4 * sh = 4 * (i + sh) by omega, show 4 * i + 1 + 4 * sh = 4 * (i + sh) + 1 by omega, show 4 * i + 2 + 4 * sh = 4 * (i + sh) + 2 by omega, show 4 * i + 3 + 4 * sh = 4 * (i + sh) + 3 by omega]
    exact ⟨r1, r2, r3, r4, r5⟩
/-- covers and houses anew behind a number told -/
theorem told_12 {V : cV} {num what : Nat} {v : Int} {μ2 ν : mM} (g1 : G1 σ V k) (g2 : G2 σ L H n s) (ho : okP n num what v) (q1 : gC 2 μ2 = vU V num what v) (q2 : envC μ2 L (hU H num what v) n (sU s what v)) (q3 : ∀ a j, ¬ ((2 ≤ a ∧ a ≤ 5) ∨ (7 ≤ a ∧ a ≤ 9) ∨ (a = 1 ∧ j = 5) ∨ (38 ≤ a ∧ a ≤ 42)) → μ2 a j = σ a j) (p1 : gM ν = vU V num what v) (p2 : envM ν L (hU H num what v) n (sU s what v)) (p3 : ∀ a j, ¬ ((65 ≤ a ∧ a ≤ 68) ∨ (a = 69 ∧ j ≤ 1) ∨ a = 84 ∨ (a = 64 ∧ (j = 29 ∨ j = 30))) → ν a j = μ2 a j) : G1 ν (vU V num what v) (k + 1) ∧ G2 ν L (hU H num what v) n (sU s what v) := by
  obtain ⟨a1, a2, a3, a4, a5, a6⟩ := g1
  obtain ⟨e1, e2, e3, e4, e5⟩ := g2
  refine ⟨⟨?_, p1, okC_vU a3 ho, by rw [vU_3]; omega, fun j h1 h5 => ?_, ?_⟩, ⟨?_, p2, ?_, ?_⟩⟩
  · rw [← q1]
    exact gL_cg (funext fun j => p3 _ _ (by omega)) (funext fun j => p3 _ _ (by omega)) (funext fun j => p3 _ _ (by omega)) (p3 _ _ (by omega)) (p3 _ _ (by omega))
  · rw [p3 6 j (by omega), p3 81 j (by omega), q3 6 j (by omega), q3 81 j (by omega)]
    exact a5 j h1 h5
  · rw [p3 81 0 (by omega), q3 81 0 (by omega), a6, vU_3]
  · exact envC_g (fun a ha => funext fun j => p3 a j (by omega)) q2
  · rw [p3 1 6 (by omega), p3 1 7 (by omega), q3 1 6 (by omega), q3 1 7 (by omega)]; exact e3
  · obtain ⟨h1, h2, h3, h4, hb⟩ := ho
    unfold sU
    split
    · next h => subst h; exact hb (by omega) (by omega)
    · exact ⟨e4, e5⟩
def EA (D : Nat) : Nat := if D < 40 then D else 39
def SA (D : Nat) : Nat := if D < 40 then 0 else 1
theorem EA_b {D : Nat} (h : D ≤ 40) : EA D + SA D ≤ D ∧ EA D + 1 ≤ 40 := by
  unfold EA SA
  split <;> omega
theorem nt_C {a b c e : Int} {D : Nat} (hD : σ 38 4 = (D : Int)) (h40 : D ≤ 40) : ∃ μ, mcall (d + 2) 1 [(20, 38), (0, a), (0, b), (0, c), (0, e)] σ = some (0, μ) ∧ μ 38 4 = ((EA D + 1 : Nat) : Int) ∧ μ 38 5 = 0 ∧ (∀ x i, 39 ≤ x → x ≤ 42 → i < EA D → μ x i = σ x (i + SA D)) ∧ (μ 39 (EA D) = a ∧ μ 40 (EA D) = b ∧ μ 41 (EA D) = c ∧ μ 42 (EA D) = e) ∧ ∀ x j, (x < 38 ∨ 42 < x) → μ x j = σ x j := by
  have z := s_1 (d := d) (a := a) (b := b) (c := c) (e := e) hD h40
  unfold EA SA
  by_cases h : D < 40
  · rw [if_pos h] at z
    rw [if_pos h, if_pos h]
    obtain ⟨v1, v2, v3, v4, v5, v6, v7, v8⟩ := ntC_v (σ := σ) (E := D) (a := a) (b := b) (c := c) (e := e)
    exact ⟨_, z, v1, v2, fun x i h1 h2 h3 => v7 x i (by omega) (by omega), ⟨v3, v4, v5, v6⟩, v8⟩
  · rw [if_neg h] at z
    rw [if_neg h, if_neg h]
    obtain ⟨v1, v2, v3, v4, v5, v6, v7, v8⟩ := ntC_v (σ := shC1 σ) (E := 39) (a := a) (b := b) (c := c) (e := e)
    obtain ⟨w1, w2⟩ := shC1_v (σ := σ)
    exact ⟨_, z, v1, v2, fun x i h1 h2 h3 => (v7 x i (by omega) (by omega)).trans (w1 x i h1 h2 h3), ⟨v3, v4, v5, v6⟩, fun x j h => (v8 x j h).trans (w2 x j h)⟩
theorem nt_M {K : mK} {mx : Int × Int} {a b c e : Int} {D : Nat} (hD : σ 64 30 = (D : Int)) (h40 : D ≤ 40) : ∃ μ, (bEq (σ 64 30) 40 (mgo K mx 146 55 [(30, 64), (0, a), (0, b), (0, e), (0, c), (0, 0)] [] σ) (mgo K mx 146 95 [(30, 64), (0, a), (0, b), (0, e), (0, c), (2, 0)] [] σ)) = some (c, μ) ∧ μ 64 30 = ((EA D + 1 : Nat) : Int) ∧ μ 64 29 = ((EA D + 1 : Nat) : Int) ∧ (∀ j, j < 4 * EA D → μ 84 j = σ 84 (j + 4 * SA D)) ∧ (μ 84 (4 * EA D) = a ∧ μ 84 (4 * EA D + 1) = b ∧ μ 84 (4 * EA D + 2) = c ∧ μ 84 (4 * EA D + 3) = e) ∧ ∀ x j, ¬ (x = 84 ∨ (x = 64 ∧ (j = 29 ∨ j = 30))) → μ x j = σ x j := by
  unfold EA SA
  by_cases h : D < 40
  · rw [if_pos h, if_pos h, bEq_f (by omega), s_146n (Or.inl rfl) hD h]
    obtain ⟨v1, v2, v3, v4, v5, v6, v7, v8⟩ := ntM_v (σ := σ) (E := D) (a := a) (b := b) (c := c) (e := e)
    exact ⟨_, rfl, v1, v2, fun j hj => v7 j (Or.inl hj), ⟨v3, v4, v5, v6⟩, v8⟩
  · rw [if_neg h, if_neg h, bEq_t (by omega), s_146s (by omega)]
    obtain ⟨v1, v2, v3, v4, v5, v6, v7, v8⟩ := ntM_v (σ := mset (shM1 156 σ) 64 30 39) (E := 39) (a := a) (b := b) (c := c) (e := e)
    refine ⟨_, rfl, v1, v2, fun j hj => (v7 j (Or.inl hj)).trans ?_, ⟨v3, v4, v5, v6⟩, fun x j h => (v8 x j h).trans ?_⟩
    · rw [ms_n (by omega)]; exact if_pos (by omega)
    · rw [ms_n (by omega)]; exact if_neg (by omega)
theorem r_mend {x w v : Int} : cR 90 146 [(0, x), (0, w), (0, v)] := by
  intro d xs N k σ hk R
  have R' := R
  obtain ⟨V, L, H, n, s, b, g1, g2, -, -, -, ⟨D, U, u1, u2, u3, u4, u5, u6⟩, -, ⟨k9, -⟩⟩ := R
  have g1' := g1
  have g2' := g2
  obtain ⟨a1, a2, a3, a4, a5, a6⟩ := g1
  obtain ⟨e1, e2, e3, e4⟩ := g2
  have sm : ∀ r : Int, mcall (d + 40) 90 [(29, 0), (0, x), (0, w), (0, v)] σ = some (r, σ) → mcall (d + 40) 146 [(30, 64), (0, x), (0, w), (0, v)] σ = some (r, σ) → ∃ r σ1 σ2, mcall (d + 40) 90 [(29, 0), (0, x), (0, w), (0, v)] σ = some (r, σ1) ∧ mcall (d + 40) 146 [(30, 64), (0, x), (0, w), (0, v)] σ1 = some (r, σ2) ∧ RR xs N (k + 1) σ2 ∧ σ1 903 = σ 903 ∧ σ1 904 = σ 904 := fun r h1 h2 => ⟨r, σ, σ, h1, h2, RR_i R', rfl, rfl⟩
  obtain ⟨c1, c2⟩ := s_40 (d := d + 37) (x := x) (w := w) e1.2.1
  have mm := fun (σ : mM) (hn : σ 64 3 = (n : Int)) => s_142 (d := d + 36) (x := x) (w := w) hn e2.2.2.2.1
  by_cases h : hnP n x w
  · have hh := h
    obtain ⟨h1, h2, h3, h4, h5⟩ := h
    obtain ⟨num, hnum⟩ : ∃ i : Nat, x = (i : Int) := ⟨x.toNat, by
      by_cases hw2 : w ≤ 2
      · have := h3 hw2; omega
      · by_cases hw5 : w ≤ 5
        · have := h4 ⟨by omega, hw5⟩; omega
        · have := h5 (by omega); omega⟩
    obtain ⟨what, hwhat⟩ : ∃ i : Nat, w = (i : Int) := ⟨w.toNat, by omega⟩
    subst hnum hwhat
    have n2 : what ≤ 2 → num < 30 := fun q => by have := h3 (by omega); omega
    have n3 : 3 ≤ what ∧ what ≤ 5 → num < n := fun q => by have := h4 (by omega); omega
    have n4 : 6 ≤ what → num = 0 := fun q => by have := h5 (by omega); omega
    have ka := k9 what
    by_cases hv : 0 ≤ v ∧ v ≤ mC0 what
    · have A := s_41e (d := d + 37) (num := num) (what := what) a1 e1 (by omega) n2 n3
      by_cases he : nvA V H s num what = v
      · refine sm (nvA V H s num what) ?_ ?_
        · rw [e_90, c1 hh, bK_t, bEq_f (by omega), bIn_t (by omega), s_126, bK_t, tn_n, ka, if_pos hv, bEq_f (by omega), A, bK_t, bEq_t he]
        · rw [f_146, (mm σ e2.2.2.1).1 hh, bK_t, bEq_f (by omega), s_143 (by omega), bK_t, if_pos hv, bEq_f (by omega), s_144e (d := d + 38) (num := num) (what := what) a2 e2 (by omega) n2 n3, bK_t, bEq_t he]
      · have ho : okP n num what v := ⟨by omega, n2, n3, n4, fun _ _ => hv⟩
        obtain ⟨μ, p1, p2, p3, p4⟩ := s_42e (d := d + 37) a1 a3 e1 ho
        obtain ⟨μ2, q1, q2, q3, q4, q5, q6⟩ := nt_C (d := d + 37) (σ := μ) (a := (num : Int)) (b := (what : Int)) (c := nvA V H s num what) (e := v) (D := D) ((p4 38 4 (by omega)).trans u2) (by omega)
        have f2 : ∀ a j, ¬ ((2 ≤ a ∧ a ≤ 5) ∨ (7 ≤ a ∧ a ≤ 9) ∨ (a = 1 ∧ j = 5) ∨ (38 ≤ a ∧ a ≤ 42)) → μ2 a j = σ a j := fun a j hq => (q6 a j (by omega)).trans (p4 a j (by omega))
        have gm2 : gM μ2 = V := by
          rw [← a2]
          exact gL_cg (funext fun j => f2 _ _ (by omega)) (funext fun j => f2 _ _ (by omega)) (funext fun j => f2 _ _ (by omega)) (f2 _ _ (by omega)) (f2 _ _ (by omega))
        have em2 : envM μ2 L H n s := envM_g (fun a ha => funext fun j => f2 a j (by omega)) (f2 _ _ (by omega)) (f2 _ _ (by omega)) (f2 _ _ (by omega)) (f2 _ _ (by omega)) e2
        have gc2 : gC 2 μ2 = vU V num what v := by
          rw [← p2]
          exact gL_cg (funext fun j => q6 _ _ (by omega)) (funext fun j => q6 _ _ (by omega)) (funext fun j => q6 _ _ (by omega)) (q6 _ _ (by omega)) (q6 _ _ (by omega))
        have ec2 : envC μ2 L (hU H num what v) n (sU s what v) := envC_g (fun a ha => funext fun j => q6 a j (by omega)) p3
        obtain ⟨ν, r1, r2, r3, r4⟩ := s_145e (d := d + 38) gm2 a3 em2 ho
        have B := s_144e (d := d + 38) (num := num) (what := what) gm2 em2 (by omega) n2 n3
        obtain ⟨ρ, t1, t2, t3, t4, t5, t6⟩ := nt_M (K := mcall (d + 39)) (mx := mX 146 μ2) (σ := ν) (a := (num : Int)) (b := (what : Int)) (c := nvA V H s num what) (e := v) (D := D) ((r4 64 30 (by omega)).trans ((f2 64 30 (by omega)).trans u4)) (by omega)
        have f3 : ∀ a j, ¬ ((65 ≤ a ∧ a ≤ 68) ∨ (a = 69 ∧ j ≤ 1) ∨ a = 84 ∨ (a = 64 ∧ (j = 29 ∨ j = 30))) → ρ a j = μ2 a j := fun a j hq => (t6 a j (by omega)).trans (r4 a j (by omega))
        have gmr : gM ρ = vU V num what v := by
          rw [← r2]
          exact gL_cg (funext fun j => t6 _ _ (by omega)) (funext fun j => t6 _ _ (by omega)) (funext fun j => t6 _ _ (by omega)) (t6 _ _ (by omega)) (t6 _ _ (by omega))
        have emr : envM ρ L (hU H num what v) n (sU s what v) := envM_g (fun a ha => funext fun j => t6 a j (by omega)) (t6 _ _ (by omega)) (t6 _ _ (by omega)) (t6 _ _ (by omega)) (t6 _ _ (by omega)) r3
        obtain ⟨G1', G2'⟩ := told_12 g1' g2' ho gc2 ec2 f2 gmr emr f3
        obtain ⟨b1, b2⟩ := EA_b (D := D) (by omega)
        refine ⟨nvA V H s num what, μ2, ρ, ?_, ?_, RR_a R' (fun a j hq => ?_) G1' G2' (G6_new (E := EA D) (sh := SA D) (a := (num : Int)) (b := (what : Int)) (c := nvA V H s num what) (e := v) u6 (by omega) b2 ?_ ?_ t2 t3 (fun x i y1 y2 y3 => ?_) (fun j hj => ?_) ?_ t5 ?_), funext fun j => f2 _ _ (by omega), funext fun j => f2 _ _ (by omega)⟩
        · rw [e_90, c1 hh, bK_t, bEq_f (by omega), bIn_t (by omega), s_126, bK_t, tn_n, ka, if_pos hv, bEq_f (by omega), A, bK_t, bEq_f he, p1, bK_t, q1, bK_t]
        · rw [f_146, (mm μ2 em2.2.2.1).1 hh, bK_t, bEq_f (by omega), s_143 (by omega), bK_t, if_pos hv, bEq_f (by omega), B, bK_t, bEq_f he, r1, bK_t, t1]
        · unfold P1 P2 P6 SC at hq
          rw [f3 a j (by omega), f2 a j (by omega)]
        · exact (f3 38 4 (by omega)).trans q2
        · exact (f3 38 5 (by omega)).trans q3
        · rw [f3 x i (by omega), q4 x i y1 y2 y3]
          exact p4 x _ (by omega)
        · rw [t4 j hj, r4 84 _ (by omega)]
          exact f2 84 _ (by omega)
        · rw [f3 39 _ (by omega), f3 40 _ (by omega), f3 41 _ (by omega), f3 42 _ (by omega)]; exact q5
        · refine ⟨h1, h2, h3, h4, h5, fun y4 y5 => ?_⟩
          have z := nvA_ok (V := V) (H := H) (s := s) (num := num) (what := what) a3 e4 (fun q => by have := e1.2.2.2.1 num (n3 q); omega) (by omega) (by omega) (by omega)
          rw [tn_n]
          exact ⟨z.1, z.2, hv.1, hv.2⟩
    · refine sm (-1) ?_ ?_
      · rw [e_90, c1 hh, bK_t, bEq_f (by omega), bIn_t (by omega), s_126, bK_t, tn_n, ka, if_neg hv, bEq_t (by rfl)]
      · rw [f_146, (mm σ e2.2.2.1).1 hh, bK_t, bEq_f (by omega), s_143 (by omega), bK_t, if_neg hv, bEq_t (by rfl), f_146_17]
  · refine sm (-1) ?_ ?_
    · rw [e_90, c2 h, bK_t, bEq_t (by rfl)]
    · rw [f_146, (mm σ e2.2.2.1).2 h, bK_t, bEq_t (by rfl), f_146_17]
/-- a change as told -/
theorem okE_nat {a b c e : Int} (h : okE n a b c e) : ∃ num what : Nat, a = (num : Int) ∧ b = (what : Int) ∧ okP n num what c ∧ okP n num what e := by
  obtain ⟨h1, h2, h3, h4, h5, h6⟩ := h
  obtain ⟨what, hw⟩ : ∃ i : Nat, b = (i : Int) := ⟨b.toNat, by omega⟩
  subst hw
  obtain ⟨num, hn⟩ : ∃ i : Nat, a = (i : Int) := ⟨a.toNat, by omega⟩
  subst hn
  rw [tn_n] at h6
  refine ⟨num, what, rfl, rfl, ⟨by omega, fun q => by omega, fun q => by omega, fun q => by omega, fun q1 q2 => ?_⟩, ⟨by omega, fun q => by omega, fun q => by omega, fun q => by omega, fun q1 q2 => ?_⟩⟩
  · have := h6 (by omega) (by omega); exact ⟨this.1, this.2.1⟩
  · have := h6 (by omega) (by omega); exact ⟨this.2.2.1, this.2.2.2⟩
theorem G6_mv {D U D' U' : Nat} (h6 : ∀ i, i < D + U → σ 39 i = σ 84 (4 * i) ∧ σ 40 i = σ 84 (4 * i + 1) ∧ σ 41 i = σ 84 (4 * i + 2) ∧ σ 42 i = σ 84 (4 * i + 3) ∧ okE n (σ 39 i) (σ 40 i) (σ 41 i) (σ 42 i)) (u1 : D + U ≤ 40) (hs : D' + U' = D + U) (t1 : τ 38 4 = (D' : Int)) (t2 : τ 38 5 = (U' : Int)) (t3 : τ 64 30 = (D' : Int)) (t4 : τ 64 29 = ((D' + U' : Nat) : Int)) (y : ∀ x i, 39 ≤ x → x ≤ 42 → τ x i = σ x i) (z : ∀ j, τ 84 j = σ 84 j) : G6 τ n := by
  refine ⟨D', U', by omega, t1, t2, t3, t4, fun i hi => ?_⟩
  rw [y 39 i (by omega) (by omega), y 40 i (by omega) (by omega), y 41 i (by omega) (by omega), y 42 i (by omega) (by omega), z, z, z, z]
  exact h6 i (by omega)
theorem r_undo : cR 114 148 [] := by
  intro d xs N k σ hk R
  have R' := R
  obtain ⟨V, L, H, n, s, b, g1, g2, -, -, -, ⟨D, U, u1, u2, u3, u4, u5, u6⟩, -, -⟩ := R
  have g1' := g1
  have g2' := g2
  obtain ⟨a1, a2, a3, a4, a5, a6⟩ := g1
  obtain ⟨e1, e2, e3, e4⟩ := g2
  cases D with
  | zero =>
    refine ⟨-5, σ, σ, ?_, ?_, RR_i R', rfl, rfl⟩
    · rw [e_114, u2, bEq_t (by rfl)]
    · rw [e_148, u4, bEq_t (by rfl)]
  | succ D =>
    obtain ⟨y1, y2, y3, y4, y5⟩ := u6 D (by omega)
    obtain ⟨num, what, hn, hw, ho, -⟩ := okE_nat y5
    have w1 : Unit → w32 (((D + 1 : Nat) : Int) - 1) = (D : Int) := fun _ => by rw [w32_e (by omega)]; omega
    have w2 : Unit → w32 ((U : Int) + 1) = ((U + 1 : Nat) : Int) := fun _ => w32_n (by omega)
    obtain ⟨α, hα⟩ : ∃ α, α = mset (mset σ 38 4 (D : Int)) 38 5 ((U + 1 : Nat) : Int) := ⟨_, rfl⟩
    have fα : ∀ a j, a ≠ 38 → α a j = σ a j := fun a j ha => by rw [hα, ms_n (by omega), ms_n (by omega)]
    have gα : gC 2 α = V := by
      rw [← a1]
      exact gL_cg (funext fun j => fα _ _ (by omega)) (funext fun j => fα _ _ (by omega)) (funext fun j => fα _ _ (by omega)) (fα _ _ (by omega)) (fα _ _ (by omega))
    have eα : envC α L H n s := envC_g (fun a ha => funext fun j => fα a j (by omega)) e1
    obtain ⟨μ, p1, p2, p3, p4⟩ := s_42e (d := d + 36) gα a3 eα ho
    have f2 : ∀ a j, ¬ ((2 ≤ a ∧ a ≤ 5) ∨ (7 ≤ a ∧ a ≤ 9) ∨ (a = 1 ∧ j = 5) ∨ a = 38) → μ a j = σ a j := fun a j hq => (p4 a j (by omega)).trans (fα a j (by omega))
    obtain ⟨β, hβ⟩ : ∃ β, β = mset μ 64 30 (D : Int) := ⟨_, rfl⟩
    have fβ : ∀ a j, ¬ (a = 64 ∧ j = 30) → β a j = μ a j := fun a j ha => by rw [hβ, ms_n (by omega)]
    have gβ : gM β = V := by
      rw [← a2]
      exact gL_cg (funext fun j => (fβ _ _ (by omega)).trans (f2 _ _ (by omega))) (funext fun j => (fβ _ _ (by omega)).trans (f2 _ _ (by omega))) (funext fun j => (fβ _ _ (by omega)).trans (f2 _ _ (by omega))) ((fβ _ _ (by omega)).trans (f2 _ _ (by omega))) ((fβ _ _ (by omega)).trans (f2 _ _ (by omega)))
    have eβ : envM β L H n s := envM_g (fun a ha => funext fun j => (fβ _ _ (by omega)).trans (f2 a j (by omega))) ((fβ _ _ (by omega)).trans (f2 _ _ (by omega))) ((fβ _ _ (by omega)).trans (f2 _ _ (by omega))) ((fβ _ _ (by omega)).trans (f2 _ _ (by omega))) ((fβ _ _ (by omega)).trans (f2 _ _ (by omega))) e2
    obtain ⟨ν, r1, r2, r3, r4⟩ := s_145e (d := d + 38) gβ a3 eβ ho
    have f3 : ∀ a j, ¬ ((65 ≤ a ∧ a ≤ 68) ∨ (a = 69 ∧ j ≤ 1) ∨ a = 84 ∨ (a = 64 ∧ (j = 29 ∨ j = 30))) → ν a j = μ a j := fun a j hq => (r4 a j (by omega)).trans (fβ a j (by omega))
    obtain ⟨G1', G2'⟩ := told_12 (μ2 := μ) (ν := ν) g1' g2' ho p2 p3 (fun a j hq => f2 a j (by omega)) r2 r3 f3
    have e84 : ∀ j, β 84 j = σ 84 j := fun j => (fβ _ _ (by omega)).trans (f2 _ _ (by omega))
    refine ⟨(D : Int), μ, ν, ?_, ?_, RR_a R' (fun a j hq => ?_) G1' G2' (G6_mv (D' := D) (U' := U + 1) u6 u1 (by omega) ?_ ?_ ?_ ?_ (fun x i h1 h2 => ?_) (fun j => ?_)), funext fun j => f2 _ _ (by omega), funext fun j => f2 _ _ (by omega)⟩
    · have r5 : ∀ v, mset σ 38 4 v 38 5 = σ 38 5 := fun v => ms_n (by omega)
      rw [e_114, u2, bEq_f (by omega), e_3, u2, bLt_t (by omega), w1 ()]
      simp only [r5, u3]
      rw [w2 (), ← hα, show α 38 4 = (D : Int) by rw [hα, ms_n (by omega), ms_e], bIn_t (by omega), bIn_t (by omega), bIn_t (by omega), tn_n, fα 39 D (by omega), fα 40 D (by omega), fα 41 D (by omega), hn, hw, p1, bK_t, bK_t, p4 38 4 (by omega), hα, ms_n (by omega), ms_e]
    · rw [e_148, f2 64 30 (by omega), u4, bEq_f (by omega), w1 (), ← hβ, show β 64 30 = (D : Int) by rw [hβ, ms_e], w4E (by omega), bIn_t (by omega), w32_n (by omega), bIn_t (by omega), w4E2 (by omega), bIn_t (by omega), tn_n, tn_n, tn_n, e84, e84, e84, ← y1, ← y2, ← y3, hn, hw, r1, bK_t, r4 64 30 (by omega), hβ, ms_e]
    · unfold P1 P2 P6 SC at hq
      rw [f3 a j (by omega), f2 a j (by omega)]
    · rw [f3 38 4 (by omega), p4 38 4 (by omega), hα, ms_n (by omega), ms_e]
    · rw [f3 38 5 (by omega), p4 38 5 (by omega), hα, ms_e]
    · rw [r4 64 30 (by omega), hβ, ms_e]
    · rw [r4 64 29 (by omega), fβ 64 29 (by omega), f2 64 29 (by omega), u5]
      exact congrArg (fun z : Nat => (z : Int)) (by omega)
    · rw [f3 x i (by omega), f2 x i (by omega)]
    · rw [r4 84 j (by omega), e84]
theorem r_redo : cR 115 149 [] := by
  intro d xs N k σ hk R
  have R' := R
  obtain ⟨V, L, H, n, s, b, g1, g2, -, -, -, ⟨D, U, u1, u2, u3, u4, u5, u6⟩, -, -⟩ := R
  have g1' := g1
  have g2' := g2
  obtain ⟨a1, a2, a3, a4, a5, a6⟩ := g1
  obtain ⟨e1, e2, e3, e4⟩ := g2
  cases U with
  | zero =>
    refine ⟨-5, σ, σ, ?_, ?_, RR_i R', rfl, rfl⟩
    · rw [e_115, u3, bEq_t (by rfl)]
    · rw [e_149, u4, u5, bEq_t (by rfl)]
  | succ U =>
    obtain ⟨y1, y2, y3, y4, y5⟩ := u6 D (by omega)
    obtain ⟨num, what, hn, hw, -, ho⟩ := okE_nat y5
    have w1 : Unit → w32 (((U + 1 : Nat) : Int) - 1) = (U : Int) := fun _ => by rw [w32_e (by omega)]; omega
    have w2 : Unit → w32 ((D : Int) + 1) = ((D + 1 : Nat) : Int) := fun _ => w32_n (by omega)
    obtain ⟨μ, p1, p2, p3, p4⟩ := s_42e (d := d + 36) a1 a3 e1 ho
    obtain ⟨μ2, hμ2⟩ : ∃ α, α = mset (mset μ 38 4 ((D + 1 : Nat) : Int)) 38 5 (U : Int) := ⟨_, rfl⟩
    have fα : ∀ a j, a ≠ 38 → μ2 a j = μ a j := fun a j ha => by rw [hμ2, ms_n (by omega), ms_n (by omega)]
    have f2 : ∀ a j, ¬ ((2 ≤ a ∧ a ≤ 5) ∨ (7 ≤ a ∧ a ≤ 9) ∨ (a = 1 ∧ j = 5) ∨ a = 38) → μ2 a j = σ a j := fun a j hq => (fα a j (by omega)).trans (p4 a j (by omega))
    have gc2 : gC 2 μ2 = vU V num what (σ 42 D) := by
      rw [← p2]
      exact gL_cg (funext fun j => fα _ _ (by omega)) (funext fun j => fα _ _ (by omega)) (funext fun j => fα _ _ (by omega)) (fα _ _ (by omega)) (fα _ _ (by omega))
    have ec2 := envC_g (fun a ha => funext fun j => fα a j (by omega)) p3
    have gm2 : gM μ2 = V := by
      rw [← a2]
      exact gL_cg (funext fun j => f2 _ _ (by omega)) (funext fun j => f2 _ _ (by omega)) (funext fun j => f2 _ _ (by omega)) (f2 _ _ (by omega)) (f2 _ _ (by omega))
    have em2 : envM μ2 L H n s := envM_g (fun a ha => funext fun j => f2 a j (by omega)) (f2 _ _ (by omega)) (f2 _ _ (by omega)) (f2 _ _ (by omega)) (f2 _ _ (by omega)) e2
    obtain ⟨ν, r1, r2, r3, r4⟩ := s_145e (d := d + 38) gm2 a3 em2 ho
    obtain ⟨ρ, hρ⟩ : ∃ ρ, ρ = mset ν 64 30 ((D + 1 : Nat) : Int) := ⟨_, rfl⟩
    have fρ : ∀ a j, ¬ (a = 64 ∧ j = 30) → ρ a j = ν a j := fun a j ha => by rw [hρ, ms_n (by omega)]
    have f3 : ∀ a j, ¬ ((65 ≤ a ∧ a ≤ 68) ∨ (a = 69 ∧ j ≤ 1) ∨ a = 84 ∨ (a = 64 ∧ (j = 29 ∨ j = 30))) → ρ a j = μ2 a j := fun a j hq => (fρ a j (by omega)).trans (r4 a j (by omega))
    have gmr : gM ρ = vU V num what (σ 42 D) := by
      rw [← r2]
      exact gL_cg (funext fun j => fρ _ _ (by omega)) (funext fun j => fρ _ _ (by omega)) (funext fun j => fρ _ _ (by omega)) (fρ _ _ (by omega)) (fρ _ _ (by omega))
    have emr := envM_g (fun a ha => funext fun j => fρ a j (by omega)) (fρ _ _ (by omega)) (fρ _ _ (by omega)) (fρ _ _ (by omega)) (fρ _ _ (by omega)) r3
    obtain ⟨G1', G2'⟩ := told_12 (μ2 := μ2) (ν := ρ) g1' g2' ho gc2 ec2 (fun a j hq => f2 a j (by omega)) gmr emr f3
    have e84 : ∀ j, μ2 84 j = σ 84 j := fun j => f2 _ _ (by omega)
    refine ⟨(U : Int), μ2, ρ, ?_, ?_, RR_a R' (fun a j hq => ?_) G1' G2' (G6_mv (D' := D + 1) (U' := U) u6 u1 (by omega) ?_ ?_ ?_ ?_ (fun x i h1 h2 => ?_) (fun j => ?_)), funext fun j => f2 _ _ (by omega), funext fun j => f2 _ _ (by omega)⟩
    · have r5 : ∀ v, mset μ 38 4 v 38 5 = μ 38 5 := fun v => ms_n (by omega)
      rw [e_115, u3, bEq_f (by omega), e_4, u3, bLt_t (by omega), u2, bLt_t (by omega), bIn_t (by omega), bIn_t (by omega), bIn_t (by omega), tn_n, hn, hw, p1, bK_t]
      simp only [r5, p4 38 4 (by omega), p4 38 5 (by omega), u2, u3]
      rw [w2 (), w1 (), bK_t, ← hμ2, hμ2, ms_e]
    · rw [e_149, f2 64 30 (by omega), f2 64 29 (by omega), u4, u5, bEq_f (by omega), w4E (by omega), bIn_t (by omega), w32_n (by omega), bIn_t (by omega), w4E3 (by omega), bIn_t (by omega), tn_n, tn_n, tn_n, e84, e84, e84, ← y1, ← y2, ← y4, hn, hw, r1, bK_t, r4 64 30 (by omega), f2 64 30 (by omega), u4, w2 (), ← hρ, show ρ 64 30 = ((D + 1 : Nat) : Int) by rw [hρ, ms_e], fρ 64 29 (by omega), r4 64 29 (by omega), f2 64 29 (by omega), u5, w32_e (by omega)]
      refine sm_c ?_
      omega
    · unfold P1 P2 P6 SC at hq
      rw [f3 a j (by omega), f2 a j (by omega)]
    · rw [f3 38 4 (by omega), hμ2, ms_n (by omega), ms_e]
    · rw [f3 38 5 (by omega), hμ2, ms_e]
    · rw [hρ, ms_e]
    · rw [fρ 64 29 (by omega), r4 64 29 (by omega), f2 64 29 (by omega), u5]
      exact congrArg (fun z : Nat => (z : Int)) (by omega)
    · rw [f3 x i (by omega), f2 x i (by omega)]
    · rw [fρ 84 j (by omega), r4 84 j (by omega), e84]
end
