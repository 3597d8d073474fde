/-! PURE PART 26: deeds -/
def SC (a j : Nat) : Prop := a = 15 ∨ a = 16 ∨ a = 22 ∨ a = 23 ∨ (26 ≤ a ∧ a ≤ 37) ∨ a = 79 ∨ a = 80 ∨ (90 ≤ a ∧ a ≤ 94) ∨ (75 ≤ a ∧ a ≤ 78) ∨ (a = 64 ∧ 15 ≤ j ∧ j ≤ 18) ∨ (a = 24 ∧ (j = 2 ∨ j = 3))
section
variable {σ τ : mM} {V V' : cV} {k n b : Nat} {L : List (List Int × List Int)} {H : Nat → Nat → Int} {s : Int} {xs : Nat → Int} {N : Int}
theorem RR_1 (h : RR xs N k σ) (x : ∀ a j, ¬ (P1 a j ∨ SC a j) → τ a j = σ a j) (g : G1 τ V' (k + 1)) : RR xs N (k + 1) τ := by
  obtain ⟨V, L, H, n, s, b, g1, g2, g3, g4, g5, g6, g7, g8⟩ := h
  exact ⟨V', L, H, n, s, b, g, G2_f (fun a j h => x a j (by unfold P1 P2 SC at *; omega)) g2, G3_k (by omega) (G3_f (fun a j h => x a j (by unfold P1 P3 SC at *; omega)) g3), G4_f (fun a j h => x a j (by unfold P1 P4 SC at *; omega)) g4, G5_f (fun a j h => x a j (by unfold P1 P5 SC at *; omega)) g5, G6_f (fun a j h => x a j (by unfold P1 P6 SC at *; omega)) g6, G7_f (fun a j h => x a j (by unfold P1 P7 SC at *; omega)) g7, G8_f (fun a j h => x a j (by unfold P1 P8 SC at *; omega)) g8⟩
theorem RR_3 (h : RR xs N k σ) (x : ∀ a j, ¬ (P3 a j ∨ SC a j) → τ a j = σ a j) (g : G3 τ (k + 1)) : RR xs N (k + 1) τ := by
  obtain ⟨V, L, H, n, s, b, g1, g2, g3, g4, g5, g6, g7, g8⟩ := h
  exact ⟨V, L, H, n, s, b, G1_k (by omega) (G1_f (fun a j h => x a j (by unfold P1 P3 SC at *; omega)) g1), G2_f (fun a j h => x a j (by unfold P3 P2 SC at *; omega)) g2, g, G4_f (fun a j h => x a j (by unfold P3 P4 SC at *; omega)) g4, G5_f (fun a j h => x a j (by unfold P3 P5 SC at *; omega)) g5, G6_f (fun a j h => x a j (by unfold P3 P6 SC at *; omega)) g6, G7_f (fun a j h => x a j (by unfold P3 P7 SC at *; omega)) g7, G8_f (fun a j h => x a j (by unfold P3 P8 SC at *; omega)) g8⟩
theorem RR_s (h : RR xs N k σ) (x : ∀ a j, ¬ SC a j → τ a j = σ a j) : RR xs N (k + 1) τ := by
  have h' := h
  obtain ⟨V, L, H, n, s, b, g1, -⟩ := h
  exact RR_1 h' (fun a j q => x a j (fun z => q (Or.inr z))) (G1_k (by omega) (G1_f (fun a j h => x a j (by unfold P1 SC at *; omega)) g1))
theorem RR_i (h : RR xs N k σ) : RR xs N (k + 1) σ := RR_s h (fun _ _ _ => rfl)
theorem gC_m {i : Nat} {v : Int} (hi : i ≠ 0) : gC 2 (mset σ 6 i v) = gC 2 σ := gL_cg (funext fun j => ms_n (by omega)) (funext fun j => ms_n (by omega)) (funext fun j => ms_n (by omega)) (ms_n (by omega)) (ms_n (by omega))
theorem gM_m {i : Nat} {v : Int} : gM (mset σ 81 i v) = gM σ := gL_cg (funext fun j => ms_n (by omega)) (funext fun j => ms_n (by omega)) (funext fun j => ms_n (by omega)) (ms_n (by omega)) (ms_n (by omega))
theorem fr_2 {l : List Nat} (F : fr l σ τ) {a : Nat} (h : ∀ x ∈ l, x ≠ a) (j : Nat) : τ a j = σ a j := fr_e F (fun q => h a q rfl) j
theorem r_month : cR 107 202 [] := by
  intro d xs N k σ hk R
  have R' := R
  obtain ⟨V, L, H, n, s, b, ⟨a1, a2, a3, a4, a5, a6⟩, ⟨e1, e2, e3⟩, -⟩ := R
  have hb := bits_c (L := L) (H := H) (V := V) e1.2.2.1
  obtain ⟨μ, m1, m2⟩ := s_44 (d := d + 34) (c := 2) (Or.inl rfl) a1 a3 e1
  have m1' : mcall (d + 39) 44 [(24, 1), (21, 2)] σ = some (bitsA L H V n, μ) := m1
  have gμ : gC 2 μ = V := (gC_S (Or.inl rfl) m2).trans a1
  have hs : μ 1 5 = s := (fr_e m2 (by decide) 5).trans e1.2.2.2.2
  have gμ2 : gC 2 (mset μ 6 4 (w32 (μ 6 4 + bcA (bitsA L H V n)))) = V := (gC_m (by omega)).trans gμ
  obtain ⟨ν, n1, n2, n3, n4⟩ := opC (f := mcall (d + 39) 14 [(21, ((2 : Nat) : Int)), (0, s)]) gμ2 (okC_pass (slip := s) a3 (by omega)).1 (s_14' (d := d + 37) a3 (by omega))
  have n1' : mcall (d + 39) 14 [(21, 2), (0, s)] (mset μ 6 4 (w32 (μ 6 4 + bcA (bitsA L H V n)))) = some (0, ν) := n1
  have x1 : ∀ a, a ≠ 2 → a ≠ 3 → a ≠ 4 → a ≠ 5 → a ≠ 6 → a ≠ 15 → a ≠ 16 → a ≠ 22 → a ≠ 23 → ν a = σ a := fun a h2 h3 h4 h5 h6 h15 h16 h22 h23 => by
    rw [n3 a (by simp; omega)]
    funext j
    rw [ms_n (by omega)]
    exact fr_e m2 (by simp [CS]; omega) j
  have gν : gM ν = V := (gL_cg (x1 _ (by omega) (by omega) (by omega) (by omega) (by omega) (by omega) (by omega) (by omega) (by omega)) (x1 _ (by omega) (by omega) (by omega) (by omega) (by omega) (by omega) (by omega) (by omega) (by omega)) (x1 _ (by omega) (by omega) (by omega) (by omega) (by omega) (by omega) (by omega) (by omega) (by omega)) (congrFun (x1 69 (by omega) (by omega) (by omega) (by omega) (by omega) (by omega) (by omega) (by omega) (by omega)) 0) (congrFun (x1 64 (by omega) (by omega) (by omega) (by omega) (by omega) (by omega) (by omega) (by omega) (by omega)) 6)).trans a2
  have eν : envM ν L H n s := envM_g (fun a ha => x1 a (by omega) (by omega) (by omega) (by omega) (by omega) (by omega) (by omega) (by omega) (by omega)) (congrFun (x1 64 (by omega) (by omega) (by omega) (by omega) (by omega) (by omega) (by omega) (by omega) (by omega)) 3) (congrFun (x1 64 (by omega) (by omega) (by omega) (by omega) (by omega) (by omega) (by omega) (by omega) (by omega)) 9) (congrFun (x1 64 (by omega) (by omega) (by omega) (by omega) (by omega) (by omega) (by omega) (by omega) (by omega)) 10) (congrFun (x1 69 (by omega) (by omega) (by omega) (by omega) (by omega) (by omega) (by omega) (by omega) (by omega)) 1) e2
  obtain ⟨α, b1, b2⟩ := s_171 (d := d + 33) gν a3 eν
  have gα : gM α = V := (gM_f b2 (by decide)).trans gν
  obtain ⟨β, c1, c2, c3⟩ := s_174k (d := d + 36) (s := s) gα a3 (by omega) (envM_S b2 eν).2.2.2.2.2
  have y1 : ∀ a j, a ≠ 79 → a ≠ 80 → ¬ P1 a j → β a j = ν a j := fun a j h1 h2 h3 => by
    unfold P1 at h3
    rw [c3 a j (by simp) (by omega) (by omega) (by omega) (by omega) (by omega)]
    exact fr_e b2 (by simp; omega) j
  have y81 : ∀ j, β 81 j = σ 81 j := fun j => by
    rw [c3 81 j (by simp) (by omega) (by omega) (by omega) (by omega) (by omega), fr_e b2 (by decide) j, x1 81 (by omega) (by omega) (by omega) (by omega) (by omega) (by omega) (by omega) (by omega) (by omega)]
  have y6 : ∀ a, 2 ≤ a → a ≤ 6 → β a = ν a := fun a h1 h2 => funext fun j => by
    rw [c3 a j (by simp) (by omega) (by omega) (by omega) (by omega) (by omega)]
    exact fr_e b2 (by simp; omega) j
  refine ⟨bcA (bitsA L H V n), ν, mset (mset β 81 0 (w32 (β 81 0 + 1))) 81 4 (w32 ((mset β 81 0 (w32 (β 81 0 + 1))) 81 4 + bcA (bitsA L H V n))), ?_, ?_, ?_, x1 903 (by omega) (by omega) (by omega) (by omega) (by omega) (by omega) (by omega) (by omega) (by omega), x1 904 (by omega) (by omega) (by omega) (by omega) (by omega) (by omega) (by omega) (by omega) (by omega)⟩
  · rw [e_107, m1', bK_t, s_228, bK_t, bIn_t (by omega), bIn_t (by omega), ms_n (by omega), hs, n1', bK_t]
  · rw [e_202, b1, bK_t, s_228, bK_t, c1, bK_t, bIn_t (by omega), bIn_t (by omega), bIn_t (by omega), bIn_t (by omega)]
  · refine RR_1 (V' := passA s V) R' (fun a j h => ?_) ?_
    · have h81 : a ≠ 81 := fun q => h (Or.inl (by unfold P1; omega))
      rw [ms_n (Or.inl h81), ms_n (Or.inl h81)]
      unfold P1 SC at h
      rw [y1 a j (by omega) (by omega) (by unfold P1; omega), x1 a (by omega) (by omega) (by omega) (by omega) (by omega) (by omega) (by omega) (by omega) (by omega)]
    · have g2 : ∀ (τ : mM) (i : Nat) (v : Int), gC 2 (mset τ 81 i v) = gC 2 τ := fun τ i v => gL_cg (funext fun j => ms_n (by omega)) (funext fun j => ms_n (by omega)) (funext fun j => ms_n (by omega)) (ms_n (by omega)) (ms_n (by omega))
      refine ⟨?_, ?_, okC_pass a3 (by omega), by rw [pass_31]; omega, fun j h1 h5 => ?_, ?_⟩
      · rw [g2, g2]
        exact (gL_cg (y6 3 (by omega) (by omega)) (y6 4 (by omega) (by omega)) (y6 5 (by omega) (by omega)) (congrFun (y6 2 (by omega) (by omega)) 4) (congrFun (y6 6 (by omega) (by omega)) 0)).trans n2
      · rw [gM_m, gM_m]; exact c2
      · have q6 : β 6 j = mset μ 6 4 (w32 (μ 6 4 + bcA (bitsA L H V n))) 6 j := (congrFun (y6 6 (by omega) (by omega)) j).trans (n4 j (by omega))
        rw [ms_n (a := 6) (by omega), ms_n (a := 6) (by omega), q6]
        by_cases h4 : j = 4
        · subst h4
          rw [ms_e, ms_e, ms_n (by omega), y81, fr_e m2 (by decide) 4, a5 4 (by omega) (by omega)]
        · rw [ms_n (by omega), ms_n (by omega), ms_n (by omega), y81, fr_e m2 (by decide) j]
          exact a5 j h1 h5
      · rw [ms_n (by omega), ms_e, y81, a6, pass_31]
        exact w32_e (by have := a3.2.2.2.2; omega)
theorem r_led {x : Int} : cR 111 206 [(0, x)] := by
  intro d xs N k σ hk R
  have R' := R
  obtain ⟨V, L, H, n, s, b, ⟨a1, a2, a3, a4, a5, a6⟩, -⟩ := R
  by_cases h : 0 ≤ x ∧ x ≤ 4
  · obtain ⟨j, hj⟩ : ∃ j : Nat, x = (j : Int) := ⟨x.toNat, by omega⟩
    subst hj
    refine ⟨σ 81 j, σ, σ, ?_, ?_, RR_i R', rfl, rfl⟩
    · rw [e_111, s_126, bK_t, if_pos h, bEq_f (by omega), bIn_t (by omega), tn_n]
      by_cases h0 : j = 0
      · subst h0; rw [a6, ← gC_4 (c := 2) a1]
      · rw [a5 j (by omega) (by omega)]
    · rw [e_206, s_133, bK_t, if_pos h, bEq_f (by omega), bIn_t (by omega), tn_n]
  · refine ⟨-1, σ, σ, ?_, ?_, RR_i R', rfl, rfl⟩
    · rw [e_111, s_126, bK_t, if_neg h, bEq_t (by rfl)]
    · rw [e_206, s_133, bK_t, if_neg h, bEq_t (by rfl)]
/-- a deed on the cover that is led -/
theorem RR_d {i : Nat} {ν β : mM} (hi : 1 ≤ i ∧ i < 5) (R : RR xs N k σ) (g1 : G1 σ V k) (ok : okC V') (h31 : V' 3 1 = V 3 1) (n2 : gC 2 ν = V') (n3 : fr [2, 3, 4, 5, 6] σ ν) (n4 : ∀ j, j ≠ 0 → ν 6 j = σ 6 j) (b2 : gM β = V') (b3 : fm [] (mset ν 6 i (w32 (ν 6 i + 1))) β) : RR xs N (k + 1) (mset β 81 i (w32 (β 81 i + 1))) := by
  obtain ⟨a1, a2, a3, a4, a5, a6⟩ := g1
  have y6 : ∀ a j, 2 ≤ a → a ≤ 6 → β a j = mset ν 6 i (w32 (ν 6 i + 1)) a j := fun a j h1 h2 => b3 a j (by simp) (by omega) (by omega) (by omega) (by omega) (by omega)
  have y81 : ∀ j, β 81 j = σ 81 j := fun j => by
    rw [b3 81 j (by simp) (by omega) (by omega) (by omega) (by omega) (by omega), ms_n (by omega)]
    exact fr_e n3 (by decide) j
  refine RR_1 (V' := V') R (fun a j h => ?_) ⟨?_, ?_, ok, by omega, fun j h1 h5 => ?_, ?_⟩
  · unfold P1 SC at h
    rw [ms_n (by omega), b3 a j (by simp) (by omega) (by omega) (by omega) (by omega) (by omega), ms_n (by omega)]
    exact fr_e n3 (by simp; omega) j
  · rw [show gC 2 (mset β 81 i (w32 (β 81 i + 1))) = gC 2 β from gL_cg (funext fun j => ms_n (by omega)) (funext fun j => ms_n (by omega)) (funext fun j => ms_n (by omega)) (ms_n (by omega)) (ms_n (by omega))]
    rw [show gC 2 β = gC 2 ν from gL_cg (funext fun j => (y6 3 j (by omega) (by omega)).trans (ms_n (by omega))) (funext fun j => (y6 4 j (by omega) (by omega)).trans (ms_n (by omega))) (funext fun j => (y6 5 j (by omega) (by omega)).trans (ms_n (by omega))) ((y6 2 4 (by omega) (by omega)).trans (ms_n (by omega))) ((y6 6 0 (by omega) (by omega)).trans (ms_n (by omega)))]
    exact n2
  · rw [gM_m]; exact b2
  · rw [ms_n (a := 6) (by omega), y6 6 j (by omega) (by omega)]
    by_cases h : j = i
    · subst h
      rw [ms_e, ms_e, y81, n4 j (by omega), a5 j h1 h5]
    · rw [ms_n (by omega), ms_n (by omega), y81, n4 j (by omega)]
      exact a5 j h1 h5
  · rw [ms_n (by omega), y81, a6, h31]
theorem led_M {i : Nat} {ν : mM} {v : Int} (n3 : fr [2, 3, 4, 5, 6] σ ν) (g : gM σ = V) : gM (mset ν 6 i v) = V := by
  have e : ∀ a, a ≠ 2 → a ≠ 3 → a ≠ 4 → a ≠ 5 → a ≠ 6 → mset ν 6 i v a = σ a := fun a h2 h3 h4 h5 h6 => funext fun j => by
    rw [ms_n (by omega)]
    exact fr_e n3 (by simp; omega) j
  rw [← g]
  exact gL_cg (e _ (by omega) (by omega) (by omega) (by omega) (by omega)) (e _ (by omega) (by omega) (by omega) (by omega) (by omega)) (e _ (by omega) (by omega) (by omega) (by omega) (by omega)) (congrFun (e 69 (by omega) (by omega) (by omega) (by omega) (by omega)) 0) (congrFun (e 64 (by omega) (by omega) (by omega) (by omega) (by omega)) 6)
theorem r_pull {x : Int} : cR 108 203 [(0, x)] := by
  intro d xs N k σ hk R
  have R' := R
  obtain ⟨V, L, H, n, s, b, g1, -⟩ := R
  have g1' := g1
  obtain ⟨a1, a2, a3, a4, a5, a6⟩ := g1
  by_cases h : 0 ≤ x ∧ x ≤ 9
  · obtain ⟨rw, hrw⟩ : ∃ j : Nat, x = (j : Int) := ⟨x.toNat, by omega⟩
    subst hrw
    have hl : rw / 2 < 5 := by omega
    have hw : rw % 2 < 2 := by omega
    have ok := okC_move (l := rw / 2) (way := rw % 2) a3 hl
    have t1 : Unit → w32 (Int.tdiv (rw : Int) 2) = ((rw / 2 : Nat) : Int) := fun _ => by rw [show Int.tdiv (rw : Int) 2 = ((rw / 2 : Nat) : Int) from rfl, w32_e (by omega)]
    have t2 : Unit → Int.tmod (rw : Int) 2 = ((rw % 2 : Nat) : Int) := fun _ => rfl
    have t3 : Unit → w32 (((rw / 2 : Nat) : Int) * 6) = ((6 * (rw / 2) : Nat) : Int) := fun _ => by rw [w32_e (by omega)]; omega
    have t4 : Unit → w32 (6 * ((rw / 2 : Nat) : Int)) = ((6 * (rw / 2) : Nat) : Int) := fun _ => by rw [w32_e (by omega)]; omega
    obtain ⟨ν, n1, n2, n3, n4⟩ := opC (f := mcall (d + 39) 17 [(21, ((2 : Nat) : Int)), (0, ((rw / 2 : Nat) : Int)), (0, ((rw % 2 : Nat) : Int))]) a1 ok.1 (s_17 (d := d + 37) hl hw)
    have n1' : mcall (d + 39) 17 [(21, 2), (0, ((rw / 2 : Nat) : Int)), (0, ((rw % 2 : Nat) : Int))] σ = some (0, ν) := n1
    obtain ⟨β, b1, b2, b3⟩ := s_175v (d := d + 37) (rw := rw) (led_M (i := 1) (v := w32 (ν 6 1 + 1)) n3 a2) a3 (by omega)
    refine ⟨moveA (rw / 2) (rw % 2) V 0 (6 * (rw / 2)), mset ν 6 1 (w32 (ν 6 1 + 1)), _, ?_, ?_, RR_d (i := 1) (by omega) R' g1' ok move_3 n2 n3 n4 b2 b3, ?_, ?_⟩
    · rw [e_108, s_126, bK_t, if_pos h, bEq_f (by omega), bEq_f (by omega), bEq_f (by omega), t1 (), t2 (), t3 (), n1', bK_t, bIn_t (by omega), bIn_t (by omega), bIn_t (by omega), tn_n, ms_n (by omega), gC_0 (c := 2) n2 (by omega)]
    · rw [e_203, s_133, bK_t, if_pos h, bEq_f (by omega), b1, bK_t, bIn_t (by omega), bIn_t (by omega), bEq_f (by omega), t1 (), t4 (), bIn_t (by omega), tn_n, ms_n (by omega), gM_0 b2 (by omega)]
    · funext j; rw [ms_n (by omega)]; exact fr_e n3 (by decide) j
    · funext j; rw [ms_n (by omega)]; exact fr_e n3 (by decide) j
  · refine ⟨-1, σ, σ, ?_, ?_, RR_i R', rfl, rfl⟩
    · rw [e_108, s_126, bK_t, if_neg h, bEq_t (by rfl)]
    · rw [e_203, s_133, bK_t, if_neg h, bEq_t (by rfl)]
theorem r_shake {x : Int} : cR 109 204 [(0, x)] := by
  intro d xs N k σ hk R
  have R' := R
  obtain ⟨V, L, H, n, s, b, g1, -⟩ := R
  have g1' := g1
  obtain ⟨a1, a2, a3, a4, a5, a6⟩ := g1
  by_cases h : 0 ≤ x ∧ x < 30
  · obtain ⟨q, hq⟩ : ∃ j : Nat, x = (j : Int) := ⟨x.toNat, by omega⟩
    subst hq
    have hq : q < 30 := by omega
    by_cases hi : 0 < q % 6 ∧ q % 6 < 5 ∧ 0 < q / 6 ∧ q / 6 < 4
    · have ok := okC_mix (q := q) a3 hi
      obtain ⟨ν, n1, n2, n3, n4⟩ := opC (f := mcall (d + 39) 19 [(21, ((2 : Nat) : Int)), (0, (q : Int))]) a1 ok.1 (s_19 (d := d + 37) hi a3)
      have n1' : mcall (d + 39) 19 [(21, 2), (0, (q : Int))] σ = some (0, ν) := n1
      obtain ⟨β, b1, b2, b3⟩ := opM (f := mcall (d + 39) 177 [(30, 64), (0, (q : Int))]) (led_M (i := 2) (v := w32 (ν 6 2 + 1)) n3 a2) ok.1 (s_177 (d := d + 38) hi a3)
      refine ⟨mixA q V 1 q, mset ν 6 2 (w32 (ν 6 2 + 1)), _, ?_, ?_, RR_d (i := 2) (by omega) R' g1' ok mix_3 n2 n3 n4 b2 b3, ?_, ?_⟩
      · rw [e_109, s_127, bK_t, if_pos h, bEq_f (by omega), s_12 hq, bK_t, if_pos hi, bEq_f (by omega), n1', bK_t, bIn_t (by omega), bIn_t (by omega), bIn_t (by omega), tn_n, ms_n (by omega), gC_1 (c := 2) n2 hq]
      · rw [e_204, s_176 hq, bK_t, if_pos hi, bEq_f (by omega), b1, bK_t, bIn_t (by omega), bIn_t (by omega), bIn_t (by omega), tn_n, ms_n (by omega), gM_1 b2 hq]
      · funext j; rw [ms_n (by omega)]; exact fr_e n3 (by decide) j
      · funext j; rw [ms_n (by omega)]; exact fr_e n3 (by decide) j
    · refine ⟨-1, σ, σ, ?_, ?_, RR_i R', rfl, rfl⟩
      · rw [e_109, s_127, bK_t, if_pos h, bEq_f (by omega), s_12 hq, bK_t, if_neg hi, bEq_t (by rfl)]
      · rw [e_204, s_176 hq, bK_t, if_neg hi, bEq_t (by rfl)]
  · refine ⟨-1, σ, σ, ?_, ?_, RR_i R', rfl, rfl⟩
    · rw [e_109, s_127, bK_t, if_neg h, bEq_t (by rfl)]
    · rw [e_204, s_176' h, bK_t, bEq_t (by rfl)]
theorem r_stuff {x y : Int} (hy : y < 2147483648) : cR 110 205 [(0, x), (0, y)] := by
  intro d xs N k σ hk R
  have R' := R
  obtain ⟨V, L, H, n, s, b, g1, -, -, -, -, -, -, g8⟩ := R
  have g1' := g1
  obtain ⟨a1, a2, a3, a4, a5, a6⟩ := g1
  have c0 : σ 900 0 = 4 := g8.1 0
  by_cases h : 0 ≤ x ∧ x < 30
  · obtain ⟨q, hq⟩ : ∃ j : Nat, x = (j : Int) := ⟨x.toNat, by omega⟩
    subst hq
    have hq : q < 30 := by omega
    by_cases hy0 : y < 0
    · refine ⟨-1, σ, σ, ?_, ?_, RR_i R', rfl, rfl⟩
      · rw [e_110, s_127, bK_t, if_pos h, bEq_f (by omega), bLt_t hy0]
      · rw [e_205, s_134, bK_t, if_pos h, bEq_f (by omega), bLt_t hy0]
    · obtain ⟨m, hm⟩ : ∃ j : Nat, y = (j : Int) := ⟨y.toNat, by omega⟩
      subst hm
      have bad : ¬ (1 ≤ m / 10 ∧ m / 10 ≤ 4 ∧ 1 ≤ m % 10) → ∃ r σ1 σ2, mcall (d + 40) 110 [(29, 0), (0, (q : Int)), (0, (m : Int))] σ = some (r, σ1) ∧ mcall (d + 40) 205 [(30, 64), (0, (q : Int)), (0, (m : Int))] σ1 = some (r, σ2) ∧ RR xs N (k + 1) σ2 ∧ σ1 903 = σ 903 ∧ σ1 904 = σ 904 := by
        intro hb
        refine ⟨-1, σ, σ, ?_, ?_, RR_i R', rfl, rfl⟩
        · rw [e_110, s_127, bK_t, if_pos h, bEq_f (by omega), bLt_f (by omega), bEq_f (by omega), bEq_f (by omega), t10_v m hy, t10_t, c0]
          by_cases h1 : m / 10 < 1
          · rw [bLt_t (by omega)]
          · rw [bLt_f (by omega), bIn_t (by omega)]
            by_cases h2 : 4 < m / 10
            · rw [bLt_t (by omega)]
            · rw [bLt_f (by omega), bLt_t (by omega)]
        · rw [e_205, s_134, bK_t, if_pos h, bEq_f (by omega), bLt_f (by omega), bEq_f (by omega), t10_v m hy, t10_t, s_133, bK_t]
          by_cases h1 : 1 ≤ m / 10 ∧ m / 10 ≤ 4
          · rw [if_pos (by omega), bEq_f (by omega), bEq_f (by omega), bEq_t (by omega)]
          · rw [if_neg (by omega), bEq_t (by rfl)]
      by_cases hg : 1 ≤ m / 10 ∧ m / 10 ≤ 4 ∧ 1 ≤ m % 10
      · have ok : okC (stW V q ((m / 10 : Nat) : Int) ((m % 10 : Nat) : Int) 0) := okC_st a3 hq (by omega) (by omega) (by omega)
        obtain ⟨ν, n1, n2, n3, n4⟩ := s_9 (d := d + 38) (c := 2) a1 ok hq
        have n1' : mcall (d + 39) 9 [(21, 2), (0, (q : Int)), (0, ((m / 10 : Nat) : Int)), (0, ((m % 10 : Nat) : Int)), (0, 0)] σ = some (0, ν) := n1
        obtain ⟨β, b1, b2, b3⟩ := s_189 (d := d + 38) (led_M (i := 3) (v := w32 (ν 6 3 + 1)) n3 a2) ok hq
        have e65 : mset ν 6 3 (w32 (ν 6 3 + 1)) 65 q = V 0 q := gM_0 (led_M (i := 3) (v := w32 (ν 6 3 + 1)) n3 a2) hq
        refine ⟨V 0 q, mset ν 6 3 (w32 (ν 6 3 + 1)), _, ?_, ?_, RR_d (i := 3) (by omega) R' g1' ok stW_3 n2 n3 n4 b2 b3, ?_, ?_⟩
        · rw [e_110, s_127, bK_t, if_pos h, bEq_f (by omega), bLt_f (by omega), bEq_f (by omega), bEq_f (by omega), t10_v m hy, t10_t, c0, bLt_f (by omega), bIn_t (by omega), bLt_f (by omega), bLt_f (by omega), bIn_t (by omega), n1', bK_t, bIn_t (by omega), bIn_t (by omega), tn_n, gC_0 (c := 2) a1 hq]
        · rw [e_205, s_134, bK_t, if_pos h, bEq_f (by omega), bLt_f (by omega), bEq_f (by omega), t10_v m hy, t10_t, s_133, bK_t, if_pos (by omega), bEq_f (by omega), bEq_f (by omega), bEq_f (by omega), bIn_t (by omega), bEq_f (by omega), bEq_f (by omega), b1, bK_t, bIn_t (by omega), bIn_t (by omega), tn_n, e65]
        · funext j; rw [ms_n (by omega)]; exact fr_e n3 (by decide) j
        · funext j; rw [ms_n (by omega)]; exact fr_e n3 (by decide) j
      · exact bad hg
  · refine ⟨-1, σ, σ, ?_, ?_, RR_i R', rfl, rfl⟩
    · rw [e_110, s_127, bK_t, if_neg h, bEq_t (by rfl)]
    · rw [e_205, s_134, bK_t, if_neg h, bEq_t (by rfl)]
/-! the image -/
def cpR (x y m : Nat) (σ : mM) : mM := fun a j => if a = y ∧ j < m then σ x j else σ a j
theorem cpR_s {x y m : Nat} (h : x ≠ y) : mset (cpR x y m σ) y m (cpR x y m σ x m) = cpR x y (m + 1) σ := by
  funext a j
  by_cases ha : a = y
  · subst ha
    by_cases hj : j = m
    · subst hj
      rw [ms_e, show cpR x a j σ x j = σ x j from if_neg (by omega)]
      exact (if_pos (by omega)).symm
    · rw [ms_n (by omega)]
      by_cases h2 : j < m
      · rw [show cpR x a m σ a j = σ x j from if_pos ⟨rfl, h2⟩]; exact (if_pos (by omega)).symm
      · rw [show cpR x a m σ a j = σ a j from if_neg (by omega)]; exact (if_neg (by omega)).symm
  · rw [ms_n (by omega), show cpR x y m σ a j = σ a j from if_neg (by omega)]; exact (if_neg (by omega)).symm
theorem cpR_0 {x y : Nat} : cpR x y 0 σ = σ := by
  funext a j
  exact if_neg (by omega)
theorem s_207l {K : mK} {mx : Int × Int} : mgo K mx 207 15 [(30, 64), (0, 0)] [] σ = some (σ 81 0, cpR 81 83 5 σ) := by
  have st : ∀ m : Nat, m < 5 → mgo K mx 207 15 [(30, 64), (0, (m : Int))] [] (cpR 81 83 m σ) = mgo K mx 207 15 [(30, 64), (0, ((m + 1 : Nat) : Int))] [] (cpR 81 83 (m + 1) σ) := by
    intro m hm
    rw [b_207_15, bLt_t (by omega), bIn_t (by omega), bIn_t (by omega), tn_n, cpR_s (by omega), w32_n (by omega)]
  have z : mgo K mx 207 15 [(30, 64), (0, ((0 : Nat) : Int))] [] (cpR 81 83 0 σ) = mgo K mx 207 15 [(30, 64), (0, ((5 : Nat) : Int))] [] (cpR 81 83 5 σ) := (st 0 (by omega)).trans ((st 1 (by omega)).trans ((st 2 (by omega)).trans ((st 3 (by omega)).trans (st 4 (by omega)))))
  rw [cpR_0] at z
  refine z.trans ?_
  rw [b_207_15, bLt_f (by omega), bIn_t (by omega), show cpR 81 83 5 σ 81 0 = σ 81 0 from if_neg (by omega)]
theorem s_208l {K : mK} {mx : Int × Int} : mgo K mx 208 20 [(30, 64), (0, 0)] [] σ = some (σ 83 0, cpR 83 81 5 σ) := by
  have st : ∀ m : Nat, m < 5 → mgo K mx 208 20 [(30, 64), (0, (m : Int))] [] (cpR 83 81 m σ) = mgo K mx 208 20 [(30, 64), (0, ((m + 1 : Nat) : Int))] [] (cpR 83 81 (m + 1) σ) := by
    intro m hm
    rw [b_208_20, bLt_t (by omega), bIn_t (by omega), bIn_t (by omega), tn_n, cpR_s (by omega), w32_n (by omega)]
  have z : mgo K mx 208 20 [(30, 64), (0, ((0 : Nat) : Int))] [] (cpR 83 81 0 σ) = mgo K mx 208 20 [(30, 64), (0, ((5 : Nat) : Int))] [] (cpR 83 81 5 σ) := (st 0 (by omega)).trans ((st 1 (by omega)).trans ((st 2 (by omega)).trans ((st 3 (by omega)).trans (st 4 (by omega)))))
  rw [cpR_0] at z
  refine z.trans ?_
  rw [b_208_20, bLt_f (by omega), bIn_t (by omega), show cpR 83 81 5 σ 81 0 = σ 83 0 from if_pos ⟨rfl, by omega⟩]
theorem r_image : cR 112 207 [] := by
  intro d xs N k σ hk R
  have R' := R
  obtain ⟨V, L, H, n, s, b, ⟨a1, a2, a3, a4, a5, a6⟩, -⟩ := R
  obtain ⟨μ, m1, m2, m3, m4⟩ := s_6 (d := d + 38) (c := 59) (x := 2) (σ := σ) (by omega)
  have m1' : mcall (d + 39) 6 [(21, 59), (21, 2)] σ = some (0, μ) := m1
  have g0 : gM (mset (mset μ 0 8 1) 64 26 1) = V := by
    rw [← a2]
    exact gL_cg (funext fun j => by rw [ms_n (by omega), ms_n (by omega), m3 65 (by omega)]) (funext fun j => by rw [ms_n (by omega), ms_n (by omega), m3 66 (by omega)]) (funext fun j => by rw [ms_n (by omega), ms_n (by omega), m3 67 (by omega)]) (by rw [ms_n (by omega), ms_n (by omega), m3 69 (by omega)]) (by rw [ms_n (by omega), ms_n (by omega), m3 64 (by omega)])
  obtain ⟨ν, n1, n2, n3⟩ := s_178k (d := d + 38) (x := 82) (by omega) g0
  have n1' : mcall (d + 39) 178 [(30, 64), (1092, 82)] (mset (mset μ 0 8 1) 64 26 1) = some (0, ν) := n1
  have q : ∀ a j, a ≠ 82 → ν a j = mset (mset μ 0 8 1) 64 26 1 a j := fun a j h => fr_e n2 (by simp [h]) j
  have e81 : ∀ j, ν 81 j = σ 81 j := fun j => by rw [q 81 j (by omega), ms_n (by omega), ms_n (by omega), m3 81 (by omega)]
  have e6 : σ 6 0 = V 3 1 := gC_4 (c := 2) a1
  refine ⟨V 3 1, mset μ 0 8 1, cpR 81 83 5 ν, ?_, ?_, ?_, ?_, ?_⟩
  · rw [e_112, m1', bK_t, bIn_t (by omega), bIn_t (by omega), ms_n (by omega), m3 6 (by omega), e6]
  · rw [e_207, bIn_t (by omega), n1', bK_t, s_207l, e81, a6]
  · have cp : ∀ a j, a ≠ 83 → cpR 81 83 5 ν a j = ν a j := fun a j h => if_neg (by omega)
    refine RR_3 R' (fun a j h => ?_) (Or.inr ⟨?_, ?_, ?_, ?_, ?_, fun j h1 h5 => ?_, ?_⟩)
    · unfold P3 SC at h
      rw [cp a j (by omega), q a j (by omega), ms_n (by omega), ms_n (by omega), m3 a (by omega)]
    · rw [cp 0 8 (by omega), q 0 8 (by omega), ms_n (by omega), ms_e]
    · rw [cp 64 26 (by omega), q 64 26 (by omega), ms_e]
    · have ee : ∀ a j, 59 ≤ a → a ≤ 63 → cpR 81 83 5 ν a j = μ a j := fun a j h1 h2 => by rw [cp a j (by omega), q a j (by omega), ms_n (by omega), ms_n (by omega)]
      have ek : gK 82 (cpR 81 83 5 ν) = gK 82 ν := gK_cg (funext fun j => cp 82 j (by omega))
      rw [ek, n3]
      rw [show gC 59 (cpR 81 83 5 ν) = gC 59 μ from gL_cg (funext fun j => ee _ j (by omega) (by omega)) (funext fun j => ee _ j (by omega) (by omega)) (funext fun j => ee _ j (by omega) (by omega)) (ee _ _ (by omega) (by omega)) (ee _ _ (by omega) (by omega)), m2, a1]
    · rw [show gK 82 (cpR 81 83 5 ν) = gK 82 ν from gK_cg (funext fun j => cp 82 j (by omega)), n3]; exact a3
    · rw [show gK 82 (cpR 81 83 5 ν) = gK 82 ν from gK_cg (funext fun j => cp 82 j (by omega)), n3]; omega
    · rw [cp 63 j (by omega), q 63 j (by omega), ms_n (by omega), ms_n (by omega), m4 j h5, show cpR 81 83 5 ν 83 j = ν 81 j from if_pos ⟨rfl, h5⟩, e81]
      exact a5 j h1 h5
    · rw [show gK 82 (cpR 81 83 5 ν) = gK 82 ν from gK_cg (funext fun j => cp 82 j (by omega)), n3, show cpR 81 83 5 ν 83 0 = ν 81 0 from if_pos ⟨rfl, by omega⟩, e81, a6]
  · funext j; rw [ms_n (by omega), m3 903 (by omega)]
  · funext j; rw [ms_n (by omega), m3 904 (by omega)]
theorem r_back : cR 113 208 [] := by
  intro d xs N k σ hk R
  have R' := R
  obtain ⟨V, L, H, n, s, b, ⟨a1, a2, a3, a4, a5, a6⟩, -, g3, -⟩ := R
  rcases g3 with ⟨h1, h2⟩ | ⟨h1, h2, h3, h4, h5, h6, h7⟩
  · refine ⟨-5, σ, σ, ?_, ?_, RR_i R', rfl, rfl⟩
    · rw [e_113, h1, bEq_t (by rfl)]
    · rw [e_208, h2, bEq_t (by rfl)]
  · obtain ⟨μ, m1, m2, m3, m4⟩ := s_6 (d := d + 38) (c := 2) (x := 59) (σ := σ) (by omega)
    have m1' : mcall (d + 39) 6 [(21, 2), (21, 59)] σ = some (0, μ) := m1
    have ek : gK 82 μ = gK 82 σ := gK_cg (m3 82 (by omega))
    obtain ⟨ν, n1, n2, n3⟩ := s_179k (d := d + 38) (x := 82) (S := μ) (V := gK 82 σ) (by omega) ek
    have n1' : mcall (d + 39) 179 [(30, 64), (1092, 82)] μ = some (0, ν) := n1
    have q : ∀ a j, a ≠ 65 → a ≠ 66 → a ≠ 67 → a ≠ 69 → a ≠ 64 → ν a j = μ a j := fun a j h1 h2 h3 h4 h5 => n3 a j (by simp) h1 h2 h3 (by omega) (by omega)
    have e83 : ∀ j, ν 83 j = σ 83 j := fun j => by rw [q 83 j (by omega) (by omega) (by omega) (by omega) (by omega), m3 83 (by omega)]
    have e63 : σ 63 0 = gK 82 σ 3 1 := by rw [← h3]; rfl
    refine ⟨gK 82 σ 3 1, μ, cpR 83 81 5 ν, ?_, ?_, ?_, m3 903 (by omega), m3 904 (by omega)⟩
    · rw [e_113, h1, bEq_f (by omega), m1', bK_t, bIn_t (by omega), show μ 6 0 = σ 63 0 from m4 0 (by omega), e63]
    · rw [e_208, m3 64 (by omega), h2, bEq_f (by omega), n1', bK_t, s_208l, e83, h7]
    · have cp : ∀ a j, a ≠ 81 → cpR 83 81 5 ν a j = ν a j := fun a j h => if_neg (by omega)
      refine RR_1 (V' := gK 82 σ) R' (fun a j h => ?_) ⟨?_, ?_, h4, by omega, fun j h1 h5 => ?_, ?_⟩
      · unfold P1 SC at h
        rw [cp a j (by omega), n3 a j (by simp) (by omega) (by omega) (by omega) (by omega) (by omega), m3 a (by omega)]
      · have ee : ∀ a j, 2 ≤ a → a ≤ 6 → cpR 83 81 5 ν a j = μ a j := fun a j h1 h2 => by rw [cp a j (by omega), q a j (by omega) (by omega) (by omega) (by omega) (by omega)]
        rw [show gC 2 (cpR 83 81 5 ν) = gC 2 μ from gL_cg (funext fun j => ee _ j (by omega) (by omega)) (funext fun j => ee _ j (by omega) (by omega)) (funext fun j => ee _ j (by omega) (by omega)) (ee _ _ (by omega) (by omega)) (ee _ _ (by omega) (by omega)), m2, h3]
      · rw [show gM (cpR 83 81 5 ν) = gM ν from gL_cg (funext fun j => cp _ j (by omega)) (funext fun j => cp _ j (by omega)) (funext fun j => cp _ j (by omega)) (cp _ _ (by omega)) (cp _ _ (by omega))]; exact n2
      · rw [cp 6 j (by omega), q 6 j (by omega) (by omega) (by omega) (by omega) (by omega), show μ 6 j = σ 63 j from m4 j h5, show cpR 83 81 5 ν 81 j = ν 83 j from if_pos ⟨rfl, h5⟩, e83]
        exact h6 j h1 h5
      · rw [show cpR 83 81 5 ν 81 0 = ν 83 0 from if_pos ⟨rfl, by omega⟩, e83, h7]
end
