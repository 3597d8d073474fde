/-! PURE PART 25: what holds between calls -/
def G1 (σ : mM) (V : cV) (k : Nat) : Prop := gC 2 σ = V ∧ gM σ = V ∧ okC V ∧ V 3 1 ≤ (k : Int) ∧ (∀ j, 1 ≤ j → j < 5 → σ 6 j = σ 81 j) ∧ σ 81 0 = V 3 1
def G2 (σ : mM) (L : List (List Int × List Int)) (H : Nat → Nat → Int) (n : Nat) (s : Int) : Prop := envC σ L H n s ∧ envM σ L H n s ∧ ((σ 1 6 = 10 ∧ σ 1 7 = 17) ∨ (σ 1 6 = 17 ∧ σ 1 7 = 10)) ∧ 0 ≤ s ∧ s ≤ 12
def G3 (σ : mM) (k : Nat) : Prop := (σ 0 8 = 0 ∧ σ 64 26 = 0) ∨ (σ 0 8 = 1 ∧ σ 64 26 = 1 ∧ gC 59 σ = gK 82 σ ∧ okC (gK 82 σ) ∧ gK 82 σ 3 1 ≤ (k : Int) ∧ (∀ j, 1 ≤ j → j < 5 → σ 63 j = σ 83 j) ∧ σ 83 0 = gK 82 σ 3 1)
def G4 (σ : mM) : Prop := ∃ t : Nat, t ≤ 120 ∧ σ 24 1 = (t : Int) ∧ σ 64 7 = (t : Int) ∧ ∀ i, i < t → σ 25 i = σ 70 i ∧ 0 ≤ σ 25 i ∧ σ 25 i ≤ 255
def G5 (σ : mM) (b : Nat) : Prop := ∃ vh l B st, shC σ vh l B st ∧ shM σ vh l B st ∧ ∀ k, k < 6 → vh k = -1 → st k < (b : Int)
def okE (n : Nat) (num what was be : Int) : Prop := 0 ≤ what ∧ what ≤ 7 ∧ (what ≤ 2 → 0 ≤ num ∧ num < 30) ∧ (3 ≤ what ∧ what ≤ 5 → 0 ≤ num ∧ num < (n : Int)) ∧ (6 ≤ what → num = 0) ∧ (what ≠ 4 → what ≠ 5 → 0 ≤ was ∧ was ≤ mC0 what.toNat ∧ 0 ≤ be ∧ be ≤ mC0 what.toNat)
def G6 (σ : mM) (n : Nat) : Prop := ∃ D U : Nat, D + U ≤ 40 ∧ σ 38 4 = (D : Int) ∧ σ 38 5 = (U : Int) ∧ σ 64 30 = (D : Int) ∧ σ 64 29 = ((D + U : Nat) : Int) ∧ ∀ i, i < D + U → σ 39 i = σ 84 (4 * i) ∧ σ 40 i = σ 84 (4 * i + 1) ∧ σ 41 i = σ 84 (4 * i + 2) ∧ σ 42 i = σ 84 (4 * i + 3) ∧ okE n (σ 39 i) (σ 40 i) (σ 41 i) (σ 42 i)
def G7 (σ : mM) (b : Nat) : Prop := σ 43 1 = (b : Int) ∧ σ 64 32 = (b : Int) ∧ b ≤ 50 ∧ (∀ i, i < b → σ 44 i = σ 85 i ∧ 0 ≤ σ 44 i ∧ σ 44 i ≤ 7) ∧ ∃ r : Nat, r ≤ 100000 ∧ σ 43 3 = (r : Int) ∧ σ 64 34 = (r : Int) ∧ ∀ i, i < r → i < 24 → σ 45 i = σ 86 i
def G8 (σ : mM) (xs : Nat → Int) (N : Int) : Prop := (∀ j, σ 900 j = mC0 j) ∧ (∀ j, σ 901 j = mC1 j) ∧ (∀ j, σ 902 j = mC2 j) ∧ (∀ j, σ 903 j = xs j) ∧ σ 904 0 = N
def RR (xs : Nat → Int) (N : Int) (k : Nat) (σ : mM) : Prop := ∃ V L H n s b, G1 σ V k ∧ G2 σ L H n s ∧ G3 σ k ∧ G4 σ ∧ G5 σ b ∧ G6 σ n ∧ G7 σ b ∧ G8 σ xs N
def P1 (a j : Nat) : Prop := (2 ≤ a ∧ a ≤ 6) ∨ (65 ≤ a ∧ a ≤ 67) ∨ (a = 69 ∧ j = 0) ∨ (a = 64 ∧ j = 6) ∨ a = 81
def P2 (a j : Nat) : Prop := a = 1 ∨ (7 ≤ a ∧ a ≤ 14) ∨ (17 ≤ a ∧ a ≤ 21) ∨ (a = 64 ∧ (j = 3 ∨ j = 9 ∨ j = 10)) ∨ a = 68 ∨ (a = 69 ∧ j = 1) ∨ (71 ≤ a ∧ a ≤ 74)
def P3 (a j : Nat) : Prop := (a = 0 ∧ j = 8) ∨ (59 ≤ a ∧ a ≤ 63) ∨ (a = 64 ∧ j = 26) ∨ a = 82 ∨ a = 83
def P4 (a j : Nat) : Prop := (a = 24 ∧ j = 1) ∨ a = 25 ∨ (a = 64 ∧ j = 7) ∨ a = 70
def P5 (a j : Nat) : Prop := (47 ≤ a ∧ a ≤ 58) ∨ (87 ≤ a ∧ a ≤ 89)
def P6 (a j : Nat) : Prop := (38 ≤ a ∧ a ≤ 42) ∨ (a = 64 ∧ (j = 29 ∨ j = 30)) ∨ a = 84
def P7 (a j : Nat) : Prop := (43 ≤ a ∧ a ≤ 45) ∨ (a = 64 ∧ (j = 32 ∨ j = 34)) ∨ a = 85 ∨ a = 86
def P8 (a j : Nat) : Prop := 900 ≤ a ∧ a ≤ 904
def ag (P : Nat → Nat → Prop) (σ τ : mM) : Prop := ∀ a j, P a j → τ a j = σ a j
theorem gK_cg {x : Nat} {σ τ : mM} (h : τ x = σ x) : gK x τ = gK x σ := by
  unfold gK
  rw [h]
section
variable {σ τ : mM} {V : cV} {k n b : Nat} {L : List (List Int × List Int)} {H : Nat → Nat → Int} {s : Int} {xs : Nat → Int} {N : Int}
theorem ag_c {P : Nat → Nat → Prop} {a : Nat} (h : ag P σ τ) (g : ∀ j, P a j) : τ a = σ a := funext fun j => h a j (g j)
theorem G1_f (h : ag P1 σ τ) (g : G1 σ V k) : G1 τ V k := by
  have e : ∀ a, (2 ≤ a ∧ a ≤ 6) ∨ (65 ≤ a ∧ a ≤ 67) ∨ a = 81 → τ a = σ a := fun a ha => ag_c h (fun j => by unfold P1; omega)
  have e1 : gC 2 τ = gC 2 σ := gL_cg (e 3 (by omega)) (e 4 (by omega)) (e 5 (by omega)) (congrFun (e 2 (by omega)) 4) (congrFun (e 6 (by omega)) 0)
  have e2 : gM τ = gM σ := gL_cg (e 65 (by omega)) (e 66 (by omega)) (e 67 (by omega)) (h 69 0 (by unfold P1; omega)) (h 64 6 (by unfold P1; omega))
  unfold G1 at g ⊢
  rw [e1, e2, e 6 (by omega), e 81 (by omega)]
  exact g
theorem segC_g {τ μ : mM} {w : Nat} (h1 : μ (w + 1) = τ (w + 1)) (h2 : μ (w + 2) = τ (w + 2)) : ∀ {s : List Int} {o : Nat}, segC τ w o s → segC μ w o s := by
  intro s
  induction s with
  | nil => intro o _; trivial
  | cons c r ih => intro o h; exact ⟨by rw [h1]; exact h.1, by rw [h2]; exact h.2.1, ih h.2.2⟩
theorem lawC_g {τ μ : mM} {w : Nat} (h0 : μ w = τ w) (h1 : μ (w + 1) = τ (w + 1)) (h2 : μ (w + 2) = τ (w + 2)) (h3 : μ (w + 3) = τ (w + 3)) (h4 : μ (w + 4) = τ (w + 4)) : ∀ {L : List (List Int × List Int)} {o p : Nat}, lawC τ w o p L → lawC μ w o p L := by
  intro L
  induction L with
  | nil => intro o p h; exact ⟨by rw [h0]; exact h.1, h.2⟩
  | cons a r ih =>
    obtain ⟨Q, A⟩ := a
    intro o p h
    unfold lawC at h ⊢
    rw [h3, h4]
    split at h
    · next hq =>
      rw [if_pos hq]
      obtain ⟨a1, a2, a3, a4, a5, a6⟩ := h
      exact ⟨segC_g h1 h2 a1, a2, a3, a4, a5, ih a6⟩
    · next hq =>
      rw [if_neg hq]
      obtain ⟨a1, a2, a3, a4, b1, b2, b3, b4, a5, a6⟩ := h
      exact ⟨segC_g h1 h2 a1, a2, a3, a4, segC_g h1 h2 b1, b2, b3, b4, a5, ih a6⟩
theorem envC_g (e : ∀ a, a = 1 ∨ (7 ≤ a ∧ a ≤ 14) ∨ (17 ≤ a ∧ a ≤ 21) → τ a = σ a) (g : envC σ L H n s) : envC τ L H n s := by
  obtain ⟨⟨w0, k1, k2, k3⟩, k4, k5, k6, k7⟩ := g
  have e1 := e 1 (by omega)
  refine ⟨⟨w0, k1, by rw [e1]; exact k2, lawC_g (e _ (by omega)) (e _ (by omega)) (e _ (by omega)) (e _ (by omega)) (e _ (by omega)) k3⟩, by rw [e1]; exact k4, k5, by rw [e 7 (by omega), e 8 (by omega), e 9 (by omega)]; exact k6, by rw [e1]; exact k7⟩
theorem envM_g (e : ∀ a, a = 68 ∨ (71 ≤ a ∧ a ≤ 74) → τ a = σ a) (e3 : τ 64 3 = σ 64 3) (e9 : τ 64 9 = σ 64 9) (e10 : τ 64 10 = σ 64 10) (e69 : τ 69 1 = σ 69 1) (g : envM σ L H n s) : envM τ L H n s := by
  obtain ⟨h1, h2, h3, h4, h5, h6⟩ := g
  exact ⟨lawM_g e10 (e _ (by omega)) (e _ (by omega)) (e _ (by omega)) (e _ (by omega)) h1, e9.trans h2, e3.trans h3, h4, by rw [e 68 (by omega)]; exact h5, e69.trans h6⟩
theorem G2_f (h : ag P2 σ τ) (g : G2 σ L H n s) : G2 τ L H n s := by
  have e : ∀ a, a = 1 ∨ (7 ≤ a ∧ a ≤ 14) ∨ (17 ≤ a ∧ a ≤ 21) ∨ a = 68 ∨ (71 ≤ a ∧ a ≤ 74) → τ a = σ a := fun a ha => ag_c h (fun j => by unfold P2; omega)
  obtain ⟨g1, g2, g3, g4⟩ := g
  exact ⟨envC_g (fun a ha => e a (by omega)) g1, envM_g (fun a ha => e a (by omega)) (h 64 3 (by unfold P2; omega)) (h 64 9 (by unfold P2; omega)) (h 64 10 (by unfold P2; omega)) (h 69 1 (by unfold P2; omega)) g2, by rw [e 1 (by omega)]; exact g3, g4⟩
theorem G3_f (h : ag P3 σ τ) (g : G3 σ k) : G3 τ k := by
  have e : ∀ a, (59 ≤ a ∧ a ≤ 63) ∨ a = 82 ∨ a = 83 → τ a = σ a := fun a ha => ag_c h (fun j => by unfold P3; omega)
  have e1 : gC 59 τ = gC 59 σ := gL_cg (e 60 (by omega)) (e 61 (by omega)) (e 62 (by omega)) (congrFun (e 59 (by omega)) 4) (congrFun (e 63 (by omega)) 0)
  have e2 : gK 82 τ = gK 82 σ := gK_cg (e 82 (by omega))
  unfold G3 at g ⊢
  rw [h 0 8 (by unfold P3; omega), h 64 26 (by unfold P3; omega), e1, e2, e 63 (by omega), e 83 (by omega)]
  exact g
theorem G4_f (h : ag P4 σ τ) (g : G4 σ) : G4 τ := by
  unfold G4 at g ⊢
  rw [h 24 1 (by unfold P4; omega), h 64 7 (by unfold P4; omega), ag_c h (a := 25) (fun j => by unfold P4; omega), ag_c h (a := 70) (fun j => by unfold P4; omega)]
  exact g
theorem G5_f (h : ag P5 σ τ) (g : G5 σ b) : G5 τ b := by
  have e : ∀ a, (47 ≤ a ∧ a ≤ 58) ∨ (87 ≤ a ∧ a ≤ 89) → τ a = σ a := fun a ha => ag_c h (fun j => by unfold P5; omega)
  obtain ⟨vh, l, B, st, g1, g2, g3⟩ := g
  refine ⟨vh, l, B, st, fun k hk => ?_, fun k hk => ?_, g3⟩
  · rw [e (47 + 2 * k) (by omega), e (48 + 2 * k) (by omega)]; exact g1 k hk
  · rw [e 87 (by omega), e 88 (by omega), e 89 (by omega)]; exact g2 k hk
theorem G6_f (h : ag P6 σ τ) (g : G6 σ n) : G6 τ n := by
  have e : ∀ a, (38 ≤ a ∧ a ≤ 42) ∨ a = 84 → τ a = σ a := fun a ha => ag_c h (fun j => by unfold P6; omega)
  unfold G6 at g ⊢
  rw [e 38 (by omega), e 39 (by omega), e 40 (by omega), e 41 (by omega), e 42 (by omega), e 84 (by omega), h 64 30 (by unfold P6; omega), h 64 29 (by unfold P6; omega)]
  exact g
theorem G7_f (h : ag P7 σ τ) (g : G7 σ b) : G7 τ b := by
  have e : ∀ a, (43 ≤ a ∧ a ≤ 45) ∨ a = 85 ∨ a = 86 → τ a = σ a := fun a ha => ag_c h (fun j => by unfold P7; omega)
  unfold G7 at g ⊢
  rw [e 43 (by omega), e 44 (by omega), e 45 (by omega), e 85 (by omega), e 86 (by omega), h 64 32 (by unfold P7; omega), h 64 34 (by unfold P7; omega)]
  exact g
theorem G8_f (h : ag P8 σ τ) (g : G8 σ xs N) : G8 τ xs N := by
  have e : ∀ a, (900 ≤ a ∧ a ≤ 904) → τ a = σ a := fun a ha => ag_c h (fun j => by unfold P8; omega)
  unfold G8 at g ⊢
  rw [e 900 (by omega), e 901 (by omega), e 902 (by omega), e 903 (by omega), e 904 (by omega)]
  exact g
theorem G1_k {k' : Nat} (h : k ≤ k') (g : G1 σ V k) : G1 σ V k' := by
  obtain ⟨a, b, c, d, e⟩ := g
  exact ⟨a, b, c, by omega, e⟩
theorem G3_k {k' : Nat} (h : k ≤ k') (g : G3 σ k) : G3 σ k' := by
  rcases g with g | ⟨a, b, c, d, e, f⟩
  · exact Or.inl g
  · exact Or.inr ⟨a, b, c, d, by omega, f⟩
theorem okE_n {n' : Nat} {a b c d : Int} (h : n ≤ n') (g : okE n a b c d) : okE n' a b c d := by
  obtain ⟨g1, g2, g3, g4, g5⟩ := g
  exact ⟨g1, g2, g3, fun q => by have := g4 q; omega, g5⟩
theorem G6_n {n' : Nat} (h : n ≤ n') (g : G6 σ n) : G6 σ n' := by
  obtain ⟨D, U, h1, h2, h3, h4, h5, h6⟩ := g
  exact ⟨D, U, h1, h2, h3, h4, h5, fun i hi => by obtain ⟨a, b, c, d, e⟩ := h6 i hi; exact ⟨a, b, c, d, okE_n h e⟩⟩
/-- what a thought changes -/
def CX (a j : Nat) : Prop := a = 15 ∨ a = 16 ∨ a = 22 ∨ a = 23 ∨ (26 ≤ a ∧ a ≤ 32) ∨ a = 79 ∨ a = 80 ∨ (90 ≤ a ∧ a ≤ 94) ∨ (65 ≤ a ∧ a ≤ 67) ∨ (a = 69 ∧ j = 0) ∨ (a = 64 ∧ j = 6)
theorem th_x {σ1 : mM} (F1 : fr CT σ σ1) (F2 : fm MT σ1 τ) {a j : Nat} (h : ¬ CX a j) : τ a j = σ a j := by
  unfold CX at h
  have e1 : σ1 a = σ a := F1 a (by simp only [CT, List.mem_cons, List.not_mem_nil, or_false]; omega)
  rw [F2 a j (by simp only [MT, List.mem_cons, List.not_mem_nil, or_false]; omega) (by omega) (by omega) (by omega) (by omega) (by omega), e1]
theorem RR_th {σ1 : mM} (F1 : fr CT σ σ1) (F2 : fm MT σ1 τ) (g : gM τ = gM σ1) (h : RR xs N k σ) : RR xs N (k + 1) τ := by
  obtain ⟨V, L, H, n, s, b, g1, g2, g3, g4, g5, g6, g7, g8⟩ := h
  have x : ∀ {a j : Nat}, ¬ CX a j → τ a j = σ a j := fun h => th_x F1 F2 h
  refine ⟨V, L, H, n, s, b, ?_, G2_f (fun a j h => x (by unfold P2 CX at *; omega)) g2, G3_k (by omega) (G3_f (fun a j h => x (by unfold P3 CX at *; omega)) g3), G4_f (fun a j h => x (by unfold P4 CX at *; omega)) g4, G5_f (fun a j h => x (by unfold P5 CX at *; omega)) g5, G6_f (fun a j h => x (by unfold P6 CX at *; omega)) g6, G7_f (fun a j h => x (by unfold P7 CX at *; omega)) g7, G8_f (fun a j h => x (by unfold P8 CX at *; omega)) g8⟩
  obtain ⟨a1, a2, a3, a4, a5, a6⟩ := g1
  have e : ∀ a, (2 ≤ a ∧ a ≤ 6) ∨ a = 81 → τ a = σ a := fun a ha => funext fun j => x (by unfold CX; omega)
  have e1 : gC 2 τ = gC 2 σ := gL_cg (e 3 (by omega)) (e 4 (by omega)) (e 5 (by omega)) (congrFun (e 2 (by omega)) 4) (congrFun (e 6 (by omega)) 0)
  have e2 : gM τ = gM σ := g.trans (gM_f F1 (by decide))
  unfold G1
  rw [e1, e2, e 6 (by omega), e 81 (by omega)]
  exact ⟨a1, a2, a3, by omega, a5, a6⟩
end
/-- the class and the reference answer alike, and what holds goes on -/
def cR (m1 m2 : Nat) (a : List mV) : Prop := ∀ (d : Nat) (xs : Nat → Int) (N : Int) (k : Nat) (σ : mM), k ≤ 600 → RR xs N k σ → ∃ r σ1 σ2, mcall (d + 40) m1 ((29, 0) :: a) σ = some (r, σ1) ∧ mcall (d + 40) m2 ((30, 64) :: a) σ1 = some (r, σ2) ∧ RR xs N (k + 1) σ2 ∧ σ1 903 = σ 903 ∧ σ1 904 = σ 904
theorem cR_th {m1 m2 : Nat} {a : List mV} (h : ∀ (d n b : Nat) (σ : mM) (V : cV) (L : List (List Int × List Int)) (H : Nat → Nat → Int) (s : Int), gC 2 σ = V → okC V → V 3 1 ≤ 100000 → envC σ L H n s → G5 σ b → (∀ j, σ 900 j = mC0 j) → gM σ = V → envM σ L H n s → ∃ r σ1, (mcall (d + 40) m1 ((29, 0) :: a) σ = some (r, σ1) ∧ fr CT σ σ1) ∧ ∀ vh l B st, shC σ vh l B st → shM σ vh l B st → gM σ1 = V → envM σ1 L H n s → shM σ1 vh l B st → ∃ σ2, mcall (d + 40) m2 ((30, 64) :: a) σ1 = some (r, σ2) ∧ fm MT σ1 σ2 ∧ gM σ2 = V) : cR m1 m2 a := by
  intro d xs N k σ hk R
  have R' := R
  obtain ⟨V, L, H, n, s, b, ⟨a1, a2, a3, a4, -⟩, ⟨e1, e2, -⟩, -, -, g5, -, -, ⟨c0, -⟩⟩ := R
  obtain ⟨r, σ1, ⟨m1, F1⟩, h2⟩ := h d n b σ V L H s a1 a3 (by omega) e1 g5 c0 a2 e2
  obtain ⟨vh, l, B, st, s1, s2, -⟩ := g5
  have gm : gM σ1 = V := (gM_f F1 (by decide)).trans a2
  have s2' : shM σ1 vh l B st := fun k hk => by
    rw [F1 87 (by decide), F1 88 (by decide), F1 89 (by decide)]; exact s2 k hk
  obtain ⟨σ2, n1, n2, n3⟩ := h2 vh l B st s1 s2 gm (envM_f (fm_f F1) (by decide) e2) s2'
  exact ⟨r, σ1, σ2, m1, n1, RR_th F1 n2 (n3.trans gm.symm) R', F1 903 (by decide), F1 904 (by decide)⟩
theorem r_later {x1 x2 x3 : Int} : cR 94 181 [(0, x1), (0, x2), (0, x3)] := cR_th fun d n b σ V L H s g ok hl E _ _ gm Em => by
  obtain ⟨μ, m1, m2⟩ := s_94 (d := d + 34) (x1 := x1) (x2 := x2) (x3 := x3) g ok hl E
  exact ⟨_, μ, ⟨m1, m2⟩, fun _ _ _ _ _ _ gm' E' _ => s_181 (d := d + 34) gm' ok hl E'⟩
theorem r_cold {x1 x2 : Int} : cR 95 183 [(0, x1), (0, x2)] := cR_th fun d n b σ V L H s g ok hl E _ _ gm Em => by
  obtain ⟨μ, m1, m2⟩ := s_95 (d := d + 33) (x1 := x1) (x2 := x2) g ok hl E
  exact ⟨_, μ, ⟨m1, m2⟩, fun _ _ _ _ _ _ gm' E' _ => s_183 (d := d + 33) gm' ok hl E'⟩
theorem r_first {x1 : Int} : cR 96 184 [(0, x1)] := cR_th fun d n b σ V L H s g ok hl E _ _ gm Em => by
  obtain ⟨μ, m1, m2⟩ := s_96 (d := d + 34) (x := x1) g ok hl E
  exact ⟨_, μ, ⟨m1, m2⟩, fun _ _ _ _ _ _ gm' E' _ => s_184 (d := d + 34) gm' ok hl E'⟩
theorem r_often {x1 x2 : Int} : cR 97 185 [(0, x1), (0, x2)] := cR_th fun d n b σ V L H s g ok hl E _ _ gm Em => by
  obtain ⟨μ, m1, m2⟩ := s_97 (d := d + 34) (x := x1) (y := x2) g ok hl E
  exact ⟨_, μ, ⟨m1, m2⟩, fun _ _ _ _ _ _ gm' E' _ => s_185 (d := d + 34) gm' ok hl E'⟩
theorem r_pulls {x1 x2 : Int} : cR 98 187 [(0, x1), (0, x2)] := cR_th fun d n b σ V L H s g ok hl E _ _ gm Em => by
  obtain ⟨μ, m1, m2⟩ := s_98 (d := d + 30) (x := x1) (y := x2) g ok E
  exact ⟨_, μ, ⟨m1, m2⟩, fun _ _ _ _ _ _ gm' E' _ => s_187 (d := d + 29) gm' ok E'⟩
theorem r_shakes {x1 : Int} : cR 99 188 [(0, x1)] := cR_th fun d n b σ V L H s g ok hl E _ _ gm Em => by
  obtain ⟨μ, m1, m2⟩ := s_99 (d := d + 31) (x := x1) g ok E
  exact ⟨_, μ, ⟨m1, m2⟩, fun _ _ _ _ _ _ gm' E' _ => s_188 (d := d + 31) gm' ok E'⟩
theorem r_stuffs {x1 x2 : Int} : cR 100 190 [(0, x1), (0, x2)] := cR_th fun d n b σ V L H s g ok hl E _ _ gm Em => by
  obtain ⟨μ, m1, m2⟩ := s_100 (d := d + 31) (k := x1) (x := x2) g ok E
  exact ⟨_, μ, ⟨m1, m2⟩, fun _ _ _ _ _ _ gm' E' _ => s_190 (d := d + 31) gm' ok E'⟩
theorem r_judge {x1 : Int} (hx : x1 < 2147483648) : cR 101 193 [(0, x1)] := cR_th fun d n b σ V L H s g ok hl E g5 _ gm Em => by
  obtain ⟨vh, l, B, st, s1, s2, -⟩ := g5
  obtain ⟨μ, m1, m2⟩ := s_101 (d := d + 34) hx g ok hl E s1
  refine ⟨_, μ, ⟨m1, m2⟩, fun _ _ _ _ _ _ gm' E' _ => ?_⟩
  have s2' : shM μ vh l B st := fun k hk => by
    rw [m2 87 (by decide), m2 88 (by decide), m2 89 (by decide)]; exact s2 k hk
  exact s_193 (d := d + 33) hx gm' ok hl E' s2'
theorem r_felt {x1 x2 x3 : Int} (hx : x1 < 2147483648) : cR 102 195 [(0, x1), (0, x2), (0, x3)] := cR_th fun d n b σ V L H s g ok hl E g5 c0 gm Em => by
  obtain ⟨vh, l, B, st, s1, s2, -⟩ := g5
  obtain ⟨μ, m1, m2⟩ := s_102 (d := d + 34) (y := x2) (z := x3) hx g ok hl E s1 c0
  refine ⟨_, μ, ⟨m1, m2⟩, fun _ _ _ _ _ _ gm' E' _ => ?_⟩
  have s2' : shM μ vh l B st := fun k hk => by
    rw [m2 87 (by decide), m2 88 (by decide), m2 89 (by decide)]; exact s2 k hk
  exact s_195 (d := d + 32) hx gm' ok hl E' s2'
theorem r_byTurns {x1 x2 x3 x4 : Int} (h1 : x1 < 2147483648) (h2 : x2 < 2147483648) : cR 105 200 [(0, x1), (0, x2), (0, x3), (0, x4)] := cR_th fun d n b σ V L H s g ok hl E _ _ gm Em => by
  obtain ⟨μ, m1, m2⟩ := s_105 (d := d + 29) (x3 := x3) (x4 := x4) h1 h2 g ok E
  exact ⟨_, μ, ⟨m1, m2⟩, fun _ _ _ _ _ _ gm' E' _ => s_200 (d := d + 29) h1 h2 gm' ok E'⟩
theorem r_drawn {x1 x2 x3 : Int} (h2 : x2 < 2147483648) : cR 106 201 [(0, x1), (0, x2), (0, x3)] := cR_th fun d n b σ V L H s g ok hl E _ _ gm Em => by
  obtain ⟨μ, m1, m2⟩ := s_106 (d := d + 32) (x := x1) (h := x3) h2 g ok hl E
  exact ⟨_, μ, ⟨m1, m2⟩, fun _ _ _ _ _ _ gm' E' _ => s_201 (d := d + 32) h2 gm' ok hl E'⟩
