/-! PURE PART 27: houses, the tape's bytes, counts, stitches kept, shelves kept -/
def addH (H : Nat → Nat → Int) (n : Nat) (a b c : Int) : Nat → Nat → Int := fun k i => if i = n then (if k = 0 then a else if k = 1 then b else c) else H k i
section
variable {d n b k : Nat} {σ τ : mM} {V V' : cV} {L : List (List Int × List Int)} {H : Nat → Nat → Int} {s : Int} {xs : Nat → Int} {N : Int}
theorem s_39 {x y z : Int} (hn : σ 1 4 = (n : Int)) (h8 : n < 8) : mcall (d + 1) 39 [(24, 1), (0, x), (0, y), (0, z)] σ = some ((n : Int), mset (mset (mset (mset σ 7 n x) 8 n y) 9 n z) 1 4 ((n + 1 : Nat) : Int)) := by
  have r7 : ∀ (τ : mM) (i : Nat) (v : Int), mset τ 7 i v 1 4 = τ 1 4 := fun _ _ _ => ms_n (by omega)
  have r8 : ∀ (τ : mM) (i : Nat) (v : Int), mset τ 8 i v 1 4 = τ 1 4 := fun _ _ _ => ms_n (by omega)
  have r9 : ∀ (τ : mM) (i : Nat) (v : Int), mset τ 9 i v 1 4 = τ 1 4 := fun _ _ _ => ms_n (by omega)
  rw [e_39, hn, bLt_t (by omega), bIn_t (by omega)]
  simp only [r7, r8, r9, hn, tn_n, ms_e]
  rw [bIn_t (by omega), bIn_t (by omega), w32_n (by omega), w32_e (by omega)]
  refine sm_c ?_
  omega
theorem s_39f {x y z : Int} (hn : σ 1 4 = (n : Int)) (h8 : ¬ n < 8) : mcall (d + 1) 39 [(24, 1), (0, x), (0, y), (0, z)] σ = some (-3, σ) := by
  rw [e_39, hn, bLt_f (by omega)]
theorem s_138 {x y z : Int} (hn : σ 64 3 = (n : Int)) (h8 : n < 8) : mcall (d + 1) 138 [(30, 64), (0, x), (0, y), (0, z)] σ = some ((n : Int), mset (mset (mset (mset σ 68 n x) 68 (8 + n) y) 68 (16 + n) z) 64 3 ((n + 1 : Nat) : Int)) := by
  have r : ∀ (τ : mM) (i : Nat) (v : Int), mset τ 68 i v 64 3 = τ 64 3 := fun _ _ _ => ms_n (by omega)
  rw [e_138]
  simp only [r, hn, tn_n]
  rw [bIn_t (by omega), w32_8 (by omega), bIn_t (by omega), w32_16 (by omega), bIn_t (by omega), w32_n (by omega)]
  rfl
theorem s_39e {x y z : Int} (E : envC σ L H n s) (h8 : n < 8) (hx : 0 ≤ x ∧ x < 30) : ∃ μ, mcall (d + 1) 39 [(24, 1), (0, x), (0, y), (0, z)] σ = some ((n : Int), μ) ∧ envC μ L (addH H n x y z) (n + 1) s ∧ ∀ a j, ¬ ((7 ≤ a ∧ a ≤ 9) ∨ (a = 1 ∧ j = 4)) → μ a j = σ a j := by
  obtain ⟨⟨w, h1, h2, h3⟩, h4, h5, h6, h7⟩ := E
  refine ⟨_, s_39 h4 h8, ⟨⟨w, h1, ?_, ?_⟩, ms_e, by omega, fun i hi => ?_, ?_⟩, fun a j h => ?_⟩
  · rw [ms_n (by omega), ms_n (by omega), ms_n (by omega), ms_n (by omega)]; exact h2
  · have e : ∀ a, 10 ≤ a → (mset (mset (mset (mset σ 7 n x) 8 n y) 9 n z) 1 4 ((n + 1 : Nat) : Int)) a = σ a := fun a ha => funext fun j => by rw [ms_n (by omega), ms_n (by omega), ms_n (by omega), ms_n (by omega)]
    exact lawC_g (e _ (by omega)) (e _ (by omega)) (e _ (by omega)) (e _ (by omega)) (e _ (by omega)) h3
  · by_cases he : i = n
    · subst he
      rw [ms_n (a := 7) (by omega), ms_n (a := 7) (by omega), ms_n (a := 7) (by omega), ms_e, ms_n (a := 8) (by omega), ms_n (a := 8) (by omega), ms_e, ms_n (a := 9) (by omega), ms_e]
      exact ⟨(if_pos rfl).symm, (if_pos rfl).symm, (if_pos rfl).symm, by show 0 ≤ (if i = i then _ else _); rw [if_pos rfl]; exact hx.1, by show (if i = i then _ else _) < 30; rw [if_pos rfl]; exact hx.2⟩
    · rw [ms_n (a := 7) (by omega), ms_n (a := 7) (by omega), ms_n (a := 7) (by omega), ms_n (a := 7) (by omega), ms_n (a := 8) (by omega), ms_n (a := 8) (by omega), ms_n (a := 8) (by omega), ms_n (a := 8) (by omega), ms_n (a := 9) (by omega), ms_n (a := 9) (by omega), ms_n (a := 9) (by omega), ms_n (a := 9) (by omega)]
      have q : ∀ k, addH H n x y z k i = H k i := fun k => if_neg he
      rw [q, q, q]
      exact h6 i (by omega)
  · rw [ms_n (by omega), ms_n (by omega), ms_n (by omega), ms_n (by omega)]; exact h7
  · rw [ms_n (by omega), ms_n (by omega), ms_n (by omega), ms_n (by omega)]
theorem s_138e {x y z : Int} (E : envM σ L H n s) (h8 : n < 8) (hx : 0 ≤ x ∧ x < 30) : ∃ μ, mcall (d + 1) 138 [(30, 64), (0, x), (0, y), (0, z)] σ = some ((n : Int), μ) ∧ envM μ L (addH H n x y z) (n + 1) s ∧ ∀ a j, ¬ (a = 68 ∨ (a = 64 ∧ j = 3)) → μ a j = σ a j := by
  obtain ⟨h1, h2, h3, h4, h5, h6⟩ := E
  have e : ∀ a j, ¬ (a = 68 ∨ (a = 64 ∧ j = 3)) → (mset (mset (mset (mset σ 68 n x) 68 (8 + n) y) 68 (16 + n) z) 64 3 ((n + 1 : Nat) : Int)) a j = σ a j := fun a j h => by rw [ms_n (by omega), ms_n (by omega), ms_n (by omega), ms_n (by omega)]
  refine ⟨_, s_138 h3 h8, ⟨?_, ?_, ms_e, by omega, fun i hi => ?_, ?_⟩, e⟩
  · exact lawM_g (e _ _ (by omega)) (funext fun j => e _ _ (by omega)) (funext fun j => e _ _ (by omega)) (funext fun j => e _ _ (by omega)) (funext fun j => e _ _ (by omega)) h1
  · rw [e 64 9 (by omega)]; exact h2
  · by_cases he : i = n
    · subst he
      have q1 : (mset (mset (mset (mset σ 68 i x) 68 (8 + i) y) 68 (16 + i) z) 64 3 ((i + 1 : Nat) : Int)) 68 i = x := by rw [ms_n (by omega), ms_n (by omega), ms_n (by omega), ms_e]
      have q2 : (mset (mset (mset (mset σ 68 i x) 68 (8 + i) y) 68 (16 + i) z) 64 3 ((i + 1 : Nat) : Int)) 68 (8 + i) = y := by rw [ms_n (by omega), ms_n (by omega), ms_e]
      have q3 : (mset (mset (mset (mset σ 68 i x) 68 (8 + i) y) 68 (16 + i) z) 64 3 ((i + 1 : Nat) : Int)) 68 (16 + i) = z := by rw [ms_n (by omega), ms_e]
      rw [q1, q2, q3]
      exact ⟨(if_pos rfl).symm, (if_pos rfl).symm, (if_pos rfl).symm, by show 0 ≤ (if i = i then _ else _); rw [if_pos rfl]; exact hx.1, by show (if i = i then _ else _) < 30; rw [if_pos rfl]; exact hx.2⟩
    · have q : ∀ k, addH H n x y z k i = H k i := fun k => if_neg he
      have qq : ∀ j, j ≠ n → j ≠ 8 + n → j ≠ 16 + n → (mset (mset (mset (mset σ 68 n x) 68 (8 + n) y) 68 (16 + n) z) 64 3 ((n + 1 : Nat) : Int)) 68 j = σ 68 j := fun j j1 j2 j3 => by rw [ms_n (by omega), ms_n (by omega), ms_n (by omega), ms_n (by omega)]
      rw [qq i (by omega) (by omega) (by omega), qq (8 + i) (by omega) (by omega) (by omega), qq (16 + i) (by omega) (by omega) (by omega), q, q, q]
      exact h5 i (by omega)
  · rw [e 69 1 (by omega)]; exact h6
theorem RR_2 {L' : List (List Int × List Int)} {H' : Nat → Nat → Int} {s' : Int} {n' : Nat} (R : RR xs N k σ) (x : ∀ a j, ¬ (P2 a j ∨ SC a j) → τ a j = σ a j) (hn : ∀ n : Nat, σ 1 4 = (n : Int) → n ≤ n') (g : G2 τ L' H' n' s') : RR xs N (k + 1) τ := by
  obtain ⟨V, L, H, n, s, b, g1, g2, g3, g4, g5, g6, g7, g8⟩ := R
  exact ⟨V, L', H', n', s', b, G1_k (by omega) (G1_f (fun a j h => x a j (by unfold P1 P2 SC at *; omega)) g1), g, G3_k (by omega) (G3_f (fun a j h => x a j (by unfold P2 P3 SC at *; omega)) g3), G4_f (fun a j h => x a j (by unfold P2 P4 SC at *; omega)) g4, G5_f (fun a j h => x a j (by unfold P2 P5 SC at *; omega)) g5, G6_n (hn n g2.1.2.1) (G6_f (fun a j h => x a j (by unfold P2 P6 SC at *; omega)) g6), G7_f (fun a j h => x a j (by unfold P2 P7 SC at *; omega)) g7, G8_f (fun a j h => x a j (by unfold P2 P8 SC at *; omega)) g8⟩
theorem RR_4 (R : RR xs N k σ) (x : ∀ a j, ¬ (P4 a j ∨ SC a j) → τ a j = σ a j) (g : G4 τ) : RR xs N (k + 1) τ := by
  obtain ⟨V, L, H, n, s, b, g1, g2, g3, g4, g5, g6, g7, g8⟩ := R
  exact ⟨V, L, H, n, s, b, G1_k (by omega) (G1_f (fun a j h => x a j (by unfold P1 P4 SC at *; omega)) g1), G2_f (fun a j h => x a j (by unfold P2 P4 SC at *; omega)) g2, G3_k (by omega) (G3_f (fun a j h => x a j (by unfold P4 P3 SC at *; omega)) g3), g, G5_f (fun a j h => x a j (by unfold P4 P5 SC at *; omega)) g5, G6_f (fun a j h => x a j (by unfold P4 P6 SC at *; omega)) g6, G7_f (fun a j h => x a j (by unfold P4 P7 SC at *; omega)) g7, G8_f (fun a j h => x a j (by unfold P4 P8 SC at *; omega)) g8⟩
theorem RR_5 (R : RR xs N k σ) (x : ∀ a j, ¬ (P5 a j ∨ SC a j) → τ a j = σ a j) (g : ∀ b, G7 σ b → G5 τ b) : RR xs N (k + 1) τ := by
  obtain ⟨V, L, H, n, s, b, g1, g2, g3, g4, g5, g6, g7, g8⟩ := R
  exact ⟨V, L, H, n, s, b, G1_k (by omega) (G1_f (fun a j h => x a j (by unfold P1 P5 SC at *; omega)) g1), G2_f (fun a j h => x a j (by unfold P2 P5 SC at *; omega)) g2, G3_k (by omega) (G3_f (fun a j h => x a j (by unfold P5 P3 SC at *; omega)) g3), G4_f (fun a j h => x a j (by unfold P5 P4 SC at *; omega)) g4, g b g7, G6_f (fun a j h => x a j (by unfold P5 P6 SC at *; omega)) g6, G7_f (fun a j h => x a j (by unfold P5 P7 SC at *; omega)) g7, G8_f (fun a j h => x a j (by unfold P5 P8 SC at *; omega)) g8⟩
theorem G5_b {b' : Nat} (h : b ≤ b') (g : G5 σ b) : G5 σ b' := by
  obtain ⟨vh, l, B, st, g1, g2, g3⟩ := g
  exact ⟨vh, l, B, st, g1, g2, fun k hk q => by have := g3 k hk q; omega⟩
theorem RR_7 {b' : Nat} (R : RR xs N k σ) (x : ∀ a j, ¬ (P7 a j ∨ SC a j) → τ a j = σ a j) (hb : ∀ b, G7 σ b → b ≤ b') (g : G7 τ b') : RR xs N (k + 1) τ := by
  obtain ⟨V, L, H, n, s, b, g1, g2, g3, g4, g5, g6, g7, g8⟩ := R
  exact ⟨V, L, H, n, s, b', G1_k (by omega) (G1_f (fun a j h => x a j (by unfold P1 P7 SC at *; omega)) g1), G2_f (fun a j h => x a j (by unfold P2 P7 SC at *; omega)) g2, G3_k (by omega) (G3_f (fun a j h => x a j (by unfold P7 P3 SC at *; omega)) g3), G4_f (fun a j h => x a j (by unfold P7 P4 SC at *; omega)) g4, G5_b (hb b g7) (G5_f (fun a j h => x a j (by unfold P7 P5 SC at *; omega)) g5), G6_f (fun a j h => x a j (by unfold P7 P6 SC at *; omega)) g6, g, G8_f (fun a j h => x a j (by unfold P7 P8 SC at *; omega)) g8⟩
theorem r_house {x y : Int} : cR 88 139 [(0, x), (0, y)] := by
  intro d xs N k σ hk R
  have R' := R
  obtain ⟨V, L, H, n, s, b, -, g2, -, -, -, -, -, g8⟩ := R
  have c3 : σ 900 3 = 29 := g8.1 3
  have c4 : σ 900 4 = 99 := g8.1 4
  by_cases h1 : 0 ≤ x ∧ x ≤ 29
  · by_cases h2 : 0 ≤ y ∧ y ≤ 99
    · obtain ⟨e1, e2, e3, e4⟩ := g2
      have hn1 := e1.2.1
      have hn2 := e2.2.2.1
      have hn8 := e1.2.2.1
      by_cases h8 : n < 8
      · obtain ⟨μ, m1, m2, m3⟩ := s_39e (d := d + 38) (y := y) (z := 4095) e1 h8 (by omega : 0 ≤ x ∧ x < 30)
        have e2' : envM μ L H n s := envM_g (fun a ha => funext fun j => m3 a j (by omega)) (m3 _ _ (by omega)) (m3 _ _ (by omega)) (m3 _ _ (by omega)) (m3 _ _ (by omega)) e2
        obtain ⟨ν, n1, n2, n3⟩ := s_138e (d := d + 38) (y := y) (z := 4095) e2' h8 (by omega : 0 ≤ x ∧ x < 30)
        refine ⟨(n : Int), μ, ν, ?_, ?_, RR_2 (L' := L) (H' := addH H n x y 4095) (s' := s) (n' := n + 1) R' (fun a j h => ?_) (fun n0 h0 => by omega) ⟨?_, n2, ?_, e4⟩, funext fun j => m3 _ _ (by omega), funext fun j => m3 _ _ (by omega)⟩
        · rw [e_88, bIn_t (by omega), s_126, bK_t, c3, if_pos h1, bEq_f (by omega), bIn_t (by omega), s_126, bK_t, c4, if_pos h2, bEq_f (by omega), m1, bK_t]
        · rw [e_139, s_134, bK_t, if_pos (by omega), bEq_f (by omega), s_133, bK_t, if_pos h2, bEq_f (by omega), e2'.2.2.1, bEq_f (by omega), n1, bK_t]
        · unfold P2 SC at h
          rw [n3 a j (by omega), m3 a j (by omega)]
        · exact envC_g (fun a ha => funext fun j => n3 a j (by omega)) m2
        · rw [n3 1 6 (by omega), n3 1 7 (by omega), m3 1 6 (by omega), m3 1 7 (by omega)]; exact e3
      · refine ⟨-3, σ, σ, ?_, ?_, RR_i R', rfl, rfl⟩
        · rw [e_88, bIn_t (by omega), s_126, bK_t, c3, if_pos h1, bEq_f (by omega), bIn_t (by omega), s_126, bK_t, c4, if_pos h2, bEq_f (by omega), s_39f hn1 h8, bK_t]
        · rw [e_139, s_134, bK_t, if_pos (by omega), bEq_f (by omega), s_133, bK_t, if_pos h2, bEq_f (by omega), hn2, bEq_t (by omega)]
    · refine ⟨-1, σ, σ, ?_, ?_, RR_i R', rfl, rfl⟩
      · rw [e_88, bIn_t (by omega), s_126, bK_t, c3, if_pos h1, bEq_f (by omega), bIn_t (by omega), s_126, bK_t, c4, if_neg h2, bEq_t (by rfl)]
      · rw [e_139, s_134, bK_t, if_pos (by omega), bEq_f (by omega), s_133, bK_t, if_neg h2, bEq_t (by rfl)]
  · refine ⟨-1, σ, σ, ?_, ?_, RR_i R', rfl, rfl⟩
    · rw [e_88, bIn_t (by omega), s_126, bK_t, c3, if_neg h1, bEq_t (by rfl)]
    · rw [e_139, s_134, bK_t, if_neg (by omega), bEq_t (by rfl)]
theorem r_feed {x : Int} : cR 92 150 [(0, x)] := by
  intro d xs N k σ hk R
  have R' := R
  obtain ⟨V, L, H, n, s, b, -, -, -, ⟨t, t1, t2, t3, t4⟩, -⟩ := R
  by_cases h1 : 0 ≤ x ∧ x ≤ 255
  · by_cases h : t < 120
    · refine ⟨((t + 1 : Nat) : Int), mset (mset σ 25 t x) 24 1 ((t + 1 : Nat) : Int), mset (mset (mset (mset σ 25 t x) 24 1 ((t + 1 : Nat) : Int)) 64 7 ((t + 1 : Nat) : Int)) 70 t x, ?_, ?_, RR_4 R' (fun a j h => ?_) ⟨t + 1, by omega, ?_, ?_, fun i hi => ?_⟩, ?_, ?_⟩
      · rw [e_92, s_126, bK_t, if_pos h1, bEq_f (by omega), e_55, t2, bLt_t (by omega), bIn_t (by omega), bIn_t (by omega), bK_t, bEq_f (by omega), ms_e, tn_n, ms_n (by omega), t2, w32_n (by omega)]
      · rw [e_150, s_133, bK_t, if_pos h1, bEq_f (by omega), ms_n (by omega), ms_n (by omega), t3, bEq_f (by omega), bIn_t (by omega), tn_n, w32_n (by omega), ms_n (by omega), ms_e]
      · unfold P4 SC at h
        rw [ms_n (by omega), ms_n (by omega), ms_n (by omega), ms_n (by omega)]
      · rw [ms_n (by omega), ms_n (by omega), ms_e]
      · rw [ms_n (by omega), ms_e]
      · rw [ms_n (a := 25) (by omega), ms_n (a := 25) (by omega), ms_n (a := 25) (by omega)]
        by_cases he : i = t
        · subst he; rw [ms_e, ms_e]; exact ⟨rfl, h1⟩
        · rw [ms_n (by omega), ms_n (by omega), ms_n (by omega), ms_n (by omega), ms_n (by omega)]; exact t4 i (by omega)
      · funext j; rw [ms_n (by omega), ms_n (by omega)]
      · funext j; rw [ms_n (by omega), ms_n (by omega)]
    · refine ⟨-3, σ, σ, ?_, ?_, RR_i R', rfl, rfl⟩
      · rw [e_92, s_126, bK_t, if_pos h1, bEq_f (by omega), e_55, t2, bLt_f (by omega), bIn_t (by omega), bK_t, bEq_t (by rfl)]
      · rw [e_150, s_133, bK_t, if_pos h1, bEq_f (by omega), t3, bEq_t (by omega)]
  · refine ⟨-1, σ, σ, ?_, ?_, RR_i R', rfl, rfl⟩
    · rw [e_92, s_126, bK_t, if_neg h1, bEq_t (by rfl)]
    · rw [e_150, s_133, bK_t, if_neg h1, bEq_t (by rfl)]
/-- squares stuffed -/
def sqA (V : cV) : Nat → Nat → Int → Int
  | 0, _, a => a
  | m + 1, q, a => sqA V m (q + 1) (if 0 < V 1 q then w32 (a + 1) else a)
theorem s_10 (g : gC 2 σ = V) : mcall (d + 1) 10 [(21, 2)] σ = some (sqA V 30 0 0, σ) := by
  have q : ∀ (m q : Nat) (a : Int), q + m = 30 → mgo (mcall d) (mX 10 σ) 10 4 [(21, ((2 : Nat) : Int)), (0, a), (0, (q : Int))] [] σ = some (sqA V m q a, σ) := by
    intro m
    induction m with
    | zero => intro q a hq; rw [b_10_4, bLt_f (by omega)]; rfl
    | succ m ih =>
      intro q a hq
      rw [b_10_4, bLt_t (by omega), bIn_t (by omega), tn_n, gC_1 g (by omega), w32_n (by omega)]
      show _ = some (sqA V m (q + 1) (if 0 < V 1 q then w32 (a + 1) else a), σ)
      by_cases h : 0 < V 1 q
      · rw [bLt_t h, if_pos h]; exact ih (q + 1) _ (by omega)
      · rw [bLt_f (by omega), if_neg h]; exact ih (q + 1) _ (by omega)
  exact (e_10 d 2 σ).trans (q 30 0 0 rfl)
theorem s_226l {mx : Int × Int} {K : mK} {v1 : Int} (g : gM σ = V) : ∀ (m q : Nat) (a : Int), q + m = 30 → mgo K mx 226 47 [(30, 64), (0, v1), (0, a), (0, (q : Int))] [] σ = some (sqA V m q a, σ) := by
  intro m
  induction m with
  | zero => intro q a hq; rw [b_226_47, bLt_f (by omega)]; rfl
  | succ m ih =>
    intro q a hq
    rw [b_226_47, bLt_t (by omega), bIn_t (by omega), tn_n, gM_1 g (by omega), w32_n (by omega)]
    show _ = some (sqA V m (q + 1) (if 0 < V 1 q then w32 (a + 1) else a), σ)
    by_cases h : 0 < V 1 q
    · rw [bLt_t h, if_pos h]; exact ih (q + 1) _ (by omega)
    · rw [bLt_f (by omega), if_neg h]; exact ih (q + 1) _ (by omega)
theorem r_count {x : Int} : cR 125 226 [(0, x)] := by
  intro d xs N k σ hk R
  have R' := R
  obtain ⟨V, L, H, n, s, b, g1, g2, g3, ⟨t, t1, t2, t3, t4⟩, g5, ⟨D, U, u1, u2, u3, u4, u5, u6⟩, ⟨v1, v2, v3, v4, r, v5, v6, v7, v8⟩, g8⟩ := R
  have sm : ∀ r : Int, mcall (d + 40) 125 [(29, 0), (0, x)] σ = some (r, σ) → mcall (d + 40) 226 [(30, 64), (0, x)] σ = some (r, σ) → ∃ r σ1 σ2, mcall (d + 40) 125 [(29, 0), (0, x)] σ = some (r, σ1) ∧ mcall (d + 40) 226 [(30, 64), (0, x)] σ1 = some (r, σ2) ∧ RR xs N (k + 1) σ2 ∧ σ1 903 = σ 903 ∧ σ1 904 = σ 904 := fun r h1 h2 => ⟨r, σ, σ, h1, h2, RR_i R', rfl, rfl⟩
  by_cases h0 : x = 0
  · exact sm n (by rw [e_125, bEq_t h0, g2.1.2.1]) (by rw [e_226, bEq_t h0, g2.2.1.2.2.1])
  · by_cases h1 : x = 1
    · exact sm (sqA V 30 0 0) (by rw [e_125, bEq_f h0, bEq_t h1, s_10 g1.1, bK_t]) (by rw [e_226, bEq_f h0, bEq_t h1]; exact s_226l g1.2.1 30 0 0 rfl)
    · by_cases h2 : x = 2
      · exact sm t (by rw [e_125, bEq_f h0, bEq_f h1, bEq_t h2, t2]) (by rw [e_226, bEq_f h0, bEq_f h1, bEq_t h2, t3])
      · by_cases h3 : x = 3
        · exact sm D (by rw [e_125, bEq_f h0, bEq_f h1, bEq_f h2, bEq_t h3, u2]) (by rw [e_226, bEq_f h0, bEq_f h1, bEq_f h2, bEq_t h3, u4])
        · by_cases h4 : x = 4
          · exact sm b (by rw [e_125, bEq_f h0, bEq_f h1, bEq_f h2, bEq_f h3, bEq_t h4, v1]) (by rw [e_226, bEq_f h0, bEq_f h1, bEq_f h2, bEq_f h3, bEq_t h4, v2])
          · by_cases h5 : x = 5
            · exact sm r (by rw [e_125, bEq_f h0, bEq_f h1, bEq_f h2, bEq_f h3, bEq_f h4, bEq_t h5, v6]) (by rw [e_226, bEq_f h0, bEq_f h1, bEq_f h2, bEq_f h3, bEq_f h4, bEq_t h5, v7])
            · exact sm (-1) (by rw [e_125, bEq_f h0, bEq_f h1, bEq_f h2, bEq_f h3, bEq_f h4, bEq_f h5]) (by rw [e_226, bEq_f h0, bEq_f h1, bEq_f h2, bEq_f h3, bEq_f h4, bEq_f h5])
theorem s_47 {x : Int} : mcall (d + 1) 47 [(0, x)] σ = some (if 0 ≤ x ∧ x < 8 then 1 else 0, σ) := by
  rw [e_47]
  by_cases h1 : x < 0
  · rw [bLt_t h1, bIn_t (by omega), if_neg (by omega)]
  · rw [bLt_f (by omega)]
    by_cases h2 : x < 8
    · rw [bLt_t h2, bIn_t (by omega), if_pos (by omega)]
    · rw [bLt_f (by omega), bIn_t (by omega), if_neg (by omega)]
theorem s_48 {x : Int} (hb : σ 43 1 = (b : Int)) : mcall (d + 1) 48 [(25, 43), (0, x)] σ = some (if 0 ≤ x ∧ x < (b : Int) then 1 else 0, σ) := by
  rw [e_48, hb]
  by_cases h1 : x < 0
  · rw [bLt_t h1, bIn_t (by omega), if_neg (by omega)]
  · rw [bLt_f (by omega)]
    by_cases h2 : x < (b : Int)
    · rw [bLt_t h2, bIn_t (by omega), if_pos (by omega)]
    · rw [bLt_f (by omega), bIn_t (by omega), if_neg (by omega)]
theorem r_body {x : Int} : cR 116 215 [(0, x)] := by
  intro d xs N k σ hk R
  have R' := R
  obtain ⟨V, L, H, n, s, b, -, -, -, -, -, -, ⟨v1, v2, v3, v4, r, v5, v6, v7, v8⟩, -⟩ := R
  by_cases h1 : 0 ≤ x ∧ x < 8
  · by_cases h : b < 50
    · refine ⟨(b : Int), mset (mset σ 44 b x) 43 1 ((b + 1 : Nat) : Int), mset (mset (mset (mset σ 44 b x) 43 1 ((b + 1 : Nat) : Int)) 85 b x) 64 32 ((b + 1 : Nat) : Int), ?_, ?_, RR_7 (b' := b + 1) R' (fun a j h => ?_) (fun b0 h0 => by have := h0.1; omega) ⟨?_, ?_, by omega, fun i hi => ?_, r, v5, ?_, ?_, fun i h1 h2 => ?_⟩, ?_, ?_⟩
      · rw [e_116, s_47, bK_t, if_pos h1, bEq_f (by omega), e_49, v1, bLt_t (by omega), bIn_t (by omega), bK_t, tn_n, ms_e, ms_n (by omega), v1, w32_n (by omega), w32_e (by omega)]
        refine sm_c ?_
        omega
      · rw [e_215, s_133, bK_t, if_pos (by omega), bEq_f (by omega), ms_n (by omega), ms_n (by omega), v2, bEq_f (by omega), bIn_t (by omega), tn_n, ms_n (by omega), ms_n (by omega), ms_n (by omega), v2, w32_n (by omega)]
      · unfold P7 SC at h
        rw [ms_n (by omega), ms_n (by omega), ms_n (by omega), ms_n (by omega)]
      · rw [ms_n (by omega), ms_n (by omega), ms_e]
      · rw [ms_e]
      · rw [ms_n (a := 44) (by omega), ms_n (a := 44) (by omega), ms_n (a := 44) (by omega), ms_n (a := 85) (by omega)]
        by_cases he : i = b
        · subst he; rw [ms_e, ms_e]; exact ⟨rfl, by omega, by omega⟩
        · rw [ms_n (by omega), ms_n (by omega), ms_n (by omega), ms_n (by omega)]; exact v4 i (by omega)
      · rw [ms_n (by omega), ms_n (by omega), ms_n (by omega), ms_n (by omega)]; exact v6
      · rw [ms_n (by omega), ms_n (by omega), ms_n (by omega), ms_n (by omega)]; exact v7
      · rw [ms_n (by omega), ms_n (by omega), ms_n (by omega), ms_n (by omega), ms_n (by omega), ms_n (by omega), ms_n (by omega), ms_n (by omega)]; exact v8 i h1 h2
      · funext j; rw [ms_n (by omega), ms_n (by omega)]
      · funext j; rw [ms_n (by omega), ms_n (by omega)]
    · refine ⟨-3, σ, σ, ?_, ?_, RR_i R', rfl, rfl⟩
      · rw [e_116, s_47, bK_t, if_pos h1, bEq_f (by omega), e_49, v1, bLt_f (by omega), bK_t]
      · rw [e_215, s_133, bK_t, if_pos (by omega), bEq_f (by omega), v2, bEq_t (by omega)]
  · refine ⟨-1, σ, σ, ?_, ?_, RR_i R', rfl, rfl⟩
    · rw [e_116, s_47, bK_t, if_neg h1, bEq_t (by rfl)]
    · rw [e_215, s_133, bK_t, if_neg (by omega), bEq_t (by rfl)]
theorem r_trace {x : Int} : cR 118 217 [(0, x)] := by
  intro d xs N k σ hk R
  have R' := R
  obtain ⟨V, L, H, n, s, b, -, -, -, -, -, -, ⟨v1, v2, v3, v4, r, v5, v6, v7, v8⟩, -⟩ := R
  have hw : Unit → w32 ((if (r : Int) < 24 then (r : Int) else 24) - 1) = (if (r : Int) < 24 then (r : Int) else 24) - 1 := fun _ => w32_e (by split <;> omega)
  by_cases h : 0 ≤ x ∧ x < (r : Int) ∧ x < 24
  · obtain ⟨i, hi⟩ : ∃ i : Nat, x = (i : Int) := ⟨x.toNat, by omega⟩
    subst hi
    refine ⟨σ 86 i, σ, σ, ?_, ?_, RR_i R', rfl, rfl⟩
    · rw [e_118, v6, bLt_f (by omega), bLt_t (by omega), bLt_t (by omega), bIn_t (by omega), tn_n, v8 i (by omega) (by omega)]
    · rw [e_217, v7, hw (), s_133, bK_t, if_pos (by split <;> omega), bEq_f (by omega), bIn_t (by omega), tn_n]
  · refine ⟨-1, σ, σ, ?_, ?_, RR_i R', rfl, rfl⟩
    · rw [e_118, v6]
      by_cases h1 : x < 0
      · rw [bLt_t h1]
      · rw [bLt_f (by omega)]
        by_cases h2 : x < (r : Int)
        · rw [bLt_t h2, bLt_f (by omega)]
        · rw [bLt_f (by omega)]
    · rw [e_217, v7, hw (), s_133, bK_t, if_neg (by split <;> omega), bEq_t (by rfl)]
theorem shx {i : Nat} : (46 + 1 + 2 * ((i : Nat) : Int)) = ((47 + 2 * i : Nat) : Int) := by omega
theorem shx1 {i : Nat} : ((47 + 2 * i : Nat) : Int) + 1 = ((48 + 2 * i : Nat) : Int) := by omega
/-- one shelf anew -/
def uf {α : Type} (f : Nat → α) (i : Nat) (v : α) : Nat → α := fun k => if k = i then v else f k
theorem uf_e {α : Type} {f : Nat → α} {i : Nat} {v : α} : uf f i v i = v := if_pos rfl
theorem uf_o {α : Type} {f : Nat → α} {i k : Nat} {v : α} (h : k ≠ i) : uf f i v k = f k := if_neg h
theorem s_31 {i : Nat} {v : Int} : mcall (d + 1) 31 [(23, ((47 + 2 * i : Nat) : Int)), (0, v)] σ = some (0, mset (mset (mset σ (47 + 2 * i) 1 (if v < 0 then -2 else -1)) (47 + 2 * i) 3 v) (47 + 2 * i) 2 0) := by
  rw [e_31]
  by_cases h : v < 0
  · rw [bLt_t h, if_pos h]
  · rw [bLt_f (by omega), if_neg h]
theorem r_keep {x y : Int} : cR 119 218 [(0, x), (0, y)] := by
  intro d xs N k σ hk R
  have R' := R
  obtain ⟨V, L, H, n, s, b, -, -, -, -, g5, -, ⟨v1, v2, v3, v4, -⟩, -⟩ := R
  have hw : Unit → w32 ((b : Int) - 1) = (b : Int) - 1 := fun _ => w32_e (by omega)
  by_cases h1 : 0 ≤ x ∧ x < 6
  · obtain ⟨i, hi⟩ : ∃ i : Nat, x = (i : Int) := ⟨x.toNat, by omega⟩
    subst hi
    have hi6 : i < 6 := by omega
    by_cases h2 : -1 ≤ y ∧ y < (b : Int)
    · refine ⟨1, mset (mset (mset σ (47 + 2 * i) 1 (if y < 0 then -2 else -1)) (47 + 2 * i) 3 y) (47 + 2 * i) 2 0, mset (mset (mset (mset (mset σ (47 + 2 * i) 1 (if y < 0 then -2 else -1)) (47 + 2 * i) 3 y) (47 + 2 * i) 2 0) 87 i (if y < 0 then -1 else 10 + y)) 88 i 0, ?_, ?_, RR_5 R' (fun a j h => ?_) (fun b' hb' => ?_), ?_, ?_⟩
      · rw [e_119, s_128, bK_t, if_pos h1, bEq_f (by omega)]
        by_cases h3 : y = -1
        · rw [bEq_t h3, bIn_t (by omega), shx, s_31, bK_t]
        · rw [bEq_f h3, s_48 v1, bK_t, if_pos (by omega), bEq_f (by omega), bIn_t (by omega), shx, s_31, bK_t]
      · have e64 : mset (mset (mset σ (47 + 2 * i) 1 (if y < 0 then -2 else -1)) (47 + 2 * i) 3 y) (47 + 2 * i) 2 0 64 32 = (b : Int) := by rw [ms_n (by omega), ms_n (by omega), ms_n (by omega)]; exact v2
        rw [e_218, s_137, bK_t, if_pos h1, bEq_f (by omega), e64, hw (), s_133, bK_t, if_pos (by omega), bEq_f (by omega)]
        by_cases h3 : y < 0
        · rw [bLt_t h3, bIn_t (by omega), bIn_t (by omega), tn_n, if_pos h3, if_pos h3]
        · rw [bLt_f (by omega), bIn_t (by omega), bIn_t (by omega), tn_n, if_neg h3, if_neg h3, w32_e (by omega)]
      · unfold P5 SC at h
        rw [ms_n (by omega), ms_n (by omega), ms_n (by omega), ms_n (by omega), ms_n (by omega)]
      · have hbb : b = b' := by have := hb'.1; omega
        subst hbb
        obtain ⟨vh, l, B, st, s1, s2, s3⟩ := g5
        refine ⟨uf vh i (if y < 0 then -2 else -1), uf l i 0, B, uf st i y, fun k hk => ?_, fun k hk => ?_, fun k hk hv => ?_⟩
        · by_cases he : k = i
          · subst he
            rw [uf_e, uf_e, uf_e, ms_n (a := 47 + 2 * k) (by omega), ms_n (a := 47 + 2 * k) (by omega), ms_n (a := 47 + 2 * k) (by omega), ms_n (a := 47 + 2 * k) (by omega), ms_e, ms_n (a := 47 + 2 * k) (by omega), ms_n (a := 47 + 2 * k) (by omega), ms_e, ms_n (a := 47 + 2 * k) (by omega), ms_n (a := 47 + 2 * k) (by omega), ms_n (a := 47 + 2 * k) (by omega), ms_e]
            exact ⟨rfl, rfl, by omega, fun i hi => by omega, fun _ => rfl⟩
          · have q : ∀ a j, (a = 47 + 2 * k ∨ a = 48 + 2 * k) → mset (mset (mset (mset (mset σ (47 + 2 * i) 1 (if y < 0 then -2 else -1)) (47 + 2 * i) 3 y) (47 + 2 * i) 2 0) 87 i (if y < 0 then -1 else 10 + y)) 88 i 0 a j = σ a j := fun a j ha => by rw [ms_n (by omega), ms_n (by omega), ms_n (by omega), ms_n (by omega), ms_n (by omega)]
            rw [uf_o he, uf_o he, uf_o he, q _ _ (Or.inl rfl), q _ _ (Or.inl rfl), q _ 3 (Or.inl rfl)]
            obtain ⟨a1, a2, a3, a4, a5⟩ := s1 k hk
            exact ⟨a1, a2, a3, fun i' hi' => by rw [q _ _ (Or.inr rfl)]; exact a4 i' hi', a5⟩
        · by_cases he : k = i
          · subst he
            rw [uf_e, uf_e, uf_e, ms_n (a := 87) (by omega), ms_e, ms_e]
            refine ⟨?_, rfl, by omega, fun i hi => by omega⟩
            by_cases h3 : y < 0
            · rw [if_pos h3, if_pos h3]; exact Or.inl ⟨rfl, rfl⟩
            · rw [if_neg h3, if_neg h3]; exact Or.inr (Or.inl ⟨rfl, rfl, by omega, by omega⟩)
          · have q : ∀ a j, (a = 87 ∨ a = 88) → j ≠ i → mset (mset (mset (mset (mset σ (47 + 2 * i) 1 (if y < 0 then -2 else -1)) (47 + 2 * i) 3 y) (47 + 2 * i) 2 0) 87 i (if y < 0 then -1 else 10 + y)) 88 i 0 a j = σ a j := fun a j ha hj => by rw [ms_n (by omega), ms_n (by omega), ms_n (by omega), ms_n (by omega), ms_n (by omega)]
            have q89 : ∀ j, mset (mset (mset (mset (mset σ (47 + 2 * i) 1 (if y < 0 then -2 else -1)) (47 + 2 * i) 3 y) (47 + 2 * i) 2 0) 87 i (if y < 0 then -1 else 10 + y)) 88 i 0 89 j = σ 89 j := fun j => by rw [ms_n (by omega), ms_n (by omega), ms_n (by omega), ms_n (by omega), ms_n (by omega)]
            rw [uf_o he, uf_o he, uf_o he, q _ _ (Or.inl rfl) he, q _ _ (Or.inr rfl) he]
            obtain ⟨a1, a2, a3, a4⟩ := s2 k hk
            exact ⟨a1, a2, a3, fun i' hi' => by rw [q89]; exact a4 i' hi'⟩
        · by_cases he : k = i
          · subst he; rw [uf_e]; omega
          · rw [uf_o he] at hv ⊢; exact s3 k hk hv
      · funext j; rw [ms_n (by omega), ms_n (by omega), ms_n (by omega)]
      · funext j; rw [ms_n (by omega), ms_n (by omega), ms_n (by omega)]
    · refine ⟨-1, σ, σ, ?_, ?_, RR_i R', rfl, rfl⟩
      · rw [e_119, s_128, bK_t, if_pos h1, bEq_f (by omega), bEq_f (by omega), s_48 v1, bK_t, if_neg (by omega), bEq_t (by rfl)]
      · rw [e_218, s_137, bK_t, if_pos h1, bEq_f (by omega), v2, hw (), s_133, bK_t, if_neg (by omega), bEq_t (by rfl)]
  · refine ⟨-1, σ, σ, ?_, ?_, RR_i R', rfl, rfl⟩
    · rw [e_119, s_128, bK_t, if_neg h1, bEq_t (by rfl)]
    · rw [e_218, s_137, bK_t, if_neg h1, bEq_t (by rfl)]
end
