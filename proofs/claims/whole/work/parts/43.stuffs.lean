/-! PURE PART 24: shakes, stuffings in thought -/
def stW (V : cV) (q : Nat) (a b c : Int) : cV := up (up (up V 0 q a) 1 q b) 2 q c
def weA (p : Int × Int) (ans c : Int) : Int × Int := if c < p.2 then (ans, c) else p
section
variable {d n : Nat} {S : mM} {V : cV} {L : List (List Int × List Int)} {H : Nat → Nat → Int} {s : Int}
theorem okC_st {q : Nat} {a b c : Int} (ok : okC V) (hq : q < 30) (ha : 0 ≤ a ∧ a ≤ 4) (hb : 0 ≤ b ∧ b ≤ 9) (hc : 0 ≤ c ∧ c ≤ 12) : okC (stW V q a b c) := okC_2 (okC_1 (okC_0 ok hq ha) hq hb) hq hc
theorem stW_3 {q j : Nat} {a b c : Int} : stW V q a b c 3 j = V 3 j := by
  unfold stW
  rw [up_o (by omega), up_o (by omega), up_o (by omega)]
theorem stW_e {q : Nat} {a b c : Int} : stW (stW V q a b c) q a b c = stW V q a b c := by
  funext k j
  unfold stW up
  repeat' split
  all_goals rfl
theorem stW_c {p q : Nat} {a b c : Int} (h : p ≠ q) : stW (stW V p a b c) q a b c = stW (stW V q a b c) p a b c := by
  funext k j
  unfold stW up
  repeat' split
  all_goals first | rfl | omega
theorem s_9 {c q : Nat} {x y z : Int} (g : gC c S = V) (ok : okC (stW V q x y z)) (hq : q < 30) : ∃ μ, mcall (d + 1) 9 [(21, (c : Int)), (0, (q : Int)), (0, x), (0, y), (0, z)] S = some (0, μ) ∧ gC c μ = stW V q x y z ∧ fr [c, c + 1, c + 2, c + 3, c + 4] S μ ∧ ∀ j, j ≠ 0 → μ (c + 4) j = S (c + 4) j := by
  refine opC (f := mcall (d + 1) 9 [(21, (c : Int)), (0, (q : Int)), (0, x), (0, y), (0, z)]) g ok.1 ?_
  rw [e_9, bIn_t (by omega), bIn_t (by omega), bIn_t (by omega), tn_n, uL_1 hq, uL_2 (dC c) hq, uL_3 (dC c) hq]
  rfl
theorem s_189 {q : Nat} {x y : Int} (g : gM S = V) (ok : okC (stW V q x y 0)) (hq : q < 30) : ∃ μ, mcall (d + 1) 189 [(30, 64), (0, (q : Int)), (0, x), (0, y)] S = some (0, μ) ∧ gM μ = stW V q x y 0 ∧ fm [] S μ := by
  refine opM (f := mcall (d + 1) 189 [(30, 64), (0, (q : Int)), (0, x), (0, y)]) g ok.1 ?_
  rw [e_189, bIn_t (by omega), bIn_t (by omega), bIn_t (by omega), tn_n, uL_1 hq, uL_2 dM hq, uL_3 dM hq]
  rfl
theorem s_74 {ans : Int} {W : cV} (g : gC 27 S = W) (ok : okC W) (E : envC S L H n s) : ∃ μ, mcall (d + 6) 74 [(27, 26), (0, ans)] S = some (0, μ) ∧ fr CT S μ ∧ (μ 26 3, μ 26 4) = weA (S 26 3, S 26 4) ans (bcA (bitsA L H W n)) := by
  obtain ⟨μ, m1, m2⟩ := s_44 (d := d) (c := 27) (Or.inr rfl) g ok E
  have m1' : mcall (d + 5) 44 [(24, 1), (21, 27)] S = some (bitsA L H W n, μ) := m1
  have e : ∀ j, μ 26 j = S 26 j := fun j => fr_e m2 (by decide) j
  rw [e_74, m1', bK_t, s_228, bK_t, e 4]
  unfold weA
  by_cases h : bcA (bitsA L H W n) < S 26 4
  · rw [bLt_t h, if_pos h]
    exact ⟨_, rfl, fr_s (fr_s (fCS m2) (by decide)) (by decide), by rw [ms_e, ms_n (by omega), ms_e]⟩
  · rw [bLt_f (by omega), if_neg h]
    exact ⟨μ, rfl, fCS m2, by rw [e 3, e 4]⟩
def shF (L : List (List Int × List Int)) (H : Nat → Nat → Int) (n : Nat) (V : cV) : Nat → Nat → Int × Int → Int × Int
  | 0, _, p => p
  | m + 1, q, p => shF L H n V m (q + 1) (if 0 < q % 6 ∧ q % 6 < 5 ∧ 0 < q / 6 ∧ q / 6 < 4 then weA p (q : Int) (bcA (bitsA L H (mixA q V) n)) else p)
theorem sh_0 {p p' : Int × Int} (hn : n ≤ 8) (h : 9 ≤ p.2) (h' : 9 ≤ p'.2) : shF L H n V 30 0 p = shF L H n V 30 0 p' := by
  have b := bits_c (L := L) (H := H) (V := mixA 7 V) hn
  have k : ∀ m q p, ¬ (0 < q % 6 ∧ q % 6 < 5 ∧ 0 < q / 6 ∧ q / 6 < 4) → shF L H n V (m + 1) q p = shF L H n V m (q + 1) p := fun m q p h => congrArg (shF L H n V m (q + 1)) (if_neg h)
  have k7 : ∀ m q p, (0 < q % 6 ∧ q % 6 < 5 ∧ 0 < q / 6 ∧ q / 6 < 4) → shF L H n V (m + 1) q p = shF L H n V m (q + 1) (weA p (q : Int) (bcA (bitsA L H (mixA q V) n))) := fun m q p h => congrArg (shF L H n V m (q + 1)) (if_pos h)
  have e : ∀ p : Int × Int, 9 ≤ p.2 → shF L H n V 30 0 p = shF L H n V 22 8 (7, bcA (bitsA L H (mixA 7 V) n)) := by
    intro p h
    have e7 := k7 22 7 p (by omega)
    have ew : weA p ((7 : Nat) : Int) (bcA (bitsA L H (mixA 7 V) n)) = (7, bcA (bitsA L H (mixA 7 V) n)) := if_pos (by omega)
    rw [ew] at e7
    exact (k 29 0 p (by omega)).trans ((k 28 1 p (by omega)).trans ((k 27 2 p (by omega)).trans ((k 26 3 p (by omega)).trans ((k 25 4 p (by omega)).trans ((k 24 5 p (by omega)).trans ((k 23 6 p (by omega)).trans e7))))))
  rw [e p h, e p' h']
theorem s_72 (g : gC 2 S = V) (ok : okC V) (E : envC S L H n s) : ∃ μ, mcall (d + 8) 72 [(27, 26)] S = some (0, μ) ∧ fr CT S μ ∧ (μ 26 3, μ 26 4) = shF L H n V 30 0 (S 26 3, 9) := by
  have q : ∀ (m q : Nat) (σ : mM), q + m = 30 → fr CT S σ → ∃ μ, mgo (mcall (d + 7)) (mX 72 S) 72 8 [(27, 26), (0, (q : Int))] [] σ = some (0, μ) ∧ fr CT S μ ∧ (μ 26 3, μ 26 4) = shF L H n V m q (σ 26 3, σ 26 4) := by
    intro m
    induction m with
    | zero =>
      intro q σ hq F
      refine ⟨σ, ?_, F, rfl⟩
      rw [b_72_8, bLt_f (by omega)]
    | succ m ih =>
      intro q σ hq F
      rw [b_72_8, bLt_t (by omega), s_12 (by omega), bK_t, w32_n (by omega)]
      rw [show ∀ p, shF L H n V (m + 1) q p = shF L H n V m (q + 1) (if 0 < q % 6 ∧ q % 6 < 5 ∧ 0 < q / 6 ∧ q / 6 < 4 then weA p (q : Int) (bcA (bitsA L H (mixA q V) n)) else p) from fun _ => rfl]
      by_cases h : 0 < q % 6 ∧ q % 6 < 5 ∧ 0 < q / 6 ∧ q / 6 < 4
      · obtain ⟨μ, m1, m2, m3⟩ := s_6t (d := d + 6) ((gC_T F).trans g)
        have o2 : okC (mixA q V) := okC_mix ok h
        obtain ⟨ν, n1, n2, n3, -⟩ := opC (f := mcall (d + 7) 19 [(21, ((27 : Nat) : Int)), (0, (q : Int))]) m2 o2.1 (s_19 (d := d + 5) h ok)
        have n1' : mcall (d + 7) 19 [(21, 27), (0, (q : Int))] μ = some (0, ν) := n1
        have F2 := fr_t F (fr_t (fCA m3) (fCA n3))
        obtain ⟨ξ, x1, x2, x3⟩ := s_74 (d := d + 1) (ans := (q : Int)) n2 o2 (envC_T F2 E)
        obtain ⟨ζ, z1, z2, z3⟩ := ih (q + 1) ξ (by omega) (fr_t F2 x2)
        rw [if_pos h, if_pos h, bEq_f (by omega), m1, bK_t, n1', bK_t, x1, bK_t]
        refine ⟨ζ, z1, z2, z3.trans ?_⟩
        rw [x3, fr_e n3 (by decide), fr_e n3 (by decide), fr_e m3 (by decide), fr_e m3 (by decide)]
      · rw [if_neg h, if_neg h, bEq_t (by rfl)]
        exact ih (q + 1) σ (by omega) F
  obtain ⟨μ, m1, m2, m3⟩ := q 30 0 (mset S 26 4 9) rfl (fr_s fr_r (by decide))
  refine ⟨μ, ?_, m2, ?_⟩
  · rw [e_72]; exact m1
  · rw [m3, ms_e, ms_n (by omega)]
def shakesA (L : List (List Int × List Int)) (H : Nat → Nat → Int) (n : Nat) (V : cV) (x : Int) : Int := if 0 ≤ x ∧ x ≤ 1 then (if x = 0 then (shF L H n V 30 0 (-2, 99)).1 else (shF L H n V 30 0 (-2, 99)).2) else -1
theorem s_99 {x : Int} (g : gC 2 S = V) (ok : okC V) (E : envC S L H n s) : ∃ μ, mcall (d + 9) 99 [(29, 0), (0, x)] S = some (shakesA L H n V x, μ) ∧ fr CT S μ := by
  rw [e_99, s_126, bK_t]
  unfold shakesA
  by_cases h1 : 0 ≤ x ∧ x ≤ 1
  · obtain ⟨μ, m1, m2, m3⟩ := s_72 (d := d) g ok E
    rw [sh_0 E.2.2.1 (p' := (-2, 99)) (by show (9 : Int) ≤ 9; omega) (by show (9 : Int) ≤ 99; omega)] at m3
    rw [if_pos h1, if_pos h1, bEq_f (by omega), m1, bK_t, ← m3]
    by_cases h2 : x = 0
    · rw [bEq_t h2, if_pos h2]; exact ⟨μ, rfl, m2⟩
    · rw [bEq_f h2, if_neg h2]; exact ⟨μ, rfl, m2⟩
  · rw [if_neg h1, if_neg h1, bEq_t (by rfl)]; exact ⟨S, rfl, fr_r⟩
theorem s_176 {q : Nat} (hq : q < 30) {τ : mM} : mcall (d + 3) 176 [(0, (q : Int))] τ = some ((if 0 < q % 6 ∧ q % 6 < 5 ∧ 0 < q / 6 ∧ q / 6 < 4 then 1 else 0), τ) := by
  have t : Unit → Int.tmod (q : Int) 6 = ((q % 6 : Nat) : Int) := fun _ => rfl
  have v : Unit → w32 (Int.tdiv (q : Int) 6) = ((q / 6 : Nat) : Int) := fun _ => by rw [show Int.tdiv (q : Int) 6 = ((q / 6 : Nat) : Int) from rfl, w32_e (by omega)]
  rw [e_176, s_134, bK_t, if_pos (by omega), bEq_f (by omega), bEq_f (by omega), t (), s_133, bK_t]
  by_cases h1 : 0 < q % 6 ∧ q % 6 < 5
  · rw [if_pos (by omega), bEq_f (by omega), bEq_f (by omega), v (), s_133, bK_t]
    by_cases h2 : 0 < q / 6 ∧ q / 6 < 4
    · rw [if_pos (by omega), bEq_f (by omega), bIn_t (by omega), if_pos (by omega)]
    · rw [if_neg (by omega), bEq_t (by rfl), bIn_t (by omega), if_neg (by omega)]
  · rw [if_neg (by omega), bEq_t (by rfl), bIn_t (by omega), if_neg (by omega)]
theorem s_176' {x : Int} (hx : ¬ (0 ≤ x ∧ x < 30)) {τ : mM} : mcall (d + 3) 176 [(0, x)] τ = some (0, τ) := by
  rw [e_176, s_134, bK_t, if_neg hx, bEq_t (by rfl), bIn_t (by omega)]
theorem s_177k {q : Nat} {W : cV} (g : gM S = W) (k : gK 90 S = V) (ok : okC W) (hq : inner q) : ∃ μ, mcall (d + 1) 177 [(30, 64), (0, (q : Int))] S = some (0, μ) ∧ gM μ = mixA q W ∧ gK 90 μ = V ∧ fm MT S μ := by
  obtain ⟨μ, m1, m2, m3⟩ := opM (f := mcall (d + 1) 177 [(30, 64), (0, (q : Int))]) g (okC_mix ok hq).1 (s_177 hq ok)
  exact ⟨μ, m1, m2, (gK_f m3 (by simp) (by omega)).trans k, fm_m m3 (by simp)⟩
def uvl (u : mV) : Prop := u = (2, 0) ∨ ∃ x, u = (0, x)
theorem g_188 {K : mK} {mx : Int × Int} {v1 v2 v3 v4 : Int} {σ : mM} {u : mV} (hu : uvl u) : mgo K mx 188 28 [(30, 64), (0, v1), (0, v2), (0, v3), (0, v4), u] [] σ =
    bLt v4 30 (bK (K 176 [(0, v4)] σ) (fun r1 s2 => bEq r1 0 (mgo K mx 188 28 [(30, 64), (0, v1), (0, v2), (0, v3), (0, w32 (v4 + 1)), u] [] s2) (bK (K 177 [(30, 64), (0, v4)] s2) (fun _ s4 => bK (K 171 [(30, 64)] s4) (fun r5 s6 => bK (K 228 [(0, r5)] s6) (fun r7 s8 => bK (K 179 [(30, 64), (1092, 90)] s8) (fun _ s10 => bLt r7 v3 (mgo K mx 188 28 [(30, 64), (0, v1), (0, v4), (0, r7), (0, w32 (v4 + 1)), (0, r7)] [] s10) (mgo K mx 188 28 [(30, 64), (0, v1), (0, v2), (0, v3), (0, w32 (v4 + 1)), (0, r7)] [] s10)))))))) (bEq v1 0 (some (v2, σ)) (some (v3, σ))) := by
  rcases hu with rfl | ⟨x, rfl⟩
  · exact b_188_28a _ _ _ _ _ _ _
  · exact b_188_28 _ _ _ _ _ _ _ _
theorem s_188 {x : Int} (g : gM S = V) (ok : okC V) (E : envM S L H n s) : ∃ μ, mcall (d + 9) 188 [(30, 64), (0, x)] S = some (shakesA L H n V x, μ) ∧ fm MT S μ ∧ gM μ = V := by
  rw [e_188, s_133, bK_t]
  unfold shakesA
  by_cases h1 : 0 ≤ x ∧ x ≤ 1
  · rw [if_pos h1, if_pos h1, bEq_f (by omega)]
    obtain ⟨σ, s1, s2, s3, s4⟩ := s_178t (d := d + 7) g
    have q : ∀ (m q : Nat) (p : Int × Int) (u : mV) (σ : mM), q + m = 30 → uvl u → gM σ = V → gK 90 σ = V → fm MT S σ → ∃ μ, mgo (mcall (d + 8)) (mX 188 S) 188 28 [(30, 64), (0, x), (0, p.1), (0, p.2), (0, (q : Int)), u] [] σ = some (if x = 0 then (shF L H n V m q p).1 else (shF L H n V m q p).2, μ) ∧ fm MT S μ ∧ gM μ = V := by
      intro m
      induction m with
      | zero =>
        intro q p u σ hq hu gσ kσ F
        refine ⟨σ, ?_, F, gσ⟩
        rw [g_188 hu, bLt_f (by omega)]
        show bEq x 0 (some (p.1, σ)) (some (p.2, σ)) = some (if x = 0 then p.1 else p.2, σ)
        by_cases h2 : x = 0
        · rw [bEq_t h2, if_pos h2]
        · rw [bEq_f h2, if_neg h2]
      | succ m ih =>
        intro q p u σ hq hu gσ kσ F
        rw [g_188 hu, bLt_t (by omega), s_176 (by omega), bK_t, w32_n (by omega)]
        rw [show shF L H n V (m + 1) q p = shF L H n V m (q + 1) (if 0 < q % 6 ∧ q % 6 < 5 ∧ 0 < q / 6 ∧ q / 6 < 4 then weA p (q : Int) (bcA (bitsA L H (mixA q V) n)) else p) from rfl]
        by_cases h : 0 < q % 6 ∧ q % 6 < 5 ∧ 0 < q / 6 ∧ q / 6 < 4
        · obtain ⟨μ, m1, m2, m3, m4⟩ := s_177k (d := d + 7) gσ kσ ok h
          have F2 := fm_t F m4
          obtain ⟨ν, n1, n2, n3, n4⟩ := s_171v (d := d + 2) (x := 90) (Or.inl rfl) m2 m3 (okC_mix ok h) (envM_X F2 E)
          obtain ⟨ξ, x1, x2, x3, x4⟩ := s_179t (d := d + 7) n3
          have F4 := fm_t (fm_t F2 n4) x2
          rw [if_pos h, if_pos h, bEq_f (by omega), m1, bK_t, n1, bK_t, s_228, bK_t, x1, bK_t]
          unfold weA
          by_cases h2 : bcA (bitsA L H (mixA q V) n) < p.2
          · rw [bLt_t h2, if_pos h2]
            exact ih (q + 1) ((q : Int), bcA (bitsA L H (mixA q V) n)) _ ξ (by omega) (Or.inr ⟨_, rfl⟩) x3 x4 F4
          · rw [bLt_f (by omega), if_neg h2]
            exact ih (q + 1) p _ ξ (by omega) (Or.inr ⟨_, rfl⟩) x3 x4 F4
        · rw [if_neg h, if_neg h, bEq_t (by rfl)]
          exact ih (q + 1) p u σ (by omega) hu gσ kσ F
    rw [s1, bK_t]
    exact q 30 0 (-2, 99) (2, 0) σ rfl (Or.inl rfl) s3 s4 s2
  · rw [if_neg h1, if_neg h1, bEq_t (by rfl)]; exact ⟨S, rfl, fm_r, g⟩
/-! stuffings -/
def stV (V : cV) (q : Nat) : cV := stW V q 2 9 0
theorem okC_sv {q : Nat} (ok : okC V) (hq : q < 30) : okC (stV V q) := okC_st ok hq (by omega) (by omega) (by omega)
def st1 (L : List (List Int × List Int)) (H : Nat → Nat → Int) (n : Nat) (V : cV) : Nat → Nat → Int × Int → Int × Int
  | 0, _, p => p
  | m + 1, q, p => st1 L H n V m (q + 1) (weA p (q : Int) (bcA (bitsA L H (stV V q) n)))
def st2 (L : List (List Int × List Int)) (H : Nat → Nat → Int) (n : Nat) (V : cV) : Nat → Nat → Int × Int → Int × Int
  | 0, _, p => p
  | m + 1, c, p => st2 L H n V m (c + 1) (if c / 30 < c % 30 then weA p (c : Int) (bcA (bitsA L H (stV (stV V (c % 30)) (c / 30)) n)) else p)
theorem st2_s {m : Nat} {p : Int × Int} : ∀ (j c : Nat), (∀ i, i < j → ¬ (c + i) / 30 < (c + i) % 30) → st2 L H n V (m + j) c p = st2 L H n V m (c + j) p := by
  intro j
  induction j with
  | zero => intro c _; rfl
  | succ j ih =>
    intro c h
    show st2 L H n V (m + j) (c + 1) (if c / 30 < c % 30 then weA p (c : Int) (bcA (bitsA L H (stV (stV V (c % 30)) (c / 30)) n)) else p) = _
    rw [if_neg (by simpa using h 0 (by omega)), ih (c + 1) (fun i hi => by have := h (i + 1) (by omega); rw [show c + 1 + i = c + (i + 1) by omega]; exact this), show c + 1 + j = c + (j + 1) by omega]
def stfA (L : List (List Int × List Int)) (H : Nat → Nat → Int) (n : Nat) (V : cV) (k : Int) (p : Int × Int) : Int × Int := if k = 0 then weA p (-9) (bcA (bitsA L H V n)) else if k = 1 then st1 L H n V 30 0 p else st2 L H n V 900 0 p
theorem stf_0 {k : Int} {p p' : Int × Int} (hn : n ≤ 8) (h : 9 ≤ p.2) (h' : 9 ≤ p'.2) : stfA L H n V k p = stfA L H n V k p' := by
  have we : ∀ (W : cV) (a : Int) (p : Int × Int), 9 ≤ p.2 → weA p a (bcA (bitsA L H W n)) = (a, bcA (bitsA L H W n)) := fun W a p h => by
    have b := bits_c (L := L) (H := H) (V := W) hn
    unfold weA
    rw [if_pos (by omega)]
  unfold stfA
  split
  · rw [we V _ p h, we V _ p' h']
  · split
    · show st1 L H n V 29 1 (weA p ((0 : Nat) : Int) (bcA (bitsA L H (stV V 0) n))) = st1 L H n V 29 1 (weA p' ((0 : Nat) : Int) (bcA (bitsA L H (stV V 0) n)))
      rw [we _ _ p h, we _ _ p' h']
    · have k1 : ∀ m c p, ¬ c / 30 < c % 30 → st2 L H n V (m + 1) c p = st2 L H n V m (c + 1) p := fun m c p h => congrArg (st2 L H n V m (c + 1)) (if_neg h)
      have k2 : ∀ m c p, c / 30 < c % 30 → st2 L H n V (m + 1) c p = st2 L H n V m (c + 1) (weA p (c : Int) (bcA (bitsA L H (stV (stV V (c % 30)) (c / 30)) n))) := fun m c p h => congrArg (st2 L H n V m (c + 1)) (if_pos h)
      have k : ∀ p : Int × Int, 9 ≤ p.2 → st2 L H n V 900 0 p = st2 L H n V 898 2 (((1 : Nat) : Int), bcA (bitsA L H (stV (stV V 1) 0) n)) := by
        intro p h
        have e1 := k1 899 0 p (by omega)
        have e2 := k2 898 1 p (by omega)
        rw [show 1 % 30 = 1 from rfl, show 1 / 30 = 0 from rfl] at e2
        rw [we _ _ p h] at e2
        exact e1.trans e2
      rw [k p h, k p' h']
theorem s_9t {q : Nat} {W : cV} (g : gC 27 S = W) (ok : okC W) (hq : q < 30) : ∃ μ, mcall (d + 1) 9 [(21, 27), (0, (q : Int)), (0, 2), (0, 9), (0, 0)] S = some (0, μ) ∧ gC 27 μ = stV W q ∧ fr CA S μ := by
  obtain ⟨μ, m1, m2, m3, -⟩ := s_9 (d := d) (c := 27) g (okC_sv ok hq) hq
  exact ⟨μ, m1, m2, m3⟩
/-- one pair of the class -/
theorem s_73p {a b : Nat} {ans : Int} {σ : mM} (ha : a < 30) (hb : b < 30) (g : gC 2 S = V) (ok : okC V) (E : envC S L H n s) (F : fr CT S σ) : ∃ μ ν ξ ζ, mcall (d + 7) 6 [(21, 27), (21, 2)] σ = some (0, μ) ∧ mcall (d + 7) 9 [(21, 27), (0, (a : Int)), (0, 2), (0, 9), (0, 0)] μ = some (0, ν) ∧ mcall (d + 7) 9 [(21, 27), (0, (b : Int)), (0, 2), (0, 9), (0, 0)] ν = some (0, ξ) ∧ mcall (d + 7) 74 [(27, 26), (0, ans)] ξ = some (0, ζ) ∧ fr CT S ζ ∧ (ζ 26 3, ζ 26 4) = weA (σ 26 3, σ 26 4) ans (bcA (bitsA L H (stV (stV V a) b) n)) := by
  obtain ⟨μ, m1, m2, m3⟩ := s_6t (d := d + 6) ((gC_T F).trans g)
  obtain ⟨ν, n1, n2, n3⟩ := s_9t (d := d + 6) m2 ok ha
  obtain ⟨ξ, x1, x2, x3⟩ := s_9t (d := d + 6) n2 (okC_sv ok ha) hb
  have F2 := fr_t F (fr_t (fCA m3) (fr_t (fCA n3) (fCA x3)))
  obtain ⟨ζ, z1, z2, z3⟩ := s_74 (d := d + 1) (ans := ans) x2 (okC_sv (okC_sv ok ha) hb) (envC_T F2 E)
  refine ⟨μ, ν, ξ, ζ, m1, n1, x1, z1, fr_t F2 z2, ?_⟩
  rw [z3, fr_e x3 (by decide), fr_e x3 (by decide), fr_e n3 (by decide), fr_e n3 (by decide), fr_e m3 (by decide), fr_e m3 (by decide)]
theorem g_73 {K : mK} {mx : Int × Int} {v1 v2 : Int} {σ : mM} {u1 u2 u3 : mV} (hu : (u1 = (2, 0) ∧ u2 = (2, 0) ∧ u3 = (2, 0)) ∨ ∃ x y z, u1 = (0, x) ∧ u2 = (0, y) ∧ u3 = (0, z)) : mgo K mx 73 33 [(27, 26), (0, v1), (0, v2), u1, u2, u3] [] σ =
    bLt v2 30 (bEq v1 1 (bEq v1 1 (mgo K mx 73 68 [(27, 26), (0, v1), (0, v2), (0, v2), (0, v2), (0, v2)] [] σ) (mgo K mx 73 68 [(27, 26), (0, v1), (0, v2), (0, v2), (0, 29), (0, v2)] [] σ)) (bEq v1 1 (mgo K mx 73 68 [(27, 26), (0, v1), (0, v2), (0, w32 (v2 + 1)), (0, v2), (0, w32 (v2 + 1))] [] σ) (mgo K mx 73 68 [(27, 26), (0, v1), (0, v2), (0, w32 (v2 + 1)), (0, 29), (0, w32 (v2 + 1))] [] σ))) (some (0, σ)) := by
  rcases hu with ⟨rfl, rfl, rfl⟩ | ⟨x, y, z, rfl, rfl, rfl⟩
  · exact b_73_33a _ _ _ _ _
  · exact b_73_33 _ _ _ _ _ _ _ _
theorem s_73 {k : Int} (hk : 0 ≤ k ∧ k ≤ 2) (g : gC 2 S = V) (ok : okC V) (E : envC S L H n s) : ∃ μ, mcall (d + 8) 73 [(27, 26), (0, k)] S = some (0, μ) ∧ fr CT S μ ∧ (μ 26 3, μ 26 4) = stfA L H n V k (S 26 3, 9) := by
  have F0 : fr CT S (mset S 26 4 9) := fr_s fr_r (by decide)
  have p0 : ((mset S 26 4 9) 26 3, (mset S 26 4 9) 26 4) = (S 26 3, 9) := by rw [ms_e, ms_n (by omega)]
  rw [e_73]
  unfold stfA
  rcases (by omega : k = 0 ∨ k = 1 ∨ k = 2) with rfl | rfl | rfl
  · obtain ⟨μ, m1, m2, m3⟩ := s_6t (d := d + 6) ((gC_T F0).trans g)
    have F2 := fr_t F0 (fCA m3)
    obtain ⟨ζ, z1, z2, z3⟩ := s_74 (d := d + 1) (ans := -9) m2 ok (envC_T F2 E)
    rw [bEq_t (by rfl), m1, bK_t, z1, bK_t, if_pos rfl]
    refine ⟨ζ, rfl, fr_t F2 z2, ?_⟩
    rw [z3, fr_e m3 (by decide), fr_e m3 (by decide), p0]
  · rw [bEq_f (by omega), if_neg (by omega), if_pos rfl]
    have q : ∀ (m q : Nat) (u1 u2 u3 : mV) (σ : mM), q + m = 30 → ((u1 = (2, 0) ∧ u2 = (2, 0) ∧ u3 = (2, 0)) ∨ ∃ x y z, u1 = (0, x) ∧ u2 = (0, y) ∧ u3 = (0, z)) → fr CT S σ → ∃ μ, mgo (mcall (d + 7)) (mX 73 S) 73 33 [(27, 26), (0, 1), (0, (q : Int)), u1, u2, u3] [] σ = some (0, μ) ∧ fr CT S μ ∧ (μ 26 3, μ 26 4) = st1 L H n V m q (σ 26 3, σ 26 4) := by
      intro m
      induction m with
      | zero =>
        intro q u1 u2 u3 σ hq hu F
        refine ⟨σ, ?_, F, rfl⟩
        rw [g_73 hu, bLt_f (by omega)]
      | succ m ih =>
        intro q u1 u2 u3 σ hq hu F
        obtain ⟨μ, ν, ξ, ζ, a1, a2, a3, a4, a5, a6⟩ := s_73p (d := d) (a := q) (b := q) (ans := (q : Int)) (by omega) (by omega) g ok E F
        obtain ⟨ω, o1, o2, o3⟩ := ih (q + 1) (0, (q : Int)) (0, (q : Int)) (0, ((q + 1 : Nat) : Int)) ζ (by omega) (Or.inr ⟨_, _, _, rfl, rfl, rfl⟩) a5
        refine ⟨ω, ?_, o2, ?_⟩
        · rw [g_73 hu, bLt_t (by omega), bEq_t (by rfl), bEq_t (by rfl), b_73_68, bLt_f (by omega), a1, bK_t, a2, bK_t, a3, bK_t, bEq_t (by rfl), a4, bK_t, w32_n (by omega), b_73_68, bLt_t (by omega), w32_n (by omega)]
          exact o1
        · rw [o3, a6, show stV (stV V q) q = stV V q from stW_e]
          rfl
    obtain ⟨μ, m1, m2, m3⟩ := q 30 0 (2, 0) (2, 0) (2, 0) _ rfl (Or.inl ⟨rfl, rfl, rfl⟩) F0
    exact ⟨μ, m1, m2, m3.trans (by rw [p0])⟩
  · rw [bEq_f (by omega), if_neg (by omega), if_neg (by omega)]
    have qi : ∀ (m l b : Nat) (σ : mM), b + m = 30 → l < b → fr CT S σ → ∃ μ, mgo (mcall (d + 7)) (mX 73 S) 73 68 [(27, 26), (0, 2), (0, (l : Int)), (0, ((l + 1 : Nat) : Int)), (0, 29), (0, (b : Int))] [] σ = mgo (mcall (d + 7)) (mX 73 S) 73 33 [(27, 26), (0, 2), (0, ((l + 1 : Nat) : Int)), (0, ((l + 1 : Nat) : Int)), (0, 29), (0, 30)] [] μ ∧ fr CT S μ ∧ ∀ r, st2 L H n V r (30 * (l + 1)) (μ 26 3, μ 26 4) = st2 L H n V (r + m) (30 * l + b) (σ 26 3, σ 26 4) := by
      intro m
      induction m with
      | zero =>
        intro l b σ hb hl F
        refine ⟨σ, ?_, F, fun r => by rw [show 30 * l + b = 30 * (l + 1) by omega]; rfl⟩
        rw [b_73_68, bLt_t (by omega), w32_n (by omega), show b = 30 by omega]
        rfl
      | succ m ih =>
        intro l b σ hb hl F
        obtain ⟨μ, ν, ξ, ζ, a1, a2, a3, a4, a5, a6⟩ := s_73p (d := d) (a := l) (b := b) (ans := ((30 * l + b : Nat) : Int)) (by omega) (by omega) g ok E F
        obtain ⟨ω, o1, o2, o3⟩ := ih l (b + 1) ζ (by omega) (by omega) a5
        refine ⟨ω, ?_, o2, fun r => ?_⟩
        · rw [b_73_68, bLt_f (by omega), a1, bK_t, a2, bK_t, a3, bK_t, bEq_f (by omega), show w32 ((w32 (30 * (l : Int))) + (b : Int)) = ((30 * l + b : Nat) : Int) by rw [w32_e (x := 30 * (l : Int)) (by omega), w32_e (by omega)]; omega, a4, bK_t, w32_n (by omega)]
          exact o1
        · rw [o3 r, a6]
          show _ = st2 L H n V (r + m) (30 * l + b + 1) (if (30 * l + b) / 30 < (30 * l + b) % 30 then weA (σ 26 3, σ 26 4) ((30 * l + b : Nat) : Int) (bcA (bitsA L H (stV (stV V ((30 * l + b) % 30)) ((30 * l + b) / 30)) n)) else (σ 26 3, σ 26 4))
          rw [if_pos (by omega), show (30 * l + b) % 30 = b by omega, show (30 * l + b) / 30 = l by omega, show stV (stV V b) l = stV (stV V l) b from stW_c (by omega)]
          rfl
    have q : ∀ (m l : Nat) (u1 u2 u3 : mV) (σ : mM), l + m = 30 → ((u1 = (2, 0) ∧ u2 = (2, 0) ∧ u3 = (2, 0)) ∨ ∃ x y z, u1 = (0, x) ∧ u2 = (0, y) ∧ u3 = (0, z)) → fr CT S σ → ∃ μ, mgo (mcall (d + 7)) (mX 73 S) 73 33 [(27, 26), (0, 2), (0, (l : Int)), u1, u2, u3] [] σ = some (0, μ) ∧ fr CT S μ ∧ (μ 26 3, μ 26 4) = st2 L H n V (30 * m) (30 * l) (σ 26 3, σ 26 4) := by
      intro m
      induction m with
      | zero =>
        intro l u1 u2 u3 σ hq hu F
        refine ⟨σ, ?_, F, rfl⟩
        rw [g_73 hu, bLt_f (by omega)]
      | succ m ih =>
        intro l u1 u2 u3 σ hq hu F
        obtain ⟨ν, n1, n2, n3⟩ := qi (29 - l) l (l + 1) σ (by omega) (by omega) F
        obtain ⟨ω, o1, o2, o3⟩ := ih (l + 1) (0, ((l + 1 : Nat) : Int)) (0, 29) (0, 30) ν (by omega) (Or.inr ⟨_, _, _, rfl, rfl, rfl⟩) n2
        refine ⟨ω, ?_, o2, ?_⟩
        · rw [g_73 hu, bLt_t (by omega), bEq_f (by omega), bEq_f (by omega), w32_n (by omega)]
          exact n1.trans o1
        · rw [o3, n3, show 30 * (m + 1) = (30 * m + (29 - l)) + (l + 1) by omega, st2_s (l + 1) (30 * l) (fun i hi => by omega)]
    obtain ⟨μ, m1, m2, m3⟩ := q 30 0 (2, 0) (2, 0) (2, 0) _ rfl (Or.inl ⟨rfl, rfl, rfl⟩) F0
    exact ⟨μ, m1, m2, m3.trans (by rw [p0])⟩
def stuffsA (L : List (List Int × List Int)) (H : Nat → Nat → Int) (n : Nat) (V : cV) (k x : Int) : Int := if 0 ≤ k ∧ k ≤ 2 then (if 0 ≤ x ∧ x ≤ 1 then (if x = 0 then (stfA L H n V k (-9, 99)).2 else (stfA L H n V k (-9, 99)).1) else -1) else -1
theorem s_100 {k x : Int} (g : gC 2 S = V) (ok : okC V) (E : envC S L H n s) : ∃ μ, mcall (d + 9) 100 [(29, 0), (0, k), (0, x)] S = some (stuffsA L H n V k x, μ) ∧ fr CT S μ := by
  rw [e_100, s_126, bK_t]
  unfold stuffsA
  by_cases h0 : 0 ≤ k ∧ k ≤ 2
  · rw [if_pos h0, if_pos h0, bEq_f (by omega), s_126, bK_t]
    by_cases h1 : 0 ≤ x ∧ x ≤ 1
    · obtain ⟨μ, m1, m2, m3⟩ := s_73 (d := d) h0 g ok E
      rw [stf_0 E.2.2.1 (p' := (-9, 99)) (by show (9 : Int) ≤ 9; omega) (by show (9 : Int) ≤ 99; omega)] at m3
      rw [if_pos h1, if_pos h1, bEq_f (by omega), m1, bK_t, ← m3]
      by_cases h2 : x = 0
      · rw [bEq_t h2, if_pos h2]; exact ⟨μ, rfl, m2⟩
      · rw [bEq_f h2, if_neg h2]; exact ⟨μ, rfl, m2⟩
    · rw [if_neg h1, if_neg h1, bEq_t (by rfl)]; exact ⟨S, rfl, fr_r⟩
  · rw [if_neg h0, if_neg h0, bEq_t (by rfl)]; exact ⟨S, rfl, fr_r⟩
/-! the model's stuffings -/
section
variable {K : mK} {mx : Int × Int} {v1 v2 v3 v4 v5 z0 z1 : Int} {σ : mM} {u : mV}
theorem g_190_38 (hu : uvl u) : mgo K mx 190 38 [(30, 64), (0, v1), (0, v2), (0, v3), (0, v4), (0, v5), u] [] σ = bEq v1 0 (mgo K mx 190 61 [(30, 64), (0, v1), (0, v2), (0, v3), (0, v4), (0, v5), u] [(0, 1), (0, v5)] σ) (bEq v1 1 (mgo K mx 190 61 [(30, 64), (0, v1), (0, v2), (0, v3), (0, v4), (0, v5), u] [(0, 30), (0, v5)] σ) (mgo K mx 190 61 [(30, 64), (0, v1), (0, v2), (0, v3), (0, v4), (0, v5), u] [(0, 900), (0, v5)] σ)) := by
  rcases hu with rfl | ⟨x, rfl⟩
  · exact f_190_38a _ _ _ _ _ _ _ _
  · exact f_190_38 _ _ _ _ _ _ _ _ _
theorem g_190_61 (hu : uvl u) : mgo K mx 190 61 [(30, 64), (0, v1), (0, v2), (0, v3), (0, v4), (0, v5), u] [(0, z0), (0, z1)] σ = bLt z1 z0 (bEq v1 2 (bEq 30 0 none (bEq 30 0 none (bLt (w32 (Int.tdiv v5 30)) (Int.tmod v5 30) (mgo K mx 190 85 [(30, 64), (0, v1), (0, v2), (0, v3), (0, v4), (0, v5), u] [] σ) (mgo K mx 190 161 [(30, 64), (0, v1), (0, v2), (0, v3), (0, v4), (0, v5), u] [] σ)))) (mgo K mx 190 85 [(30, 64), (0, v1), (0, v2), (0, v3), (0, v4), (0, v5), u] [] σ)) (bEq v2 0 (some (v4, σ)) (some (v3, σ))) := by
  rcases hu with rfl | ⟨x, rfl⟩
  · rw [f_190_61a, f_190_177a, f_190_177a]
  · rw [f_190_61, f_190_177, f_190_177]
theorem g_190_161 (hu : uvl u) : mgo K mx 190 161 [(30, 64), (0, v1), (0, v2), (0, v3), (0, v4), (0, v5), u] [] σ = mgo K mx 190 38 [(30, 64), (0, v1), (0, v2), (0, v3), (0, v4), (0, w32 (v5 + 1)), u] [] σ := by
  rcases hu with rfl | ⟨x, rfl⟩
  · exact f_190_161a _ _ _ _ _ _ _ _
  · exact f_190_161 _ _ _ _ _ _ _ _ _
theorem g_190_85 (hu : uvl u) : mgo K mx 190 85 [(30, 64), (0, v1), (0, v2), (0, v3), (0, v4), (0, v5), u] [] σ = bLt 0 v1 (bEq 30 0 none (bK (K 189 [(30, 64), (0, Int.tmod v5 30), (0, 2), (0, 9)] σ) (fun _ s2 => mgo K mx 190 101 [(30, 64), (0, v1), (0, v2), (0, v3), (0, v4), (0, v5), u] [] s2))) (mgo K mx 190 101 [(30, 64), (0, v1), (0, v2), (0, v3), (0, v4), (0, v5), u] [] σ) := by
  rcases hu with rfl | ⟨x, rfl⟩
  · exact f_190_85a _ _ _ _ _ _ _ _
  · exact f_190_85 _ _ _ _ _ _ _ _ _
theorem g_190_101 (hu : uvl u) : mgo K mx 190 101 [(30, 64), (0, v1), (0, v2), (0, v3), (0, v4), (0, v5), u] [] σ = bEq v1 2 (bEq 30 0 none (bK (K 189 [(30, 64), (0, w32 (Int.tdiv v5 30)), (0, 2), (0, 9)] σ) (fun _ s2 => mgo K mx 190 118 [(30, 64), (0, v1), (0, v2), (0, v3), (0, v4), (0, v5), u] [] s2))) (mgo K mx 190 118 [(30, 64), (0, v1), (0, v2), (0, v3), (0, v4), (0, v5), u] [] σ) := by
  rcases hu with rfl | ⟨x, rfl⟩
  · exact f_190_101a _ _ _ _ _ _ _ _
  · exact f_190_101 _ _ _ _ _ _ _ _ _
theorem g_190_118 (hu : uvl u) : mgo K mx 190 118 [(30, 64), (0, v1), (0, v2), (0, v3), (0, v4), (0, v5), u] [] σ = bK (K 171 [(30, 64)] σ) (fun r1 s2 => bK (K 228 [(0, r1)] s2) (fun r3 s4 => bK (K 179 [(30, 64), (1092, 90)] s4) (fun _ s6 => bLt r3 v4 (bEq v1 0 (mgo K mx 190 38 [(30, 64), (0, v1), (0, v2), (0, -9), (0, r3), (0, w32 (v5 + 1)), (0, r3)] [] s6) (mgo K mx 190 38 [(30, 64), (0, v1), (0, v2), (0, v5), (0, r3), (0, w32 (v5 + 1)), (0, r3)] [] s6)) (mgo K mx 190 38 [(30, 64), (0, v1), (0, v2), (0, v3), (0, v4), (0, w32 (v5 + 1)), (0, r3)] [] s6)))) := by
  rcases hu with rfl | ⟨x, rfl⟩
  · rw [f_190_118a]; simp only [f_190_160, f_190_161]
  · rw [f_190_118]; simp only [f_190_160, f_190_161]
end
/-- the rest behind a stuffing: who is cold, again -/
theorem s_190w {c k x : Int} {p : Int × Int} {W : cV} {u : mV} {σ : mM} {mx : Int × Int} (hu : uvl u) (gσ : gM σ = W) (kσ : gK 90 σ = V) (ok : okC W) (E : envM σ L H n s) : ∃ μ, gM μ = V ∧ gK 90 μ = V ∧ fm MT σ μ ∧ ∃ r, mgo (mcall (d + 8)) mx 190 118 [(30, 64), (0, k), (0, x), (0, p.1), (0, p.2), (0, c), u] [] σ = mgo (mcall (d + 8)) mx 190 38 [(30, 64), (0, k), (0, x), (0, (weA p (if k = 0 then -9 else c) (bcA (bitsA L H W n))).1), (0, (weA p (if k = 0 then -9 else c) (bcA (bitsA L H W n))).2), (0, w32 (c + 1)), (0, r)] [] μ := by
  obtain ⟨ν, n1, n2, n3, n4⟩ := s_171v (d := d + 2) (x := 90) (Or.inl rfl) gσ kσ ok E
  obtain ⟨ξ, x1, x2, x3, x4⟩ := s_179t (d := d + 7) n3
  refine ⟨ξ, x3, x4, fm_t n4 x2, bcA (bitsA L H W n), ?_⟩
  rw [g_190_118 hu, n1, bK_t, s_228, bK_t, x1, bK_t]
  unfold weA
  by_cases h2 : bcA (bitsA L H W n) < p.2
  · rw [bLt_t h2, if_pos h2]
    by_cases hk : k = 0
    · rw [bEq_t hk, if_pos hk]
    · rw [bEq_f hk, if_neg hk]
  · rw [bLt_f (by omega), if_neg h2]
theorem s_190 {k x : Int} (g : gM S = V) (ok : okC V) (E : envM S L H n s) : ∃ μ, mcall (d + 9) 190 [(30, 64), (0, k), (0, x)] S = some (stuffsA L H n V k x, μ) ∧ fm MT S μ ∧ gM μ = V := by
  rw [f_190, s_133, bK_t]
  unfold stuffsA
  by_cases h0 : 0 ≤ k ∧ k ≤ 2
  · rw [if_pos h0, if_pos h0, bEq_f (by omega), s_133, bK_t]
    by_cases h1 : 0 ≤ x ∧ x ≤ 1
    · rw [if_pos h1, if_pos h1, bEq_f (by omega)]
      obtain ⟨σ, s1, s2, s3, s4⟩ := s_178t (d := d + 7) g
      rw [s1, bK_t]
      have out : ∀ (z0 c : Int) (p : Int × Int) (u : mV) (σ : mM), uvl u → ¬ c < z0 → gM σ = V → fm MT S σ → ∃ μ, mgo (mcall (d + 8)) (mX 190 S) 190 61 [(30, 64), (0, k), (0, x), (0, p.1), (0, p.2), (0, c), u] [(0, z0), (0, c)] σ = some (if x = 0 then p.2 else p.1, μ) ∧ fm MT S μ ∧ gM μ = V := by
        intro z0 c p u σ hu hc gσ F
        refine ⟨σ, ?_, F, gσ⟩
        rw [g_190_61 hu, bLt_f (by omega)]
        by_cases h2 : x = 0
        · rw [bEq_t h2, if_pos h2]
        · rw [bEq_f h2, if_neg h2]
      unfold stfA
      rcases (by omega : k = 0 ∨ k = 1 ∨ k = 2) with rfl | rfl | rfl
      · rw [if_pos (show (0 : Int) = 0 from rfl), g_190_38 (Or.inl rfl), bEq_t (by rfl), g_190_61 (Or.inl rfl), bLt_t (by omega), bEq_f (by omega), g_190_85 (Or.inl rfl), bLt_f (by omega), g_190_101 (Or.inl rfl), bEq_f (by omega)]
        obtain ⟨μ, m1, m2, m3, r, m4⟩ := s_190w (d := d) (c := 0) (k := 0) (x := x) (p := (-9, 99)) (mx := mX 190 S) (Or.inl rfl) s3 s4 ok (envM_X s2 E)
        obtain ⟨ν, n1, n2, n3⟩ := out 1 (w32 (0 + 1)) (weA (-9, 99) (-9) (bcA (bitsA L H V n))) (0, r) μ (Or.inr ⟨_, rfl⟩) (by decide) m1 (fm_t s2 m3)
        rw [m4, g_190_38 (Or.inr ⟨_, rfl⟩), bEq_t (by rfl), if_pos rfl]
        exact ⟨ν, n1, n2, n3⟩
      · rw [if_neg (show ¬ (1 : Int) = 0 by omega), if_pos (show (1 : Int) = 1 from rfl)]
        have q : ∀ (m q : Nat) (p : Int × Int) (u : mV) (σ : mM), q + m = 30 → uvl u → gM σ = V → gK 90 σ = V → fm MT S σ → ∃ μ, mgo (mcall (d + 8)) (mX 190 S) 190 38 [(30, 64), (0, 1), (0, x), (0, p.1), (0, p.2), (0, (q : Int)), u] [] σ = some (if x = 0 then (st1 L H n V m q p).2 else (st1 L H n V m q p).1, μ) ∧ fm MT S μ ∧ gM μ = V := by
          intro m
          induction m with
          | zero =>
            intro q p u σ hq hu gσ kσ F
            rw [g_190_38 hu, bEq_f (by omega), bEq_t (by rfl)]
            exact out 30 (q : Int) p u σ hu (by omega) gσ F
          | succ m ih =>
            intro q p u σ hq hu gσ kσ F
            have t2 : Unit → Int.tmod (q : Int) 30 = (q : Int) := fun _ => by rw [show Int.tmod (q : Int) 30 = ((q % 30 : Nat) : Int) from rfl, Nat.mod_eq_of_lt (by omega)]
            obtain ⟨α, a1, a2, a3⟩ := s_189 (d := d + 7) (x := 2) (y := 9) gσ (okC_sv ok (show q < 30 by omega)) (by omega)
            have F2 := fm_t F (fm_m a3 (by simp) : fm MT σ α)
            obtain ⟨μ, m1, m2, m3, r, m4⟩ := s_190w (d := d) (c := (q : Int)) (k := 1) (x := x) (p := p) (mx := mX 190 S) (W := stV V q) hu a2 ((gK_f a3 (by simp) (by omega)).trans kσ) (okC_sv ok (by omega)) (envM_X F2 E)
            rw [g_190_38 hu, bEq_f (by omega), bEq_t (by rfl), g_190_61 hu, bLt_t (by omega), bEq_f (by omega), g_190_85 hu, bLt_t (by omega), bEq_f (by omega), t2 (), a1, bK_t, g_190_101 hu, bEq_f (by omega), m4, w32_n (by omega), if_neg (show ¬ (1 : Int) = 0 by omega)]
            exact ih (q + 1) _ (0, r) μ (by omega) (Or.inr ⟨_, rfl⟩) m1 m2 (fm_t F2 m3)
        obtain ⟨μ, m1, m2, m3⟩ := q 30 0 (-9, 99) (2, 0) σ (by omega) (Or.inl rfl) s3 s4 s2
        exact ⟨μ, m1, m2, m3⟩
      · rw [if_neg (show ¬ (2 : Int) = 0 by omega), if_neg (show ¬ (2 : Int) = 1 by omega)]
        have q : ∀ (m c : Nat) (p : Int × Int) (u : mV) (σ : mM), c + m = 900 → uvl u → gM σ = V → gK 90 σ = V → fm MT S σ → ∃ μ, mgo (mcall (d + 8)) (mX 190 S) 190 38 [(30, 64), (0, 2), (0, x), (0, p.1), (0, p.2), (0, (c : Int)), u] [] σ = some (if x = 0 then (st2 L H n V m c p).2 else (st2 L H n V m c p).1, μ) ∧ fm MT S μ ∧ gM μ = V := by
          intro m
          induction m with
          | zero =>
            intro c p u σ hq hu gσ kσ F
            rw [g_190_38 hu, bEq_f (by omega), bEq_f (by omega)]
            exact out 900 (c : Int) p u σ hu (by omega) gσ F
          | succ m ih =>
            intro c p u σ hq hu gσ kσ F
            have t1 : Unit → w32 (Int.tdiv (c : Int) 30) = ((c / 30 : Nat) : Int) := fun _ => by rw [show Int.tdiv (c : Int) 30 = ((c / 30 : Nat) : Int) from rfl, w32_e (by omega)]
            have t2 : Unit → Int.tmod (c : Int) 30 = ((c % 30 : Nat) : Int) := fun _ => rfl
            rw [g_190_38 hu, bEq_f (by omega), bEq_f (by omega), g_190_61 hu, bLt_t (by omega), bEq_t (by rfl), bEq_f (by omega), bEq_f (by omega), t1 (), t2 ()]
            rw [show st2 L H n V (m + 1) c p = st2 L H n V m (c + 1) (if c / 30 < c % 30 then weA p (c : Int) (bcA (bitsA L H (stV (stV V (c % 30)) (c / 30)) n)) else p) from rfl]
            by_cases hl : c / 30 < c % 30
            · have ok1 := okC_sv ok (show c % 30 < 30 by omega)
              have ok2 := okC_sv ok1 (show c / 30 < 30 by omega)
              obtain ⟨α, a1, a2, a3⟩ := s_189 (d := d + 7) (x := 2) (y := 9) gσ ok1 (by omega)
              obtain ⟨β, b1, b2, b3⟩ := s_189 (d := d + 7) (x := 2) (y := 9) a2 ok2 (by omega)
              have F2 := fm_t F (fm_m (fm_t a3 b3) (by simp) : fm MT σ β)
              obtain ⟨μ, m1, m2, m3, r, m4⟩ := s_190w (d := d) (c := (c : Int)) (k := 2) (x := x) (p := p) (mx := mX 190 S) (W := stV (stV V (c % 30)) (c / 30)) hu b2 ((gK_f (fm_t a3 b3) (by simp) (by omega)).trans kσ) ok2 (envM_X F2 E)
              rw [bLt_t (by omega), if_pos hl, g_190_85 hu, bLt_t (by omega), bEq_f (by omega), t2 (), a1, bK_t, g_190_101 hu, bEq_t (by rfl), bEq_f (by omega), t1 (), b1, bK_t, m4, w32_n (by omega), if_neg (show ¬ (2 : Int) = 0 by omega)]
              exact ih (c + 1) _ (0, r) μ (by omega) (Or.inr ⟨_, rfl⟩) m1 m2 (fm_t F2 m3)
            · rw [bLt_f (by omega), if_neg hl, g_190_161 hu, w32_n (by omega)]
              exact ih (c + 1) p u σ (by omega) hu gσ kσ F
        obtain ⟨μ, m1, m2, m3⟩ := q 900 0 (-9, 99) (2, 0) σ (by omega) (Or.inl rfl) s3 s4 s2
        exact ⟨μ, m1, m2, m3⟩
    · rw [if_neg h1, if_neg h1, bEq_t (by rfl), f_190_18]; exact ⟨S, rfl, fm_r, g⟩
  · rw [if_neg h0, if_neg h0, bEq_t (by rfl), f_190_18]; exact ⟨S, rfl, fm_r, g⟩
end
