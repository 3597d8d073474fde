/-! PURE PART 16: first, often; what is felt -/
theorem cmp_t {a b : Int} (h : a = b) : (if a < b then (-1 : Int) else if a = b then 0 else 1) = 0 := by rw [if_neg (by omega), if_pos h]
theorem cmp_f {a b : Int} (h : a ≠ b) : (if a < b then (-1 : Int) else if a = b then 0 else 1) ≠ 0 := by rw [if_neg h]; split <;> omega
section
variable {d n : Nat} {S : mM} {V : cV} {L : List (List Int × List Int)} {H : Nat → Nat → Int} {s : Int}
theorem s_43t {h : Nat} {W : cV} (g : gC 27 S = W) (ok : okC W) (hh : h < n) (E : envC S L H n s) : ∃ μ, mcall (d + 4) 43 [(24, 1), (21, 27), (0, (h : Int))] S = some (cdA L H W h, μ) ∧ gC 27 μ = W ∧ fr CT S μ := by
  obtain ⟨μ, m1, m2⟩ := s_43 (d := d) (c := 27) (Or.inr rfl) g ok hh E
  exact ⟨μ, m1, (gC_S (Or.inr rfl) m2).trans g, fCS m2⟩
def fcA (L : List (List Int × List Int)) (H : Nat → Nat → Int) (s : Int) (h : Nat) : Nat → Nat → cV → Int
  | 0, _, _ => -2
  | m + 1, k, V => if cdA L H V h = 0 then fcA L H s h m (k + 1) (passA s V) else (k : Int)
theorem s_68 {h : Nat} (g : gC 2 S = V) (ok : okC V) (hl : V 3 1 ≤ 100000) (hh : h < n) (E : envC S L H n s) : ∃ μ, mcall (d + 5) 68 [(27, 26), (0, (h : Int))] S = some (fcA L H s h 49 0 V, μ) ∧ fr CT S μ := by
  obtain ⟨μ, m1, m2, m3⟩ := s_6t (d := d + 3) g
  have q : ∀ (m k : Nat) (W : cV) (σ : mM), k + m = 49 → gC 27 σ = W → okC W → W 3 1 + (m : Int) ≤ 1000000 → fr CT S σ → ∃ μ, mgo (mcall (d + 4)) (mX 68 S) 68 16 [(27, 26), (0, (h : Int)), (0, (k : Int))] [] σ = some (fcA L H s h m k W, μ) ∧ fr CT S μ := by
    intro m
    induction m with
    | zero =>
      intro k W σ hk _ _ _ F
      refine ⟨σ, ?_, F⟩
      rw [b_68_16, bLt_t (by omega)]
      rfl
    | succ m ih =>
      intro k W σ hk g o hw F
      obtain ⟨ν, n1, n2, n3⟩ := s_43t (d := d) g o hh (envC_T F E)
      have F2 := fr_t F n3
      rw [b_68_16, bLt_f (by omega), n1, bK_t, show fcA L H s h (m + 1) k W = if cdA L H W h = 0 then fcA L H s h m (k + 1) (passA s W) else (k : Int) from rfl]
      by_cases h0 : cdA L H W h = 0
      · obtain ⟨ξ, x1, x2, x3⟩ := s_14a (d := d + 2) (s := s) n2 o (by omega)
        rw [bEq_t h0, if_pos h0, (envC_T F2 E).2.2.2.2, x1, bK_t, w32_n (by omega)]
        exact ih (k + 1) _ ξ (by omega) x2 (okC_pass o (by omega)) (by rw [pass_31]; omega) (fr_t F2 (fCA x3))
      · rw [bEq_f h0, if_neg h0]
        exact ⟨ν, rfl, F2⟩
  obtain ⟨ν, n1, n2⟩ := q 49 0 V μ (by omega) m2 ok (by omega) (fCA m3)
  refine ⟨ν, ?_, n2⟩
  rw [e_68, m1, bK_t]
  exact n1
def firstA (L : List (List Int × List Int)) (H : Nat → Nat → Int) (n : Nat) (s : Int) (V : cV) (x : Int) : Int := if 0 ≤ x ∧ x < (n : Int) then fcA L H s x.toNat 49 0 V else -1
theorem s_96 {x : Int} (g : gC 2 S = V) (ok : okC V) (hl : V 3 1 ≤ 100000) (E : envC S L H n s) : ∃ μ, mcall (d + 6) 96 [(29, 0), (0, x)] S = some (firstA L H n s V x, μ) ∧ fr CT S μ := by
  rw [e_96, s_38 E.2.1, bK_t]
  unfold firstA
  by_cases h1 : 0 ≤ x ∧ x < (n : Int)
  · obtain ⟨h, hh⟩ : ∃ h : Nat, x = (h : Int) := ⟨x.toNat, by omega⟩
    subst hh
    obtain ⟨μ, m1, m2⟩ := s_68 (d := d) (h := h) g ok hl (by omega) E
    rw [if_pos h1, if_pos h1, bEq_f (by omega), m1, bK_t]
    exact ⟨μ, rfl, m2⟩
  · rw [if_neg h1, if_neg h1, bEq_t (by rfl)]; exact ⟨S, rfl, fr_r⟩
theorem s_178t (g : gM S = V) : ∃ μ, mcall (d + 1) 178 [(30, 64), (1092, 90)] S = some (0, μ) ∧ fm MT S μ ∧ gM μ = V ∧ gK 90 μ = V := by
  obtain ⟨σ, s1, s2, s3⟩ := s_178k (d := d) (x := 90) (by omega) g
  exact ⟨σ, s1, fm_m (fm_f s2) (by decide), (gM_f s2 (by decide)).trans g, s3⟩
theorem s_179t (g : gK 90 S = V) : ∃ μ, mcall (d + 1) 179 [(30, 64), (1092, 90)] S = some (0, μ) ∧ fm MT S μ ∧ gM μ = V ∧ gK 90 μ = V := by
  obtain ⟨σ, s1, s2, s3⟩ := s_179k (d := d) (x := 90) (by omega) g
  exact ⟨σ, s1, fm_m s3 (by simp), s2, (gK_f s3 (by simp) (by omega)).trans g⟩
theorem s_170t {h : Nat} {W : cV} (g : gM S = W) (k : gK 90 S = V) (ok : okC W) (hh : h < n) (E : envM S L H n s) : ∃ μ, mcall (d + 5) 170 [(30, 64), (0, (h : Int))] S = some (cdA L H W h, μ) ∧ gM μ = W ∧ gK 90 μ = V ∧ fm MT S μ := by
  obtain ⟨μ, m1, m2⟩ := s_170 (d := d) g ok hh E
  exact ⟨μ, m1, (gM_f m2 (by decide)).trans g, (gK_f (fm_f m2) (by simp) (by omega)).trans k, fm_m (fm_f m2) (by decide)⟩
theorem s_174t {W : cV} (g : gM S = W) (k : gK 90 S = V) (ok : okC W) (hl : W 3 1 < 1000000) (E : envM S L H n s) : ∃ μ, mcall (d + 3) 174 [(30, 64)] S = some (0, μ) ∧ gM μ = passA s W ∧ gK 90 μ = V ∧ fm MT S μ := by
  obtain ⟨μ, m1, m2, m3⟩ := s_174k (d := d) g ok hl E.2.2.2.2.2
  exact ⟨μ, m1, m2, (gK_f m3 (by simp) (by omega)).trans k, fm_m m3 (by simp)⟩
theorem envM_X {μ : mM} (F : fm MT S μ) (E : envM S L H n s) : envM μ L H n s := envM_T (fun _ h => h) F E
theorem s_184e {h k v : Nat} {mx : Int × Int} {σ : mM} (hk : gK 90 σ = V) (hv : v < 49) : ∃ μ, mgo (mcall (d + 5)) mx 184 23 [(30, 64), (0, (h : Int)), (0, (v : Int)), (0, (k : Int))] [] σ = some ((v : Int), μ) ∧ fm MT σ μ ∧ gM μ = V := by
  obtain ⟨ξ, x1, x2, x3, x4⟩ := s_179t (d := d + 4) hk
  refine ⟨ξ, ?_, x2, x3⟩
  rw [b_184_23]
  by_cases h1 : (k : Int) < 49
  · rw [bLt_t h1, bEq_f (by omega), x1, bK_t]
  · rw [bLt_f (by omega), x1, bK_t]
theorem s_184 {x : Int} (g : gM S = V) (ok : okC V) (hl : V 3 1 ≤ 100000) (E : envM S L H n s) : ∃ μ, mcall (d + 6) 184 [(30, 64), (0, x)] S = some (firstA L H n s V x, μ) ∧ fm MT S μ ∧ gM μ = V := by
  rw [e_184, s_135 E.2.2.1 E.2.2.2.1, bK_t]
  unfold firstA
  by_cases h1 : 0 ≤ x ∧ x < (n : Int)
  · obtain ⟨h, hh⟩ : ∃ h : Nat, x = (h : Int) := ⟨x.toNat, by omega⟩
    subst hh
    rw [if_pos h1, if_pos h1, bEq_f (by omega), tn_n]
    have hn : h < n := by omega
    obtain ⟨σ, s1, s2, s3, s4⟩ := s_178t (d := d + 4) g
    have q : ∀ (m k : Nat) (W : cV) (σ : mM), k + m = 49 → 0 < k → gM σ = W → gK 90 σ = V → okC W → W 3 1 + (m : Int) + 1 ≤ 1000000 → fm MT S σ → ∃ μ, mgo (mcall (d + 5)) (mX 184 S) 184 23 [(30, 64), (0, (h : Int)), (0, -2), (0, (k : Int))] [] σ = some (fcA L H s h m k (passA s W), μ) ∧ fm MT S μ ∧ gM μ = V := by
      intro m
      induction m with
      | zero =>
        intro k W σ hk h0 gσ kσ o hw F
        obtain ⟨ξ, x1, x2, x3, x4⟩ := s_179t (d := d + 4) kσ
        refine ⟨ξ, ?_, fm_t F x2, x3⟩
        rw [b_184_23, bLt_f (by omega), x1, bK_t]
        rfl
      | succ m ih =>
        intro k W σ hk h0 gσ kσ o hw F
        obtain ⟨ν, n1, n2, n3, n4⟩ := s_174t (d := d + 2) gσ kσ o (by omega) (envM_X F E)
        have F2 := fm_t F n4
        have o2 : okC (passA s W) := okC_pass o (by omega)
        obtain ⟨ξ, x1, x2, x3, x4⟩ := s_170t (d := d) n2 n3 o2 hn (envM_X F2 E)
        have F3 := fm_t F2 x4
        rw [b_184_23, bLt_t (by omega), bEq_t (by rfl), bLt_t (by omega), n1, bK_t, x1, bK_t, show fcA L H s h (m + 1) k (passA s W) = if cdA L H (passA s W) h = 0 then fcA L H s h m (k + 1) (passA s (passA s W)) else (k : Int) from rfl, w32_n (by omega)]
        by_cases h0 : cdA L H (passA s W) h = 0
        · rw [bEq_t h0, if_pos h0]
          exact ih (k + 1) (passA s W) ξ (by omega) (by omega) x2 x3 o2 (by rw [pass_31]; omega) F3
        · rw [bEq_f h0, if_neg h0]
          obtain ⟨ζ, z1, z2, z3⟩ := s_184e (d := d) (h := h) (k := k + 1) (v := k) (mx := mX 184 S) x3 (by omega)
          exact ⟨ζ, z1, fm_t F3 z2, z3⟩
    obtain ⟨ξ, x1, x2, x3, x4⟩ := s_170t (d := d) s3 s4 ok hn (envM_X s2 E)
    have F3 := fm_t s2 x4
    rw [s1, bK_t, b_184_23, bLt_t (by omega), bEq_t (by rfl), bLt_f (by omega), x1, bK_t, show fcA L H s h 49 0 V = if cdA L H V h = 0 then fcA L H s h 48 1 (passA s V) else ((0 : Nat) : Int) from rfl]
    by_cases h0 : cdA L H V h = 0
    · rw [bEq_t h0, if_pos h0]
      exact q 48 1 V ξ (by omega) (by omega) x2 x3 ok (by omega) F3
    · rw [bEq_f h0, if_neg h0]
      obtain ⟨ζ, z1, z2, z3⟩ := s_184e (d := d) (h := h) (k := 1) (v := 0) (mx := mX 184 S) x3 (by omega)
      exact ⟨ζ, z1, fm_t F3 z2, z3⟩
  · rw [if_neg h1, if_neg h1, bEq_t (by rfl)]; exact ⟨S, rfl, fm_r, g⟩
def otA (L : List (List Int × List Int)) (H : Nat → Nat → Int) (s : Int) (h : Nat) : Nat → Int → cV → Int
  | 0, a, _ => a
  | m + 1, a, V => otA L H s h m (if cdA L H V h = 0 then a else w32 (a + 1)) (passA s V)
theorem s_69 {h t : Nat} (g : gC 2 S = V) (ok : okC V) (hl : V 3 1 ≤ 100000) (hh : h < n) (ht : t ≤ 48) (E : envC S L H n s) : ∃ μ, mcall (d + 5) 69 [(27, 26), (0, (h : Int)), (0, (t : Int))] S = some (otA L H s h (t + 1) 0 V, μ) ∧ fr CT S μ := by
  obtain ⟨μ, m1, m2, m3⟩ := s_6t (d := d + 3) g
  have q : ∀ (m k : Nat) (a : Int) (W : cV) (σ : mM), k + m = t + 1 → gC 27 σ = W → okC W → W 3 1 + (m : Int) ≤ 1000000 → fr CT S σ → ∃ μ, mgo (mcall (d + 4)) (mX 69 S) 69 19 [(27, 26), (0, (h : Int)), (0, (t : Int)), (0, a), (0, (k : Int))] [] σ = some (otA L H s h m a W, μ) ∧ fr CT S μ := by
    intro m
    induction m with
    | zero =>
      intro k a W σ hk _ _ _ F
      refine ⟨σ, ?_, F⟩
      rw [b_69_19, bLt_t (by omega)]
      rfl
    | succ m ih =>
      intro k a W σ hk g o hw F
      obtain ⟨ν, n1, n2, n3⟩ := s_43t (d := d) g o hh (envC_T F E)
      have F2 := fr_t F n3
      obtain ⟨ξ, x1, x2, x3⟩ := s_14a (d := d + 2) (s := s) n2 o (by omega)
      rw [b_69_19, bLt_f (by omega), n1, bK_t, show otA L H s h (m + 1) a W = otA L H s h m (if cdA L H W h = 0 then a else w32 (a + 1)) (passA s W) from rfl, (envC_T F2 E).2.2.2.2, x1, bK_t, bK_t, w32_n (by omega)]
      have z := fun a => ih (k + 1) a _ ξ (by omega) x2 (okC_pass o (by omega)) (by rw [pass_31]; omega) (fr_t F2 (fCA x3))
      by_cases h0 : cdA L H W h = 0
      · rw [bEq_t h0, if_pos h0]; exact z a
      · rw [bEq_f h0, if_neg h0]; exact z _
  obtain ⟨ν, n1, n2⟩ := q (t + 1) 0 0 V μ (by omega) m2 ok (by omega) (fCA m3)
  refine ⟨ν, ?_, n2⟩
  rw [e_69, m1, bK_t]
  exact n1
def oftenA (L : List (List Int × List Int)) (H : Nat → Nat → Int) (n : Nat) (s : Int) (V : cV) (x y : Int) : Int := if 0 ≤ x ∧ x < (n : Int) then (if 0 ≤ y ∧ y ≤ 48 then otA L H s x.toNat (y.toNat + 1) 0 V else -1) else -1
theorem s_97 {x y : Int} (g : gC 2 S = V) (ok : okC V) (hl : V 3 1 ≤ 100000) (E : envC S L H n s) : ∃ μ, mcall (d + 6) 97 [(29, 0), (0, x), (0, y)] S = some (oftenA L H n s V x y, μ) ∧ fr CT S μ := by
  rw [e_97, s_38 E.2.1, bK_t]
  unfold oftenA
  by_cases h1 : 0 ≤ x ∧ x < (n : Int)
  · rw [if_pos h1, if_pos h1, bEq_f (by omega), s_126, bK_t]
    by_cases h2 : 0 ≤ y ∧ y ≤ 48
    · obtain ⟨h, hh⟩ : ∃ h : Nat, x = (h : Int) := ⟨x.toNat, by omega⟩
      obtain ⟨t, ht⟩ : ∃ h : Nat, y = (h : Int) := ⟨y.toNat, by omega⟩
      subst hh ht
      obtain ⟨μ, m1, m2⟩ := s_69 (d := d) (h := h) (t := t) g ok hl (by omega) (by omega) E
      rw [if_pos h2, if_pos h2, bEq_f (by omega), m1, bK_t]
      exact ⟨μ, rfl, m2⟩
    · rw [if_neg h2, if_neg h2, bEq_t (by rfl)]; exact ⟨S, rfl, fr_r⟩
  · rw [if_neg h1, if_neg h1, bEq_t (by rfl)]; exact ⟨S, rfl, fr_r⟩
theorem s_185 {x y : Int} (g : gM S = V) (ok : okC V) (hl : V 3 1 ≤ 100000) (E : envM S L H n s) : ∃ μ, mcall (d + 6) 185 [(30, 64), (0, x), (0, y)] S = some (oftenA L H n s V x y, μ) ∧ fm MT S μ ∧ gM μ = V := by
  rw [e_185, s_135 E.2.2.1 E.2.2.2.1, bK_t]
  unfold oftenA
  by_cases h1 : 0 ≤ x ∧ x < (n : Int)
  · rw [if_pos h1, if_pos h1, bEq_f (by omega), s_136, bK_t]
    by_cases h2 : 0 ≤ y ∧ y ≤ 48
    · obtain ⟨h, hh⟩ : ∃ h : Nat, x = (h : Int) := ⟨x.toNat, by omega⟩
      obtain ⟨t, ht⟩ : ∃ h : Nat, y = (h : Int) := ⟨y.toNat, by omega⟩
      subst hh ht
      rw [if_pos h2, if_pos h2, bEq_f (by omega), tn_n, tn_n]
      have hn : h < n := by omega
      obtain ⟨σ, s1, s2, s3, s4⟩ := s_178t (d := d + 4) g
      have q : ∀ (m k : Nat) (a : Int) (W : cV) (σ : mM), k + m = t + 1 → 0 < k → gM σ = W → gK 90 σ = V → okC W → W 3 1 + (m : Int) + 1 ≤ 1000000 → fm MT S σ → ∃ μ, mgo (mcall (d + 5)) (mX 185 S) 185 30 [(30, 64), (0, (h : Int)), (0, (t : Int)), (0, a), (0, (k : Int))] [] σ = some (otA L H s h m a (passA s W), μ) ∧ fm MT S μ ∧ gM μ = V := by
        intro m
        induction m with
        | zero =>
          intro k a W σ hk h0 gσ kσ o hw F
          obtain ⟨ξ, x1, x2, x3, x4⟩ := s_179t (d := d + 4) kσ
          refine ⟨ξ, ?_, fm_t F x2, x3⟩
          rw [b_185_30, bLt_t (by omega), x1, bK_t]
          rfl
        | succ m ih =>
          intro k a W σ hk h0 gσ kσ o hw F
          obtain ⟨ν, n1, n2, n3, n4⟩ := s_174t (d := d + 2) gσ kσ o (by omega) (envM_X F E)
          have F2 := fm_t F n4
          have o2 : okC (passA s W) := okC_pass o (by omega)
          obtain ⟨ξ, x1, x2, x3, x4⟩ := s_170t (d := d) n2 n3 o2 hn (envM_X F2 E)
          have F3 := fm_t F2 x4
          rw [b_185_30, bLt_f (by omega), bLt_t (by omega), n1, bK_t, x1, bK_t, show otA L H s h (m + 1) a (passA s W) = otA L H s h m (if cdA L H (passA s W) h = 0 then a else w32 (a + 1)) (passA s (passA s W)) from rfl, w32_n (by omega)]
          have z := fun a => ih (k + 1) a (passA s W) ξ (by omega) (by omega) x2 x3 o2 (by rw [pass_31]; omega) F3
          by_cases h0 : cdA L H (passA s W) h = 0
          · rw [bEq_t h0, if_pos h0]; exact z a
          · rw [bEq_f h0, if_neg h0]; exact z _
      obtain ⟨ξ, x1, x2, x3, x4⟩ := s_170t (d := d) s3 s4 ok hn (envM_X s2 E)
      have F3 := fm_t s2 x4
      rw [s1, bK_t, b_185_30, bLt_f (by omega), bLt_f (by omega), x1, bK_t, show otA L H s h (t + 1) 0 V = otA L H s h t (if cdA L H V h = 0 then 0 else w32 (0 + 1)) (passA s V) from rfl]
      have z := fun a => q t 1 a V ξ (by omega) (by omega) x2 x3 ok (by omega) F3
      by_cases h0 : cdA L H V h = 0
      · rw [bEq_t h0, if_pos h0]; exact z 0
      · rw [bEq_f h0, if_neg h0]; exact z _
    · rw [if_neg h2, if_neg h2, bEq_t (by rfl)]; exact ⟨S, rfl, fm_r, g⟩
  · rw [if_neg h1, if_neg h1, bEq_t (by rfl)]; exact ⟨S, rfl, fm_r, g⟩
/-- the first that is not so -/
def unA (L : List (List Int × List Int)) (s : Int) (q : Nat) (B : Nat → Int) : Nat → Nat → cV → Int
  | 0, _, _ => -2
  | m + 1, k, V => if wfA L V q = B k then unA L s q B m (k + 1) (passA s V) else (k : Int)
theorem s_25t {q : Nat} {W : cV} (g : gC 27 S = W) (ok : okC W) (hq : q < 30) (E : envC S L H n s) : ∃ w : Nat, S 1 6 = (w : Int) ∧ ∃ μ, mcall (d + 3) 25 [(22, (w : Int)), (21, 27), (0, (q : Int))] S = some (wfA L W q, μ) ∧ gC 27 μ = W ∧ fr CT S μ := by
  obtain ⟨w, hw⟩ : ∃ w : Nat, S 1 6 = (w : Int) := ⟨_, E.1.choose_spec.2.1⟩
  obtain ⟨μ, m1, m2⟩ := s_25e (d := d) (c := 27) (Or.inr rfl) g ok hq E hw
  exact ⟨w, hw, μ, m1, (gC_S (Or.inr rfl) m2).trans g, fCS m2⟩
theorem s_169t {q : Nat} {W : cV} (g : gM S = W) (k : gK 90 S = V) (ok : okC W) (hq : q < 30) (E : envM S L H n s) : ∃ μ, mcall (d + 4) 169 [(30, 64), (0, (q : Int))] S = some (wfA L W q, μ) ∧ gM μ = W ∧ gK 90 μ = V ∧ fm MT S μ := by
  obtain ⟨μ, m1, m2⟩ := s_169 (d := d) g ok hq E.1 E.2.1
  exact ⟨μ, m1, (gM_f m2 (by decide)).trans g, (gK_f (fm_f m2) (by simp) (by omega)).trans k, fm_m (fm_f m2) (by decide)⟩
theorem s_76 {x q l : Nat} {W : cV} {B : Nat → Int} (hx : x = 47 ∨ x = 49 ∨ x = 51 ∨ x = 53 ∨ x = 55 ∨ x = 57) (g : gC 27 S = W) (ok : okC W) (hl : W 3 1 ≤ 100000) (hq : q < 30) (E : envC S L H n s) (h1 : S x 2 = (l : Int)) (h2 : ∀ i, i < l → S (x + 1) i = B i) : ∃ μ, mcall (d + 4) 76 [(27, 26), (23, (x : Int)), (0, (q : Int))] S = some (unA L s q B (if 49 < l then 49 else l) 0 W, μ) ∧ fr CT S μ := by
  have hx' : x + 1 ∉ CT := by
    simp only [CT, List.mem_cons, List.not_mem_nil, or_false]
    omega
  obtain ⟨t, ht⟩ : ∃ t : Nat, t = if 49 < l then 49 else l := ⟨_, rfl⟩
  have htl : t ≤ l ∧ t ≤ 49 := by rw [ht]; split <;> omega
  have e : (if 49 < (l : Int) then 49 else (l : Int)) = (t : Int) := by rw [ht]; split <;> split <;> omega
  have q : ∀ (m k : Nat) (W : cV) (σ : mM), k + m = t → gC 27 σ = W → okC W → W 3 1 + (m : Int) ≤ 1000000 → fr CT S σ → ∃ μ, mgo (mcall (d + 3)) (mX 76 S) 76 13 [(27, 26), (23, (x : Int)), (0, (q : Int)), (0, (t : Int)), (0, (k : Int))] [] σ = some (unA L s q B m k W, μ) ∧ fr CT S μ := by
    intro m
    induction m with
    | zero =>
      intro k W σ hk _ _ _ F
      refine ⟨σ, ?_, F⟩
      rw [b_76_13, bLt_f (by omega)]
      rfl
    | succ m ih =>
      intro k W σ hk g o hw F
      obtain ⟨w, hww, ν, n1, n2, n3⟩ := s_25t (d := d) g o hq (envC_T F E)
      have F2 := fr_t F n3
      have hb : ν (x + 1) k = B k := (fr_e F2 hx' k).trans (h2 k (by omega))
      rw [b_76_13, bLt_t (by omega), hww, bLt_f (by omega), n1, bK_t, bIn_t (by omega), tn_n, hb, show unA L s q B (m + 1) k W = if wfA L W q = B k then unA L s q B m (k + 1) (passA s W) else (k : Int) from rfl]
      by_cases h0 : wfA L W q = B k
      · obtain ⟨ξ, x1, x2, x3⟩ := s_14a (d := d + 1) (s := s) n2 o (by omega)
        rw [bEq_t (cmp_t h0), if_pos h0, (envC_T F2 E).2.2.2.2, x1, bK_t, w32_n (by omega)]
        exact ih (k + 1) _ ξ (by omega) x2 (okC_pass o (by omega)) (by rw [pass_31]; omega) (fr_t F2 (fCA x3))
      · rw [bEq_f (cmp_f h0), if_neg h0]
        exact ⟨ν, rfl, F2⟩
  rw [e_76, h1, e, ← ht]
  exact q t 0 W S (by omega) g ok (by omega) fr_r
theorem s_75 {x q l : Nat} {B : Nat → Int} (hx : x = 47 ∨ x = 49 ∨ x = 51 ∨ x = 53 ∨ x = 55 ∨ x = 57) (g : gC 2 S = V) (ok : okC V) (hl : V 3 1 ≤ 100000) (hq : q < 30) (E : envC S L H n s) (h1 : S x 2 = (l : Int)) (h2 : ∀ i, i < l → S (x + 1) i = B i) : ∃ μ, mcall (d + 5) 75 [(27, 26), (23, (x : Int)), (0, (q : Int))] S = some (unA L s q B (if 49 < l then 49 else l) 0 V, μ) ∧ fr CT S μ := by
  have hx1 : x ∉ CT := by
    simp only [CT, List.mem_cons, List.not_mem_nil, or_false]
    omega
  have hx2 : x + 1 ∉ CT := by
    simp only [CT, List.mem_cons, List.not_mem_nil, or_false]
    omega
  obtain ⟨μ, m1, m2, m3⟩ := s_6t (d := d + 3) g
  obtain ⟨ν, n1, n2⟩ := s_76 (d := d) (B := B) hx m2 ok hl hq (envC_T (fCA m3) E) ((fr_e (fCA m3) hx1 2).trans h1) (fun i hi => (fr_e (fCA m3) hx2 i).trans (h2 i hi))
  rw [e_75, m1, bK_t, n1, bK_t]
  exact ⟨ν, rfl, fr_t (fCA m3) n2⟩
end
