/-! PURE PART 19: judge, felt -/
def shC (S : mM) (vh : Nat → Int) (l : Nat → Nat) (B : Nat → Nat → Int) (st : Nat → Int) : Prop := ∀ k, k < 6 → S (47 + 2 * k) 1 = vh k ∧ S (47 + 2 * k) 2 = (l k : Int) ∧ l k ≤ 60 ∧ (∀ i, i < l k → S (48 + 2 * k) i = B k i) ∧ (vh k = -1 → S (47 + 2 * k) 3 = st k)
def inK (h v : Int) : Prop := (h = 0 → -128 ≤ v ∧ v ≤ 127) ∧ (h = 1 → -32768 ≤ v ∧ v ≤ 32767)
def shM (S : mM) (vh : Nat → Int) (l : Nat → Nat) (B : Nat → Nat → Int) (st : Nat → Int) : Prop := ∀ k, k < 6 → ((vh k = -2 ∧ S 87 k = -1) ∨ (vh k = -1 ∧ S 87 k = 10 + st k ∧ 0 ≤ st k ∧ st k < 50) ∨ (0 ≤ vh k ∧ vh k ≤ 4 ∧ S 87 k = vh k)) ∧ S 88 k = (l k : Int) ∧ l k ≤ 60 ∧ (∀ i, i < l k → S 89 (60 * k + i) = B k i ∧ inK (vh k) (B k i))
section
variable {d n : Nat} {S : mM} {V : cV} {L : List (List Int × List Int)} {H : Nat → Nat → Int} {s : Int} {vh : Nat → Int} {l : Nat → Nat} {B : Nat → Nat → Int} {st : Nat → Int}
theorem shC_f {g : List Nat} {μ : mM} (F : fr g S μ) (hg : ∀ a ∈ g, a < 47 ∨ 59 ≤ a) (h : shC S vh l B st) : shC μ vh l B st := by
  intro k hk
  have e1 : μ (47 + 2 * k) = S (47 + 2 * k) := F _ (fun q => by have := hg _ q; omega)
  have e2 : μ (48 + 2 * k) = S (48 + 2 * k) := F _ (fun q => by have := hg _ q; omega)
  rw [e1, e2]
  exact h k hk
theorem shM_f {μ : mM} (F : fm MT S μ) (h : shM S vh l B st) : shM μ vh l B st := by
  intro k hk
  rw [fm_e F (a := 87) (by decide) (by omega), fm_e F (a := 88) (by decide) (by omega), fm_e F (a := 89) (by decide) (by omega)]
  exact h k hk
def rfA (vh : Nat → Int) (x : Int) : Int := if x < 0 then -1 else if x.toNat / 100 < 6 then (if x.toNat % 100 < 30 then (if vh (x.toNat / 100) = -2 then -11 else if vh (x.toNat / 100) = 0 then 0 else -12) else -1) else -1
theorem sp_v (m : Nat) (h : m < 3000000) : w32 (Int.tdiv (m : Int) 100) = ((m / 100 : Nat) : Int) := by
  rw [show Int.tdiv (m : Int) 100 = ((m / 100 : Nat) : Int) from rfl, w32_e (by omega)]
theorem sp_V (m : Nat) (h : (m : Int) < 2147483648) : w32 (Int.tdiv (m : Int) 100) = ((m / 100 : Nat) : Int) := by
  rw [show Int.tdiv (m : Int) 100 = ((m / 100 : Nat) : Int) from rfl, w32_e (by omega)]
theorem sp_t (m : Nat) : Int.tmod (m : Int) 100 = ((m % 100 : Nat) : Int) := rfl
theorem sp_c (k : Nat) : (46 + 1 + 2 * ((k : Nat) : Int)) = ((47 + 2 * k : Nat) : Int) := by omega
theorem s_130 {x : Int} (hx : x < 2147483648) (h : shC S vh l B st) : mcall (d + 2) 130 [(29, 0), (0, x)] S = some (rfA vh x, S) := by
  rw [e_130]
  unfold rfA
  by_cases h0 : x < 0
  · rw [bLt_t h0, if_pos h0]
  · obtain ⟨m, hm⟩ : ∃ m : Nat, x = (m : Int) := ⟨x.toNat, by omega⟩
    subst hm
    rw [bLt_f (by omega), if_neg h0, bEq_f (by omega), sp_V m hx, sp_t, s_128, bK_t, tn_n m]
    by_cases h1 : m / 100 < 6
    · rw [if_pos (by omega), if_pos h1, bEq_f (by omega), bEq_f (by omega), s_127, bK_t]
      by_cases h2 : m % 100 < 30
      · obtain ⟨a1, -⟩ := h (m / 100) h1
        rw [if_pos (by omega), if_pos h2, bEq_f (by omega), bEq_f (by omega), bIn_t (by omega), sp_c, tn_n, a1]
        by_cases h3 : vh (m / 100) = -2
        · rw [bEq_t h3, if_pos h3]
        · rw [bEq_f h3, if_neg h3]
          by_cases h4 : vh (m / 100) = 0
          · rw [bEq_t h4, if_pos h4]
          · rw [bEq_f h4, if_neg h4]
      · rw [if_neg (by omega), if_neg h2, bEq_t (by rfl)]
    · rw [if_neg (by omega), if_neg h1, bEq_t (by rfl)]
theorem s_191 {x : Int} (hx : x < 2147483648) (h : shM S vh l B st) : mcall (d + 3) 191 [(30, 64), (0, x)] S = some (rfA vh x, S) := by
  rw [e_191]
  unfold rfA
  by_cases h0 : x < 0
  · rw [bLt_t h0, if_pos h0]
  · obtain ⟨m, hm⟩ : ∃ m : Nat, x = (m : Int) := ⟨x.toNat, by omega⟩
    subst hm
    rw [bLt_f (by omega), if_neg h0, bEq_f (by omega), sp_V m hx, sp_t, s_137, bK_t, tn_n m]
    by_cases h1 : m / 100 < 6
    · rw [if_pos (by omega), if_pos h1, bEq_f (by omega), bEq_f (by omega), s_134, bK_t]
      by_cases h2 : m % 100 < 30
      · obtain ⟨a1, -⟩ := h (m / 100) h1
        rw [if_pos (by omega), if_pos h2, bEq_f (by omega), bEq_f (by omega), bIn_t (by omega), tn_n]
        by_cases h3 : vh (m / 100) = -2
        · rw [bEq_t (by omega), if_pos h3]
        · rw [bEq_f (by omega), if_neg h3]
          by_cases h4 : vh (m / 100) = 0
          · rw [bEq_t (by omega), if_pos h4]
          · rw [bEq_f (by omega), if_neg h4]
      · rw [if_neg (by omega), if_neg h2, bEq_t (by rfl)]
    · rw [if_neg (by omega), if_neg h1, bEq_t (by rfl)]
theorem rfA_0 {x : Int} (h : ¬ rfA vh x < 0) : 0 ≤ x ∧ x.toNat / 100 < 6 ∧ x.toNat % 100 < 30 ∧ vh (x.toNat / 100) = 0 := by
  unfold rfA at h
  repeat' split at h
  all_goals first | omega | skip
/-- the model's unlike -/
theorem s_141 {k i : Nat} (hk : k < 6) (hi : i < 60) (h1 : S 89 (60 * k + i) = B k i) (h2 : -2147483648 ≤ B k i ∧ B k i < 2147483648) : mcall (d + 1) 141 [(30, 64), (0, (k : Int)), (0, (i : Int))] S = some (B k i, S) := by
  have w : w32 ((w32 (60 * (k : Int))) + (i : Int)) = ((60 * k + i : Nat) : Int) := by rw [w32_e (x := 60 * (k : Int)) (by omega), w32_e (by omega)]; omega
  rw [e_141, w, bIn_t (by omega), tn_n, h1, w32_e h2]
theorem s_192e {m k v : Nat} {mx : Int × Int} {σ : mM} (hm : m < 3000000) (h6 : m / 100 < 6) (hk : gK 90 σ = V) (hv : v < 49) : ∃ μ, mgo (mcall (d + 5)) mx 192 13 [(30, 64), (0, (m : Int)), (0, (v : Int)), (0, (k : Int))] [] σ = some ((v : Int), μ) ∧ fm MT σ μ ∧ gM μ = V := by
  obtain ⟨ξ, x1, x2, x3, x4⟩ := s_179t (d := d + 4) hk
  refine ⟨ξ, ?_, x2, x3⟩
  rw [b_192_13, bEq_f (by omega), sp_v m hm, bIn_t (by omega)]
  by_cases h1 : (k : Int) < σ 88 ((m / 100 : Nat) : Int).toNat
  · rw [bLt_t h1]
    by_cases h2 : (k : Int) < 49
    · rw [bLt_t h2, bEq_f (by omega), x1, bK_t]
    · rw [bLt_f (by omega), x1, bK_t]
  · rw [bLt_f (by omega), x1, bK_t]
theorem s_192 {m : Nat} (hm : m < 3000000) (h6 : m / 100 < 6) (hq : m % 100 < 30) (g : gM S = V) (ok : okC V) (hl : V 3 1 ≤ 100000) (E : envM S L H n s) (h : shM S vh l B st) (hv : vh (m / 100) = 0) : ∃ μ, mcall (d + 6) 192 [(30, 64), (0, (m : Int))] S = some (unA L s (m % 100) (B (m / 100)) (if 49 < l (m / 100) then 49 else l (m / 100)) 0 V, μ) ∧ fm MT S μ ∧ gM μ = V := by
  obtain ⟨k0, hk0⟩ : ∃ k0, k0 = m / 100 := ⟨_, rfl⟩
  obtain ⟨q, hqq⟩ : ∃ q, q = m % 100 := ⟨_, rfl⟩
  rw [← hk0] at h6 hv ⊢
  rw [← hqq] at hq ⊢
  obtain ⟨-, a2, a3, a4⟩ := h k0 h6
  obtain ⟨t, ht⟩ : ∃ t : Nat, t = if 49 < l k0 then 49 else l k0 := ⟨_, rfl⟩
  have htl : t ≤ l k0 ∧ t ≤ 49 ∧ (t = l k0 ∨ t = 49) := by rw [ht]; split <;> omega
  rw [← ht]
  have hB : ∀ i, i < t → -128 ≤ B k0 i ∧ B k0 i ≤ 127 := fun i hi => ((a4 i (by omega)).2).1 hv
  obtain ⟨σ, s1, s2, s3, s4⟩ := s_178t (d := d + 4) g
  have r88 : ∀ σ, fm MT S σ → σ 88 k0 = (l k0 : Int) := fun σ F => (congrFun (fm_e F (a := 88) (by decide) (by omega)) k0).trans a2
  have r89 : ∀ σ i, fm MT S σ → i < t → σ 89 (60 * k0 + i) = B k0 i := fun σ i F hi => (congrFun (fm_e F (a := 89) (by decide) (by omega)) _).trans (a4 i (by omega)).1
  have w1 : Unit → w32 (Int.tdiv (m : Int) 100) = (k0 : Int) := fun _ => by rw [sp_v m hm, hk0]
  have w2 : Unit → Int.tmod (m : Int) 100 = (q : Int) := fun _ => by rw [sp_t, hqq]
  have hx : ∀ (k : Nat) (σ : mM), k = t → fm MT S σ → gK 90 σ = V → ∃ μ, mgo (mcall (d + 5)) (mX 192 S) 192 13 [(30, 64), (0, (m : Int)), (0, -2), (0, (k : Int))] [] σ = some (-2, μ) ∧ fm MT S μ ∧ gM μ = V := by
    intro k σ hk F kσ
    obtain ⟨ξ, x1, x2, x3, x4⟩ := s_179t (d := d + 4) kσ
    refine ⟨ξ, ?_, fm_t F x2, x3⟩
    rw [b_192_13, bEq_f (by omega), w1 (), bIn_t (by omega), tn_n, r88 σ F]
    by_cases h1 : (k : Int) < (l k0 : Int)
    · rw [bLt_t h1, bLt_f (by omega), x1, bK_t]
    · rw [bLt_f (by omega), x1, bK_t]
  have qq : ∀ (p k : Nat) (W : cV) (σ : mM), k + p = t → 0 < k → gM σ = W → gK 90 σ = V → okC W → W 3 1 + (p : Int) + 1 ≤ 1000000 → fm MT S σ → ∃ μ, mgo (mcall (d + 5)) (mX 192 S) 192 13 [(30, 64), (0, (m : Int)), (0, -2), (0, (k : Int))] [] σ = some (unA L s q (B k0) p k (passA s W), μ) ∧ fm MT S μ ∧ gM μ = V := by
    intro p
    induction p with
    | zero => intro k W σ hk h0 gσ kσ o hw F; exact hx k σ hk F kσ
    | succ p ih =>
      intro k W σ hk h0 gσ kσ o hw F
      obtain ⟨ν, n1, n2, n3, n4⟩ := s_174t (d := d + 2) gσ kσ o (by omega) (envM_X F E)
      have F2 := fm_t F n4
      have o2 : okC (passA s W) := okC_pass o (by omega)
      obtain ⟨ξ, x1, x2, x3, x4⟩ := s_169t (d := d + 1) n2 n3 o2 hq (envM_X F2 E)
      have F3 := fm_t F2 x4
      have hb := hB k (by omega)
      have y1 := s_141 (d := d + 4) (S := ξ) (B := B) h6 (i := k) (by omega) (r89 ξ k F3 (by omega)) (by omega)
      rw [b_192_13, bEq_f (by omega), w1 (), bIn_t (by omega), tn_n, r88 σ F, bLt_t (by omega), bLt_t (by omega), bEq_t (by rfl), bLt_t (by omega), n1, bK_t, bEq_f (by omega), w2 (), x1, bK_t, bEq_f (by omega), y1, bK_t, show unA L s q (B k0) (p + 1) k (passA s W) = if wfA L (passA s W) q = B k0 k then unA L s q (B k0) p (k + 1) (passA s (passA s W)) else (k : Int) from rfl, w32_n (by omega)]
      by_cases h0 : wfA L (passA s W) q = B k0 k
      · rw [bEq_t h0, if_pos h0]
        exact ih (k + 1) (passA s W) ξ (by omega) (by omega) x2 x3 o2 (by rw [pass_31]; omega) F3
      · rw [bEq_f h0, if_neg h0]
        obtain ⟨ζ, z1, z2, z3⟩ := s_192e (d := d) (m := m) (k := k + 1) (v := k) (mx := mX 192 S) hm (by omega) x3 (by omega)
        exact ⟨ζ, z1, fm_t F3 z2, z3⟩
  rw [e_192, s1, bK_t]
  cases t with
  | zero => exact hx 0 σ rfl s2 s4
  | succ t =>
    obtain ⟨ξ, x1, x2, x3, x4⟩ := s_169t (d := d + 1) s3 s4 ok hq (envM_X s2 E)
    have F3 := fm_t s2 x4
    have hb := hB 0 (by omega)
    have y1 : mcall (d + 5) 141 [(30, 64), (0, (k0 : Int)), (0, 0)] ξ = some (B k0 0, ξ) := s_141 (d := d + 4) (S := ξ) (B := B) h6 (i := 0) (by omega) (r89 ξ 0 F3 (by omega)) (by omega)
    have r := r88 σ s2
    rw [b_192_13, bEq_f (by omega), w1 (), bIn_t (by omega), tn_n, r, bLt_t (by omega), bLt_t (by omega), bEq_t (by rfl), bLt_f (by omega), bEq_f (by omega), w2 (), x1, bK_t, bEq_f (by omega), y1, bK_t, show unA L s q (B k0) (t + 1) 0 V = if wfA L V q = B k0 0 then unA L s q (B k0) t 1 (passA s V) else ((0 : Nat) : Int) from rfl]
    by_cases h0 : wfA L V q = B k0 0
    · rw [bEq_t h0, if_pos h0]
      exact qq t 1 V ξ (by omega) (by omega) x2 x3 ok (by omega) F3
    · rw [bEq_f h0, if_neg h0]
      obtain ⟨ζ, z1, z2, z3⟩ := s_192e (d := d) (m := m) (k := 1) (v := 0) (mx := mX 192 S) hm (by omega) x3 (by omega)
      exact ⟨ζ, z1, fm_t F3 z2, z3⟩
def judgeA (L : List (List Int × List Int)) (s : Int) (V : cV) (vh : Nat → Int) (l : Nat → Nat) (B : Nat → Nat → Int) (x : Int) : Int := if rfA vh x < 0 then rfA vh x else unA L s (x.toNat % 100) (B (x.toNat / 100)) (if 49 < l (x.toNat / 100) then 49 else l (x.toNat / 100)) 0 V
theorem s_101 {x : Int} (hx : x < 2147483648) (g : gC 2 S = V) (ok : okC V) (hl : V 3 1 ≤ 100000) (E : envC S L H n s) (h : shC S vh l B st) : ∃ μ, mcall (d + 6) 101 [(29, 0), (0, x)] S = some (judgeA L s V vh l B x, μ) ∧ fr CT S μ := by
  rw [e_101, s_130 hx h, bK_t]
  unfold judgeA
  by_cases h0 : rfA vh x < 0
  · rw [bLt_t h0, if_pos h0]; exact ⟨S, rfl, fr_r⟩
  · obtain ⟨r1, r2, r3, r4⟩ := rfA_0 h0
    obtain ⟨m, hm⟩ : ∃ m : Nat, x = (m : Int) := ⟨x.toNat, by omega⟩
    subst hm
    rw [tn_n] at r2 r3 r4
    obtain ⟨a1, a2, a3, a4, -⟩ := h (m / 100) r2
    obtain ⟨μ, m1, m2⟩ := s_75 (d := d) (x := 47 + 2 * (m / 100)) (q := m % 100) (B := B (m / 100)) (by omega) g ok hl r3 E a2 (fun i hi => by rw [show 47 + 2 * (m / 100) + 1 = 48 + 2 * (m / 100) by omega]; exact a4 i hi)
    rw [bLt_f (by omega), if_neg h0, bEq_f (by omega), sp_V m hx, bIn_t (by omega), bEq_f (by omega), sp_c, sp_t, m1, bK_t]
    exact ⟨μ, rfl, m2⟩
theorem s_193 {x : Int} (hx : x < 2147483648) (g : gM S = V) (ok : okC V) (hl : V 3 1 ≤ 100000) (E : envM S L H n s) (h : shM S vh l B st) : ∃ μ, mcall (d + 7) 193 [(30, 64), (0, x)] S = some (judgeA L s V vh l B x, μ) ∧ fm MT S μ ∧ gM μ = V := by
  rw [e_193, s_191 hx h, bK_t]
  unfold judgeA
  by_cases h0 : rfA vh x < 0
  · rw [bLt_t h0, if_pos h0]; exact ⟨S, rfl, fm_r, g⟩
  · obtain ⟨r1, r2, r3, r4⟩ := rfA_0 h0
    obtain ⟨m, hm⟩ : ∃ m : Nat, x = (m : Int) := ⟨x.toNat, by omega⟩
    subst hm
    rw [tn_n] at r2 r3 r4
    obtain ⟨μ, m1, m2, m3⟩ := s_192 (d := d) (m := m) (by omega) r2 r3 g ok hl E h r4
    rw [bLt_f (by omega), if_neg h0, m1, bK_t]
    exact ⟨μ, rfl, m2, m3⟩
/-! felt -/
def moA (k : Nat) : Nat := if k = 0 then 4 else if k = 1 then 9 else 12
theorem okC_u {k q v : Nat} (ok : okC V) (hk : k < 3) (hq : q < 30) (hv : v ≤ moA k) : okC (up V k q (v : Int)) := by
  unfold moA at hv
  rcases (by omega : k = 0 ∨ k = 1 ∨ k = 2) with rfl | rfl | rfl
  · rw [if_pos rfl] at hv; exact okC_0 ok hq (by omega)
  · rw [if_neg (by omega), if_pos rfl] at hv; exact okC_1 ok hq (by omega)
  · rw [if_neg (by omega), if_neg (by omega)] at hv; exact okC_2 ok hq (by omega)
theorem s_8 {c k q : Nat} {v : Int} (g : gC c S = V) (ok : okC (up V k q v)) (hk : k < 3) (hq : q < 30) : ∃ μ, mcall (d + 1) 8 [(21, (c : Int)), (0, (q : Int)), (0, (k : Int)), (0, v)] S = some (0, μ) ∧ gC c μ = up V k q v ∧ fr [c, c + 1, c + 2, c + 3, c + 4] S μ ∧ ∀ j, j ≠ 0 → μ (c + 4) j = S (c + 4) j := by
  refine opC (f := mcall (d + 1) 8 [(21, (c : Int)), (0, (q : Int)), (0, (k : Int)), (0, v)]) g ok.1 ?_
  rw [e_8]
  rcases (by omega : k = 0 ∨ k = 1 ∨ k = 2) with rfl | rfl | rfl
  · rw [bEq_t (by rfl), bIn_t (by omega), tn_n, uL_1 hq]
  · rw [bEq_f (by omega), bEq_t (by rfl), bIn_t (by omega), tn_n, uL_2 (dC c) hq]
  · rw [bEq_f (by omega), bEq_f (by omega), bIn_t (by omega), tn_n, uL_3 (dC c) hq]
theorem s_145 {k q : Nat} {v : Int} (g : gM S = V) (ok : okC (up V k q v)) (hk : k < 3) (hq : q < 30) : ∃ μ, mcall (d + 1) 145 [(30, 64), (0, (q : Int)), (0, (k : Int)), (0, v)] S = some (0, μ) ∧ gM μ = up V k q v ∧ fm [] S μ := by
  refine opM (f := mcall (d + 1) 145 [(30, 64), (0, (q : Int)), (0, (k : Int)), (0, v)]) g ok.1 ?_
  rw [e_145]
  rcases (by omega : k = 0 ∨ k = 1 ∨ k = 2) with rfl | rfl | rfl
  · rw [bEq_t (by rfl), bIn_t (by omega), tn_n, uL_1 hq]
  · rw [bEq_f (by omega), bEq_t (by rfl), bIn_t (by omega), tn_n, uL_2 dM hq]
  · rw [bEq_f (by omega), bEq_f (by omega), bEq_t (by rfl), bIn_t (by omega), tn_n, uL_3 dM hq]
theorem up_u {k q : Nat} {u v : Int} : up (up V k q u) k q v = up V k q v := by
  funext a j
  unfold up
  split <;> rfl
theorem up_i {k q : Nat} : up V k q (V k q) = V := by
  funext a j
  unfold up
  split
  · next h => rw [h.1, h.2]
  · rfl
def feP (L : List (List Int × List Int)) (s : Int) (V : cV) (p : Nat) (B : Nat → Int) (t k q : Nat) (v : Nat) : Bool := decide (unA L s p B t 0 (up V k q (v : Int)) = -2)
theorem s_77 {x p q k l0 : Nat} {B0 : Nat → Int} (hx : x = 47 ∨ x = 49 ∨ x = 51 ∨ x = 53 ∨ x = 55 ∨ x = 57) (g : gC 2 S = V) (ok : okC V) (hl : V 3 1 ≤ 100000) (hp : p < 30) (hq : q < 30) (hk : k < 3) (E : envC S L H n s) (h1 : S x 2 = (l0 : Int)) (h2 : ∀ i, i < l0 → S (x + 1) i = B0 i) (hc : ∀ j, S 900 j = mC0 j) : ∃ μ, mcall (d + 5) 77 [(27, 26), (23, (x : Int)), (0, (p : Int)), (0, (q : Int)), (0, (k : Int))] S = some (ftA (feP L s V p B0 (if 49 < l0 then 49 else l0) k q) (moA k + 1), μ) ∧ fr CT S μ := by
  have hx1 : x ∉ CT := by
    simp only [CT, List.mem_cons, List.not_mem_nil, or_false]
    omega
  have hx2 : x + 1 ∉ CT := by
    simp only [CT, List.mem_cons, List.not_mem_nil, or_false]
    omega
  have hm : mC0 k = (moA k : Int) := by
    rcases (by omega : k = 0 ∨ k = 1 ∨ k = 2) with rfl | rfl | rfl <;> rfl
  have hm2 : moA k ≤ 12 := by unfold moA; repeat' split
                              all_goals omega
  obtain ⟨t, ht⟩ : ∃ t, t = if 49 < l0 then 49 else l0 := ⟨_, rfl⟩
  rw [← ht]
  have qq : ∀ (m v : Nat) (σ : mM), v + m = moA k + 1 → fr CT S σ → ∃ μ, mgo (mcall (d + 4)) (mX 77 S) 77 6 [(27, 26), (23, (x : Int)), (0, (p : Int)), (0, (q : Int)), (0, (k : Int)), (0, ftA (feP L s V p B0 t k q) v), (0, (v : Int))] [] σ = some (ftA (feP L s V p B0 t k q) (moA k + 1), μ) ∧ fr CT S μ := by
    intro m
    induction m with
    | zero =>
      intro v σ hv F
      refine ⟨σ, ?_, F⟩
      rw [b_77_6, bIn_t (by omega), tn_n, fr_e F (by decide), hc, hm, bLt_t (by omega), show v = moA k + 1 by omega]
    | succ m ih =>
      intro v σ hv F
      obtain ⟨μ, m1, m2, m3⟩ := s_6t (d := d + 3) (S := σ) ((gC_T F).trans g)
      have o2 : okC (up V k q (v : Int)) := okC_u ok hk hq (by omega)
      have z8 := s_8 (d := d + 3) (c := 27) m2 o2 hk hq
      obtain ⟨ν, n1, n2, n3, -⟩ := z8
      have n1' : mcall (d + 4) 8 [(21, 27), (0, (q : Int)), (0, (k : Int)), (0, (v : Int))] μ = some (0, ν) := n1
      have F2 : fr CT S ν := fr_t F (fr_t (fCA m3) (fCA n3))
      have h31 : up V k q (v : Int) 3 1 = V 3 1 := up_o (by omega)
      obtain ⟨ξ, x1, x2⟩ := s_76 (d := d) (B := B0) hx n2 o2 (by rw [h31]; exact hl) hp (envC_T F2 E) ((fr_e F2 hx1 2).trans h1) (fun i hi => (fr_e F2 hx2 i).trans (h2 i hi))
      rw [← ht] at x1
      obtain ⟨ζ, z1, z2⟩ := ih (v + 1) ξ (by omega) (fr_t F2 x2)
      refine ⟨ζ, ?_, z2⟩
      rw [b_77_6, bIn_t (by omega), tn_n, fr_e F (by decide), hc, hm, bLt_f (by omega), m1, bK_t, n1', bK_t, x1, bK_t, w32_n (by omega)]
      rw [show ftA (feP L s V p B0 t k q) (v + 1) = bif feP L s V p B0 t k q v then or1 (ftA (feP L s V p B0 t k q) v) v else ftA (feP L s V p B0 t k q) v from rfl] at z1
      by_cases h0 : unA L s p B0 t 0 (up V k q (v : Int)) = -2
      · rw [show feP L s V p B0 t k q v = true from decide_eq_true h0] at z1
        rw [bEq_t h0]
        exact z1
      · rw [show feP L s V p B0 t k q v = false from decide_eq_false h0] at z1
        rw [bEq_f h0]
        exact z1
  rw [e_77]
  exact qq (moA k + 1) 0 S (by omega) fr_r
theorem s_194 {m q k w : Nat} (hm : m < 3000000) (h6 : m / 100 < 6) (hp : m % 100 < 30) (hq : q < 30) (hk : k < 3) (hw : w < 3) (g : gM S = V) (ok : okC V) (hl : V 3 1 ≤ 100000) (E : envM S L H n s) (h : shM S vh l B st) (hv : vh (m / 100) = 0) : ∃ μ, mcall (d + 7) 194 [(30, 64), (0, (m : Int)), (0, (q : Int)), (0, (k : Int)), (0, (moA k : Int)), (0, (w : Int))] S = some (soA (feP L s V (m % 100) (B (m / 100)) (if 49 < l (m / 100) then 49 else l (m / 100)) k q) (w : Int) (moA k + 1) 0 (-2) 0, μ) ∧ fm MT S μ ∧ gM μ = V := by
  have hm2 : moA k ≤ 12 := by unfold moA; repeat' split
                              all_goals omega
  obtain ⟨P, hP⟩ : ∃ P, P = feP L s V (m % 100) (B (m / 100)) (if 49 < l (m / 100) then 49 else l (m / 100)) k q := ⟨_, rfl⟩
  have hVq : ∃ u : Nat, V k q = (u : Int) ∧ u ≤ moA k := by
    unfold moA
    rcases (by omega : k = 0 ∨ k = 1 ∨ k = 2) with rfl | rfl | rfl
    · have := ok.2.1 q; exact ⟨(V 0 q).toNat, by omega, by rw [if_pos rfl]; omega⟩
    · have := ok.2.2.1 q; exact ⟨(V 1 q).toNat, by omega, by rw [if_neg (by omega), if_pos rfl]; omega⟩
    · have := ok.2.2.2.1 q; exact ⟨(V 2 q).toNat, by omega, by rw [if_neg (by omega), if_neg (by omega)]; omega⟩
  obtain ⟨u0, hu0, hu1⟩ := hVq
  have qq : ∀ (v : Nat) (a b c : Int) (u : Nat) (σ : mM), v ≤ moA k + 1 → u ≤ moA k → gM σ = up V k q (u : Int) → fm MT S σ → ∃ μ, mgo (mcall (d + 6)) (mX 194 S) 194 22 [(30, 64), (0, (m : Int)), (0, (q : Int)), (0, (k : Int)), (0, (moA k : Int)), (0, (w : Int)), (0, (u0 : Int)), (0, a), (0, b), (0, c), (0, (v : Int) - 1)] [] σ = some (soA P (w : Int) v a b c, μ) ∧ fm MT S μ ∧ gM μ = V := by
    intro v
    induction v with
    | zero =>
      intro a b c u σ _ hu gσ F
      have e : up (up V k q (u : Int)) k q (u0 : Int) = V := by rw [up_u, ← hu0]; exact up_i
      obtain ⟨ξ, x1, x2, x3⟩ := s_145 (d := d + 5) (v := (u0 : Int)) gσ (by rw [e]; exact ok) hk hq
      rw [b_194_22, bLt_t (by omega), x1, bK_t]
      have F2 := fm_t F (fm_m x3 (by simp) : fm MT σ ξ)
      rw [show soA P (w : Int) 0 a b c = if (w : Int) = 0 then a else if (w : Int) = 1 then b else c from rfl]
      by_cases w0 : (w : Int) = 0
      · rw [bEq_t w0, if_pos w0]; exact ⟨ξ, rfl, F2, x2.trans e⟩
      · rw [bEq_f w0, if_neg w0]
        by_cases w1 : (w : Int) = 1
        · rw [bEq_t w1, if_pos w1]; exact ⟨ξ, rfl, F2, x2.trans e⟩
        · rw [bEq_f w1, if_neg w1]; exact ⟨ξ, rfl, F2, x2.trans e⟩
    | succ v ih =>
      intro a b c u σ hv hu gσ F
      have e : up (up V k q (u : Int)) k q (v : Int) = up V k q (v : Int) := up_u
      have o2 : okC (up V k q (v : Int)) := okC_u ok hk hq (by omega)
      obtain ⟨ξ, x1, x2, x3⟩ := s_145 (d := d + 5) (v := (v : Int)) gσ (by rw [e]; exact o2) hk hq
      rw [e] at x2
      have F2 := fm_t F (fm_m x3 (by simp) : fm MT σ ξ)
      have h31 : up V k q (v : Int) 3 1 = V 3 1 := up_o (by omega)
      obtain ⟨ζ, z1, z2, z3⟩ := s_192 (d := d) (m := m) hm h6 hp x2 o2 (by rw [h31]; exact hl) (envM_X F2 E) (shM_f F2 h) (by assumption)
      have F3 := fm_t F2 z2
      rw [b_194_22, show ((v + 1 : Nat) : Int) - 1 = (v : Int) by omega, bLt_f (by omega), x1, bK_t, z1, bK_t, show w32 ((v : Int) + (-1)) = (v : Int) - 1 by rw [w32_e (by omega)]; omega, show soA P (w : Int) (v + 1) a b c = bif P v then soA P (w : Int) v (w32 (a + 1)) (v : Int) (or1 c v) else soA P (w : Int) v a b c from rfl]
      by_cases h0 : unA L s (m % 100) (B (m / 100)) (if 49 < l (m / 100) then 49 else l (m / 100)) 0 (up V k q (v : Int)) = -2
      · rw [bEq_t h0, show P v = true by rw [hP]; exact decide_eq_true h0]
        exact ih _ _ _ v ζ (by omega) (by omega) z3 F3
      · rw [bEq_f h0, show P v = false by rw [hP]; exact decide_eq_false h0]
        exact ih _ _ _ v ζ (by omega) (by omega) z3 F3
  rw [e_194, s_144 g hq hk, bK_t, hu0, ← hP]
  have z := qq (moA k + 1) 0 (-2) 0 u0 S (by omega) hu1 (by rw [← hu0, up_i]; exact g) fm_r
  rw [show ((moA k + 1 : Nat) : Int) - 1 = (moA k : Int) by omega] at z
  exact z
def fbA (z b : Int) : Int := if z = 0 then b else if z = 1 ∨ z = 3 then bcA b else if b = 0 then -2 else nzA b
def feltA (L : List (List Int × List Int)) (s : Int) (V : cV) (vh : Nat → Int) (l : Nat → Nat) (B : Nat → Nat → Int) (x y z : Int) : Int := if 0 ≤ y ∧ y < 30 then (if 0 ≤ z ∧ z ≤ 4 then (if rfA vh x < 0 then rfA vh x else
  fbA z (ftA (feP L s V (x.toNat % 100) (B (x.toNat / 100)) (if 49 < l (x.toNat / 100) then 49 else l (x.toNat / 100)) ((z.toNat + 1) / 2) y.toNat) (moA ((z.toNat + 1) / 2) + 1))) else -1) else -1
theorem s_102 {x y z : Int} (hx : x < 2147483648) (g : gC 2 S = V) (ok : okC V) (hl : V 3 1 ≤ 100000) (E : envC S L H n s) (h : shC S vh l B st) (hc : ∀ j, S 900 j = mC0 j) : ∃ μ, mcall (d + 6) 102 [(29, 0), (0, x), (0, y), (0, z)] S = some (feltA L s V vh l B x y z, μ) ∧ fr CT S μ := by
  rw [e_102, s_127, bK_t]
  unfold feltA
  by_cases h1 : 0 ≤ y ∧ y < 30
  · rw [if_pos h1, if_pos h1, bEq_f (by omega), s_126, bK_t]
    by_cases h2 : 0 ≤ z ∧ z ≤ 4
    · rw [if_pos h2, if_pos h2, bEq_f (by omega), s_130 hx h, bK_t]
      by_cases h0 : rfA vh x < 0
      · rw [bLt_t h0, if_pos h0]; exact ⟨S, rfl, fr_r⟩
      · obtain ⟨r1, r2, r3, r4⟩ := rfA_0 h0
        obtain ⟨m, hm⟩ : ∃ m : Nat, x = (m : Int) := ⟨x.toNat, by omega⟩
        obtain ⟨q, hq⟩ : ∃ m : Nat, y = (m : Int) := ⟨y.toNat, by omega⟩
        obtain ⟨t, ht⟩ : ∃ m : Nat, z = (m : Int) := ⟨z.toNat, by omega⟩
        subst hm hq ht
        rw [tn_n] at r2 r3 r4
        obtain ⟨a1, a2, a3, a4, -⟩ := h (m / 100) r2
        obtain ⟨k, hk⟩ : ∃ k, k = (t + 1) / 2 := ⟨_, rfl⟩
        obtain ⟨μ, m1, m2⟩ := s_77 (d := d) (x := 47 + 2 * (m / 100)) (p := m % 100) (q := q) (k := k) (B0 := B (m / 100)) (by omega) g ok hl r3 (by omega) (by omega) E a2 (fun i hi => by rw [show 47 + 2 * (m / 100) + 1 = 48 + 2 * (m / 100) by omega]; exact a4 i hi) hc
        have hz : Unit → w32 (Int.tdiv (w32 ((t : Int) + 1)) 2) = (k : Int) := fun _ => by
          rw [w32_n (by omega), show Int.tdiv ((t + 1 : Nat) : Int) 2 = (((t + 1) / 2 : Nat) : Int) from rfl, w32_e (by omega), hk]
        have hz2 : Unit → Int.tmod (t : Int) 2 = ((t % 2 : Nat) : Int) := fun _ => rfl
        rw [bLt_f (by omega), if_neg h0, bEq_f (by omega), sp_V m hx, bIn_t (by omega), bEq_f (by omega), bEq_f (by omega), sp_c, sp_t, hz (), m1, bK_t, tn_n, tn_n, tn_n, ← hk]
        generalize ftA (feP L s V (m % 100) (B (m / 100)) (if 49 < l (m / 100) then 49 else l (m / 100)) k q) (moA k + 1) = b
        unfold fbA
        by_cases t0 : (t : Int) = 0
        · rw [bEq_t t0, if_pos t0]; exact ⟨μ, rfl, m2⟩
        · rw [bEq_f t0, if_neg t0, bEq_f (by omega), hz2 ()]
          by_cases t1 : (t : Int) = 1 ∨ (t : Int) = 3
          · rw [bEq_t (by omega), if_pos t1, s_228, bK_t]; exact ⟨μ, rfl, m2⟩
          · rw [bEq_f (by omega), if_neg t1]
            by_cases b0 : b = 0
            · rw [bEq_t b0, if_pos b0]; exact ⟨μ, rfl, m2⟩
            · rw [bEq_f b0, if_neg b0, s_227, bK_t]; exact ⟨μ, rfl, m2⟩
    · rw [if_neg h2, if_neg h2, bEq_t (by rfl)]; exact ⟨S, rfl, fr_r⟩
  · rw [if_neg h1, if_neg h1, bEq_t (by rfl)]; exact ⟨S, rfl, fr_r⟩
theorem s_195 {x y z : Int} (hx : x < 2147483648) (g : gM S = V) (ok : okC V) (hl : V 3 1 ≤ 100000) (E : envM S L H n s) (h : shM S vh l B st) : ∃ μ, mcall (d + 8) 195 [(30, 64), (0, x), (0, y), (0, z)] S = some (feltA L s V vh l B x y z, μ) ∧ fm MT S μ ∧ gM μ = V := by
  rw [e_195, s_191 hx h, bK_t]
  unfold feltA
  by_cases hm1 : rfA vh x = -1
  · rw [bEq_t hm1]
    refine ⟨S, ?_, fm_r, g⟩
    rw [hm1]
    by_cases h1 : 0 ≤ y ∧ y < 30
    · rw [if_pos h1]
      by_cases h2 : 0 ≤ z ∧ z ≤ 4
      · rw [if_pos h2, if_pos (by omega)]
      · rw [if_neg h2]
    · rw [if_neg h1]
  · rw [bEq_f hm1, s_134, bK_t]
    by_cases h1 : 0 ≤ y ∧ y < 30
    · rw [if_pos h1, if_pos h1, bEq_f (by omega), s_133, bK_t]
      by_cases h2 : 0 ≤ z ∧ z ≤ 4
      · rw [if_pos h2, if_pos h2, bEq_f (by omega)]
        by_cases h0 : rfA vh x < 0
        · rw [bLt_t h0, if_pos h0]; exact ⟨S, rfl, fm_r, g⟩
        · obtain ⟨r1, r2, r3, r4⟩ := rfA_0 h0
          obtain ⟨m, hm⟩ : ∃ m : Nat, x = (m : Int) := ⟨x.toNat, by omega⟩
          obtain ⟨q, hq⟩ : ∃ m : Nat, y = (m : Int) := ⟨y.toNat, by omega⟩
          obtain ⟨t, ht⟩ : ∃ m : Nat, z = (m : Int) := ⟨z.toNat, by omega⟩
          subst hm hq ht
          rw [tn_n] at r2 r3 r4
          have so := fun k (hk : k < 3) w (hw : w < 3) => s_194 (d := d) (m := m) (q := q) (k := k) (w := w) (by omega) r2 r3 (by omega) hk hw g ok hl E h r4
          have mo : ∀ k, moA k + 1 ≤ 13 := fun k => by unfold moA; repeat' split
                                                       all_goals omega
          rw [bLt_f (by omega), if_neg h0, tn_n, tn_n, tn_n]
          rcases (by omega : t = 0 ∨ t = 1 ∨ t = 2 ∨ t = 3 ∨ t = 4) with rfl | rfl | rfl | rfl | rfl
          · obtain ⟨μ, m1, m2, m3⟩ := so 0 (by omega) 2 (by omega)
            have m1' : mcall (d + 7) 194 [(30, 64), (0, (m : Int)), (0, (q : Int)), (0, 0), (0, 4), (0, 2)] S = _ := m1
            rw [bEq_t (by rfl), m1', bK_t]
            refine ⟨μ, ?_, m2, m3⟩
            rw [show (((2 : Nat) : Int)) = 2 from rfl, (so_e _ (mo 0)).2.2]
            rfl
          · obtain ⟨μ, m1, m2, m3⟩ := so 1 (by omega) 0 (by omega)
            have m1' : mcall (d + 7) 194 [(30, 64), (0, (m : Int)), (0, (q : Int)), (0, 1), (0, 9), (0, 0)] S = _ := m1
            rw [bEq_f (by omega), bEq_t (by rfl), show w32 (((1 : Nat) : Int) - 1) = 0 from rfl, m1', bK_t]
            refine ⟨μ, ?_, m2, m3⟩
            rw [show (((0 : Nat) : Int)) = 0 from rfl, (so_e _ (mo 1)).1]
            rfl
          · obtain ⟨μ, m1, m2, m3⟩ := so 1 (by omega) 1 (by omega)
            have m1' : mcall (d + 7) 194 [(30, 64), (0, (m : Int)), (0, (q : Int)), (0, 1), (0, 9), (0, 1)] S = _ := m1
            rw [bEq_f (by omega), bEq_f (by omega), bEq_t (by rfl), show w32 (((2 : Nat) : Int) - 1) = 1 from rfl, m1', bK_t]
            refine ⟨μ, ?_, m2, m3⟩
            rw [show (((1 : Nat) : Int)) = 1 from rfl, (so_e _ (mo 1)).2.1]
            rfl
          · obtain ⟨μ, m1, m2, m3⟩ := so 2 (by omega) 0 (by omega)
            have m1' : mcall (d + 7) 194 [(30, 64), (0, (m : Int)), (0, (q : Int)), (0, 2), (0, 12), (0, 0)] S = _ := m1
            rw [bEq_f (by omega), bEq_f (by omega), bEq_f (by omega), show w32 (((3 : Nat) : Int) - 3) = 0 from rfl, m1', bK_t]
            refine ⟨μ, ?_, m2, m3⟩
            rw [show (((0 : Nat) : Int)) = 0 from rfl, (so_e _ (mo 2)).1]
            rfl
          · obtain ⟨μ, m1, m2, m3⟩ := so 2 (by omega) 1 (by omega)
            have m1' : mcall (d + 7) 194 [(30, 64), (0, (m : Int)), (0, (q : Int)), (0, 2), (0, 12), (0, 1)] S = _ := m1
            rw [bEq_f (by omega), bEq_f (by omega), bEq_f (by omega), show w32 (((4 : Nat) : Int) - 3) = 1 from rfl, m1', bK_t]
            refine ⟨μ, ?_, m2, m3⟩
            rw [show (((1 : Nat) : Int)) = 1 from rfl, (so_e _ (mo 2)).2.1]
            rfl
      · rw [if_neg h2, if_neg h2, bEq_t (by rfl)]; exact ⟨S, rfl, fm_r, g⟩
    · rw [if_neg h1, if_neg h1, bEq_t (by rfl)]; exact ⟨S, rfl, fm_r, g⟩
end
