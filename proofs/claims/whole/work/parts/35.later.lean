/-! PURE PART 15: months in thought -/
def MT : List Nat := [79, 80, 90, 91, 92, 93, 94]
theorem s_126 {d : Nat} {x m : Int} {σ : mM} : mcall (d + 1) 126 [(0, x), (0, m)] σ = some (if 0 ≤ x ∧ x ≤ m then 1 else 0, σ) := by
  rw [e_126]
  by_cases h1 : x < 0
  · rw [bLt_t h1, bIn_t (by omega), if_neg (by omega)]
  · rw [bLt_f (by omega)]
    by_cases h2 : m < x
    · rw [bLt_t h2, bIn_t (by omega), if_neg (by omega)]
    · rw [bLt_f (by omega), bIn_t (by omega), if_pos (by omega)]
theorem s_127 {d : Nat} {x : Int} {σ : mM} : mcall (d + 1) 127 [(0, x)] σ = some (if 0 ≤ x ∧ x < 30 then 1 else 0, σ) := by
  rw [e_127]
  by_cases h1 : x < 0
  · rw [bLt_t h1, bIn_t (by omega), if_neg (by omega)]
  · rw [bLt_f (by omega)]
    by_cases h2 : x < 30
    · rw [bLt_t h2, bIn_t (by omega), if_pos (by omega)]
    · rw [bLt_f (by omega), bIn_t (by omega), if_neg (by omega)]
theorem s_128 {d : Nat} {x : Int} {σ : mM} : mcall (d + 1) 128 [(0, x)] σ = some (if 0 ≤ x ∧ x < 6 then 1 else 0, σ) := by
  rw [e_128]
  by_cases h1 : x < 0
  · rw [bLt_t h1, bIn_t (by omega), if_neg (by omega)]
  · rw [bLt_f (by omega)]
    by_cases h2 : x < 6
    · rw [bLt_t h2, bIn_t (by omega), if_pos (by omega)]
    · rw [bLt_f (by omega), bIn_t (by omega), if_neg (by omega)]
theorem s_133 {d : Nat} {x l m : Int} {σ : mM} : mcall (d + 1) 133 [(0, x), (0, l), (0, m)] σ = some (if l ≤ x ∧ x ≤ m then 1 else 0, σ) := by
  rw [e_133]
  by_cases h1 : x < l
  · rw [bLt_t h1, bIn_t (by omega), if_neg (by omega)]
  · rw [bLt_f (by omega)]
    by_cases h2 : m < x
    · rw [bLt_t h2, bIn_t (by omega), if_neg (by omega)]
    · rw [bLt_f (by omega), bIn_t (by omega), if_pos (by omega)]
theorem i01 {p : Prop} [Decidable p] : 0 ≤ (if p then (1 : Int) else 0) ∧ (if p then (1 : Int) else 0) < 2 := by split <;> omega
theorem i_cg {p q : Prop} [Decidable p] [Decidable q] (h : p ↔ q) : (if p then (1 : Int) else 0) = if q then 1 else 0 := by
  by_cases hp : p
  · rw [if_pos hp, if_pos (h.mp hp)]
  · rw [if_neg hp, if_neg (fun z => hp (h.mpr z))]
theorem s_134 {d : Nat} {x : Int} {σ : mM} : mcall (d + 2) 134 [(0, x)] σ = some (if 0 ≤ x ∧ x < 30 then 1 else 0, σ) := by
  rw [e_134, s_133, bK_t, bIn_t i01]
  exact congrArg (fun z : Int => some (z, σ)) (i_cg (by omega))
theorem s_136 {d : Nat} {x : Int} {σ : mM} : mcall (d + 2) 136 [(0, x)] σ = some (if 0 ≤ x ∧ x ≤ 48 then 1 else 0, σ) := by
  rw [e_136, s_133, bK_t, bIn_t i01]
theorem s_137 {d : Nat} {x : Int} {σ : mM} : mcall (d + 2) 137 [(0, x)] σ = some (if 0 ≤ x ∧ x < 6 then 1 else 0, σ) := by
  rw [e_137, s_133, bK_t, bIn_t i01]
  exact congrArg (fun z : Int => some (z, σ)) (i_cg (by omega))
theorem s_135 {d n : Nat} {x : Int} {σ : mM} (hn : σ 64 3 = (n : Int)) (h8 : n ≤ 8) : mcall (d + 2) 135 [(30, 64), (0, x)] σ = some (if 0 ≤ x ∧ x < (n : Int) then 1 else 0, σ) := by
  rw [e_135, s_133, bK_t, bIn_t i01, hn, w32_e (by omega)]
  exact congrArg (fun z : Int => some (z, σ)) (i_cg (by omega))
theorem s_38 {d n : Nat} {x : Int} {σ : mM} (hn : σ 1 4 = (n : Int)) : mcall (d + 1) 38 [(24, 1), (0, x)] σ = some (if 0 ≤ x ∧ x < (n : Int) then 1 else 0, σ) := by
  rw [e_38, hn]
  by_cases h1 : x < 0
  · rw [bLt_t h1, bIn_t (by omega), if_neg (by omega)]
  · rw [bLt_f (by omega)]
    by_cases h2 : x < (n : Int)
    · rw [bLt_t h2, bIn_t (by omega), if_pos (by omega)]
    · rw [bLt_f (by omega), bIn_t (by omega), if_neg (by omega)]
theorem s_6t {d : Nat} {S : mM} {V : cV} (h : gC 2 S = V) : ∃ μ, mcall (d + 1) 6 [(21, 27), (21, 2)] S = some (0, μ) ∧ gC 27 μ = V ∧ fr CA S μ := by
  obtain ⟨μ, m1, m2, m3, -⟩ := s_6 (d := d) (c := 27) (x := 2) (σ := S) (by omega)
  refine ⟨μ, m1, m2.trans h, fun a ha => m3 a ?_⟩
  simp only [CA, List.mem_cons, List.not_mem_nil, or_false] at ha
  omega
theorem s_14a {d : Nat} {S : mM} {V : cV} {s : Int} (h : gC 27 S = V) (ok : okC V) (hl : V 3 1 < 1000000) : ∃ μ, mcall (d + 2) 14 [(21, 27), (0, s)] S = some (0, μ) ∧ gC 27 μ = passA s V ∧ fr CA S μ := by
  obtain ⟨μ, m1, m2, m3, -⟩ := opC (f := mcall (d + 2) 14 [(21, ((27 : Nat) : Int)), (0, s)]) h (okC_pass ok hl).1 (s_14' ok hl)
  exact ⟨μ, m1, m2, m3⟩
theorem s_178k {d x : Nat} {S : mM} {V : cV} (hx : x ≠ 65 ∧ x ≠ 66 ∧ x ≠ 67 ∧ x ≠ 69 ∧ x ≠ 64) (h : gM S = V) : ∃ μ, mcall (d + 1) 178 [(30, 64), (1092, (x : Int))] S = some (0, μ) ∧ fr [x] S μ ∧ gK x μ = V := by
  have e : sL 65 66 67 69 0 64 6 V S = S := by rw [← h]; exact sM_g
  have N : nV V := by rw [← h]; exact gL_n
  have k := s_178 (d := d) (V := V) (σ := S) hx
  rw [e] at k
  refine ⟨_, k, fun a ha => ?_, ?_⟩
  · have ha' : a ≠ x := fun z => ha (by simp [z])
    rw [← e]
    funext j
    unfold sL
    rw [show kpA x V (fun a j => if a = 65 ∧ j < 30 then V 0 j else if a = 66 ∧ j < 30 then V 1 j else if a = 67 ∧ j < 30 then V 2 j else if a = 69 ∧ j = 0 then V 3 0 else if a = 64 ∧ j = 6 then V 3 1 else S a j) a j = (if a = 65 ∧ j < 30 then V 0 j else if a = 66 ∧ j < 30 then V 1 j else if a = 67 ∧ j < 30 then V 2 j else if a = 69 ∧ j = 0 then V 3 0 else if a = 64 ∧ j = 6 then V 3 1 else S a j) from if_neg (fun z => ha' z.1)]
    repeat' split
    all_goals rfl
  · have z : gK x (sL 65 66 67 69 0 64 6 V (kpA x V S)) = gK x (kpA x V S) := by
      have r : ∀ j, sL 65 66 67 69 0 64 6 V (kpA x V S) x j = kpA x V S x j := fun j => sL_0 (by omega)
      funext k j
      unfold gK
      rw [r, r, r]
    rw [z]
    exact gK_kp N
theorem s_179k {d x : Nat} {S : mM} {V : cV} (hx : x ≠ 65 ∧ x ≠ 66 ∧ x ≠ 67 ∧ x ≠ 69 ∧ x ≠ 64) (h : gK x S = V) : ∃ μ, mcall (d + 1) 179 [(30, 64), (1092, (x : Int))] S = some (0, μ) ∧ gM μ = V ∧ fm [] S μ := by
  refine opM (V := gM S) rfl (by rw [← h]; exact gK_n) ?_
  rw [← h]
  exact s_179 (d := d) hx gL_n
theorem s_174k {d : Nat} {S : mM} {V : cV} {s : Int} (h : gM S = V) (ok : okC V) (hl : V 3 1 < 1000000) (hs : S 69 1 = s) : ∃ μ, mcall (d + 3) 174 [(30, 64)] S = some (0, μ) ∧ gM μ = passA s V ∧ fm [] S μ := by
  exact opM (f := mcall (d + 3) 174 [(30, 64)]) h (okC_pass ok hl).1 (s_174' hs ok hl)
theorem gK_f {x : Nat} {l : List Nat} {S μ : mM} (F : fm l S μ) (h1 : x ∉ l) (h2 : x ≠ 65 ∧ x ≠ 66 ∧ x ≠ 67 ∧ x ≠ 69 ∧ x ≠ 64) : gK x μ = gK x S := by
  have e := fm_e F h1 h2
  unfold gK
  rw [e]
def psN (s : Int) : Nat → cV → cV
  | 0, V => V
  | k + 1, V => passA s (psN s k V)
theorem okC_ps {V : cV} {s : Int} (ok : okC V) : ∀ k : Nat, V 3 1 + (k : Int) ≤ 1000000 → okC (psN s k V) ∧ psN s k V 3 1 = V 3 1 + (k : Int) := by
  intro k
  induction k with
  | zero => intro _; exact ⟨ok, by simp [psN]⟩
  | succ k ih =>
    intro h
    obtain ⟨h1, h2⟩ := ih (by omega)
    exact ⟨okC_pass h1 (by omega), by show passA s (psN s k V) 3 1 = _; rw [pass_31, h2]; omega⟩
theorem psN_c {s : Int} {V : cV} : ∀ k, psN s k (passA s V) = psN s (k + 1) V := by
  intro k
  induction k with
  | zero => rfl
  | succ k ih => show passA s (psN s k (passA s V)) = passA s (psN s (k + 1) V); rw [ih]
section
variable {d n : Nat} {S : mM} {V : cV} {L : List (List Int × List Int)} {H : Nat → Nat → Int} {s : Int}
theorem envC_T {μ : mM} (F : fr CT S μ) (E : envC S L H n s) : envC μ L H n s := envC_f F (by decide) E
theorem gC_T {μ : mM} (F : fr CT S μ) : gC 2 μ = gC 2 S := gC_f F (fun a h1 h2 => by
  simp only [CT, List.mem_cons, List.not_mem_nil, or_false]
  omega)
theorem fCA {S μ : mM} (F : fr CA S μ) : fr CT S μ := fr_m F (by decide)
theorem fCS {S μ : mM} (F : fr CS S μ) : fr CT S μ := fr_m F (by decide)
theorem s_67 {k : Nat} (h : gC 2 S = V) (ok : okC V) (hl : V 3 1 + (k : Int) ≤ 1000000) (E : envC S L H n s) (hk : k ≤ 48) : ∃ μ, mcall (d + 3) 67 [(27, 26), (0, (k : Int))] S = some (27, μ) ∧ gC 27 μ = psN s k V ∧ fr CT S μ := by
  obtain ⟨μ, m1, m2, m3⟩ := s_6t (d := d + 1) h
  have q : ∀ (m i : Nat) (σ : mM), i + m = k → gC 27 σ = psN s i V → fr CT S σ → ∃ μ, mgo (mcall (d + 2)) (mX 67 S) 67 16 [(27, 26), (0, (k : Int)), (0, (i : Int))] [] σ = some (27, μ) ∧ gC 27 μ = psN s k V ∧ fr CT S μ := by
    intro m
    induction m with
    | zero =>
      intro i σ hi g F
      refine ⟨σ, ?_, ?_, F⟩
      · rw [b_67_16, bLt_f (by omega)]
      · rw [g, show i = k by omega]
    | succ m ih =>
      intro i σ hi g F
      obtain ⟨o1, o2⟩ := okC_ps (s := s) ok i (by omega)
      obtain ⟨ν, n1, n2, n3⟩ := s_14a (d := d) (s := s) g o1 (by omega)
      obtain ⟨ξ, x1, x2, x3⟩ := ih (i + 1) ν (by omega) n2 (fr_t F (fCA n3))
      refine ⟨ξ, ?_, x2, x3⟩
      rw [b_67_16, bLt_t (by omega), (envC_T F E).2.2.2.2, n1, bK_t, w32_n (by omega)]
      exact x1
  obtain ⟨ν, n1, n2, n3⟩ := q k 0 μ (by omega) m2 (fCA m3)
  refine ⟨ν, ?_, n2, n3⟩
  rw [e_67, m1, bK_t]
  exact n1
theorem s_7 {c k q : Nat} (h : gC c S = V) (hq : q < 30) (hk : k < 3) : mcall (d + 1) 7 [(21, (c : Int)), (0, (q : Int)), (0, (k : Int))] S = some (V k q, S) := by
  rw [e_7]
  rcases (by omega : k = 0 ∨ k = 1 ∨ k = 2) with rfl | rfl | rfl
  · rw [bEq_t (by rfl), bIn_t (by omega), tn_n, gC_0 h hq]
  · rw [bEq_f (by omega), bEq_t (by rfl), bIn_t (by omega), tn_n, gC_1 h hq]
  · rw [bEq_f (by omega), bEq_f (by omega), bIn_t (by omega), tn_n, gC_2 h hq]
theorem s_144 {k q : Nat} (h : gM S = V) (hq : q < 30) (hk : k < 3) : mcall (d + 1) 144 [(30, 64), (0, (q : Int)), (0, (k : Int))] S = some (V k q, S) := by
  rw [e_144]
  rcases (by omega : k = 0 ∨ k = 1 ∨ k = 2) with rfl | rfl | rfl
  · rw [bEq_t (by rfl), bIn_t (by omega), tn_n, gM_0 h hq]
  · rw [bEq_f (by omega), bEq_t (by rfl), bIn_t (by omega), tn_n, gM_1 h hq]
  · rw [bEq_f (by omega), bEq_f (by omega), bEq_t (by rfl), bIn_t (by omega), tn_n, gM_2 h hq]
theorem envM_T {l : List Nat} {μ : mM} (hl : ∀ a ∈ l, a ∈ MT) (F : fm l S μ) (E : envM S L H n s) : envM μ L H n s := envM_f F (fun a ha => by
  have := hl a ha
  simp only [MT, List.mem_cons, List.not_mem_nil, or_false] at this ⊢
  omega) E
theorem s_180 {k : Nat} (h : gM S = V) (ok : okC V) (hl : V 3 1 + (k : Int) ≤ 1000000) (E : envM S L H n s) (hk : k ≤ 48) : ∃ μ, mcall (d + 4) 180 [(30, 64), (0, (k : Int))] S = some (0, μ) ∧ gM μ = psN s k V ∧ fm [] S μ := by
  have q : ∀ (m i : Nat) (σ : mM), i + m = k → gM σ = psN s i V → fm [] S σ → ∃ μ, mgo (mcall (d + 3)) (mX 180 S) 180 2 [(30, 64), (0, (k : Int)), (0, (i : Int))] [] σ = some (0, μ) ∧ gM μ = psN s k V ∧ fm [] S μ := by
    intro m
    induction m with
    | zero =>
      intro i σ hi g F
      refine ⟨σ, ?_, ?_, F⟩
      · rw [b_180_2, bLt_f (by omega)]
      · rw [g, show i = k by omega]
    | succ m ih =>
      intro i σ hi g F
      obtain ⟨o1, o2⟩ := okC_ps (s := s) ok i (by omega)
      obtain ⟨ν, n1, n2, n3⟩ := s_174k (d := d) (s := s) g o1 (by omega) (envM_T (by simp) F E).2.2.2.2.2
      obtain ⟨ξ, x1, x2, x3⟩ := ih (i + 1) ν (by omega) n2 (fm_t F n3)
      refine ⟨ξ, ?_, x2, x3⟩
      rw [b_180_2, bLt_t (by omega), n1, bK_t, w32_n (by omega)]
      exact x1
  rw [e_180]
  exact q k 0 S (by omega) h fm_r
/-- Behind n months -/
def laterA (L : List (List Int × List Int)) (s : Int) (V : cV) (x1 x2 x3 : Int) : Int := if 0 ≤ x1 ∧ x1 ≤ 48 then (if 0 ≤ x2 ∧ x2 < 30 then (if 0 ≤ x3 ∧ x3 ≤ 3 then (if x3 = 0 then wfA L (psN s x1.toNat V) x2.toNat else psN s x1.toNat V (x3 - 1).toNat x2.toNat) else -1) else -1) else -1
theorem s_94 {x1 x2 x3 : Int} (h : gC 2 S = V) (ok : okC V) (hl : V 3 1 ≤ 100000) (E : envC S L H n s) : ∃ μ, mcall (d + 6) 94 [(29, 0), (0, x1), (0, x2), (0, x3)] S = some (laterA L s V x1 x2 x3, μ) ∧ fr CT S μ := by
  rw [e_94, s_126, bK_t]
  unfold laterA
  by_cases h1 : 0 ≤ x1 ∧ x1 ≤ 48
  · rw [if_pos h1, if_pos h1, bEq_f (by omega), s_127, bK_t]
    by_cases h2 : 0 ≤ x2 ∧ x2 < 30
    · rw [if_pos h2, if_pos h2, bEq_f (by omega), s_126, bK_t]
      by_cases h3 : 0 ≤ x3 ∧ x3 ≤ 3
      · rw [if_pos h3, if_pos h3, bEq_f (by omega)]
        obtain ⟨k, hk⟩ : ∃ k : Nat, x1 = (k : Int) := ⟨x1.toNat, by omega⟩
        obtain ⟨q, hq⟩ : ∃ k : Nat, x2 = (k : Int) := ⟨x2.toNat, by omega⟩
        obtain ⟨t, ht⟩ : ∃ k : Nat, x3 = (k : Int) := ⟨x3.toNat, by omega⟩
        subst hk hq ht
        obtain ⟨μ, m1, m2, m3⟩ := s_67 (d := d + 2) (k := k) h ok (by omega) E (by omega)
        have E' := envC_T m3 E
        obtain ⟨o1, o2⟩ := okC_ps (s := s) ok k (by omega)
        rw [m1, bK_t, tn_n, tn_n]
        by_cases h0 : (t : Int) = 0
        · obtain ⟨w, hw⟩ : ∃ w : Nat, μ 1 6 = (w : Int) := ⟨_, E'.1.choose_spec.2.1⟩
          obtain ⟨ν, n1, n2⟩ := s_25e (d := d + 2) (Or.inr rfl) m2 o1 (q := q) (by omega) E' hw
          have n1' : mcall (d + 5) 25 [(22, (w : Int)), (21, 27), (0, (q : Int))] μ = some (wfA L (psN s k V) q, ν) := n1
          refine ⟨ν, ?_, fr_t m3 (fCS n2)⟩
          rw [bEq_t h0, if_pos h0, hw, bLt_f (by omega), n1', bK_t]
        · have n1 : mcall (d + 5) 7 [(21, 27), (0, (q : Int)), (0, ((t - 1 : Nat) : Int))] μ = some (psN s k V (t - 1) q, μ) := s_7 (d := d + 4) (c := 27) m2 (by omega) (by omega)
          have w1 : w32 ((t : Int) - 1) = ((t - 1 : Nat) : Int) := by rw [w32_e (by omega)]; omega
          refine ⟨μ, ?_, m3⟩
          rw [bEq_f h0, if_neg h0, w1, n1, bK_t, show ((t : Int) - 1).toNat = t - 1 by omega]
      · rw [if_neg h3, if_neg h3, bEq_t (by rfl)]; exact ⟨S, rfl, fr_r⟩
    · rw [if_neg h2, if_neg h2, bEq_t (by rfl)]; exact ⟨S, rfl, fr_r⟩
  · rw [if_neg h1, if_neg h1, bEq_t (by rfl)]; exact ⟨S, rfl, fr_r⟩
theorem s_181 {x1 x2 x3 : Int} (h : gM S = V) (ok : okC V) (hl : V 3 1 ≤ 100000) (E : envM S L H n s) : ∃ μ, mcall (d + 6) 181 [(30, 64), (0, x1), (0, x2), (0, x3)] S = some (laterA L s V x1 x2 x3, μ) ∧ fm MT S μ ∧ gM μ = V := by
  rw [e_181, s_136, bK_t]
  unfold laterA
  by_cases h1 : 0 ≤ x1 ∧ x1 ≤ 48
  · rw [if_pos h1, if_pos h1, bEq_f (by omega), s_134, bK_t]
    by_cases h2 : 0 ≤ x2 ∧ x2 < 30
    · rw [if_pos h2, if_pos h2, bEq_f (by omega), s_133, bK_t]
      by_cases h3 : 0 ≤ x3 ∧ x3 ≤ 3
      · rw [if_pos h3, if_pos h3, bEq_f (by omega)]
        obtain ⟨k, hk⟩ : ∃ k : Nat, x1 = (k : Int) := ⟨x1.toNat, by omega⟩
        obtain ⟨q, hq⟩ : ∃ k : Nat, x2 = (k : Int) := ⟨x2.toNat, by omega⟩
        obtain ⟨t, ht⟩ : ∃ k : Nat, x3 = (k : Int) := ⟨x3.toNat, by omega⟩
        subst hk hq ht
        obtain ⟨σ, s1, s2, s3⟩ := s_178k (d := d + 4) (x := 90) (by omega) h
        have s1' : mcall (d + 5) 178 [(30, 64), (1092, 90)] S = some (0, σ) := s1
        have gσ : gM σ = V := (gM_f s2 (by decide)).trans h
        obtain ⟨μ, m1, m2, m3⟩ := s_180 (d := d + 1) (k := k) gσ ok (by omega) (envM_T (by decide) (fm_f s2) E) (by omega)
        have E' := envM_T (by simp) m3 (envM_T (by decide) (fm_f s2) E)
        obtain ⟨o1, o2⟩ := okC_ps (s := s) ok k (by omega)
        have kμ : gK 90 μ = V := (gK_f m3 (by simp) (by omega)).trans s3
        rw [s1', bK_t, m1, bK_t, tn_n, tn_n]
        have F1 : fm MT S μ := fm_t (fm_m (fm_f s2) (by decide)) (fm_m m3 (by simp))
        by_cases h0 : (t : Int) = 0
        · obtain ⟨ν, n1, n2⟩ := s_169 (d := d + 1) m2 o1 (q := q) (by omega) E'.1 E'.2.1
          obtain ⟨ξ, x1, x2, x3⟩ := s_179k (d := d + 4) (x := 90) (S := ν) (by omega) rfl
          have x1' : mcall (d + 5) 179 [(30, 64), (1092, 90)] ν = some (0, ξ) := x1
          refine ⟨ξ, ?_, fm_t F1 (fm_t (fm_m (fm_f n2) (by decide)) (fm_m x3 (by simp))), x2.trans ((gK_f (fm_f n2) (by simp) (by omega)).trans kμ)⟩
          rw [bEq_t h0, if_pos h0, n1, bK_t, x1', bK_t]
        · have n1 : mcall (d + 5) 144 [(30, 64), (0, (q : Int)), (0, ((t - 1 : Nat) : Int))] μ = some (psN s k V (t - 1) q, μ) := s_144 (d := d + 4) m2 (by omega) (by omega)
          have w1 : w32 ((t : Int) - 1) = ((t - 1 : Nat) : Int) := by rw [w32_e (by omega)]; omega
          obtain ⟨ξ, x1, x2, x3⟩ := s_179k (d := d + 4) (x := 90) (S := μ) (by omega) rfl
          have x1' : mcall (d + 5) 179 [(30, 64), (1092, 90)] μ = some (0, ξ) := x1
          refine ⟨ξ, ?_, fm_t F1 (fm_m x3 (by simp)), x2.trans kμ⟩
          rw [bEq_f h0, if_neg h0, w1, n1, bK_t, x1', bK_t, show ((t : Int) - 1).toNat = t - 1 by omega]
      · rw [if_neg h3, if_neg h3, bEq_t (by rfl)]; exact ⟨S, rfl, fm_r, h⟩
    · rw [if_neg h2, if_neg h2, bEq_t (by rfl)]; exact ⟨S, rfl, fm_r, h⟩
  · rw [if_neg h1, if_neg h1, bEq_t (by rfl)]; exact ⟨S, rfl, fm_r, h⟩
def coldA (L : List (List Int × List Int)) (H : Nat → Nat → Int) (n : Nat) (s : Int) (V : cV) (x1 x2 : Int) : Int := if 0 ≤ x1 ∧ x1 ≤ 48 then (if 0 ≤ x2 ∧ x2 ≤ 1 then (if x2 = 0 then bitsA L H (psN s x1.toNat V) n else (wmA L (psN s x1.toNat V) 30 : Int)) else -1) else -1
theorem s_95 {x1 x2 : Int} (h : gC 2 S = V) (ok : okC V) (hl : V 3 1 ≤ 100000) (E : envC S L H n s) : ∃ μ, mcall (d + 7) 95 [(29, 0), (0, x1), (0, x2)] S = some (coldA L H n s V x1 x2, μ) ∧ fr CT S μ := by
  rw [e_95, s_126, bK_t]
  unfold coldA
  by_cases h1 : 0 ≤ x1 ∧ x1 ≤ 48
  · rw [if_pos h1, if_pos h1, bEq_f (by omega), s_126, bK_t]
    by_cases h2 : 0 ≤ x2 ∧ x2 ≤ 1
    · rw [if_pos h2, if_pos h2, bEq_f (by omega)]
      obtain ⟨k, hk⟩ : ∃ k : Nat, x1 = (k : Int) := ⟨x1.toNat, by omega⟩
      subst hk
      obtain ⟨μ, m1, m2, m3⟩ := s_67 (d := d + 3) (k := k) h ok (by omega) E (by omega)
      have E' := envC_T m3 E
      obtain ⟨o1, o2⟩ := okC_ps (s := s) ok k (by omega)
      rw [m1, bK_t, tn_n]
      by_cases h0 : x2 = 0
      · obtain ⟨ν, n1, n2⟩ := s_44 (d := d + 1) (Or.inr rfl) m2 o1 E'
        have n1' : mcall (d + 6) 44 [(24, 1), (21, 27)] μ = some (bitsA L H (psN s k V) n, ν) := n1
        refine ⟨ν, ?_, fr_t m3 (fCS n2)⟩
        rw [bEq_t h0, if_pos h0, n1', bK_t]
      · obtain ⟨ν, n1, n2⟩ := s_45 (d := d + 2) (Or.inr rfl) m2 o1 E'
        have n1' : mcall (d + 6) 45 [(24, 1), (21, 27)] μ = some ((wmA L (psN s k V) 30 : Int), ν) := n1
        refine ⟨ν, ?_, fr_t m3 (fCS n2)⟩
        rw [bEq_f h0, if_neg h0, n1', bK_t]
    · rw [if_neg h2, if_neg h2, bEq_t (by rfl)]; exact ⟨S, rfl, fr_r⟩
  · rw [if_neg h1, if_neg h1, bEq_t (by rfl)]; exact ⟨S, rfl, fr_r⟩
theorem s_183 {x1 x2 : Int} (h : gM S = V) (ok : okC V) (hl : V 3 1 ≤ 100000) (E : envM S L H n s) : ∃ μ, mcall (d + 7) 183 [(30, 64), (0, x1), (0, x2)] S = some (coldA L H n s V x1 x2, μ) ∧ fm MT S μ ∧ gM μ = V := by
  rw [e_183, s_136, bK_t]
  unfold coldA
  by_cases h1 : 0 ≤ x1 ∧ x1 ≤ 48
  · rw [if_pos h1, if_pos h1, bEq_f (by omega), s_133, bK_t]
    by_cases h2 : 0 ≤ x2 ∧ x2 ≤ 1
    · rw [if_pos h2, if_pos h2, bEq_f (by omega)]
      obtain ⟨k, hk⟩ : ∃ k : Nat, x1 = (k : Int) := ⟨x1.toNat, by omega⟩
      subst hk
      obtain ⟨σ, s1, s2, s3⟩ := s_178k (d := d + 5) (x := 90) (by omega) h
      have s1' : mcall (d + 6) 178 [(30, 64), (1092, 90)] S = some (0, σ) := s1
      have gσ : gM σ = V := (gM_f s2 (by decide)).trans h
      obtain ⟨μ, m1, m2, m3⟩ := s_180 (d := d + 2) (k := k) gσ ok (by omega) (envM_T (by decide) (fm_f s2) E) (by omega)
      have E' := envM_T (by simp) m3 (envM_T (by decide) (fm_f s2) E)
      obtain ⟨o1, o2⟩ := okC_ps (s := s) ok k (by omega)
      have kμ : gK 90 μ = V := (gK_f m3 (by simp) (by omega)).trans s3
      rw [s1', bK_t, m1, bK_t, tn_n]
      have F1 : fm MT S μ := fm_t (fm_m (fm_f s2) (by decide)) (fm_m m3 (by simp))
      by_cases h0 : x2 = 0
      · obtain ⟨ν, n1, n2⟩ := s_171 (d := d) m2 o1 E'
        obtain ⟨ξ, x1, x2, x3⟩ := s_179k (d := d + 5) (x := 90) (S := ν) (by omega) rfl
        have x1' : mcall (d + 6) 179 [(30, 64), (1092, 90)] ν = some (0, ξ) := x1
        refine ⟨ξ, ?_, fm_t F1 (fm_t (fm_m (fm_f n2) (by decide)) (fm_m x3 (by simp))), x2.trans ((gK_f (fm_f n2) (by simp) (by omega)).trans kμ)⟩
        rw [bEq_t h0, if_pos h0, n1, bK_t, x1', bK_t]
      · obtain ⟨ν, n1, n2⟩ := s_182 (d := d + 1) m2 o1 E'
        obtain ⟨ξ, x1, x2, x3⟩ := s_179k (d := d + 5) (x := 90) (S := ν) (by omega) rfl
        have x1' : mcall (d + 6) 179 [(30, 64), (1092, 90)] ν = some (0, ξ) := x1
        refine ⟨ξ, ?_, fm_t F1 (fm_t (fm_m (fm_f n2) (by decide)) (fm_m x3 (by simp))), x2.trans ((gK_f (fm_f n2) (by simp) (by omega)).trans kμ)⟩
        rw [bEq_f h0, if_neg h0, n1, bK_t, x1', bK_t]
    · rw [if_neg h2, if_neg h2, bEq_t (by rfl)]; exact ⟨S, rfl, fm_r, h⟩
  · rw [if_neg h1, if_neg h1, bEq_t (by rfl)]; exact ⟨S, rfl, fm_r, h⟩
end
