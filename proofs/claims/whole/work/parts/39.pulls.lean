/-! PURE PART 20: pulls in thought -/
section
variable {d n : Nat} {S : mM} {V : cV} {L : List (List Int × List Int)} {H : Nat → Nat → Int} {s : Int}
theorem s_17t {l way : Nat} {W : cV} (g : gC 27 S = W) (ok : okC W) (hl : l < 5) (hw : way < 2) : ∃ μ, mcall (d + 2) 17 [(21, 27), (0, (l : Int)), (0, (way : Int))] S = some (0, μ) ∧ gC 27 μ = moveA l way W ∧ fr CA S μ := by
  obtain ⟨μ, m1, m2, m3, -⟩ := opC (f := mcall (d + 2) 17 [(21, ((27 : Nat) : Int)), (0, (l : Int)), (0, (way : Int))]) g (okC_move (way := way) ok hl).1 (s_17 hl hw)
  exact ⟨μ, m1, m2, m3⟩
theorem s_175t {rw : Nat} {W : cV} {x : Nat} (hx : x = 90 ∨ x = 91) (g : gM S = W) (k : gK x S = V) (ok : okC W) (hr : rw < 10) : ∃ μ, mcall (d + 2) 175 [(30, 64), (0, (rw : Int))] S = some (0, μ) ∧ gM μ = moveA (rw / 2) (rw % 2) W ∧ gK x μ = V ∧ fm [] S μ := by
  obtain ⟨μ, m1, m2, m3⟩ := opM (f := mcall (d + 2) 175 [(30, 64), (0, (rw : Int))]) g (okC_move (way := rw % 2) ok (show rw / 2 < 5 by omega)).1 (s_175 hr)
  exact ⟨μ, m1, m2, (gK_f m3 (by simp) (by omega)).trans k, m3⟩
/-- a search for pulls: the numbers chosen, if there are so many that leave it not cold -/
def seA (P : cV → Bool) : Nat → cV → Option (List Nat)
  | 0, V => bif P V then some [] else none
  | m + 1, V => (List.range 10).findSome? fun rw => (seA P m (moveA (rw / 2) (rw % 2) V)).map (rw :: ·)
theorem seA_l {P : cV → Bool} : ∀ (m : Nat) (V : cV) (l : List Nat), seA P m V = some l → l.length = m ∧ ∀ x ∈ l, x < 10 := by
  intro m
  induction m with
  | zero =>
    intro V l h
    unfold seA at h
    cases hp : P V
    · rw [hp] at h; cases h
    · rw [hp] at h; cases h; exact ⟨rfl, fun x hx => by cases hx⟩
  | succ m ih =>
    intro V l h
    obtain ⟨rw, h1, h2⟩ := List.exists_of_findSome?_eq_some h
    obtain ⟨l', h3, h4⟩ := Option.map_eq_some_iff.mp h2
    obtain ⟨i1, i2⟩ := ih _ _ h3
    subst h4
    refine ⟨by simp [i1], fun x hx => ?_⟩
    rcases List.mem_cons.mp hx with rfl | hx
    · exact List.mem_range.mp h1
    · exact i2 x hx
def nCd (L : List (List Int × List Int)) (H : Nat → Nat → Int) (h : Nat) (V : cV) : Bool := decide (cdA L H V h = 0)
/-- the rest of a search, from a number on -/
def sfA (P : cV → Bool) (m : Nat) (V : cV) : Nat → Nat → Option (List Nat)
  | 0, _ => none
  | j + 1, rw => match seA P m (moveA (rw / 2) (rw % 2) V) with
    | some l => some (rw :: l)
    | none => sfA P m V j (rw + 1)
theorem sf_e {P : cV → Bool} {m : Nat} {V : cV} : ∀ j rw, rw + j = 10 → ((List.range' rw j).findSome? fun rw => (seA P m (moveA (rw / 2) (rw % 2) V)).map (rw :: ·)) = sfA P m V j rw := by
  intro j
  induction j with
  | zero => intro rw _; rfl
  | succ j ih =>
    intro rw h
    rw [List.range'_succ, List.findSome?_cons]
    unfold sfA
    cases seA P m (moveA (rw / 2) (rw % 2) V) with
    | none => exact ih (rw + 1) (by omega)
    | some l => rfl
theorem se_sf {P : cV → Bool} {m : Nat} {V : cV} : seA P (m + 1) V = sfA P m V 10 0 := by
  show ((List.range 10).findSome? fun rw => (seA P m (moveA (rw / 2) (rw % 2) V)).map (rw :: ·)) = _
  rw [List.range_eq_range']
  exact sf_e 10 0 rfl
/-- numbers laid from a place on -/
def chL (σ : mM) (x k : Nat) : List Nat → Prop
  | [] => True
  | a :: t => σ x k = (a : Int) ∧ chL σ x (k + 1) t
theorem chL_f {σ μ : mM} {x : Nat} : ∀ {l : List Nat} {k : Nat}, (∀ j, k ≤ j → μ x j = σ x j) → chL σ x k l → chL μ x k l := by
  intro l
  induction l with
  | nil => intro k _ _; trivial
  | cons a t ih => intro k h g; exact ⟨(h k (Nat.le_refl _)).trans g.1, ih (fun j hj => h j (by omega)) g.2⟩
theorem chL_g {σ : mM} {x : Nat} : ∀ {l : List Nat} {k i : Nat}, chL σ x k l → i < l.length → σ x (k + i) = ((l.getD i 0 : Nat) : Int) := by
  intro l
  induction l with
  | nil => intro k i _ h; cases h
  | cons a t ih =>
    intro k i g h
    cases i with
    | zero => exact g.1
    | succ i => rw [show k + (i + 1) = (k + 1) + i by omega]; exact ih g.2 (by simp at h; omega)
def resA (o : Option (List Nat)) : Int := match o with
  | some _ => 1
  | none => 0
theorem s_71 {h N : Nat} (hN : N ≤ 3) : ∀ (m k : Nat) (W : cV) (S : mM) (d : Nat), k + m = N → gC 27 S = W → okC W → h < n → envC S L H n s → ∃ μ, mcall (d + 5 + m) 71 [(27, 26), (0, (h : Int)), (0, (k : Int)), (0, (N : Int))] S = some (resA (seA (nCd L H h) m W), μ) ∧ gC 27 μ = W ∧ fr CT S μ ∧ (∀ l, seA (nCd L H h) m W = some l → chL μ 32 k l) ∧ ∀ j, j < k → μ 32 j = S 32 j := by
  intro m
  induction m with
  | zero =>
    intro k W S d hk g ok hh E
    obtain ⟨μ, m1, m2⟩ := s_43 (d := d) (c := 27) (Or.inr rfl) g ok hh E
    have m1' : mcall (d + 4) 43 [(24, 1), (21, 27), (0, (h : Int))] S = some (cdA L H W h, μ) := m1
    refine ⟨μ, ?_, (gC_S (Or.inr rfl) m2).trans g, fCS m2, fun l hl => ?_, fun j _ => fr_e m2 (by decide) j⟩
    · show mcall (d + 4 + 1) 71 [(27, 26), (0, (h : Int)), (0, (k : Int)), (0, (N : Int))] S = _
      rw [e_71, bLt_f (by omega), m1', bK_t]
      unfold seA nCd
      rcases cdA_b (L := L) (H := H) (V := W) h with c | c
      · rw [bEq_t c, bIn_t (by omega), c]; rfl
      · rw [bEq_f (by omega), bIn_t (by omega), c]; rfl
    · unfold seA at hl
      cases hp : nCd L H h W
      · rw [hp] at hl; cases hl
      · rw [hp] at hl; cases hl; trivial
  | succ m ih =>
    intro k W S d hk g ok hh E
    have q : ∀ (j rw : Nat) (σ : mM), rw + j = 10 → gC 27 σ = W → fr CT S σ → (∀ i, i < k → σ 32 i = S 32 i) → ∃ μ, mgo (mcall (d + 5 + m)) (mX 71 S) 71 37 [(27, 26), (0, (h : Int)), (0, (k : Int)), (0, (N : Int)), (0, 0), (0, (rw : Int))] [] σ = some (resA (sfA (nCd L H h) m W j rw), μ) ∧ gC 27 μ = W ∧ fr CT S μ ∧ (∀ l, sfA (nCd L H h) m W j rw = some l → chL μ 32 k l) ∧ ∀ i, i < k → μ 32 i = S 32 i := by
      intro j
      induction j with
      | zero =>
        intro rw σ hrw gσ F c
        refine ⟨σ, ?_, gσ, F, (fun l hl => by cases hl), c⟩
        rw [b_71_37, bLt_f (by omega), bIn_t (by omega)]
        rfl
      | succ j ihj =>
        intro rw σ hrw gσ F c
        have t1 : Unit → w32 (Int.tdiv (rw : Int) 2) = ((rw / 2 : Nat) : Int) := fun _ => by rw [show Int.tdiv (rw : Int) 2 = ((rw / 2 : Nat) : Int) from rfl, w32_e (by omega)]
        have t2 : Unit → Int.tmod (rw : Int) 2 = ((rw % 2 : Nat) : Int) := fun _ => rfl
        have t3 : Unit → w32 (1 - ((rw % 2 : Nat) : Int)) = ((1 - rw % 2 : Nat) : Int) := fun _ => by rw [w32_e (by omega)]; omega
        have F1 : fr CT S (mset σ 32 k (rw : Int)) := fr_s F (by decide)
        have g1 : gC 27 (mset σ 32 k (rw : Int)) = W := (gC_f (l := [32]) (fr_s fr_r (by decide)) (fun a h1 h2 => by simp only [List.mem_singleton]; omega)).trans gσ
        obtain ⟨ν, n1, n2, n3⟩ := s_17t (d := d + 3 + m) (l := rw / 2) (way := rw % 2) g1 ok (by omega) (by omega)
        have n1' : mcall (d + 5 + m) 17 [(21, 27), (0, ((rw / 2 : Nat) : Int)), (0, ((rw % 2 : Nat) : Int))] (mset σ 32 k (rw : Int)) = some (0, ν) := by
          rw [show d + 5 + m = d + 3 + m + 2 by omega]; exact n1
        have F2 := fr_t F1 (fCA n3)
        have ok2 := okC_move (l := rw / 2) (way := rw % 2) ok (by omega)
        obtain ⟨ξ, x1, x2, x3, x4, x5⟩ := ih (k + 1) _ ν d (by omega) n2 ok2 hh (envC_T F2 E)
        have F3 := fr_t F2 x3
        obtain ⟨ζ, z1, z2, z3⟩ := s_17t (d := d + 3 + m) (l := rw / 2) (way := 1 - rw % 2) x2 ok2 (by omega) (by omega)
        have z1' : mcall (d + 5 + m) 17 [(21, 27), (0, ((rw / 2 : Nat) : Int)), (0, ((1 - rw % 2 : Nat) : Int))] ξ = some (0, ζ) := by
          rw [show d + 5 + m = d + 3 + m + 2 by omega]; exact z1
        have F4 := fr_t F3 (fCA z3)
        rw [move_u (by omega)] at z2
        have c32 : ∀ i, ζ 32 i = ξ 32 i := fun i => fr_e z3 (by decide) i
        have n32 : ∀ i, ν 32 i = mset σ 32 k (rw : Int) 32 i := fun i => fr_e n3 (by decide) i
        have ck : ∀ i, i < k → ζ 32 i = S 32 i := fun i hi => by rw [c32, x5 i (by omega), n32, ms_n (by omega), c i hi]
        have ckk : ζ 32 k = (rw : Int) := by rw [c32, x5 k (by omega), n32, ms_e]
        have st : mgo (mcall (d + 5 + m)) (mX 71 S) 71 37 [(27, 26), (0, (h : Int)), (0, (k : Int)), (0, (N : Int)), (0, 0), (0, (rw : Int))] [] σ = mgo (mcall (d + 5 + m)) (mX 71 S) 71 37 [(27, 26), (0, (h : Int)), (0, (k : Int)), (0, (N : Int)), (0, resA (seA (nCd L H h) m (moveA (rw / 2) (rw % 2) W))), (0, ((rw + 1 : Nat) : Int))] [] ζ := by
          rw [b_71_37, bLt_t (by omega), bEq_t (by rfl), bIn_t (by omega), bEq_f (by omega), bEq_f (by omega), t1 (), t2 (), tn_n, n1', bK_t, w32_n (by omega), x1, bK_t, bEq_f (by omega), bEq_f (by omega), t3 (), z1', bK_t, w32_n (by omega)]
        rw [st]
        cases hs : seA (nCd L H h) m (moveA (rw / 2) (rw % 2) W) with
        | none =>
          rw [show sfA (nCd L H h) m W (j + 1) rw = sfA (nCd L H h) m W j (rw + 1) by rw [sfA, hs]]
          exact ihj (rw + 1) ζ (by omega) z2 F4 ck
        | some l =>
          rw [show sfA (nCd L H h) m W (j + 1) rw = some (rw :: l) by rw [sfA, hs]]
          refine ⟨ζ, ?_, z2, F4, fun l' hl' => ?_, ck⟩
          · show mgo (mcall (d + 5 + m)) (mX 71 S) 71 37 [(27, 26), (0, (h : Int)), (0, (k : Int)), (0, (N : Int)), (0, 1), (0, ((rw + 1 : Nat) : Int))] [] ζ = some (1, ζ)
            rw [b_71_37]
            by_cases h1 : ((rw + 1 : Nat) : Int) < 10
            · rw [bLt_t h1, bEq_f (by omega), bIn_t (by omega)]
            · rw [bLt_f (by omega), bIn_t (by omega)]
          · cases hl'
            exact ⟨ckk, chL_f (fun j _ => c32 j) (x4 l hs)⟩
    obtain ⟨μ, m1, m2, m3, m4, m5⟩ := q 10 0 S rfl g fr_r (fun _ _ => rfl)
    refine ⟨μ, ?_, m2, m3, ?_, m5⟩
    · show mcall (d + 5 + m + 1) 71 [(27, 26), (0, (h : Int)), (0, (k : Int)), (0, (N : Int))] S = _
      rw [e_71, bLt_t (by omega), bLt_t (by omega), se_sf]
      exact m1
    · rw [se_sf]; exact m4
/-- fewest -/
def fpA (P : cV → Bool) (V : cV) : Nat → Nat → Option (List Nat)
  | 0, _ => none
  | j + 1, N => match seA P N V with
    | some l => some l
    | none => fpA P V j (N + 1)
def fewA (o : Option (List Nat)) : Int := match o with
  | some l => (l.length : Int)
  | none => -2
theorem s_70 {h : Nat} (g : gC 2 S = V) (ok : okC V) (hh : h < n) (E : envC S L H n s) : ∃ μ, mcall (d + 9) 70 [(27, 26), (0, (h : Int))] S = some (fewA (fpA (nCd L H h) V 4 0), μ) ∧ fr CT S μ ∧ ∀ l, fpA (nCd L H h) V 4 0 = some l → chL μ 32 0 l := by
  obtain ⟨μ, m1, m2, m3⟩ := s_6t (d := d + 7) g
  have q : ∀ (j N : Nat) (σ : mM), N + j = 4 → gC 27 σ = V → fr CT S σ → ∃ μ, mgo (mcall (d + 8)) (mX 70 S) 70 16 [(27, 26), (0, (h : Int)), (0, (N : Int))] [] σ = some (fewA (fpA (nCd L H h) V j N), μ) ∧ fr CT S μ ∧ ∀ l, fpA (nCd L H h) V j N = some l → chL μ 32 0 l := by
    intro j
    induction j with
    | zero =>
      intro N σ hN gσ F
      refine ⟨σ, ?_, F, fun l hl => by cases hl⟩
      rw [b_70_16, bLt_t (by omega)]
      rfl
    | succ j ih =>
      intro N σ hN gσ F
      obtain ⟨ν, n1, n2, n3, n4, -⟩ := s_71 (L := L) (H := H) (s := s) (h := h) (N := N) (by omega) N 0 V σ (d + 3 - N) (by omega) gσ ok hh (envC_T F E)
      have n1' : mcall (d + 8) 71 [(27, 26), (0, (h : Int)), (0, 0), (0, (N : Int))] σ = some (resA (seA (nCd L H h) N V), ν) := by
        rw [show d + 8 = d + 3 - N + 5 + N by omega]; exact n1
      rw [b_70_16, bLt_f (by omega), n1', bK_t]
      cases hs : seA (nCd L H h) N V with
      | none =>
        rw [show fpA (nCd L H h) V (j + 1) N = fpA (nCd L H h) V j (N + 1) by rw [fpA, hs], bEq_t (by rfl), w32_n (by omega)]
        exact ih (N + 1) ν (by omega) n2 (fr_t F n3)
      | some l =>
        rw [show fpA (nCd L H h) V (j + 1) N = some l by rw [fpA, hs], bEq_f (by show (1 : Int) ≠ 0; omega)]
        have hl := (seA_l N V l hs).1
        refine ⟨ν, ?_, fr_t F n3, fun l' hl' => by cases hl'; exact n4 l hs⟩
        show some ((N : Int), ν) = some ((l.length : Int), ν)
        rw [hl]
  obtain ⟨ν, n1, n2, n3⟩ := q 4 0 μ rfl m2 (fCA m3)
  refine ⟨ν, ?_, n2, n3⟩
  rw [e_70, m1, bK_t]
  exact n1
def pullsA (L : List (List Int × List Int)) (H : Nat → Nat → Int) (n : Nat) (V : cV) (x y : Int) : Int := if 0 ≤ x ∧ x < (n : Int) then (if y < -1 then -1 else match fpA (nCd L H x.toNat) V 4 0 with
  | none => -2
  | some l => if y < 0 then (l.length : Int) else if y < (l.length : Int) then ((l.getD y.toNat 0 : Nat) : Int) else -2) else -1
theorem fp_l {P : cV → Bool} : ∀ (j N : Nat) (l : List Nat), fpA P V j N = some l → N ≤ l.length ∧ l.length < N + j ∧ ∀ x ∈ l, x < 10 := by
  intro j
  induction j with
  | zero => intro N l h; cases h
  | succ j ih =>
    intro N l h
    unfold fpA at h
    cases hs : seA P N V with
    | none => rw [hs] at h; obtain ⟨a, b, c⟩ := ih (N + 1) l h; exact ⟨by omega, by omega, c⟩
    | some l' => rw [hs] at h; cases h; obtain ⟨a, b⟩ := seA_l N V l hs; exact ⟨by omega, by omega, b⟩
theorem s_98 {x y : Int} (g : gC 2 S = V) (ok : okC V) (E : envC S L H n s) : ∃ μ, mcall (d + 10) 98 [(29, 0), (0, x), (0, y)] S = some (pullsA L H n V x y, μ) ∧ fr CT S μ := by
  rw [e_98, s_38 E.2.1, bK_t]
  unfold pullsA
  by_cases h1 : 0 ≤ x ∧ x < (n : Int)
  · rw [if_pos h1, if_pos h1, bEq_f (by omega)]
    by_cases h2 : y < -1
    · rw [bLt_t h2, if_pos h2]; exact ⟨S, rfl, fr_r⟩
    · obtain ⟨h, hh⟩ : ∃ h : Nat, x = (h : Int) := ⟨x.toNat, by omega⟩
      subst hh
      obtain ⟨μ, m1, m2, m3⟩ := s_70 (d := d) (h := h) g ok (by omega) E
      rw [bLt_f (by omega), if_neg h2, m1, bK_t, tn_n]
      refine ⟨μ, ?_, m2⟩
      cases hf : fpA (nCd L H h) V 4 0 with
      | none =>
        show bLt y 0 (some (-2, μ)) (bLt (-2) 0 (some (-2, μ)) _) = some (-2, μ)
        by_cases h3 : y < 0
        · rw [bLt_t h3]
        · rw [bLt_f (by omega), bLt_t (by omega)]
      | some l =>
        obtain ⟨-, b2, -⟩ := fp_l 4 0 l hf
        show bLt y 0 (some ((l.length : Int), μ)) (bLt (l.length : Int) 0 (some ((l.length : Int), μ)) (bLt y (l.length : Int) _ _)) = some (if y < 0 then (l.length : Int) else if y < (l.length : Int) then ((l.getD y.toNat 0 : Nat) : Int) else -2, μ)
        by_cases h3 : y < 0
        · rw [bLt_t h3, if_pos h3]
        · rw [bLt_f (by omega), bLt_f (by omega), if_neg h3]
          by_cases h4 : y < (l.length : Int)
          · have c := chL_g (m3 l hf) (i := y.toNat) (by omega)
            rw [bLt_t h4, if_pos h4, bIn_t (by omega)]
            rw [Nat.zero_add] at c
            rw [c]
          · rw [bLt_f (by omega), if_neg h4]
  · rw [if_neg h1, if_neg h1, bEq_t (by rfl)]; exact ⟨S, rfl, fr_r⟩
end
