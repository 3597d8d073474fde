/-! PURE PART 21: the model's pulls in thought -/
section
variable {d n : Nat} {S : mM} {V : cV} {L : List (List Int × List Int)} {H : Nat → Nat → Int} {s : Int}
theorem s_179u (g : gK 90 S = V) : ∃ μ, mcall (d + 1) 179 [(30, 64), (1092, 90)] S = some (0, μ) ∧ fm [] S μ ∧ gM μ = V ∧ gK 90 μ = V := by
  obtain ⟨σ, s1, s2, s3⟩ := s_179k (d := d) (x := 90) (by omega) g
  exact ⟨σ, s1, s3, s2, (gK_f s3 (by simp) (by omega)).trans g⟩
theorem s_170u {h : Nat} {W : cV} (g : gM S = W) (k : gK 90 S = V) (ok : okC W) (hh : h < n) (E : envM S L H n s) : ∃ μ, mcall (d + 5) 170 [(30, 64), (0, (h : Int))] S = some (cdA L H W h, μ) ∧ gM μ = W ∧ gK 90 μ = V ∧ fm [79, 80] S μ := by
  obtain ⟨μ, m1, m2⟩ := s_170 (d := d) g ok hh E
  exact ⟨μ, m1, (gM_f m2 (by decide)).trans g, (gK_f (fm_f m2) (by simp) (by omega)).trans k, fm_f m2⟩
theorem fm_92 {l : List Nat} {σ μ : mM} (F : fm l σ μ) (hl : 92 ∉ l) (j : Nat) : μ 92 j = σ 92 j := congrFun (fm_e F hl (by omega)) j
def mvs (p : List Nat) (V : cV) : cV := p.foldl (fun V rw => moveA (rw / 2) (rw % 2) V) V
theorem mvs_s {p : List Nat} {a : Nat} : mvs (p ++ [a]) V = moveA (a / 2) (a % 2) (mvs p V) := by
  unfold mvs
  rw [List.foldl_append]
  rfl
theorem mvs_ok (ok : okC V) : ∀ p : List Nat, (∀ x ∈ p, x < 10) → okC (mvs p V) := by
  have h : ∀ (p : List Nat) (W : cV), okC W → (∀ x ∈ p, x < 10) → okC (mvs p W) := by
    intro p
    induction p with
    | nil => intro W o _; exact o
    | cons a t ih => intro W o hx; exact ih _ (okC_move o (by have := hx a (by simp); omega)) (fun x hx' => hx x (by simp [hx']))
  exact fun p => h p V ok
theorem s_186a {h N : Nat} {mx : Int × Int} {v2 : Int} (hN : N ≤ 3) : ∀ (r p : List Nat) (S : mM), p.length + r.length = N → (∀ x ∈ p ++ r, x < 10) → gM S = mvs p V → gK 90 S = V → okC V → chL S 92 p.length r → h < n → envM S L H n s → ∃ μ, mgo (mcall (d + 6)) mx 186 16 [(30, 64), (0, (h : Int)), (0, v2), (0, (N : Int)), (0, (p.length : Int))] [] S = some (resA (seA (nCd L H h) 0 (mvs (p ++ r) V)), μ) ∧ fm [79, 80] S μ ∧ gK 90 μ = V := by
  intro r
  induction r with
  | nil =>
    intro p S hp hx g k ok c hh E
    have hp : p.length = N := by simpa using hp
    rw [List.append_nil] at hx ⊢
    obtain ⟨μ, m1, m2, m3, m4⟩ := s_170u (d := d + 1) g k (mvs_ok ok p hx) hh E
    refine ⟨μ, ?_, m4, m3⟩
    rw [b_186_16, bLt_f (by omega), m1, bK_t]
    unfold seA nCd
    rcases cdA_b (L := L) (H := H) (V := mvs p V) h with c | c
    · rw [bEq_t c, bIn_t (by omega), c]; rfl
    · rw [bEq_f (by omega), bIn_t (by omega), c]; rfl
  | cons a t ih =>
    intro p S hp hx g k ok c hh E
    have hp' : p.length + (t.length + 1) = N := hp
    have ha : a < 10 := hx a (by simp)
    have okp : okC (mvs p V) := mvs_ok ok p (fun x hx' => hx x (by simp [hx']))
    obtain ⟨ν, n1, n2, n3, n4⟩ := s_175t (d := d + 4) (x := 90) (Or.inl rfl) g k okp ha
    obtain ⟨μ, m1, m2, m3⟩ := ih (p ++ [a]) ν (by simp; omega) (fun x hx' => hx x (by simpa using hx')) (n2.trans mvs_s.symm) n3 ok (by simp; exact chL_f (fun j _ => fm_92 n4 (by simp) j) c.2) hh (envM_T (by simp) n4 E)
    refine ⟨μ, ?_, fm_t (fm_m n4 (by simp)) m2, m3⟩
    rw [b_186_16, bLt_t (by omega), bIn_t (by omega), tn_n, c.1, n1, bK_t, w32_n (by omega)]
    rw [show (p ++ [a]).length = p.length + 1 by simp, show p ++ [a] ++ t = p ++ a :: t by simp] at m1
    exact m1
theorem chL_a {σ : mM} {x : Nat} : ∀ {l r : List Nat} {k : Nat}, chL σ x k (l ++ r) → chL σ x k l ∧ chL σ x (k + l.length) r := by
  intro l
  induction l with
  | nil => intro r k h; exact ⟨trivial, h⟩
  | cons a t ih =>
    intro r k h
    obtain ⟨h1, h2⟩ := ih h.2
    refine ⟨⟨h.1, h1⟩, ?_⟩
    rw [show k + (a :: t).length = k + 1 + t.length by simp; omega]
    exact h2
theorem chL_s {σ : mM} {x a : Nat} : ∀ {l : List Nat} {k : Nat}, chL σ x k l → chL (mset σ x (k + l.length) (a : Int)) x k (l ++ [a]) := by
  intro l
  induction l with
  | nil => intro k _; exact ⟨ms_e, trivial⟩
  | cons b t ih =>
    intro k h
    refine ⟨(ms_n (by right; simp)).trans h.1, ?_⟩
    have := ih h.2
    rw [show k + 1 + t.length = k + (b :: t).length by simp; omega] at this
    exact this
theorem s_186 {h N : Nat} (hN : N ≤ 3) : ∀ (m : Nat) (p : List Nat) (S : mM) (d : Nat), p.length + m = N → (∀ x ∈ p, x < 10) → gK 90 S = V → okC V → chL S 92 0 p → h < n → envM S L H n s → ∃ μ, mcall (d + 7 + m) 186 [(30, 64), (0, (h : Int)), (0, (p.length : Int)), (0, (N : Int))] S = some (resA (seA (nCd L H h) m (mvs p V)), μ) ∧ fm MT S μ ∧ gK 90 μ = V ∧ (∀ l, seA (nCd L H h) m (mvs p V) = some l → chL μ 92 p.length l) ∧ ∀ j, j < p.length → μ 92 j = S 92 j := by
  intro m
  induction m with
  | zero =>
    intro p S d hp hx k ok c hh E
    have hp : p.length = N := hp
    obtain ⟨σ, s1, s2, s3, s4⟩ := s_179u (d := d + 5) k
    obtain ⟨μ, m1, m2, m3⟩ := s_186a (d := d) (mx := mX 186 S) (v2 := (p.length : Int)) (L := L) (H := H) (s := s) (V := V) hN p [] σ (by simpa using hp) (by simpa using hx) s3 s4 ok (by simpa using chL_f (fun j _ => fm_92 s2 (by simp) j) c) hh (envM_T (by simp) s2 E)
    refine ⟨μ, ?_, fm_t (fm_m s2 (by simp)) (fm_m m2 (by decide)), m3, fun l hl => ?_, fun j _ => (fm_92 m2 (by simp) j).trans (fm_92 s2 (by simp) j)⟩
    · show mcall (d + 6 + 1) 186 [(30, 64), (0, (h : Int)), (0, (p.length : Int)), (0, (N : Int))] S = _
      rw [e_186, bEq_t (by omega), s1, bK_t]
      rw [List.nil_append] at m1
      exact m1
    · have := (seA_l 0 _ l hl).1
      match l, this with
      | [], _ => trivial
  | succ m ih =>
    intro p S d hp hx k ok c hh E
    have q : ∀ (j rw : Nat) (σ : mM), rw + j = 10 → gK 90 σ = V → fm MT S σ → chL σ 92 0 p → (∀ i, i < p.length → σ 92 i = S 92 i) → ∃ μ, mgo (mcall (d + 7 + m)) (mX 186 S) 186 56 [(30, 64), (0, (h : Int)), (0, (p.length : Int)), (0, (N : Int)), (0, (rw : Int))] [] σ = some (resA (sfA (nCd L H h) m (mvs p V) j rw), μ) ∧ fm MT S μ ∧ gK 90 μ = V ∧ (∀ l, sfA (nCd L H h) m (mvs p V) j rw = some l → chL μ 92 p.length l) ∧ ∀ i, i < p.length → μ 92 i = S 92 i := by
      intro j
      induction j with
      | zero =>
        intro rw σ hrw kσ F cσ c2
        refine ⟨σ, ?_, F, kσ, (fun l hl => by cases hl), c2⟩
        rw [b_186_56, bLt_f (by omega), bIn_t (by omega)]
        rfl
      | succ j ihj =>
        intro rw σ hrw kσ F cσ c2
        have F1 : fm MT S (mset σ 92 p.length (rw : Int)) := fm_t F (fm_f (fr_s fr_r (by decide)))
        have k1 : gK 90 (mset σ 92 p.length (rw : Int)) = V := (gK_f (l := [92]) (fm_f (fr_s fr_r (by decide))) (by decide) (by omega)).trans kσ
        have c1 : chL (mset σ 92 p.length (rw : Int)) 92 0 (p ++ [rw]) := by
          have := chL_s (a := rw) cσ
          rw [Nat.zero_add] at this
          exact this
        obtain ⟨ξ, x1, x2, x3, x4, x5⟩ := ih (p ++ [rw]) (mset σ 92 p.length (rw : Int)) d (by simp; omega) (fun x hx' => by
          rcases List.mem_append.mp hx' with h | h
          · exact hx x h
          · rw [List.mem_singleton] at h; omega) k1 ok c1 hh (envM_X F1 E)
        have F3 := fm_t F1 x2
        rw [show (p ++ [rw]).length = p.length + 1 by simp] at x1 x4 x5
        rw [mvs_s] at x1 x4
        have c3 : ∀ i, i < p.length → ξ 92 i = S 92 i := fun i hi => by rw [x5 i (by omega), ms_n (by omega), c2 i hi]
        have ck : ξ 92 p.length = (rw : Int) := by rw [x5 _ (by omega), ms_e]
        rw [b_186_56, bLt_t (by omega), bIn_t (by omega), tn_n, w32_n (by omega), x1, bK_t]
        cases hs : seA (nCd L H h) m (moveA (rw / 2) (rw % 2) (mvs p V)) with
        | none =>
          rw [show sfA (nCd L H h) m (mvs p V) (j + 1) rw = sfA (nCd L H h) m (mvs p V) j (rw + 1) by rw [sfA, hs], bEq_t (by rfl), w32_n (by omega)]
          refine ihj (rw + 1) ξ (by omega) x3 F3 ?_ c3
          have cc : ∀ i, i < p.length → ξ 92 i = σ 92 i := fun i hi => by rw [c3 i hi, c2 i hi]
          have gen : ∀ (l : List Nat) (k : Nat), k + l.length ≤ p.length → chL σ 92 k l → chL ξ 92 k l := by
            intro l
            induction l with
            | nil => intro k _ _; trivial
            | cons a t iht => intro k hk g; have hk : k + (t.length + 1) ≤ p.length := hk; exact ⟨(cc k (by omega)).trans g.1, iht (k + 1) (by omega) g.2⟩
          exact gen p 0 (by omega) cσ
        | some l =>
          rw [show sfA (nCd L H h) m (mvs p V) (j + 1) rw = some (rw :: l) by rw [sfA, hs], bEq_f (by show (1 : Int) ≠ 0; omega), bIn_t (by omega)]
          exact ⟨ξ, rfl, F3, x3, (fun l' hl' => by cases hl'; exact ⟨ck, x4 l hs⟩), c3⟩
    obtain ⟨μ, m1, m2, m3, m4, m5⟩ := q 10 0 S rfl k fm_r c (fun _ _ => rfl)
    refine ⟨μ, ?_, m2, m3, ?_, m5⟩
    · show mcall (d + 7 + m + 1) 186 [(30, 64), (0, (h : Int)), (0, (p.length : Int)), (0, (N : Int))] S = _
      rw [e_186, bEq_f (by omega), se_sf]
      exact m1
    · rw [se_sf]; exact m4
theorem s_187f {v1 y : Int} {mx : Int × Int} {l : List Nat} {N : Nat} (hy : ¬ y < -1) (hl : l.length ≤ 3) (k : gK 90 S = V) (c : chL S 92 0 l) : ∃ μ, mgo (mcall (d + 1)) mx 187 29 [(30, 64), (0, v1), (0, y), (0, (l.length : Int)), (0, (N : Int))] [] S = some (if y < 0 then (l.length : Int) else if y < (l.length : Int) then ((l.getD y.toNat 0 : Nat) : Int) else -2, μ) ∧ fm [] S μ ∧ gM μ = V := by
  obtain ⟨μ, m1, m2, m3, -⟩ := s_179u (d := d) k
  refine ⟨μ, ?_, m2, m3⟩
  have e : (bEq (l.length : Int) (-2) (some ((l.length : Int), μ)) (bEq y (-1) (some ((l.length : Int), μ)) (bLt y (l.length : Int) (bIn y 3 (some (μ 92 y.toNat, μ))) (some (-2, μ))))) = some (if y < 0 then (l.length : Int) else if y < (l.length : Int) then ((l.getD y.toNat 0 : Nat) : Int) else -2, μ) := by
    rw [bEq_f (by omega)]
    by_cases h3 : y < 0
    · rw [bEq_t (by omega), if_pos h3]
    · rw [bEq_f (by omega), if_neg h3]
      by_cases h4 : y < (l.length : Int)
      · have c := chL_g c (i := y.toNat) (by omega)
        rw [Nat.zero_add] at c
        rw [bLt_t h4, if_pos h4, bIn_t (by omega), fm_92 m2 (by simp), c]
      · rw [bLt_f (by omega), if_neg h4]
  rw [b_187_29]
  by_cases h1 : (N : Int) < 4
  · rw [bLt_t h1, bEq_f (by omega), m1, bK_t]; exact e
  · rw [bLt_f (by omega), m1, bK_t]; exact e
theorem s_187 {x y : Int} (g : gM S = V) (ok : okC V) (E : envM S L H n s) : ∃ μ, mcall (d + 11) 187 [(30, 64), (0, x), (0, y)] S = some (pullsA L H n V x y, μ) ∧ fm MT S μ ∧ gM μ = V := by
  rw [e_187, s_135 E.2.2.1 E.2.2.2.1, bK_t]
  unfold pullsA
  by_cases h1 : 0 ≤ x ∧ x < (n : Int)
  · rw [if_pos h1, if_pos h1, bEq_f (by omega)]
    by_cases h2 : y < -1
    · rw [bLt_t h2, if_pos h2]; exact ⟨S, rfl, fm_r, g⟩
    · obtain ⟨h, hh⟩ : ∃ h : Nat, x = (h : Int) := ⟨x.toNat, by omega⟩
      subst hh
      rw [bLt_f (by omega), if_neg h2, tn_n]
      have hh : h < n := by omega
      obtain ⟨σ, s1, s2, s3, s4⟩ := s_178t (d := d + 9) g
      have q : ∀ (j N : Nat) (σ : mM), N + j = 4 → gK 90 σ = V → fm MT S σ → ∃ μ, mgo (mcall (d + 10)) (mX 187 S) 187 29 [(30, 64), (0, (h : Int)), (0, y), (0, -2), (0, (N : Int))] [] σ = some (match fpA (nCd L H h) V j N with
          | none => -2
          | some l => if y < 0 then (l.length : Int) else if y < (l.length : Int) then ((l.getD y.toNat 0 : Nat) : Int) else -2, μ) ∧ fm MT S μ ∧ gM μ = V := by
        intro j
        induction j with
        | zero =>
          intro N σ hN k F
          obtain ⟨μ, m1, m2, m3, -⟩ := s_179t (d := d + 9) k
          refine ⟨μ, ?_, fm_t F m2, m3⟩
          rw [b_187_29, bLt_f (by omega), m1, bK_t, bEq_t (by rfl)]
          rfl
        | succ j ih =>
          intro N σ hN k F
          obtain ⟨ν, n1, n2, n3, n4, -⟩ := s_186 (L := L) (H := H) (s := s) (h := h) (N := N) (V := V) (by omega) N [] σ (d + 3 - N) (by simp) (fun x hx => by cases hx) k ok trivial hh (envM_X F E)
          have n1' : mcall (d + 10) 186 [(30, 64), (0, (h : Int)), (0, 0), (0, (N : Int))] σ = some (resA (seA (nCd L H h) N V), ν) := by
            rw [show d + 10 = d + 3 - N + 7 + N by omega]; exact n1
          have F2 := fm_t F n2
          rw [b_187_29, bLt_t (by omega), bEq_t (by rfl), n1', bK_t, w32_n (by omega)]
          cases hs : seA (nCd L H h) N V with
          | none =>
            rw [show fpA (nCd L H h) V (j + 1) N = fpA (nCd L H h) V j (N + 1) by rw [fpA, hs], bEq_t (by rfl)]
            exact ih (N + 1) ν (by omega) n3 F2
          | some l =>
            have hl := (seA_l N V l hs).1
            rw [show fpA (nCd L H h) V (j + 1) N = some l by rw [fpA, hs], bEq_f (by show (1 : Int) ≠ 0; omega), ← hl]
            obtain ⟨μ, m1, m2, m3⟩ := s_187f (d := d + 9) (v1 := (h : Int)) (mx := mX 187 S) (N := l.length + 1) h2 (by omega) n3 (n4 l hs)
            exact ⟨μ, m1, fm_t F2 (fm_m m2 (by simp)), m3⟩
      obtain ⟨μ, m1, m2, m3⟩ := q 4 0 σ rfl s4 s2
      rw [s1, bK_t]
      exact ⟨μ, m1, m2, m3⟩
  · rw [if_neg h1, if_neg h1, bEq_t (by rfl)]; exact ⟨S, rfl, fm_r, g⟩
end
