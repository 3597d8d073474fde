/-! PURE PART 40: walk, of alike -/
section
variable {mx : Int × Int} {σ σ0 : mM} {d s t nn k : Nat} {x y lv st : Int} {V : cV} {L : List (List Int × List Int)} {H : Nat → Nat → Int} {sl : Int} {xs : Nat → Int} {N : Int}
theorem l_103 (g : gC 2 σ0 = V) (ok : okC V) (E : envC σ0 L H nn sl) : ∀ (f q : Nat) (σ : mM), q + f = 30 → fr [15, 16, 22, 23, 34] σ0 σ → (∀ p, p < q → σ 34 p = wfA L V p) → ∃ σ', fr [15, 16, 22, 23, 34] σ0 σ' ∧ (∀ p, p < 30 → σ' 34 p = wfA L V p) ∧ mgo (mcall (d + 4)) mx 103 36 [(29, 0), (0, x), (0, y), (0, (q : Int))] [] σ = mgo (mcall (d + 4)) mx 103 36 [(29, 0), (0, x), (0, y), (0, 30)] [] σ' := by
  intro f
  induction f with
  | zero =>
    intro q σ hq F h
    have hq : q = 30 := by omega
    subst hq
    exact ⟨σ, F, h, rfl⟩
  | succ f ih =>
    intro q σ hq F h
    have E' := envC_f F (by decide) E
    obtain ⟨⟨w, k1, k2, k3⟩, -⟩ := E'
    obtain ⟨μ, m1, m2⟩ := s_25 (d := d + 1) (c := 2) (w := w) (q := q) (by omega) ((gC_f F (by intro a h1 h2; simp only [List.mem_cons, List.not_mem_nil, or_false]; omega)).trans g) ok (by omega) k3
    replace m1 : mcall (d + 4) 25 [(22, (w : Int)), (21, 2), (0, (q : Int))] σ = some (wfA L V q, μ) := m1
    have m3 : fr [15, 16, 22, 23, 34] σ μ := fr_m m2 (by intro a ha; simp only [List.mem_cons, List.not_mem_nil, or_false] at ha ⊢; omega)
    obtain ⟨σ', i1, i2, i3⟩ := ih (q + 1) (mset μ 34 q (wfA L V q)) (by omega) (fr_s (fr_t F m3) (by decide)) (fun p hp => by
      by_cases he : p = q
      · rw [he, ms_e]
      · rw [ms_n (by omega), fr_e m2 (by simp only [List.mem_cons, List.not_mem_nil, or_false]; omega)]; exact h p (by omega))
    refine ⟨σ', i1, i2, ?_⟩
    rw [b_103_36, bLt_t (by omega), k2, bLt_f (by omega), m1, bK_t, bIn_t (by omega), w32_n (by omega), tn_n]
    exact i3
theorem l_197 (hs : s < 30) (ht : t < 30) (g : gM σ0 = V) (ok : okC V) (E : envM σ0 L H nn sl) (hA : w32 (Int.tdiv x 100) = (s : Int)) (hB : Int.tmod x 100 = (t : Int)) (W : Wk (wfA L V) s t lv st) : ∀ (f m : Nat) (σ : mM), (m : Int) = lv + (f : Int) → m ≤ 99 → fr [79, 80, 93] σ0 σ → MF (wfA L V) s (m : Int) (σ 93) → ∃ σ', fr [79, 80, 93] σ0 σ' ∧ mgo (mcall (d + 5)) mx 197 47 [(30, 64), (0, x), (0, y), (0, (m : Int))] [] σ = some (if y = 0 then lv else st, σ') := by
  obtain ⟨w0, w1, w2, ⟨T, C, w3, w4⟩, w5⟩ := W
  intro f
  induction f with
  | zero =>
    intro m σ hm h99 F M
    have e : σ 93 t = st := by
      rw [MF_C M (T := T) (by rw [show (m : Int) = lv from by omega]; exact C) hs (by omega) t ht, if_pos (by omega), w3]
    have := C.2.1 t ht (by omega)
    refine ⟨σ, F, ?_⟩
    rw [b_197_47, bEq_f (by omega), hB, bIn_t (by omega), tn_n, bEq_f (by omega), e]
    by_cases hy : y = 0
    · rw [bEq_t hy, if_pos hy]; exact congrArg (fun z : Int => some (z, σ)) (by omega)
    · rw [bEq_f hy, if_neg hy, bEq_f (by omega), bIn_t (by omega)]
  | succ f ih =>
    intro m σ hm h99 F M
    have e : σ 93 t = 999 := by
      by_cases h1 : wfA L V s < (m : Int)
      · exact MF_0 M h1 t ht
      · by_cases h2 : wfA L V t < (m : Int)
        · have hts : t ≠ s := fun h => by rw [h] at h2; omega
          rcases M.2.1 t ht hts with e | ⟨-, -, e, -⟩
          · exact e
          · omega
        · obtain ⟨T', C', z⟩ := w5 (m : Int) (by omega) (by omega) (by omega)
          rw [MF_C M C' hs (by omega) t ht, if_neg (by omega)]
    obtain ⟨m', hm'⟩ : ∃ m' : Nat, m = m' + 1 := ⟨m - 1, by omega⟩
    obtain ⟨σ1, a1, a2, a3⟩ := s_196 (d := d) (s := s) (v := (m' : Int)) hs g ok E F
    obtain ⟨σ2, i1, i2⟩ := ih m' σ1 (by omega) (by omega) a2 a3
    refine ⟨σ2, i1, ?_⟩
    rw [b_197_47, bEq_f (by omega), hB, bIn_t (by omega), tn_n, bEq_t e, bEq_f (by omega), hA, w32_e (by omega), show (m : Int) + (-1) = (m' : Int) from by omega, a1, bK_t]
    exact i2
theorem r_walk : cR 103 197 [(0, x), (0, y)] := by
  intro d xs N k σ hk R
  have R' := R
  obtain ⟨V, L, H, n, s, b, ⟨a1, a2, a3, -⟩, ⟨e1, e2, -⟩, -⟩ := R
  have sm : ∀ r : Int, mcall (d + 40) 103 [(29, 0), (0, x), (0, y)] σ = some (r, σ) → mcall (d + 40) 197 [(30, 64), (0, x), (0, y)] σ = some (r, σ) → ∃ r σ1 σ2, mcall (d + 40) 103 [(29, 0), (0, x), (0, y)] σ = some (r, σ1) ∧ mcall (d + 40) 197 [(30, 64), (0, x), (0, y)] σ1 = some (r, σ2) ∧ RR xs N (k + 1) σ2 ∧ σ1 903 = σ 903 ∧ σ1 904 = σ 904 := fun r h1 h2 => ⟨r, σ, σ, h1, h2, RR_i R', rfl, rfl⟩
  by_cases h0 : x < 0
  · exact sm (-1) (by rw [e_103, bLt_t h0]) (by rw [e_197, bLt_t h0])
  by_cases hA : 0 ≤ w32 (Int.tdiv x 100) ∧ w32 (Int.tdiv x 100) < 30
  · by_cases hB : 0 ≤ Int.tmod x 100 ∧ Int.tmod x 100 < 30
    · by_cases hy : 0 ≤ y ∧ y ≤ 1
      · obtain ⟨s, hs⟩ : ∃ s : Nat, w32 (Int.tdiv x 100) = (s : Int) := ⟨(w32 (Int.tdiv x 100)).toNat, (Int.toNat_of_nonneg hA.1).symm⟩
        obtain ⟨t, ht⟩ : ∃ t : Nat, Int.tmod x 100 = (t : Int) := ⟨(Int.tmod x 100).toNat, (Int.toNat_of_nonneg hB.1).symm⟩
        have hs30 : s < 30 := by have := hA.2; rw [hs] at this; omega
        have ht30 : t < 30 := by have := hB.2; rw [ht] at this; omega
        obtain ⟨σ1, b1, b2, b3⟩ := l_103 (d := d + 35) (mx := mX 103 σ) (x := x) (y := y) a1 a3 e1 30 0 σ (by omega) fr_r (fun p hp => absurd hp (by omega))
        obtain ⟨σ2, lv, st, c1, c2, c3, c4, c5⟩ := s_83 (d := d + 35) (σ := σ1) hs30 ht30 (wf := wfA L V) (fun p => wfA_b) b2
        have p1 : mcall (d + 40) 103 [(29, 0), (0, x), (0, y)] σ = some (if y = 0 then lv else st, σ2) := by
          rw [e_103, bLt_f (Int.not_lt.mp h0), bEq_f (by decide), s_127, bK_t, if_pos hA, bEq_f (by decide), bEq_f (by decide), s_127, bK_t, if_pos hB, bEq_f (by decide), s_126, bK_t, if_pos hy, bEq_f (by decide)]
          refine b3.trans ?_
          rw [b_103_36, bLt_f (by decide), bEq_f (by decide), bEq_f (by decide), hs, ht, c1, bK_t, c3, c4]
          by_cases h : y = 0
          · rw [bEq_t h, if_pos h]
          · rw [bEq_f h, if_neg h]
        have F1 : fr [15, 16, 22, 23, 33, 34, 35, 36, 37] σ σ2 := fr_t (fr_m b1 (by decide)) (fr_m c2 (by decide))
        have gm : gM σ2 = V := (gM_f F1 (by decide)).trans a2
        have E2 := envM_f (fm_f F1) (by decide) e2
        obtain ⟨σ3, d1, d2, d3⟩ := s_196 (d := d + 34) (s := s) (v := 99) hs30 gm a3 E2 fr_r
        have wb : wfA L V s ≤ 99 := wfA_b.2
        have l0 := c5.1
        have l1 := c5.2.1
        obtain ⟨σ4, f1, f2⟩ := l_197 (d := d + 34) (mx := mX 197 σ2) (y := y) hs30 ht30 gm a3 E2 hs ht c5 (99 - lv).toNat 99 σ3 (by omega) (by omega) d2 d3
        refine ⟨_, σ2, σ4, p1, ?_, RR_s R' (fun a j h => ?_), F1 903 (by decide), F1 904 (by decide)⟩
        · rw [e_197, bLt_f (Int.not_lt.mp h0), bEq_f (by decide), s_134, bK_t, if_pos hA, bEq_f (by decide), bEq_f (by decide), s_134, bK_t, if_pos hB, bEq_f (by decide), s_133, bK_t, if_pos hy, bEq_f (by decide), bEq_f (by decide), hs, d1, bK_t]
          exact f2
        · unfold SC at h
          rw [fr_e f1 (by simp only [List.mem_cons, List.not_mem_nil, or_false]; omega), fr_e F1 (by simp only [List.mem_cons, List.not_mem_nil, or_false]; omega)]
      · refine sm (-1) ?_ ?_
        · rw [e_103, bLt_f (Int.not_lt.mp h0), bEq_f (by decide), s_127, bK_t, if_pos hA, bEq_f (by decide), bEq_f (by decide), s_127, bK_t, if_pos hB, bEq_f (by decide), s_126, bK_t, if_neg hy, bEq_t rfl]
        · rw [e_197, bLt_f (Int.not_lt.mp h0), bEq_f (by decide), s_134, bK_t, if_pos hA, bEq_f (by decide), bEq_f (by decide), s_134, bK_t, if_pos hB, bEq_f (by decide), s_133, bK_t, if_neg hy, bEq_t rfl]
    · refine sm (-1) ?_ ?_
      · rw [e_103, bLt_f (Int.not_lt.mp h0), bEq_f (by decide), s_127, bK_t, if_pos hA, bEq_f (by decide), bEq_f (by decide), s_127, bK_t, if_neg hB, bEq_t rfl]
      · rw [e_197, bLt_f (Int.not_lt.mp h0), bEq_f (by decide), s_134, bK_t, if_pos hA, bEq_f (by decide), bEq_f (by decide), s_134, bK_t, if_neg hB, bEq_t rfl]
  · refine sm (-1) ?_ ?_
    · rw [e_103, bLt_f (Int.not_lt.mp h0), bEq_f (by decide), s_127, bK_t, if_neg hA, bEq_t rfl]
    · rw [e_197, bLt_f (Int.not_lt.mp h0), bEq_f (by decide), s_134, bK_t, if_neg hA, bEq_t rfl]
end
