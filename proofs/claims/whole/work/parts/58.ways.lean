/-! PURE PART 38: ways, in the model -/
section
variable {K : mK} {mx : Int × Int} {v1 v2 v3 v4 v5 : Int} {σ σ0 : mM} {u u4 u5 u6 : mV} {d s t n c w : Nat} {wf F : Nat → Int} {v : Int}
def MF (wf : Nat → Int) (s : Nat) (v : Int) (F : Nat → Int) : Prop := F s = (if wf s < v then 999 else 0) ∧ (∀ p, p < 30 → p ≠ s → F p = 999 ∨ (1 ≤ F p ∧ F p ≤ 31 ∧ v ≤ wf p ∧ ∃ q w, q < 30 ∧ w < 4 ∧ besA q w = (p : Int) ∧ F p = F q + 1)) ∧ (∀ q w p : Nat, q < 30 → w < 4 → F q ≤ 29 → besA q w = (p : Int) → v ≤ wf p → F p ≤ F q + 1)
theorem MF_0 (M : MF wf s v F) (h : wf s < v) : ∀ p, p < 30 → F p = 999 := by
  obtain ⟨m1, m2, -⟩ := M
  rw [if_pos h] at m1
  have key : ∀ (n : Nat) (p : Nat), p < 30 → F p = (n : Int) → n ≤ 31 → False := by
    intro n
    induction n with
    | zero =>
      intro p hp e _
      by_cases hs : p = s
      · subst hs; omega
      · rcases m2 p hp hs with e' | ⟨e', -⟩ <;> omega
    | succ n ih =>
      intro p hp e hn
      by_cases hs : p = s
      · subst hs; omega
      · rcases m2 p hp hs with e' | ⟨-, -, -, q, w, q1, -, -, q4⟩
        · omega
        · exact ih q q1 (by omega) (by omega)
  intro p hp
  by_cases hs : p = s
  · rw [hs]; exact m1
  · rcases m2 p hp hs with e | ⟨e1, e2, -⟩
    · exact e
    · exact (key (F p).toNat p hp (by omega) (by omega)).elim
theorem MF_C {T : Nat → Int} (M : MF wf s v F) (C : CF wf s v T) (hs : s < 30) (h : v ≤ wf s) : ∀ p, p < 30 → F p = if 0 ≤ T p then T p else 999 := by
  obtain ⟨m1, m2, m3⟩ := M
  obtain ⟨c1, c2, c3, c4⟩ := C
  rw [if_neg (by omega)] at m1
  have up : ∀ (n : Nat) (p : Nat), p < 30 → T p = (n : Int) → F p ≤ (n : Int) := by
    intro n
    induction n with
    | zero =>
      intro p hp e
      by_cases hps : p = s
      · rw [hps, m1]; omega
      · obtain ⟨q, w, q1, q2, q3, q4, q5⟩ := c3 p hp hps (by omega)
        omega
    | succ n ih =>
      intro p hp e
      by_cases hps : p = s
      · rw [hps, m1]; omega
      · obtain ⟨q, w, q1, q2, q3, q4, q5⟩ := c3 p hp hps (by omega)
        have := ih q q1 (by omega)
        have := (c2 p hp (by omega))
        have := m3 q w p q1 q2 (by omega) q3 this.2
        omega
  have dn : ∀ (n : Nat) (p : Nat), p < 30 → F p = (n : Int) → n ≤ 31 → 0 ≤ T p ∧ T p ≤ (n : Int) := by
    intro n
    induction n with
    | zero =>
      intro p hp e _
      by_cases hps : p = s
      · rw [hps, c1]; omega
      · rcases m2 p hp hps with e' | ⟨e', -⟩ <;> omega
    | succ n ih =>
      intro p hp e hn
      by_cases hps : p = s
      · rw [hps, c1]; omega
      · rcases m2 p hp hps with e' | ⟨e1, e2, e3, q, w, q1, q2, q3, q4⟩
        · omega
        · have := ih q q1 (by omega) (by omega)
          have := c4 q w p q1 q2 this.1 q3 e3
          omega
  have rng : ∀ p, p < 30 → F p = 999 ∨ (0 ≤ F p ∧ F p ≤ 31) := by
    intro p hp
    by_cases hps : p = s
    · right; rw [hps, m1]; omega
    · rcases m2 p hp hps with e' | ⟨e1, e2, -⟩
      · exact Or.inl e'
      · right; omega
  intro p hp
  by_cases h0 : 0 ≤ T p
  · rw [if_pos h0]
    have a := up (T p).toNat p hp (by omega)
    have b := c2 p hp h0
    rcases rng p hp with e | ⟨e1, e2⟩
    · omega
    · have := dn (F p).toNat p hp (by omega) (by omega)
      omega
  · rw [if_neg h0]
    rcases rng p hp with e | ⟨e1, e2⟩
    · exact e
    · have := dn (F p).toNat p hp (by omega) (by omega)
      omega
/-- how it stands in a round -/
abbrev Mi (wf : Nat → Int) (s : Nat) (v : Int) (F : Nat → Int) (n c w : Nat) : Prop := (F s = if wf s < v then 999 else 0) ∧ (∀ p, p < 30 → p ≠ s → F p = 999 ∨ (1 ≤ F p ∧ F p ≤ (n : Int) + 1 ∧ v ≤ wf p ∧ ∃ q w, q < 30 ∧ w < 4 ∧ besA q w = (p : Int) ∧ F p = F q + 1)) ∧ (∀ q w p : Nat, q < 30 → w < 4 → F q < (n : Int) → besA q w = (p : Int) → v ≤ wf p → F p ≤ F q + 1) ∧ (∀ q w p : Nat, q < c → w < 4 → F q = (n : Int) → besA q w = (p : Int) → v ≤ wf p → F p ≤ F q + 1) ∧ (∀ w' p : Nat, w' < w → F c = (n : Int) → besA c w' = (p : Int) → v ≤ wf p → F p ≤ F c + 1)
theorem Mi.m1 {wf : Nat → Int} {s : Nat} {v : Int} {F : Nat → Int} {n c w : Nat} (h : Mi wf s v F n c w) : F s = if wf s < v then 999 else 0 := h.1
theorem Mi.m2 {wf : Nat → Int} {s : Nat} {v : Int} {F : Nat → Int} {n c w : Nat} (h : Mi wf s v F n c w) : ∀ p, p < 30 → p ≠ s → F p = 999 ∨ (1 ≤ F p ∧ F p ≤ (n : Int) + 1 ∧ v ≤ wf p ∧ ∃ q w, q < 30 ∧ w < 4 ∧ besA q w = (p : Int) ∧ F p = F q + 1) := h.2.1
theorem Mi.m3 {wf : Nat → Int} {s : Nat} {v : Int} {F : Nat → Int} {n c w : Nat} (h : Mi wf s v F n c w) : ∀ q w p : Nat, q < 30 → w < 4 → F q < (n : Int) → besA q w = (p : Int) → v ≤ wf p → F p ≤ F q + 1 := h.2.2.1
theorem Mi.m4 {wf : Nat → Int} {s : Nat} {v : Int} {F : Nat → Int} {n c w : Nat} (h : Mi wf s v F n c w) : ∀ q w p : Nat, q < c → w < 4 → F q = (n : Int) → besA q w = (p : Int) → v ≤ wf p → F p ≤ F q + 1 := h.2.2.2.1
theorem Mi.m5 {wf : Nat → Int} {s : Nat} {v : Int} {F : Nat → Int} {n c w : Nat} (h : Mi wf s v F n c w) : ∀ w' p : Nat, w' < w → F c = (n : Int) → besA c w' = (p : Int) → v ≤ wf p → F p ≤ F c + 1 := h.2.2.2.2
theorem Mi_up {r : Nat} (I : Mi wf s v F n c w) (hn : n ≤ 29) (hc : c < 30) (hw : w < 4) (e : F c = (n : Int)) (hb : besA c w = (r : Int)) (hr : F r = 999) (hv : v ≤ wf r) : Mi wf s v (upN F r ((n : Int) + 1)) n c (w + 1) := by
  have cr : c ≠ r := fun h => by rw [h] at e; omega
  have r30 : r < 30 := by have := besA_lt (way := w) hc (by omega); omega
  have sr : s ≠ r := fun h => by
    have := I.m1
    rw [h, hr, if_neg (by omega)] at this
    omega
  have le : ∀ q p : Nat, F q < (n : Int) + 1 → F p ≤ F q + 1 → upN F r ((n : Int) + 1) p ≤ upN F r ((n : Int) + 1) q + 1 := by
    intro q p hq h
    have qr : q ≠ r := fun h => by rw [h] at hq; omega
    rw [upN_n qr]
    by_cases hp : p = r
    · rw [hp] at h; omega
    · rw [upN_n hp]; exact h
  refine ⟨by rw [upN_n sr]; exact I.m1, fun p hp hps => ?_, fun q w' p hq hw' h1 h2 h3 => ?_, fun q w' p hq hw' h1 h2 h3 => ?_, fun w' p hw' h1 h2 h3 => ?_⟩
  · by_cases he : p = r
    · subst he
      right
      rw [upN_e]
      exact ⟨by omega, by omega, hv, c, w, hc, hw, hb, by rw [upN_n cr, e]⟩
    · rw [upN_n he]
      rcases I.m2 p hp hps with e' | ⟨e1, e2, e3, q, w', q1, q2, q3, q4⟩
      · exact Or.inl e'
      · have qr : q ≠ r := fun h => by rw [h] at q4; omega
        exact Or.inr ⟨e1, e2, e3, q, w', q1, q2, q3, by rw [upN_n qr]; exact q4⟩
  · have qr : q ≠ r := fun h => by rw [h, upN_e] at h1; omega
    rw [upN_n qr] at h1
    exact le q p (by omega) (I.m3 q w' p hq hw' h1 h2 h3)
  · have qr : q ≠ r := fun h => by rw [h, upN_e] at h1; omega
    rw [upN_n qr] at h1
    exact le q p (by omega) (I.m4 q w' p hq hw' h1 h2 h3)
  · by_cases hw2 : w' = w
    · subst hw2
      have : p = r := by rw [hb] at h2; omega
      subst this
      rw [upN_e, upN_n cr, e]
      exact Int.le_refl _
    · rw [upN_n cr] at h1
      exact le c p (by omega) (I.m5 w' p (by omega) h1 h2 h3)
theorem Mi_w (I : Mi wf s v F n c w) (h : F c = (n : Int) → ∀ p : Nat, besA c w = (p : Int) → v ≤ wf p → F p ≤ F c + 1) : Mi wf s v F n c (w + 1) :=
  ⟨I.m1, I.m2, I.m3, I.m4, fun w' p hw h1 h2 h3 => by
    by_cases he : w' = w
    · subst he; exact h h1 p h2 h3
    · exact I.m5 w' p (by omega) h1 h2 h3⟩
theorem Mi_c (I : Mi wf s v F n c w) (h : w = 4 ∨ F c ≠ (n : Int)) : Mi wf s v F n (c + 1) 0 :=
  ⟨I.m1, I.m2, I.m3, fun q w' p hq hw h1 h2 h3 => by
    by_cases he : q = c
    · subst he
      rcases h with h | h
      · exact I.m5 w' p (by omega) h1 h2 h3
      · exact (h h1).elim
    · exact I.m4 q w' p (by omega) hw h1 h2 h3, fun w' p hw => absurd hw (by omega)⟩
theorem Mi_n (I : Mi wf s v F n 30 0) : Mi wf s v F (n + 1) 0 0 :=
  ⟨I.m1, fun p hp hps => by
    rcases I.m2 p hp hps with e | ⟨e1, e2, e3⟩
    · exact Or.inl e
    · exact Or.inr ⟨e1, by omega, e3⟩, fun q w' p hq hw h1 h2 h3 => by
    by_cases he : F q = (n : Int)
    · exact I.m4 q w' p hq hw he h2 h3
    · exact I.m3 q w' p hq hw (by omega) h2 h3, fun q w' p hq => absurd hq (by omega), fun w' p hw => absurd hw (by omega)⟩
def u56 (u5 u6 : mV) : Prop := ((∃ y, u5 = (0, y)) ∧ uvl u6) ∨ (u5 = (2, 0) ∧ u6 = (2, 0))
theorem u56_6 (h : u56 u5 u6) : uvl u6 := by
  rcases h with ⟨-, h⟩ | ⟨-, h⟩
  · exact h
  · exact Or.inl h
theorem g_196_43 (h : (∃ x, u4 = (0, x)) ∧ u56 u5 u6 ∨ (u4 = (2, 0) ∧ u5 = (2, 0) ∧ u6 = (2, 0))) : mgo K mx 196 43 [(30, 64), (0, v1), (0, v2), (0, v3), u4, u5, u6] [] σ =
  bLt v3 30 (mgo K mx 196 52 [(30, 64), (0, v1), (0, v2), (0, v3), (0, 0), u5, u6] [] σ) (some (0, σ)) := by
  rcases h with ⟨⟨x, rfl⟩, ⟨⟨y, rfl⟩, rfl | ⟨z, rfl⟩⟩ | ⟨rfl, rfl⟩⟩ | ⟨rfl, rfl, rfl⟩
  · exact f_196_43a ..
  · exact f_196_43 ..
  · exact f_196_43b ..
  · exact f_196_43c ..
theorem g_196_52 (h : u56 u5 u6) : mgo K mx 196 52 [(30, 64), (0, v1), (0, v2), (0, v3), (0, v4), u5, u6] [] σ =
  bLt v4 30 (mgo K mx 196 62 [(30, 64), (0, v1), (0, v2), (0, v3), (0, v4), (0, 0), u6] [] σ) (mgo K mx 196 43 [(30, 64), (0, v1), (0, v2), (0, w32 (v3 + 1)), (0, v4), u5, u6] [] σ) := by
  rcases h with ⟨⟨y, rfl⟩, rfl | ⟨z, rfl⟩⟩ | ⟨rfl, rfl⟩
  · exact f_196_52a ..
  · exact f_196_52 ..
  · exact f_196_52b ..
theorem g_196_62 (h : uvl u) : mgo K mx 196 62 [(30, 64), (0, v1), (0, v2), (0, v3), (0, v4), (0, v5), u] [] σ =
  bLt v5 4 (bIn v4 30 (bEq (σ 93 v4.toNat) v3 (bK (K 166 [(0, v4), (0, v5)] σ) (fun r1 s2 => bLt r1 0 (mgo K mx 196 126 [(30, 64), (0, v1), (0, v2), (0, v3), (0, v4), (0, v5), (0, r1)] [] s2) (bIn r1 30 (bEq (s2 93 r1.toNat) 999 (bK (K 169 [(30, 64), (0, r1)] s2) (fun r3 s4 => bLt r3 v2 (mgo K mx 196 126 [(30, 64), (0, v1), (0, v2), (0, v3), (0, v4), (0, v5), (0, r1)] [] s4) (bIn r1 30 (mgo K mx 196 126 [(30, 64), (0, v1), (0, v2), (0, v3), (0, v4), (0, v5), (0, r1)] [] (mset s4 93 r1.toNat (w32 (v3 + 1))))))) (mgo K mx 196 126 [(30, 64), (0, v1), (0, v2), (0, v3), (0, v4), (0, v5), (0, r1)] [] s2))))) (mgo K mx 196 52 [(30, 64), (0, v1), (0, v2), (0, v3), (0, w32 (v4 + 1)), (0, v5), u] [] σ))) (mgo K mx 196 52 [(30, 64), (0, v1), (0, v2), (0, v3), (0, w32 (v4 + 1)), (0, v5), u] [] σ) := by
  rcases h with rfl | ⟨z, rfl⟩
  · rw [f_196_62a, f_196_132a]
  · rw [f_196_62, f_196_132]
end
