/-! PURE PART 61: the lines, in the class -/
section
variable {d n a w : Nat} {T : Nat → Int} {σ τ μ : mM} {mx : Int × Int}
/-- what a line leaves -/
def fz (w : Nat) (σ τ : mM) : Prop := ∀ b j, ¬ (b = 24 ∧ j = 2) → ¬ (w ≤ b ∧ b ≤ w + 4) → τ b j = σ b j
theorem st_fz {l : List Int} {b : Nat} : fz w σ (st w l b σ) := fun c j h1 h2 => by
  unfold st
  rw [ms_n (by omega), em_o (by omega) (by omega) (by omega)]
theorem eP_fz {q : Int} : fz w σ (eP w q σ) := fun c j h1 h2 => by
  unfold eP
  rw [ms_n (by omega), ms_n (by omega), ms_n (by omega)]
theorem fz_t (h : fz w σ τ) (g : fz w τ μ) : fz w σ μ := fun b j h1 h2 => (g b j h1 h2).trans (h b j h1 h2)
theorem st_lo {l : List Int} {b o : Nat} (hw : w = 10 ∨ w = 17) (h : σ w 2 = (o : Int)) : ∀ j, j < o → st w l b σ (w + 1) j = σ (w + 1) j ∧ st w l b σ (w + 2) j = σ (w + 2) j := fun j hj => by
  unfold st
  rw [ms_n (by omega), ms_n (by omega)]
  exact em_lo l o σ h j hj
theorem st_hi {l : List Int} {b : Nat} (hw : w = 10 ∨ w = 17) (j : Nat) : st w l b σ (w + 3) j = σ (w + 3) j ∧ st w l b σ (w + 4) j = σ (w + 4) j := by
  unfold st
  rw [ms_n (by omega), ms_n (by omega), em_o (by omega) (by omega) (by omega), em_o (by omega) (by omega) (by omega)]
  exact ⟨rfl, rfl⟩
theorem st_seg {l : List Int} {b o : Nat} (hw : w = 10 ∨ w = 17) (h : σ w 2 = (o : Int)) : segC (st w l b σ) w o l := by
  refine segC_l (m := o + l.length) (Nat.le_refl _) (fun j hj => ?_) (em_seg l o σ h)
  unfold st
  rw [ms_n (by omega), ms_n (by omega)]
  exact ⟨rfl, rfl⟩
theorem eP_lo {q : Int} (j : Nat) : eP w q σ (w + 1) j = σ (w + 1) j ∧ eP w q σ (w + 2) j = σ (w + 2) j := by
  unfold eP
  rw [ms_n (by omega), ms_n (by omega), ms_n (by omega), ms_n (by omega), ms_n (by omega), ms_n (by omega)]
  exact ⟨rfl, rfl⟩
theorem eP_hi {q : Int} {p : Nat} (h : σ w 5 = (p : Int)) : (∀ j, j ≠ p → eP w q σ (w + 3) j = σ (w + 3) j ∧ eP w q σ (w + 4) j = σ (w + 4) j) ∧ eP w q σ (w + 3) p = σ w 2 ∧ eP w q σ (w + 4) p = q := by
  unfold eP
  rw [h, tn_n]
  refine ⟨fun j hj => ?_, ?_, ?_⟩
  · rw [ms_n (by omega), ms_n (by omega), ms_n (by omega), ms_n (by omega), ms_n (by omega), ms_n (by omega)]
    exact ⟨rfl, rfl⟩
  · rw [ms_n (by omega), ms_n (by omega), ms_e]
  · rw [ms_n (by omega), ms_e]
theorem eP_2 {q : Int} : eP w q σ w 2 = σ w 2 := by
  unfold eP
  rw [ms_n (by omega), ms_n (by omega), ms_n (by omega)]
/-- a line in order -/
theorem s_57k {o p : Nat} (R : rd T n w a τ) (h2 : τ w 2 = (o : Int)) (h5 : τ w 5 = (p : Int)) (hp : p ≤ a) : ∃ μ, mcall (d + 202) 57 [(26, 24)] τ = some (if (ln T n a).1 = true then 1 else 0, μ) ∧ fz w τ μ ∧ μ 24 2 = ((ln T n a).2.1 : Int) ∧ ((ln T n a).1 = true → ∃ o' p', o ≤ o' ∧ p ≤ p' ∧ p' ≤ (ln T n a).2.1 ∧ rd T n w (ln T n a).2.1 μ ∧ μ w 2 = (o' : Int) ∧ μ w 5 = (p' : Int) ∧ lawN μ w o p [((ln T n a).2.2.1, (ln T n a).2.2.2)] o' p' ∧ (∀ j, j < o → μ (w + 1) j = τ (w + 1) j ∧ μ (w + 2) j = τ (w + 2) j) ∧ ∀ j, j < p → μ (w + 3) j = τ (w + 3) j ∧ μ (w + 4) j = τ (w + 4) j) := by
  have hw := R.2.2.1
  have G := pr_g (T := T) 48 0 0 a R.2.1
  have L := ln_g (T := T) R.2.1
  have s := s_57 (d := d) R h5 hp
  unfold ln at L ⊢
  rcases hx : pr T n 48 0 0 a with ⟨ok, b, A⟩
  rw [hx] at G s L
  obtain ⟨g1, g2, g3, g4⟩ := G
  simp only at g1 g2 g3 g4
  cases ok with
  | false =>
    refine ⟨_, s, st_fz, ms_e, fun z => by cases z⟩
  | true =>
    obtain ⟨g5, g6⟩ := g4 rfl
    have R1 := rd_st (b := b) (l := A) R g2 g3
    have p1 : st w A b τ w 5 = (p : Int) := (st_5 hw).trans h5
    have o1 : st w A b τ w 2 = ((o + A.length : Nat) : Int) := by rw [st_w hw, h2]; rfl
    by_cases h : nx T n b = 63
    · have hb : b < n := nx_lt (T := T) (by omega)
      have G := pr_g (T := T) 48 0 0 (b + 1) hb
      simp only [if_pos h] at s L ⊢
      rcases hy : pr T n 48 0 0 (b + 1) with ⟨ok, c, B⟩
      rw [hy] at G s L
      obtain ⟨k1, k2, k3, k4⟩ := G
      simp only at k1 k2 k3 k4
      have E1 := eP_hi (q := 1) p1
      have Rp := rd_p (q := 1) R1
      cases ok with
      | false => exact ⟨_, s, fz_t (fz_t st_fz eP_fz) st_fz, ms_e, fun z => by cases z⟩
      | true =>
        obtain ⟨k5, k6⟩ := k4 rfl
        have o2 : eP w 1 (st w A b τ) w 2 = ((o + A.length : Nat) : Int) := eP_2.trans o1
        have R3 := rd_st (b := c) (l := B) Rp k2 (by omega)
        have p2 : st w B c (eP w 1 (st w A b τ)) w 5 = ((p + 1 : Nat) : Int) := by rw [st_5 hw, eP_5, p1]; rfl
        have o3 : st w B c (eP w 1 (st w A b τ)) w 2 = ((o + A.length + B.length : Nat) : Int) := by rw [st_w hw, o2]; rfl
        have E2 := eP_hi (q := 0) p2
        have f1 : ∀ j, j < o + A.length → eP w 0 (st w B c (eP w 1 (st w A b τ))) (w + 1) j = st w A b τ (w + 1) j ∧ eP w 0 (st w B c (eP w 1 (st w A b τ))) (w + 2) j = st w A b τ (w + 2) j := fun j hj => by
          obtain ⟨x1, x2⟩ := eP_lo (w := w) (σ := st w B c (eP w 1 (st w A b τ))) (q := 0) j
          obtain ⟨y1, y2⟩ := st_lo (l := B) (b := c) hw o2 j hj
          obtain ⟨z1, z2⟩ := eP_lo (w := w) (σ := st w A b τ) (q := 1) j
          exact ⟨x1.trans (y1.trans z1), x2.trans (y2.trans z2)⟩
        have f2 : ∀ j, j < p + 1 → eP w 0 (st w B c (eP w 1 (st w A b τ))) (w + 3) j = eP w 1 (st w A b τ) (w + 3) j ∧ eP w 0 (st w B c (eP w 1 (st w A b τ))) (w + 4) j = eP w 1 (st w A b τ) (w + 4) j := fun j hj => by
          obtain ⟨x1, x2⟩ := E2.1 j (by omega)
          obtain ⟨y1, y2⟩ := st_hi (σ := eP w 1 (st w A b τ)) (l := B) (b := c) hw j
          exact ⟨x1.trans y1, x2.trans y2⟩
        refine ⟨_, s, fz_t (fz_t (fz_t st_fz eP_fz) st_fz) eP_fz, ?_, fun _ => ⟨o + A.length + B.length, p + 2, by omega, by omega, by show p + 2 ≤ c; omega, rd_p R3, eP_2.trans o3, by rw [eP_5, p2]; rfl, ?_, fun j hj => ?_, fun j hj => ?_⟩⟩
        · exact (rd_p (q := 0) R3).2.2.2.2.1
        · show lawN _ w o p [(A, B)] _ _
          unfold lawN
          rw [if_neg (vE_n g5)]
          obtain ⟨q1, q2⟩ := f2 p (by omega)
          refine ⟨segC_l (m := o + A.length) (Nat.le_refl _) f1 (st_seg hw h2), vE_0 g5, by rw [q1, E1.2.1]; exact o1, by rw [q2, E1.2.2], segC_l (m := o + A.length + B.length) (Nat.le_refl _) (fun j _ => eP_lo j) (st_seg hw o2), vE_0 k5, by rw [E2.2.1]; exact o3, E2.2.2, rfl, rfl⟩
        · obtain ⟨x1, x2⟩ := f1 j (by omega)
          obtain ⟨y1, y2⟩ := st_lo (l := A) (b := b) hw h2 j hj
          exact ⟨x1.trans y1, x2.trans y2⟩
        · obtain ⟨x1, x2⟩ := f2 j (by omega)
          obtain ⟨y1, y2⟩ := E1.1 j (by omega)
          obtain ⟨z1, z2⟩ := st_hi (σ := τ) (l := A) (b := b) hw j
          exact ⟨x1.trans (y1.trans z1), x2.trans (y2.trans z2)⟩
    · simp only [if_neg h] at s L ⊢
      have E1 := eP_hi (q := 0) p1
      refine ⟨_, s, fz_t st_fz eP_fz, (rd_p (q := 0) R1).2.2.2.2.1, fun _ => ⟨o + A.length, p + 1, by omega, by omega, by show p + 1 ≤ b; omega, rd_p R1, eP_2.trans o1, by rw [eP_5, p1]; rfl, ?_, fun j hj => ?_, fun j hj => ?_⟩⟩
      · show lawN _ w o p [([], A)] _ _
        unfold lawN
        rw [if_pos (show ([] : List Int).length = 0 from rfl)]
        exact ⟨segC_l (m := o + A.length) (Nat.le_refl _) (fun j _ => eP_lo j) (st_seg hw h2), vE_0 g5, by rw [E1.2.1]; exact o1, E1.2.2, rfl, rfl⟩
      · obtain ⟨x1, x2⟩ := eP_lo (w := w) (σ := st w A b τ) (q := 0) j
        obtain ⟨y1, y2⟩ := st_lo (l := A) (b := b) hw h2 j hj
        exact ⟨x1.trans y1, x2.trans y2⟩
      · obtain ⟨y1, y2⟩ := E1.1 j (by omega)
        obtain ⟨z1, z2⟩ := st_hi (σ := τ) (l := A) (b := b) hw j
        exact ⟨y1.trans z1, y2.trans z2⟩
end
