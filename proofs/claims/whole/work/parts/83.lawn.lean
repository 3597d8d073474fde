/-! PURE PART 60: a law in the making, in the class -/
section
variable {w : Nat} {σ τ μ : mM}
def lawN (τ : mM) (w : Nat) : Nat → Nat → List (List Int × List Int) → Nat → Nat → Prop
  | o, p, [], o', p' => o = o' ∧ p = p'
  | o, p, (Q, A) :: r, o', p' => if Q.length = 0 then (segC τ w o A ∧ vld 0 A ∧ τ (w + 3) p = ((o + A.length : Nat) : Int) ∧ τ (w + 4) p = 0 ∧ lawN τ w (o + A.length) (p + 1) r o' p')
    else (segC τ w o Q ∧ vld 0 Q ∧ τ (w + 3) p = ((o + Q.length : Nat) : Int) ∧ τ (w + 4) p = 1 ∧ segC τ w (o + Q.length) A ∧ vld 0 A ∧ τ (w + 3) (p + 1) = ((o + Q.length + A.length : Nat) : Int) ∧ τ (w + 4) (p + 1) = 0 ∧ lawN τ w (o + Q.length + A.length) (p + 2) r o' p')
theorem lawN_l : ∀ {L : List (List Int × List Int)} {o p o' p' : Nat}, lawN τ w o p L o' p' → o ≤ o' ∧ p ≤ p' := by
  intro L
  induction L with
  | nil => intro o p o' p' h; exact ⟨Nat.le_of_eq h.1, Nat.le_of_eq h.2⟩
  | cons x r ih =>
    obtain ⟨Q, A⟩ := x
    intro o p o' p' h
    unfold lawN at h
    split at h
    · have := ih h.2.2.2.2; omega
    · have := ih h.2.2.2.2.2.2.2.2; omega
theorem lawN_C : ∀ {L : List (List Int × List Int)} {o p o' p' : Nat}, lawN τ w o p L o' p' → τ w 5 = (p' : Int) → p' ≤ 120 → o' ≤ 120 → lawC τ w o p L := by
  intro L
  induction L with
  | nil =>
    intro o p o' p' h h5 hp ho
    exact ⟨by rw [h.2]; exact h5, by have := h.2; omega⟩
  | cons x r ih =>
    obtain ⟨Q, A⟩ := x
    intro o p o' p' h h5 hp ho
    unfold lawN at h
    unfold lawC
    split at h
    · next hq =>
      rw [if_pos hq]
      obtain ⟨a1, a2, a3, a4, a5⟩ := h
      have := lawN_l a5
      exact ⟨a1, a2, a3, a4, by omega, ih a5 h5 hp ho⟩
    · next hq =>
      rw [if_neg hq]
      obtain ⟨a1, a2, a3, a4, b1, b2, b3, b4, a5⟩ := h
      have := lawN_l a5
      exact ⟨a1, a2, a3, a4, b1, b2, b3, b4, by omega, ih a5 h5 hp ho⟩
theorem lawN_a : ∀ {L M : List (List Int × List Int)} {o p o1 p1 o2 p2 : Nat}, lawN τ w o p L o1 p1 → lawN τ w o1 p1 M o2 p2 → lawN τ w o p (L ++ M) o2 p2 := by
  intro L
  induction L with
  | nil =>
    intro M o p o1 p1 o2 p2 h g
    obtain ⟨rfl, rfl⟩ := h
    exact g
  | cons x r ih =>
    obtain ⟨Q, A⟩ := x
    intro M o p o1 p1 o2 p2 h g
    show lawN τ w o p ((Q, A) :: (r ++ M)) o2 p2
    unfold lawN at h ⊢
    split at h
    · next hq =>
      rw [if_pos hq]
      exact ⟨h.1, h.2.1, h.2.2.1, h.2.2.2.1, ih h.2.2.2.2 g⟩
    · next hq =>
      rw [if_neg hq]
      obtain ⟨a1, a2, a3, a4, b1, b2, b3, b4, a5⟩ := h
      exact ⟨a1, a2, a3, a4, b1, b2, b3, b4, ih a5 g⟩
theorem segC_l : ∀ {s : List Int} {o m : Nat}, o + s.length ≤ m → (∀ j, j < m → μ (w + 1) j = τ (w + 1) j ∧ μ (w + 2) j = τ (w + 2) j) → segC τ w o s → segC μ w o s := by
  intro s
  induction s with
  | nil => intro o m _ _ _; trivial
  | cons c r ih =>
    intro o m hm e h
    rw [List.length_cons] at hm
    obtain ⟨e1, e2⟩ := e o (by omega)
    exact ⟨by rw [e1]; exact h.1, by rw [e2]; exact h.2.1, ih (by omega) e h.2.2⟩
theorem lawN_f : ∀ {L : List (List Int × List Int)} {o p o' p' : Nat}, (∀ j, j < o' → μ (w + 1) j = τ (w + 1) j ∧ μ (w + 2) j = τ (w + 2) j) → (∀ j, j < p' → μ (w + 3) j = τ (w + 3) j ∧ μ (w + 4) j = τ (w + 4) j) → lawN τ w o p L o' p' → lawN μ w o p L o' p' := by
  intro L
  induction L with
  | nil => intro o p o' p' _ _ h; exact h
  | cons x r ih =>
    obtain ⟨Q, A⟩ := x
    intro o p o' p' e1 e2 h
    unfold lawN at h ⊢
    split at h
    · next hq =>
      rw [if_pos hq]
      obtain ⟨a1, a2, a3, a4, a5⟩ := h
      have l := lawN_l a5
      obtain ⟨f1, f2⟩ := e2 p (by omega)
      exact ⟨segC_l (by omega) e1 a1, a2, by rw [f1]; exact a3, by rw [f2]; exact a4, ih e1 e2 a5⟩
    · next hq =>
      rw [if_neg hq]
      obtain ⟨a1, a2, a3, a4, b1, b2, b3, b4, a5⟩ := h
      have l := lawN_l a5
      obtain ⟨f1, f2⟩ := e2 p (by omega)
      obtain ⟨k1, k2⟩ := e2 (p + 1) (by omega)
      exact ⟨segC_l (by omega) e1 a1, a2, by rw [f1]; exact a3, by rw [f2]; exact a4, segC_l (by omega) e1 b1, b2, by rw [k1]; exact b3, by rw [k2]; exact b4, ih e1 e2 a5⟩
theorem em_lo : ∀ (l : List Int) (o : Nat) (σ : mM), σ w 2 = (o : Int) → ∀ j, j < o → em w l σ (w + 1) j = σ (w + 1) j ∧ em w l σ (w + 2) j = σ (w + 2) j := by
  intro l
  induction l with
  | nil => intro o σ _ j _; exact ⟨rfl, rfl⟩
  | cons x l ih =>
    intro o σ h j hj
    obtain ⟨i1, i2⟩ := ih (o + 1) (em1 w x σ) (by rw [em1_c, h]; rfl) j (by omega)
    refine ⟨i1.trans ?_, i2.trans ?_⟩
    · unfold em1
      rw [h, ms_n (by omega), ms_n (by omega), ms_n (by rw [tn_n]; omega)]
    · unfold em1
      rw [h, ms_n (by omega), ms_n (by rw [tn_n]; omega), ms_n (by omega)]
theorem em_seg : ∀ (l : List Int) (o : Nat) (σ : mM), σ w 2 = (o : Int) → segC (em w l σ) w o l := by
  intro l
  induction l with
  | nil => intro o σ _; trivial
  | cons x l ih =>
    intro o σ h
    have c : em1 w x σ w 2 = ((o + 1 : Nat) : Int) := by rw [em1_c, h]; rfl
    obtain ⟨k1, k2⟩ := em_lo (w := w) l (o + 1) (em1 w x σ) c o (by omega)
    refine ⟨k1.trans ?_, k2.trans ?_, ih (o + 1) (em1 w x σ) c⟩
    · unfold em1
      rw [h, ms_n (by omega), ms_n (by omega), tn_n, ms_e]
    · unfold em1
      rw [h, ms_n (by omega), tn_n, ms_e]
end
