/-! PURE PART 64: a law in the making, in the model -/
section
variable {σ τ μ : mM}
def lawO (τ : mM) : Nat → Nat → List (List Int × List Int) → Nat → Nat → Prop
  | o, i, [], o', i' => o = o' ∧ i = i'
  | o, i, (Q, A) :: r, o', i' => τ 75 i = (o : Int) ∧ τ 76 i = ((o + Q.length : Nat) : Int) ∧ τ 77 i = ((o + Q.length + A.length : Nat) : Int) ∧ segM τ 78 o Q ∧ segM τ 78 (o + Q.length) A ∧ (Q.length = 0 ∨ vld 0 Q) ∧ vld 0 A ∧ lawO τ (o + Q.length + A.length) (i + 1) r o' i'
theorem lawO_l : ∀ {L : List (List Int × List Int)} {o i o' i' : Nat}, lawO τ o i L o' i' → o ≤ o' ∧ i + L.length = i' := by
  intro L
  induction L with
  | nil => intro o i o' i' h; exact ⟨Nat.le_of_eq h.1, h.2⟩
  | cons x r ih =>
    obtain ⟨Q, A⟩ := x
    intro o i o' i' h
    obtain ⟨-, -, -, -, -, -, -, h⟩ := h
    have := ih h
    rw [List.length_cons]
    omega
theorem lawO_a : ∀ {L M : List (List Int × List Int)} {o i o1 i1 o2 i2 : Nat}, lawO τ o i L o1 i1 → lawO τ o1 i1 M o2 i2 → lawO τ o i (L ++ M) o2 i2 := by
  intro L
  induction L with
  | nil =>
    intro M o i o1 i1 o2 i2 h g
    obtain ⟨rfl, rfl⟩ := h
    exact g
  | cons x r ih =>
    obtain ⟨Q, A⟩ := x
    intro M o i o1 i1 o2 i2 h g
    obtain ⟨a1, a2, a3, a4, a5, a6, a7, h⟩ := h
    exact ⟨a1, a2, a3, a4, a5, a6, a7, ih h g⟩
theorem segM_l {c : Nat} : ∀ {s : List Int} {o m : Nat}, o + s.length ≤ m → (∀ j, j < m → μ c j = τ c j) → segM τ c o s → segM μ c o s := by
  intro s
  induction s with
  | nil => intro o m _ _ _; trivial
  | cons x r ih =>
    intro o m hm e h
    rw [List.length_cons] at hm
    exact ⟨by rw [e o (by omega)]; exact h.1, ih (by omega) e h.2⟩
theorem lawO_f : ∀ {L : List (List Int × List Int)} {o i o' i' : Nat}, (∀ j, j < o' → μ 78 j = τ 78 j) → (∀ j, j < i' → μ 75 j = τ 75 j ∧ μ 76 j = τ 76 j ∧ μ 77 j = τ 77 j) → lawO τ o i L o' i' → lawO μ o i L o' i' := by
  intro L
  induction L with
  | nil => intro o i o' i' _ _ h; exact h
  | cons x r ih =>
    obtain ⟨Q, A⟩ := x
    intro o i o' i' e1 e2 h
    obtain ⟨a1, a2, a3, a4, a5, a6, a7, h⟩ := h
    have l := lawO_l h
    obtain ⟨f1, f2, f3⟩ := e2 i (by omega)
    exact ⟨by rw [f1]; exact a1, by rw [f2]; exact a2, by rw [f3]; exact a3, segM_l (by omega) e1 a4, segM_l (by omega) e1 a5, a6, a7, ih e1 e2 h⟩
theorem eM_lo : ∀ (l : List Int) (o : Nat) (σ : mM), σ 64 17 = (o : Int) → ∀ j, j < o → eM l σ 78 j = σ 78 j := by
  intro l
  induction l with
  | nil => intro o σ _ j _; rfl
  | cons x l ih =>
    intro o σ h j hj
    refine (ih (o + 1) (eM1 x σ) (by rw [eM1_c, h]; rfl) j (by omega)).trans ?_
    unfold eM1
    rw [h, tn_n, ms_n (by omega), ms_n (by omega)]
theorem eM_seg : ∀ (l : List Int) (o : Nat) (σ : mM), σ 64 17 = (o : Int) → segM (eM l σ) 78 o l := by
  intro l
  induction l with
  | nil => intro o σ _; trivial
  | cons x l ih =>
    intro o σ h
    have c : eM1 x σ 64 17 = ((o + 1 : Nat) : Int) := by rw [eM1_c, h]; rfl
    refine ⟨(eM_lo l (o + 1) (eM1 x σ) c o (by omega)).trans ?_, ih (o + 1) (eM1 x σ) c⟩
    unfold eM1
    rw [h, tn_n, ms_e]
end
