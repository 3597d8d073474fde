/-! locals -/
def mlv (w : mW) : Nat → List mV → List (Nat × Value)
  | _, [] => []
  | i, v :: t => if v.1 = 2 then mlv w (i + 1) t else (i, mrep w v) :: mlv w (i + 1) t
theorem mlv_mem {w : mW} {L : List mV} : ∀ {k : Nat} {q : Nat × Value}, q ∈ mlv w k L ↔ ∃ (j : Nat) (v : mV), L[j]? = some v ∧ v.1 ≠ 2 ∧ q = (k + j, mrep w v) := by
  induction L with
  | nil => intro k q; simp [mlv]
  | cons u t ih =>
    intro k q
    unfold mlv
    constructor
    · intro h
      by_cases hu : u.1 = 2
      · rw [if_pos hu] at h
        obtain ⟨j, v, h1, h2, h3⟩ := ih.mp h
        exact ⟨j + 1, v, by simpa using h1, h2, by rw [h3]; congr 1; omega⟩
      · rw [if_neg hu] at h
        rcases List.mem_cons.mp h with rfl | h
        · exact ⟨0, u, rfl, hu, rfl⟩
        · obtain ⟨j, v, h1, h2, h3⟩ := ih.mp h
          exact ⟨j + 1, v, by simpa using h1, h2, by rw [h3]; congr 1; omega⟩
    · rintro ⟨j, v, h1, h2, h3⟩
      cases j with
      | zero =>
        have e : u = v := by simpa using h1
        subst e
        rw [if_neg h2, h3]
        exact List.mem_cons_self
      | succ j =>
        have h4 : q ∈ mlv w (k + 1) t := ih.mpr ⟨j, v, by simpa using h1, h2, by rw [h3]; congr 1; omega⟩
        by_cases hu : u.1 = 2
        · rw [if_pos hu]; exact h4
        · rw [if_neg hu]; exact List.mem_cons_of_mem _ h4
def mLr (w : mW) (nL : Nat) (L : List mV) (ls : Array Slot) : Prop := L.length = nL ∧ lv_has ls nL (mlv w 0 L)
theorem mLr_get {w : mW} {nL : Nat} {L : List mV} {ls : Array Slot} (h : mLr w nL L ls) {i : Nat} {v : mV} (hi : L[i]? = some v) (hv : v.1 ≠ 2) : ls[i]? = some (.val (mrep w v)) :=
  h.2.2.2 (i, mrep w v) (mlv_mem.mpr ⟨i, v, hi, hv, by rw [Nat.zero_add]⟩)
theorem mcat_2 {v : mV} (h : mcat v = 2) : v.1 = 1 := by
  obtain ⟨t, x⟩ := v
  have h : (bif Nat.beq t 1 then 2 else 1) = 2 := h
  cases hb : Nat.beq t 1
  · rw [hb] at h; cases h
  · exact Nat.eq_of_beq_eq_true hb
theorem mLr_set {w : mW} {nL : Nat} {L : List mV} {ls' : Array Slot} {i : Nat} {v : mV} (hL : L.length = nL) (hi : i < nL) (hp : i = 0 ∨ (L.getD (i - 1) (2, 0)).1 ≠ 1)
    (h' : lv_has ls' nL ((i, mrep w v) :: (mlv w 0 L).filter (fun q => !(q.1 == i) && !(q.1 + 1 == i && q.2.category == 2)))) : mLr w nL (L.set i v) ls' := by
  refine ⟨by rw [List.length_set]; exact hL, h'.1, h'.2.1, fun q hq => h'.2.2 q ?_⟩
  obtain ⟨j, u, h1, h2, h3⟩ := mlv_mem.mp hq
  rw [Nat.zero_add] at h3
  by_cases e : i = j
  · subst e
    rw [List.getElem?_set_self (by omega)] at h1
    cases h1
    rw [h3]
    exact List.mem_cons_self
  · rw [List.getElem?_set_ne e] at h1
    refine List.mem_cons_of_mem _ (List.mem_filter.mpr ⟨mlv_mem.mpr ⟨j, u, h1, h2, by rw [Nat.zero_add]; exact h3⟩, ?_⟩)
    subst h3
    simp only [Bool.and_eq_true, Bool.not_eq_true', beq_eq_false_iff_ne, ne_eq, Bool.and_eq_false_iff]
    refine ⟨fun q => e q.symm, ?_⟩
    by_cases e2 : j + 1 = i
    · right
      rw [mrep_cat]
      intro q
      have h1' := mcat_2 q
      rcases hp with h | h
      · omega
      · apply h
        have e3 : i - 1 = j := by omega
        rw [e3, List.getD_eq_getElem?_getD, h1]
        exact h1'
    · left
      exact e2
theorem mLr_setJ {w : mW} {nL : Nat} {L : List mV} {ls' : Array Slot} {i : Nat} {v : mV} (hL : L.length = nL) (hi : i + 1 < nL) (hp : i = 0 ∨ (L.getD (i - 1) (2, 0)).1 ≠ 1)
    (h' : lv_has ls' nL ((i, mrep w v) :: (mlv w 0 L).filter (fun q => !(q.1 == i) && (!(q.1 == i + 1) && !(q.1 + 1 == i && q.2.category == 2))))) : mLr w nL ((L.set i v).set (i + 1) (2, 0)) ls' := by
  refine ⟨by rw [List.length_set, List.length_set]; exact hL, h'.1, h'.2.1, fun q hq => h'.2.2 q ?_⟩
  obtain ⟨j, u, h1, h2, h3⟩ := mlv_mem.mp hq
  rw [Nat.zero_add] at h3
  by_cases e1 : i + 1 = j
  · subst e1
    rw [List.getElem?_set_self (by rw [List.length_set]; omega)] at h1
    cases h1
    exact absurd rfl h2
  rw [List.getElem?_set_ne e1] at h1
  by_cases e : i = j
  · subst e
    rw [List.getElem?_set_self (by omega)] at h1
    cases h1
    rw [h3]
    exact List.mem_cons_self
  · rw [List.getElem?_set_ne e] at h1
    refine List.mem_cons_of_mem _ (List.mem_filter.mpr ⟨mlv_mem.mpr ⟨j, u, h1, h2, by rw [Nat.zero_add]; exact h3⟩, ?_⟩)
    subst h3
    simp only [Bool.and_eq_true, Bool.not_eq_true', beq_eq_false_iff_ne, ne_eq, Bool.and_eq_false_iff]
    refine ⟨fun q => e q.symm, fun q => e1 q.symm, ?_⟩
    by_cases e2 : j + 1 = i
    · right
      rw [mrep_cat]
      intro q
      have h1' := mcat_2 q
      rcases hp with h | h
      · omega
      · apply h
        have e3 : i - 1 = j := by omega
        rw [e3, List.getD_eq_getElem?_getD, h1]
        exact h1'
    · left
      exact e2
