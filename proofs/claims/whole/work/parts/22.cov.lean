/-! PURE PART 2: the cover of the class -/
theorem ms_e {σ : mM} {c i : Nat} {v : Int} : mset σ c i v c i = v := if_pos ⟨rfl, rfl⟩
theorem ms_n {σ : mM} {c i a j : Nat} {v : Int} (h : a ≠ c ∨ j ≠ i) : mset σ c i v a j = σ a j := if_neg (by omega)
theorem up_e {V : cV} {k i : Nat} {v : Int} : up V k i v k i = v := if_pos ⟨rfl, rfl⟩
theorem up_o {V : cV} {k i a j : Nat} {v : Int} (h : a ≠ k ∨ j ≠ i) : up V k i v a j = V a j := if_neg (by omega)
/-- in the bounds that the document has -/
def okC (V : cV) : Prop := nV V ∧ (∀ j, 0 ≤ V 0 j ∧ V 0 j ≤ 4) ∧ (∀ j, 0 ≤ V 1 j ∧ V 1 j ≤ 9) ∧ (∀ j, 0 ≤ V 2 j ∧ V 2 j ≤ 12) ∧ 0 ≤ V 3 0 ∧ V 3 0 ≤ 11 ∧ 0 ≤ V 3 1 ∧ V 3 1 ≤ 1000000
theorem okC_0 {V : cV} {i : Nat} {v : Int} (ok : okC V) (hi : i < 30) (hv : 0 ≤ v ∧ v ≤ 4) : okC (up V 0 i v) := by
  obtain ⟨n, a, b, c, e⟩ := ok
  refine ⟨up_n n (by omega), fun j => ?_, fun j => ?_, fun j => ?_, ?_⟩
  · by_cases h : j = i
    · subst h; rw [up_e]; exact hv
    · rw [up_o (by omega)]; exact a j
  · rw [up_o (by omega)]; exact b j
  · rw [up_o (by omega)]; exact c j
  · rw [up_o (by omega), up_o (by omega)]; exact e
theorem okC_1 {V : cV} {i : Nat} {v : Int} (ok : okC V) (hi : i < 30) (hv : 0 ≤ v ∧ v ≤ 9) : okC (up V 1 i v) := by
  obtain ⟨n, a, b, c, e⟩ := ok
  refine ⟨up_n n (by omega), fun j => ?_, fun j => ?_, fun j => ?_, ?_⟩
  · rw [up_o (by omega)]; exact a j
  · by_cases h : j = i
    · subst h; rw [up_e]; exact hv
    · rw [up_o (by omega)]; exact b j
  · rw [up_o (by omega)]; exact c j
  · rw [up_o (by omega), up_o (by omega)]; exact e
theorem okC_2 {V : cV} {i : Nat} {v : Int} (ok : okC V) (hi : i < 30) (hv : 0 ≤ v ∧ v ≤ 12) : okC (up V 2 i v) := by
  obtain ⟨n, a, b, c, e⟩ := ok
  refine ⟨up_n n (by omega), fun j => ?_, fun j => ?_, fun j => ?_, ?_⟩
  · rw [up_o (by omega)]; exact a j
  · rw [up_o (by omega)]; exact b j
  · by_cases h : j = i
    · subst h; rw [up_e]; exact hv
    · rw [up_o (by omega)]; exact c j
  · rw [up_o (by omega), up_o (by omega)]; exact e
/-- one square's wear -/
def wearS (i : Nat) (V : cV) : cV := if 0 < V 1 i then (if V 2 i + 1 < 12 then up V 2 i (V 2 i + 1) else up (up (up V 2 i (V 2 i + 1)) 1 i (V 1 i - 1)) 2 i 0) else V
def wearA : Nat → cV → cV
  | 0, V => V
  | n + 1, V => wearS n (wearA n V)
theorem okC_wS {i : Nat} {V : cV} (hi : i < 30) (ok : okC V) : okC (wearS i V) := by
  have o1 := ok.2.2.1 i
  have o2 := ok.2.2.2.1 i
  unfold wearS
  split
  · split
    · exact okC_2 ok hi (by omega)
    · have q : ∀ U : cV, U = up (up V 2 i (V 2 i + 1)) 1 i (V 1 i - 1) → okC (up U 2 i 0) := by
        intro U hU
        have e : up U 2 i 0 = up (up V 1 i (V 1 i - 1)) 2 i 0 := by
          funext a j
          rw [hU]
          simp only [up]
          repeat' split
          all_goals first | rfl | omega
        rw [e]
        exact okC_2 (okC_1 ok hi (by omega)) hi (by omega)
      exact q _ rfl
  · exact ok
theorem okC_w {V : cV} (ok : okC V) : ∀ n, n ≤ 30 → okC (wearA n V) := by
  intro n
  induction n with
  | zero => intro _; exact ok
  | succ n ih => intro h; exact okC_wS (by omega) (ih (by omega))
theorem s_15l {K : mK} {mx : Int × Int} {c : Nat} {V : cV} {σ : mM} (ok : okC V) : ∀ (n i : Nat), i + n = 30 → mgo K mx 15 2 [(21, (c : Int)), (0, (i : Int))] [] (sL (c + 1) (c + 2) (c + 3) c 4 (c + 4) 0 (wearA i V) σ) = some (0, sL (c + 1) (c + 2) (c + 3) c 4 (c + 4) 0 (wearA 30 V) σ) := by
  intro n
  induction n with
  | zero =>
    intro i hi
    rw [b_15_2, bLt_f (by omega), show i = 30 by omega]
  | succ n ih =>
    intro i hi
    have hi3 : i < 30 := by omega
    have ok2 := okC_w ok i (by omega)
    have o1 := ok2.2.2.1 i
    have o2 := ok2.2.2.2.1 i
    have q := ih (i + 1) (by omega)
    rw [b_15_2, bLt_t (by omega), bIn_t (by omega)]
    simp only [tn_n, sL_2 (dC c) hi3, sL_3 (dC c) hi3, uL_2 (dC c) hi3, uL_3 (dC c) hi3, up_e]
    rw [w32_n (by omega)]
    unfold wearA wearS at q
    by_cases h : 0 < wearA i V 1 i
    · rw [if_pos h] at q
      rw [bLt_t h, bIn_t (by omega), bIn_t (by omega), bIn_t (by omega), w32_e (by omega)]
      by_cases h2 : wearA i V 2 i + 1 < 12
      · rw [if_pos h2] at q
        rw [bLt_t h2, q]; rfl
      · rw [if_neg h2] at q
        rw [bLt_f (by omega), bIn_t (by omega), bIn_t (by omega), bIn_t (by omega), up_o (by omega), w32_e (by omega), q]; rfl
    · rw [if_neg h] at q
      rw [bLt_f (by omega), q]; rfl
theorem s_15 {d c : Nat} {V : cV} {σ : mM} (ok : okC V) : mcall (d + 1) 15 [(21, (c : Int))] (sL (c + 1) (c + 2) (c + 3) c 4 (c + 4) 0 V σ) = some (0, sL (c + 1) (c + 2) (c + 3) c 4 (c + 4) 0 (wearA 30 V) σ) := by
  rw [e_15]
  exact s_15l (K := mcall d) (mx := mX 15 (sL (c + 1) (c + 2) (c + 3) c 4 (c + 4) 0 V σ)) (c := c) (σ := σ) ok 30 0 rfl
