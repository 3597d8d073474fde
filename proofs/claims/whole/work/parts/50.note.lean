/-! PURE PART 31: mend, of, undo, redo -/
section
variable {d n b k : Nat} {σ τ : mM} {V : cV} {L : List (List Int × List Int)} {H : Nat → Nat → Int} {s : Int} {xs : Nat → Int} {N : Int}
def hnP (n : Nat) (x w : Int) : Prop := 0 ≤ w ∧ w ≤ 7 ∧ (w ≤ 2 → 0 ≤ x ∧ x < 30) ∧ (3 ≤ w ∧ w ≤ 5 → 0 ≤ x ∧ x < (n : Int)) ∧ (6 ≤ w → x = 0)
theorem s_40 {x w : Int} (hn : σ 1 4 = (n : Int)) : (hnP n x w → mcall (d + 2) 40 [(24, 1), (0, x), (0, w)] σ = some (1, σ)) ∧ (¬ hnP n x w → mcall (d + 2) 40 [(24, 1), (0, x), (0, w)] σ = some (0, σ)) := by
  unfold hnP
  rw [e_40]
  by_cases h0 : w < 0
  · exact ⟨fun q => by omega, fun _ => by rw [bLt_t h0, bIn_t (by omega)]⟩
  · rw [bLt_f (by omega)]
    by_cases h7 : 7 < w
    · exact ⟨fun q => by omega, fun _ => by rw [bLt_t h7, bIn_t (by omega)]⟩
    · rw [bLt_f (by omega)]
      by_cases h2 : 2 < w
      · rw [bLt_t h2]
        by_cases h5 : 5 < w
        · rw [bLt_t h5]
          by_cases hx : x = 0
          · rw [bEq_t hx, bIn_t (by omega)]; exact ⟨fun _ => rfl, fun q => by omega⟩
          · rw [bEq_f hx, bIn_t (by omega)]; exact ⟨fun q => by omega, fun _ => rfl⟩
        · rw [bLt_f (by omega), s_38 hn, bK_t]
          by_cases hx : 0 ≤ x ∧ x < (n : Int)
          · rw [if_pos hx, bIn_t (by omega)]; exact ⟨fun _ => rfl, fun q => by omega⟩
          · rw [if_neg hx, bIn_t (by omega)]; exact ⟨fun q => by omega, fun _ => rfl⟩
      · rw [bLt_f (by omega), s_127, bK_t]
        by_cases hx : 0 ≤ x ∧ x < 30
        · rw [if_pos hx, bIn_t (by omega)]; exact ⟨fun _ => rfl, fun q => by omega⟩
        · rw [if_neg hx, bIn_t (by omega)]; exact ⟨fun q => by omega, fun _ => rfl⟩
theorem s_142 {x w : Int} (hn : σ 64 3 = (n : Int)) (h8 : n ≤ 8) : (hnP n x w → mcall (d + 3) 142 [(30, 64), (0, x), (0, w)] σ = some (1, σ)) ∧ (¬ hnP n x w → mcall (d + 3) 142 [(30, 64), (0, x), (0, w)] σ = some (0, σ)) := by
  unfold hnP
  rw [e_142, s_133, bK_t]
  by_cases h2 : 0 ≤ w ∧ w ≤ 2
  · rw [if_pos h2, bEq_f (by omega), s_134, bK_t]
    by_cases hx : 0 ≤ x ∧ x < 30
    · rw [if_pos hx, bIn_t (by omega)]; exact ⟨fun _ => rfl, fun q => by omega⟩
    · rw [if_neg hx, bIn_t (by omega)]; exact ⟨fun q => by omega, fun _ => rfl⟩
  · rw [if_neg h2, bEq_t (by rfl), s_133, bK_t]
    by_cases h5 : 3 ≤ w ∧ w ≤ 5
    · rw [if_pos h5, bEq_f (by omega), s_135 hn h8, bK_t]
      by_cases hx : 0 ≤ x ∧ x < (n : Int)
      · rw [if_pos hx, bIn_t (by omega)]; exact ⟨fun _ => rfl, fun q => by omega⟩
      · rw [if_neg hx, bIn_t (by omega)]; exact ⟨fun q => by omega, fun _ => rfl⟩
    · rw [if_neg h5, bEq_t (by rfl), s_133, bK_t]
      by_cases h7 : 6 ≤ w ∧ w ≤ 7
      · rw [if_pos h7, bEq_f (by omega)]
        by_cases hx : x = 0
        · rw [bEq_t hx, bIn_t (by omega)]; exact ⟨fun _ => rfl, fun q => by omega⟩
        · rw [bEq_f hx, bIn_t (by omega)]; exact ⟨fun q => by omega, fun _ => rfl⟩
      · rw [if_neg h7, bEq_t (by rfl), bIn_t (by omega)]; exact ⟨fun q => by omega, fun _ => rfl⟩
theorem r_of {x w : Int} : cR 91 147 [(0, x), (0, w)] := by
  intro d xs N k σ hk R
  have R' := R
  obtain ⟨V, L, H, n, s, b, g1, ⟨e1, e2, -⟩, -⟩ := R
  obtain ⟨c1, c2⟩ := s_40 (d := d + 37) (x := x) (w := w) e1.2.1
  obtain ⟨m1, m2⟩ := s_142 (d := d + 36) (x := x) (w := w) e2.2.2.1 e2.2.2.2.1
  by_cases h : hnP n x w
  · have h' := h
    obtain ⟨h1, h2, h3, h4, h5⟩ := h'
    obtain ⟨num, hnum⟩ : ∃ i : Nat, x = (i : Int) := ⟨x.toNat, by omega⟩
    obtain ⟨what, hwhat⟩ : ∃ i : Nat, w = (i : Int) := ⟨w.toNat, by omega⟩
    subst hnum hwhat
    have a := s_41e (d := d + 37) (num := num) (what := what) g1.1 e1 (by omega) (fun q => by omega) (fun q => by omega)
    have b := s_144e (d := d + 38) (num := num) (what := what) g1.2.1 e2 (by omega) (fun q => by omega) (fun q => by omega)
    refine ⟨nvA V H s num what, σ, σ, ?_, ?_, RR_i R', rfl, rfl⟩
    · rw [e_91, c1 h, bK_t, bEq_f (by omega), a, bK_t]
    · rw [e_147, m1 h, bK_t, bEq_f (by omega), b, bK_t]
  · refine ⟨-1, σ, σ, ?_, ?_, RR_i R', rfl, rfl⟩
    · rw [e_91, c2 h, bK_t, bEq_t (by rfl)]
    · rw [e_147, m2 h, bK_t, bEq_t (by rfl)]
/-- whether a number fits, in the model -/
theorem s_143 {what : Nat} {v : Int} (h : what ≤ 7) : mcall (d + 3) 143 [(0, (what : Int)), (0, v)] σ = some (if 0 ≤ v ∧ v ≤ mC0 what then 1 else 0, σ) := by
  rw [e_143]
  rcases (by omega : what = 0 ∨ what = 1 ∨ what = 2 ∨ what = 3 ∨ what = 4 ∨ what = 5 ∨ what = 6 ∨ what = 7) with rfl | rfl | rfl | rfl | rfl | rfl | rfl | rfl
  · rw [bEq_t (by rfl), s_133, bK_t, bIn_t i01]; rfl
  · rw [bEq_f (by omega), bEq_t (by rfl), s_133, bK_t, bIn_t i01]; rfl
  · rw [bEq_f (by omega), bEq_f (by omega), bEq_t (by rfl), s_133, bK_t, bIn_t i01]; rfl
  · rw [bEq_f (by omega), bEq_f (by omega), bEq_f (by omega), bEq_t (by rfl), s_134, bK_t, bIn_t i01]
    exact congrArg (fun z : Int => some (z, σ)) (i_cg (by show 0 ≤ v ∧ v < 30 ↔ 0 ≤ v ∧ v ≤ 29; omega))
  · rw [bEq_f (by omega), bEq_f (by omega), bEq_f (by omega), bEq_f (by omega), bEq_t (by rfl), s_133, bK_t, bIn_t i01]; rfl
  · rw [bEq_f (by omega), bEq_f (by omega), bEq_f (by omega), bEq_f (by omega), bEq_f (by omega), bEq_t (by rfl), s_133, bK_t, bIn_t i01]; rfl
  · rw [bEq_f (by omega), bEq_f (by omega), bEq_f (by omega), bEq_f (by omega), bEq_f (by omega), bEq_f (by omega), bEq_t (by rfl), s_133, bK_t, bIn_t i01]; rfl
  · rw [bEq_f (by omega), bEq_f (by omega), bEq_f (by omega), bEq_f (by omega), bEq_f (by omega), bEq_f (by omega), bEq_f (by omega), bEq_t (by rfl), s_133, bK_t, bIn_t i01]; rfl
/-- a change noted, in the class -/
theorem s_1s {a b c e : Int} {E : Nat} (hE : σ 38 4 = (E : Int)) (h40 : E < 40) : ∃ μ, (∀ K : mA → mA, K (bIn (σ 38 4) 40 (bIn ((mset σ 39 (σ 38 4).toNat a) 38 4) 40 (bIn ((mset (mset σ 39 (σ 38 4).toNat a) 40 ((mset σ 39 (σ 38 4).toNat a) 38 4).toNat b) 38 4) 40 (bIn ((mset (mset (mset σ 39 (σ 38 4).toNat a) 40 ((mset σ 39 (σ 38 4).toNat a) 38 4).toNat b) 41 ((mset (mset σ 39 (σ 38 4).toNat a) 40 ((mset σ 39 (σ 38 4).toNat a) 38 4).toNat b) 38 4).toNat c) 38 4) 40 (some (0, mset (mset (mset (mset (mset (mset σ 39 (σ 38 4).toNat a) 40 ((mset σ 39 (σ 38 4).toNat a) 38 4).toNat b) 41 ((mset (mset σ 39 (σ 38 4).toNat a) 40 ((mset σ 39 (σ 38 4).toNat a) 38 4).toNat b) 38 4).toNat c) 42 ((mset (mset (mset σ 39 (σ 38 4).toNat a) 40 ((mset σ 39 (σ 38 4).toNat a) 38 4).toNat b) 41 ((mset (mset σ 39 (σ 38 4).toNat a) 40 ((mset σ 39 (σ 38 4).toNat a) 38 4).toNat b) 38 4).toNat c) 38 4).toNat e) 38 4 (w32 (((mset (mset (mset (mset σ 39 (σ 38 4).toNat a) 40 ((mset σ 39 (σ 38 4).toNat a) 38 4).toNat b) 41 ((mset (mset σ 39 (σ 38 4).toNat a) 40 ((mset σ 39 (σ 38 4).toNat a) 38 4).toNat b) 38 4).toNat c) 42 ((mset (mset (mset σ 39 (σ 38 4).toNat a) 40 ((mset σ 39 (σ 38 4).toNat a) 38 4).toNat b) 41 ((mset (mset σ 39 (σ 38 4).toNat a) 40 ((mset σ 39 (σ 38 4).toNat a) 38 4).toNat b) 38 4).toNat c) 38 4).toNat e) 38 4) + 1))) 38 5 0)))))) = K (some (0, μ))) ∧
    μ = mset (mset (mset (mset (mset (mset σ 39 E a) 40 E b) 41 E c) 42 E e) 38 4 ((E + 1 : Nat) : Int)) 38 5 0 := by
  refine ⟨_, fun K => ?_, rfl⟩
  have r39 : ∀ (τ : mM) (i : Nat) (v : Int), mset τ 39 i v 38 4 = τ 38 4 := fun _ _ _ => ms_n (by omega)
  have r40 : ∀ (τ : mM) (i : Nat) (v : Int), mset τ 40 i v 38 4 = τ 38 4 := fun _ _ _ => ms_n (by omega)
  have r41 : ∀ (τ : mM) (i : Nat) (v : Int), mset τ 41 i v 38 4 = τ 38 4 := fun _ _ _ => ms_n (by omega)
  have r42 : ∀ (τ : mM) (i : Nat) (v : Int), mset τ 42 i v 38 4 = τ 38 4 := fun _ _ _ => ms_n (by omega)
  simp only [r39, r40, r41, r42, hE, tn_n]
  rw [bIn_t (by omega), bIn_t (by omega), bIn_t (by omega), bIn_t (by omega), w32_n (by omega)]
def ntC (σ : mM) (E : Nat) (a b c e : Int) : mM := mset (mset (mset (mset (mset (mset σ 39 E a) 40 E b) 41 E c) 42 E e) 38 4 ((E + 1 : Nat) : Int)) 38 5 0
def shC1 (σ : mM) : mM := mset (mcopy (mcopy (mcopy (mcopy σ 39 39 1 0 39) 40 40 1 0 39) 41 41 1 0 39) 42 42 1 0 39) 38 4 39
theorem s_1 {a b c e : Int} {D : Nat} (hD : σ 38 4 = (D : Int)) (h40 : D ≤ 40) : mcall (d + 2) 1 [(20, 38), (0, a), (0, b), (0, c), (0, e)] σ = some (0, if D < 40 then ntC σ D a b c e else ntC (shC1 σ) 39 a b c e) := by
  rw [e_1]
  by_cases h : D < 40
  · obtain ⟨μ, m1, m2⟩ := s_1s (a := a) (b := b) (c := c) (e := e) hD h
    rw [bLt_t (by omega), m1 (fun z => z), m2, if_pos h]
    rfl
  · have e2 : mcall (d + 1) 2 [(20, 38)] σ = some (0, shC1 σ) := by
      rw [e_2, bCp_t (by omega), bCp_t (by omega), bCp_t (by omega), bCp_t (by omega)]
      rfl
    obtain ⟨μ, m1, m2⟩ := s_1s (σ := shC1 σ) (E := 39) (a := a) (b := b) (c := c) (e := e) ms_e (by omega)
    rw [bLt_f (by omega), e2, bK_t, m1 (fun z => z), m2, if_neg h]
    rfl
theorem ntC_v {E : Nat} {a b c e : Int} : (ntC σ E a b c e) 38 4 = ((E + 1 : Nat) : Int) ∧ (ntC σ E a b c e) 38 5 = 0 ∧ (ntC σ E a b c e) 39 E = a ∧ (ntC σ E a b c e) 40 E = b ∧ (ntC σ E a b c e) 41 E = c ∧ (ntC σ E a b c e) 42 E = e ∧ (∀ x j, j ≠ E → x ≠ 38 → (ntC σ E a b c e) x j = σ x j) ∧ ∀ x j, (x < 38 ∨ 42 < x) → (ntC σ E a b c e) x j = σ x j := by
  unfold ntC
  refine ⟨?_, ms_e, ?_, ?_, ?_, ?_, fun x j h1 h2 => ?_, fun x j h => ?_⟩
  · rw [ms_n (by omega), ms_e]
  · rw [ms_n (by omega), ms_n (by omega), ms_n (by omega), ms_n (by omega), ms_n (by omega), ms_e]
  · rw [ms_n (by omega), ms_n (by omega), ms_n (by omega), ms_n (by omega), ms_e]
  · rw [ms_n (by omega), ms_n (by omega), ms_n (by omega), ms_e]
  · rw [ms_n (by omega), ms_n (by omega), ms_e]
  · rw [ms_n (by omega), ms_n (by omega), ms_n (by omega), ms_n (by omega), ms_n (by omega), ms_n (by omega)]
  · rw [ms_n (by omega), ms_n (by omega), ms_n (by omega), ms_n (by omega), ms_n (by omega), ms_n (by omega)]
theorem shC1_v : (∀ x j, 39 ≤ x → x ≤ 42 → j < 39 → shC1 σ x j = σ x (j + 1)) ∧ ∀ x j, (x < 38 ∨ 42 < x) → shC1 σ x j = σ x j := by
  unfold shC1
  refine ⟨fun x j h1 h2 h3 => ?_, fun x j h => ?_⟩
  · have e : 1 + (j - 0) = j + 1 := by omega
    rcases (by omega : x = 39 ∨ x = 40 ∨ x = 41 ∨ x = 42) with rfl | rfl | rfl | rfl
    · rw [ms_n (by omega), mcp_o (by omega), mcp_o (by omega), mcp_o (by omega), mcp_i (by omega), e]
    · rw [ms_n (by omega), mcp_o (by omega), mcp_o (by omega), mcp_i (by omega), mcp_o (by omega), e]
    · rw [ms_n (by omega), mcp_o (by omega), mcp_i (by omega), mcp_o (by omega), mcp_o (by omega), e]
    · rw [ms_n (by omega), mcp_i (by omega), mcp_o (by omega), mcp_o (by omega), mcp_o (by omega), e]
  · rw [ms_n (by omega), mcp_o (by omega), mcp_o (by omega), mcp_o (by omega), mcp_o (by omega)]
/-- a change noted, in the model -/
def ntM (σ : mM) (E : Nat) (a b c e : Int) : mM := mset (mset (mset (mset (mset (mset σ 84 (4 * E) a) 84 (4 * E + 1) b) 84 (4 * E + 2) c) 84 (4 * E + 3) e) 64 30 ((E + 1 : Nat) : Int)) 64 29 ((E + 1 : Nat) : Int)
theorem w4E {E : Nat} (h : E < 40) : w32 (4 * (E : Int)) = ((4 * E : Nat) : Int) := by rw [w32_e (by omega)]; omega
theorem w4E2 {E : Nat} (h : E < 40) : w32 (((4 * E : Nat) : Int) + 2) = ((4 * E + 2 : Nat) : Int) := by rw [w32_e (by omega)]; omega
theorem w4E3 {E : Nat} (h : E < 40) : w32 (((4 * E : Nat) : Int) + 3) = ((4 * E + 3 : Nat) : Int) := by rw [w32_e (by omega)]; omega
theorem s_146n {K : mK} {mx : Int × Int} {a b e c : Int} {E : Nat} {u : mV} (hu : uvl u) (hE : σ 64 30 = (E : Int)) (h : E < 40) : mgo K mx 146 95 [(30, 64), (0, a), (0, b), (0, e), (0, c), u] [] σ = some (c, ntM σ E a b c e) := by
  have r84 : ∀ (τ : mM) (i : Nat) (v : Int), mset τ 84 i v 64 30 = τ 64 30 := fun _ _ _ => ms_n (by omega)
  have q : mgo K mx 146 95 [(30, 64), (0, a), (0, b), (0, e), (0, c), u] [] σ = mgo K mx 146 95 [(30, 64), (0, a), (0, b), (0, e), (0, c), (0, 0)] [] σ := by
    rcases hu with rfl | ⟨x, rfl⟩
    · exact (f_146_95a _ _ _ _ _ _ _).trans (f_146_95 _ _ _ _ _ _ _ _).symm
    · exact (f_146_95 _ _ _ _ _ _ _ _).trans (f_146_95 _ _ _ _ _ _ _ _).symm
  rw [q, f_146_95]
  simp only [r84, hE, ms_e]
  simp only [w4E h, w32_n (show 4 * E < 2147483647 by omega), w4E2 h, w4E3 h, tn_n]
  rw [bIn_t (by omega), bIn_t (by omega), bIn_t (by omega), bIn_t (by omega), w32_n (by omega)]
  rfl
def shM1 (m : Nat) (σ : mM) : mM := fun a j => if a = 84 ∧ j < m then σ 84 (j + 4) else σ a j
theorem shM1_s {m : Nat} : mset (shM1 m σ) 84 m (shM1 m σ 84 (m + 4)) = shM1 (m + 1) σ := by
  rw [show shM1 m σ 84 (m + 4) = σ 84 (m + 4) from if_neg (by omega)]
  funext a j
  by_cases h1 : a = 84 ∧ j = m
  · rw [h1.1, h1.2, ms_e]; exact (if_pos (by omega)).symm
  · rw [ms_n (by omega)]
    unfold shM1
    by_cases h2 : a = 84 ∧ j < m
    · rw [if_pos h2, if_pos (by omega)]
    · rw [if_neg h2, if_neg (by omega)]
theorem s_146s {K : mK} {mx : Int × Int} {a b e c : Int} (hE : σ 64 30 = 40) : mgo K mx 146 55 [(30, 64), (0, a), (0, b), (0, e), (0, c), (0, 0)] [] σ = some (c, ntM (mset (shM1 156 σ) 64 30 39) 39 a b c e) := by
  have q : ∀ (r m : Nat), m + r = 156 → mgo K mx 146 55 [(30, 64), (0, a), (0, b), (0, e), (0, c), (0, (m : Int))] [] (shM1 m σ) = some (c, ntM (mset (shM1 156 σ) 64 30 39) 39 a b c e) := by
    intro r
    induction r with
    | zero =>
      intro m hm
      have hm : m = 156 := by omega
      subst hm
      rw [f_146_55, bLt_f (by omega), show shM1 156 σ 64 30 = σ 64 30 from if_neg (by omega), hE, show w32 (40 - 1) = 39 by rfl]
      exact s_146n (E := 39) (Or.inr ⟨_, rfl⟩) ms_e (by omega)
    | succ r ih =>
      intro m hm
      have w : Unit → w32 ((m : Int) + 4) = ((m + 4 : Nat) : Int) := fun _ => by rw [w32_e (by omega)]; omega
      rw [f_146_55, bLt_t (by omega), w (), bIn_t (by omega), bIn_t (by omega), tn_n, tn_n, shM1_s, w32_n (by omega)]
      exact ih (m + 1) (by omega)
  have z := q 156 0 rfl
  rw [show shM1 0 σ = σ from funext fun a => funext fun j => if_neg (by omega)] at z
  exact z
theorem ntM_v {E : Nat} {a b c e : Int} : (ntM σ E a b c e) 64 30 = ((E + 1 : Nat) : Int) ∧ (ntM σ E a b c e) 64 29 = ((E + 1 : Nat) : Int) ∧ (ntM σ E a b c e) 84 (4 * E) = a ∧ (ntM σ E a b c e) 84 (4 * E + 1) = b ∧ (ntM σ E a b c e) 84 (4 * E + 2) = c ∧ (ntM σ E a b c e) 84 (4 * E + 3) = e ∧ (∀ j, (j < 4 * E ∨ 4 * E + 3 < j) → (ntM σ E a b c e) 84 j = σ 84 j) ∧ ∀ x j, ¬ (x = 84 ∨ (x = 64 ∧ (j = 29 ∨ j = 30))) → (ntM σ E a b c e) x j = σ x j := by
  unfold ntM
  refine ⟨?_, ms_e, ?_, ?_, ?_, ?_, fun j h1 => ?_, fun x j h => ?_⟩
  · rw [ms_n (by omega), ms_e]
  · rw [ms_n (by omega), ms_n (by omega), ms_n (by omega), ms_n (by omega), ms_n (by omega), ms_e]
  · rw [ms_n (by omega), ms_n (by omega), ms_n (by omega), ms_n (by omega), ms_e]
  · rw [ms_n (by omega), ms_n (by omega), ms_n (by omega), ms_e]
  · rw [ms_n (by omega), ms_n (by omega), ms_e]
  · rw [ms_n (by omega), ms_n (by omega), ms_n (by omega), ms_n (by omega), ms_n (by omega), ms_n (by omega)]
  · rw [ms_n (by omega), ms_n (by omega), ms_n (by omega), ms_n (by omega), ms_n (by omega), ms_n (by omega)]
theorem nvA_ok {num what : Nat} (ok : okC V) (hs : 0 ≤ s ∧ s ≤ 12) (hH : 3 ≤ what ∧ what ≤ 5 → 0 ≤ H 0 num ∧ H 0 num < 30) (h7 : what ≤ 7) (h4 : what ≠ 4) (h5 : what ≠ 5) : 0 ≤ nvA V H s num what ∧ nvA V H s num what ≤ mC0 what := by
  rcases (by omega : what = 0 ∨ what = 1 ∨ what = 2 ∨ what = 3 ∨ what = 6 ∨ what = 7) with rfl | rfl | rfl | rfl | rfl | rfl
  · exact ok.2.1 num
  · exact ok.2.2.1 num
  · exact ok.2.2.2.1 num
  · have := hH (by omega)
    show 0 ≤ H 0 num ∧ H 0 num ≤ 29
    omega
  · exact ⟨ok.2.2.2.2.1, ok.2.2.2.2.2.1⟩
  · exact hs
/-- all groups anew, where covers, houses, changes change -/
theorem RR_a {V' : cV} {L' : List (List Int × List Int)} {H' : Nat → Nat → Int} {s' : Int} (R : RR xs N k σ) (x : ∀ a j, ¬ (P1 a j ∨ P2 a j ∨ P6 a j ∨ SC a j) → τ a j = σ a j) (g1 : G1 τ V' (k + 1)) (g2 : G2 τ L' H' n s') (g6 : G6 τ n) : RR xs N (k + 1) τ := by
  obtain ⟨V, L, H, n', s, b, -, -, g3, g4, g5, -, g7, g8⟩ := R
  exact ⟨V', L', H', n, s', b, g1, g2, G3_k (by omega) (G3_f (fun a j h => x a j (by unfold P1 P2 P3 P6 SC at *; omega)) g3), G4_f (fun a j h => x a j (by unfold P1 P2 P4 P6 SC at *; omega)) g4, G5_f (fun a j h => x a j (by unfold P1 P2 P5 P6 SC at *; omega)) g5, g6, G7_f (fun a j h => x a j (by unfold P1 P2 P7 P6 SC at *; omega)) g7, G8_f (fun a j h => x a j (by unfold P1 P2 P8 P6 SC at *; omega)) g8⟩
end
