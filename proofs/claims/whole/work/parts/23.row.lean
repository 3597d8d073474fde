/-! PURE PART 3: rows that turn and slide -/
def sR (x : Nat) (f : Nat → Int) (σ : mM) : mM := fun a j => if a = x then f j else σ a j
def rV (V : cV) (k : Nat) (f : Nat → Int) : cV := fun a j => if a = k then f j else V a j
def rotR (l way : Nat) (f : Nat → Int) : Nat → Int := fun j => if way = 0 then (if j = 6 * l then f (6 * l + 5) else if 6 * l < j ∧ j < 6 * l + 6 then f (j - 1) else f j) else (if j = 6 * l + 5 then f (6 * l) else if 6 * l ≤ j ∧ j < 6 * l + 5 then f (j + 1) else f j)
def sliR (f : Nat → Int) : Nat → Int := fun j => if j < 6 then f (24 + j) else if j < 30 then f (j - 6) else f j
def sliI (i : Nat) (f : Nat → Int) : Nat → Int := fun j => if j % 6 < i then sliR f j else f j
theorem sR_e {x j : Nat} {f : Nat → Int} {σ : mM} : sR x f σ x j = f j := if_pos rfl
theorem sR_o {x a j : Nat} {f : Nat → Int} {σ : mM} (h : a ≠ x) : sR x f σ a j = σ a j := if_neg h
/-- what a row's change looks at -/
def rowF (F : (Nat → Int) → Nat → Int) : Prop := (∀ f g, (∀ j, j < 30 → f j = g j) → ∀ j, j < 30 → F f j = F g j) ∧ ∀ f j, 30 ≤ j → F f j = f j
theorem rowF_rot {l way : Nat} (hl : l < 5) : rowF (rotR l way) := by
  refine ⟨fun f g h j hj => ?_, fun f j hj => ?_⟩
  · simp only [rotR]
    repeat' split
    all_goals exact h _ (by omega)
  · simp only [rotR]
    repeat' split
    all_goals first | rfl | omega
theorem rowF_sli : rowF sliR := by
  refine ⟨fun f g h j hj => ?_, fun f j hj => ?_⟩
  · simp only [sliR]
    repeat' split
    all_goals exact h _ (by omega)
  · simp only [sliR]
    repeat' split
    all_goals first | rfl | omega
section
variable {a1 a2 a3 a4 i4 a5 i5 : Nat} {V : cV} {σ : mM} {F : (Nat → Int) → Nat → Int}
theorem sL_cg {V' : cV} {a j : Nat} (h0 : a = a1 ∧ j < 30 → V 0 j = V' 0 j) (h1 : a = a2 ∧ j < 30 → V 1 j = V' 1 j) (h2 : a = a3 ∧ j < 30 → V 2 j = V' 2 j) (h3 : V 3 0 = V' 3 0) (h4 : V 3 1 = V' 3 1) : sL a1 a2 a3 a4 i4 a5 i5 V σ a j = sL a1 a2 a3 a4 i4 a5 i5 V' σ a j := by
  unfold sL
  split
  · next h => exact h0 h
  · split
    · next h => exact h1 h
    · split
      · next h => exact h2 h
      · rw [h3, h4]
theorem sR_1 (D : dL a1 a2 a3 a4 i4 a5 i5) (R : rowF F) : sR a1 (F (sL a1 a2 a3 a4 i4 a5 i5 V σ a1)) (sL a1 a2 a3 a4 i4 a5 i5 V σ) = sL a1 a2 a3 a4 i4 a5 i5 (rV V 0 (F (V 0))) σ := by
  unfold dL at D
  funext a j
  have e1 : j < 30 → F (sL a1 a2 a3 a4 i4 a5 i5 V σ a1) j = F (V 0) j := fun hj => R.1 _ _ (fun k hk => sL_1 hk) j hj
  have e2 : 30 ≤ j → F (sL a1 a2 a3 a4 i4 a5 i5 V σ a1) j = σ a1 j := fun hj => by rw [R.2 _ j hj]; unfold sL; repeat' split; all_goals first | rfl | omega
  simp only [sR]
  by_cases h : a = a1
  · subst h
    rw [if_pos rfl]
    by_cases hj : j < 30
    · rw [e1 hj]; unfold sL; rw [if_pos ⟨rfl, hj⟩]; rfl
    · rw [e2 (by omega)]; unfold sL; rw [if_neg (by omega), if_neg (by omega), if_neg (by omega), if_neg (by omega), if_neg (by omega)]
  · rw [if_neg h]
    exact sL_cg (fun q => absurd q.1 h) (fun _ => rfl) (fun _ => rfl) rfl rfl
theorem sR_2 (D : dL a1 a2 a3 a4 i4 a5 i5) (R : rowF F) : sR a2 (F (sL a1 a2 a3 a4 i4 a5 i5 V σ a2)) (sL a1 a2 a3 a4 i4 a5 i5 V σ) = sL a1 a2 a3 a4 i4 a5 i5 (rV V 1 (F (V 1))) σ := by
  have D' := D
  unfold dL at D
  funext a j
  have e1 : j < 30 → F (sL a1 a2 a3 a4 i4 a5 i5 V σ a2) j = F (V 1) j := fun hj => R.1 _ _ (fun k hk => sL_2 D' hk) j hj
  have e2 : 30 ≤ j → F (sL a1 a2 a3 a4 i4 a5 i5 V σ a2) j = σ a2 j := fun hj => by rw [R.2 _ j hj]; unfold sL; repeat' split; all_goals first | rfl | omega
  simp only [sR]
  by_cases h : a = a2
  · subst h
    rw [if_pos rfl]
    by_cases hj : j < 30
    · rw [e1 hj]; unfold sL; rw [if_neg (by omega), if_pos ⟨rfl, hj⟩]; rfl
    · rw [e2 (by omega)]; unfold sL; rw [if_neg (by omega), if_neg (by omega), if_neg (by omega), if_neg (by omega), if_neg (by omega)]
  · rw [if_neg h]
    exact sL_cg (fun _ => rfl) (fun q => absurd q.1 h) (fun _ => rfl) rfl rfl
theorem sR_3 (D : dL a1 a2 a3 a4 i4 a5 i5) (R : rowF F) : sR a3 (F (sL a1 a2 a3 a4 i4 a5 i5 V σ a3)) (sL a1 a2 a3 a4 i4 a5 i5 V σ) = sL a1 a2 a3 a4 i4 a5 i5 (rV V 2 (F (V 2))) σ := by
  have D' := D
  unfold dL at D
  funext a j
  have e1 : j < 30 → F (sL a1 a2 a3 a4 i4 a5 i5 V σ a3) j = F (V 2) j := fun hj => R.1 _ _ (fun k hk => sL_3 D' hk) j hj
  have e2 : 30 ≤ j → F (sL a1 a2 a3 a4 i4 a5 i5 V σ a3) j = σ a3 j := fun hj => by rw [R.2 _ j hj]; unfold sL; repeat' split; all_goals first | rfl | omega
  simp only [sR]
  by_cases h : a = a3
  · subst h
    rw [if_pos rfl]
    by_cases hj : j < 30
    · rw [e1 hj]; unfold sL; rw [if_neg (by omega), if_neg (by omega), if_pos ⟨rfl, hj⟩]; rfl
    · rw [e2 (by omega)]; unfold sL; rw [if_neg (by omega), if_neg (by omega), if_neg (by omega), if_neg (by omega), if_neg (by omega)]
  · rw [if_neg h]
    exact sL_cg (fun _ => rfl) (fun _ => rfl) (fun q => absurd q.1 h) rfl rfl
end
theorem mcp_i {σ : mM} {c1 c2 sp dp n j : Nat} (h : dp ≤ j ∧ j < dp + n) : mcopy σ c1 c2 sp dp n c2 j = σ c1 (sp + (j - dp)) := if_pos ⟨rfl, h⟩
theorem mcp_o {σ : mM} {c1 c2 sp dp n a j : Nat} (h : a ≠ c2 ∨ j < dp ∨ dp + n ≤ j) : mcopy σ c1 c2 sp dp n a j = σ a j := if_neg (by omega)
theorem rot_0a {l j : Nat} {f : Nat → Int} (h : j = 6 * l) : rotR l 0 f j = f (6 * l + 5) := (if_pos rfl).trans (if_pos h)
theorem rot_0b {l j : Nat} {f : Nat → Int} (h : 6 * l < j ∧ j < 6 * l + 6) : rotR l 0 f j = f (j - 1) := (if_pos rfl).trans ((if_neg (by omega)).trans (if_pos h))
theorem rot_0c {l j : Nat} {f : Nat → Int} (h : j < 6 * l ∨ 6 * l + 6 ≤ j) : rotR l 0 f j = f j := (if_pos rfl).trans ((if_neg (by omega)).trans (if_neg (by omega)))
theorem rot_1a {l j : Nat} {f : Nat → Int} (h : j = 6 * l + 5) : rotR l 1 f j = f (6 * l) := (if_neg (by decide)).trans (if_pos h)
theorem rot_1b {l j : Nat} {f : Nat → Int} (h : 6 * l ≤ j ∧ j < 6 * l + 5) : rotR l 1 f j = f (j + 1) := (if_neg (by decide)).trans ((if_neg (by omega)).trans (if_pos h))
theorem rot_1c {l j : Nat} {f : Nat → Int} (h : j < 6 * l ∨ 6 * l + 6 ≤ j) : rotR l 1 f j = f j := (if_neg (by decide)).trans ((if_neg (by omega)).trans (if_neg (by omega)))
theorem s_18 {d x l : Nat} {σ : mM} (hl : l < 5) (way : Nat) (hw : way < 2) : mcall (d + 1) 18 [(1030, (x : Int)), (0, ((6 * l : Nat) : Int)), (0, (way : Int))] σ = some (0, sR x (rotR l way (σ x)) σ) := by
  have e1 : w32 (((6 * l : Nat) : Int) + 1) = ((6 * l + 1 : Nat) : Int) := w32_n (by omega)
  have e2 : w32 ((w32 (((6 * l : Nat) : Int) + 6)) - 1) = ((6 * l + 5 : Nat) : Int) := by rw [w32_e (x := ((6 * l : Nat) : Int) + 6) (by omega), w32_e (by omega)]; omega
  rw [e_18]
  rcases (by omega : way = 0 ∨ way = 1) with rfl | rfl
  · rw [bEq_t (by rfl), e1, e2, bIn_t (by omega), bCp_t (by omega), bIn_t (by omega)]
    simp only [tn_n]
    refine congrArg (fun τ : mM => some ((0 : Int), τ)) ?_
    funext a j
    by_cases ha : a = x
    · subst ha
      rw [sR_e]
      by_cases h1 : j = 6 * l
      · rw [rot_0a h1, h1, ms_e]
      · rw [ms_n (Or.inr h1)]
        by_cases h2 : 6 * l < j ∧ j < 6 * l + 6
        · rw [rot_0b h2, mcp_i (by omega)]
          exact congrArg (σ a) (by omega)
        · rw [rot_0c (by omega), mcp_o (by omega)]
    · rw [sR_o ha, ms_n (Or.inl ha), mcp_o (Or.inl ha)]
  · rw [bEq_f (by omega), e1, e2, bIn_t (by omega), bCp_t (by omega), bIn_t (by omega)]
    simp only [tn_n]
    refine congrArg (fun τ : mM => some ((0 : Int), τ)) ?_
    funext a j
    by_cases ha : a = x
    · subst ha
      rw [sR_e]
      by_cases h1 : j = 6 * l + 5
      · rw [rot_1a h1, h1, ms_e]
      · rw [ms_n (Or.inr h1)]
        by_cases h2 : 6 * l ≤ j ∧ j < 6 * l + 5
        · rw [rot_1b h2, mcp_i (by omega)]
          exact congrArg (σ a) (by omega)
        · rw [rot_1c (by omega), mcp_o (by omega)]
    · rw [sR_o ha, ms_n (Or.inl ha), mcp_o (Or.inl ha)]
def moveA (l way : Nat) (V : cV) : cV := rV (rV (rV V 0 (rotR l way (V 0))) 1 (rotR l way (V 1))) 2 (rotR l way (V 2))
theorem s_17 {d c l way : Nat} {V : cV} {σ : mM} (hl : l < 5) (hw : way < 2) : mcall (d + 2) 17 [(21, (c : Int)), (0, (l : Int)), (0, (way : Int))] (sL (c + 1) (c + 2) (c + 3) c 4 (c + 4) 0 V σ) = some (0, sL (c + 1) (c + 2) (c + 3) c 4 (c + 4) 0 (moveA l way V) σ) := by
  have e1 : w32 ((l : Int) * 6) = ((6 * l : Nat) : Int) := by rw [w32_e (by omega)]; omega
  have k1 : ∀ τ, mcall (d + 1) 18 [(1030, (c : Int) + 1), (0, ((6 * l : Nat) : Int)), (0, (way : Int))] τ = some (0, sR (c + 1) (rotR l way (τ (c + 1))) τ) := fun τ => s_18 (x := c + 1) hl way hw
  have k2 : ∀ τ, mcall (d + 1) 18 [(1030, (c : Int) + 2), (0, ((6 * l : Nat) : Int)), (0, (way : Int))] τ = some (0, sR (c + 2) (rotR l way (τ (c + 2))) τ) := fun τ => s_18 (x := c + 2) hl way hw
  have k3 : ∀ τ, mcall (d + 1) 18 [(1030, (c : Int) + 3), (0, ((6 * l : Nat) : Int)), (0, (way : Int))] τ = some (0, sR (c + 3) (rotR l way (τ (c + 3))) τ) := fun τ => s_18 (x := c + 3) hl way hw
  rw [e_17, e1, k1, bK_t, sR_1 (dC c) (rowF_rot hl), k2, bK_t, sR_2 (dC c) (rowF_rot hl), k3, bK_t, sR_3 (dC c) (rowF_rot hl)]
  rfl
theorem sli_i {i : Nat} {f : Nat → Int} (hi : i < 6) {x : Nat} {σ : mM} : mset (mset (mset (mset (mset (sR x (sliI i f) σ) x (24 + i) (f (18 + i))) x (18 + i) (f (12 + i))) x (12 + i) (f (6 + i))) x (6 + i) (f i)) x i (f (24 + i)) = sR x (sliI (i + 1) f) σ := by
  funext a j
  by_cases ha : a = x
  · subst ha
    by_cases h6 : j % 6 = i
    · by_cases h30 : j < 30
      · rcases (by omega : j = i ∨ j = 6 + i ∨ j = 12 + i ∨ j = 18 + i ∨ j = 24 + i) with h | h | h | h | h
        · subst h
          rw [ms_e]; rw [sR_e]; simp only [sliI, sliR]; rw [if_pos (by omega), if_pos (by omega)]
        · subst h
          rw [ms_n (by omega), ms_e]; rw [sR_e]; simp only [sliI, sliR]; rw [if_pos (by omega), if_neg (by omega), if_pos (by omega)]; exact congrArg f (by omega)
        · subst h
          rw [ms_n (by omega), ms_n (by omega), ms_e]; rw [sR_e]; simp only [sliI, sliR]; rw [if_pos (by omega), if_neg (by omega), if_pos (by omega)]; exact congrArg f (by omega)
        · subst h
          rw [ms_n (by omega), ms_n (by omega), ms_n (by omega), ms_e]; rw [sR_e]; simp only [sliI, sliR]; rw [if_pos (by omega), if_neg (by omega), if_pos (by omega)]; exact congrArg f (by omega)
        · subst h
          rw [ms_n (by omega), ms_n (by omega), ms_n (by omega), ms_n (by omega), ms_e]; rw [sR_e]; simp only [sliI, sliR]; rw [if_pos (by omega), if_neg (by omega), if_pos (by omega)]; exact congrArg f (by omega)
      · rw [ms_n (by omega), ms_n (by omega), ms_n (by omega), ms_n (by omega), ms_n (by omega)]
        rw [sR_e, sR_e]
        simp only [sliI, sliR]
        repeat' split
        all_goals first | rfl | omega
    · rw [ms_n (by omega), ms_n (by omega), ms_n (by omega), ms_n (by omega), ms_n (by omega)]
      rw [sR_e, sR_e]
      simp only [sliI]
      by_cases h : j % 6 < i
      · rw [if_pos h, if_pos (by omega)]
      · rw [if_neg h, if_neg (by omega)]
  · rw [ms_n (Or.inl ha), ms_n (Or.inl ha), ms_n (Or.inl ha), ms_n (Or.inl ha), ms_n (Or.inl ha), sR_o ha, sR_o ha]
theorem s_16s {K : mK} {mx : Int × Int} {x i u v : Nat} {v2 : Int} {τ : mM} (h : u = v + 6) (hu : u < 30) : mgo K mx 16 20 [(1030, (x : Int)), (0, (i : Int)), (0, v2), (0, (u : Int))] [] τ = mgo K mx 16 20 [(1030, (x : Int)), (0, (i : Int)), (0, v2), (0, (v : Int))] [] (mset τ x u (τ x v)) := by
  have w : w32 ((u : Int) - 6) = (v : Int) := by rw [w32_e (by omega)]; omega
  have w' : w32 ((u : Int) + (-6)) = (v : Int) := by rw [w32_e (by omega)]; omega
  rw [b_16_20, bLt_f (by omega), w, w', bIn_t (by omega), bIn_t (by omega)]
  rfl
theorem s_16i {K : mK} {mx : Int × Int} {x i q4 : Nat} {f : Nat → Int} {σ : mM} (hi : i < 6) (h4 : q4 = 24 + i) : ∃ v3 : Int, mgo K mx 16 20 [(1030, (x : Int)), (0, (i : Int)), (0, f q4), (0, (q4 : Int))] [] (sR x (sliI i f) σ) = mgo K mx 16 2 [(1030, (x : Int)), (0, ((i + 1 : Nat) : Int)), (0, f q4), (0, v3)] [] (sR x (sliI (i + 1) f) σ) := by
  have g : ∀ j, i ≤ j % 6 → sR x (sliI i f) σ x j = f j := fun j hj => by rw [sR_e]; exact if_neg (by omega)
  obtain ⟨q3, h3⟩ : ∃ q, q = 18 + i := ⟨_, rfl⟩
  obtain ⟨q2, h2⟩ : ∃ q, q = 12 + i := ⟨_, rfl⟩
  obtain ⟨q1, h1⟩ : ∃ q, q = 6 + i := ⟨_, rfl⟩
  have z := @sli_i i f hi x σ
  rw [← h4, ← h3, ← h2, ← h1] at z
  have r2 : (mset (sR x (sliI i f) σ) x q4 (f q3)) x q2 = f q2 := (ms_n (by omega)).trans (g _ (by omega))
  have r1 : (mset (mset (sR x (sliI i f) σ) x q4 (f q3)) x q3 (f q2)) x q1 = f q1 := ((ms_n (by omega)).trans (ms_n (by omega))).trans (g _ (by omega))
  have r0 : (mset (mset (mset (sR x (sliI i f) σ) x q4 (f q3)) x q3 (f q2)) x q2 (f q1)) x i = f i := (((ms_n (by omega)).trans (ms_n (by omega))).trans (ms_n (by omega))).trans (g _ (by omega))
  refine ⟨(i : Int), ?_⟩
  rw [s_16s (v := q3) (by omega) (by omega), g q3 (by omega), s_16s (v := q2) (by omega) (by omega), r2, s_16s (v := q1) (by omega) (by omega), r1, s_16s (v := i) (by omega) (by omega), r0, b_16_20, bLt_t (by omega), bIn_t (by omega), w32_n (by omega)]
  simp only [tn_n]
  rw [z]
theorem s_16l {K : mK} {mx : Int × Int} {x : Nat} {f : Nat → Int} {σ : mM} : ∀ (n i : Nat) (v2 v3 : Int), i + n = 6 → mgo K mx 16 2 [(1030, (x : Int)), (0, (i : Int)), (0, v2), (0, v3)] [] (sR x (sliI i f) σ) = some (0, sR x (sliI 6 f) σ) := by
  intro n
  induction n with
  | zero =>
    intro i v2 v3 hi
    rw [b_16_2, bLt_f (by omega), show i = 6 by omega]
  | succ n ih =>
    intro i v2 v3 hi
    have e : w32 (24 + (i : Int)) = ((24 + i : Nat) : Int) := by rw [w32_e (by omega)]; omega
    obtain ⟨u, hu⟩ := s_16i (K := K) (mx := mx) (x := x) (i := i) (f := f) (σ := σ) (by omega) rfl
    rw [b_16_2, bLt_t (by omega), e, bIn_t (by omega)]
    simp only [tn_n]
    rw [show sR x (sliI i f) σ x (24 + i) = f (24 + i) by rw [sR_e]; exact if_neg (by omega), hu]
    exact ih (i + 1) _ _ (by omega)
theorem sli_0 {f : Nat → Int} {x : Nat} {σ : mM} (h : f = σ x) : sR x (sliI 0 f) σ = σ := by
  funext a j
  simp only [sR, sliI]
  split
  · next q => rw [if_neg (by omega), h, q]
  · rfl
theorem sli_6 {f : Nat → Int} : sliI 6 f = sliR f := by
  funext j
  exact if_pos (by omega)
theorem s_16 {d x : Nat} {σ : mM} : mcall (d + 1) 16 [(1030, (x : Int))] σ = some (0, sR x (sliR (σ x)) σ) := by
  obtain ⟨u, hu⟩ := s_16i (K := mcall d) (mx := mX 16 σ) (x := x) (i := 0) (f := σ x) (σ := σ) (by omega) rfl
  rw [sli_0 rfl] at hu
  rw [e_16, b_16_2a, bLt_t (by omega), show w32 (24 + 0) = 24 by rfl, bIn_t (by omega)]
  refine Eq.trans hu ?_
  rw [s_16l 5 1 _ _ (by omega), sli_6]
def slideA (V : cV) : cV := rV (rV (rV V 0 (sliR (V 0))) 1 (sliR (V 1))) 2 (sliR (V 2))
def passA (slip : Int) (V : cV) : cV :=
  (fun W => (fun U : cV => up U 3 0 (Int.tmod (U 3 0 + 1) 12)) (if 0 < slip then (if Int.tmod (W 3 1) slip = 0 then slideA W else W) else W)) (up (wearA 30 V) 3 1 (wearA 30 V 3 1 + 1))
theorem rV_30 {V : cV} {f g h : Nat → Int} {v : Int} : rV (rV (rV (up V 3 1 v) 0 f) 1 g) 2 h 3 0 = V 3 0 := rfl
theorem s_14 {d c : Nat} {V : cV} {σ : mM} {slip : Int} (ok : okC V) (hl : wearA 30 V 3 1 < 1000000) : mcall (d + 2) 14 [(21, (c : Int)), (0, slip)] (sL (c + 1) (c + 2) (c + 3) c 4 (c + 4) 0 V σ) = some (0, sL (c + 1) (c + 2) (c + 3) c 4 (c + 4) 0 (passA slip V) σ) := by
  have k1 : ∀ τ, mcall (d + 1) 16 [(1030, (c : Int) + 1)] τ = some (0, sR (c + 1) (sliR (τ (c + 1))) τ) := fun τ => s_16 (x := c + 1)
  have k2 : ∀ τ, mcall (d + 1) 16 [(1030, (c : Int) + 2)] τ = some (0, sR (c + 2) (sliR (τ (c + 2))) τ) := fun τ => s_16 (x := c + 2)
  have k3 : ∀ τ, mcall (d + 1) 16 [(1030, (c : Int) + 3)] τ = some (0, sR (c + 3) (sliR (τ (c + 3))) τ) := fun τ => s_16 (x := c + 3)
  have ok2 := okC_w ok 30 (by omega)
  unfold passA slideA
  rw [e_14, s_15 ok, bK_t, bIn_t (by omega), bIn_t (by omega)]
  generalize wearA 30 V = W at ok2 hl ⊢
  have o3 := ok2.2.2.2.2
  have e1 : w32 (W 3 1 + 1) = W 3 1 + 1 := w32_e (by omega)
  have e2 : w32 (W 3 0 + 1) = W 3 0 + 1 := w32_e (by omega)
  simp only [sL_5 (dC c), e1, uL_5 (dC c), sL_4 (dC c), up_e, k1, k2, k3, bK_t, sR_1 (dC c) rowF_sli, sR_2 (dC c) rowF_sli, sR_3 (dC c) rowF_sli, rV_30]
  rw [up_o (k := 3) (i := 1) (a := 3) (j := 0) (by omega), e2]
  by_cases h : 0 < slip
  · rw [bLt_t h, bIn_t (by omega), bEq_f (by omega), if_pos h]
    by_cases h2 : Int.tmod (W 3 1 + 1) slip = 0
    · rw [bEq_t h2, bEq_f (by omega), uL_4 (dC c), if_pos h2]
      rfl
    · rw [bEq_f h2, bEq_f (by omega), uL_4 (dC c), if_neg h2]
      rfl
  · rw [bLt_f (by omega), bEq_f (by omega), uL_4 (dC c), if_neg h]
    rfl
