/-! PURE PART 6: the model's months and pulls -/
theorem s_174l {K : mK} {mx : Int × Int} {V : cV} {σ : mM} (ok : okC V) : ∀ (n i : Nat), i + n = 30 → mgo K mx 174 2 [(30, 64), (0, (i : Int))] [] (sL 65 66 67 69 0 64 6 (wearA i V) σ) = mgo K mx 174 2 [(30, 64), (0, 30)] [] (sL 65 66 67 69 0 64 6 (wearA 30 V) σ) := by
  intro n
  induction n with
  | zero =>
    intro i hi
    rw [show i = 30 by omega]
    rfl
  | succ n ih =>
    intro i hi
    have hi3 : i < 30 := by omega
    have ok2 := okC_w ok i (by omega)
    have o1 := ok2.2.2.1 i
    have o2 := ok2.2.2.2.1 i
    have q := ih (i + 1) (by omega)
    rw [show wearA (i + 1) V = wearS i (wearA i V) from rfl] at q
    generalize wearA i V = W at *
    generalize wearA 30 V = W3 at *
    have b := b_174_2 K mx (i : Int) (sL 65 66 67 69 0 64 6 W σ)
    rw [bLt_t (by omega), bIn_t (by omega)] at b
    refine Eq.trans b ?_
    simp only [tn_n, sL_2 dM hi3, sL_3 dM hi3, uL_2 dM hi3, uL_3 dM hi3, up_e]
    rw [w32_n (by omega)]
    unfold wearS at q
    by_cases h : 0 < W 1 i
    · rw [if_pos h] at q
      rw [bEq_f (by omega), bIn_t (by omega), bIn_t (by omega), bIn_t (by omega), w32_e (by omega)]
      by_cases h2 : W 2 i + 1 < 12
      · rw [if_pos h2] at q
        rw [bLt_t h2]; exact q
      · rw [if_neg h2] at q
        rw [bLt_f (by omega), bIn_t (by omega), bIn_t (by omega), bIn_t (by omega), up_o (by omega), w32_e (by omega)]; exact q
    · rw [if_neg h] at q
      rw [bEq_t (by omega)]; exact q
theorem s_174 {d : Nat} {V : cV} {σ : mM} {slip : Int} (hs : σ 69 1 = slip) (ok : okC V) (hl : wearA 30 V 3 1 < 1000000) : mcall (d + 3) 174 [(30, 64)] (sL 65 66 67 69 0 64 6 V σ) = some (0, sL 65 66 67 69 0 64 6 (passA slip V) σ) := by
  have ok2 := okC_w ok 30 (by omega)
  have a := s_174l (K := mcall (d + 2)) (mx := mX 174 (sL 65 66 67 69 0 64 6 V σ)) (V := V) (σ := σ) ok 30 0 rfl
  rw [e_174]
  refine Eq.trans a ?_
  unfold passA
  generalize wearA 30 V = W at ok2 hl ⊢
  dsimp only
  have o3 := ok2.2.2.2.2
  have e1 : w32 (W 3 1 + 1) = W 3 1 + 1 := w32_e (by omega)
  have e2 : w32 (W 3 0 + 1) = W 3 0 + 1 := w32_e (by omega)
  have r : ∀ U : cV, sL 65 66 67 69 0 64 6 U σ 69 1 = slip := fun U => (sL_0 (by omega)).trans hs
  have b := b_174_2 (mcall (d + 2)) (mX 174 (sL 65 66 67 69 0 64 6 V σ)) 30 (sL 65 66 67 69 0 64 6 W σ)
  refine Eq.trans b ?_
  rw [bLt_f (by omega), bIn_t (by omega), sL_5 dM, e1, uL_5 dM, r, sL_5 dM, up_e, sL_4 dM, up_o (by omega), e2, uL_4 dM, s_172, bK_t, sL_4 dM]
  by_cases h : 0 < slip
  · rw [bLt_t h, bIn_t (by omega), bEq_f (by omega), if_pos h]
    by_cases h2 : Int.tmod (W 3 1 + 1) slip = 0
    · have e3 : slideA (up W 3 1 (W 3 1 + 1)) 3 0 = W 3 0 := rfl
      rw [bEq_t h2, bIn_t (by omega), bEq_f (by omega), bIn_t (by omega), if_pos h2, e3, e2, uL_4 dM]
    · rw [bEq_f h2, bIn_t (by omega), bEq_f (by omega), bIn_t (by omega), if_neg h2]
      rfl
  · rw [bLt_f (by omega), bIn_t (by omega), bEq_f (by omega), bIn_t (by omega), if_neg h]
    rfl
theorem moveA_p {l way k j : Nat} {V : cV} : moveA l way V k j = if k < 3 then rotR l way (V k) j else V k j := by
  unfold moveA rV
  by_cases h2 : k = 2
  · subst h2; rw [if_pos rfl, if_pos (by omega)]
  · rw [if_neg h2]
    by_cases h1 : k = 1
    · subst h1; rw [if_pos rfl, if_pos (by omega)]
    · rw [if_neg h1]
      by_cases h0 : k = 0
      · subst h0; rw [if_pos rfl, if_pos (by omega)]
      · rw [if_neg h0, if_neg (by omega)]
def pI0 (n l : Nat) (V : cV) : cV := fun k j => if k < 3 ∧ 6 * l + 5 < j + n ∧ j < 6 * l + 6 then V k (j - 1) else V k j
def pI1 (n l : Nat) (V : cV) : cV := fun k j => if k < 3 ∧ 6 * l ≤ j ∧ j < 6 * l + n then V k (j + 1) else V k j
theorem pI0_0 {l : Nat} {V : cV} : pI0 0 l V = V := by
  funext k j
  exact if_neg (by omega)
theorem pI1_0 {l : Nat} {V : cV} : pI1 0 l V = V := by
  funext k j
  exact if_neg (by omega)
theorem pI0_s {n l x y : Nat} {V : cV} (hn : n < 5) (hx : x + n = 6 * l + 4) (hy : y = x + 1) : up3 (pI0 n l V) y (fun k => pI0 n l V k x) = pI0 (n + 1) l V := by
  funext k j
  by_cases hk : k < 3
  · by_cases e : j = y
    · rw [e, up3_e hk, show pI0 n l V k x = V k x from if_neg (by omega), show pI0 (n + 1) l V k y = V k (y - 1) from if_pos (by omega), show y - 1 = x by omega]
    · rw [up3_o (Or.inr e)]
      by_cases h : 6 * l + 5 < j + n ∧ j < 6 * l + 6
      · rw [show pI0 n l V k j = V k (j - 1) from if_pos ⟨hk, h⟩, show pI0 (n + 1) l V k j = V k (j - 1) from if_pos (by omega)]
      · rw [show pI0 n l V k j = V k j from if_neg (by omega), show pI0 (n + 1) l V k j = V k j from if_neg (by omega)]
  · rw [up3_o (by omega), show pI0 n l V k j = V k j from if_neg (by omega), show pI0 (n + 1) l V k j = V k j from if_neg (by omega)]
theorem pI1_s {n l x y : Nat} {V : cV} (hn : n < 5) (hy : y = 6 * l + n) (hx : x = y + 1) : up3 (pI1 n l V) y (fun k => pI1 n l V k x) = pI1 (n + 1) l V := by
  funext k j
  by_cases hk : k < 3
  · by_cases e : j = y
    · rw [e, up3_e hk, show pI1 n l V k x = V k x from if_neg (by omega), show pI1 (n + 1) l V k y = V k (y + 1) from if_pos (by omega), hx]
    · rw [up3_o (Or.inr e)]
      by_cases h : 6 * l ≤ j ∧ j < 6 * l + n
      · rw [show pI1 n l V k j = V k (j + 1) from if_pos ⟨hk, h⟩, show pI1 (n + 1) l V k j = V k (j + 1) from if_pos (by omega)]
      · rw [show pI1 n l V k j = V k j from if_neg (by omega), show pI1 (n + 1) l V k j = V k j from if_neg (by omega)]
  · rw [up3_o (by omega), show pI1 n l V k j = V k j from if_neg (by omega), show pI1 (n + 1) l V k j = V k j from if_neg (by omega)]
theorem pI0_5 {l x y : Nat} {V : cV} (hx : x = 6 * l + 5) (hy : y = 6 * l) : up3 (pI0 5 l V) y (fun k => V k x) = moveA l 0 V := by
  funext k j
  rw [moveA_p]
  by_cases hk : k < 3
  · rw [if_pos hk]
    by_cases e : j = y
    · rw [e, up3_e hk, rot_0a hy, hx]
    · rw [up3_o (Or.inr e)]
      by_cases h : 6 * l < j ∧ j < 6 * l + 6
      · rw [rot_0b h, show pI0 5 l V k j = V k (j - 1) from if_pos (by omega)]
      · rw [rot_0c (by omega), show pI0 5 l V k j = V k j from if_neg (by omega)]
  · rw [if_neg hk, up3_o (by omega), show pI0 5 l V k j = V k j from if_neg (by omega)]
theorem pI1_5 {l x y : Nat} {V : cV} (hy : y = 6 * l + 5) (hx : x = 6 * l) : up3 (pI1 5 l V) y (fun k => V k x) = moveA l 1 V := by
  funext k j
  rw [moveA_p]
  by_cases hk : k < 3
  · rw [if_pos hk]
    by_cases e : j = y
    · rw [e, up3_e hk, rot_1a hy, hx]
    · rw [up3_o (Or.inr e)]
      by_cases h : 6 * l ≤ j ∧ j < 6 * l + 5
      · rw [rot_1b h, show pI1 5 l V k j = V k (j + 1) from if_pos (by omega)]
      · rw [rot_1c (by omega), show pI1 5 l V k j = V k j from if_neg (by omega)]
  · rw [if_neg hk, up3_o (by omega), show pI1 5 l V k j = V k j from if_neg (by omega)]
theorem s_175a {d l x r : Nat} {mx : Int × Int} {V : cV} {σ : mM} {v1 v4 : Int} (hl : l < 5) (hx : x = 6 * l + 5) (hr : r = 6 * l) : ∀ (m n : Nat), n + m = 5 → mgo (mcall (d + 1)) mx 175 66 [(30, 64), (0, v1), (0, (r : Int)), (0, 0), (0, v4), (0, V 0 x), (0, V 1 x), (0, V 2 x), (0, ((n + 1 : Nat) : Int))] [] (sL 65 66 67 69 0 64 6 (pI0 n l V) σ) = some (0, sL 65 66 67 69 0 64 6 (moveA l 0 V) σ) := by
  intro m
  induction m with
  | zero =>
    intro n hn
    have hr3 : r < 30 := by omega
    rw [b_175_66, bLt_f (by omega), bEq_t (by rfl), bIn_t (by omega), bIn_t (by omega), bIn_t (by omega)]
    simp only [tn_n, uL_1 hr3, uL_2 dM hr3, uL_3 dM hr3]
    rw [up3_u (f := fun k => V k x) rfl rfl rfl, show n = 5 by omega, pI0_5 hx hr]
  | succ m ih =>
    intro n hn
    obtain ⟨y, hy⟩ : ∃ y, y = 6 * l + 4 - n := ⟨_, rfl⟩
    have w1 : w32 ((w32 ((w32 ((r : Int) + 6)) - 1)) - ((n + 1 : Nat) : Int)) = (y : Int) := by rw [w32_e (x := (r : Int) + 6) (by omega), w32_e (x := (r : Int) + 6 - 1) (by omega), w32_e (by omega)]; omega
    have w2 : w32 ((w32 ((r : Int) + 6)) - ((n + 1 : Nat) : Int)) = ((y + 1 : Nat) : Int) := by rw [w32_e (x := (r : Int) + 6) (by omega), w32_e (by omega)]; omega
    rw [b_175_66, bLt_t (by omega), bEq_t (by rfl), w1, w2, s_173 (by omega) (by omega), bK_t, w32_n (by omega), pI0_s (by omega) (by omega) rfl]
    exact ih (n + 1) (by omega)
theorem s_175b {d l x r : Nat} {mx : Int × Int} {V : cV} {σ : mM} {v1 v4 : Int} (hl : l < 5) (hx : x = 6 * l) (hr : r = 6 * l) : ∀ (m n : Nat), n + m = 5 → mgo (mcall (d + 1)) mx 175 66 [(30, 64), (0, v1), (0, (r : Int)), (0, 1), (0, v4), (0, V 0 x), (0, V 1 x), (0, V 2 x), (0, ((n + 1 : Nat) : Int))] [] (sL 65 66 67 69 0 64 6 (pI1 n l V) σ) = some (0, sL 65 66 67 69 0 64 6 (moveA l 1 V) σ) := by
  intro m
  induction m with
  | zero =>
    intro n hn
    obtain ⟨y, hy⟩ : ∃ y, y = 6 * l + 5 := ⟨_, rfl⟩
    have hy3 : y < 30 := by omega
    have w1 : w32 ((w32 ((r : Int) + 6)) - 1) = (y : Int) := by rw [w32_e (x := (r : Int) + 6) (by omega), w32_e (by omega)]; omega
    rw [b_175_66, bLt_f (by omega), bEq_f (by omega), w1, bIn_t (by omega), bIn_t (by omega), bIn_t (by omega)]
    simp only [tn_n, uL_1 hy3, uL_2 dM hy3, uL_3 dM hy3]
    rw [up3_u (f := fun k => V k x) rfl rfl rfl, show n = 5 by omega, pI1_5 hy hx]
  | succ m ih =>
    intro n hn
    obtain ⟨y, hy⟩ : ∃ y, y = 6 * l + n := ⟨_, rfl⟩
    have w1 : w32 ((r : Int) + ((n + 1 : Nat) : Int)) = ((y + 1 : Nat) : Int) := by rw [w32_e (by omega)]; omega
    have w2 : w32 (((y + 1 : Nat) : Int) - 1) = (y : Int) := by rw [w32_e (by omega)]; omega
    rw [b_175_66, bLt_t (by omega), bEq_f (by omega), w1, w2, s_173 (by omega) (by omega), bK_t, w32_n (by omega), pI1_s (by omega) hy rfl]
    exact ih (n + 1) (by omega)
theorem s_175 {d rw : Nat} {V : cV} {σ : mM} (hr : rw < 10) : mcall (d + 2) 175 [(30, 64), (0, (rw : Int))] (sL 65 66 67 69 0 64 6 V σ) = some (0, sL 65 66 67 69 0 64 6 (moveA (rw / 2) (rw % 2) V) σ) := by
  obtain ⟨l, hl⟩ : ∃ l, l = rw / 2 := ⟨_, rfl⟩
  obtain ⟨r, hrr⟩ : ∃ r, r = 6 * l := ⟨_, rfl⟩
  obtain ⟨x, hx⟩ : ∃ x, x = 6 * l + 5 := ⟨_, rfl⟩
  have hr3 : r < 30 := by omega
  have hx3 : x < 30 := by omega
  have t : Int.tmod (rw : Int) 2 = ((rw % 2 : Nat) : Int) := rfl
  have v : w32 (6 * (w32 (Int.tdiv (rw : Int) 2))) = (r : Int) := by rw [show Int.tdiv (rw : Int) 2 = ((rw / 2 : Nat) : Int) from rfl, w32_e (x := ((rw / 2 : Nat) : Int)) (by omega), w32_e (by omega)]; omega
  have v2 : w32 ((w32 ((r : Int) + 6)) - 1) = (x : Int) := by rw [w32_e (x := (r : Int) + 6) (by omega), w32_e (by omega)]; omega
  rw [e_175, t, v, v2, bEq_f (by omega), bEq_f (by omega), ← hl]
  by_cases hw : rw % 2 = 1
  · rw [bEq_t (by omega), bEq_f (x := 1) (by omega), bIn_t (by omega), bIn_t (by omega), bIn_t (by omega), tn_n, sL_1 hr3, sL_2 dM hr3, sL_3 dM hr3, hw]
    have h := s_175b (d := d) (x := r) (r := r) (mx := mX 175 (sL 65 66 67 69 0 64 6 V σ)) (V := V) (σ := σ) (v1 := (rw : Int)) (v4 := (r : Int)) (by omega : l < 5) hrr hrr 5 0 rfl
    rw [pI1_0] at h
    exact h
  · rw [bEq_f (by omega), bEq_t (x := 0) (by rfl), bIn_t (by omega), bIn_t (by omega), bIn_t (by omega), tn_n, sL_1 hx3, sL_2 dM hx3, sL_3 dM hx3, show rw % 2 = 0 by omega]
    have h := s_175a (d := d) (x := x) (r := r) (mx := mX 175 (sL 65 66 67 69 0 64 6 V σ)) (V := V) (σ := σ) (v1 := (rw : Int)) (v4 := (x : Int)) (by omega : l < 5) hx hrr 5 0 rfl
    rw [pI0_0] at h
    exact h
