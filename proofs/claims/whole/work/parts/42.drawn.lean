/-! PURE PART 23: drawn -/
def shr (z k : Int) : Int := m32 (fun x y => (x.toUInt32 >>> (y.toUInt32 &&& Int32.toUInt32 31)).toInt32) z k
theorem shr_g (u : UInt32) (k : UInt32) (hk : 1 ≤ k.toNat % 32) : 0 ≤ (u >>> k).toInt32.toInt := by
  show 0 ≤ (u >>> k).toBitVec.toInt
  have h1 : (u >>> k).toBitVec.toNat = u.toNat >>> (k.toNat % 32) := UInt32.toNat_shiftRight u k
  have h2 : u.toNat < 4294967296 := u.toNat_lt
  have h3 : u.toNat >>> (k.toNat % 32) ≤ u.toNat / 2 := by
    rw [Nat.shiftRight_eq_div_pow]
    exact Nat.div_le_div_left (by have := Nat.pow_le_pow_right (n := 2) (by omega) hk; simpa using this) (by omega)
  rw [BitVec.toInt_eq_toNat_cond, h1]
  split <;> omega
theorem shr_b (z : Int) : 0 ≤ shr z 8 ∧ 0 ≤ shr z 16 := ⟨shr_g _ _ (by decide), shr_g _ _ (by decide)⟩
def lotA (z : Int) : Int := Int.tmod (shr z 8) 3
def rowZ (z : Int) : Nat := (Int.tmod (shr z 16) 5).toNat
def sqZ (z : Int) : Nat := (Int.tmod (shr z 16) 30).toNat
theorem rowZ_e (z : Int) : Int.tmod (shr z 16) 5 = (rowZ z : Int) ∧ rowZ z < 5 := by
  have h := (shr_b z).2
  unfold rowZ
  rw [Int.tmod_eq_emod_of_nonneg h]
  omega
theorem sqZ_e (z : Int) : Int.tmod (shr z 16) 30 = (sqZ z : Int) ∧ sqZ z < 30 := by
  have h := (shr_b z).2
  unfold sqZ
  rw [Int.tmod_eq_emod_of_nonneg h]
  omega
def nextZ (z : Int) : Int := w32 (w32 (z * 1103515245) + 12345)
def drwA (z : Int) (V : cV) : cV := if lotA z = 0 then moveA (rowZ z) 0 V else if lotA z = 1 then up V 1 (sqZ z) (if 0 < V 1 (sqZ z) - 1 then V 1 (sqZ z) - 1 else 0) else V
theorem okC_drw {z : Int} {V : cV} (ok : okC V) : okC (drwA z V) := by
  have h1 := (rowZ_e z).2
  have h2 := (sqZ_e z).2
  have h3 := ok.2.2.1 (sqZ z)
  unfold drwA
  split
  · exact okC_move ok h1
  · split
    · exact okC_1 ok h2 (by split <;> omega)
    · exact ok
theorem drw_3 {z : Int} {V : cV} : drwA z V 3 1 = V 3 1 := by
  unfold drwA
  repeat' split
  · rfl
  · exact up_o (by omega)
  · exact up_o (by omega)
  · rfl
section
variable {d n : Nat} {S : mM} {V : cV} {L : List (List Int × List Int)} {H : Nat → Nat → Int} {s : Int}
theorem bits_ft : ∀ k, bitsA L H V k = ftA (fun h => decide (cdA L H V h ≠ 0)) k := by
  intro k
  induction k with
  | zero => rfl
  | succ k ih =>
    show (if cdA L H V k = 0 then bitsA L H V k else m32 (· ||| ·) (bitsA L H V k) (m32 (fun x y => x <<< (y &&& 31)) 1 (k : Int))) = bif decide (cdA L H V k ≠ 0) then or1 (ftA (fun h => decide (cdA L H V h ≠ 0)) k) k else ftA (fun h => decide (cdA L H V h ≠ 0)) k
    rw [← ih]
    by_cases h : cdA L H V k = 0
    · rw [if_pos h, decide_eq_false (fun q => q h)]; rfl
    · rw [if_neg h, decide_eq_true h]; rfl
theorem bn_bit' : ((List.range 8).all fun n => (List.range 128).all fun x => !(Nat.blt x (2 ^ n)) || (Nat.beq ((x + 2 ^ n) / 2 ^ n % 2) 1 && Nat.beq (x / 2 ^ n % 2) 0 && (List.range n).all fun h => Nat.beq ((x + 2 ^ n) / 2 ^ h % 2) (x / 2 ^ h % 2))) = true := by decide +kernel
theorem bn_bit (P : Nat → Bool) : ∀ n, n ≤ 8 → ∀ h, h < n → bnA P n / 2 ^ h % 2 = bif P h then 1 else 0 := by
  intro n
  induction n with
  | zero => intro _ h hh; omega
  | succ n ih =>
    intro hn h hh
    have hb := bnA_lt P n
    have h7 : 2 ^ n ≤ 128 := Nat.pow_le_pow_right (by omega : 0 < 2) (by omega : n ≤ 7)
    have k := List.all_eq_true.mp (List.all_eq_true.mp bn_bit' n (List.mem_range.mpr (by omega))) (bnA P n) (List.mem_range.mpr (by omega))
    rw [show Nat.blt (bnA P n) (2 ^ n) = true from Nat.blt_eq.mpr hb] at k
    simp only [Bool.not_true, Bool.false_or, Bool.and_eq_true, List.all_eq_true, List.mem_range] at k
    obtain ⟨⟨k1, k2⟩, k3⟩ := k
    have k1 := Nat.eq_of_beq_eq_true k1
    have k2 := Nat.eq_of_beq_eq_true k2
    show (bnA P n + (bif P n then 2 ^ n else 0)) / 2 ^ h % 2 = bif P h then 1 else 0
    by_cases he : h = n
    · subst he
      cases hP : P h
      · exact k2
      · exact k1
    · have k3 := Nat.eq_of_beq_eq_true (k3 h (by omega))
      rw [← ih (by omega) h (by omega)]
      cases P n
      · rfl
      · exact k3
theorem bits_h {h : Nat} (hn : n ≤ 8) (hh : h < n) : m32 (· &&& ·) (m32 (fun x y => x >>> (y &&& 31)) (bitsA L H V n) (h : Int)) 1 = cdA L H V h := by
  rw [bits_ft, ft_bn _ n (by omega), bt_h _ (Nat.lt_of_lt_of_le (bnA_lt _ n) (by have := Nat.pow_le_pow_right (n := 2) (by omega) hn; simpa using this)) h (by omega), bn_bit _ n hn h hh]
  rcases cdA_b (L := L) (H := H) (V := V) h with c | c
  · rw [c]; rfl
  · rw [c]; rfl
theorem bits_c (hn : n ≤ 8) : 0 ≤ bcA (bitsA L H V n) ∧ bcA (bitsA L H V n) ≤ 8 := by
  rw [bits_ft, bc_pc _ n (by omega)]
  have := pcA_le (fun h => decide (cdA L H V h ≠ 0)) n
  omega
def cntA (L : List (List Int × List Int)) (H : Nat → Nat → Int) (n : Nat) (house : Int) (V : cV) : Int := if house < 0 then bcA (bitsA L H V n) else cdA L H V house.toNat
def drM (L : List (List Int × List Int)) (H : Nat → Nat → Int) (n : Nat) (s house : Int) : Nat → Int → Int → cV → Int × Int
  | 0, z, a, _ => (z, a)
  | m + 1, z, a, V => drM L H n s house m (nextZ z) (w32 (a + cntA L H n house (drwA (nextZ z) V))) (passA s (drwA (nextZ z) V))
def drY (L : List (List Int × List Int)) (H : Nat → Nat → Int) (n : Nat) (s house : Int) (M : Nat) (V : cV) : Nat → Int → Int → Int
  | 0, _, a => a
  | y + 1, z, a => drY L H n s house M V y (drM L H n s house M z a V).1 (drM L H n s house M z a V).2
theorem s_81 {z : Int} (g : gC 27 S = V) (ok : okC V) : ∃ μ, mcall (d + 3) 81 [(27, 26), (0, z)] S = some (0, μ) ∧ gC 27 μ = drwA z V ∧ fr CT S μ := by
  have e8 : Unit → Int.tmod (m32 (fun x y => (x.toUInt32 >>> (y.toUInt32 &&& Int32.toUInt32 31)).toInt32) z 8) 3 = lotA z := fun _ => rfl
  have e5 : Unit → Int.tmod (m32 (fun x y => (x.toUInt32 >>> (y.toUInt32 &&& Int32.toUInt32 31)).toInt32) z 16) 5 = (rowZ z : Int) := fun _ => (rowZ_e z).1
  have e30 : Unit → Int.tmod (m32 (fun x y => (x.toUInt32 >>> (y.toUInt32 &&& Int32.toUInt32 31)).toInt32) z 16) 30 = (sqZ z : Int) := fun _ => (sqZ_e z).1
  have b2 := (sqZ_e z).2
  rw [e_81, e8 (), e5 (), e30 (), bEq_f (by omega)]
  unfold drwA
  by_cases h0 : lotA z = 0
  · obtain ⟨μ, m1, m2, m3⟩ := s_17t (d := d) (l := rowZ z) (way := 0) g ok (rowZ_e z).2 (by omega)
    have m1' : mcall (d + 2) 17 [(21, 27), (0, (rowZ z : Int)), (0, 0)] S = some (0, μ) := m1
    rw [bEq_t h0, if_pos h0, bEq_f (by omega), m1', bK_t]
    exact ⟨μ, rfl, m2, fCA m3⟩
  · rw [bEq_f h0, if_neg h0]
    by_cases h1 : lotA z = 1
    · rw [bEq_t h1, if_pos h1, bEq_f (by omega), bIn_t (by omega), bIn_t (by omega), tn_n]
      have a1 : S 29 (sqZ z) = V 1 (sqZ z) := gC_1 (c := 27) g b2
      have h3 := ok.2.2.1 (sqZ z)
      rw [a1, w32_e (x := V 1 (sqZ z) - 1) (by omega)]
      obtain ⟨μ, m1, m2, m3, -⟩ := opC (c := 27) (V := V) (V' := up V 1 (sqZ z) (if 0 < V 1 (sqZ z) - 1 then V 1 (sqZ z) - 1 else 0)) (f := fun S => some (0, mset S 29 (sqZ z) (if 0 < V 1 (sqZ z) - 1 then V 1 (sqZ z) - 1 else 0))) g (okC_1 ok b2 (by split <;> omega)).1 (by
        have := uL_2 (V := V) (σ := S) (v := if 0 < V 1 (sqZ z) - 1 then V 1 (sqZ z) - 1 else 0) (dC 27) b2
        exact congrArg (fun τ : mM => some ((0 : Int), τ)) this)
      exact ⟨μ, m1, m2, fCA m3⟩
    · rw [bEq_f h1, if_neg h1]; exact ⟨S, rfl, g, fr_r⟩
theorem s_44t {W : cV} (g : gC 27 S = W) (ok : okC W) (E : envC S L H n s) : ∃ μ, mcall (d + 5) 44 [(24, 1), (21, 27)] S = some (bitsA L H W n, μ) ∧ gC 27 μ = W ∧ fr CT S μ := by
  obtain ⟨μ, m1, m2⟩ := s_44 (d := d) (c := 27) (Or.inr rfl) g ok E
  exact ⟨μ, m1, (gC_S (Or.inr rfl) m2).trans g, fCS m2⟩
theorem s_80 {z0 house : Int} {Y M : Nat} (hh : house < 0 ∨ (0 ≤ house ∧ house < (n : Int))) (hY : Y ≤ 30) (hM : M ≤ 24) (g : gC 2 S = V) (ok : okC V) (hl : V 3 1 ≤ 100000) (E : envC S L H n s) : ∃ μ, mcall (d + 7) 80 [(27, 26), (0, z0), (0, (Y : Int)), (0, (M : Int)), (0, house)] S = some (drY L H n s house M V Y z0 0, μ) ∧ fr CT S μ := by
  have hn := E.2.2.1
  have qm : ∀ (m k : Nat) (z a v7 : Int) (W : cV) (σ : mM), k + m = M → gC 27 σ = W → okC W → W 3 1 + (m : Int) ≤ 1000000 → fr CT S σ → ∃ μ, mgo (mcall (d + 6)) (mX 80 S) 80 32 [(27, 26), (0, z0), (0, (Y : Int)), (0, (M : Int)), (0, house), (0, z), (0, a), (0, v7), (0, (k : Int))] [] σ = mgo (mcall (d + 6)) (mX 80 S) 80 9 [(27, 26), (0, z0), (0, (Y : Int)), (0, (M : Int)), (0, house), (0, (drM L H n s house m z a W).1), (0, (drM L H n s house m z a W).2), (0, w32 (v7 + 1)), (0, (M : Int))] [] μ ∧ fr CT S μ := by
    intro m
    induction m with
    | zero =>
      intro k z a v7 W σ hk _ _ _ F
      refine ⟨σ, ?_, F⟩
      rw [b_80_32, bLt_f (by omega), show k = M by omega]
      rfl
    | succ m ih =>
      intro k z a v7 W σ hk gσ o hw F
      obtain ⟨α, a1, a2, a3⟩ := s_81 (d := d + 3) (z := nextZ z) gσ o
      have F1 := fr_t F a3
      have o1 : okC (drwA (nextZ z) W) := okC_drw o
      have c : ∃ β, gC 27 β = drwA (nextZ z) W ∧ fr CT S β ∧ mgo (mcall (d + 6)) (mX 80 S) 80 32 [(27, 26), (0, z0), (0, (Y : Int)), (0, (M : Int)), (0, house), (0, z), (0, a), (0, v7), (0, (k : Int))] [] σ = bK (mcall (d + 6) 14 [(21, 27), (0, β 1 5)] β) (fun _ s8 => mgo (mcall (d + 6)) (mX 80 S) 80 32 [(27, 26), (0, z0), (0, (Y : Int)), (0, (M : Int)), (0, house), (0, nextZ z), (0, w32 (a + cntA L H n house (drwA (nextZ z) W))), (0, v7), (0, ((k + 1 : Nat) : Int))] [] s8) := by
        rw [b_80_32, bLt_t (by omega), show w32 ((w32 (z * 1103515245)) + 12345) = nextZ z from rfl, a1, bK_t, w32_n (by omega)]
        unfold cntA
        rcases hh with hh | hh
        · obtain ⟨β, b1, b2, b3⟩ := s_44t (d := d + 1) a2 o1 (envC_T F1 E)
          rw [bLt_t hh, b1, bK_t, s_228, bK_t, if_pos hh]
          exact ⟨β, b2, fr_t F1 b3, rfl⟩
        · obtain ⟨h, hhh⟩ : ∃ h : Nat, house = (h : Int) := ⟨house.toNat, by omega⟩
          subst hhh
          obtain ⟨β, b1, b2, b3⟩ := s_43t (d := d + 2) (h := h) a2 o1 (by omega) (envC_T F1 E)
          rw [bLt_f (by omega), b1, bK_t, if_neg (by omega), tn_n]
          refine ⟨β, b2, fr_t F1 b3, ?_⟩
          rcases cdA_b (L := L) (H := H) (V := drwA (nextZ z) W) h with c | c
          · rw [bEq_t c, c]
          · rw [bEq_f (by omega), c]
      obtain ⟨β, b2, b3, b4⟩ := c
      obtain ⟨γ, c1, c2, c3⟩ := s_14a (d := d + 4) (s := s) b2 o1 (by rw [drw_3]; omega)
      obtain ⟨ξ, x1, x2⟩ := ih (k + 1) (nextZ z) (w32 (a + cntA L H n house (drwA (nextZ z) W))) v7 _ γ (by omega) c2 (okC_pass o1 (by rw [drw_3]; omega)) (by rw [pass_31, drw_3]; omega) (fr_t b3 (fCA c3))
      refine ⟨ξ, ?_, x2⟩
      rw [b4, (envC_T b3 E).2.2.2.2, c1, bK_t]
      exact x1
  have qy : ∀ (y j : Nat) (z a u : Int) (σ : mM), j + y = Y → fr CT S σ → ∃ μ, mgo (mcall (d + 6)) (mX 80 S) 80 9 [(27, 26), (0, z0), (0, (Y : Int)), (0, (M : Int)), (0, house), (0, z), (0, a), (0, (j : Int)), (0, u)] [] σ = some (drY L H n s house M V y z a, μ) ∧ fr CT S μ := by
    intro y
    induction y with
    | zero =>
      intro j z a u σ hj F
      refine ⟨σ, ?_, F⟩
      rw [b_80_9, bLt_f (by omega)]
      rfl
    | succ y ih =>
      intro j z a u σ hj F
      obtain ⟨μ, m1, m2, m3⟩ := s_6t (d := d + 5) ((gC_T F).trans g)
      obtain ⟨ν, n1, n2⟩ := qm M 0 z a (j : Int) V μ (by omega) m2 ok (by omega) (fr_t F (fCA m3))
      obtain ⟨ξ, x1, x2⟩ := ih (j + 1) (drM L H n s house M z a V).1 (drM L H n s house M z a V).2 (M : Int) ν (by omega) n2
      refine ⟨ξ, ?_, x2⟩
      rw [b_80_9, bLt_t (by omega), m1, bK_t]
      refine n1.trans ?_
      rw [w32_n (by omega)]
      exact x1
  rw [e_80]
  have u := (b_80_9a (mcall (d + 6)) (mX 80 S) z0 (Y : Int) (M : Int) house z0 0 0 S).trans (b_80_9 (mcall (d + 6)) (mX 80 S) z0 (Y : Int) (M : Int) house z0 0 0 0 S).symm
  rw [u]
  exact qy Y 0 z0 0 0 S (by omega) fr_r
def drawnA (L : List (List Int × List Int)) (H : Nat → Nat → Int) (n : Nat) (s : Int) (V : cV) (x y h : Int) : Int := if 0 ≤ y ∧ 1 ≤ y.toNat / 100 ∧ y.toNat / 100 ≤ 30 ∧ 1 ≤ y.toNat % 100 ∧ y.toNat % 100 ≤ 24 ∧ (h = -1 ∨ (0 ≤ h ∧ h < (n : Int))) then drY L H n s h (y.toNat % 100) V (y.toNat / 100) x 0 else -1
theorem s_106 {x y h : Int} (hy : y < 2147483648) (g : gC 2 S = V) (ok : okC V) (hl : V 3 1 ≤ 100000) (E : envC S L H n s) : ∃ μ, mcall (d + 8) 106 [(29, 0), (0, x), (0, y), (0, h)] S = some (drawnA L H n s V x y h, μ) ∧ fr CT S μ := by
  rw [e_106]
  unfold drawnA
  by_cases h0 : y < 0
  · rw [bLt_t h0, if_neg (by omega)]; exact ⟨S, rfl, fr_r⟩
  · obtain ⟨m, hm⟩ : ∃ m : Nat, y = (m : Int) := ⟨y.toNat, by omega⟩
    subst hm
    rw [bLt_f (by omega), sp_V m hy, sp_t, tn_n]
    have fin : (h = -1 ∨ (0 ≤ h ∧ h < (n : Int))) → ∃ μ, bLt ((m / 100 : Nat) : Int) 1 (some (-1, S)) (bLt 30 ((m / 100 : Nat) : Int) (some (-1, S)) (bLt ((m % 100 : Nat) : Int) 1 (some (-1, S)) (bLt 24 ((m % 100 : Nat) : Int) (some (-1, S)) (bK (mcall (d + 7) 80 [(27, 26), (0, x), (0, ((m / 100 : Nat) : Int)), (0, ((m % 100 : Nat) : Int)), (0, h)] S) (fun r1 s2 => some (r1, s2)))))) = some (if 0 ≤ (m : Int) ∧ 1 ≤ m / 100 ∧ m / 100 ≤ 30 ∧ 1 ≤ m % 100 ∧ m % 100 ≤ 24 ∧ (h = -1 ∨ (0 ≤ h ∧ h < (n : Int))) then drY L H n s h (m % 100) V (m / 100) x 0 else -1, μ) ∧ fr CT S μ := by
      intro hh
      by_cases h1 : m / 100 < 1
      · rw [bLt_t (by omega), if_neg (by omega)]; exact ⟨S, rfl, fr_r⟩
      · rw [bLt_f (by omega)]
        by_cases h2 : 30 < m / 100
        · rw [bLt_t (by omega), if_neg (by omega)]; exact ⟨S, rfl, fr_r⟩
        · rw [bLt_f (by omega)]
          by_cases h3 : m % 100 < 1
          · rw [bLt_t (by omega), if_neg (by omega)]; exact ⟨S, rfl, fr_r⟩
          · rw [bLt_f (by omega)]
            by_cases h4 : 24 < m % 100
            · rw [bLt_t (by omega), if_neg (by omega)]; exact ⟨S, rfl, fr_r⟩
            · obtain ⟨μ, m1, m2⟩ := s_80 (d := d) (z0 := x) (house := h) (Y := m / 100) (M := m % 100) (by omega) (by omega) (by omega) g ok hl E
              rw [bLt_f (by omega), m1, bK_t, if_pos ⟨by omega, by omega, by omega, by omega, by omega, hh⟩]
              exact ⟨μ, rfl, m2⟩
    by_cases hm1 : h = -1
    · rw [bEq_t hm1, bEq_f (by omega), bEq_f (by omega)]
      exact fin (Or.inl hm1)
    · rw [bEq_f hm1, s_38 E.2.1, bK_t]
      by_cases h1 : 0 ≤ h ∧ h < (n : Int)
      · rw [if_pos h1, bEq_f (by omega), bEq_f (by omega), bEq_f (by omega)]
        exact fin (Or.inr h1)
      · rw [if_neg h1, bEq_t (by rfl), if_neg (by omega)]; exact ⟨S, rfl, fr_r⟩
/-! the model's -/
theorem s_171v {W : cV} {x : Nat} (hx : x = 90 ∨ x = 91) (g : gM S = W) (k : gK x S = V) (ok : okC W) (E : envM S L H n s) : ∃ μ, mcall (d + 6) 171 [(30, 64)] S = some (bitsA L H W n, μ) ∧ gM μ = W ∧ gK x μ = V ∧ fm MT S μ := by
  obtain ⟨μ, m1, m2⟩ := s_171 (d := d) g ok E
  exact ⟨μ, m1, (gM_f m2 (by decide)).trans g, (gK_f (fm_f m2) (by simp; omega) (by omega)).trans k, fm_m (fm_f m2) (by decide)⟩
theorem s_201 {x y h : Int} (hy : y < 2147483648) (g : gM S = V) (ok : okC V) (hl : V 3 1 ≤ 100000) (E : envM S L H n s) : ∃ μ, mcall (d + 8) 201 [(30, 64), (0, x), (0, y), (0, h)] S = some (drawnA L H n s V x y h, μ) ∧ fm MT S μ ∧ gM μ = V := by
  have hn := E.2.2.2.1
  rw [f_201]
  unfold drawnA
  by_cases h0 : y < 0
  · rw [bLt_t h0, f_201_43, if_neg (by omega)]; exact ⟨S, rfl, fm_r, g⟩
  · obtain ⟨m, hm⟩ : ∃ m : Nat, y = (m : Int) := ⟨y.toNat, by omega⟩
    subst hm
    rw [bLt_f (by omega), bEq_f (by omega), sp_V m hy, sp_t, s_133, bK_t, tn_n]
    by_cases h1 : 1 ≤ m / 100 ∧ m / 100 ≤ 30
    · rw [if_pos (by omega), bEq_f (by omega), bEq_f (by omega), s_133, bK_t]
      by_cases h2 : 1 ≤ m % 100 ∧ m % 100 ≤ 24
      · rw [if_pos (by omega), bEq_f (by omega)]
        have t1 : Unit → w32 (Int.tdiv (m : Int) 100) = ((m / 100 : Nat) : Int) := fun _ => sp_V m hy
        have t2 : Unit → Int.tmod (m : Int) 100 = ((m % 100 : Nat) : Int) := fun _ => rfl
        have core : (h = -1 ∨ (0 ≤ h ∧ h < (n : Int))) → ∃ μ, mgo (mcall (d + 7)) (mX 201 S) 201 45 [(30, 64), (0, x), (0, (m : Int)), (0, h), (2, 0), (2, 0), (2, 0), (2, 0), (2, 0), (2, 0), (2, 0)] [] S = some (if 0 ≤ (m : Int) ∧ 1 ≤ m / 100 ∧ m / 100 ≤ 30 ∧ 1 ≤ m % 100 ∧ m % 100 ≤ 24 ∧ (h = -1 ∨ (0 ≤ h ∧ h < (n : Int))) then drY L H n s h (m % 100) V (m / 100) x 0 else -1, μ) ∧ fm MT S μ ∧ gM μ = V := by
          intro hh
          rw [if_pos ⟨by omega, h1.1, h1.2, h2.1, h2.2, hh⟩, f_201_45]
          obtain ⟨σ, s1, s2, s3⟩ := s_178k (d := d + 6) (x := 91) (by omega) g
          have s1' : mcall (d + 7) 178 [(30, 64), (1092, 91)] S = some (0, σ) := s1
          have gσ : gM σ = V := (gM_f s2 (by decide)).trans g
          rw [s1', bK_t]
          have u161 : ∀ (v4 v5 v6 v7 v8 v9 : Int) (σ : mM), mgo (mcall (d + 7)) (mX 201 S) 201 161 [(30, 64), (0, x), (0, (m : Int)), (0, h), (0, v4), (0, v5), (0, v6), (0, v7), (0, v8), (0, v9), (2, 0)] [] σ = mgo (mcall (d + 7)) (mX 201 S) 201 161 [(30, 64), (0, x), (0, (m : Int)), (0, h), (0, v4), (0, v5), (0, v6), (0, v7), (0, v8), (0, v9), (0, 0)] [] σ := fun v4 v5 v6 v7 v8 v9 σ => (f_201_161a _ _ _ _ _ _ _ _ _ _ _ _).trans (f_201_161 _ _ _ _ _ _ _ _ _ _ _ _ _).symm
          have u62 : ∀ (v4 v5 v6 : Int) (σ : mM), 0 < m % 100 → mgo (mcall (d + 7)) (mX 201 S) 201 62 [(30, 64), (0, x), (0, (m : Int)), (0, h), (0, v4), (0, v5), (0, v6), (2, 0), (2, 0), (2, 0), (2, 0)] [] σ = mgo (mcall (d + 7)) (mX 201 S) 201 62 [(30, 64), (0, x), (0, (m : Int)), (0, h), (0, v4), (0, v5), (0, v6), (0, 0), (0, 0), (0, 0), (0, 0)] [] σ := by
            intro v4 v5 v6 σ hp
            rw [f_201_62b, f_201_62, f_201_74a, f_201_74, t2 (), bLt_t (x := 0) (y := ((m % 100 : Nat) : Int)) (by omega)]
            simp only [u161]
            rw [bLt_t (x := 0) (y := ((m % 100 : Nat) : Int)) (by omega)]
          rw [u62 _ _ _ _ (by omega)]
          have qm : ∀ (p k : Nat) (z a v6 v8 v9 v10 : Int) (W : cV) (σ : mM), k + p = m % 100 → gM σ = W → gK 91 σ = V → okC W → W 3 1 + (p : Int) ≤ 1000000 → fm MT S σ → ∃ μ v8' v9' v10', mgo (mcall (d + 7)) (mX 201 S) 201 74 [(30, 64), (0, x), (0, (m : Int)), (0, h), (0, z), (0, a), (0, v6), (0, (k : Int)), (0, v8), (0, v9), (0, v10)] [] σ = mgo (mcall (d + 7)) (mX 201 S) 201 62 [(30, 64), (0, x), (0, (m : Int)), (0, h), (0, (drM L H n s h p z a W).1), (0, (drM L H n s h p z a W).2), (0, w32 (v6 + 1)), (0, ((m % 100 : Nat) : Int)), (0, v8'), (0, v9'), (0, v10')] [] μ ∧ gM μ = V ∧ gK 91 μ = V ∧ fm MT S μ := by
            intro p
            induction p with
            | zero =>
              intro k z a v6 v8 v9 v10 W σ hk gσ kσ o hw F
              obtain ⟨ξ, x1, x2, x3⟩ := s_179k (d := d + 6) (x := 91) (by omega) kσ
              have x1' : mcall (d + 7) 179 [(30, 64), (1092, 91)] σ = some (0, ξ) := x1
              refine ⟨ξ, v8, v9, v10, ?_, x2, (gK_f x3 (by simp) (by omega)).trans kσ, fm_t F (fm_m x3 (by simp))⟩
              rw [f_201_74, bEq_f (by omega), t2 (), bLt_f (by omega), x1', bK_t, show k = m % 100 by omega]
              rfl
            | succ p ih =>
              intro k z a v6 v8 v9 v10 W σ hk gσ kσ o hw F
              obtain ⟨Z, hZ⟩ : ∃ Z, Z = nextZ z := ⟨_, rfl⟩
              have e8 : Unit → Int.tmod (m32 (fun x y => (x.toUInt32 >>> (y.toUInt32 &&& Int32.toUInt32 31)).toInt32) Z 8) 3 = lotA Z := fun _ => rfl
              have e5 : Unit → Int.tmod (m32 (fun x y => (x.toUInt32 >>> (y.toUInt32 &&& Int32.toUInt32 31)).toInt32) Z 16) 5 = (rowZ Z : Int) := fun _ => (rowZ_e Z).1
              have e30 : Unit → Int.tmod (m32 (fun x y => (x.toUInt32 >>> (y.toUInt32 &&& Int32.toUInt32 31)).toInt32) Z 16) 30 = (sqZ Z : Int) := fun _ => (sqZ_e Z).1
              have b1 := (rowZ_e Z).2
              have b2 := (sqZ_e Z).2
              have o1 : okC (drwA Z W) := okC_drw o
              have dr : ∃ α v8' v9', gM α = drwA Z W ∧ gK 91 α = V ∧ fm MT S α ∧ mgo (mcall (d + 7)) (mX 201 S) 201 74 [(30, 64), (0, x), (0, (m : Int)), (0, h), (0, z), (0, a), (0, v6), (0, (k : Int)), (0, v8), (0, v9), (0, v10)] [] σ = mgo (mcall (d + 7)) (mX 201 S) 201 161 [(30, 64), (0, x), (0, (m : Int)), (0, h), (0, Z), (0, a), (0, v6), (0, (k : Int)), (0, v8'), (0, v9'), (0, v10)] [] α := by
                rw [f_201_74, bEq_f (by omega), t2 (), bLt_t (by omega), bEq_f (by omega), bEq_f (by omega), show w32 ((w32 (z * 1103515245)) + 12345) = Z from hZ.symm, e8 (), e5 (), e30 ()]
                unfold drwA
                by_cases l0 : lotA Z = 0
                · obtain ⟨α, a1, a2, a3, a4⟩ := s_175t (d := d + 5) (x := 91) (rw := 2 * rowZ Z) (Or.inr rfl) gσ kσ o (by omega)
                  rw [show 2 * rowZ Z / 2 = rowZ Z by omega, show 2 * rowZ Z % 2 = 0 by omega] at a2
                  rw [bEq_t l0, if_pos l0, bEq_f (by omega), show w32 (2 * (rowZ Z : Int)) = ((2 * rowZ Z : Nat) : Int) by rw [w32_e (by omega)]; omega, a1, bK_t]
                  exact ⟨α, _, _, a2, a3, fm_t F (fm_m a4 (by simp)), rfl⟩
                · rw [bEq_f l0, if_neg l0]
                  by_cases l1 : lotA Z = 1
                  · have c1 : σ 66 (sqZ Z) = W 1 (sqZ Z) := gM_1 gσ b2
                    have h3 := o.2.2.1 (sqZ Z)
                    rw [bEq_t l1, if_pos l1, bIn_t (by omega), bIn_t (by omega), tn_n, c1, w32_e (x := W 1 (sqZ Z) - 1) (by omega)]
                    obtain ⟨μ, m1, m2, m3⟩ := opM (V := W) (V' := up W 1 (sqZ Z) (if 0 < W 1 (sqZ Z) - 1 then W 1 (sqZ Z) - 1 else 0)) (f := fun S => some (0, mset S 66 (sqZ Z) (if 0 < W 1 (sqZ Z) - 1 then W 1 (sqZ Z) - 1 else 0))) gσ (okC_1 o b2 (by split <;> omega)).1 (by
                      have := uL_2 (V := W) (σ := σ) (v := if 0 < W 1 (sqZ Z) - 1 then W 1 (sqZ Z) - 1 else 0) dM b2
                      exact congrArg (fun τ : mM => some ((0 : Int), τ)) this)
                    have e : mset σ 66 (sqZ Z) (if 0 < W 1 (sqZ Z) - 1 then W 1 (sqZ Z) - 1 else 0) = μ := congrArg Prod.snd (Option.some.inj m1)
                    rw [e]
                    exact ⟨μ, _, _, m2, (gK_f m3 (by simp) (by omega)).trans kσ, fm_t F (fm_m m3 (by simp)), rfl⟩
                  · rw [bEq_f l1, if_neg l1]
                    exact ⟨σ, _, _, gσ, kσ, F, rfl⟩
              obtain ⟨α, v8', v9', a2, a3, a4, a5⟩ := dr
              obtain ⟨β, b1', b2', b3', b4'⟩ := s_171v (d := d + 1) (x := 91) (Or.inr rfl) a2 a3 o1 (envM_X a4 E)
              have F2 := fm_t a4 b4'
              obtain ⟨γ, c1, c2, c3⟩ := s_174k (d := d + 4) (s := s) b2' o1 (by rw [drw_3]; omega) (envM_X F2 E).2.2.2.2.2
              have F3 := fm_t F2 (fm_m c3 (by simp) : fm MT β γ)
              obtain ⟨ξ, w8, w9, w10, x1, x2, x3, x4⟩ := ih (k + 1) Z (w32 (a + cntA L H n h (drwA Z W))) v6 v8' v9' (bitsA L H (drwA Z W) n) _ γ (by omega) c2 ((gK_f c3 (by simp) (by omega)).trans b3') (okC_pass o1 (by rw [drw_3]; omega)) (by rw [pass_31, drw_3]; omega) F3
              refine ⟨ξ, w8, w9, w10, a5.trans ?_, x2, x3, x4⟩
              rw [f_201_161, b1', bK_t]
              have e188 : ∀ c : Int, c = cntA L H n h (drwA Z W) → mgo (mcall (d + 7)) (mX 201 S) 201 188 [(30, 64), (0, x), (0, (m : Int)), (0, h), (0, Z), (0, a), (0, v6), (0, (k : Int)), (0, v8'), (0, v9'), (0, bitsA L H (drwA Z W) n)] [(0, c), (0, a)] β = mgo (mcall (d + 7)) (mX 201 S) 201 62 [(30, 64), (0, x), (0, (m : Int)), (0, h), (0, (drM L H n s h (p + 1) z a W).1), (0, (drM L H n s h (p + 1) z a W).2), (0, w32 (v6 + 1)), (0, ((m % 100 : Nat) : Int)), (0, w8), (0, w9), (0, w10)] [] ξ := by
                intro c hc
                rw [f_201_188, c1, bK_t, w32_n (by omega), hc]
                refine x1.trans ?_
                rw [hZ]
                rfl
              unfold cntA at e188
              rcases hh with hh | hh
              · rw [bEq_t hh, s_228, bK_t]
                exact e188 _ (by rw [if_pos (by omega)])
              · obtain ⟨h', hhh⟩ : ∃ h' : Nat, h = (h' : Int) := ⟨h.toNat, by omega⟩
                subst hhh
                rw [bEq_f (by omega)]
                exact e188 _ (by rw [if_neg (by omega), tn_n]; exact bits_h hn (by omega))
          have qy : ∀ (y j : Nat) (z a v7 v8 v9 v10 : Int) (σ : mM), j + y = m / 100 → gM σ = V → gK 91 σ = V → fm MT S σ → ∃ μ, mgo (mcall (d + 7)) (mX 201 S) 201 62 [(30, 64), (0, x), (0, (m : Int)), (0, h), (0, z), (0, a), (0, (j : Int)), (0, v7), (0, v8), (0, v9), (0, v10)] [] σ = some (drY L H n s h (m % 100) V y z a, μ) ∧ fm MT S μ ∧ gM μ = V := by
            intro y
            induction y with
            | zero =>
              intro j z a v7 v8 v9 v10 σ hj gσ kσ F
              refine ⟨σ, ?_, F, gσ⟩
              rw [f_201_62, bEq_f (by omega), t1 (), bLt_f (by omega)]
              rfl
            | succ y ih =>
              intro j z a v7 v8 v9 v10 σ hj gσ kσ F
              obtain ⟨ν, w8, w9, w10, n1, n2, n3, n4⟩ := qm (m % 100) 0 z a (j : Int) v8 v9 v10 V σ (by omega) gσ kσ ok (by omega) F
              obtain ⟨ξ, x1, x2, x3⟩ := ih (j + 1) (drM L H n s h (m % 100) z a V).1 (drM L H n s h (m % 100) z a V).2 ((m % 100 : Nat) : Int) w8 w9 w10 ν (by omega) n2 n3 n4
              refine ⟨ξ, ?_, x2, x3⟩
              rw [f_201_62, bEq_f (by omega), t1 (), bLt_t (by omega)]
              refine n1.trans ?_
              rw [w32_n (by omega)]
              exact x1
          exact qy (m / 100) 0 x 0 0 0 0 0 σ (by omega) gσ s3 (fm_m (fm_f s2) (by decide))
        by_cases hm1 : h = -1
        · rw [bEq_t hm1]
          exact core (Or.inl hm1)
        · rw [bEq_f hm1, s_135 E.2.2.1 hn, bK_t]
          by_cases h3 : 0 ≤ h ∧ h < (n : Int)
          · rw [if_pos h3, bEq_f (by omega)]
            exact core (Or.inr h3)
          · rw [if_neg h3, bEq_t (by rfl), f_201_43, if_neg (by omega)]; exact ⟨S, rfl, fm_r, g⟩
      · rw [if_neg (by omega), bEq_t (by rfl), f_201_43, if_neg (by omega)]; exact ⟨S, rfl, fm_r, g⟩
    · rw [if_neg (by omega), bEq_t (by rfl), f_201_43, if_neg (by omega)]; exact ⟨S, rfl, fm_r, g⟩
end
