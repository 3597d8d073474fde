/-! PURE PART 1: helpers; a cover as a function, laid into a memory -/
theorem bLt_t {x y : Int} {a b : mA} (h : x < y) : bLt x y a b = a := if_pos h
theorem bLt_f {x y : Int} {a b : mA} (h : y ≤ x) : bLt x y a b = b := if_neg (Int.not_lt.mpr h)
theorem bEq_t {x y : Int} {a b : mA} (h : x = y) : bEq x y a b = a := if_pos h
theorem bEq_f {x y : Int} {a b : mA} (h : x ≠ y) : bEq x y a b = b := if_neg h
theorem bIn_t {i n : Int} {a : mA} (h : 0 ≤ i ∧ i < n) : bIn i n a = a := if_pos h
theorem bCp_t {sp dp k l1 l2 : Int} {a : mA} (h : 0 ≤ sp ∧ 0 ≤ dp ∧ 0 ≤ k ∧ sp + k ≤ l1 ∧ dp + k ≤ l2) : bCp sp dp k l1 l2 a = a := if_pos h
theorem bK_t {r : Int} {σ : mM} {f : Int → mM → mA} : bK (some (r, σ)) f = f r σ := rfl
theorem bLt_i {x y : Int} {a b : mA} : bLt x y a b = if x < y then a else b := rfl
theorem bEq_i {x y : Int} {a b : mA} : bEq x y a b = if x = y then a else b := rfl
/-- a number that an int holds -/
theorem w32_e {x : Int} (h : -2147483648 ≤ x ∧ x < 2147483648) : w32 x = x := by unfold w32; omega
theorem w32_n {i : Nat} (h : i < 2147483647) : w32 ((i : Int) + 1) = ((i + 1 : Nat) : Int) := by unfold w32; omega
theorem tn_n (i : Nat) : ((i : Int)).toNat = i := rfl
abbrev cV : Type := Nat → Nat → Int
def up (V : cV) (k i : Nat) (v : Int) : cV := fun a j => if a = k ∧ j = i then v else V a j
def gL (a1 a2 a3 a4 i4 a5 i5 : Nat) (σ : mM) : cV := fun k j =>
  if k = 0 then (if j < 30 then σ a1 j else 0) else if k = 1 then (if j < 30 then σ a2 j else 0) else if k = 2 then (if j < 30 then σ a3 j else 0)
  else if k = 3 then (if j = 0 then σ a4 i4 else if j = 1 then σ a5 i5 else 0) else 0
def sL (a1 a2 a3 a4 i4 a5 i5 : Nat) (V : cV) (σ : mM) : mM := fun a j =>
  if a = a1 ∧ j < 30 then V 0 j else if a = a2 ∧ j < 30 then V 1 j else if a = a3 ∧ j < 30 then V 2 j
  else if a = a4 ∧ j = i4 then V 3 0 else if a = a5 ∧ j = i5 then V 3 1 else σ a j
/-- the places are apart -/
def dL (a1 a2 a3 a4 i4 a5 i5 : Nat) : Prop := a1 ≠ a2 ∧ a1 ≠ a3 ∧ a2 ≠ a3 ∧ a4 ≠ a1 ∧ a4 ≠ a2 ∧ a4 ≠ a3 ∧ a5 ≠ a1 ∧ a5 ≠ a2 ∧ a5 ≠ a3 ∧ (a4 ≠ a5 ∨ i4 ≠ i5)
/-- nothing beyond its places -/
def nV (V : cV) : Prop := ∀ k j, (k < 3 ∧ 30 ≤ j) ∨ (k = 3 ∧ 2 ≤ j) ∨ 4 ≤ k → V k j = 0
section
variable {a1 a2 a3 a4 i4 a5 i5 : Nat} {V V' : cV} {σ : mM}
theorem gL_n : nV (gL a1 a2 a3 a4 i4 a5 i5 σ) := by
  intro k j h
  unfold gL
  repeat' split
  all_goals first | rfl | omega
theorem sL_g : sL a1 a2 a3 a4 i4 a5 i5 (gL a1 a2 a3 a4 i4 a5 i5 σ) σ = σ := by
  funext a j
  unfold sL gL
  split
  · next h => rw [if_pos rfl, if_pos h.2, h.1]
  · split
    · next h => rw [if_neg (by decide), if_pos rfl, if_pos h.2, h.1]
    · split
      · next h => rw [if_neg (by decide), if_neg (by decide), if_pos rfl, if_pos h.2, h.1]
      · split
        · next h => rw [if_neg (by decide), if_neg (by decide), if_neg (by decide), if_pos rfl, if_pos rfl, h.1, h.2]
        · split
          · next h => rw [if_neg (by decide), if_neg (by decide), if_neg (by decide), if_pos rfl, if_neg (by decide), if_pos rfl, h.1, h.2]
          · rfl
theorem sL_s : sL a1 a2 a3 a4 i4 a5 i5 V (sL a1 a2 a3 a4 i4 a5 i5 V' σ) = sL a1 a2 a3 a4 i4 a5 i5 V σ := by
  funext a j
  unfold sL
  repeat' split
  all_goals rfl
theorem sL_1 {j : Nat} (hj : j < 30) : sL a1 a2 a3 a4 i4 a5 i5 V σ a1 j = V 0 j := if_pos ⟨rfl, hj⟩
theorem sL_2 (D : dL a1 a2 a3 a4 i4 a5 i5) {j : Nat} (hj : j < 30) : sL a1 a2 a3 a4 i4 a5 i5 V σ a2 j = V 1 j := by
  unfold sL dL at *
  rw [if_neg (by omega), if_pos ⟨rfl, hj⟩]
theorem sL_3 (D : dL a1 a2 a3 a4 i4 a5 i5) {j : Nat} (hj : j < 30) : sL a1 a2 a3 a4 i4 a5 i5 V σ a3 j = V 2 j := by
  unfold sL dL at *
  rw [if_neg (by omega), if_neg (by omega), if_pos ⟨rfl, hj⟩]
theorem sL_4 (D : dL a1 a2 a3 a4 i4 a5 i5) : sL a1 a2 a3 a4 i4 a5 i5 V σ a4 i4 = V 3 0 := by
  unfold sL dL at *
  rw [if_neg (by omega), if_neg (by omega), if_neg (by omega), if_pos ⟨rfl, rfl⟩]
theorem sL_5 (D : dL a1 a2 a3 a4 i4 a5 i5) : sL a1 a2 a3 a4 i4 a5 i5 V σ a5 i5 = V 3 1 := by
  unfold sL dL at *
  rw [if_neg (by omega), if_neg (by omega), if_neg (by omega), if_neg (by omega), if_pos ⟨rfl, rfl⟩]
theorem sL_0 {a j : Nat} (h : a ≠ a1 ∧ a ≠ a2 ∧ a ≠ a3 ∧ (a ≠ a4 ∨ j ≠ i4) ∧ (a ≠ a5 ∨ j ≠ i5)) : sL a1 a2 a3 a4 i4 a5 i5 V σ a j = σ a j := by
  unfold sL
  rw [if_neg (by omega), if_neg (by omega), if_neg (by omega), if_neg (by omega), if_neg (by omega)]
theorem uL_1 {i : Nat} {v : Int} (hi : i < 30) : mset (sL a1 a2 a3 a4 i4 a5 i5 V σ) a1 i v = sL a1 a2 a3 a4 i4 a5 i5 (up V 0 i v) σ := by
  funext a j
  unfold mset sL up
  repeat' split
  all_goals first | rfl | omega
theorem uL_2 (D : dL a1 a2 a3 a4 i4 a5 i5) {i : Nat} {v : Int} (hi : i < 30) : mset (sL a1 a2 a3 a4 i4 a5 i5 V σ) a2 i v = sL a1 a2 a3 a4 i4 a5 i5 (up V 1 i v) σ := by
  funext a j
  unfold dL at D
  unfold mset sL up
  repeat' split
  all_goals first | rfl | omega
theorem uL_3 (D : dL a1 a2 a3 a4 i4 a5 i5) {i : Nat} {v : Int} (hi : i < 30) : mset (sL a1 a2 a3 a4 i4 a5 i5 V σ) a3 i v = sL a1 a2 a3 a4 i4 a5 i5 (up V 2 i v) σ := by
  funext a j
  unfold dL at D
  unfold mset sL up
  repeat' split
  all_goals first | rfl | omega
theorem uL_4 (D : dL a1 a2 a3 a4 i4 a5 i5) {v : Int} : mset (sL a1 a2 a3 a4 i4 a5 i5 V σ) a4 i4 v = sL a1 a2 a3 a4 i4 a5 i5 (up V 3 0 v) σ := by
  funext a j
  unfold dL at D
  unfold mset sL up
  repeat' split
  all_goals first | rfl | omega
theorem uL_5 (D : dL a1 a2 a3 a4 i4 a5 i5) {v : Int} : mset (sL a1 a2 a3 a4 i4 a5 i5 V σ) a5 i5 v = sL a1 a2 a3 a4 i4 a5 i5 (up V 3 1 v) σ := by
  funext a j
  unfold dL at D
  unfold mset sL up
  repeat' split
  all_goals first | rfl | omega
theorem uL_0 {a i : Nat} {v : Int} (h : a ≠ a1 ∧ a ≠ a2 ∧ a ≠ a3 ∧ (a ≠ a4 ∨ i ≠ i4) ∧ (a ≠ a5 ∨ i ≠ i5)) : mset (sL a1 a2 a3 a4 i4 a5 i5 V σ) a i v = sL a1 a2 a3 a4 i4 a5 i5 V (mset σ a i v) := by
  funext a j
  simp only [mset, sL]
  repeat' split
  all_goals first | rfl | omega
theorem g_sL (D : dL a1 a2 a3 a4 i4 a5 i5) (N : nV V) : gL a1 a2 a3 a4 i4 a5 i5 (sL a1 a2 a3 a4 i4 a5 i5 V σ) = V := by
  funext k j
  unfold gL
  split
  · next h => subst h; split
              · next h => exact sL_1 h
              · exact (N _ _ (by omega)).symm
  · split
    · next h => subst h; split
                · next h => exact sL_2 D h
                · exact (N _ _ (by omega)).symm
    · split
      · next h => subst h; split
                  · next h => exact sL_3 D h
                  · exact (N _ _ (by omega)).symm
      · split
        · next h => subst h; split
                    · next h => subst h; exact sL_4 D
                    · split
                      · next h => subst h; exact sL_5 D
                      · exact (N _ _ (by omega)).symm
        · exact (N _ _ (by omega)).symm
end
theorem up_n {V : cV} {k i : Nat} {v : Int} (N : nV V) (h : (k < 3 ∧ i < 30) ∨ (k = 3 ∧ i < 2)) : nV (up V k i v) := by
  intro a j q
  unfold up
  rw [if_neg (by omega)]
  exact N a j q
theorem dC (c : Nat) : dL (c + 1) (c + 2) (c + 3) c 4 (c + 4) 0 := by unfold dL; omega
theorem dM : dL 65 66 67 69 0 64 6 := by unfold dL; omega
