/-! PURE PART 44: what is made -/
section
variable {σ τ μ : mM} {c z0 z y s p q z' y' : Nat} {S S' : List Nat} {mx : Int × Int} {K : mK} {t : Nat} {k : Int} {F : Int → mM → mA}
def Tn (p q a j : Nat) : Int := if a = 46 ∧ j < p then 47 + 2 * (j : Int) else if a = 87 ∧ j < q then -1 else if a = 1 ∧ j = 6 then 10 else if a = 1 ∧ j = 7 then 17 else if mlay a = 23 ∧ j = 1 then -2 else if mlay a < 1000 then (match mfx (mlay a - 20) j with | some r => (a : Int) + r | none => mdef (mlay a) j) else mdef (mlay a) j
/-- an object being made: its own cells so far, its slots set so far -/
def pg (p q c z0 z y : Nat) (S : List Nat) (σ τ : mM) : Prop := τ 905 0 = (z : Int) ∧ τ 905 1 = (y : Int) ∧ (∀ a j, a ≠ 905 → a ≠ c → (a < z0 ∨ z ≤ a) → τ a j = σ a j) ∧ (∀ a j, z0 ≤ a → a < z → τ a j = Tn p q a j) ∧ ∀ j, τ c j = if j ∈ S then Tn p q c j else mdef (mlay c) j
theorem pg_0 (h0 : σ 905 0 = ((c + 1 : Nat) : Int)) (h1 : σ 905 1 = (y : Int)) (h : ∀ j, σ c j = mdef (mlay c) j) : pg p q c (c + 1) (c + 1) y [] σ σ :=
  ⟨h0, h1, fun _ _ _ _ _ => rfl, fun a j h1 h2 => absurd h2 (by omega), fun j => by rw [if_neg (List.not_mem_nil)]; exact h j⟩
theorem nw_e {t k : Nat} (h : τ 905 0 = (z : Int)) {j : Nat} : mnew τ t k z j = mdef t j := by
  unfold mnew mz
  rw [h, if_pos (by omega)]
theorem nw_o {t k a : Nat} (h : τ 905 0 = (z : Int)) (h1 : a ≠ z) (h2 : a ≠ 905) {j : Nat} : mnew τ t k a j = τ a j := by
  unfold mnew mz
  rw [h, if_neg (by omega), if_neg h2]
theorem nw_0 {t k : Nat} (h : τ 905 0 = (z : Int)) (hz : z < 900) : mnew τ t k 905 0 = ((z + 1 : Nat) : Int) := by
  unfold mnew mz
  rw [h, if_neg (by omega), if_pos rfl, if_pos rfl]
  rfl
theorem nw_1 {t k : Nat} (h : τ 905 0 = (z : Int)) (h1 : τ 905 1 = (y : Int)) (hz : z < 900) : mnew τ t k 905 1 = ((y + k : Nat) : Int) := by
  unfold mnew mz
  rw [h, if_neg (by omega), if_pos rfl, if_neg (by omega), if_pos rfl, h1]
  omega
theorem nA_t (h : pg p q c z0 z y S σ τ) (hl : mlay z = t + k.toNat) (k0 : 0 ≤ k) (k1 : k < 1000) (b1 : (z : Int) + 1 ≤ mx.1) (b2 : (y : Int) + k ≤ mx.2) : nA t k mx τ F = F (z : Int) (mnew τ (t + k.toNat) k.toNat) := by
  obtain ⟨h0, h1, -⟩ := h
  have hz : mz τ 0 = z := by unfold mz; rw [h0]; rfl
  unfold nA
  rw [hz, h0, h1, if_pos ⟨k0, k1, hl, b1, b2⟩]
theorem nO_t {cl n : Nat} (h : pg p q c z0 z y S σ τ) (hl : mlay z = 20 + cl) (b1 : (z : Int) + 1 ≤ mx.1) (b2 : (y : Int) + (n : Int) ≤ mx.2) : nO cl n mx τ F = F (z : Int) (mnew τ (20 + cl) n) := by
  obtain ⟨h0, h1, -⟩ := h
  have hz : mz τ 0 = z := by unfold mz; rw [h0]; rfl
  unfold nO
  rw [hz, h0, h1, if_pos ⟨hl, b1, b2⟩]
theorem pA {n : Nat} (h : pg p q c z0 z y S σ τ) (hc : c < z0) (hz : z0 ≤ z) (hz9 : z < 900) (hT : ∀ j, mdef t j = Tn p q z j) (hs : Tn p q c s = (z : Int)) : pg p q c z0 (z + 1) (y + n) (s :: S) σ (mset (mnew τ t n) c s (z : Int)) := by
  obtain ⟨h0, h1, h2, h3, h4⟩ := h
  refine ⟨by rw [ms_n (by omega)]; exact nw_0 h0 hz9, by rw [ms_n (by omega)]; exact nw_1 h0 h1 hz9, fun a j g1 g2 g3 => ?_, fun a j g1 g2 => ?_, fun j => ?_⟩
  · rw [ms_n (by omega), nw_o h0 (by omega) g1]; exact h2 a j g1 g2 (by omega)
  · rw [ms_n (by omega)]
    by_cases he : a = z
    · rw [he, nw_e h0]; exact hT j
    · rw [nw_o h0 he (by omega)]; exact h3 a j g1 (by omega)
  · by_cases he : j = s
    · rw [he, ms_e, if_pos (List.mem_cons_self ..)]; exact hs.symm
    · rw [ms_n (by omega), nw_o h0 (by omega) (by omega), h4 j]
      by_cases hm : j ∈ S
      · rw [if_pos hm, if_pos (List.mem_cons_of_mem _ hm)]
      · rw [if_neg hm, if_neg (fun g => by rcases List.mem_cons.mp g with g | g; exact he g; exact hm g)]
theorem pO {n : Nat} (h : pg p q c z0 z y S σ τ) (g : pg p q z (z + 1) z' y' S' (mnew τ t n) μ) (gf : ∀ j, μ z j = Tn p q z j) (hc : c < z0) (hz : z0 ≤ z) (hzz : z < z') (hz9 : z' < 900) (hs : Tn p q c s = (z : Int)) : pg p q c z0 z' y' (s :: S) σ (mset μ c s (z : Int)) := by
  obtain ⟨h0, h1, h2, h3, h4⟩ := h
  obtain ⟨g0, g1, g2, g3, g4⟩ := g
  refine ⟨by rw [ms_n (by omega)]; exact g0, by rw [ms_n (by omega)]; exact g1, fun a j k1 k2 k3 => ?_, fun a j k1 k2 => ?_, fun j => ?_⟩
  · rw [ms_n (by omega), g2 a j k1 (by omega) (by omega), nw_o h0 (by omega) k1]; exact h2 a j k1 k2 (by omega)
  · rw [ms_n (by omega)]
    by_cases he : a = z
    · rw [he]; exact gf j
    · by_cases hl : a < z
      · rw [g2 a j (by omega) he (by omega), nw_o h0 he (by omega)]; exact h3 a j k1 hl
      · exact g3 a j (by omega) k2
  · by_cases he : j = s
    · rw [he, ms_e, if_pos (List.mem_cons_self ..)]; exact hs.symm
    · rw [ms_n (by omega), g2 c j (by omega) (by omega) (by omega), nw_o h0 (by omega) (by omega), h4 j]
      by_cases hm : j ∈ S
      · rw [if_pos hm, if_pos (List.mem_cons_of_mem _ hm)]
      · rw [if_neg hm, if_neg (fun g => by rcases List.mem_cons.mp g with g | g; exact he g; exact hm g)]
theorem mfx_n {i j : Nat} (h : 50 ≤ j) : mfx i j = none := by
  have key : ∀ l ∈ mfxs, l.length ≤ 50 := by decide
  unfold mfx
  have hl : (mfxs.getD i []).length ≤ 50 := by
    rw [List.getD_eq_getElem?_getD]
    cases e : mfxs[i]? with
    | none => exact Nat.zero_le _
    | some l => exact key l (List.mem_of_getElem? e)
  rw [List.getD_eq_getElem?_getD (l := mfxs.getD i []), List.getElem?_eq_none (by omega)]
  rfl
theorem nC_t {m : Nat} {a : mA} (h0 : τ 905 0 = (z : Int)) (h1 : τ 905 1 = (y : Int)) (g0 : μ 905 0 = ((z + mal m : Nat) : Int)) (g1 : μ 905 1 = ((y + msl m : Nat) : Int)) (b1 : ((z + mal m : Nat) : Int) ≤ mx.1) (b2 : ((y + msl m : Nat) : Int) ≤ mx.2) : nC m mx τ μ a = a := by
  unfold nC
  rw [h0, h1, g0, g1, if_pos ⟨by omega, by omega, b1, b2⟩]
theorem mX_t {m : Nat} (h0 : τ 905 0 = (z : Int)) (h1 : τ 905 1 = (y : Int)) : mX m τ = (((z + mal m : Nat) : Int), ((y + msl m : Nat) : Int)) := by
  unfold mX
  rw [h0, h1]
  refine Prod.ext ?_ ?_
  · show (z : Int) + (mal m : Int) = _; omega
  · show (y : Int) + (msl m : Int) = _; omega
/-- all slots of a cell -/
theorem pg_f (h : pg p q c z0 z y S σ τ) (hp : c ≠ 46) (hq : c ≠ 87) (hf : ∀ j, j < 50 → j ∉ S → Tn 0 0 c j = mdef (mlay c) j) : ∀ j, τ c j = Tn p q c j := by
  intro j
  rw [h.2.2.2.2 j]
  by_cases hm : j ∈ S
  · rw [if_pos hm]
  · rw [if_neg hm]
    by_cases hj : j < 50
    · rw [← hf j hj hm]
      unfold Tn
      simp only [hp, hq, false_and, if_false]
    · unfold Tn
      rw [if_neg (fun g => hp g.1), if_neg (fun g => hq g.1), if_neg (by omega), if_neg (by omega), if_neg (by omega), mfx_n (by omega)]
      split <;> rfl
end
