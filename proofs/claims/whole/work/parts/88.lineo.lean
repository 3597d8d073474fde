/-! PURE PART 65: a line in order, in the model -/
section
variable {d n a o i : Nat} {T : Nat → Int} {σ τ μ : mM} {mx : Int × Int}
/-- what the model's reading changes -/
def fy (σ τ : mM) : Prop := ∀ b j, ¬ (b = 64 ∧ 15 ≤ j ∧ j ≤ 18) → ¬ (75 ≤ b ∧ b ≤ 78) → τ b j = σ b j
theorem fy_t (h : fy σ τ) (g : fy τ μ) : fy σ μ := fun b j h1 h2 => (g b j h1 h2).trans (h b j h1 h2)
theorem sM_fy {l : List Int} {b p : Nat} : fy σ (sM l b p σ) := fun c j h1 h2 => sM_18 (by omega) (by omega)
theorem mL_fy : fy σ (m1L i σ) ∧ fy σ (m2L i σ) ∧ fy σ (m3L i σ) ∧ fy σ (fL i σ) := by
  refine ⟨fun c j h1 h2 => ?_, fun c j h1 h2 => ?_, fun c j h1 h2 => ?_, fun c j h1 h2 => ?_⟩
  · exact ms_n (by omega)
  · exact ms_n (by omega)
  · exact ms_n (by omega)
  · unfold fL
    rw [ms_n (by omega), ms_n (by omega)]
theorem sM_lo {l : List Int} {b p : Nat} (h : σ 64 17 = (o : Int)) : ∀ j, j < o → sM l b p σ 78 j = σ 78 j := fun j hj => by
  unfold sM
  rw [ms_n (by omega), ms_n (by omega)]
  exact eM_lo l o σ h j hj
theorem sM_seg {l : List Int} {b p : Nat} (h : σ 64 17 = (o : Int)) : segM (sM l b p σ) 78 o l := by
  refine segM_l (m := o + l.length) (Nat.le_refl _) (fun j hj => ?_) (eM_seg l o σ h)
  unfold sM
  rw [ms_n (by omega), ms_n (by omega)]
end
