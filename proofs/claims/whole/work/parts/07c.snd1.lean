theorem mws_len (w : mW) (σ : mM) : (mws w σ).length = mz σ 0 := by
  unfold mws
  rw [List.length_map, List.length_range]
theorem mws_set {w : mW} {σ : mM} {c k : Nat} {v : Int} {x : va_E} (hc : c < 900) (he : mcell w (mset σ c k v) c = x) : (mws w σ).set c (mb w + c, x) = mws w (mset σ c k v) := by
  subst he
  apply List.ext_getElem?
  intro i
  have hz : mz (mset σ c k v) 0 = mz σ 0 := mz_set hc
  by_cases hi : i < mz σ 0
  · rw [mws_get (σ := mset σ c k v) (by rw [hz]; exact hi)]
    by_cases e : c = i
    · subst e
      exact List.getElem?_set_self (by rw [mws_len]; exact hi)
    · rw [List.getElem?_set_ne e, mws_get hi, mcell_congr w (σ := σ) (σ' := mset σ c k v) (fun j => (mset_ne (fun q => e q.symm)).symm)]
  · rw [List.getElem?_eq_none (by rw [List.length_set, mws_len]; omega), List.getElem?_eq_none (by rw [mws_len, hz]; omega)]
theorem mz_pos {w : mW} {σ : mM} (h : okM w σ) : ((mz σ 0 : Nat) : Int) = σ 905 0 := by
  have := h.1.1
  unfold mz
  omega
