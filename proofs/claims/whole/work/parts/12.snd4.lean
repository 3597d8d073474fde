/-! SOUNDNESS 4: fields and rows -/
theorem okR_cell {n t : Nat} {x : Int} (h : okR n t x) (ht : 20 ≤ t ∧ (t < 4000 ∨ 9000 ≤ t)) : ∃ k : Nat, x = (k : Int) ∧ k < n ∧ mlay k = t := by
  obtain ⟨k, e, h⟩ := h
  refine ⟨k, e, ?_⟩
  rcases h with ⟨h1, h2, -⟩ | h | h | h | h
  · exact ⟨h1, h2⟩
  all_goals omega
theorem mrep_cell (w : mW) {t k : Nat} (ht : 3 < t) (hk : k < 900) : mrep w (t, (k : Int)) = .ref (mb w + k) := by
  rw [mrep_r w ht, Int.toNat_natCast]
  unfold madr
  rw [if_pos hk]
theorem mcell_obj {w : mW} {σ : mM} {k i : Nat} (h : mlay k = 20 + i) (hi : i < 11) : mcell w σ k = .inr (i, (List.range (mNf i)).map fun j => mfv w (mft i j) (σ k j)) := by
  unfold mcell
  rw [if_pos (by omega), h, Nat.add_sub_cancel_left]
theorem mcell_i {w : mW} {σ : mM} {k t : Nat} (h : mlay k = t) (h1 : 1000 ≤ t) (h2 : t < 2000) : mcell w σ k = .inl (mty w 0, t - 1000, .inl fun j => Int32.ofInt (σ k j)) := by
  unfold mcell
  rw [if_neg (by omega), if_pos (by omega), h]
theorem mcell_b {w : mW} {σ : mM} {k t : Nat} (h : mlay k = t) (h1 : 2000 ≤ t) (h2 : t < 3000) : mcell w σ k = .inl (mty w 1, t - 2000, .inl fun j => Int32.ofInt (σ k j)) := by
  unfold mcell
  rw [if_neg (by omega), if_neg (by omega), if_pos (by omega), h]
theorem mcell_l {w : mW} {σ : mM} {k t : Nat} (h : mlay k = t) (h1 : 3000 ≤ t) (h2 : t < 4000) : mcell w σ k = .inl (mty w 2, t - 3000, .inr (.inl fun j => Int64.ofInt (σ k j))) := by
  unfold mcell
  rw [if_neg (by omega), if_neg (by omega), if_neg (by omega), if_pos (by omega), h]
theorem mcell_s {w : mW} {σ : mM} {k : Nat} (h : mlay k = 9006) : mcell w σ k = .inl (mty w 3, 6, .inr (.inr (.inr (.inr fun j => if σ k j < 0 then none else some (madr w (σ k j).toNat))))) := by
  unfold mcell
  rw [if_neg (by omega), if_neg (by omega), if_neg (by omega), if_neg (by omega), h]
theorem mlen_i {σ : mM} {t b : Nat} (hb : b = 1000 ∨ b = 2000 ∨ b = 3000) (h1 : b ≤ t) (h2 : t < b + 1000) : mlen σ t = ((t - b : Nat) : Int) := by
  unfold mlen
  have h4 : Nat.beq t 4 = false := by
    cases h : Nat.beq t 4
    · rfl
    · have := Nat.eq_of_beq_eq_true h
      omega
  have h7 : Nat.blt t 7000 = true := Nat.blt_eq.mpr (by omega)
  rw [h4, h7]
  show ((t % 1000 : Nat) : Int) = _
  omega
theorem in_row {i : Int} {n : Nat} (hi : in32 i) (h : 0 ≤ i ∧ i < (n : Int)) : vp_in (Int32.ofInt i) n := vp_in_iff.mpr (by rw [i32_t hi]; exact h)
theorem toNat_i {i : Int} (hi : in32 i) : (Int32.ofInt i).toNatClampNeg = i.toNat := by
  show (Int32.ofInt i).toInt.toNat = i.toNat
  rw [i32_t hi]
section
variable {p : Program} {l : Launch} {e : Env} {R : Room} {s : State} {m : MethodId} {args : Array Value} {below : List Frame} {meth : Method} {c : Code} {Q : State → Prop} {w : mW} {ct : Bool} {nL : Nat} {n0 s0 : Int} {own : String} {cc : ByteArray} {pc : Nat} {L S : List mV} {σ : mM} {a0 : Int × mM} {g : mG}
/-- a field read -/
theorem so_get (F : mF p R s args m c w own cc nL) {i k idx : Nat} {x : Int} {u : mV} (hi : i < 11) (hk : k < mNf i) (hl : (Cond.fieldLink own idx (mC i) (mTf i k).2.1 (mTf i k).2.2.1).before args s = true) (hd : decode cc pc = .ok (.getfield idx, 3))
    (hu : okM w σ → (ct = false → mFX σ) → ∀ q : Nat, x = (q : Int) → q < mz σ 0 → mlay q = 20 + i → mrep w u = mfv w (mft i k) (σ q k) ∧ okV (mz σ 0) u)
    (kk : mGoal p l e R s m args below meth c Q w ct nL n0 s0 (pc + 3) L (u :: S) σ) : mGoal p l e R s m args below meth c Q w ct nL n0 s0 pc L ((20 + i, x) :: S) σ := by
  intro H locs cells slots ls hL okL okS hW hS hA
  obtain ⟨q, e1, hq, hlq⟩ := okR_cell ((okS _ List.mem_cons_self).2.2 (show 3 < 20 + i by omega)) ⟨show 20 ≤ 20 + i by omega, Or.inl (show 20 + i < 4000 by omega)⟩
  obtain ⟨u1, u2⟩ := hu hW.1 hW.2.1 q e1 hq hlq
  have e1 : x = (q : Int) := e1
  subst e1
  have hq9 : q < 900 := by have := hW.1.1.2; omega
  obtain ⟨ty, h1, h2, h3, h4, h5, h6⟩ := mCl_all hi
  show W p l e R s m args below meth c H locs cells slots Q (F0 m pc ls (mrep w (20 + i, (q : Int)) :: S.map (mrep w)))
  rw [mrep_cell w (by omega) hq9]
  have hv : ((List.range (mNf i)).map fun j => mfv w (mft i j) (σ q j))[k]? = some (mrep w u) := by
    rw [List.getElem?_map, List.getElem?_range hk, u1]
    rfl
  refine va_get (Ts := mWS) F.1 F.2.1 F.2.2.2.2.1 h2 F.2.2.2.1 F.2.2.2.2.2.2.1 hW.2.2 q (by rw [mws_get hq, mcell_obj hlq hi]) h1 k hk hl (fun y h => by rw [h5 k hk] at h; exact h) hv hd ?_
  exact kk H locs cells slots ls hL okL (List.forall_mem_cons.mpr ⟨u2, ok_t okS⟩) hW hS hA
/-- after a store of one number -/
theorem so_after {q k : Nat} {v : Int} {H : Heap} {locs : List Loc} {cells slots : Nat} {ls : Array Slot} (hq : q < mz σ 0) (hM : okM w σ) (hX : ct = false → mFX σ) (hv : okF (mz σ 0) (mlay q) k v) (hx : ct = false → (mlay q < 1000 → mfx (mlay q - 20) k = none) ∧ mlay q ≠ 9006) {S' : List mV} {pc2 : Nat}
    (hL : mLr w nL L ls) (okL : ∀ v ∈ L, okV (mz σ 0) v) (okS : ∀ v ∈ S', okV (mz σ 0) v) (hS : va_S (mAr w) s.heap H locs) (hA : mAcc ct R n0 s0 σ cells slots) (hP : va_P (mdd w) vwCl (mws w (mset σ q k v)) H)
    (kk : mGoal p l e R s m args below meth c Q w ct nL n0 s0 pc2 L S' (mset σ q k v)) : W p l e R s m args below meth c H locs cells slots Q (F0 m pc2 ls (S'.map (mrep w))) := by
  have hq9 : q < 900 := by have := hM.1.2; omega
  have hz : mz (mset σ q k v) 0 = mz σ 0 := mz_set hq9
  refine kk H locs cells slots ls hL (by rw [hz]; exact okL) (by rw [hz]; exact okS) ⟨okM_set hM hq hv, fun h => mFX_set (hX h) hq9 (hx h).1 (hx h).2, hP⟩ hS ?_
  unfold mAcc
  rw [mset_ne (by omega), mset_ne (by omega)]
  exact hA
/-- a field written -/
theorem so_put (F : mF p R s args m c w own cc nL) {i k idx : Nat} {x : Int} {u : mV} (hi : i < 11) (hk : k < mNf i) (hl : (Cond.fieldLink own idx (mC i) (mTf i k).2.1 (mTf i k).2.2.1).before args s = true) (hd : decode cc pc = .ok (.putfield idx, 3))
    (hfin : (mTf i k).2.2.2 = false ∨ ((mTf i k).2.2.2 = true ∧ meth.name = "<init>" ∧ mC i = own)) (hty : okV (mz σ 0) u → ∀ ty, parseFieldDescriptor (mTf i k).2.2.1 = some ty → (mft i k ≠ 0 → ∀ a, narrow ty (.ref a) = .ref a ∧ fits ty (.ref a) = true) → narrow ty (mrep w u) = mrep w u ∧ fits ty (mrep w u) = true)
    (hval : okV (mz σ 0) u → mfv w (mft i k) u.2 = mrep w u) (hok : okV (mz σ 0) u → okF (mz σ 0) (20 + i) k u.2) (hfx : ct = false → mfx i k = none) (kk : mGoal p l e R s m args below meth c Q w ct nL n0 s0 (pc + 3) L S (mset σ x.toNat k u.2)) : mGoal p l e R s m args below meth c Q w ct nL n0 s0 pc L (u :: (20 + i, x) :: S) σ := by
  intro H locs cells slots ls hL okL okS hW hS hA
  obtain ⟨q, e1, hq, hlq⟩ := okR_cell ((ok_t okS _ List.mem_cons_self).2.2 (show 3 < 20 + i by omega)) ⟨show 20 ≤ 20 + i by omega, Or.inl (show 20 + i < 4000 by omega)⟩
  have e1 : x = (q : Int) := e1
  subst e1
  have hq9 : q < 900 := by have := hW.1.1.2; omega
  have hu := okS _ List.mem_cons_self
  obtain ⟨ty, h1, h2, h3, h4, h5, h6⟩ := mCl_all hi
  obtain ⟨t1, t2⟩ := hty hu (ty k) (h3 k hk) (fun h => ((h6 k hk).2 h).2)
  show W p l e R s m args below meth c H locs cells slots Q (F0 m pc ls (mrep w u :: mrep w (20 + i, (q : Int)) :: S.map (mrep w)))
  rw [mrep_cell w (by omega) hq9]
  have hfl : k < ((List.range (mNf i)).map fun j => mfv w (mft i j) (σ q j)).length := by rw [List.length_map, List.length_range]; exact hk
  have hset : mcell w (mset σ q k u.2) q = .inr (i, ((List.range (mNf i)).map fun j => mfv w (mft i j) (σ q j)).set k (mrep w u)) := by
    rw [mcell_obj hlq hi]
    congr 2
    apply List.ext_getElem?
    intro j
    by_cases ej : k = j
    · subst ej
      rw [List.getElem?_set_self hfl, List.getElem?_map, List.getElem?_range hk, ← hval hu]
      show some (mfv w (mft i k) (mset σ q k u.2 q k)) = _
      rw [mset_eq]
    · rw [List.getElem?_set_ne ej, List.getElem?_map, List.getElem?_map]
      by_cases hj : j < mNf i
      · rw [List.getElem?_range hj]
        show some (mfv w (mft i j) (mset σ q k u.2 q j)) = some (mfv w (mft i j) (σ q j))
        rw [mset_nj (fun z => ej z.symm)]
      · rw [List.getElem?_eq_none (by rw [List.length_range]; omega)]
        rfl
  have fin : ∀ (H1 : Heap) (locs1 : List Loc), va_P (mdd w) vwCl ((mws w σ).set q (mb w + q, .inr (i, ((List.range (mNf i)).map fun j => mfv w (mft i j) (σ q j)).set k (mrep w u)))) H1 → va_D (mAr w) ((mws w σ).set q (mb w + q, .inr (i, ((List.range (mNf i)).map fun j => mfv w (mft i j) (σ q j)).set k (mrep w u)))) → va_S (mAr w) s.heap H1 locs1 → W p l e R s m args below meth c H1 locs1 cells slots Q (F0 m (pc + 3) ls (S.map (mrep w))) := by
    intro H1 locs1 hP _ hS1
    rw [mws_set hq9 hset] at hP
    exact so_after hq hW.1 hW.2.1 (by rw [hlq]; exact hok hu) (fun h => ⟨fun _ => by rw [hlq, Nat.add_sub_cancel_left]; exact hfx h, by omega⟩) hL okL (ok_t (ok_t okS)) hS1 hA hP kk
  rcases hfin with hf | ⟨hf, hm, ho⟩
  · exact va_put (Ts := mWS) F.1 F.2.1 F.2.2.2.2.1 h2 ty h3 h4 F.2.2.2.1 F.2.2.2.2.2.2.1 hW.2.2 (mws_D w σ) hS q (by rw [mws_get hq, mcell_obj hlq hi]) h1 k hk hl (fun y h => by rw [h5 k hk] at h; exact h) hf (h3 k hk) t1 t2 hfl hd fin
  · exact va_putF (Ts := mWS) F.1 F.2.1 F.2.2.2.2.1 h2 ty h3 h4 F.2.2.2.1 F.2.2.2.2.2.2.1 hW.2.2 (mws_D w σ) hS q (by rw [mws_get hq, mcell_obj hlq hi]) h1 k hk hl (fun y h => by rw [h5 k hk] at h; exact h) hf hm ((h5 k hk).trans ho) (h3 k hk) t1 t2 hfl hd fin
theorem so_60 (F : mF p R s args m c w own cc nL) {t : Nat} {i x : Int} (h1 : 1000 ≤ t) (h2 : t < 2000) (hi : 0 ≤ i ∧ i < mlen σ t) (hd : decode cc pc = .ok (.iaload, 1)) (kk : mGoal p l e R s m args below meth c Q w ct nL n0 s0 (pc + 1) L ((0, σ x.toNat i.toNat) :: S) σ) : mGoal p l e R s m args below meth c Q w ct nL n0 s0 pc L ((0, i) :: (t, x) :: S) σ := by
  intro H locs cells slots ls hL okL okS hW hS hA
  obtain ⟨q, e1, hq, hlq⟩ := okR_cell ((ok_t okS _ List.mem_cons_self).2.2 (show 3 < t by omega)) ⟨by omega, Or.inl (by omega)⟩
  have e1 : x = (q : Int) := e1
  subst e1
  have hq9 : q < 900 := by have := hW.1.1.2; omega
  have hi32 := ok_i okS
  rw [mlen_i (b := 1000) (by omega) h1 (by omega)] at hi
  show W p l e R s m args below meth c H locs cells slots Q (F0 m pc ls (.int (Int32.ofInt i) :: mrep w (t, (q : Int)) :: S.map (mrep w)))
  rw [mrep_cell w (by omega) hq9]
  refine va_iald F.1 F.2.1 F.2.2.2.2.2.2.1 hW.2.2 q 0 (by rw [mws_get hq, mcell_i hlq h1 h2]) rfl (in_row hi32 hi) hd ?_
  rw [toNat_i hi32]
  have hv := (hW.1.2.1 q hq i.toNat).2.1
  rw [hlq] at hv
  have kk := kk H locs cells slots ls hL okL (List.forall_mem_cons.mpr ⟨okV_i (hv h1 (by omega)), ok_t (ok_t okS)⟩) hW hS hA
  exact kk
theorem so_64 (F : mF p R s args m c w own cc nL) {t : Nat} {i x : Int} (h1 : 2000 ≤ t) (h2 : t < 3000) (hi : 0 ≤ i ∧ i < mlen σ t) (hd : decode cc pc = .ok (.baload, 1)) (kk : mGoal p l e R s m args below meth c Q w ct nL n0 s0 (pc + 1) L ((0, σ x.toNat i.toNat) :: S) σ) : mGoal p l e R s m args below meth c Q w ct nL n0 s0 pc L ((0, i) :: (t, x) :: S) σ := by
  intro H locs cells slots ls hL okL okS hW hS hA
  obtain ⟨q, e1, hq, hlq⟩ := okR_cell ((ok_t okS _ List.mem_cons_self).2.2 (show 3 < t by omega)) ⟨by omega, Or.inl (by omega)⟩
  have e1 : x = (q : Int) := e1
  subst e1
  have hq9 : q < 900 := by have := hW.1.1.2; omega
  have hi32 := ok_i okS
  rw [mlen_i (b := 2000) (by omega) h1 (by omega)] at hi
  show W p l e R s m args below meth c H locs cells slots Q (F0 m pc ls (.int (Int32.ofInt i) :: mrep w (t, (q : Int)) :: S.map (mrep w)))
  rw [mrep_cell w (by omega) hq9]
  refine va_zald F.1 F.2.1 F.2.2.2.2.2.2.1 hW.2.2 q 1 (by rw [mws_get hq, mcell_b hlq h1 h2]) rfl (in_row hi32 hi) hd ?_
  rw [toNat_i hi32]
  have hv := (hW.1.2.1 q hq i.toNat).2.1
  rw [hlq] at hv
  have kk := kk H locs cells slots ls hL okL (List.forall_mem_cons.mpr ⟨okV_i (hv (by omega) h2), ok_t (ok_t okS)⟩) hW hS hA
  exact kk
theorem so_62 (F : mF p R s args m c w own cc nL) {t : Nat} {i x : Int} (h1 : 3000 ≤ t) (h2 : t < 4000) (hi : 0 ≤ i ∧ i < mlen σ t) (hd : decode cc pc = .ok (.laload, 1)) (kk : mGoal p l e R s m args below meth c Q w ct nL n0 s0 (pc + 1) L ((1, σ x.toNat i.toNat) :: S) σ) : mGoal p l e R s m args below meth c Q w ct nL n0 s0 pc L ((0, i) :: (t, x) :: S) σ := by
  intro H locs cells slots ls hL okL okS hW hS hA
  obtain ⟨q, e1, hq, hlq⟩ := okR_cell ((ok_t okS _ List.mem_cons_self).2.2 (show 3 < t by omega)) ⟨by omega, Or.inl (by omega)⟩
  have e1 : x = (q : Int) := e1
  subst e1
  have hq9 : q < 900 := by have := hW.1.1.2; omega
  have hi32 := ok_i okS
  rw [mlen_i (b := 3000) (by omega) h1 (by omega)] at hi
  show W p l e R s m args below meth c H locs cells slots Q (F0 m pc ls (.int (Int32.ofInt i) :: mrep w (t, (q : Int)) :: S.map (mrep w)))
  rw [mrep_cell w (by omega) hq9]
  refine va_lald F.1 F.2.1 F.2.2.2.2.2.2.1 hW.2.2 q 2 (by rw [mws_get hq, mcell_l hlq h1 h2]) rfl (in_row hi32 hi) hd ?_
  rw [toNat_i hi32]
  have hv := (hW.1.2.1 q hq i.toNat).2.2.1
  rw [hlq] at hv
  have kk := kk H locs cells slots ls hL okL (List.forall_mem_cons.mpr ⟨okV_l (hv h1 (by omega)), ok_t (ok_t okS)⟩) hW hS hA
  exact kk
theorem so_61 (F : mF p R s args m c w own cc nL) {t : Nat} {i x v : Int} (h1 : 1000 ≤ t) (h2 : t < 2000) (hi : 0 ≤ i ∧ i < mlen σ t) (hd : decode cc pc = .ok (.iastore, 1)) (kk : mGoal p l e R s m args below meth c Q w ct nL n0 s0 (pc + 1) L S (mset σ x.toNat i.toNat v)) : mGoal p l e R s m args below meth c Q w ct nL n0 s0 pc L ((0, v) :: (0, i) :: (t, x) :: S) σ := by
  intro H locs cells slots ls hL okL okS hW hS hA
  obtain ⟨q, e1, hq, hlq⟩ := okR_cell ((ok_t (ok_t okS) _ List.mem_cons_self).2.2 (show 3 < t by omega)) ⟨by omega, Or.inl (by omega)⟩
  have e1 : x = (q : Int) := e1
  subst e1
  have hq9 : q < 900 := by have := hW.1.1.2; omega
  have hi32 := ok_i (ok_t okS)
  have hv := ok_i okS
  rw [mlen_i (b := 1000) (by omega) h1 (by omega)] at hi
  show W p l e R s m args below meth c H locs cells slots Q (F0 m pc ls (.int (Int32.ofInt v) :: .int (Int32.ofInt i) :: mrep w (t, (q : Int)) :: S.map (mrep w)))
  rw [mrep_cell w (by omega) hq9]
  refine va_iast F.1 F.2.1 F.2.2.2.2.2.2.1 hW.2.2 (mws_D w σ) hS q 0 (by rw [mws_get hq, mcell_i hlq h1 h2]) rfl (in_row hi32 hi) hd fun H1 locs1 hP _ hS1 => ?_
  rw [toNat_i hi32] at hP
  have hset : mcell w (mset σ q i.toNat v) q = .inl (mty w 0, t - 1000, .inl (upd (fun j => Int32.ofInt (σ q j)) i.toNat (Int32.ofInt v))) := by
    rw [mcell_i hlq h1 h2]
    congr 4
    funext j
    show _ = (if j = i.toNat then _ else _)
    by_cases ej : j = i.toNat
    · rw [if_pos ej, ej, mset_eq]
    · rw [if_neg ej, mset_nj ej]
  rw [mws_set hq9 hset] at hP
  refine so_after hq hW.1 hW.2.1 ?_ (fun _ => ⟨fun h => by omega, by omega⟩) hL okL (ok_t (ok_t (ok_t okS))) hS1 hA hP kk
  rw [hlq]
  exact ⟨fun h => by omega, fun _ _ => hv, fun h => by omega, fun h => by omega⟩
theorem nar_b {v : Int} (h : 0 ≤ v ∧ v < 2) : vp_nar .boolean (Int32.ofInt v) = Int32.ofInt v := by
  rcases (by omega : v = 0 ∨ v = 1) with rfl | rfl <;> rfl
theorem so_65 (F : mF p R s args m c w own cc nL) {t : Nat} {i x v : Int} (h1 : 2000 ≤ t) (h2 : t < 3000) (hi : 0 ≤ i ∧ i < mlen σ t) (hb : 0 ≤ v ∧ v < 2) (hd : decode cc pc = .ok (.bastore, 1)) (kk : mGoal p l e R s m args below meth c Q w ct nL n0 s0 (pc + 1) L S (mset σ x.toNat i.toNat v)) : mGoal p l e R s m args below meth c Q w ct nL n0 s0 pc L ((0, v) :: (0, i) :: (t, x) :: S) σ := by
  intro H locs cells slots ls hL okL okS hW hS hA
  obtain ⟨q, e1, hq, hlq⟩ := okR_cell ((ok_t (ok_t okS) _ List.mem_cons_self).2.2 (show 3 < t by omega)) ⟨by omega, Or.inl (by omega)⟩
  have e1 : x = (q : Int) := e1
  subst e1
  have hq9 : q < 900 := by have := hW.1.1.2; omega
  have hi32 := ok_i (ok_t okS)
  have hv := ok_i okS
  rw [mlen_i (b := 2000) (by omega) h1 (by omega)] at hi
  show W p l e R s m args below meth c H locs cells slots Q (F0 m pc ls (.int (Int32.ofInt v) :: .int (Int32.ofInt i) :: mrep w (t, (q : Int)) :: S.map (mrep w)))
  rw [mrep_cell w (by omega) hq9]
  refine va_zast F.1 F.2.1 F.2.2.2.2.2.2.1 hW.2.2 (mws_D w σ) hS q 1 (by rw [mws_get hq, mcell_b hlq h1 h2]) rfl (in_row hi32 hi) hd fun H1 locs1 hP _ hS1 => ?_
  rw [toNat_i hi32, nar_b hb] at hP
  have hset : mcell w (mset σ q i.toNat v) q = .inl (mty w 1, t - 2000, .inl (upd (fun j => Int32.ofInt (σ q j)) i.toNat (Int32.ofInt v))) := by
    rw [mcell_b hlq h1 h2]
    congr 4
    funext j
    show _ = (if j = i.toNat then _ else _)
    by_cases ej : j = i.toNat
    · rw [if_pos ej, ej, mset_eq]
    · rw [if_neg ej, mset_nj ej]
  rw [mws_set hq9 hset] at hP
  refine so_after hq hW.1 hW.2.1 ?_ (fun _ => ⟨fun h => by omega, by omega⟩) hL okL (ok_t (ok_t (ok_t okS))) hS1 hA hP kk
  rw [hlq]
  exact ⟨fun h => by omega, fun _ _ => hv, fun h => by omega, fun h => by omega⟩
theorem so_63 (F : mF p R s args m c w own cc nL) {t : Nat} {i x v : Int} (h1 : 3000 ≤ t) (h2 : t < 4000) (hi : 0 ≤ i ∧ i < mlen σ t) (hd : decode cc pc = .ok (.lastore, 1)) (kk : mGoal p l e R s m args below meth c Q w ct nL n0 s0 (pc + 1) L S (mset σ x.toNat i.toNat v)) : mGoal p l e R s m args below meth c Q w ct nL n0 s0 pc L ((1, v) :: (0, i) :: (t, x) :: S) σ := by
  intro H locs cells slots ls hL okL okS hW hS hA
  obtain ⟨q, e1, hq, hlq⟩ := okR_cell ((ok_t (ok_t okS) _ List.mem_cons_self).2.2 (show 3 < t by omega)) ⟨by omega, Or.inl (by omega)⟩
  have e1 : x = (q : Int) := e1
  subst e1
  have hq9 : q < 900 := by have := hW.1.1.2; omega
  have hi32 := ok_i (ok_t okS)
  have hv := ok_l okS
  rw [mlen_i (b := 3000) (by omega) h1 (by omega)] at hi
  show W p l e R s m args below meth c H locs cells slots Q (F0 m pc ls (.long (Int64.ofInt v) :: .int (Int32.ofInt i) :: mrep w (t, (q : Int)) :: S.map (mrep w)))
  rw [mrep_cell w (by omega) hq9]
  refine va_last F.1 F.2.1 F.2.2.2.2.2.2.1 hW.2.2 (mws_D w σ) hS q 2 (by rw [mws_get hq, mcell_l hlq h1 h2]) rfl (in_row hi32 hi) hd fun H1 locs1 hP _ hS1 => ?_
  rw [toNat_i hi32] at hP
  have hset : mcell w (mset σ q i.toNat v) q = .inl (mty w 2, t - 3000, .inr (.inl (vp_updL (fun j => Int64.ofInt (σ q j)) i.toNat (Int64.ofInt v)))) := by
    rw [mcell_l hlq h1 h2]
    congr 5
    funext j
    show _ = (if j = i.toNat then _ else _)
    by_cases ej : j = i.toNat
    · rw [if_pos ej, ej, mset_eq]
    · rw [if_neg ej, mset_nj ej]
  rw [mws_set hq9 hset] at hP
  refine so_after hq hW.1 hW.2.1 ?_ (fun _ => ⟨fun h => by omega, by omega⟩) hL okL (ok_t (ok_t (ok_t okS))) hS1 hA hP kk
  rw [hlq]
  exact ⟨fun h => by omega, fun h h3 => by omega, fun _ _ => hv, fun h => by omega⟩
/-- the rows that nobody writes -/
theorem so_ext (F : mF p R s args m c w own cc nL) {k t : Nat} {i : Int} (hk : k < 4) (ht : 3 < t) (hi : 0 ≤ i ∧ i < (mel w k : Int)) (hd : decode cc pc = .ok (.iaload, 1)) (kk : mGoal p l e R s m args below meth c Q w ct nL n0 s0 (pc + 1) L ((0, σ (900 + k) i.toNat) :: S) σ) : mGoal p l e R s m args below meth c Q w ct nL n0 s0 pc L ((0, i) :: (t, ((900 + k : Nat) : Int)) :: S) σ := by
  intro H locs cells slots ls hL okL okS hW hS hA
  obtain ⟨hX, hb, hin⟩ := F.2.2.2.2.2.2.2.1.1 k hk
  have hms := F.2.2.2.2.2.2.2.2.1
  have hi32 := ok_i okS
  show W p l e R s m args below meth c H locs cells slots Q (F0 m pc ls (.int (Int32.ofInt i) :: mrep w (t, ((900 + k : Nat) : Int)) :: S.map (mrep w)))
  have e2 : mrep w (t, ((900 + k : Nat) : Int)) = .ref (mea w k) := by
    rw [mrep_r w ht, Int.toNat_natCast]
    unfold madr
    rw [if_neg (by omega), Nat.add_sub_cancel_left]
  rw [e2]
  refine va_ti F.1 F.2.1 hX hS (in_row hi32 hi) (v := .int (Int32.ofInt (mex w k i.toNat))) (by rw [toNat_i hi32]) hd ?_
  have e3 := hW.1.2.2.1 k hk i.toNat
  have kk := kk H locs cells slots ls hL okL (List.forall_mem_cons.mpr ⟨okV_i (by rw [e3]; exact hin _), ok_t (ok_t okS)⟩) hW hS hA
  rw [e3] at kk
  exact kk
theorem so_58 (F : mF p R s args m c w own cc nL) {t k : Nat} (hk : (t = 7008 ∧ k = 0) ∨ (t = 7108 ∧ k = 1) ∨ (t = 7232 ∧ k = 2)) (hrow : ∀ (H : Heap) (locs : List Loc) (cells slots : Nat) (ls : Array Slot) (rest : List Value), va_S (mAr w) s.heap H locs → W p l e R s m args below meth c H locs cells slots Q (F0 m (pc + 3) ls (.ref (mea w k) :: rest)) → W p l e R s m args below meth c H locs cells slots Q (F0 m pc ls rest))
    (kk : mGoal p l e R s m args below meth c Q w ct nL n0 s0 (pc + 3) L ((t, ((900 + k : Nat) : Int)) :: S) σ) : mGoal p l e R s m args below meth c Q w ct nL n0 s0 pc L S σ := by
  intro H locs cells slots ls hL okL okS hW hS hA
  refine hrow H locs cells slots ls _ hS ?_
  have kk := kk H locs cells slots ls hL okL (List.forall_mem_cons.mpr ⟨okV_r (by omega) ⟨900 + k, rfl, by omega⟩, okS⟩) hW hS hA
  have e2 : mrep w (t, ((900 + k : Nat) : Int)) = .ref (mea w k) := by
    rw [mrep_r w (by omega), Int.toNat_natCast]
    unfold madr
    rw [if_neg (by omega), Nat.add_sub_cancel_left]
  rw [← e2]
  exact kk
theorem so_66 (F : mF p R s args m c w own cc nL) (hct : ct = false) {i x : Int} (hi : 0 ≤ i ∧ i < 6) (hd : decode cc pc = .ok (.aaload, 1)) (kk : mGoal p l e R s m args below meth c Q w ct nL n0 s0 (pc + 1) L ((23, x + 1 + 2 * i) :: S) σ) : mGoal p l e R s m args below meth c Q w ct nL n0 s0 pc L ((0, i) :: (9006, x) :: S) σ := by
  intro H locs cells slots ls hL okL okS hW hS hA
  obtain ⟨q, e1, hq, hlq⟩ := okR_cell ((ok_t okS _ List.mem_cons_self).2.2 (show 3 < 9006 by omega)) ⟨show 20 ≤ 9006 by omega, Or.inr (show 9000 ≤ 9006 by omega)⟩
  have e1 : x = (q : Int) := e1
  subst e1
  have hq9 : q < 900 := by have := hW.1.1.2; omega
  have hi32 := ok_i okS
  have hlq : mlay q = 9006 := hlq
  show W p l e R s m args below meth c H locs cells slots Q (F0 m pc ls (.int (Int32.ofInt i) :: mrep w (9006, (q : Int)) :: S.map (mrep w)))
  rw [mrep_cell w (by omega) hq9]
  refine va_aldq F.1 F.2.1 F.2.2.2.2.2.2.1 hW.2.2 q 3 (by rw [mws_get hq, mcell_s hlq]) rfl (in_row hi32 hi) hd ?_
  rw [toNat_i hi32]
  have hx := (hW.2.1 hct).2.1 q hq hlq i.toNat (by omega)
  have hv := (hW.1.2.1 q hq i.toNat).2.2.2 (by omega)
  have e3 : σ q i.toNat = (q : Int) + 1 + 2 * i := by omega
  rw [e3] at hv ⊢
  have hv : okR (mz σ 0) 23 ((q : Int) + 1 + 2 * i) := by
    rcases hv with h | h
    · omega
    · exact h
  rw [if_neg (by omega)]
  have kk := kk H locs cells slots ls hL okL (List.forall_mem_cons.mpr ⟨okV_r (by omega) hv, ok_t (ok_t okS)⟩) hW hS hA
  exact kk
theorem so_68 (F : mF p R s args m c w own cc nL) {x : Int} (hd : decode cc pc = .ok (.arraylength, 1)) (kk : mGoal p l e R s m args below meth c Q w ct nL n0 s0 (pc + 1) L ((0, σ 904 0) :: S) σ) : mGoal p l e R s m args below meth c Q w ct nL n0 s0 pc L ((4, x) :: S) σ := by
  intro H locs cells slots ls hL okL okS hW hS hA
  obtain ⟨q, e1, hq⟩ := (okS _ List.mem_cons_self).2.2 (show 3 < 4 by omega)
  have e1 : x = (q : Int) := e1
  have hq : q = 903 := by
    rcases hq with ⟨-, -, h, -⟩ | ⟨-, h⟩ | ⟨h, -⟩ | ⟨h, -⟩ | ⟨h, -⟩
    · have h : 20 ≤ 4 := h
      omega
    · exact h
    · have h : 4 = 7008 := h
      omega
    · have h : 4 = 7108 := h
      omega
    · have h : 4 = 7232 := h
      omega
  subst hq
  subst e1
  obtain ⟨hX, hb, hin⟩ := F.2.2.2.2.2.2.2.1.1 3 (by omega)
  have hms := F.2.2.2.2.2.2.2.2.1
  show W p l e R s m args below meth c H locs cells slots Q (F0 m pc ls (.ref (mea w 3) :: S.map (mrep w)))
  refine va_tlen F.1 F.2.1 hX hS (v := Int32.ofNat (mel w 3)) rfl hd ?_
  have h4 := hW.1.2.2.2
  have hl := F.2.2.2.2.2.2.2.1.2.1.2.2.2
  have kk := kk H locs cells slots ls hL okL (List.forall_mem_cons.mpr ⟨okV_i (by rw [h4]; unfold in32; omega), ok_t okS⟩) hW hS hA
  rw [h4] at kk
  exact kk
end
