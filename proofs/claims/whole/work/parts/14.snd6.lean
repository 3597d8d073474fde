/-! SOUNDNESS 6: copies; groups D and E -/
theorem mws_gen {w : mW} {σ σ' : mM} {q : Nat} {x : va_E} (hq : q < 900) (ho : ∀ a, a ≠ q → ∀ j, σ' a j = σ a j) (he : mcell w σ' q = x) : (mws w σ).set q (mb w + q, x) = mws w σ' := by
  subst he
  have hz : mz σ' 0 = mz σ 0 := by unfold mz; rw [ho 905 (by omega)]
  apply List.ext_getElem?
  intro i
  by_cases hi : i < mz σ 0
  · rw [mws_get (σ := σ') (by rw [hz]; exact hi)]
    by_cases e : q = i
    · subst e
      exact List.getElem?_set_self (by rw [mws_len]; exact hi)
    · rw [List.getElem?_set_ne e, mws_get hi, mcell_congr w (σ := σ) (σ' := σ') (fun j => (ho i (fun z => e z.symm) j).symm)]
  · rw [List.getElem?_eq_none (by rw [List.length_set, mws_len]; omega), List.getElem?_eq_none (by rw [mws_len, hz]; omega)]
section
variable {p : Program} {l : Launch} {e : Env} {R : Room} {s : State} {m : MethodId} {args : Array Value} {below : List Frame} {meth : Method} {c : Code} {Q : State → Prop} {w : mW} {ct : Bool} {nL : Nat} {n0 s0 : Int} {own : String} {cc : ByteArray} {pc : Nat} {L S : List mV} {σ : mM} {a0 : Int × mM} {g : mG}

theorem so_afterG {σ' : mM} {q : Nat} {H : Heap} {locs : List Loc} {cells slots : Nat} {ls : Array Slot} (hq : q < mz σ 0) (hM : okM w σ) (hX : ct = false → mFX σ) (ho : ∀ a, a ≠ q → ∀ j, σ' a j = σ a j) (hv : ∀ k, okF (mz σ 0) (mlay q) k (σ' q k)) (hx : 1000 ≤ mlay q ∧ mlay q ≠ 9006) {S' : List mV} {pc2 : Nat}
    (hL : mLr w nL L ls) (okL : ∀ v ∈ L, okV (mz σ 0) v) (okS : ∀ v ∈ S', okV (mz σ 0) v) (hS : va_S (mAr w) s.heap H locs) (hA : mAcc ct R n0 s0 σ cells slots) (hP : va_P (mdd w) vwCl (mws w σ') H)
    (kk : mGoal p l e R s m args below meth c Q w ct nL n0 s0 pc2 L S' σ') : W p l e R s m args below meth c H locs cells slots Q (F0 m pc2 ls (S'.map (mrep w))) := by
  have hq9 : q < 900 := by have := hM.1.2; omega
  have hz : mz σ' 0 = mz σ 0 := by unfold mz; rw [ho 905 (by omega)]
  have h905 := ho 905 (by omega)
  refine kk H locs cells slots ls hL (by rw [hz]; exact okL) (by rw [hz]; exact okS) ⟨⟨by rw [h905, hz]; exact hM.1, fun a ha j => ?_, fun i hi j => by rw [ho _ (by omega)]; exact hM.2.2.1 i hi j, by rw [ho _ (by omega)]; exact hM.2.2.2⟩, fun h => ⟨fun a ha h1 k r hr => ?_, fun a ha h1 j hj => ?_, by rw [hz]; exact (hX h).2.2⟩, hP⟩ hS ?_
  · rw [hz] at ha ⊢
    by_cases e : a = q
    · subst e; exact hv j
    · rw [ho a e]; exact hM.2.1 a ha j
  · rw [hz] at ha
    rw [ho a (fun e => by subst e; omega)]
    exact (hX h).1 a ha h1 k r hr
  · rw [hz] at ha
    rw [ho a (fun e => by subst e; exact hx.2 h1)]
    exact (hX h).2.1 a ha h1 j hj
  · unfold mAcc
    rw [h905, h905]
    exact hA
theorem mcopy_o {a1 a2 sp dp k a : Nat} (h : a ≠ a2) (j : Nat) : mcopy σ a1 a2 sp dp k a j = σ a j := by
  unfold mcopy
  rw [if_neg (fun z => h z.1)]
theorem so_83 (F : mF p R s args m c w own cc nL) {idx t1 t2 : Nat} {k dp sp x1 x2 : Int} (g1 : 1000 ≤ t1) (g2 : t1 < 2000) (g3 : 1000 ≤ t2) (g4 : t2 < 2000) (hS8 : (S.map mcat).sum ≤ 8) (hb : 0 ≤ sp ∧ 0 ≤ dp ∧ 0 ≤ k ∧ sp + k ≤ mlen σ t1 ∧ dp + k ≤ mlen σ t2) (hl : (Cond.methodLink own idx arraycopyName).before args s = true) (hd : decode cc pc = .ok (.invokestatic idx, 3))
    (kk : mGoal p l e R s m args below meth c Q w ct nL n0 s0 (pc + 3) L S (mcopy σ x1.toNat x2.toNat sp.toNat dp.toNat k.toNat)) : mGoal p l e R s m args below meth c Q w ct nL n0 s0 pc L ((0, k) :: (0, dp) :: (t2, x2) :: (0, sp) :: (t1, x1) :: S) σ := by
  intro H locs cells slots ls hL okL okS hW hS hA
  obtain ⟨q1, e1, hq1, hl1⟩ := okR_cell ((ok_t (ok_t (ok_t (ok_t okS))) _ List.mem_cons_self).2.2 (show 3 < t1 by omega)) ⟨by omega, Or.inl (by omega)⟩
  obtain ⟨q2, e2, hq2, hl2⟩ := okR_cell ((ok_t (ok_t okS) _ List.mem_cons_self).2.2 (show 3 < t2 by omega)) ⟨by omega, Or.inl (by omega)⟩
  have e1 : x1 = (q1 : Int) := e1
  have e2 : x2 = (q2 : Int) := e2
  subst e1
  subst e2
  have hl1 : mlay q1 = t1 := hl1
  have hl2 : mlay q2 = t2 := hl2
  have hq19 : q1 < 900 := by have := hW.1.1.2; omega
  have hq29 : q2 < 900 := by have := hW.1.1.2; omega
  have ik := ok_i okS
  have idp := ok_i (ok_t okS)
  have isp := ok_i (ok_t (ok_t (ok_t okS)))
  rw [mlen_i (b := 1000) (by omega) g1 (by omega), mlen_i (b := 1000) (by omega) g3 (by omega)] at hb
  show W p l e R s m args below meth c H locs cells slots Q (F0 m pc ls (.int (Int32.ofInt k) :: .int (Int32.ofInt dp) :: mrep w (t2, (q2 : Int)) :: .int (Int32.ofInt sp) :: mrep w (t1, (q1 : Int)) :: S.map (mrep w)))
  rw [mrep_cell w (by omega) hq29, mrep_cell w (by omega) hq19]
  have nn : ∀ {z : Int}, in32 z → 0 ≤ z → ¬ Int32.ofInt z < 0 := fun hz h0 => by rw [Int32.lt_iff_toInt_lt, i32_t hz]; exact Int.not_lt.mpr h0
  have hrl := F.2.2.2.2.2.2.2.2.2.2
  refine va_copyi F.1 F.2.1 (by rw [F.2.2.1, hL.2.1]) F.2.2.2.1 hl (F.2.2.2.2.1 _ mcp_n) (F.2.2.2.2.1 _ mcp_s) (F.2.2.2.2.1 _ mcp_y) F.2.2.2.2.2.2.1 hW.2.2 (mws_D w σ) hS q1 q2 0 0 (by rw [mws_get hq1, mcell_i hl1 g1 g2]) (by rw [mws_get hq2, mcell_i hl2 g3 g4]) rfl rfl rfl (nn isp hb.1) (nn idp hb.2.1) (nn ik hb.2.2.1) ?_ ?_ (fun i _ => rfl) F.2.2.2.2.2.2.2.2.2.1 ?_ hd fun H1 locs1 hP _ hS1 => ?_
  · rw [toNat_i isp, toNat_i ik]; omega
  · rw [toNat_i idp, toNat_i ik]; omega
  · rw [cat_sum]
    have : nativeFrameWords "java/lang/System" "arraycopy" 5 + 11 ≤ 52 := by decide
    omega
  · rw [toNat_i isp, toNat_i ik, toNat_i idp] at hP
    have ho : ∀ a, a ≠ q2 → ∀ j, mcopy σ q1 q2 sp.toNat dp.toNat k.toNat a j = σ a j := fun a h j => mcopy_o h j
    have hset : mcell w (mcopy σ q1 q2 sp.toNat dp.toNat k.toNat) q2 = .inl (mty w 0, t2 - 1000, .inl (va_cpy (fun j => Int32.ofInt (σ q1 j)) (fun j => Int32.ofInt (σ q2 j)) sp.toNat dp.toNat k.toNat)) := by
      rw [mcell_i hl2 g3 g4]
      congr 4
      funext j
      unfold mcopy va_cpy
      by_cases h : dp.toNat ≤ j ∧ j < dp.toNat + k.toNat
      · rw [if_pos ⟨rfl, h⟩, if_pos h]
      · rw [if_neg (fun z => h z.2), if_neg h]
    rw [mws_gen hq29 ho hset] at hP
    refine so_afterG hq2 hW.1 hW.2.1 ho (fun j => ?_) (by omega) hL okL (ok_t (ok_t (ok_t (ok_t (ok_t okS))))) hS1 hA hP kk
    rw [hl2]
    have in1 := fun j => (hW.1.2.1 q1 hq1 j).2.1
    have in2 := fun j => (hW.1.2.1 q2 hq2 j).2.1
    rw [hl1] at in1
    rw [hl2] at in2
    unfold mcopy
    by_cases h : dp.toNat ≤ j ∧ j < dp.toNat + k.toNat
    · rw [if_pos ⟨rfl, h⟩]
      exact ⟨fun h => by omega, fun _ _ => in1 _ (by omega) (by omega), fun h => by omega, fun h => by omega⟩
    · rw [if_neg (fun z => h z.2)]
      exact ⟨fun h => by omega, fun _ _ => in2 _ (by omega) (by omega), fun h => by omega, fun h => by omega⟩
theorem so_84 (F : mF p R s args m c w own cc nL) {idx t1 t2 : Nat} {k dp sp x1 x2 : Int} (g1 : 3000 ≤ t1) (g2 : t1 < 4000) (g3 : 3000 ≤ t2) (g4 : t2 < 4000) (hS8 : (S.map mcat).sum ≤ 8) (hb : 0 ≤ sp ∧ 0 ≤ dp ∧ 0 ≤ k ∧ sp + k ≤ mlen σ t1 ∧ dp + k ≤ mlen σ t2) (hl : (Cond.methodLink own idx arraycopyName).before args s = true) (hd : decode cc pc = .ok (.invokestatic idx, 3))
    (kk : mGoal p l e R s m args below meth c Q w ct nL n0 s0 (pc + 3) L S (mcopy σ x1.toNat x2.toNat sp.toNat dp.toNat k.toNat)) : mGoal p l e R s m args below meth c Q w ct nL n0 s0 pc L ((0, k) :: (0, dp) :: (t2, x2) :: (0, sp) :: (t1, x1) :: S) σ := by
  intro H locs cells slots ls hL okL okS hW hS hA
  obtain ⟨q1, e1, hq1, hl1⟩ := okR_cell ((ok_t (ok_t (ok_t (ok_t okS))) _ List.mem_cons_self).2.2 (show 3 < t1 by omega)) ⟨by omega, Or.inl (by omega)⟩
  obtain ⟨q2, e2, hq2, hl2⟩ := okR_cell ((ok_t (ok_t okS) _ List.mem_cons_self).2.2 (show 3 < t2 by omega)) ⟨by omega, Or.inl (by omega)⟩
  have e1 : x1 = (q1 : Int) := e1
  have e2 : x2 = (q2 : Int) := e2
  subst e1
  subst e2
  have hl1 : mlay q1 = t1 := hl1
  have hl2 : mlay q2 = t2 := hl2
  have hq19 : q1 < 900 := by have := hW.1.1.2; omega
  have hq29 : q2 < 900 := by have := hW.1.1.2; omega
  have ik := ok_i okS
  have idp := ok_i (ok_t okS)
  have isp := ok_i (ok_t (ok_t (ok_t okS)))
  rw [mlen_i (b := 3000) (by omega) g1 (by omega), mlen_i (b := 3000) (by omega) g3 (by omega)] at hb
  show W p l e R s m args below meth c H locs cells slots Q (F0 m pc ls (.int (Int32.ofInt k) :: .int (Int32.ofInt dp) :: mrep w (t2, (q2 : Int)) :: .int (Int32.ofInt sp) :: mrep w (t1, (q1 : Int)) :: S.map (mrep w)))
  rw [mrep_cell w (by omega) hq29, mrep_cell w (by omega) hq19]
  have nn : ∀ {z : Int}, in32 z → 0 ≤ z → ¬ Int32.ofInt z < 0 := fun hz h0 => by rw [Int32.lt_iff_toInt_lt, i32_t hz]; exact Int.not_lt.mpr h0
  have hrl := F.2.2.2.2.2.2.2.2.2.2
  refine va_copyl F.1 F.2.1 (by rw [F.2.2.1, hL.2.1]) F.2.2.2.1 hl (F.2.2.2.2.1 _ mcp_n) (F.2.2.2.2.1 _ mcp_s) (F.2.2.2.2.1 _ mcp_y) F.2.2.2.2.2.2.1 hW.2.2 (mws_D w σ) hS q1 q2 2 2 (by rw [mws_get hq1, mcell_l hl1 g1 g2]) (by rw [mws_get hq2, mcell_l hl2 g3 g4]) rfl rfl rfl (nn isp hb.1) (nn idp hb.2.1) (nn ik hb.2.2.1) ?_ ?_ (fun i _ => rfl) F.2.2.2.2.2.2.2.2.2.1 ?_ hd fun H1 locs1 hP _ hS1 => ?_
  · rw [toNat_i isp, toNat_i ik]; omega
  · rw [toNat_i idp, toNat_i ik]; omega
  · rw [cat_sum]
    have : nativeFrameWords "java/lang/System" "arraycopy" 5 + 11 ≤ 52 := by decide
    omega
  · rw [toNat_i isp, toNat_i ik, toNat_i idp] at hP
    have ho : ∀ a, a ≠ q2 → ∀ j, mcopy σ q1 q2 sp.toNat dp.toNat k.toNat a j = σ a j := fun a h j => mcopy_o h j
    have hset : mcell w (mcopy σ q1 q2 sp.toNat dp.toNat k.toNat) q2 = .inl (mty w 2, t2 - 3000, .inr (.inl (va_cpy (fun j => Int64.ofInt (σ q1 j)) (fun j => Int64.ofInt (σ q2 j)) sp.toNat dp.toNat k.toNat))) := by
      rw [mcell_l hl2 g3 g4]
      congr 5
      funext j
      unfold mcopy va_cpy
      by_cases h : dp.toNat ≤ j ∧ j < dp.toNat + k.toNat
      · rw [if_pos ⟨rfl, h⟩, if_pos h]
      · rw [if_neg (fun z => h z.2), if_neg h]
    rw [mws_gen hq29 ho hset] at hP
    refine so_afterG hq2 hW.1 hW.2.1 ho (fun j => ?_) (by omega) hL okL (ok_t (ok_t (ok_t (ok_t (ok_t okS))))) hS1 hA hP kk
    rw [hl2]
    have in1 := fun j => (hW.1.2.1 q1 hq1 j).2.2.1
    have in2 := fun j => (hW.1.2.1 q2 hq2 j).2.2.1
    rw [hl1] at in1
    rw [hl2] at in2
    unfold mcopy
    by_cases h : dp.toNat ≤ j ∧ j < dp.toNat + k.toNat
    · rw [if_pos ⟨rfl, h⟩]
      exact ⟨fun h => by omega, fun h h2 => by omega, fun _ _ => in1 _ (by omega) (by omega), fun h => by omega⟩
    · rw [if_neg (fun z => h z.2)]
      exact ⟨fun h => by omega, fun h h2 => by omega, fun _ _ => in2 _ (by omega) (by omega), fun h => by omega⟩
end
def mInsD (op : Nat) (ps : List Nat) : Instr × Nat :=
  bif Nat.beq op 51 || Nat.beq op 52 || Nat.beq op 53 then (.getfield (mp ps 3), 3) else bif Nat.beq op 54 || Nat.beq op 55 || Nat.beq op 56 || Nat.beq op 57 then (.putfield (mp ps 3), 3)
  else bif Nat.beq op 58 || Nat.beq op 59 then (.getstatic (mp ps 2), 3) else bif Nat.beq op 60 then (.iaload, 1) else bif Nat.beq op 61 then (.iastore, 1) else bif Nat.beq op 62 then (.laload, 1)
  else bif Nat.beq op 63 then (.lastore, 1) else bif Nat.beq op 64 then (.baload, 1) else bif Nat.beq op 65 then (.bastore, 1) else bif Nat.beq op 66 then (.aaload, 1) else (.arraylength, 1)
def mLkF (own : String) (ps : List Nat) : Bool := Nat.blt (mp ps 0) 11 && Nat.blt (mp ps 1) (mNf (mp ps 0)) && decide (mWd1 (mp ps 4) = some (.fieldLink own (mp ps 3) (mC (mp ps 0)) (mTf (mp ps 0) (mp ps 1)).2.1 (mTf (mp ps 0) (mp ps 1)).2.2.1))
def mStat (k : Nat) : String × String := bif Nat.beq k 900 then (RX9, "MOST") else bif Nat.beq k 901 then (RX5, "ABOVE") else (RX5, "BODIES")
def mLkS (ps : List Nat) : Bool := (Nat.beq (mp ps 0) 7008 && Nat.beq (mp ps 1) 900) || (Nat.beq (mp ps 0) 7108 && Nat.beq (mp ps 1) 901) || (Nat.beq (mp ps 0) 7232 && Nat.beq (mp ps 1) 902)
def mLkD (own : String) (ct ini : Bool) (op : Nat) (v : Int) (ps : List Nat) : Bool :=
  bif Nat.beq op 51 then mLkF own ps && Nat.beq (mft (mp ps 0) (mp ps 1)) 0
  else bif Nat.beq op 52 then mLkF own ps && (Nat.beq (mft (mp ps 0) (mp ps 1)) (mp ps 2) && Nat.blt 3 (mp ps 2)) && (!ct && decide (mfx (mp ps 0) (mp ps 1) = some v))
  else bif Nat.beq op 53 then mLkF own ps && (Nat.beq (mft (mp ps 0) (mp ps 1)) (mp ps 2) && Nat.blt 3 (mp ps 2))
  else bif Nat.beq op 54 then mLkF own ps && (Nat.beq (mft (mp ps 0) (mp ps 1)) 0 && decide ((mTf (mp ps 0) (mp ps 1)).2.2.1 = "I")) && (!(mTf (mp ps 0) (mp ps 1)).2.2.2 && decide (mfx (mp ps 0) (mp ps 1) = none))
  else bif Nat.beq op 55 then mLkF own ps && (Nat.beq (mft (mp ps 0) (mp ps 1)) (mp ps 2) && Nat.blt 3 (mp ps 2)) && (!(mTf (mp ps 0) (mp ps 1)).2.2.2 && (ct || decide (mfx (mp ps 0) (mp ps 1) = none)))
  else bif Nat.beq op 56 then mLkF own ps && (Nat.beq (mft (mp ps 0) (mp ps 1)) (mp ps 2) && Nat.blt 3 (mp ps 2)) && ((mTf (mp ps 0) (mp ps 1)).2.2.2 && ct && ini && decide (mC (mp ps 0) = own))
  else bif Nat.beq op 57 then mLkF own ps && (Nat.beq (mft (mp ps 0) (mp ps 1)) 0 && decide ((mTf (mp ps 0) (mp ps 1)).2.2.1 = "Z")) && (!(mTf (mp ps 0) (mp ps 1)).2.2.2 && decide (mfx (mp ps 0) (mp ps 1) = none))
  else bif Nat.beq op 58 then mLkS ps && decide (mWd1 (mp ps 3) = some (.fieldLink own (mp ps 2) (mStat (mp ps 1)).1 (mStat (mp ps 1)).2 "[I"))
  else bif Nat.beq op 59 then mLkS ps && decide (mWd1 (mp ps 3) = some (.fieldLinkNest own (mp ps 2) (mStat (mp ps 1)).1 (mStat (mp ps 1)).2 "[I" RX9))
  else bif Nat.beq op 66 then !ct else Nat.beq op 60 || Nat.beq op 61 || Nat.beq op 62 || Nat.beq op 63 || Nat.beq op 64 || Nat.beq op 65 || Nat.beq op 68
theorem mlay_q (k : Nat) : mlay k < 4000 ∨ mlay k = 9006 := by
  by_cases h : k < 95
  · have : ∀ k, k < 95 → (mlay k < 4000 ∨ mlay k = 9006) := by decide +kernel
    exact this k h
  · have : mlay k = 0 := by
      by_cases e : mlay k = 0
      · exact e
      · exact absurd (mlay_lt e) h
    omega
section
variable {p : Program} {l : Launch} {e : Env} {R : Room} {s : State} {m : MethodId} {args : Array Value} {below : List Frame} {meth : Method} {c : Code} {Q : State → Prop} {w : mW} {ct : Bool} {nL : Nat} {n0 s0 : Int} {own : String} {cc : ByteArray} {pc : Nat} {L S : List mV} {σ : mM} {a0 : Int × mM} {g : mG}

theorem mLkF_s (F : mF p R s args m c w own cc nL) {ps : List Nat} (h : mLkF own ps = true) : mp ps 0 < 11 ∧ mp ps 1 < mNf (mp ps 0) ∧ (Cond.fieldLink own (mp ps 3) (mC (mp ps 0)) (mTf (mp ps 0) (mp ps 1)).2.1 (mTf (mp ps 0) (mp ps 1)).2.2.1).before args s = true := by
  unfold mLkF at h
  simp only [Bool.and_eq_true] at h
  exact ⟨Nat.blt_eq.mp h.1.1, Nat.blt_eq.mp h.1.2, mWS_in F (of_decide_eq_true h.2) rfl⟩
theorem beq_t {t i : Nat} {f : mA} {a : Int × mM} (h : (bif Nat.beq t i then f else none) = some a) : t = i ∧ f = some a := by
  obtain ⟨h1, h2⟩ := cond_some h
  exact ⟨Nat.eq_of_beq_eq_true h1, h2⟩
theorem pf_I {d : String} {ty : FieldType} (hd : d = "I") (h : parseFieldDescriptor d = some ty) : ty = .int := by
  subst hd
  have : parseFieldDescriptor "I" = some .int := by decide +kernel
  exact (Option.some.inj (this.symm.trans h)).symm
theorem pf_Z {d : String} {ty : FieldType} (hd : d = "Z") (h : parseFieldDescriptor d = some ty) : ty = .boolean := by
  subst hd
  have : parseFieldDescriptor "Z" = some .boolean := by decide +kernel
  exact (Option.some.inj (this.symm.trans h)).symm
theorem okF_o {n i k : Nat} {x : Int} (hi : i < 11) (h0 : mft i k = 0 → in32 x) (h1 : mft i k ≠ 0 → x = -1 ∨ okR n (mft i k) x) : okF n (20 + i) k x := by
  refine ⟨fun _ => ?_, fun h => by omega, fun h => by omega, fun h => by omega⟩
  rw [Nat.add_sub_cancel_left]
  exact ⟨h0, h1⟩
theorem okR_nn {n t : Nat} {x : Int} (h : okR n t x) : 0 ≤ x := by
  obtain ⟨k, e, -⟩ := h
  omega
theorem snd_D {op n : Nat} {v : Int} {ps : List Nat} {ini : Bool} (F : mF p R s args m c w own cc nL) (hini : ini = true → meth.name = "<init>") (hd : decode cc pc = .ok (mInsD op ps)) (hn : n = (mInsD op ps).2) (hl : mLkD own ct ini op v ps = true)
    (hg : ∀ pc L S σ, g pc L S σ = some a0 → mGoal p l e R s m args below meth c Q w ct nL n0 s0 pc L S σ) (h : mstepD g op n v ps pc L S σ = some a0) : mGoal p l e R s m args below meth c Q w ct nL n0 s0 pc L S σ := by
  have hx := F.1
  have hb := F.2.1
  by_cases e : op = 51
  · subst e
    have hn : n = 3 := hn
    subst hn
    have hl : (mLkF own ps && Nat.beq (mft (mp ps 0) (mp ps 1)) 0) = true := hl
    rw [Bool.and_eq_true] at hl
    obtain ⟨q1, q2, q3⟩ := mLkF_s F hl.1
    have h0 := Nat.eq_of_beq_eq_true hl.2
    obtain ⟨t, x, S', rfl, ht, h1⟩ := mpopR_some h
    obtain ⟨rfl, h2⟩ := beq_t h1
    refine so_get F q1 q2 q3 hd (u := (0, σ x.toNat (mp ps 1))) (fun hM _ q e hq hlq => ?_) (hg _ _ _ _ h2)
    subst e
    have hv := (hM.2.1 q hq (mp ps 1)).1 (by omega)
    rw [hlq, Nat.add_sub_cancel_left] at hv
    refine ⟨?_, okV_i (hv.1 h0)⟩
    rw [h0]
    rfl
  by_cases e : op = 52
  · subst e
    have hn : n = 3 := hn
    subst hn
    have hl : (mLkF own ps && (Nat.beq (mft (mp ps 0) (mp ps 1)) (mp ps 2) && Nat.blt 3 (mp ps 2)) && (!ct && decide (mfx (mp ps 0) (mp ps 1) = some v))) = true := hl
    simp only [Bool.and_eq_true, Bool.not_eq_true', decide_eq_true_eq] at hl
    obtain ⟨q1, q2, q3⟩ := mLkF_s F hl.1.1
    have h0 := Nat.eq_of_beq_eq_true hl.1.2.1
    have h3 := Nat.blt_eq.mp hl.1.2.2
    obtain ⟨t, x, S', rfl, ht, h1⟩ := mpopR_some h
    obtain ⟨rfl, h2⟩ := beq_t h1
    refine so_get F q1 q2 q3 hd (u := (mp ps 2, x + v)) (fun hM hX q e hq hlq => ?_) (hg _ _ _ _ h2)
    subst e
    have hf := (hX hl.2.1).1 q hq (by omega) (mp ps 1) v (by rw [hlq, Nat.add_sub_cancel_left]; exact hl.2.2)
    have hv := (hM.2.1 q hq (mp ps 1)).1 (by omega)
    rw [hlq, Nat.add_sub_cancel_left] at hv
    have hv := hv.2 (by omega)
    have hv : okR (mz σ 0) (mp ps 2) (σ q (mp ps 1)) := by
      rw [← h0]
      rcases hv with z | z
      · omega
      · exact z
    refine ⟨?_, okV_r h3 (by rw [← hf.1]; exact hv)⟩
    rw [h0, ← hf.1, mrep_r w h3]
    unfold mfv
    rw [if_neg (by omega), if_neg (by omega)]
  by_cases e : op = 53
  · subst e
    have hn : n = 3 := hn
    subst hn
    have hl : (mLkF own ps && (Nat.beq (mft (mp ps 0) (mp ps 1)) (mp ps 2) && Nat.blt 3 (mp ps 2))) = true := hl
    simp only [Bool.and_eq_true] at hl
    obtain ⟨q1, q2, q3⟩ := mLkF_s F hl.1
    have h0 := Nat.eq_of_beq_eq_true hl.2.1
    have h3 := Nat.blt_eq.mp hl.2.2
    obtain ⟨t, x, S', rfl, ht, h1⟩ := mpopR_some h
    obtain ⟨rfl, h2⟩ := beq_t h1
    by_cases hneg : σ x.toNat (mp ps 1) < 0
    · have := (bLt_some h2).1 hneg
      cases this
    have h2 := (bLt_some h2).2 hneg
    refine so_get F q1 q2 q3 hd (u := (mp ps 2, σ x.toNat (mp ps 1))) (fun hM hX q e hq hlq => ?_) (hg _ _ _ _ h2)
    subst e
    have hv := (hM.2.1 q hq (mp ps 1)).1 (by omega)
    rw [hlq, Nat.add_sub_cancel_left] at hv
    have hv := hv.2 (by omega)
    have hneg : ¬ σ q (mp ps 1) < 0 := hneg
    have hv : okR (mz σ 0) (mp ps 2) (σ q (mp ps 1)) := by
      rw [← h0]
      rcases hv with z | z
      · omega
      · exact z
    refine ⟨?_, okV_r h3 hv⟩
    rw [h0, mrep_r w h3]
    unfold mfv
    rw [if_neg (by omega), if_neg hneg]
    rfl
  by_cases e : op = 54
  · subst e
    have hn : n = 3 := hn
    subst hn
    have hl : (mLkF own ps && (Nat.beq (mft (mp ps 0) (mp ps 1)) 0 && decide ((mTf (mp ps 0) (mp ps 1)).2.2.1 = "I")) && (!(mTf (mp ps 0) (mp ps 1)).2.2.2 && decide (mfx (mp ps 0) (mp ps 1) = none))) = true := hl
    simp only [Bool.and_eq_true, Bool.not_eq_true', decide_eq_true_eq] at hl
    obtain ⟨q1, q2, q3⟩ := mLkF_s F hl.1.1
    have h0 := Nat.eq_of_beq_eq_true hl.1.2.1
    obtain ⟨x, S1, rfl, h1⟩ := mpop1_some h
    obtain ⟨t, y, S', rfl, ht, h2⟩ := mpopR_some h1
    obtain ⟨rfl, h3⟩ := beq_t h2
    refine so_put F q1 q2 q3 hd (Or.inl hl.2.1) (u := (0, x)) (fun _ ty hty _ => ?_) (fun _ => by rw [h0]; rfl) (fun hu => okF_o q1 (fun _ => hu.1 rfl) (fun z => absurd h0 z)) (fun _ => hl.2.2) (hg _ _ _ _ h3)
    have := pf_I hl.1.2.2 hty
    subst this
    exact ⟨rfl, rfl⟩
  by_cases e : op = 55
  · subst e
    have hn : n = 3 := hn
    subst hn
    have hl : (mLkF own ps && (Nat.beq (mft (mp ps 0) (mp ps 1)) (mp ps 2) && Nat.blt 3 (mp ps 2)) && (!(mTf (mp ps 0) (mp ps 1)).2.2.2 && (ct || decide (mfx (mp ps 0) (mp ps 1) = none)))) = true := hl
    simp only [Bool.and_eq_true, Bool.not_eq_true', Bool.or_eq_true, decide_eq_true_eq] at hl
    obtain ⟨q1, q2, q3⟩ := mLkF_s F hl.1.1
    have h0 := Nat.eq_of_beq_eq_true hl.1.2.1
    have h3' := Nat.blt_eq.mp hl.1.2.2
    obtain ⟨t2, x, S1, rfl, ht2, h1⟩ := mpopR_some h
    obtain ⟨t, y, S', rfl, ht, h2⟩ := mpopR_some h1
    obtain ⟨hbb, h3⟩ := cond_some h2
    rw [Bool.and_eq_true] at hbb
    have e1 := Nat.eq_of_beq_eq_true hbb.1
    have e2 := Nat.eq_of_beq_eq_true hbb.2
    subst e1
    subst e2
    refine so_put F q1 q2 q3 hd (Or.inl hl.2.1) (u := (mp ps 2, x)) (fun _ ty hty hr => ?_) (fun hu => ?_) (fun hu => okF_o q1 (fun z => by omega) (fun _ => Or.inr (by rw [h0]; exact hu.2.2 h3'))) (fun hct => ?_) (hg _ _ _ _ h3)
    · rw [mrep_r w h3']
      exact hr (by omega) _
    · have := okR_nn (hu.2.2 h3')
      rw [h0, mrep_r w h3']
      unfold mfv
      rw [if_neg (by omega), if_neg (by omega)]
    · rcases hl.2.2 with z | z
      · rw [hct] at z; cases z
      · exact z
  by_cases e : op = 56
  · subst e
    have hn : n = 3 := hn
    subst hn
    have hl : (mLkF own ps && (Nat.beq (mft (mp ps 0) (mp ps 1)) (mp ps 2) && Nat.blt 3 (mp ps 2)) && ((mTf (mp ps 0) (mp ps 1)).2.2.2 && ct && ini && decide (mC (mp ps 0) = own))) = true := hl
    simp only [Bool.and_eq_true, decide_eq_true_eq] at hl
    obtain ⟨q1, q2, q3⟩ := mLkF_s F hl.1.1
    have h0 := Nat.eq_of_beq_eq_true hl.1.2.1
    have h3' := Nat.blt_eq.mp hl.1.2.2
    obtain ⟨t2, x, S1, rfl, ht2, h1⟩ := mpopR_some h
    obtain ⟨t, y, S', rfl, ht, h2⟩ := mpopR_some h1
    obtain ⟨hbb, h3⟩ := cond_some h2
    rw [Bool.and_eq_true] at hbb
    have e1 := Nat.eq_of_beq_eq_true hbb.1
    have e2 := Nat.eq_of_beq_eq_true hbb.2
    subst e1
    subst e2
    refine so_put F q1 q2 q3 hd (Or.inr ⟨hl.2.1.1.1, hini hl.2.1.2, hl.2.2⟩) (u := (mp ps 2, x)) (fun _ ty hty hr => ?_) (fun hu => ?_) (fun hu => okF_o q1 (fun z => by omega) (fun _ => Or.inr (by rw [h0]; exact hu.2.2 h3'))) (fun hct => ?_) (hg _ _ _ _ h3)
    · rw [mrep_r w h3']
      exact hr (by omega) _
    · have := okR_nn (hu.2.2 h3')
      rw [h0, mrep_r w h3']
      unfold mfv
      rw [if_neg (by omega), if_neg (by omega)]
    · rw [hl.2.1.1.2] at hct; cases hct
  by_cases e : op = 57
  · subst e
    have hn : n = 3 := hn
    subst hn
    have hl : (mLkF own ps && (Nat.beq (mft (mp ps 0) (mp ps 1)) 0 && decide ((mTf (mp ps 0) (mp ps 1)).2.2.1 = "Z")) && (!(mTf (mp ps 0) (mp ps 1)).2.2.2 && decide (mfx (mp ps 0) (mp ps 1) = none))) = true := hl
    simp only [Bool.and_eq_true, Bool.not_eq_true', decide_eq_true_eq] at hl
    obtain ⟨q1, q2, q3⟩ := mLkF_s F hl.1.1
    have h0 := Nat.eq_of_beq_eq_true hl.1.2.1
    obtain ⟨x, S1, rfl, h1⟩ := mpop1_some h
    obtain ⟨t, y, S', rfl, ht, h2⟩ := mpopR_some h1
    obtain ⟨rfl, h3⟩ := beq_t h2
    obtain ⟨hx2, h3⟩ := bIn_some h3
    refine so_put F q1 q2 q3 hd (Or.inl hl.2.1) (u := (0, x)) (fun _ ty hty _ => ?_) (fun _ => by rw [h0]; rfl) (fun hu => okF_o q1 (fun _ => hu.1 rfl) (fun z => absurd h0 z)) (fun _ => hl.2.2) (hg _ _ _ _ h3)
    have := pf_Z hl.1.2.2 hty
    subst this
    rcases (by omega : x = 0 ∨ x = 1) with rfl | rfl <;> exact ⟨rfl, rfl⟩
  have st : ∀ (hS : mLkS ps = true), (mp ps 0 = 7008 ∧ mp ps 1 = 900) ∨ (mp ps 0 = 7108 ∧ mp ps 1 = 901) ∨ (mp ps 0 = 7232 ∧ mp ps 1 = 902) := by
    intro hS
    unfold mLkS at hS
    simp only [Bool.or_eq_true, Bool.and_eq_true] at hS
    rcases hS with (⟨a, b⟩ | ⟨a, b⟩) | ⟨a, b⟩
    · exact Or.inl ⟨Nat.eq_of_beq_eq_true a, Nat.eq_of_beq_eq_true b⟩
    · exact Or.inr (Or.inl ⟨Nat.eq_of_beq_eq_true a, Nat.eq_of_beq_eq_true b⟩)
    · exact Or.inr (Or.inr ⟨Nat.eq_of_beq_eq_true a, Nat.eq_of_beq_eq_true b⟩)
  obtain ⟨z1, z2, z3⟩ := F.2.2.2.2.2.2.2.1.2.2
  by_cases e : op = 58
  · subst e
    have hn : n = 3 := hn
    subst hn
    have hl : (mLkS ps && decide (mWd1 (mp ps 3) = some (.fieldLink own (mp ps 2) (mStat (mp ps 1)).1 (mStat (mp ps 1)).2 "[I"))) = true := hl
    rw [Bool.and_eq_true, decide_eq_true_eq] at hl
    have hw := mWS_in F hl.2 rfl
    have h : g (pc + 3) L ((mp ps 0, (mp ps 1 : Int)) :: S) σ = some a0 := h
    rcases st hl.1 with ⟨a, b⟩ | ⟨a, b⟩ | ⟨a, b⟩ <;> rw [b] at hw <;> rw [a, b] at h
    · exact so_58 (k := 0) F (Or.inl ⟨rfl, rfl⟩) (fun H locs cells slots ls rest hS k => va_gets (C := RX9) hx hb z1 hS F.2.2.2.1 hw (fun _ h => h) hd k) (hg _ _ _ _ h)
    · exact so_58 (k := 1) F (Or.inr (Or.inl ⟨rfl, rfl⟩)) (fun H locs cells slots ls rest hS k => va_gets (C := RX5) hx hb z2 hS F.2.2.2.1 hw (fun _ h => h) hd k) (hg _ _ _ _ h)
    · exact so_58 (k := 2) F (Or.inr (Or.inr ⟨rfl, rfl⟩)) (fun H locs cells slots ls rest hS k => va_gets (C := RX5) hx hb z3 hS F.2.2.2.1 hw (fun _ h => h) hd k) (hg _ _ _ _ h)
  by_cases e : op = 59
  · subst e
    have hn : n = 3 := hn
    subst hn
    have hl : (mLkS ps && decide (mWd1 (mp ps 3) = some (.fieldLinkNest own (mp ps 2) (mStat (mp ps 1)).1 (mStat (mp ps 1)).2 "[I" RX9))) = true := hl
    rw [Bool.and_eq_true, decide_eq_true_eq] at hl
    have hw := va_Nw.use (A := args) rfl (F.2.2.2.2.2.1.1 _ (mWd1_in hl.2) rfl)
    have h : g (pc + 3) L ((mp ps 0, (mp ps 1 : Int)) :: S) σ = some a0 := h
    rcases st hl.1 with ⟨a, b⟩ | ⟨a, b⟩ | ⟨a, b⟩ <;> rw [b] at hw <;> rw [a, b] at h
    · exact so_58 (k := 0) F (Or.inl ⟨rfl, rfl⟩) (fun H locs cells slots ls rest hS k => va_getsN (C := RX9) hx hb z1 hS F.2.2.2.1 hw (fun _ h => h) hd k) (hg _ _ _ _ h)
    · exact so_58 (k := 1) F (Or.inr (Or.inl ⟨rfl, rfl⟩)) (fun H locs cells slots ls rest hS k => va_getsN (C := RX5) hx hb z2 hS F.2.2.2.1 hw (fun _ h => h) hd k) (hg _ _ _ _ h)
    · exact so_58 (k := 2) F (Or.inr (Or.inr ⟨rfl, rfl⟩)) (fun H locs cells slots ls rest hS k => va_getsN (C := RX5) hx hb z3 hS F.2.2.2.1 hw (fun _ h => h) hd k) (hg _ _ _ _ h)
  by_cases e : op = 60
  · subst e
    have hn : n = 1 := hn
    subst hn
    obtain ⟨i, S1, rfl, h1⟩ := mpop1_some h
    obtain ⟨t, x, S', rfl, ht, h2⟩ := mpopR_some h1
    obtain ⟨hbb, h3⟩ := cond_some h2
    obtain ⟨hi, h4⟩ := bIn_some h3
    simp only [Bool.or_eq_true, Bool.and_eq_true] at hbb
    have k4 := hg _ _ _ _ h4
    intro H locs cells slots ls hL okL okS hW hS hA
    have hR := (ok_t okS _ List.mem_cons_self).2.2 ht
    have hel := F.2.2.2.2.2.2.2.1.2.1
    obtain ⟨q, e1, hq⟩ := hR
    have e1 : x = (q : Int) := e1
    have hq : (q < mz σ 0 ∧ mlay q = t ∧ 20 ≤ t ∧ (t < 4000 ∨ 9000 ≤ t)) ∨ (t = 4 ∧ q = 903) ∨ (t = 7008 ∧ q = 900) ∨ (t = 7108 ∧ q = 901) ∨ (t = 7232 ∧ q = 902) := hq
    rcases hq with ⟨y1, y2, y3, y4⟩ | ⟨y1, y2⟩ | ⟨y1, y2⟩ | ⟨y1, y2⟩ | ⟨y1, y2⟩
    · have r1 : 1000 ≤ t ∧ t < 2000 := by
        rcases hbb with (z | z) | z
        · have := Nat.eq_of_beq_eq_true z; omega
        · exact ⟨Nat.le_of_ble_eq_true z.1, Nat.blt_eq.mp z.2⟩
        · have a1 := Nat.le_of_ble_eq_true z.1
          have a2 := Nat.blt_eq.mp z.2
          omega
      exact so_60 F r1.1 r1.2 hi hd k4 H locs cells slots ls hL okL okS hW hS hA
    · subst y1; subst y2; subst e1
      have e4 : mlen σ 4 = (mel w 3 : Int) := hW.1.2.2.2
      rw [e4] at hi
      exact so_ext (k := 3) F (by omega) ht hi hd k4 H locs cells slots ls hL okL okS hW hS hA
    · subst y1; subst y2; subst e1
      have e4 : mlen σ 7008 = (mel w 0 : Int) := by rw [hel.1]; rfl
      rw [e4] at hi
      exact so_ext (k := 0) F (by omega) ht hi hd k4 H locs cells slots ls hL okL okS hW hS hA
    · subst y1; subst y2; subst e1
      have e4 : mlen σ 7108 = (mel w 1 : Int) := by rw [hel.2.1]; rfl
      rw [e4] at hi
      exact so_ext (k := 1) F (by omega) ht hi hd k4 H locs cells slots ls hL okL okS hW hS hA
    · subst y1; subst y2; subst e1
      have e4 : mlen σ 7232 = (mel w 2 : Int) := by rw [hel.2.2.1]; rfl
      rw [e4] at hi
      exact so_ext (k := 2) F (by omega) ht hi hd k4 H locs cells slots ls hL okL okS hW hS hA
  by_cases e : op = 61
  · subst e
    have hn : n = 1 := hn
    subst hn
    obtain ⟨v, S0, rfl, h0⟩ := mpop1_some h
    obtain ⟨i, S1, rfl, h1⟩ := mpop1_some h0
    obtain ⟨t, x, S', rfl, ht, h2⟩ := mpopR_some h1
    obtain ⟨hbb, h3⟩ := cond_some h2
    obtain ⟨hi, h4⟩ := bIn_some h3
    rw [Bool.and_eq_true] at hbb
    exact so_61 F (Nat.le_of_ble_eq_true hbb.1) (Nat.blt_eq.mp hbb.2) hi hd (hg _ _ _ _ h4)
  by_cases e : op = 63
  · subst e
    have hn : n = 1 := hn
    subst hn
    obtain ⟨v, S0, rfl, h0⟩ := mpopJ_some h
    obtain ⟨i, S1, rfl, h1⟩ := mpop1_some h0
    obtain ⟨t, x, S', rfl, ht, h2⟩ := mpopR_some h1
    obtain ⟨hbb, h3⟩ := cond_some h2
    obtain ⟨hi, h4⟩ := bIn_some h3
    rw [Bool.and_eq_true] at hbb
    exact so_63 F (Nat.le_of_ble_eq_true hbb.1) (Nat.blt_eq.mp hbb.2) hi hd (hg _ _ _ _ h4)
  by_cases e : op = 62
  · subst e
    have hn : n = 1 := hn
    subst hn
    obtain ⟨i, S1, rfl, h1⟩ := mpop1_some h
    obtain ⟨t, x, S', rfl, ht, h2⟩ := mpopR_some h1
    obtain ⟨hbb, h3⟩ := cond_some h2
    obtain ⟨hi, h4⟩ := bIn_some h3
    rw [Bool.and_eq_true] at hbb
    exact so_62 F (Nat.le_of_ble_eq_true hbb.1) (Nat.blt_eq.mp hbb.2) hi hd (hg _ _ _ _ h4)
  by_cases e : op = 64
  · subst e
    have hn : n = 1 := hn
    subst hn
    obtain ⟨i, S1, rfl, h1⟩ := mpop1_some h
    obtain ⟨t, x, S', rfl, ht, h2⟩ := mpopR_some h1
    obtain ⟨hbb, h3⟩ := cond_some h2
    obtain ⟨hi, h4⟩ := bIn_some h3
    rw [Bool.and_eq_true] at hbb
    exact so_64 F (Nat.le_of_ble_eq_true hbb.1) (Nat.blt_eq.mp hbb.2) hi hd (hg _ _ _ _ h4)
  by_cases e : op = 65
  · subst e
    have hn : n = 1 := hn
    subst hn
    obtain ⟨v, S0, rfl, h0⟩ := mpop1_some h
    obtain ⟨i, S1, rfl, h1⟩ := mpop1_some h0
    obtain ⟨t, x, S', rfl, ht, h2⟩ := mpopR_some h1
    obtain ⟨hbb, h3⟩ := cond_some h2
    obtain ⟨hi, h4⟩ := bIn_some h3
    rw [Bool.and_eq_true] at hbb
    obtain ⟨hv2, h4⟩ := bIn_some h4
    exact so_65 F (Nat.le_of_ble_eq_true hbb.1) (Nat.blt_eq.mp hbb.2) hi hv2 hd (hg _ _ _ _ h4)
  by_cases e : op = 66
  · subst e
    have hn : n = 1 := hn
    subst hn
    have hl : (!ct) = true := hl
    obtain ⟨i, S1, rfl, h1⟩ := mpop1_some h
    obtain ⟨t, x, S', rfl, ht, h2⟩ := mpopR_some h1
    obtain ⟨rfl, h3⟩ := beq_t h2
    obtain ⟨hi, h4⟩ := bIn_some h3
    exact so_66 F (by simpa using hl) hi hd (hg _ _ _ _ h4)
  by_cases e : op = 68
  · subst e
    have hn : n = 1 := hn
    subst hn
    obtain ⟨t, x, S', rfl, ht, h2⟩ := mpopR_some h
    obtain ⟨rfl, h3⟩ := beq_t h2
    exact so_68 F hd (hg _ _ _ _ h3)
  exfalso
  have nb : ∀ {k : Nat}, ¬ op = k → Nat.beq op k = false := fun {k} hk => by
    cases hq : Nat.beq op k
    · rfl
    · exact absurd (Nat.eq_of_beq_eq_true hq) hk
  unfold mstepD at h
  simp only [nb (by assumption : ¬ op = 51), nb (by assumption : ¬ op = 52), nb (by assumption : ¬ op = 53), nb (by assumption : ¬ op = 54), nb (by assumption : ¬ op = 55), nb (by assumption : ¬ op = 56), nb (by assumption : ¬ op = 57), nb (by assumption : ¬ op = 58), nb (by assumption : ¬ op = 59), nb (by assumption : ¬ op = 60), nb (by assumption : ¬ op = 61), nb (by assumption : ¬ op = 62), nb (by assumption : ¬ op = 63), nb (by assumption : ¬ op = 64), nb (by assumption : ¬ op = 65), nb (by assumption : ¬ op = 66), nb (by assumption : ¬ op = 68), Bool.or_false, cond_false] at h
  cases h
end
