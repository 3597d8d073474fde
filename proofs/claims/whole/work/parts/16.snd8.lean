/-! SOUNDNESS 8: calls, all instructions, runs -/
def mInsF (op : Nat) (ps : List Nat) : Instr × Nat :=
  bif Nat.beq op 76 then (.invokevirtual (mp ps 4), 3) else bif Nat.beq op 77 || Nat.beq op 79 then (.invokestatic (mp ps 4), 3) else bif Nat.beq op 78 || Nat.beq op 80 then (.invokespecial (mp ps 4), 3) else (.invokestatic (mp ps 0), 3)
def mLkK (own : String) (ct : Bool) (op : Nat) (ps : List Nat) : Bool :=
  bif Nat.beq op 76 then Nat.blt (mp ps 0) 229 && Nat.beq (mKd (mp ps 0)) 0 && Nat.beq (mp ps 1) (mNa (mp ps 0) + 1) && Nat.beq (mp ps 2) (mRa (mp ps 0)) && (!ct && !mctor (mp ps 0)) && (Nat.ble 20 (mp ps 3) && Nat.blt (mp ps 3) 31) && decide (mC (mp ps 3 - 20) = (mNm (mp ps 0)).cls) && decide (mWd1 (mp ps 5) = some (.methodLink own (mp ps 4) (mNm (mp ps 0))))
  else bif Nat.beq op 77 then Nat.blt (mp ps 0) 229 && Nat.beq (mKd (mp ps 0)) 1 && Nat.beq (mp ps 1) (mNa (mp ps 0)) && Nat.beq (mp ps 2) (mRa (mp ps 0)) && (!ct && !mctor (mp ps 0)) && decide (mWd1 (mp ps 5) = some (.methodLink own (mp ps 4) (mNm (mp ps 0))))
  else bif Nat.beq op 79 then Nat.blt (mp ps 0) 229 && Nat.beq (mKd (mp ps 0)) 1 && Nat.beq (mp ps 1) (mNa (mp ps 0)) && Nat.beq (mp ps 2) (mRa (mp ps 0)) && (!ct && !mctor (mp ps 0)) && decide (mWd1 (mp ps 5) = some (.methodLinkNest own (mp ps 4) (mNm (mp ps 0)) RX9))
  else bif Nat.beq op 78 then Nat.blt (mp ps 0) 229 && Nat.beq (mKd (mp ps 0)) 2 && Nat.beq (mp ps 1) (mNa (mp ps 0) + 1) && Nat.beq (mRa (mp ps 0)) 0 && (ct && mctor (mp ps 0)) && decide (mWd1 (mp ps 5) = some (.methodLink own (mp ps 4) (mNm (mp ps 0))))
  else bif Nat.beq op 80 then Nat.blt (mp ps 0) 229 && Nat.beq (mKd (mp ps 0)) 2 && Nat.beq (mp ps 1) (mNa (mp ps 0) + 1) && Nat.beq (mRa (mp ps 0)) 0 && (ct && mctor (mp ps 0)) && decide (mWd1 (mp ps 5) = some (.methodLinkNest own (mp ps 4) (mNm (mp ps 0)) RX9))
  else bif Nat.beq op 81 then decide (mWd1 (mp ps 1) = some (.methodLink own (mp ps 0) Lib.Math.min.name)) else bif Nat.beq op 82 then decide (mWd1 (mp ps 1) = some (.methodLink own (mp ps 0) Lib.Math.max.name))
  else (Nat.beq op 83 || Nat.beq op 84) && decide (mWd1 (mp ps 1) = some (.methodLink own (mp ps 0) arraycopyName))
theorem mal_0 {k : Nat} (h : mctor k = false) : mal k = 0 ∧ msl k = 0 := by
  have h1 : mals.find? (fun q => Nat.beq q.1 k) = none := by
    rw [List.find?_eq_none]
    intro q hq hb
    have : mctor k = true := List.any_eq_true.mpr ⟨q, hq, hb⟩
    rw [h] at this
    cases this
  unfold mal msl
  rw [h1]
  exact ⟨rfl, rfl⟩
theorem as_split {S : List mV} {n : Nat} : S = (S.take n).reverse.reverse ++ S.drop n := by rw [List.reverse_reverse, List.take_append_drop]
section
variable {p : Program} {l : Launch} {e : Env} {R : Room} {s : State} {m : MethodId} {args : Array Value} {below : List Frame} {meth : Method} {c : Code} {Q : State → Prop} {w : mW} {ct : Bool} {nL : Nat} {n0 s0 : Int} {own : String} {cc : ByteArray} {pc : Nat} {L S : List mV} {σ : mM} {a0 : Int × mM} {g : mG} {K : mK} {d : Nat}
theorem so_76 (F : mF p R s args m c w own cc nL) (hKs : mMet l w K d) (hdd : d + 1 ≤ R.frames ∧ 40 * d + 99 ≤ R.locals) {k idx : Nat} (hk : k < 229) (hkd : mKd k = 0) (hct : ct = false) (hcc : mctor k = false) {i : Nat} (hi : i < 11) (hcl : mC i = (mNm k).cls) {u : mV} {As : List mV} {S0 : List mV} (hS0 : S0 = As.reverse ++ u :: S) (hu : u.1 = 20 + i) (hlen : As.length = mNa k) (h8 : (S.map mcat).sum ≤ 8) (hl : (Cond.methodLink own idx (mNm k)).before args s = true) (hd : decode cc pc = .ok (.invokevirtual idx, 3)) {r : Int} {σ' : mM} (hrun : K k (u :: As) σ = some (r, σ'))
    (kk : mGoal p l e R s m args below meth c Q w ct nL n0 s0 (pc + 3) L (mpush (mRa k) r S) σ') : mGoal p l e R s m args below meth c Q w ct nL n0 s0 pc L S0 σ := by
  obtain ⟨f1, f2, f3, f4, f5, f6, f7, f8, f9, -⟩ := mFa_all hk
  have hsub : ∀ v ∈ S, v ∈ S0 := fun v hv => by rw [hS0]; exact List.mem_append_right _ (List.mem_cons_of_mem _ hv)
  have hsub2 : ∀ v ∈ (u :: As), v ∈ S0 := fun v hv => by
    rw [hS0]
    rcases List.mem_cons.mp hv with rfl | h
    · exact List.mem_append_right _ List.mem_cons_self
    · exact List.mem_append_left _ (List.mem_reverse.mpr h)
  refine so_behind F (k := k) (as := u :: As) (by rw [hcc, hct]) (fun h => by rw [hct] at h; cases h) (fun _ => mal_0 hcc) (fun h => by rw [hct] at h; cases h) hsub hsub2 (fun H locs cells slots ls hL hW hS okS hz hc hs => ?_) kk
  have okA : ∀ v ∈ u :: As, okV (mz σ 0) v := fun v hv => okS v (hsub2 v hv)
  have hM := hKs k (u :: As) σ r σ' hk hrun hW.1 (fun h => hW.2.1 hct) okA
  obtain ⟨q, e1, hq, hlq⟩ := okR_cell ((okA u List.mem_cons_self).2.2 (by omega)) ⟨by omega, Or.inl (by omega)⟩
  rw [hu] at hlq
  have hq9 : q < 900 := by have := hW.1.1.2; omega
  have eb : mrep w u = .ref (mb w + q) := by
    obtain ⟨t, x⟩ := u
    have e1 : x = (q : Int) := e1
    have hu : t = 20 + i := hu
    subst e1
    exact mrep_cell w (by omega) hq9
  have hcode := F.2.2.2.2.1 _ (mWd1_ws f1 rfl)
  have hini := F.2.2.2.2.1 _ (mWd1_ws f2 rfl)
  have hpre := m_pre F (ct' := mctor k) (as := u :: As) hW hS (fun h => hz (hct.trans (hcc.symm.trans h)))
  have hlen2 : ∀ sig, parseMethodDescriptor (mNm k).desc = some sig → mNa k = sig.parameters.length := fun sig h => by rw [h] at f8; exact (Option.some.inj f8).symm
  have hst : S0.map (mrep w) = (As.map (mrep w)).reverse ++ .ref (mb w + q) :: S.map (mrep w) := by rw [hS0, List.map_append, List.map_reverse, List.map_cons, eb]
  have ha : ((u :: As).map (mrep w)).toArray = (Value.ref (mb w + q) :: As.map (mrep w)).toArray := by rw [List.map_cons, eb]
  rw [ha] at hpre ⊢
  have hrecv := va_recv F.2.2.2.2.2.2.1 hW.2.2 (ci := i) (q0 := q) (mCl_all hi).choose_spec.1 (by rw [mws_get hq, mcell_obj hlq hi])
  rw [hcl] at hrecv
  obtain ⟨f10, f11⟩ := f3 hkd
  exact va_runV (C := (mNm k).cls) (b := (mb w + q)) (As := As.map (mrep w)) ⟨F.1, F.2.1, F.2.2.1, F.2.2.2.1, F.2.2.2.2.1⟩ hM ⟨⟨rfl, rfl, hdd.1, (by have := hdd.2; show 8 + (mmaxL k + 11) + (40 * d + 60) ≤ R.locals; omega), m_words F hk, List.mem_cons_self, hcode, hini, f7, hlen2, hl⟩, F.2.2.2.2.1 _ (mWd1_ws f10 rfl), F.2.2.2.2.1 _ (mWd1_ws f11 rfl)⟩ ⟨mPc_blind _ _ _ _, hrecv, hpre⟩ rfl (by rw [List.length_map]; exact hlen) hL.2.1 hst (lv_room (by rw [cat_sum]; exact h8)) hd ⟨hc, hs⟩
theorem so_77 (F : mF p R s args m c w own cc nL) (hKs : mMet l w K d) (hdd : d + 1 ≤ R.frames ∧ 40 * d + 99 ≤ R.locals) {k idx : Nat} (hk : k < 229) (hkd : mKd k = 1) (hct : ct = false) (hcc : mctor k = false) {As : List mV} {S0 : List mV} (hS0 : S0 = As.reverse ++ S) (hlen : As.length = mNa k) (h8 : (S.map mcat).sum ≤ 8) (hl : (Cond.methodLink own idx (mNm k)).before args s = true) (hd : decode cc pc = .ok (.invokestatic idx, 3)) {r : Int} {σ' : mM} (hrun : K k (As) σ = some (r, σ'))
    (kk : mGoal p l e R s m args below meth c Q w ct nL n0 s0 (pc + 3) L (mpush (mRa k) r S) σ') : mGoal p l e R s m args below meth c Q w ct nL n0 s0 pc L S0 σ := by
  obtain ⟨f1, f2, f3, f4, f5, f6, f7, f8, f9, -⟩ := mFa_all hk
  have hsub : ∀ v ∈ S, v ∈ S0 := fun v hv => by rw [hS0]; exact List.mem_append_right _ (hv)
  have hsub2 : ∀ v ∈ As, v ∈ S0 := fun v hv => by
    rw [hS0]
    exact List.mem_append_left _ (List.mem_reverse.mpr hv)
  refine so_behind F (k := k) (as := As) (by rw [hcc, hct]) (fun h => by rw [hct] at h; cases h) (fun _ => mal_0 hcc) (fun h => by rw [hct] at h; cases h) hsub hsub2 (fun H locs cells slots ls hL hW hS okS hz hc hs => ?_) kk
  have okA : ∀ v ∈ As, okV (mz σ 0) v := fun v hv => okS v (hsub2 v hv)
  have hM := hKs k (As) σ r σ' hk hrun hW.1 (fun h => hW.2.1 hct) okA
  have hcode := F.2.2.2.2.1 _ (mWd1_ws f1 rfl)
  have hini := F.2.2.2.2.1 _ (mWd1_ws f2 rfl)
  have hpre := m_pre F (ct' := mctor k) (as := As) hW hS (fun h => hz (hct.trans (hcc.symm.trans h)))
  have hlen2 : ∀ sig, parseMethodDescriptor (mNm k).desc = some sig → mNa k = sig.parameters.length := fun sig h => by rw [h] at f8; exact (Option.some.inj f8).symm
  have hst : S0.map (mrep w) = (As.map (mrep w)).reverse ++ S.map (mrep w) := by rw [hS0, List.map_append, List.map_reverse]
  exact va_runS (As := As.map (mrep w)) ⟨F.1, F.2.1, F.2.2.1, F.2.2.2.1, F.2.2.2.2.1⟩ hM ⟨⟨rfl, rfl, hdd.1, (by have := hdd.2; show 8 + (mmaxL k + 11) + (40 * d + 60) ≤ R.locals; omega), m_words F hk, List.mem_cons_self, hcode, hini, f7, hlen2, hl⟩, F.2.2.2.2.1 _ (mWd1_ws (f4 hkd) rfl)⟩ ⟨mPc_blind _ _ _ _, hpre⟩ rfl (by rw [List.length_map]; exact hlen) hL.2.1 hst (lv_room (by rw [cat_sum]; exact h8)) hd ⟨hc, hs⟩
theorem so_79 (F : mF p R s args m c w own cc nL) (hKs : mMet l w K d) (hdd : d + 1 ≤ R.frames ∧ 40 * d + 99 ≤ R.locals) {k idx : Nat} (hk : k < 229) (hkd : mKd k = 1) (hct : ct = false) (hcc : mctor k = false) {As : List mV} {S0 : List mV} (hS0 : S0 = As.reverse ++ S) (hlen : As.length = mNa k) (h8 : (S.map mcat).sum ≤ 8) (hl : (Cond.methodLinkNest own idx (mNm k) RX9).before args s = true) (hd : decode cc pc = .ok (.invokestatic idx, 3)) {r : Int} {σ' : mM} (hrun : K k (As) σ = some (r, σ'))
    (kk : mGoal p l e R s m args below meth c Q w ct nL n0 s0 (pc + 3) L (mpush (mRa k) r S) σ') : mGoal p l e R s m args below meth c Q w ct nL n0 s0 pc L S0 σ := by
  obtain ⟨f1, f2, f3, f4, f5, f6, f7, f8, f9, -⟩ := mFa_all hk
  have hsub : ∀ v ∈ S, v ∈ S0 := fun v hv => by rw [hS0]; exact List.mem_append_right _ (hv)
  have hsub2 : ∀ v ∈ As, v ∈ S0 := fun v hv => by
    rw [hS0]
    exact List.mem_append_left _ (List.mem_reverse.mpr hv)
  refine so_behind F (k := k) (as := As) (by rw [hcc, hct]) (fun h => by rw [hct] at h; cases h) (fun _ => mal_0 hcc) (fun h => by rw [hct] at h; cases h) hsub hsub2 (fun H locs cells slots ls hL hW hS okS hz hc hs => ?_) kk
  have okA : ∀ v ∈ As, okV (mz σ 0) v := fun v hv => okS v (hsub2 v hv)
  have hM := hKs k (As) σ r σ' hk hrun hW.1 (fun h => hW.2.1 hct) okA
  have hcode := F.2.2.2.2.1 _ (mWd1_ws f1 rfl)
  have hini := F.2.2.2.2.1 _ (mWd1_ws f2 rfl)
  have hpre := m_pre F (ct' := mctor k) (as := As) hW hS (fun h => hz (hct.trans (hcc.symm.trans h)))
  have hlen2 : ∀ sig, parseMethodDescriptor (mNm k).desc = some sig → mNa k = sig.parameters.length := fun sig h => by rw [h] at f8; exact (Option.some.inj f8).symm
  have hst : S0.map (mrep w) = (As.map (mrep w)).reverse ++ S.map (mrep w) := by rw [hS0, List.map_append, List.map_reverse]
  exact va_runSN (As := As.map (mrep w)) ⟨F.1, F.2.1, F.2.2.1, F.2.2.2.1, F.2.2.2.2.1⟩ hM ⟨⟨⟨rfl, rfl, hdd.1, (by have := hdd.2; show 8 + (mmaxL k + 11) + (40 * d + 60) ≤ R.locals; omega), m_words F hk, List.mem_cons_self⟩, hcode, hini, f7, hlen2, hl⟩, F.2.2.2.2.1 _ (mWd1_ws (f4 hkd) rfl), trivial⟩ ⟨mPc_blind _ _ _ _, hpre⟩ rfl (by rw [List.length_map]; exact hlen) hL.2.1 hst (lv_room (by rw [cat_sum]; exact h8)) hd ⟨hc, hs⟩
theorem so_78 (F : mF p R s args m c w own cc nL) (hKs : mMet l w K d) (hdd : d + 1 ≤ R.frames ∧ 40 * d + 99 ≤ R.locals) {k idx : Nat} (hk : k < 229) (hkd : mKd k = 2) (hct : ct = true) (hcc : mctor k = true) {u : mV} {As : List mV} {S0 : List mV} (hS0 : S0 = As.reverse ++ u :: S) (hu : 3 < u.1) (hlen : As.length = mNa k) (h8 : (S.map mcat).sum ≤ 8) (hl : (Cond.methodLink own idx (mNm k)).before args s = true) (hd : decode cc pc = .ok (.invokespecial idx, 3)) {r : Int} {σ' : mM} (hrun : K k (u :: As) σ = some (r, σ')) (hsz : ct = true → (s.heap.size : Int) = mb w + n0) (hal : σ' 905 0 = σ 905 0 + (mal k : Int) ∧ σ' 905 1 = σ 905 1 + (msl k : Int) ∧ σ' 905 0 ≤ n0 + (R.cells : Int) ∧ σ' 905 1 ≤ s0 + (R.slots : Int))
    (kk : mGoal p l e R s m args below meth c Q w ct nL n0 s0 (pc + 3) L (mpush (mRa k) r S) σ') : mGoal p l e R s m args below meth c Q w ct nL n0 s0 pc L S0 σ := by
  obtain ⟨f1, f2, f3, f4, f5, f6, f7, f8, f9, -⟩ := mFa_all hk
  have hsub : ∀ v ∈ S, v ∈ S0 := fun v hv => by rw [hS0]; exact List.mem_append_right _ (List.mem_cons_of_mem _ hv)
  have hsub2 : ∀ v ∈ (u :: As), v ∈ S0 := fun v hv => by
    rw [hS0]
    rcases List.mem_cons.mp hv with rfl | h
    · exact List.mem_append_right _ List.mem_cons_self
    · exact List.mem_append_left _ (List.mem_reverse.mpr h)
  refine so_behind F (k := k) (as := u :: As) (by rw [hcc, hct]) hsz (fun _ => (by rw [hct] at *; contradiction)) (fun _ => hal) hsub hsub2 (fun H locs cells slots ls hL hW hS okS hz hc hs => ?_) kk
  have okA : ∀ v ∈ u :: As, okV (mz σ 0) v := fun v hv => okS v (hsub2 v hv)
  have hM := hKs k (u :: As) σ r σ' hk hrun hW.1 (fun h => by rw [hcc] at h; cases h) okA
  have eb : mrep w u = .ref (madr w u.2.toNat) := by
    obtain ⟨t, x⟩ := u
    exact mrep_r w hu x
  have hcode := F.2.2.2.2.1 _ (mWd1_ws f1 rfl)
  have hini := F.2.2.2.2.1 _ (mWd1_ws f2 rfl)
  have hpre := m_pre F (ct' := mctor k) (as := u :: As) hW hS (fun h => hz (hct.trans (hcc.symm.trans h)))
  have hlen2 : ∀ sig, parseMethodDescriptor (mNm k).desc = some sig → mNa k = sig.parameters.length := fun sig h => by rw [h] at f8; exact (Option.some.inj f8).symm
  have hst : S0.map (mrep w) = (As.map (mrep w)).reverse ++ .ref (madr w u.2.toNat) :: S.map (mrep w) := by rw [hS0, List.map_append, List.map_reverse, List.map_cons, eb]
  have ha : ((u :: As).map (mrep w)).toArray = (Value.ref (madr w u.2.toNat) :: As.map (mrep w)).toArray := by rw [List.map_cons, eb]
  rw [ha] at hpre ⊢
  obtain ⟨f10, f11, f12⟩ := f5 hkd
  have hmem : Cond.code (mNm k) (mCc k) (mmaxL k) none ∈ mwsl k := by rw [← f12]; exact List.mem_cons_self
  rw [f12] at hcode
  exact va_runI (b := (madr w u.2.toNat)) (As := As.map (mrep w)) ⟨F.1, F.2.1, F.2.2.1, F.2.2.2.1, F.2.2.2.2.1⟩ hM ⟨⟨rfl, rfl, hdd.1, (by have := hdd.2; show 8 + (mmaxL k + 11) + (40 * d + 60) ≤ R.locals; omega), m_words F hk, hmem, hcode, hini, f7, hlen2, hl⟩, f11, F.2.2.2.2.1 _ (mWd1_ws f10 rfl)⟩ ⟨mPc_blind _ _ _ _, hpre⟩ rfl (by rw [List.length_map]; exact hlen) hL.2.1 hst (lv_room (by rw [cat_sum]; exact h8)) hd ⟨hc, hs⟩
theorem so_80 (F : mF p R s args m c w own cc nL) (hKs : mMet l w K d) (hdd : d + 1 ≤ R.frames ∧ 40 * d + 99 ≤ R.locals) {k idx : Nat} (hk : k < 229) (hkd : mKd k = 2) (hct : ct = true) (hcc : mctor k = true) {u : mV} {As : List mV} {S0 : List mV} (hS0 : S0 = As.reverse ++ u :: S) (hu : 3 < u.1) (hlen : As.length = mNa k) (h8 : (S.map mcat).sum ≤ 8) (hl : (Cond.methodLinkNest own idx (mNm k) RX9).before args s = true) (hd : decode cc pc = .ok (.invokespecial idx, 3)) {r : Int} {σ' : mM} (hrun : K k (u :: As) σ = some (r, σ')) (hsz : ct = true → (s.heap.size : Int) = mb w + n0) (hal : σ' 905 0 = σ 905 0 + (mal k : Int) ∧ σ' 905 1 = σ 905 1 + (msl k : Int) ∧ σ' 905 0 ≤ n0 + (R.cells : Int) ∧ σ' 905 1 ≤ s0 + (R.slots : Int))
    (kk : mGoal p l e R s m args below meth c Q w ct nL n0 s0 (pc + 3) L (mpush (mRa k) r S) σ') : mGoal p l e R s m args below meth c Q w ct nL n0 s0 pc L S0 σ := by
  obtain ⟨f1, f2, f3, f4, f5, f6, f7, f8, f9, -⟩ := mFa_all hk
  have hsub : ∀ v ∈ S, v ∈ S0 := fun v hv => by rw [hS0]; exact List.mem_append_right _ (List.mem_cons_of_mem _ hv)
  have hsub2 : ∀ v ∈ (u :: As), v ∈ S0 := fun v hv => by
    rw [hS0]
    rcases List.mem_cons.mp hv with rfl | h
    · exact List.mem_append_right _ List.mem_cons_self
    · exact List.mem_append_left _ (List.mem_reverse.mpr h)
  refine so_behind F (k := k) (as := u :: As) (by rw [hcc, hct]) hsz (fun _ => (by rw [hct] at *; contradiction)) (fun _ => hal) hsub hsub2 (fun H locs cells slots ls hL hW hS okS hz hc hs => ?_) kk
  have okA : ∀ v ∈ u :: As, okV (mz σ 0) v := fun v hv => okS v (hsub2 v hv)
  have hM := hKs k (u :: As) σ r σ' hk hrun hW.1 (fun h => by rw [hcc] at h; cases h) okA
  have eb : mrep w u = .ref (madr w u.2.toNat) := by
    obtain ⟨t, x⟩ := u
    exact mrep_r w hu x
  have hcode := F.2.2.2.2.1 _ (mWd1_ws f1 rfl)
  have hini := F.2.2.2.2.1 _ (mWd1_ws f2 rfl)
  have hpre := m_pre F (ct' := mctor k) (as := u :: As) hW hS (fun h => hz (hct.trans (hcc.symm.trans h)))
  have hlen2 : ∀ sig, parseMethodDescriptor (mNm k).desc = some sig → mNa k = sig.parameters.length := fun sig h => by rw [h] at f8; exact (Option.some.inj f8).symm
  have hst : S0.map (mrep w) = (As.map (mrep w)).reverse ++ .ref (madr w u.2.toNat) :: S.map (mrep w) := by rw [hS0, List.map_append, List.map_reverse, List.map_cons, eb]
  have ha : ((u :: As).map (mrep w)).toArray = (Value.ref (madr w u.2.toNat) :: As.map (mrep w)).toArray := by rw [List.map_cons, eb]
  rw [ha] at hpre ⊢
  obtain ⟨f10, f11, f12⟩ := f5 hkd
  have hmem : Cond.code (mNm k) (mCc k) (mmaxL k) none ∈ mwsl k := by rw [← f12]; exact List.mem_cons_self
  rw [f12] at hcode
  exact va_runIN (b := (madr w u.2.toNat)) (As := As.map (mrep w)) ⟨F.1, F.2.1, F.2.2.1, F.2.2.2.1, F.2.2.2.2.1⟩ hM ⟨⟨⟨rfl, rfl, hdd.1, (by have := hdd.2; show 8 + (mmaxL k + 11) + (40 * d + 60) ≤ R.locals; omega), m_words F hk, hmem⟩, hcode, hini, f7, hlen2, hl⟩, f11, F.2.2.2.2.1 _ (mWd1_ws f10 rfl)⟩ ⟨mPc_blind _ _ _ _, hpre⟩ rfl (by rw [List.length_map]; exact hlen) hL.2.1 hst (lv_room (by rw [cat_sum]; exact h8)) hd ⟨hc, hs⟩
theorem snd_F {op n : Nat} {ps : List Nat} {mx : Int × Int} (hop : op < 90) (F : mF p R s args m c w own cc nL) (hsz : ct = true → (s.heap.size : Int) = mb w + n0) (hmx : mx = (n0 + (R.cells : Int), s0 + (R.slots : Int))) (hKs : mMet l w K d) (hdd : d + 1 ≤ R.frames ∧ 40 * d + 99 ≤ R.locals) (hd : decode cc pc = .ok (mInsF op ps)) (hn : n = (mInsF op ps).2) (hl : mLkK own ct op ps = true)
    (hg : ∀ pc L S σ, g pc L S σ = some a0 → mGoal p l e R s m args below meth c Q w ct nL n0 s0 pc L S σ) (h : mstepF K g op n ps mx pc L S σ = some a0) : mGoal p l e R s m args below meth c Q w ct nL n0 s0 pc L S σ := by
  subst hmx
  have lenr : Nat.ble (mp ps 1) S.length = true → (S.take (mp ps 1)).reverse.length = mp ps 1 := fun h => by rw [List.length_reverse, List.length_take]; have := Nat.le_of_ble_eq_true h; omega
  have opt : ∀ {x : mA} {f : Int → mM → mA}, bK x f = some a0 → ∃ q : Int × mM, x = some q ∧ f q.1 q.2 = some a0 := by
    intro x f h
    cases x with
    | none => cases h
    | some q => exact ⟨q, rfl, h⟩
  by_cases e : op = 76
  · subst e
    have hn : n = 3 := hn
    subst hn
    have hl : (Nat.blt (mp ps 0) 229 && Nat.beq (mKd (mp ps 0)) 0 && Nat.beq (mp ps 1) (mNa (mp ps 0) + 1) && Nat.beq (mp ps 2) (mRa (mp ps 0)) && (!ct && !mctor (mp ps 0)) && (Nat.ble 20 (mp ps 3) && Nat.blt (mp ps 3) 31) && decide (mC (mp ps 3 - 20) = (mNm (mp ps 0)).cls) && decide (mWd1 (mp ps 5) = some (.methodLink own (mp ps 4) (mNm (mp ps 0))))) = true := hl
    simp only [Bool.and_eq_true, Bool.not_eq_true', decide_eq_true_eq] at hl
    obtain ⟨⟨⟨⟨⟨⟨⟨l1, l2⟩, l3⟩, l4⟩, l5, l6⟩, l7, l8⟩, l9⟩, l10⟩ := hl
    have l3 := Nat.eq_of_beq_eq_true l3
    have l4 := Nat.eq_of_beq_eq_true l4
    have h : (bif Nat.ble (mp ps 1) S.length && Nat.ble ((S.drop (mp ps 1)).map mcat).sum 8 && Nat.beq (mkd ((S.take (mp ps 1)).reverse.headD (2, 0))) (mp ps 3) then (bK (K (mp ps 0) (S.take (mp ps 1)).reverse σ) fun r σ' => g (pc + 3) L (mpush (mp ps 2) r (S.drop (mp ps 1))) σ') else none) = some a0 := h
    obtain ⟨hb, h⟩ := cond_some h
    simp only [Bool.and_eq_true] at hb
    obtain ⟨q, hq, h⟩ := opt h
    have hlr := lenr hb.1.1
    have hsp := as_split (S := S) (n := mp ps 1)
    generalize (S.take (mp ps 1)).reverse = as at hq hlr hsp hb
    match as, hq, hlr, hsp, hb with
    | u :: As, hq, hlr, hsp, hb =>
      have hu : u.1 = mp ps 3 := Nat.eq_of_beq_eq_true hb.2
      have n1 := Nat.le_of_ble_eq_true l7
      rw [l4] at h
      exact so_76 F hKs hdd (Nat.blt_eq.mp l1) (Nat.eq_of_beq_eq_true l2) l5 l6 (i := mp ps 3 - 20) (by have := Nat.blt_eq.mp l8; omega) l9 (hsp.trans (by rw [List.reverse_cons, List.append_assoc]; rfl)) (by omega) (by have : (u :: As).length = mp ps 1 := hlr; rw [List.length_cons] at this; omega) (Nat.le_of_ble_eq_true hb.1.2) (mWS_in F l10 rfl) hd hq (hg _ _ _ _ h)
    | [], hq, hlr, hsp, hb =>
      have : 0 = mp ps 1 := hlr
      omega
  by_cases e : op = 77
  · subst e
    have hn : n = 3 := hn
    subst hn
    have hl : (Nat.blt (mp ps 0) 229 && Nat.beq (mKd (mp ps 0)) 1 && Nat.beq (mp ps 1) (mNa (mp ps 0)) && Nat.beq (mp ps 2) (mRa (mp ps 0)) && (!ct && !mctor (mp ps 0)) && decide (mWd1 (mp ps 5) = some (.methodLink own (mp ps 4) (mNm (mp ps 0))))) = true := hl
    simp only [Bool.and_eq_true, Bool.not_eq_true', decide_eq_true_eq] at hl
    obtain ⟨⟨⟨⟨⟨l1, l2⟩, l3⟩, l4⟩, l5, l6⟩, l10⟩ := hl
    have l3 := Nat.eq_of_beq_eq_true l3
    have l4 := Nat.eq_of_beq_eq_true l4
    have h : (bif Nat.ble (mp ps 1) S.length && Nat.ble ((S.drop (mp ps 1)).map mcat).sum 8 then (bK (K (mp ps 0) (S.take (mp ps 1)).reverse σ) fun r σ' => g (pc + 3) L (mpush (mp ps 2) r (S.drop (mp ps 1))) σ') else none) = some a0 := h
    obtain ⟨hb, h⟩ := cond_some h
    simp only [Bool.and_eq_true] at hb
    obtain ⟨q, hq, h⟩ := opt h
    have hlr := lenr hb.1
    rw [l4] at h
    exact so_77 F hKs hdd (Nat.blt_eq.mp l1) (Nat.eq_of_beq_eq_true l2) l5 l6 (as_split (n := mp ps 1)) (by rw [hlr, l3]) (Nat.le_of_ble_eq_true hb.2) (mWS_in F l10 rfl) hd hq (hg _ _ _ _ h)
  by_cases e : op = 79
  · subst e
    have hn : n = 3 := hn
    subst hn
    have hl : (Nat.blt (mp ps 0) 229 && Nat.beq (mKd (mp ps 0)) 1 && Nat.beq (mp ps 1) (mNa (mp ps 0)) && Nat.beq (mp ps 2) (mRa (mp ps 0)) && (!ct && !mctor (mp ps 0)) && decide (mWd1 (mp ps 5) = some (.methodLinkNest own (mp ps 4) (mNm (mp ps 0)) RX9))) = true := hl
    simp only [Bool.and_eq_true, Bool.not_eq_true', decide_eq_true_eq] at hl
    obtain ⟨⟨⟨⟨⟨l1, l2⟩, l3⟩, l4⟩, l5, l6⟩, l10⟩ := hl
    have l3 := Nat.eq_of_beq_eq_true l3
    have l4 := Nat.eq_of_beq_eq_true l4
    have h : (bif Nat.ble (mp ps 1) S.length && Nat.ble ((S.drop (mp ps 1)).map mcat).sum 8 then (bK (K (mp ps 0) (S.take (mp ps 1)).reverse σ) fun r σ' => g (pc + 3) L (mpush (mp ps 2) r (S.drop (mp ps 1))) σ') else none) = some a0 := h
    obtain ⟨hb, h⟩ := cond_some h
    simp only [Bool.and_eq_true] at hb
    obtain ⟨q, hq, h⟩ := opt h
    have hlr := lenr hb.1
    rw [l4] at h
    exact so_79 F hKs hdd (Nat.blt_eq.mp l1) (Nat.eq_of_beq_eq_true l2) l5 l6 (as_split (n := mp ps 1)) (by rw [hlr, l3]) (Nat.le_of_ble_eq_true hb.2) (va_Nw.use (A := args) rfl (F.2.2.2.2.2.1.1 _ (mWd1_in l10) rfl)) hd hq (hg _ _ _ _ h)
  by_cases e : op = 78
  · subst e
    have hn : n = 3 := hn
    subst hn
    have hl : (Nat.blt (mp ps 0) 229 && Nat.beq (mKd (mp ps 0)) 2 && Nat.beq (mp ps 1) (mNa (mp ps 0) + 1) && Nat.beq (mRa (mp ps 0)) 0 && (ct && mctor (mp ps 0)) && decide (mWd1 (mp ps 5) = some (.methodLink own (mp ps 4) (mNm (mp ps 0))))) = true := hl
    simp only [Bool.and_eq_true, decide_eq_true_eq] at hl
    obtain ⟨⟨⟨⟨⟨l1, l2⟩, l3⟩, l4⟩, l5, l6⟩, l10⟩ := hl
    have l3 := Nat.eq_of_beq_eq_true l3
    have l4 := Nat.eq_of_beq_eq_true l4
    have h : (bif Nat.ble (mp ps 1) S.length && Nat.ble ((S.drop (mp ps 1)).map mcat).sum 8 && Nat.blt 3 (mkd ((S.take (mp ps 1)).reverse.headD (2, 0))) then (bK (K (mp ps 0) (S.take (mp ps 1)).reverse σ) fun _ σ' => if σ' 905 0 = σ 905 0 + (mal (mp ps 0) : Int) ∧ σ' 905 1 = σ 905 1 + (msl (mp ps 0) : Int) ∧ σ' 905 0 ≤ n0 + (R.cells : Int) ∧ σ' 905 1 ≤ s0 + (R.slots : Int) then g (pc + 3) L (S.drop (mp ps 1)) σ' else none) else none) = some a0 := h
    obtain ⟨hb, h⟩ := cond_some h
    simp only [Bool.and_eq_true] at hb
    obtain ⟨q, hq, h⟩ := opt h
    by_cases hal : q.2 905 0 = σ 905 0 + (mal (mp ps 0) : Int) ∧ q.2 905 1 = σ 905 1 + (msl (mp ps 0) : Int) ∧ q.2 905 0 ≤ n0 + (R.cells : Int) ∧ q.2 905 1 ≤ s0 + (R.slots : Int)
    · rw [if_pos hal] at h
      have hlr := lenr hb.1.1
      have hsp := as_split (S := S) (n := mp ps 1)
      generalize (S.take (mp ps 1)).reverse = as at hq hlr hsp hb
      match as, hq, hlr, hsp, hb with
      | u :: As, hq, hlr, hsp, hb =>
        have hu : 3 < u.1 := Nat.blt_eq.mp hb.2
        have h : g (pc + 3) L (mpush (mRa (mp ps 0)) q.1 (S.drop (mp ps 1))) q.2 = some a0 := by rw [l4]; exact h
        exact so_78 F hKs hdd (Nat.blt_eq.mp l1) (Nat.eq_of_beq_eq_true l2) l5 l6 (hsp.trans (by rw [List.reverse_cons, List.append_assoc]; rfl)) hu (by have : (u :: As).length = mp ps 1 := hlr; rw [List.length_cons] at this; omega) (Nat.le_of_ble_eq_true hb.1.2) (mWS_in F l10 rfl) hd hq hsz hal (hg _ _ _ _ h)
      | [], hq, hlr, hsp, hb =>
        have : 0 = mp ps 1 := hlr
        omega
    · rw [if_neg hal] at h
      cases h
  by_cases e : op = 80
  · subst e
    have hn : n = 3 := hn
    subst hn
    have hl : (Nat.blt (mp ps 0) 229 && Nat.beq (mKd (mp ps 0)) 2 && Nat.beq (mp ps 1) (mNa (mp ps 0) + 1) && Nat.beq (mRa (mp ps 0)) 0 && (ct && mctor (mp ps 0)) && decide (mWd1 (mp ps 5) = some (.methodLinkNest own (mp ps 4) (mNm (mp ps 0)) RX9))) = true := hl
    simp only [Bool.and_eq_true, decide_eq_true_eq] at hl
    obtain ⟨⟨⟨⟨⟨l1, l2⟩, l3⟩, l4⟩, l5, l6⟩, l10⟩ := hl
    have l3 := Nat.eq_of_beq_eq_true l3
    have l4 := Nat.eq_of_beq_eq_true l4
    have h : (bif Nat.ble (mp ps 1) S.length && Nat.ble ((S.drop (mp ps 1)).map mcat).sum 8 && Nat.blt 3 (mkd ((S.take (mp ps 1)).reverse.headD (2, 0))) then (bK (K (mp ps 0) (S.take (mp ps 1)).reverse σ) fun _ σ' => if σ' 905 0 = σ 905 0 + (mal (mp ps 0) : Int) ∧ σ' 905 1 = σ 905 1 + (msl (mp ps 0) : Int) ∧ σ' 905 0 ≤ n0 + (R.cells : Int) ∧ σ' 905 1 ≤ s0 + (R.slots : Int) then g (pc + 3) L (S.drop (mp ps 1)) σ' else none) else none) = some a0 := h
    obtain ⟨hb, h⟩ := cond_some h
    simp only [Bool.and_eq_true] at hb
    obtain ⟨q, hq, h⟩ := opt h
    by_cases hal : q.2 905 0 = σ 905 0 + (mal (mp ps 0) : Int) ∧ q.2 905 1 = σ 905 1 + (msl (mp ps 0) : Int) ∧ q.2 905 0 ≤ n0 + (R.cells : Int) ∧ q.2 905 1 ≤ s0 + (R.slots : Int)
    · rw [if_pos hal] at h
      have hlr := lenr hb.1.1
      have hsp := as_split (S := S) (n := mp ps 1)
      generalize (S.take (mp ps 1)).reverse = as at hq hlr hsp hb
      match as, hq, hlr, hsp, hb with
      | u :: As, hq, hlr, hsp, hb =>
        have hu : 3 < u.1 := Nat.blt_eq.mp hb.2
        have h : g (pc + 3) L (mpush (mRa (mp ps 0)) q.1 (S.drop (mp ps 1))) q.2 = some a0 := by rw [l4]; exact h
        exact so_80 F hKs hdd (Nat.blt_eq.mp l1) (Nat.eq_of_beq_eq_true l2) l5 l6 (hsp.trans (by rw [List.reverse_cons, List.append_assoc]; rfl)) hu (by have : (u :: As).length = mp ps 1 := hlr; rw [List.length_cons] at this; omega) (Nat.le_of_ble_eq_true hb.1.2) (va_Nw.use (A := args) rfl (F.2.2.2.2.2.1.1 _ (mWd1_in l10) rfl)) hd hq hsz hal (hg _ _ _ _ h)
      | [], hq, hlr, hsp, hb =>
        have : 0 = mp ps 1 := hlr
        omega
    · rw [if_neg hal] at h
      cases h
  by_cases e : op = 81
  · subst e
    have hn : n = 3 := hn
    subst hn
    have hl := of_decide_eq_true (p := (mWd1 (mp ps 1) = some (.methodLink own (mp ps 0) Lib.Math.min.name))) hl
    obtain ⟨x, y, S', rfl, h1⟩ := mpop2_some h
    obtain ⟨hb, h1⟩ := cond_some h1
    exact so_81 F (mWS_in F hl rfl) hd (Nat.le_of_ble_eq_true hb) (hg _ _ _ _ h1)
  by_cases e : op = 82
  · subst e
    have hn : n = 3 := hn
    subst hn
    have hl := of_decide_eq_true (p := (mWd1 (mp ps 1) = some (.methodLink own (mp ps 0) Lib.Math.max.name))) hl
    obtain ⟨x, y, S', rfl, h1⟩ := mpop2_some h
    obtain ⟨hb, h1⟩ := cond_some h1
    exact so_82 F (mWS_in F hl rfl) hd (Nat.le_of_ble_eq_true hb) (hg _ _ _ _ h1)
  by_cases e : op = 83
  · subst e
    have hn : n = 3 := hn
    subst hn
    have hl := of_decide_eq_true (p := (mWd1 (mp ps 1) = some (.methodLink own (mp ps 0) arraycopyName))) hl
    obtain ⟨k, S1, rfl, h1⟩ := mpop1_some h
    obtain ⟨dp, S2, rfl, h2⟩ := mpop1_some h1
    obtain ⟨t2, x2, S3, rfl, ht2, h3⟩ := mpopR_some h2
    obtain ⟨sp, S4, rfl, h4⟩ := mpop1_some h3
    obtain ⟨t1, x1, S5, rfl, ht1, h5⟩ := mpopR_some h4
    obtain ⟨hb, h6⟩ := cond_some h5
    have hb : ((Nat.ble 1000 t1 && Nat.blt t1 2000 && Nat.ble 1000 t2 && Nat.blt t2 2000) && Nat.ble (S5.map mcat).sum 8) = true := hb
    simp only [Bool.and_eq_true] at hb
    obtain ⟨hc, h7⟩ := bCp_some h6
    exact so_83 F (Nat.le_of_ble_eq_true hb.1.1.1.1) (Nat.blt_eq.mp hb.1.1.1.2) (Nat.le_of_ble_eq_true hb.1.1.2) (Nat.blt_eq.mp hb.1.2) (Nat.le_of_ble_eq_true hb.2) hc (mWS_in F hl rfl) hd (hg _ _ _ _ h7)
  by_cases e : op = 84
  · subst e
    have hn : n = 3 := hn
    subst hn
    have hl := of_decide_eq_true (p := (mWd1 (mp ps 1) = some (.methodLink own (mp ps 0) arraycopyName))) hl
    obtain ⟨k, S1, rfl, h1⟩ := mpop1_some h
    obtain ⟨dp, S2, rfl, h2⟩ := mpop1_some h1
    obtain ⟨t2, x2, S3, rfl, ht2, h3⟩ := mpopR_some h2
    obtain ⟨sp, S4, rfl, h4⟩ := mpop1_some h3
    obtain ⟨t1, x1, S5, rfl, ht1, h5⟩ := mpopR_some h4
    obtain ⟨hb, h6⟩ := cond_some h5
    have hb : ((Nat.ble 3000 t1 && Nat.blt t1 4000 && Nat.ble 3000 t2 && Nat.blt t2 4000) && Nat.ble (S5.map mcat).sum 8) = true := hb
    simp only [Bool.and_eq_true] at hb
    obtain ⟨hc, h7⟩ := bCp_some h6
    exact so_84 F (Nat.le_of_ble_eq_true hb.1.1.1.1) (Nat.blt_eq.mp hb.1.1.1.2) (Nat.le_of_ble_eq_true hb.1.1.2) (Nat.blt_eq.mp hb.1.2) (Nat.le_of_ble_eq_true hb.2) hc (mWS_in F hl rfl) hd (hg _ _ _ _ h7)
  exfalso
  have nb : ∀ {k : Nat}, ¬ op = k → Nat.beq op k = false := fun {k} hk => by
    cases hq : Nat.beq op k
    · rfl
    · exact absurd (Nat.eq_of_beq_eq_true hq) hk
  unfold mstepF at h
  simp only [nb (by assumption : ¬ op = 76), nb (by assumption : ¬ op = 77), nb (by assumption : ¬ op = 79), nb (by assumption : ¬ op = 78), nb (by assumption : ¬ op = 80), nb (by assumption : ¬ op = 81), nb (by assumption : ¬ op = 82), nb (by assumption : ¬ op = 83), nb (by assumption : ¬ op = 84), Bool.or_false, cond_false] at h
  cases h
end
def mInsR (op : Nat) : Instr × Nat := bif Nat.beq op 90 || Nat.beq op 94 then (.ireturn, 1) else bif Nat.beq op 91 then (.lreturn, 1) else bif Nat.beq op 92 then (.areturn, 1) else (.return_, 1)
def mIns (i : mI) (pc : Nat) : Instr × Nat :=
  bif Nat.blt i.1 20 then mInsA i.1 i.2.1 i.2.2.1 i.2.2.2 else bif Nat.blt i.1 42 then mInsB i.1 else bif Nat.blt i.1 51 || Nat.ble 100 i.1 then mInsC i.1 i.2.1 i.2.2.2 pc
  else bif Nat.blt i.1 67 || Nat.beq i.1 68 then mInsD i.1 i.2.2.2 else bif Nat.blt i.1 76 then mInsE i.1 i.2.2.2 else bif Nat.blt i.1 90 then mInsF i.1 i.2.2.2 else mInsR i.1
def mLk (own : String) (ct ini : Bool) (i : mI) : Bool :=
  bif Nat.blt i.1 20 then mLkA own i.1 i.2.2.1 i.2.2.2 else bif Nat.blt i.1 42 then true else bif Nat.blt i.1 51 || Nat.ble 100 i.1 then mLkC i.1 i.2.2.2
  else bif Nat.blt i.1 67 || Nat.beq i.1 68 then mLkD own ct ini i.1 i.2.2.1 i.2.2.2 else bif Nat.blt i.1 76 then mLkE own ct i.1 i.2.2.2 else bif Nat.blt i.1 90 then mLkK own ct i.1 i.2.2.2 else true
section
variable {p : Program} {l : Launch} {e : Env} {R : Room} {s : State} {m : MethodId} {args : Array Value} {below : List Frame} {meth : Method} {c : Code} {Q : State → Prop} {w : mW} {ct : Bool} {nL : Nat} {n0 s0 : Int} {own : String} {cc : ByteArray} {pc : Nat} {L S : List mV} {σ : mM} {a0 : Int × mM} {g : mG} {K : mK} {d : Nat}

theorem snd_step {i : mI} {mx : Int × Int} {ini : Bool} (F : mF p R s args m c w own cc nL) (hini : ini = true → meth.name = "<init>") (hsz : ct = true → (s.heap.size : Int) = mb w + n0) (hmx : mx = (n0 + (R.cells : Int), s0 + (R.slots : Int))) (hKs : mMet l w K d) (hdd : d + 1 ≤ R.frames ∧ 40 * d + 99 ≤ R.locals)
    (hd : decode cc pc = .ok (mIns i pc)) (hn : i.2.1 = (mIns i pc).2) (hl : mLk own ct ini i = true) (hfin : 90 ≤ i.1 → i.1 < 100 → mstepR i.1 i.2.2.2 S σ = some a0 → mGoal p l e R s m args below meth c Q w ct nL n0 s0 pc L S σ)
    (hg : ∀ pc L S σ, g pc L S σ = some a0 → mGoal p l e R s m args below meth c Q w ct nL n0 s0 pc L S σ) (h : mstep K g mx i pc L S σ = some a0) : mGoal p l e R s m args below meth c Q w ct nL n0 s0 pc L S σ := by
  obtain ⟨op, n, v, ps⟩ := i
  have bl : ∀ {k : Nat}, op < k → Nat.blt op k = true := fun h => Nat.blt_eq.mpr h
  have bn : ∀ {k : Nat}, ¬ op < k → Nat.blt op k = false := fun {k} h => by
    cases hb : Nat.blt op k
    · rfl
    · exact absurd (Nat.blt_eq.mp hb) h
  have h : (bif Nat.blt op 20 then mstepA g op n v ps pc L S σ else bif Nat.blt op 42 then mstepB g op n pc L S σ else bif Nat.blt op 51 || Nat.ble 100 op then mstepC g op n ps pc L S σ else bif Nat.blt op 67 || Nat.beq op 68 then mstepD g op n v ps pc L S σ else bif Nat.blt op 76 then mstepE g op n ps mx pc L S σ else bif Nat.blt op 90 then mstepF K g op n ps mx pc L S σ else mstepR op ps S σ) = some a0 := h
  have hd : decode cc pc = .ok (bif Nat.blt op 20 then mInsA op n v ps else bif Nat.blt op 42 then mInsB op else bif Nat.blt op 51 || Nat.ble 100 op then mInsC op n ps pc else bif Nat.blt op 67 || Nat.beq op 68 then mInsD op ps else bif Nat.blt op 76 then mInsE op ps else bif Nat.blt op 90 then mInsF op ps else mInsR op) := hd
  have hn : n = (bif Nat.blt op 20 then mInsA op n v ps else bif Nat.blt op 42 then mInsB op else bif Nat.blt op 51 || Nat.ble 100 op then mInsC op n ps pc else bif Nat.blt op 67 || Nat.beq op 68 then mInsD op ps else bif Nat.blt op 76 then mInsE op ps else bif Nat.blt op 90 then mInsF op ps else mInsR op).2 := hn
  have hl : (bif Nat.blt op 20 then mLkA own op v ps else bif Nat.blt op 42 then true else bif Nat.blt op 51 || Nat.ble 100 op then mLkC op ps else bif Nat.blt op 67 || Nat.beq op 68 then mLkD own ct ini op v ps else bif Nat.blt op 76 then mLkE own ct op ps else bif Nat.blt op 90 then mLkK own ct op ps else true) = true := hl
  by_cases e : op < 20
  · rw [bl e] at h hd hn hl
    exact snd_A e F hd hn hl hg h
  rw [bn e] at h hd hn hl
  by_cases e2 : op < 42
  · rw [bl e2] at h hd hn hl
    exact snd_B e2 (by omega) F hd hn hg h
  rw [bn e2] at h hd hn hl
  cases e3 : Nat.blt op 51 || Nat.ble 100 op
  · rw [e3] at h hd hn hl
    rw [Bool.or_eq_false_iff] at e3
    cases e4 : Nat.blt op 67 || Nat.beq op 68
    · rw [e4] at h hd hn hl
      by_cases e5 : op < 76
      · rw [bl e5] at h hd hn hl
        exact snd_E F hsz hmx hd hn hl hg h
      rw [bn e5] at h hd hn hl
      by_cases e6 : op < 90
      · rw [bl e6] at h hd hn hl
        exact snd_F e6 F hsz hmx hKs hdd hd hn hl hg h
      rw [bn e6] at h
      refine hfin (by omega) ?_ h
      rcases Nat.lt_or_ge op 100 with z | z
      · exact z
      · have := Nat.ble_eq.mpr z
        rw [this] at e3
        exact absurd e3.2 (by decide)
    · rw [e4] at h hd hn hl
      exact snd_D F hini hd hn hl hg h
  · rw [e3] at h hd hn hl
    exact snd_C F hd hn hl hg h
end
