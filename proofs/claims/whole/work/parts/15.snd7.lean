/-! SOUNDNESS 7: group E; contracts and calls -/
def mInsE (op : Nat) (ps : List Nat) : Instr × Nat :=
  bif Nat.beq op 67 then (.aastore, 1) else bif Nat.beq op 70 then (.newarray .int, 2) else bif Nat.beq op 71 then (.newarray .boolean, 2) else bif Nat.beq op 72 then (.newarray .long, 2)
  else bif Nat.beq op 73 then (.anewarray (mp ps 1), 3) else bif Nat.beq op 74 then (.new (mp ps 2), 3) else (.invokespecial (mp ps 0), 3)
def mLkE (own : String) (ct : Bool) (op : Nat) (ps : List Nat) : Bool := ct &&
  (bif Nat.beq op 67 then true else bif Nat.beq op 70 then Nat.beq (mp ps 0) 1000 else bif Nat.beq op 71 then Nat.beq (mp ps 0) 2000 else bif Nat.beq op 72 then Nat.beq (mp ps 0) 3000
  else bif Nat.beq op 73 then Nat.beq (mp ps 0) 9000 && decide (mWd1 (mp ps 2) = some (.classLink own (mp ps 1) RX3))
  else bif Nat.beq op 74 then Nat.blt (mp ps 0) 11 && Nat.beq (mp ps 1) (mNf (mp ps 0)) && decide (mWd1 (mp ps 3) = some (.classLink own (mp ps 2) (mC (mp ps 0)))) && decide (mWd1 (mp ps 4) = some (.instantiable (mC (mp ps 0)) (mp ps 1))) && decide (mWd1 (mp ps 5) = some (.initialized (mC (mp ps 0))))
  else Nat.beq op 75 && decide (mWd1 (mp ps 1) = some (.methodLink own (mp ps 0) Lib.objectInit)))
section
variable {p : Program} {l : Launch} {e : Env} {R : Room} {s : State} {m : MethodId} {args : Array Value} {below : List Frame} {meth : Method} {c : Code} {Q : State → Prop} {w : mW} {ct : Bool} {nL : Nat} {n0 s0 : Int} {own : String} {cc : ByteArray} {pc : Nat} {L S : List mV} {σ : mM} {a0 : Int × mM} {g : mG}

theorem snd_E {op n : Nat} {ps : List Nat} {mx : Int × Int} (F : mF p R s args m c w own cc nL) (hsz : ct = true → (s.heap.size : Int) = mb w + n0) (hmx : mx = (n0 + (R.cells : Int), s0 + (R.slots : Int))) (hd : decode cc pc = .ok (mInsE op ps)) (hn : n = (mInsE op ps).2) (hl : mLkE own ct op ps = true)
    (hg : ∀ pc L S σ, g pc L S σ = some a0 → mGoal p l e R s m args below meth c Q w ct nL n0 s0 pc L S σ) (h : mstepE g op n ps mx pc L S σ = some a0) : mGoal p l e R s m args below meth c Q w ct nL n0 s0 pc L S σ := by
  subst hmx
  unfold mLkE at hl
  rw [Bool.and_eq_true] at hl
  obtain ⟨hct, hl⟩ := hl
  have hsz := hsz hct
  by_cases e : op = 67
  · subst e
    have hn : n = 1 := hn
    subst hn
    obtain ⟨t2, v, S0, rfl, ht2, h0⟩ := mpopR_some h
    obtain ⟨i, S1, rfl, h1⟩ := mpop1_some h0
    obtain ⟨t, x, S', rfl, ht, h2⟩ := mpopR_some h1
    obtain ⟨hbb, h3⟩ := cond_some h2
    rw [Bool.and_eq_true] at hbb
    have e1 := Nat.eq_of_beq_eq_true hbb.1
    have e2 := Nat.eq_of_beq_eq_true hbb.2
    subst e1
    subst e2
    obtain ⟨hi, h4⟩ := bIn_some h3
    exact so_67 F hct hi hd (hg _ _ _ _ h4)
  have na : ∀ {op : Nat} (hop : op = 70 ∨ op = 71 ∨ op = 72 ∨ op = 73) (h : mstepE g op n ps (n0 + (R.cells : Int), s0 + (R.slots : Int)) pc L S σ = some a0), ∃ k S', S = (0, k) :: S' ∧ (0 ≤ k ∧ k < 1000 ∧ mlay (mz σ 0) = mp ps 0 + k.toNat ∧ σ 905 0 + 1 ≤ n0 + (R.cells : Int) ∧ σ 905 1 + k ≤ s0 + (R.slots : Int)) ∧ g (pc + n) L ((mp ps 0 + k.toNat, σ 905 0) :: S') (mnew σ (mp ps 0 + k.toNat) k.toNat) = some a0 := by
    intro op hop h
    have h : mpop1 S (fun k S' => if 0 ≤ k ∧ k < 1000 ∧ mlay (mz σ 0) = mp ps 0 + k.toNat ∧ σ 905 0 + 1 ≤ n0 + (R.cells : Int) ∧ σ 905 1 + k ≤ s0 + (R.slots : Int) then g (pc + n) L ((mp ps 0 + k.toNat, σ 905 0) :: S') (mnew σ (mp ps 0 + k.toNat) k.toNat) else none) = some a0 := by
      rcases hop with rfl | rfl | rfl | rfl <;> exact h
    obtain ⟨k, S', e1, h1⟩ := mpop1_some h
    by_cases q : 0 ≤ k ∧ k < 1000 ∧ mlay (mz σ 0) = mp ps 0 + k.toNat ∧ σ 905 0 + 1 ≤ n0 + (R.cells : Int) ∧ σ 905 1 + k ≤ s0 + (R.slots : Int)
    · rw [if_pos q] at h1
      exact ⟨k, S', e1, q, h1⟩
    · rw [if_neg q] at h1
      cases h1
  by_cases e : op = 70
  · subst e
    have hn : n = 2 := hn
    subst hn
    have hb := Nat.eq_of_beq_eq_true (show Nat.beq (mp ps 0) 1000 = true from hl)
    obtain ⟨k, S', rfl, q, h1⟩ := na (by omega) h
    rw [hb] at q h1
    exact so_newi F hct hsz ⟨q.1, q.2.1⟩ q.2.2.1 q.2.2.2 hd (hg _ _ _ _ h1)
  by_cases e : op = 71
  · subst e
    have hn : n = 2 := hn
    subst hn
    have hb := Nat.eq_of_beq_eq_true (show Nat.beq (mp ps 0) 2000 = true from hl)
    obtain ⟨k, S', rfl, q, h1⟩ := na (by omega) h
    rw [hb] at q h1
    exact so_newb F hct hsz ⟨q.1, q.2.1⟩ q.2.2.1 q.2.2.2 hd (hg _ _ _ _ h1)
  by_cases e : op = 72
  · subst e
    have hn : n = 2 := hn
    subst hn
    have hb := Nat.eq_of_beq_eq_true (show Nat.beq (mp ps 0) 3000 = true from hl)
    obtain ⟨k, S', rfl, q, h1⟩ := na (by omega) h
    rw [hb] at q h1
    exact so_newj F hct hsz ⟨q.1, q.2.1⟩ q.2.2.1 q.2.2.2 hd (hg _ _ _ _ h1)
  by_cases e : op = 73
  · subst e
    have hn : n = 3 := hn
    subst hn
    have hl : (Nat.beq (mp ps 0) 9000 && decide (mWd1 (mp ps 2) = some (.classLink own (mp ps 1) RX3))) = true := hl
    rw [Bool.and_eq_true, decide_eq_true_eq] at hl
    have hb := Nat.eq_of_beq_eq_true hl.1
    obtain ⟨k, S', rfl, q, h1⟩ := na (by omega) h
    rw [hb] at q h1
    have hk : k = 6 := by
      have := mlay_q (mz σ 0)
      omega
    exact so_newq F hct hsz hk q.2.2.1 q.2.2.2 (mWS_in F hl.2 rfl) hd (hg _ _ _ _ h1)
  by_cases e : op = 74
  · subst e
    have hn : n = 3 := hn
    subst hn
    have hl : (Nat.blt (mp ps 0) 11 && Nat.beq (mp ps 1) (mNf (mp ps 0)) && decide (mWd1 (mp ps 3) = some (.classLink own (mp ps 2) (mC (mp ps 0)))) && decide (mWd1 (mp ps 4) = some (.instantiable (mC (mp ps 0)) (mp ps 1))) && decide (mWd1 (mp ps 5) = some (.initialized (mC (mp ps 0))))) = true := hl
    simp only [Bool.and_eq_true, decide_eq_true_eq] at hl
    have h : (if mlay (mz σ 0) = 20 + mp ps 0 ∧ σ 905 0 + 1 ≤ n0 + (R.cells : Int) ∧ σ 905 1 + (mp ps 1 : Int) ≤ s0 + (R.slots : Int) then g (pc + 3) L ((20 + mp ps 0, σ 905 0) :: S) (mnew σ (20 + mp ps 0) (mp ps 1)) else none) = some a0 := h
    by_cases q : mlay (mz σ 0) = 20 + mp ps 0 ∧ σ 905 0 + 1 ≤ n0 + (R.cells : Int) ∧ σ 905 1 + (mp ps 1 : Int) ≤ s0 + (R.slots : Int)
    · rw [if_pos q] at h
      exact so_newo F hct hsz (Nat.blt_eq.mp hl.1.1.1.1) (Nat.eq_of_beq_eq_true hl.1.1.1.2) q.1 q.2 (mWS_in F hl.1.1.2 rfl) (mWS_in F hl.1.2 rfl) (mWS_in F hl.2 rfl) hd (hg _ _ _ _ h)
    · rw [if_neg q] at h
      cases h
  by_cases e : op = 75
  · subst e
    have hn : n = 3 := hn
    subst hn
    have hl : decide (mWd1 (mp ps 1) = some (.methodLink own (mp ps 0) Lib.objectInit)) = true := hl
    rw [decide_eq_true_eq] at hl
    obtain ⟨t, x, S', rfl, ht, h1⟩ := mpopR_some h
    obtain ⟨hbb, h2⟩ := cond_some h1
    simp only [Bool.and_eq_true] at hbb
    exact so_75 F ⟨Nat.le_of_ble_eq_true hbb.1.1, Nat.blt_eq.mp hbb.1.2⟩ (Nat.le_of_ble_eq_true hbb.2) (mWS_in F hl rfl) hd (hg _ _ _ _ h2)
  exfalso
  have nb : ∀ {k : Nat}, ¬ op = k → Nat.beq op k = false := fun {k} hk => by
    cases hq : Nat.beq op k
    · rfl
    · exact absurd (Nat.eq_of_beq_eq_true hq) hk
  simp only [nb (by assumption : ¬ op = 67), nb (by assumption : ¬ op = 70), nb (by assumption : ¬ op = 71), nb (by assumption : ¬ op = 72), nb (by assumption : ¬ op = 73), nb (by assumption : ¬ op = 74), nb (by assumption : ¬ op = 75), cond_false, Bool.false_and] at hl
  cases hl
end
/-! contracts -/
def mUW (ct : Bool) (w : mW) (σ : mM) (U : State) : Prop := va_P (mdd w) vwCl (mws w σ) U.heap ∧ va_K (mdd w) vwCl (mtys w) U ∧ mEXT w U U.heap ∧ mNW U ∧ mb w ≤ U.heap.size ∧ (ct = true → U.heap.size = mb w + mz σ 0)
def mPc (ct : Bool) (w : mW) (as : List mV) (σ : mM) : Array Value → State → Prop := fun a U => a = (as.map (mrep w)).toArray ∧ mUW ct w σ U
def mrv (w : mW) (rt : Nat) (r : Int) : Option Value := if rt = 0 then none else some (mrep w (rt - 1, r))
def mQc (ct : Bool) (w : mW) (rt : Nat) (r : Int) (σ' : mM) : Array Value → State → Outcome → State → Prop := fun _ st o t =>
  o = .returned (mrv w rt r) ∧ okM w σ' ∧ (ct = false → mFX σ') ∧ (rt ≠ 0 → okV (mz σ' 0) (rt - 1, r)) ∧ va_P (mdd w) vwCl (mws w σ') t.heap ∧ (∀ q, q < mb w → t.heap[q]? = st.heap[q]?) ∧ st.heap.size ≤ t.heap.size
def mrm (d al sl : Nat) : Room := { frames := d, cells := al, slots := sl, locals := 40 * d + 60 }
def mwsl (m : Nat) : List Cond := .code (mNm m) (mCc m) (mmaxL m) (mRt m) :: mWS
/-- the contracts of all methods, by a run of the mini machine at depth d -/
def mMet (l : Launch) (w : mW) (K : mK) (d : Nat) : Prop := ∀ (k : Nat) (as : List mV) (σ : mM) (r : Int) (σ' : mM), k < 229 → K k as σ = some (r, σ') → okM w σ → (mctor k = false → mFX σ) → (∀ v ∈ as, okV (mz σ 0) v) →
  Met l (mNm k) (mwsl k) (mrm d (mal k) (msl k)) (mPc (mctor k) w as σ) (mQc (mctor k) w (mRa k) r σ') (mal k) (msl k) (mAr w)
theorem mEXT_mv {w : mW} {U V : State} {H : Heap} (hvm : U.vm.Alike V.vm) (h : mEXT w U H) : mEXT w V H :=
  ⟨fun k hk => ⟨(h.1 k hk).1.moved hvm, (h.1 k hk).2⟩, h.2.1, h.2.2.1.moved hvm, h.2.2.2.1.moved hvm, h.2.2.2.2.moved hvm⟩
theorem mEXT_kp {w : mW} {U : State} {H H1 : Heap} (h : mEXT w U H) (hb : mb w ≤ H.size) (hq : ∀ q : Nat, q < mb w → H1[q]? = H[q]?) : mEXT w U H1 := by
  have hz : ∀ {C n d : String} {v : Value}, va_Z C n d v (mAr w) U H → va_Z C n d v (mAr w) U H1 := fun h => h.kept fun a _ ha => hq a (Nat.not_le.mp ha)
  exact ⟨fun k hk => ⟨(h.1 k hk).1.kept (fun a _ ha => hq a (Nat.not_le.mp ha)), (h.1 k hk).2⟩, h.2.1, hz h.2.2.1, hz h.2.2.2.1, hz h.2.2.2.2⟩
theorem mNW_vm {U V : State} (hvm : U.vm = V.vm) (h : mNW U) : mNW V := by
  refine ⟨fun x hx hn => ?_, h.2.moved (by rw [hvm]; exact Vm.Alike.refl _)⟩
  have hz := h.1 x hx hn
  cases x <;> first | exact va_Nw.same rfl hvm hz | (cases hn; done)
theorem mNW_warm {s U : State} (hW : s.WarmedH U.vm) (h : mNW s) : mNW U := by
  refine ⟨fun x hx hn => ?_, h.2.moved hW.alike⟩
  have hz := h.1 x hx hn
  cases x <;> first | exact va_Nw.warmM hW hz | exact va_Nw.warmF hW hz | (cases hn; done)
theorem mPc_blind (ct : Bool) (w : mW) (as : List mV) (σ : mM) : FrameBlind (mPc ct w as σ) := by
  intro a U g mk h
  exact ⟨h.1, h.2.1, va_K.moved (u := U) (U := U.calling g mk a) (Vm.Alike.refl U.vm) h.2.2.1, mEXT_mv (U := U) (V := U.calling g mk a) (Vm.Alike.refl U.vm) h.2.2.2.1, mNW_vm (U := U) (V := U.calling g mk a) rfl h.2.2.2.2.1, h.2.2.2.2.2⟩
section
variable {p : Program} {l : Launch} {e : Env} {R : Room} {s : State} {m : MethodId} {args : Array Value} {below : List Frame} {meth : Method} {c : Code} {Q : State → Prop} {w : mW} {ct : Bool} {nL : Nat} {n0 s0 : Int} {own : String} {cc : ByteArray} {pc : Nat} {L S : List mV} {σ : mM} {a0 : Int × mM} {g : mG}

theorem m_call {mc ms rt : Nat} {r : Int} {σ' : mM} {ct' : Bool} {H : Heap} {locs : List Loc} {cells slots : Nat} {ls : Array Slot} {st0 rest : List Value} {a : Array Value}
    (hr : va_Run p l e R s m args below meth c H locs cells slots mc ms (F0 m pc ls st0) rest (mQc ct' w rt r σ' a) (mAr w)) (hS : va_S (mAr w) s.heap H locs) (hb : mb w ≤ s.heap.size)
    (kk : ∀ (H1 : Heap) (locs1 : List Loc), okM w σ' → (ct' = false → mFX σ') → (rt ≠ 0 → okV (mz σ' 0) (rt - 1, r)) → va_P (mdd w) vwCl (mws w σ') H1 → va_S (mAr w) s.heap H1 locs1 → W p l e R s m args below meth c H1 locs1 (cells + mc) (slots + ms) Q (F0 m (pc + 3) ls ((mrv w rt r).toList ++ rest))) :
    W p l e R s m args below meth c H locs cells slots Q (F0 m pc ls st0) := by
  intro T hT X
  obtain ⟨v, st₀, t, T', L2, h0, X', hL, e1, e2, ⟨hv, q1, q2, q3, q4, q5, q6⟩, st⟩ := hr T hT X
  have hv : v = mrv w rt r := Outcome.returned.inj hv
  subst hv
  rw [h0] at q5 q6
  obtain ⟨t2, a1, b1⟩ := kk T'.heap (locs ++ L2) q1 q2 q3 (by rw [e1]; exact q4) ⟨Nat.le_trans hS.1 (by rw [e1]; exact q6), fun q h1 h2 => by
    rw [e1, q5 q (Nat.not_le.mp h2)]
    exact hS.2.1 q h1 h2, fun q hq => by
      rcases List.mem_append.mp hq with h | h
      · exact hS.2.2 q h
      · exact hL q h⟩ T' rfl X'
  exact ⟨t2, st t2 a1, b1⟩
/-- what a call needs of the world -/
theorem m_pre (F : mF p R s args m c w own cc nL) {H : Heap} {locs : List Loc} {ct' : Bool} {as : List mV} (hW : mWd ct w σ H) (hS : va_S (mAr w) s.heap H locs) (hz : ct' = true → H.size = mb w + mz σ 0) (U : State) (hU : U.heap = H) (hV : s.WarmedH U.vm) : mPc ct' w as σ (as.map (mrep w)).toArray U := by
  refine ⟨rfl, by rw [hU]; exact hW.2.2, va_K.moved hV.alike F.2.2.2.2.2.2.1, ?_, mNW_warm hV F.2.2.2.2.2.1, by rw [hU]; exact Nat.le_trans F.2.2.2.2.2.2.2.2.1 hS.1, fun h => by rw [hU]; exact hz h⟩
  rw [hU]
  exact mEXT_kp (mEXT_mv hV.alike F.2.2.2.2.2.2.2.1) F.2.2.2.2.2.2.2.2.1 (fun q hq => hS.2.1 q (Nat.lt_of_lt_of_le hq F.2.2.2.2.2.2.2.2.1) (Nat.not_le.mpr hq))
theorem m_words (F : mF p R s args m c w own cc nL) {k : Nat} (hk : k < 229) : ∀ x ∈ mwsl k, ∀ (a' : Array Value) (U : State), s.WarmedH U.vm → x.before a' U = true := by
  intro x hx a' U hV
  have hin : x ∈ mWS := by
    rcases List.mem_cons.mp hx with rfl | h
    · exact mWd1_ws (mFa_all hk).1 rfl
    · exact h
  exact word_at hV (good_of_word (List.mem_filter.mp hin).2) (F.2.2.2.2.1 x hin)
/-- behind a call -/
theorem so_behind (F : mF p R s args m c w own cc nL) {k : Nat} {r : Int} {σ' : mM} {as : List mV} (hcc : mctor k = ct) (hsz : ct = true → (s.heap.size : Int) = mb w + n0) (hc0 : ct = false → mal k = 0 ∧ msl k = 0) (hal : ct = true → σ' 905 0 = σ 905 0 + (mal k : Int) ∧ σ' 905 1 = σ 905 1 + (msl k : Int) ∧ σ' 905 0 ≤ n0 + (R.cells : Int) ∧ σ' 905 1 ≤ s0 + (R.slots : Int))
    {S0 : List mV} (hS0 : ∀ v ∈ S, v ∈ S0) (hasS : ∀ v ∈ as, v ∈ S0)
    (hrow : ∀ (H : Heap) (locs : List Loc) (cells slots : Nat) (ls : Array Slot), mLr w nL L ls → mWd ct w σ H → va_S (mAr w) s.heap H locs → (∀ v ∈ S0, okV (mz σ 0) v) → (ct = true → H.size = mb w + mz σ 0) → cells + mal k ≤ R.cells → slots + msl k ≤ R.slots →
      va_Run p l e R s m args below meth c H locs cells slots (mal k) (msl k) (F0 m pc ls (S0.map (mrep w))) (S.map (mrep w)) (mQc (mctor k) w (mRa k) r σ' (as.map (mrep w)).toArray) (mAr w))
    (kk : mGoal p l e R s m args below meth c Q w ct nL n0 s0 (pc + 3) L (mpush (mRa k) r S) σ') : mGoal p l e R s m args below meth c Q w ct nL n0 s0 pc L S0 σ := by
  intro H locs cells slots ls hL okL okS hW hS hA
  refine W_size fun hz0 => ?_
  have hz : ct = true → H.size = mb w + mz σ 0 := fun h => m_size h (hsz h) hW.1 hW.2.2 hS F.2.2.2.2.2.2.2.2.1 hA hz0
  have hroom : cells + mal k ≤ R.cells ∧ slots + msl k ≤ R.slots := by
    cases hct : ct
    · have h1 := hc0 hct
      have h2 := hA.1
      have h3 := hA.2.1
      omega
    · have h1 := hal hct
      have h2 := hA.2.2.1 hct
      omega
  refine m_call (hrow H locs cells slots ls hL hW hS okS hz hroom.1 hroom.2) hS F.2.2.2.2.2.2.2.2.1 fun H1 locs1 k1 k2 k3 k4 k5 => ?_
  rw [hcc] at k2
  have hmono : mz σ 0 ≤ mz σ' 0 := by
    cases hct : ct
    · rw [(k2 hct).2.2, (hW.2.1 hct).2.2]
      exact Nat.le_refl _
    · have h1 := (hal hct).1
      have h2 := mz_pos hW.1
      have h3 := mz_pos k1
      omega
  have e1 : (mrv w (mRa k) r).toList ++ S.map (mrep w) = (mpush (mRa k) r S).map (mrep w) := by
    unfold mrv mpush
    by_cases h : mRa k = 0
    · rw [if_pos h, h]
      rfl
    · have : Nat.beq (mRa k) 0 = false := by
        cases hb : Nat.beq (mRa k) 0
        · rfl
        · exact absurd (Nat.eq_of_beq_eq_true hb) h
      rw [if_neg h, this]
      rfl
  rw [e1]
  refine kk H1 locs1 _ _ ls hL (fun v hv => (okL v hv).mono hmono) (fun v hv => ?_) ⟨k1, k2, k4⟩ k5 ⟨hroom.1, hroom.2, fun hct => ?_, fun hct => ?_⟩
  · unfold mpush at hv
    by_cases h : mRa k = 0
    · rw [h] at hv
      exact (okS v (hS0 v hv)).mono hmono
    · have : Nat.beq (mRa k) 0 = false := by
        cases hb : Nat.beq (mRa k) 0
        · rfl
        · exact absurd (Nat.eq_of_beq_eq_true hb) h
      rw [this] at hv
      rcases List.mem_cons.mp hv with rfl | hv
      · exact k3 h
      · exact (okS v (hS0 v hv)).mono hmono
  · have h1 := hal hct
    have h2 := hA.2.2.1 hct
    omega
  · trivial
end
