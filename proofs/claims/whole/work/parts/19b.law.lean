/-! THE LAW: out of a run of the mini machine -/
noncomputable def mgL (K : mK) (mx : Int × Int) : mG := fun pc L S σ => @ite _ (mFX σ) (Classical.propDecidable _) (mgo K mx 229 pc L S σ) none
/-- the memory at the law's entry -/
def mI0 (w : mW) : mM := fun a j => if 900 ≤ a ∧ a < 904 then mex w (a - 900) j else if a = 904 ∧ j = 0 then (mel w 3 : Int) else 0
theorem mret_230 : ((mcd 230).all fun q => !(Nat.ble 90 q.2.1 && Nat.blt q.2.1 100)) = true := by decide +kernel
theorem mret_229 : ((mcd 229).all fun q => !(Nat.ble 90 q.2.1 && Nat.blt q.2.1 100) || Nat.beq q.2.1 94) = true := by decide +kernel
theorem law_out {p : Program} {e : Env} {s : State} {m : MethodId} {below : List Frame} {meth : Method} {c : Code} (l : Launch) {b L : Nat} {xs : Nat → Int32} (C0 : lw_At p s m meth c b L xs) {w : mW} (F : mF p room_1 s #[Value.ref b] m c w R_law code 4) (hmb : mb w = s.heap.size) (hb3 : mea w 3 = b) {n : Nat} {σ' : mM}
    (h : mblk (mcall 2000) (600000, 7302250) 230 (mgL (mcall 2000) (600000, 7302250)) [18] n 0 [(4, 903), (2, 0), (2, 0), (2, 0)] [] (mI0 w) = some (1, σ')) :
    W p l e room_1 s m #[Value.ref b] below meth c s.heap [] 0 0 (lw_Z below #[Value.ref b] s) (entryFrame m ([Value.ref b] : List Value).toArray 4) := by
  have hret : meth.sig.returnType = ret := C0.2.2.1
  have hlocks : meth.locks = false := C0.2.2.2.2.2.2.2.2.1
  have F9 : mF p room_1 s #[Value.ref b] m c w (mNm 229).cls (mCc 229) 4 := F
  have F0' : mF p room_1 s #[Value.ref b] m c w (mNm 230).cls (mCc 230) 4 := F
  have B : ∀ (pc : Nat) (L S : List mV) (σ : mM), mgo (mcall 2000) (600000, 7302250) 229 pc L S σ = some (1, σ') → mGoal p l e room_1 s m #[Value.ref b] below meth c (lw_Z below #[Value.ref b] s) w false 4 0 0 pc L S σ := by
    intro pc L S σ hg
    refine snd_go (k := 229) (by omega) F9 rfl (fun h => by cases h) (fun h => by cases h) rfl (mMet_all l w 2000) (by decide) (fun pc L S σ i hi h90 h100 hR => ?_) hg
    obtain ⟨c1, -, -, -⟩ := mchk_at (by omega : 229 < 231) hi
    rw [mIns_R h90 h100] at c1
    have h94 := List.all_eq_true.mp mret_229 _ (mfind_mem hi)
    obtain ⟨op, n0, v0, ps⟩ := i
    have e94 : op = 94 := by
      simp only [Bool.or_eq_true, Bool.not_eq_true', Bool.and_eq_false_iff] at h94
      rcases h94 with (h1 | h1) | h1
      · exact absurd (Nat.ble_eq.mpr h90) (by rw [h1]; decide)
      · exact absurd (Nat.blt_eq.mpr h100) (by rw [h1]; decide)
      · exact Nat.eq_of_beq_eq_true h1
    subst e94
    match S, hR with
    | [(t, x)], hR =>
      obtain ⟨ht, hR⟩ := cond_some (show (bif Nat.beq t 0 then bIn x 2 (some (x, σ)) else none) = some (1, σ') from hR)
      have ht := Nat.eq_of_beq_eq_true ht
      subst ht
      obtain ⟨-, hR⟩ := bIn_some hR
      cases hR
      intro H locs cells slots ls hL okL okS hW hS hA
      refine va_forget (fun q hq => by rw [← hmb]; exact hS.2.2 q hq) (W.widen hA.1 hA.2.1 ?_)
      exact lw_ret F.1 F.2.1 hret hlocks c1
    | [], hR => cases hR
    | _ :: _ :: _, hR => cases hR
  have G := snd_blk (l := l) (e := e) (below := below) (meth := meth) (Q := lw_Z below #[Value.ref b] s) (ct := true) (n0 := 0) (s0 := 0) (k := 230) (by omega) F0' rfl (fun h => by cases h) (fun _ => by rw [hmb, Int.add_zero]) rfl (mMet_all l w 2000) (by decide) (fun pc L S σ i hi h90 h100 hR => by
      have h9 := List.all_eq_true.mp mret_230 _ (mfind_mem hi)
      have h1 := Nat.ble_eq.mpr h90
      have h2 := Nat.blt_eq.mpr h100
      rw [show (Nat.ble 90 (pc, i).2.1) = true from h1, show (Nat.blt (pc, i).2.1 100) = true from h2] at h9
      cases h9) (fun pc L S σ hg => by
      have hX : mFX σ := by
        apply Classical.byContradiction
        intro hn
        unfold mgL at hg
        rw [if_neg hn] at hg
        cases hg
      unfold mgL at hg
      rw [if_pos hX] at hg
      exact fun H locs cells slots ls hL okL okS hW hS hA => B pc L S σ hg H locs cells slots ls hL okL okS ⟨hW.1, fun _ => hX, hW.2.2⟩ hS ⟨hA.1, hA.2.1, (fun z => by cases z), fun _ => trivial⟩) n 0 _ [] _ h
  have hz : mz (mI0 w) 0 = 0 := rfl
  have e3 : mrep w (4, 903) = .ref b := by rw [mrep_r w (by omega)]; unfold madr; rw [if_neg (by decide)]; exact congrArg Value.ref hb3
  have hl := m_entry w (k := 229) (as := [(4, 903)]) (by decide)
  rw [lg_entry_eq]
  have hl : mLr w 4 [(4, 903), (2, 0), (2, 0), (2, 0)] ((lg_sl [mrep w (4, 903)] ++ List.replicate (4 - (lg_sl [mrep w (4, 903)]).length) Slot.unset).toArray) := hl
  rw [e3] at hl
  refine G s.heap [] 0 0 _ hl (fun v hv => ?_) (fun v hv => by cases hv) ⟨⟨⟨Int.le_refl 0, (by rw [hz]; omega)⟩, (fun q hq => by rw [hz] at hq; omega), (fun k hk j => ?_), rfl⟩, (fun z => by cases z), (fun k q hq => ?_)⟩ va_S.rf ⟨Nat.zero_le _, Nat.zero_le _, (fun _ => ⟨rfl, rfl⟩), fun _ => trivial⟩
  · rcases List.mem_cons.mp hv with rfl | hv
    · exact okV_r (by omega) ⟨903, rfl, Or.inr (Or.inl ⟨rfl, rfl⟩)⟩
    · have : v = (2, 0) := by simpa using hv
      rw [this]
      exact ⟨fun (q : 2 = 0) => by omega, fun (q : 2 = 1) => by omega, fun (q : 3 < 2) => by omega⟩
  · unfold mI0
    rw [if_pos (by omega), Nat.add_sub_cancel_left]
  · unfold mws at hq
    rw [hz] at hq
    cases hq
