/-! SOUNDNESS 9: whole runs; the contracts of all methods -/
theorem mfind_mem {pc : Nat} {i : mI} : ∀ {t : List (Nat × mI)}, mfind pc t = some i → (pc, i) ∈ t
  | q :: t, h => by
    unfold mfind at h
    cases hb : Nat.beq pc q.1
    · rw [hb] at h
      exact List.mem_cons_of_mem _ (mfind_mem h)
    · rw [hb] at h
      have e1 := Nat.eq_of_beq_eq_true hb
      have e2 : q.2 = i := Option.some.inj h
      rw [e1, ← e2]
      exact List.mem_cons_self
theorem mchk_at {k pc : Nat} {i : mI} (hk : k < 231) (h : mfind pc (mcd k) = some i) : decode (mCc k) pc = .ok (mIns i pc) ∧ i.2.1 = (mIns i pc).2 ∧ mLk (mNm k).cls (mCt k) (mctor k) i = true ∧ mLkR k i.1 i.2.2.2 = true := by
  have h1 := List.all_eq_true.mp (mck_all hk) _ (mfind_mem h)
  unfold mChk1 at h1
  simp only [Bool.and_eq_true, decide_eq_true_eq] at h1
  exact ⟨h1.1.1.1, Nat.eq_of_beq_eq_true h1.1.1.2, h1.1.2, h1.2⟩
section
variable {p : Program} {l : Launch} {e : Env} {R : Room} {s : State} {m : MethodId} {args : Array Value} {below : List Frame} {meth : Method} {c : Code} {Q : State → Prop} {w : mW} {ct : Bool} {nL : Nat} {n0 s0 : Int} {own : String} {cc : ByteArray} {pc : Nat} {L S : List mV} {σ : mM} {a0 : Int × mM} {g : mG} {K : mK} {d : Nat}

/-- a run of a method's rows, in a frame of that method -/
theorem snd_run {k : Nat} {mx : Int × Int} (hk : k < 231) (F : mF p R s args m c w (mNm k).cls (mCc k) nL) (hct : mCt k = ct) (hini : mctor k = true → meth.name = "<init>") (hsz : ct = true → (s.heap.size : Int) = mb w + n0) (hmx : mx = (n0 + (R.cells : Int), s0 + (R.slots : Int))) (hKs : mMet l w K d) (hdd : d + 1 ≤ R.frames ∧ 40 * d + 99 ≤ R.locals)
    (hfin : ∀ (pc : Nat) (L S : List mV) (σ : mM) (i : mI), mfind pc (mcd k) = some i → 90 ≤ i.1 → i.1 < 100 → mstepR i.1 i.2.2.2 S σ = some a0 → mGoal p l e R s m args below meth c Q w ct nL n0 s0 pc L S σ) :
    ∀ (n pc : Nat) (L S : List mV) (σ : mM), mrun K mx k n pc L S σ = some a0 → mGoal p l e R s m args below meth c Q w ct nL n0 s0 pc L S σ := by
  intro n
  induction n with
  | zero => intro pc L S σ h; cases h
  | succ n ih =>
    intro pc L S σ h
    unfold mrun at h
    cases hi : mfind pc (mcd k) with
    | none => rw [hi] at h; cases h
    | some i =>
      rw [hi] at h
      obtain ⟨c1, c2, c3, c4⟩ := mchk_at hk hi
      rw [hct] at c3
      exact snd_step F hini hsz hmx hKs hdd c1 c2 c3 (hfin pc L S σ i hi) ih h
theorem snd_go {k : Nat} {mx : Int × Int} (hk : k < 231) (F : mF p R s args m c w (mNm k).cls (mCc k) nL) (hct : mCt k = ct) (hini : mctor k = true → meth.name = "<init>") (hsz : ct = true → (s.heap.size : Int) = mb w + n0) (hmx : mx = (n0 + (R.cells : Int), s0 + (R.slots : Int))) (hKs : mMet l w K d) (hdd : d + 1 ≤ R.frames ∧ 40 * d + 99 ≤ R.locals)
    (hfin : ∀ (pc : Nat) (L S : List mV) (σ : mM) (i : mI), mfind pc (mcd k) = some i → 90 ≤ i.1 → i.1 < 100 → mstepR i.1 i.2.2.2 S σ = some a0 → mGoal p l e R s m args below meth c Q w ct nL n0 s0 pc L S σ) (h : mgo K mx k pc L S σ = some a0) : mGoal p l e R s m args below meth c Q w ct nL n0 s0 pc L S σ := by
  obtain ⟨n, hn⟩ := mgo_iff.mp h
  exact snd_run hk F hct hini hsz hmx hKs hdd hfin n pc L S σ hn
/-- up to some place, and then by what is known from there on -/
theorem snd_blk {k : Nat} {mx : Int × Int} {st : List Nat} (hk : k < 231) (F : mF p R s args m c w (mNm k).cls (mCc k) nL) (hct : mCt k = ct) (hini : mctor k = true → meth.name = "<init>") (hsz : ct = true → (s.heap.size : Int) = mb w + n0) (hmx : mx = (n0 + (R.cells : Int), s0 + (R.slots : Int))) (hKs : mMet l w K d) (hdd : d + 1 ≤ R.frames ∧ 40 * d + 99 ≤ R.locals)
    (hfin : ∀ (pc : Nat) (L S : List mV) (σ : mM) (i : mI), mfind pc (mcd k) = some i → 90 ≤ i.1 → i.1 < 100 → mstepR i.1 i.2.2.2 S σ = some a0 → mGoal p l e R s m args below meth c Q w ct nL n0 s0 pc L S σ) (hg : ∀ pc L S σ, g pc L S σ = some a0 → mGoal p l e R s m args below meth c Q w ct nL n0 s0 pc L S σ) :
    ∀ (n pc : Nat) (L S : List mV) (σ : mM), mblk K mx k g st n pc L S σ = some a0 → mGoal p l e R s m args below meth c Q w ct nL n0 s0 pc L S σ := by
  intro n
  induction n with
  | zero => intro pc L S σ h; exact hg _ _ _ _ h
  | succ n ih =>
    intro pc L S σ h
    unfold mblk at h
    cases hi : mfind pc (mcd k) with
    | none => rw [hi] at h; cases h
    | some i =>
      rw [hi] at h
      obtain ⟨c1, c2, c3, c4⟩ := mchk_at hk hi
      rw [hct] at c3
      refine snd_step F hini hsz hmx hKs hdd c1 c2 c3 (hfin pc L S σ i hi) (fun pc L S σ h => ?_) h
      cases hb : st.any (Nat.beq pc)
      · simp only [hb, cond_false] at h
        exact ih _ _ _ _ h
      · simp only [hb, cond_true] at h
        exact hg _ _ _ _ h
/-- a method's end -/
theorem snd_fin {k : Nat} {op mc ms : Nat} {ps : List Nat} {r : Int} {σ' : mM} (hk : k < 229) (F : mF p R s args m c w own cc nL) (hret : meth.sig.returnType = mRt k) (hlocks : meth.locks = false) (h9 : 90 ≤ op) (h10 : op < 100) (hd : decode cc pc = .ok (mInsR op)) (hlr : mLkR k op ps = true) (hR : R.cells = mc ∧ R.slots = ms)
    (h : mstepR op ps S σ = some (r, σ')) : mGoal p l e R s m args below meth c (MQ below (mQc ct w (mRa k) r σ') args s mc ms (mAr w)) w ct nL n0 s0 pc L S σ := by
  intro H locs cells slots ls hL okL okS hW hS hA
  refine W.widen (k := mc) (n := ms) (by rw [← hR.1]; exact hA.1) (by rw [← hR.2]; exact hA.2.1) ?_
  have post : ∀ (v : Option Value) (t : State), mrv w (mRa k) r = v → (mRa k ≠ 0 → okV (mz σ 0) (mRa k - 1, r)) → σ' = σ → t.heap = H → mQc ct w (mRa k) r σ' args s (.returned v) t := by
    intro v t hv ho hσ ht
    subst hσ
    subst hv
    refine ⟨rfl, hW.1, hW.2.1, ho, by rw [ht]; exact hW.2.2, fun q hq => by rw [ht]; exact hS.2.1 q (Nat.lt_of_lt_of_le hq F.2.2.2.2.2.2.2.2.1) (Nat.not_le.mpr hq), by rw [ht]; exact hS.1⟩
  rcases (by omega : op = 90 ∨ op = 91 ∨ op = 92 ∨ op = 93 ∨ op = 94 ∨ 95 ≤ op) with rfl | rfl | rfl | rfl | rfl | h95
  · match S, h with
    | [(t, x)], h =>
      obtain ⟨hb, h⟩ := cond_some (show (bif Nat.beq t 0 then some (x, σ) else none) = some (r, σ') from h)
      have ht := Nat.eq_of_beq_eq_true hb
      subst ht
      cases h
      have hlr : (decide (mRt k = some .int) && Nat.beq (mRa k) 1) = true := hlr
      rw [Bool.and_eq_true, decide_eq_true_eq] at hlr
      have ha := Nat.eq_of_beq_eq_true hlr.2
      exact W.iret F.1 F.2.1 (hret.trans hlr.1) (fun t ht _ => post _ t (by rw [ha]; rfl) (fun _ => by rw [ha]; exact okS _ List.mem_cons_self) rfl ht) hS.2.2 hd hlocks
    | [], h => cases h
    | _ :: _ :: _, h => cases h
  · match S, h with
    | [(t, x)], h =>
      obtain ⟨hb, h⟩ := cond_some (show (bif Nat.beq t 1 then some (x, σ) else none) = some (r, σ') from h)
      have ht := Nat.eq_of_beq_eq_true hb
      subst ht
      cases h
      have hlr : (decide (mRt k = some .long) && Nat.beq (mRa k) 2) = true := hlr
      rw [Bool.and_eq_true, decide_eq_true_eq] at hlr
      have ha := Nat.eq_of_beq_eq_true hlr.2
      exact W.lret F.1 F.2.1 (hret.trans hlr.1) (fun t ht _ => post _ t (by rw [ha]; rfl) (fun _ => by rw [ha]; exact okS _ List.mem_cons_self) rfl ht) hS.2.2 hd hlocks
    | [], h => cases h
    | _ :: _ :: _, h => cases h
  · match S, h with
    | [(t, x)], h =>
      obtain ⟨hb, h⟩ := cond_some (show (bif Nat.beq t (mp ps 0) then some (x, σ) else none) = some (r, σ') from h)
      have ht := Nat.eq_of_beq_eq_true hb
      cases h
      have hlr : (Nat.beq (mRa k) (mp ps 0 + 1) && Nat.ble 20 (mp ps 0)) = true := hlr
      rw [Bool.and_eq_true] at hlr
      have ha := Nat.eq_of_beq_eq_true hlr.1
      have h20 := Nat.le_of_ble_eq_true hlr.2
      obtain ⟨-, -, -, -, -, -, -, -, -, -, -, -, f13⟩ := mFa_all hk
      obtain ⟨-, nm, hn⟩ := f13 (by omega)
      have e1 : mRa k - 1 = t := by omega
      have ok1 := okS _ List.mem_cons_self
      show W p l e R s m args below meth c H locs mc ms _ (F0 m pc ls [mrep w (t, r)])
      exact W.aret F.1 F.2.1 (hret.trans hn) (Or.inl ⟨nm, rfl⟩) (Or.inr ⟨_, mrep_r w (by omega) r⟩) (fun t' ht' _ => post _ t' (by unfold mrv; rw [if_neg (by omega), e1]) (fun _ => by rw [e1]; exact ok1) rfl ht') hS.2.2 hd hlocks
    | [], h => cases h
    | _ :: _ :: _, h => cases h
  · match S, h with
    | [], h =>
      have h : some ((0 : Int), σ) = some (r, σ') := h
      cases h
      have hlr : (decide (mRt k = none) && Nat.beq (mRa k) 0) = true := hlr
      rw [Bool.and_eq_true, decide_eq_true_eq] at hlr
      have ha := Nat.eq_of_beq_eq_true hlr.2
      exact W.vret F.1 F.2.1 (hret.trans hlr.1) (fun t ht _ => post _ t (by rw [ha]; rfl) (fun z => absurd ha z) rfl ht) hS.2.2 hd hlocks
    | _ :: _, h => cases h
  · match S, h with
    | [(t, x)], h =>
      obtain ⟨hb, h⟩ := cond_some (show (bif Nat.beq t 0 then bIn x 2 (some (x, σ)) else none) = some (r, σ') from h)
      have ht := Nat.eq_of_beq_eq_true hb
      subst ht
      obtain ⟨hx, h⟩ := bIn_some h
      cases h
      have hlr : (decide (mRt k = some .boolean) && Nat.beq (mRa k) 1) = true := hlr
      rw [Bool.and_eq_true, decide_eq_true_eq] at hlr
      have ha := Nat.eq_of_beq_eq_true hlr.2
      have okr := okS _ List.mem_cons_self
      refine W.zret (v := Int32.ofInt r) F.1 F.2.1 (hret.trans hlr.1) ?_ (fun t ht _ => post _ t (by rw [ha]; rfl) (fun _ => by rw [ha]; exact okr) rfl ht) hS.2.2 hd hlocks
      rcases (by omega : r = 0 ∨ r = 1) with rfl | rfl <;> rfl
    | [], h => cases h
    | _ :: _ :: _, h => cases h
  · exfalso
    have nb : ∀ {k : Nat}, k < 95 → Nat.beq op k = false := fun {k} hk => by
      cases hq : Nat.beq op k
      · rfl
      · have := Nat.eq_of_beq_eq_true hq
        omega
    unfold mstepR at h
    simp only [nb (by omega : 90 < 95), nb (by omega : 91 < 95), nb (by omega : 92 < 95), nb (by omega : 93 < 95), nb (by omega : 94 < 95), cond_false] at h
    cases h
end
theorem mexp_len (w : mW) (as : List mV) : (lg_sl (as.map (mrep w))).length = (mexp as).length := by
  induction as with
  | nil => rfl
  | cons v t ih =>
    have e : lg_sl ((v :: t).map (mrep w)) = (if (mrep w v).category = 2 then [Slot.val (mrep w v), .second] else [Slot.val (mrep w v)]) ++ lg_sl (t.map (mrep w)) := rfl
    have e2 : mexp (v :: t) = bif Nat.beq (mkd v) 1 then v :: (2, 0) :: mexp t else v :: mexp t := rfl
    rw [e, e2, mrep_cat]
    have e3 : mcat v = bif Nat.beq (mkd v) 1 then 2 else 1 := rfl
    rw [e3]
    cases Nat.beq (mkd v) 1
    · rw [if_neg (by decide), List.length_append, ih]
      show 1 + (mexp t).length = (mexp t).length + 1
      omega
    · rw [if_pos (by rfl : (bif true then 2 else 1) = 2), List.length_append, ih]
      show 2 + (mexp t).length = (mexp t).length + 1 + 1
      omega
theorem mexp_args (w : mW) (as : List mV) : ∀ (i j : Nat) (v : mV), (mexp as)[j]? = some v → v.1 ≠ 2 → (i + j, mrep w v) ∈ lv_args i (as.map (mrep w)) := by
  induction as with
  | nil => intro i j v h; simp [mexp] at h
  | cons u t ih =>
    intro i j v h hv
    have e2 : mexp (u :: t) = bif Nat.beq (mkd u) 1 then u :: (2, 0) :: mexp t else u :: mexp t := rfl
    have e4 : lv_args i ((u :: t).map (mrep w)) = (i, mrep w u) :: lv_args (if (mrep w u).category = 2 then i + 2 else i + 1) (t.map (mrep w)) := rfl
    rw [e2] at h
    rw [e4, mrep_cat]
    have e3 : mcat u = bif Nat.beq (mkd u) 1 then 2 else 1 := rfl
    rw [e3]
    cases hb : Nat.beq (mkd u) 1
    · rw [hb] at h
      rw [if_neg (by decide)]
      cases j with
      | zero =>
        have e : u = v := by simpa using h
        rw [e]
        exact List.mem_cons_self
      | succ j =>
        have := ih (i + 1) j v (by simpa using h) hv
        rw [show i + (j + 1) = i + 1 + j by omega]
        exact List.mem_cons_of_mem _ this
    · rw [hb] at h
      rw [if_pos (by rfl : (bif true then 2 else 1) = 2)]
      match j, h with
      | 0, h =>
        have e : u = v := by simpa using h
        rw [e]
        exact List.mem_cons_self
      | 1, h =>
        have e : (2, 0) = v := by simpa using h
        rw [← e] at hv
        exact absurd rfl hv
      | j + 2, h =>
        have := ih (i + 2) j v (by simpa using h) hv
        rw [show i + (j + 2) = i + 2 + j by omega]
        exact List.mem_cons_of_mem _ this
theorem mexp_mem {as : List mV} {v : mV} (h : v ∈ mexp as) : v ∈ as ∨ v = (2, 0) := by
  induction as with
  | nil => cases h
  | cons u t ih =>
    have e2 : mexp (u :: t) = bif Nat.beq (mkd u) 1 then u :: (2, 0) :: mexp t else u :: mexp t := rfl
    rw [e2] at h
    cases hb : Nat.beq (mkd u) 1
    · rw [hb] at h
      rcases List.mem_cons.mp h with h | h
      · exact Or.inl (h ▸ List.mem_cons_self)
      · rcases ih h with h | h
        · exact Or.inl (List.mem_cons_of_mem _ h)
        · exact Or.inr h
    · rw [hb] at h
      rcases List.mem_cons.mp h with h | h
      · exact Or.inl (h ▸ List.mem_cons_self)
      · rcases List.mem_cons.mp h with h | h
        · exact Or.inr h
        · rcases ih h with h | h
          · exact Or.inl (List.mem_cons_of_mem _ h)
          · exact Or.inr h
/-- the entry's locals -/
theorem m_entry (w : mW) {k : Nat} {as : List mV} (hle : (mexp as).length ≤ mmaxL k) : mLr w (mmaxL k) (mentry k as) ((lg_sl (as.map (mrep w)) ++ List.replicate (mmaxL k - (lg_sl (as.map (mrep w))).length) Slot.unset).toArray) := by
  have hl := lv_entry (as.map (mrep w)) (n := mmaxL k) (by rw [mexp_len]; exact hle)
  refine ⟨by unfold mentry; rw [List.length_append, List.length_replicate]; omega, hl.1, hl.2.1, fun q hq => hl.2.2 q ?_⟩
  obtain ⟨j, v, h1, hv, rfl⟩ := mlv_mem.mp hq
  unfold mentry at h1
  by_cases hj : j < (mexp as).length
  · rw [List.getElem?_append_left hj] at h1
    exact mexp_args w as 0 j v h1 hv
  · rw [List.getElem?_append_right (by omega)] at h1
    have := List.eq_of_mem_replicate (List.mem_of_getElem? h1)
    rw [this] at hv
    exact absurd rfl hv
theorem mctor_kd {k : Nat} (hk : k < 229) (h : mctor k = true) : mKd k = 2 := by
  have : ∀ k, k < 229 → mctor k = true → mKd k = 2 := by decide +kernel
  exact this k hk h
theorem mIns_R {i : mI} {pc : Nat} (h9 : 90 ≤ i.1) (h10 : i.1 < 100) : mIns i pc = mInsR i.1 := by
  have bn : ∀ {k : Nat}, k ≤ 90 → Nat.blt i.1 k = false := fun {k} h => by
    cases hb : Nat.blt i.1 k
    · rfl
    · have := Nat.blt_eq.mp hb
      omega
  have e1 : Nat.ble 100 i.1 = false := by
    cases hb : Nat.ble 100 i.1
    · rfl
    · have := Nat.le_of_ble_eq_true hb
      omega
  have e2 : Nat.beq i.1 68 = false := by
    cases hb : Nat.beq i.1 68
    · rfl
    · have := Nat.eq_of_beq_eq_true hb
      omega
  unfold mIns
  rw [bn (by omega), bn (by omega), bn (by omega), bn (by omega), bn (by omega), bn (by omega), e1, e2]
  rfl
set_option maxHeartbeats 4000000 in
theorem mMet_all (l : Launch) (w : mW) : ∀ d, mMet l w (mcall d) d := by
  intro d
  induction d with
  | zero => intro k as σ r σ' hk h; cases h
  | succ d ih =>
    intro k as σ r σ' hk h okm hfx oka
    have h : (bif Nat.ble (mexp as).length (mmaxL k) then mgo (mcall d) (σ 905 0 + (mal k : Int), σ 905 1 + (msl k : Int)) k 0 (mentry k as) [] σ else none) = some (r, σ') := h
    obtain ⟨hle, h⟩ := cond_some h
    have hle := Nat.le_of_ble_eq_true hle
    obtain ⟨f1, f2, f3, f4, f5, f6, f7, f8, f9, -⟩ := mFa_all hk
    refine Met.ofW (cc := mCc k) (maxL := mmaxL k) (ret := mRt k) f6 rfl ?_
    intro p e s m args below meth c s₁ B hml hv
    obtain ⟨rfl, u1, u2, u3, u4, u5, u6⟩ := hv
    have hts0 : ∀ x ∈ mwsl k, x.before ((as.map (mrep w)).toArray) s = true := atoms_spec (ws := mwsl k) B.pre
    have F : mF p (mrm (d + 1) (mal k) (msl k)) s ((as.map (mrep w)).toArray) m c w (mNm k).cls (mCc k) (mmaxL k) := ⟨B.exec, B.bytes, hml, findClass_of_methodNamed B.named, fun x hx => hts0 x (List.mem_cons_of_mem _ hx), u4, u2, u3, u5, Nat.succ_le_succ (Nat.zero_le d), (by show 60 ≤ 40 * (d + 1) + 60; omega)⟩
    have hct : mCt k = mctor k := by
      unfold mCt
      have : Nat.beq k 230 = false := by
        cases hb : Nat.beq k 230
        · rfl
        · have := Nat.eq_of_beq_eq_true hb
          omega
      rw [this, Bool.or_false]
    have key := snd_go (l := l) (e := e) (below := below) (meth := meth) (a0 := (r, σ')) (n0 := σ 905 0) (s0 := σ 905 1) (Q := MQ below (mQc (mctor k) w (mRa k) r σ') ((as.map (mrep w)).toArray) s (mal k) (msl k) (mAr w)) (by omega : k < 231) F hct (fun hc => (name_of_methodNamed B.named B.method).1.trans (f5 (mctor_kd hk hc)).2.1) (fun hc => by rw [u6 hc, ← mz_pos okm]; omega) rfl ih ⟨Nat.le_refl _, (by show 40 * d + 99 ≤ 40 * (d + 1) + 60; omega)⟩
      (fun pc L S σ2 i hi h90 h100 hR => by
        obtain ⟨c1, c2, c3, c4⟩ := mchk_at (by omega : k < 231) hi
        rw [mIns_R h90 h100] at c1
        exact snd_fin hk F B.returns B.notSynchronized h90 h100 c1 c4 ⟨rfl, rfl⟩ hR) h
    rw [lg_entry_eq]
    refine key s.heap [] 0 0 _ (m_entry w hle) (fun v hv => ?_) (fun v hv => by cases hv) ⟨okm, hfx, u1⟩ va_S.rf ⟨Nat.zero_le _, Nat.zero_le _, fun _ => ⟨by simp, by simp⟩, fun _ => trivial⟩
    have ok2 : okV (mz σ 0) (2, 0) := ⟨fun (q : 2 = 0) => by omega, fun (q : 2 = 1) => by omega, fun (q : 3 < 2) => by omega⟩
    unfold mentry at hv
    rcases List.mem_append.mp hv with h1 | h1
    · rcases mexp_mem h1 with h2 | h2
      · exact oka v h2
      · rw [h2]; exact ok2
    · rw [List.eq_of_mem_replicate h1]; exact ok2
