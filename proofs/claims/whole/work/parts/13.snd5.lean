/-! SOUNDNESS 5: new cells; copies -/
theorem mnew_z {w : mW} {σ : mM} {t k : Nat} (h : okM w σ) : mz (mnew σ t k) 0 = mz σ 0 + 1 := by
  have h1 := h.1.2
  have h2 := mz_pos h
  have e : mnew σ t k 905 0 = σ 905 0 + 1 := by
    unfold mnew
    rw [if_neg (by omega), if_pos rfl, if_pos rfl]
  unfold mz at *
  rw [e]
  omega
theorem mnew_s {w : mW} {σ : mM} {t k : Nat} (h : okM w σ) : mnew σ t k 905 0 = σ 905 0 + 1 ∧ mnew σ t k 905 1 = σ 905 1 + (k : Int) := by
  have h1 := h.1.2
  unfold mnew
  exact ⟨by rw [if_neg (by omega), if_pos rfl, if_pos rfl], by rw [if_neg (by omega), if_pos rfl, if_neg (by decide), if_pos rfl]⟩
theorem mnew_o {σ : mM} {t k a : Nat} (h : a ≠ mz σ 0) (h9 : a ≠ 905) (j : Nat) : mnew σ t k a j = σ a j := by
  unfold mnew
  rw [if_neg h, if_neg h9]
theorem mnew_n {σ : mM} {t k : Nat} (j : Nat) : mnew σ t k (mz σ 0) j = mdef t j := by
  unfold mnew
  rw [if_pos rfl]
theorem mws_push {w : mW} {σ : mM} {t k : Nat} (h : okM w σ) : mws w (mnew σ t k) = mws w σ ++ [(mb w + mz σ 0, mcell w (mnew σ t k) (mz σ 0))] := by
  have h1 := h.1.2
  unfold mws
  rw [mnew_z h, List.range_succ, List.map_append]
  congr 1
  apply List.map_congr_left
  intro a ha
  have ha := List.mem_range.mp ha
  rw [mcell_congr w (σ := mnew σ t k) (σ' := σ) (fun j => mnew_o (by omega) (by omega) j)]
theorem okF.mono {n n' t k : Nat} {x : Int} (h : okF n t k x) (hn : n ≤ n') : okF n' t k x := by
  obtain ⟨h1, h2, h3, h4⟩ := h
  refine ⟨fun q => ⟨(h1 q).1, fun z => ?_⟩, h2, h3, fun q => ?_⟩
  · rcases (h1 q).2 z with y | y
    · exact Or.inl y
    · exact Or.inr (y.mono hn)
  · rcases h4 q with y | y
    · exact Or.inl y
    · exact Or.inr (y.mono hn)
theorem mlay_lt {k : Nat} (h : mlay k ≠ 0) : k < 95 := by
  rcases Nat.lt_or_ge k 95 with q | q
  · exact q
  · exfalso
    apply h
    unfold mlay
    rw [List.getD_eq_getElem?_getD, List.getElem?_eq_none (by exact q)]
    rfl
theorem okM_new {w : mW} {σ : mM} {t k : Nat} (h : okM w σ) (hl : mlay (mz σ 0) = t) (ht : 20 ≤ t) : okM w (mnew σ t k) := by
  have h95 : mz σ 0 < 95 := mlay_lt (by omega)
  have hz := mnew_z (t := t) (k := k) h
  have hs := (mnew_s (t := t) (k := k) h).1
  refine ⟨⟨by rw [hs]; have := h.1.1; omega, by rw [hz]; omega⟩, fun a ha j => ?_, fun i hi j => by rw [mnew_o (by omega) (by omega)]; exact h.2.2.1 i hi j, by rw [mnew_o (by omega) (by omega)]; exact h.2.2.2⟩
  rw [hz] at ha ⊢
  by_cases e : a = mz σ 0
  · subst e
    rw [hl, mnew_n]
    have nb : ∀ {b : Bool}, (∀ {x : Int}, b = true → x = x) → True := fun _ => trivial
    unfold mdef
    refine ⟨fun q => ?_, fun q1 q2 => ?_, fun q1 q2 => ?_, fun q => ?_⟩
    · have e1 : Nat.ble 9000 t = false := by
        cases hb : Nat.ble 9000 t
        · rfl
        · have := Nat.le_of_ble_eq_true hb; omega
      have e2 : Nat.ble 1000 t = false := by
        cases hb : Nat.ble 1000 t
        · rfl
        · have := Nat.le_of_ble_eq_true hb; omega
      rw [e1, e2]
      show (_ → in32 (bif Nat.beq (mft (t - 20) j) 0 then 0 else -1)) ∧ (_ → (bif Nat.beq (mft (t - 20) j) 0 then (0 : Int) else -1) = -1 ∨ okR _ _ (bif Nat.beq (mft (t - 20) j) 0 then 0 else -1))
      refine ⟨fun z => ?_, fun z => ?_⟩
      · rw [z]; exact in32_0
      · left
        have : Nat.beq (mft (t - 20) j) 0 = false := by
          cases hb : Nat.beq (mft (t - 20) j) 0
          · rfl
          · exact absurd (Nat.eq_of_beq_eq_true hb) z
        rw [this]; rfl
    · have e1 : Nat.ble 9000 t = false := by
        cases hb : Nat.ble 9000 t
        · rfl
        · have := Nat.le_of_ble_eq_true hb; omega
      rw [e1, Nat.ble_eq.mpr q1]; exact in32_0
    · have e1 : Nat.ble 9000 t = false := by
        cases hb : Nat.ble 9000 t
        · rfl
        · have := Nat.le_of_ble_eq_true hb; omega
      rw [e1, Nat.ble_eq.mpr (by omega : 1000 ≤ t)]
      show in64 0
      unfold in64
      omega
    · rw [Nat.ble_eq.mpr q]
      exact Or.inl rfl
  · rw [mnew_o e (by omega)]
    exact (h.2.1 a (by omega) j).mono (by omega)
section
variable {p : Program} {l : Launch} {e : Env} {R : Room} {s : State} {m : MethodId} {args : Array Value} {below : List Frame} {meth : Method} {c : Code} {Q : State → Prop} {w : mW} {ct : Bool} {nL : Nat} {n0 s0 : Int} {own : String} {cc : ByteArray} {pc : Nat} {L S : List mV} {σ : mM} {a0 : Int × mM} {g : mG}

theorem W_size {H : Heap} {locs : List Loc} {cells slots : Nat} {gf : JFrame} (h : H.size ≤ s.heap.size + cells → W p l e R s m args below meth c H locs cells slots Q gf) : W p l e R s m args below meth c H locs cells slots Q gf :=
  fun T hT X => h (by rw [← hT]; exact X.heapSize) T hT X
theorem m_size {H : Heap} {locs : List Loc} {cells slots : Nat} (hct : ct = true) (hsz : (s.heap.size : Int) = mb w + n0) (hM : okM w σ) (hP : va_P (mdd w) vwCl (mws w σ) H) (hS : va_S (mAr w) s.heap H locs) (hb : mb w ≤ s.heap.size) (hA : mAcc ct R n0 s0 σ cells slots) (hz : H.size ≤ s.heap.size + cells) : H.size = mb w + mz σ 0 := by
  have h1 := (hA.2.2.1 hct).1
  have h2 := mz_pos hM
  have h3 := hS.1
  have h4 : mb w + mz σ 0 ≤ H.size := by
    by_cases e : mz σ 0 = 0
    · omega
    · have := (hP (mz σ 0 - 1) _ (mws_get (by omega))).lt
      have this : mb w + (mz σ 0 - 1) < H.size := this
      omega
  omega
theorem so_push (F : mF p R s args m c w own cc nL) (hct : ct = true) (hsz : (s.heap.size : Int) = mb w + n0) {t k n : Nat} {S0 : List mV} (hlay : mlay (mz σ 0) = t) (ht : 20 ≤ t ∧ (t < 4000 ∨ 9000 ≤ t)) (hmx : σ 905 0 + 1 ≤ n0 + (R.cells : Int) ∧ σ 905 1 + (k : Int) ≤ s0 + (R.slots : Int)) (hS0 : ∀ v ∈ S, v ∈ S0)
    (hrow : ∀ (H : Heap) (locs : List Loc) (cells slots : Nat) (ls : Array Slot), (∀ v ∈ S0, okV (mz σ 0) v) → H.size = mb w + mz σ 0 → cells + 1 ≤ R.cells → slots + k ≤ R.slots → (∀ H' : Heap, va_at (mdd w) vwCl (mb w + mz σ 0, mcell w (mnew σ t k) (mz σ 0)) H' → H'.size = H.size + 1 → (∀ q, q < H.size → H'[q]? = H[q]?) → W p l e R s m args below meth c H' locs (cells + 1) (slots + k) Q (F0 m (pc + n) ls (.ref (mb w + mz σ 0) :: S.map (mrep w)))) → W p l e R s m args below meth c H locs cells slots Q (F0 m pc ls (S0.map (mrep w))))
    (kk : mGoal p l e R s m args below meth c Q w ct nL n0 s0 (pc + n) L ((t, σ 905 0) :: S) (mnew σ t k)) : mGoal p l e R s m args below meth c Q w ct nL n0 s0 pc L S0 σ := by
  intro H locs cells slots ls hL okL okS hW hS hA
  refine W_size fun hz => ?_
  have hz := m_size hct hsz hW.1 hW.2.2 hS F.2.2.2.2.2.2.2.2.1 hA hz
  have hA2 := hA.2.2.1 hct
  refine hrow H locs cells slots ls okS hz (by omega) (by omega) fun H' h1 h2 h3 => ?_
  have hn := mnew_z (t := t) (k := k) hW.1
  have hs := mnew_s (t := t) (k := k) hW.1
  have h95 : mz σ 0 < 95 := mlay_lt (by omega)
  have e1 : mrep w (t, σ 905 0) = .ref (mb w + mz σ 0) := by
    rw [← mz_pos hW.1]
    exact mrep_cell w (by omega) (by omega)
  rw [← e1]
  refine kk H' locs (cells + 1) (slots + k) ls hL (fun v hv => (okL v hv).mono (by omega)) (List.forall_mem_cons.mpr ⟨okV_r (by omega) ⟨mz σ 0, by rw [← mz_pos hW.1], Or.inl ⟨by omega, hlay, ht⟩⟩, fun v hv => (okS v (hS0 v hv)).mono (by omega)⟩) ⟨okM_new hW.1 hlay ht.1, (fun q => by rw [hct] at q; cases q), ?_⟩ ⟨by have := hS.1; omega, fun q hq hA => by rw [h3 q (by have := hS.1; omega)]; exact hS.2.1 q hq hA, hS.2.2⟩ ⟨by omega, by omega, fun _ => ⟨by rw [hs.1]; omega, by rw [hs.2]; omega⟩, (fun q => by rw [hct] at q; cases q)⟩
  rw [mws_push hW.1]
  refine (hW.2.2.kept fun i q hq => h3 _ (hW.2.2 i q hq).lt).app fun i q hq => ?_
  have hi : i < 1 := (List.getElem?_eq_some_iff.mp hq).1
  rw [show i = 0 by omega] at hq
  cases hq
  exact h1
theorem so_newi (F : mF p R s args m c w own cc nL) (hct : ct = true) (hsz : (s.heap.size : Int) = mb w + n0) {k : Int} (hk : 0 ≤ k ∧ k < 1000) (hlay : mlay (mz σ 0) = 1000 + k.toNat) (hmx : σ 905 0 + 1 ≤ n0 + (R.cells : Int) ∧ σ 905 1 + k ≤ s0 + (R.slots : Int)) (hd : decode cc pc = .ok (.newarray .int, 2))
    (kk : mGoal p l e R s m args below meth c Q w ct nL n0 s0 (pc + 2) L ((1000 + k.toNat, σ 905 0) :: S) (mnew σ (1000 + k.toNat) k.toNat)) : mGoal p l e R s m args below meth c Q w ct nL n0 s0 pc L ((0, k) :: S) σ := by
  have hi : in32 k := by unfold in32; omega
  refine so_push (S0 := (0, k) :: S) F hct hsz hlay (by omega) ⟨hmx.1, by omega⟩ (fun v hv => List.mem_cons_of_mem _ hv) (fun H locs cells slots ls okS hz hc hs h => ?_) kk
  refine va_newaK (atype := .int) (n := Int32.ofInt k) (N := k.toNat) F.1 F.2.1 (F.2.2.2.2.1 _ mac_i) rfl hd rfl (by rw [Int32.lt_iff_toInt_lt, i32_t hi]; exact Int.not_lt.mpr hk.1) (toNat_i hi) ?_ hc hs hz fun H' cA q1 q2 q3 q4 q5 => ?_
  · have : componentBytes (newarray.typeOf .int) ≤ 8 := by decide
    have h2 : k.toNat * componentBytes (newarray.typeOf .int) ≤ k.toNat * 8 := Nat.mul_le_mul_left _ this
    omega
  · have hty : s.vm.findClass ("[" ++ (newarray.typeOf .int).toString) = some (mty w 0) := (F.2.2.2.2.2.2.1.2 0 _ rfl).2
    have ec : cA = mty w 0 := Option.some.inj (q5.symm.trans hty)
    subst ec
    refine h H' ?_ (by rw [q2, hz]) (fun q hq => q3 q (by omega))
    rw [mcell_i hlay (by omega) (by omega)]
    show H'[mb w + mz σ 0]? = some (vp_cell (mty w 0) (1000 + k.toNat - 1000, .inl fun j => Int32.ofInt (mnew σ (1000 + k.toNat) k.toNat (mz σ 0) j)))
    rw [q1, Nat.add_sub_cancel_left]
    refine congrArg some ?_
    rw [vp_cell_i]
    refine congrArg (arrV _ _) ?_
    funext j
    show defaultValue _ = .int (Int32.ofInt (mnew σ (1000 + k.toNat) k.toNat (mz σ 0) j))
    rw [mnew_n]
    have e1 : Nat.ble 9000 (1000 + k.toNat) = false := by
      cases hb : Nat.ble 9000 (1000 + k.toNat)
      · rfl
      · have := Nat.le_of_ble_eq_true hb; omega
    unfold mdef
    rw [e1, Nat.ble_eq.mpr (by omega : 1000 ≤ 1000 + k.toNat)]
    rfl
theorem so_newb (F : mF p R s args m c w own cc nL) (hct : ct = true) (hsz : (s.heap.size : Int) = mb w + n0) {k : Int} (hk : 0 ≤ k ∧ k < 1000) (hlay : mlay (mz σ 0) = 2000 + k.toNat) (hmx : σ 905 0 + 1 ≤ n0 + (R.cells : Int) ∧ σ 905 1 + k ≤ s0 + (R.slots : Int)) (hd : decode cc pc = .ok (.newarray .boolean, 2))
    (kk : mGoal p l e R s m args below meth c Q w ct nL n0 s0 (pc + 2) L ((2000 + k.toNat, σ 905 0) :: S) (mnew σ (2000 + k.toNat) k.toNat)) : mGoal p l e R s m args below meth c Q w ct nL n0 s0 pc L ((0, k) :: S) σ := by
  have hi : in32 k := by unfold in32; omega
  refine so_push (S0 := (0, k) :: S) F hct hsz hlay (by omega) ⟨hmx.1, by omega⟩ (fun v hv => List.mem_cons_of_mem _ hv) (fun H locs cells slots ls okS hz hc hs h => ?_) kk
  refine va_newaK (atype := .boolean) (n := Int32.ofInt k) (N := k.toNat) F.1 F.2.1 (F.2.2.2.2.1 _ mac_b) rfl hd rfl (by rw [Int32.lt_iff_toInt_lt, i32_t hi]; exact Int.not_lt.mpr hk.1) (toNat_i hi) ?_ hc hs hz fun H' cA q1 q2 q3 q4 q5 => ?_
  · have : componentBytes (newarray.typeOf .boolean) ≤ 8 := by decide
    have h2 : k.toNat * componentBytes (newarray.typeOf .boolean) ≤ k.toNat * 8 := Nat.mul_le_mul_left _ this
    omega
  · have hty : s.vm.findClass ("[" ++ (newarray.typeOf .boolean).toString) = some (mty w 1) := (F.2.2.2.2.2.2.1.2 1 _ rfl).2
    have ec : cA = mty w 1 := Option.some.inj (q5.symm.trans hty)
    subst ec
    refine h H' ?_ (by rw [q2, hz]) (fun q hq => q3 q (by omega))
    rw [mcell_b hlay (by omega) (by omega)]
    show H'[mb w + mz σ 0]? = some (vp_cell (mty w 1) (2000 + k.toNat - 2000, .inl fun j => Int32.ofInt (mnew σ (2000 + k.toNat) k.toNat (mz σ 0) j)))
    rw [q1, Nat.add_sub_cancel_left]
    refine congrArg some ?_
    rw [vp_cell_i]
    refine congrArg (arrV _ _) ?_
    funext j
    show defaultValue _ = .int (Int32.ofInt (mnew σ (2000 + k.toNat) k.toNat (mz σ 0) j))
    rw [mnew_n]
    have e1 : Nat.ble 9000 (2000 + k.toNat) = false := by
      cases hb : Nat.ble 9000 (2000 + k.toNat)
      · rfl
      · have := Nat.le_of_ble_eq_true hb; omega
    unfold mdef
    rw [e1, Nat.ble_eq.mpr (by omega : 1000 ≤ 2000 + k.toNat)]
    rfl
theorem so_newj (F : mF p R s args m c w own cc nL) (hct : ct = true) (hsz : (s.heap.size : Int) = mb w + n0) {k : Int} (hk : 0 ≤ k ∧ k < 1000) (hlay : mlay (mz σ 0) = 3000 + k.toNat) (hmx : σ 905 0 + 1 ≤ n0 + (R.cells : Int) ∧ σ 905 1 + k ≤ s0 + (R.slots : Int)) (hd : decode cc pc = .ok (.newarray .long, 2))
    (kk : mGoal p l e R s m args below meth c Q w ct nL n0 s0 (pc + 2) L ((3000 + k.toNat, σ 905 0) :: S) (mnew σ (3000 + k.toNat) k.toNat)) : mGoal p l e R s m args below meth c Q w ct nL n0 s0 pc L ((0, k) :: S) σ := by
  have hi : in32 k := by unfold in32; omega
  refine so_push (S0 := (0, k) :: S) F hct hsz hlay (by omega) ⟨hmx.1, by omega⟩ (fun v hv => List.mem_cons_of_mem _ hv) (fun H locs cells slots ls okS hz hc hs h => ?_) kk
  refine va_newaK (atype := .long) (n := Int32.ofInt k) (N := k.toNat) F.1 F.2.1 (F.2.2.2.2.1 _ mac_j) rfl hd rfl (by rw [Int32.lt_iff_toInt_lt, i32_t hi]; exact Int.not_lt.mpr hk.1) (toNat_i hi) ?_ hc hs hz fun H' cA q1 q2 q3 q4 q5 => ?_
  · have : componentBytes (newarray.typeOf .long) ≤ 8 := by decide
    have h2 : k.toNat * componentBytes (newarray.typeOf .long) ≤ k.toNat * 8 := Nat.mul_le_mul_left _ this
    omega
  · have hty : s.vm.findClass ("[" ++ (newarray.typeOf .long).toString) = some (mty w 2) := (F.2.2.2.2.2.2.1.2 2 _ rfl).2
    have ec : cA = mty w 2 := Option.some.inj (q5.symm.trans hty)
    subst ec
    refine h H' ?_ (by rw [q2, hz]) (fun q hq => q3 q (by omega))
    rw [mcell_l hlay (by omega) (by omega)]
    show H'[mb w + mz σ 0]? = some (vp_cell (mty w 2) (3000 + k.toNat - 3000, .inr (.inl fun j => Int64.ofInt (mnew σ (3000 + k.toNat) k.toNat (mz σ 0) j))))
    rw [q1, Nat.add_sub_cancel_left]
    refine congrArg some ?_
    rw [vp_cell_l]
    refine congrArg (arrV _ _) ?_
    funext j
    show defaultValue _ = .long (Int64.ofInt (mnew σ (3000 + k.toNat) k.toNat (mz σ 0) j))
    rw [mnew_n]
    have e1 : Nat.ble 9000 (3000 + k.toNat) = false := by
      cases hb : Nat.ble 9000 (3000 + k.toNat)
      · rfl
      · have := Nat.le_of_ble_eq_true hb; omega
    unfold mdef
    rw [e1, Nat.ble_eq.mpr (by omega : 1000 ≤ 3000 + k.toNat)]
    rfl
theorem so_newq (F : mF p R s args m c w own cc nL) (hct : ct = true) (hsz : (s.heap.size : Int) = mb w + n0) {k : Int} {idx : Nat} (hk : k = 6) (hlay : mlay (mz σ 0) = 9000 + k.toNat) (hmx : σ 905 0 + 1 ≤ n0 + (R.cells : Int) ∧ σ 905 1 + k ≤ s0 + (R.slots : Int)) (hl : (Cond.classLink own idx RX3).before args s = true) (hd : decode cc pc = .ok (.anewarray idx, 3))
    (kk : mGoal p l e R s m args below meth c Q w ct nL n0 s0 (pc + 3) L ((9000 + k.toNat, σ 905 0) :: S) (mnew σ (9000 + k.toNat) k.toNat)) : mGoal p l e R s m args below meth c Q w ct nL n0 s0 pc L ((0, k) :: S) σ := by
  subst hk
  refine so_push (S0 := (0, 6) :: S) F hct hsz hlay (by omega) hmx (fun v hv => List.mem_cons_of_mem _ hv) (fun H locs cells slots ls okS hz hc hs h => ?_) kk
  refine W.anew (n := 6) F.1 F.2.1 F.2.2.2.1 hl (va_AO.use F.2.2.2.2.2.1.2) rfl hd rfl (by decide) (by decide) hc hs fun cA kA comp q1 q2 q3 q4 => ?_
  have hty : s.vm.findClass ("[" ++ (FieldType.object RX3).toString) = some (mty w 3) := by
    obtain ⟨kA', comp', h1, h2, h3, h4⟩ := (F.2.2.2.2.2.2.1.2 3 (mty w 3, .object RX3) rfl).2
    exact h4
  have ec : cA = mty w 3 := Option.some.inj (q1.symm.trans hty)
  subst ec
  rw [hz]
  refine h _ ?_ (by simp) (fun q hq => by rw [Array.getElem?_push, if_neg (Nat.ne_of_lt hq)])
  rw [mcell_s hlay]
  show (H.push _)[mb w + mz σ 0]? = some (vp_cell (mty w 3) (6, .inr (.inr (.inr (.inr fun j => if mnew σ 9006 6 (mz σ 0) j < 0 then none else some (madr w (mnew σ 9006 6 (mz σ 0) j).toNat))))))
  rw [← hz, Array.getElem?_push_size]
  refine congrArg some ?_
  rw [vp_cell_q]
  refine (arrV_new (mty w 3) 6 Value.null).trans (congrArg (arrV _ _) ?_)
  funext j
  rw [mnew_n]
  rfl
theorem so_newo (F : mF p R s args m c w own cc nL) (hct : ct = true) (hsz : (s.heap.size : Int) = mb w + n0) {i k idx : Nat} (hi : i < 11) (hk : k = mNf i) (hlay : mlay (mz σ 0) = 20 + i) (hmx : σ 905 0 + 1 ≤ n0 + (R.cells : Int) ∧ σ 905 1 + (k : Int) ≤ s0 + (R.slots : Int))
    (hl : (Cond.classLink own idx (mC i)).before args s = true) (hl2 : (Cond.instantiable (mC i) k).before args s = true) (hl3 : (Cond.initialized (mC i)).before args s = true) (hd : decode cc pc = .ok (.new idx, 3)) (kk : mGoal p l e R s m args below meth c Q w ct nL n0 s0 (pc + 3) L ((20 + i, σ 905 0) :: S) (mnew σ (20 + i) k)) : mGoal p l e R s m args below meth c Q w ct nL n0 s0 pc L S σ := by
  subst hk
  obtain ⟨ty, h1, h2, h3, h4, h5, h6⟩ := mCl_all hi
  have hKn := F.2.2.2.2.2.2.1.1 i _ h1
  refine so_push (S0 := S) F hct hsz hlay (by omega) hmx (fun v hv => hv) (fun H locs cells slots ls okS hz hc hs h => ?_) kk
  refine W.newcK F.1 F.2.1 F.2.2.2.1 hl hl2 hl3 rfl hd hc hs hKn.2.1 hz fun H' kC hkC q1 q2 q3 => ?_
  refine h H' ?_ (by rw [q2, hz]) (fun q hq => q3 q (by omega))
  rw [mcell_obj hlay hi]
  refine ⟨_, h1, (u_born (ws := mWS) ty F.2.2.2.2.1 h2 hKn hkC q1 h3).to fun j hj => ?_⟩
  show defaultValue (ty j) = vp_V _ j
  unfold vp_V
  rw [List.getD_eq_getElem?_getD, List.getElem?_map, List.getElem?_range hj]
  show defaultValue (ty j) = mfv w (mft i j) (mnew σ (20 + i) (mNf i) (mz σ 0) j)
  rw [mnew_n]
  unfold mdef
  have e1 : Nat.ble 9000 (20 + i) = false := by
    cases hb : Nat.ble 9000 (20 + i)
    · rfl
    · have := Nat.le_of_ble_eq_true hb; omega
  have e2 : Nat.ble 1000 (20 + i) = false := by
    cases hb : Nat.ble 1000 (20 + i)
    · rfl
    · have := Nat.le_of_ble_eq_true hb; omega
  rw [e1, e2, Nat.add_sub_cancel_left]
  by_cases e : mft i j = 0
  · rw [(h6 j hj).1 e, e]
    rfl
  · rw [((h6 j hj).2 e).1]
    have e3 : Nat.beq (mft i j) 0 = false := by
      cases hb : Nat.beq (mft i j) 0
      · rfl
      · exact absurd (Nat.eq_of_beq_eq_true hb) e
    rw [e3]
    unfold mfv
    rw [if_neg e]
    rfl
theorem so_67 (F : mF p R s args m c w own cc nL) (hct : ct = true) {i x v : Int} (hi : 0 ≤ i ∧ i < 6) (hd : decode cc pc = .ok (.aastore, 1)) (kk : mGoal p l e R s m args below meth c Q w ct nL n0 s0 (pc + 1) L S (mset σ x.toNat i.toNat v)) : mGoal p l e R s m args below meth c Q w ct nL n0 s0 pc L ((23, v) :: (0, i) :: (9006, x) :: S) σ := by
  intro H locs cells slots ls hL okL okS hW hS hA
  have hvR := (okS _ List.mem_cons_self).2.2 (show 3 < 23 by omega)
  obtain ⟨q, e1, hq, hlq⟩ := okR_cell ((ok_t (ok_t okS) _ List.mem_cons_self).2.2 (show 3 < 9006 by omega)) ⟨show 20 ≤ 9006 by omega, Or.inr (show 9000 ≤ 9006 by omega)⟩
  obtain ⟨q2, e2, hq2, hlq2⟩ := okR_cell hvR ⟨show 20 ≤ 23 by omega, Or.inl (show 23 < 4000 by omega)⟩
  have e1 : x = (q : Int) := e1
  have e2 : v = (q2 : Int) := e2
  subst e1
  have hq9 : q < 900 := by have := hW.1.1.2; omega
  have hq29 : q2 < 900 := by have := hW.1.1.2; omega
  have hi32 := ok_i (ok_t okS)
  have hlq : mlay q = 9006 := hlq
  have hlq2 : mlay q2 = 20 + 3 := hlq2
  show W p l e R s m args below meth c H locs cells slots Q (F0 m pc ls (mrep w (23, v) :: .int (Int32.ofInt i) :: mrep w (9006, (q : Int)) :: S.map (mrep w)))
  rw [mrep_cell w (by omega) hq9, e2, mrep_cell w (by omega) hq29]
  refine va_astq (r := (RX3, TX3, 4)) F.1 F.2.1 F.2.2.2.2.2.2.1 hW.2.2 (mws_D w σ) hS q 3 q2 3 (by rw [mws_get hq, mcell_s hlq]) rfl (by rw [mws_get hq2, mcell_obj hlq2 (by omega)]) rfl (in_row hi32 hi) hd fun H1 locs1 hP _ hS1 => ?_
  rw [toNat_i hi32] at hP
  have hset : mcell w (mset σ q i.toNat v) q = .inl (mty w 3, 6, .inr (.inr (.inr (.inr (va_up (fun j => if σ q j < 0 then none else some (madr w (σ q j).toNat)) i.toNat (some (mb w + q2))))))) := by
    rw [mcell_s hlq]
    congr 7
    funext j
    unfold va_up
    by_cases ej : j = i.toNat
    · rw [if_pos ej, ej, mset_eq, e2, if_neg (by omega), Int.toNat_natCast]
      unfold madr
      rw [if_pos hq29]
    · rw [if_neg ej, mset_nj ej]
  rw [mws_set hq9 hset] at hP
  refine so_after hq hW.1 hW.2.1 ?_ (fun h => by rw [hct] at h; cases h) hL okL (ok_t (ok_t (ok_t okS))) hS1 hA hP kk
  rw [hlq]
  exact ⟨fun h => by omega, fun _ h => by omega, fun _ h => by omega, fun _ => Or.inr hvR⟩
theorem cat_sum (S : List mV) : ((S.map (mrep w)).map fun v => v.category).sum = (S.map mcat).sum := by
  rw [List.map_map]
  congr 1
  apply List.map_congr_left
  intro v _
  exact mrep_cat w v
theorem so_75 (F : mF p R s args m c w own cc nL) {idx t : Nat} {x : Int} (ht : 20 ≤ t ∧ t < 1000) (hS8 : (S.map mcat).sum ≤ 8) (hl : (Cond.methodLink own idx Lib.objectInit).before args s = true) (hd : decode cc pc = .ok (.invokespecial idx, 3)) (kk : mGoal p l e R s m args below meth c Q w ct nL n0 s0 (pc + 3) L S σ) : mGoal p l e R s m args below meth c Q w ct nL n0 s0 pc L ((t, x) :: S) σ := by
  refine so_st (S2 := S) (fun H locs cells slots ls hL okS _ k => ?_) (fun okS _ => ok_t okS) kk
  show W p l e R s m args below meth c H locs cells slots Q (F0 m pc ls (mrep w (t, x) :: S.map (mrep w)))
  rw [mrep_r w (by omega)]
  exact W.objInit F.1 F.2.1 F.2.2.2.1 hl (F.2.2.2.2.1 _ mob_i) (F.2.2.2.2.1 _ mob_c) rfl (by rw [F.2.2.1]; exact hL.2.1) rfl hd F.2.2.2.2.2.2.2.2.2.1 (by rw [cat_sum]; have := F.2.2.2.2.2.2.2.2.2.2; show 2 * 0 + _ + 12 ≤ _; omega) k
theorem so_mm {idx : Nat} {x y z : Int} (F : mF p R s args m c w own cc nL) (hz : in32 x → in32 y → in32 z) (hrow : ∀ (H : Heap) (locs : List Loc) (cells slots : Nat) (ls : Array Slot) (rest : List Value), in32 x → in32 y → ls.size = nL → cells ≤ R.cells → slots ≤ R.slots → (rest.map fun v => v.category).sum ≤ 8 → W p l e R s m args below meth c H locs cells slots Q (F0 m (pc + 3) ls (.int (Int32.ofInt z) :: rest)) → W p l e R s m args below meth c H locs cells slots Q (F0 m pc ls (.int (Int32.ofInt y) :: .int (Int32.ofInt x) :: rest)))
    (hS8 : (S.map mcat).sum ≤ 8) (kk : mGoal p l e R s m args below meth c Q w ct nL n0 s0 (pc + 3) L ((0, z) :: S) σ) : mGoal p l e R s m args below meth c Q w ct nL n0 s0 pc L ((0, y) :: (0, x) :: S) σ := by
  intro H locs cells slots ls hL okL okS hW hS hA
  have h1 := ok_i (ok_t okS)
  have h2 := ok_i okS
  exact hrow H locs cells slots ls (S.map (mrep w)) h1 h2 hL.2.1 hA.1 hA.2.1 (by rw [cat_sum]; exact hS8) (kk H locs cells slots ls hL okL (List.forall_mem_cons.mpr ⟨okV_i (hz h1 h2), ok_t (ok_t okS)⟩) hW hS hA)
theorem so_81 {idx : Nat} {x y : Int} (F : mF p R s args m c w own cc nL) (hl : (Cond.methodLink own idx Lib.Math.min.name).before args s = true) (hd : decode cc pc = .ok (.invokestatic idx, 3)) (hS8 : (S.map mcat).sum ≤ 8) (kk : mGoal p l e R s m args below meth c Q w ct nL n0 s0 (pc + 3) L ((0, if y < x then y else x) :: S) σ) : mGoal p l e R s m args below meth c Q w ct nL n0 s0 pc L ((0, y) :: (0, x) :: S) σ := by
  refine so_mm (idx := idx) F (fun h1 h2 => by split <;> assumption) (fun H locs cells slots ls rest h1 h2 hs hc hsl h8 k => ?_) hS8 kk
  have := F.2.2.2.2.2.2.2.2.2.2
  refine va_mmin F.1 F.2.1 (by rw [F.2.2.1, hs]) F.2.2.2.1 hl (F.2.2.2.2.1 _ mmmin_s) (F.2.2.2.2.1 _ mm_y) (F.2.2.2.2.1 _ mmmin_c) F.2.2.2.2.2.2.2.2.2.1 (by omega) hc hsl hd ?_
  have e : (if Int32.ofInt y < Int32.ofInt x then Int32.ofInt y else Int32.ofInt x) = Int32.ofInt (if y < x then y else x) := by
    simp only [i32_lt h2 h1]
    split <;> rfl
  rw [e]
  exact k
theorem so_82 {idx : Nat} {x y : Int} (F : mF p R s args m c w own cc nL) (hl : (Cond.methodLink own idx Lib.Math.max.name).before args s = true) (hd : decode cc pc = .ok (.invokestatic idx, 3)) (hS8 : (S.map mcat).sum ≤ 8) (kk : mGoal p l e R s m args below meth c Q w ct nL n0 s0 (pc + 3) L ((0, if x < y then y else x) :: S) σ) : mGoal p l e R s m args below meth c Q w ct nL n0 s0 pc L ((0, y) :: (0, x) :: S) σ := by
  refine so_mm (idx := idx) F (fun h1 h2 => by split <;> assumption) (fun H locs cells slots ls rest h1 h2 hs hc hsl h8 k => ?_) hS8 kk
  have := F.2.2.2.2.2.2.2.2.2.2
  refine va_mmax F.1 F.2.1 (by rw [F.2.2.1, hs]) F.2.2.2.1 hl (F.2.2.2.2.1 _ mmmax_s) (F.2.2.2.2.1 _ mm_y) (F.2.2.2.2.1 _ mmmax_c) F.2.2.2.2.2.2.2.2.2.1 (by omega) hc hsl hd ?_
  have e : (if Int32.ofInt x < Int32.ofInt y then Int32.ofInt y else Int32.ofInt x) = Int32.ofInt (if x < y then y else x) := by
    simp only [i32_lt h1 h2]
    split <;> rfl
  rw [e]
  exact k
end
