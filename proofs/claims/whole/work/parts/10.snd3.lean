/-! SOUNDNESS 3: instructions of the locals and the stack -/
def mInsA (op n : Nat) (v : Int) (ps : List Nat) : Instr × Nat :=
  bif Nat.beq op 0 then (.iconst v, 1) else bif Nat.beq op 1 then (.bipush v, 2) else bif Nat.beq op 2 then (.sipush v, 3)
  else bif Nat.beq op 3 then (bif Nat.beq n 2 then (.ldc (mp ps 0), 2) else (.ldc_w (mp ps 0), 3))
  else bif Nat.beq op 4 then (.lconst ⟨v.toNat % 2, Nat.mod_lt _ (Nat.succ_pos 1)⟩, 1) else bif Nat.beq op 5 then (.ldc2_w (mp ps 0), 3)
  else bif Nat.beq op 6 then (.iload_n ⟨mp ps 0 % 4, Nat.mod_lt _ (Nat.succ_pos 3)⟩, 1) else bif Nat.beq op 7 then (.iload (mp ps 0), 2)
  else bif Nat.beq op 8 then (.aload_n ⟨mp ps 0 % 4, Nat.mod_lt _ (Nat.succ_pos 3)⟩, 1) else bif Nat.beq op 9 then (.aload (mp ps 0), 2)
  else bif Nat.beq op 10 then (.lload_n ⟨mp ps 0 % 4, Nat.mod_lt _ (Nat.succ_pos 3)⟩, 1) else bif Nat.beq op 11 then (.lload (mp ps 0), 2)
  else bif Nat.beq op 12 then (.istore_n ⟨mp ps 0 % 4, Nat.mod_lt _ (Nat.succ_pos 3)⟩, 1) else bif Nat.beq op 13 then (.istore (mp ps 0), 2)
  else bif Nat.beq op 14 then (.astore_n ⟨mp ps 0 % 4, Nat.mod_lt _ (Nat.succ_pos 3)⟩, 1) else bif Nat.beq op 15 then (.astore (mp ps 0), 2)
  else bif Nat.beq op 16 then (.lstore (mp ps 0), 2) else (.iinc (mp ps 0) v, 3)
def mLkA (own : String) (op : Nat) (v : Int) (ps : List Nat) : Bool :=
  bif Nat.beq op 0 then decide (-1 ≤ v ∧ v ≤ 5) else bif Nat.beq op 1 then decide (-128 ≤ v ∧ v < 128) else bif Nat.beq op 2 then decide (-32768 ≤ v ∧ v < 32768)
  else bif Nat.beq op 3 then decide (mWd1 (mp ps 1) = some (.constant own (mp ps 0) (Int32.ofInt v))) && decide (-2147483648 ≤ v ∧ v < 2147483648)
  else bif Nat.beq op 4 then decide (0 ≤ v ∧ v < 2) else bif Nat.beq op 5 then decide (mWd1 (mp ps 1) = some (.constantLong own (mp ps 0) (Int64.ofInt v))) && decide (-9223372036854775808 ≤ v ∧ v < 9223372036854775808)
  else bif Nat.beq op 7 || Nat.beq op 9 || Nat.beq op 11 || Nat.beq op 13 || Nat.beq op 15 || Nat.beq op 16 || Nat.beq op 17 then true else Nat.blt (mp ps 0) 4
def mInsB (op : Nat) : Instr × Nat :=
  bif Nat.beq op 20 then (.iadd, 1) else bif Nat.beq op 21 then (.isub, 1) else bif Nat.beq op 22 then (.imul, 1) else bif Nat.beq op 23 then (.idiv, 1) else bif Nat.beq op 24 then (.irem, 1) else bif Nat.beq op 25 then (.ineg, 1) else bif Nat.beq op 26 then (.iand, 1) else bif Nat.beq op 27 then (.ior, 1) else bif Nat.beq op 28 then (.ixor, 1) else bif Nat.beq op 29 then (.ishl, 1) else bif Nat.beq op 30 then (.ishr, 1) else bif Nat.beq op 31 then (.iushr, 1) else bif Nat.beq op 32 then (.ladd, 1) else bif Nat.beq op 33 then (.lmul, 1) else bif Nat.beq op 34 then (.lshl, 1) else bif Nat.beq op 35 then (.land, 1) else bif Nat.beq op 36 then (.lor, 1) else bif Nat.beq op 37 then (.lcmp, 1) else bif Nat.beq op 38 then (.i2l, 1) else bif Nat.beq op 39 then (.l2i, 1) else bif Nat.beq op 40 then (.i2b, 1) else bif Nat.beq op 41 then (.i2s, 1) else (.nop, 1)
def mpairs (pc : Nat) : List Nat → List (Int × Int)
  | a :: t :: r => ((a : Int), (t : Int) - (pc : Int)) :: mpairs pc r
  | _ => []
def moffs (pc : Nat) : List Nat → List Int
  | _ :: t :: r => ((t : Int) - (pc : Int)) :: moffs pc r
  | _ => []
def mInsC (op n : Nat) (ps : List Nat) (pc : Nat) : Instr × Nat :=
  bif Nat.beq op 42 then (.dup, 1) else bif Nat.beq op 43 then (.dup2, 1) else bif Nat.beq op 44 then (.dup_x1, 1) else bif Nat.beq op 45 then (.pop, 1)
  else bif Nat.beq op 48 then (.goto ((mp ps 0 : Int) - (pc : Int)), 3)
  else bif Nat.beq op 49 then (.tableswitch ((mp ps 0 : Int) - (pc : Int)) (mp ps 1 : Int) ((mp ps 1 : Int) + ((moffs pc (ps.drop 1)).length : Int) - 1) (moffs pc (ps.drop 1)).toArray, n)
  else bif Nat.beq op 50 then (.lookupswitch ((mp ps 0 : Int) - (pc : Int)) (mpairs pc (ps.drop 1)).toArray, n)
  else bif Nat.beq op 100 then (.ifCond .eq ((mp ps 0 : Int) - (pc : Int)), 3)
  else bif Nat.beq op 101 then (.ifCond .ne ((mp ps 0 : Int) - (pc : Int)), 3)
  else bif Nat.beq op 102 then (.ifCond .lt ((mp ps 0 : Int) - (pc : Int)), 3)
  else bif Nat.beq op 103 then (.ifCond .ge ((mp ps 0 : Int) - (pc : Int)), 3)
  else bif Nat.beq op 104 then (.ifCond .gt ((mp ps 0 : Int) - (pc : Int)), 3)
  else bif Nat.beq op 105 then (.ifCond .le ((mp ps 0 : Int) - (pc : Int)), 3)
  else bif Nat.beq op 110 then (.if_icmp .eq ((mp ps 0 : Int) - (pc : Int)), 3)
  else bif Nat.beq op 111 then (.if_icmp .ne ((mp ps 0 : Int) - (pc : Int)), 3)
  else bif Nat.beq op 112 then (.if_icmp .lt ((mp ps 0 : Int) - (pc : Int)), 3)
  else bif Nat.beq op 113 then (.if_icmp .ge ((mp ps 0 : Int) - (pc : Int)), 3)
  else bif Nat.beq op 114 then (.if_icmp .gt ((mp ps 0 : Int) - (pc : Int)), 3)
  else bif Nat.beq op 115 then (.if_icmp .le ((mp ps 0 : Int) - (pc : Int)), 3)
  else (.nop, 1)
/-- the keys of a table: one behind the other from the first on, each with a place -/
def mkeys (k : Nat) : List Nat → Bool
  | a :: _ :: r => Nat.beq a k && mkeys (k + 1) r
  | [] => true
  | _ => false
def mev : List Nat → Bool
  | _ :: _ :: r => mev r
  | [] => true
  | _ => false
def mLkC (op : Nat) (ps : List Nat) : Bool :=
  bif Nat.beq op 49 then mkeys (mp ps 1) (ps.drop 1) && Nat.blt (mp ps 1) 1000 && Nat.blt ps.length 1000
  else bif Nat.beq op 50 then mev (ps.drop 1) && ((mpairs 0 (ps.drop 1)).zip ((mpairs 0 (ps.drop 1)).drop 1)).all (fun (a, next) => a.1 < next.1) && (ps.drop 1).all (fun k => Nat.blt k 2147483648)
  else true
section
variable {p : Program} {l : Launch} {e : Env} {R : Room} {s : State} {m : MethodId} {args : Array Value} {below : List Frame} {meth : Method} {c : Code} {Q : State → Prop} {w : mW} {ct : Bool} {nL : Nat} {n0 s0 : Int} {own : String} {cc : ByteArray} {pc : Nat} {L S : List mV} {σ : mM} {a0 : Int × mM} {g : mG}
theorem so_load {i n : Nat} {u : mV} (hi : L[i]? = some u) (h2 : u.1 ≠ 2) (hrow : ∀ (H : Heap) (locs : List Loc) (cells slots : Nat) (ls : Array Slot) (rest : List Value), ls[i]? = some (.val (mrep w u)) → W p l e R s m args below meth c H locs cells slots Q (F0 m (pc + n) ls (mrep w u :: rest)) → W p l e R s m args below meth c H locs cells slots Q (F0 m pc ls rest))
    (k : mGoal p l e R s m args below meth c Q w ct nL n0 s0 (pc + n) L (u :: S) σ) : mGoal p l e R s m args below meth c Q w ct nL n0 s0 pc L S σ :=
  so_st (S2 := u :: S) (fun H locs cells slots ls hL _ _ h => hrow H locs cells slots ls _ (mLr_get hL hi h2) h) (fun okS okL => List.forall_mem_cons.mpr ⟨okL u (List.mem_of_getElem? hi), okS⟩) k
theorem so_store {i n : Nat} {u : mV} (hi : i < L.length) (hp : i = 0 ∨ (L.getD (i - 1) (2, 0)).1 ≠ 1) (hrow : ∀ (H : Heap) (locs : List Loc) (cells slots : Nat) (ls : Array Slot) (rest : List Value), lv_has ls nL (mlv w 0 L) → i < nL → (∀ ls' : Array Slot, lv_has ls' nL ((i, mrep w u) :: (mlv w 0 L).filter (fun q => !(q.1 == i) && !(q.1 + 1 == i && q.2.category == 2))) → W p l e R s m args below meth c H locs cells slots Q (F0 m (pc + n) ls' rest)) → W p l e R s m args below meth c H locs cells slots Q (F0 m pc ls (mrep w u :: rest)))
    (k : mGoal p l e R s m args below meth c Q w ct nL n0 s0 (pc + n) (L.set i u) S σ) : mGoal p l e R s m args below meth c Q w ct nL n0 s0 pc L (u :: S) σ := by
  intro H locs cells slots ls hL okL okS hW hS hA
  refine hrow H locs cells slots ls (S.map (mrep w)) hL.2 (by rw [← hL.1]; exact hi) fun ls' h' => ?_
  refine k H locs cells slots ls' (mLr_set hL.1 (by rw [← hL.1]; exact hi) hp h') (fun v hv => ?_) (ok_t okS) hW hS hA
  rcases List.mem_or_eq_of_mem_set hv with h | h
  · exact okL v h
  · rw [h]; exact okS u List.mem_cons_self
theorem so_storeJ {i n : Nat} {x : Int} (hi : i + 1 < L.length) (hp : i = 0 ∨ (L.getD (i - 1) (2, 0)).1 ≠ 1) (hrow : ∀ (H : Heap) (locs : List Loc) (cells slots : Nat) (ls : Array Slot) (rest : List Value), lv_has ls nL (mlv w 0 L) → i + 1 < nL → (∀ ls' : Array Slot, lv_has ls' nL ((i, mrep w (1, x)) :: (mlv w 0 L).filter (fun q => !(q.1 == i) && (!(q.1 == i + 1) && !(q.1 + 1 == i && q.2.category == 2)))) → W p l e R s m args below meth c H locs cells slots Q (F0 m (pc + n) ls' rest)) → W p l e R s m args below meth c H locs cells slots Q (F0 m pc ls (mrep w (1, x) :: rest)))
    (k : mGoal p l e R s m args below meth c Q w ct nL n0 s0 (pc + n) ((L.set i (1, x)).set (i + 1) (2, 0)) S σ) : mGoal p l e R s m args below meth c Q w ct nL n0 s0 pc L ((1, x) :: S) σ := by
  intro H locs cells slots ls hL okL okS hW hS hA
  refine hrow H locs cells slots ls (S.map (mrep w)) hL.2 (by rw [← hL.1]; exact hi) fun ls' h' => ?_
  refine k H locs cells slots ls' (mLr_setJ hL.1 (by rw [← hL.1]; exact hi) hp h') (fun v hv => ?_) (ok_t okS) hW hS hA
  rcases List.mem_or_eq_of_mem_set hv with h | h
  · rcases List.mem_or_eq_of_mem_set h with h | h
    · exact okL v h
    · rw [h]; exact okS _ List.mem_cons_self
  · rw [h]; exact ⟨fun (q : 2 = 0) => by omega, fun (q : 2 = 1) => by omega, fun (q : 3 < 2) => by omega⟩
theorem so_iinc {i : Nat} {x v : Int} (hx : L[i]? = some (0, x)) (hi : i < L.length) (hp : i = 0 ∨ (L.getD (i - 1) (2, 0)).1 ≠ 1) (F : mF p R s args m c w own cc nL) (hd : decode cc pc = .ok (.iinc i v, 3))
    (k : mGoal p l e R s m args below meth c Q w ct nL n0 s0 (pc + 3) (L.set i (0, w32 (x + v))) S σ) : mGoal p l e R s m args below meth c Q w ct nL n0 s0 pc L S σ := by
  intro H locs cells slots ls hL okL okS hW hS hA
  have hin : (i, mrep w (0, x)) ∈ mlv w 0 L := mlv_mem.mpr ⟨i, (0, x), hx, (by decide : (0 : Nat) ≠ 2), by rw [Nat.zero_add]⟩
  obtain ⟨j, hj⟩ := List.getElem?_of_mem hin
  refine lv_iinc (v := Int32.ofInt (w32 (x + v))) F.1 F.2.1 hd hL.2 (k := j) hj (by rw [w32_of, Int32.ofInt_add]) (by rw [← hL.1]; exact hi) rfl fun ls' h' => ?_
  refine k H locs cells slots ls' (mLr_set hL.1 (by rw [← hL.1]; exact hi) hp h') (fun u hu => ?_) okS hW hS hA
  rcases List.mem_or_eq_of_mem_set hu with h | h
  · exact okL u h
  · rw [h]; exact okV_i (w32_in _)
theorem mWS_in {own : String} (F : mF p R s args m c w own cc nL) {k : Nat} {x : Cond} (h : mWd1 k = some x) (hg : goodWord x = true) : x.before args s = true := F.2.2.2.2.1 x (mWd1_ws h hg)
theorem match_some {x : Option mV} {b : Nat → Int → Bool} {k : Nat → Int → mA} {a : Int × mM} (h : (match x with | some (t, x) => bif b t x then k t x else none | none => none) = some a) : ∃ t v, x = some (t, v) ∧ b t v = true ∧ k t v = some a := by
  match x, h with
  | some (t, v), h =>
    obtain ⟨h1, h2⟩ := cond_some h
    exact ⟨t, v, rfl, h1, h2⟩
theorem snd_A {op n : Nat} {v : Int} {ps : List Nat} (hop : op < 20) (F : mF p R s args m c w own cc nL) (hd : decode cc pc = .ok (mInsA op n v ps)) (hn : n = (mInsA op n v ps).2) (hl : mLkA own op v ps = true)
    (hg : ∀ pc L S σ, g pc L S σ = some a0 → mGoal p l e R s m args below meth c Q w ct nL n0 s0 pc L S σ) (h : mstepA g op n v ps pc L S σ = some a0) : mGoal p l e R s m args below meth c Q w ct nL n0 s0 pc L S σ := by
  have hx := F.1
  have hb := F.2.1
  have hown := F.2.2.2.1
  have fm : ∀ {k : Nat}, Nat.blt k 4 = true → k % 4 = k := fun h => Nat.mod_eq_of_lt (Nat.blt_eq.mp h)
  rcases (by omega : op = 0 ∨ op = 1 ∨ op = 2 ∨ op = 3 ∨ op = 4 ∨ op = 5 ∨ op = 6 ∨ op = 7 ∨ op = 8 ∨ op = 9 ∨ op = 10 ∨ op = 11 ∨ op = 12 ∨ op = 13 ∨ op = 14 ∨ op = 15 ∨ op = 16 ∨ op = 17 ∨ op = 18 ∨ op = 19) with rfl | rfl | rfl | rfl | rfl | rfl | rfl | rfl | rfl | rfl | rfl | rfl | rfl | rfl | rfl | rfl | rfl | rfl | rfl | rfl
  · have hn : n = 1 := hn
    subst hn
    have hv := of_decide_eq_true (p := (-1 ≤ v ∧ v ≤ 5)) hl
    exact so_pi (by unfold in32; omega) (fun H locs cells slots ls rest k => lv_iconst hx hb hd rfl k) (hg _ _ _ _ h)
  · have hn : n = 2 := hn
    subst hn
    have hv := of_decide_eq_true (p := (-128 ≤ v ∧ v < 128)) hl
    exact so_pi (by unfold in32; omega) (fun H locs cells slots ls rest k => lv_bipush hx hb hd (bi_of hv) k) (hg _ _ _ _ h)
  · have hn : n = 3 := hn
    subst hn
    have hv := of_decide_eq_true (p := (-32768 ≤ v ∧ v < 32768)) hl
    exact so_pi (by unfold in32; omega) (fun H locs cells slots ls rest k => lv_sipush hx hb hd (si_of hv) k) (hg _ _ _ _ h)
  · have hl : (decide (mWd1 (mp ps 1) = some (.constant own (mp ps 0) (Int32.ofInt v))) && decide (-2147483648 ≤ v ∧ v < 2147483648)) = true := hl
    rw [Bool.and_eq_true, decide_eq_true_eq, decide_eq_true_eq] at hl
    have hw := mWS_in F hl.1 rfl
    have hn : n = (bif Nat.beq n 2 then (Instr.ldc (mp ps 0), 2) else (Instr.ldc_w (mp ps 0), 3) : Instr × Nat).2 := hn
    have hd : decode cc pc = .ok (bif Nat.beq n 2 then (Instr.ldc (mp ps 0), 2) else (Instr.ldc_w (mp ps 0), 3)) := hd
    cases hb2 : Nat.beq n 2
    · rw [hb2] at hn hd
      have hn : n = 3 := hn
      subst hn
      exact so_pi hl.2 (fun H locs cells slots ls rest k => lv_ldcw hx hb hown hw hd k) (hg _ _ _ _ h)
    · have hn := Nat.eq_of_beq_eq_true hb2
      subst hn
      exact so_pi hl.2 (fun H locs cells slots ls rest k => lv_ldc hx hb hown hw hd k) (hg _ _ _ _ h)
  · have hn : n = 1 := hn
    subst hn
    have hv := of_decide_eq_true (p := (0 ≤ v ∧ v < 2)) hl
    refine so_pj (by unfold in64; omega) (fun H locs cells slots ls rest k => lv_lconst hx hb hd ?_ k) (hg _ _ _ _ h)
    rcases (by omega : v = 0 ∨ v = 1) with rfl | rfl <;> rfl
  · have hn : n = 3 := hn
    subst hn
    have hl : (decide (mWd1 (mp ps 1) = some (.constantLong own (mp ps 0) (Int64.ofInt v))) && decide (-9223372036854775808 ≤ v ∧ v < 9223372036854775808)) = true := hl
    rw [Bool.and_eq_true, decide_eq_true_eq, decide_eq_true_eq] at hl
    exact so_pj hl.2 (fun H locs cells slots ls rest k => lv_ldc2 hx hb hown (mWS_in F hl.1 rfl) hd k) (hg _ _ _ _ h)
  · have hn : n = 1 := hn
    subst hn
    obtain ⟨t, x, hi, hb1, h⟩ := match_some (b := fun t _ => bif Nat.blt 6 8 then Nat.beq t 0 else bif Nat.blt 6 10 then Nat.blt 3 t else Nat.beq t 1) (k := fun t x => g (pc + 1) L ((t, x) :: S) σ) h
    have ht : t = 0 := Nat.eq_of_beq_eq_true hb1
    subst ht
    refine so_load hi (by decide : (0 : Nat) ≠ 2) (fun H locs cells slots ls rest hls k => ?_) (hg _ _ _ _ h)
    exact lv_iload_n (i := mp ps 0) hx hb hd (fm hl) hls k
  · have hn : n = 2 := hn
    subst hn
    obtain ⟨t, x, hi, hb1, h⟩ := match_some (b := fun t _ => bif Nat.blt 7 8 then Nat.beq t 0 else bif Nat.blt 7 10 then Nat.blt 3 t else Nat.beq t 1) (k := fun t x => g (pc + 2) L ((t, x) :: S) σ) h
    have ht : t = 0 := Nat.eq_of_beq_eq_true hb1
    subst ht
    refine so_load hi (by decide : (0 : Nat) ≠ 2) (fun H locs cells slots ls rest hls k => ?_) (hg _ _ _ _ h)
    exact lv_iload hx hb hd hls k
  · have hn : n = 1 := hn
    subst hn
    obtain ⟨t, x, hi, hb1, h⟩ := match_some (b := fun t _ => bif Nat.blt 8 8 then Nat.beq t 0 else bif Nat.blt 8 10 then Nat.blt 3 t else Nat.beq t 1) (k := fun t x => g (pc + 1) L ((t, x) :: S) σ) h
    have ht : 3 < t := Nat.blt_eq.mp hb1
    refine so_load hi (show t ≠ 2 by omega) (fun H locs cells slots ls rest hls k => ?_) (hg _ _ _ _ h)
    rw [mrep_r w ht] at hls k
    exact lv_aload_n (i := mp ps 0) hx hb hd (fm hl) hls k
  · have hn : n = 2 := hn
    subst hn
    obtain ⟨t, x, hi, hb1, h⟩ := match_some (b := fun t _ => bif Nat.blt 9 8 then Nat.beq t 0 else bif Nat.blt 9 10 then Nat.blt 3 t else Nat.beq t 1) (k := fun t x => g (pc + 2) L ((t, x) :: S) σ) h
    have ht : 3 < t := Nat.blt_eq.mp hb1
    refine so_load hi (show t ≠ 2 by omega) (fun H locs cells slots ls rest hls k => ?_) (hg _ _ _ _ h)
    rw [mrep_r w ht] at hls k
    exact lv_aload hx hb hd hls k
  · have hn : n = 1 := hn
    subst hn
    obtain ⟨t, x, hi, hb1, h⟩ := match_some (b := fun t _ => bif Nat.blt 10 8 then Nat.beq t 0 else bif Nat.blt 10 10 then Nat.blt 3 t else Nat.beq t 1) (k := fun t x => g (pc + 1) L ((t, x) :: S) σ) h
    have ht : t = 1 := Nat.eq_of_beq_eq_true hb1
    subst ht
    refine so_load hi (by decide : (1 : Nat) ≠ 2) (fun H locs cells slots ls rest hls k => ?_) (hg _ _ _ _ h)
    exact lv_lload_n (i := mp ps 0) hx hb hd (fm hl) hls k
  · have hn : n = 2 := hn
    subst hn
    obtain ⟨t, x, hi, hb1, h⟩ := match_some (b := fun t _ => bif Nat.blt 11 8 then Nat.beq t 0 else bif Nat.blt 11 10 then Nat.blt 3 t else Nat.beq t 1) (k := fun t x => g (pc + 2) L ((t, x) :: S) σ) h
    have ht : t = 1 := Nat.eq_of_beq_eq_true hb1
    subst ht
    refine so_load hi (by decide : (1 : Nat) ≠ 2) (fun H locs cells slots ls rest hls k => ?_) (hg _ _ _ _ h)
    exact lv_lload hx hb hd hls k
  · have hn : n = 1 := hn
    subst hn
    obtain ⟨x, S, rfl, h0⟩ := mpop1_some h
    obtain ⟨h1, h2, h3⟩ := mput_some h0
    refine so_store h1 h2 (fun H locs cells slots ls rest q1 q2 k => ?_) (hg _ _ _ _ h3)
    exact lv_istore_n (i := mp ps 0) hx hb hd (fm hl) q1 q2 rfl k
  · have hn : n = 2 := hn
    subst hn
    obtain ⟨x, S, rfl, h0⟩ := mpop1_some h
    obtain ⟨h1, h2, h3⟩ := mput_some h0
    refine so_store h1 h2 (fun H locs cells slots ls rest q1 q2 k => ?_) (hg _ _ _ _ h3)
    exact lv_istore hx hb hd q1 q2 rfl k
  · have hn : n = 1 := hn
    subst hn
    obtain ⟨t, x, S, rfl, ht, h0⟩ := mpopR_some h
    obtain ⟨h1, h2, h3⟩ := mput_some h0
    refine so_store h1 h2 (fun H locs cells slots ls rest q1 q2 k => ?_) (hg _ _ _ _ h3)
    rw [mrep_r w ht] at k ⊢
    exact lv_astore_n (i := mp ps 0) hx hb hd (fm hl) q1 q2 rfl k
  · have hn : n = 2 := hn
    subst hn
    obtain ⟨t, x, S, rfl, ht, h0⟩ := mpopR_some h
    obtain ⟨h1, h2, h3⟩ := mput_some h0
    refine so_store h1 h2 (fun H locs cells slots ls rest q1 q2 k => ?_) (hg _ _ _ _ h3)
    rw [mrep_r w ht] at k ⊢
    exact lv_astore hx hb hd q1 q2 rfl k
  · have hn : n = 2 := hn
    subst hn
    obtain ⟨x, S, rfl, h0⟩ := mpopJ_some h
    obtain ⟨h1, h2, h3⟩ := mputJ_some h0
    exact so_storeJ h1 h2 (fun H locs cells slots ls rest q1 q2 k => lv_lstore hx hb hd q1 q2 rfl k) (hg _ _ _ _ h3)
  · have hn : n = 3 := hn
    subst hn
    obtain ⟨t, x, hi, hb1, h⟩ := match_some (b := fun t _ => Nat.beq t 0) (k := fun _ x => mput L (mp ps 0) (0, w32 (x + v)) fun L' => g (pc + 3) L' S σ) h
    have ht : t = 0 := Nat.eq_of_beq_eq_true hb1
    subst ht
    obtain ⟨h1, h2, h3⟩ := mput_some h
    exact so_iinc hi h1 h2 F hd (hg _ _ _ _ h3)
  · cases h
  · cases h
theorem snd_B {op n : Nat} (hop : op < 42) (hop2 : 20 ≤ op) (F : mF p R s args m c w own cc nL) (hd : decode cc pc = .ok (mInsB op)) (hn : n = (mInsB op).2)
    (hg : ∀ pc L S σ, g pc L S σ = some a0 → mGoal p l e R s m args below meth c Q w ct nL n0 s0 pc L S σ) (h : mstepB g op n pc L S σ = some a0) : mGoal p l e R s m args below meth c Q w ct nL n0 s0 pc L S σ := by
  have hx := F.1
  have hb := F.2.1
  rcases (by omega : op = 20 ∨ op = 21 ∨ op = 22 ∨ op = 23 ∨ op = 24 ∨ op = 25 ∨ op = 26 ∨ op = 27 ∨ op = 28 ∨ op = 29 ∨ op = 30 ∨ op = 31 ∨ op = 32 ∨ op = 33 ∨ op = 34 ∨ op = 35 ∨ op = 36 ∨ op = 37 ∨ op = 38 ∨ op = 39 ∨ op = 40 ∨ op = 41) with rfl | rfl | rfl | rfl | rfl | rfl | rfl | rfl | rfl | rfl | rfl | rfl | rfl | rfl | rfl | rfl | rfl | rfl | rfl | rfl | rfl | rfl
  · have hn : n = 1 := hn
    subst hn
    obtain ⟨x, y, S, rfl, h⟩ := mpop2_some h
    exact so_ii (fun H locs cells slots ls rest a b k => lv_iadd hx hb hd k) (fun hx hy => ⟨by rw [w32_of, Int32.ofInt_add], w32_in _⟩) (hg _ _ _ _ h)
  · have hn : n = 1 := hn
    subst hn
    obtain ⟨x, y, S, rfl, h⟩ := mpop2_some h
    exact so_ii (fun H locs cells slots ls rest a b k => lv_isub hx hb hd k) (fun hx hy => ⟨by rw [w32_of, Int32.ofInt_sub], w32_in _⟩) (hg _ _ _ _ h)
  · have hn : n = 1 := hn
    subst hn
    obtain ⟨x, y, S, rfl, h⟩ := mpop2_some h
    exact so_ii (fun H locs cells slots ls rest a b k => lv_imul hx hb hd k) (fun hx hy => ⟨by rw [w32_of, Int32.ofInt_mul], w32_in _⟩) (hg _ _ _ _ h)
  · have hn : n = 1 := hn
    subst hn
    obtain ⟨x, y, S, rfl, h⟩ := mpop2_some h
    by_cases hy0 : y = 0
    · have := (bEq_some h).1 hy0
      cases this
    have h := (bEq_some h).2 hy0
    refine so_st (S2 := (0, w32 (x.tdiv y)) :: S) (fun H locs cells slots ls _ okS _ k => ?_) (fun okS _ => List.forall_mem_cons.mpr ⟨okV_i (w32_in _), ok_t (ok_t okS)⟩) (hg _ _ _ _ h)
    have h1 : in32 x := ok_i (ok_t okS)
    have h2 : in32 y := ok_i okS
    refine lv_idiv (x := Int32.ofInt x) (y := Int32.ofInt y) hx hb hd (fun q => hy0 ((i32_eq h2 in32_0).mp q)) ?_
    rw [(i32_div h1 h2).symm]
    exact k
  · have hn : n = 1 := hn
    subst hn
    obtain ⟨x, y, S, rfl, h⟩ := mpop2_some h
    by_cases hy0 : y = 0
    · have := (bEq_some h).1 hy0
      cases this
    have h := (bEq_some h).2 hy0
    refine so_st (S2 := (0, x.tmod y) :: S) (fun H locs cells slots ls _ okS _ k => ?_) (fun okS _ => List.forall_mem_cons.mpr ⟨okV_i (tmod_in (ok_i (ok_t okS))), ok_t (ok_t okS)⟩) (hg _ _ _ _ h)
    have h1 : in32 x := ok_i (ok_t okS)
    have h2 : in32 y := ok_i okS
    refine lv_irem (x := Int32.ofInt x) (y := Int32.ofInt y) hx hb hd (fun q => hy0 ((i32_eq h2 in32_0).mp q)) ?_
    rw [(i32_rem h1 h2).symm]
    exact k
  · have hn : n = 1 := hn
    subst hn
    obtain ⟨x, S, rfl, h⟩ := mpop1_some h
    refine so_st (S2 := (0, w32 (-x)) :: S) (fun H locs cells slots ls _ okS _ k => ?_) (fun okS _ => List.forall_mem_cons.mpr ⟨okV_i (w32_in _), ok_t okS⟩) (hg _ _ _ _ h)
    refine lv_ineg (x := Int32.ofInt x) hx hb hd ?_
    rw [show -Int32.ofInt x = Int32.ofInt (w32 (-x)) by rw [w32_of, Int32.ofInt_neg]]
    exact k
  · have hn : n = 1 := hn
    subst hn
    obtain ⟨x, y, S, rfl, h⟩ := mpop2_some h
    exact so_ii (fun H locs cells slots ls rest a b k => lv_iand hx hb hd k) (fun hx hy => ⟨Int32.ofInt_toInt _, i32_in _⟩) (hg _ _ _ _ h)
  · have hn : n = 1 := hn
    subst hn
    obtain ⟨x, y, S, rfl, h⟩ := mpop2_some h
    exact so_ii (fun H locs cells slots ls rest a b k => lv_ior hx hb hd k) (fun hx hy => ⟨Int32.ofInt_toInt _, i32_in _⟩) (hg _ _ _ _ h)
  · have hn : n = 1 := hn
    subst hn
    obtain ⟨x, y, S, rfl, h⟩ := mpop2_some h
    exact so_ii (fun H locs cells slots ls rest a b k => lv_ixor hx hb hd k) (fun hx hy => ⟨Int32.ofInt_toInt _, i32_in _⟩) (hg _ _ _ _ h)
  · have hn : n = 1 := hn
    subst hn
    obtain ⟨x, y, S, rfl, h⟩ := mpop2_some h
    exact so_ii (fun H locs cells slots ls rest a b k => lv_ishl hx hb hd k) (fun hx hy => ⟨Int32.ofInt_toInt _, i32_in _⟩) (hg _ _ _ _ h)
  · have hn : n = 1 := hn
    subst hn
    obtain ⟨x, y, S, rfl, h⟩ := mpop2_some h
    exact so_ii (fun H locs cells slots ls rest a b k => lv_ishr hx hb hd k) (fun hx hy => ⟨Int32.ofInt_toInt _, i32_in _⟩) (hg _ _ _ _ h)
  · have hn : n = 1 := hn
    subst hn
    obtain ⟨x, y, S, rfl, h⟩ := mpop2_some h
    exact so_ii (fun H locs cells slots ls rest a b k => lv_iushr hx hb hd rfl k) (fun hx hy => ⟨Int32.ofInt_toInt _, i32_in _⟩) (hg _ _ _ _ h)
  · have hn : n = 1 := hn
    subst hn
    obtain ⟨x, y, S, rfl, h⟩ := mpopJ2_some h
    exact so_jj (fun H locs cells slots ls rest a b k => lv_ladd hx hb hd k) (fun hx hy => ⟨by rw [w64_of, Int64.ofInt_add], w64_in _⟩) (hg _ _ _ _ h)
  · have hn : n = 1 := hn
    subst hn
    obtain ⟨x, y, S, rfl, h⟩ := mpopJ2_some h
    exact so_jj (fun H locs cells slots ls rest a b k => lv_lmul hx hb hd k) (fun hx hy => ⟨by rw [w64_of, Int64.ofInt_mul], w64_in _⟩) (hg _ _ _ _ h)
  · have hn : n = 1 := hn
    subst hn
    obtain ⟨y, S1, rfl, h⟩ := mpop1_some h
    obtain ⟨x, S, rfl, h⟩ := mpopJ_some (show mpopJ S1 (fun x S'' => g (pc + 1) L ((1, (Int64.ofInt x <<< ((Int32.ofInt y).toInt64 &&& 63)).toInt) :: S'') σ) = some a0 from h)
    refine so_st (S2 := (1, (Int64.ofInt x <<< ((Int32.ofInt y).toInt64 &&& 63)).toInt) :: S) (fun H locs cells slots ls _ okS _ k => ?_) (fun okS _ => List.forall_mem_cons.mpr ⟨okV_l (i64_in _), ok_t (ok_t okS)⟩) (hg _ _ _ _ h)
    refine lv_lshl (x := Int64.ofInt x) (y := Int32.ofInt y) hx hb hd (Int64.ofInt_toInt _).symm ?_
    exact k
  · have hn : n = 1 := hn
    subst hn
    obtain ⟨x, y, S, rfl, h⟩ := mpopJ2_some h
    exact so_jj (fun H locs cells slots ls rest a b k => lv_land hx hb hd k) (fun hx hy => ⟨Int64.ofInt_toInt _, i64_in _⟩) (hg _ _ _ _ h)
  · have hn : n = 1 := hn
    subst hn
    obtain ⟨x, y, S, rfl, h⟩ := mpopJ2_some h
    exact so_jj (fun H locs cells slots ls rest a b k => lv_lor hx hb hd k) (fun hx hy => ⟨Int64.ofInt_toInt _, i64_in _⟩) (hg _ _ _ _ h)
  · have hn : n = 1 := hn
    subst hn
    obtain ⟨x, y, S, rfl, h⟩ := mpopJ2_some h
    refine so_st (S2 := (0, if x < y then -1 else if x = y then 0 else 1) :: S) (fun H locs cells slots ls _ okS _ k => ?_) (fun okS _ => List.forall_mem_cons.mpr ⟨okV_i (by unfold in32; split <;> (try split) <;> omega), ok_t (ok_t okS)⟩) (hg _ _ _ _ h)
    refine W.lcmp (x := Int64.ofInt x) (y := Int64.ofInt y) hx hb hd ?_
    have h1 : in64 x := ok_l (ok_t okS)
    have h2 : in64 y := ok_l okS
    have e : lg_cmp (Int64.ofInt x) (Int64.ofInt y) = Int32.ofInt (if x < y then -1 else if x = y then 0 else 1) := by
      unfold lg_cmp
      simp only [i64_lt h1 h2, i64_lt h2 h1, i64_eq h1 h2, i64_eq h2 h1]
      by_cases q1 : x < y
      · simp [q1, show ¬ y < x by omega, show ¬ x = y by omega]
        try rfl
      · by_cases q2 : x = y
        · simp [q2]
          try rfl
        · simp [q1, q2, show y < x by omega]
          try rfl
    rw [e]
    exact k
  · have hn : n = 1 := hn
    subst hn
    obtain ⟨x, S, rfl, h⟩ := mpop1_some h
    refine so_st (S2 := (1, x) :: S) (fun H locs cells slots ls _ okS _ k => lv_i2l (x := Int32.ofInt x) hx hb hd (i2l_of (ok_i okS)) k) (fun okS _ => List.forall_mem_cons.mpr ⟨okV_l ?_, ok_t okS⟩) (hg _ _ _ _ h)
    have := ok_i okS
    unfold in32 at this
    unfold in64
    omega
  · have hn : n = 1 := hn
    subst hn
    obtain ⟨x, S, rfl, h⟩ := mpopJ_some h
    exact so_st (S2 := (0, w32 x) :: S) (fun H locs cells slots ls _ okS _ k => lv_l2i (x := Int64.ofInt x) hx hb hd (l2i_of x) k) (fun okS _ => List.forall_mem_cons.mpr ⟨okV_i (w32_in _), ok_t okS⟩) (hg _ _ _ _ h)
  · have hn : n = 1 := hn
    subst hn
    obtain ⟨x, S, rfl, h⟩ := mpop1_some h
    exact so_st (S2 := (0, (x + 128) % 256 - 128) :: S) (fun H locs cells slots ls _ okS _ k => lv_i2b (x := Int32.ofInt x) hx hb hd (w8_of x) k) (fun okS _ => List.forall_mem_cons.mpr ⟨okV_i (by unfold in32; omega), ok_t okS⟩) (hg _ _ _ _ h)
  · have hn : n = 1 := hn
    subst hn
    obtain ⟨x, S, rfl, h⟩ := mpop1_some h
    exact so_st (S2 := (0, (x + 32768) % 65536 - 32768) :: S) (fun H locs cells slots ls _ okS _ k => lv_i2s (x := Int32.ofInt x) hx hb hd (w16_of x) k) (fun okS _ => List.forall_mem_cons.mpr ⟨okV_i (by unfold in32; omega), ok_t okS⟩) (hg _ _ _ _ h)
theorem mcat_1 {t : Nat} {x : Int} (h : Nat.beq t 1 = false) : (mrep w (t, x)).category = 1 := by
  rw [mrep_cat]
  show (bif Nat.beq t 1 then 2 else 1) = 1
  rw [h]
  rfl
theorem cond_none {b : Bool} {f : mA} {a : Int × mM} (h : (bif b then none else f) = some a) : b = false ∧ f = some a := by
  cases b
  · exact ⟨rfl, h⟩
  · cases h
theorem m_off {pc t : Nat} : (pc : Int) + ((t : Int) - (pc : Int)) = (t : Int) := by omega
theorem msw_off {x : Int} (hx : in32 x) {ps : List Nat} {d : Nat} (hS : ∀ v ∈ S, okV (mz σ 0) v) (hlt : ps.all (fun k => Nat.blt k 2147483648) = true) (hev : mev ps = true) (h : msw g L S σ x ps d = some a0) :
    ∃ t : Nat, g t L S σ = some a0 ∧ Op.lookupswitch.offset (mpairs pc ps) ((d : Int) - (pc : Int)) (Int32.ofInt x).toInt = (t : Int) - (pc : Int) := by
  rw [i32_t hx]
  induction ps using mev.induct with
  | case1 a t r ih =>
    have h : bEq x (a : Int) (g t L S σ) (msw g L S σ x r d) = some a0 := h
    unfold mpairs
    rw [Op.lookupswitch.offset_cons]
    by_cases e : x = (a : Int)
    · rw [if_pos e.symm]
      exact ⟨t, (bEq_some h).1 e, rfl⟩
    · rw [if_neg (fun q => e q.symm)]
      have h1 : (Nat.blt a 2147483648 && (Nat.blt t 2147483648 && r.all fun k => Nat.blt k 2147483648)) = true := hlt
      simp only [Bool.and_eq_true] at h1
      exact ih h1.2.2 hev ((bEq_some h).2 e)
  | case2 => exact ⟨d, h, rfl⟩
  | case3 x h1 h2 =>
    unfold mev at hev
    split at hev
    · exact absurd rfl (h1 _ _ _)
    · exact absurd rfl h2
    · cases hev
theorem msw_tab {x : Int} {d : Nat} : ∀ (ps : List Nat) (k : Nat), mkeys k ps = true → msw g L S σ x ps d = some a0 →
    (∃ (j t : Nat), x = ((k + j : Nat) : Int) ∧ j < (moffs pc ps).length ∧ (moffs pc ps)[j]? = some ((t : Int) - (pc : Int)) ∧ g t L S σ = some a0) ∨ ((x < (k : Int) ∨ ((k + (moffs pc ps).length : Nat) : Int) ≤ x) ∧ g d L S σ = some a0) := by
  intro ps k hk h
  induction ps using mev.induct generalizing k with
  | case1 a t r ih =>
    have hk : (Nat.beq a k && mkeys (k + 1) r) = true := hk
    rw [Bool.and_eq_true] at hk
    have ea := Nat.eq_of_beq_eq_true hk.1
    subst ea
    have h : bEq x (a : Int) (g t L S σ) (msw g L S σ x r d) = some a0 := h
    have hlen : (moffs pc (a :: t :: r)).length = (moffs pc r).length + 1 := rfl
    by_cases e : x = (a : Int)
    · left
      exact ⟨0, t, by omega, by omega, rfl, (bEq_some h).1 e⟩
    · rcases ih (a + 1) hk.2 ((bEq_some h).2 e) with ⟨j, t', h1, h2, h3, h4⟩ | ⟨h1, h2⟩
      · left
        exact ⟨j + 1, t', by omega, by omega, h3, h4⟩
      · right
        refine ⟨?_, h2⟩
        omega
  | case2 =>
    right
    refine ⟨?_, h⟩
    have : (moffs pc []).length = 0 := rfl
    omega
  | case3 x' h1 h2 =>
    unfold mkeys at hk
    split at hk
    · exact absurd rfl (h1 _ _ _)
    · exact absurd rfl h2
    · cases hk
theorem snd_C {op n : Nat} {ps : List Nat} (F : mF p R s args m c w own cc nL) (hd : decode cc pc = .ok (mInsC op n ps pc)) (hn : n = (mInsC op n ps pc).2) (hl : mLkC op ps = true)
    (hg : ∀ pc L S σ, g pc L S σ = some a0 → mGoal p l e R s m args below meth c Q w ct nL n0 s0 pc L S σ) (h : mstepC g op n ps pc L S σ = some a0) : mGoal p l e R s m args below meth c Q w ct nL n0 s0 pc L S σ := by
  have hx := F.1
  have hb := F.2.1
  by_cases e : op = 42
  · subst e
    have hn : n = 1 := hn
    subst hn
    match S, h with
    | (t, x) :: S', h =>
      obtain ⟨h1, h⟩ := cond_none (show (bif Nat.beq t 1 then none else g (pc + 1) L ((t, x) :: (t, x) :: S') σ) = some a0 from h)
      exact so_st (S2 := (t, x) :: (t, x) :: S') (fun H locs cells slots ls _ _ _ k => lv_dup hx hb hd (mcat_1 h1) k) (fun okS _ => List.forall_mem_cons.mpr ⟨okS _ List.mem_cons_self, okS⟩) (hg _ _ _ _ h)
  by_cases e : op = 43
  · subst e
    have hn : n = 1 := hn
    subst hn
    match S, h with
    | (t, x) :: (t2, x2) :: S', h =>
      obtain ⟨h1, h⟩ := cond_none (show (bif Nat.beq t 1 || Nat.beq t2 1 then none else g (pc + 1) L ((t, x) :: (t2, x2) :: (t, x) :: (t2, x2) :: S') σ) = some a0 from h)
      rw [Bool.or_eq_false_iff] at h1
      exact so_st (S2 := (t, x) :: (t2, x2) :: (t, x) :: (t2, x2) :: S') (fun H locs cells slots ls _ _ _ k => lv_dup2_11 hx hb hd (mcat_1 h1.1) (mcat_1 h1.2) k) (fun okS _ => List.forall_mem_cons.mpr ⟨okS _ List.mem_cons_self, List.forall_mem_cons.mpr ⟨okS _ (List.mem_cons_of_mem _ List.mem_cons_self), okS⟩⟩) (hg _ _ _ _ h)
    | [_], h => cases h
  by_cases e : op = 44
  · subst e
    have hn : n = 1 := hn
    subst hn
    match S, h with
    | (t, x) :: (t2, x2) :: S', h =>
      obtain ⟨h1, h⟩ := cond_none (show (bif Nat.beq t 1 || Nat.beq t2 1 then none else g (pc + 1) L ((t, x) :: (t2, x2) :: (t, x) :: S') σ) = some a0 from h)
      rw [Bool.or_eq_false_iff] at h1
      exact so_st (S2 := (t, x) :: (t2, x2) :: (t, x) :: S') (fun H locs cells slots ls _ _ _ k => lv_dup_x1 hx hb hd (mcat_1 h1.1) (mcat_1 h1.2) k) (fun okS _ => List.forall_mem_cons.mpr ⟨okS _ List.mem_cons_self, List.forall_mem_cons.mpr ⟨okS _ (List.mem_cons_of_mem _ List.mem_cons_self), List.forall_mem_cons.mpr ⟨okS _ List.mem_cons_self, ok_t (ok_t okS)⟩⟩⟩) (hg _ _ _ _ h)
    | [_], h => cases h
  by_cases e : op = 45
  · subst e
    have hn : n = 1 := hn
    subst hn
    match S, h with
    | (t, x) :: S', h =>
      obtain ⟨h1, h⟩ := cond_none (show (bif Nat.beq t 1 then none else g (pc + 1) L S' σ) = some a0 from h)
      exact so_st (S2 := S') (fun H locs cells slots ls _ _ _ k => lv_pop hx hb hd (mcat_1 h1) k) (fun okS _ => ok_t okS) (hg _ _ _ _ h)
  by_cases e : op = 48
  · subst e
    exact so_st (S2 := S) (fun H locs cells slots ls _ _ _ k => lv_goto hx hb hd m_off k) (fun okS _ => okS) (hg _ _ _ _ h)
  by_cases e : op = 49
  · subst e
    obtain ⟨x, S, rfl, h⟩ := mpop1_some h
    have hl : (mkeys (mp ps 1) (ps.drop 1) && Nat.blt (mp ps 1) 1000 && Nat.blt ps.length 1000) = true := hl
    simp only [Bool.and_eq_true] at hl
    have hd : decode cc pc = .ok (.tableswitch ((mp ps 0 : Int) - (pc : Int)) (mp ps 1 : Int) ((mp ps 1 : Int) + ((moffs pc (ps.drop 1)).length : Int) - 1) (moffs pc (ps.drop 1)).toArray, n) := hd
    rcases msw_tab (pc := pc) _ _ hl.1.1 h with ⟨j, t, h1, h2, h3, h4⟩ | ⟨h1, h2⟩
    · refine so_st (S2 := S) (fun H locs cells slots ls _ okS _ k => ?_) (fun okS _ => ok_t okS) (hg _ _ _ _ h4)
      have hx1 : in32 x := ok_i okS
      refine lv_tableIn (x := Int32.ofInt x) (off := (t : Int) - (pc : Int)) hx hb hd ?_ ?_ ?_ m_off k
      · rw [i32_t hx1]; omega
      · rw [i32_t hx1]; omega
      · rw [i32_t hx1, show (x - (mp ps 1 : Int)).toNat = j by omega, List.getElem?_toArray]
        exact h3
    · refine so_st (S2 := S) (fun H locs cells slots ls _ okS _ k => ?_) (fun okS _ => ok_t okS) (hg _ _ _ _ h2)
      have hx1 : in32 x := ok_i okS
      refine lv_tableOut (x := Int32.ofInt x) hx hb hd ?_ m_off k
      rw [i32_t hx1]
      omega
  by_cases e : op = 50
  · subst e
    obtain ⟨x, S, rfl, h⟩ := mpop1_some h
    have hl : (mev (ps.drop 1) && ((mpairs 0 (ps.drop 1)).zip ((mpairs 0 (ps.drop 1)).drop 1)).all (fun (a, next) => a.1 < next.1) && (ps.drop 1).all (fun k => Nat.blt k 2147483648)) = true := hl
    simp only [Bool.and_eq_true] at hl
    have hd : decode cc pc = .ok (.lookupswitch ((mp ps 0 : Int) - (pc : Int)) (mpairs pc (ps.drop 1)).toArray, n) := hd
    have hz : ∀ (ps : List Nat), (mpairs pc ps).map (fun q => q.1) = (mpairs 0 ps).map (fun q => q.1) := by
      intro ps
      induction ps using mev.induct with
      | case1 a t r ih => simpa [mpairs] using ih
      | case2 => rfl
      | case3 x h1 h2 =>
        unfold mpairs
        split
        · exact absurd rfl (h1 _ _ _)
        · rfl
    have hord : ∀ (l1 l2 : List (Int × Int)), l1.map (fun q => q.1) = l2.map (fun q => q.1) → (l1.zip (l1.drop 1)).all (fun (a, next) => a.1 < next.1) = (l2.zip (l2.drop 1)).all (fun (a, next) => a.1 < next.1) := by
      intro l1 l2 q
      have q1 : ∀ (l : List (Int × Int)), (l.zip (l.drop 1)).all (fun (a, next) => a.1 < next.1) = ((l.map (fun q => q.1)).zip ((l.map (fun q => q.1)).drop 1)).all (fun (a, next) => a < next) := by
        intro l
        rw [← List.map_drop, List.zip_map, List.all_map]
        rfl
      rw [q1, q1, q]
    by_cases hS : ∀ v ∈ (0, x) :: S, okV (mz σ 0) v
    · obtain ⟨t, h1, h2⟩ := msw_off (pc := pc) (ok_i hS) (ok_t hS) hl.2 hl.1.1 h
      exact so_st (S2 := S) (fun H locs cells slots ls _ okS _ k => lv_lookup (x := Int32.ofInt x) (off := (t : Int) - (pc : Int)) hx hb hd (by rw [hord _ _ (hz _)]; exact hl.1.2) h2 m_off k) (fun okS _ => ok_t okS) (hg _ _ _ _ h1)
    · exact fun H locs cells slots ls hL okL okS => absurd okS hS
  by_cases e : op = 100
  · subst e
    have hn : n = 3 := hn
    subst hn
    obtain ⟨x, S, rfl, h⟩ := mpop1_some h
    exact so_b1 (P := x = 0) (P' := fun a : Int32 => a = 0) (fun H locs cells slots ls rest a q1 q2 => lv_if_eq hx hb hd m_off q1 q2) (fun q => (i32_eq q in32_0)) (fun z => hg _ _ _ _ ((bEq_some h).1 z)) (fun z => hg _ _ _ _ ((bEq_some h).2 z))
  by_cases e : op = 101
  · subst e
    have hn : n = 3 := hn
    subst hn
    obtain ⟨x, S, rfl, h⟩ := mpop1_some h
    exact so_b1 (P := ¬ x = 0) (P' := fun a : Int32 => ¬ a = 0) (fun H locs cells slots ls rest a q1 q2 => lv_if_ne hx hb hd m_off q1 (fun z => q2 (fun z2 => z2 z))) (fun q => (not_congr (i32_eq q in32_0))) (fun z => hg _ _ _ _ ((bEq_some h).2 z)) (fun z => hg _ _ _ _ ((bEq_some h).1 (Decidable.not_not.mp z)))
  by_cases e : op = 102
  · subst e
    have hn : n = 3 := hn
    subst hn
    obtain ⟨x, S, rfl, h⟩ := mpop1_some h
    exact so_b1 (P := x < 0) (P' := fun a : Int32 => a < 0) (fun H locs cells slots ls rest a q1 q2 => lv_if_lt hx hb hd m_off q1 q2) (fun q => (i32_lt q in32_0)) (fun z => hg _ _ _ _ ((bLt_some h).1 z)) (fun z => hg _ _ _ _ ((bLt_some h).2 z))
  by_cases e : op = 103
  · subst e
    have hn : n = 3 := hn
    subst hn
    obtain ⟨x, S, rfl, h⟩ := mpop1_some h
    exact so_b1 (P := ¬ x < 0) (P' := fun a : Int32 => 0 ≤ a) (fun H locs cells slots ls rest a q1 q2 => lv_if_ge hx hb hd m_off q1 q2) (fun q => ((i32_le in32_0 q).trans Int.not_lt.symm)) (fun z => hg _ _ _ _ ((bLt_some h).2 z)) (fun z => hg _ _ _ _ ((bLt_some h).1 (Decidable.not_not.mp z)))
  by_cases e : op = 104
  · subst e
    have hn : n = 3 := hn
    subst hn
    obtain ⟨x, S, rfl, h⟩ := mpop1_some h
    exact so_b1 (P := 0 < x) (P' := fun a : Int32 => 0 < a) (fun H locs cells slots ls rest a q1 q2 => lv_if_gt hx hb hd m_off q1 q2) (fun q => (i32_lt in32_0 q)) (fun z => hg _ _ _ _ ((bLt_some h).1 z)) (fun z => hg _ _ _ _ ((bLt_some h).2 z))
  by_cases e : op = 105
  · subst e
    have hn : n = 3 := hn
    subst hn
    obtain ⟨x, S, rfl, h⟩ := mpop1_some h
    exact so_b1 (P := ¬ 0 < x) (P' := fun a : Int32 => a ≤ 0) (fun H locs cells slots ls rest a q1 q2 => lv_if_le hx hb hd m_off q1 q2) (fun q => ((i32_le q in32_0).trans Int.not_lt.symm)) (fun z => hg _ _ _ _ ((bLt_some h).2 z)) (fun z => hg _ _ _ _ ((bLt_some h).1 (Decidable.not_not.mp z)))
  by_cases e : op = 110
  · subst e
    have hn : n = 3 := hn
    subst hn
    obtain ⟨x, y, S, rfl, h⟩ := mpop2_some h
    exact so_b2 (P := x = y) (P' := fun a b : Int32 => a = b) (fun H locs cells slots ls rest a b q1 q2 => lv_icmp_eq hx hb hd m_off q1 q2) (fun q r => (i32_eq q r)) (fun z => hg _ _ _ _ ((bEq_some h).1 z)) (fun z => hg _ _ _ _ ((bEq_some h).2 z))
  by_cases e : op = 111
  · subst e
    have hn : n = 3 := hn
    subst hn
    obtain ⟨x, y, S, rfl, h⟩ := mpop2_some h
    exact so_b2 (P := ¬ x = y) (P' := fun a b : Int32 => ¬ a = b) (fun H locs cells slots ls rest a b q1 q2 => lv_icmp_ne hx hb hd m_off q1 (fun z => q2 (fun z2 => z2 z))) (fun q r => (not_congr (i32_eq q r))) (fun z => hg _ _ _ _ ((bEq_some h).2 z)) (fun z => hg _ _ _ _ ((bEq_some h).1 (Decidable.not_not.mp z)))
  by_cases e : op = 112
  · subst e
    have hn : n = 3 := hn
    subst hn
    obtain ⟨x, y, S, rfl, h⟩ := mpop2_some h
    exact so_b2 (P := x < y) (P' := fun a b : Int32 => a < b) (fun H locs cells slots ls rest a b q1 q2 => lv_icmp_lt hx hb hd m_off q1 q2) (fun q r => (i32_lt q r)) (fun z => hg _ _ _ _ ((bLt_some h).1 z)) (fun z => hg _ _ _ _ ((bLt_some h).2 z))
  by_cases e : op = 113
  · subst e
    have hn : n = 3 := hn
    subst hn
    obtain ⟨x, y, S, rfl, h⟩ := mpop2_some h
    exact so_b2 (P := ¬ x < y) (P' := fun a b : Int32 => b ≤ a) (fun H locs cells slots ls rest a b q1 q2 => lv_icmp_ge hx hb hd m_off q1 q2) (fun q r => ((i32_le r q).trans Int.not_lt.symm)) (fun z => hg _ _ _ _ ((bLt_some h).2 z)) (fun z => hg _ _ _ _ ((bLt_some h).1 (Decidable.not_not.mp z)))
  by_cases e : op = 114
  · subst e
    have hn : n = 3 := hn
    subst hn
    obtain ⟨x, y, S, rfl, h⟩ := mpop2_some h
    exact so_b2 (P := y < x) (P' := fun a b : Int32 => b < a) (fun H locs cells slots ls rest a b q1 q2 => lv_icmp_gt hx hb hd m_off q1 q2) (fun q r => (i32_lt r q)) (fun z => hg _ _ _ _ ((bLt_some h).1 z)) (fun z => hg _ _ _ _ ((bLt_some h).2 z))
  by_cases e : op = 115
  · subst e
    have hn : n = 3 := hn
    subst hn
    obtain ⟨x, y, S, rfl, h⟩ := mpop2_some h
    exact so_b2 (P := ¬ y < x) (P' := fun a b : Int32 => a ≤ b) (fun H locs cells slots ls rest a b q1 q2 => lv_icmp_le hx hb hd m_off q1 q2) (fun q r => ((i32_le q r).trans Int.not_lt.symm)) (fun z => hg _ _ _ _ ((bLt_some h).2 z)) (fun z => hg _ _ _ _ ((bLt_some h).1 (Decidable.not_not.mp z)))
  exfalso
  have nb : ∀ {k : Nat}, ¬ op = k → Nat.beq op k = false := fun {k} hk => by
    cases hq : Nat.beq op k
    · rfl
    · exact absurd (Nat.eq_of_beq_eq_true hq) hk
  unfold mstepC at h
  simp only [nb (by assumption : ¬ op = 42), nb (by assumption : ¬ op = 43), nb (by assumption : ¬ op = 44), nb (by assumption : ¬ op = 45), nb (by assumption : ¬ op = 48), nb (by assumption : ¬ op = 49), nb (by assumption : ¬ op = 50), nb (by assumption : ¬ op = 100), nb (by assumption : ¬ op = 101), nb (by assumption : ¬ op = 102), nb (by assumption : ¬ op = 103), nb (by assumption : ¬ op = 104), nb (by assumption : ¬ op = 105), nb (by assumption : ¬ op = 110), nb (by assumption : ¬ op = 111), nb (by assumption : ¬ op = 112), nb (by assumption : ¬ op = 113), nb (by assumption : ¬ op = 114), nb (by assumption : ¬ op = 115), Bool.or_false, cond_false] at h
  cases h
end
