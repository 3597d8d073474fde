/-! SOUNDNESS 2: a method's frame; instructions of the stack alone -/
/-- the words that stay when the tables warm -/
def mWS : List Cond := lw_tbl.filter goodWord
def mEXT (w : mW) (U : State) (H : Heap) : Prop :=
  (∀ k, k < 4 → va_T .int (mea w k) (mel w k) (fun j => .int (Int32.ofInt (mex w k j))) (mAr w) U H ∧ mea w k < mb w ∧ ∀ j, in32 (mex w k j)) ∧ (mel w 0 = 8 ∧ mel w 1 = 8 ∧ mel w 2 = 32 ∧ mel w 3 ≤ 3072) ∧
  va_Z RX9 "MOST" "[I" (.ref (mea w 0)) (mAr w) U H ∧ va_Z RX5 "ABOVE" "[I" (.ref (mea w 1)) (mAr w) U H ∧ va_Z RX5 "BODIES" "[I" (.ref (mea w 2)) (mAr w) U H
/-- a nest mate's word -/
def mNest : Cond → Bool
  | .methodLinkNest _ _ _ _ => true
  | .fieldLinkNest _ _ _ _ _ _ => true
  | _ => false
def mNW (U : State) : Prop := (∀ x ∈ lw_tbl, mNest x = true → va_Nw x U) ∧ va_AO RX3 U
/-- what holds in a method's frame: the machine, its code, the tables' words, the world's classes, the constant rows, room -/
def mF (p : Program) (R : Room) (s : State) (args : Array Value) (m : MethodId) (c : Code) (w : mW) (own : String) (cc : ByteArray) (nL : Nat) : Prop :=
  p.tables.exec = Jvm.exec ∧ c.code = cc ∧ c.maxLocals = nL ∧ s.vm.findClass own = some m.cls ∧ (∀ x ∈ mWS, x.before args s = true) ∧ mNW s ∧ va_K (mdd w) vwCl (mtys w) s ∧ mEXT w s s.heap ∧ mb w ≤ s.heap.size ∧ 1 ≤ R.frames ∧ 60 ≤ R.locals
def mWd (ct : Bool) (w : mW) (σ : mM) (H : Heap) : Prop := okM w σ ∧ (ct = false → mFX σ) ∧ va_P (mdd w) vwCl (mws w σ) H
def mAcc (ct : Bool) (R : Room) (n0 s0 : Int) (σ : mM) (cells slots : Nat) : Prop := cells ≤ R.cells ∧ slots ≤ R.slots ∧ (ct = true → (cells : Int) = σ 905 0 - n0 ∧ (slots : Int) = σ 905 1 - s0) ∧ (ct = false → True)
def mGoal (p : Program) (l : Launch) (e : Env) (R : Room) (s : State) (m : MethodId) (args : Array Value) (below : List Frame) (meth : Method) (c : Code) (Q : State → Prop) (w : mW) (ct : Bool) (nL : Nat) (n0 s0 : Int) (pc : Nat) (L S : List mV) (σ : mM) : Prop :=
  ∀ (H : Heap) (locs : List Loc) (cells slots : Nat) (ls : Array Slot), mLr w nL L ls → (∀ v ∈ L, okV (mz σ 0) v) → (∀ v ∈ S, okV (mz σ 0) v) → mWd ct w σ H → va_S (mAr w) s.heap H locs → mAcc ct R n0 s0 σ cells slots →
    W p l e R s m args below meth c H locs cells slots Q (F0 m pc ls (S.map (mrep w)))
section
variable {p : Program} {l : Launch} {e : Env} {R : Room} {s : State} {m : MethodId} {args : Array Value} {below : List Frame} {meth : Method} {c : Code} {Q : State → Prop} {w : mW} {ct : Bool} {nL : Nat} {n0 s0 : Int} {own : String} {cc : ByteArray} {pc pc2 : Nat} {L S S2 : List mV} {σ : mM}
/-- an instruction that moves the stack alone -/
theorem so_st (hrow : ∀ (H : Heap) (locs : List Loc) (cells slots : Nat) (ls : Array Slot), mLr w nL L ls → (∀ v ∈ S, okV (mz σ 0) v) → (∀ v ∈ L, okV (mz σ 0) v) → W p l e R s m args below meth c H locs cells slots Q (F0 m pc2 ls (S2.map (mrep w))) → W p l e R s m args below meth c H locs cells slots Q (F0 m pc ls (S.map (mrep w))))
    (hok : (∀ v ∈ S, okV (mz σ 0) v) → (∀ v ∈ L, okV (mz σ 0) v) → ∀ v ∈ S2, okV (mz σ 0) v) (k : mGoal p l e R s m args below meth c Q w ct nL n0 s0 pc2 L S2 σ) : mGoal p l e R s m args below meth c Q w ct nL n0 s0 pc L S σ :=
  fun H locs cells slots ls hL okL okS hW hS hA => hrow H locs cells slots ls hL okS okL (k H locs cells slots ls hL okL (hok okS okL) hW hS hA)
/-- a branch -/
theorem so_br {P : Prop} {pc3 : Nat} {S3 : List mV} (hrow : ∀ (H : Heap) (locs : List Loc) (cells slots : Nat) (ls : Array Slot), (∀ v ∈ S, okV (mz σ 0) v) → (P → W p l e R s m args below meth c H locs cells slots Q (F0 m pc2 ls (S3.map (mrep w)))) → (¬ P → W p l e R s m args below meth c H locs cells slots Q (F0 m pc3 ls (S3.map (mrep w)))) → W p l e R s m args below meth c H locs cells slots Q (F0 m pc ls (S.map (mrep w))))
    (hok : ∀ v ∈ S3, v ∈ S) (k1 : P → mGoal p l e R s m args below meth c Q w ct nL n0 s0 pc2 L S3 σ) (k2 : ¬ P → mGoal p l e R s m args below meth c Q w ct nL n0 s0 pc3 L S3 σ) : mGoal p l e R s m args below meth c Q w ct nL n0 s0 pc L S σ :=
  fun H locs cells slots ls hL okL okS hW hS hA => hrow H locs cells slots ls okS (fun h => k1 h H locs cells slots ls hL okL (fun v hv => okS v (hok v hv)) hW hS hA) (fun h => k2 h H locs cells slots ls hL okL (fun v hv => okS v (hok v hv)) hW hS hA)
/-- an int pushed -/
theorem so_pi {v : Int} {n : Nat} (hv : in32 v) (hrow : ∀ (H : Heap) (locs : List Loc) (cells slots : Nat) (ls : Array Slot) (rest : List Value), W p l e R s m args below meth c H locs cells slots Q (F0 m (pc + n) ls (.int (Int32.ofInt v) :: rest)) → W p l e R s m args below meth c H locs cells slots Q (F0 m pc ls rest))
    (k : mGoal p l e R s m args below meth c Q w ct nL n0 s0 (pc + n) L ((0, v) :: S) σ) : mGoal p l e R s m args below meth c Q w ct nL n0 s0 pc L S σ :=
  so_st (fun H locs cells slots ls _ _ _ h => hrow H locs cells slots ls _ h) (fun okS _ => List.forall_mem_cons.mpr ⟨okV_i hv, okS⟩) k
theorem so_pj {v : Int} {n : Nat} (hv : in64 v) (hrow : ∀ (H : Heap) (locs : List Loc) (cells slots : Nat) (ls : Array Slot) (rest : List Value), W p l e R s m args below meth c H locs cells slots Q (F0 m (pc + n) ls (.long (Int64.ofInt v) :: rest)) → W p l e R s m args below meth c H locs cells slots Q (F0 m pc ls rest))
    (k : mGoal p l e R s m args below meth c Q w ct nL n0 s0 (pc + n) L ((1, v) :: S) σ) : mGoal p l e R s m args below meth c Q w ct nL n0 s0 pc L S σ :=
  so_st (fun H locs cells slots ls _ _ _ h => hrow H locs cells slots ls _ h) (fun okS _ => List.forall_mem_cons.mpr ⟨okV_l hv, okS⟩) k
theorem ok_i {n : Nat} {x : Int} (h : ∀ v ∈ (0, x) :: S, okV n v) : in32 x := (h _ List.mem_cons_self).1 rfl
theorem ok_l {n : Nat} {x : Int} (h : ∀ v ∈ (1, x) :: S, okV n v) : in64 x := (h _ List.mem_cons_self).2.1 rfl
theorem ok_t {n : Nat} {u : mV} (h : ∀ v ∈ u :: S, okV n v) : ∀ v ∈ S, okV n v := fun v hv => h v (List.mem_cons_of_mem _ hv)
/-- two ints to one -/
theorem so_ii {f : Int32 → Int32 → Int32} {x y z : Int} (hrow : ∀ (H : Heap) (locs : List Loc) (cells slots : Nat) (ls : Array Slot) (rest : List Value) (a b : Int32), W p l e R s m args below meth c H locs cells slots Q (F0 m (pc + 1) ls (.int (f a b) :: rest)) → W p l e R s m args below meth c H locs cells slots Q (F0 m pc ls (.int b :: .int a :: rest)))
    (hz : in32 x → in32 y → Int32.ofInt z = f (Int32.ofInt x) (Int32.ofInt y) ∧ in32 z) (k : mGoal p l e R s m args below meth c Q w ct nL n0 s0 (pc + 1) L ((0, z) :: S) σ) : mGoal p l e R s m args below meth c Q w ct nL n0 s0 pc L ((0, y) :: (0, x) :: S) σ := by
  refine so_st (S2 := (0, z) :: S) (fun H locs cells slots ls _ okS _ h => ?_) (fun okS _ => List.forall_mem_cons.mpr ⟨okV_i (hz (ok_i (ok_t okS)) (ok_i okS)).2, ok_t (ok_t okS)⟩) k
  refine hrow H locs cells slots ls (S.map (mrep w)) (Int32.ofInt x) (Int32.ofInt y) ?_
  rw [← (hz (ok_i (ok_t okS)) (ok_i okS)).1]
  exact h
theorem so_jj {f : Int64 → Int64 → Int64} {x y z : Int} (hrow : ∀ (H : Heap) (locs : List Loc) (cells slots : Nat) (ls : Array Slot) (rest : List Value) (a b : Int64), W p l e R s m args below meth c H locs cells slots Q (F0 m (pc + 1) ls (.long (f a b) :: rest)) → W p l e R s m args below meth c H locs cells slots Q (F0 m pc ls (.long b :: .long a :: rest)))
    (hz : in64 x → in64 y → Int64.ofInt z = f (Int64.ofInt x) (Int64.ofInt y) ∧ in64 z) (k : mGoal p l e R s m args below meth c Q w ct nL n0 s0 (pc + 1) L ((1, z) :: S) σ) : mGoal p l e R s m args below meth c Q w ct nL n0 s0 pc L ((1, y) :: (1, x) :: S) σ := by
  refine so_st (S2 := (1, z) :: S) (fun H locs cells slots ls _ okS _ h => ?_) (fun okS _ => List.forall_mem_cons.mpr ⟨okV_l (hz (ok_l (ok_t okS)) (ok_l okS)).2, ok_t (ok_t okS)⟩) k
  refine hrow H locs cells slots ls (S.map (mrep w)) (Int64.ofInt x) (Int64.ofInt y) ?_
  rw [← (hz (ok_l (ok_t okS)) (ok_l okS)).1]
  exact h
/-- a branch on two ints -/
theorem so_b2 {P : Prop} {P' : Int32 → Int32 → Prop} {x y : Int} {pc3 : Nat} (hrow : ∀ (H : Heap) (locs : List Loc) (cells slots : Nat) (ls : Array Slot) (rest : List Value) (a b : Int32), (P' a b → W p l e R s m args below meth c H locs cells slots Q (F0 m pc2 ls rest)) → (¬ P' a b → W p l e R s m args below meth c H locs cells slots Q (F0 m pc3 ls rest)) → W p l e R s m args below meth c H locs cells slots Q (F0 m pc ls (.int b :: .int a :: rest)))
    (hz : in32 x → in32 y → (P' (Int32.ofInt x) (Int32.ofInt y) ↔ P)) (k1 : P → mGoal p l e R s m args below meth c Q w ct nL n0 s0 pc2 L S σ) (k2 : ¬ P → mGoal p l e R s m args below meth c Q w ct nL n0 s0 pc3 L S σ) : mGoal p l e R s m args below meth c Q w ct nL n0 s0 pc L ((0, y) :: (0, x) :: S) σ :=
  so_br (S3 := S) (fun H locs cells slots ls okS h1 h2 => hrow H locs cells slots ls (S.map (mrep w)) (Int32.ofInt x) (Int32.ofInt y) (fun q => h1 ((hz (ok_i (ok_t okS)) (ok_i okS)).mp q)) (fun q => h2 (fun z => q ((hz (ok_i (ok_t okS)) (ok_i okS)).mpr z)))) (fun v hv => List.mem_cons_of_mem _ (List.mem_cons_of_mem _ hv)) k1 k2
theorem so_b1 {P : Prop} {P' : Int32 → Prop} {x : Int} {pc3 : Nat} (hrow : ∀ (H : Heap) (locs : List Loc) (cells slots : Nat) (ls : Array Slot) (rest : List Value) (a : Int32), (P' a → W p l e R s m args below meth c H locs cells slots Q (F0 m pc2 ls rest)) → (¬ P' a → W p l e R s m args below meth c H locs cells slots Q (F0 m pc3 ls rest)) → W p l e R s m args below meth c H locs cells slots Q (F0 m pc ls (.int a :: rest)))
    (hz : in32 x → (P' (Int32.ofInt x) ↔ P)) (k1 : P → mGoal p l e R s m args below meth c Q w ct nL n0 s0 pc2 L S σ) (k2 : ¬ P → mGoal p l e R s m args below meth c Q w ct nL n0 s0 pc3 L S σ) : mGoal p l e R s m args below meth c Q w ct nL n0 s0 pc L ((0, x) :: S) σ :=
  so_br (S3 := S) (fun H locs cells slots ls okS h1 h2 => hrow H locs cells slots ls (S.map (mrep w)) (Int32.ofInt x) (fun q => h1 ((hz (ok_i okS)).mp q)) (fun q => h2 (fun z => q ((hz (ok_i okS)).mpr z)))) (fun v hv => List.mem_cons_of_mem _ hv) k1 k2
end
/-! what was popped -/
theorem mpop1_some {S : List mV} {k : Int → List mV → mA} {a : Int × mM} (h : mpop1 S k = some a) : ∃ x S', S = (0, x) :: S' ∧ k x S' = some a := by
  unfold mpop1 at h
  match S, h with
  | (t, x) :: S', h =>
    cases hb : Nat.beq t 0
    · simp only [hb, cond_false] at h; cases h
    · simp only [hb, cond_true] at h
      have := Nat.eq_of_beq_eq_true hb
      subst this
      exact ⟨x, S', rfl, h⟩
theorem mpopJ_some {S : List mV} {k : Int → List mV → mA} {a : Int × mM} (h : mpopJ S k = some a) : ∃ x S', S = (1, x) :: S' ∧ k x S' = some a := by
  unfold mpopJ at h
  match S, h with
  | (t, x) :: S', h =>
    cases hb : Nat.beq t 1
    · simp only [hb, cond_false] at h; cases h
    · simp only [hb, cond_true] at h
      have := Nat.eq_of_beq_eq_true hb
      subst this
      exact ⟨x, S', rfl, h⟩
theorem mpopR_some {S : List mV} {k : Nat → Int → List mV → mA} {a : Int × mM} (h : mpopR S k = some a) : ∃ t x S', S = (t, x) :: S' ∧ 3 < t ∧ k t x S' = some a := by
  unfold mpopR at h
  match S, h with
  | (t, x) :: S', h =>
    cases hb : Nat.blt 3 t
    · simp only [hb, cond_false] at h; cases h
    · simp only [hb, cond_true] at h
      exact ⟨t, x, S', rfl, Nat.blt_eq.mp hb, h⟩
theorem mpop2_some {S : List mV} {k : Int → Int → List mV → mA} {a : Int × mM} (h : mpop2 S k = some a) : ∃ x y S', S = (0, y) :: (0, x) :: S' ∧ k x y S' = some a := by
  obtain ⟨y, S1, e1, h1⟩ := mpop1_some h
  obtain ⟨x, S2, e2, h2⟩ := mpop1_some h1
  exact ⟨x, y, S2, by rw [e1, e2], h2⟩
theorem mpopJ2_some {S : List mV} {k : Int → Int → List mV → mA} {a : Int × mM} (h : mpopJ2 S k = some a) : ∃ x y S', S = (1, y) :: (1, x) :: S' ∧ k x y S' = some a := by
  obtain ⟨y, S1, e1, h1⟩ := mpopJ_some h
  obtain ⟨x, S2, e2, h2⟩ := mpopJ_some h1
  exact ⟨x, y, S2, by rw [e1, e2], h2⟩
theorem bLt_some {x y : Int} {f g : mA} {a : Int × mM} (h : bLt x y f g = some a) : (x < y → f = some a) ∧ (¬ x < y → g = some a) := by
  unfold bLt at h
  exact ⟨fun q => by rwa [if_pos q] at h, fun q => by rwa [if_neg q] at h⟩
theorem bEq_some {x y : Int} {f g : mA} {a : Int × mM} (h : bEq x y f g = some a) : (x = y → f = some a) ∧ (¬ x = y → g = some a) := by
  unfold bEq at h
  exact ⟨fun q => by rwa [if_pos q] at h, fun q => by rwa [if_neg q] at h⟩
theorem bIn_some {i n : Int} {f : mA} {a : Int × mM} (h : bIn i n f = some a) : (0 ≤ i ∧ i < n) ∧ f = some a := by
  unfold bIn at h
  by_cases q : 0 ≤ i ∧ i < n
  · rw [if_pos q] at h; exact ⟨q, h⟩
  · rw [if_neg q] at h; cases h
theorem bCp_some {x y z l1 l2 : Int} {f : mA} {a : Int × mM} (h : bCp x y z l1 l2 f = some a) : (0 ≤ x ∧ 0 ≤ y ∧ 0 ≤ z ∧ x + z ≤ l1 ∧ y + z ≤ l2) ∧ f = some a := by
  unfold bCp at h
  by_cases q : 0 ≤ x ∧ 0 ≤ y ∧ 0 ≤ z ∧ x + z ≤ l1 ∧ y + z ≤ l2
  · rw [if_pos q] at h; exact ⟨q, h⟩
  · rw [if_neg q] at h; cases h
theorem cond_some {b : Bool} {f : mA} {a : Int × mM} (h : (bif b then f else none) = some a) : b = true ∧ f = some a := by
  cases b
  · cases h
  · exact ⟨rfl, h⟩
theorem mput_some {L : List mV} {i : Nat} {v : mV} {k : List mV → mA} {a : Int × mM} (h : mput L i v k = some a) : i < L.length ∧ (i = 0 ∨ (L.getD (i - 1) (2, 0)).1 ≠ 1) ∧ k (L.set i v) = some a := by
  unfold mput at h
  obtain ⟨hb, h⟩ := cond_some h
  simp only [Bool.and_eq_true, Bool.or_eq_true, Bool.not_eq_true'] at hb
  refine ⟨Nat.blt_eq.mp hb.1, ?_, h⟩
  rcases hb.2 with q | q
  · exact Or.inl (Nat.eq_of_beq_eq_true q)
  · right
    intro z
    have z' : mkd (L.getD (i - 1) (2, 0)) = 1 := z
    rw [z'] at q
    cases q
theorem mputJ_some {L : List mV} {i : Nat} {v : mV} {k : List mV → mA} {a : Int × mM} (h : mputJ L i v k = some a) : i + 1 < L.length ∧ (i = 0 ∨ (L.getD (i - 1) (2, 0)).1 ≠ 1) ∧ k ((L.set i v).set (i + 1) (2, 0)) = some a := by
  unfold mputJ at h
  obtain ⟨hb, h⟩ := cond_some h
  simp only [Bool.and_eq_true, Bool.or_eq_true, Bool.not_eq_true'] at hb
  refine ⟨Nat.blt_eq.mp hb.1, ?_, h⟩
  rcases hb.2 with q | q
  · exact Or.inl (Nat.eq_of_beq_eq_true q)
  · right
    intro z
    have z' : mkd (L.getD (i - 1) (2, 0)) = 1 := z
    rw [z'] at q
    cases q
