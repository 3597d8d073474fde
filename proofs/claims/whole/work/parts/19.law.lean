/-! THE CLAIM OUT OF ONE WALK OF THE LAW'S BODY. Your part is whole_start (and what it stands on); all else here is the same for every law, but numbers. -/
def R_law : String := "EiderClimateLaw"
def lw_P (b : Addr) (xs : List Int32) (args : Array Value) (s : State) : Prop := args = #[.ref b] ∧ s.IntsAt b xs ∧ xs.length ≤ 3072 ∧ (Jvm.Cond.and given_1 narrow_1).before args s = true
def lw_Q (_ : Array Value) (s : State) (o : Outcome) (t : State) : Prop := o = .returned (some (.int 1)) ∧ Framed s o t [] 600000 7302250
def lw_Z (below : List Frame) (a : Array Value) (s : State) : State → Prop := fun t => ∃ o, t.status = .running ∧ Ended t below o ∧ lw_Q a s o t
/-- the law's own end, with 1 on the stack, nothing written that was there before, its room as the claim has it -/
theorem lw_ret {p : Program} {l : Launch} {e : Env} {s : State} {m : MethodId} {below : List Frame} {meth : Method} {c : Code} {b : Nat} (hx : p.tables.exec = Jvm.exec) (hb : c.code = code) (hr : meth.sig.returnType = ret) (hlocks : meth.locks = false) {pc : Nat} {H : Heap} {ls : Array Slot} (hdg : decode code pc = .ok (.ireturn, 1)) : W p l e room_1 s m #[Value.ref b] below meth c H [] 600000 7302250 (lw_Z below #[Value.ref b] s) (F0 m pc ls [.int 1]) := by
  intro T hT X
  obtain ⟨fs, hret, hrun, hended, hW, hframe⟩ := X.leave (v := some (.int 1)) (hlocks := hlocks) (fun h => by rw [hr] at h; cases h)
  have hmeth' : T.vm.method? m = some meth := X.method'
  refine ⟨T.setFrames fs, ?_, .returned (some (.int 1)), hrun, hended, rfl, ⟨_, rfl⟩, hW, hframe⟩
  jvm_step X.here [X.here.top, hx, hb, hdg, hmeth', hr, ret, narrow_b1]
  (try refine ⟨rfl, ?_⟩); (try refine ⟨rfl, ?_⟩)
  first | (intro acts; rw [hret _ acts rfl rfl rfl]) | rw [hret _ _ rfl rfl rfl]
  exact Steps.refl _
/-- what holds at the law's entry: the machine, the code, the tables' words (any of lw_tbl by 'hts w (by decide +kernel)'), the script of L ints xs at the cell b, what the Statement gives of the start (any of its parts by flat_of_before) -/
def lw_At (p : Program) (s : State) (m : MethodId) (meth : Method) (c : Code) (b L : Nat) (xs : Nat → Int32) : Prop :=
  p.tables.exec = Jvm.exec ∧ c.code = code ∧ meth.sig.returnType = ret ∧ c.maxLocals = 4 ∧ s.vm.findClass R_law = some m.cls ∧ (∀ w ∈ lw_tbl, w.before #[Value.ref b] s = true) ∧ va_X b L xs s s.heap ∧ b < s.heap.size ∧ meth.locks = false ∧ (Jvm.Cond.and given_1 narrow_1).before #[Value.ref b] s = true
/-! THE LAW: the world at its entry -/
def mC0 (j : Nat) : Int := ([4, 9, 12, 29, 99, 4095, 11, 12] : List Int).getD j 0
def mC1 (j : Nat) : Int := ([-1, 0, 0, 2, 1, 3, 0, 4] : List Int).getD j 0
def mC2 (j : Nat) : Int := ([1, 10, 11, 2, 20, 0, 0, 0, 0, 30, 0, 0, 0, 41, 40, 0, 0, 0, 50, 0, 0, 0, 0, 60, 70, 0, 0, 0, 0, 80, 0, 81] : List Int).getD j 0
theorem mCc_229 : mCc 229 = code := rfl
theorem mCc_230 : mCc 230 = code := rfl
theorem m_inst : ∀ i, i < 11 → (Cond.instantiable (mC i) (mNf i)) ∈ lw_tbl := by decide +kernel
theorem m_kn {A : Array Value} {s : State} (hts : ∀ x ∈ lw_tbl, x.before A s = true) : ∃ D : va_G, ∀ (c : Nat) (q : vw_C), vwCl[c]? = some q → u_Kn s q.1 q.2.1 q.2.2 (D.1 c) (D.2 c) := by
  have h : ∀ i, ∃ q : ClassId × (Nat → Nat), i < 11 → u_Kn s (mC i) (mTf i) (mNf i) q.1 q.2 := by
    intro i
    by_cases hi : i < 11
    · obtain ⟨-, -, h2, -⟩ := mCl_all hi
      obtain ⟨cC, iS, h⟩ := u_known (s := s) (args := A) (ws := lw_tbl) hts (fun x hx => (List.mem_filter.mp (h2 x hx)).1) (hts _ (m_inst i hi))
      exact ⟨(cC, iS), fun _ => h⟩
    · exact ⟨(0, fun _ => 0), fun z => absurd z hi⟩
  refine ⟨(fun i => (Classical.choose (h i)).1, fun i => (Classical.choose (h i)).2), fun c q hq => ?_⟩
  have hc : c < 11 := (List.getElem?_eq_some_iff.mp hq).1
  have h1 := Classical.choose_spec (h c) hc
  obtain ⟨-, h2, -⟩ := mCl_all hc
  have e : q = (mC c, mTf c, mNf c) := Option.some.inj (hq.symm.trans h2)
  rw [e]
  exact h1
theorem m_arr {A : Array Value} {s : State} {t : FieldType} (h : (Cond.arrayClass t).before A s = true) : ∃ cA, ArrOfT s cA t ∧ s.vm.findClass ("[" ++ t.toString) = some cA := by
  obtain ⟨c, k, comp, h1, h2, h3⟩ := Cond.arrayClass_spec h
  exact ⟨c, fun n z => ⟨fun k h => (by cases h), k, h2, comp, h3⟩, h1⟩
theorem m_ao : (Cond.arrayOver (.object RX3)) ∈ lw_tbl := by decide +kernel
theorem m_tys {A : Array Value} {s : State} (hts : ∀ x ∈ lw_tbl, x.before A s = true) : ∃ ty : Nat → ClassId, ∀ (k : Nat) (q : ClassId × FieldType), [(ty 0, FieldType.int), (ty 1, .boolean), (ty 2, .long), (ty 3, .object RX3)][k]? = some q → ArrOfT s q.1 q.2 ∧ va_RA s q.1 q.2 := by
  obtain ⟨t0, a0, b0⟩ := m_arr (hts _ (List.mem_filter.mp mac_i).1)
  obtain ⟨t1, a1, b1⟩ := m_arr (hts _ (List.mem_filter.mp mac_b).1)
  obtain ⟨t2, a2, b2⟩ := m_arr (hts _ (List.mem_filter.mp mac_j).1)
  obtain ⟨comp, t3, k3, c1, c2, c3, c4, c5⟩ := Cond.arrayOver_spec (hts _ m_ao)
  refine ⟨fun k => match k with | 0 => t0 | 1 => t1 | 2 => t2 | _ => t3, fun k q hq => ?_⟩
  match k, hq with
  | 0, hq => cases hq; exact ⟨a0, b0⟩
  | 1, hq => cases hq; exact ⟨a1, b1⟩
  | 2, hq => cases hq; exact ⟨a2, b2⟩
  | 3, hq => cases hq; exact ⟨fun n z => ⟨fun k h => (by cases h), k3, c3, comp, c4⟩, k3, comp, c3, c4, c1, c5⟩
  | k + 4, hq => cases hq
theorem m_nw {A : Array Value} {s : State} (hts : ∀ x ∈ lw_tbl, x.before A s = true) : mNW s := by
  refine ⟨fun x hx hn => ?_, va_AO.of (hts _ m_ao)⟩
  have h := hts x hx
  cases x <;> first | exact va_Nw.of rfl h | (cases hn; done)
theorem m_cst {A : Array Value} {s : State} {C n : String} {N : Nat} {f : Nat → Int} {B : Nat → Prop} (hN : N < 2 ^ 31) (harr : (Cond.arrayOf (.static C n "[I") .int).before A s = true) (hlen : (Cond.eq (.length (.static C n "[I")) (.int (Int32.ofNat N))).before A s = true)
    (hel : ∀ j, j < N → (Cond.eq (.elem (.static C n "[I") (.int (Int32.ofNat j))) (.int (Int32.ofInt (f j)))).before A s = true) (hl : (Cond.laysStatic C n "[I").before A s = true) (hini : (Cond.initialized C).before A s = true) (hB : ∀ a : Nat, a < s.heap.size → ¬ B a) :
    ∃ t : Nat, va_T .int t N (fun j => .int (Int32.ofInt (f j))) B s s.heap ∧ t < s.heap.size ∧ va_Z C n "[I" (.ref t) B s s.heap := by
  obtain ⟨t, ht, hT⟩ := va_Tof (f := fun j => .int (Int32.ofInt (f j))) hN harr (va_eqt hlen) (fun j hj => va_eqt (hel j hj)) hB
  refine ⟨t, hT, ?_, va_Zref hl hini ht hB⟩
  obtain ⟨cell, h1, -⟩ := hT
  exact (Array.getElem?_eq_some_iff.mp h1).1
def m_nar : List Cond := flatC (Jvm.Cond.and given_1 narrow_1)
theorem m_el0 : ∀ j, j < 8 → (Cond.eq (.elem (.static "EiderClimate" "MOST" "[I") (.int (Int32.ofNat j))) (.int (Int32.ofInt (mC0 j)))) ∈ m_nar := by decide +kernel
theorem m_ar0 : (Cond.arrayOf (.static "EiderClimate" "MOST" "[I") .int) ∈ m_nar := by decide +kernel
theorem m_ln0 : (Cond.eq (.length (.static "EiderClimate" "MOST" "[I")) (.int (Int32.ofNat 8))) ∈ m_nar := by decide +kernel
theorem m_ls0 : (Cond.laysStatic "EiderClimate" "MOST" "[I") ∈ lw_tbl := by decide +kernel
theorem m_el1 : ∀ j, j < 8 → (Cond.eq (.elem (.static "EiderClimate$Stitches" "ABOVE" "[I") (.int (Int32.ofNat j))) (.int (Int32.ofInt (mC1 j)))) ∈ m_nar := by decide +kernel
theorem m_ar1 : (Cond.arrayOf (.static "EiderClimate$Stitches" "ABOVE" "[I") .int) ∈ m_nar := by decide +kernel
theorem m_ln1 : (Cond.eq (.length (.static "EiderClimate$Stitches" "ABOVE" "[I")) (.int (Int32.ofNat 8))) ∈ m_nar := by decide +kernel
theorem m_ls1 : (Cond.laysStatic "EiderClimate$Stitches" "ABOVE" "[I") ∈ lw_tbl := by decide +kernel
theorem m_el2 : ∀ j, j < 32 → (Cond.eq (.elem (.static "EiderClimate$Stitches" "BODIES" "[I") (.int (Int32.ofNat j))) (.int (Int32.ofInt (mC2 j)))) ∈ m_nar := by decide +kernel
theorem m_ar2 : (Cond.arrayOf (.static "EiderClimate$Stitches" "BODIES" "[I") .int) ∈ m_nar := by decide +kernel
theorem m_ln2 : (Cond.eq (.length (.static "EiderClimate$Stitches" "BODIES" "[I")) (.int (Int32.ofNat 32))) ∈ m_nar := by decide +kernel
theorem m_ls2 : (Cond.laysStatic "EiderClimate$Stitches" "BODIES" "[I") ∈ lw_tbl := by decide +kernel
theorem m_in9 : (Cond.initialized "EiderClimate") ∈ lw_tbl := by decide +kernel
theorem m_in5 : (Cond.initialized "EiderClimate$Stitches") ∈ lw_tbl := by decide +kernel
theorem mC_in : (∀ j, in32 (mC0 j)) ∧ (∀ j, in32 (mC1 j)) ∧ ∀ j, in32 (mC2 j) := by
  have h : ∀ (l : List Int), (∀ x ∈ l, in32 x) → ∀ j, in32 (l.getD j 0) := by
    intro l hl j
    by_cases hj : j < l.length
    · have : l.getD j 0 = l[j] := by simp [List.getD, hj]
      rw [this]; exact hl _ (List.getElem_mem hj)
    · have : l.getD j 0 = 0 := by simp [List.getD, List.getElem?_eq_none (Nat.le_of_not_lt hj)]
      rw [this]; unfold in32; omega
  unfold in32 at h ⊢
  exact ⟨h _ (by decide), h _ (by decide), h _ (by decide)⟩
theorem m_world {p : Program} {s : State} {m : MethodId} {meth : Method} {c : Code} {b L : Nat} {xs : Nat → Int32} (hL : L ≤ 3072) (C0 : lw_At p s m meth c b L xs) : ∃ w : mW, mb w = s.heap.size ∧ mel w 3 = L ∧ mea w 3 = b ∧ (∀ j, mex w 3 j = (xs j).toInt) ∧ (∀ j, mex w 0 j = mC0 j) ∧ (∀ j, mex w 1 j = mC1 j) ∧ (∀ j, mex w 2 j = mC2 j) ∧ mF p room_1 s #[Value.ref b] m c w R_law code 4 := by
  obtain ⟨hx, hb, -, hml, hown, hts, hX, hbl, -, hgv⟩ := C0
  obtain ⟨D, hD⟩ := m_kn hts
  obtain ⟨ty, hty⟩ := m_tys hts
  have hs := flat_of_before _ hgv
  have hB : ∀ a : Nat, a < s.heap.size → ¬ s.heap.size ≤ a := fun a h => Nat.not_le.mpr h
  obtain ⟨t0, q0, z0, r0⟩ := m_cst (f := mC0) (B := fun a => s.heap.size ≤ a) (by decide) (hs _ m_ar0) (hs _ m_ln0) (fun j hj => hs _ (m_el0 j hj)) (hts _ m_ls0) (hts _ m_in9) hB
  obtain ⟨t1, q1, z1, r1⟩ := m_cst (f := mC1) (B := fun a => s.heap.size ≤ a) (by decide) (hs _ m_ar1) (hs _ m_ln1) (fun j hj => hs _ (m_el1 j hj)) (hts _ m_ls1) (hts _ m_in5) hB
  obtain ⟨t2, q2, z2, r2⟩ := m_cst (f := mC2) (B := fun a => s.heap.size ≤ a) (by decide) (hs _ m_ar2) (hs _ m_ln2) (fun j hj => hs _ (m_el2 j hj)) (hts _ m_ls2) (hts _ m_in5) hB
  have q3 : va_T .int b L (fun j => .int (Int32.ofInt (xs j).toInt)) (fun a => s.heap.size ≤ a) s s.heap := by
    obtain ⟨scr, x1, x2, x3, x4, x5⟩ := hX
    exact ⟨scr, x1, x2, x3, by omega, by rw [x4], fun j hj => (x5 j hj).trans (congrArg (fun z => some (Value.int z)) (Int32.ofInt_toInt (xs j)).symm), hB b hbl⟩
  refine ⟨(s.heap.size, D, ty, fun k => match k with | 0 => t0 | 1 => t1 | 2 => t2 | _ => b, fun k => match k with | 0 => 8 | 1 => 8 | 2 => 32 | _ => L, fun k j => match k with | 0 => mC0 j | 1 => mC1 j | 2 => mC2 j | _ => (xs j).toInt), rfl, rfl, rfl, fun _ => rfl, fun _ => rfl, fun _ => rfl, fun _ => rfl, hx, hb, hml, hown, fun x hx => hts x (List.mem_filter.mp hx).1, m_nw hts, ⟨hD, hty⟩, ⟨fun k hk => ?_, ⟨rfl, rfl, rfl, hL⟩, r0, r1, r2⟩, Nat.le_refl _, by decide, by decide⟩
  match k, hk with
  | 0, _ => exact ⟨q0, z0, mC_in.1⟩
  | 1, _ => exact ⟨q1, z1, mC_in.2.1⟩
  | 2, _ => exact ⟨q2, z2, mC_in.2.2⟩
  | 3, _ => exact ⟨q3, hbl, fun j => i32_in (xs j)⟩
