/-! SOUNDNESS 1: numbers, values, locals, cells -/
def in32 (x : Int) : Prop := -2147483648 ≤ x ∧ x < 2147483648
def in64 (x : Int) : Prop := -9223372036854775808 ≤ x ∧ x < 9223372036854775808
theorem w32_in (x : Int) : in32 (w32 x) := by unfold in32 w32; omega
theorem w64_in (x : Int) : in64 (w64 x) := by unfold in64 w64; omega
theorem w32_id {x : Int} (h : in32 x) : w32 x = x := by unfold in32 at h; unfold w32; omega
theorem w64_id {x : Int} (h : in64 x) : w64 x = x := by unfold in64 at h; unfold w64; omega
theorem i32_t {x : Int} (h : in32 x) : (Int32.ofInt x).toInt = x := Int32.toInt_ofInt_of_le (by have := h.1; omega) (by have := h.2; omega)
theorem i64_t {x : Int} (h : in64 x) : (Int64.ofInt x).toInt = x := Int64.toInt_ofInt_of_le (by have := h.1; omega) (by have := h.2; omega)
theorem i32_in (x : Int32) : in32 x.toInt := ⟨by have := Int32.le_toInt x; omega, by have := Int32.toInt_lt x; omega⟩
theorem i64_in (x : Int64) : in64 x.toInt := ⟨by have := Int64.le_toInt x; omega, by have := Int64.toInt_lt x; omega⟩
theorem w32_of (x : Int) : Int32.ofInt (w32 x) = Int32.ofInt x := by
  apply Int32.toInt_inj.mp
  rw [Int32.toInt_ofInt, Int32.toInt_ofInt]
  show Int.bmod (w32 x) 4294967296 = Int.bmod x 4294967296
  unfold w32
  rw [Int.bmod_def, Int.bmod_def]
  split <;> split <;> omega
theorem w64_of (x : Int) : Int64.ofInt (w64 x) = Int64.ofInt x := by
  apply Int64.toInt_inj.mp
  rw [Int64.toInt_ofInt, Int64.toInt_ofInt]
  show Int.bmod (w64 x) 18446744073709551616 = Int.bmod x 18446744073709551616
  unfold w64
  rw [Int.bmod_def, Int.bmod_def]
  split <;> split <;> omega
theorem i32_eq {x y : Int} (hx : in32 x) (hy : in32 y) : Int32.ofInt x = Int32.ofInt y ↔ x = y :=
  ⟨fun h => by have := congrArg Int32.toInt h; rwa [i32_t hx, i32_t hy] at this, fun h => by rw [h]⟩
theorem i32_lt {x y : Int} (hx : in32 x) (hy : in32 y) : Int32.ofInt x < Int32.ofInt y ↔ x < y := by rw [Int32.lt_iff_toInt_lt, i32_t hx, i32_t hy]
theorem i32_le {x y : Int} (hx : in32 x) (hy : in32 y) : Int32.ofInt x ≤ Int32.ofInt y ↔ x ≤ y := by rw [Int32.le_iff_toInt_le, i32_t hx, i32_t hy]
theorem in32_0 : in32 0 := by unfold in32; omega
theorem i32_0 : (0 : Int32) = Int32.ofInt 0 := rfl
theorem i64_lt {x y : Int} (hx : in64 x) (hy : in64 y) : Int64.ofInt x < Int64.ofInt y ↔ x < y := by rw [Int64.lt_iff_toInt_lt, i64_t hx, i64_t hy]
theorem i64_eq {x y : Int} (hx : in64 x) (hy : in64 y) : Int64.ofInt x = Int64.ofInt y ↔ x = y :=
  ⟨fun h => by have := congrArg Int64.toInt h; rwa [i64_t hx, i64_t hy] at this, fun h => by rw [h]⟩
theorem i32_div {x y : Int} (hx : in32 x) (hy : in32 y) : Int32.ofInt (w32 (x.tdiv y)) = Int32.ofInt x / Int32.ofInt y := by
  apply Int32.toInt_inj.mp
  rw [w32_of, Int32.toInt_ofInt, Int32.toInt_div, i32_t hx, i32_t hy]
theorem i32_rem {x y : Int} (hx : in32 x) (hy : in32 y) : Int32.ofInt (x.tmod y) = Int32.ofInt x - Int32.ofInt x / Int32.ofInt y * Int32.ofInt y := by
  rw [← i32_div hx hy, w32_of, ← Int32.ofInt_mul, ← Int32.ofInt_sub]
  congr 1
  have := Int.tdiv_add_tmod x y
  have e : y * x.tdiv y = x.tdiv y * y := Int.mul_comm _ _
  omega
theorem tmod_in {x y : Int} (hx : in32 x) : in32 (x.tmod y) := by
  unfold in32 at hx ⊢
  have h1 : (x.tmod y).natAbs ≤ x.natAbs := by
    rw [Int.natAbs_tmod]
    exact Nat.mod_le _ _
  have h2 : 0 ≤ x → 0 ≤ x.tmod y := fun h => Int.tmod_nonneg y h
  omega
theorem w8_of (x : Int) : (Int32.ofInt x).toInt8.toInt32 = Int32.ofInt ((x + 128) % 256 - 128) := by
  apply Int32.toInt_inj.mp
  rw [Int8.toInt_toInt32, Int32.toInt8_ofInt, Int8.toInt_ofInt, i32_t (by unfold in32; omega)]
  show Int.bmod x 256 = _
  rw [Int.bmod_def]
  split <;> omega
theorem w16_of (x : Int) : (Int32.ofInt x).toInt16.toInt32 = Int32.ofInt ((x + 32768) % 65536 - 32768) := by
  apply Int32.toInt_inj.mp
  rw [Int16.toInt_toInt32, Int32.toInt16_ofInt, Int16.toInt_ofInt, i32_t (by unfold in32; omega)]
  show Int.bmod x 65536 = _
  rw [Int.bmod_def]
  split <;> omega
theorem bi_of {v : Int} (h : -128 ≤ v ∧ v < 128) : (Int8.ofInt v).toInt32 = Int32.ofInt v := by
  apply Int32.toInt_inj.mp
  rw [Int8.toInt_toInt32, Int8.toInt_ofInt, i32_t (by unfold in32; omega)]
  show Int.bmod v 256 = _
  rw [Int.bmod_def]
  split <;> omega
theorem si_of {v : Int} (h : -32768 ≤ v ∧ v < 32768) : (Int16.ofInt v).toInt32 = Int32.ofInt v := by
  apply Int32.toInt_inj.mp
  rw [Int16.toInt_toInt32, Int16.toInt_ofInt, i32_t (by unfold in32; omega)]
  show Int.bmod v 65536 = _
  rw [Int.bmod_def]
  split <;> omega
theorem i2l_of {x : Int} (h : in32 x) : (Int32.ofInt x).toInt64 = Int64.ofInt x := by
  apply Int64.toInt_inj.mp
  rw [Int32.toInt_toInt64, i32_t h, i64_t (by unfold in32 at h; unfold in64; omega)]
theorem l2i_of (x : Int) : (Int64.ofInt x).toInt32 = Int32.ofInt (w32 x) := by rw [w32_of, Int64.toInt32_ofInt]
/-! the world's data: base, class data, classes of arrays, the constant rows' addresses, lengths, contents (0 MOST, 1 ABOVE, 2 BODIES, 3 the script) -/
abbrev mW : Type := Nat × va_G × (Nat → ClassId) × (Nat → Nat) × (Nat → Nat) × (Nat → Nat → Int)
def mb (w : mW) : Nat := w.1
def mdd (w : mW) : va_G := w.2.1
def mty (w : mW) (k : Nat) : ClassId := w.2.2.1 k
def mea (w : mW) (k : Nat) : Nat := w.2.2.2.1 k
def mel (w : mW) (k : Nat) : Nat := w.2.2.2.2.1 k
def mex (w : mW) (k j : Nat) : Int := w.2.2.2.2.2 k j
def mA (w : mW) (q : Nat) : Prop := mb w ≤ q
def madr (w : mW) (c : Nat) : Nat := if c < 900 then mb w + c else mea w (c - 900)
def mrep (w : mW) (v : mV) : Value := if v.1 = 0 then .int (Int32.ofInt v.2) else if v.1 = 1 then .long (Int64.ofInt v.2) else .ref (madr w v.2.toNat)
theorem mrep_i (w : mW) (x : Int) : mrep w (0, x) = .int (Int32.ofInt x) := rfl
theorem mrep_l (w : mW) (x : Int) : mrep w (1, x) = .long (Int64.ofInt x) := rfl
theorem mrep_r (w : mW) {t : Nat} (ht : 3 < t) (x : Int) : mrep w (t, x) = .ref (madr w x.toNat) := by
  unfold mrep
  rw [if_neg (show ¬ t = 0 by omega), if_neg (show ¬ t = 1 by omega)]
theorem mrep_cat (w : mW) (v : mV) : (mrep w v).category = mcat v := by
  obtain ⟨t, x⟩ := v
  unfold mrep mcat
  by_cases h0 : t = 0
  · subst h0; rfl
  · by_cases h1 : t = 1
    · subst h1; rfl
    · rw [if_neg h0, if_neg h1]
      have : Nat.beq t 1 = false := by
        cases h : Nat.beq t 1
        · rfl
        · exact absurd (Nat.eq_of_beq_eq_true h) h1
      simp [this, Value.category]
def mtys (w : mW) : List (ClassId × FieldType) := [(mty w 0, .int), (mty w 1, .boolean), (mty w 2, .long), (mty w 3, .object RX3)]
def mfv (w : mW) (ft : Nat) (x : Int) : Value := if ft = 0 then .int (Int32.ofInt x) else if x < 0 then .null else .ref (madr w x.toNat)
def mcell (w : mW) (σ : mM) (c : Nat) : va_E :=
  if mlay c < 1000 then .inr (mlay c - 20, (List.range (mNf (mlay c - 20))).map fun k => mfv w (mft (mlay c - 20) k) (σ c k))
  else if mlay c < 2000 then .inl (mty w 0, mlay c - 1000, .inl fun j => Int32.ofInt (σ c j))
  else if mlay c < 3000 then .inl (mty w 1, mlay c - 2000, .inl fun j => Int32.ofInt (σ c j))
  else if mlay c < 9000 then .inl (mty w 2, mlay c - 3000, .inr (.inl fun j => Int64.ofInt (σ c j)))
  else .inl (mty w 3, mlay c - 9000, .inr (.inr (.inr (.inr fun j => if σ c j < 0 then none else some (madr w (σ c j).toNat)))))
theorem mcell_congr (w : mW) {σ σ' : mM} {c : Nat} (h : ∀ j, σ c j = σ' c j) : mcell w σ c = mcell w σ' c := by
  have e : σ c = σ' c := funext h
  unfold mcell
  rw [e]
def mws (w : mW) (σ : mM) : va_W := (List.range (mz σ 0)).map fun c => (mb w + c, mcell w σ c)
theorem mws_get {w : mW} {σ : mM} {c : Nat} (h : c < mz σ 0) : (mws w σ)[c]? = some (mb w + c, mcell w σ c) := by
  unfold mws
  rw [List.getElem?_map, List.getElem?_range h]
  rfl
theorem mws_of {w : mW} {σ : mM} {k : Nat} {q : Nat × va_E} (h : (mws w σ)[k]? = some q) : k < mz σ 0 ∧ q = (mb w + k, mcell w σ k) := by
  have hl : k < (mws w σ).length := (List.getElem?_eq_some_iff.mp h).1
  have hk : k < mz σ 0 := by simpa [mws] using hl
  rw [mws_get hk] at h
  exact ⟨hk, (Option.some.inj h).symm⟩
theorem mws_D (w : mW) (σ : mM) : va_D (mA w) (mws w σ) := by
  refine ⟨fun i j p q hi hj e => ?_, fun k q hk => ?_⟩
  · obtain ⟨-, rfl⟩ := mws_of hi
    obtain ⟨-, rfl⟩ := mws_of hj
    have e : mb w + i = mb w + j := e
    omega
  · obtain ⟨-, rfl⟩ := mws_of hk
    exact Nat.le_add_right _ _
/-- what a reference of a kind may be, where n cells are made -/
def okR (n t : Nat) (x : Int) : Prop := ∃ c : Nat, x = (c : Int) ∧ ((c < n ∧ mlay c = t ∧ 20 ≤ t ∧ (t < 4000 ∨ 9000 ≤ t)) ∨ (t = 4 ∧ c = 903) ∨ (t = 7008 ∧ c = 900) ∨ (t = 7108 ∧ c = 901) ∨ (t = 7232 ∧ c = 902))
def okV (n : Nat) (v : mV) : Prop := (v.1 = 0 → in32 v.2) ∧ (v.1 = 1 → in64 v.2) ∧ (3 < v.1 → okR n v.1 v.2)
theorem okR.mono {n n' t : Nat} {x : Int} (h : okR n t x) (hn : n ≤ n') : okR n' t x := by
  obtain ⟨c, e, h⟩ := h
  refine ⟨c, e, ?_⟩
  rcases h with ⟨h1, h2⟩ | h
  · exact Or.inl ⟨by omega, h2⟩
  · exact Or.inr h
theorem okV.mono {n n' : Nat} {v : mV} (h : okV n v) (hn : n ≤ n') : okV n' v := ⟨h.1, h.2.1, fun q => (h.2.2 q).mono hn⟩
theorem okV_i {n : Nat} {x : Int} (h : in32 x) : okV n (0, x) := ⟨fun _ => h, fun q => by cases q, fun q => by simp at q⟩
theorem okV_l {n : Nat} {x : Int} (h : in64 x) : okV n (1, x) := ⟨fun q => by cases q, fun _ => h, fun q => by simp at q⟩
theorem okV_r {n t : Nat} {x : Int} (ht : 3 < t) (h : okR n t x) : okV n (t, x) := ⟨fun q => by simp at q; omega, fun q => by simp at q; omega, fun _ => h⟩
def okF (n t k : Nat) (x : Int) : Prop := (t < 1000 → (mft (t - 20) k = 0 → in32 x) ∧ (mft (t - 20) k ≠ 0 → x = -1 ∨ okR n (mft (t - 20) k) x)) ∧ (1000 ≤ t → t < 3000 → in32 x) ∧ (3000 ≤ t → t < 9000 → in64 x) ∧ (9000 ≤ t → x = -1 ∨ okR n 23 x)
def okM (w : mW) (σ : mM) : Prop := (0 ≤ σ 905 0 ∧ mz σ 0 ≤ 95) ∧ (∀ c, c < mz σ 0 → ∀ k, okF (mz σ 0) (mlay c) k (σ c k)) ∧ (∀ k, k < 4 → ∀ j, σ (900 + k) j = mex w k j) ∧ σ 904 0 = (mel w 3 : Int)
def mFX (σ : mM) : Prop := (∀ c, c < mz σ 0 → mlay c < 1000 → ∀ k r, mfx (mlay c - 20) k = some r → σ c k = (c : Int) + r) ∧ ∀ c, c < mz σ 0 → mlay c = 9006 → ∀ j : Nat, j < 6 → σ c j = (c : Int) + 1 + 2 * (j : Int)
theorem mset_ne {σ : mM} {c i a j : Nat} {v : Int} (h : a ≠ c) : mset σ c i v a j = σ a j := by
  unfold mset
  rw [if_neg (fun q => h q.1)]
theorem mset_eq {σ : mM} {c i : Nat} {v : Int} : mset σ c i v c i = v := by
  unfold mset
  rw [if_pos ⟨rfl, rfl⟩]
theorem mset_nj {σ : mM} {c i j : Nat} {v : Int} (h : j ≠ i) : mset σ c i v c j = σ c j := by
  unfold mset
  rw [if_neg (fun q => h q.2)]
theorem mz_set {σ : mM} {c i k : Nat} {v : Int} (h : c < 900) : mz (mset σ c i v) k = mz σ k := by
  unfold mz
  rw [mset_ne (by omega)]
theorem okM_set {w : mW} {σ : mM} {c k : Nat} {v : Int} (h : okM w σ) (hc : c < mz σ 0) (hv : okF (mz σ 0) (mlay c) k v) : okM w (mset σ c k v) := by
  obtain ⟨h1, h2, h3, h4⟩ := h
  have hc9 : c < 900 := by omega
  refine ⟨⟨by rw [mset_ne (by omega)]; exact h1.1, by rw [mz_set hc9]; exact h1.2⟩, fun a ha j => ?_, fun i hi j => by rw [mset_ne (by omega)]; exact h3 i hi j, by rw [mset_ne (by omega)]; exact h4⟩
  rw [mz_set hc9] at ha ⊢
  by_cases e : a = c
  · subst e
    by_cases e2 : j = k
    · subst e2
      rw [mset_eq]
      exact hv
    · rw [mset_nj e2]
      exact h2 a ha j
  · rw [mset_ne e]
    exact h2 a ha j
theorem mFX_set {σ : mM} {c k : Nat} {v : Int} (h : mFX σ) (hc : c < 900) (h1 : mlay c < 1000 → mfx (mlay c - 20) k = none) (h2 : mlay c ≠ 9006) : mFX (mset σ c k v) := by
  refine ⟨fun a ha hl i r hr => ?_, fun a ha hl j hj => ?_⟩
  · rw [mz_set hc] at ha
    by_cases e : a = c
    · subst e
      by_cases e2 : i = k
      · subst e2
        rw [h1 hl] at hr
        cases hr
      · rw [mset_nj e2]
        exact h.1 a ha hl i r hr
    · rw [mset_ne e]
      exact h.1 a ha hl i r hr
  · rw [mz_set hc] at ha
    rw [mset_ne (fun e => h2 (by rw [← e]; exact hl))]
    exact h.2 a ha hl j hj
theorem mws_set {w : mW} {σ : mM} {c k : Nat} {v : Int} {x : va_E} (hc : c < 900) (he : mcell w (mset σ c k v) c = x) : (mws w σ).set c (mb w + c, x) = mws w (mset σ c k v) := by
  subst he
  apply List.ext_getElem?
  intro i
  by_cases e : c = i
  · subst e
    by_cases hl : c < (mws w σ).length
    · rw [List.getElem?_set_self hl, mws_get (by rw [mz_set hc]; simpa [mws] using hl)]
    · have h1 : (mws w σ).length = mz σ 0 := by simp [mws]
      rw [List.getElem?_eq_none (by rw [List.length_set]; omega), List.getElem?_eq_none (by simp [mws, mz_set hc]; omega)]
  · rw [List.getElem?_set_ne e]
    unfold mws
    rw [mz_set hc, List.getElem?_map, List.getElem?_map]
    by_cases hi : i < mz σ 0
    · rw [List.getElem?_range hi]
      show some (mb w + i, mcell w σ i) = some (mb w + i, mcell w (mset σ c k v) i)
      rw [mcell_congr w (fun j => (mset_ne (fun q => e q.symm)).symm)]
    · rw [List.getElem?_eq_none (by simpa using hi)]
      rfl
theorem mz_pos {w : mW} {σ : mM} (h : okM w σ) : ((mz σ 0 : Nat) : Int) = σ 905 0 := by
  have := h.1.1
  unfold mz
  omega
/-! locals -/
def mlv (w : mW) : Nat → List mV → List (Nat × Value)
  | _, [] => []
  | i, v :: t => if v.1 = 2 then mlv w (i + 1) t else (i, mrep w v) :: mlv w (i + 1) t
theorem mlv_mem {w : mW} {L : List mV} : ∀ {k : Nat} {q : Nat × Value}, q ∈ mlv w k L ↔ ∃ (j : Nat) (v : mV), L[j]? = some v ∧ v.1 ≠ 2 ∧ q = (k + j, mrep w v) := by
  induction L with
  | nil => intro k q; simp [mlv]
  | cons u t ih =>
    intro k q
    unfold mlv
    constructor
    · intro h
      by_cases hu : u.1 = 2
      · rw [if_pos hu] at h
        obtain ⟨j, v, h1, h2, h3⟩ := ih.mp h
        exact ⟨j + 1, v, by simpa using h1, h2, by rw [h3]; congr 1; omega⟩
      · rw [if_neg hu] at h
        rcases List.mem_cons.mp h with rfl | h
        · exact ⟨0, u, rfl, hu, rfl⟩
        · obtain ⟨j, v, h1, h2, h3⟩ := ih.mp h
          exact ⟨j + 1, v, by simpa using h1, h2, by rw [h3]; congr 1; omega⟩
    · rintro ⟨j, v, h1, h2, h3⟩
      cases j with
      | zero =>
        have e : u = v := by simpa using h1
        subst e
        rw [if_neg h2, h3]
        exact List.mem_cons_self
      | succ j =>
        have h4 : q ∈ mlv w (k + 1) t := ih.mpr ⟨j, v, by simpa using h1, h2, by rw [h3]; congr 1; omega⟩
        by_cases hu : u.1 = 2
        · rw [if_pos hu]; exact h4
        · rw [if_neg hu]; exact List.mem_cons_of_mem _ h4
def mLr (w : mW) (nL : Nat) (L : List mV) (ls : Array Slot) : Prop := L.length = nL ∧ lv_has ls nL (mlv w 0 L)
theorem mLr_get {w : mW} {nL : Nat} {L : List mV} {ls : Array Slot} (h : mLr w nL L ls) {i : Nat} {v : mV} (hi : L[i]? = some v) (hv : v.1 ≠ 2) : ls[i]? = some (.val (mrep w v)) :=
  h.2.2.2 (i, mrep w v) (mlv_mem.mpr ⟨i, v, hi, hv, by rw [Nat.zero_add]⟩)
theorem mcat_2 {v : mV} (h : mcat v = 2) : v.1 = 1 := by
  unfold mcat at h
  cases hb : Nat.beq v.1 1
  · rw [hb] at h; cases h
  · exact Nat.eq_of_beq_eq_true hb
theorem mLr_set {w : mW} {nL : Nat} {L : List mV} {ls' : Array Slot} {i : Nat} {v : mV} (hL : L.length = nL) (hi : i < nL) (hp : i = 0 ∨ (L.getD (i - 1) (2, 0)).1 ≠ 1)
    (h' : lv_has ls' nL ((i, mrep w v) :: (mlv w 0 L).filter (fun q => !(q.1 == i) && !(q.1 + 1 == i && q.2.category == 2)))) : mLr w nL (L.set i v) ls' := by
  refine ⟨by rw [List.length_set]; exact hL, h'.1, h'.2.1, fun q hq => h'.2.2 q ?_⟩
  obtain ⟨j, u, h1, h2, h3⟩ := mlv_mem.mp hq
  rw [Nat.zero_add] at h3
  by_cases e : i = j
  · subst e
    rw [List.getElem?_set_self (by omega)] at h1
    cases h1
    rw [h3]
    exact List.mem_cons_self
  · rw [List.getElem?_set_ne e] at h1
    refine List.mem_cons_of_mem _ (List.mem_filter.mpr ⟨mlv_mem.mpr ⟨j, u, h1, h2, by rw [Nat.zero_add]; exact h3⟩, ?_⟩)
    subst h3
    simp only [Bool.and_eq_true, Bool.not_eq_true', beq_eq_false_iff_ne, ne_eq, Bool.and_eq_false_iff]
    refine ⟨fun q => e q.symm, ?_⟩
    by_cases e2 : j + 1 = i
    · right
      rw [mrep_cat]
      intro q
      have h1' := mcat_2 q
      rcases hp with h | h
      · omega
      · apply h
        have e3 : i - 1 = j := by omega
        rw [e3, List.getD_eq_getElem?_getD, h1]
        exact h1'
    · left
      exact e2
theorem mLr_setJ {w : mW} {nL : Nat} {L : List mV} {ls' : Array Slot} {i : Nat} {v : mV} (hL : L.length = nL) (hi : i + 1 < nL) (hp : i = 0 ∨ (L.getD (i - 1) (2, 0)).1 ≠ 1)
    (h' : lv_has ls' nL ((i, mrep w v) :: (mlv w 0 L).filter (fun q => !(q.1 == i) && (!(q.1 == i + 1) && !(q.1 + 1 == i && q.2.category == 2))))) : mLr w nL ((L.set i v).set (i + 1) (2, 0)) ls' := by
  refine ⟨by rw [List.length_set, List.length_set]; exact hL, h'.1, h'.2.1, fun q hq => h'.2.2 q ?_⟩
  obtain ⟨j, u, h1, h2, h3⟩ := mlv_mem.mp hq
  rw [Nat.zero_add] at h3
  by_cases e1 : i + 1 = j
  · subst e1
    rw [List.getElem?_set_self (by rw [List.length_set]; omega)] at h1
    cases h1
    exact absurd rfl h2
  rw [List.getElem?_set_ne e1] at h1
  by_cases e : i = j
  · subst e
    rw [List.getElem?_set_self (by omega)] at h1
    cases h1
    rw [h3]
    exact List.mem_cons_self
  · rw [List.getElem?_set_ne e] at h1
    refine List.mem_cons_of_mem _ (List.mem_filter.mpr ⟨mlv_mem.mpr ⟨j, u, h1, h2, by rw [Nat.zero_add]; exact h3⟩, ?_⟩)
    subst h3
    simp only [Bool.and_eq_true, Bool.not_eq_true', beq_eq_false_iff_ne, ne_eq, Bool.and_eq_false_iff]
    refine ⟨fun q => e q.symm, fun q => e1 q.symm, ?_⟩
    by_cases e2 : j + 1 = i
    · right
      rw [mrep_cat]
      intro q
      have h1' := mcat_2 q
      rcases hp with h | h
      · omega
      · apply h
        have e3 : i - 1 = j := by omega
        rw [e3, List.getD_eq_getElem?_getD, h1]
        exact h1'
    · left
      exact e2
