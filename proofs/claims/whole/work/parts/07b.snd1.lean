/-! the world's data: base, class data, classes of arrays, the constant rows' addresses, lengths, contents (0 MOST, 1 ABOVE, 2 BODIES, 3 the script) -/
abbrev mW : Type := Nat × va_G × (Nat → ClassId) × (Nat → Nat) × (Nat → Nat) × (Nat → Nat → Int)
def mb (w : mW) : Nat := w.1
def mdd (w : mW) : va_G := w.2.1
def mty (w : mW) (k : Nat) : ClassId := w.2.2.1 k
def mea (w : mW) (k : Nat) : Nat := w.2.2.2.1 k
def mel (w : mW) (k : Nat) : Nat := w.2.2.2.2.1 k
def mex (w : mW) (k j : Nat) : Int := w.2.2.2.2.2 k j
def mAr (w : mW) (q : Nat) : Prop := mb w ≤ q
def madr (w : mW) (c : Nat) : Nat := if c < 900 then mb w + c else mea w (c - 900)
def mrep (w : mW) (v : mV) : Value := if v.1 = 0 then .int (Int32.ofInt v.2) else if v.1 = 1 then .long (Int64.ofInt v.2) else .ref (madr w v.2.toNat)
theorem mrep_i (w : mW) (x : Int) : mrep w (0, x) = .int (Int32.ofInt x) := rfl
theorem mrep_l (w : mW) (x : Int) : mrep w (1, x) = .long (Int64.ofInt x) := rfl
theorem mrep_r (w : mW) {t : Nat} (ht : 3 < t) (x : Int) : mrep w (t, x) = .ref (madr w x.toNat) := by
  unfold mrep
  rw [if_neg (show ¬ t = 0 by omega), if_neg (show ¬ t = 1 by omega)]
theorem mrep_cat (w : mW) (v : mV) : (mrep w v).category = mcat v := by
  obtain ⟨t, x⟩ := v
  unfold mrep mcat
  by_cases h0 : t = 0
  · subst h0; rfl
  · by_cases h1 : t = 1
    · subst h1; rfl
    · rw [if_neg h0, if_neg h1]
      have : Nat.beq t 1 = false := by
        cases h : Nat.beq t 1
        · rfl
        · exact absurd (Nat.eq_of_beq_eq_true h) h1
      simp [this, Value.category]
def mtys (w : mW) : List (ClassId × FieldType) := [(mty w 0, .int), (mty w 1, .boolean), (mty w 2, .long), (mty w 3, .object RX3)]
def mfv (w : mW) (ft : Nat) (x : Int) : Value := if ft = 0 then .int (Int32.ofInt x) else if x < 0 then .null else .ref (madr w x.toNat)
def mcell (w : mW) (σ : mM) (c : Nat) : va_E :=
  if mlay c < 1000 then .inr (mlay c - 20, (List.range (mNf (mlay c - 20))).map fun k => mfv w (mft (mlay c - 20) k) (σ c k))
  else if mlay c < 2000 then .inl (mty w 0, mlay c - 1000, .inl fun j => Int32.ofInt (σ c j))
  else if mlay c < 3000 then .inl (mty w 1, mlay c - 2000, .inl fun j => Int32.ofInt (σ c j))
  else if mlay c < 9000 then .inl (mty w 2, mlay c - 3000, .inr (.inl fun j => Int64.ofInt (σ c j)))
  else .inl (mty w 3, mlay c - 9000, .inr (.inr (.inr (.inr fun j => if σ c j < 0 then none else some (madr w (σ c j).toNat)))))
theorem mcell_congr (w : mW) {σ σ' : mM} {c : Nat} (h : ∀ j, σ c j = σ' c j) : mcell w σ c = mcell w σ' c := by
  have e : σ c = σ' c := funext h
  unfold mcell
  rw [e]
def mws (w : mW) (σ : mM) : va_W := (List.range (mz σ 0)).map fun c => (mb w + c, mcell w σ c)
theorem mws_get {w : mW} {σ : mM} {c : Nat} (h : c < mz σ 0) : (mws w σ)[c]? = some (mb w + c, mcell w σ c) := by
  unfold mws
  rw [List.getElem?_map, List.getElem?_range h]
  rfl
theorem mws_of {w : mW} {σ : mM} {k : Nat} {q : Nat × va_E} (h : (mws w σ)[k]? = some q) : k < mz σ 0 ∧ q = (mb w + k, mcell w σ k) := by
  have hl : k < (mws w σ).length := (List.getElem?_eq_some_iff.mp h).1
  have hk : k < mz σ 0 := by simpa [mws] using hl
  rw [mws_get hk] at h
  exact ⟨hk, (Option.some.inj h).symm⟩
theorem mws_D (w : mW) (σ : mM) : va_D (mAr w) (mws w σ) := by
  refine ⟨fun i j p q hi hj e => ?_, fun k q hk => ?_⟩
  · obtain ⟨-, rfl⟩ := mws_of hi
    obtain ⟨-, rfl⟩ := mws_of hj
    have e : mb w + i = mb w + j := e
    omega
  · obtain ⟨-, rfl⟩ := mws_of hk
    exact Nat.le_add_right _ _
/-- what a reference of a kind may be, where n cells are made -/
def okR (n t : Nat) (x : Int) : Prop := ∃ c : Nat, x = (c : Int) ∧ ((c < n ∧ mlay c = t ∧ 20 ≤ t ∧ (t < 4000 ∨ 9000 ≤ t)) ∨ (t = 4 ∧ c = 903) ∨ (t = 7008 ∧ c = 900) ∨ (t = 7108 ∧ c = 901) ∨ (t = 7232 ∧ c = 902))
def okV (n : Nat) (v : mV) : Prop := (v.1 = 0 → in32 v.2) ∧ (v.1 = 1 → in64 v.2) ∧ (3 < v.1 → okR n v.1 v.2)
theorem okR.mono {n n' t : Nat} {x : Int} (h : okR n t x) (hn : n ≤ n') : okR n' t x := by
  obtain ⟨c, e, h⟩ := h
  refine ⟨c, e, ?_⟩
  rcases h with ⟨h1, h2⟩ | h
  · exact Or.inl ⟨by omega, h2⟩
  · exact Or.inr h
theorem okV.mono {n n' : Nat} {v : mV} (h : okV n v) (hn : n ≤ n') : okV n' v := ⟨h.1, h.2.1, fun q => (h.2.2 q).mono hn⟩
theorem okV_i {n : Nat} {x : Int} (h : in32 x) : okV n (0, x) := ⟨fun _ => h, fun (q : 0 = 1) => by omega, fun (q : 3 < 0) => by omega⟩
theorem okV_l {n : Nat} {x : Int} (h : in64 x) : okV n (1, x) := ⟨fun (q : 1 = 0) => by omega, fun _ => h, fun (q : 3 < 1) => by omega⟩
theorem okV_r {n t : Nat} {x : Int} (ht : 3 < t) (h : okR n t x) : okV n (t, x) := ⟨fun (q : t = 0) => by omega, fun (q : t = 1) => by omega, fun _ => h⟩
def okF (n t k : Nat) (x : Int) : Prop := (t < 1000 → (mft (t - 20) k = 0 → in32 x) ∧ (mft (t - 20) k ≠ 0 → x = -1 ∨ okR n (mft (t - 20) k) x)) ∧ (1000 ≤ t → t < 3000 → in32 x) ∧ (3000 ≤ t → t < 9000 → in64 x) ∧ (9000 ≤ t → x = -1 ∨ okR n 23 x)
def okM (w : mW) (σ : mM) : Prop := (0 ≤ σ 905 0 ∧ mz σ 0 ≤ 95) ∧ (∀ c, c < mz σ 0 → ∀ k, okF (mz σ 0) (mlay c) k (σ c k)) ∧ (∀ k, k < 4 → ∀ j, σ (900 + k) j = mex w k j) ∧ σ 904 0 = (mel w 3 : Int)
def mFX (σ : mM) : Prop := (∀ c, c < mz σ 0 → mlay c < 1000 → ∀ k r, mfx (mlay c - 20) k = some r → σ c k = (c : Int) + r ∧ 0 ≤ σ c k) ∧ (∀ c, c < mz σ 0 → mlay c = 9006 → (∀ j : Nat, j < 6 → σ c j = (c : Int) + 1 + 2 * (j : Int))) ∧ mz σ 0 = 95
theorem mset_ne {σ : mM} {c i a j : Nat} {v : Int} (h : a ≠ c) : mset σ c i v a j = σ a j := by
  unfold mset
  rw [if_neg (fun q => h q.1)]
theorem mset_eq {σ : mM} {c i : Nat} {v : Int} : mset σ c i v c i = v := by
  unfold mset
  rw [if_pos ⟨rfl, rfl⟩]
theorem mset_nj {σ : mM} {c i j : Nat} {v : Int} (h : j ≠ i) : mset σ c i v c j = σ c j := by
  unfold mset
  rw [if_neg (fun q => h q.2)]
theorem mz_set {σ : mM} {c i k : Nat} {v : Int} (h : c < 900) : mz (mset σ c i v) k = mz σ k := by
  unfold mz
  rw [mset_ne (by omega)]
theorem okM_set {w : mW} {σ : mM} {c k : Nat} {v : Int} (h : okM w σ) (hc : c < mz σ 0) (hv : okF (mz σ 0) (mlay c) k v) : okM w (mset σ c k v) := by
  obtain ⟨h1, h2, h3, h4⟩ := h
  have hc9 : c < 900 := by omega
  refine ⟨⟨by rw [mset_ne (by omega)]; exact h1.1, by rw [mz_set hc9]; exact h1.2⟩, fun a ha j => ?_, fun i hi j => by rw [mset_ne (by omega)]; exact h3 i hi j, by rw [mset_ne (by omega)]; exact h4⟩
  rw [mz_set hc9] at ha ⊢
  by_cases e : a = c
  · subst e
    by_cases e2 : j = k
    · subst e2
      rw [mset_eq]
      exact hv
    · rw [mset_nj e2]
      exact h2 a ha j
  · rw [mset_ne e]
    exact h2 a ha j
theorem mFX_set {σ : mM} {c k : Nat} {v : Int} (h : mFX σ) (hc : c < 900) (h1 : mlay c < 1000 → mfx (mlay c - 20) k = none) (h2 : mlay c ≠ 9006) : mFX (mset σ c k v) := by
  refine ⟨fun a ha hl i r hr => ?_, fun a ha hl j hj => ?_, by rw [mz_set hc]; exact h.2.2⟩
  · rw [mz_set hc] at ha
    by_cases e : a = c
    · subst e
      by_cases e2 : i = k
      · subst e2
        rw [h1 hl] at hr
        cases hr
      · rw [mset_nj e2]
        exact h.1 a ha hl i r hr
    · rw [mset_ne e]
      exact h.1 a ha hl i r hr
  · rw [mz_set hc] at ha
    rw [mset_ne (fun e => h2 (by rw [← e]; exact hl))]
    exact h.2.1 a ha hl j hj
