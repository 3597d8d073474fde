/-! PURE PART 41: patches, in the class -/
section
variable {K : mK} {mx : Int × Int} {σ σ0 : mM} {d n : Nat} {g T T' : Nat → Int} {mn : Nat → Nat}
theorem bes_sym {q w p : Nat} (hq : q < 30) (hw : w < 4) (h : besA q w = (p : Int)) : p < 30 ∧ ∃ w', w' < 4 ∧ besA p w' = (q : Int) := by
  have p30 : p < 30 := by have := besA_lt (way := w) hq (by omega); omega
  refine ⟨p30, ?_⟩
  rcases (by omega : w = 0 ∨ w = 1 ∨ w = 2 ∨ w = 3) with rfl | rfl | rfl | rfl
  · refine ⟨2, by omega, ?_⟩
    unfold besA at h ⊢
    rw [if_pos rfl] at h
    rw [if_neg (by omega), if_neg (by omega), if_pos rfl]
    split at h <;> split <;> omega
  · refine ⟨3, by omega, ?_⟩
    unfold besA at h ⊢
    rw [if_neg (by omega), if_pos rfl] at h
    rw [if_neg (by omega), if_neg (by omega), if_neg (by omega)]
    split at h <;> split <;> omega
  · refine ⟨0, by omega, ?_⟩
    unfold besA at h ⊢
    rw [if_neg (by omega), if_neg (by omega), if_pos rfl] at h
    rw [if_pos rfl]
    split at h <;> split <;> omega
  · refine ⟨1, by omega, ?_⟩
    unfold besA at h ⊢
    rw [if_neg (by omega), if_neg (by omega), if_neg (by omega)] at h
    rw [if_neg (by omega), if_pos rfl]
    split at h <;> split <;> omega
def pB (g : Nat → Int) (mn : Nat → Nat) (m : Nat) : Bool := decide (0 < g m ∧ mn m = m)
def szB (g : Nat → Int) (mn : Nat → Nat) (m p : Nat) : Bool := decide (0 < g p ∧ mn p = m)
def mxF (g : Nat → Int) (mn : Nat → Nat) : Nat → Int
  | 0 => 0
  | q + 1 => if pB g mn q = true then (if mxF g mn q < (cnt (szB g mn q) 30 : Int) then (cnt (szB g mn q) 30 : Int) else mxF g mn q) else mxF g mn q
theorem mxF_cg {mn' : Nat → Nat} {q : Nat} (h1 : ∀ m, m < q → pB g mn' m = pB g mn m) (h2 : ∀ m p, m < q → p < 30 → pB g mn m = true → szB g mn' m p = szB g mn m p) : mxF g mn' q = mxF g mn q := by
  induction q with
  | zero => rfl
  | succ q ih =>
    unfold mxF
    rw [ih (fun m hm => h1 m (by omega)) (fun m p hm => h2 m p (by omega)), h1 q (by omega)]
    by_cases h : pB g mn q = true
    · rw [if_pos h, if_pos h, cnt_cg (fun p hp => h2 q p (by omega) hp h)]
    · rw [if_neg h, if_neg h]
/-- the patches, up to a square -/
abbrev PI (g T : Nat → Int) (mn : Nat → Nat) (q : Nat) : Prop := (∀ p, p < 30 → 0 ≤ T p → 0 < g p ∧ mn p < q ∧ mn p ≤ p ∧ T p ≤ 29 ∧ g (mn p) = g p ∧ mn (mn p) = mn p) ∧ (∀ p, p < 30 → 0 ≤ T p → p ≠ mn p → ∃ r w, r < 30 ∧ w < 4 ∧ besA r w = (p : Int) ∧ 0 ≤ T r ∧ mn r = mn p ∧ T p = T r + 1) ∧ (∀ r w p : Nat, r < 30 → w < 4 → 0 ≤ T r → besA r w = (p : Int) → g p = g r → 0 ≤ T p ∧ mn p = mn r) ∧ (∀ p, p < q → p < 30 → 0 < g p → 0 ≤ T p) ∧ (∀ p, p < 30 → T p < 0 → mn p = 30)
theorem PI.p2 {g T : Nat → Int} {mn : Nat → Nat} {q : Nat} (h : PI g T mn q) : ∀ p, p < 30 → 0 ≤ T p → 0 < g p ∧ mn p < q ∧ mn p ≤ p ∧ T p ≤ 29 ∧ g (mn p) = g p ∧ mn (mn p) = mn p := h.1
theorem PI.p2' {g T : Nat → Int} {mn : Nat → Nat} {q : Nat} (h : PI g T mn q) : ∀ p, p < 30 → 0 ≤ T p → p ≠ mn p → ∃ r w, r < 30 ∧ w < 4 ∧ besA r w = (p : Int) ∧ 0 ≤ T r ∧ mn r = mn p ∧ T p = T r + 1 := h.2.1
theorem PI.p3 {g T : Nat → Int} {mn : Nat → Nat} {q : Nat} (h : PI g T mn q) : ∀ r w p : Nat, r < 30 → w < 4 → 0 ≤ T r → besA r w = (p : Int) → g p = g r → 0 ≤ T p ∧ mn p = mn r := h.2.2.1
theorem PI.p4 {g T : Nat → Int} {mn : Nat → Nat} {q : Nat} (h : PI g T mn q) : ∀ p, p < q → p < 30 → 0 < g p → 0 ≤ T p := h.2.2.2.1
theorem PI.p7 {g T : Nat → Int} {mn : Nat → Nat} {q : Nat} (h : PI g T mn q) : ∀ p, p < 30 → T p < 0 → mn p = 30 := h.2.2.2.2
theorem PI_s {q : Nat} (I : PI g T mn q) (h : g q ≤ 0 ∨ 0 ≤ T q) : PI g T mn (q + 1) :=
  ⟨fun p hp h0 => by obtain ⟨a, b, c⟩ := I.p2 p hp h0; exact ⟨a, by omega, c⟩, I.p2', I.p3, fun p hp h30 hg => by
    by_cases he : p = q
    · subst he; rcases h with h | h
      · omega
      · exact h
    · exact I.p4 p (by omega) h30 hg, I.p7⟩
def mnN (T T' : Nat → Int) (mn : Nat → Nat) (q p : Nat) : Nat := if T p < 0 ∧ 0 ≤ T' p then q else mn p
theorem PI_n {q : Nat} (I : PI g T mn q) (hq : q < 30) (hg : 0 < g q) (hT : T q < 0) (S : Se q g T T' n) : PI g T' (mnN T T' mn q) (q + 1) ∧ mnN T T' mn q q = q := by
  have old : ∀ p, p < 30 → 0 ≤ T p → T' p = T p ∧ mnN T T' mn q p = mn p := fun p hp h => ⟨S.b2 p hp h, if_neg (by omega)⟩
  have new : ∀ p, T p < 0 → 0 ≤ T' p → mnN T T' mn q p = q := fun p h1 h2 => if_pos ⟨h1, h2⟩
  have qn : mnN T T' mn q q = q := new q hT (by have := S.b1; omega)
  refine ⟨⟨fun p hp h0 => ?_, fun p hp h0 h1 => ?_, fun r w p hr hw h0 hb h1 => ?_, fun p hp h30 h0 => ?_, fun p hp h0 => ?_⟩, qn⟩
  · by_cases h : 0 ≤ T p
    · obtain ⟨o1, o2⟩ := old p hp h
      obtain ⟨a, b, c, e, f, f'⟩ := I.p2 p hp h
      have hm := I.p4 (mn p) b (by omega) (by omega)
      rw [o1, o2, (old (mn p) (by omega) hm).2]
      exact ⟨a, by omega, c, e, f, f'⟩
    · have hn := new p (by omega) h0
      obtain ⟨a, b⟩ := S.b4 p hp (by omega) h0
      rw [hn, qn]
      refine ⟨by omega, by omega, ?_, a, b.symm, rfl⟩
      by_cases hpq : p < q
      · have := I.p4 p hpq hp (by omega); omega
      · omega
  · by_cases h : 0 ≤ T p
    · obtain ⟨o1, o2⟩ := old p hp h
      rw [o2] at h1
      obtain ⟨r, w, r1, r2, r3, r4, r5, r6⟩ := I.p2' p hp h h1
      obtain ⟨e1, e2⟩ := old r r1 r4
      exact ⟨r, w, r1, r2, r3, by omega, by rw [e2, o2, r5], by omega⟩
    · have hn := new p (by omega) h0
      rw [hn] at h1
      obtain ⟨r, w, r1, r2, r3, r4, r5, r6⟩ := S.b5 p hp h1 (by omega) h0
      exact ⟨r, w, r1, r2, r3, r5, by rw [hn, new r r4 r5], r6⟩
  · obtain ⟨p30, w', hw', hb'⟩ := bes_sym hr hw hb
    by_cases h : 0 ≤ T r
    · obtain ⟨a, b⟩ := I.p3 r w p hr hw h hb h1
      obtain ⟨e1, e2⟩ := old p p30 a
      exact ⟨by omega, by rw [e2, (old r hr h).2, b]⟩
    · obtain ⟨-, gr⟩ := S.b4 r hr (by omega) h0
      by_cases hp : 0 ≤ T p
      · have := (I.p3 p w' r p30 hw' hp hb' h1.symm).1
        omega
      · have := (S.b6 r w hr hw (by omega) h0 p hb (by omega) (by omega)).1
        exact ⟨this, by rw [new p (by omega) this, new r (by omega) h0]⟩
  · by_cases h : 0 ≤ T p
    · rw [(old p h30 h).1]; exact h
    · by_cases he : p = q
      · rw [he, S.b1]; omega
      · exact absurd (I.p4 p (by omega) h30 h0) h
  · by_cases h : 0 ≤ T p
    · have := (old p hp h).1; omega
    · rw [show mnN T T' mn q p = mn p from if_neg (by omega)]
      exact I.p7 p hp (by omega)
theorem PI_c {q : Nat} (I : PI g T mn q) (hq : q < 30) (hg : 0 < g q) (hT : T q < 0) (S : Se q g T T' n) : cnt (pB g (mnN T T' mn q)) (q + 1) = cnt (pB g mn) q + 1 ∧ mxF g (mnN T T' mn q) (q + 1) = if mxF g mn q < (n : Int) then (n : Int) else mxF g mn q := by
  obtain ⟨-, qn⟩ := PI_n I hq hg hT S
  have lt : ∀ p, p < 30 → ¬ (T p < 0 ∧ 0 ≤ T' p) → mn p ≠ q := fun p hp h e => by
    by_cases h0 : 0 ≤ T p
    · have := (I.p2 p hp h0).2.1; omega
    · have := I.p7 p hp (by omega); omega
  have pb : ∀ m, m < q → pB g (mnN T T' mn q) m = pB g mn m := fun m hm => by
    unfold pB
    by_cases h0 : 0 < g m
    · have := I.p4 m hm (by omega) h0
      rw [show mnN T T' mn q m = mn m from if_neg (by omega)]
    · rw [decide_eq_false (by omega), decide_eq_false (by omega)]
  have sz : ∀ m p, m < q → p < 30 → szB g (mnN T T' mn q) m p = szB g mn m p := fun m p hm hp => by
    unfold szB
    by_cases h0 : T p < 0 ∧ 0 ≤ T' p
    · have := I.p7 p hp h0.1
      rw [show mnN T T' mn q p = q from if_pos h0, decide_eq_false (by omega), decide_eq_false (by omega)]
    · rw [show mnN T T' mn q p = mn p from if_neg h0]
  have sn : cnt (szB g (mnN T T' mn q) q) 30 = n := by
    rw [← S.b7]
    refine cnt_cg (fun p hp => ?_)
    unfold szB nwB
    by_cases h0 : T p < 0 ∧ 0 ≤ T' p
    · have := S.b4 p hp h0.1 h0.2
      rw [show mnN T T' mn q p = q from if_pos h0, decide_eq_true h0, decide_eq_true (by omega)]
    · have := lt p hp h0
      rw [show mnN T T' mn q p = mn p from if_neg h0, decide_eq_false h0, decide_eq_false (by omega)]
  have qB : pB g (mnN T T' mn q) q = true := decide_eq_true ⟨hg, qn⟩
  constructor
  · show cnt (pB g (mnN T T' mn q)) q + (if pB g (mnN T T' mn q) q = true then 1 else 0) = _
    rw [if_pos qB, cnt_cg pb]
  · show (if pB g (mnN T T' mn q) q = true then _ else _) = _
    rw [if_pos qB, sn, mxF_cg pb (fun m p hm hp _ => sz m p hm hp)]
theorem PI_k {q : Nat} (h : ¬ (0 < g q ∧ mn q = q)) : cnt (pB g mn) (q + 1) = cnt (pB g mn) q ∧ mxF g mn (q + 1) = mxF g mn q := by
  have e : ¬ pB g mn q = true := by unfold pB; rw [decide_eq_true_eq]; exact h
  constructor
  · show cnt (pB g mn) q + (if pB g mn q = true then 1 else 0) = _
    rw [if_neg e]; rfl
  · show (if pB g mn q = true then _ else _) = _
    rw [if_neg e]
def gP (V : cV) (p : Nat) : Int := if 0 < V 1 p then V 0 p + 1 else 0
theorem mxF_b {q : Nat} : 0 ≤ mxF g mn q ∧ mxF g mn q ≤ 30 := by
  induction q with
  | zero => exact ⟨Int.le_refl _, by show (0 : Int) ≤ 30; omega⟩
  | succ q ih =>
    have := cnt_le (f := szB g mn q) (n := 30)
    unfold mxF
    split
    · split <;> omega
    · exact ih
theorem l_84_16 {V : cV} (hV : gC 2 σ0 = V) (ok : okC V) : ∀ (f q : Nat) (σ : mM), q + f = 30 → fr [33, 35, 36] σ0 σ → (∀ p, p < q → σ 35 p = gP V p) → ∃ σ', fr [35] σ σ' ∧ (∀ p, p < 30 → σ' 35 p = gP V p) ∧ mgo K mx 84 16 [(28, 33), (21, ((2 : Nat) : Int)), (0, (q : Int))] [] σ = mgo K mx 84 57 [(28, 33), (21, ((2 : Nat) : Int)), (0, 0)] [] σ' := by
  intro f
  induction f with
  | zero =>
    intro q σ hq F h
    have hq : q = 30 := by omega
    subst hq
    exact ⟨σ, fr_r, h, by rw [b_84_16, bLt_f (by omega)]⟩
  | succ f ih =>
    intro q σ hq F h
    have v1 : σ 4 q = V 1 q := by
      rw [fr_e F (by decide), ← hV]
      show σ0 4 q = if q < 30 then σ0 4 q else 0
      rw [if_pos (by omega)]
    have v0 : σ 3 q = V 0 q := by
      rw [fr_e F (by decide), ← hV]
      show σ0 3 q = if q < 30 then σ0 3 q else 0
      rw [if_pos (by omega)]
    have b0 := ok.2.1 q
    obtain ⟨σ', i1, i2, i3⟩ := ih (q + 1) (mset σ 35 q (gP V q)) (by omega) (fr_s F (by decide)) (fun p hp => by
      by_cases he : p = q
      · rw [he, ms_e]
      · rw [ms_n (by omega)]; exact h p (by omega))
    refine ⟨σ', fr_t (fr_s fr_r (by decide)) i1, i2, ?_⟩
    rw [b_84_16, bLt_t (by omega), bIn_t (by omega), tn_n, w32_n (by omega), ← i3]
    show bLt 0 (σ 4 q) _ _ = _
    unfold gP
    rw [v1]
    by_cases hh : 0 < V 1 q
    · rw [bLt_t hh, bIn_t (by omega), bIn_t (by omega), if_pos hh]
      show mgo K mx 84 16 _ [] (mset σ 35 q (w32 (σ 3 q + 1))) = _
      rw [v0, w32_e (by omega)]
    · rw [bLt_f (by omega), bIn_t (by omega), if_neg hh]
end
