/-! PURE PART 35: squares reached, nearest first -/
def upN {α : Type} (f : Nat → α) (i : Nat) (v : α) : Nat → α := fun j => if j = i then v else f j
theorem upN_e {α : Type} {f : Nat → α} {i : Nat} {v : α} : upN f i v i = v := if_pos rfl
theorem upN_n {α : Type} {f : Nat → α} {i j : Nat} {v : α} (h : j ≠ i) : upN f i v j = f j := if_neg h
def cnt (f : Nat → Bool) : Nat → Nat
  | 0 => 0
  | n + 1 => cnt f n + (if f n = true then 1 else 0)
theorem cnt_le {f : Nat → Bool} {n : Nat} : cnt f n ≤ n := by
  induction n with
  | zero => exact Nat.le_refl _
  | succ n ih =>
    show cnt f n + (if f n = true then 1 else 0) ≤ n + 1
    split <;> omega
theorem cnt_cg {f g : Nat → Bool} {n : Nat} (h : ∀ i, i < n → f i = g i) : cnt f n = cnt g n := by
  induction n with
  | zero => rfl
  | succ n ih =>
    show cnt f n + (if f n = true then 1 else 0) = cnt g n + (if g n = true then 1 else 0)
    rw [ih (fun i hi => h i (by omega)), h n (by omega)]
theorem cnt_lt {f : Nat → Bool} {n r : Nat} (hr : r < n) (h : f r = false) : cnt f n < n := by
  induction n with
  | zero => omega
  | succ n ih =>
    show cnt f n + (if f n = true then 1 else 0) < n + 1
    by_cases he : r = n
    · subst he
      have := cnt_le (f := f) (n := r)
      rw [h, if_neg (by decide)]
      omega
    · have := ih (by omega)
      split <;> omega
theorem cnt_up {f g : Nat → Bool} {n r : Nat} (hr : r < n) (h : f r = false) (h1 : g r = true) (h2 : ∀ i, i < n → i ≠ r → g i = f i) : cnt g n = cnt f n + 1 := by
  induction n with
  | zero => omega
  | succ n ih =>
    show cnt g n + (if g n = true then 1 else 0) = cnt f n + (if f n = true then 1 else 0) + 1
    by_cases he : r = n
    · subst he
      rw [h, h1, if_pos rfl, if_neg (by decide), cnt_cg (f := g) (g := f) (fun i hi => h2 i (by omega) (by omega))]
    · rw [ih (by omega) (fun i hi hn => h2 i (by omega) hn), h2 n (by omega) (by omega)]
      omega
def nwB (T0 T : Nat → Int) (p : Nat) : Bool := decide (T0 p < 0 ∧ 0 ≤ T p)
abbrev Sp (s : Nat) (g T0 T : Nat → Int) (Q : Nat → Nat) (n : Nat) : Prop := (1 ≤ n) ∧ (Q 0 = s) ∧ (T s = 0) ∧ (∀ i, i < n → Q i < 30 ∧ T0 (Q i) < 0 ∧ 0 ≤ T (Q i) ∧ T (Q i) ≤ (i : Int) ∧ g (Q i) = g s) ∧ (∀ p, p < 30 → T p = T0 p ∨ ∃ i, i < n ∧ Q i = p) ∧ (∀ i j, i ≤ j → j < n → T (Q i) ≤ T (Q j)) ∧ (∀ p, p < 30 → p ≠ s → T0 p < 0 → 0 ≤ T p → ∃ q w, q < 30 ∧ w < 4 ∧ besA q w = (p : Int) ∧ T0 q < 0 ∧ 0 ≤ T q ∧ T p = T q + 1) ∧ (cnt (nwB T0 T) 30 = n)
theorem Sp.a1 {s : Nat} {g T0 T : Nat → Int} {Q : Nat → Nat} {n : Nat} (h : Sp s g T0 T Q n) : 1 ≤ n := h.1
theorem Sp.a2 {s : Nat} {g T0 T : Nat → Int} {Q : Nat → Nat} {n : Nat} (h : Sp s g T0 T Q n) : Q 0 = s := h.2.1
theorem Sp.a3 {s : Nat} {g T0 T : Nat → Int} {Q : Nat → Nat} {n : Nat} (h : Sp s g T0 T Q n) : T s = 0 := h.2.2.1
theorem Sp.a4 {s : Nat} {g T0 T : Nat → Int} {Q : Nat → Nat} {n : Nat} (h : Sp s g T0 T Q n) : ∀ i, i < n → Q i < 30 ∧ T0 (Q i) < 0 ∧ 0 ≤ T (Q i) ∧ T (Q i) ≤ (i : Int) ∧ g (Q i) = g s := h.2.2.2.1
theorem Sp.a5 {s : Nat} {g T0 T : Nat → Int} {Q : Nat → Nat} {n : Nat} (h : Sp s g T0 T Q n) : ∀ p, p < 30 → T p = T0 p ∨ ∃ i, i < n ∧ Q i = p := h.2.2.2.2.1
theorem Sp.a6 {s : Nat} {g T0 T : Nat → Int} {Q : Nat → Nat} {n : Nat} (h : Sp s g T0 T Q n) : ∀ i j, i ≤ j → j < n → T (Q i) ≤ T (Q j) := h.2.2.2.2.2.1
theorem Sp.a7 {s : Nat} {g T0 T : Nat → Int} {Q : Nat → Nat} {n : Nat} (h : Sp s g T0 T Q n) : ∀ p, p < 30 → p ≠ s → T0 p < 0 → 0 ≤ T p → ∃ q w, q < 30 ∧ w < 4 ∧ besA q w = (p : Int) ∧ T0 q < 0 ∧ 0 ≤ T q ∧ T p = T q + 1 := h.2.2.2.2.2.2.1
theorem Sp.a8 {s : Nat} {g T0 T : Nat → Int} {Q : Nat → Nat} {n : Nat} (h : Sp s g T0 T Q n) : cnt (nwB T0 T) 30 = n := h.2.2.2.2.2.2.2
def Pd (s : Nat) (g T0 T : Nat → Int) (q w : Nat) : Prop := ∀ p : Nat, besA q w = (p : Int) → g p = g s → T0 p < 0 → 0 ≤ T p ∧ T p ≤ T q + 1
theorem Sp_lt {s : Nat} {g T0 T : Nat → Int} {Q : Nat → Nat} {n r : Nat} (S : Sp s g T0 T Q n) (hr : r < 30) (h : T r < 0) : n < 30 ∧ T0 r < 0 := by
  have h0 : T0 r < 0 := by
    rcases S.a5 r hr with e | ⟨i, hi, e⟩
    · omega
    · have := (S.a4 i hi).2.2.1; rw [e] at this; omega
  refine ⟨?_, h0⟩
  have := cnt_lt (f := nwB T0 T) hr (decide_eq_false (by omega))
  rw [S.a8] at this
  exact this
theorem Sp_up {s k w : Nat} {g T0 T : Nat → Int} {Q : Nat → Nat} {n r : Nat} (S : Sp s g T0 T Q n) (hk : k < n) (hw : w < 4) (hb : besA (Q k) w = (r : Int)) (hr : r < 30) (h : T r < 0) (hg : g r = g s) (hm : ∀ j, j < n → T (Q j) ≤ T (Q k) + 1) : Sp s g T0 (upN T r (T (Q k) + 1)) (upN Q n r) (n + 1) := by
  obtain ⟨hn, h0⟩ := Sp_lt S hr h
  have hq : ∀ i, i < n → Q i ≠ r := fun i hi e => by have := (S.a4 i hi).2.2.1; rw [e] at this; omega
  have sr : s ≠ r := fun e => by have := S.a3; rw [e] at this; omega
  have A4 := S.a4 k hk
  refine ⟨by omega, ?_, ?_, fun i hi => ?_, fun p hp => ?_, fun i j hij hj => ?_, fun p hp hps hp0 hpt => ?_, ?_⟩
  · rw [upN_n (by have := S.a1; omega)]; exact S.a2
  · rw [upN_n sr]; exact S.a3
  · by_cases he : i = n
    · subst he
      rw [upN_e, upN_e]
      exact ⟨hr, h0, by omega, by omega, hg⟩
    · rw [upN_n he, upN_n (hq i (by omega))]
      exact S.a4 i (by omega)
  · by_cases he : p = r
    · exact Or.inr ⟨n, by omega, by rw [upN_e, he]⟩
    · rw [upN_n he]
      rcases S.a5 p hp with e | ⟨i, hi, e⟩
      · exact Or.inl e
      · exact Or.inr ⟨i, by omega, by rw [upN_n (by omega)]; exact e⟩
  · by_cases he : j = n
    · subst he
      rw [upN_e (f := Q), upN_e]
      by_cases hi : i = j
      · subst hi; rw [upN_e, upN_e]; exact Int.le_refl _
      · rw [upN_n hi, upN_n (hq i (by omega))]
        exact hm i (by omega)
    · rw [upN_n (f := Q) he, upN_n (f := Q) (by omega), upN_n (hq i (by omega)), upN_n (hq j (by omega))]
      exact S.a6 i j hij (by omega)
  · by_cases he : p = r
    · subst he
      exact ⟨Q k, w, A4.1, hw, hb, A4.2.1, by rw [upN_n (hq k hk)]; exact A4.2.2.1, by rw [upN_e, upN_n (hq k hk)]⟩
    · rw [upN_n he] at hpt ⊢
      obtain ⟨q, w', q1, q2, q3, q4, q5, q6⟩ := S.a7 p hp hps hp0 hpt
      have qr : q ≠ r := fun e => by rw [e] at q5; omega
      exact ⟨q, w', q1, q2, q3, q4, by rw [upN_n qr]; exact q5, by rw [upN_n qr]; exact q6⟩
  · rw [← S.a8]
    refine cnt_up hr (decide_eq_false (by omega)) (decide_eq_true ⟨h0, by rw [upN_e]; omega⟩) (fun i hi hn => ?_)
    unfold nwB
    rw [upN_n hn]
theorem Pd_up {s q w r : Nat} {g T0 T : Nat → Int} {v : Int} (h : T r < 0) (hq : q ≠ r) (P : Pd s g T0 T q w) : Pd s g T0 (upN T r v) q w := by
  intro p h1 h2 h3
  obtain ⟨c1, c2⟩ := P p h1 h2 h3
  have : p ≠ r := fun e => by rw [e] at c1; omega
  rw [upN_n this, upN_n hq]
  exact ⟨c1, c2⟩
/-- how it stands while one square's sides are looked at -/
abbrev Si (s : Nat) (σ0 σ : mM) (Q : Nat → Nat) (k w n : Nat) : Prop := (Sp s (σ0 35) (σ0 36) (σ 36) Q n) ∧ (fr [36, 37] σ0 σ) ∧ (∀ i, i < n → σ 37 i = (Q i : Int)) ∧ (k < n) ∧ (∀ i, i < k → ∀ w, w < 4 → Pd s (σ0 35) (σ0 36) (σ 36) (Q i) w) ∧ (∀ j, j < n → σ 36 (Q j) ≤ σ 36 (Q k) + 1) ∧ (∀ w', w' < w → Pd s (σ0 35) (σ0 36) (σ 36) (Q k) w')
theorem Si.S {s : Nat} {σ0 σ : mM} {Q : Nat → Nat} {k w n : Nat} (h : Si s σ0 σ Q k w n) : Sp s (σ0 35) (σ0 36) (σ 36) Q n := h.1
theorem Si.F {s : Nat} {σ0 σ : mM} {Q : Nat → Nat} {k w n : Nat} (h : Si s σ0 σ Q k w n) : fr [36, 37] σ0 σ := h.2.1
theorem Si.q {s : Nat} {σ0 σ : mM} {Q : Nat → Nat} {k w n : Nat} (h : Si s σ0 σ Q k w n) : ∀ i, i < n → σ 37 i = (Q i : Int) := h.2.2.1
theorem Si.hk {s : Nat} {σ0 σ : mM} {Q : Nat → Nat} {k w n : Nat} (h : Si s σ0 σ Q k w n) : k < n := h.2.2.2.1
theorem Si.P {s : Nat} {σ0 σ : mM} {Q : Nat → Nat} {k w n : Nat} (h : Si s σ0 σ Q k w n) : ∀ i, i < k → ∀ w, w < 4 → Pd s (σ0 35) (σ0 36) (σ 36) (Q i) w := h.2.2.2.2.1
theorem Si.M {s : Nat} {σ0 σ : mM} {Q : Nat → Nat} {k w n : Nat} (h : Si s σ0 σ Q k w n) : ∀ j, j < n → σ 36 (Q j) ≤ σ 36 (Q k) + 1 := h.2.2.2.2.2.1
theorem Si.W {s : Nat} {σ0 σ : mM} {Q : Nat → Nat} {k w n : Nat} (h : Si s σ0 σ Q k w n) : ∀ w', w' < w → Pd s (σ0 35) (σ0 36) (σ 36) (Q k) w' := h.2.2.2.2.2.2
