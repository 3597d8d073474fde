/-! PURE PART 37: ways, in the class -/
section
variable {K : mK} {mx : Int × Int} {v1 v2 v3 : Int} {σ σ0 : mM} {u : mV} {d s t : Nat} {wf : Nat → Int}
def CF (wf : Nat → Int) (s : Nat) (v : Int) (T : Nat → Int) : Prop := T s = 0 ∧ (∀ p, p < 30 → 0 ≤ T p → T p ≤ 29 ∧ v ≤ wf p) ∧ (∀ p, p < 30 → p ≠ s → 0 ≤ T p → ∃ q w, q < 30 ∧ w < 4 ∧ besA q w = (p : Int) ∧ 0 ≤ T q ∧ T p = T q + 1) ∧ (∀ q w p : Nat, q < 30 → w < 4 → 0 ≤ T q → besA q w = (p : Int) → v ≤ wf p → 0 ≤ T p ∧ T p ≤ T q + 1)
def Wk (wf : Nat → Int) (s t : Nat) (lv st : Int) : Prop := 0 ≤ lv ∧ lv ≤ wf s ∧ lv ≤ wf t ∧ (∃ T, CF wf s lv T ∧ T t = st ∧ 0 ≤ st) ∧ ∀ v, lv < v → v ≤ wf s → v ≤ wf t → ∃ T, CF wf s v T ∧ T t < 0
theorem l_85 : ∀ (m q : Nat) (σ : mM), q + m = 30 → ∃ τ, mgo K mx 85 2 [(28, 33), (0, (q : Int))] [] σ = some (0, τ) ∧ fr [36] σ τ ∧ (∀ p, p < q → τ 36 p = σ 36 p) ∧ ∀ p, q ≤ p → p < 30 → τ 36 p = -1 := by
  intro m
  induction m with
  | zero =>
    intro q σ hq
    exact ⟨σ, by rw [b_85_2, bLt_f (by omega)], fr_r, fun _ _ => rfl, fun p h1 h2 => by omega⟩
  | succ m ih =>
    intro q σ hq
    obtain ⟨τ, h1, h2, h3, h4⟩ := ih (q + 1) (mset σ 36 q (-1)) (by omega)
    refine ⟨τ, by rw [b_85_2, bLt_t (by omega), bIn_t (by omega), w32_n (by omega), tn_n, h1], fr_t (fr_s fr_r (by decide)) h2, fun p hp => by rw [h3 p (by omega), ms_n (by omega)], fun p h5 h6 => ?_⟩
    by_cases he : p = q
    · rw [he, h3 q (by omega), ms_e]
    · exact h4 p (by omega) h6
theorem s_85 : ∃ τ, mcall (d + 1) 85 [(28, 33)] σ = some (0, τ) ∧ fr [36] σ τ ∧ ∀ p, p < 30 → τ 36 p = -1 := by
  obtain ⟨τ, h1, h2, -, h4⟩ := l_85 (K := mcall d) (mx := mX 85 σ) 30 0 σ (by omega)
  exact ⟨τ, by rw [e_85]; exact h1, h2, fun p hp => h4 p (by omega) hp⟩
theorem l_83_27 : ∀ (m q : Nat) (σ : mM), q + m = 30 → ∃ τ, mgo K mx 83 27 [(28, 33), (0, v1), (0, v2), (0, v3), (0, (q : Int))] [] σ = mgo K mx 83 27 [(28, 33), (0, v1), (0, v2), (0, v3), (0, 30)] [] τ ∧ fr [35] σ τ ∧ (∀ p, p < q → τ 35 p = σ 35 p) ∧ ∀ p, q ≤ p → p < 30 → τ 35 p = if σ 34 p < v3 then 0 else 1 := by
  intro m
  induction m with
  | zero =>
    intro q σ hq
    have : q = 30 := by omega
    subst this
    exact ⟨σ, rfl, fr_r, fun _ _ => rfl, fun p h1 h2 => by omega⟩
  | succ m ih =>
    intro q σ hq
    obtain ⟨τ, h1, h2, h3, h4⟩ := ih (q + 1) (mset σ 35 q (if σ 34 q < v3 then 0 else 1)) (by omega)
    refine ⟨τ, ?_, fr_t (fr_s fr_r (by decide)) h2, fun p hp => by rw [h3 p (by omega), ms_n (by omega)], fun p h5 h6 => ?_⟩
    · rw [b_83_27, bLt_t (by omega), bIn_t (by omega), tn_n, w32_n (by omega), ← h1]
      by_cases h : σ 34 q < v3
      · rw [bLt_t h, bIn_t (by omega), if_pos h]
      · rw [bLt_f (by omega), bIn_t (by omega), if_neg h]
    · by_cases he : p = q
      · rw [he, h3 q (by omega), ms_e]
      · rw [h4 p (by omega) h6, ms_n (by omega)]
/-- the squares hang together -/
theorem con (C : Nat → Prop) (h : ∀ q w p : Nat, q < 30 → w < 4 → C q → besA q w = (p : Int) → C p) {s : Nat} (hs : s < 30) (h0 : C s) : ∀ p, p < 30 → C p := by
  have dn : ∀ f p, p ≤ f → p < 30 → C p → C 0 := by
    intro f
    induction f with
    | zero => intro p hp _ hc; have : p = 0 := by omega
              rw [← this]; exact hc
    | succ f ih =>
      intro p hp h30 hc
      by_cases h1 : p = 0
      · rw [← h1]; exact hc
      · by_cases h2 : 0 < p % 6
        · exact ih (p - 1) (by omega) (by omega) (h p 3 (p - 1) h30 (by omega) hc (by unfold besA; rw [if_neg (by omega), if_neg (by omega), if_neg (by omega), if_pos h2]; omega))
        · exact ih (p - 6) (by omega) (by omega) (h p 0 (p - 6) h30 (by omega) hc (by unfold besA; rw [if_pos rfl, if_pos (by omega)]; omega))
  have c0 := dn s s (Nat.le_refl _) hs h0
  have up : ∀ f p, p ≤ f → p < 30 → C p := by
    intro f
    induction f with
    | zero => intro p hp _; have : p = 0 := by omega
              rw [this]; exact c0
    | succ f ih =>
      intro p hp h30
      by_cases h1 : p = 0
      · rw [h1]; exact c0
      · by_cases h2 : 0 < p % 6
        · exact h (p - 1) 1 p (by omega) (by omega) (ih (p - 1) (by omega) (by omega)) (by unfold besA; rw [if_neg (by omega), if_pos rfl, if_pos (by omega)]; omega)
        · exact h (p - 6) 2 p (by omega) (by omega) (ih (p - 6) (by omega) (by omega)) (by unfold besA; rw [if_neg (by omega), if_neg (by omega), if_pos rfl, if_pos (by omega)]; omega)
  exact fun p hp => up p p (Nat.le_refl _) hp
theorem CF_0 {T : Nat → Int} (h : CF wf s 0 T) (hs : s < 30) (hw : ∀ p, 0 ≤ wf p) {p : Nat} (hp : p < 30) : 0 ≤ T p :=
  (con (fun p => p < 30 ∧ 0 ≤ T p) (fun q w p hq hw4 hc hb => ⟨by have := besA_lt (way := w) hq (by omega); omega, (h.2.2.2 q w p hq hw4 hc.2 hb (hw p)).1⟩) hs ⟨hs, by have := h.1; omega⟩ p hp).2
theorem l_83 (hs : s < 30) (ht : t < 30) (hb : ∀ p, 0 ≤ wf p ∧ wf p ≤ 99) : ∀ (m : Nat) (σ : mM) (u : mV), uvl u → (∀ p, p < 30 → σ 34 p = wf p) → (m : Int) ≤ wf s → (m : Int) ≤ wf t → (∀ v, (m : Int) < v → v ≤ wf s → v ≤ wf t → ∃ T, CF wf s v T ∧ T t < 0) → ∃ σ' lv st, mgo (mcall (d + 3)) mx 83 16 [(28, 33), (0, (s : Int)), (0, (t : Int)), (0, (m : Int)), u] [] σ = some (0, σ') ∧ fr [33, 35, 36, 37] σ σ' ∧ σ' 33 4 = lv ∧ σ' 33 5 = st ∧ Wk wf s t lv st := by
  intro m
  induction m with
  | zero => 
    intro σ u hu hw h1 h2 h3
    obtain ⟨τ1, a1, a2, a3⟩ := s_85 (d := d + 2) (σ := σ)
    obtain ⟨τ2, b1, b2, -, b4⟩ := l_83_27 (K := mcall (d + 3)) (mx := mx) (v1 := (s : Int)) (v2 := (t : Int)) (v3 := ((0 : Nat) : Int)) 30 0 τ1 (by omega)
    have e36 : τ2 36 = τ1 36 := b2 36 (by decide)
    obtain ⟨n, τ3, c1, c2, c3⟩ := s_86 (d := d + 1) (σ := τ2) hs (by rw [e36, a3 s hs]; omega)
    have g1 : ∀ p, p < 30 → τ2 35 p = if wf p < 0 then 0 else 1 := fun p hp => by rw [b4 p (by omega) hp, fr_e a2 (by decide), hw p hp]; rfl
    have t0 : ∀ p, p < 30 → τ2 36 p < 0 := fun p hp => by rw [e36, a3 p hp]; omega
    have X : CF wf s 0 (τ3 36) := ⟨c3.b1, fun p hp h => ⟨(c3.b4 p hp (t0 p hp) h).1, (hb p).1⟩, fun p hp hps h => by
        obtain ⟨q, w, q1, q2, q3, q4, q5, q6⟩ := c3.b5 p hp hps (t0 p hp) h
        exact ⟨q, w, q1, q2, q3, q5, q6⟩, fun q w p hq hw4 h hbs hv => by
        have p30 : p < 30 := by have := besA_lt (way := w) hq (by omega); omega
        exact c3.b6 q w hq hw4 (t0 q hq) h p hbs (by rw [g1 p p30, g1 s hs, if_neg (by have := (hb p).1; omega), if_neg (by have := (hb s).1; omega)]) (t0 p p30)⟩
    have r0 := CF_0 X hs (fun p => (hb p).1) ht
    refine ⟨mset (mset τ3 33 4 0) 33 5 (τ3 36 t), 0, τ3 36 t, ?_, ?_, ?_, ms_e, by omega, (hb s).1, (hb t).1, ⟨τ3 36, X, rfl, r0⟩, h3⟩
    · have key : mgo (mcall (d + 3)) mx 83 27 [(28, 33), (0, (s : Int)), (0, (t : Int)), (0, ((0 : Nat) : Int)), (0, 0)] [] τ1 = some (0, mset (mset τ3 33 4 0) 33 5 (τ3 36 t)) := by
        refine b1.trans ?_
        rw [b_83_27, bLt_f (by omega), c1, bK_t, bIn_t (by omega), tn_n, bLt_f (by omega), bIn_t (by omega), ms_n (by omega)]
        rfl
      rcases hu with rfl | ⟨x, rfl⟩
      · rw [b_83_16a, bLt_f (by omega), a1, bK_t]; exact key
      · rw [b_83_16, bLt_f (by omega), a1, bK_t]; exact key
    · exact fr_s (fr_s (fr_t (fr_m a2 (by decide)) (fr_t (fr_m b2 (by decide)) (fr_m c2 (by decide)))) (by decide)) (by decide)
    · rw [ms_n (by omega), ms_e]
  | succ m ih =>
    intro σ u hu hw h1 h2 h3
    obtain ⟨τ1, a1, a2, a3⟩ := s_85 (d := d + 2) (σ := σ)
    obtain ⟨τ2, b1, b2, -, b4⟩ := l_83_27 (K := mcall (d + 3)) (mx := mx) (v1 := (s : Int)) (v2 := (t : Int)) (v3 := ((m + 1 : Nat) : Int)) 30 0 τ1 (by omega)
    have e36 : τ2 36 = τ1 36 := b2 36 (by decide)
    obtain ⟨n, τ3, c1, c2, c3⟩ := s_86 (d := d + 1) (σ := τ2) hs (by rw [e36, a3 s hs]; omega)
    have g1 : ∀ p, p < 30 → τ2 35 p = if wf p < ((m + 1 : Nat) : Int) then 0 else 1 := fun p hp => by rw [b4 p (by omega) hp, fr_e a2 (by decide), hw p hp]
    have t0 : ∀ p, p < 30 → τ2 36 p < 0 := fun p hp => by rw [e36, a3 p hp]; omega
    have gs : τ2 35 s = 1 := by rw [g1 s hs, if_neg (by omega)]
    have X : CF wf s ((m + 1 : Nat) : Int) (τ3 36) := ⟨c3.b1, fun p hp h => by
        obtain ⟨x1, x2⟩ := c3.b4 p hp (t0 p hp) h
        refine ⟨x1, ?_⟩
        rw [gs, g1 p hp] at x2
        by_cases hh : wf p < ((m + 1 : Nat) : Int)
        · rw [if_pos hh] at x2; omega
        · omega, fun p hp hps h => by
        obtain ⟨q, w, q1, q2, q3, q4, q5, q6⟩ := c3.b5 p hp hps (t0 p hp) h
        exact ⟨q, w, q1, q2, q3, q5, q6⟩, fun q w p hq hw4 h hbs hv => by
        have p30 : p < 30 := by have := besA_lt (way := w) hq (by omega); omega
        exact c3.b6 q w hq hw4 (t0 q hq) h p hbs (by rw [gs, g1 p p30, if_neg (by omega)]) (t0 p p30)⟩
    have F3 : fr [33, 35, 36, 37] σ τ3 := fr_t (fr_m a2 (by decide)) (fr_t (fr_m b2 (by decide)) (fr_m c2 (by decide)))
    by_cases hT : τ3 36 t < 0
    · obtain ⟨σ', lv, st, d1, d2, d3, d4, d5⟩ := ih τ3 (0, 30) (Or.inr ⟨_, rfl⟩) (fun p hp => by rw [fr_e F3 (by decide), hw p hp]) (by omega) (by omega) (fun v hv g2 g3 => by
        by_cases he : v = ((m + 1 : Nat) : Int)
        · rw [he]; exact ⟨τ3 36, X, hT⟩
        · exact h3 v (by omega) g2 g3)
      refine ⟨σ', lv, st, ?_, fr_t F3 d2, d3, d4, d5⟩
      have key : mgo (mcall (d + 3)) mx 83 27 [(28, 33), (0, (s : Int)), (0, (t : Int)), (0, ((m + 1 : Nat) : Int)), (0, 0)] [] τ1 = some (0, σ') := by
        refine b1.trans ?_
        have hm99 := (hb s).2
        rw [b_83_27, bLt_f (by omega), c1, bK_t, bIn_t (by omega), tn_n, bLt_t hT, w32_e (by omega), show ((m + 1 : Nat) : Int) + (-1) = (m : Int) from by omega]
        exact d1
      rcases hu with rfl | ⟨x, rfl⟩
      · rw [b_83_16a, bLt_f (by omega), a1, bK_t]; exact key
      · rw [b_83_16, bLt_f (by omega), a1, bK_t]; exact key
    · refine ⟨mset (mset τ3 33 4 ((m + 1 : Nat) : Int)) 33 5 (τ3 36 t), ((m + 1 : Nat) : Int), τ3 36 t, ?_, fr_s (fr_s F3 (by decide)) (by decide), by rw [ms_n (by omega), ms_e], ms_e, by omega, h1, h2, ⟨τ3 36, X, rfl, by omega⟩, h3⟩
      have key : mgo (mcall (d + 3)) mx 83 27 [(28, 33), (0, (s : Int)), (0, (t : Int)), (0, ((m + 1 : Nat) : Int)), (0, 0)] [] τ1 = some (0, mset (mset τ3 33 4 ((m + 1 : Nat) : Int)) 33 5 (τ3 36 t)) := by
        refine b1.trans ?_
        rw [b_83_27, bLt_f (by omega), c1, bK_t, bIn_t (by omega), tn_n, bLt_f (by omega), bIn_t (by omega), ms_n (by omega)]
      rcases hu with rfl | ⟨x, rfl⟩
      · rw [b_83_16a, bLt_f (by omega), a1, bK_t]; exact key
      · rw [b_83_16, bLt_f (by omega), a1, bK_t]; exact key
theorem s_83 (hs : s < 30) (ht : t < 30) (hb : ∀ p, 0 ≤ wf p ∧ wf p ≤ 99) (hw : ∀ p, p < 30 → σ 34 p = wf p) : ∃ σ' lv st, mcall (d + 4) 83 [(28, 33), (0, (s : Int)), (0, (t : Int))] σ = some (0, σ') ∧ fr [33, 35, 36, 37] σ σ' ∧ σ' 33 4 = lv ∧ σ' 33 5 = st ∧ Wk wf s t lv st := by
  obtain ⟨m, hm⟩ : ∃ m : Nat, (if wf t < wf s then wf t else wf s) = (m : Int) := ⟨(if wf t < wf s then wf t else wf s).toNat, by have := (hb s).1; have := (hb t).1; split <;> omega⟩
  have h1 : (m : Int) ≤ wf s := by rw [← hm]; split <;> omega
  have h2 : (m : Int) ≤ wf t := by rw [← hm]; split <;> omega
  obtain ⟨σ', lv, st, e, r⟩ := l_83 (d := d) (mx := mX 83 σ) hs ht hb m σ (2, 0) (Or.inl rfl) hw h1 h2 (fun v hv g1 g2 => by
    exfalso
    rw [← hm] at hv
    split at hv <;> omega)
  refine ⟨σ', lv, st, ?_, r⟩
  rw [e_83, bIn_t (by omega), bIn_t (by omega), tn_n, tn_n, hw s hs, hw t ht, hm]
  exact e
end
