/-! PURE PART 39: walk -/
section
variable {mx : Int × Int} {σ σ0 : mM} {d s t n c w nn : Nat} {v : Int} {V : cV} {L : List (List Int × List Int)} {H : Nat → Nat → Int} {sl : Int}
theorem w_169 {q : Nat} (g : gM σ0 = V) (ok : okC V) (E : envM σ0 L H nn sl) (hq : q < 30) (F : fr [79, 80, 93] σ0 σ) : ∃ μ, mcall (d + 4) 169 [(30, 64), (0, (q : Int))] σ = some (wfA L V q, μ) ∧ fr [79, 80] σ μ := by
  have E' := envM_f (fm_f F) (by decide) E
  exact s_169 ((gM_f F (by decide)).trans g) ok hq E'.1 E'.2.1
theorem l_196_62 (g : gM σ0 = V) (ok : okC V) (E : envM σ0 L H nn sl) (hn : n ≤ 29) (hc : c < 30) : ∀ (f w : Nat) (σ : mM) (u : mV), w + f = 4 → uvl u → fr [79, 80, 93] σ0 σ → Mi (wfA L V) s v (σ 93) n c w → ∃ σ' y u', uvl u' ∧ fr [79, 80, 93] σ0 σ' ∧ Mi (wfA L V) s v (σ' 93) n (c + 1) 0 ∧ mgo (mcall (d + 4)) mx 196 62 [(30, 64), (0, (s : Int)), (0, v), (0, (n : Int)), (0, (c : Int)), (0, (w : Int)), u] [] σ = mgo (mcall (d + 4)) mx 196 52 [(30, 64), (0, (s : Int)), (0, v), (0, (n : Int)), (0, ((c + 1 : Nat) : Int)), (0, y), u'] [] σ' := by
  intro f
  induction f with
  | zero =>
    intro w σ u hw hu F I
    have hw : w = 4 := by omega
    exact ⟨σ, (w : Int), u, hu, F, Mi_c I (Or.inl hw), by rw [g_196_62 hu, bLt_f (by omega), w32_n (by omega)]⟩
  | succ f ih =>
    intro w σ u hw hu F I
    rw [g_196_62 hu, bLt_t (by omega), bIn_t (by omega), tn_n]
    by_cases e : σ 93 c = (n : Int)
    · rw [bEq_t e, s_166 hc (by omega), bK_t]
      by_cases hb : besA c w < 0
      · rw [bLt_t hb, f_196_126, w32_n (by omega)]
        exact ih (w + 1) σ _ (by omega) (Or.inr ⟨_, rfl⟩) F (Mi_w I (fun _ p h1 => by omega))
      · obtain ⟨r, hr⟩ : ∃ r : Nat, besA c w = (r : Int) := ⟨(besA c w).toNat, by omega⟩
        have hr30 : r < 30 := by have := besA_lt (way := w) hc (by omega); omega
        rw [bLt_f (by omega), hr, bIn_t (by omega), tn_n]
        by_cases h9 : σ 93 r = 999
        · obtain ⟨μ, m1, m2⟩ := w_169 (d := d) (q := r) g ok E hr30 F
          have e93 : μ 93 = σ 93 := m2 93 (by decide)
          have F' : fr [79, 80, 93] σ0 μ := fr_t F (fr_m m2 (by decide))
          rw [bEq_t h9, m1, bK_t]
          by_cases hv : wfA L V r < v
          · rw [bLt_t hv, f_196_126, w32_n (by omega)]
            refine ih (w + 1) μ _ (by omega) (Or.inr ⟨_, rfl⟩) F' ?_
            rw [e93]
            exact Mi_w I (fun _ p h1 h2 => by
              have : p = r := by omega
              subst this
              omega)
          · rw [bLt_f (by omega), bIn_t (by omega), f_196_126, w32_n (by omega), w32_n (by omega)]
            refine ih (w + 1) _ _ (by omega) (Or.inr ⟨_, rfl⟩) (fr_s F' (by decide)) ?_
            have up : (mset μ 93 r ((n + 1 : Nat) : Int)) 93 = upN (σ 93) r ((n : Int) + 1) := by
              funext j
              by_cases h : j = r
              · rw [h, ms_e, upN_e]; rfl
              · rw [ms_n (by omega), upN_n h, e93]
            rw [up]
            exact Mi_up I hn hc (by omega) e hr h9 (by omega)
        · rw [bEq_f h9, f_196_126, w32_n (by omega)]
          refine ih (w + 1) σ _ (by omega) (Or.inr ⟨_, rfl⟩) F (Mi_w I (fun _ p h1 h2 => ?_))
          have : p = r := by omega
          subst this
          by_cases hps : p = s
          · have := I.m1
            rw [← hps] at this
            split at this <;> omega
          · rcases I.m2 p hr30 hps with e' | ⟨-, e', -⟩ <;> omega
    · rw [bEq_f e, w32_n (by omega)]
      exact ⟨σ, (w : Int), u, hu, F, Mi_c I (Or.inr e), rfl⟩
theorem l_196_52 (g : gM σ0 = V) (ok : okC V) (E : envM σ0 L H nn sl) (hn : n ≤ 29) : ∀ (f c : Nat) (σ : mM) (u5 u6 : mV), c + f = 30 → u56 u5 u6 → fr [79, 80, 93] σ0 σ → Mi (wfA L V) s v (σ 93) n c 0 → ∃ σ' u5' u6', u56 u5' u6' ∧ fr [79, 80, 93] σ0 σ' ∧ Mi (wfA L V) s v (σ' 93) (n + 1) 0 0 ∧ mgo (mcall (d + 4)) mx 196 52 [(30, 64), (0, (s : Int)), (0, v), (0, (n : Int)), (0, (c : Int)), u5, u6] [] σ = mgo (mcall (d + 4)) mx 196 43 [(30, 64), (0, (s : Int)), (0, v), (0, ((n + 1 : Nat) : Int)), (0, 30), u5', u6'] [] σ' := by
  intro f
  induction f with
  | zero =>
    intro c σ u5 u6 hc hu F I
    have hc : c = 30 := by omega
    subst hc
    exact ⟨σ, u5, u6, hu, F, Mi_n I, by rw [g_196_52 hu, bLt_f (by omega), w32_n (by omega)]; rfl⟩
  | succ f ih =>
    intro c σ u5 u6 hc hu F I
    obtain ⟨σ1, y, u', h1, h2, h3, h4⟩ := l_196_62 (d := d) (mx := mx) g ok E hn (by omega) 4 0 σ u6 (by omega) (u56_6 hu) F I
    obtain ⟨σ2, a, b, i1, i2, i3, i4⟩ := ih (c + 1) σ1 (0, y) u' (by omega) (Or.inl ⟨⟨_, rfl⟩, h1⟩) h2 h3
    refine ⟨σ2, a, b, i1, i2, i3, ?_⟩
    rw [g_196_52 hu, bLt_t (by omega), ← i4]
    exact h4
theorem l_196_43 (g : gM σ0 = V) (ok : okC V) (E : envM σ0 L H nn sl) : ∀ (f n : Nat) (σ : mM) (u4 u5 u6 : mV), n + f = 30 → ((∃ x, u4 = (0, x)) ∧ u56 u5 u6 ∨ (u4 = (2, 0) ∧ u5 = (2, 0) ∧ u6 = (2, 0))) → fr [79, 80, 93] σ0 σ → Mi (wfA L V) s v (σ 93) n 0 0 → ∃ σ', fr [79, 80, 93] σ0 σ' ∧ Mi (wfA L V) s v (σ' 93) 30 0 0 ∧ mgo (mcall (d + 4)) mx 196 43 [(30, 64), (0, (s : Int)), (0, v), (0, (n : Int)), u4, u5, u6] [] σ = some (0, σ') := by
  intro f
  induction f with
  | zero =>
    intro n σ u4 u5 u6 hn hu F I
    have hn : n = 30 := by omega
    subst hn
    exact ⟨σ, F, I, by rw [g_196_43 hu, bLt_f (by omega)]⟩
  | succ f ih =>
    intro n σ u4 u5 u6 hn hu F I
    have h56 : u56 u5 u6 := by
      rcases hu with ⟨-, h⟩ | ⟨-, h⟩
      · exact h
      · exact Or.inr h
    obtain ⟨σ1, a, b, h1, h2, h3, h4⟩ := l_196_52 (d := d) (mx := mx) g ok E (by omega) 30 0 σ u5 u6 (by omega) h56 F I
    obtain ⟨σ2, i1, i2, i3⟩ := ih (n + 1) σ1 (0, 30) a b (by omega) (Or.inl ⟨⟨_, rfl⟩, h1⟩) h2 h3
    refine ⟨σ2, i1, i2, ?_⟩
    rw [g_196_43 hu, bLt_t (by omega), ← i3]
    exact h4
theorem l_196_2 (g : gM σ0 = V) (ok : okC V) (E : envM σ0 L H nn sl) : ∀ (f c : Nat) (σ : mM), c + f = 30 → fr [79, 80, 93] σ0 σ → (∀ p, p < c → σ 93 p = if p = s ∧ ¬ wfA L V p < v then 0 else 999) → ∃ σ', fr [79, 80, 93] σ0 σ' ∧ (∀ p, p < 30 → σ' 93 p = if p = s ∧ ¬ wfA L V p < v then 0 else 999) ∧ mgo (mcall (d + 4)) mx 196 2 [(30, 64), (0, (s : Int)), (0, v), (0, (c : Int)), (2, 0), (2, 0), (2, 0)] [] σ = mgo (mcall (d + 4)) mx 196 43 [(30, 64), (0, (s : Int)), (0, v), (0, 0), (2, 0), (2, 0), (2, 0)] [] σ' := by
  intro f
  induction f with
  | zero =>
    intro c σ hc F I
    have hc : c = 30 := by omega
    subst hc
    exact ⟨σ, F, I, by rw [f_196_2, bLt_f (by omega)]⟩
  | succ f ih =>
    intro c σ hc F I
    have step : ∀ (μ : mM) (z : Int), fr [79, 80] σ μ → z = (if c = s ∧ ¬ wfA L V c < v then 0 else 999) → ∃ σ', fr [79, 80, 93] σ0 σ' ∧ (∀ p, p < 30 → σ' 93 p = if p = s ∧ ¬ wfA L V p < v then 0 else 999) ∧ mgo (mcall (d + 4)) mx 196 34 [(30, 64), (0, (s : Int)), (0, v), (0, (c : Int)), (2, 0), (2, 0), (2, 0)] [(0, z), (0, (c : Int)), (1030, 93)] μ = mgo (mcall (d + 4)) mx 196 43 [(30, 64), (0, (s : Int)), (0, v), (0, 0), (2, 0), (2, 0), (2, 0)] [] σ' := by
      intro μ z m2 hz
      obtain ⟨σ', i1, i2, i3⟩ := ih (c + 1) (mset μ 93 c z) (by omega) (fr_s (fr_t F (fr_m m2 (by decide))) (by decide)) (fun p hp => by
        by_cases he : p = c
        · rw [he, ms_e]; exact hz
        · rw [ms_n (by omega), fr_e m2 (by decide)]; exact I p (by omega))
      exact ⟨σ', i1, i2, by rw [f_196_34, bIn_t (by omega), w32_n (by omega), tn_n]; exact i3⟩
    rw [f_196_2, bLt_t (by omega)]
    by_cases h : c = s
    · obtain ⟨μ, m1, m2⟩ := w_169 (d := d) (q := c) g ok E (by omega) F
      rw [bEq_t (by omega), m1, bK_t]
      by_cases hv : wfA L V c < v
      · rw [bLt_t hv, f_196_31]
        exact step μ 999 m2 (by rw [if_neg (fun z => z.2 hv)])
      · rw [bLt_f (by omega)]
        exact step μ 0 m2 (by rw [if_pos ⟨h, hv⟩])
    · rw [bEq_f (by omega), f_196_31]
      exact step σ 999 fr_r (by rw [if_neg (fun z => h z.1)])
theorem s_196 (hs : s < 30) (g : gM σ0 = V) (ok : okC V) (E : envM σ0 L H nn sl) (F : fr [79, 80, 93] σ0 σ) : ∃ σ', mcall (d + 5) 196 [(30, 64), (0, (s : Int)), (0, v)] σ = some (0, σ') ∧ fr [79, 80, 93] σ0 σ' ∧ MF (wfA L V) s v (σ' 93) := by
  obtain ⟨σ1, a1, a2, a3⟩ := l_196_2 (d := d) (mx := mX 196 σ) (s := s) (v := v) g ok E 30 0 σ (by omega) F (fun p hp => absurd hp (by omega))
  have I : Mi (wfA L V) s v (σ1 93) 0 0 0 := by
    have z : ∀ p, p < 30 → p ≠ s → σ1 93 p = 999 := fun p hp h => by rw [a2 p hp, if_neg (fun q => h q.1)]
    have nz : ∀ p, p < 30 → σ1 93 p = 0 → p = s := fun p hp h => by
      by_cases e : p = s
      · exact e
      · have := z p hp e; omega
    have m1 : σ1 93 s = if wfA L V s < v then 999 else 0 := by
      rw [a2 s hs]
      by_cases h : wfA L V s < v
      · rw [if_pos h, if_neg (fun z => z.2 h)]
      · rw [if_neg h, if_pos ⟨rfl, h⟩]
    refine ⟨m1, fun p hp h => Or.inl (z p hp h), fun q w p hq hw h => ?_, fun q w p hq => absurd hq (by omega), fun w' p hw => absurd hw (by omega)⟩
    exfalso
    have := a2 q hq
    split at this <;> omega
  obtain ⟨σ2, b1, b2, b3⟩ := l_196_43 (d := d) (mx := mX 196 σ) g ok E 30 0 σ1 (2, 0) (2, 0) (2, 0) (by omega) (Or.inr ⟨rfl, rfl, rfl⟩) a1 I
  refine ⟨σ2, ?_, b1, b2.m1, fun p hp h => ?_, fun q w p hq hw h => b2.m3 q w p hq hw (by omega)⟩
  · rw [f_196, ← b3]; exact a3
  · rcases b2.m2 p hp h with e | ⟨e1, e2, e3, q, w, q1, q2, q3, q4⟩
    · exact Or.inl e
    · exact Or.inr ⟨e1, by omega, e3, q, w, q1, q2, q3, q4⟩
end
