/-! PURE PART 36: squares reached, in the class -/
section
variable {K : mK} {mx : Int × Int} {v1 v2 v3 v4 v5 : Int} {σ σ0 : mM} {u : mV} {d s k w n : Nat} {Q : Nat → Nat}
theorem g_86_34 (hu : uvl u) : mgo K mx 86 34 [(28, 33), (0, v1), (0, v2), (0, v3), (0, v4), (0, v5), u] [] σ =
  bLt v5 4 (bK (K 11 [(0, v4), (0, v5)] σ) (fun r1 s2 => bLt r1 0 (mgo K mx 86 34 [(28, 33), (0, v1), (0, v2), (0, v3), (0, v4), (0, w32 (v5 + 1)), (0, r1)] [] s2) (bIn r1 30 (bLt (s2 36 r1.toNat) 0 (bIn r1 30 (bIn v1 30 (bEq (s2 35 r1.toNat) (s2 35 v1.toNat) (bLt v2 30 (bIn v4 30 (bIn r1 30 (bIn v2 30 (mgo K mx 86 34 [(28, 33), (0, v1), (0, w32 (v2 + 1)), (0, v3), (0, v4), (0, w32 (v5 + 1)), (0, r1)] [] (mset (mset s2 36 r1.toNat (w32 ((s2 36 v4.toNat) + 1))) 37 v2.toNat r1))))) (mgo K mx 86 34 [(28, 33), (0, v1), (0, v2), (0, v3), (0, v4), (0, w32 (v5 + 1)), (0, r1)] [] s2)) (mgo K mx 86 34 [(28, 33), (0, v1), (0, v2), (0, v3), (0, v4), (0, w32 (v5 + 1)), (0, r1)] [] s2)))) (mgo K mx 86 34 [(28, 33), (0, v1), (0, v2), (0, v3), (0, v4), (0, w32 (v5 + 1)), (0, r1)] [] s2))))) (mgo K mx 86 18 [(28, 33), (0, v1), (0, v2), (0, w32 (v3 + 1)), (0, v4), (0, v5), u] [] σ) := by
  rcases hu with rfl | ⟨x, rfl⟩
  · exact b_86_34a K mx v1 v2 v3 v4 v5 σ
  · exact b_86_34 K mx v1 v2 v3 v4 v5 x σ
theorem Si_w (I : Si s σ0 σ Q k w n) (h : Pd s (σ0 35) (σ0 36) (σ 36) (Q k) w) : Si s σ0 σ Q k (w + 1) n :=
  ⟨I.S, I.F, I.q, I.hk, I.P, I.M, fun w' hw => by
    by_cases he : w' = w
    · rw [he]; exact h
    · exact I.W w' (by omega)⟩
theorem up_36 {r n : Nat} {v z : Int} : (mset (mset σ 36 r v) 37 n z) 36 = upN (σ 36) r v := by
  funext j
  rw [ms_n (by omega)]
  by_cases h : j = r
  · rw [h, ms_e, upN_e]
  · rw [ms_n (by omega), upN_n h]
theorem Si_up {r : Nat} (I : Si s σ0 σ Q k w n) (hw : w < 4) (hb : besA (Q k) w = (r : Int)) (hr : r < 30) (h : σ 36 r < 0) (hg : σ0 35 r = σ0 35 s) : Si s σ0 (mset (mset σ 36 r (σ 36 (Q k) + 1)) 37 n (r : Int)) (upN Q n r) k (w + 1) (n + 1) := by
  have S' := Sp_up I.S I.hk hw hb hr h hg I.M
  have hq : ∀ i, i < n → Q i ≠ r := fun i hi e => by have := (I.S.a4 i hi).2.2.1; rw [e] at this; omega
  have hk := I.hk
  have kk := (I.S.a4 k hk).2.2.1
  refine ⟨?_, fr_s (fr_s I.F (by decide)) (by decide), fun i hi => ?_, by omega, fun i hi w hw => ?_, fun j hj => ?_, fun w' hw' => ?_⟩
  · rw [up_36]; exact S'
  · by_cases he : i = n
    · rw [he, ms_e, upN_e]
    · rw [ms_n (by omega), ms_n (by omega), upN_n he]; exact I.q i (by omega)
  · rw [up_36, upN_n (f := Q) (by omega)]
    exact Pd_up h (hq i (by omega)) (I.P i hi w hw)
  · rw [up_36, upN_n (f := Q) (i := n) (j := k) (by omega), upN_n (j := Q k) (hq k hk)]
    by_cases he : j = n
    · rw [he, upN_e, upN_e]; exact Int.le_refl _
    · rw [upN_n (f := Q) he, upN_n (hq j (by omega))]; exact I.M j (by omega)
  · rw [up_36, upN_n (f := Q) (i := n) (j := k) (by omega)]
    by_cases he : w' = w
    · subst he
      intro p h1 h2 h3
      have : p = r := by rw [hb] at h1; omega
      subst this
      rw [upN_e, upN_n (hq k hk)]
      omega
    · exact Pd_up h (hq k hk) (I.W w' (by omega))
theorem l_86_34 (hs : s < 30) : ∀ (f w n : Nat) (Q : Nat → Nat) (σ : mM) (u : mV), w + f = 4 → uvl u → Si s σ0 σ Q k w n → ∃ n' Q' σ' u' x, uvl u' ∧ Si s σ0 σ' Q' k 4 n' ∧ mgo (mcall (d + 1)) mx 86 34 [(28, 33), (0, (s : Int)), (0, (n : Int)), (0, (k : Int)), (0, (Q k : Int)), (0, (w : Int)), u] [] σ = mgo (mcall (d + 1)) mx 86 18 [(28, 33), (0, (s : Int)), (0, (n' : Int)), (0, ((k + 1 : Nat) : Int)), (0, x), (0, 4), u'] [] σ' := by
  intro f
  induction f with
  | zero =>
    intro w n Q σ u hw hu I
    have hw : w = 4 := by omega
    subst hw
    have hk := I.hk
    have hn : n ≤ 30 := by rw [← I.S.a8]; exact cnt_le
    exact ⟨n, Q, σ, u, (Q k : Int), hu, I, by rw [g_86_34 hu, bLt_f (by omega), w32_n (by omega)]; rfl⟩
  | succ f ih =>
    intro w n Q σ u hw hu I
    have hk := I.hk
    have hn : n ≤ 30 := by rw [← I.S.a8]; exact cnt_le
    have e35 : σ 35 = σ0 35 := I.F 35 (by decide)
    obtain ⟨k1, k2, k3, k4, k5⟩ := I.S.a4 k hk
    rw [g_86_34 hu, bLt_t (by omega), s_11 k1 (by omega), bK_t, w32_n (by omega)]
    by_cases hb : besA (Q k) w < 0
    · rw [bLt_t hb]
      exact ih (w + 1) n Q σ _ (by omega) (Or.inr ⟨_, rfl⟩) (Si_w I (fun p h1 => by omega))
    · obtain ⟨r, hr⟩ : ∃ r : Nat, besA (Q k) w = (r : Int) := ⟨(besA (Q k) w).toNat, by omega⟩
      have hr30 : r < 30 := by have := besA_lt (way := w) k1 (by omega); omega
      have sw : (σ 36 r < 0 → σ0 35 r = σ0 35 s → False) → Si s σ0 σ Q k (w + 1) n := fun h => Si_w I (fun p h1 h2 h3 => by
        have e : p = r := by omega
        subst e
        have h0 : 0 ≤ σ 36 p := by
          by_cases hh : σ 36 p < 0
          · exact (h hh h2).elim
          · omega
        refine ⟨h0, ?_⟩
        rcases I.S.a5 p hr30 with e | ⟨i, hi, e⟩
        · omega
        · rw [← e]; exact I.M i hi)
      rw [bLt_f (by omega), hr, bIn_t (by omega), tn_n, e35]
      by_cases hT : σ 36 r < 0
      · obtain ⟨n30, -⟩ := Sp_lt I.S hr30 hT
        rw [bLt_t hT, bIn_t (by omega), bIn_t (by omega), tn_n]
        by_cases hg : σ0 35 r = σ0 35 s
        · rw [bEq_t hg, bLt_t (by omega), bIn_t (by omega), bIn_t (by omega), bIn_t (by omega), tn_n, tn_n, w32_e (x := σ 36 (Q k) + 1) (by omega), w32_n (by omega)]
          obtain ⟨n', Q', σ', u', x, h1, h2, h3⟩ := ih (w + 1) (n + 1) (upN Q n r) _ (0, (r : Int)) (by omega) (Or.inr ⟨_, rfl⟩) (Si_up I (by omega) hr hr30 hT hg)
          rw [upN_n (f := Q) (i := n) (j := k) (by omega)] at h3
          exact ⟨n', Q', σ', u', x, h1, h2, h3⟩
        · rw [bEq_f hg]
          exact ih (w + 1) n Q σ _ (by omega) (Or.inr ⟨_, rfl⟩) (sw (fun _ h => hg h))
      · rw [bLt_f (by omega)]
        exact ih (w + 1) n Q σ _ (by omega) (Or.inr ⟨_, rfl⟩) (sw (fun h _ => hT h))
/-- how it stands between two squares -/
abbrev So (s : Nat) (σ0 σ : mM) (Q : Nat → Nat) (k n : Nat) : Prop := (Sp s (σ0 35) (σ0 36) (σ 36) Q n) ∧ (fr [36, 37] σ0 σ) ∧ (∀ i, i < n → σ 37 i = (Q i : Int)) ∧ (k ≤ n) ∧ (∀ i, i < k → ∀ w, w < 4 → Pd s (σ0 35) (σ0 36) (σ 36) (Q i) w) ∧ (k < n → ∀ j, j < n → σ 36 (Q j) ≤ σ 36 (Q k) + 1)
theorem So.S {s : Nat} {σ0 σ : mM} {Q : Nat → Nat} {k n : Nat} (h : So s σ0 σ Q k n) : Sp s (σ0 35) (σ0 36) (σ 36) Q n := h.1
theorem So.F {s : Nat} {σ0 σ : mM} {Q : Nat → Nat} {k n : Nat} (h : So s σ0 σ Q k n) : fr [36, 37] σ0 σ := h.2.1
theorem So.q {s : Nat} {σ0 σ : mM} {Q : Nat → Nat} {k n : Nat} (h : So s σ0 σ Q k n) : ∀ i, i < n → σ 37 i = (Q i : Int) := h.2.2.1
theorem So.hk {s : Nat} {σ0 σ : mM} {Q : Nat → Nat} {k n : Nat} (h : So s σ0 σ Q k n) : k ≤ n := h.2.2.2.1
theorem So.P {s : Nat} {σ0 σ : mM} {Q : Nat → Nat} {k n : Nat} (h : So s σ0 σ Q k n) : ∀ i, i < k → ∀ w, w < 4 → Pd s (σ0 35) (σ0 36) (σ 36) (Q i) w := h.2.2.2.2.1
theorem So.M {s : Nat} {σ0 σ : mM} {Q : Nat → Nat} {k n : Nat} (h : So s σ0 σ Q k n) : k < n → ∀ j, j < n → σ 36 (Q j) ≤ σ 36 (Q k) + 1 := h.2.2.2.2.2
theorem g_86_18 {u4 u5 u6 : mV} (h4 : (uvl u6 ∧ ∃ x y, u4 = (0, x) ∧ u5 = (0, y)) ∨ (u4 = (2, 0) ∧ u5 = (2, 0) ∧ u6 = (2, 0))) : ∃ u', uvl u' ∧ mgo K mx 86 18 [(28, 33), (0, v1), (0, v2), (0, v3), u4, u5, u6] [] σ =
  bLt v3 v2 (bIn v3 30 (mgo K mx 86 34 [(28, 33), (0, v1), (0, v2), (0, v3), (0, σ 37 v3.toNat), (0, 0), u'] [] σ)) (some (v2, σ)) := by
  rcases h4 with ⟨rfl | ⟨z, rfl⟩, x, y, rfl, rfl⟩ | ⟨rfl, rfl, rfl⟩
  · exact ⟨_, Or.inl rfl, b_86_18a K mx v1 v2 v3 x y σ⟩
  · exact ⟨_, Or.inr ⟨_, rfl⟩, b_86_18 K mx v1 v2 v3 x y z σ⟩
  · exact ⟨_, Or.inl rfl, b_86_18b K mx v1 v2 v3 σ⟩
theorem l_86_18 (hs : s < 30) : ∀ (f k n : Nat) (Q : Nat → Nat) (σ : mM) (u4 u5 u6 : mV), k + f = 30 → ((uvl u6 ∧ ∃ x y, u4 = (0, x) ∧ u5 = (0, y)) ∨ (u4 = (2, 0) ∧ u5 = (2, 0) ∧ u6 = (2, 0))) → So s σ0 σ Q k n → ∃ n' Q' σ', So s σ0 σ' Q' n' n' ∧ mgo (mcall (d + 1)) mx 86 18 [(28, 33), (0, (s : Int)), (0, (n : Int)), (0, (k : Int)), u4, u5, u6] [] σ = some ((n' : Int), σ') := by
  intro f
  induction f with
  | zero =>
    intro k n Q σ u4 u5 u6 hk hu I
    have hn : n ≤ 30 := by rw [← I.S.a8]; exact cnt_le
    have hkn := I.hk
    have e : k = n := by omega
    subst e
    obtain ⟨u', -, e⟩ := g_86_18 (K := mcall (d + 1)) (mx := mx) (v1 := (s : Int)) (v2 := (k : Int)) (v3 := (k : Int)) (σ := σ) hu
    exact ⟨k, Q, σ, I, by rw [e, bLt_f (by omega)]⟩
  | succ f ih =>
    intro k n Q σ u4 u5 u6 hk hu I
    have hn : n ≤ 30 := by rw [← I.S.a8]; exact cnt_le
    have hkn := I.hk
    obtain ⟨u', hu', e⟩ := g_86_18 (K := mcall (d + 1)) (mx := mx) (v1 := (s : Int)) (v2 := (n : Int)) (v3 := (k : Int)) (σ := σ) hu
    by_cases h : k < n
    · rw [e, bLt_t (by omega), bIn_t (by omega), tn_n, I.q k h]
      have J : Si s σ0 σ Q k 0 n := ⟨I.S, I.F, I.q, h, I.P, I.M h, fun w' hw => absurd hw (by omega)⟩
      obtain ⟨n', Q', σ', u2, x, h1, h2, h3⟩ := l_86_34 (d := d) (mx := mx) hs 4 0 n Q σ u' (by omega) hu' J
      have hk' := h2.hk
      rw [show ((0 : Nat) : Int) = 0 from rfl] at h3
      rw [h3]
      refine ih (k + 1) n' Q' σ' _ _ _ (by omega) (Or.inl ⟨h1, _, _, rfl, rfl⟩) ⟨h2.S, h2.F, h2.q, by omega, fun i hi w hw => ?_, fun h j hj => ?_⟩
      · by_cases he : i = k
        · rw [he]; exact h2.W w hw
        · exact h2.P i (by omega) w hw
      · have := h2.S.a6 k (k + 1) (by omega) h
        have := h2.M j hj
        omega
    · have e' : k = n := by omega
      subst e'
      exact ⟨k, Q, σ, I, by rw [e, bLt_f (by omega)]⟩
/-- what a spread gives -/
abbrev Se (s : Nat) (g T0 T : Nat → Int) (n : Nat) : Prop := (T s = 0) ∧ (∀ p, p < 30 → 0 ≤ T0 p → T p = T0 p) ∧ (∀ p, p < 30 → T0 p < 0 → T p < 0 → T p = T0 p) ∧ (∀ p, p < 30 → T0 p < 0 → 0 ≤ T p → T p ≤ 29 ∧ g p = g s) ∧ (∀ p, p < 30 → p ≠ s → T0 p < 0 → 0 ≤ T p → ∃ q w, q < 30 ∧ w < 4 ∧ besA q w = (p : Int) ∧ T0 q < 0 ∧ 0 ≤ T q ∧ T p = T q + 1) ∧ (∀ q w, q < 30 → w < 4 → T0 q < 0 → 0 ≤ T q → Pd s g T0 T q w) ∧ (cnt (nwB T0 T) 30 = n)
theorem Se.b1 {s : Nat} {g T0 T : Nat → Int} {n : Nat} (h : Se s g T0 T n) : T s = 0 := h.1
theorem Se.b2 {s : Nat} {g T0 T : Nat → Int} {n : Nat} (h : Se s g T0 T n) : ∀ p, p < 30 → 0 ≤ T0 p → T p = T0 p := h.2.1
theorem Se.b3 {s : Nat} {g T0 T : Nat → Int} {n : Nat} (h : Se s g T0 T n) : ∀ p, p < 30 → T0 p < 0 → T p < 0 → T p = T0 p := h.2.2.1
theorem Se.b4 {s : Nat} {g T0 T : Nat → Int} {n : Nat} (h : Se s g T0 T n) : ∀ p, p < 30 → T0 p < 0 → 0 ≤ T p → T p ≤ 29 ∧ g p = g s := h.2.2.2.1
theorem Se.b5 {s : Nat} {g T0 T : Nat → Int} {n : Nat} (h : Se s g T0 T n) : ∀ p, p < 30 → p ≠ s → T0 p < 0 → 0 ≤ T p → ∃ q w, q < 30 ∧ w < 4 ∧ besA q w = (p : Int) ∧ T0 q < 0 ∧ 0 ≤ T q ∧ T p = T q + 1 := h.2.2.2.2.1
theorem Se.b6 {s : Nat} {g T0 T : Nat → Int} {n : Nat} (h : Se s g T0 T n) : ∀ q w, q < 30 → w < 4 → T0 q < 0 → 0 ≤ T q → Pd s g T0 T q w := h.2.2.2.2.2.1
theorem Se.b7 {s : Nat} {g T0 T : Nat → Int} {n : Nat} (h : Se s g T0 T n) : cnt (nwB T0 T) 30 = n := h.2.2.2.2.2.2
theorem s_86 (hs : s < 30) (h : σ 36 s < 0) : ∃ (n : Nat) (σ' : mM), mcall (d + 2) 86 [(28, 33), (0, (s : Int))] σ = some ((n : Int), σ') ∧ fr [36, 37] σ σ' ∧ Se s (σ 35) (σ 36) (σ' 36) n := by
  have e0 : (mset (mset σ 37 0 (s : Int)) 36 s 0) 36 = upN (σ 36) s 0 := by
    funext j
    by_cases h : j = s
    · rw [h, ms_e, upN_e]
    · rw [ms_n (by omega), ms_n (by omega), upN_n h]
  have I0 : So s σ (mset (mset σ 37 0 (s : Int)) 36 s 0) (fun _ => s) 0 1 := by
    refine ⟨?_, fr_s (fr_s fr_r (by decide)) (by decide), fun i hi => ?_, by omega, fun i hi => absurd hi (by omega), fun _ j hj => ?_⟩
    · rw [e0]
      refine ⟨by omega, rfl, upN_e, fun i hi => ?_, fun p hp => ?_, fun i j _ _ => Int.le_refl _, fun p hp hps h1 h2 => ?_, ?_⟩
      · rw [upN_e]; exact ⟨hs, h, by omega, by omega, rfl⟩
      · by_cases he : p = s
        · exact Or.inr ⟨0, by omega, he.symm⟩
        · exact Or.inl (upN_n he)
      · rw [upN_n hps] at h2; omega
      · have c := cnt_up (f := nwB (σ 36) (σ 36)) (g := nwB (σ 36) (upN (σ 36) s 0)) hs (decide_eq_false (by omega)) (decide_eq_true ⟨h, by rw [upN_e]; omega⟩) (fun i hi hn => by unfold nwB; rw [upN_n hn])
        have z : ∀ m, cnt (nwB (σ 36) (σ 36)) m = 0 := by
          intro m
          induction m with
          | zero => rfl
          | succ m ih =>
            show cnt (nwB (σ 36) (σ 36)) m + (if nwB (σ 36) (σ 36) m = true then 1 else 0) = 0
            have : nwB (σ 36) (σ 36) m = false := decide_eq_false (by omega)
            rw [ih, this, if_neg (by decide)]
        rw [c, z]
    · have : i = 0 := by omega
      subst this
      rw [ms_n (by omega), ms_e]
    · show (mset (mset σ 37 0 (s : Int)) 36 s 0) 36 s ≤ (mset (mset σ 37 0 (s : Int)) 36 s 0) 36 s + 1
      omega
  obtain ⟨n', Q', σ', J, e⟩ := l_86_18 (d := d) (mx := mX 86 σ) hs 30 0 1 (fun _ => s) _ (2, 0) (2, 0) (2, 0) (by omega) (Or.inr ⟨rfl, rfl, rfl⟩) I0
  refine ⟨n', σ', ?_, J.F, J.S.a3, fun p hp h0 => ?_, fun p hp h0 h1 => ?_, fun p hp h0 h1 => ?_, J.S.a7, fun q w hq hw h0 h1 => ?_, J.S.a8⟩
  · rw [e_86, bIn_t (by omega), bIn_t (by omega), tn_n]
    exact e
  · rcases J.S.a5 p hp with e | ⟨i, hi, e⟩
    · exact e
    · have := (J.S.a4 i hi).2.1; rw [e] at this; omega
  · rcases J.S.a5 p hp with e | ⟨i, hi, e⟩
    · exact e
    · have := (J.S.a4 i hi).2.2.1; rw [e] at this; omega
  · have hn : n' ≤ 30 := by rw [← J.S.a8]; exact cnt_le
    rcases J.S.a5 p hp with e | ⟨i, hi, e⟩
    · omega
    · obtain ⟨-, -, -, c1, c2⟩ := J.S.a4 i hi
      rw [e] at c1 c2
      exact ⟨by omega, c2⟩
  · rcases J.S.a5 q hq with e | ⟨i, hi, e⟩
    · omega
    · rw [← e]; exact J.P i hi w hw
end
