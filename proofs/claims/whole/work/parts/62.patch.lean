/-! PURE PART 42: patches, of alike -/
section
variable {K : mK} {mx : Int × Int} {σ σ0 : mM} {d n c w k : Nat} {x v1 v2 v3 v4 v5 : Int} {u u3 u4 u5 u6 : mV} {G T P : Nat → Int} {mn : Nat → Nat} {V : cV} {xs : Nat → Int} {N : Int}
theorem l_84_57 : ∀ (f q : Nat) (σ : mM) (mn : Nat → Nat), q + f = 30 → σ 35 = G → PI G (σ 36) mn q → σ 33 6 = (cnt (pB G mn) q : Int) → σ 33 7 = mxF G mn q → ∃ σ' mn', fr [33, 36, 37] σ σ' ∧ PI G (σ' 36) mn' 30 ∧ σ' 33 6 = (cnt (pB G mn') 30 : Int) ∧ σ' 33 7 = mxF G mn' 30 ∧ mgo (mcall (d + 2)) mx 84 57 [(28, 33), (21, ((2 : Nat) : Int)), (0, (q : Int))] [] σ = some (0, σ') := by
  intro f
  induction f with
  | zero =>
    intro q σ mn hq h35 I h6 h7
    have hq : q = 30 := by omega
    subst hq
    exact ⟨σ, mn, fr_r, I, h6, h7, by rw [b_84_57, bLt_f (by omega)]⟩
  | succ f ih =>
    intro q σ mn hq h35 I h6 h7
    have cl := cnt_le (f := pB G mn) (n := q)
    rw [b_84_57, bLt_t (by omega), bIn_t (by omega), tn_n, w32_n (by omega)]
    by_cases hg : 0 < G q
    · rw [bLt_t (by rw [h35]; exact hg), bIn_t (by omega)]
      by_cases hT : σ 36 q < 0
      · rw [bLt_t hT, h6, w32_n (by omega)]
        have r35 : (mset σ 33 6 ((cnt (pB G mn) q + 1 : Nat) : Int)) 35 = σ 35 := funext fun j => ms_n (by omega)
        have r36 : (mset σ 33 6 ((cnt (pB G mn) q + 1 : Nat) : Int)) 36 = σ 36 := funext fun j => ms_n (by omega)
        obtain ⟨n, σ1, a1, a2, a3⟩ := s_86 (d := d) (s := q) (σ := mset σ 33 6 ((cnt (pB G mn) q + 1 : Nat) : Int)) (by omega) (by rw [r36]; exact hT)
        rw [r35, r36, h35] at a3
        obtain ⟨b1, b2⟩ := PI_n I (by omega) hg hT a3
        obtain ⟨c1, c2⟩ := PI_c I (by omega) hg hT a3
        rw [a1, bK_t, ms_n (σ := σ) (by omega), h7]
        have z36 : (mset σ1 33 7 (if mxF G mn q < (n : Int) then (n : Int) else mxF G mn q)) 36 = σ1 36 := funext fun j => ms_n (by omega)
        obtain ⟨σ', mn', i1, i2⟩ := ih (q + 1) (mset σ1 33 7 (if mxF G mn q < (n : Int) then (n : Int) else mxF G mn q)) (mnN (σ 36) (σ1 36) mn q) (by omega) (by
          rw [← h35, ← r35]
          refine funext fun j => ?_
          rw [ms_n (by omega), fr_e a2 (by decide)]) (by rw [z36]; exact b1) (by rw [ms_n (by omega), fr_e a2 (by decide), ms_e, c1]) (by rw [ms_e, c2])
        exact ⟨σ', mn', fr_t (fr_s (fr_t (fr_s fr_r (by decide)) (fr_m a2 (by decide))) (by decide)) i1, i2⟩
      · rw [bLt_f (by omega)]
        have h2 := I.p2 q (by omega) (by omega)
        have kk := PI_k (g := G) (mn := mn) (q := q) (fun h => by have := h.2; omega)
        exact ih (q + 1) σ mn (by omega) h35 (PI_s I (Or.inr (by omega))) (by rw [h6, kk.1]) (by rw [h7, kk.2])
    · rw [bLt_f (by rw [h35]; omega)]
      have kk := PI_k (g := G) (mn := mn) (q := q) (fun h => hg h.1)
      exact ih (q + 1) σ mn (by omega) h35 (PI_s I (Or.inl (by omega))) (by rw [h6, kk.1]) (by rw [h7, kk.2])
theorem s_84 (hV : gC 2 σ = V) (ok : okC V) : ∃ σ' mn, mcall (d + 3) 84 [(28, 33), (21, 2)] σ = some (0, σ') ∧ fr [33, 35, 36, 37] σ σ' ∧ (∀ p, p < 30 → σ' 35 p = gP V p) ∧ PI (σ' 35) (σ' 36) mn 30 ∧ σ' 33 6 = (cnt (pB (σ' 35) mn) 30 : Int) ∧ σ' 33 7 = mxF (σ' 35) mn 30 := by
  obtain ⟨σ1, a1, a2, a3⟩ := s_85 (d := d + 1) (σ := mset (mset σ 33 6 0) 33 7 0)
  have F1 : fr [33, 35, 36] σ σ1 := fr_t (fr_s (fr_s fr_r (by decide)) (by decide)) (fr_m a2 (by decide))
  obtain ⟨σ2, b1, b2, b3⟩ := l_84_16 (K := mcall (d + 2)) (mx := mX 84 σ) hV ok 30 0 σ1 (by omega) F1 (fun p hp => absurd hp (by omega))
  have t36 : ∀ p, p < 30 → σ2 36 p = -1 := fun p hp => by rw [fr_e b1 (by decide), a3 p hp]
  obtain ⟨σ3, mn, c1, c2, c3, c4, c5⟩ := l_84_57 (d := d) (mx := mX 84 σ) (G := σ2 35) 30 0 σ2 (fun _ => 30) (by omega) rfl ⟨fun p hp h => by rw [t36 p hp] at h; omega, fun p hp h => by rw [t36 p hp] at h; omega, fun r w p hr _ h => by rw [t36 r hr] at h; omega, fun p hp => absurd hp (by omega), fun p hp _ => rfl⟩ (by rw [fr_e b1 (by decide), fr_e a2 (by decide), ms_n (by omega), ms_e]; rfl) (by rw [fr_e b1 (by decide), fr_e a2 (by decide), ms_e]; rfl)
  have e35 : σ3 35 = σ2 35 := c1 35 (by decide)
  refine ⟨σ3, mn, ?_, fr_t (fr_m F1 (by decide)) (fr_t (fr_m b1 (by decide)) (fr_m c1 (by decide))), fun p hp => by rw [e35]; exact b2 p hp, by rw [e35]; exact c2, by rw [e35]; exact c3, by rw [e35]; exact c4⟩
  have := e_84 (d + 2) 2 σ
  rw [a1, bK_t] at this
  exact this.trans (b3.trans c5)
/-- how it stands in a round of the model -/
abbrev Jm (G T : Nat → Int) (mn : Nat → Nat) (P : Nat → Int) (n c w : Nat) : Prop := (∀ p, p < 30 → P p ≤ (p : Int)) ∧ (∀ p, p < 30 → 0 < G p → (mn p : Int) ≤ P p) ∧ (∀ p, p < 30 → 0 < G p → T p ≤ (n : Int) → P p ≤ (mn p : Int)) ∧ (∀ p, p < c → 0 < G p → T p ≤ (n : Int) + 1 → P p ≤ (mn p : Int)) ∧ (∀ w' r : Nat, w' < w → besA c w' = (r : Int) → 0 < G c → G r = G c → T r ≤ (n : Int) → P c ≤ (mn c : Int))
theorem Jm.j0 {G T : Nat → Int} {mn : Nat → Nat} {P : Nat → Int} {n c w : Nat} (h : Jm G T mn P n c w) : ∀ p, p < 30 → P p ≤ (p : Int) := h.1
theorem Jm.j1 {G T : Nat → Int} {mn : Nat → Nat} {P : Nat → Int} {n c w : Nat} (h : Jm G T mn P n c w) : ∀ p, p < 30 → 0 < G p → (mn p : Int) ≤ P p := h.2.1
theorem Jm.j2 {G T : Nat → Int} {mn : Nat → Nat} {P : Nat → Int} {n c w : Nat} (h : Jm G T mn P n c w) : ∀ p, p < 30 → 0 < G p → T p ≤ (n : Int) → P p ≤ (mn p : Int) := h.2.2.1
theorem Jm.j3 {G T : Nat → Int} {mn : Nat → Nat} {P : Nat → Int} {n c w : Nat} (h : Jm G T mn P n c w) : ∀ p, p < c → 0 < G p → T p ≤ (n : Int) + 1 → P p ≤ (mn p : Int) := h.2.2.2.1
theorem Jm.j4 {G T : Nat → Int} {mn : Nat → Nat} {P : Nat → Int} {n c w : Nat} (h : Jm G T mn P n c w) : ∀ w' r : Nat, w' < w → besA c w' = (r : Int) → 0 < G c → G r = G c → T r ≤ (n : Int) → P c ≤ (mn c : Int) := h.2.2.2.2
theorem Jm_up {r : Nat} (I : Jm G T mn P n c w) (S : PI G T mn 30) (hc : c < 30) (hw : w < 4) (hb : besA c w = (r : Int)) (h1 : 0 < G c) (h2 : G r = G c) : Jm G T mn (upN P c (if P r < P c then P r else P c)) n c (w + 1) := by
  have r30 : r < 30 := by have := besA_lt (way := w) hc (by omega); omega
  have tc := S.p4 c hc hc h1
  have mr := (S.p3 c w r hc hw tc hb h2).2
  have le : ∀ p, upN P c (if P r < P c then P r else P c) p ≤ P p := fun p => by
    by_cases h : p = c
    · rw [h, upN_e]; split <;> omega
    · rw [upN_n h]; exact Int.le_refl _
  refine ⟨fun p hp => Int.le_trans (le p) (I.j0 p hp), fun p hp hg => ?_, fun p hp hg ht => Int.le_trans (le p) (I.j2 p hp hg ht), fun p hp hg ht => Int.le_trans (le p) (I.j3 p hp hg ht), fun w' r' hw' hb' g1 g2 g3 => ?_⟩
  · by_cases h : p = c
    · have a := I.j1 c hc h1
      have b := I.j1 r r30 (by omega)
      rw [mr] at b
      rw [h, upN_e]; split <;> omega
    · rw [upN_n h]; exact I.j1 p hp hg
  · by_cases he : w' = w
    · subst he
      have : r' = r := by omega
      subst this
      have b := I.j2 r' r30 (by omega) g3
      rw [mr] at b
      rw [upN_e]; split <;> omega
    · exact Int.le_trans (le c) (I.j4 w' r' (by omega) hb' g1 g2 g3)
theorem Jm_w (I : Jm G T mn P n c w) (h : ∀ r : Nat, besA c w = (r : Int) → 0 < G c → G r = G c → False) : Jm G T mn P n c (w + 1) :=
  ⟨I.j0, I.j1, I.j2, I.j3, fun w' r hw hb g1 g2 g3 => by
    by_cases he : w' = w
    · subst he; exact (h r hb g1 g2).elim
    · exact I.j4 w' r (by omega) hb g1 g2 g3⟩
theorem Jm_c (I : Jm G T mn P n c 4) (S : PI G T mn 30) (hc : c < 30) : Jm G T mn P n (c + 1) 0 :=
  ⟨I.j0, I.j1, I.j2, fun p hp hg ht => by
    by_cases he : p = c
    · subst he
      have tc := S.p4 p hc hc hg
      by_cases hm : p = mn p
      · have := I.j0 p hc; omega
      · obtain ⟨r, w, r1, r2, r3, r4, r5, r6⟩ := S.p2' p hc tc hm
        obtain ⟨-, w', hw', hb'⟩ := bes_sym r1 r2 r3
        have e1 := (S.p2 p hc tc).2.2.2.2.1
        have e2 := (S.p2 r r1 r4).2.2.2.2.1
        exact I.j4 w' r (by omega) hb' hg (by rw [← e2, r5, e1]) (by omega)
    · exact I.j3 p (by omega) hg ht, fun w' r hw => absurd hw (by omega)⟩
theorem Jm_n (I : Jm G T mn P n 30 0) : Jm G T mn P (n + 1) 0 0 :=
  ⟨I.j0, I.j1, fun p hp hg ht => I.j3 p hp hg (by omega), fun p hp => absurd hp (by omega), fun w' r hw => absurd hw (by omega)⟩
theorem g_198_51 (h : uvl u) : mgo K mx 198 51 [(30, 64), (0, v1), (0, v2), (0, v3), (0, v4), u, (2, 0)] [] σ =
  bLt v4 4 (bK (K 166 [(0, v3), (0, v4)] σ) (fun r1 s2 => bLt r1 0 (mgo K mx 198 127 [(30, 64), (0, v1), (0, v2), (0, v3), (0, v4), (0, r1), (2, 0)] [] s2) (bIn v3 30 (bLt 0 (s2 66 v3.toNat) (bIn r1 30 (bLt 0 (s2 66 r1.toNat) (bIn v3 30 (bIn r1 30 (bEq (s2 65 v3.toNat) (s2 65 r1.toNat) (bIn v3 30 (bIn r1 30 (bIn v3 30 (mgo K mx 198 127 [(30, 64), (0, v1), (0, v2), (0, v3), (0, v4), (0, r1), (2, 0)] [] (mset s2 94 v3.toNat (if (s2 94 r1.toNat) < (s2 94 v3.toNat) then (s2 94 r1.toNat) else (s2 94 v3.toNat))))))) (mgo K mx 198 127 [(30, 64), (0, v1), (0, v2), (0, v3), (0, v4), (0, r1), (2, 0)] [] s2)))) (mgo K mx 198 127 [(30, 64), (0, v1), (0, v2), (0, v3), (0, v4), (0, r1), (2, 0)] [] s2))) (mgo K mx 198 127 [(30, 64), (0, v1), (0, v2), (0, v3), (0, v4), (0, r1), (2, 0)] [] s2))))) (mgo K mx 198 42 [(30, 64), (0, v1), (0, v2), (0, w32 (v3 + 1)), (0, v4), u, (2, 0)] [] σ) := by
  rcases h with rfl | ⟨z, rfl⟩
  · exact f_198_51a ..
  · exact f_198_51 ..
theorem g_198_42 (h : u56 u4 u5) : mgo K mx 198 42 [(30, 64), (0, v1), (0, v2), (0, v3), u4, u5, (2, 0)] [] σ =
  bLt v3 30 (mgo K mx 198 51 [(30, 64), (0, v1), (0, v2), (0, v3), (0, 0), u5, (2, 0)] [] σ) (mgo K mx 198 34 [(30, 64), (0, v1), (0, w32 (v2 + 1)), (0, v3), u4, u5, (2, 0)] [] σ) := by
  rcases h with ⟨⟨y, rfl⟩, rfl | ⟨z, rfl⟩⟩ | ⟨rfl, rfl⟩
  · exact f_198_42a ..
  · exact f_198_42 ..
  · exact f_198_42b ..
theorem g_198_34 (h : (∃ x, u3 = (0, x)) ∧ u56 u4 u5 ∨ (u3 = (2, 0) ∧ u4 = (2, 0) ∧ u5 = (2, 0))) : mgo K mx 198 34 [(30, 64), (0, v1), (0, v2), u3, u4, u5, (2, 0)] [] σ =
  bLt v2 30 (mgo K mx 198 42 [(30, 64), (0, v1), (0, v2), (0, 0), u4, u5, (2, 0)] [] σ) (mgo K mx 198 152 [(30, 64), (0, v1), (0, 0), (0, 0), (0, 0), u5, (2, 0)] [] σ) := by
  rcases h with ⟨⟨x, rfl⟩, ⟨⟨y, rfl⟩, rfl | ⟨z, rfl⟩⟩ | ⟨rfl, rfl⟩⟩ | ⟨rfl, rfl, rfl⟩
  · exact f_198_34a ..
  · exact f_198_34 ..
  · exact f_198_34b ..
  · exact f_198_34c ..
theorem g_198_152 (h : u56 u5 u6) : mgo K mx 198 152 [(30, 64), (0, v1), (0, v2), (0, v3), (0, v4), u5, u6] [] σ =
  bLt v4 30 (bIn v4 30 (bEq (σ 66 v4.toNat) 0 (mgo K mx 198 152 [(30, 64), (0, v1), (0, v2), (0, v3), (0, w32 (v4 + 1)), u5, u6] [] σ) (bIn v4 30 (bEq (σ 94 v4.toNat) v4 (mgo K mx 198 193 [(30, 64), (0, v1), (0, w32 (v2 + 1)), (0, v3), (0, v4), (0, 0), (0, 0)] [] σ) (mgo K mx 198 152 [(30, 64), (0, v1), (0, v2), (0, v3), (0, w32 (v4 + 1)), u5, u6] [] σ))))) (bEq v1 0 (some (v2, σ)) (some (v3, σ))) := by
  rcases h with ⟨⟨y, rfl⟩, rfl | ⟨z, rfl⟩⟩ | ⟨rfl, rfl⟩
  · rw [f_198_152a, f_198_238a, f_198_253a, f_198_253a]
  · rw [f_198_152, f_198_238, f_198_253, f_198_253]
  · rw [f_198_152b, f_198_238b, f_198_253b, f_198_253b]
theorem edge {c r : Nat} (ok : okC V) (h : G c = gP V c) (h' : G r = gP V r) : (0 < V 1 c ∧ 0 < V 1 r ∧ V 0 c = V 0 r) ↔ (0 < G c ∧ G r = G c) := by
  have a := ok.2.1 c
  have b := ok.2.1 r
  rw [h, h']
  unfold gP
  split <;> split <;> omega
theorem l_198_51 (h65 : ∀ p, p < 30 → σ0 65 p = V 0 p) (h66 : ∀ p, p < 30 → σ0 66 p = V 1 p) (ok : okC V) (hG : ∀ p, p < 30 → G p = gP V p) (S : PI G T mn 30) (hc : c < 30) : ∀ (f w : Nat) (σ : mM) (u : mV), w + f = 4 → uvl u → fr [94] σ0 σ → Jm G T mn (σ 94) n c w → ∃ σ' y u', uvl u' ∧ fr [94] σ0 σ' ∧ Jm G T mn (σ' 94) n (c + 1) 0 ∧ mgo (mcall (d + 1)) mx 198 51 [(30, 64), (0, v1), (0, (n : Int)), (0, (c : Int)), (0, (w : Int)), u, (2, 0)] [] σ = mgo (mcall (d + 1)) mx 198 42 [(30, 64), (0, v1), (0, (n : Int)), (0, ((c + 1 : Nat) : Int)), (0, y), u', (2, 0)] [] σ' := by
  intro f
  induction f with
  | zero =>
    intro w σ u hw hu F I
    have hw : w = 4 := by omega
    subst hw
    exact ⟨σ, _, u, hu, F, Jm_c I S hc, by rw [g_198_51 hu, bLt_f (by omega), w32_n (by omega)]⟩
  | succ f ih =>
    intro w σ u hw hu F I
    rw [g_198_51 hu, bLt_t (by omega), s_166 hc (by omega), bK_t]
    by_cases hb : besA c w < 0
    · rw [bLt_t hb, f_198_127, w32_n (by omega)]
      exact ih (w + 1) σ _ (by omega) (Or.inr ⟨_, rfl⟩) F (Jm_w I (fun r h1 => by omega))
    · obtain ⟨r, hr⟩ : ∃ r : Nat, besA c w = (r : Int) := ⟨(besA c w).toNat, by omega⟩
      have hr30 : r < 30 := by have := besA_lt (way := w) hc (by omega); omega
      have ed := edge (G := G) ok (hG c hc) (hG r hr30)
      have c5 : σ 65 c = V 0 c := by rw [fr_e F (by decide)]; exact h65 c hc
      have c6 : σ 66 c = V 1 c := by rw [fr_e F (by decide)]; exact h66 c hc
      have r5 : σ 65 r = V 0 r := by rw [fr_e F (by decide)]; exact h65 r hr30
      have r6 : σ 66 r = V 1 r := by rw [fr_e F (by decide)]; exact h66 r hr30
      have no : ¬ (0 < V 1 c ∧ 0 < V 1 r ∧ V 0 c = V 0 r) → Jm G T mn (σ 94) n c (w + 1) := fun h => Jm_w I (fun r' h1 g1 g2 => by
        have : r' = r := by omega
        subst this
        exact h (ed.mpr ⟨g1, g2⟩))
      rw [bLt_f (by omega), hr, bIn_t (by omega), tn_n, tn_n, c6, r6, c5, r5]
      by_cases h1 : 0 < V 1 c
      · rw [bLt_t h1, bIn_t (by omega)]
        by_cases h2 : 0 < V 1 r
        · rw [bLt_t h2, bIn_t (by omega), bIn_t (by omega)]
          by_cases h3 : V 0 c = V 0 r
          · have e := ed.mp ⟨h1, h2, h3⟩
            rw [bEq_t h3, bIn_t (by omega), bIn_t (by omega), bIn_t (by omega), f_198_127, w32_n (by omega)]
            have up : (mset σ 94 c (if σ 94 r < σ 94 c then σ 94 r else σ 94 c)) 94 = upN (σ 94) c (if σ 94 r < σ 94 c then σ 94 r else σ 94 c) := by
              funext j
              by_cases h : j = c
              · rw [h, ms_e, upN_e]
              · rw [ms_n (by omega), upN_n h]
            refine ih (w + 1) _ _ (by omega) (Or.inr ⟨_, rfl⟩) (fr_s F (by decide)) ?_
            rw [up]
            exact Jm_up I S hc (by omega) hr e.1 e.2
          · rw [bEq_f h3, f_198_127, w32_n (by omega)]
            exact ih (w + 1) σ _ (by omega) (Or.inr ⟨_, rfl⟩) F (no (fun z => h3 z.2.2))
        · rw [bLt_f (by omega), f_198_127, w32_n (by omega)]
          exact ih (w + 1) σ _ (by omega) (Or.inr ⟨_, rfl⟩) F (no (fun z => h2 z.2.1))
      · rw [bLt_f (by omega), f_198_127, w32_n (by omega)]
        exact ih (w + 1) σ _ (by omega) (Or.inr ⟨_, rfl⟩) F (no (fun z => h1 z.1))
theorem l_198_42 (h65 : ∀ p, p < 30 → σ0 65 p = V 0 p) (h66 : ∀ p, p < 30 → σ0 66 p = V 1 p) (ok : okC V) (hG : ∀ p, p < 30 → G p = gP V p) (S : PI G T mn 30) (hn : n < 30) : ∀ (f c : Nat) (σ : mM) (u4 u5 : mV), c + f = 30 → u56 u4 u5 → fr [94] σ0 σ → Jm G T mn (σ 94) n c 0 → ∃ σ' u4' u5', u56 u4' u5' ∧ fr [94] σ0 σ' ∧ Jm G T mn (σ' 94) (n + 1) 0 0 ∧ mgo (mcall (d + 1)) mx 198 42 [(30, 64), (0, v1), (0, (n : Int)), (0, (c : Int)), u4, u5, (2, 0)] [] σ = mgo (mcall (d + 1)) mx 198 34 [(30, 64), (0, v1), (0, ((n + 1 : Nat) : Int)), (0, 30), u4', u5', (2, 0)] [] σ' := by
  intro f
  induction f with
  | zero =>
    intro c σ u4 u5 hc hu F I
    have hc : c = 30 := by omega
    subst hc
    exact ⟨σ, u4, u5, hu, F, Jm_n I, by rw [g_198_42 hu, bLt_f (by omega), w32_n (by omega)]; rfl⟩
  | succ f ih =>
    intro c σ u4 u5 hc hu F I
    obtain ⟨σ1, y, u', h1, h2, h3, h4⟩ := l_198_51 (d := d) (mx := mx) (v1 := v1) h65 h66 ok hG S (show c < 30 by omega) 4 0 σ u5 (by omega) (u56_6 hu) F I
    obtain ⟨σ2, a, b, i1, i2, i3, i4⟩ := ih (c + 1) σ1 (0, y) u' (by omega) (Or.inl ⟨⟨_, rfl⟩, h1⟩) h2 h3
    refine ⟨σ2, a, b, i1, i2, i3, ?_⟩
    rw [g_198_42 hu, bLt_t (by omega), ← i4]
    exact h4
theorem l_198_34 (h65 : ∀ p, p < 30 → σ0 65 p = V 0 p) (h66 : ∀ p, p < 30 → σ0 66 p = V 1 p) (ok : okC V) (hG : ∀ p, p < 30 → G p = gP V p) (S : PI G T mn 30) : ∀ (f n : Nat) (σ : mM) (u3 u4 u5 : mV), n + f = 30 → ((∃ x, u3 = (0, x)) ∧ u56 u4 u5 ∨ (u3 = (2, 0) ∧ u4 = (2, 0) ∧ u5 = (2, 0))) → fr [94] σ0 σ → Jm G T mn (σ 94) n 0 0 → ∃ σ' u5', uvl u5' ∧ fr [94] σ0 σ' ∧ Jm G T mn (σ' 94) 30 0 0 ∧ mgo (mcall (d + 1)) mx 198 34 [(30, 64), (0, v1), (0, (n : Int)), u3, u4, u5, (2, 0)] [] σ = mgo (mcall (d + 1)) mx 198 152 [(30, 64), (0, v1), (0, 0), (0, 0), (0, 0), u5', (2, 0)] [] σ' := by
  intro f
  induction f with
  | zero =>
    intro n σ u3 u4 u5 hn hu F I
    have hn : n = 30 := by omega
    subst hn
    have h5 : uvl u5 := by
      rcases hu with ⟨-, h⟩ | ⟨-, -, h⟩
      · exact u56_6 h
      · exact Or.inl h
    exact ⟨σ, u5, h5, F, I, by rw [g_198_34 hu, bLt_f (by omega)]⟩
  | succ f ih =>
    intro n σ u3 u4 u5 hn hu F I
    have h56 : u56 u4 u5 := by
      rcases hu with ⟨-, h⟩ | ⟨-, h⟩
      · exact h
      · exact Or.inr h
    obtain ⟨σ1, a, b, h1, h2, h3, h4⟩ := l_198_42 (d := d) (mx := mx) (v1 := v1) h65 h66 ok hG S (show n < 30 by omega) 30 0 σ u4 u5 (by omega) h56 F I
    obtain ⟨σ2, u', i1, i2, i3, i4⟩ := ih (n + 1) σ1 (0, 30) a b (by omega) (Or.inl ⟨⟨_, rfl⟩, h1⟩) h2 h3
    refine ⟨σ2, u', i1, i2, i3, ?_⟩
    rw [g_198_34 hu, bLt_t (by omega), ← i4]
    exact h4
theorem l_198_13 : ∀ (f q : Nat) (σ : mM), q + f = 30 → fr [94] σ0 σ → (∀ p, p < q → σ 94 p = (p : Int)) → ∃ σ', fr [94] σ0 σ' ∧ (∀ p, p < 30 → σ' 94 p = (p : Int)) ∧ mgo K mx 198 13 [(30, 64), (0, v1), (0, (q : Int)), (2, 0), (2, 0), (2, 0), (2, 0)] [] σ = mgo K mx 198 34 [(30, 64), (0, v1), (0, 0), (2, 0), (2, 0), (2, 0), (2, 0)] [] σ' := by
  intro f
  induction f with
  | zero =>
    intro q σ hq F h
    have hq : q = 30 := by omega
    subst hq
    exact ⟨σ, F, h, by rw [f_198_13, bLt_f (by omega)]⟩
  | succ f ih =>
    intro q σ hq F h
    obtain ⟨σ', i1, i2, i3⟩ := ih (q + 1) (mset σ 94 q (q : Int)) (by omega) (fr_s F (by decide)) (fun p hp => by
      by_cases he : p = q
      · rw [he, ms_e]
      · rw [ms_n (by omega)]; exact h p (by omega))
    exact ⟨σ', i1, i2, by rw [f_198_13, bLt_t (by omega), bIn_t (by omega), tn_n, w32_n (by omega)]; exact i3⟩
theorem l_198_193 (hG : ∀ p, p < 30 → (0 < G p ↔ 0 < σ 66 p)) (hP : ∀ p, p < 30 → 0 < G p → σ 94 p = (mn p : Int)) : ∀ (f q : Nat), q + f = 30 → mgo K mx 198 193 [(30, 64), (0, v1), (0, v2), (0, v3), (0, (c : Int)), (0, (cnt (szB G mn c) q : Int)), (0, (q : Int))] [] σ = mgo K mx 198 238 [(30, 64), (0, v1), (0, v2), (0, if v3 < (cnt (szB G mn c) 30 : Int) then (cnt (szB G mn c) 30 : Int) else v3), (0, (c : Int)), (0, (cnt (szB G mn c) 30 : Int)), (0, 30)] [] σ := by
  intro f
  induction f with
  | zero =>
    intro q hq
    have hq : q = 30 := by omega
    subst hq
    rw [f_198_193, bLt_f (by omega)]
    rfl
  | succ f ih =>
    intro q hq
    have cl := cnt_le (f := szB G mn c) (n := q)
    have i := ih (q + 1) (by omega)
    rw [f_198_193, bLt_t (by omega), bIn_t (by omega), tn_n]
    by_cases h1 : 0 < G q
    · rw [bLt_t ((hG q (by omega)).mp h1), bIn_t (by omega), hP q (by omega) h1]
      by_cases h2 : mn q = c
      · have e : cnt (szB G mn c) (q + 1) = cnt (szB G mn c) q + 1 := by
          show cnt (szB G mn c) q + (if szB G mn c q = true then 1 else 0) = _
          rw [if_pos (show szB G mn c q = true from decide_eq_true ⟨h1, h2⟩)]
        rw [bEq_t (by omega), f_198_225, w32_n (by omega), w32_n (by omega), ← e]
        exact i
      · have e : cnt (szB G mn c) (q + 1) = cnt (szB G mn c) q := by
          show cnt (szB G mn c) q + (if szB G mn c q = true then 1 else 0) = _
          rw [if_neg (by unfold szB; rw [decide_eq_true_eq]; omega)]
          rfl
        rw [bEq_f (by omega), f_198_225, w32_n (by omega), ← e]
        exact i
    · have e : cnt (szB G mn c) (q + 1) = cnt (szB G mn c) q := by
        show cnt (szB G mn c) q + (if szB G mn c q = true then 1 else 0) = _
        rw [if_neg (by unfold szB; rw [decide_eq_true_eq]; omega)]
        rfl
      have : ¬ 0 < σ 66 q := fun z => h1 ((hG q (by omega)).mpr z)
      rw [bLt_f (by omega), f_198_225, w32_n (by omega), ← e]
      exact i
theorem l_198_152 (hG : ∀ p, p < 30 → (0 < G p ↔ 0 < σ 66 p)) (h0 : ∀ p, p < 30 → 0 ≤ σ 66 p) (hP : ∀ p, p < 30 → 0 < G p → σ 94 p = (mn p : Int)) : ∀ (f c : Nat) (u5 u6 : mV), c + f = 30 → u56 u5 u6 → mgo K mx 198 152 [(30, 64), (0, v1), (0, (cnt (pB G mn) c : Int)), (0, mxF G mn c), (0, (c : Int)), u5, u6] [] σ = some (if v1 = 0 then (cnt (pB G mn) 30 : Int) else mxF G mn 30, σ) := by
  intro f
  induction f with
  | zero =>
    intro c u5 u6 hc hu
    have hc : c = 30 := by omega
    subst hc
    rw [g_198_152 hu, bLt_f (by omega)]
    by_cases h : v1 = 0
    · rw [bEq_t h, if_pos h]
    · rw [bEq_f h, if_neg h]
  | succ f ih =>
    intro c u5 u6 hc hu
    have cl := cnt_le (f := pB G mn) (n := c)
    have z := h0 c (by omega)
    rw [g_198_152 hu, bLt_t (by omega), bIn_t (by omega), tn_n, w32_n (by omega)]
    by_cases h1 : 0 < G c
    · have := (hG c (by omega)).mp h1
      rw [bEq_f (by omega), bIn_t (by omega), hP c (by omega) h1]
      by_cases h2 : mn c = c
      · have b : pB G mn c = true := decide_eq_true ⟨h1, h2⟩
        have e : cnt (pB G mn) (c + 1) = cnt (pB G mn) c + 1 := by
          show cnt (pB G mn) c + (if pB G mn c = true then 1 else 0) = _
          rw [if_pos b]
        have e2 : mxF G mn (c + 1) = if mxF G mn c < (cnt (szB G mn c) 30 : Int) then (cnt (szB G mn c) 30 : Int) else mxF G mn c := by
          show (if pB G mn c = true then _ else _) = _
          rw [if_pos b]
        rw [bEq_t (by omega), w32_n (by omega), ← e]
        refine (l_198_193 (c := c) hG hP 30 0 (by omega)).trans ?_
        rw [f_198_238, w32_n (by omega), ← e2]
        exact ih (c + 1) _ _ (by omega) (Or.inl ⟨⟨_, rfl⟩, Or.inr ⟨_, rfl⟩⟩)
      · have kk := PI_k (g := G) (mn := mn) (q := c) (fun h => h2 h.2)
        rw [bEq_f (by omega), ← kk.1, ← kk.2]
        exact ih (c + 1) _ _ (by omega) hu
    · have : ¬ 0 < σ 66 c := fun z => h1 ((hG c (by omega)).mpr z)
      have kk := PI_k (g := G) (mn := mn) (q := c) (fun h => h1 h.1)
      rw [bEq_t (by omega), ← kk.1, ← kk.2]
      exact ih (c + 1) _ _ (by omega) hu
theorem r_patches : cR 104 198 [(0, x)] := by
  intro d xs N k σ hk R
  have R' := R
  obtain ⟨V, L, H, n, s, b, ⟨a1, a2, a3, -⟩, -⟩ := R
  by_cases hx : 0 ≤ x ∧ x ≤ 1
  · obtain ⟨σ1, mn, b1, b2, b3, b4, b5, b6⟩ := s_84 (d := d + 36) a1 a3
    have p1 : mcall (d + 40) 104 [(29, 0), (0, x)] σ = some (if x = 0 then (cnt (pB (σ1 35) mn) 30 : Int) else mxF (σ1 35) mn 30, σ1) := by
      rw [e_104, s_126, bK_t, if_pos hx, bEq_f (by decide), b1, bK_t, b5, b6]
      by_cases h : x = 0
      · rw [bEq_t h, if_pos h]
      · rw [bEq_f h, if_neg h]
    have gm : gM σ1 = V := (gM_f b2 (by decide)).trans a2
    have h65 : ∀ p, p < 30 → σ1 65 p = V 0 p := fun p hp => by
      rw [← gm]
      show σ1 65 p = if p < 30 then σ1 65 p else 0
      rw [if_pos hp]
    have h66 : ∀ p, p < 30 → σ1 66 p = V 1 p := fun p hp => by
      rw [← gm]
      show σ1 66 p = if p < 30 then σ1 66 p else 0
      rw [if_pos hp]
    obtain ⟨σ2, c1, c2, c3⟩ := l_198_13 (σ0 := σ1) (K := mcall (d + 39)) (mx := mX 198 σ1) (v1 := x) 30 0 σ1 (by omega) fr_r (fun p hp => absurd hp (by omega))
    have J : Jm (σ1 35) (σ1 36) mn (σ2 94) 0 0 0 := by
      refine ⟨fun p hp => by rw [c2 p hp]; exact Int.le_refl _, fun p hp hg => ?_, fun p hp hg ht => ?_, fun p hp => absurd hp (by omega), fun w' r hw => absurd hw (by omega)⟩
      · have := (b4.p2 p hp (b4.p4 p hp hp hg)).2.2.1
        rw [c2 p hp]; omega
      · rw [c2 p hp]
        have tc := b4.p4 p hp hp hg
        by_cases h : p = mn p
        · omega
        · obtain ⟨r, w, r1, r2, r3, r4, r5, r6⟩ := b4.p2' p hp tc h
          omega
    obtain ⟨σ3, u5, d1, d2, d3, d4⟩ := l_198_34 (d := d + 38) (mx := mX 198 σ1) (v1 := x) h65 h66 a3 b3 b4 30 0 σ2 (2, 0) (2, 0) (2, 0) (by omega) (Or.inr ⟨rfl, rfl, rfl⟩) c1 J
    have k66 : ∀ p, p < 30 → σ3 66 p = V 1 p := fun p hp => by rw [fr_e d2 (by decide)]; exact h66 p hp
    have v1b : ∀ p, 0 ≤ V 1 p := fun p => (a3.2.2.1 p).1
    have v0b : ∀ p, 0 ≤ V 0 p := fun p => (a3.2.1 p).1
    have fin := l_198_152 (K := mcall (d + 39)) (mx := mX 198 σ1) (v1 := x) (σ := σ3) (G := σ1 35) (mn := mn) (fun p hp => by
        rw [b3 p hp, k66 p hp]
        unfold gP
        have := v0b p
        split <;> omega) (fun p hp => by rw [k66 p hp]; exact v1b p) (fun p hp hg => by
        have t := (b4.p2 p hp (b4.p4 p hp hp hg)).2.2.2.1
        have := d3.j1 p hp hg
        have := d3.j2 p hp hg (by omega)
        omega) 30 0 u5 (2, 0) (by omega) (by
        rcases d1 with rfl | ⟨z, rfl⟩
        · exact Or.inr ⟨rfl, rfl⟩
        · exact Or.inl ⟨⟨z, rfl⟩, Or.inl rfl⟩)
    refine ⟨_, σ1, σ3, p1, ?_, RR_s R' (fun a j h => ?_), b2 903 (by decide), b2 904 (by decide)⟩
    · rw [f_198, s_133, bK_t, if_pos hx, bEq_f (by decide)]
      exact c3.trans (d4.trans fin)
    · unfold SC at h
      rw [fr_e d2 (by simp only [List.mem_cons, List.not_mem_nil, or_false]; omega), fr_e b2 (by simp only [List.mem_cons, List.not_mem_nil, or_false]; omega)]
  · refine ⟨-1, σ, σ, ?_, ?_, RR_i R', rfl, rfl⟩
    · rw [e_104, s_126, bK_t, if_neg hx, bEq_t rfl]
    · rw [f_198, s_133, bK_t, if_neg hx, bEq_t rfl]
end
