/-! PURE PART 30: houses; numbers told -/
section
variable {d n b k : Nat} {σ τ : mM} {V : cV} {L : List (List Int × List Int)} {H : Nat → Nat → Int} {s : Int} {xs : Nat → Int} {N : Int}
theorem r_houses {x i m : Int} (hi : -2147483648 ≤ i ∧ i < 2147483648) : cR 89 140 [(0, x), (0, i), (0, m)] := by
  intro d xs N k σ hk R
  have R' := R
  obtain ⟨V, L, H, n, s, b, -, ⟨e1, e2, e3, e4⟩, -, -, ⟨vh, l, B, st, s1, s2, s3⟩, -, -, ⟨k9, -⟩⟩ := R
  have sm : ∀ r : Int, mcall (d + 40) 89 [(29, 0), (0, x), (0, i), (0, m)] σ = some (r, σ) → mcall (d + 40) 140 [(30, 64), (0, x), (0, i), (0, m)] σ = some (r, σ) → ∃ r σ1 σ2, mcall (d + 40) 89 [(29, 0), (0, x), (0, i), (0, m)] σ = some (r, σ1) ∧ mcall (d + 40) 140 [(30, 64), (0, x), (0, i), (0, m)] σ1 = some (r, σ2) ∧ RR xs N (k + 1) σ2 ∧ σ1 903 = σ 903 ∧ σ1 904 = σ 904 := fun r h1 h2 => ⟨r, σ, σ, h1, h2, RR_i R', rfl, rfl⟩
  by_cases h1 : 0 ≤ x ∧ x < 6
  · by_cases h2 : 1 ≤ m ∧ m ≤ 8
    · obtain ⟨p, hp⟩ : ∃ i : Nat, x = (i : Int) := ⟨x.toNat, by omega⟩
      obtain ⟨M, hM⟩ : ∃ i : Nat, m = (i : Int) := ⟨m.toNat, by omega⟩
      subst hp hM
      obtain ⟨c1, c2, c3, c4, c5⟩ := sh_re (i := 0) s2 h1
      rw [tn_n] at c1 c2 c3 c4 c5
      obtain ⟨a1, a2, a3, a4, a5⟩ := s1 p (by omega)
      obtain ⟨b1, b2, b3, b4⟩ := s2 p (by omega)
      by_cases h3 : vh p = -2
      · refine sm 0 ?_ ?_
        · rw [e_89, s_128, bK_t, if_pos h1, bEq_f (by omega), bLt_f (by omega), bLt_f (by omega), bIn_t (by omega), shx, tn_n, a1, bEq_t h3, b_89_53, bLt_t (by omega)]
          have z : mcall (d + 39) 129 [(29, 0), (23, ((47 + 2 * p : Nat) : Int)), (0, i), (0, 0)] σ = some (0, σ) := by
            rw [e_129, a1, a2]
            by_cases q1 : i < 0
            · rw [bLt_t q1, bIn_t (by omega)]
            · rw [bLt_f (by omega)]
              by_cases q2 : i < w32 ((w32 ((l p : Int) - (w32 (3 * 0)))) - 2)
              · rw [bLt_t q2, bEq_f (fun q => by rw [h3] at q; cases q), bIn_t (by decide)]
              · rw [bLt_f (Int.not_lt.mp q2), bIn_t (by decide)]
          rw [z, bK_t, bEq_t (by rfl)]
        · rw [f_140, s_137, bK_t, if_pos h1, bEq_f (by omega), s_133, bK_t, if_pos h2, bEq_f (by omega), bIn_t (by omega), tn_n p, bEq_t (c1.mpr h3)]
      · by_cases h4 : vh p = 1
        · have h6 : ∀ t, t < l p → -32768 ≤ B p t ∧ B p t ≤ 32767 := fun t ht => (b4 t ht).2.2 h4
          obtain ⟨μ, m1, m2, m3⟩ := s_89l (d := d + 37) (M := M) (i := i) (mx := mX 89 σ) (by omega : p < 6) (by omega) h4 a3 h6 M 0 n H σ (by omega) a1 a2 a4 k9 e1
          have e2' : envM μ L H n s := envM_g (fun a ha => funext fun j => m3 a j (by omega)) (m3 _ _ (by omega)) (m3 _ _ (by omega)) (m3 _ _ (by omega)) (m3 _ _ (by omega)) e2
          obtain ⟨ν, n1, n2, n3⟩ := s_140l (d := d + 37) (M := M) (i := i) (mx := mX 140 μ) (by omega : p < 6) (by omega) hi a3 h6 M 0 n H (2, 0) (2, 0) μ (by omega) (Or.inr rfl) (Or.inl ⟨rfl, rfl⟩) ((m3 _ _ (by omega)).trans b2) (fun t ht => (m3 _ _ (by omega)).trans (b4 t ht).1) e2'
          refine ⟨(hsC (B p) (l p) i M 0 n : Int), μ, ν, ?_, ?_, RR_2 (n' := hsN (B p) (l p) i M 0 n) R' (fun a j h => ?_) (fun n0 h0 => ?_) ⟨?_, n2, ?_, e4⟩, funext fun j => m3 _ _ (by omega), funext fun j => m3 _ _ (by omega)⟩
          · rw [e_89, s_128, bK_t, if_pos h1, bEq_f (by omega), bLt_f (by omega), bLt_f (by omega), bIn_t (by omega), shx, tn_n, a1, bEq_f h3, bEq_t h4]
            exact m1
          · have q87 : μ 87 = σ 87 := funext fun j => m3 _ _ (by omega)
            rw [f_140, s_137, bK_t, if_pos h1, bEq_f (by omega), s_133, bK_t, if_pos h2, bEq_f (by omega), bIn_t (by omega), tn_n p, q87, bEq_f (fun z => h3 (c1.mp z)), bIn_t (by omega), c5 (by omega), bEq_t h4]
            exact n1
          · unfold P2 SC at h
            rw [n3 a j (by omega), m3 a j (by omega)]
          · have := hsN_le (B := B p) (l := l p) (i := i) M 0 n
            have := e1.2.1
            omega
          · exact envC_g (fun a ha => funext fun j => n3 a j (by omega)) m2
          · rw [n3 1 6 (by omega), n3 1 7 (by omega), m3 1 6 (by omega), m3 1 7 (by omega)]; exact e3
        · refine sm (-12) ?_ ?_
          · rw [e_89, s_128, bK_t, if_pos h1, bEq_f (by omega), bLt_f (by omega), bLt_f (by omega), bIn_t (by omega), shx, tn_n, a1, bEq_f h3, bEq_f h4]
          · rw [f_140, s_137, bK_t, if_pos h1, bEq_f (by omega), s_133, bK_t, if_pos h2, bEq_f (by omega), bIn_t (by omega), tn_n p, bEq_f (fun z => h3 (c1.mp z)), bIn_t (by omega), bEq_f (by omega)]
    · refine sm (-1) ?_ ?_
      · rw [e_89, s_128, bK_t, if_pos h1, bEq_f (by omega)]
        by_cases h3 : m < 1
        · rw [bLt_t h3]
        · rw [bLt_f (by omega), bLt_t (by omega)]
      · rw [f_140, s_137, bK_t, if_pos h1, bEq_f (by omega), s_133, bK_t, if_neg h2, bEq_t (by rfl), f_140_17]
  · refine sm (-1) ?_ ?_
    · rw [e_89, s_128, bK_t, if_neg h1, bEq_t (by rfl)]
    · rw [f_140, s_137, bK_t, if_neg h1, bEq_t (by rfl), f_140_17]
/-! numbers told -/
def vU (V : cV) (num what : Nat) (v : Int) : cV := if what ≤ 2 then up V what num v else if what = 6 then up V 3 0 v else V
def hU (H : Nat → Nat → Int) (num what : Nat) (v : Int) : Nat → Nat → Int := if 3 ≤ what ∧ what ≤ 5 then (fun k i => if k = what - 3 ∧ i = num then v else H k i) else H
def sU (s : Int) (what : Nat) (v : Int) : Int := if what = 7 then v else s
def okP (n num what : Nat) (v : Int) : Prop := what ≤ 7 ∧ (what ≤ 2 → num < 30) ∧ (3 ≤ what ∧ what ≤ 5 → num < n) ∧ (6 ≤ what → num = 0) ∧ (what ≠ 4 → what ≠ 5 → 0 ≤ v ∧ v ≤ mC0 what)
def nvA (V : cV) (H : Nat → Nat → Int) (s : Int) (num what : Nat) : Int := if what ≤ 2 then V what num else if what ≤ 5 then H (what - 3) num else if what = 6 then V 3 0 else s
theorem vU_3 {num what : Nat} {v : Int} : vU V num what v 3 1 = V 3 1 := by
  unfold vU
  repeat' split
  · exact up_o (by omega)
  · exact up_o (by omega)
  · rfl
theorem okC_vU {num what : Nat} {v : Int} (ok : okC V) (h : okP n num what v) : okC (vU V num what v) := by
  obtain ⟨h1, h2, h3, h4, hb⟩ := h
  unfold vU
  rcases (by omega : what = 0 ∨ what = 1 ∨ what = 2 ∨ what = 3 ∨ what = 4 ∨ what = 5 ∨ what = 6 ∨ what = 7) with rfl | rfl | rfl | rfl | rfl | rfl | rfl | rfl
  · have : v ≤ 4 := (hb (by omega) (by omega)).2
    exact okC_0 ok (h2 (by omega)) ⟨(hb (by omega) (by omega)).1, this⟩
  · have : v ≤ 9 := (hb (by omega) (by omega)).2
    exact okC_1 ok (h2 (by omega)) ⟨(hb (by omega) (by omega)).1, this⟩
  · have : v ≤ 12 := (hb (by omega) (by omega)).2
    exact okC_2 ok (h2 (by omega)) ⟨(hb (by omega) (by omega)).1, this⟩
  · exact ok
  · exact ok
  · exact ok
  · have : v ≤ 11 := (hb (by omega) (by omega)).2
    exact okC_33 ok ⟨(hb (by omega) (by omega)).1, this⟩
  · exact ok
theorem s_41e {num what : Nat} (g : gC 2 σ = V) (E : envC σ L H n s) (h1 : what ≤ 7) (h2 : what ≤ 2 → num < 30) (h3 : 3 ≤ what ∧ what ≤ 5 → num < n) : mcall (d + 2) 41 [(24, 1), (0, (num : Int)), (0, (what : Int))] σ = some (nvA V H s num what, σ) := by
  obtain ⟨-, -, e3, e4, e5⟩ := E
  rw [e_41]
  rcases (by omega : what = 0 ∨ what = 1 ∨ what = 2 ∨ what = 3 ∨ what = 4 ∨ what = 5 ∨ what = 6 ∨ what = 7) with rfl | rfl | rfl | rfl | rfl | rfl | rfl | rfl
  · have z : mcall (d + 1) 7 [(21, 2), (0, (num : Int)), (0, ((0 : Nat) : Int))] σ = some (V 0 num, σ) := s_7 (d := d) (c := 2) g (h2 (by omega)) (by omega)
    rw [bEq_f (by omega), bEq_f (by omega), bEq_f (by omega), bEq_f (by omega), bEq_f (by omega), z, bK_t]; rfl
  · have z : mcall (d + 1) 7 [(21, 2), (0, (num : Int)), (0, ((1 : Nat) : Int))] σ = some (V 1 num, σ) := s_7 (d := d) (c := 2) g (h2 (by omega)) (by omega)
    rw [bEq_f (by omega), bEq_f (by omega), bEq_f (by omega), bEq_f (by omega), bEq_f (by omega), z, bK_t]; rfl
  · have z : mcall (d + 1) 7 [(21, 2), (0, (num : Int)), (0, ((2 : Nat) : Int))] σ = some (V 2 num, σ) := s_7 (d := d) (c := 2) g (h2 (by omega)) (by omega)
    rw [bEq_f (by omega), bEq_f (by omega), bEq_f (by omega), bEq_f (by omega), bEq_f (by omega), z, bK_t]; rfl
  · have hn := h3 (by omega)
    rw [bEq_t (by rfl), bIn_t (by omega), tn_n, (e4 num hn).1]; rfl
  · have hn := h3 (by omega)
    rw [bEq_f (by omega), bEq_t (by rfl), bIn_t (by omega), tn_n, (e4 num hn).2.1]; rfl
  · have hn := h3 (by omega)
    rw [bEq_f (by omega), bEq_f (by omega), bEq_t (by rfl), bIn_t (by omega), tn_n, (e4 num hn).2.2.1]; rfl
  · rw [bEq_f (by omega), bEq_f (by omega), bEq_f (by omega), bEq_t (by rfl), gC_3 (c := 2) g]; rfl
  · rw [bEq_f (by omega), bEq_f (by omega), bEq_f (by omega), bEq_f (by omega), bEq_t (by rfl), e5]; rfl
theorem w8w {w num : Nat} (hw : w ≤ 2) (hn : num < 8) : w32 ((w32 (8 * (w32 (((w + 3 : Nat) : Int) - 3)))) + (num : Int)) = ((8 * w + num : Nat) : Int) := by rw [w32_e (x := ((w + 3 : Nat) : Int) - 3) (by omega), w32_e (x := 8 * (((w + 3 : Nat) : Int) - 3)) (by omega), w32_e (by omega)]; omega
theorem s_144e {num what : Nat} (g : gM σ = V) (E : envM σ L H n s) (h1 : what ≤ 7) (h2 : what ≤ 2 → num < 30) (h3 : 3 ≤ what ∧ what ≤ 5 → num < n) : mcall (d + 1) 144 [(30, 64), (0, (num : Int)), (0, (what : Int))] σ = some (nvA V H s num what, σ) := by
  obtain ⟨-, -, -, e3, e4, e5⟩ := E
  by_cases hw : what ≤ 2
  · rw [s_144 g (h2 hw) (by omega)]
    unfold nvA
    rw [if_pos hw]
  · rw [e_144]
    rcases (by omega : what = 3 ∨ what = 4 ∨ what = 5 ∨ what = 6 ∨ what = 7) with rfl | rfl | rfl | rfl | rfl
    · have hn := h3 (by omega)
      rw [bEq_f (by omega), bEq_f (by omega), bEq_f (by omega), bEq_t (by rfl), w8w (w := 0) (by omega) (by omega), bIn_t (by omega), tn_n, show 8 * 0 + num = num by omega, (e4 num hn).1]; rfl
    · have hn := h3 (by omega)
      rw [bEq_f (by omega), bEq_f (by omega), bEq_f (by omega), bEq_f (by omega), bEq_t (by rfl), w8w (w := 1) (by omega) (by omega), bIn_t (by omega), tn_n, show 8 * 1 + num = 8 + num by omega, (e4 num hn).2.1]; rfl
    · have hn := h3 (by omega)
      rw [bEq_f (by omega), bEq_f (by omega), bEq_f (by omega), bEq_f (by omega), bEq_f (by omega), bEq_t (by rfl), w8w (w := 2) (by omega) (by omega), bIn_t (by omega), tn_n, show 8 * 2 + num = 16 + num by omega, (e4 num hn).2.2.1]; rfl
    · rw [bEq_f (by omega), bEq_f (by omega), bEq_f (by omega), bEq_f (by omega), bEq_f (by omega), bEq_f (by omega), show w32 (((6 : Nat) : Int) - 6) = 0 from rfl, bIn_t (by omega), show ((0 : Int)).toNat = 0 from rfl, gM_3 g]; rfl
    · rw [bEq_f (by omega), bEq_f (by omega), bEq_f (by omega), bEq_f (by omega), bEq_f (by omega), bEq_f (by omega), show w32 (((7 : Nat) : Int) - 6) = 1 from rfl, bIn_t (by omega), show ((1 : Int)).toNat = 1 from rfl, e5]; rfl
theorem s_42e {num what : Nat} {v : Int} (g : gC 2 σ = V) (ok : okC V) (E : envC σ L H n s) (h : okP n num what v) : ∃ μ, mcall (d + 2) 42 [(24, 1), (0, (num : Int)), (0, (what : Int)), (0, v)] σ = some (0, μ) ∧ gC 2 μ = vU V num what v ∧ envC μ L (hU H num what v) n (sU s what v) ∧ ∀ a j, ¬ ((2 ≤ a ∧ a ≤ 5) ∨ (7 ≤ a ∧ a ≤ 9) ∨ (a = 1 ∧ j = 5)) → μ a j = σ a j := by
  have okv := okC_vU (V := V) ok h
  obtain ⟨h1, h2, h3, h4, hb⟩ := h
  have E' := E
  obtain ⟨⟨w, e0, e1, e2⟩, eh, e3, e4, e5⟩ := E
  have cov : ∀ μ, gC 2 μ = vU V num what v → vU V num what v 3 1 = V 3 1 → fr [2, 3, 4, 5, 6] σ μ → (∀ j, j ≠ 0 → μ 6 j = σ 6 j) → hU H num what v = H → sU s what v = s → gC 2 μ = vU V num what v ∧ envC μ L (hU H num what v) n (sU s what v) ∧ ∀ a j, ¬ ((2 ≤ a ∧ a ≤ 5) ∨ (7 ≤ a ∧ a ≤ 9) ∨ (a = 1 ∧ j = 5)) → μ a j = σ a j := by
    intro μ q1 q2 q3 q4 q5 q6
    refine ⟨q1, by rw [q5, q6]; exact envC_f q3 (by decide) E', fun a j hn => ?_⟩
    by_cases ha : a = 6
    · subst ha
      by_cases hj : j = 0
      · subst hj
        have y1 : μ 6 0 = vU V num what v 3 1 := gC_4 (c := 2) q1
        have y2 : σ 6 0 = V 3 1 := gC_4 (c := 2) g
        rw [y1, y2, q2]
      · exact q4 j hj
    · exact fr_e q3 (by simp; omega) j
  have c8 : ∀ kk : Nat, kk = what → kk ≤ 2 → ∃ μ, mcall (d + 1) 8 [(21, 2), (0, (num : Int)), (0, (kk : Int)), (0, v)] σ = some (0, μ) ∧ gC 2 μ = vU V num what v ∧ envC μ L (hU H num what v) n (sU s what v) ∧ ∀ a j, ¬ ((2 ≤ a ∧ a ≤ 5) ∨ (7 ≤ a ∧ a ≤ 9) ∨ (a = 1 ∧ j = 5)) → μ a j = σ a j := by
    intro kk hk hk2
    subst hk
    have eU : vU V num kk v = up V kk num v := if_pos hk2
    rw [eU] at okv
    obtain ⟨μ, m1, m2, m3, m4⟩ := s_8 (d := d) (c := 2) (v := v) g okv (by omega) (h2 hk2)
    exact ⟨μ, m1, cov μ (by rw [eU]; exact m2) vU_3 m3 m4 (if_neg (by omega)) (if_neg (by omega))⟩
  have hh : ∀ (c : Nat) (μ : mM), (c = 7 ∨ c = 8 ∨ c = 9) → what = c - 4 → μ = mset σ c num v → gC 2 μ = vU V num what v ∧ envC μ L (hU H num what v) n (sU s what v) ∧ ∀ a j, ¬ ((2 ≤ a ∧ a ≤ 5) ∨ (7 ≤ a ∧ a ≤ 9) ∨ (a = 1 ∧ j = 5)) → μ a j = σ a j := by
    intro c μ hc hw hμ
    subst hμ
    have q : ∀ a j, a ≠ c → mset σ c num v a j = σ a j := fun a j ha => ms_n (Or.inl ha)
    refine ⟨?_, ⟨⟨w, e0, (q 1 6 (by omega)).trans e1, lawC_g (funext fun j => q _ _ (by omega)) (funext fun j => q _ _ (by omega)) (funext fun j => q _ _ (by omega)) (funext fun j => q _ _ (by omega)) (funext fun j => q _ _ (by omega)) e2⟩, (q 1 4 (by omega)).trans eh, e3, fun i hi => ?_, ?_⟩, fun a j hn => q a j (by omega)⟩
    · rw [show vU V num what v = V from (if_neg (by omega)).trans (if_neg (by omega)), ← g]
      exact gL_cg (funext fun j => q _ _ (by omega)) (funext fun j => q _ _ (by omega)) (funext fun j => q _ _ (by omega)) (q _ _ (by omega)) (q _ _ (by omega))
    · obtain ⟨y1, y2, y3, y4, y5⟩ := e4 i hi
      have eH : hU H num what v = fun k i => if k = what - 3 ∧ i = num then v else H k i := if_pos (by omega)
      rw [eH]
      have gen : ∀ kk : Nat, mset σ c num v (7 + kk) i = (if kk = what - 3 ∧ i = num then v else H kk i) ↔ (kk = what - 3 ∧ i = num) ∨ σ (7 + kk) i = H kk i := by
        intro kk
        by_cases hq : kk = what - 3 ∧ i = num
        · rw [if_pos hq, hq.2, show 7 + kk = c by omega, ms_e]
          exact ⟨fun _ => Or.inl ⟨hq.1, rfl⟩, fun _ => rfl⟩
        · rw [if_neg hq, ms_n (by omega)]
          exact ⟨fun z => Or.inr z, fun z => z.resolve_left hq⟩
      refine ⟨(gen 0).mpr (Or.inr y1), (gen 1).mpr (Or.inr y2), (gen 2).mpr (Or.inr y3), ?_, ?_⟩
      · show 0 ≤ (if (0 : Nat) = what - 3 ∧ i = num then v else H 0 i)
        split
        · next hq => exact (hb (by omega) (by omega)).1
        · exact y4
      · show (if (0 : Nat) = what - 3 ∧ i = num then v else H 0 i) < 30
        split
        · next hq =>
          have : what = 3 := by omega
          subst this
          have : v ≤ 29 := (hb (by omega) (by omega)).2
          omega
        · exact y5
    · rw [show sU s what v = s from if_neg (by omega)]; exact (q 1 5 (by omega)).trans e5
  rw [e_42]
  rcases (by omega : what = 0 ∨ what = 1 ∨ what = 2 ∨ what = 3 ∨ what = 4 ∨ what = 5 ∨ what = 6 ∨ what = 7) with rfl | rfl | rfl | rfl | rfl | rfl | rfl | rfl
  · obtain ⟨μ, m1, m2⟩ := c8 0 rfl (by omega)
    rw [bEq_f (by omega), bEq_f (by omega), bEq_f (by omega), bEq_f (by omega), bEq_f (by omega), m1, bK_t]
    exact ⟨μ, rfl, m2⟩
  · obtain ⟨μ, m1, m2⟩ := c8 1 rfl (by omega)
    rw [bEq_f (by omega), bEq_f (by omega), bEq_f (by omega), bEq_f (by omega), bEq_f (by omega), m1, bK_t]
    exact ⟨μ, rfl, m2⟩
  · obtain ⟨μ, m1, m2⟩ := c8 2 rfl (by omega)
    rw [bEq_f (by omega), bEq_f (by omega), bEq_f (by omega), bEq_f (by omega), bEq_f (by omega), m1, bK_t]
    exact ⟨μ, rfl, m2⟩
  · have hn := h3 (by omega)
    rw [bEq_t (by rfl), bIn_t (by omega), tn_n]
    exact ⟨_, rfl, hh 7 _ (by omega) (by omega) rfl⟩
  · have hn := h3 (by omega)
    rw [bEq_f (by omega), bEq_t (by rfl), bIn_t (by omega), tn_n]
    exact ⟨_, rfl, hh 8 _ (by omega) (by omega) rfl⟩
  · have hn := h3 (by omega)
    rw [bEq_f (by omega), bEq_f (by omega), bEq_t (by rfl), bIn_t (by omega), tn_n]
    exact ⟨_, rfl, hh 9 _ (by omega) (by omega) rfl⟩
  · rw [bEq_f (by omega), bEq_f (by omega), bEq_f (by omega), bEq_t (by rfl)]
    obtain ⟨μ, m1, m2, m3, m4⟩ := opC (c := 2) (V := V) (V' := up V 3 0 v) (f := fun S => some (0, mset S 2 4 v)) g okv.1 (by
      have := uL_4 (V := V) (σ := σ) (v := v) (dC 2)
      exact congrArg (fun τ : mM => some ((0 : Int), τ)) this)
    exact ⟨μ, m1, cov μ m2 vU_3 m3 m4 rfl rfl⟩
  · rw [bEq_f (by omega), bEq_f (by omega), bEq_f (by omega), bEq_f (by omega), bEq_t (by rfl)]
    have q : ∀ a j, ¬ (a = 1 ∧ j = 5) → mset σ 1 5 v a j = σ a j := fun a j ha => ms_n (by omega)
    refine ⟨_, rfl, ?_, ⟨⟨w, e0, (q 1 6 (by omega)).trans e1, lawC_g (funext fun j => q _ _ (by omega)) (funext fun j => q _ _ (by omega)) (funext fun j => q _ _ (by omega)) (funext fun j => q _ _ (by omega)) (funext fun j => q _ _ (by omega)) e2⟩, (q 1 4 (by omega)).trans eh, e3, fun i hi => ?_, ms_e⟩, fun a j hn => q a j (by omega)⟩
    · rw [show vU V num 7 v = V from rfl, ← g]
      exact gL_cg (funext fun j => q _ _ (by omega)) (funext fun j => q _ _ (by omega)) (funext fun j => q _ _ (by omega)) (q _ _ (by omega)) (q _ _ (by omega))
    · rw [q 7 i (by omega), q 8 i (by omega), q 9 i (by omega)]
      exact e4 i hi
theorem s_145e {num what : Nat} {v : Int} (g : gM σ = V) (ok : okC V) (E : envM σ L H n s) (h : okP n num what v) : ∃ μ, mcall (d + 1) 145 [(30, 64), (0, (num : Int)), (0, (what : Int)), (0, v)] σ = some (0, μ) ∧ gM μ = vU V num what v ∧ envM μ L (hU H num what v) n (sU s what v) ∧ ∀ a j, ¬ ((65 ≤ a ∧ a ≤ 68) ∨ (a = 69 ∧ j ≤ 1)) → μ a j = σ a j := by
  have okv := okC_vU (V := V) ok h
  obtain ⟨h1, h2, h3, h4, hb⟩ := h
  have E' := E
  obtain ⟨e0, e1, e2, e3, e4, e5⟩ := E
  have cov : ∀ μ, gM μ = vU V num what v → vU V num what v 3 1 = V 3 1 → fm [] σ μ → hU H num what v = H → sU s what v = s → gM μ = vU V num what v ∧ envM μ L (hU H num what v) n (sU s what v) ∧ ∀ a j, ¬ ((65 ≤ a ∧ a ≤ 68) ∨ (a = 69 ∧ j ≤ 1)) → μ a j = σ a j := by
    intro μ q1 q2 q3 q5 q6
    refine ⟨q1, by rw [q5, q6]; exact envM_f q3 (by simp) E', fun a j hn => ?_⟩
    by_cases ha : a = 64 ∧ j = 6
    · obtain ⟨rfl, rfl⟩ := ha
      have y1 : μ 64 6 = vU V num what v 3 1 := gM_4 q1
      have y2 : σ 64 6 = V 3 1 := gM_4 g
      rw [y1, y2, q2]
    · exact q3 a j (by simp) (by omega) (by omega) (by omega) (by omega) ha
  by_cases hw : what ≤ 2
  · have eU : vU V num what v = up V what num v := if_pos hw
    rw [eU] at okv
    obtain ⟨μ, m1, m2, m3⟩ := s_145 (d := d) (v := v) g okv (by omega) (h2 hw)
    exact ⟨μ, m1, cov μ (by rw [eU]; exact m2) vU_3 m3 (if_neg (by omega)) (if_neg (by omega))⟩
  · have hh : ∀ (w : Nat) (μ : mM), w ≤ 2 → what = w + 3 → num < 8 → μ = mset σ 68 (8 * w + num) v → gM μ = vU V num what v ∧ envM μ L (hU H num what v) n (sU s what v) ∧ ∀ a j, ¬ ((65 ≤ a ∧ a ≤ 68) ∨ (a = 69 ∧ j ≤ 1)) → μ a j = σ a j := by
      intro w μ hc hwx hnum hμ
      subst hμ
      have q : ∀ a j, a ≠ 68 → mset σ 68 (8 * w + num) v a j = σ a j := fun a j ha => ms_n (Or.inl ha)
      refine ⟨?_, ⟨lawM_g (q _ _ (by omega)) (funext fun j => q _ _ (by omega)) (funext fun j => q _ _ (by omega)) (funext fun j => q _ _ (by omega)) (funext fun j => q _ _ (by omega)) e0, (q _ _ (by omega)).trans e1, (q _ _ (by omega)).trans e2, e3, fun i hi => ?_, ?_⟩, fun a j hn => q a j (by omega)⟩
      · rw [show vU V num what v = V from (if_neg (by omega)).trans (if_neg (by omega)), ← g]
        exact gL_cg (funext fun j => q _ _ (by omega)) (funext fun j => q _ _ (by omega)) (funext fun j => q _ _ (by omega)) (q _ _ (by omega)) (q _ _ (by omega))
      · obtain ⟨y1, y2, y3, y4, y5⟩ := e4 i hi
        have eH : hU H num what v = fun k i => if k = what - 3 ∧ i = num then v else H k i := if_pos (by omega)
        rw [eH]
        have gen : ∀ kk j : Nat, kk ≤ 2 → j = 8 * kk + i → (mset σ 68 (8 * w + num) v 68 j = (if kk = what - 3 ∧ i = num then v else H kk i) ↔ (kk = what - 3 ∧ i = num) ∨ σ 68 j = H kk i) := by
          intro kk j hkk hj
          by_cases hq : kk = what - 3 ∧ i = num
          · rw [if_pos hq, show j = 8 * w + num by omega, ms_e]
            exact ⟨fun _ => Or.inl hq, fun _ => rfl⟩
          · rw [if_neg hq, ms_n (by omega)]
            exact ⟨fun z => Or.inr z, fun z => z.resolve_left hq⟩
        refine ⟨(gen 0 i (by omega) (by omega)).mpr (Or.inr y1), (gen 1 (8 + i) (by omega) (by omega)).mpr (Or.inr y2), (gen 2 (16 + i) (by omega) (by omega)).mpr (Or.inr y3), ?_, ?_⟩
        · show 0 ≤ (if (0 : Nat) = what - 3 ∧ i = num then v else H 0 i)
          split
          · next hq => exact (hb (by omega) (by omega)).1
          · exact y4
        · show (if (0 : Nat) = what - 3 ∧ i = num then v else H 0 i) < 30
          split
          · next hq =>
            have : what = 3 := by omega
            subst this
            have : v ≤ 29 := (hb (by omega) (by omega)).2
            omega
          · exact y5
      · rw [show sU s what v = s from if_neg (by omega)]; exact (q 69 1 (by omega)).trans e5
    rw [e_145]
    rcases (by omega : what = 3 ∨ what = 4 ∨ what = 5 ∨ what = 6 ∨ what = 7) with rfl | rfl | rfl | rfl | rfl
    · have hn := h3 (by omega)
      rw [bEq_f (by omega), bEq_f (by omega), bEq_f (by omega), bEq_t (by rfl), w8w (w := 0) (by omega) (by omega), bIn_t (by omega), tn_n]
      exact ⟨_, rfl, hh 0 _ (by omega) (by omega) (by omega) rfl⟩
    · have hn := h3 (by omega)
      rw [bEq_f (by omega), bEq_f (by omega), bEq_f (by omega), bEq_f (by omega), bEq_t (by rfl), w8w (w := 1) (by omega) (by omega), bIn_t (by omega), tn_n]
      exact ⟨_, rfl, hh 1 _ (by omega) (by omega) (by omega) rfl⟩
    · have hn := h3 (by omega)
      rw [bEq_f (by omega), bEq_f (by omega), bEq_f (by omega), bEq_f (by omega), bEq_f (by omega), bEq_t (by rfl), w8w (w := 2) (by omega) (by omega), bIn_t (by omega), tn_n]
      exact ⟨_, rfl, hh 2 _ (by omega) (by omega) (by omega) rfl⟩
    · rw [bEq_f (by omega), bEq_f (by omega), bEq_f (by omega), bEq_f (by omega), bEq_f (by omega), bEq_f (by omega), show w32 (((6 : Nat) : Int) - 6) = 0 from rfl, bIn_t (by omega), show ((0 : Int)).toNat = 0 from rfl]
      obtain ⟨μ, m1, m2, m3⟩ := opM (V := V) (V' := up V 3 0 v) (f := fun S => some (0, mset S 69 0 v)) g okv.1 (by
        have := uL_4 (V := V) (σ := σ) (v := v) dM
        exact congrArg (fun τ : mM => some ((0 : Int), τ)) this)
      exact ⟨μ, m1, cov μ m2 vU_3 m3 rfl rfl⟩
    · rw [bEq_f (by omega), bEq_f (by omega), bEq_f (by omega), bEq_f (by omega), bEq_f (by omega), bEq_f (by omega), show w32 (((7 : Nat) : Int) - 6) = 1 from rfl, bIn_t (by omega), show ((1 : Int)).toNat = 1 from rfl]
      have q : ∀ a j, ¬ (a = 69 ∧ j = 1) → mset σ 69 1 v a j = σ a j := fun a j ha => ms_n (by omega)
      refine ⟨_, rfl, ?_, ⟨lawM_g (q _ _ (by omega)) (funext fun j => q _ _ (by omega)) (funext fun j => q _ _ (by omega)) (funext fun j => q _ _ (by omega)) (funext fun j => q _ _ (by omega)) e0, (q _ _ (by omega)).trans e1, (q _ _ (by omega)).trans e2, e3, fun i hi => ?_, ms_e⟩, fun a j hn => q a j (by omega)⟩
      · rw [show vU V num 7 v = V from rfl, ← g]
        exact gL_cg (funext fun j => q _ _ (by omega)) (funext fun j => q _ _ (by omega)) (funext fun j => q _ _ (by omega)) (q _ _ (by omega)) (q _ _ (by omega))
      · rw [q 68 i (by omega), q 68 (8 + i) (by omega), q 68 (16 + i) (by omega)]
        exact e4 i hi
end
