/-! PURE PART 22: by turns -/
def pkA (own f x : Int) : Int := if own = 0 then (if x < f then x else f) else (if f < x then x else f)
def dkA (own f x de w : Int) : Int := if own = 0 then (if x < f then w else de) else (if f < x then w else de)
def owA (i : Nat) : Int := if i % 2 = 0 then 1 else 0
def roA (ra rb i : Nat) : Nat := if i % 2 = 0 then ra else rb
def tuA (L : List (List Int × List Int)) (pa pb ra rb : Nat) : Nat → Nat → cV → Int
  | 0, _, V => w32 (wfA L V pa - wfA L V pb)
  | m + 1, i, V => pkA (owA i) (pkA (owA i) (tuA L pa pb ra rb m (i + 1) V) (tuA L pa pb ra rb m (i + 1) (moveA (roA ra rb i) 0 V))) (tuA L pa pb ra rb m (i + 1) (moveA (roA ra rb i) 1 V))
def deA (L : List (List Int × List Int)) (pa pb ra rb m : Nat) (V : cV) : Int := dkA 1 (pkA 1 (tuA L pa pb ra rb m 1 V) (tuA L pa pb ra rb m 1 (moveA ra 0 V))) (tuA L pa pb ra rb m 1 (moveA ra 1 V)) (dkA 1 (tuA L pa pb ra rb m 1 V) (tuA L pa pb ra rb m 1 (moveA ra 0 V)) 2 0) 1
section
variable {d n : Nat} {S : mM} {V : cV} {L : List (List Int × List Int)} {H : Nat → Nat → Int} {s : Int}
/-- what by turns rests on: houses, rows -/
def btC (S : mM) (a b ra rb : Nat) : Prop := S 26 5 = (a : Int) ∧ S 26 6 = (b : Int) ∧ S 26 7 = (ra : Int) ∧ S 26 8 = (rb : Int)
theorem s_79l {a b ra rb m i N r : Nat} {mx : Int × Int} {K : mK} {own f de u : Int} {W : cV} {σ : mM} (hK : K = mcall (d + 5 + m)) (hr : r < 5) (ok : okC W)
    (hs : ∀ (W : cV) (S : mM), gC 27 S = W → okC W → fr CT σ S → (∀ j, j ≠ 9 → S 26 j = σ 26 j) → ∃ μ, K 79 [(27, 26), (0, ((i + 1 : Nat) : Int)), (0, (N : Int))] S = some (tuA L (H 0 a).toNat (H 0 b).toNat ra rb m (i + 1) W, μ) ∧ gC 27 μ = W ∧ fr CT S μ ∧ ∀ j, j ≠ 9 → μ 26 j = S 26 j) (hi : i < 1000) (w : Nat) (hw : w < 2) (S : mM) (gS : gC 27 S = W) (F : fr CT σ S) (c : ∀ j, j ≠ 9 → S 26 j = σ 26 j) :
    ∃ μ, gC 27 μ = W ∧ fr CT σ μ ∧ (∀ j, j ≠ 9 → μ 26 j = σ 26 j) ∧ mgo K mx 79 106 [(27, 26), (0, (i : Int)), (0, (N : Int)), (0, own), (0, (r : Int)), (0, f), (0, de), (0, (w : Int)), (0, u)] [] S =
      mgo K mx 79 106 [(27, 26), (0, (i : Int)), (0, (N : Int)), (0, own), (0, (r : Int)), (0, pkA own f (tuA L (H 0 a).toNat (H 0 b).toNat ra rb m (i + 1) (moveA r w W))), (0, dkA own f (tuA L (H 0 a).toNat (H 0 b).toNat ra rb m (i + 1) (moveA r w W)) de (w : Int)), (0, ((w + 1 : Nat) : Int)), (0, tuA L (H 0 a).toNat (H 0 b).toNat ra rb m (i + 1) (moveA r w W))] [] μ := by
  obtain ⟨ν, n1, n2, n3⟩ := s_17t (d := d + 3 + m) (l := r) (way := w) gS ok hr hw
  have n1' : K 17 [(21, 27), (0, (r : Int)), (0, (w : Int))] S = some (0, ν) := by rw [hK, show d + 5 + m = d + 3 + m + 2 by omega]; exact n1
  have ok2 := okC_move (l := r) (way := w) ok hr
  have c2 : ∀ j, j ≠ 9 → ν 26 j = σ 26 j := fun j hj => (fr_e n3 (by decide) j).trans (c j hj)
  obtain ⟨ξ, x1, x2, x3, x4⟩ := hs _ ν n2 ok2 (fr_t F (fCA n3)) c2
  obtain ⟨ζ, z1, z2, z3⟩ := s_17t (d := d + 3 + m) (l := r) (way := 1 - w) x2 ok2 hr (by omega)
  have z1' : K 17 [(21, 27), (0, (r : Int)), (0, ((1 - w : Nat) : Int))] ξ = some (0, ζ) := by rw [hK, show d + 5 + m = d + 3 + m + 2 by omega]; exact z1
  rw [move_u hw] at z2
  refine ⟨ζ, z2, fr_t (fr_t (fr_t F (fCA n3)) x3) (fCA z3), fun j hj => (fr_e z3 (by decide) j).trans ((x4 j hj).trans (c2 j hj)), ?_⟩
  have t3 : Unit → w32 (1 - (w : Int)) = ((1 - w : Nat) : Int) := fun _ => by rw [w32_e (by omega)]; omega
  rw [b_79_106, bLt_t (by omega), n1', bK_t, w32_n (by omega), x1, bK_t, t3 (), z1', bK_t, w32_n (by omega)]
  generalize tuA L (H 0 a).toNat (H 0 b).toNat ra rb m (i + 1) (moveA r w W) = x
  unfold pkA dkA
  by_cases h0 : own = 0
  · rw [bEq_t h0, if_pos h0, if_pos h0]
    by_cases h1 : x < f
    · rw [bLt_t h1, if_pos h1, if_pos h1]
    · rw [bLt_f (by omega), if_neg h1, if_neg h1]
  · rw [bEq_f h0, if_neg h0, if_neg h0]
    by_cases h1 : f < x
    · rw [bLt_t h1, if_pos h1, if_pos h1]
    · rw [bLt_f (by omega), if_neg h1, if_neg h1]
theorem s_25v {q : Nat} {W : cV} (g : gC 27 S = W) (ok : okC W) (hq : q < 30) (E : envC S L H n s) : ∃ w : Nat, S 1 6 = (w : Int) ∧ ∃ μ, mcall (d + 3) 25 [(22, (w : Int)), (21, 27), (0, (q : Int))] S = some (wfA L W q, μ) ∧ gC 27 μ = W ∧ fr CS S μ := by
  obtain ⟨w, hw⟩ : ∃ w : Nat, S 1 6 = (w : Int) := ⟨_, E.1.choose_spec.2.1⟩
  obtain ⟨μ, m1, m2⟩ := s_25e (d := d) (c := 27) (Or.inr rfl) g ok hq E hw
  exact ⟨w, hw, μ, m1, (gC_S (Or.inr rfl) m2).trans g, m2⟩
theorem s_79 {a b ra rb N : Nat} (hN : N ≤ 4) (hra : ra < 5) (hrb : rb < 5) (ha : a < n) (hb : b < n) : ∀ (m i : Nat) (W : cV) (S : mM) (d : Nat), i + m = N → gC 27 S = W → okC W → btC S a b ra rb → envC S L H n s → ∃ μ, mcall (d + 5 + m) 79 [(27, 26), (0, (i : Int)), (0, (N : Int))] S = some (tuA L (H 0 a).toNat (H 0 b).toNat ra rb m i W, μ) ∧ gC 27 μ = W ∧ fr CT S μ ∧ (∀ j, j ≠ 9 → μ 26 j = S 26 j) ∧ (i = 0 → ∀ m', m = m' + 1 → μ 26 9 = deA L (H 0 a).toNat (H 0 b).toNat ra rb m' W) := by
  intro m
  induction m with
  | zero =>
    intro i W S d hi g ok bt E
    obtain ⟨b1, b2, b3, b4⟩ := bt
    have hn8 := E.2.2.1
    obtain ⟨p1, -, -, p4, p5⟩ := E.2.2.2.1 a ha
    obtain ⟨q1, -, -, q4, q5⟩ := E.2.2.2.1 b hb
    obtain ⟨pa, hpa⟩ : ∃ q : Nat, H 0 a = (q : Int) := ⟨(H 0 a).toNat, by omega⟩
    obtain ⟨pb, hpb⟩ : ∃ q : Nat, H 0 b = (q : Int) := ⟨(H 0 b).toNat, by omega⟩
    obtain ⟨w, hw, ν, n1, n2, n3⟩ := s_25v (d := d + 1) (q := pa) g ok (by omega) E
    have E2 := envC_T (fCS n3) E
    obtain ⟨w', hw', ξ, x1, x2, x3⟩ := s_25v (d := d + 1) (q := pb) n2 ok (by omega) E2
    obtain ⟨q1', -⟩ := E2.2.2.2.1 b hb
    refine ⟨ξ, ?_, x2, fr_t (fCS n3) (fCS x3), fun j _ => (fr_e x3 (by decide) j).trans (fr_e n3 (by decide) j), fun _ m' h => by cases h⟩
    show mcall (d + 4 + 1) 79 [(27, 26), (0, (i : Int)), (0, (N : Int))] S = _
    rw [e_79, bLt_f (by omega), hw, bLt_f (by omega), b1, bIn_t (by omega), tn_n, p1, hpa, n1, bK_t, hw', bLt_f (by omega), fr_e n3 (by decide) 6, b2, bIn_t (by omega), tn_n, q1', hpb, x1, bK_t]
    rfl
  | succ m ih =>
    intro i W S d hi g ok bt E
    have sub : ∀ (W : cV) (T : mM), gC 27 T = W → okC W → fr CT S T → (∀ j, j ≠ 9 → T 26 j = S 26 j) → ∃ μ, mcall (d + 5 + m) 79 [(27, 26), (0, ((i + 1 : Nat) : Int)), (0, (N : Int))] T = some (tuA L (H 0 a).toNat (H 0 b).toNat ra rb m (i + 1) W, μ) ∧ gC 27 μ = W ∧ fr CT T μ ∧ ∀ j, j ≠ 9 → μ 26 j = T 26 j := by
      intro W T gT oT FT cT
      obtain ⟨b1, b2, b3, b4⟩ := bt
      obtain ⟨μ, m1, m2, m3, m4, -⟩ := ih (i + 1) W T d (by omega) gT oT ⟨(cT 5 (by omega)).trans b1, (cT 6 (by omega)).trans b2, (cT 7 (by omega)).trans b3, (cT 8 (by omega)).trans b4⟩ (envC_T FT E)
      exact ⟨μ, m1, m2, m3, m4⟩
    obtain ⟨b1, b2, b3, b4⟩ := bt
    obtain ⟨ν, n1, n2, n3, n4⟩ := sub W S g ok fr_r (fun _ _ => rfl)
    have u : ∀ (own r f : Int), mgo (mcall (d + 5 + m)) (mX 79 S) 79 106 [(27, 26), (0, (i : Int)), (0, (N : Int)), (0, own), (0, r), (0, f), (0, 2), (0, 0), (2, 0)] [] ν = mgo (mcall (d + 5 + m)) (mX 79 S) 79 106 [(27, 26), (0, (i : Int)), (0, (N : Int)), (0, own), (0, r), (0, f), (0, 2), (0, 0), (0, 0)] [] ν := fun own r f => (b_79_106a _ _ _ _ _ _ _ _ _ _).trans (b_79_106 _ _ _ _ _ _ _ _ _ _ _).symm
    have en : mcall (d + 5 + m + 1) 79 [(27, 26), (0, (i : Int)), (0, (N : Int))] S = mgo (mcall (d + 5 + m)) (mX 79 S) 79 106 [(27, 26), (0, (i : Int)), (0, (N : Int)), (0, owA i), (0, ((roA ra rb i : Nat) : Int)), (0, tuA L (H 0 a).toNat (H 0 b).toNat ra rb m (i + 1) W), (0, 2), (0, 0), (0, 0)] [] ν := by
      have t2 : Unit → Int.tmod (i : Int) 2 = ((i % 2 : Nat) : Int) := fun _ => rfl
      unfold owA roA
      rw [e_79, bLt_t (by omega), bEq_f (by omega), t2 ()]
      by_cases h2 : i % 2 = 0
      · rw [bEq_t (by omega), bEq_f (by omega), w32_n (by omega), n1, bK_t, b3, u, if_pos h2, if_pos h2]
      · rw [bEq_f (by omega), bEq_t (by rfl), w32_n (by omega), n1, bK_t, b4, u, if_neg h2, if_neg h2]
    have hro : roA ra rb i < 5 := by unfold roA; split <;> assumption
    obtain ⟨σ1, y1, y2, y3, y4⟩ := s_79l (d := d) (a := a) (b := b) (ra := ra) (rb := rb) (m := m) (i := i) (N := N) (r := roA ra rb i) (mx := mX 79 S) (own := owA i) (f := tuA L (H 0 a).toNat (H 0 b).toNat ra rb m (i + 1) W) (de := 2) (u := 0) (L := L) (H := H) rfl hro ok sub (by omega) 0 (by omega) ν n2 n3 n4
    obtain ⟨σ2, v1, v2, v3, v4⟩ := s_79l (d := d) (a := a) (b := b) (ra := ra) (rb := rb) (m := m) (i := i) (N := N) (r := roA ra rb i) (mx := mX 79 S) (own := owA i) (f := pkA (owA i) (tuA L (H 0 a).toNat (H 0 b).toNat ra rb m (i + 1) W) (tuA L (H 0 a).toNat (H 0 b).toNat ra rb m (i + 1) (moveA (roA ra rb i) 0 W))) (de := dkA (owA i) (tuA L (H 0 a).toNat (H 0 b).toNat ra rb m (i + 1) W) (tuA L (H 0 a).toNat (H 0 b).toNat ra rb m (i + 1) (moveA (roA ra rb i) 0 W)) 2 0) (u := tuA L (H 0 a).toNat (H 0 b).toNat ra rb m (i + 1) (moveA (roA ra rb i) 0 W)) (L := L) (H := H) rfl hro ok sub (by omega) 1 (by omega) σ1 y1 y2 y3
    have all := en.trans (y4.trans v4)
    have fin : ∀ (own r f de u : Int) (σ : mM), mgo (mcall (d + 5 + m)) (mX 79 S) 79 106 [(27, 26), (0, (i : Int)), (0, (N : Int)), (0, own), (0, r), (0, f), (0, de), (0, ((1 + 1 : Nat) : Int)), (0, u)] [] σ = if i = 0 then some (f, mset σ 26 9 de) else some (f, σ) := by
      intro own r f de u σ
      rw [b_79_106, bLt_f (by omega)]
      by_cases h : i = 0
      · rw [bEq_t (by omega), if_pos h]
      · rw [bEq_f (by omega), if_neg h]
    rw [fin] at all
    by_cases h : i = 0
    · rw [if_pos h] at all
      refine ⟨_, all, (gC_f (l := [26]) (fr_s fr_r (by decide)) (fun a h1 h2 => by simp only [List.mem_singleton]; omega)).trans v1, fr_s v2 (by decide), fun j hj => (ms_n (Or.inr hj)).trans (v3 j hj), fun _ m' hm' => ?_⟩
      have hm' : m = m' := by omega
      subst hm' h
      rw [ms_e]
      rfl
    · rw [if_neg h] at all
      exact ⟨σ2, all, v1, v2, v3, fun z => absurd z h⟩
theorem dk_e {f a : Int} {de w : Int} : dkA 1 f a de w = if f < a then w else de := if_neg (by omega)
theorem pk_e {f a : Int} : pkA 1 f a = if f < a then a else f := if_neg (by omega)
theorem pk_0 {f a : Int} : pkA 0 f a = if a < f then a else f := if_pos rfl
/-! the model's -/
theorem s_175v {rw : Nat} {W : cV} (g : gM S = W) (ok : okC W) (hr : rw < 10) : ∃ μ, mcall (d + 2) 175 [(30, 64), (0, (rw : Int))] S = some (0, μ) ∧ gM μ = moveA (rw / 2) (rw % 2) W ∧ fm [] S μ :=
  opM (f := mcall (d + 2) 175 [(30, 64), (0, (rw : Int))]) g (okC_move (way := rw % 2) ok (show rw / 2 < 5 by omega)).1 (s_175 hr)
theorem s_169v {q : Nat} {W : cV} (g : gM S = W) (ok : okC W) (hq : q < 30) (E : envM S L H n s) : ∃ μ, mcall (d + 4) 169 [(30, 64), (0, (q : Int))] S = some (wfA L W q, μ) ∧ gM μ = W ∧ fm MT S μ := by
  obtain ⟨μ, m1, m2⟩ := s_169 (d := d) g ok hq E.1 E.2.1
  exact ⟨μ, m1, (gM_f m2 (by decide)).trans g, fm_m (fm_f m2) (by decide)⟩
theorem w_2rw {r w : Nat} (hr : r < 5) (hw : w < 2) : w32 ((w32 (2 * (r : Int))) + (w : Int)) = ((2 * r + w : Nat) : Int) := by rw [w32_e (x := 2 * (r : Int)) (by omega), w32_e (by omega)]; omega
theorem w_2ru {r w : Nat} (hr : r < 5) (hw : w < 2) : w32 ((w32 ((w32 (2 * (r : Int))) + 1)) - (w : Int)) = ((2 * r + (1 - w) : Nat) : Int) := by rw [w32_e (x := 2 * (r : Int)) (by omega), w32_e (x := 2 * (r : Int) + 1) (by omega), w32_e (by omega)]; omega
theorem s_199 {hh rr N : Nat} (hN : N ≤ 4) (hra : rr / 10 < 5) (hrb : rr % 10 < 5) (ha : hh / 10 < n) (hb : hh % 10 < n) : ∀ (m i : Nat) (W : cV) (S : mM) (d : Nat), i + m = N → gM S = W → okC W → envM S L H n s → ∃ μ, mcall (d + 6 + m) 199 [(30, 64), (0, (i : Int)), (0, (N : Int)), (0, (hh : Int)), (0, (rr : Int))] S = some (tuA L (H 0 (hh / 10)).toNat (H 0 (hh % 10)).toNat (rr / 10) (rr % 10) m i W, μ) ∧ gM μ = W ∧ fm MT S μ := by
  have hn8 : ∀ S, envM S L H n s → n ≤ 8 := fun S E => E.2.2.2.1
  have q1 : n ≤ 8 → Unit → w32 (Int.tdiv (hh : Int) 10) = ((hh / 10 : Nat) : Int) := fun _ _ => by rw [show Int.tdiv (hh : Int) 10 = ((hh / 10 : Nat) : Int) from rfl, w32_e (by omega)]
  have q2 : Unit → Int.tmod (hh : Int) 10 = ((hh % 10 : Nat) : Int) := fun _ => rfl
  have q3 : Unit → w32 (Int.tdiv (rr : Int) 10) = ((rr / 10 : Nat) : Int) := fun _ => by rw [show Int.tdiv (rr : Int) 10 = ((rr / 10 : Nat) : Int) from rfl, w32_e (by omega)]
  have q4 : Unit → Int.tmod (rr : Int) 10 = ((rr % 10 : Nat) : Int) := fun _ => rfl
  intro m
  induction m with
  | zero =>
    intro i W S d hi g ok E
    have hn := hn8 S E
    obtain ⟨p1, -, -, p4, p5⟩ := E.2.2.2.2.1 (hh / 10) ha
    obtain ⟨pa, hpa⟩ : ∃ q : Nat, H 0 (hh / 10) = (q : Int) := ⟨(H 0 (hh / 10)).toNat, by omega⟩
    obtain ⟨ν, n1, n2, n3⟩ := s_169v (d := d + 1) (q := pa) g ok (by omega) E
    have E2 := envM_X n3 E
    obtain ⟨p1', -, -, p4', p5'⟩ := E2.2.2.2.2.1 (hh % 10) hb
    obtain ⟨pb, hpb⟩ : ∃ q : Nat, H 0 (hh % 10) = (q : Int) := ⟨(H 0 (hh % 10)).toNat, by omega⟩
    obtain ⟨ξ, x1, x2, x3⟩ := s_169v (d := d + 1) (q := pb) n2 ok (by omega) E2
    refine ⟨ξ, ?_, x2, fm_t n3 x3⟩
    show mcall (d + 5 + 1) 199 [(30, 64), (0, (i : Int)), (0, (N : Int)), (0, (hh : Int)), (0, (rr : Int))] S = _
    rw [e_199, bEq_t (by omega), bEq_f (by omega), q1 hn (), bIn_t (by omega), tn_n, p1, hpa, n1, bK_t, bEq_f (by omega), q2 (), bIn_t (by omega), tn_n, p1', hpb, x1, bK_t]
    rfl
  | succ m ih =>
    intro i W S d hi g ok E
    obtain ⟨ν, n1, n2, n3⟩ := ih (i + 1) W S d (by omega) g ok E
    have st : ∀ (r w : Nat) (f u : Int) (T : mM), r < 5 → w < 2 → gM T = W → fm MT S T → ∃ μ, gM μ = W ∧ fm MT S μ ∧ mgo (mcall (d + 6 + m)) (mX 199 S) 199 70 [(30, 64), (0, (i : Int)), (0, (N : Int)), (0, (hh : Int)), (0, (rr : Int)), (0, f), (0, (r : Int)), (0, (w : Int)), (0, u)] [] T =
        mgo (mcall (d + 6 + m)) (mX 199 S) 199 70 [(30, 64), (0, (i : Int)), (0, (N : Int)), (0, (hh : Int)), (0, (rr : Int)), (0, pkA (owA i) f (tuA L (H 0 (hh / 10)).toNat (H 0 (hh % 10)).toNat (rr / 10) (rr % 10) m (i + 1) (moveA r w W))), (0, (r : Int)), (0, ((w + 1 : Nat) : Int)), (0, tuA L (H 0 (hh / 10)).toNat (H 0 (hh % 10)).toNat (rr / 10) (rr % 10) m (i + 1) (moveA r w W))] [] μ := by
      intro r w f u T hr hw gT FT
      obtain ⟨α, a1, a2, a3⟩ := s_175v (d := d + 4 + m) (rw := 2 * r + w) gT ok (by omega)
      have a1' : mcall (d + 6 + m) 175 [(30, 64), (0, ((2 * r + w : Nat) : Int))] T = some (0, α) := by rw [show d + 6 + m = d + 4 + m + 2 by omega]; exact a1
      rw [show (2 * r + w) / 2 = r by omega, show (2 * r + w) % 2 = w by omega] at a2
      have ok2 := okC_move (l := r) (way := w) ok hr
      have F2 := fm_t FT (fm_m a3 (by simp) : fm MT T α)
      obtain ⟨β, c1, c2, c3⟩ := ih (i + 1) _ α d (by omega) a2 ok2 (envM_X F2 E)
      obtain ⟨γ, e1, e2, e3⟩ := s_175v (d := d + 4 + m) (rw := 2 * r + (1 - w)) c2 ok2 (by omega)
      have e1' : mcall (d + 6 + m) 175 [(30, 64), (0, ((2 * r + (1 - w) : Nat) : Int))] β = some (0, γ) := by rw [show d + 6 + m = d + 4 + m + 2 by omega]; exact e1
      rw [show (2 * r + (1 - w)) / 2 = r by omega, show (2 * r + (1 - w)) % 2 = 1 - w by omega, move_u hw] at e2
      refine ⟨γ, e2, fm_t (fm_t F2 c3) (fm_m e3 (by simp)), ?_⟩
      have t2 : Unit → Int.tmod (i : Int) 2 = ((i % 2 : Nat) : Int) := fun _ => rfl
      rw [b_199_70, bLt_t (by omega), w_2rw hr hw, a1', bK_t, w32_n (by omega), c1, bK_t, w_2ru hr hw, e1', bK_t, bEq_f (by omega), t2 (), w32_n (by omega)]
      by_cases h2 : i % 2 = 0
      · rw [bEq_t (by omega), show owA i = 1 from if_pos h2, pk_e]
      · rw [bEq_f (by omega), show owA i = 0 from if_neg h2, pk_0]
    have u : ∀ (r f : Int), mgo (mcall (d + 6 + m)) (mX 199 S) 199 70 [(30, 64), (0, (i : Int)), (0, (N : Int)), (0, (hh : Int)), (0, (rr : Int)), (0, f), (0, r), (0, 0), (2, 0)] [] ν = mgo (mcall (d + 6 + m)) (mX 199 S) 199 70 [(30, 64), (0, (i : Int)), (0, (N : Int)), (0, (hh : Int)), (0, (rr : Int)), (0, f), (0, r), (0, 0), (0, 0)] [] ν := fun r f => (b_199_70a _ _ _ _ _ _ _ _ _ _).trans (b_199_70 _ _ _ _ _ _ _ _ _ _ _).symm
    have hro : roA (rr / 10) (rr % 10) i < 5 := by unfold roA; split <;> assumption
    obtain ⟨σ1, y1, y2, y3⟩ := st (roA (rr / 10) (rr % 10) i) 0 (tuA L (H 0 (hh / 10)).toNat (H 0 (hh % 10)).toNat (rr / 10) (rr % 10) m (i + 1) W) 0 ν hro (by omega) n2 n3
    obtain ⟨σ2, v1, v2, v3⟩ := st (roA (rr / 10) (rr % 10) i) 1 (pkA (owA i) (tuA L (H 0 (hh / 10)).toNat (H 0 (hh % 10)).toNat (rr / 10) (rr % 10) m (i + 1) W) (tuA L (H 0 (hh / 10)).toNat (H 0 (hh % 10)).toNat (rr / 10) (rr % 10) m (i + 1) (moveA (roA (rr / 10) (rr % 10) i) 0 W))) (tuA L (H 0 (hh / 10)).toNat (H 0 (hh % 10)).toNat (rr / 10) (rr % 10) m (i + 1) (moveA (roA (rr / 10) (rr % 10) i) 0 W)) σ1 hro (by omega) y1 y2
    refine ⟨σ2, ?_, v1, v2⟩
    have t2 : Unit → Int.tmod (i : Int) 2 = ((i % 2 : Nat) : Int) := fun _ => rfl
    have en : mcall (d + 6 + m + 1) 199 [(30, 64), (0, (i : Int)), (0, (N : Int)), (0, (hh : Int)), (0, (rr : Int))] S = mgo (mcall (d + 6 + m)) (mX 199 S) 199 70 [(30, 64), (0, (i : Int)), (0, (N : Int)), (0, (hh : Int)), (0, (rr : Int)), (0, tuA L (H 0 (hh / 10)).toNat (H 0 (hh % 10)).toNat (rr / 10) (rr % 10) m (i + 1) W), (0, ((roA (rr / 10) (rr % 10) i : Nat) : Int)), (0, 0), (0, 0)] [] ν := by
      unfold roA
      rw [e_199, bEq_f (by omega), w32_n (by omega), n1, bK_t, bEq_f (by omega), t2 ()]
      by_cases h2 : i % 2 = 0
      · rw [bEq_t (by omega), bEq_f (by omega), q3 (), u, if_pos h2]
      · rw [bEq_f (by omega), bEq_f (by omega), q4 (), u, if_neg h2]
    refine (en.trans (y3.trans v3)).trans ?_
    rw [b_199_70, bLt_f (by omega)]
    rfl
def byA (L : List (List Int × List Int)) (H : Nat → Nat → Int) (n : Nat) (V : cV) (x1 x2 x3 x4 : Int) : Int :=
  if 0 ≤ x1 ∧ x1.toNat / 10 < n ∧ x1.toNat % 10 < n ∧ x1.toNat / 10 ≠ x1.toNat % 10 then (if 0 ≤ x2 ∧ x2.toNat / 10 < 5 ∧ x2.toNat % 10 < 5 ∧ x2.toNat / 10 ≠ x2.toNat % 10 then (if 1 ≤ x3 ∧ x3 ≤ 4 ∧ 0 ≤ x4 ∧ x4 ≤ 1 then
    (if x4 = 0 then tuA L (H 0 (x1.toNat / 10)).toNat (H 0 (x1.toNat % 10)).toNat (x2.toNat / 10) (x2.toNat % 10) x3.toNat 0 V else deA L (H 0 (x1.toNat / 10)).toNat (H 0 (x1.toNat % 10)).toNat (x2.toNat / 10) (x2.toNat % 10) (x3.toNat - 1) V) else -2000000000) else -2000000000) else -2000000000
theorem t10_v (m : Nat) (h : (m : Int) < 2147483648) : w32 (Int.tdiv (m : Int) 10) = ((m / 10 : Nat) : Int) := by
  rw [show Int.tdiv (m : Int) 10 = ((m / 10 : Nat) : Int) from rfl, w32_e (by omega)]
theorem t10_t (m : Nat) : Int.tmod (m : Int) 10 = ((m % 10 : Nat) : Int) := rfl
theorem s_78 {hh rr N : Nat} (h1' : (hh : Int) < 2147483648) (h2' : (rr : Int) < 2147483648) (hN : 1 ≤ N ∧ N ≤ 4) (hra : rr / 10 < 5) (hrb : rr % 10 < 5) (ha : hh / 10 < n) (hb : hh % 10 < n) (g : gC 2 S = V) (ok : okC V) (E : envC S L H n s) : ∃ μ, mcall (d + 10) 78 [(27, 26), (0, (hh : Int)), (0, (rr : Int)), (0, (N : Int))] S = some (tuA L (H 0 (hh / 10)).toNat (H 0 (hh % 10)).toNat (rr / 10) (rr % 10) N 0 V, μ) ∧ fr CT S μ ∧ μ 26 9 = deA L (H 0 (hh / 10)).toNat (H 0 (hh % 10)).toNat (rr / 10) (rr % 10) (N - 1) V := by
  obtain ⟨μ, m1, m2, m3⟩ := s_6t (d := d + 8) g
  have FF : ∀ i v σ, fr CT S σ → fr CT S (mset σ 26 i v) := fun i v σ F => fr_s F (by decide)
  have F0 := fCA m3
  have F4 := FF 8 ((rr % 10 : Nat) : Int) _ (FF 7 ((rr / 10 : Nat) : Int) _ (FF 6 ((hh % 10 : Nat) : Int) _ (FF 5 ((hh / 10 : Nat) : Int) _ F0)))
  have gg : ∀ i v σ, gC 27 σ = V → gC 27 (mset σ 26 i v) = V := fun i v σ h => (gC_f (l := [26]) (fr_s fr_r (by decide)) (fun a h1 h2 => by simp only [List.mem_singleton]; omega)).trans h
  have g4 := gg 8 ((rr % 10 : Nat) : Int) _ (gg 7 ((rr / 10 : Nat) : Int) _ (gg 6 ((hh % 10 : Nat) : Int) _ (gg 5 ((hh / 10 : Nat) : Int) _ m2)))
  obtain ⟨ξ, x1, x2, x3, x4, x5⟩ := s_79 (a := hh / 10) (b := hh % 10) (ra := rr / 10) (rb := rr % 10) (N := N) (L := L) (H := H) (s := s) (n := n) hN.2 hra hrb ha hb N 0 V _ (d + 4 - N) (by omega) g4 ok ⟨by rw [ms_n (by omega), ms_n (by omega), ms_n (by omega), ms_e], by rw [ms_n (by omega), ms_n (by omega), ms_e], by rw [ms_n (by omega), ms_e], ms_e⟩ (envC_T F4 E)
  refine ⟨ξ, ?_, fr_t F4 x3, x5 rfl (N - 1) (by omega)⟩
  rw [e_78, m1, bK_t, bEq_f (by omega), bEq_f (by omega), bEq_f (by omega), bEq_f (by omega), t10_v hh h1', t10_t, t10_v rr h2', t10_t]
  have x1' : mcall (d + 9) 79 [(27, 26), (0, 0), (0, (N : Int))] (mset (mset (mset (mset μ 26 5 ((hh / 10 : Nat) : Int)) 26 6 ((hh % 10 : Nat) : Int)) 26 7 ((rr / 10 : Nat) : Int)) 26 8 ((rr % 10 : Nat) : Int)) = some (tuA L (H 0 (hh / 10)).toNat (H 0 (hh % 10)).toNat (rr / 10) (rr % 10) N 0 V, ξ) := by
    rw [show d + 9 = d + 4 - N + 5 + N by omega]; exact x1
  rw [x1', bK_t]
theorem s_105 {x1 x2 x3 x4 : Int} (h1' : x1 < 2147483648) (h2' : x2 < 2147483648) (g : gC 2 S = V) (ok : okC V) (E : envC S L H n s) : ∃ μ, mcall (d + 11) 105 [(29, 0), (0, x1), (0, x2), (0, x3), (0, x4)] S = some (byA L H n V x1 x2 x3 x4, μ) ∧ fr CT S μ := by
  have hn := E.2.2.1
  rw [e_105]
  unfold byA
  by_cases h0 : x1 < 0
  · rw [bLt_t h0, if_neg (by omega)]; exact ⟨S, rfl, fr_r⟩
  · obtain ⟨hh, hhh⟩ : ∃ m : Nat, x1 = (m : Int) := ⟨x1.toNat, by omega⟩
    subst hhh
    rw [bLt_f (by omega), bEq_f (by omega), t10_v hh h1', t10_t, s_38 E.2.1, bK_t, tn_n]
    by_cases ha : hh / 10 < n
    · rw [if_pos (by omega), bEq_f (by omega), bEq_f (by omega), s_38 E.2.1, bK_t]
      by_cases hb : hh % 10 < n
      · rw [if_pos (by omega), bEq_f (by omega), bEq_f (by omega), bEq_f (by omega)]
        by_cases hab : hh / 10 = hh % 10
        · rw [bEq_t (by omega), if_neg (by omega)]; exact ⟨S, rfl, fr_r⟩
        · rw [bEq_f (by omega), if_pos ⟨by omega, ha, hb, hab⟩]
          by_cases h2 : x2 < 0
          · rw [bLt_t h2, if_neg (by omega)]; exact ⟨S, rfl, fr_r⟩
          · obtain ⟨rr, hrr⟩ : ∃ m : Nat, x2 = (m : Int) := ⟨x2.toNat, by omega⟩
            subst hrr
            rw [bLt_f (by omega), bEq_f (by omega), t10_v rr h2', t10_t, tn_n]
            by_cases hra : rr / 10 < 5
            · rw [bLt_t (by omega), bEq_f (by omega)]
              by_cases hrb : rr % 10 < 5
              · rw [bLt_t (by omega), bEq_f (by omega), bEq_f (by omega)]
                by_cases hab2 : rr / 10 = rr % 10
                · rw [bEq_t (by omega), if_neg (by omega)]; exact ⟨S, rfl, fr_r⟩
                · rw [bEq_f (by omega), if_pos ⟨by omega, hra, hrb, hab2⟩]
                  by_cases h3 : x3 < 1
                  · rw [bLt_t h3, if_neg (by omega)]; exact ⟨S, rfl, fr_r⟩
                  · rw [bLt_f (by omega)]
                    by_cases h4 : 4 < x3
                    · rw [bLt_t h4, if_neg (by omega)]; exact ⟨S, rfl, fr_r⟩
                    · rw [bLt_f (by omega), s_126, bK_t]
                      by_cases h5 : 0 ≤ x4 ∧ x4 ≤ 1
                      · obtain ⟨N, hN⟩ : ∃ m : Nat, x3 = (m : Int) := ⟨x3.toNat, by omega⟩
                        subst hN
                        obtain ⟨μ, m1, m2, m3⟩ := s_78 (d := d) (hh := hh) (rr := rr) (N := N) h1' h2' (by omega) hra hrb ha hb g ok E
                        rw [if_pos h5, if_pos (by omega), bEq_f (by omega), m1, bK_t, tn_n, m3]
                        by_cases h6 : x4 = 0
                        · rw [bEq_t h6, if_pos h6]; exact ⟨μ, rfl, m2⟩
                        · rw [bEq_f h6, if_neg h6]; exact ⟨μ, rfl, m2⟩
                      · rw [if_neg h5, if_neg (by omega), bEq_t (by rfl)]; exact ⟨S, rfl, fr_r⟩
              · rw [bLt_f (by omega), if_neg (by omega)]; exact ⟨S, rfl, fr_r⟩
            · rw [bLt_f (by omega), if_neg (by omega)]; exact ⟨S, rfl, fr_r⟩
      · rw [if_neg (by omega), bEq_t (by rfl), if_neg (by omega)]; exact ⟨S, rfl, fr_r⟩
    · rw [if_neg (by omega), bEq_t (by rfl), if_neg (by omega)]; exact ⟨S, rfl, fr_r⟩
theorem s_200 {x1 x2 x3 x4 : Int} (h1' : x1 < 2147483648) (h2' : x2 < 2147483648) (g : gM S = V) (ok : okC V) (E : envM S L H n s) : ∃ μ, mcall (d + 11) 200 [(30, 64), (0, x1), (0, x2), (0, x3), (0, x4)] S = some (byA L H n V x1 x2 x3 x4, μ) ∧ fm MT S μ ∧ gM μ = V := by
  have hn := E.2.2.2.1
  rw [e_200]
  unfold byA
  by_cases h0 : x1 < 0
  · rw [bLt_t h0, if_neg (by omega)]; exact ⟨S, rfl, fm_r, g⟩
  · obtain ⟨hh, hhh⟩ : ∃ m : Nat, x1 = (m : Int) := ⟨x1.toNat, by omega⟩
    subst hhh
    rw [bLt_f (by omega), bEq_f (by omega), t10_v hh h1', t10_t, s_135 E.2.2.1 hn, bK_t, tn_n]
    by_cases ha : hh / 10 < n
    · rw [if_pos (by omega), bEq_f (by omega), bEq_f (by omega), s_135 E.2.2.1 hn, bK_t]
      by_cases hb : hh % 10 < n
      · rw [if_pos (by omega), bEq_f (by omega), bEq_f (by omega), bEq_f (by omega)]
        by_cases hab : hh / 10 = hh % 10
        · rw [bEq_t (by omega), if_neg (by omega)]; exact ⟨S, rfl, fm_r, g⟩
        · rw [bEq_f (by omega), if_pos ⟨by omega, ha, hb, hab⟩]
          by_cases h2 : x2 < 0
          · rw [bLt_t h2, if_neg (by omega)]; exact ⟨S, rfl, fm_r, g⟩
          · obtain ⟨rr, hrr⟩ : ∃ m : Nat, x2 = (m : Int) := ⟨x2.toNat, by omega⟩
            subst hrr
            rw [bLt_f (by omega), bEq_f (by omega), t10_v rr h2', t10_t, tn_n]
            by_cases hra : rr / 10 < 5
            · rw [bLt_t (by omega), bEq_f (by omega)]
              by_cases hrb : rr % 10 < 5
              · rw [bLt_t (by omega), bEq_f (by omega), bEq_f (by omega)]
                by_cases hab2 : rr / 10 = rr % 10
                · rw [bEq_t (by omega), if_neg (by omega)]; exact ⟨S, rfl, fm_r, g⟩
                · rw [bEq_f (by omega), if_pos ⟨by omega, hra, hrb, hab2⟩, s_133, bK_t]
                  by_cases h3 : 1 ≤ x3 ∧ x3 ≤ 4
                  · rw [if_pos h3, bEq_f (by omega), s_133, bK_t]
                    by_cases h5 : 0 ≤ x4 ∧ x4 ≤ 1
                    · obtain ⟨N, hN⟩ : ∃ m : Nat, x3 = ((m + 1 : Nat) : Int) := ⟨x3.toNat - 1, by omega⟩
                      subst hN
                      have sub := fun (W : cV) (T : mM) (gT : gM T = W) (oT : okC W) (F : fm MT S T) => s_199 (L := L) (H := H) (n := n) (s := s) (hh := hh) (rr := rr) (N := N + 1) (by omega) hra hrb ha hb N 1 W T (d + 4 - N) (by omega) gT oT (envM_X F E)
                      rw [show d + 4 - N + 6 + N = d + 10 by omega] at sub
                      obtain ⟨ν, n1, n2, n3⟩ := sub V S g ok fm_r
                      have n1' : mcall (d + 10) 199 [(30, 64), (0, 1), (0, ((N + 1 : Nat) : Int)), (0, (hh : Int)), (0, (rr : Int))] S = _ := n1
                      have st : ∀ (w : Nat) (f de u : Int) (T : mM), w < 2 → gM T = V → fm MT S T → ∃ μ, gM μ = V ∧ fm MT S μ ∧ mgo (mcall (d + 10)) (mX 200 S) 200 111 [(30, 64), (0, (hh : Int)), (0, (rr : Int)), (0, ((N + 1 : Nat) : Int)), (0, x4), (0, f), (0, de), (0, (w : Int)), (0, u)] [] T =
                          mgo (mcall (d + 10)) (mX 200 S) 200 111 [(30, 64), (0, (hh : Int)), (0, (rr : Int)), (0, ((N + 1 : Nat) : Int)), (0, x4), (0, pkA 1 f (tuA L (H 0 (hh / 10)).toNat (H 0 (hh % 10)).toNat (rr / 10) (rr % 10) N 1 (moveA (rr / 10) w V))), (0, dkA 1 f (tuA L (H 0 (hh / 10)).toNat (H 0 (hh % 10)).toNat (rr / 10) (rr % 10) N 1 (moveA (rr / 10) w V)) de (w : Int)), (0, ((w + 1 : Nat) : Int)), (0, tuA L (H 0 (hh / 10)).toNat (H 0 (hh % 10)).toNat (rr / 10) (rr % 10) N 1 (moveA (rr / 10) w V))] [] μ := by
                        intro w f de u T hw gT FT
                        obtain ⟨α, a1, a2, a3⟩ := s_175v (d := d + 8) (rw := 2 * (rr / 10) + w) gT ok (by omega)
                        rw [show (2 * (rr / 10) + w) / 2 = rr / 10 by omega, show (2 * (rr / 10) + w) % 2 = w by omega] at a2
                        have ok2 := okC_move (l := rr / 10) (way := w) ok hra
                        have F2 := fm_t FT (fm_m a3 (by simp) : fm MT T α)
                        obtain ⟨β, c1, c2, c3⟩ := sub _ α a2 ok2 F2
                        have c1' : mcall (d + 10) 199 [(30, 64), (0, 1), (0, ((N + 1 : Nat) : Int)), (0, (hh : Int)), (0, (rr : Int))] α = _ := c1
                        obtain ⟨γ, e1, e2, e3⟩ := s_175v (d := d + 8) (rw := 2 * (rr / 10) + (1 - w)) c2 ok2 (by omega)
                        rw [show (2 * (rr / 10) + (1 - w)) / 2 = rr / 10 by omega, show (2 * (rr / 10) + (1 - w)) % 2 = 1 - w by omega, move_u hw] at e2
                        refine ⟨γ, e2, fm_t (fm_t F2 c3) (fm_m e3 (by simp)), ?_⟩
                        rw [b_200_111, bLt_t (by omega), bEq_f (by omega), t10_v rr h2', w_2rw hra hw, a1, bK_t, c1', bK_t, bEq_f (by omega), w_2ru hra hw, e1, bK_t, w32_n (by omega), dk_e, pk_e]
                        generalize tuA L (H 0 (hh / 10)).toNat (H 0 (hh % 10)).toNat (rr / 10) (rr % 10) N 1 (moveA (rr / 10) w V) = x
                        by_cases hx : f < x
                        · rw [bLt_t hx, if_pos hx, if_pos hx]
                        · rw [bLt_f (by omega), if_neg hx, if_neg hx]
                      have u : ∀ (f : Int), mgo (mcall (d + 10)) (mX 200 S) 200 111 [(30, 64), (0, (hh : Int)), (0, (rr : Int)), (0, ((N + 1 : Nat) : Int)), (0, x4), (0, f), (0, 2), (0, 0), (2, 0)] [] ν = mgo (mcall (d + 10)) (mX 200 S) 200 111 [(30, 64), (0, (hh : Int)), (0, (rr : Int)), (0, ((N + 1 : Nat) : Int)), (0, x4), (0, f), (0, 2), (0, 0), (0, 0)] [] ν := fun f => (b_200_111a _ _ _ _ _ _ _ _ _ _).trans (b_200_111 _ _ _ _ _ _ _ _ _ _ _).symm
                      obtain ⟨σ1, y1, y2, y3⟩ := st 0 (tuA L (H 0 (hh / 10)).toNat (H 0 (hh % 10)).toNat (rr / 10) (rr % 10) N 1 V) 2 0 ν (by omega) n2 n3
                      obtain ⟨σ2, v1, v2, v3⟩ := st 1 (pkA 1 (tuA L (H 0 (hh / 10)).toNat (H 0 (hh % 10)).toNat (rr / 10) (rr % 10) N 1 V) (tuA L (H 0 (hh / 10)).toNat (H 0 (hh % 10)).toNat (rr / 10) (rr % 10) N 1 (moveA (rr / 10) 0 V))) (dkA 1 (tuA L (H 0 (hh / 10)).toNat (H 0 (hh % 10)).toNat (rr / 10) (rr % 10) N 1 V) (tuA L (H 0 (hh / 10)).toNat (H 0 (hh % 10)).toNat (rr / 10) (rr % 10) N 1 (moveA (rr / 10) 0 V)) 2 0) (tuA L (H 0 (hh / 10)).toNat (H 0 (hh % 10)).toNat (rr / 10) (rr % 10) N 1 (moveA (rr / 10) 0 V)) σ1 (by omega) y1 y2
                      rw [if_pos h5, if_pos (by omega), bEq_f (by omega), n1', bK_t, u]
                      refine ⟨σ2, (y3.trans v3).trans ?_, v2, v1⟩
                      rw [b_200_111, bLt_f (by omega), tn_n]
                      by_cases h6 : x4 = 0
                      · rw [bEq_t h6, if_pos h6]; rfl
                      · rw [bEq_f h6, if_neg h6]; rfl
                    · rw [if_neg h5, if_neg (by omega), bEq_t (by rfl)]; exact ⟨S, rfl, fm_r, g⟩
                  · rw [if_neg h3, if_neg (by omega), bEq_t (by rfl)]; exact ⟨S, rfl, fm_r, g⟩
              · rw [bLt_f (by omega), if_neg (by omega)]; exact ⟨S, rfl, fm_r, g⟩
            · rw [bLt_f (by omega), if_neg (by omega)]; exact ⟨S, rfl, fm_r, g⟩
      · rw [if_neg (by omega), bEq_t (by rfl), if_neg (by omega)]; exact ⟨S, rfl, fm_r, g⟩
    · rw [if_neg (by omega), bEq_t (by rfl), if_neg (by omega)]; exact ⟨S, rfl, fm_r, g⟩
end
