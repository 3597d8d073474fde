/-! PURE PART 13: warmth -/
def evL (N : Nat → Int) : List (List Int × List Int) → Int
  | [] => 0
  | (Q, A) :: r => if Q.length = 0 then (ev N A []).headD 0 else if (ev N Q []).headD 0 = 0 then evL N r else (ev N A []).headD 0
def clA (v : Int) : Int := if 0 < (if v < 99 then v else 99) then (if v < 99 then v else 99) else 0
def wfA (L : List (List Int × List Int)) (V : cV) (q : Nat) : Int := clA (if L.length = 0 then w32 (w32 (w32 (V 0 q * V 1 q) + w32 (Int.tdiv (nearA (V 1) q) 4)) - V 2 q) else evL (nmA V q) L)
theorem clA_b (v : Int) : 0 ≤ clA v ∧ clA v ≤ 99 := by
  unfold clA
  repeat' split
  all_goals omega
theorem wfA_b {L : List (List Int × List Int)} {V : cV} {q : Nat} : 0 ≤ wfA L V q ∧ wfA L V q ≤ 99 := clA_b _
def lawC (τ : mM) (w : Nat) : Nat → Nat → List (List Int × List Int) → Prop
  | _, p, [] => τ w 5 = (p : Int) ∧ p ≤ 120
  | o, p, (Q, A) :: r => if Q.length = 0 then (segC τ w o A ∧ vld 0 A ∧ τ (w + 3) p = ((o + A.length : Nat) : Int) ∧ τ (w + 4) p = 0 ∧ o + A.length ≤ 120 ∧ lawC τ w (o + A.length) (p + 1) r)
    else (segC τ w o Q ∧ vld 0 Q ∧ τ (w + 3) p = ((o + Q.length : Nat) : Int) ∧ τ (w + 4) p = 1 ∧ segC τ w (o + Q.length) A ∧ vld 0 A ∧ τ (w + 3) (p + 1) = ((o + Q.length + A.length : Nat) : Int) ∧ τ (w + 4) (p + 1) = 0 ∧ o + Q.length + A.length ≤ 120 ∧ lawC τ w (o + Q.length + A.length) (p + 2) r)
theorem lawC_p {τ : mM} {w : Nat} : ∀ {L : List (List Int × List Int)} {o p : Nat}, lawC τ w o p L → ∃ P : Nat, τ w 5 = (P : Int) ∧ p ≤ P ∧ P ≤ 120 := by
  intro L
  induction L with
  | nil => intro o p h; exact ⟨p, h.1, Nat.le_refl _, h.2⟩
  | cons a r ih =>
    obtain ⟨Q, A⟩ := a
    intro o p h
    unfold lawC at h
    split at h
    · obtain ⟨P, h1, h2, h3⟩ := ih h.2.2.2.2.2; exact ⟨P, h1, by omega, h3⟩
    · obtain ⟨P, h1, h2, h3⟩ := ih h.2.2.2.2.2.2.2.2.2; exact ⟨P, h1, by omega, h3⟩
theorem segC_f {l : List Nat} {τ μ : mM} {w : Nat} (F : fr l τ μ) (h1 : w + 1 ∉ l) (h2 : w + 2 ∉ l) : ∀ {s : List Int} {o : Nat}, segC τ w o s → segC μ w o s := by
  intro s
  induction s with
  | nil => intro o _; trivial
  | cons c r ih => intro o h; exact ⟨(fr_e F h1 o).trans h.1, (fr_e F h2 o).trans h.2.1, ih h.2.2⟩
theorem lawC_f {l : List Nat} {τ μ : mM} {w : Nat} (F : fr l τ μ) (h0 : w ∉ l) (h1 : w + 1 ∉ l) (h2 : w + 2 ∉ l) (h3 : w + 3 ∉ l) (h4 : w + 4 ∉ l) : ∀ {L : List (List Int × List Int)} {o p : Nat}, lawC τ w o p L → lawC μ w o p L := by
  intro L
  induction L with
  | nil => intro o p h; exact ⟨(fr_e F h0 5).trans h.1, h.2⟩
  | cons a r ih =>
    obtain ⟨Q, A⟩ := a
    intro o p h
    unfold lawC at h ⊢
    split at h
    · next hq =>
      rw [if_pos hq]
      obtain ⟨a1, a2, a3, a4, a5, a6⟩ := h
      exact ⟨segC_f F h1 h2 a1, a2, (fr_e F h3 _).trans a3, (fr_e F h4 _).trans a4, a5, ih a6⟩
    · next hq =>
      rw [if_neg hq]
      obtain ⟨a1, a2, a3, a4, b1, b2, b3, b4, a5, a6⟩ := h
      exact ⟨segC_f F h1 h2 a1, a2, (fr_e F h3 _).trans a3, (fr_e F h4 _).trans a4, segC_f F h1 h2 b1, b2, (fr_e F h3 _).trans b3, (fr_e F h4 _).trans b4, a5, ih a6⟩
theorem s_25l {d w c : Nat} {mx : Int × Int} {q : Int} {τ : mM} {N : Nat → Int} (hN : ∀ i, i < 6 → τ (w + 6) i = N i) : ∀ (L : List (List Int × List Int)) (o p : Nat) (μ : mM), fr [w + 5] τ μ → ((p = 0 ∧ o = 0) ∨ (0 < p ∧ τ (w + 3) (p - 1) = (o : Int))) → lawC τ w o p L → ∃ μ', mgo (mcall (d + 2)) mx 25 50 [(22, (w : Int)), (21, (c : Int)), (0, q), (0, 0), (0, (p : Int))] [] μ = some (clA (evL N L), μ') ∧ fr [w + 5] τ μ' := by
  intro L
  induction L with
  | nil =>
    intro o p μ F hst G
    refine ⟨μ, ?_, F⟩
    rw [b_25_50, fr_e F (by simp), G.1, bLt_f (by omega)]
    rfl
  | cons a r ih =>
    obtain ⟨Q, A⟩ := a
    intro o p μ F hst G
    have hN' : ∀ μ, fr [w + 5] τ μ → ∀ i, i < 6 → μ (w + 6) i = N i := fun μ F i hi => (fr_e F (by simp) i).trans (hN i hi)
    have hst' : ∀ μ, fr [w + 5] τ μ → ∀ p o : Nat, ((p = 0 ∧ o = 0) ∨ (0 < p ∧ τ (w + 3) (p - 1) = (o : Int))) → ((p = 0 ∧ o = 0) ∨ (0 < p ∧ μ (w + 3) (p - 1) = (o : Int))) := fun μ F p o h => h.elim (fun h => Or.inl h) (fun h => Or.inr ⟨h.1, (fr_e F (by simp) _).trans h.2⟩)
    obtain ⟨P, hP, hpP, hP2⟩ := lawC_p G
    have hP1 : ∀ μ, fr [w + 5] τ μ → μ w 5 = (P : Int) := fun μ F => (fr_e F (by simp) _).trans hP
    have hw4 : ∀ μ, fr [w + 5] τ μ → ∀ j, μ (w + 4) j = τ (w + 4) j := fun μ F j => fr_e F (by simp) j
    have hw3 : ∀ μ, fr [w + 5] τ μ → ∀ j, μ (w + 3) j = τ (w + 3) j := fun μ F j => fr_e F (by simp) j
    unfold lawC at G
    by_cases hQ : Q.length = 0
    · rw [if_pos hQ] at G
      obtain ⟨a1, a2, a3, a4, a5, a6⟩ := G
      obtain ⟨P2, g1, g2, g3⟩ := lawC_p a6
      have hPP : P2 = P := by rw [hP] at g1; omega
      obtain ⟨μ', z1, z2⟩ := s_27 (d := d) (w := w) (p := p) (o := o) (τ := μ) (N := N) (by omega) a5 ((hw3 μ F p).trans a3) (hN' μ F) (hst' μ F p o hst) rfl (segC_f F (by simp) (by simp) a1) a2
      have F' := fr_t F z2
      refine ⟨μ', ?_, F'⟩
      rw [b_25_50, hP1 μ F, bLt_t (by omega), z1, bK_t, bIn_t (by omega), tn_n, hw4 μ' F', a4, bEq_t (by rfl), show evL N ((Q, A) :: r) = (ev N A []).headD 0 from if_pos hQ]
      rfl
    · rw [if_neg hQ] at G
      obtain ⟨a1, a2, a3, a4, b1, b2, b3, b4, a5, a6⟩ := G
      obtain ⟨P2, g1, g2, g3⟩ := lawC_p a6
      have hPP : P2 = P := by rw [hP] at g1; omega
      obtain ⟨μ', z1, z2⟩ := s_27 (d := d) (w := w) (p := p) (o := o) (τ := μ) (N := N) (by omega) (by omega) ((hw3 μ F p).trans a3) (hN' μ F) (hst' μ F p o hst) rfl (segC_f F (by simp) (by simp) a1) a2
      have F' := fr_t F z2
      rw [b_25_50, hP1 μ F, bLt_t (by omega), z1, bK_t, bIn_t (by omega), tn_n, hw4 μ' F', a4, bEq_f (by omega), show evL N ((Q, A) :: r) = if (ev N Q []).headD 0 = 0 then evL N r else (ev N A []).headD 0 from if_neg hQ, w32_n (by omega), w32_n (by omega)]
      by_cases h0 : (ev N Q []).headD 0 = 0
      · rw [bEq_t h0, if_pos h0, h0]
        exact ih (o + Q.length + A.length) (p + 2) μ' F' (Or.inr ⟨by omega, b3⟩) a6
      · rw [bEq_f h0, if_neg h0]
        obtain ⟨ν, y1, y2⟩ := s_27 (d := d) (w := w) (p := p + 1) (o := o + Q.length) (τ := μ') (N := N) (by omega) a5 ((hw3 μ' F' _).trans b3) (hN' μ' F') (hst' μ' F' (p + 1) (o + Q.length) (Or.inr ⟨by omega, a3⟩)) rfl (segC_f F' (by simp) (by simp) b1) b2
        have F2 := fr_t F' y2
        refine ⟨ν, ?_, F2⟩
        rw [b_25_50, hP1 μ' F', bLt_t (by omega), y1, bK_t, bIn_t (by omega), tn_n, hw4 ν F2, b4, bEq_t (by rfl)]
        rfl
theorem s_25 {d c w q : Nat} {τ : mM} {V : cV} {L : List (List Int × List Int)} (hap : c + 5 ≤ w ∨ w + 7 ≤ c) (h : gC c τ = V) (ok : okC V) (hq : q < 30) (G : lawC τ w 0 0 L) : ∃ μ, mcall (d + 3) 25 [(22, (w : Int)), (21, (c : Int)), (0, (q : Int))] τ = some (wfA L V q, μ) ∧ fr [w + 5, w + 6] τ μ := by
  have a0 : τ (c + 1) q = V 0 q := gC_0 h hq
  have a1 : τ (c + 2) q = V 1 q := gC_1 h hq
  have a2 : τ (c + 3) q = V 2 q := gC_2 h hq
  rw [e_25]
  unfold wfA
  cases L with
  | nil =>
    refine ⟨τ, ?_, fr_r⟩
    have h5 : τ w 5 = 0 := G.1
    rw [h5, bEq_t (by rfl), bIn_t (by omega), bIn_t (by omega), s_13' h ok hq, bK_t, bEq_f (by omega), bIn_t (by omega), b_25_50, h5, bLt_f (by omega), tn_n, a0, a1, a2, if_pos (show ([] : List (List Int × List Int)).length = 0 from rfl)]
    rfl
  | cons a r =>
    obtain ⟨P, h1, h2, h3⟩ : ∃ P : Nat, τ w 5 = (P : Int) ∧ 0 < P ∧ P ≤ 120 := by
      obtain ⟨Q, A⟩ := a
      unfold lawC at G
      split at G
      · obtain ⟨P, h1, h2, h3⟩ := lawC_p G.2.2.2.2.2; exact ⟨P, h1, by omega, h3⟩
      · obtain ⟨P, h1, h2, h3⟩ := lawC_p G.2.2.2.2.2.2.2.2.2; exact ⟨P, h1, by omega, h3⟩
    obtain ⟨μ, m1, m2, m3⟩ := s_26 (d := d) (w := w) hap h ok hq
    obtain ⟨μ', z1, z2⟩ := s_25l (d := d) (c := c) (mx := mX 25 τ) (q := (q : Int)) (N := nmA V q) m3 (a :: r) 0 0 μ fr_r (Or.inl ⟨rfl, rfl⟩) (lawC_f m2 (by simp) (by simp) (by simp) (by simp) (by simp) G)
    refine ⟨μ', ?_, fr_t (fr_m m2 (by simp)) (fr_m z2 (by simp))⟩
    rw [h1, bEq_f (by omega), m1, bK_t, if_neg (by simp)]
    exact z1
/-! the model's -/
theorem s_165l {d o0 e : Nat} {mx : Int × Int} {τ : mM} {N : Nat → Int} {v1 : Int} (he : e ≤ 120) (hN : ∀ i, i < 6 → τ 80 i = N i) : ∀ (l : List Int) (o : Nat) (s : List Int) (v : Int) (μ : mM), o + l.length = e → s.length ≤ o → fr [79] τ μ → stk (μ 79) s → segM τ 74 o l → vld s.length l → ∃ μ', mgo (mcall (d + 1)) mx 165 5 [(30, 64), (0, v1), (0, (e : Int)), (0, (s.length : Int)), (0, (o : Int)), (0, v)] [] μ = some ((ev N l s).headD 0, μ') ∧ fr [79] τ μ' := by
  intro l
  induction l with
  | nil =>
    intro o s v μ ho hs F S _ hv
    have ho : o = e := ho
    have h1 : s.length = 1 := hv
    match s, h1 with
    | [x], _ =>
      refine ⟨μ, ?_, F⟩
      rw [b_165_5, bLt_f (by omega), bIn_t (by omega), show μ 79 0 = x from S.1]
      rfl
  | cons c r ih =>
    intro o s v μ ho hs F S G hv
    obtain ⟨g1, g3⟩ := G
    have q1 : μ 74 o = c := (fr_e F (by simp) o).trans g1
    have ho : o + (r.length + 1) = e := ho
    have hl : s.length < 120 := by omega
    have b := b_165_5 (mcall (d + 1)) mx v1 (e : Int) (s.length : Int) (o : Int) v μ
    rw [bLt_t (by omega), bIn_t (by omega)] at b
    simp only [tn_n, q1] at b
    unfold vld at hv
    by_cases h18 : 18 ≤ c
    · rw [if_pos h18] at hv
      obtain ⟨μ', z1, z2⟩ := ih (o + 1) ((c - 18) :: s) c (mset μ 79 s.length (c - 18)) (by omega) (by show s.length + 1 ≤ o + 1; omega) (fr_s F (by simp)) (stk_p S) g3 hv.2
      refine ⟨μ', ?_, z2⟩
      rw [bLt_f (by omega), bLt_f (by omega), bIn_t (by omega), w32_e (x := c - 18) (by omega), w32_n (by omega), w32_n (by omega)] at b
      rw [show ev N (c :: r) s = ev N r ((c - 18) :: s) from if_pos h18]
      exact b.trans z1
    · rw [if_neg h18] at hv
      by_cases h5 : c ≤ 5
      · rw [if_pos h5] at hv
        have e3 : μ 80 c.toNat = N c.toNat := (fr_e F (by simp) _).trans (hN _ (by omega))
        obtain ⟨μ', z1, z2⟩ := ih (o + 1) (N c.toNat :: s) c (mset μ 79 s.length (N c.toNat)) (by omega) (by show s.length + 1 ≤ o + 1; omega) (fr_s F (by simp)) (stk_p S) g3 hv.2
        refine ⟨μ', ?_, z2⟩
        rw [bLt_t (by omega), bLt_f (by omega), bLt_t (by omega), bIn_t (by omega), bIn_t (by omega), w32_n (by omega), w32_n (by omega), e3] at b
        rw [show ev N (c :: r) s = ev N r (N c.toNat :: s) from (if_neg h18).trans (if_pos h5)]
        exact b.trans z1
      · rw [if_neg h5] at hv
        by_cases h16 : 16 ≤ c
        · rw [if_pos h16] at hv
          obtain ⟨h17, hh, hv⟩ := hv
          match s, hh, hs, S, hv, hl, b with
          | x :: t, _, hs, S, hv, hl, b =>
            have hl2 : t.length + 1 < 120 := hl
            have hlen : (((x :: t).length : Nat) : Int) = ((t.length + 1 : Nat) : Int) := rfl
            have w1 : w32 (((t.length + 1 : Nat) : Int) - 1) = (t.length : Int) := by rw [w32_e (by omega)]; omega
            have e4 : μ 79 t.length = x := S.1
            have S2 : ∀ v, stk (mset μ 79 t.length v 79) (v :: t) := fun v => stk_p S.2
            have hs2 : t.length + 1 ≤ o := hs
            rw [hlen] at b ⊢
            rw [show ev N (c :: r) (x :: t) = ev N r ((if c = 17 then w32 (-x) else if x = 0 then 1 else 0) :: t) from (if_neg h18).trans ((if_neg h5).trans (if_pos h16))]
            rcases (by omega : c = 16 ∨ c = 17) with rfl | rfl
            · rw [bLt_t (by omega), bLt_t (by omega), bEq_t (by rfl), bEq_f (by omega), w1, bIn_t (by omega), tn_n, e4] at b
              rw [if_neg (by omega)]
              obtain ⟨μ', z1, z2⟩ := ih (o + 1) ((if x = 0 then 1 else 0) :: t) 16 (mset μ 79 t.length (if x = 0 then 1 else 0)) (by omega) (by show t.length + 1 ≤ o + 1; omega) (fr_s F (by simp)) (S2 _) g3 hv
              refine ⟨μ', ?_, z2⟩
              by_cases hx : x = 0
              · rw [bEq_t hx, bIn_t (by omega), w32_n (by omega)] at b
                rw [if_pos hx] at z1 ⊢
                exact b.trans z1
              · rw [bEq_f hx, bIn_t (by omega), w32_n (by omega)] at b
                rw [if_neg hx] at z1 ⊢
                exact b.trans z1
            · obtain ⟨μ', z1, z2⟩ := ih (o + 1) (w32 (-x) :: t) 17 (mset μ 79 t.length (w32 (-x))) (by omega) (by show t.length + 1 ≤ o + 1; omega) (fr_s F (by simp)) (S2 _) g3 hv
              refine ⟨μ', ?_, z2⟩
              rw [bLt_t (by omega), bLt_t (by omega), bEq_f (by omega), bEq_t (by rfl), bEq_t (by rfl), w1, bIn_t (by omega), bIn_t (by omega), tn_n, e4, w32_n (by omega)] at b
              rw [if_pos rfl]
              exact b.trans z1
        · rw [if_neg h16] at hv
          obtain ⟨hh, hv⟩ := hv
          match s, hh, hs, S, hv, hl, b with
          | y :: x :: t, _, hs, S, hv, hl, b =>
            have hl2 : t.length + 2 < 120 := hl
            have hs2 : t.length + 2 ≤ o := hs
            have hlen : (((y :: x :: t).length : Nat) : Int) = ((t.length + 2 : Nat) : Int) := rfl
            have w1 : w32 (((t.length + 2 : Nat) : Int) + (-1)) = ((t.length + 1 : Nat) : Int) := by rw [w32_e (by omega)]; omega
            have w2 : w32 (((t.length + 1 : Nat) : Int) - 1) = (t.length : Int) := by rw [w32_e (by omega)]; omega
            have e4 : μ 79 (t.length + 1) = y := S.1
            have e5 : μ 79 t.length = x := S.2.1
            obtain ⟨μ', z1, z2⟩ := ih (o + 1) (joA c x y :: t) c (mset μ 79 t.length (joA c x y)) (by omega) (by show t.length + 1 ≤ o + 1; omega) (fr_s F (by simp)) (stk_p S.2.2) g3 hv
            refine ⟨μ', ?_, z2⟩
            rw [hlen] at b ⊢
            rw [bLt_t (by omega), bLt_t (by omega), bEq_f (by omega), bEq_f (by omega), w1, w2, bIn_t (by omega), bIn_t (by omega), tn_n, tn_n, e4, e5, s_164 (by omega), bK_t, bIn_t (by omega), w32_n (by omega)] at b
            rw [show ev N (c :: r) (y :: x :: t) = ev N r (joA c x y :: t) from (if_neg h18).trans ((if_neg h5).trans (if_neg h16))]
            exact b.trans z1
theorem s_165 {d o e : Nat} {τ : mM} {N : Nat → Int} {l : List Int} (he : e ≤ 120) (hN : ∀ i, i < 6 → τ 80 i = N i) (ho : o + l.length = e) (G : segM τ 74 o l) (hv : vld 0 l) : ∃ μ', mcall (d + 2) 165 [(30, 64), (0, (o : Int)), (0, (e : Int))] τ = some ((ev N l []).headD 0, μ') ∧ fr [79] τ μ' := by
  obtain ⟨μ', z1, z2⟩ := s_165l (d := d) (mx := mX 165 τ) (v1 := (o : Int)) (o0 := o) he hN l o [] 0 τ ho (Nat.zero_le _) fr_r trivial G hv
  refine ⟨μ', ?_, z2⟩
  rw [e_165]
  exact ((b_165_5a _ _ _ _ _ _ _).trans (b_165_5 _ _ _ _ _ _ _ _).symm).trans z1
def lawM (τ : mM) : Nat → Nat → List (List Int × List Int) → Prop
  | _, i, [] => τ 64 10 = (i : Int) ∧ i ≤ 60
  | o, i, (Q, A) :: r => τ 71 i = (o : Int) ∧ τ 72 i = ((o + Q.length : Nat) : Int) ∧ τ 73 i = ((o + Q.length + A.length : Nat) : Int) ∧ segM τ 74 o Q ∧ segM τ 74 (o + Q.length) A ∧ (Q.length = 0 ∨ vld 0 Q) ∧ vld 0 A ∧ o + Q.length + A.length ≤ 120 ∧ lawM τ (o + Q.length + A.length) (i + 1) r
theorem lawM_p {τ : mM} : ∀ {L : List (List Int × List Int)} {o p : Nat}, lawM τ o p L → ∃ P : Nat, τ 64 10 = (P : Int) ∧ p ≤ P ∧ P ≤ 60 := by
  intro L
  induction L with
  | nil => intro o p h; exact ⟨p, h.1, Nat.le_refl _, h.2⟩
  | cons a r ih =>
    obtain ⟨Q, A⟩ := a
    intro o p h
    obtain ⟨P, h1, h2, h3⟩ := ih h.2.2.2.2.2.2.2.2
    exact ⟨P, h1, by omega, h3⟩
theorem segM_f {l : List Nat} {τ μ : mM} {x : Nat} (F : fr l τ μ) (h1 : x ∉ l) : ∀ {s : List Int} {o : Nat}, segM τ x o s → segM μ x o s := by
  intro s
  induction s with
  | nil => intro o _; trivial
  | cons c r ih => intro o h; exact ⟨(fr_e F h1 o).trans h.1, ih h.2⟩
theorem lawM_g {τ μ : mM} (h0 : μ 64 10 = τ 64 10) (h1 : μ 71 = τ 71) (h2 : μ 72 = τ 72) (h3 : μ 73 = τ 73) (h4 : μ 74 = τ 74) : ∀ {L : List (List Int × List Int)} {o p : Nat}, lawM τ o p L → lawM μ o p L := by
  have sg : ∀ {s : List Int} {o : Nat}, segM τ 74 o s → segM μ 74 o s := by
    intro s
    induction s with
    | nil => intro o _; trivial
    | cons c r ih => intro o h; exact ⟨(by rw [h4]; exact h.1), ih h.2⟩
  intro L
  induction L with
  | nil => intro o p h; exact ⟨h0.trans h.1, h.2⟩
  | cons a r ih =>
    obtain ⟨Q, A⟩ := a
    intro o p h
    obtain ⟨a1, a2, a3, a4, a5, a6, a7, a8, a9⟩ := h
    exact ⟨by rw [h1]; exact a1, by rw [h2]; exact a2, by rw [h3]; exact a3, sg a4, sg a5, a6, a7, a8, ih a9⟩
theorem s_168l {d : Nat} {mx : Int × Int} {q : Int} {τ : mM} {N : Nat → Int} (hN : ∀ i, i < 6 → τ 80 i = N i) : ∀ (L : List (List Int × List Int)) (o i : Nat) (μ : mM), fr [79] τ μ → lawM τ o i L → ∃ μ', mgo (mcall (d + 2)) mx 168 71 [(30, 64), (0, q), (0, (i : Int))] [] μ = some (evL N L, μ') ∧ fr [79] τ μ' := by
  intro L
  induction L with
  | nil =>
    intro o p μ F G
    refine ⟨μ, ?_, F⟩
    rw [b_168_71, fr_e F (by simp), G.1, bLt_f (by omega)]
    rfl
  | cons a r ih =>
    obtain ⟨Q, A⟩ := a
    intro o p μ F G
    have hN' : ∀ μ, fr [79] τ μ → ∀ i, i < 6 → μ 80 i = N i := fun μ F i hi => (fr_e F (by simp) i).trans (hN i hi)
    obtain ⟨P, hP, hpP, hP2⟩ := lawM_p G
    obtain ⟨a1, a2, a3, a4, a5, a6, a7, a8, a9⟩ := G
    obtain ⟨P2, g1, g2, g3⟩ := lawM_p a9
    have hPP : P2 = P := by rw [hP] at g1; omega
    have k1 : ∀ μ, fr [79] τ μ → μ 71 p = (o : Int) := fun μ F => (fr_e F (by simp) _).trans a1
    have k2 : ∀ μ, fr [79] τ μ → μ 72 p = ((o + Q.length : Nat) : Int) := fun μ F => (fr_e F (by simp) _).trans a2
    have k3 : ∀ μ, fr [79] τ μ → μ 73 p = ((o + Q.length + A.length : Nat) : Int) := fun μ F => (fr_e F (by simp) _).trans a3
    have b := b_168_71 (mcall (d + 2)) mx q (p : Int) μ
    rw [fr_e F (by simp) 10, hP, bLt_t (by omega), bIn_t (by omega), bIn_t (by omega), tn_n, k1 μ F, k2 μ F] at b
    by_cases hQ : Q.length = 0
    · obtain ⟨ν, y1, y2⟩ := s_165 (d := d) (o := o + Q.length) (τ := μ) (N := N) a8 (hN' μ F) rfl (segM_f F (by simp) a5) a7
      rw [bLt_f (by omega), bIn_t (by omega), bIn_t (by omega), k3 μ F, y1, bK_t] at b
      exact ⟨ν, by rw [show evL N ((Q, A) :: r) = (ev N A []).headD 0 from if_pos hQ]; exact b, fr_t F y2⟩
    · obtain ⟨ν, y1, y2⟩ := s_165 (d := d) (o := o) (τ := μ) (N := N) (by omega) (hN' μ F) rfl (segM_f F (by simp) a4) (a6.resolve_left hQ)
      have F' := fr_t F y2
      rw [bLt_t (by omega), bIn_t (by omega), bIn_t (by omega), y1, bK_t] at b
      rw [show evL N ((Q, A) :: r) = if (ev N Q []).headD 0 = 0 then evL N r else (ev N A []).headD 0 from if_neg hQ]
      by_cases h0 : (ev N Q []).headD 0 = 0
      · rw [bEq_t h0, w32_n (by omega)] at b
        rw [if_pos h0]
        obtain ⟨μ', z1, z2⟩ := ih _ (p + 1) ν F' a9
        exact ⟨μ', b.trans z1, z2⟩
      · obtain ⟨ξ, x1, x2⟩ := s_165 (d := d) (o := o + Q.length) (τ := ν) (N := N) a8 (hN' ν F') rfl (segM_f F' (by simp) a5) a7
        rw [bEq_f h0, bIn_t (by omega), bIn_t (by omega), k2 ν F', k3 ν F', x1, bK_t] at b
        rw [if_neg h0]
        exact ⟨ξ, b, fr_t F' x2⟩
theorem s_168 {d q : Nat} {τ : mM} {V : cV} {L : List (List Int × List Int)} (h : gM τ = V) (ok : okC V) (hq : q < 30) (G : lawM τ 0 0 L) : ∃ μ, mcall (d + 3) 168 [(30, 64), (0, (q : Int))] τ = some (evL (nmA V q) L, μ) ∧ fr [79, 80] τ μ := by
  have a0 : τ 65 q = V 0 q := gM_0 h hq
  have a1 : τ 66 q = V 1 q := gM_1 h hq
  have a2 : τ 67 q = V 2 q := gM_2 h hq
  have a3 : τ 69 0 = V 3 0 := gM_3 h
  have r1 : ∀ (a i j : Nat) (v : Int) (τ : mM), a ≠ 80 → mset τ 80 i v a j = τ a j := fun a i j v τ h1 => ms_n (Or.inl h1)
  have v : w32 (Int.tdiv (q : Int) 6) = ((q / 6 : Nat) : Int) := by rw [show Int.tdiv (q : Int) 6 = ((q / 6 : Nat) : Int) from rfl, w32_e (by omega)]
  rw [e_168, bIn_t (by omega), bIn_t (by omega), bIn_t (by omega), bIn_t (by omega), bIn_t (by omega), bIn_t (by omega), bIn_t (by omega), bIn_t (by omega), tn_n]
  simp only [r1 66 _ _ _ _ (by omega), r1 67 _ _ _ _ (by omega), r1 69 _ _ _ _ (by omega), a0, a1, a2, a3]
  have F : ∀ i v μ, fr [80] τ μ → fr [80] τ (mset μ 80 i v) := fun i v μ h => fr_s h (by simp)
  have g : ∀ μ, fr [80] τ μ → gM μ = V := fun μ hf => (gL_cg (hf _ (by simp)) (hf _ (by simp)) (hf _ (by simp)) (fr_e hf (by simp) _) (fr_e hf (by simp) _)).trans h
  rw [s_167' (g _ (F _ _ _ (F _ _ _ (F _ _ _ (F _ _ _ fr_r))))) ok hq, bK_t, bIn_t (by omega), bEq_f (by omega), bIn_t (by omega), v]
  have FF := F 5 ((q / 6 : Nat) : Int) _ (F 4 (nearA (V 1) q) _ (F 3 (V 3 0) _ (F 2 (V 2 q) _ (F 1 (V 1 q) _ (F 0 (V 0 q) _ fr_r)))))
  have lw : lawM (mset (mset (mset (mset (mset (mset τ 80 0 (V 0 q)) 80 1 (V 1 q)) 80 2 (V 2 q)) 80 3 (V 3 0)) 80 4 (nearA (V 1) q)) 80 5 ((q / 6 : Nat) : Int)) 0 0 L := lawM_g (fr_e FF (by simp) _) (FF _ (by simp)) (FF _ (by simp)) (FF _ (by simp)) (FF _ (by simp)) G
  obtain ⟨μ', z1, z2⟩ := s_168l (d := d) (mx := mX 168 τ) (q := (q : Int)) (N := nmA V q) (fun i hi => by
    rcases (by omega : i = 0 ∨ i = 1 ∨ i = 2 ∨ i = 3 ∨ i = 4 ∨ i = 5) with rfl | rfl | rfl | rfl | rfl | rfl
    · rw [ms_n (by omega), ms_n (by omega), ms_n (by omega), ms_n (by omega), ms_n (by omega), ms_e]; rfl
    · rw [ms_n (by omega), ms_n (by omega), ms_n (by omega), ms_n (by omega), ms_e]; rfl
    · rw [ms_n (by omega), ms_n (by omega), ms_n (by omega), ms_e]; rfl
    · rw [ms_n (by omega), ms_n (by omega), ms_e]; rfl
    · rw [ms_n (by omega), ms_e]; rfl
    · rw [ms_e]; rfl) L 0 0 _ fr_r lw
  exact ⟨μ', z1, fr_t (fr_m FF (by simp)) (fr_m z2 (by simp))⟩
theorem s_169 {d q : Nat} {τ : mM} {V : cV} {L : List (List Int × List Int)} (h : gM τ = V) (ok : okC V) (hq : q < 30) (G : lawM τ 0 0 L) (ht : τ 64 9 = if L.length = 0 then 0 else 1) : ∃ μ, mcall (d + 4) 169 [(30, 64), (0, (q : Int))] τ = some (wfA L V q, μ) ∧ fr [79, 80] τ μ := by
  have a0 : τ 65 q = V 0 q := gM_0 h hq
  have a1 : τ 66 q = V 1 q := gM_1 h hq
  have a2 : τ 67 q = V 2 q := gM_2 h hq
  rw [e_169, ht]
  unfold wfA
  by_cases hL : L.length = 0
  · refine ⟨τ, ?_, fr_r⟩
    rw [if_pos hL, if_pos hL, bEq_t (by rfl), bIn_t (by omega), bIn_t (by omega), s_167' h ok hq, bK_t, bEq_f (by omega), bIn_t (by omega), tn_n, a0, a1, a2]
    rfl
  · obtain ⟨μ, z1, z2⟩ := s_168 (d := d) h ok hq G
    refine ⟨μ, ?_, z2⟩
    rw [if_neg hL, if_neg hL, bEq_f (by omega), z1, bK_t]
    rfl
