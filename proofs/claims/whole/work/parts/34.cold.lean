/-! PURE PART 14: what warmth rests on; who is cold -/
def CS : List Nat := [15, 16, 22, 23]
def CA : List Nat := [27, 28, 29, 30, 31]
def CT : List Nat := [15, 16, 22, 23, 26, 27, 28, 29, 30, 31, 32]
def envC (τ : mM) (L : List (List Int × List Int)) (H : Nat → Nat → Int) (n : Nat) (s : Int) : Prop := (∃ w : Nat, (w = 10 ∨ w = 17) ∧ τ 1 6 = (w : Int) ∧ lawC τ w 0 0 L) ∧ τ 1 4 = (n : Int) ∧ n ≤ 8 ∧ (∀ i, i < n → τ 7 i = H 0 i ∧ τ 8 i = H 1 i ∧ τ 9 i = H 2 i ∧ 0 ≤ H 0 i ∧ H 0 i < 30) ∧ τ 1 5 = s
def envM (τ : mM) (L : List (List Int × List Int)) (H : Nat → Nat → Int) (n : Nat) (s : Int) : Prop := lawM τ 0 0 L ∧ (τ 64 9 = if L.length = 0 then 0 else 1) ∧ τ 64 3 = (n : Int) ∧ n ≤ 8 ∧ (∀ i, i < n → τ 68 i = H 0 i ∧ τ 68 (8 + i) = H 1 i ∧ τ 68 (16 + i) = H 2 i ∧ 0 ≤ H 0 i ∧ H 0 i < 30) ∧ τ 69 1 = s
/-- what the model's cover and scratch change -/
def fm (l : List Nat) (σ τ : mM) : Prop := ∀ a j, a ∉ l → a ≠ 65 → a ≠ 66 → a ≠ 67 → ¬ (a = 69 ∧ j = 0) → ¬ (a = 64 ∧ j = 6) → τ a j = σ a j
theorem fm_r {l : List Nat} {σ : mM} : fm l σ σ := fun _ _ _ _ _ _ _ _ => rfl
theorem fm_t {l : List Nat} {σ τ υ : mM} (h : fm l σ τ) (g : fm l τ υ) : fm l σ υ := fun a j h1 h2 h3 h4 h5 h6 => (g a j h1 h2 h3 h4 h5 h6).trans (h a j h1 h2 h3 h4 h5 h6)
theorem fm_m {l m : List Nat} {σ τ : mM} (h : fm l σ τ) (g : ∀ a ∈ l, a ∈ m) : fm m σ τ := fun a j h1 => h a j (fun q => h1 (g a q))
theorem fm_f {l : List Nat} {σ τ : mM} (h : fr l σ τ) : fm l σ τ := fun _ j h1 _ _ _ _ _ => fr_e h h1 j
theorem fm_e {l : List Nat} {σ τ : mM} (h : fm l σ τ) {a : Nat} (ha : a ∉ l) (h2 : a ≠ 65 ∧ a ≠ 66 ∧ a ≠ 67 ∧ a ≠ 69 ∧ a ≠ 64) : τ a = σ a := funext fun j => h a j ha h2.1 h2.2.1 h2.2.2.1 (fun q => h2.2.2.2.1 q.1) (fun q => h2.2.2.2.2 q.1)
theorem envC_f {l : List Nat} {τ μ : mM} {L : List (List Int × List Int)} {H : Nat → Nat → Int} {n : Nat} {s : Int} (F : fr l τ μ) (hl : ∀ a ∈ l, a ∉ [1, 7, 8, 9, 10, 11, 12, 13, 14, 17, 18, 19, 20, 21]) (h : envC τ L H n s) : envC μ L H n s := by
  have k : ∀ a, a ∈ [1, 7, 8, 9, 10, 11, 12, 13, 14, 17, 18, 19, 20, 21] → a ∉ l := fun a h1 h2 => hl a h2 h1
  obtain ⟨⟨w, h1, h2, h3⟩, h4, h5, h6, h7⟩ := h
  have f1 := F 1 (k _ (by decide))
  have f7 := F 7 (k _ (by decide))
  have f8 := F 8 (k _ (by decide))
  have f9 := F 9 (k _ (by decide))
  refine ⟨⟨w, h1, by rw [f1]; exact h2, ?_⟩, by rw [f1]; exact h4, h5, by rw [f7, f8, f9]; exact h6, by rw [f1]; exact h7⟩
  rcases h1 with rfl | rfl
  · exact lawC_f F (k _ (by decide)) (k _ (by decide)) (k _ (by decide)) (k _ (by decide)) (k _ (by decide)) h3
  · exact lawC_f F (k _ (by decide)) (k _ (by decide)) (k _ (by decide)) (k _ (by decide)) (k _ (by decide)) h3
theorem envM_f {l : List Nat} {τ μ : mM} {L : List (List Int × List Int)} {H : Nat → Nat → Int} {n : Nat} {s : Int} (F : fm l τ μ) (hl : ∀ a ∈ l, a ∉ [64, 68, 69, 71, 72, 73, 74]) (h : envM τ L H n s) : envM μ L H n s := by
  have k : ∀ a, a ∈ [64, 68, 69, 71, 72, 73, 74] → a ∉ l := fun a h1 h2 => hl a h2 h1
  obtain ⟨h1, h2, h3, h4, h5, h6⟩ := h
  have f64 : ∀ j, j ≠ 6 → μ 64 j = τ 64 j := fun j hj => F 64 j (k _ (by decide)) (by decide) (by decide) (by decide) (by simp) (by simp [hj])
  have f69 : μ 69 1 = τ 69 1 := F 69 1 (k _ (by decide)) (by decide) (by decide) (by decide) (by simp) (by simp)
  have f68 := fm_e F (k 68 (by decide)) (by decide)
  refine ⟨lawM_g (f64 10 (by decide)) (fm_e F (k _ (by decide)) (by decide)) (fm_e F (k _ (by decide)) (by decide)) (fm_e F (k _ (by decide)) (by decide)) (fm_e F (k _ (by decide)) (by decide)) h1, (f64 9 (by decide)).trans h2, (f64 3 (by decide)).trans h3, h4, by rw [f68]; exact h5, f69.trans h6⟩
theorem opC {c : Nat} {f : mM → mA} {V V' : cV} {S : mM} (h : gC c S = V) (N' : nV V') (k : f (sL (c + 1) (c + 2) (c + 3) c 4 (c + 4) 0 V S) = some (0, sL (c + 1) (c + 2) (c + 3) c 4 (c + 4) 0 V' S)) : ∃ μ, f S = some (0, μ) ∧ gC c μ = V' ∧ fr [c, c + 1, c + 2, c + 3, c + 4] S μ ∧ ∀ j, j ≠ 0 → μ (c + 4) j = S (c + 4) j := by
  have e : sL (c + 1) (c + 2) (c + 3) c 4 (c + 4) 0 V S = S := by rw [← h]; exact sC_g
  rw [e] at k
  refine ⟨_, k, gC_s N', fr_L fr_r (by simp) (by simp) (by simp) (by simp) (by simp), fun j hj => sL_0 ?_⟩
  omega
theorem opM {f : mM → mA} {V V' : cV} {S : mM} (h : gM S = V) (N' : nV V') (k : f (sL 65 66 67 69 0 64 6 V S) = some (0, sL 65 66 67 69 0 64 6 V' S)) : ∃ μ, f S = some (0, μ) ∧ gM μ = V' ∧ fm [] S μ := by
  have e : sL 65 66 67 69 0 64 6 V S = S := by rw [← h]; exact sM_g
  rw [e] at k
  refine ⟨_, k, gM_s N', fun a j _ h2 h3 h4 h5 h6 => sL_0 ?_⟩
  omega
theorem gM_f {l : List Nat} {τ μ : mM} (F : fr l τ μ) (h : ∀ a ∈ l, a ∉ [64, 65, 66, 67, 69]) : gM μ = gM τ := by
  have k : ∀ a, a ∈ [64, 65, 66, 67, 69] → a ∉ l := fun a h1 h2 => h a h2 h1
  exact gL_cg (F _ (k _ (by decide))) (F _ (k _ (by decide))) (F _ (k _ (by decide))) (fr_e F (k _ (by decide)) _) (fr_e F (k _ (by decide)) _)
theorem w32_16 {h : Nat} (hh : h < 1000000) : w32 (16 + (h : Int)) = ((16 + h : Nat) : Int) := by rw [w32_e (by omega)]; omega
theorem w32_8 {h : Nat} (hh : h < 1000000) : w32 (8 + (h : Int)) = ((8 + h : Nat) : Int) := by rw [w32_e (by omega)]; omega
section
variable {d c n : Nat} {τ : mM} {V : cV} {L : List (List Int × List Int)} {H : Nat → Nat → Int} {s : Int}
theorem s_25e {w q : Nat} (hc : c = 2 ∨ c = 27) (h : gC c τ = V) (ok : okC V) (hq : q < 30) (E : envC τ L H n s) (hw : τ 1 6 = (w : Int)) : ∃ μ, mcall (d + 3) 25 [(22, (w : Int)), (21, (c : Int)), (0, (q : Int))] τ = some (wfA L V q, μ) ∧ fr CS τ μ := by
  obtain ⟨⟨w', h1, h2, h3⟩, -⟩ := E
  have e : w = w' := by rw [hw] at h2; omega
  subst e
  obtain ⟨μ, m1, m2⟩ := s_25 (d := d) (by omega) h ok hq h3
  refine ⟨μ, m1, fr_m m2 ?_⟩
  rcases h1 with rfl | rfl <;> decide
/-- whether a house is cold: 1, 0 -/
def cdA (L : List (List Int × List Int)) (H : Nat → Nat → Int) (V : cV) (h : Nat) : Int := if m32 (· &&& ·) (m32 (fun x y => x >>> (y &&& 31)) (H 2 h) (V 3 0)) 1 = 1 then (if wfA L V (H 0 h).toNat < H 1 h then 1 else 0) else 0
theorem cdA_b (h : Nat) : cdA L H V h = 0 ∨ cdA L H V h = 1 := by
  unfold cdA
  repeat' split
  all_goals omega
theorem s_43 {h : Nat} (hc : c = 2 ∨ c = 27) (g : gC c τ = V) (ok : okC V) (hh : h < n) (E : envC τ L H n s) : ∃ μ, mcall (d + 4) 43 [(24, 1), (21, (c : Int)), (0, (h : Int))] τ = some (cdA L H V h, μ) ∧ fr CS τ μ := by
  have E' := E
  obtain ⟨⟨w, h1, h2, h3⟩, h4, h5, h6, h7⟩ := E
  obtain ⟨p1, p2, p3, p4, p5⟩ := h6 h hh
  obtain ⟨q, hq⟩ : ∃ q : Nat, H 0 h = (q : Int) := ⟨(H 0 h).toNat, by omega⟩
  obtain ⟨μ, m1, m2⟩ := s_25e (d := d) hc g ok (q := q) (by omega) E' h2
  have e8 : μ 8 h = H 1 h := (fr_e m2 (by decide) h).trans p2
  rw [e_43, bIn_t (by omega), tn_n, p1, p3, gC_3 g, h2]
  unfold cdA
  by_cases k : m32 (· &&& ·) (m32 (fun x y => x >>> (y &&& 31)) (H 2 h) (V 3 0)) 1 = 1
  · rw [bEq_t k, if_pos k, bEq_f (by omega), bLt_f (by omega), bIn_t (by omega), hq, m1, bK_t, bIn_t (by omega), e8, tn_n]
    by_cases k2 : wfA L V q < H 1 h
    · rw [bLt_t k2, if_pos k2, bIn_t (by omega)]; exact ⟨μ, rfl, m2⟩
    · rw [bLt_f (by omega), if_neg k2, bIn_t (by omega)]; exact ⟨μ, rfl, m2⟩
  · rw [bEq_f k, if_neg k, bEq_t (by rfl), bIn_t (by omega)]; exact ⟨τ, rfl, fr_r⟩
theorem s_170 {h : Nat} (g : gM τ = V) (ok : okC V) (hh : h < n) (E : envM τ L H n s) : ∃ μ, mcall (d + 5) 170 [(30, 64), (0, (h : Int))] τ = some (cdA L H V h, μ) ∧ fr [79, 80] τ μ := by
  obtain ⟨h1, h2, h3, h4, h5, h6⟩ := E
  obtain ⟨p1, p2, p3, p4, p5⟩ := h5 h hh
  obtain ⟨q, hq⟩ : ∃ q : Nat, H 0 h = (q : Int) := ⟨(H 0 h).toNat, by omega⟩
  obtain ⟨μ, m1, m2⟩ := s_169 (d := d) g ok (q := q) (by omega) h1 h2
  have e8 : μ 68 (8 + h) = H 1 h := (fr_e m2 (by decide) _).trans p2
  rw [e_170, w32_16 (by omega), w32_8 (by omega), bIn_t (by omega), bIn_t (by omega), tn_n, tn_n, tn_n, p1, p3, gM_3 g]
  unfold cdA
  by_cases k : m32 (· &&& ·) (m32 (fun x y => x >>> (y &&& 31)) (H 2 h) (V 3 0)) 1 = 1
  · rw [bEq_t k, if_pos k, bIn_t (by omega), hq, m1, bK_t, bIn_t (by omega), e8, tn_n]
    by_cases k2 : wfA L V q < H 1 h
    · rw [bLt_t k2, if_pos k2, bIn_t (by omega)]; exact ⟨μ, rfl, m2⟩
    · rw [bLt_f (by omega), if_neg k2, bIn_t (by omega)]; exact ⟨μ, rfl, m2⟩
  · rw [bEq_f k, if_neg k, bIn_t (by omega)]; exact ⟨τ, rfl, fr_r⟩
def bitsA (L : List (List Int × List Int)) (H : Nat → Nat → Int) (V : cV) : Nat → Int
  | 0 => 0
  | k + 1 => if cdA L H V k = 0 then bitsA L H V k else m32 (· ||| ·) (bitsA L H V k) (m32 (fun x y => x <<< (y &&& 31)) 1 (k : Int))
theorem envC_S {μ : mM} (F : fr CS τ μ) (E : envC τ L H n s) : envC μ L H n s := envC_f F (by decide) E
theorem gC_S {μ : mM} (hc : c = 2 ∨ c = 27) (F : fr CS τ μ) : gC c μ = gC c τ := gC_f F (fun a h1 h2 => by
  simp only [CS, List.mem_cons, List.not_mem_nil, or_false]
  omega)
theorem envM_S {μ : mM} (F : fr [79, 80] τ μ) (E : envM τ L H n s) : envM μ L H n s := envM_f (fm_f F) (by decide) E
theorem s_44 (hc : c = 2 ∨ c = 27) (g : gC c τ = V) (ok : okC V) (E : envC τ L H n s) : ∃ μ, mcall (d + 5) 44 [(24, 1), (21, (c : Int))] τ = some (bitsA L H V n, μ) ∧ fr CS τ μ := by
  have hn : n ≤ 8 := E.2.2.1
  have h : ∀ (m k : Nat) (σ : mM), k + m = n → fr CS τ σ → ∃ μ, mgo (mcall (d + 4)) (mX 44 τ) 44 4 [(24, 1), (21, (c : Int)), (0, bitsA L H V k), (0, (k : Int))] [] σ = some (bitsA L H V n, μ) ∧ fr CS τ μ := by
    intro m
    induction m with
    | zero =>
      intro k σ hk F
      have E' := envC_S F E
      refine ⟨σ, ?_, F⟩
      rw [b_44_4, E'.2.1, bLt_f (by omega), show k = n by omega]
    | succ m ih =>
      intro k σ hk F
      have E' := envC_S F E
      obtain ⟨μ, m1, m2⟩ := s_43 (d := d) hc ((gC_S hc F).trans g) ok (show k < n by omega) E'
      obtain ⟨ν, n1, n2⟩ := ih (k + 1) μ (by omega) (fr_t F m2)
      refine ⟨ν, ?_, n2⟩
      rw [b_44_4, E'.2.1, bLt_t (by omega), m1, bK_t, w32_n (by omega)]
      rw [show bitsA L H V (k + 1) = if cdA L H V k = 0 then bitsA L H V k else m32 (· ||| ·) (bitsA L H V k) (m32 (fun x y => x <<< (y &&& 31)) 1 (k : Int)) from rfl] at n1
      by_cases k0 : cdA L H V k = 0
      · rw [if_pos k0] at n1; rw [bEq_t k0]; exact n1
      · rw [if_neg k0] at n1; rw [bEq_f k0]; exact n1
  rw [e_44]
  exact h n 0 τ (by omega) fr_r
theorem s_171 (g : gM τ = V) (ok : okC V) (E : envM τ L H n s) : ∃ μ, mcall (d + 6) 171 [(30, 64)] τ = some (bitsA L H V n, μ) ∧ fr [79, 80] τ μ := by
  have hn : n ≤ 8 := E.2.2.2.1
  have h : ∀ (m k : Nat) (σ : mM), k + m = n → fr [79, 80] τ σ → ∃ μ, mgo (mcall (d + 5)) (mX 171 τ) 171 4 [(30, 64), (0, bitsA L H V k), (0, (k : Int))] [] σ = some (bitsA L H V n, μ) ∧ fr [79, 80] τ μ := by
    intro m
    induction m with
    | zero =>
      intro k σ hk F
      have E' := envM_S F E
      refine ⟨σ, ?_, F⟩
      rw [b_171_4, E'.2.2.1, bLt_f (by omega), show k = n by omega]
    | succ m ih =>
      intro k σ hk F
      have E' := envM_S F E
      obtain ⟨μ, m1, m2⟩ := s_170 (d := d) ((gM_f F (by decide)).trans g) ok (show k < n by omega) E'
      obtain ⟨ν, n1, n2⟩ := ih (k + 1) μ (by omega) (fr_t F m2)
      refine ⟨ν, ?_, n2⟩
      rw [b_171_4, E'.2.2.1, bLt_t (by omega), m1, bK_t, w32_n (by omega)]
      rw [show bitsA L H V (k + 1) = if cdA L H V k = 0 then bitsA L H V k else m32 (· ||| ·) (bitsA L H V k) (m32 (fun x y => x <<< (y &&& 31)) 1 (k : Int)) from rfl] at n1
      by_cases k0 : cdA L H V k = 0
      · rw [if_pos k0] at n1; rw [bEq_t k0]; exact n1
      · rw [if_neg k0] at n1; rw [bEq_f k0]; exact n1
  rw [e_171]
  exact h n 0 τ (by omega) fr_r
/-- the warmest place of the first k + 1 -/
def wmA (L : List (List Int × List Int)) (V : cV) : Nat → Nat
  | 0 => 0
  | k + 1 => if wfA L V (wmA L V k) < wfA L V k then k else wmA L V k
theorem wmA_lt : ∀ k, wmA L V k ≤ k := by
  intro k
  induction k with
  | zero => exact Nat.le_refl _
  | succ k ih => unfold wmA; split <;> omega
theorem s_45 (hc : c = 2 ∨ c = 27) (g : gC c τ = V) (ok : okC V) (E : envC τ L H n s) : ∃ μ, mcall (d + 4) 45 [(24, 1), (21, (c : Int))] τ = some ((wmA L V 30 : Int), μ) ∧ fr CS τ μ := by
  have hw : ∀ σ, fr CS τ σ → ∃ w : Nat, σ 1 6 = (w : Int) := fun σ F => ⟨_, (envC_S F E).1.choose_spec.2.1⟩
  have h : ∀ (m k : Nat) (v : Int) (σ : mM), k + m = 30 → 0 < k → fr CS τ σ → ∃ μ, mgo (mcall (d + 3)) (mX 45 τ) 45 7 [(24, 1), (21, (c : Int)), (0, (wmA L V k : Int)), (0, wfA L V (wmA L V k)), (0, (k : Int)), (0, v)] [] σ = some ((wmA L V 30 : Int), μ) ∧ fr CS τ μ := by
    intro m
    induction m with
    | zero =>
      intro k v σ hk _ F
      refine ⟨σ, ?_, F⟩
      rw [b_45_7, bLt_f (by omega), show k = 30 by omega]
    | succ m ih =>
      intro k v σ hk h0 F
      have E' := envC_S F E
      obtain ⟨w, hw⟩ := hw σ F
      obtain ⟨μ, m1, m2⟩ := s_25e (d := d) hc ((gC_S hc F).trans g) ok (show k < 30 by omega) E' hw
      obtain ⟨ν, n1, n2⟩ := ih (k + 1) (wfA L V k) μ (by omega) (by omega) (fr_t F m2)
      refine ⟨ν, ?_, n2⟩
      rw [b_45_7, bLt_t (by omega), hw, bLt_f (by omega), m1, bK_t, w32_n (by omega)]
      rw [show wmA L V (k + 1) = if wfA L V (wmA L V k) < wfA L V k then k else wmA L V k from rfl] at n1
      by_cases k0 : wfA L V (wmA L V k) < wfA L V k
      · rw [if_pos k0] at n1; rw [bLt_t k0]; exact n1
      · rw [if_neg k0] at n1; rw [bLt_f (by omega)]; exact n1
  obtain ⟨w, hw⟩ := hw τ fr_r
  obtain ⟨μ, m1, m2⟩ := s_25e (d := d) hc g ok (show 0 < 30 by omega) E hw
  obtain ⟨ν, n1, n2⟩ := h 29 1 (wfA L V 0) μ (by omega) (by omega) m2
  have b := wfA_b (L := L) (V := V) (q := 0)
  refine ⟨ν, ?_, n2⟩
  have m1' : mcall (d + 3) 25 [(22, (w : Int)), (21, (c : Int)), (0, 0)] τ = some (wfA L V 0, μ) := m1
  rw [e_45, b_45_7a, bLt_t (by omega), hw, bLt_f (by omega), m1', bK_t, bLt_t (by omega)]
  rw [show wmA L V 1 = 0 by unfold wmA; split <;> rfl] at n1
  exact n1
theorem s_182 (g : gM τ = V) (ok : okC V) (E : envM τ L H n s) : ∃ μ, mcall (d + 5) 182 [(30, 64)] τ = some ((wmA L V 30 : Int), μ) ∧ fr [79, 80] τ μ := by
  have h : ∀ (m k : Nat) (σ : mM), k + m = 30 → 0 < k → fr [79, 80] τ σ → ∃ μ, mgo (mcall (d + 4)) (mX 182 τ) 182 4 [(30, 64), (0, (wmA L V k : Int)), (0, (k : Int))] [] σ = some ((wmA L V 30 : Int), μ) ∧ fr [79, 80] τ μ := by
    intro m
    induction m with
    | zero =>
      intro k σ hk _ F
      refine ⟨σ, ?_, F⟩
      rw [b_182_4, bLt_f (by omega), show k = 30 by omega]
    | succ m ih =>
      intro k σ hk h0 F
      have E' := envM_S F E
      have l := wmA_lt (L := L) (V := V) k
      obtain ⟨μ, m1, m2⟩ := s_169 (d := d) ((gM_f F (by decide)).trans g) ok (show k < 30 by omega) E'.1 E'.2.1
      have E2 := envM_S m2 E'
      obtain ⟨ξ, x1, x2⟩ := s_169 (d := d) ((gM_f (fr_t F m2) (by decide)).trans g) ok (show wmA L V k < 30 by omega) E2.1 E2.2.1
      obtain ⟨ν, n1, n2⟩ := ih (k + 1) ξ (by omega) (by omega) (fr_t (fr_t F m2) x2)
      refine ⟨ν, ?_, n2⟩
      rw [b_182_4, bLt_t (by omega), m1, bK_t, x1, bK_t, w32_n (by omega)]
      rw [show wmA L V (k + 1) = if wfA L V (wmA L V k) < wfA L V k then k else wmA L V k from rfl] at n1
      by_cases k0 : wfA L V (wmA L V k) < wfA L V k
      · rw [if_pos k0] at n1; rw [bLt_t k0]; exact n1
      · rw [if_neg k0] at n1; rw [bLt_f (by omega)]; exact n1
  rw [e_182]
  have z := h 29 1 τ (by omega) (by omega) fr_r
  rw [show wmA L V 1 = 0 by unfold wmA; split <;> rfl] at z
  exact z
end
