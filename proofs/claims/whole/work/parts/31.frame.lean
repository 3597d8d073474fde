/-! PURE PART 11: bounds are kept; frames -/
def fr (l : List Nat) (σ τ : mM) : Prop := ∀ a, a ∉ l → τ a = σ a
theorem ni {l : List Nat} {a c : Nat} (ha : a ∉ l) (hc : c ∈ l) : a ≠ c := fun q => ha (by rw [q]; exact hc)
theorem ni' {l : List Nat} {a c : Nat} (hc : c ∉ l) (ha : a ∈ l) : a ≠ c := fun q => hc (by rw [← q]; exact ha)
theorem fr_r {l : List Nat} {σ : mM} : fr l σ σ := fun _ _ => rfl
theorem fr_t {l : List Nat} {σ τ υ : mM} (h : fr l σ τ) (g : fr l τ υ) : fr l σ υ := fun a ha => (g a ha).trans (h a ha)
theorem fr_m {l m : List Nat} {σ τ : mM} (h : fr l σ τ) (g : ∀ a ∈ l, a ∈ m) : fr m σ τ := fun a ha => h a (fun q => ha (g a q))
theorem fr_e {l : List Nat} {σ τ : mM} (h : fr l σ τ) {a : Nat} (ha : a ∉ l) (j : Nat) : τ a j = σ a j := by rw [h a ha]
theorem fr_s {l : List Nat} {σ τ : mM} {c i : Nat} {v : Int} (h : fr l σ τ) (hc : c ∈ l) : fr l σ (mset τ c i v) := by
  intro a ha
  funext j
  rw [ms_n (Or.inl (ni ha hc))]
  exact fr_e h ha j
theorem fr_L {l : List Nat} {a1 a2 a3 a4 i4 a5 i5 : Nat} {V : cV} {σ τ : mM} (h : fr l σ τ) (h1 : a1 ∈ l) (h2 : a2 ∈ l) (h3 : a3 ∈ l) (h4 : a4 ∈ l) (h5 : a5 ∈ l) : fr l σ (sL a1 a2 a3 a4 i4 a5 i5 V τ) := by
  intro a ha
  funext j
  rw [sL_0 ⟨ni ha h1, ni ha h2, ni ha h3, Or.inl (ni ha h4), Or.inl (ni ha h5)⟩]
  exact fr_e h ha j
/-- a state laid over another memory -/
theorem fr_u {l : List Nat} {a1 a2 a3 a4 i4 a5 i5 : Nat} {V : cV} {τ υ : mM} (h : fr l (sL a1 a2 a3 a4 i4 a5 i5 V τ) υ) (h1 : a1 ∉ l) (h2 : a2 ∉ l) (h3 : a3 ∉ l) (h4 : a4 ∉ l) (h5 : a5 ∉ l) : υ = sL a1 a2 a3 a4 i4 a5 i5 V (fun a => if a ∈ l then υ a else τ a) := by
  funext a j
  by_cases ha : a ∈ l
  · rw [sL_0 ⟨ni' h1 ha, ni' h2 ha, ni' h3 ha, Or.inl (ni' h4 ha), Or.inl (ni' h5 ha)⟩]
    rw [if_pos ha]
  · rw [fr_e h ha]
    unfold sL
    simp only
    rw [if_neg ha]
theorem fr_uf {l : List Nat} {τ υ : mM} : fr l τ (fun a => if a ∈ l then υ a else τ a) := by
  intro a ha
  simp only
  rw [if_neg ha]
def gC (c : Nat) (σ : mM) : cV := gL (c + 1) (c + 2) (c + 3) c 4 (c + 4) 0 σ
def gM (σ : mM) : cV := gL 65 66 67 69 0 64 6 σ
theorem sC_g {c : Nat} {σ : mM} : sL (c + 1) (c + 2) (c + 3) c 4 (c + 4) 0 (gC c σ) σ = σ := sL_g
theorem sM_g {σ : mM} : sL 65 66 67 69 0 64 6 (gM σ) σ = σ := sL_g
theorem gC_s {c : Nat} {V : cV} {σ : mM} (N : nV V) : gC c (sL (c + 1) (c + 2) (c + 3) c 4 (c + 4) 0 V σ) = V := g_sL (dC c) N
theorem gM_s {V : cV} {σ : mM} (N : nV V) : gM (sL 65 66 67 69 0 64 6 V σ) = V := g_sL dM N
theorem gL_cg {a1 a2 a3 a4 i4 a5 i5 : Nat} {σ τ : mM} (h1 : τ a1 = σ a1) (h2 : τ a2 = σ a2) (h3 : τ a3 = σ a3) (h4 : τ a4 i4 = σ a4 i4) (h5 : τ a5 i5 = σ a5 i5) : gL a1 a2 a3 a4 i4 a5 i5 τ = gL a1 a2 a3 a4 i4 a5 i5 σ := by
  funext k j
  unfold gL
  rw [h1, h2, h3, h4, h5]
theorem okC_N {V : cV} (ok : okC V) : nV V := ok.1
theorem okC_33 {V : cV} {v : Int} (ok : okC V) (hv : 0 ≤ v ∧ v ≤ 11) : okC (up V 3 0 v) := by
  obtain ⟨n, a, b, c, e⟩ := ok
  refine ⟨up_n n (by omega), fun j => ?_, fun j => ?_, fun j => ?_, ?_⟩
  · rw [up_o (by omega)]; exact a j
  · rw [up_o (by omega)]; exact b j
  · rw [up_o (by omega)]; exact c j
  · rw [up_e, up_o (by omega)]; omega
theorem okC_31 {V : cV} {v : Int} (ok : okC V) (hv : 0 ≤ v ∧ v ≤ 1000000) : okC (up V 3 1 v) := by
  obtain ⟨n, a, b, c, e⟩ := ok
  refine ⟨up_n n (by omega), fun j => ?_, fun j => ?_, fun j => ?_, ?_⟩
  · rw [up_o (by omega)]; exact a j
  · rw [up_o (by omega)]; exact b j
  · rw [up_o (by omega)]; exact c j
  · rw [up_e, up_o (by omega)]; omega
theorem okC_row {V : cV} (ok : okC V) {F : (Nat → Int) → Nat → Int} (R : rowF F) (P : ∀ f j, ∃ i, F f j = f i) : okC (rV (rV (rV V 0 (F (V 0))) 1 (F (V 1))) 2 (F (V 2))) := by
  obtain ⟨n, a, b, c, e⟩ := ok
  refine ⟨fun k j h => ?_, fun j => ?_, fun j => ?_, fun j => ?_, e⟩
  · rcases h with ⟨h1, h2⟩ | h | h
    · rcases (by omega : k = 0 ∨ k = 1 ∨ k = 2) with rfl | rfl | rfl
      · exact (R.2 (V 0) j h2).trans (n 0 j (by omega))
      · exact (R.2 (V 1) j h2).trans (n 1 j (by omega))
      · exact (R.2 (V 2) j h2).trans (n 2 j (by omega))
    · obtain ⟨rfl, h2⟩ := h; exact n 3 j (by omega)
    · unfold rV; rw [if_neg (by omega), if_neg (by omega), if_neg (by omega)]; exact n k j (by omega)
  · obtain ⟨i, hi⟩ := P (V 0) j
    show 0 ≤ F (V 0) j ∧ F (V 0) j ≤ 4
    rw [hi]; exact a i
  · obtain ⟨i, hi⟩ := P (V 1) j
    show 0 ≤ F (V 1) j ∧ F (V 1) j ≤ 9
    rw [hi]; exact b i
  · obtain ⟨i, hi⟩ := P (V 2) j
    show 0 ≤ F (V 2) j ∧ F (V 2) j ≤ 12
    rw [hi]; exact c i
theorem rot_p (l way : Nat) : ∀ f j, ∃ i, rotR l way f j = f i := by
  intro f j
  unfold rotR
  repeat' split
  all_goals exact ⟨_, rfl⟩
theorem sli_p : ∀ f j, ∃ i, sliR f j = f i := by
  intro f j
  unfold sliR
  repeat' split
  all_goals exact ⟨_, rfl⟩
theorem okC_move {V : cV} {l way : Nat} (ok : okC V) (hl : l < 5) : okC (moveA l way V) := okC_row ok (rowF_rot hl) (rot_p l way)
theorem okC_slide {V : cV} (ok : okC V) : okC (slideA V) := okC_row ok rowF_sli sli_p
theorem move_3 {V : cV} {l way j : Nat} : moveA l way V 3 j = V 3 j := rfl
theorem slide_3 {V : cV} {j : Nat} : slideA V 3 j = V 3 j := rfl
theorem move_u {V : cV} {l way : Nat} (hw : way < 2) : moveA l (1 - way) (moveA l way V) = V := by
  have e : ∀ (k : Nat), k < 3 → moveA l way V k = rotR l way (V k) := fun k hk => funext fun j => by rw [moveA_p, if_pos hk]
  funext k j
  rw [moveA_p]
  by_cases hk : k < 3
  · rw [if_pos hk, e k hk]
    generalize V k = f
    rcases (by omega : way = 0 ∨ way = 1) with rfl | rfl
    · by_cases h5 : j = 6 * l + 5
      · rw [rot_1a h5, rot_0a rfl, h5]
      · by_cases h : 6 * l ≤ j ∧ j < 6 * l + 5
        · rw [rot_1b h, rot_0b (by omega), Nat.add_sub_cancel]
        · rw [rot_1c (by omega), rot_0c (by omega)]
    · by_cases h5 : j = 6 * l
      · rw [rot_0a h5, rot_1a rfl, h5]
      · by_cases h : 6 * l < j ∧ j < 6 * l + 6
        · rw [rot_0b h, rot_1b (by omega), show j - 1 + 1 = j by omega]
        · rw [rot_0c (by omega), rot_1c (by omega)]
  · rw [if_neg hk, moveA_p, if_neg hk]
theorem wear_3 {V : cV} {j : Nat} : ∀ n, wearA n V 3 j = V 3 j := by
  intro n
  induction n with
  | zero => rfl
  | succ n ih =>
    rw [← ih]
    show wearS n (wearA n V) 3 j = _
    unfold wearS
    repeat' split
    · rw [up_o (by omega)]
    · rw [up_o (by omega), up_o (by omega), up_o (by omega)]
    · rfl
theorem pass_31 {V : cV} {slip : Int} : passA slip V 3 1 = V 3 1 + 1 := by
  unfold passA
  simp only
  rw [up_o (by omega)]
  repeat' split
  · rw [slide_3, up_e, wear_3]
  · rw [up_e, wear_3]
  · rw [up_e, wear_3]
theorem okC_pass {V : cV} {slip : Int} (ok : okC V) (hl : V 3 1 < 1000000) : okC (passA slip V) := by
  have o2 := okC_w ok 30 (by omega)
  have e : wearA 30 V 3 1 = V 3 1 := wear_3 30
  have o3 : okC (up (wearA 30 V) 3 1 (wearA 30 V 3 1 + 1)) := okC_31 o2 (by have := ok.2.2.2.2; omega)
  unfold passA
  simp only
  generalize up (wearA 30 V) 3 1 (wearA 30 V 3 1 + 1) = W at o3 ⊢
  have k : ∀ U : cV, okC U → okC (up U 3 0 (Int.tmod (U 3 0 + 1) 12)) := by
    intro U hU
    have := hU.2.2.2.2
    refine okC_33 hU ?_
    rw [Int.tmod_eq_emod_of_nonneg (by omega)]
    omega
  refine k _ ?_
  repeat' split
  · exact okC_slide o3
  · exact o3
  · exact o3
theorem mixI_ok {q : Nat} {v : Int} {V : cV} (ok : okC V) (hq : inner q) (hv : 0 ≤ v ∧ v ≤ 9) : ∀ n, n ≤ 9 → okC (mixI q v V n) := by
  intro n
  induction n with
  | zero => intro _; exact ok
  | succ n ih => intro h; exact okC_1 (ih (by omega)) (nin_lt hq (by omega)) hv
theorem okC_mix {q : Nat} {V : cV} (ok : okC V) (hq : inner q) : okC (mixA q V) := by
  have hS := sumA_b (q := q) ok 9
  unfold mixA
  generalize sumA q V 9 = S at *
  have e1 : 0 ≤ Int.tdiv S 9 ∧ Int.tdiv S 9 ≤ 9 := by rw [Int.tdiv_eq_ediv_of_nonneg hS.1]; omega
  have e2 : 0 ≤ Int.tmod S 9 ∧ Int.tmod S 9 < 9 := by rw [Int.tmod_eq_emod_of_nonneg hS.1]; omega
  refine okC_1 (mixI_ok ok hq e1 9 (by omega)) (by unfold inner at hq; omega) ?_
  split <;> omega
theorem mix_3 {q j : Nat} {V : cV} : mixA q V 3 j = V 3 j := by
  have h : ∀ (v : Int) n, mixI q v V n 3 j = V 3 j := by
    intro v n
    induction n with
    | zero => rfl
    | succ n ih => exact (up_o (by omega)).trans ih
  unfold mixA
  rw [up_o (by omega), h]
theorem s_14' {d c : Nat} {V : cV} {σ : mM} {slip : Int} (ok : okC V) (hl : V 3 1 < 1000000) : mcall (d + 2) 14 [(21, (c : Int)), (0, slip)] (sL (c + 1) (c + 2) (c + 3) c 4 (c + 4) 0 V σ) = some (0, sL (c + 1) (c + 2) (c + 3) c 4 (c + 4) 0 (passA slip V) σ) := s_14 ok (by rw [wear_3]; exact hl)
theorem s_174' {d : Nat} {V : cV} {σ : mM} {slip : Int} (hs : σ 69 1 = slip) (ok : okC V) (hl : V 3 1 < 1000000) : mcall (d + 3) 174 [(30, 64)] (sL 65 66 67 69 0 64 6 V σ) = some (0, sL 65 66 67 69 0 64 6 (passA slip V) σ) := s_174 hs ok (by rw [wear_3]; exact hl)
/-- one cover taken from another -/
theorem s_6 {d c x : Nat} {σ : mM} (hx : c + 5 ≤ x ∨ x + 5 ≤ c) : ∃ μ, mcall (d + 1) 6 [(21, (c : Int)), (21, (x : Int))] σ = some (0, μ) ∧ gC c μ = gC x σ ∧ (∀ a, a < c ∨ c + 4 < a → μ a = σ a) ∧ ∀ i, i < 5 → μ (c + 4) i = σ (x + 4) i := by
  rw [e_6, bCp_t (by omega), bCp_t (by omega), bCp_t (by omega), bCp_t (by omega)]
  refine ⟨_, rfl, ?_, fun a ha => ?_, fun i hi => ?_⟩
  · have e1 : ∀ j, j < 30 → mset (mcopy (mcopy (mcopy (mcopy σ (x + 1) (c + 1) 0 0 30) (x + 2) (c + 2) 0 0 30) (x + 3) (c + 3) 0 0 30) (x + 4) (c + 4) 0 0 5) c 4 ((mcopy (mcopy (mcopy (mcopy σ (x + 1) (c + 1) 0 0 30) (x + 2) (c + 2) 0 0 30) (x + 3) (c + 3) 0 0 30) (x + 4) (c + 4) 0 0 5) x 4) (c + 1) j = σ (x + 1) j := fun j hj => by
      rw [ms_n (by omega), mcp_o (by omega), mcp_o (by omega), mcp_o (by omega), mcp_i (by omega)]; exact congrArg (σ (x + 1)) (by omega)
    have e2 : ∀ j, j < 30 → mset (mcopy (mcopy (mcopy (mcopy σ (x + 1) (c + 1) 0 0 30) (x + 2) (c + 2) 0 0 30) (x + 3) (c + 3) 0 0 30) (x + 4) (c + 4) 0 0 5) c 4 ((mcopy (mcopy (mcopy (mcopy σ (x + 1) (c + 1) 0 0 30) (x + 2) (c + 2) 0 0 30) (x + 3) (c + 3) 0 0 30) (x + 4) (c + 4) 0 0 5) x 4) (c + 2) j = σ (x + 2) j := fun j hj => by
      rw [ms_n (by omega), mcp_o (by omega), mcp_o (by omega), mcp_i (by omega), mcp_o (by omega)]; exact congrArg (σ (x + 2)) (by omega)
    have e3 : ∀ j, j < 30 → mset (mcopy (mcopy (mcopy (mcopy σ (x + 1) (c + 1) 0 0 30) (x + 2) (c + 2) 0 0 30) (x + 3) (c + 3) 0 0 30) (x + 4) (c + 4) 0 0 5) c 4 ((mcopy (mcopy (mcopy (mcopy σ (x + 1) (c + 1) 0 0 30) (x + 2) (c + 2) 0 0 30) (x + 3) (c + 3) 0 0 30) (x + 4) (c + 4) 0 0 5) x 4) (c + 3) j = σ (x + 3) j := fun j hj => by
      rw [ms_n (by omega), mcp_o (by omega), mcp_i (by omega), mcp_o (by omega), mcp_o (by omega)]; exact congrArg (σ (x + 3)) (by omega)
    funext k j
    unfold gC gL
    by_cases h0 : k = 0
    · rw [if_pos h0, if_pos h0]
      by_cases hj : j < 30
      · rw [if_pos hj, if_pos hj, e1 j hj]
      · rw [if_neg hj, if_neg hj]
    · rw [if_neg h0, if_neg h0]
      by_cases h1 : k = 1
      · rw [if_pos h1, if_pos h1]
        by_cases hj : j < 30
        · rw [if_pos hj, if_pos hj, e2 j hj]
        · rw [if_neg hj, if_neg hj]
      · rw [if_neg h1, if_neg h1]
        by_cases h2 : k = 2
        · rw [if_pos h2, if_pos h2]
          by_cases hj : j < 30
          · rw [if_pos hj, if_pos hj, e3 j hj]
          · rw [if_neg hj, if_neg hj]
        · rw [if_neg h2, if_neg h2, ms_e, mcp_o (a := x) (by omega), mcp_o (a := x) (by omega), mcp_o (a := x) (by omega), mcp_o (a := x) (by omega), ms_n (by omega), mcp_i (by omega)]
          rw [mcp_o (a := x + 4) (by omega), mcp_o (a := x + 4) (by omega), mcp_o (a := x + 4) (by omega)]
  · funext j
    rw [ms_n (by omega), mcp_o (by omega), mcp_o (by omega), mcp_o (by omega), mcp_o (by omega)]
  · rw [ms_n (by omega), mcp_i (by omega), mcp_o (by omega), mcp_o (by omega), mcp_o (by omega)]
    exact congrArg (σ (x + 4)) (by omega)
