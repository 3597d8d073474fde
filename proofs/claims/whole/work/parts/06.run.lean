/-! RUNS: the code followed to its end; calls by depth -/
def mrun (K : mK) (mx : Int × Int) (m : Nat) : Nat → mG
  | 0 => fun _ _ _ _ => none
  | n + 1 => fun pc L S σ => match mfind pc (mcd m) with
    | some i => mstep K (mrun K mx m n) mx i pc L S σ
    | none => none
/-- what ends in 'g' once, or not at all -/
def mT (f : mG → mA) : Prop := (∃ a, ∀ g, f g = a) ∨ ∃ (pc : Nat) (L S : List mV) (σ : mM), ∀ g : mG, f g = g pc L S σ
theorem mT_c {a : mA} : mT (fun _ => a) := Or.inl ⟨a, fun _ => rfl⟩
theorem mT_g {pc : Nat} {L S : List mV} {σ : mM} : mT (fun g => g pc L S σ) := Or.inr ⟨pc, L, S, σ, fun _ => rfl⟩
theorem mT_b {b : Bool} {f1 f2 : mG → mA} (h1 : mT f1) (h2 : mT f2) : mT (fun g => bif b then f1 g else f2 g) := by
  cases b
  · exact h2
  · exact h1
theorem mT_i {p : Prop} [h : Decidable p] {f1 f2 : mG → mA} (h1 : mT f1) (h2 : mT f2) : mT (fun g => if p then f1 g else f2 g) := by
  by_cases hp : p
  · simp only [if_pos hp]; exact h1
  · simp only [if_neg hp]; exact h2
theorem mT_lt {x y : Int} {f1 f2 : mG → mA} (h1 : mT f1) (h2 : mT f2) : mT (fun g => bLt x y (f1 g) (f2 g)) := mT_i h1 h2
theorem mT_eq {x y : Int} {f1 f2 : mG → mA} (h1 : mT f1) (h2 : mT f2) : mT (fun g => bEq x y (f1 g) (f2 g)) := mT_i h1 h2
theorem mT_in {x y : Int} {f1 : mG → mA} (h1 : mT f1) : mT (fun g => bIn x y (f1 g)) := mT_i h1 mT_c
theorem mT_cp {x y z l1 l2 : Int} {f1 : mG → mA} (h1 : mT f1) : mT (fun g => bCp x y z l1 l2 (f1 g)) := mT_i h1 mT_c
theorem mT_k {x : mA} {f : mG → Int → mM → mA} (h : ∀ r σ, mT (fun g => f g r σ)) : mT (fun g => bK x (f g)) := by
  unfold bK
  cases x with
  | none => exact mT_c
  | some q => exact h q.1 q.2
theorem mT_1 {S : List mV} {k : mG → Int → List mV → mA} (h : ∀ x S', mT (fun g => k g x S')) : mT (fun g => mpop1 S (k g)) := by
  unfold mpop1
  cases S with
  | nil => exact mT_c
  | cons v t => exact mT_b (h _ _) mT_c
theorem mT_J {S : List mV} {k : mG → Int → List mV → mA} (h : ∀ x S', mT (fun g => k g x S')) : mT (fun g => mpopJ S (k g)) := by
  unfold mpopJ
  cases S with
  | nil => exact mT_c
  | cons v t => exact mT_b (h _ _) mT_c
theorem mT_R {S : List mV} {k : mG → Nat → Int → List mV → mA} (h : ∀ t x S', mT (fun g => k g t x S')) : mT (fun g => mpopR S (k g)) := by
  unfold mpopR
  cases S with
  | nil => exact mT_c
  | cons v t => exact mT_b (h _ _ _) mT_c
theorem mT_2 {S : List mV} {k : mG → Int → Int → List mV → mA} (h : ∀ x y S', mT (fun g => k g x y S')) : mT (fun g => mpop2 S (k g)) := mT_1 fun _ _ => mT_1 fun _ _ => h _ _ _
theorem mT_J2 {S : List mV} {k : mG → Int → Int → List mV → mA} (h : ∀ x y S', mT (fun g => k g x y S')) : mT (fun g => mpopJ2 S (k g)) := mT_J fun _ _ => mT_J fun _ _ => h _ _ _
theorem mT_p {L : List mV} {i : Nat} {v : mV} {k : mG → List mV → mA} (h : ∀ L', mT (fun g => k g L')) : mT (fun g => mput L i v (k g)) := mT_b (h _) mT_c
theorem mT_pJ {L : List mV} {i : Nat} {v : mV} {k : mG → List mV → mA} (h : ∀ L', mT (fun g => k g L')) : mT (fun g => mputJ L i v (k g)) := mT_b (h _) mT_c
theorem mT_sw {L S : List mV} {σ : mM} {x : Int} : ∀ (l : List Nat) (d : Nat), mT (fun g => msw g L S σ x l d)
  | [], d => mT_g
  | [_], d => mT_g
  | a :: t :: r, d => mT_eq mT_g (mT_sw r d)
theorem mT_A {op n : Nat} {v : Int} {ps : List Nat} {pc : Nat} {L S : List mV} {σ : mM} : mT (fun g => mstepA g op n v ps pc L S σ) := by
  unfold mstepA
  have h1 : ∀ (x : Option mV) (b : Nat → Int → Bool) (k : mG → Nat → Int → mA), (∀ t x, mT (fun g => k g t x)) → mT (fun g => match x with | some (t, x) => bif b t x then k g t x else none | none => none) := by
    intro x b k h
    cases x with
    | none => exact mT_c
    | some u => exact mT_b (h u.1 u.2) mT_c
  refine mT_b mT_g (mT_b mT_g (mT_b (h1 (L[mp ps 0]?) (fun t _ => bif Nat.blt op 8 then Nat.beq t 0 else bif Nat.blt op 10 then Nat.blt 3 t else Nat.beq t 1) (fun g t x => g (pc + n) L ((t, x) :: S) σ) fun _ _ => mT_g) (mT_b (mT_1 fun _ _ => mT_p fun _ => mT_g) (mT_b (mT_R fun _ _ _ => mT_p fun _ => mT_g) (mT_b (mT_J fun _ _ => mT_pJ fun _ => mT_g) (mT_b ?_ mT_c))))))
  exact h1 (L[mp ps 0]?) (fun t _ => Nat.beq t 0) (fun g _ x => mput L (mp ps 0) (0, w32 (x + v)) fun L' => g (pc + n) L' S σ) fun _ _ => mT_p fun _ => mT_g
theorem mT_B {op n : Nat} {pc : Nat} {L S : List mV} {σ : mM} : mT (fun g => mstepB g op n pc L S σ) := by
  unfold mstepB
  repeat' (first | exact mT_c | exact mT_g | apply mT_b | apply mT_lt | apply mT_eq | apply mT_in | apply mT_i | (apply mT_2; intro _ _ _) | (apply mT_J2; intro _ _ _) | (apply mT_1; intro _ _) | (apply mT_J; intro _ _))
theorem mT_C {op n : Nat} {ps : List Nat} {pc : Nat} {L S : List mV} {σ : mM} : mT (fun g => mstepC g op n ps pc L S σ) := by
  unfold mstepC
  have h1 : ∀ (S : List mV) (k : mG → Nat → Int → List mV → mA), (∀ t x S', mT (fun g => k g t x S')) → mT (fun g => match S with | (t, x) :: S' => bif Nat.beq t 1 then none else k g t x S' | [] => none) := by
    intro S k h
    cases S with
    | nil => exact mT_c
    | cons u t => exact mT_b mT_c (h u.1 u.2 t)
  have h2 : ∀ (S : List mV) (k : mG → Nat → Int → Nat → Int → List mV → mA), (∀ t x t2 x2 S', mT (fun g => k g t x t2 x2 S')) → mT (fun g => match S with | (t, x) :: (t2, x2) :: S' => bif Nat.beq t 1 || Nat.beq t2 1 then none else k g t x t2 x2 S' | _ => none) := by
    intro S k h
    match S with
    | [] => exact mT_c
    | [_] => exact mT_c
    | (t, x) :: (t2, x2) :: S' => exact mT_b mT_c (h t x t2 x2 S')
  refine mT_b (h1 S (fun g t x S' => g (pc + n) L ((t, x) :: (t, x) :: S') σ) fun _ _ _ => mT_g) (mT_b (h2 S (fun g t x t2 x2 S' => g (pc + n) L ((t, x) :: (t2, x2) :: (t, x) :: (t2, x2) :: S') σ) fun _ _ _ _ _ => mT_g) (mT_b (h2 S (fun g t x t2 x2 S' => g (pc + n) L ((t, x) :: (t2, x2) :: (t, x) :: S') σ) fun _ _ _ _ _ => mT_g) (mT_b (h1 S (fun g _ _ S' => g (pc + n) L S' σ) fun _ _ _ => mT_g) (mT_b mT_g (mT_b (mT_1 fun _ _ => mT_sw _ _) ?_)))))
  repeat' (first | exact mT_c | exact mT_g | apply mT_b | apply mT_lt | apply mT_eq | apply mT_in | apply mT_i | (apply mT_2; intro _ _ _) | (apply mT_1; intro _ _))
theorem mT_D {op n : Nat} {v : Int} {ps : List Nat} {pc : Nat} {L S : List mV} {σ : mM} : mT (fun g => mstepD g op n v ps pc L S σ) := by
  unfold mstepD
  repeat' (first | exact mT_c | exact mT_g | apply mT_b | apply mT_lt | apply mT_eq | apply mT_in | apply mT_i | (apply mT_1; intro _ _) | (apply mT_R; intro _ _ _) | (apply mT_J; intro _ _))
theorem mT_E {op n : Nat} {ps : List Nat} {mx : Int × Int} {pc : Nat} {L S : List mV} {σ : mM} : mT (fun g => mstepE g op n ps mx pc L S σ) := by
  unfold mstepE
  repeat' (first | exact mT_c | exact mT_g | apply mT_b | apply mT_lt | apply mT_eq | apply mT_in | apply mT_i | (apply mT_1; intro _ _) | (apply mT_R; intro _ _ _) | (apply mT_J; intro _ _))
theorem mT_F {K : mK} {op n : Nat} {ps : List Nat} {mx : Int × Int} {pc : Nat} {L S : List mV} {σ : mM} : mT (fun g => mstepF K g op n ps mx pc L S σ) := by
  unfold mstepF
  refine mT_b (mT_2 fun _ _ _ => mT_b mT_g mT_c) (mT_b (mT_2 fun _ _ _ => mT_b mT_g mT_c) (mT_b (mT_1 fun _ _ => mT_1 fun _ _ => mT_R fun _ _ _ => mT_1 fun _ _ => mT_R fun _ _ _ => mT_b (mT_cp mT_g) mT_c) (mT_b (mT_b ?_ mT_c) (mT_b (mT_b ?_ mT_c) (mT_b (mT_b ?_ mT_c) mT_c)))))
  · exact mT_k fun _ _ => mT_g
  · exact mT_k fun _ _ => mT_g
  · exact mT_k fun _ _ => mT_i mT_g mT_c
theorem mT_step (K : mK) (mx : Int × Int) (i : mI) (pc : Nat) (L S : List mV) (σ : mM) : mT (fun g => mstep K g mx i pc L S σ) := by
  unfold mstep
  exact mT_b mT_A (mT_b mT_B (mT_b mT_C (mT_b mT_D (mT_b mT_E (mT_b mT_F mT_c)))))
theorem mrun_up (K : mK) (mx : Int × Int) (m : Nat) : ∀ (n : Nat) (pc : Nat) (L S : List mV) (σ : mM) (a : Int × mM), mrun K mx m n pc L S σ = some a → mrun K mx m (n + 1) pc L S σ = some a := by
  intro n
  induction n with
  | zero => intro pc L S σ a h; cases h
  | succ n ih =>
    intro pc L S σ a h
    unfold mrun at h ⊢
    cases hi : mfind pc (mcd m) with
    | none => rw [hi] at h; cases h
    | some i =>
      rw [hi] at h
      rcases mT_step K mx i pc L S σ with ⟨b, hb⟩ | ⟨pc', L', S', σ', hb⟩
      · have hb := hb
        simp only at h hb ⊢
        rw [hb] at h ⊢
        exact h
      · simp only at h hb ⊢
        rw [hb] at h ⊢
        exact ih _ _ _ _ _ h
theorem mrun_le (K : mK) (mx : Int × Int) (m : Nat) {n n' : Nat} (hn : n ≤ n') {pc : Nat} {L S : List mV} {σ : mM} {a : Int × mM} (h : mrun K mx m n pc L S σ = some a) : mrun K mx m n' pc L S σ = some a := by
  induction hn with
  | refl => exact h
  | step _ ih => exact mrun_up K mx m _ _ _ _ _ _ ih
noncomputable def mgo (K : mK) (mx : Int × Int) (m : Nat) : mG := fun pc L S σ =>
  @dite _ (∃ a, ∃ n, mrun K mx m n pc L S σ = some a) (Classical.propDecidable _) (fun h => some (Classical.choose h)) (fun _ => none)
theorem mgo_iff {K : mK} {mx : Int × Int} {m pc : Nat} {L S : List mV} {σ : mM} {a : Int × mM} : mgo K mx m pc L S σ = some a ↔ ∃ n, mrun K mx m n pc L S σ = some a := by
  unfold mgo
  constructor
  · intro h
    split at h
    · next hx => cases h; exact Classical.choose_spec hx
    · cases h
  · rintro ⟨n, hn⟩
    have hx : ∃ a, ∃ n, mrun K mx m n pc L S σ = some a := ⟨a, n, hn⟩
    rw [dif_pos hx]
    obtain ⟨n2, hn2⟩ := Classical.choose_spec hx
    have h1 := mrun_le K mx m (Nat.le_max_left n n2) hn
    have h2 := mrun_le K mx m (Nat.le_max_right n n2) hn2
    exact h2.symm.trans h1
theorem mgo_step (K : mK) (mx : Int × Int) (m pc : Nat) (L S : List mV) (σ : mM) : mgo K mx m pc L S σ = match mfind pc (mcd m) with
    | some i => mstep K (mgo K mx m) mx i pc L S σ
    | none => none := by
  apply Option.ext
  intro a
  rw [mgo_iff]
  constructor
  · rintro ⟨n, h⟩
    cases n with
    | zero => cases h
    | succ n =>
      unfold mrun at h
      cases hi : mfind pc (mcd m) with
      | none => rw [hi] at h; cases h
      | some i =>
        rw [hi] at h
        rcases mT_step K mx i pc L S σ with ⟨b, hb⟩ | ⟨pc', L', S', σ', hb⟩
        · simp only at h hb ⊢
          rw [hb] at h ⊢
          exact h
        · simp only at h hb ⊢
          rw [hb] at h ⊢
          exact mgo_iff.mpr ⟨n, h⟩
  · intro h
    cases hi : mfind pc (mcd m) with
    | none => rw [hi] at h; cases h
    | some i =>
      rw [hi] at h
      rcases mT_step K mx i pc L S σ with ⟨b, hb⟩ | ⟨pc', L', S', σ', hb⟩
      · simp only at h hb
        rw [hb] at h
        refine ⟨1, ?_⟩
        unfold mrun
        rw [hi]
        simp only
        rw [hb]
        exact h
      · simp only at h hb
        rw [hb] at h
        obtain ⟨n, hn⟩ := mgo_iff.mp h
        refine ⟨n + 1, ?_⟩
        unfold mrun
        rw [hi]
        simp only
        rw [hb]
        exact hn
/-- n instructions at most, up to the next of some places -/
def mblk (K : mK) (mx : Int × Int) (m : Nat) (g : mG) (st : List Nat) : Nat → mG
  | 0 => g
  | n + 1 => fun pc L S σ => match mfind pc (mcd m) with
    | some i => mstep K (fun pc L S σ => bif st.any (Nat.beq pc) then g pc L S σ else mblk K mx m g st n pc L S σ) mx i pc L S σ
    | none => none
theorem mgo_blk (K : mK) (mx : Int × Int) (m : Nat) (st : List Nat) (n pc : Nat) (L S : List mV) (σ : mM) : mgo K mx m pc L S σ = mblk K mx m (mgo K mx m) st n pc L S σ := by
  induction n generalizing pc L S σ with
  | zero => rfl
  | succ n ih =>
    rw [mgo_step]
    unfold mblk
    have e : (fun pc L S σ => bif st.any (Nat.beq pc) then mgo K mx m pc L S σ else mblk K mx m (mgo K mx m) st n pc L S σ) = mgo K mx m := by
      funext pc L S σ
      cases st.any (Nat.beq pc)
      · exact (ih pc L S σ).symm
      · rfl
    rw [e]
def mexp : List mV → List mV
  | [] => []
  | v :: t => bif Nat.beq (mkd v) 1 then v :: (2, 0) :: mexp t else v :: mexp t
def mentry (m : Nat) (args : List mV) : List mV := mexp args ++ List.replicate (mmaxL m - (mexp args).length) (2, 0)
noncomputable def mcall : Nat → mK
  | 0 => fun _ _ _ => none
  | d + 1 => fun m args σ => bif Nat.ble (mexp args).length (mmaxL m) then mgo (mcall d) (σ 905 0 + (mal m : Int), σ 905 1 + (msl m : Int)) m 0 (mentry m args) [] σ else none
theorem mcall_blk (d m : Nat) (st : List Nat) (n : Nat) (as : List mV) (σ : mM) (h : Nat.ble (mexp as).length (mmaxL m) = true) : mcall (d + 1) m as σ = mblk (mcall d) (σ 905 0 + (mal m : Int), σ 905 1 + (msl m : Int)) m (mgo (mcall d) (σ 905 0 + (mal m : Int), σ 905 1 + (msl m : Int)) m) st n 0 (mentry m as) [] σ := by
  rw [← mgo_blk]
  show (bif Nat.ble (mexp as).length (mmaxL m) then _ else none) = _
  rw [h]
  rfl
def mX (m : Nat) (σ : mM) : Int × Int := (σ 905 0 + (mal m : Int), σ 905 1 + (msl m : Int))
