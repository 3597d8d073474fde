/-! PURE PART 45: the constructors but two -/
section
theorem pN {σ τ : mM} {c z0 z y s p q : Nat} {S : List Nat} {v : Int} (h : pg p q c z0 z y S σ τ) (hc : c < z0) (hc9 : c < 900) (hs : Tn p q c s = v) : pg p q c z0 z y (s :: S) σ (mset τ c s v) := by
  obtain ⟨h0, h1, h2, h3, h4⟩ := h
  refine ⟨by rw [ms_n (by omega)]; exact h0, by rw [ms_n (by omega)]; exact h1, fun a j k1 k2 k3 => by rw [ms_n (by omega)]; exact h2 a j k1 k2 k3, fun a j k1 k2 => by rw [ms_n (by omega)]; exact h3 a j k1 k2, fun j => ?_⟩
  by_cases he : j = s
  · rw [he, ms_e, if_pos (List.mem_cons_self ..)]; exact hs.symm
  · rw [ms_n (by omega), h4 j]
    by_cases hm : j ∈ S
    · rw [if_pos hm, if_pos (List.mem_cons_of_mem _ hm)]
    · rw [if_neg hm, if_neg (fun g => by rcases List.mem_cons.mp g with g | g; exact he g; exact hm g)]
theorem k_5_2 {p q y d : Nat} {σ : mM} (h0 : σ 905 0 = ((3 : Nat) : Int)) (h1 : σ 905 1 = (y : Int)) (h : ∀ j, σ 2 j = mdef (mlay 2) j) : ∃ τ S, mcall (d + 1) 5 [(21, ((2 : Nat) : Int))] σ = some (0, τ) ∧ pg p q 2 3 7 (y + 95) S σ τ ∧ ∀ j, τ 2 j = Tn p q 2 j := by
  have e := e_5 (d + 0) 2 σ
  rw [mX_t h0 h1, show mal 5 = 4 from rfl, show msl 5 = 95 from rfl] at e
  have P0 := pg_0 (p := p) (q := q) (c := 2) h0 h1 h
  have P0 : pg p q 2 3 3 (y + 0) [] σ σ := P0
  rw [nA_t P0 (by rfl) (by omega) (by omega) (by show ((3 : Nat) : Int) + 1 ≤ ((7 : Nat) : Int); omega) (by show ((y + 0 : Nat) : Int) + 30 ≤ ((y + 95 : Nat) : Int); omega)] at e
  have P1 : pg p q 2 3 4 (y + 30) [0] σ (mset (mnew σ (1000 + (30 : Int).toNat) (30 : Int).toNat) 2 0 ((3 : Nat) : Int)) := pA P0 (by omega) (by omega) (by omega) (fun j => rfl) rfl
  generalize mset (mnew σ (1000 + (30 : Int).toNat) (30 : Int).toNat) 2 0 ((3 : Nat) : Int) = τ1 at P1 e
  rw [nA_t P1 (by rfl) (by omega) (by omega) (by show ((4 : Nat) : Int) + 1 ≤ ((7 : Nat) : Int); omega) (by show ((y + 30 : Nat) : Int) + 30 ≤ ((y + 95 : Nat) : Int); omega)] at e
  have P2 : pg p q 2 3 5 (y + 60) [1, 0] σ (mset (mnew τ1 (1000 + (30 : Int).toNat) (30 : Int).toNat) 2 1 ((4 : Nat) : Int)) := pA P1 (by omega) (by omega) (by omega) (fun j => rfl) rfl
  generalize mset (mnew τ1 (1000 + (30 : Int).toNat) (30 : Int).toNat) 2 1 ((4 : Nat) : Int) = τ2 at P2 e
  rw [nA_t P2 (by rfl) (by omega) (by omega) (by show ((5 : Nat) : Int) + 1 ≤ ((7 : Nat) : Int); omega) (by show ((y + 60 : Nat) : Int) + 30 ≤ ((y + 95 : Nat) : Int); omega)] at e
  have P3 : pg p q 2 3 6 (y + 90) [2, 1, 0] σ (mset (mnew τ2 (1000 + (30 : Int).toNat) (30 : Int).toNat) 2 2 ((5 : Nat) : Int)) := pA P2 (by omega) (by omega) (by omega) (fun j => rfl) rfl
  generalize mset (mnew τ2 (1000 + (30 : Int).toNat) (30 : Int).toNat) 2 2 ((5 : Nat) : Int) = τ3 at P3 e
  rw [nA_t P3 (by rfl) (by omega) (by omega) (by show ((6 : Nat) : Int) + 1 ≤ ((7 : Nat) : Int); omega) (by show ((y + 90 : Nat) : Int) + 5 ≤ ((y + 95 : Nat) : Int); omega)] at e
  have P4 : pg p q 2 3 7 (y + 95) [3, 2, 1, 0] σ (mset (mnew τ3 (1000 + (5 : Int).toNat) (5 : Int).toNat) 2 3 ((6 : Nat) : Int)) := pA P3 (by omega) (by omega) (by omega) (fun j => rfl) rfl
  generalize mset (mnew τ3 (1000 + (5 : Int).toNat) (5 : Int).toNat) 2 3 ((6 : Nat) : Int) = τ4 at P4 e
  exact ⟨τ4, [3, 2, 1, 0], e, P4, pg_f P4 (by omega) (by omega) (by decide +kernel)⟩
theorem k_5_27 {p q y d : Nat} {σ : mM} (h0 : σ 905 0 = ((28 : Nat) : Int)) (h1 : σ 905 1 = (y : Int)) (h : ∀ j, σ 27 j = mdef (mlay 27) j) : ∃ τ S, mcall (d + 1) 5 [(21, ((27 : Nat) : Int))] σ = some (0, τ) ∧ pg p q 27 28 32 (y + 95) S σ τ ∧ ∀ j, τ 27 j = Tn p q 27 j := by
  have e := e_5 (d + 0) 27 σ
  rw [mX_t h0 h1, show mal 5 = 4 from rfl, show msl 5 = 95 from rfl] at e
  have P0 := pg_0 (p := p) (q := q) (c := 27) h0 h1 h
  have P0 : pg p q 27 28 28 (y + 0) [] σ σ := P0
  rw [nA_t P0 (by rfl) (by omega) (by omega) (by show ((28 : Nat) : Int) + 1 ≤ ((32 : Nat) : Int); omega) (by show ((y + 0 : Nat) : Int) + 30 ≤ ((y + 95 : Nat) : Int); omega)] at e
  have P1 : pg p q 27 28 29 (y + 30) [0] σ (mset (mnew σ (1000 + (30 : Int).toNat) (30 : Int).toNat) 27 0 ((28 : Nat) : Int)) := pA P0 (by omega) (by omega) (by omega) (fun j => rfl) rfl
  generalize mset (mnew σ (1000 + (30 : Int).toNat) (30 : Int).toNat) 27 0 ((28 : Nat) : Int) = τ1 at P1 e
  rw [nA_t P1 (by rfl) (by omega) (by omega) (by show ((29 : Nat) : Int) + 1 ≤ ((32 : Nat) : Int); omega) (by show ((y + 30 : Nat) : Int) + 30 ≤ ((y + 95 : Nat) : Int); omega)] at e
  have P2 : pg p q 27 28 30 (y + 60) [1, 0] σ (mset (mnew τ1 (1000 + (30 : Int).toNat) (30 : Int).toNat) 27 1 ((29 : Nat) : Int)) := pA P1 (by omega) (by omega) (by omega) (fun j => rfl) rfl
  generalize mset (mnew τ1 (1000 + (30 : Int).toNat) (30 : Int).toNat) 27 1 ((29 : Nat) : Int) = τ2 at P2 e
  rw [nA_t P2 (by rfl) (by omega) (by omega) (by show ((30 : Nat) : Int) + 1 ≤ ((32 : Nat) : Int); omega) (by show ((y + 60 : Nat) : Int) + 30 ≤ ((y + 95 : Nat) : Int); omega)] at e
  have P3 : pg p q 27 28 31 (y + 90) [2, 1, 0] σ (mset (mnew τ2 (1000 + (30 : Int).toNat) (30 : Int).toNat) 27 2 ((30 : Nat) : Int)) := pA P2 (by omega) (by omega) (by omega) (fun j => rfl) rfl
  generalize mset (mnew τ2 (1000 + (30 : Int).toNat) (30 : Int).toNat) 27 2 ((30 : Nat) : Int) = τ3 at P3 e
  rw [nA_t P3 (by rfl) (by omega) (by omega) (by show ((31 : Nat) : Int) + 1 ≤ ((32 : Nat) : Int); omega) (by show ((y + 90 : Nat) : Int) + 5 ≤ ((y + 95 : Nat) : Int); omega)] at e
  have P4 : pg p q 27 28 32 (y + 95) [3, 2, 1, 0] σ (mset (mnew τ3 (1000 + (5 : Int).toNat) (5 : Int).toNat) 27 3 ((31 : Nat) : Int)) := pA P3 (by omega) (by omega) (by omega) (fun j => rfl) rfl
  generalize mset (mnew τ3 (1000 + (5 : Int).toNat) (5 : Int).toNat) 27 3 ((31 : Nat) : Int) = τ4 at P4 e
  exact ⟨τ4, [3, 2, 1, 0], e, P4, pg_f P4 (by omega) (by omega) (by decide +kernel)⟩
theorem k_5_59 {p q y d : Nat} {σ : mM} (h0 : σ 905 0 = ((60 : Nat) : Int)) (h1 : σ 905 1 = (y : Int)) (h : ∀ j, σ 59 j = mdef (mlay 59) j) : ∃ τ S, mcall (d + 1) 5 [(21, ((59 : Nat) : Int))] σ = some (0, τ) ∧ pg p q 59 60 64 (y + 95) S σ τ ∧ ∀ j, τ 59 j = Tn p q 59 j := by
  have e := e_5 (d + 0) 59 σ
  rw [mX_t h0 h1, show mal 5 = 4 from rfl, show msl 5 = 95 from rfl] at e
  have P0 := pg_0 (p := p) (q := q) (c := 59) h0 h1 h
  have P0 : pg p q 59 60 60 (y + 0) [] σ σ := P0
  rw [nA_t P0 (by rfl) (by omega) (by omega) (by show ((60 : Nat) : Int) + 1 ≤ ((64 : Nat) : Int); omega) (by show ((y + 0 : Nat) : Int) + 30 ≤ ((y + 95 : Nat) : Int); omega)] at e
  have P1 : pg p q 59 60 61 (y + 30) [0] σ (mset (mnew σ (1000 + (30 : Int).toNat) (30 : Int).toNat) 59 0 ((60 : Nat) : Int)) := pA P0 (by omega) (by omega) (by omega) (fun j => rfl) rfl
  generalize mset (mnew σ (1000 + (30 : Int).toNat) (30 : Int).toNat) 59 0 ((60 : Nat) : Int) = τ1 at P1 e
  rw [nA_t P1 (by rfl) (by omega) (by omega) (by show ((61 : Nat) : Int) + 1 ≤ ((64 : Nat) : Int); omega) (by show ((y + 30 : Nat) : Int) + 30 ≤ ((y + 95 : Nat) : Int); omega)] at e
  have P2 : pg p q 59 60 62 (y + 60) [1, 0] σ (mset (mnew τ1 (1000 + (30 : Int).toNat) (30 : Int).toNat) 59 1 ((61 : Nat) : Int)) := pA P1 (by omega) (by omega) (by omega) (fun j => rfl) rfl
  generalize mset (mnew τ1 (1000 + (30 : Int).toNat) (30 : Int).toNat) 59 1 ((61 : Nat) : Int) = τ2 at P2 e
  rw [nA_t P2 (by rfl) (by omega) (by omega) (by show ((62 : Nat) : Int) + 1 ≤ ((64 : Nat) : Int); omega) (by show ((y + 60 : Nat) : Int) + 30 ≤ ((y + 95 : Nat) : Int); omega)] at e
  have P3 : pg p q 59 60 63 (y + 90) [2, 1, 0] σ (mset (mnew τ2 (1000 + (30 : Int).toNat) (30 : Int).toNat) 59 2 ((62 : Nat) : Int)) := pA P2 (by omega) (by omega) (by omega) (fun j => rfl) rfl
  generalize mset (mnew τ2 (1000 + (30 : Int).toNat) (30 : Int).toNat) 59 2 ((62 : Nat) : Int) = τ3 at P3 e
  rw [nA_t P3 (by rfl) (by omega) (by omega) (by show ((63 : Nat) : Int) + 1 ≤ ((64 : Nat) : Int); omega) (by show ((y + 90 : Nat) : Int) + 5 ≤ ((y + 95 : Nat) : Int); omega)] at e
  have P4 : pg p q 59 60 64 (y + 95) [3, 2, 1, 0] σ (mset (mnew τ3 (1000 + (5 : Int).toNat) (5 : Int).toNat) 59 3 ((63 : Nat) : Int)) := pA P3 (by omega) (by omega) (by omega) (fun j => rfl) rfl
  generalize mset (mnew τ3 (1000 + (5 : Int).toNat) (5 : Int).toNat) 59 3 ((63 : Nat) : Int) = τ4 at P4 e
  exact ⟨τ4, [3, 2, 1, 0], e, P4, pg_f P4 (by omega) (by omega) (by decide +kernel)⟩
theorem k_21_10 {p q y d : Nat} {σ : mM} (h0 : σ 905 0 = ((11 : Nat) : Int)) (h1 : σ 905 1 = (y : Int)) (h : ∀ j, σ 10 j = mdef (mlay 10) j) : ∃ τ S, mcall (d + 1) 21 [(22, ((10 : Nat) : Int))] σ = some (0, τ) ∧ pg p q 10 11 17 (y + 606) S σ τ ∧ ∀ j, τ 10 j = Tn p q 10 j := by
  have e := e_21 (d + 0) 10 σ
  rw [mX_t h0 h1, show mal 21 = 6 from rfl, show msl 21 = 606 from rfl] at e
  have P0 := pg_0 (p := p) (q := q) (c := 10) h0 h1 h
  have P0 : pg p q 10 11 11 (y + 0) [] σ σ := P0
  rw [nA_t P0 (by rfl) (by omega) (by omega) (by show ((11 : Nat) : Int) + 1 ≤ ((17 : Nat) : Int); omega) (by show ((y + 0 : Nat) : Int) + 120 ≤ ((y + 606 : Nat) : Int); omega)] at e
  have P1 : pg p q 10 11 12 (y + 120) [0] σ (mset (mnew σ (1000 + (120 : Int).toNat) (120 : Int).toNat) 10 0 ((11 : Nat) : Int)) := pA P0 (by omega) (by omega) (by omega) (fun j => rfl) rfl
  generalize mset (mnew σ (1000 + (120 : Int).toNat) (120 : Int).toNat) 10 0 ((11 : Nat) : Int) = τ1 at P1 e
  rw [nA_t P1 (by rfl) (by omega) (by omega) (by show ((12 : Nat) : Int) + 1 ≤ ((17 : Nat) : Int); omega) (by show ((y + 120 : Nat) : Int) + 120 ≤ ((y + 606 : Nat) : Int); omega)] at e
  have P2 : pg p q 10 11 13 (y + 240) [1, 0] σ (mset (mnew τ1 (1000 + (120 : Int).toNat) (120 : Int).toNat) 10 1 ((12 : Nat) : Int)) := pA P1 (by omega) (by omega) (by omega) (fun j => rfl) rfl
  generalize mset (mnew τ1 (1000 + (120 : Int).toNat) (120 : Int).toNat) 10 1 ((12 : Nat) : Int) = τ2 at P2 e
  rw [nA_t P2 (by rfl) (by omega) (by omega) (by show ((13 : Nat) : Int) + 1 ≤ ((17 : Nat) : Int); omega) (by show ((y + 240 : Nat) : Int) + 120 ≤ ((y + 606 : Nat) : Int); omega)] at e
  have P3 : pg p q 10 11 14 (y + 360) [3, 1, 0] σ (mset (mnew τ2 (1000 + (120 : Int).toNat) (120 : Int).toNat) 10 3 ((13 : Nat) : Int)) := pA P2 (by omega) (by omega) (by omega) (fun j => rfl) rfl
  generalize mset (mnew τ2 (1000 + (120 : Int).toNat) (120 : Int).toNat) 10 3 ((13 : Nat) : Int) = τ3 at P3 e
  rw [nA_t P3 (by rfl) (by omega) (by omega) (by show ((14 : Nat) : Int) + 1 ≤ ((17 : Nat) : Int); omega) (by show ((y + 360 : Nat) : Int) + 120 ≤ ((y + 606 : Nat) : Int); omega)] at e
  have P4 : pg p q 10 11 15 (y + 480) [4, 3, 1, 0] σ (mset (mnew τ3 (2000 + (120 : Int).toNat) (120 : Int).toNat) 10 4 ((14 : Nat) : Int)) := pA P3 (by omega) (by omega) (by omega) (fun j => rfl) rfl
  generalize mset (mnew τ3 (2000 + (120 : Int).toNat) (120 : Int).toNat) 10 4 ((14 : Nat) : Int) = τ4 at P4 e
  rw [nA_t P4 (by rfl) (by omega) (by omega) (by show ((15 : Nat) : Int) + 1 ≤ ((17 : Nat) : Int); omega) (by show ((y + 480 : Nat) : Int) + 120 ≤ ((y + 606 : Nat) : Int); omega)] at e
  have P5 : pg p q 10 11 16 (y + 600) [6, 4, 3, 1, 0] σ (mset (mnew τ4 (1000 + (120 : Int).toNat) (120 : Int).toNat) 10 6 ((15 : Nat) : Int)) := pA P4 (by omega) (by omega) (by omega) (fun j => rfl) rfl
  generalize mset (mnew τ4 (1000 + (120 : Int).toNat) (120 : Int).toNat) 10 6 ((15 : Nat) : Int) = τ5 at P5 e
  rw [nA_t P5 (by rfl) (by omega) (by omega) (by show ((16 : Nat) : Int) + 1 ≤ ((17 : Nat) : Int); omega) (by show ((y + 600 : Nat) : Int) + 6 ≤ ((y + 606 : Nat) : Int); omega)] at e
  have P6 : pg p q 10 11 17 (y + 606) [7, 6, 4, 3, 1, 0] σ (mset (mnew τ5 (1000 + (6 : Int).toNat) (6 : Int).toNat) 10 7 ((16 : Nat) : Int)) := pA P5 (by omega) (by omega) (by omega) (fun j => rfl) rfl
  generalize mset (mnew τ5 (1000 + (6 : Int).toNat) (6 : Int).toNat) 10 7 ((16 : Nat) : Int) = τ6 at P6 e
  exact ⟨τ6, [7, 6, 4, 3, 1, 0], e, P6, pg_f P6 (by omega) (by omega) (by decide +kernel)⟩
theorem k_21_17 {p q y d : Nat} {σ : mM} (h0 : σ 905 0 = ((18 : Nat) : Int)) (h1 : σ 905 1 = (y : Int)) (h : ∀ j, σ 17 j = mdef (mlay 17) j) : ∃ τ S, mcall (d + 1) 21 [(22, ((17 : Nat) : Int))] σ = some (0, τ) ∧ pg p q 17 18 24 (y + 606) S σ τ ∧ ∀ j, τ 17 j = Tn p q 17 j := by
  have e := e_21 (d + 0) 17 σ
  rw [mX_t h0 h1, show mal 21 = 6 from rfl, show msl 21 = 606 from rfl] at e
  have P0 := pg_0 (p := p) (q := q) (c := 17) h0 h1 h
  have P0 : pg p q 17 18 18 (y + 0) [] σ σ := P0
  rw [nA_t P0 (by rfl) (by omega) (by omega) (by show ((18 : Nat) : Int) + 1 ≤ ((24 : Nat) : Int); omega) (by show ((y + 0 : Nat) : Int) + 120 ≤ ((y + 606 : Nat) : Int); omega)] at e
  have P1 : pg p q 17 18 19 (y + 120) [0] σ (mset (mnew σ (1000 + (120 : Int).toNat) (120 : Int).toNat) 17 0 ((18 : Nat) : Int)) := pA P0 (by omega) (by omega) (by omega) (fun j => rfl) rfl
  generalize mset (mnew σ (1000 + (120 : Int).toNat) (120 : Int).toNat) 17 0 ((18 : Nat) : Int) = τ1 at P1 e
  rw [nA_t P1 (by rfl) (by omega) (by omega) (by show ((19 : Nat) : Int) + 1 ≤ ((24 : Nat) : Int); omega) (by show ((y + 120 : Nat) : Int) + 120 ≤ ((y + 606 : Nat) : Int); omega)] at e
  have P2 : pg p q 17 18 20 (y + 240) [1, 0] σ (mset (mnew τ1 (1000 + (120 : Int).toNat) (120 : Int).toNat) 17 1 ((19 : Nat) : Int)) := pA P1 (by omega) (by omega) (by omega) (fun j => rfl) rfl
  generalize mset (mnew τ1 (1000 + (120 : Int).toNat) (120 : Int).toNat) 17 1 ((19 : Nat) : Int) = τ2 at P2 e
  rw [nA_t P2 (by rfl) (by omega) (by omega) (by show ((20 : Nat) : Int) + 1 ≤ ((24 : Nat) : Int); omega) (by show ((y + 240 : Nat) : Int) + 120 ≤ ((y + 606 : Nat) : Int); omega)] at e
  have P3 : pg p q 17 18 21 (y + 360) [3, 1, 0] σ (mset (mnew τ2 (1000 + (120 : Int).toNat) (120 : Int).toNat) 17 3 ((20 : Nat) : Int)) := pA P2 (by omega) (by omega) (by omega) (fun j => rfl) rfl
  generalize mset (mnew τ2 (1000 + (120 : Int).toNat) (120 : Int).toNat) 17 3 ((20 : Nat) : Int) = τ3 at P3 e
  rw [nA_t P3 (by rfl) (by omega) (by omega) (by show ((21 : Nat) : Int) + 1 ≤ ((24 : Nat) : Int); omega) (by show ((y + 360 : Nat) : Int) + 120 ≤ ((y + 606 : Nat) : Int); omega)] at e
  have P4 : pg p q 17 18 22 (y + 480) [4, 3, 1, 0] σ (mset (mnew τ3 (2000 + (120 : Int).toNat) (120 : Int).toNat) 17 4 ((21 : Nat) : Int)) := pA P3 (by omega) (by omega) (by omega) (fun j => rfl) rfl
  generalize mset (mnew τ3 (2000 + (120 : Int).toNat) (120 : Int).toNat) 17 4 ((21 : Nat) : Int) = τ4 at P4 e
  rw [nA_t P4 (by rfl) (by omega) (by omega) (by show ((22 : Nat) : Int) + 1 ≤ ((24 : Nat) : Int); omega) (by show ((y + 480 : Nat) : Int) + 120 ≤ ((y + 606 : Nat) : Int); omega)] at e
  have P5 : pg p q 17 18 23 (y + 600) [6, 4, 3, 1, 0] σ (mset (mnew τ4 (1000 + (120 : Int).toNat) (120 : Int).toNat) 17 6 ((22 : Nat) : Int)) := pA P4 (by omega) (by omega) (by omega) (fun j => rfl) rfl
  generalize mset (mnew τ4 (1000 + (120 : Int).toNat) (120 : Int).toNat) 17 6 ((22 : Nat) : Int) = τ5 at P5 e
  rw [nA_t P5 (by rfl) (by omega) (by omega) (by show ((23 : Nat) : Int) + 1 ≤ ((24 : Nat) : Int); omega) (by show ((y + 600 : Nat) : Int) + 6 ≤ ((y + 606 : Nat) : Int); omega)] at e
  have P6 : pg p q 17 18 24 (y + 606) [7, 6, 4, 3, 1, 0] σ (mset (mnew τ5 (1000 + (6 : Int).toNat) (6 : Int).toNat) 17 7 ((23 : Nat) : Int)) := pA P5 (by omega) (by omega) (by omega) (fun j => rfl) rfl
  generalize mset (mnew τ5 (1000 + (6 : Int).toNat) (6 : Int).toNat) 17 7 ((23 : Nat) : Int) = τ6 at P6 e
  exact ⟨τ6, [7, 6, 4, 3, 1, 0], e, P6, pg_f P6 (by omega) (by omega) (by decide +kernel)⟩
theorem k_30_47 {p q y d : Nat} {σ : mM} (h0 : σ 905 0 = ((48 : Nat) : Int)) (h1 : σ 905 1 = (y : Int)) (h : ∀ j, σ 47 j = mdef (mlay 47) j) : ∃ τ S, mcall (d + 1) 30 [(23, ((47 : Nat) : Int))] σ = some (0, τ) ∧ pg p q 47 48 49 (y + 60) S σ τ ∧ ∀ j, τ 47 j = Tn p q 47 j := by
  have e := e_30 (d + 0) 47 σ
  rw [mX_t h0 h1, show mal 30 = 1 from rfl, show msl 30 = 60 from rfl] at e
  have P0 := pg_0 (p := p) (q := q) (c := 47) h0 h1 h
  have P0 : pg p q 47 48 48 (y + 0) [] σ σ := P0
  rw [nA_t P0 (by rfl) (by omega) (by omega) (by show ((48 : Nat) : Int) + 1 ≤ ((49 : Nat) : Int); omega) (by show ((y + 0 : Nat) : Int) + 60 ≤ ((y + 60 : Nat) : Int); omega)] at e
  have P1 : pg p q 47 48 49 (y + 60) [0] σ (mset (mnew σ (3000 + (60 : Int).toNat) (60 : Int).toNat) 47 0 ((48 : Nat) : Int)) := pA P0 (by omega) (by omega) (by omega) (fun j => rfl) rfl
  generalize mset (mnew σ (3000 + (60 : Int).toNat) (60 : Int).toNat) 47 0 ((48 : Nat) : Int) = τ1 at P1 e
  have P2 : pg p q 47 48 49 (y + 60) [1, 0] σ (mset τ1 47 1 (-2)) := pN P1 (by omega) (by omega) rfl
  generalize mset τ1 47 1 (-2) = τ2 at P2 e
  exact ⟨τ2, [1, 0], e, P2, pg_f P2 (by omega) (by omega) (by decide +kernel)⟩
theorem k_30_49 {p q y d : Nat} {σ : mM} (h0 : σ 905 0 = ((50 : Nat) : Int)) (h1 : σ 905 1 = (y : Int)) (h : ∀ j, σ 49 j = mdef (mlay 49) j) : ∃ τ S, mcall (d + 1) 30 [(23, ((49 : Nat) : Int))] σ = some (0, τ) ∧ pg p q 49 50 51 (y + 60) S σ τ ∧ ∀ j, τ 49 j = Tn p q 49 j := by
  have e := e_30 (d + 0) 49 σ
  rw [mX_t h0 h1, show mal 30 = 1 from rfl, show msl 30 = 60 from rfl] at e
  have P0 := pg_0 (p := p) (q := q) (c := 49) h0 h1 h
  have P0 : pg p q 49 50 50 (y + 0) [] σ σ := P0
  rw [nA_t P0 (by rfl) (by omega) (by omega) (by show ((50 : Nat) : Int) + 1 ≤ ((51 : Nat) : Int); omega) (by show ((y + 0 : Nat) : Int) + 60 ≤ ((y + 60 : Nat) : Int); omega)] at e
  have P1 : pg p q 49 50 51 (y + 60) [0] σ (mset (mnew σ (3000 + (60 : Int).toNat) (60 : Int).toNat) 49 0 ((50 : Nat) : Int)) := pA P0 (by omega) (by omega) (by omega) (fun j => rfl) rfl
  generalize mset (mnew σ (3000 + (60 : Int).toNat) (60 : Int).toNat) 49 0 ((50 : Nat) : Int) = τ1 at P1 e
  have P2 : pg p q 49 50 51 (y + 60) [1, 0] σ (mset τ1 49 1 (-2)) := pN P1 (by omega) (by omega) rfl
  generalize mset τ1 49 1 (-2) = τ2 at P2 e
  exact ⟨τ2, [1, 0], e, P2, pg_f P2 (by omega) (by omega) (by decide +kernel)⟩
theorem k_30_51 {p q y d : Nat} {σ : mM} (h0 : σ 905 0 = ((52 : Nat) : Int)) (h1 : σ 905 1 = (y : Int)) (h : ∀ j, σ 51 j = mdef (mlay 51) j) : ∃ τ S, mcall (d + 1) 30 [(23, ((51 : Nat) : Int))] σ = some (0, τ) ∧ pg p q 51 52 53 (y + 60) S σ τ ∧ ∀ j, τ 51 j = Tn p q 51 j := by
  have e := e_30 (d + 0) 51 σ
  rw [mX_t h0 h1, show mal 30 = 1 from rfl, show msl 30 = 60 from rfl] at e
  have P0 := pg_0 (p := p) (q := q) (c := 51) h0 h1 h
  have P0 : pg p q 51 52 52 (y + 0) [] σ σ := P0
  rw [nA_t P0 (by rfl) (by omega) (by omega) (by show ((52 : Nat) : Int) + 1 ≤ ((53 : Nat) : Int); omega) (by show ((y + 0 : Nat) : Int) + 60 ≤ ((y + 60 : Nat) : Int); omega)] at e
  have P1 : pg p q 51 52 53 (y + 60) [0] σ (mset (mnew σ (3000 + (60 : Int).toNat) (60 : Int).toNat) 51 0 ((52 : Nat) : Int)) := pA P0 (by omega) (by omega) (by omega) (fun j => rfl) rfl
  generalize mset (mnew σ (3000 + (60 : Int).toNat) (60 : Int).toNat) 51 0 ((52 : Nat) : Int) = τ1 at P1 e
  have P2 : pg p q 51 52 53 (y + 60) [1, 0] σ (mset τ1 51 1 (-2)) := pN P1 (by omega) (by omega) rfl
  generalize mset τ1 51 1 (-2) = τ2 at P2 e
  exact ⟨τ2, [1, 0], e, P2, pg_f P2 (by omega) (by omega) (by decide +kernel)⟩
theorem k_30_53 {p q y d : Nat} {σ : mM} (h0 : σ 905 0 = ((54 : Nat) : Int)) (h1 : σ 905 1 = (y : Int)) (h : ∀ j, σ 53 j = mdef (mlay 53) j) : ∃ τ S, mcall (d + 1) 30 [(23, ((53 : Nat) : Int))] σ = some (0, τ) ∧ pg p q 53 54 55 (y + 60) S σ τ ∧ ∀ j, τ 53 j = Tn p q 53 j := by
  have e := e_30 (d + 0) 53 σ
  rw [mX_t h0 h1, show mal 30 = 1 from rfl, show msl 30 = 60 from rfl] at e
  have P0 := pg_0 (p := p) (q := q) (c := 53) h0 h1 h
  have P0 : pg p q 53 54 54 (y + 0) [] σ σ := P0
  rw [nA_t P0 (by rfl) (by omega) (by omega) (by show ((54 : Nat) : Int) + 1 ≤ ((55 : Nat) : Int); omega) (by show ((y + 0 : Nat) : Int) + 60 ≤ ((y + 60 : Nat) : Int); omega)] at e
  have P1 : pg p q 53 54 55 (y + 60) [0] σ (mset (mnew σ (3000 + (60 : Int).toNat) (60 : Int).toNat) 53 0 ((54 : Nat) : Int)) := pA P0 (by omega) (by omega) (by omega) (fun j => rfl) rfl
  generalize mset (mnew σ (3000 + (60 : Int).toNat) (60 : Int).toNat) 53 0 ((54 : Nat) : Int) = τ1 at P1 e
  have P2 : pg p q 53 54 55 (y + 60) [1, 0] σ (mset τ1 53 1 (-2)) := pN P1 (by omega) (by omega) rfl
  generalize mset τ1 53 1 (-2) = τ2 at P2 e
  exact ⟨τ2, [1, 0], e, P2, pg_f P2 (by omega) (by omega) (by decide +kernel)⟩
theorem k_30_55 {p q y d : Nat} {σ : mM} (h0 : σ 905 0 = ((56 : Nat) : Int)) (h1 : σ 905 1 = (y : Int)) (h : ∀ j, σ 55 j = mdef (mlay 55) j) : ∃ τ S, mcall (d + 1) 30 [(23, ((55 : Nat) : Int))] σ = some (0, τ) ∧ pg p q 55 56 57 (y + 60) S σ τ ∧ ∀ j, τ 55 j = Tn p q 55 j := by
  have e := e_30 (d + 0) 55 σ
  rw [mX_t h0 h1, show mal 30 = 1 from rfl, show msl 30 = 60 from rfl] at e
  have P0 := pg_0 (p := p) (q := q) (c := 55) h0 h1 h
  have P0 : pg p q 55 56 56 (y + 0) [] σ σ := P0
  rw [nA_t P0 (by rfl) (by omega) (by omega) (by show ((56 : Nat) : Int) + 1 ≤ ((57 : Nat) : Int); omega) (by show ((y + 0 : Nat) : Int) + 60 ≤ ((y + 60 : Nat) : Int); omega)] at e
  have P1 : pg p q 55 56 57 (y + 60) [0] σ (mset (mnew σ (3000 + (60 : Int).toNat) (60 : Int).toNat) 55 0 ((56 : Nat) : Int)) := pA P0 (by omega) (by omega) (by omega) (fun j => rfl) rfl
  generalize mset (mnew σ (3000 + (60 : Int).toNat) (60 : Int).toNat) 55 0 ((56 : Nat) : Int) = τ1 at P1 e
  have P2 : pg p q 55 56 57 (y + 60) [1, 0] σ (mset τ1 55 1 (-2)) := pN P1 (by omega) (by omega) rfl
  generalize mset τ1 55 1 (-2) = τ2 at P2 e
  exact ⟨τ2, [1, 0], e, P2, pg_f P2 (by omega) (by omega) (by decide +kernel)⟩
theorem k_30_57 {p q y d : Nat} {σ : mM} (h0 : σ 905 0 = ((58 : Nat) : Int)) (h1 : σ 905 1 = (y : Int)) (h : ∀ j, σ 57 j = mdef (mlay 57) j) : ∃ τ S, mcall (d + 1) 30 [(23, ((57 : Nat) : Int))] σ = some (0, τ) ∧ pg p q 57 58 59 (y + 60) S σ τ ∧ ∀ j, τ 57 j = Tn p q 57 j := by
  have e := e_30 (d + 0) 57 σ
  rw [mX_t h0 h1, show mal 30 = 1 from rfl, show msl 30 = 60 from rfl] at e
  have P0 := pg_0 (p := p) (q := q) (c := 57) h0 h1 h
  have P0 : pg p q 57 58 58 (y + 0) [] σ σ := P0
  rw [nA_t P0 (by rfl) (by omega) (by omega) (by show ((58 : Nat) : Int) + 1 ≤ ((59 : Nat) : Int); omega) (by show ((y + 0 : Nat) : Int) + 60 ≤ ((y + 60 : Nat) : Int); omega)] at e
  have P1 : pg p q 57 58 59 (y + 60) [0] σ (mset (mnew σ (3000 + (60 : Int).toNat) (60 : Int).toNat) 57 0 ((58 : Nat) : Int)) := pA P0 (by omega) (by omega) (by omega) (fun j => rfl) rfl
  generalize mset (mnew σ (3000 + (60 : Int).toNat) (60 : Int).toNat) 57 0 ((58 : Nat) : Int) = τ1 at P1 e
  have P2 : pg p q 57 58 59 (y + 60) [1, 0] σ (mset τ1 57 1 (-2)) := pN P1 (by omega) (by omega) rfl
  generalize mset τ1 57 1 (-2) = τ2 at P2 e
  exact ⟨τ2, [1, 0], e, P2, pg_f P2 (by omega) (by omega) (by decide +kernel)⟩
theorem k_0_38 {p q y d : Nat} {σ : mM} (h0 : σ 905 0 = ((39 : Nat) : Int)) (h1 : σ 905 1 = (y : Int)) (h : ∀ j, σ 38 j = mdef (mlay 38) j) : ∃ τ S, mcall (d + 1) 0 [(20, ((38 : Nat) : Int))] σ = some (0, τ) ∧ pg p q 38 39 43 (y + 160) S σ τ ∧ ∀ j, τ 38 j = Tn p q 38 j := by
  have e := e_0 (d + 0) 38 σ
  rw [mX_t h0 h1, show mal 0 = 4 from rfl, show msl 0 = 160 from rfl] at e
  have P0 := pg_0 (p := p) (q := q) (c := 38) h0 h1 h
  have P0 : pg p q 38 39 39 (y + 0) [] σ σ := P0
  rw [nA_t P0 (by rfl) (by omega) (by omega) (by show ((39 : Nat) : Int) + 1 ≤ ((43 : Nat) : Int); omega) (by show ((y + 0 : Nat) : Int) + 40 ≤ ((y + 160 : Nat) : Int); omega)] at e
  have P1 : pg p q 38 39 40 (y + 40) [0] σ (mset (mnew σ (1000 + (40 : Int).toNat) (40 : Int).toNat) 38 0 ((39 : Nat) : Int)) := pA P0 (by omega) (by omega) (by omega) (fun j => rfl) rfl
  generalize mset (mnew σ (1000 + (40 : Int).toNat) (40 : Int).toNat) 38 0 ((39 : Nat) : Int) = τ1 at P1 e
  rw [nA_t P1 (by rfl) (by omega) (by omega) (by show ((40 : Nat) : Int) + 1 ≤ ((43 : Nat) : Int); omega) (by show ((y + 40 : Nat) : Int) + 40 ≤ ((y + 160 : Nat) : Int); omega)] at e
  have P2 : pg p q 38 39 41 (y + 80) [1, 0] σ (mset (mnew τ1 (1000 + (40 : Int).toNat) (40 : Int).toNat) 38 1 ((40 : Nat) : Int)) := pA P1 (by omega) (by omega) (by omega) (fun j => rfl) rfl
  generalize mset (mnew τ1 (1000 + (40 : Int).toNat) (40 : Int).toNat) 38 1 ((40 : Nat) : Int) = τ2 at P2 e
  rw [nA_t P2 (by rfl) (by omega) (by omega) (by show ((41 : Nat) : Int) + 1 ≤ ((43 : Nat) : Int); omega) (by show ((y + 80 : Nat) : Int) + 40 ≤ ((y + 160 : Nat) : Int); omega)] at e
  have P3 : pg p q 38 39 42 (y + 120) [2, 1, 0] σ (mset (mnew τ2 (1000 + (40 : Int).toNat) (40 : Int).toNat) 38 2 ((41 : Nat) : Int)) := pA P2 (by omega) (by omega) (by omega) (fun j => rfl) rfl
  generalize mset (mnew τ2 (1000 + (40 : Int).toNat) (40 : Int).toNat) 38 2 ((41 : Nat) : Int) = τ3 at P3 e
  rw [nA_t P3 (by rfl) (by omega) (by omega) (by show ((42 : Nat) : Int) + 1 ≤ ((43 : Nat) : Int); omega) (by show ((y + 120 : Nat) : Int) + 40 ≤ ((y + 160 : Nat) : Int); omega)] at e
  have P4 : pg p q 38 39 43 (y + 160) [3, 2, 1, 0] σ (mset (mnew τ3 (1000 + (40 : Int).toNat) (40 : Int).toNat) 38 3 ((42 : Nat) : Int)) := pA P3 (by omega) (by omega) (by omega) (fun j => rfl) rfl
  generalize mset (mnew τ3 (1000 + (40 : Int).toNat) (40 : Int).toNat) 38 3 ((42 : Nat) : Int) = τ4 at P4 e
  exact ⟨τ4, [3, 2, 1, 0], e, P4, pg_f P4 (by omega) (by omega) (by decide +kernel)⟩
theorem k_46_43 {p q y d : Nat} {σ : mM} (h0 : σ 905 0 = ((44 : Nat) : Int)) (h1 : σ 905 1 = (y : Int)) (h : ∀ j, σ 43 j = mdef (mlay 43) j) : ∃ τ S, mcall (d + 1) 46 [(25, ((43 : Nat) : Int))] σ = some (0, τ) ∧ pg p q 43 44 46 (y + 74) S σ τ ∧ ∀ j, τ 43 j = Tn p q 43 j := by
  have e := e_46 (d + 0) 43 σ
  rw [mX_t h0 h1, show mal 46 = 2 from rfl, show msl 46 = 74 from rfl] at e
  have P0 := pg_0 (p := p) (q := q) (c := 43) h0 h1 h
  have P0 : pg p q 43 44 44 (y + 0) [] σ σ := P0
  rw [nA_t P0 (by rfl) (by omega) (by omega) (by show ((44 : Nat) : Int) + 1 ≤ ((46 : Nat) : Int); omega) (by show ((y + 0 : Nat) : Int) + 50 ≤ ((y + 74 : Nat) : Int); omega)] at e
  have P1 : pg p q 43 44 45 (y + 50) [0] σ (mset (mnew σ (1000 + (50 : Int).toNat) (50 : Int).toNat) 43 0 ((44 : Nat) : Int)) := pA P0 (by omega) (by omega) (by omega) (fun j => rfl) rfl
  generalize mset (mnew σ (1000 + (50 : Int).toNat) (50 : Int).toNat) 43 0 ((44 : Nat) : Int) = τ1 at P1 e
  rw [nA_t P1 (by rfl) (by omega) (by omega) (by show ((45 : Nat) : Int) + 1 ≤ ((46 : Nat) : Int); omega) (by show ((y + 50 : Nat) : Int) + 24 ≤ ((y + 74 : Nat) : Int); omega)] at e
  have P2 : pg p q 43 44 46 (y + 74) [2, 0] σ (mset (mnew τ1 (1000 + (24 : Int).toNat) (24 : Int).toNat) 43 2 ((45 : Nat) : Int)) := pA P1 (by omega) (by omega) (by omega) (fun j => rfl) rfl
  generalize mset (mnew τ1 (1000 + (24 : Int).toNat) (24 : Int).toNat) 43 2 ((45 : Nat) : Int) = τ2 at P2 e
  exact ⟨τ2, [2, 0], e, P2, pg_f P2 (by omega) (by omega) (by decide +kernel)⟩
theorem k_54_24 {p q y d : Nat} {σ : mM} (h0 : σ 905 0 = ((25 : Nat) : Int)) (h1 : σ 905 1 = (y : Int)) (h : ∀ j, σ 24 j = mdef (mlay 24) j) : ∃ τ S, mcall (d + 1) 54 [(26, ((24 : Nat) : Int))] σ = some (0, τ) ∧ pg p q 24 25 26 (y + 120) S σ τ ∧ ∀ j, τ 24 j = Tn p q 24 j := by
  have e := e_54 (d + 0) 24 σ
  rw [mX_t h0 h1, show mal 54 = 1 from rfl, show msl 54 = 120 from rfl] at e
  have P0 := pg_0 (p := p) (q := q) (c := 24) h0 h1 h
  have P0 : pg p q 24 25 25 (y + 0) [] σ σ := P0
  rw [nA_t P0 (by rfl) (by omega) (by omega) (by show ((25 : Nat) : Int) + 1 ≤ ((26 : Nat) : Int); omega) (by show ((y + 0 : Nat) : Int) + 120 ≤ ((y + 120 : Nat) : Int); omega)] at e
  have P1 : pg p q 24 25 26 (y + 120) [0] σ (mset (mnew σ (1000 + (120 : Int).toNat) (120 : Int).toNat) 24 0 ((25 : Nat) : Int)) := pA P0 (by omega) (by omega) (by omega) (fun j => rfl) rfl
  generalize mset (mnew σ (1000 + (120 : Int).toNat) (120 : Int).toNat) 24 0 ((25 : Nat) : Int) = τ1 at P1 e
  exact ⟨τ1, [0], e, P1, pg_f P1 (by omega) (by omega) (by decide +kernel)⟩
theorem k_82_33 {p q y d : Nat} {σ : mM} (h0 : σ 905 0 = ((34 : Nat) : Int)) (h1 : σ 905 1 = (y : Int)) (h : ∀ j, σ 33 j = mdef (mlay 33) j) : ∃ τ S, mcall (d + 1) 82 [(28, ((33 : Nat) : Int))] σ = some (0, τ) ∧ pg p q 33 34 38 (y + 120) S σ τ ∧ ∀ j, τ 33 j = Tn p q 33 j := by
  have e := e_82 (d + 0) 33 σ
  rw [mX_t h0 h1, show mal 82 = 4 from rfl, show msl 82 = 120 from rfl] at e
  have P0 := pg_0 (p := p) (q := q) (c := 33) h0 h1 h
  have P0 : pg p q 33 34 34 (y + 0) [] σ σ := P0
  rw [nA_t P0 (by rfl) (by omega) (by omega) (by show ((34 : Nat) : Int) + 1 ≤ ((38 : Nat) : Int); omega) (by show ((y + 0 : Nat) : Int) + 30 ≤ ((y + 120 : Nat) : Int); omega)] at e
  have P1 : pg p q 33 34 35 (y + 30) [0] σ (mset (mnew σ (1000 + (30 : Int).toNat) (30 : Int).toNat) 33 0 ((34 : Nat) : Int)) := pA P0 (by omega) (by omega) (by omega) (fun j => rfl) rfl
  generalize mset (mnew σ (1000 + (30 : Int).toNat) (30 : Int).toNat) 33 0 ((34 : Nat) : Int) = τ1 at P1 e
  rw [nA_t P1 (by rfl) (by omega) (by omega) (by show ((35 : Nat) : Int) + 1 ≤ ((38 : Nat) : Int); omega) (by show ((y + 30 : Nat) : Int) + 30 ≤ ((y + 120 : Nat) : Int); omega)] at e
  have P2 : pg p q 33 34 36 (y + 60) [1, 0] σ (mset (mnew τ1 (1000 + (30 : Int).toNat) (30 : Int).toNat) 33 1 ((35 : Nat) : Int)) := pA P1 (by omega) (by omega) (by omega) (fun j => rfl) rfl
  generalize mset (mnew τ1 (1000 + (30 : Int).toNat) (30 : Int).toNat) 33 1 ((35 : Nat) : Int) = τ2 at P2 e
  rw [nA_t P2 (by rfl) (by omega) (by omega) (by show ((36 : Nat) : Int) + 1 ≤ ((38 : Nat) : Int); omega) (by show ((y + 60 : Nat) : Int) + 30 ≤ ((y + 120 : Nat) : Int); omega)] at e
  have P3 : pg p q 33 34 37 (y + 90) [2, 1, 0] σ (mset (mnew τ2 (1000 + (30 : Int).toNat) (30 : Int).toNat) 33 2 ((36 : Nat) : Int)) := pA P2 (by omega) (by omega) (by omega) (fun j => rfl) rfl
  generalize mset (mnew τ2 (1000 + (30 : Int).toNat) (30 : Int).toNat) 33 2 ((36 : Nat) : Int) = τ3 at P3 e
  rw [nA_t P3 (by rfl) (by omega) (by omega) (by show ((37 : Nat) : Int) + 1 ≤ ((38 : Nat) : Int); omega) (by show ((y + 90 : Nat) : Int) + 30 ≤ ((y + 120 : Nat) : Int); omega)] at e
  have P4 : pg p q 33 34 38 (y + 120) [3, 2, 1, 0] σ (mset (mnew τ3 (1000 + (30 : Int).toNat) (30 : Int).toNat) 33 3 ((37 : Nat) : Int)) := pA P3 (by omega) (by omega) (by omega) (fun j => rfl) rfl
  generalize mset (mnew τ3 (1000 + (30 : Int).toNat) (30 : Int).toNat) 33 3 ((37 : Nat) : Int) = τ4 at P4 e
  exact ⟨τ4, [3, 2, 1, 0], e, P4, pg_f P4 (by omega) (by omega) (by decide +kernel)⟩
theorem k_36_1 {p q y d : Nat} {σ : mM} (h0 : σ 905 0 = ((2 : Nat) : Int)) (h1 : σ 905 1 = (y : Int)) (h : ∀ j, σ 1 j = mdef (mlay 1) j) : ∃ τ S, mcall (d + 2) 36 [(24, ((1 : Nat) : Int))] σ = some (0, τ) ∧ pg p q 1 2 24 (y + 1352) S σ τ ∧ ∀ j, τ 1 j = Tn p q 1 j := by
  have e := e_36 (d + 1) 1 σ
  rw [mX_t h0 h1, show mal 36 = 22 from rfl, show msl 36 = 1352 from rfl] at e
  have P0 := pg_0 (p := p) (q := q) (c := 1) h0 h1 h
  have P0 : pg p q 1 2 2 (y + 0) [] σ σ := P0
  rw [nO_t P0 (by rfl) (by show ((2 : Nat) : Int) + 1 ≤ ((24 : Nat) : Int); omega) (by show ((y + 0 : Nat) : Int) + 5 ≤ ((y + 1352 : Nat) : Int); omega)] at e
  have w0 : (mnew σ (20 + 1) 5) 905 0 = ((3 : Nat) : Int) := nw_0 P0.1 (by omega)
  have w1 : (mnew σ (20 + 1) 5) 905 1 = ((y + 5 : Nat) : Int) := nw_1 P0.1 P0.2.1 (by omega)
  obtain ⟨μ0, S0, c1, g0, f0⟩ := k_5_2 (p := p) (q := q) (d := d + 0) (y := y + 5) (σ := mnew σ (20 + 1) 5) w0 w1 (fun j => nw_e P0.1)
  replace c1 : mcall (d + 1) 5 [(21, ((2 : Nat) : Int))] (mnew σ (20 + 1) 5) = some (0, μ0) := c1
  rw [c1, bK_t, nC_t (z := 3) (y := y + 5) w0 w1 g0.1 g0.2.1 (by show ((7 : Nat) : Int) ≤ ((24 : Nat) : Int); omega) (by show ((y + 100 : Nat) : Int) ≤ ((y + 1352 : Nat) : Int); omega)] at e
  have P1 : pg p q 1 2 7 (y + 100) [0] σ (mset μ0 1 0 ((2 : Nat) : Int)) := pO P0 g0 f0 (by omega) (by omega) (by omega) (by omega) rfl
  clear c1 w0 w1 g0 f0
  generalize mset μ0 1 0 ((2 : Nat) : Int) = τ1 at P1 e
  rw [nA_t P1 (by rfl) (by omega) (by omega) (by show ((7 : Nat) : Int) + 1 ≤ ((24 : Nat) : Int); omega) (by show ((y + 100 : Nat) : Int) + 8 ≤ ((y + 1352 : Nat) : Int); omega)] at e
  have P2 : pg p q 1 2 8 (y + 108) [1, 0] σ (mset (mnew τ1 (1000 + (8 : Int).toNat) (8 : Int).toNat) 1 1 ((7 : Nat) : Int)) := pA P1 (by omega) (by omega) (by omega) (fun j => rfl) rfl
  generalize mset (mnew τ1 (1000 + (8 : Int).toNat) (8 : Int).toNat) 1 1 ((7 : Nat) : Int) = τ2 at P2 e
  rw [nA_t P2 (by rfl) (by omega) (by omega) (by show ((8 : Nat) : Int) + 1 ≤ ((24 : Nat) : Int); omega) (by show ((y + 108 : Nat) : Int) + 8 ≤ ((y + 1352 : Nat) : Int); omega)] at e
  have P3 : pg p q 1 2 9 (y + 116) [2, 1, 0] σ (mset (mnew τ2 (1000 + (8 : Int).toNat) (8 : Int).toNat) 1 2 ((8 : Nat) : Int)) := pA P2 (by omega) (by omega) (by omega) (fun j => rfl) rfl
  generalize mset (mnew τ2 (1000 + (8 : Int).toNat) (8 : Int).toNat) 1 2 ((8 : Nat) : Int) = τ3 at P3 e
  rw [nA_t P3 (by rfl) (by omega) (by omega) (by show ((9 : Nat) : Int) + 1 ≤ ((24 : Nat) : Int); omega) (by show ((y + 116 : Nat) : Int) + 8 ≤ ((y + 1352 : Nat) : Int); omega)] at e
  have P4 : pg p q 1 2 10 (y + 124) [3, 2, 1, 0] σ (mset (mnew τ3 (1000 + (8 : Int).toNat) (8 : Int).toNat) 1 3 ((9 : Nat) : Int)) := pA P3 (by omega) (by omega) (by omega) (fun j => rfl) rfl
  generalize mset (mnew τ3 (1000 + (8 : Int).toNat) (8 : Int).toNat) 1 3 ((9 : Nat) : Int) = τ4 at P4 e
  rw [nO_t P4 (by rfl) (by show ((10 : Nat) : Int) + 1 ≤ ((24 : Nat) : Int); omega) (by show ((y + 124 : Nat) : Int) + 8 ≤ ((y + 1352 : Nat) : Int); omega)] at e
  have w0 : (mnew τ4 (20 + 2) 8) 905 0 = ((11 : Nat) : Int) := nw_0 P4.1 (by omega)
  have w1 : (mnew τ4 (20 + 2) 8) 905 1 = ((y + 132 : Nat) : Int) := nw_1 P4.1 P4.2.1 (by omega)
  obtain ⟨μ4, S4, c1, g4, f4⟩ := k_21_10 (p := p) (q := q) (d := d + 0) (y := y + 132) (σ := mnew τ4 (20 + 2) 8) w0 w1 (fun j => nw_e P4.1)
  replace c1 : mcall (d + 1) 21 [(22, ((10 : Nat) : Int))] (mnew τ4 (20 + 2) 8) = some (0, μ4) := c1
  rw [c1, bK_t, nC_t (z := 11) (y := y + 132) w0 w1 g4.1 g4.2.1 (by show ((17 : Nat) : Int) ≤ ((24 : Nat) : Int); omega) (by show ((y + 738 : Nat) : Int) ≤ ((y + 1352 : Nat) : Int); omega)] at e
  have P5 : pg p q 1 2 17 (y + 738) [6, 3, 2, 1, 0] σ (mset μ4 1 6 ((10 : Nat) : Int)) := pO P4 g4 f4 (by omega) (by omega) (by omega) (by omega) rfl
  clear c1 w0 w1 g4 f4
  generalize mset μ4 1 6 ((10 : Nat) : Int) = τ5 at P5 e
  rw [nO_t P5 (by rfl) (by show ((17 : Nat) : Int) + 1 ≤ ((24 : Nat) : Int); omega) (by show ((y + 738 : Nat) : Int) + 8 ≤ ((y + 1352 : Nat) : Int); omega)] at e
  have w0 : (mnew τ5 (20 + 2) 8) 905 0 = ((18 : Nat) : Int) := nw_0 P5.1 (by omega)
  have w1 : (mnew τ5 (20 + 2) 8) 905 1 = ((y + 746 : Nat) : Int) := nw_1 P5.1 P5.2.1 (by omega)
  obtain ⟨μ5, S5, c1, g5, f5⟩ := k_21_17 (p := p) (q := q) (d := d + 0) (y := y + 746) (σ := mnew τ5 (20 + 2) 8) w0 w1 (fun j => nw_e P5.1)
  replace c1 : mcall (d + 1) 21 [(22, ((17 : Nat) : Int))] (mnew τ5 (20 + 2) 8) = some (0, μ5) := c1
  rw [c1, bK_t, nC_t (z := 18) (y := y + 746) w0 w1 g5.1 g5.2.1 (by show ((24 : Nat) : Int) ≤ ((24 : Nat) : Int); omega) (by show ((y + 1352 : Nat) : Int) ≤ ((y + 1352 : Nat) : Int); omega)] at e
  have P6 : pg p q 1 2 24 (y + 1352) [7, 6, 3, 2, 1, 0] σ (mset μ5 1 7 ((17 : Nat) : Int)) := pO P5 g5 f5 (by omega) (by omega) (by omega) (by omega) rfl
  clear c1 w0 w1 g5 f5
  generalize mset μ5 1 7 ((17 : Nat) : Int) = τ6 at P6 e
  exact ⟨τ6, [7, 6, 3, 2, 1, 0], e, P6, pg_f P6 (by omega) (by omega) (by decide +kernel)⟩
theorem k_66_26 {p q y d : Nat} {σ : mM} (h0 : σ 905 0 = ((27 : Nat) : Int)) (h1 : σ 905 1 = (y : Int)) (h : ∀ j, σ 26 j = mdef (mlay 26) j) : ∃ τ S, mcall (d + 2) 66 [(27, ((26 : Nat) : Int)), (24, ((1 : Nat) : Int))] σ = some (0, τ) ∧ pg p q 26 27 33 (y + 103) S σ τ ∧ ∀ j, τ 26 j = Tn p q 26 j := by
  have e := e_66 (d + 1) 26 1 σ
  rw [mX_t h0 h1, show mal 66 = 6 from rfl, show msl 66 = 103 from rfl] at e
  have P0 := pg_0 (p := p) (q := q) (c := 26) h0 h1 h
  have P0 : pg p q 26 27 27 (y + 0) [] σ σ := P0
  rw [nO_t P0 (by rfl) (by show ((27 : Nat) : Int) + 1 ≤ ((33 : Nat) : Int); omega) (by show ((y + 0 : Nat) : Int) + 5 ≤ ((y + 103 : Nat) : Int); omega)] at e
  have w0 : (mnew σ (20 + 1) 5) 905 0 = ((28 : Nat) : Int) := nw_0 P0.1 (by omega)
  have w1 : (mnew σ (20 + 1) 5) 905 1 = ((y + 5 : Nat) : Int) := nw_1 P0.1 P0.2.1 (by omega)
  obtain ⟨μ0, S0, c1, g0, f0⟩ := k_5_27 (p := p) (q := q) (d := d + 0) (y := y + 5) (σ := mnew σ (20 + 1) 5) w0 w1 (fun j => nw_e P0.1)
  replace c1 : mcall (d + 1) 5 [(21, ((27 : Nat) : Int))] (mnew σ (20 + 1) 5) = some (0, μ0) := c1
  rw [c1, bK_t, nC_t (z := 28) (y := y + 5) w0 w1 g0.1 g0.2.1 (by show ((32 : Nat) : Int) ≤ ((33 : Nat) : Int); omega) (by show ((y + 100 : Nat) : Int) ≤ ((y + 103 : Nat) : Int); omega)] at e
  have P1 : pg p q 26 27 32 (y + 100) [1] σ (mset μ0 26 1 ((27 : Nat) : Int)) := pO P0 g0 f0 (by omega) (by omega) (by omega) (by omega) rfl
  clear c1 w0 w1 g0 f0
  generalize mset μ0 26 1 ((27 : Nat) : Int) = τ1 at P1 e
  rw [nA_t P1 (by rfl) (by omega) (by omega) (by show ((32 : Nat) : Int) + 1 ≤ ((33 : Nat) : Int); omega) (by show ((y + 100 : Nat) : Int) + 3 ≤ ((y + 103 : Nat) : Int); omega)] at e
  have P2 : pg p q 26 27 33 (y + 103) [2, 1] σ (mset (mnew τ1 (1000 + (3 : Int).toNat) (3 : Int).toNat) 26 2 ((32 : Nat) : Int)) := pA P1 (by omega) (by omega) (by omega) (fun j => rfl) rfl
  generalize mset (mnew τ1 (1000 + (3 : Int).toNat) (3 : Int).toNat) 26 2 ((32 : Nat) : Int) = τ2 at P2 e
  have P3 : pg p q 26 27 33 (y + 103) [0, 2, 1] σ (mset τ2 26 0 ((1 : Nat) : Int)) := pN P2 (by omega) (by omega) rfl
  generalize mset τ2 26 0 ((1 : Nat) : Int) = τ3 at P3 e
  exact ⟨τ3, [0, 2, 1], e, P3, pg_f P3 (by omega) (by omega) (by decide +kernel)⟩
end
