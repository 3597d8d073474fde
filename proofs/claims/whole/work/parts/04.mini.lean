/-! THE MINI MACHINE: a pure run of the printed code over numbered cells. A value: its kind and its number. Kinds: 0 int, 1 long, 2 nothing, 4 the script, 20+c object of class c, 1000+n int row, 2000+n boolean row, 3000+n long row, 7000.. a constant row, 9006 the shelves. -/
abbrev mV : Type := Nat × Int
abbrev mM : Type := Nat → Nat → Int
abbrev mA : Type := Option (Int × mM)
abbrev mG : Type := Nat → List mV → List mV → mM → mA
abbrev mK : Type := Nat → List mV → mM → mA
abbrev mI : Type := Nat × Nat × Int × List Nat
def w32 (x : Int) : Int := (x + 2147483648) % 4294967296 - 2147483648
def w64 (x : Int) : Int := (x + 9223372036854775808) % 18446744073709551616 - 9223372036854775808
def mset (σ : mM) (c i : Nat) (v : Int) : mM := fun a j => if a = c ∧ j = i then v else σ a j
def mcat (v : mV) : Nat := match v with
  | (t, _) => bif Nat.beq t 1 then 2 else 1
/-- the kind of a value -/
def mkd (v : mV) : Nat := match v with
  | (t, _) => t
def mput (L : List mV) (i : Nat) (v : mV) (k : List mV → mA) : mA :=
  bif Nat.blt i L.length && (Nat.beq i 0 || !Nat.beq (mkd (L.getD (i - 1) (2, 0))) 1) then k (L.set i v) else none
def mputJ (L : List mV) (i : Nat) (v : mV) (k : List mV → mA) : mA :=
  bif Nat.blt (i + 1) L.length && (Nat.beq i 0 || !Nat.beq (mkd (L.getD (i - 1) (2, 0))) 1) then k ((L.set i v).set (i + 1) (2, 0)) else none
def mpop1 (S : List mV) (k : Int → List mV → mA) : mA := match S with
  | (t, x) :: S' => bif Nat.beq t 0 then k x S' else none
  | [] => none
def mpopJ (S : List mV) (k : Int → List mV → mA) : mA := match S with
  | (t, x) :: S' => bif Nat.beq t 1 then k x S' else none
  | [] => none
def mpopR (S : List mV) (k : Nat → Int → List mV → mA) : mA := match S with
  | (t, x) :: S' => bif Nat.blt 3 t then k t x S' else none
  | [] => none
def mpop2 (S : List mV) (k : Int → Int → List mV → mA) : mA := mpop1 S fun y S' => mpop1 S' fun x S'' => k x y S''
def mpopJ2 (S : List mV) (k : Int → Int → List mV → mA) : mA := mpopJ S fun y S' => mpopJ S' fun x S'' => k x y S''
/-- an int's word of a 32-bit operation -/
def m32 (f : Int32 → Int32 → Int32) (x y : Int) : Int := (f (Int32.ofInt x) (Int32.ofInt y)).toInt
def m64 (f : Int64 → Int64 → Int64) (x y : Int) : Int := (f (Int64.ofInt x) (Int64.ofInt y)).toInt
def mlkp (k : Int) : List Nat → Nat → Nat
  | a :: t :: r, d => bif decide (k = (a : Int)) then t else mlkp k r d
  | _, d => d
def bLt (x y : Int) (a b : mA) : mA := if x < y then a else b
def bEq (x y : Int) (a b : mA) : mA := if x = y then a else b
def bIn (i n : Int) (a : mA) : mA := if 0 ≤ i ∧ i < n then a else none
def bCp (sp dp k l1 l2 : Int) (a : mA) : mA := if 0 ≤ sp ∧ 0 ≤ dp ∧ 0 ≤ k ∧ sp + k ≤ l1 ∧ dp + k ≤ l2 then a else none
def bK (x : mA) (f : Int → mM → mA) : mA := match x with
  | some (r, σ) => f r σ
  | none => none
def msw (g : mG) (L S : List mV) (σ : mM) (x : Int) : List Nat → Nat → mA
  | a :: t :: r, d => bEq x (a : Int) (g t L S σ) (msw g L S σ x r d)
  | _, d => g d L S σ
def mp (ps : List Nat) (k : Nat) : Nat := ps.getD k 0
def mz (σ : mM) (k : Nat) : Nat := (σ 905 k).toNat
/-- a new cell of a kind, of so many slots -/
def mnew (σ : mM) (t k : Nat) : mM := fun a j => if a = mz σ 0 then mdef t j else if a = 905 then (if j = 0 then σ 905 0 + 1 else if j = 1 then σ 905 1 + k else σ a j) else σ a j
def mcopy (σ : mM) (a1 a2 sp dp n : Nat) : mM := fun a j => if a = a2 ∧ dp ≤ j ∧ j < dp + n then σ a1 (sp + (j - dp)) else σ a j
def mfit (σ : mM) (mx : Int × Int) (k : Nat) : Prop := σ 905 0 + 1 ≤ mx.1 ∧ σ 905 1 + k ≤ mx.2
/-- one instruction: what it does, then 'g' -/
def mstepA (g : mG) (op n : Nat) (v : Int) (ps : List Nat) (pc : Nat) (L S : List mV) (σ : mM) : mA :=
  bif Nat.blt op 4 then g (pc + n) L ((0, v) :: S) σ
  else bif Nat.blt op 6 then g (pc + n) L ((1, v) :: S) σ
  else bif Nat.blt op 12 then
    (match L[mp ps 0]? with
    | some (t, x) => bif (bif Nat.blt op 8 then Nat.beq t 0 else bif Nat.blt op 10 then Nat.blt 3 t else Nat.beq t 1) then g (pc + n) L ((t, x) :: S) σ else none
    | none => none)
  else bif Nat.blt op 14 then mpop1 S fun x S' => mput L (mp ps 0) (0, x) fun L' => g (pc + n) L' S' σ
  else bif Nat.blt op 16 then mpopR S fun t x S' => mput L (mp ps 0) (t, x) fun L' => g (pc + n) L' S' σ
  else bif Nat.beq op 16 then mpopJ S fun x S' => mputJ L (mp ps 0) (1, x) fun L' => g (pc + n) L' S' σ
  else bif Nat.beq op 17 then
    (match L[mp ps 0]? with
    | some (t, x) => bif Nat.beq t 0 then mput L (mp ps 0) (0, w32 (x + v)) fun L' => g (pc + n) L' S σ else none
    | none => none)
  else none
def mstepB (g : mG) (op n : Nat) (pc : Nat) (L S : List mV) (σ : mM) : mA :=
  bif Nat.beq op 20 then mpop2 S fun x y S' => g (pc + n) L ((0, w32 (x + y)) :: S') σ
  else bif Nat.beq op 21 then mpop2 S fun x y S' => g (pc + n) L ((0, w32 (x - y)) :: S') σ
  else bif Nat.beq op 22 then mpop2 S fun x y S' => g (pc + n) L ((0, w32 (x * y)) :: S') σ
  else bif Nat.beq op 23 then mpop2 S fun x y S' => bEq y 0 none (g (pc + n) L ((0, w32 (x.tdiv y)) :: S') σ)
  else bif Nat.beq op 24 then mpop2 S fun x y S' => bEq y 0 none (g (pc + n) L ((0, x.tmod y) :: S') σ)
  else bif Nat.beq op 25 then mpop1 S fun x S' => g (pc + n) L ((0, w32 (-x)) :: S') σ
  else bif Nat.beq op 26 then mpop2 S fun x y S' => g (pc + n) L ((0, m32 (· &&& ·) x y) :: S') σ
  else bif Nat.beq op 27 then mpop2 S fun x y S' => g (pc + n) L ((0, m32 (· ||| ·) x y) :: S') σ
  else bif Nat.beq op 28 then mpop2 S fun x y S' => g (pc + n) L ((0, m32 (· ^^^ ·) x y) :: S') σ
  else bif Nat.beq op 29 then mpop2 S fun x y S' => g (pc + n) L ((0, m32 (fun x y => x <<< (y &&& 31)) x y) :: S') σ
  else bif Nat.beq op 30 then mpop2 S fun x y S' => g (pc + n) L ((0, m32 (fun x y => x >>> (y &&& 31)) x y) :: S') σ
  else bif Nat.beq op 31 then mpop2 S fun x y S' => g (pc + n) L ((0, m32 (fun x y => (x.toUInt32 >>> (y.toUInt32 &&& Int32.toUInt32 31)).toInt32) x y) :: S') σ
  else bif Nat.beq op 32 then mpopJ2 S fun x y S' => g (pc + n) L ((1, w64 (x + y)) :: S') σ
  else bif Nat.beq op 33 then mpopJ2 S fun x y S' => g (pc + n) L ((1, w64 (x * y)) :: S') σ
  else bif Nat.beq op 34 then mpop1 S fun y S' => mpopJ S' fun x S'' => g (pc + n) L ((1, (Int64.ofInt x <<< ((Int32.ofInt y).toInt64 &&& 63)).toInt) :: S'') σ
  else bif Nat.beq op 35 then mpopJ2 S fun x y S' => g (pc + n) L ((1, m64 (· &&& ·) x y) :: S') σ
  else bif Nat.beq op 36 then mpopJ2 S fun x y S' => g (pc + n) L ((1, m64 (· ||| ·) x y) :: S') σ
  else bif Nat.beq op 37 then mpopJ2 S fun x y S' => g (pc + n) L ((0, if x < y then -1 else if x = y then 0 else 1) :: S') σ
  else bif Nat.beq op 38 then mpop1 S fun x S' => g (pc + n) L ((1, x) :: S') σ
  else bif Nat.beq op 39 then mpopJ S fun x S' => g (pc + n) L ((0, w32 x) :: S') σ
  else bif Nat.beq op 40 then mpop1 S fun x S' => g (pc + n) L ((0, (x + 128) % 256 - 128) :: S') σ
  else bif Nat.beq op 41 then mpop1 S fun x S' => g (pc + n) L ((0, (x + 32768) % 65536 - 32768) :: S') σ
  else none
def mstepC (g : mG) (op n : Nat) (ps : List Nat) (pc : Nat) (L S : List mV) (σ : mM) : mA :=
  bif Nat.beq op 42 then (match S with | (t, x) :: S' => bif Nat.beq t 1 then none else g (pc + n) L ((t, x) :: (t, x) :: S') σ | [] => none)
  else bif Nat.beq op 43 then (match S with | (t, x) :: (t2, x2) :: S' => bif Nat.beq t 1 || Nat.beq t2 1 then none else g (pc + n) L ((t, x) :: (t2, x2) :: (t, x) :: (t2, x2) :: S') σ | _ => none)
  else bif Nat.beq op 44 then (match S with | (t, x) :: (t2, x2) :: S' => bif Nat.beq t 1 || Nat.beq t2 1 then none else g (pc + n) L ((t, x) :: (t2, x2) :: (t, x) :: S') σ | _ => none)
  else bif Nat.beq op 45 then (match S with | (t, _) :: S' => bif Nat.beq t 1 then none else g (pc + n) L S' σ | [] => none)
  else bif Nat.beq op 48 then g (mp ps 0) L S σ
  else bif Nat.beq op 49 || Nat.beq op 50 then mpop1 S fun x S' => msw g L S' σ x (ps.drop 1) (mp ps 0)
  else bif Nat.beq op 100 then mpop1 S fun x S' => bEq x 0 (g (mp ps 0) L S' σ) (g (pc + n) L S' σ)
  else bif Nat.beq op 101 then mpop1 S fun x S' => bEq x 0 (g (pc + n) L S' σ) (g (mp ps 0) L S' σ)
  else bif Nat.beq op 102 then mpop1 S fun x S' => bLt x 0 (g (mp ps 0) L S' σ) (g (pc + n) L S' σ)
  else bif Nat.beq op 103 then mpop1 S fun x S' => bLt x 0 (g (pc + n) L S' σ) (g (mp ps 0) L S' σ)
  else bif Nat.beq op 104 then mpop1 S fun x S' => bLt 0 x (g (mp ps 0) L S' σ) (g (pc + n) L S' σ)
  else bif Nat.beq op 105 then mpop1 S fun x S' => bLt 0 x (g (pc + n) L S' σ) (g (mp ps 0) L S' σ)
  else bif Nat.beq op 110 then mpop2 S fun x y S' => bEq x y (g (mp ps 0) L S' σ) (g (pc + n) L S' σ)
  else bif Nat.beq op 111 then mpop2 S fun x y S' => bEq x y (g (pc + n) L S' σ) (g (mp ps 0) L S' σ)
  else bif Nat.beq op 112 then mpop2 S fun x y S' => bLt x y (g (mp ps 0) L S' σ) (g (pc + n) L S' σ)
  else bif Nat.beq op 113 then mpop2 S fun x y S' => bLt x y (g (pc + n) L S' σ) (g (mp ps 0) L S' σ)
  else bif Nat.beq op 114 then mpop2 S fun x y S' => bLt y x (g (mp ps 0) L S' σ) (g (pc + n) L S' σ)
  else bif Nat.beq op 115 then mpop2 S fun x y S' => bLt y x (g (pc + n) L S' σ) (g (mp ps 0) L S' σ)
  else none
/-- the length that a row's kind tells; the script's stands in the memory -/
def mlen (σ : mM) (t : Nat) : Int := bif Nat.beq t 4 then σ 904 0 else bif Nat.blt t 7000 then ((t % 1000 : Nat) : Int) else ((t % 100 : Nat) : Int)
def mstepD (g : mG) (op n : Nat) (v : Int) (ps : List Nat) (pc : Nat) (L S : List mV) (σ : mM) : mA :=
  bif Nat.beq op 51 then mpopR S fun t c S' => bif Nat.beq t (20 + mp ps 0) then g (pc + n) L ((0, σ c.toNat (mp ps 1)) :: S') σ else none
  else bif Nat.beq op 52 then mpopR S fun t c S' => bif Nat.beq t (20 + mp ps 0) then g (pc + n) L ((mp ps 2, c + v) :: S') σ else none
  else bif Nat.beq op 53 then mpopR S fun t c S' => bif Nat.beq t (20 + mp ps 0) then (bLt (σ c.toNat (mp ps 1)) 0 none (g (pc + n) L ((mp ps 2, σ c.toNat (mp ps 1)) :: S') σ)) else none
  else bif Nat.beq op 54 then mpop1 S fun x S' => mpopR S' fun t c S'' => bif Nat.beq t (20 + mp ps 0) then g (pc + n) L S'' (mset σ c.toNat (mp ps 1) x) else none
  else bif Nat.beq op 55 || Nat.beq op 56 then mpopR S fun t2 x S' => mpopR S' fun t c S'' => bif Nat.beq t (20 + mp ps 0) && Nat.beq t2 (mp ps 2) then g (pc + n) L S'' (mset σ c.toNat (mp ps 1) x) else none
  else bif Nat.beq op 57 then mpop1 S fun x S' => mpopR S' fun t c S'' => bif Nat.beq t (20 + mp ps 0) then (bIn x 2 (g (pc + n) L S'' (mset σ c.toNat (mp ps 1) x))) else none
  else bif Nat.beq op 58 || Nat.beq op 59 then g (pc + n) L ((mp ps 0, (mp ps 1 : Int)) :: S) σ
  else bif Nat.beq op 60 then mpop1 S fun i S' => mpopR S' fun t c S'' => bif Nat.beq t 4 || (Nat.ble 1000 t && Nat.blt t 2000) || (Nat.ble 7000 t && Nat.blt t 8000) then (bIn i (mlen σ t) (g (pc + n) L ((0, σ c.toNat i.toNat) :: S'') σ)) else none
  else bif Nat.beq op 61 then mpop1 S fun x S0 => mpop1 S0 fun i S' => mpopR S' fun t c S'' => bif Nat.ble 1000 t && Nat.blt t 2000 then (bIn i (mlen σ t) (g (pc + n) L S'' (mset σ c.toNat i.toNat x))) else none
  else bif Nat.beq op 62 then mpop1 S fun i S' => mpopR S' fun t c S'' => bif Nat.ble 3000 t && Nat.blt t 4000 then (bIn i (mlen σ t) (g (pc + n) L ((1, σ c.toNat i.toNat) :: S'') σ)) else none
  else bif Nat.beq op 63 then mpopJ S fun x S0 => mpop1 S0 fun i S' => mpopR S' fun t c S'' => bif Nat.ble 3000 t && Nat.blt t 4000 then (bIn i (mlen σ t) (g (pc + n) L S'' (mset σ c.toNat i.toNat x))) else none
  else bif Nat.beq op 64 then mpop1 S fun i S' => mpopR S' fun t c S'' => bif Nat.ble 2000 t && Nat.blt t 3000 then (bIn i (mlen σ t) (g (pc + n) L ((0, σ c.toNat i.toNat) :: S'') σ)) else none
  else bif Nat.beq op 65 then mpop1 S fun x S0 => mpop1 S0 fun i S' => mpopR S' fun t c S'' => bif Nat.ble 2000 t && Nat.blt t 3000 then (bIn i (mlen σ t) ((bIn x 2 (g (pc + n) L S'' (mset σ c.toNat i.toNat x))))) else none
  else bif Nat.beq op 66 then mpop1 S fun i S' => mpopR S' fun t c S'' => bif Nat.beq t 9006 then (bIn i 6 (g (pc + n) L ((23, c + 1 + 2 * i) :: S'') σ)) else none
  else bif Nat.beq op 68 then mpopR S fun t _ S' => bif Nat.beq t 4 then g (pc + n) L ((0, σ 904 0) :: S') σ else none
  else none
def mlayIs (σ : mM) (t : Nat) : Bool := Nat.beq (mlay (mz σ 0)) t
def mstepE (g : mG) (op n : Nat) (ps : List Nat) (mx : Int × Int) (pc : Nat) (L S : List mV) (σ : mM) : mA :=
  bif Nat.beq op 67 then mpopR S fun t2 x S0 => mpop1 S0 fun i S' => mpopR S' fun t c S'' => bif Nat.beq t2 23 && Nat.beq t 9006 then (bIn i 6 (g (pc + n) L S'' (mset σ c.toNat i.toNat x))) else none
  else bif Nat.ble 70 op && Nat.ble op 73 then mpop1 S fun k S' => if 0 ≤ k ∧ k < 1000 ∧ mlay (mz σ 0) = mp ps 0 + k.toNat ∧ σ 905 0 + 1 ≤ mx.1 ∧ σ 905 1 + k ≤ mx.2 then g (pc + n) L ((mp ps 0 + k.toNat, σ 905 0) :: S') (mnew σ (mp ps 0 + k.toNat) k.toNat) else none
  else bif Nat.beq op 74 then (if mlay (mz σ 0) = 20 + mp ps 0 ∧ σ 905 0 + 1 ≤ mx.1 ∧ σ 905 1 + (mp ps 1 : Int) ≤ mx.2 then g (pc + n) L ((20 + mp ps 0, σ 905 0) :: S) (mnew σ (20 + mp ps 0) (mp ps 1)) else none)
  else bif Nat.beq op 75 then mpopR S fun t _ S' => bif Nat.ble 20 t && Nat.blt t 1000 && Nat.ble (S'.map mcat).sum 8 then g (pc + n) L S' σ else none
  else none
def mpush (rt : Nat) (r : Int) (S : List mV) : List mV := bif Nat.beq rt 0 then S else (rt - 1, r) :: S
def mstepF (K : mK) (g : mG) (op n : Nat) (ps : List Nat) (mx : Int × Int) (pc : Nat) (L S : List mV) (σ : mM) : mA :=
  bif Nat.beq op 81 then mpop2 S fun x y S' => bif Nat.ble (S'.map mcat).sum 8 then g (pc + n) L ((0, if y < x then y else x) :: S') σ else none
  else bif Nat.beq op 82 then mpop2 S fun x y S' => bif Nat.ble (S'.map mcat).sum 8 then g (pc + n) L ((0, if x < y then y else x) :: S') σ else none
  else bif Nat.beq op 83 || Nat.beq op 84 then mpop1 S fun k S1 => mpop1 S1 fun dp S2 => mpopR S2 fun t2 a2 S3 => mpop1 S3 fun sp S4 => mpopR S4 fun t1 a1 S5 =>
    bif (bif Nat.beq op 83 then Nat.ble 1000 t1 && Nat.blt t1 2000 && Nat.ble 1000 t2 && Nat.blt t2 2000 else Nat.ble 3000 t1 && Nat.blt t1 4000 && Nat.ble 3000 t2 && Nat.blt t2 4000) && Nat.ble (S5.map mcat).sum 8 then
      (bCp sp dp k (mlen σ t1) (mlen σ t2) (g (pc + n) L S5 (mcopy σ a1.toNat a2.toNat sp.toNat dp.toNat k.toNat))) else none
  else bif Nat.beq op 76 then -- a method of an object: ps = method, values, answer's kind + 1, the object's kind
    bif Nat.ble (mp ps 1) S.length && Nat.ble ((S.drop (mp ps 1)).map mcat).sum 8 && Nat.beq (mkd ((S.take (mp ps 1)).reverse.headD (2, 0))) (mp ps 3) then
      (bK (K (mp ps 0) (S.take (mp ps 1)).reverse σ) fun r σ' => g (pc + n) L (mpush (mp ps 2) r (S.drop (mp ps 1))) σ') else none
  else bif Nat.beq op 77 || Nat.beq op 79 then
    bif Nat.ble (mp ps 1) S.length && Nat.ble ((S.drop (mp ps 1)).map mcat).sum 8 then
      (bK (K (mp ps 0) (S.take (mp ps 1)).reverse σ) fun r σ' => g (pc + n) L (mpush (mp ps 2) r (S.drop (mp ps 1))) σ') else none
  else bif Nat.beq op 78 || Nat.beq op 80 then
    bif Nat.ble (mp ps 1) S.length && Nat.ble ((S.drop (mp ps 1)).map mcat).sum 8 && Nat.blt 3 (mkd ((S.take (mp ps 1)).reverse.headD (2, 0))) then
      (bK (K (mp ps 0) (S.take (mp ps 1)).reverse σ) fun _ σ' => if σ' 905 0 = σ 905 0 + (mal (mp ps 0) : Int) ∧ σ' 905 1 = σ 905 1 + (msl (mp ps 0) : Int) ∧ σ' 905 0 ≤ mx.1 ∧ σ' 905 1 ≤ mx.2 then g (pc + n) L (S.drop (mp ps 1)) σ' else none) else none
  else none
def mstepR (op : Nat) (ps : List Nat) (S : List mV) (σ : mM) : mA :=
  bif Nat.beq op 90 then (match S with | [(t, x)] => bif Nat.beq t 0 then some (x, σ) else none | _ => none)
  else bif Nat.beq op 91 then (match S with | [(t, x)] => bif Nat.beq t 1 then some (x, σ) else none | _ => none)
  else bif Nat.beq op 92 then (match S with | [(t, x)] => bif Nat.beq t (mp ps 0) then some (x, σ) else none | _ => none)
  else bif Nat.beq op 93 then (match S with | [] => some (0, σ) | _ => none)
  else bif Nat.beq op 94 then (match S with | [(t, x)] => bif Nat.beq t 0 then bIn x 2 (some (x, σ)) else none | _ => none)
  else none
def mstep (K : mK) (g : mG) (mx : Int × Int) (i : mI) (pc : Nat) (L S : List mV) (σ : mM) : mA :=
  bif Nat.blt i.1 20 then mstepA g i.1 i.2.1 i.2.2.1 i.2.2.2 pc L S σ
  else bif Nat.blt i.1 42 then mstepB g i.1 i.2.1 pc L S σ
  else bif Nat.blt i.1 51 || Nat.ble 100 i.1 then mstepC g i.1 i.2.1 i.2.2.2 pc L S σ
  else bif Nat.blt i.1 67 || Nat.beq i.1 68 then mstepD g i.1 i.2.1 i.2.2.1 i.2.2.2 pc L S σ
  else bif Nat.blt i.1 76 then mstepE g i.1 i.2.1 i.2.2.2 mx pc L S σ
  else bif Nat.blt i.1 90 then mstepF K g i.1 i.2.1 i.2.2.2 mx pc L S σ
  else mstepR i.1 i.2.2.2 S σ
