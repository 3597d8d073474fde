/-! THE CELLS: which kind of cell stands at each number, in the order in which they are made; which kind each field holds; which fields hold the same cell for ever -/
def mlays : List Nat := [29, 24, 21, 1030, 1030, 1030, 1005, 1008, 1008, 1008, 22, 1120, 1120, 1120, 2120, 1120, 1006, 22, 1120, 1120, 1120, 2120, 1120, 1006, 26, 1120, 27, 21, 1030, 1030, 1030, 1005, 1003, 28, 1030, 1030, 1030, 1030, 20, 1040, 1040, 1040, 1040, 25, 1050, 1024, 9006, 23, 3060, 23, 3060, 23, 3060, 23, 3060, 23, 3060, 23, 3060, 21, 1030, 1030, 1030, 1005, 30, 1030, 1030, 1030, 1024, 1002, 1120, 1060, 1060, 1060, 1200, 1061, 1061, 1061, 1200, 1200, 1006, 1005, 1092, 1005, 1160, 1050, 1024, 1006, 1006, 3360, 1092, 1092, 1003, 1030, 1030]
def mlay (c : Nat) : Nat := mlays.getD c 0
def mfts : List (List Nat) := [[1040, 1040, 1040, 1040, 0, 0], [1030, 1030, 1030, 1005, 0], [1120, 1120, 0, 1120, 2120, 0, 1120, 1006], [3060, 0, 0, 0], [21, 1008, 1008, 1008, 0, 0, 22, 22], [1050, 0, 1024, 0], [1120, 0, 0, 22], [24, 21, 1003, 0, 0, 0, 0, 0, 0, 0], [1030, 1030, 1030, 1030, 0, 0, 0, 0], [24, 26, 27, 28, 20, 25, 9006, 21, 0], [1030, 1030, 1030, 0, 1024, 1002, 0, 0, 1120, 0, 0, 1060, 1060, 1060, 1200, 0, 0, 0, 0, 1061, 1061, 1061, 1200, 1200, 1006, 1005, 0, 1092, 1005, 0, 0, 1160, 0, 1050, 0, 1024, 1006, 1006, 3360, 1092, 1092, 1003, 1030, 1030]]
def mft (i k : Nat) : Nat := (mfts.getD i []).getD k 0
def mNf (i : Nat) : Nat := (mfts.getD i []).length
def mfxs : List (List (Option Int)) := [[some (1), some (2), some (3), some (4), none, none], [some (1), some (2), some (3), some (4), none], [some (1), some (2), none, some (3), some (4), none, some (5), some (6)], [some (1), none, none, none], [some (1), some (6), some (7), some (8), none, none, none, none], [some (1), none, some (2), none], [some (1), none, none, none], [some (-25), some (1), some (6), none, none, none, none, none, none, none], [some (1), some (2), some (3), some (4), none, none, none, none], [some (1), some (24), some (26), some (33), some (38), some (43), some (46), some (59), none], [some (1), some (2), some (3), none, some (4), some (5), none, none, some (6), none, none, some (7), some (8), some (9), some (10), none, none, none, none, some (11), some (12), some (13), some (14), some (15), some (16), some (17), none, some (18), some (19), none, none, some (20), none, some (21), none, some (22), some (23), some (24), some (25), some (26), some (27), some (28), some (29), some (30)]]
def mfx (i k : Nat) : Option Int := (mfxs.getD i []).getD k none
def mdef (t j : Nat) : Int := bif Nat.ble 9000 t then -1 else bif Nat.ble 1000 t then 0 else bif Nat.beq (mft (t - 20) j) 0 then 0 else -1
def mals : List (Nat × Nat × Nat) := [(0, 4, 160), (5, 4, 95), (21, 6, 606), (30, 1, 60), (36, 22, 1352), (46, 2, 74), (54, 1, 120), (66, 6, 103), (82, 4, 120), (87, 63, 2459), (132, 30, 2160)]
def mal (m : Nat) : Nat := match mals.find? (fun q => Nat.beq q.1 m) with
  | some q => q.2.1
  | none => 0
def msl (m : Nat) : Nat := match mals.find? (fun q => Nat.beq q.1 m) with
  | some q => q.2.2
  | none => 0
def mctor (m : Nat) : Bool := mals.any fun q => Nat.beq q.1 m
