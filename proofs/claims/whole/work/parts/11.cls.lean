/-! THE CLASSES: names, fields, and what the tables say of them -/
def mC (i : Nat) : String := (vwCl.getD i (RL, TX0, 0)).1
def mTf (i k : Nat) : String × String × String × Bool := (vwCl.getD i (RL, TX0, 0)).2.1 k
def mCl (i : Nat) : Prop := ∃ ty : Nat → FieldType, vwCl[i]? = some (mC i, mTf i, mNf i) ∧ (∀ x ∈ u_ws (mC i) (mTf i) (mNf i), x ∈ mWS) ∧ (∀ k, k < mNf i → parseFieldDescriptor (mTf i k).2.2.1 = some (ty k)) ∧
  (∀ a, a < mNf i → ∀ b, b < mNf i → a ≠ b → (mTf i a).2.1 ≠ (mTf i b).2.1) ∧ (∀ k, k < mNf i → (mTf i k).1 = mC i) ∧
  (∀ k, k < mNf i → (mft i k = 0 → defaultValue (ty k) = .int 0) ∧ (mft i k ≠ 0 → defaultValue (ty k) = .null ∧ ∀ a, narrow (ty k) (.ref a) = .ref a ∧ fits (ty k) (.ref a) = true))
theorem mClw_0 : ∀ x ∈ u_ws (mC 0) (mTf 0) (mNf 0), x ∈ mWS := by
  intro x hx
  obtain ⟨k, hk, rfl⟩ := List.mem_map.mp hx
  have hk : k < 6 := List.mem_range.mp hk
  rcases (by omega : k = 0 ∨ k = 1 ∨ k = 2 ∨ k = 3 ∨ k = 4 ∨ k = 5) with rfl | rfl | rfl | rfl | rfl | rfl
  · exact mWd1_ws (k := 2002) rfl rfl
  · exact mWd1_ws (k := 2004) rfl rfl
  · exact mWd1_ws (k := 2006) rfl rfl
  · exact mWd1_ws (k := 2008) rfl rfl
  · exact mWd1_ws (k := 2010) rfl rfl
  · exact mWd1_ws (k := 2012) rfl rfl
theorem mCld_0 : ∀ k, k < mNf 0 → (mft 0 k = 0 → defaultValue (tyX0 k) = .int 0) ∧ (mft 0 k ≠ 0 → defaultValue (tyX0 k) = .null ∧ ∀ a, narrow (tyX0 k) (.ref a) = .ref a ∧ fits (tyX0 k) (.ref a) = true) := by
  intro k hk
  have hk : k < 6 := hk
  rcases (by omega : k = 0 ∨ k = 1 ∨ k = 2 ∨ k = 3 ∨ k = 4 ∨ k = 5) with rfl | rfl | rfl | rfl | rfl | rfl
  · exact ⟨fun h => absurd h (by decide +kernel), fun _ => ⟨rfl, fun _ => ⟨rfl, rfl⟩⟩⟩
  · exact ⟨fun h => absurd h (by decide +kernel), fun _ => ⟨rfl, fun _ => ⟨rfl, rfl⟩⟩⟩
  · exact ⟨fun h => absurd h (by decide +kernel), fun _ => ⟨rfl, fun _ => ⟨rfl, rfl⟩⟩⟩
  · exact ⟨fun h => absurd h (by decide +kernel), fun _ => ⟨rfl, fun _ => ⟨rfl, rfl⟩⟩⟩
  · exact ⟨fun _ => rfl, fun h => absurd rfl h⟩
  · exact ⟨fun _ => rfl, fun h => absurd rfl h⟩
theorem mCl_0 : mCl 0 := ⟨tyX0, rfl, mClw_0, tyX0_ok, nmX0, by decide +kernel, mCld_0⟩
theorem mClw_1 : ∀ x ∈ u_ws (mC 1) (mTf 1) (mNf 1), x ∈ mWS := by
  intro x hx
  obtain ⟨k, hk, rfl⟩ := List.mem_map.mp hx
  have hk : k < 5 := List.mem_range.mp hk
  rcases (by omega : k = 0 ∨ k = 1 ∨ k = 2 ∨ k = 3 ∨ k = 4) with rfl | rfl | rfl | rfl | rfl
  · exact mWd1_ws (k := 1051) rfl rfl
  · exact mWd1_ws (k := 1053) rfl rfl
  · exact mWd1_ws (k := 1055) rfl rfl
  · exact mWd1_ws (k := 1057) rfl rfl
  · exact mWd1_ws (k := 1059) rfl rfl
theorem mCld_1 : ∀ k, k < mNf 1 → (mft 1 k = 0 → defaultValue (tyX1 k) = .int 0) ∧ (mft 1 k ≠ 0 → defaultValue (tyX1 k) = .null ∧ ∀ a, narrow (tyX1 k) (.ref a) = .ref a ∧ fits (tyX1 k) (.ref a) = true) := by
  intro k hk
  have hk : k < 5 := hk
  rcases (by omega : k = 0 ∨ k = 1 ∨ k = 2 ∨ k = 3 ∨ k = 4) with rfl | rfl | rfl | rfl | rfl
  · exact ⟨fun h => absurd h (by decide +kernel), fun _ => ⟨rfl, fun _ => ⟨rfl, rfl⟩⟩⟩
  · exact ⟨fun h => absurd h (by decide +kernel), fun _ => ⟨rfl, fun _ => ⟨rfl, rfl⟩⟩⟩
  · exact ⟨fun h => absurd h (by decide +kernel), fun _ => ⟨rfl, fun _ => ⟨rfl, rfl⟩⟩⟩
  · exact ⟨fun h => absurd h (by decide +kernel), fun _ => ⟨rfl, fun _ => ⟨rfl, rfl⟩⟩⟩
  · exact ⟨fun _ => rfl, fun h => absurd rfl h⟩
theorem mCl_1 : mCl 1 := ⟨tyX1, rfl, mClw_1, tyX1_ok, nmX1, by decide +kernel, mCld_1⟩
theorem mClw_2 : ∀ x ∈ u_ws (mC 2) (mTf 2) (mNf 2), x ∈ mWS := by
  intro x hx
  obtain ⟨k, hk, rfl⟩ := List.mem_map.mp hx
  have hk : k < 8 := List.mem_range.mp hk
  rcases (by omega : k = 0 ∨ k = 1 ∨ k = 2 ∨ k = 3 ∨ k = 4 ∨ k = 5 ∨ k = 6 ∨ k = 7) with rfl | rfl | rfl | rfl | rfl | rfl | rfl | rfl
  · exact mWd1_ws (k := 1077) rfl rfl
  · exact mWd1_ws (k := 1079) rfl rfl
  · exact mWd1_ws (k := 1081) rfl rfl
  · exact mWd1_ws (k := 1083) rfl rfl
  · exact mWd1_ws (k := 1085) rfl rfl
  · exact mWd1_ws (k := 1087) rfl rfl
  · exact mWd1_ws (k := 1089) rfl rfl
  · exact mWd1_ws (k := 1091) rfl rfl
theorem mCld_2 : ∀ k, k < mNf 2 → (mft 2 k = 0 → defaultValue (tyX2 k) = .int 0) ∧ (mft 2 k ≠ 0 → defaultValue (tyX2 k) = .null ∧ ∀ a, narrow (tyX2 k) (.ref a) = .ref a ∧ fits (tyX2 k) (.ref a) = true) := by
  intro k hk
  have hk : k < 8 := hk
  rcases (by omega : k = 0 ∨ k = 1 ∨ k = 2 ∨ k = 3 ∨ k = 4 ∨ k = 5 ∨ k = 6 ∨ k = 7) with rfl | rfl | rfl | rfl | rfl | rfl | rfl | rfl
  · exact ⟨fun h => absurd h (by decide +kernel), fun _ => ⟨rfl, fun _ => ⟨rfl, rfl⟩⟩⟩
  · exact ⟨fun h => absurd h (by decide +kernel), fun _ => ⟨rfl, fun _ => ⟨rfl, rfl⟩⟩⟩
  · exact ⟨fun _ => rfl, fun h => absurd rfl h⟩
  · exact ⟨fun h => absurd h (by decide +kernel), fun _ => ⟨rfl, fun _ => ⟨rfl, rfl⟩⟩⟩
  · exact ⟨fun h => absurd h (by decide +kernel), fun _ => ⟨rfl, fun _ => ⟨rfl, rfl⟩⟩⟩
  · exact ⟨fun _ => rfl, fun h => absurd rfl h⟩
  · exact ⟨fun h => absurd h (by decide +kernel), fun _ => ⟨rfl, fun _ => ⟨rfl, rfl⟩⟩⟩
  · exact ⟨fun h => absurd h (by decide +kernel), fun _ => ⟨rfl, fun _ => ⟨rfl, rfl⟩⟩⟩
theorem mCl_2 : mCl 2 := ⟨tyX2, rfl, mClw_2, tyX2_ok, nmX2, by decide +kernel, mCld_2⟩
theorem mClw_3 : ∀ x ∈ u_ws (mC 3) (mTf 3) (mNf 3), x ∈ mWS := by
  intro x hx
  obtain ⟨k, hk, rfl⟩ := List.mem_map.mp hx
  have hk : k < 4 := List.mem_range.mp hk
  rcases (by omega : k = 0 ∨ k = 1 ∨ k = 2 ∨ k = 3) with rfl | rfl | rfl | rfl
  · exact mWd1_ws (k := 2055) rfl rfl
  · exact mWd1_ws (k := 2057) rfl rfl
  · exact mWd1_ws (k := 2059) rfl rfl
  · exact mWd1_ws (k := 2061) rfl rfl
theorem mCld_3 : ∀ k, k < mNf 3 → (mft 3 k = 0 → defaultValue (tyX3 k) = .int 0) ∧ (mft 3 k ≠ 0 → defaultValue (tyX3 k) = .null ∧ ∀ a, narrow (tyX3 k) (.ref a) = .ref a ∧ fits (tyX3 k) (.ref a) = true) := by
  intro k hk
  have hk : k < 4 := hk
  rcases (by omega : k = 0 ∨ k = 1 ∨ k = 2 ∨ k = 3) with rfl | rfl | rfl | rfl
  · exact ⟨fun h => absurd h (by decide +kernel), fun _ => ⟨rfl, fun _ => ⟨rfl, rfl⟩⟩⟩
  · exact ⟨fun _ => rfl, fun h => absurd rfl h⟩
  · exact ⟨fun _ => rfl, fun h => absurd rfl h⟩
  · exact ⟨fun _ => rfl, fun h => absurd rfl h⟩
theorem mCl_3 : mCl 3 := ⟨tyX3, rfl, mClw_3, tyX3_ok, nmX3, by decide +kernel, mCld_3⟩
theorem mClw_4 : ∀ x ∈ u_ws (mC 4) (mTf 4) (mNf 4), x ∈ mWS := by
  intro x hx
  obtain ⟨k, hk, rfl⟩ := List.mem_map.mp hx
  have hk : k < 8 := List.mem_range.mp hk
  rcases (by omega : k = 0 ∨ k = 1 ∨ k = 2 ∨ k = 3 ∨ k = 4 ∨ k = 5 ∨ k = 6 ∨ k = 7) with rfl | rfl | rfl | rfl | rfl | rfl | rfl | rfl
  · exact mWd1_ws (k := 1112) rfl rfl
  · exact mWd1_ws (k := 1114) rfl rfl
  · exact mWd1_ws (k := 1116) rfl rfl
  · exact mWd1_ws (k := 1118) rfl rfl
  · exact mWd1_ws (k := 1120) rfl rfl
  · exact mWd1_ws (k := 1122) rfl rfl
  · exact mWd1_ws (k := 1124) rfl rfl
  · exact mWd1_ws (k := 1126) rfl rfl
theorem mCld_4 : ∀ k, k < mNf 4 → (mft 4 k = 0 → defaultValue (tyX4 k) = .int 0) ∧ (mft 4 k ≠ 0 → defaultValue (tyX4 k) = .null ∧ ∀ a, narrow (tyX4 k) (.ref a) = .ref a ∧ fits (tyX4 k) (.ref a) = true) := by
  intro k hk
  have hk : k < 8 := hk
  rcases (by omega : k = 0 ∨ k = 1 ∨ k = 2 ∨ k = 3 ∨ k = 4 ∨ k = 5 ∨ k = 6 ∨ k = 7) with rfl | rfl | rfl | rfl | rfl | rfl | rfl | rfl
  · exact ⟨fun h => absurd h (by decide +kernel), fun _ => ⟨rfl, fun _ => ⟨rfl, rfl⟩⟩⟩
  · exact ⟨fun h => absurd h (by decide +kernel), fun _ => ⟨rfl, fun _ => ⟨rfl, rfl⟩⟩⟩
  · exact ⟨fun h => absurd h (by decide +kernel), fun _ => ⟨rfl, fun _ => ⟨rfl, rfl⟩⟩⟩
  · exact ⟨fun h => absurd h (by decide +kernel), fun _ => ⟨rfl, fun _ => ⟨rfl, rfl⟩⟩⟩
  · exact ⟨fun _ => rfl, fun h => absurd rfl h⟩
  · exact ⟨fun _ => rfl, fun h => absurd rfl h⟩
  · exact ⟨fun h => absurd h (by decide +kernel), fun _ => ⟨rfl, fun _ => ⟨rfl, rfl⟩⟩⟩
  · exact ⟨fun h => absurd h (by decide +kernel), fun _ => ⟨rfl, fun _ => ⟨rfl, rfl⟩⟩⟩
theorem mCl_4 : mCl 4 := ⟨tyX4, rfl, mClw_4, tyX4_ok, nmX4, by decide +kernel, mCld_4⟩
theorem mClw_5 : ∀ x ∈ u_ws (mC 5) (mTf 5) (mNf 5), x ∈ mWS := by
  intro x hx
  obtain ⟨k, hk, rfl⟩ := List.mem_map.mp hx
  have hk : k < 4 := List.mem_range.mp hk
  rcases (by omega : k = 0 ∨ k = 1 ∨ k = 2 ∨ k = 3) with rfl | rfl | rfl | rfl
  · exact mWd1_ws (k := 2029) rfl rfl
  · exact mWd1_ws (k := 2031) rfl rfl
  · exact mWd1_ws (k := 2033) rfl rfl
  · exact mWd1_ws (k := 2035) rfl rfl
theorem mCld_5 : ∀ k, k < mNf 5 → (mft 5 k = 0 → defaultValue (tyX5 k) = .int 0) ∧ (mft 5 k ≠ 0 → defaultValue (tyX5 k) = .null ∧ ∀ a, narrow (tyX5 k) (.ref a) = .ref a ∧ fits (tyX5 k) (.ref a) = true) := by
  intro k hk
  have hk : k < 4 := hk
  rcases (by omega : k = 0 ∨ k = 1 ∨ k = 2 ∨ k = 3) with rfl | rfl | rfl | rfl
  · exact ⟨fun h => absurd h (by decide +kernel), fun _ => ⟨rfl, fun _ => ⟨rfl, rfl⟩⟩⟩
  · exact ⟨fun _ => rfl, fun h => absurd rfl h⟩
  · exact ⟨fun h => absurd h (by decide +kernel), fun _ => ⟨rfl, fun _ => ⟨rfl, rfl⟩⟩⟩
  · exact ⟨fun _ => rfl, fun h => absurd rfl h⟩
theorem mCl_5 : mCl 5 := ⟨tyX5, rfl, mClw_5, tyX5_ok, nmX5, by decide +kernel, mCld_5⟩
theorem mClw_6 : ∀ x ∈ u_ws (mC 6) (mTf 6) (mNf 6), x ∈ mWS := by
  intro x hx
  obtain ⟨k, hk, rfl⟩ := List.mem_map.mp hx
  have hk : k < 4 := List.mem_range.mp hk
  rcases (by omega : k = 0 ∨ k = 1 ∨ k = 2 ∨ k = 3) with rfl | rfl | rfl | rfl
  · exact mWd1_ws (k := 1140) rfl rfl
  · exact mWd1_ws (k := 1142) rfl rfl
  · exact mWd1_ws (k := 1144) rfl rfl
  · exact mWd1_ws (k := 1146) rfl rfl
theorem mCld_6 : ∀ k, k < mNf 6 → (mft 6 k = 0 → defaultValue (tyX6 k) = .int 0) ∧ (mft 6 k ≠ 0 → defaultValue (tyX6 k) = .null ∧ ∀ a, narrow (tyX6 k) (.ref a) = .ref a ∧ fits (tyX6 k) (.ref a) = true) := by
  intro k hk
  have hk : k < 4 := hk
  rcases (by omega : k = 0 ∨ k = 1 ∨ k = 2 ∨ k = 3) with rfl | rfl | rfl | rfl
  · exact ⟨fun h => absurd h (by decide +kernel), fun _ => ⟨rfl, fun _ => ⟨rfl, rfl⟩⟩⟩
  · exact ⟨fun _ => rfl, fun h => absurd rfl h⟩
  · exact ⟨fun _ => rfl, fun h => absurd rfl h⟩
  · exact ⟨fun h => absurd h (by decide +kernel), fun _ => ⟨rfl, fun _ => ⟨rfl, rfl⟩⟩⟩
theorem mCl_6 : mCl 6 := ⟨tyX6, rfl, mClw_6, tyX6_ok, nmX6, by decide +kernel, mCld_6⟩
theorem mClw_7 : ∀ x ∈ u_ws (mC 7) (mTf 7) (mNf 7), x ∈ mWS := by
  intro x hx
  obtain ⟨k, hk, rfl⟩ := List.mem_map.mp hx
  have hk : k < 10 := List.mem_range.mp hk
  rcases (by omega : k = 0 ∨ k = 1 ∨ k = 2 ∨ k = 3 ∨ k = 4 ∨ k = 5 ∨ k = 6 ∨ k = 7 ∨ k = 8 ∨ k = 9) with rfl | rfl | rfl | rfl | rfl | rfl | rfl | rfl | rfl | rfl
  · exact mWd1_ws (k := 1171) rfl rfl
  · exact mWd1_ws (k := 1173) rfl rfl
  · exact mWd1_ws (k := 1175) rfl rfl
  · exact mWd1_ws (k := 1177) rfl rfl
  · exact mWd1_ws (k := 1179) rfl rfl
  · exact mWd1_ws (k := 1181) rfl rfl
  · exact mWd1_ws (k := 1183) rfl rfl
  · exact mWd1_ws (k := 1185) rfl rfl
  · exact mWd1_ws (k := 1187) rfl rfl
  · exact mWd1_ws (k := 1189) rfl rfl
theorem mCld_7 : ∀ k, k < mNf 7 → (mft 7 k = 0 → defaultValue (tyX7 k) = .int 0) ∧ (mft 7 k ≠ 0 → defaultValue (tyX7 k) = .null ∧ ∀ a, narrow (tyX7 k) (.ref a) = .ref a ∧ fits (tyX7 k) (.ref a) = true) := by
  intro k hk
  have hk : k < 10 := hk
  rcases (by omega : k = 0 ∨ k = 1 ∨ k = 2 ∨ k = 3 ∨ k = 4 ∨ k = 5 ∨ k = 6 ∨ k = 7 ∨ k = 8 ∨ k = 9) with rfl | rfl | rfl | rfl | rfl | rfl | rfl | rfl | rfl | rfl
  · exact ⟨fun h => absurd h (by decide +kernel), fun _ => ⟨rfl, fun _ => ⟨rfl, rfl⟩⟩⟩
  · exact ⟨fun h => absurd h (by decide +kernel), fun _ => ⟨rfl, fun _ => ⟨rfl, rfl⟩⟩⟩
  · exact ⟨fun h => absurd h (by decide +kernel), fun _ => ⟨rfl, fun _ => ⟨rfl, rfl⟩⟩⟩
  · exact ⟨fun _ => rfl, fun h => absurd rfl h⟩
  · exact ⟨fun _ => rfl, fun h => absurd rfl h⟩
  · exact ⟨fun _ => rfl, fun h => absurd rfl h⟩
  · exact ⟨fun _ => rfl, fun h => absurd rfl h⟩
  · exact ⟨fun _ => rfl, fun h => absurd rfl h⟩
  · exact ⟨fun _ => rfl, fun h => absurd rfl h⟩
  · exact ⟨fun _ => rfl, fun h => absurd rfl h⟩
theorem mCl_7 : mCl 7 := ⟨tyX7, rfl, mClw_7, tyX7_ok, nmX7, by decide +kernel, mCld_7⟩
theorem mClw_8 : ∀ x ∈ u_ws (mC 8) (mTf 8) (mNf 8), x ∈ mWS := by
  intro x hx
  obtain ⟨k, hk, rfl⟩ := List.mem_map.mp hx
  have hk : k < 8 := List.mem_range.mp hk
  rcases (by omega : k = 0 ∨ k = 1 ∨ k = 2 ∨ k = 3 ∨ k = 4 ∨ k = 5 ∨ k = 6 ∨ k = 7) with rfl | rfl | rfl | rfl | rfl | rfl | rfl | rfl
  · exact mWd1_ws (k := 1211) rfl rfl
  · exact mWd1_ws (k := 1213) rfl rfl
  · exact mWd1_ws (k := 1215) rfl rfl
  · exact mWd1_ws (k := 1217) rfl rfl
  · exact mWd1_ws (k := 1219) rfl rfl
  · exact mWd1_ws (k := 1221) rfl rfl
  · exact mWd1_ws (k := 1223) rfl rfl
  · exact mWd1_ws (k := 1225) rfl rfl
theorem mCld_8 : ∀ k, k < mNf 8 → (mft 8 k = 0 → defaultValue (tyX8 k) = .int 0) ∧ (mft 8 k ≠ 0 → defaultValue (tyX8 k) = .null ∧ ∀ a, narrow (tyX8 k) (.ref a) = .ref a ∧ fits (tyX8 k) (.ref a) = true) := by
  intro k hk
  have hk : k < 8 := hk
  rcases (by omega : k = 0 ∨ k = 1 ∨ k = 2 ∨ k = 3 ∨ k = 4 ∨ k = 5 ∨ k = 6 ∨ k = 7) with rfl | rfl | rfl | rfl | rfl | rfl | rfl | rfl
  · exact ⟨fun h => absurd h (by decide +kernel), fun _ => ⟨rfl, fun _ => ⟨rfl, rfl⟩⟩⟩
  · exact ⟨fun h => absurd h (by decide +kernel), fun _ => ⟨rfl, fun _ => ⟨rfl, rfl⟩⟩⟩
  · exact ⟨fun h => absurd h (by decide +kernel), fun _ => ⟨rfl, fun _ => ⟨rfl, rfl⟩⟩⟩
  · exact ⟨fun h => absurd h (by decide +kernel), fun _ => ⟨rfl, fun _ => ⟨rfl, rfl⟩⟩⟩
  · exact ⟨fun _ => rfl, fun h => absurd rfl h⟩
  · exact ⟨fun _ => rfl, fun h => absurd rfl h⟩
  · exact ⟨fun _ => rfl, fun h => absurd rfl h⟩
  · exact ⟨fun _ => rfl, fun h => absurd rfl h⟩
theorem mCl_8 : mCl 8 := ⟨tyX8, rfl, mClw_8, tyX8_ok, nmX8, by decide +kernel, mCld_8⟩
theorem mClw_9 : ∀ x ∈ u_ws (mC 9) (mTf 9) (mNf 9), x ∈ mWS := by
  intro x hx
  obtain ⟨k, hk, rfl⟩ := List.mem_map.mp hx
  have hk : k < 9 := List.mem_range.mp hk
  rcases (by omega : k = 0 ∨ k = 1 ∨ k = 2 ∨ k = 3 ∨ k = 4 ∨ k = 5 ∨ k = 6 ∨ k = 7 ∨ k = 8) with rfl | rfl | rfl | rfl | rfl | rfl | rfl | rfl | rfl
  · exact mWd1_ws (k := 2076) rfl rfl
  · exact mWd1_ws (k := 2078) rfl rfl
  · exact mWd1_ws (k := 2080) rfl rfl
  · exact mWd1_ws (k := 2082) rfl rfl
  · exact mWd1_ws (k := 2084) rfl rfl
  · exact mWd1_ws (k := 2086) rfl rfl
  · exact mWd1_ws (k := 2088) rfl rfl
  · exact mWd1_ws (k := 2090) rfl rfl
  · exact mWd1_ws (k := 2092) rfl rfl
theorem mCld_9 : ∀ k, k < mNf 9 → (mft 9 k = 0 → defaultValue (tyX9 k) = .int 0) ∧ (mft 9 k ≠ 0 → defaultValue (tyX9 k) = .null ∧ ∀ a, narrow (tyX9 k) (.ref a) = .ref a ∧ fits (tyX9 k) (.ref a) = true) := by
  intro k hk
  have hk : k < 9 := hk
  rcases (by omega : k = 0 ∨ k = 1 ∨ k = 2 ∨ k = 3 ∨ k = 4 ∨ k = 5 ∨ k = 6 ∨ k = 7 ∨ k = 8) with rfl | rfl | rfl | rfl | rfl | rfl | rfl | rfl | rfl
  · exact ⟨fun h => absurd h (by decide +kernel), fun _ => ⟨rfl, fun _ => ⟨rfl, rfl⟩⟩⟩
  · exact ⟨fun h => absurd h (by decide +kernel), fun _ => ⟨rfl, fun _ => ⟨rfl, rfl⟩⟩⟩
  · exact ⟨fun h => absurd h (by decide +kernel), fun _ => ⟨rfl, fun _ => ⟨rfl, rfl⟩⟩⟩
  · exact ⟨fun h => absurd h (by decide +kernel), fun _ => ⟨rfl, fun _ => ⟨rfl, rfl⟩⟩⟩
  · exact ⟨fun h => absurd h (by decide +kernel), fun _ => ⟨rfl, fun _ => ⟨rfl, rfl⟩⟩⟩
  · exact ⟨fun h => absurd h (by decide +kernel), fun _ => ⟨rfl, fun _ => ⟨rfl, rfl⟩⟩⟩
  · exact ⟨fun h => absurd h (by decide +kernel), fun _ => ⟨rfl, fun _ => ⟨rfl, rfl⟩⟩⟩
  · exact ⟨fun h => absurd h (by decide +kernel), fun _ => ⟨rfl, fun _ => ⟨rfl, rfl⟩⟩⟩
  · exact ⟨fun _ => rfl, fun h => absurd rfl h⟩
theorem mCl_9 : mCl 9 := ⟨tyX9, rfl, mClw_9, tyX9_ok, nmX9, by decide +kernel, mCld_9⟩
theorem mClw_10 : ∀ x ∈ u_ws (mC 10) (mTf 10) (mNf 10), x ∈ mWS := by
  intro x hx
  obtain ⟨k, hk, rfl⟩ := List.mem_map.mp hx
  have hk : k < 44 := List.mem_range.mp hk
  rcases (by omega : k = 0 ∨ k = 1 ∨ k = 2 ∨ k = 3 ∨ k = 4 ∨ k = 5 ∨ k = 6 ∨ k = 7 ∨ k = 8 ∨ k = 9 ∨ k = 10 ∨ k = 11 ∨ k = 12 ∨ k = 13 ∨ k = 14 ∨ k = 15 ∨ k = 16 ∨ k = 17 ∨ k = 18 ∨ k = 19 ∨ k = 20 ∨ k = 21 ∨ k = 22 ∨ k = 23 ∨ k = 24 ∨ k = 25 ∨ k = 26 ∨ k = 27 ∨ k = 28 ∨ k = 29 ∨ k = 30 ∨ k = 31 ∨ k = 32 ∨ k = 33 ∨ k = 34 ∨ k = 35 ∨ k = 36 ∨ k = 37 ∨ k = 38 ∨ k = 39 ∨ k = 40 ∨ k = 41 ∨ k = 42 ∨ k = 43) with rfl | rfl | rfl | rfl | rfl | rfl | rfl | rfl | rfl | rfl | rfl | rfl | rfl | rfl | rfl | rfl | rfl | rfl | rfl | rfl | rfl | rfl | rfl | rfl | rfl | rfl | rfl | rfl | rfl | rfl | rfl | rfl | rfl | rfl | rfl | rfl | rfl | rfl | rfl | rfl | rfl | rfl | rfl | rfl
  · exact mWd1_ws (k := 4192) rfl rfl
  · exact mWd1_ws (k := 4194) rfl rfl
  · exact mWd1_ws (k := 4196) rfl rfl
  · exact mWd1_ws (k := 4198) rfl rfl
  · exact mWd1_ws (k := 4200) rfl rfl
  · exact mWd1_ws (k := 4202) rfl rfl
  · exact mWd1_ws (k := 4204) rfl rfl
  · exact mWd1_ws (k := 4206) rfl rfl
  · exact mWd1_ws (k := 4208) rfl rfl
  · exact mWd1_ws (k := 4210) rfl rfl
  · exact mWd1_ws (k := 4212) rfl rfl
  · exact mWd1_ws (k := 4214) rfl rfl
  · exact mWd1_ws (k := 4216) rfl rfl
  · exact mWd1_ws (k := 4218) rfl rfl
  · exact mWd1_ws (k := 4220) rfl rfl
  · exact mWd1_ws (k := 4222) rfl rfl
  · exact mWd1_ws (k := 4224) rfl rfl
  · exact mWd1_ws (k := 4226) rfl rfl
  · exact mWd1_ws (k := 4228) rfl rfl
  · exact mWd1_ws (k := 4230) rfl rfl
  · exact mWd1_ws (k := 4232) rfl rfl
  · exact mWd1_ws (k := 4234) rfl rfl
  · exact mWd1_ws (k := 4236) rfl rfl
  · exact mWd1_ws (k := 4238) rfl rfl
  · exact mWd1_ws (k := 5000) rfl rfl
  · exact mWd1_ws (k := 5002) rfl rfl
  · exact mWd1_ws (k := 5004) rfl rfl
  · exact mWd1_ws (k := 5006) rfl rfl
  · exact mWd1_ws (k := 5008) rfl rfl
  · exact mWd1_ws (k := 5010) rfl rfl
  · exact mWd1_ws (k := 5012) rfl rfl
  · exact mWd1_ws (k := 5014) rfl rfl
  · exact mWd1_ws (k := 5016) rfl rfl
  · exact mWd1_ws (k := 5018) rfl rfl
  · exact mWd1_ws (k := 5020) rfl rfl
  · exact mWd1_ws (k := 5022) rfl rfl
  · exact mWd1_ws (k := 5024) rfl rfl
  · exact mWd1_ws (k := 5026) rfl rfl
  · exact mWd1_ws (k := 5028) rfl rfl
  · exact mWd1_ws (k := 5030) rfl rfl
  · exact mWd1_ws (k := 5032) rfl rfl
  · exact mWd1_ws (k := 5034) rfl rfl
  · exact mWd1_ws (k := 5036) rfl rfl
  · exact mWd1_ws (k := 5038) rfl rfl
theorem mCld_10 : ∀ k, k < mNf 10 → (mft 10 k = 0 → defaultValue (tyX10 k) = .int 0) ∧ (mft 10 k ≠ 0 → defaultValue (tyX10 k) = .null ∧ ∀ a, narrow (tyX10 k) (.ref a) = .ref a ∧ fits (tyX10 k) (.ref a) = true) := by
  intro k hk
  have hk : k < 44 := hk
  rcases (by omega : k = 0 ∨ k = 1 ∨ k = 2 ∨ k = 3 ∨ k = 4 ∨ k = 5 ∨ k = 6 ∨ k = 7 ∨ k = 8 ∨ k = 9 ∨ k = 10 ∨ k = 11 ∨ k = 12 ∨ k = 13 ∨ k = 14 ∨ k = 15 ∨ k = 16 ∨ k = 17 ∨ k = 18 ∨ k = 19 ∨ k = 20 ∨ k = 21 ∨ k = 22 ∨ k = 23 ∨ k = 24 ∨ k = 25 ∨ k = 26 ∨ k = 27 ∨ k = 28 ∨ k = 29 ∨ k = 30 ∨ k = 31 ∨ k = 32 ∨ k = 33 ∨ k = 34 ∨ k = 35 ∨ k = 36 ∨ k = 37 ∨ k = 38 ∨ k = 39 ∨ k = 40 ∨ k = 41 ∨ k = 42 ∨ k = 43) with rfl | rfl | rfl | rfl | rfl | rfl | rfl | rfl | rfl | rfl | rfl | rfl | rfl | rfl | rfl | rfl | rfl | rfl | rfl | rfl | rfl | rfl | rfl | rfl | rfl | rfl | rfl | rfl | rfl | rfl | rfl | rfl | rfl | rfl | rfl | rfl | rfl | rfl | rfl | rfl | rfl | rfl | rfl | rfl
  · exact ⟨fun h => absurd h (by decide +kernel), fun _ => ⟨rfl, fun _ => ⟨rfl, rfl⟩⟩⟩
  · exact ⟨fun h => absurd h (by decide +kernel), fun _ => ⟨rfl, fun _ => ⟨rfl, rfl⟩⟩⟩
  · exact ⟨fun h => absurd h (by decide +kernel), fun _ => ⟨rfl, fun _ => ⟨rfl, rfl⟩⟩⟩
  · exact ⟨fun _ => rfl, fun h => absurd rfl h⟩
  · exact ⟨fun h => absurd h (by decide +kernel), fun _ => ⟨rfl, fun _ => ⟨rfl, rfl⟩⟩⟩
  · exact ⟨fun h => absurd h (by decide +kernel), fun _ => ⟨rfl, fun _ => ⟨rfl, rfl⟩⟩⟩
  · exact ⟨fun _ => rfl, fun h => absurd rfl h⟩
  · exact ⟨fun _ => rfl, fun h => absurd rfl h⟩
  · exact ⟨fun h => absurd h (by decide +kernel), fun _ => ⟨rfl, fun _ => ⟨rfl, rfl⟩⟩⟩
  · exact ⟨fun _ => rfl, fun h => absurd rfl h⟩
  · exact ⟨fun _ => rfl, fun h => absurd rfl h⟩
  · exact ⟨fun h => absurd h (by decide +kernel), fun _ => ⟨rfl, fun _ => ⟨rfl, rfl⟩⟩⟩
  · exact ⟨fun h => absurd h (by decide +kernel), fun _ => ⟨rfl, fun _ => ⟨rfl, rfl⟩⟩⟩
  · exact ⟨fun h => absurd h (by decide +kernel), fun _ => ⟨rfl, fun _ => ⟨rfl, rfl⟩⟩⟩
  · exact ⟨fun h => absurd h (by decide +kernel), fun _ => ⟨rfl, fun _ => ⟨rfl, rfl⟩⟩⟩
  · exact ⟨fun _ => rfl, fun h => absurd rfl h⟩
  · exact ⟨fun _ => rfl, fun h => absurd rfl h⟩
  · exact ⟨fun _ => rfl, fun h => absurd rfl h⟩
  · exact ⟨fun _ => rfl, fun h => absurd rfl h⟩
  · exact ⟨fun h => absurd h (by decide +kernel), fun _ => ⟨rfl, fun _ => ⟨rfl, rfl⟩⟩⟩
  · exact ⟨fun h => absurd h (by decide +kernel), fun _ => ⟨rfl, fun _ => ⟨rfl, rfl⟩⟩⟩
  · exact ⟨fun h => absurd h (by decide +kernel), fun _ => ⟨rfl, fun _ => ⟨rfl, rfl⟩⟩⟩
  · exact ⟨fun h => absurd h (by decide +kernel), fun _ => ⟨rfl, fun _ => ⟨rfl, rfl⟩⟩⟩
  · exact ⟨fun h => absurd h (by decide +kernel), fun _ => ⟨rfl, fun _ => ⟨rfl, rfl⟩⟩⟩
  · exact ⟨fun h => absurd h (by decide +kernel), fun _ => ⟨rfl, fun _ => ⟨rfl, rfl⟩⟩⟩
  · exact ⟨fun h => absurd h (by decide +kernel), fun _ => ⟨rfl, fun _ => ⟨rfl, rfl⟩⟩⟩
  · exact ⟨fun _ => rfl, fun h => absurd rfl h⟩
  · exact ⟨fun h => absurd h (by decide +kernel), fun _ => ⟨rfl, fun _ => ⟨rfl, rfl⟩⟩⟩
  · exact ⟨fun h => absurd h (by decide +kernel), fun _ => ⟨rfl, fun _ => ⟨rfl, rfl⟩⟩⟩
  · exact ⟨fun _ => rfl, fun h => absurd rfl h⟩
  · exact ⟨fun _ => rfl, fun h => absurd rfl h⟩
  · exact ⟨fun h => absurd h (by decide +kernel), fun _ => ⟨rfl, fun _ => ⟨rfl, rfl⟩⟩⟩
  · exact ⟨fun _ => rfl, fun h => absurd rfl h⟩
  · exact ⟨fun h => absurd h (by decide +kernel), fun _ => ⟨rfl, fun _ => ⟨rfl, rfl⟩⟩⟩
  · exact ⟨fun _ => rfl, fun h => absurd rfl h⟩
  · exact ⟨fun h => absurd h (by decide +kernel), fun _ => ⟨rfl, fun _ => ⟨rfl, rfl⟩⟩⟩
  · exact ⟨fun h => absurd h (by decide +kernel), fun _ => ⟨rfl, fun _ => ⟨rfl, rfl⟩⟩⟩
  · exact ⟨fun h => absurd h (by decide +kernel), fun _ => ⟨rfl, fun _ => ⟨rfl, rfl⟩⟩⟩
  · exact ⟨fun h => absurd h (by decide +kernel), fun _ => ⟨rfl, fun _ => ⟨rfl, rfl⟩⟩⟩
  · exact ⟨fun h => absurd h (by decide +kernel), fun _ => ⟨rfl, fun _ => ⟨rfl, rfl⟩⟩⟩
  · exact ⟨fun h => absurd h (by decide +kernel), fun _ => ⟨rfl, fun _ => ⟨rfl, rfl⟩⟩⟩
  · exact ⟨fun h => absurd h (by decide +kernel), fun _ => ⟨rfl, fun _ => ⟨rfl, rfl⟩⟩⟩
  · exact ⟨fun h => absurd h (by decide +kernel), fun _ => ⟨rfl, fun _ => ⟨rfl, rfl⟩⟩⟩
  · exact ⟨fun h => absurd h (by decide +kernel), fun _ => ⟨rfl, fun _ => ⟨rfl, rfl⟩⟩⟩
theorem mCl_10 : mCl 10 := ⟨tyX10, rfl, mClw_10, tyX10_ok, nmX10, by decide +kernel, mCld_10⟩
theorem mCl_all {i : Nat} (h : i < 11) : mCl i := by
  rcases (by omega : i = 0 ∨ i = 1 ∨ i = 2 ∨ i = 3 ∨ i = 4 ∨ i = 5 ∨ i = 6 ∨ i = 7 ∨ i = 8 ∨ i = 9 ∨ i = 10) with rfl | rfl | rfl | rfl | rfl | rfl | rfl | rfl | rfl | rfl | rfl
  · exact mCl_0
  · exact mCl_1
  · exact mCl_2
  · exact mCl_3
  · exact mCl_4
  · exact mCl_5
  · exact mCl_6
  · exact mCl_7
  · exact mCl_8
  · exact mCl_9
  · exact mCl_10
theorem mac_i : (Cond.arrayClass .int) ∈ mWS := mWd1_ws (k := 1062) rfl rfl
theorem mac_b : (Cond.arrayClass .boolean) ∈ mWS := mWd1_ws (k := 1094) rfl rfl
theorem mac_j : (Cond.arrayClass .long) ∈ mWS := mWd1_ws (k := 2064) rfl rfl
theorem mob_i : (Cond.instanceMethod Lib.objectInit) ∈ mWS := mWd1_ws (k := 1021) rfl rfl
theorem mob_c : (Cond.code Lib.objectInit ⟨#[0xb1]⟩ 1 none) ∈ mWS := mWd1_ws (k := 1022) rfl rfl
theorem mcp_n : (Cond.native arraycopyName) ∈ mWS := mWd1_ws (k := 2160) rfl rfl
theorem mcp_s : (Cond.static arraycopyName) ∈ mWS := mWd1_ws (k := 2159) rfl rfl
theorem mcp_y : (Cond.initialized "java/lang/System") ∈ mWS := mWd1_ws (k := 1012) rfl rfl
theorem mmmax_s : (Cond.static Lib.Math.max.name) ∈ mWS := mWd1_ws (k := 3042) rfl rfl
theorem mmmax_c : (Cond.code Lib.Math.max.name Lib.Math.max.code 2 (some .int)) ∈ mWS := mWd1_ws (k := 3043) rfl rfl
theorem mmmin_s : (Cond.static Lib.Math.min.name) ∈ mWS := mWd1_ws (k := 3039) rfl rfl
theorem mmmin_c : (Cond.code Lib.Math.min.name Lib.Math.min.code 2 (some .int)) ∈ mWS := mWd1_ws (k := 3040) rfl rfl
theorem mm_y : (Cond.initialized "java/lang/Math") ∈ mWS := mWd1_ws (k := 1013) rfl rfl
