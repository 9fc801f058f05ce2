/-! what the tables say of the classes -/
def ur_ktfB (kd : Nat) (ty : FieldType) : Bool := match ty with
  | .int => Nat.beq kd 0
  | .boolean => Nat.beq kd 1
  | .long => Nat.beq kd 2
  | .object _ => Nat.beq kd 3
  | .array _ => Nat.beq kd 3
  | _ => false
theorem ur_ktfB_t {kd : Nat} {ty : FieldType} (h : ur_ktfB kd ty = true) : ur_ktf kd ty := by
  cases ty <;> simp only [ur_ktfB] at h <;> first | cases h | skip
  all_goals (have hz := ur_nb h; subst hz)
  · exact Or.inl ⟨rfl, rfl⟩
  · exact Or.inr (Or.inr (Or.inl ⟨rfl, rfl⟩))
  · exact Or.inr (Or.inl ⟨rfl, rfl⟩)
  · exact Or.inr (Or.inr (Or.inr ⟨rfl, Or.inl ⟨_, rfl⟩⟩))
  · exact Or.inr (Or.inr (Or.inr ⟨rfl, Or.inr ⟨_, rfl⟩⟩))
def ur_PU (ci : Nat) (q : vw_C) : Prop := (∀ w ∈ u_ws q.1 q.2.1 q.2.2, w ∈ ur_T) ∧ q.2.2 = ur_nf ci ∧ (∀ a, a < q.2.2 → ∀ b, b < q.2.2 → a ≠ b → (q.2.1 a).2.1 ≠ (q.2.1 b).2.1) ∧ (∃ ty : Nat → FieldType, (∀ k, k < q.2.2 → parseFieldDescriptor (q.2.1 k).2.2.1 = some (ty k)) ∧ ∀ k, k < q.2.2 → ur_ktf (ur_kd ci k) (ty k)) ∧ Cond.instantiable q.1 q.2.2 ∈ ur_T ∧ Cond.initialized q.1 ∈ ur_T
theorem ur_PU_t {ci : Nat} {C : String} {T : u_T} {N : Nat} (ps : List Nat) (ty : Nat → FieldType) (h1 : (List.range N).all (fun k => ur_wp (ps.getD k 0) (u_lay C T k)) = true) (h2 : N = ur_nf ci) (h3 : ∀ a, a < N → ∀ b, b < N → a ≠ b → (T a).2.1 ≠ (T b).2.1) (h4 : ∀ k, k < N → parseFieldDescriptor (T k).2.2.1 = some (ty k)) (h5 : (List.range N).all (fun k => ur_ktfB (ur_kd ci k) (ty k)) = true) (h6 : Cond.instantiable C N ∈ ur_T) (h7 : Cond.initialized C ∈ ur_T) : ur_PU ci (C, T, N) := by
  refine ⟨fun w hw => ?_, h2, h3, ⟨ty, h4, fun k hk => ur_ktfB_t (List.all_eq_true.mp h5 k (List.mem_range.mpr hk))⟩, h6, h7⟩
  obtain ⟨k, hk, rfl⟩ := List.mem_map.mp hw
  exact ur_wp_t (List.all_eq_true.mp h1 k hk)
theorem cu_X0 : ur_PU 0 (RX0, TX0, 1) := ur_PU_t [385] tyX0 (by decide +kernel) (by decide) nmX0 tyX0_ok (by decide +kernel) (ur_wp_t (pos := 378) (by decide +kernel)) (ur_wp_t (pos := 109) (by decide +kernel))
theorem cu_X1 : ur_PU 1 (RX1, TX1, 13) := ur_PU_t [233, 235, 237, 239, 241, 243, 245, 247, 249, 251, 253, 255, 257] tyX1 (by decide +kernel) (by decide) nmX1 tyX1_ok (by decide +kernel) (ur_wp_t (pos := 177) (by decide +kernel)) (ur_wp_t (pos := 103) (by decide +kernel))
theorem cu_X2 : ur_PU 2 (RX2, TX2, 4) := ur_PU_t [193, 195, 197, 199] tyX2 (by decide +kernel) (by decide) nmX2 tyX2_ok (by decide +kernel) (ur_wp_t (pos := 183) (by decide +kernel)) (ur_wp_t (pos := 104) (by decide +kernel))
theorem cu_X3 : ur_PU 3 (RX3, TX3, 5) := ur_PU_t [366, 368, 370, 372, 374] tyX3 (by decide +kernel) (by decide) nmX3 tyX3_ok (by decide +kernel) (ur_wp_t (pos := 353) (by decide +kernel)) (ur_wp_t (pos := 108) (by decide +kernel))
theorem cu_X4 : ur_PU 4 (RX4, TX4, 4) := ur_PU_t [404, 406, 408, 410] tyX4 (by decide +kernel) (by decide) nmX4 tyX4_ok (by decide +kernel) (ur_wp_t (pos := 388) (by decide +kernel)) (ur_wp_t (pos := 110) (by decide +kernel))
theorem cu_X5 : ur_PU 5 (RX5, TX5, 9) := ur_PU_t [307, 309, 311, 313, 315, 317, 319, 321, 323] tyX5 (by decide +kernel) (by decide) nmX5 tyX5_ok (by decide +kernel) (ur_wp_t (pos := 284) (by decide +kernel)) (ur_wp_t (pos := 106) (by decide +kernel))
theorem cu_X6 : ur_PU 6 (RX6, TX6, 4) := ur_PU_t [274, 276, 278, 280] tyX6 (by decide +kernel) (by decide) nmX6 tyX6_ok (by decide +kernel) (ur_wp_t (pos := 261) (by decide +kernel)) (ur_wp_t (pos := 105) (by decide +kernel))
theorem cu_X7 : ur_PU 7 (RX7, TX7, 4) := ur_PU_t [340, 342, 344, 346] tyX7 (by decide +kernel) (by decide) nmX7 tyX7_ok (by decide +kernel) (ur_wp_t (pos := 327) (by decide +kernel)) (ur_wp_t (pos := 107) (by decide +kernel))
theorem cu_X8 : ur_PU 8 (RX8, TX8, 8) := ur_PU_t [158, 160, 162, 164, 166, 168, 170, 172] tyX8 (by decide +kernel) (by decide) nmX8 tyX8_ok (by decide +kernel) (ur_wp_t (pos := 134) (by decide +kernel)) (ur_wp_t (pos := 102) (by decide +kernel))
theorem cu_X9 : ur_PU 9 (RX9, TX9, 15) := ur_PU_t [428, 430, 432, 434, 436, 438, 440, 442, 444, 446, 448, 450, 452, 454, 456] tyX9 (by decide +kernel) (by decide) nmX9 tyX9_ok (by decide +kernel) (ur_wp_t (pos := 126) (by decide +kernel)) (ur_wp_t (pos := 101) (by decide +kernel))
theorem cu_X10 : ur_PU 10 (RX10, TX10, 57) := ur_PU_t [1289, 1291, 1293, 1295, 1297, 1299, 1301, 1303, 1305, 1307, 1309, 1311, 1313, 1315, 1317, 1319, 1321, 1323, 1325, 1327, 1329, 1331, 1333, 1335, 1337, 1339, 1341, 1343, 1345, 1347, 1349, 1351, 1353, 1355, 1357, 1359, 1361, 1363, 1365, 1367, 1369, 1371, 1373, 1375, 1377, 1379, 1381, 1383, 1385, 1387, 1389, 1391, 1393, 1395, 1397, 1399, 1401] tyX10 (by decide +kernel) (by decide) nmX10 tyX10_ok (by decide +kernel) (ur_wp_t (pos := 1223) (by decide +kernel)) (ur_wp_t (pos := 111) (by decide +kernel))
theorem ur_cls : ur_clsOk := by
  intro ci C T N h
  have hl : ci < 11 := (List.getElem?_eq_some_iff.mp h).1
  rcases (show ci = 0 ∨ ci = 1 ∨ ci = 2 ∨ ci = 3 ∨ ci = 4 ∨ ci = 5 ∨ ci = 6 ∨ ci = 7 ∨ ci = 8 ∨ ci = 9 ∨ ci = 10 by omega) with rfl | rfl | rfl | rfl | rfl | rfl | rfl | rfl | rfl | rfl | rfl
  · cases h; exact cu_X0
  · cases h; exact cu_X1
  · cases h; exact cu_X2
  · cases h; exact cu_X3
  · cases h; exact cu_X4
  · cases h; exact cu_X5
  · cases h; exact cu_X6
  · cases h; exact cu_X7
  · cases h; exact cu_X8
  · cases h; exact cu_X9
  · cases h; exact cu_X10
