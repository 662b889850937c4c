/-! the classes: their fields lie as the tables say -/
def am_ly : List (List Nat) := [[249, 251, 253], [226, 228, 230, 232], [326, 328, 330, 332, 334], [405, 407], [178, 180, 182, 184, 186, 188, 190, 192, 194, 196, 198, 200, 202], [366, 368, 370, 372, 374, 376, 378, 380, 382, 384, 386, 388, 390, 392, 394], [273, 275, 277], [418, 420, 422], [294, 296, 298, 300, 302, 304, 306], [431, 433, 435, 437, 439, 441], [1162, 1164, 1166, 1168, 1170, 1172, 1174, 1176, 1178, 1180, 1182, 1184, 1186, 1188, 1190, 1192, 1194, 1196, 1198, 1200, 1202, 1204, 1206, 1208, 1210, 1212, 1214, 1216, 1218, 1220, 1222, 1224, 1226, 1228, 1230, 1232, 1234, 1236, 1238, 1240, 1242, 1244, 1246, 1248, 1250, 1252, 1254, 1256, 1258, 1260, 1262, 1264, 1266, 1268, 1270, 1272, 1274, 1276, 1278, 1280, 1282, 1284, 1286]]
def am_is : List (Nat × Nat) := [(117, 88), (207, 90), (311, 93), (398, 96), (126, 89), (340, 95), (257, 91), (338, 94), (281, 92), (109, 87), (1093, 97)]
def am_tyk : FieldType → Nat
  | .int => 0
  | .long => 1
  | .boolean => 3
  | .object _ => 2
  | .array _ => 2
  | _ => 9
def am_ty (ci k : Nat) : FieldType := (parseFieldDescriptor (am_F ci k).2.2.1).getD .int
def am_ck (ci : Nat) : Bool := (List.range (am_n ci)).all (fun k => am_at ((am_ly.getD ci []).getD k 0) (u_lay (am_cn ci) (am_F ci) k) && (decide (parseFieldDescriptor (am_F ci k).2.2.1 = some (am_ty ci k)) && (decide (am_tyk (am_ty ci k) = am_t ci k) && decide ((am_F ci k).1 = am_cn ci)))) && (am_at (am_is.getD ci (0, 0)).1 (.instantiable (am_cn ci) (am_n ci)) && am_at (am_is.getD ci (0, 0)).2 (.initialized (am_cn ci)))
theorem am_ck_ok : ∀ ci, ci < 11 → am_ck ci = true := by decide +kernel
theorem am_ck_cl : ∀ ci, ci < 11 → am_cl[ci]? = some (am_cn ci, am_F ci, am_n ci)
  | 0, _ => rfl
  | 1, _ => rfl
  | 2, _ => rfl
  | 3, _ => rfl
  | 4, _ => rfl
  | 5, _ => rfl
  | 6, _ => rfl
  | 7, _ => rfl
  | 8, _ => rfl
  | 9, _ => rfl
  | 10, _ => rfl
  | n + 11, h => absurd h (by omega)
theorem am_ck_nm : ∀ ci, ci < 11 → ∀ a, a < am_n ci → ∀ b, b < am_n ci → a ≠ b → (am_F ci a).2.1 ≠ (am_F ci b).2.1
  | 0, _ => nmX0
  | 1, _ => nmX1
  | 2, _ => nmX2
  | 3, _ => nmX3
  | 4, _ => nmX4
  | 5, _ => nmX5
  | 6, _ => nmX6
  | 7, _ => nmX7
  | 8, _ => nmX8
  | 9, _ => nmX9
  | 10, _ => nmX10
  | n + 11, h => absurd h (by omega)
theorem am_ck_in {ci : Nat} (hc : ci < 11) : ∀ w ∈ u_ws (am_cn ci) (am_F ci) (am_n ci), w ∈ am_wG := by
  intro w hw
  obtain ⟨k, hk, rfl⟩ := List.mem_map.mp hw
  have h := am_ck_ok ci hc
  simp only [am_ck, Bool.and_eq_true, List.all_eq_true] at h
  exact am_at_in (h.1 k hk).1
theorem am_ck_ty {ci : Nat} (hc : ci < 11) : ∀ k, k < am_n ci → parseFieldDescriptor (am_F ci k).2.2.1 = some (am_ty ci k) ∧ am_tyk (am_ty ci k) = am_t ci k ∧ (am_F ci k).1 = am_cn ci := by
  intro k hk
  have h := am_ck_ok ci hc
  simp only [am_ck, Bool.and_eq_true, List.all_eq_true, decide_eq_true_eq] at h
  exact (h.1 k (List.mem_range.mpr hk)).2
theorem am_ck_is {ci : Nat} (hc : ci < 11) : Cond.instantiable (am_cn ci) (am_n ci) ∈ am_wG ∧ Cond.initialized (am_cn ci) ∈ am_wG := by
  have h := am_ck_ok ci hc
  simp only [am_ck, Bool.and_eq_true] at h
  exact ⟨am_at_in h.2.1, am_at_in h.2.2⟩
