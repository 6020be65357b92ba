theorem E_inGT (ws : List Cond) (ps : List Nat) (hp : ws.map some = ps.map (fun i => lw_tbl[i]?)) (h : ws.all goodWord = true) : ∀ w ∈ ws, w ∈ E_GT := by
  intro w hw
  have h1 := List.all_eq_true.mp h w hw
  have hs : some w ∈ ws.map some := List.mem_map.mpr ⟨w, hw, rfl⟩
  rw [hp] at hs
  obtain ⟨i, -, hi⟩ := List.mem_map.mp hs
  exact List.mem_filter.mpr ⟨List.mem_of_getElem? hi, h1⟩
theorem E_inT (ws : List Cond) (ps : List Nat) (hp : ws.map some = ps.map (fun i => lw_tbl[i]?)) : ∀ w ∈ ws, w ∈ lw_tbl := by
  intro w hw
  have hs : some w ∈ ws.map some := List.mem_map.mpr ⟨w, hw, rfl⟩
  rw [hp] at hs
  obtain ⟨i, -, hi⟩ := List.mem_map.mp hs
  exact List.mem_of_getElem? hi
def E_cn (i : Nat) : String := E_CN.getD i ""
def E_y (mi : Nat) : MethodName := match E_M[mi]? with
  | some M => M.2.1
  | none => ⟨"", "", ""⟩
def E_FLw (q : Nat × Nat × Nat × Nat) : Cond := match E_CL[q.2.2.1]? with
  | some (_, T, _) => .fieldLink (E_cn q.1) q.2.1 (T q.2.2.2).1 (T q.2.2.2).2.1 (T q.2.2.2).2.2.1
  | none => .initialized ""
def E_MLw (q : Nat × Nat × Nat) : Cond := .methodLink (E_cn q.1) q.2.1 (E_y q.2.2)
def E_MNw (q : Nat × Nat × Nat) : Cond := .methodLinkNest (E_cn q.1) q.2.1 (E_y q.2.2) "GramFinder"
theorem E_FL_ok : ∀ w ∈ E_FL.map E_FLw, w ∈ E_GT := E_inGT _ E_FLi (by decide +kernel) (by decide +kernel)
theorem E_ML_ok : ∀ w ∈ E_ML.map E_MLw, w ∈ E_GT := E_inGT _ E_MLi (by decide +kernel) (by decide +kernel)
theorem E_MN_ok : ∀ w ∈ E_MN.map E_MNw, w ∈ lw_tbl := E_inT _ E_MNi (by decide +kernel)
theorem E_OI_ok : ∀ w ∈ E_OI.map (fun q => Cond.methodLink (E_cn q.1) q.2 Lib.objectInit), w ∈ E_GT := E_inGT _ E_OIi (by decide +kernel) (by decide +kernel)
theorem E_AC_ok : ∀ w ∈ E_AC.map (fun q => Cond.methodLink (E_cn q.1) q.2 arraycopyName), w ∈ E_GT := E_inGT _ E_ACi (by decide +kernel) (by decide +kernel)
theorem E_KN_ok : ∀ w ∈ E_KN.map (fun q => Cond.classLink (E_cn q.1) q.2.1 q.2.2), w ∈ E_GT := E_inGT _ E_KNi (by decide +kernel) (by decide +kernel)
theorem E_KI_ok : ∀ w ∈ E_KI.map (fun q => Cond.constant (E_cn q.1) q.2.1 q.2.2), w ∈ E_GT := E_inGT _ E_KIi (by decide +kernel) (by decide +kernel)
theorem E_KL_ok : ∀ w ∈ E_KL.map (fun q => Cond.constantLong (E_cn q.1) q.2.1 q.2.2), w ∈ E_GT := E_inGT _ E_KLi (by decide +kernel) (by decide +kernel)
def E_has4 (t : List (Nat × Nat × Nat × Nat)) (a b c d : Nat) : Bool := t.any (fun q => q.1 == a && (q.2.1 == b && (q.2.2.1 == c && q.2.2.2 == d)))
def E_has3 (t : List (Nat × Nat × Nat)) (a b c : Nat) : Bool := t.any (fun q => q.1 == a && (q.2.1 == b && q.2.2 == c))
def E_has2 (t : List (Nat × Nat)) (a b : Nat) : Bool := t.any (fun q => q.1 == a && q.2 == b)
theorem E_has4_m {t : List (Nat × Nat × Nat × Nat)} {a b c d : Nat} (h : E_has4 t a b c d = true) : (a, b, c, d) ∈ t := by
  obtain ⟨q, hq, h1⟩ := List.any_eq_true.mp h
  simp only [Bool.and_eq_true, beq_iff_eq] at h1
  obtain ⟨e1, e2, e3, e4⟩ := h1
  subst e1; subst e2; subst e3; subst e4
  exact hq
theorem E_has3_m {t : List (Nat × Nat × Nat)} {a b c : Nat} (h : E_has3 t a b c = true) : (a, b, c) ∈ t := by
  obtain ⟨q, hq, h1⟩ := List.any_eq_true.mp h
  simp only [Bool.and_eq_true, beq_iff_eq] at h1
  obtain ⟨e1, e2, e3⟩ := h1
  subst e1; subst e2; subst e3
  exact hq
theorem E_has2_m {t : List (Nat × Nat)} {a b : Nat} (h : E_has2 t a b = true) : (a, b) ∈ t := by
  obtain ⟨q, hq, h1⟩ := List.any_eq_true.mp h
  simp only [Bool.and_eq_true, beq_iff_eq] at h1
  obtain ⟨e1, e2⟩ := h1
  subst e1; subst e2
  exact hq
/-- what a row of code must have in the tables -/
def E_rok (oc : Nat) (ins : Instr) (a b : Nat) : Bool := match ins with
  | .getfield i => E_has4 E_FL oc i a b
  | .putfield i => E_has4 E_FL oc i a b
  | .invokevirtual i => a == 900 || a == 997 || a == 996 || (bif b == 1 then E_has3 E_MN oc i a else E_has3 E_ML oc i a)
  | .invokestatic i => a == 900 || (bif a == 998 then E_has2 E_AC oc i else (bif b == 1 then E_has3 E_MN oc i a else E_has3 E_ML oc i a))
  | .invokespecial i => a == 900 || (bif a == 999 then E_has2 E_OI oc i else (bif b == 1 then E_has3 E_MN oc i a else E_has3 E_ML oc i a))
  | .new i => a == 900 || E_KN.any (fun q => q.1 == oc && (q.2.1 == i && decide (q.2.2 = E_cn a)))
  | .anewarray i => E_KN.any (fun q => q.1 == oc && (q.2.1 == i && decide (E_ATY[a]? = some (.object q.2.2))))
  | .newarray t => decide (E_ATY[a]? = some (newarray.typeOf t))
  | .multianewarray i _ => E_KN.any (fun q => q.1 == oc && (q.2.1 == i && decide (q.2.2 = "[[B")))
  | _ => true
def E_cok (oc : Nat) (bytes : ByteArray) (t : List E_C) : Bool := t.all (fun r => decide (decode bytes r.1 = .ok (r.2.1, r.2.2.1)) && E_rok oc r.2.1 r.2.2.2.1 r.2.2.2.2)
def E_mok (M : E_MI) (ix : Nat × Nat × Nat × Nat) : Bool := match M with
  | (oc, y, bytes, mx, ret, st, na, code) => E_cok oc bytes code && decide (lw_tbl[ix.1]? = some (.code y bytes mx ret)) && goodWord (.code y bytes mx ret) && decide (lw_tbl[ix.2.1]? = some (.initialized y.cls)) && goodWord (.initialized y.cls) &&
    (bif st then decide (lw_tbl[ix.2.2.1]? = some (.static y)) && goodWord (.static y) else decide (lw_tbl[ix.2.2.1]? = some (.instanceMethod y)) && goodWord (.instanceMethod y) && (decide (y.name = "<init>") || (decide (lw_tbl[ix.2.2.2]? = some (.selects y.cls y y)) && goodWord (.selects y.cls y y)))) &&
    decide (y.cls = E_cn oc) && plainName y.cls && decide (y.cls ≠ "java/lang/invoke/MethodHandle" ∧ y.cls ≠ "java/lang/invoke/VarHandle") && decide ((parseMethodDescriptor y.desc).map (fun d => d.parameters.length) = some na) && decide (mx ≤ 29)
theorem E_cn0 : ∀ a, a < 2 → ∀ b, b < 2 → a ≠ b → (E_T0 a).2.1 ≠ (E_T0 b).2.1 := by decide +kernel
theorem E_ct0 : ∀ k, k < 2 → parseFieldDescriptor (E_T0 k).2.2.1 = some (E_t0 k) := by decide +kernel
theorem E_cw0 : ∀ w ∈ u_ws E_R0 E_T0 2, w ∈ E_GT := E_inGT _ [572, 574] (by decide +kernel) (by decide +kernel)
theorem E_ci0 : Cond.instantiable E_R0 2 ∈ E_GT := E_inGT [_] [559] (by decide +kernel) (by decide +kernel) _ List.mem_cons_self
theorem E_cz0 : Cond.initialized E_R0 ∈ E_GT := E_inGT [_] [157] (by decide +kernel) (by decide +kernel) _ List.mem_cons_self
theorem E_cd0 : ∀ k, k < 2 → (E_T0 k).1 = E_R0 := by decide +kernel
theorem E_cn1 : ∀ a, a < 3 → ∀ b, b < 3 → a ≠ b → (E_T1 a).2.1 ≠ (E_T1 b).2.1 := by decide +kernel
theorem E_ct1 : ∀ k, k < 3 → parseFieldDescriptor (E_T1 k).2.2.1 = some (E_t1 k) := by decide +kernel
theorem E_cw1 : ∀ w ∈ u_ws E_R1 E_T1 3, w ∈ E_GT := E_inGT _ [318, 320, 322] (by decide +kernel) (by decide +kernel)
theorem E_ci1 : Cond.instantiable E_R1 3 ∈ E_GT := E_inGT [_] [303] (by decide +kernel) (by decide +kernel) _ List.mem_cons_self
theorem E_cz1 : Cond.initialized E_R1 ∈ E_GT := E_inGT [_] [150] (by decide +kernel) (by decide +kernel) _ List.mem_cons_self
theorem E_cd1 : ∀ k, k < 3 → (E_T1 k).1 = E_R1 := by decide +kernel
theorem E_cn2 : ∀ a, a < 17 → ∀ b, b < 17 → a ≠ b → (E_T2 a).2.1 ≠ (E_T2 b).2.1 := by decide +kernel
theorem E_ct2 : ∀ k, k < 17 → parseFieldDescriptor (E_T2 k).2.2.1 = some (E_t2 k) := by decide +kernel
theorem E_cw2 : ∀ w ∈ u_ws E_R2 E_T2 17, w ∈ E_GT := E_inGT _ [447, 449, 451, 453, 455, 457, 459, 461, 463, 465, 467, 469, 471, 473, 475, 477, 479] (by decide +kernel) (by decide +kernel)
theorem E_ci2 : Cond.instantiable E_R2 17 ∈ E_GT := E_inGT [_] [423] (by decide +kernel) (by decide +kernel) _ List.mem_cons_self
theorem E_cz2 : Cond.initialized E_R2 ∈ E_GT := E_inGT [_] [154] (by decide +kernel) (by decide +kernel) _ List.mem_cons_self
theorem E_cd2 : ∀ k, k < 17 → (E_T2 k).1 = E_R2 := by decide +kernel
theorem E_cn3 : ∀ a, a < 7 → ∀ b, b < 7 → a ≠ b → (E_T3 a).2.1 ≠ (E_T3 b).2.1 := by decide +kernel
theorem E_ct3 : ∀ k, k < 7 → parseFieldDescriptor (E_T3 k).2.2.1 = some (E_t3 k) := by decide +kernel
theorem E_cw3 : ∀ w ∈ u_ws E_R3 E_T3 7, w ∈ E_GT := E_inGT _ [279, 281, 283, 285, 287, 289, 291] (by decide +kernel) (by decide +kernel)
theorem E_ci3 : Cond.instantiable E_R3 7 ∈ E_GT := E_inGT [_] [220] (by decide +kernel) (by decide +kernel) _ List.mem_cons_self
theorem E_cz3 : Cond.initialized E_R3 ∈ E_GT := E_inGT [_] [147] (by decide +kernel) (by decide +kernel) _ List.mem_cons_self
theorem E_cd3 : ∀ k, k < 7 → (E_T3 k).1 = E_R3 := by decide +kernel
theorem E_cn4 : ∀ a, a < 6 → ∀ b, b < 6 → a ≠ b → (E_T4 a).2.1 ≠ (E_T4 b).2.1 := by decide +kernel
theorem E_ct4 : ∀ k, k < 6 → parseFieldDescriptor (E_T4 k).2.2.1 = some (E_t4 k) := by decide +kernel
theorem E_cw4 : ∀ w ∈ u_ws E_R4 E_T4 6, w ∈ E_GT := E_inGT _ [375, 377, 379, 381, 383, 385] (by decide +kernel) (by decide +kernel)
theorem E_ci4 : Cond.instantiable E_R4 6 ∈ E_GT := E_inGT [_] [347] (by decide +kernel) (by decide +kernel) _ List.mem_cons_self
theorem E_cz4 : Cond.initialized E_R4 ∈ E_GT := E_inGT [_] [153] (by decide +kernel) (by decide +kernel) _ List.mem_cons_self
theorem E_cd4 : ∀ k, k < 6 → (E_T4 k).1 = E_R4 := by decide +kernel
theorem E_cn5 : ∀ a, a < 11 → ∀ b, b < 11 → a ≠ b → (E_T5 a).2.1 ≠ (E_T5 b).2.1 := by decide +kernel
theorem E_ct5 : ∀ k, k < 11 → parseFieldDescriptor (E_T5 k).2.2.1 = some (E_t5 k) := by decide +kernel
theorem E_cw5 : ∀ w ∈ u_ws E_R5 E_T5 11, w ∈ E_GT := E_inGT _ [399, 401, 403, 405, 407, 409, 411, 413, 415, 417, 419] (by decide +kernel) (by decide +kernel)
theorem E_ci5 : Cond.instantiable E_R5 11 ∈ E_GT := E_inGT [_] [295] (by decide +kernel) (by decide +kernel) _ List.mem_cons_self
theorem E_cz5 : Cond.initialized E_R5 ∈ E_GT := E_inGT [_] [149] (by decide +kernel) (by decide +kernel) _ List.mem_cons_self
theorem E_cd5 : ∀ k, k < 11 → (E_T5 k).1 = E_R5 := by decide +kernel
theorem E_cn6 : ∀ a, a < 7 → ∀ b, b < 7 → a ≠ b → (E_T6 a).2.1 ≠ (E_T6 b).2.1 := by decide +kernel
theorem E_ct6 : ∀ k, k < 7 → parseFieldDescriptor (E_T6 k).2.2.1 = some (E_t6 k) := by decide +kernel
theorem E_cw6 : ∀ w ∈ u_ws E_R6 E_T6 7, w ∈ E_GT := E_inGT _ [502, 504, 506, 508, 510, 512, 514] (by decide +kernel) (by decide +kernel)
theorem E_ci6 : Cond.instantiable E_R6 7 ∈ E_GT := E_inGT [_] [483] (by decide +kernel) (by decide +kernel) _ List.mem_cons_self
theorem E_cz6 : Cond.initialized E_R6 ∈ E_GT := E_inGT [_] [155] (by decide +kernel) (by decide +kernel) _ List.mem_cons_self
theorem E_cd6 : ∀ k, k < 7 → (E_T6 k).1 = E_R6 := by decide +kernel
theorem E_cn7 : ∀ a, a < 2 → ∀ b, b < 2 → a ≠ b → (E_T7 a).2.1 ≠ (E_T7 b).2.1 := by decide +kernel
theorem E_ct7 : ∀ k, k < 2 → parseFieldDescriptor (E_T7 k).2.2.1 = some (E_t7 k) := by decide +kernel
theorem E_cw7 : ∀ w ∈ u_ws E_R7 E_T7 2, w ∈ E_GT := E_inGT _ [190, 192] (by decide +kernel) (by decide +kernel)
theorem E_ci7 : Cond.instantiable E_R7 2 ∈ E_GT := E_inGT [_] [179] (by decide +kernel) (by decide +kernel) _ List.mem_cons_self
theorem E_cz7 : Cond.initialized E_R7 ∈ E_GT := E_inGT [_] [146] (by decide +kernel) (by decide +kernel) _ List.mem_cons_self
theorem E_cd7 : ∀ k, k < 2 → (E_T7 k).1 = E_R7 := by decide +kernel
theorem E_cn8 : ∀ a, a < 6 → ∀ b, b < 6 → a ≠ b → (E_T8 a).2.1 ≠ (E_T8 b).2.1 := by decide +kernel
theorem E_ct8 : ∀ k, k < 6 → parseFieldDescriptor (E_T8 k).2.2.1 = some (E_t8 k) := by decide +kernel
theorem E_cw8 : ∀ w ∈ u_ws E_R8 E_T8 6, w ∈ E_GT := E_inGT _ [206, 208, 210, 212, 214, 216] (by decide +kernel) (by decide +kernel)
theorem E_ci8 : Cond.instantiable E_R8 6 ∈ E_GT := E_inGT [_] [171] (by decide +kernel) (by decide +kernel) _ List.mem_cons_self
theorem E_cz8 : Cond.initialized E_R8 ∈ E_GT := E_inGT [_] [145] (by decide +kernel) (by decide +kernel) _ List.mem_cons_self
theorem E_cd8 : ∀ k, k < 6 → (E_T8 k).1 = E_R8 := by decide +kernel
theorem E_cn9 : ∀ a, a < 3 → ∀ b, b < 3 → a ≠ b → (E_T9 a).2.1 ≠ (E_T9 b).2.1 := by decide +kernel
theorem E_ct9 : ∀ k, k < 3 → parseFieldDescriptor (E_T9 k).2.2.1 = some (E_t9 k) := by decide +kernel
theorem E_cw9 : ∀ w ∈ u_ws E_R9 E_T9 3, w ∈ E_GT := E_inGT _ [340, 342, 344] (by decide +kernel) (by decide +kernel)
theorem E_ci9 : Cond.instantiable E_R9 3 ∈ E_GT := E_inGT [_] [328] (by decide +kernel) (by decide +kernel) _ List.mem_cons_self
theorem E_cz9 : Cond.initialized E_R9 ∈ E_GT := E_inGT [_] [152] (by decide +kernel) (by decide +kernel) _ List.mem_cons_self
theorem E_cd9 : ∀ k, k < 3 → (E_T9 k).1 = E_R9 := by decide +kernel
theorem E_cn10 : ∀ a, a < 12 → ∀ b, b < 12 → a ≠ b → (E_T10 a).2.1 ≠ (E_T10 b).2.1 := by decide +kernel
theorem E_ct10 : ∀ k, k < 12 → parseFieldDescriptor (E_T10 k).2.2.1 = some (E_t10 k) := by decide +kernel
theorem E_cw10 : ∀ w ∈ u_ws E_R10 E_T10 12, w ∈ E_GT := E_inGT _ [243, 245, 247, 249, 251, 253, 255, 257, 259, 261, 263, 265] (by decide +kernel) (by decide +kernel)
theorem E_ci10 : Cond.instantiable E_R10 12 ∈ E_GT := E_inGT [_] [226] (by decide +kernel) (by decide +kernel) _ List.mem_cons_self
theorem E_cz10 : Cond.initialized E_R10 ∈ E_GT := E_inGT [_] [148] (by decide +kernel) (by decide +kernel) _ List.mem_cons_self
theorem E_cd10 : ∀ k, k < 12 → (E_T10 k).1 = E_R10 := by decide +kernel
theorem E_cn11 : ∀ a, a < 7 → ∀ b, b < 7 → a ≠ b → (E_T11 a).2.1 ≠ (E_T11 b).2.1 := by decide +kernel
theorem E_ct11 : ∀ k, k < 7 → parseFieldDescriptor (E_T11 k).2.2.1 = some (E_t11 k) := by decide +kernel
theorem E_cw11 : ∀ w ∈ u_ws E_R11 E_T11 7, w ∈ E_GT := E_inGT _ [524, 526, 528, 530, 532, 534, 536] (by decide +kernel) (by decide +kernel)
theorem E_ci11 : Cond.instantiable E_R11 7 ∈ E_GT := E_inGT [_] [163] (by decide +kernel) (by decide +kernel) _ List.mem_cons_self
theorem E_cz11 : Cond.initialized E_R11 ∈ E_GT := E_inGT [_] [144] (by decide +kernel) (by decide +kernel) _ List.mem_cons_self
theorem E_cd11 : ∀ k, k < 7 → (E_T11 k).1 = E_R11 := by decide +kernel
theorem E_cn12 : ∀ a, a < 74 → ∀ b, b < 74 → a ≠ b → (E_T12 a).2.1 ≠ (E_T12 b).2.1 := by decide +kernel
theorem E_ct12 : ∀ k, k < 74 → parseFieldDescriptor (E_T12 k).2.2.1 = some (E_t12 k) := by decide +kernel
theorem E_cw12 : ∀ w ∈ u_ws E_R12 E_T12 74, w ∈ E_GT := E_inGT _ [1382, 1384, 1386, 1388, 1390, 1392, 1394, 1396, 1398, 1400, 1402, 1404, 1406, 1408, 1410, 1412, 1414, 1416, 1418, 1420, 1422, 1424, 1426, 1428, 1430, 1432, 1434, 1436, 1438, 1440, 1442, 1444, 1446, 1448, 1450, 1452, 1454, 1456, 1458, 1460, 1462, 1464, 1466, 1468, 1470, 1472, 1474, 1476, 1478, 1480, 1482, 1484, 1486, 1488, 1490, 1492, 1494, 1496, 1498, 1500, 1502, 1504, 1506, 1508, 1510, 1512, 1514, 1516, 1518, 1520, 1522, 1524, 1526, 1528] (by decide +kernel) (by decide +kernel)
theorem E_ci12 : Cond.instantiable E_R12 74 ∈ E_GT := E_inGT [_] [1302] (by decide +kernel) (by decide +kernel) _ List.mem_cons_self
theorem E_cz12 : Cond.initialized E_R12 ∈ E_GT := E_inGT [_] [156] (by decide +kernel) (by decide +kernel) _ List.mem_cons_self
theorem E_cd12 : ∀ k, k < 74 → (E_T12 k).1 = E_R12 := by decide +kernel
