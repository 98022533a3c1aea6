/-! THE TABLES HOLD: each row is what the bytes say, each word is one of the tables' words -/
def tbc (p : Nat) : List Jvm.Cond := match p / 240 with
  | 0 => tables_1_1
  | 1 => tables_1_2
  | 2 => tables_1_3
  | 3 => tables_1_4
  | 4 => tables_1_5
  | 5 => tables_1_6
  | 6 => tables_1_7
  | 7 => tables_1_8
  | _ => []
def tb (p : Nat) : Option Jvm.Cond := (tbc p)[p % 240]?
theorem tb_mem {p : Nat} {w : Jvm.Cond} (h : tb p = some w) : w ∈ tables_1 := by
  have h1 : w ∈ tbc p := List.mem_of_getElem? h
  unfold tables_1
  unfold tbc at h1
  simp only [List.mem_append]
  split at h1 <;> first | exact absurd h1 List.not_mem_nil | simp [h1]
/-- the words that hold in every method: those that a call carries along -/
def wG : List Jvm.Cond := lw_tbl.filter goodWord
theorem wG_good : ∀ w ∈ wG, goodWord w = true := fun _ h => (List.mem_filter.mp h).2
theorem wG_tb {p : Nat} {w : Jvm.Cond} (h : tb p = some w) (hg : goodWord w = true) : w ∈ wG := List.mem_filter.mpr ⟨List.mem_append_right _ (tb_mem h), hg⟩
def ftag (t : FieldType) : Nat := match t with
  | .int => 0
  | .boolean => 1
  | .long => 2
  | .object _ => 3
  | .array _ => 3
  | _ => 9
def tyC (ci : Nat) : Nat → FieldType := match ci with
  | 0 => tyX0 | 1 => tyX1 | 2 => tyX2 | 3 => tyX3 | 4 => tyX4 | 5 => tyX5 | 6 => tyX6 | 7 => tyX7 | 8 => tyX8 | 9 => tyX9 | 10 => tyX10 | _ => tyX11
def clT (ci : Nat) : u_T := match ci with
  | 0 => TX0 | 1 => TX1 | 2 => TX2 | 3 => TX3 | 4 => TX4 | 5 => TX5 | 6 => TX6 | 7 => TX7 | 8 => TX8 | 9 => TX9 | 10 => TX10 | _ => TX11
def clR (ci : Nat) : String := match ci with
  | 0 => RX0 | 1 => RX1 | 2 => RX2 | 3 => RX3 | 4 => RX4 | 5 => RX5 | 6 => RX6 | 7 => RX7 | 8 => RX8 | 9 => RX9 | 10 => RX10 | _ => RX11
theorem lt12 {P : Nat → Prop} (h0 : P 0) (h1 : P 1) (h2 : P 2) (h3 : P 3) (h4 : P 4) (h5 : P 5) (h6 : P 6) (h7 : P 7) (h8 : P 8) (h9 : P 9) (h10 : P 10) (h11 : P 11) : ∀ ci, ci < 12 → P ci := by
  intro ci h
  match ci, h with
  | 0, _ => exact h0
  | 1, _ => exact h1
  | 2, _ => exact h2
  | 3, _ => exact h3
  | 4, _ => exact h4
  | 5, _ => exact h5
  | 6, _ => exact h6
  | 7, _ => exact h7
  | 8, _ => exact h8
  | 9, _ => exact h9
  | 10, _ => exact h10
  | 11, _ => exact h11
theorem cl_at : ∀ ci, ci < 12 → vwCl[ci]? = some (clR ci, clT ci, NF ci) := lt12 rfl rfl rfl rfl rfl rfl rfl rfl rfl rfl rfl rfl
theorem cl_ty : ∀ ci, ci < 12 → ∀ k, k < NF ci → parseFieldDescriptor (clT ci k).2.2.1 = some (tyC ci k) := lt12 tyX0_ok tyX1_ok tyX2_ok tyX3_ok tyX4_ok tyX5_ok tyX6_ok tyX7_ok tyX8_ok tyX9_ok tyX10_ok tyX11_ok
theorem cl_nm : ∀ ci, ci < 12 → ∀ a, a < NF ci → ∀ b, b < NF ci → a ≠ b → (clT ci a).2.1 ≠ (clT ci b).2.1 := lt12 nmX0 nmX1 nmX2 nmX3 nmX4 nmX5 nmX6 nmX7 nmX8 nmX9 nmX10 nmX11
/-- the places of the words of a class's fields -/
def cl_ps (ci : Nat) : List Nat := [[282, 284, 286, 288, 290, 292, 294, 296], [353, 355, 357, 359, 361, 363, 365], [251, 253, 255, 257, 259, 261, 263], [186, 188, 190, 192, 194, 196], [319, 321, 323, 325, 327, 329, 331, 333, 335, 337], [161, 163, 165, 167, 169], [103, 105, 107, 109, 111, 113, 115, 117, 119, 121, 123, 125, 127], [141, 143, 145], [227, 229, 231, 233, 235, 237, 239], [50, 52, 54, 56, 58, 60], [383, 385, 387, 389, 391, 393, 395, 397, 399, 401, 403, 405, 407, 409], [1178, 1180, 1182, 1184, 1186, 1188, 1190, 1192, 1194, 1196, 1198, 1200, 1202, 1204, 1206, 1208, 1210, 1212, 1214, 1216, 1218, 1220, 1222, 1224, 1226, 1228, 1230, 1232, 1234, 1236, 1238, 1240, 1242, 1244, 1246, 1248, 1250, 1252, 1254, 1256, 1258, 1260, 1262, 1264, 1266, 1268, 1270, 1272, 1274, 1276, 1278, 1280, 1282, 1284, 1286, 1288, 1290, 1292, 1294, 1296, 1298, 1300, 1302]].getD ci []
set_option maxRecDepth 100000 in
theorem cl_psok : (List.range 12).all (fun ci => decide ((cl_ps ci).map tb = (u_ws (clR ci) (clT ci) (NF ci)).map some) && (u_ws (clR ci) (clT ci) (NF ci)).all goodWord) = true := by decide +kernel
theorem cl_in : ∀ ci, ci < 12 → ∀ w ∈ u_ws (clR ci) (clT ci) (NF ci), w ∈ wG := by
  intro ci h w hw
  have h1 := List.all_eq_true.mp cl_psok ci (List.mem_range.mpr h)
  simp only [Bool.and_eq_true, decide_eq_true_eq] at h1
  obtain ⟨i, hi⟩ := List.getElem?_of_mem hw
  have h2 : ((cl_ps ci).map tb)[i]? = some (some w) := by rw [h1.1, List.getElem?_map, hi]; rfl
  rw [List.getElem?_map] at h2
  cases hp : (cl_ps ci)[i]? with
  | none => rw [hp] at h2; cases h2
  | some q =>
    rw [hp] at h2
    exact wG_tb (Option.some.inj h2) (List.all_eq_true.mp h1.2 w hw)
/-- the String constants: class, entry, text -/
def strW : List (String × Nat × String) := [("NineWheel$SeaReader", 62, "ship"), ("NineWheel$SeaReader", 76, "rocks"), ("NineWheel$SeaReader", 80, "drift"), ("NineWheel$SeaReader", 88, "lag"), ("NineWheel$SeaReader", 92, "sort"), ("NineWheel$SeaReader", 110, "likes"), ("NineWheel$SeaReader", 114, "fears"), ("NineWheel$Rule", 15, "most"), ("NineWheel$Rule", 27, "middle"), ("NineWheel$Rule", 29, "mean"), ("NineWheel$Rule", 31, "turns"), ("NineWheel$Rule", 40, "need"), ("NineWheel$Rule", 48, "bar"), ("NineWheel$Rule", 54, "unless"), ("NineWheel$Rule", 76, "left"), ("NineWheel$Rule", 81, "right")]
/-- a static's name, by its number -/
def stN (g : Nat) : String × String × String := match g with
  | 0 => ("NineWheel", "TURN_ORDER", "[I")
  | 1 => ("NineWheel", "ROWS_ON", "[I")
  | 2 => ("NineWheel", "COLUMNS_ON", "[I")
  | 3 => ("java/lang/String", "COMPACT_STRINGS", "Z")
  | _ => ("jdk/internal/util/Preconditions", "SIOOBE_FORMATTER", "Ljava/util/function/BiFunction;")
/-- what a method is called with -/
def okC (q : MR) : Prop := tb q.2.2.2.2.2.2.1 = some (Jvm.Cond.code q.1 q.2.1 q.2.2.1 q.2.2.2.1)
def okM (M : Nat) : Bool :=
  decide (tb (mrOf M).2.2.2.2.2.2.2.1 = some (Jvm.Cond.initialized (pN M).cls))
  && decide (pL M ≤ 21) && plainName (pN M).cls && decide ((pN M).cls ≠ "java/lang/invoke/MethodHandle" ∧ (pN M).cls ≠ "java/lang/invoke/VarHandle")
  && (if pC M = 99 then decide (tb (mrOf M).2.2.2.2.2.2.2.2.1 = some (Jvm.Cond.static (pN M))) else decide (tb (mrOf M).2.2.2.2.2.2.2.2.1 = some (Jvm.Cond.instanceMethod (pN M))) && (decide (pC M < 12 ∧ (pN M).cls = clR (pC M)) || decide (pC M = 50 ∧ (pN M).cls = "java/lang/String")))
/-- the selects word: in the tables, or out of the private ones -/
def okSel (M : Nat) : Bool := if (mrOf M).2.2.2.2.2.2.2.2.2 < 5000 then decide (tb (mrOf M).2.2.2.2.2.2.2.2.2 = some (Jvm.Cond.selects (pN M).cls (pN M) (pN M))) else decide (((lw_privs[(mrOf M).2.2.2.2.2.2.2.2.2 - 5000]?).map fun q => q.1) = some (pN M))
def okX (M pc : Nat) (x : XI) : Bool :=
  (match x.1 with
  | .tableswitch _ _ _ _ => decide (decode (pB M) pc = .ok (x.1, x.2.2.1))
  | _ => decide (decode (pB M) pc = .ok (x.1, ilen x.1))) &&
  (match x.1 with
  | .istore_n k => decide ((k : Nat) < pL M)
  | .astore_n k => decide ((k : Nat) < pL M)
  | .lstore_n k => decide ((k : Nat) + 1 < pL M)
  | .istore k => decide (k < pL M)
  | .astore k => decide (k < pL M)
  | .lstore k => decide (k + 1 < pL M)
  | .iinc k _ => decide (k < pL M)
  | .ifCond _ o => decide ((pc : Int) + o = (x.2.1 : Int))
  | .if_icmp _ o => decide ((pc : Int) + o = (x.2.1 : Int))
  | .goto o => decide ((pc : Int) + o = (x.2.1 : Int))
  | .ldc i => if x.2.1 = 1 then decide (((strW[x.2.2.1]?).map fun q => (q.1, q.2.1)) = some ((pN M).cls, i)) else decide (tb x.2.2.2.2 = some (Jvm.Cond.constant (pN M).cls i (Int32.ofInt x.2.2.2.1)))
  | .ldc_w i => decide (tb x.2.2.2.2 = some (Jvm.Cond.constant (pN M).cls i (Int32.ofInt x.2.2.2.1)))
  | .ldc2_w i => decide (tb x.2.2.2.2 = some (Jvm.Cond.constantLong (pN M).cls i (Int64.ofInt x.2.2.2.1)))
  | .getfield i => if x.2.1 = 50 then (if x.2.2.1 = 0 then decide (tb x.2.2.2.2 = some (Jvm.Cond.fieldLink (pN M).cls i "java/lang/String" "value" "[B")) else decide (tb x.2.2.2.2 = some (Jvm.Cond.fieldLink (pN M).cls i "java/lang/String" "coder" "B")))
      else decide (x.2.1 < 12 ∧ x.2.2.1 < NF x.2.1 ∧ ((ftag (tyC x.2.1 x.2.2.1) : Nat) : Int) = x.2.2.2.1) && decide (tb x.2.2.2.2 = some (Jvm.Cond.fieldLink (pN M).cls i (clT x.2.1 x.2.2.1).1 (clT x.2.1 x.2.2.1).2.1 (clT x.2.1 x.2.2.1).2.2.1))
  | .putfield i => decide (x.2.1 < 12 ∧ x.2.2.1 < NF x.2.1 ∧ ((ftag (tyC x.2.1 x.2.2.1) : Nat) : Int) = x.2.2.2.1) && decide (tb x.2.2.2.2 = some (Jvm.Cond.fieldLink (pN M).cls i (clT x.2.1 x.2.2.1).1 (clT x.2.1 x.2.2.1).2.1 (clT x.2.1 x.2.2.1).2.2.1))
      && (if (clT x.2.1 x.2.2.1).2.2.2 = true then decide ((pN M).name = "<init>" ∧ (clT x.2.1 x.2.2.1).1 = (pN M).cls) else true)
  | .getstatic i => decide (x.2.1 < 5) && decide (tb x.2.2.2.2 = some (if x.2.1 < 3 then Jvm.Cond.fieldLinkNest (pN M).cls i (stN x.2.1).1 (stN x.2.1).2.1 (stN x.2.1).2.2 "NineWheel" else Jvm.Cond.fieldLink (pN M).cls i (stN x.2.1).1 (stN x.2.1).2.1 (stN x.2.1).2.2))
  | .new i => decide (x.2.1 < 12) && decide (tb x.2.2.2.2 = some (Jvm.Cond.classLink (pN M).cls i (clR x.2.1)))
  | .anewarray i => decide (tb x.2.2.2.2 = some (Jvm.Cond.classLink (pN M).cls i (clR (elC x.2.1))))
  | .multianewarray i _ => decide (tb x.2.2.2.2 = some (Jvm.Cond.classLink (pN M).cls i "[[I"))
  | .invokestatic i => if x.2.1 < 9990 then decide (tb x.2.2.2.2 = some (if x.2.2.2.1 = 1 then Jvm.Cond.methodLinkNest (pN M).cls i (pN x.2.1) "NineWheel" else Jvm.Cond.methodLink (pN M).cls i (pN x.2.1))) && decide (x.2.1 < nM) && decide (pC x.2.1 = 99) && decide ((parseMethodDescriptor (pN x.2.1).desc).map (fun d => d.parameters.length) = some x.2.2.1)
      else if x.2.1 = 9999 then decide (tb x.2.2.2.2 = some (Jvm.Cond.methodLink (pN M).cls i arraycopyName)) && decide (2 ≤ pK M)
      else if x.2.1 = 9991 then decide (tb x.2.2.2.2 = some (Jvm.Cond.methodLink (pN M).cls i Lib.Math.max.name)) && decide (2 ≤ pK M)
      else if x.2.1 = 9992 then decide (tb x.2.2.2.2 = some (Jvm.Cond.methodLink (pN M).cls i Lib.Math.abs.name)) && decide (2 ≤ pK M) else true
  | .invokevirtual i => if x.2.1 < 9990 then decide (tb x.2.2.2.2 = some (if x.2.2.2.1 = 1 then Jvm.Cond.methodLinkNest (pN M).cls i (pN x.2.1) "NineWheel" else Jvm.Cond.methodLink (pN M).cls i (pN x.2.1))) && decide (x.2.1 < nM) && decide (pC x.2.1 ≠ 99) && decide ((parseMethodDescriptor (pN x.2.1).desc).map (fun d => d.parameters.length) = some x.2.2.1) else true
  | .invokespecial i => if x.2.1 < 9990 then decide (tb x.2.2.2.2 = some (if x.2.2.2.1 = 1 then Jvm.Cond.methodLinkNest (pN M).cls i (pN x.2.1) "NineWheel" else Jvm.Cond.methodLink (pN M).cls i (pN x.2.1))) && decide (x.2.1 < nM) && decide (pC x.2.1 ≠ 99 ∧ (pN x.2.1).name = "<init>" ∧ pRt x.2.1 = none) && decide ((parseMethodDescriptor (pN x.2.1).desc).map (fun d => d.parameters.length) = some x.2.2.1)
      else if x.2.1 = 9998 then decide (tb x.2.2.2.2 = some (Jvm.Cond.methodLink (pN M).cls i objectInit)) && decide (2 ≤ pK M) else true
  | _ => true)
theorem okcG0 : ∀ q ∈ mrG0, okC q := List.forall_mem_cons.mpr ⟨rfl, List.forall_mem_cons.mpr ⟨rfl, List.forall_mem_cons.mpr ⟨rfl, List.forall_mem_cons.mpr ⟨rfl, List.forall_mem_cons.mpr ⟨rfl, List.forall_mem_cons.mpr ⟨rfl, List.forall_mem_cons.mpr ⟨rfl, List.forall_mem_cons.mpr ⟨rfl, List.forall_mem_cons.mpr ⟨rfl, List.forall_mem_cons.mpr ⟨rfl, List.forall_mem_cons.mpr ⟨rfl, List.forall_mem_cons.mpr ⟨rfl, List.forall_mem_cons.mpr ⟨rfl, List.forall_mem_cons.mpr ⟨rfl, List.forall_mem_cons.mpr ⟨rfl, List.forall_mem_cons.mpr ⟨rfl, fun _ h => absurd h List.not_mem_nil⟩⟩⟩⟩⟩⟩⟩⟩⟩⟩⟩⟩⟩⟩⟩⟩
theorem okcG1 : ∀ q ∈ mrG1, okC q := List.forall_mem_cons.mpr ⟨rfl, List.forall_mem_cons.mpr ⟨rfl, List.forall_mem_cons.mpr ⟨rfl, List.forall_mem_cons.mpr ⟨rfl, List.forall_mem_cons.mpr ⟨rfl, List.forall_mem_cons.mpr ⟨rfl, List.forall_mem_cons.mpr ⟨rfl, List.forall_mem_cons.mpr ⟨rfl, List.forall_mem_cons.mpr ⟨rfl, List.forall_mem_cons.mpr ⟨rfl, List.forall_mem_cons.mpr ⟨rfl, List.forall_mem_cons.mpr ⟨rfl, List.forall_mem_cons.mpr ⟨rfl, List.forall_mem_cons.mpr ⟨rfl, List.forall_mem_cons.mpr ⟨rfl, List.forall_mem_cons.mpr ⟨rfl, fun _ h => absurd h List.not_mem_nil⟩⟩⟩⟩⟩⟩⟩⟩⟩⟩⟩⟩⟩⟩⟩⟩
theorem okcG2 : ∀ q ∈ mrG2, okC q := List.forall_mem_cons.mpr ⟨rfl, List.forall_mem_cons.mpr ⟨rfl, List.forall_mem_cons.mpr ⟨rfl, List.forall_mem_cons.mpr ⟨rfl, List.forall_mem_cons.mpr ⟨rfl, List.forall_mem_cons.mpr ⟨rfl, List.forall_mem_cons.mpr ⟨rfl, List.forall_mem_cons.mpr ⟨rfl, List.forall_mem_cons.mpr ⟨rfl, List.forall_mem_cons.mpr ⟨rfl, List.forall_mem_cons.mpr ⟨rfl, List.forall_mem_cons.mpr ⟨rfl, List.forall_mem_cons.mpr ⟨rfl, List.forall_mem_cons.mpr ⟨rfl, List.forall_mem_cons.mpr ⟨rfl, List.forall_mem_cons.mpr ⟨rfl, fun _ h => absurd h List.not_mem_nil⟩⟩⟩⟩⟩⟩⟩⟩⟩⟩⟩⟩⟩⟩⟩⟩
theorem okcG3 : ∀ q ∈ mrG3, okC q := List.forall_mem_cons.mpr ⟨rfl, List.forall_mem_cons.mpr ⟨rfl, List.forall_mem_cons.mpr ⟨rfl, List.forall_mem_cons.mpr ⟨rfl, List.forall_mem_cons.mpr ⟨rfl, List.forall_mem_cons.mpr ⟨rfl, List.forall_mem_cons.mpr ⟨rfl, List.forall_mem_cons.mpr ⟨rfl, List.forall_mem_cons.mpr ⟨rfl, List.forall_mem_cons.mpr ⟨rfl, List.forall_mem_cons.mpr ⟨rfl, List.forall_mem_cons.mpr ⟨rfl, List.forall_mem_cons.mpr ⟨rfl, List.forall_mem_cons.mpr ⟨rfl, List.forall_mem_cons.mpr ⟨rfl, List.forall_mem_cons.mpr ⟨rfl, fun _ h => absurd h List.not_mem_nil⟩⟩⟩⟩⟩⟩⟩⟩⟩⟩⟩⟩⟩⟩⟩⟩
theorem okcG4 : ∀ q ∈ mrG4, okC q := List.forall_mem_cons.mpr ⟨rfl, List.forall_mem_cons.mpr ⟨rfl, List.forall_mem_cons.mpr ⟨rfl, List.forall_mem_cons.mpr ⟨rfl, List.forall_mem_cons.mpr ⟨rfl, List.forall_mem_cons.mpr ⟨rfl, List.forall_mem_cons.mpr ⟨rfl, List.forall_mem_cons.mpr ⟨rfl, List.forall_mem_cons.mpr ⟨rfl, List.forall_mem_cons.mpr ⟨rfl, List.forall_mem_cons.mpr ⟨rfl, List.forall_mem_cons.mpr ⟨rfl, List.forall_mem_cons.mpr ⟨rfl, List.forall_mem_cons.mpr ⟨rfl, List.forall_mem_cons.mpr ⟨rfl, List.forall_mem_cons.mpr ⟨rfl, fun _ h => absurd h List.not_mem_nil⟩⟩⟩⟩⟩⟩⟩⟩⟩⟩⟩⟩⟩⟩⟩⟩
theorem okcG5 : ∀ q ∈ mrG5, okC q := List.forall_mem_cons.mpr ⟨rfl, List.forall_mem_cons.mpr ⟨rfl, List.forall_mem_cons.mpr ⟨rfl, List.forall_mem_cons.mpr ⟨rfl, List.forall_mem_cons.mpr ⟨rfl, List.forall_mem_cons.mpr ⟨rfl, List.forall_mem_cons.mpr ⟨rfl, List.forall_mem_cons.mpr ⟨rfl, List.forall_mem_cons.mpr ⟨rfl, List.forall_mem_cons.mpr ⟨rfl, List.forall_mem_cons.mpr ⟨rfl, List.forall_mem_cons.mpr ⟨rfl, List.forall_mem_cons.mpr ⟨rfl, List.forall_mem_cons.mpr ⟨rfl, List.forall_mem_cons.mpr ⟨rfl, List.forall_mem_cons.mpr ⟨rfl, fun _ h => absurd h List.not_mem_nil⟩⟩⟩⟩⟩⟩⟩⟩⟩⟩⟩⟩⟩⟩⟩⟩
theorem okcG6 : ∀ q ∈ mrG6, okC q := List.forall_mem_cons.mpr ⟨rfl, List.forall_mem_cons.mpr ⟨rfl, List.forall_mem_cons.mpr ⟨rfl, List.forall_mem_cons.mpr ⟨rfl, List.forall_mem_cons.mpr ⟨rfl, List.forall_mem_cons.mpr ⟨rfl, List.forall_mem_cons.mpr ⟨rfl, List.forall_mem_cons.mpr ⟨rfl, List.forall_mem_cons.mpr ⟨rfl, List.forall_mem_cons.mpr ⟨rfl, List.forall_mem_cons.mpr ⟨rfl, List.forall_mem_cons.mpr ⟨rfl, List.forall_mem_cons.mpr ⟨rfl, List.forall_mem_cons.mpr ⟨rfl, List.forall_mem_cons.mpr ⟨rfl, List.forall_mem_cons.mpr ⟨rfl, fun _ h => absurd h List.not_mem_nil⟩⟩⟩⟩⟩⟩⟩⟩⟩⟩⟩⟩⟩⟩⟩⟩
theorem okcG7 : ∀ q ∈ mrG7, okC q := List.forall_mem_cons.mpr ⟨rfl, List.forall_mem_cons.mpr ⟨rfl, List.forall_mem_cons.mpr ⟨rfl, List.forall_mem_cons.mpr ⟨rfl, List.forall_mem_cons.mpr ⟨rfl, List.forall_mem_cons.mpr ⟨rfl, List.forall_mem_cons.mpr ⟨rfl, List.forall_mem_cons.mpr ⟨rfl, List.forall_mem_cons.mpr ⟨rfl, List.forall_mem_cons.mpr ⟨rfl, List.forall_mem_cons.mpr ⟨rfl, List.forall_mem_cons.mpr ⟨rfl, List.forall_mem_cons.mpr ⟨rfl, List.forall_mem_cons.mpr ⟨rfl, List.forall_mem_cons.mpr ⟨rfl, List.forall_mem_cons.mpr ⟨rfl, fun _ h => absurd h List.not_mem_nil⟩⟩⟩⟩⟩⟩⟩⟩⟩⟩⟩⟩⟩⟩⟩⟩
theorem okcG8 : ∀ q ∈ mrG8, okC q := List.forall_mem_cons.mpr ⟨rfl, List.forall_mem_cons.mpr ⟨rfl, List.forall_mem_cons.mpr ⟨rfl, List.forall_mem_cons.mpr ⟨rfl, List.forall_mem_cons.mpr ⟨rfl, List.forall_mem_cons.mpr ⟨rfl, List.forall_mem_cons.mpr ⟨rfl, List.forall_mem_cons.mpr ⟨rfl, List.forall_mem_cons.mpr ⟨rfl, List.forall_mem_cons.mpr ⟨rfl, List.forall_mem_cons.mpr ⟨rfl, List.forall_mem_cons.mpr ⟨rfl, List.forall_mem_cons.mpr ⟨rfl, List.forall_mem_cons.mpr ⟨rfl, List.forall_mem_cons.mpr ⟨rfl, List.forall_mem_cons.mpr ⟨rfl, fun _ h => absurd h List.not_mem_nil⟩⟩⟩⟩⟩⟩⟩⟩⟩⟩⟩⟩⟩⟩⟩⟩
theorem okcG9 : ∀ q ∈ mrG9, okC q := List.forall_mem_cons.mpr ⟨rfl, List.forall_mem_cons.mpr ⟨rfl, List.forall_mem_cons.mpr ⟨rfl, List.forall_mem_cons.mpr ⟨rfl, List.forall_mem_cons.mpr ⟨rfl, List.forall_mem_cons.mpr ⟨rfl, List.forall_mem_cons.mpr ⟨rfl, List.forall_mem_cons.mpr ⟨rfl, List.forall_mem_cons.mpr ⟨rfl, List.forall_mem_cons.mpr ⟨rfl, List.forall_mem_cons.mpr ⟨rfl, List.forall_mem_cons.mpr ⟨rfl, List.forall_mem_cons.mpr ⟨rfl, List.forall_mem_cons.mpr ⟨rfl, List.forall_mem_cons.mpr ⟨rfl, List.forall_mem_cons.mpr ⟨rfl, fun _ h => absurd h List.not_mem_nil⟩⟩⟩⟩⟩⟩⟩⟩⟩⟩⟩⟩⟩⟩⟩⟩
theorem okcG10 : ∀ q ∈ mrG10, okC q := List.forall_mem_cons.mpr ⟨rfl, List.forall_mem_cons.mpr ⟨rfl, List.forall_mem_cons.mpr ⟨rfl, List.forall_mem_cons.mpr ⟨rfl, List.forall_mem_cons.mpr ⟨rfl, List.forall_mem_cons.mpr ⟨rfl, List.forall_mem_cons.mpr ⟨rfl, List.forall_mem_cons.mpr ⟨rfl, List.forall_mem_cons.mpr ⟨rfl, List.forall_mem_cons.mpr ⟨rfl, List.forall_mem_cons.mpr ⟨rfl, List.forall_mem_cons.mpr ⟨rfl, List.forall_mem_cons.mpr ⟨rfl, List.forall_mem_cons.mpr ⟨rfl, List.forall_mem_cons.mpr ⟨rfl, List.forall_mem_cons.mpr ⟨rfl, fun _ h => absurd h List.not_mem_nil⟩⟩⟩⟩⟩⟩⟩⟩⟩⟩⟩⟩⟩⟩⟩⟩
theorem okcG11 : ∀ q ∈ mrG11, okC q := List.forall_mem_cons.mpr ⟨rfl, List.forall_mem_cons.mpr ⟨rfl, List.forall_mem_cons.mpr ⟨rfl, List.forall_mem_cons.mpr ⟨rfl, List.forall_mem_cons.mpr ⟨rfl, List.forall_mem_cons.mpr ⟨rfl, List.forall_mem_cons.mpr ⟨rfl, List.forall_mem_cons.mpr ⟨rfl, List.forall_mem_cons.mpr ⟨rfl, List.forall_mem_cons.mpr ⟨rfl, List.forall_mem_cons.mpr ⟨rfl, List.forall_mem_cons.mpr ⟨rfl, List.forall_mem_cons.mpr ⟨rfl, List.forall_mem_cons.mpr ⟨rfl, List.forall_mem_cons.mpr ⟨rfl, List.forall_mem_cons.mpr ⟨rfl, fun _ h => absurd h List.not_mem_nil⟩⟩⟩⟩⟩⟩⟩⟩⟩⟩⟩⟩⟩⟩⟩⟩
theorem okcG12 : ∀ q ∈ mrG12, okC q := List.forall_mem_cons.mpr ⟨rfl, List.forall_mem_cons.mpr ⟨rfl, List.forall_mem_cons.mpr ⟨rfl, List.forall_mem_cons.mpr ⟨rfl, List.forall_mem_cons.mpr ⟨rfl, List.forall_mem_cons.mpr ⟨rfl, List.forall_mem_cons.mpr ⟨rfl, List.forall_mem_cons.mpr ⟨rfl, List.forall_mem_cons.mpr ⟨rfl, List.forall_mem_cons.mpr ⟨rfl, List.forall_mem_cons.mpr ⟨rfl, List.forall_mem_cons.mpr ⟨rfl, List.forall_mem_cons.mpr ⟨rfl, List.forall_mem_cons.mpr ⟨rfl, List.forall_mem_cons.mpr ⟨rfl, List.forall_mem_cons.mpr ⟨rfl, fun _ h => absurd h List.not_mem_nil⟩⟩⟩⟩⟩⟩⟩⟩⟩⟩⟩⟩⟩⟩⟩⟩
theorem okcG13 : ∀ q ∈ mrG13, okC q := List.forall_mem_cons.mpr ⟨rfl, List.forall_mem_cons.mpr ⟨rfl, List.forall_mem_cons.mpr ⟨rfl, List.forall_mem_cons.mpr ⟨rfl, List.forall_mem_cons.mpr ⟨rfl, List.forall_mem_cons.mpr ⟨rfl, List.forall_mem_cons.mpr ⟨rfl, List.forall_mem_cons.mpr ⟨rfl, List.forall_mem_cons.mpr ⟨rfl, List.forall_mem_cons.mpr ⟨rfl, List.forall_mem_cons.mpr ⟨rfl, List.forall_mem_cons.mpr ⟨rfl, List.forall_mem_cons.mpr ⟨rfl, List.forall_mem_cons.mpr ⟨rfl, List.forall_mem_cons.mpr ⟨rfl, List.forall_mem_cons.mpr ⟨rfl, fun _ h => absurd h List.not_mem_nil⟩⟩⟩⟩⟩⟩⟩⟩⟩⟩⟩⟩⟩⟩⟩⟩
theorem okcG14 : ∀ q ∈ mrG14, okC q := List.forall_mem_cons.mpr ⟨rfl, List.forall_mem_cons.mpr ⟨rfl, List.forall_mem_cons.mpr ⟨rfl, List.forall_mem_cons.mpr ⟨rfl, List.forall_mem_cons.mpr ⟨rfl, List.forall_mem_cons.mpr ⟨rfl, List.forall_mem_cons.mpr ⟨rfl, List.forall_mem_cons.mpr ⟨rfl, List.forall_mem_cons.mpr ⟨rfl, List.forall_mem_cons.mpr ⟨rfl, List.forall_mem_cons.mpr ⟨rfl, List.forall_mem_cons.mpr ⟨rfl, List.forall_mem_cons.mpr ⟨rfl, List.forall_mem_cons.mpr ⟨rfl, List.forall_mem_cons.mpr ⟨rfl, List.forall_mem_cons.mpr ⟨rfl, fun _ h => absurd h List.not_mem_nil⟩⟩⟩⟩⟩⟩⟩⟩⟩⟩⟩⟩⟩⟩⟩⟩
theorem okcG15 : ∀ q ∈ mrG15, okC q := List.forall_mem_cons.mpr ⟨rfl, List.forall_mem_cons.mpr ⟨rfl, List.forall_mem_cons.mpr ⟨rfl, List.forall_mem_cons.mpr ⟨rfl, List.forall_mem_cons.mpr ⟨rfl, List.forall_mem_cons.mpr ⟨rfl, List.forall_mem_cons.mpr ⟨rfl, List.forall_mem_cons.mpr ⟨rfl, List.forall_mem_cons.mpr ⟨rfl, List.forall_mem_cons.mpr ⟨rfl, List.forall_mem_cons.mpr ⟨rfl, List.forall_mem_cons.mpr ⟨rfl, List.forall_mem_cons.mpr ⟨rfl, List.forall_mem_cons.mpr ⟨rfl, List.forall_mem_cons.mpr ⟨rfl, List.forall_mem_cons.mpr ⟨rfl, fun _ h => absurd h List.not_mem_nil⟩⟩⟩⟩⟩⟩⟩⟩⟩⟩⟩⟩⟩⟩⟩⟩
theorem okcG16 : ∀ q ∈ mrG16, okC q := List.forall_mem_cons.mpr ⟨rfl, fun _ h => absurd h List.not_mem_nil⟩
set_option maxRecDepth 100000 in
theorem okM0 : (List.range' 0 16).all (fun M => okM M && (decide (pC M = 99 ∨ (pN M).name = "<init>") || okSel M)) = true := by decide +kernel
set_option maxRecDepth 100000 in
theorem okM1 : (List.range' 16 16).all (fun M => okM M && (decide (pC M = 99 ∨ (pN M).name = "<init>") || okSel M)) = true := by decide +kernel
set_option maxRecDepth 100000 in
theorem okM2 : (List.range' 32 16).all (fun M => okM M && (decide (pC M = 99 ∨ (pN M).name = "<init>") || okSel M)) = true := by decide +kernel
set_option maxRecDepth 100000 in
theorem okM3 : (List.range' 48 16).all (fun M => okM M && (decide (pC M = 99 ∨ (pN M).name = "<init>") || okSel M)) = true := by decide +kernel
set_option maxRecDepth 100000 in
theorem okM4 : (List.range' 64 16).all (fun M => okM M && (decide (pC M = 99 ∨ (pN M).name = "<init>") || okSel M)) = true := by decide +kernel
set_option maxRecDepth 100000 in
theorem okM5 : (List.range' 80 16).all (fun M => okM M && (decide (pC M = 99 ∨ (pN M).name = "<init>") || okSel M)) = true := by decide +kernel
set_option maxRecDepth 100000 in
theorem okM6 : (List.range' 96 16).all (fun M => okM M && (decide (pC M = 99 ∨ (pN M).name = "<init>") || okSel M)) = true := by decide +kernel
set_option maxRecDepth 100000 in
theorem okM7 : (List.range' 112 16).all (fun M => okM M && (decide (pC M = 99 ∨ (pN M).name = "<init>") || okSel M)) = true := by decide +kernel
set_option maxRecDepth 100000 in
theorem okM8 : (List.range' 128 16).all (fun M => okM M && (decide (pC M = 99 ∨ (pN M).name = "<init>") || okSel M)) = true := by decide +kernel
set_option maxRecDepth 100000 in
theorem okM9 : (List.range' 144 16).all (fun M => okM M && (decide (pC M = 99 ∨ (pN M).name = "<init>") || okSel M)) = true := by decide +kernel
set_option maxRecDepth 100000 in
theorem okM10 : (List.range' 160 16).all (fun M => okM M && (decide (pC M = 99 ∨ (pN M).name = "<init>") || okSel M)) = true := by decide +kernel
set_option maxRecDepth 100000 in
theorem okM11 : (List.range' 176 16).all (fun M => okM M && (decide (pC M = 99 ∨ (pN M).name = "<init>") || okSel M)) = true := by decide +kernel
set_option maxRecDepth 100000 in
theorem okM12 : (List.range' 192 16).all (fun M => okM M && (decide (pC M = 99 ∨ (pN M).name = "<init>") || okSel M)) = true := by decide +kernel
set_option maxRecDepth 100000 in
theorem okM13 : (List.range' 208 16).all (fun M => okM M && (decide (pC M = 99 ∨ (pN M).name = "<init>") || okSel M)) = true := by decide +kernel
set_option maxRecDepth 100000 in
theorem okM14 : (List.range' 224 16).all (fun M => okM M && (decide (pC M = 99 ∨ (pN M).name = "<init>") || okSel M)) = true := by decide +kernel
set_option maxRecDepth 100000 in
theorem okM15 : (List.range' 240 16).all (fun M => okM M && (decide (pC M = 99 ∨ (pN M).name = "<init>") || okSel M)) = true := by decide +kernel
set_option maxRecDepth 100000 in
theorem okM16 : (List.range' 256 1).all (fun M => okM M && (decide (pC M = 99 ∨ (pN M).name = "<init>") || okSel M)) = true := by decide +kernel
theorem ok_M {M : Nat} (hM : M < nM) : okM M = true ∧ ((pC M = 99 ∨ (pN M).name = "<init>") ∨ okSel M = true) := by
  have hM : M < 257 := hM
  have key : (okM M && (decide (pC M = 99 ∨ (pN M).name = "<init>") || okSel M)) = true := by
    by_cases h0 : M < 16
    · exact List.all_eq_true.mp okM0 M (by rw [List.mem_range']; exact ⟨M - 0, by omega, by omega⟩)
    by_cases h1 : M < 32
    · exact List.all_eq_true.mp okM1 M (by rw [List.mem_range']; exact ⟨M - 16, by omega, by omega⟩)
    by_cases h2 : M < 48
    · exact List.all_eq_true.mp okM2 M (by rw [List.mem_range']; exact ⟨M - 32, by omega, by omega⟩)
    by_cases h3 : M < 64
    · exact List.all_eq_true.mp okM3 M (by rw [List.mem_range']; exact ⟨M - 48, by omega, by omega⟩)
    by_cases h4 : M < 80
    · exact List.all_eq_true.mp okM4 M (by rw [List.mem_range']; exact ⟨M - 64, by omega, by omega⟩)
    by_cases h5 : M < 96
    · exact List.all_eq_true.mp okM5 M (by rw [List.mem_range']; exact ⟨M - 80, by omega, by omega⟩)
    by_cases h6 : M < 112
    · exact List.all_eq_true.mp okM6 M (by rw [List.mem_range']; exact ⟨M - 96, by omega, by omega⟩)
    by_cases h7 : M < 128
    · exact List.all_eq_true.mp okM7 M (by rw [List.mem_range']; exact ⟨M - 112, by omega, by omega⟩)
    by_cases h8 : M < 144
    · exact List.all_eq_true.mp okM8 M (by rw [List.mem_range']; exact ⟨M - 128, by omega, by omega⟩)
    by_cases h9 : M < 160
    · exact List.all_eq_true.mp okM9 M (by rw [List.mem_range']; exact ⟨M - 144, by omega, by omega⟩)
    by_cases h10 : M < 176
    · exact List.all_eq_true.mp okM10 M (by rw [List.mem_range']; exact ⟨M - 160, by omega, by omega⟩)
    by_cases h11 : M < 192
    · exact List.all_eq_true.mp okM11 M (by rw [List.mem_range']; exact ⟨M - 176, by omega, by omega⟩)
    by_cases h12 : M < 208
    · exact List.all_eq_true.mp okM12 M (by rw [List.mem_range']; exact ⟨M - 192, by omega, by omega⟩)
    by_cases h13 : M < 224
    · exact List.all_eq_true.mp okM13 M (by rw [List.mem_range']; exact ⟨M - 208, by omega, by omega⟩)
    by_cases h14 : M < 240
    · exact List.all_eq_true.mp okM14 M (by rw [List.mem_range']; exact ⟨M - 224, by omega, by omega⟩)
    by_cases h15 : M < 256
    · exact List.all_eq_true.mp okM15 M (by rw [List.mem_range']; exact ⟨M - 240, by omega, by omega⟩)
    by_cases h16 : M < 257
    · exact List.all_eq_true.mp okM16 M (by rw [List.mem_range']; exact ⟨M - 256, by omega, by omega⟩)
    omega
  simpa only [Bool.and_eq_true, Bool.or_eq_true, decide_eq_true_eq] using key
theorem ok_C {M : Nat} (hM : M < nM) : tb (mrOf M).2.2.2.2.2.2.1 = some (Jvm.Cond.code (pN M) (pB M) (pL M) (pRt M)) := by
  have hM : M < 257 := hM
  show okC (mrOf M)
  unfold mrOf
  by_cases h0 : M < 16
  · have e : M / 16 = 0 := by omega
    rw [e]
    show okC (match mrG0[M % 16]? with | some q => q | none => mr0)
    cases hq : mrG0[M % 16]? with
    | some q => exact okcG0 q (List.mem_of_getElem? hq)
    | none =>
      have := List.getElem?_eq_none_iff.mp hq
      have h2 : 16 ≤ M % 16 := this
      omega
  by_cases h1 : M < 32
  · have e : M / 16 = 1 := by omega
    rw [e]
    show okC (match mrG1[M % 16]? with | some q => q | none => mr0)
    cases hq : mrG1[M % 16]? with
    | some q => exact okcG1 q (List.mem_of_getElem? hq)
    | none =>
      have := List.getElem?_eq_none_iff.mp hq
      have h2 : 16 ≤ M % 16 := this
      omega
  by_cases h2 : M < 48
  · have e : M / 16 = 2 := by omega
    rw [e]
    show okC (match mrG2[M % 16]? with | some q => q | none => mr0)
    cases hq : mrG2[M % 16]? with
    | some q => exact okcG2 q (List.mem_of_getElem? hq)
    | none =>
      have := List.getElem?_eq_none_iff.mp hq
      have h2 : 16 ≤ M % 16 := this
      omega
  by_cases h3 : M < 64
  · have e : M / 16 = 3 := by omega
    rw [e]
    show okC (match mrG3[M % 16]? with | some q => q | none => mr0)
    cases hq : mrG3[M % 16]? with
    | some q => exact okcG3 q (List.mem_of_getElem? hq)
    | none =>
      have := List.getElem?_eq_none_iff.mp hq
      have h2 : 16 ≤ M % 16 := this
      omega
  by_cases h4 : M < 80
  · have e : M / 16 = 4 := by omega
    rw [e]
    show okC (match mrG4[M % 16]? with | some q => q | none => mr0)
    cases hq : mrG4[M % 16]? with
    | some q => exact okcG4 q (List.mem_of_getElem? hq)
    | none =>
      have := List.getElem?_eq_none_iff.mp hq
      have h2 : 16 ≤ M % 16 := this
      omega
  by_cases h5 : M < 96
  · have e : M / 16 = 5 := by omega
    rw [e]
    show okC (match mrG5[M % 16]? with | some q => q | none => mr0)
    cases hq : mrG5[M % 16]? with
    | some q => exact okcG5 q (List.mem_of_getElem? hq)
    | none =>
      have := List.getElem?_eq_none_iff.mp hq
      have h2 : 16 ≤ M % 16 := this
      omega
  by_cases h6 : M < 112
  · have e : M / 16 = 6 := by omega
    rw [e]
    show okC (match mrG6[M % 16]? with | some q => q | none => mr0)
    cases hq : mrG6[M % 16]? with
    | some q => exact okcG6 q (List.mem_of_getElem? hq)
    | none =>
      have := List.getElem?_eq_none_iff.mp hq
      have h2 : 16 ≤ M % 16 := this
      omega
  by_cases h7 : M < 128
  · have e : M / 16 = 7 := by omega
    rw [e]
    show okC (match mrG7[M % 16]? with | some q => q | none => mr0)
    cases hq : mrG7[M % 16]? with
    | some q => exact okcG7 q (List.mem_of_getElem? hq)
    | none =>
      have := List.getElem?_eq_none_iff.mp hq
      have h2 : 16 ≤ M % 16 := this
      omega
  by_cases h8 : M < 144
  · have e : M / 16 = 8 := by omega
    rw [e]
    show okC (match mrG8[M % 16]? with | some q => q | none => mr0)
    cases hq : mrG8[M % 16]? with
    | some q => exact okcG8 q (List.mem_of_getElem? hq)
    | none =>
      have := List.getElem?_eq_none_iff.mp hq
      have h2 : 16 ≤ M % 16 := this
      omega
  by_cases h9 : M < 160
  · have e : M / 16 = 9 := by omega
    rw [e]
    show okC (match mrG9[M % 16]? with | some q => q | none => mr0)
    cases hq : mrG9[M % 16]? with
    | some q => exact okcG9 q (List.mem_of_getElem? hq)
    | none =>
      have := List.getElem?_eq_none_iff.mp hq
      have h2 : 16 ≤ M % 16 := this
      omega
  by_cases h10 : M < 176
  · have e : M / 16 = 10 := by omega
    rw [e]
    show okC (match mrG10[M % 16]? with | some q => q | none => mr0)
    cases hq : mrG10[M % 16]? with
    | some q => exact okcG10 q (List.mem_of_getElem? hq)
    | none =>
      have := List.getElem?_eq_none_iff.mp hq
      have h2 : 16 ≤ M % 16 := this
      omega
  by_cases h11 : M < 192
  · have e : M / 16 = 11 := by omega
    rw [e]
    show okC (match mrG11[M % 16]? with | some q => q | none => mr0)
    cases hq : mrG11[M % 16]? with
    | some q => exact okcG11 q (List.mem_of_getElem? hq)
    | none =>
      have := List.getElem?_eq_none_iff.mp hq
      have h2 : 16 ≤ M % 16 := this
      omega
  by_cases h12 : M < 208
  · have e : M / 16 = 12 := by omega
    rw [e]
    show okC (match mrG12[M % 16]? with | some q => q | none => mr0)
    cases hq : mrG12[M % 16]? with
    | some q => exact okcG12 q (List.mem_of_getElem? hq)
    | none =>
      have := List.getElem?_eq_none_iff.mp hq
      have h2 : 16 ≤ M % 16 := this
      omega
  by_cases h13 : M < 224
  · have e : M / 16 = 13 := by omega
    rw [e]
    show okC (match mrG13[M % 16]? with | some q => q | none => mr0)
    cases hq : mrG13[M % 16]? with
    | some q => exact okcG13 q (List.mem_of_getElem? hq)
    | none =>
      have := List.getElem?_eq_none_iff.mp hq
      have h2 : 16 ≤ M % 16 := this
      omega
  by_cases h14 : M < 240
  · have e : M / 16 = 14 := by omega
    rw [e]
    show okC (match mrG14[M % 16]? with | some q => q | none => mr0)
    cases hq : mrG14[M % 16]? with
    | some q => exact okcG14 q (List.mem_of_getElem? hq)
    | none =>
      have := List.getElem?_eq_none_iff.mp hq
      have h2 : 16 ≤ M % 16 := this
      omega
  by_cases h15 : M < 256
  · have e : M / 16 = 15 := by omega
    rw [e]
    show okC (match mrG15[M % 16]? with | some q => q | none => mr0)
    cases hq : mrG15[M % 16]? with
    | some q => exact okcG15 q (List.mem_of_getElem? hq)
    | none =>
      have := List.getElem?_eq_none_iff.mp hq
      have h2 : 16 ≤ M % 16 := this
      omega
  by_cases h16 : M < 257
  · have e : M / 16 = 16 := by omega
    rw [e]
    show okC (match mrG16[M % 16]? with | some q => q | none => mr0)
    cases hq : mrG16[M % 16]? with
    | some q => exact okcG16 q (List.mem_of_getElem? hq)
    | none =>
      have := List.getElem?_eq_none_iff.mp hq
      have h2 : 1 ≤ M % 16 := this
      omega
  omega
