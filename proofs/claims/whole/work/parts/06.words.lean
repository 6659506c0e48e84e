/-- the tables' words that stay good over calls -/
def lw_T : List Cond := lw_tbl.filter goodWord
theorem T_w {x : Cond} (i : Nat) (h : lw_tbl[i]? = some x) (g : goodWord x = true) : x ∈ lw_T := List.mem_filter.mpr ⟨List.mem_of_getElem? h, g⟩
theorem T_gw {x : Cond} (h : x ∈ lw_T) : goodWord x = true := (List.mem_filter.mp h).2
theorem T_tb {x : Cond} (h : x ∈ lw_T) : x ∈ lw_tbl := (List.mem_filter.mp h).1
theorem T_pl (ws : List Cond) (ps : List Nat) (hp : ws = ps.filterMap (fun i => lw_tbl[i]?)) (g : ws.all goodWord = true) : ∀ w ∈ ws, w ∈ lw_T := by
  intro w hw
  refine List.mem_filter.mpr ⟨?_, List.all_eq_true.mp g w hw⟩
  rw [hp] at hw
  obtain ⟨i, -, hi⟩ := List.mem_filterMap.mp hw
  exact List.mem_of_getElem? hi
def notMH (y : MethodName) (n : Nat) : Prop := y.cls ≠ "java/lang/invoke/MethodHandle" ∧ y.cls ≠ "java/lang/invoke/VarHandle" ∧ (parseMethodDescriptor y.desc).map (fun d => d.parameters.length) = some n
/-- a method's rows of the tables: one that is called on an object, a static one, a constructor -/
def Yv (y : MethodName) (cc : ByteArray) (maxL : Nat) (ret : Option FieldType) (n : Nat) : Prop := Cond.code y cc maxL ret ∈ lw_T ∧ Cond.instanceMethod y ∈ lw_T ∧ Cond.selects y.cls y y ∈ lw_T ∧ Cond.initialized y.cls ∈ lw_T ∧ notMH y n
def Ys (y : MethodName) (cc : ByteArray) (maxL : Nat) (ret : Option FieldType) (n : Nat) : Prop := Cond.code y cc maxL ret ∈ lw_T ∧ Cond.static y ∈ lw_T ∧ Cond.initialized y.cls ∈ lw_T ∧ notMH y n
def Yn (y : MethodName) (cc : ByteArray) (maxL n : Nat) : Prop := Cond.code y cc maxL none ∈ lw_T ∧ Cond.instanceMethod y ∈ lw_T ∧ Cond.initialized y.cls ∈ lw_T ∧ y.name = "<init>" ∧ notMH y n
set_option maxRecDepth 20000 in
theorem inT0 : ∀ w ∈ u_ws RX0 TX0 5, w ∈ lw_T := T_pl _ [195, 197, 199, 201, 203] (by decide +kernel) (by decide +kernel)
set_option maxRecDepth 20000 in
theorem inT1 : ∀ w ∈ u_ws RX1 TX1 8, w ∈ lw_T := T_pl _ [108, 110, 112, 114, 116, 118, 120, 122] (by decide +kernel) (by decide +kernel)
set_option maxRecDepth 20000 in
theorem inT2 : ∀ w ∈ u_ws RX2 TX2 6, w ∈ lw_T := T_pl _ [134, 136, 138, 140, 142, 144] (by decide +kernel) (by decide +kernel)
set_option maxRecDepth 20000 in
theorem inT3 : ∀ w ∈ u_ws RX3 TX3 4, w ∈ lw_T := T_pl _ [217, 219, 221, 223] (by decide +kernel) (by decide +kernel)
set_option maxRecDepth 20000 in
theorem inT4 : ∀ w ∈ u_ws RX4 TX4 4, w ∈ lw_T := T_pl _ [174, 176, 178, 180] (by decide +kernel) (by decide +kernel)
set_option maxRecDepth 20000 in
theorem inT5 : ∀ w ∈ u_ws RX5 TX5 12, w ∈ lw_T := T_pl _ [280, 282, 284, 286, 288, 290, 292, 294, 296, 298, 300, 302] (by decide +kernel) (by decide +kernel)
set_option maxRecDepth 20000 in
theorem inT6 : ∀ w ∈ u_ws RX6 TX6 7, w ∈ lw_T := T_pl _ [240, 242, 244, 246, 248, 250, 252] (by decide +kernel) (by decide +kernel)
set_option maxRecDepth 20000 in
theorem inT7 : ∀ w ∈ u_ws RX7 TX7 10, w ∈ lw_T := T_pl _ [316, 318, 320, 322, 324, 326, 328, 330, 332, 334] (by decide +kernel) (by decide +kernel)
set_option maxRecDepth 20000 in
theorem inT8 : ∀ w ∈ u_ws RX8 TX8 24, w ∈ lw_T := T_pl _ [692, 694, 696, 698, 700, 702, 704, 706, 708, 710, 712, 714, 716, 718, 720, 722, 724, 726, 728, 730, 732, 734, 736, 738] (by decide +kernel) (by decide +kernel)
set_option maxRecDepth 20000 in
theorem ni_L : Cond.initialized RL ∈ lw_T := T_w 48 (by decide +kernel) (by rfl)
set_option maxRecDepth 20000 in
theorem ni_X7 : Cond.initialized RX7 ∈ lw_T := T_w 49 (by decide +kernel) (by rfl)
set_option maxRecDepth 20000 in
theorem ni_X2 : Cond.initialized RX2 ∈ lw_T := T_w 50 (by decide +kernel) (by rfl)
set_option maxRecDepth 20000 in
theorem ni_X1 : Cond.initialized RX1 ∈ lw_T := T_w 51 (by decide +kernel) (by rfl)
set_option maxRecDepth 20000 in
theorem ni_X4 : Cond.initialized RX4 ∈ lw_T := T_w 52 (by decide +kernel) (by rfl)
set_option maxRecDepth 20000 in
theorem ni_X0 : Cond.initialized RX0 ∈ lw_T := T_w 53 (by decide +kernel) (by rfl)
set_option maxRecDepth 20000 in
theorem ni_X3 : Cond.initialized RX3 ∈ lw_T := T_w 54 (by decide +kernel) (by rfl)
set_option maxRecDepth 20000 in
theorem ni_X6 : Cond.initialized RX6 ∈ lw_T := T_w 55 (by decide +kernel) (by rfl)
set_option maxRecDepth 20000 in
theorem ni_X5 : Cond.initialized RX5 ∈ lw_T := T_w 56 (by decide +kernel) (by rfl)
set_option maxRecDepth 20000 in
theorem ni_X8 : Cond.initialized RX8 ∈ lw_T := T_w 57 (by decide +kernel) (by rfl)
set_option maxRecDepth 20000 in
theorem ni_J10 : Cond.initialized RJ10 ∈ lw_T := T_w 58 (by decide +kernel) (by rfl)
set_option maxRecDepth 20000 in
theorem ni_J6 : Cond.initialized RJ6 ∈ lw_T := T_w 59 (by decide +kernel) (by rfl)
set_option maxRecDepth 20000 in
theorem cl_L_7 : Cond.classLink RL 7 RX7 ∈ lw_T := T_w 60 (by decide +kernel) (by rfl)
set_option maxRecDepth 20000 in
theorem is_X7 : Cond.instantiable RX7 10 ∈ lw_T := T_w 61 (by decide +kernel) (by rfl)
set_option maxRecDepth 20000 in
theorem ml_L_9 : Cond.methodLink RL 9 yX7_init ∈ lw_T := T_w 62 (by decide +kernel) (by rfl)
set_option maxRecDepth 20000 in
theorem ml_X7_1 : Cond.methodLink RX7 1 objectInit ∈ lw_T := T_w 65 (by decide +kernel) (by rfl)
set_option maxRecDepth 20000 in
theorem in_Object : Cond.instanceMethod objectInit ∈ lw_T := T_w 66 (by decide +kernel) (by rfl)
set_option maxRecDepth 20000 in
theorem cd_Object : Cond.code objectInit ⟨#[0xb1]⟩ 1 none ∈ lw_T := T_w 67 (by rfl) (by rfl)
set_option maxRecDepth 20000 in
theorem cl_X7_7 : Cond.classLink RX7 7 RX2 ∈ lw_T := T_w 68 (by decide +kernel) (by rfl)
set_option maxRecDepth 20000 in
theorem is_X2 : Cond.instantiable RX2 6 ∈ lw_T := T_w 69 (by decide +kernel) (by rfl)
set_option maxRecDepth 20000 in
theorem ml_X2_3 : Cond.methodLink RX2 3 objectInit ∈ lw_T := T_w 73 (by decide +kernel) (by rfl)
set_option maxRecDepth 20000 in
theorem cl_X2_9 : Cond.classLink RX2 9 RX1 ∈ lw_T := T_w 74 (by decide +kernel) (by rfl)
set_option maxRecDepth 20000 in
theorem is_X1 : Cond.instantiable RX1 8 ∈ lw_T := T_w 75 (by decide +kernel) (by rfl)
set_option maxRecDepth 20000 in
theorem ml_X1_3 : Cond.methodLink RX1 3 objectInit ∈ lw_T := T_w 79 (by decide +kernel) (by rfl)
set_option maxRecDepth 20000 in
theorem fl_X1_9 : Cond.fieldLink RX1 9 "SneakPaths$Net" "nodes" "I" ∈ lw_T := T_w 80 (by decide +kernel) (by rfl)
set_option maxRecDepth 20000 in
theorem fl_X2_60 : Cond.fieldLink RX2 60 "SneakPaths$Net" "nodes" "I" ∈ lw_T := T_w 81 (by decide +kernel) (by rfl)
set_option maxRecDepth 20000 in
theorem fl_X6_72 : Cond.fieldLink RX6 72 "SneakPaths$Net" "nodes" "I" ∈ lw_T := T_w 82 (by decide +kernel) (by rfl)
set_option maxRecDepth 20000 in
theorem fl_X7_230 : Cond.fieldLink RX7 230 "SneakPaths$Net" "nodes" "I" ∈ lw_T := T_w 83 (by decide +kernel) (by rfl)
set_option maxRecDepth 20000 in
theorem fl_X1_31 : Cond.fieldLink RX1 31 "SneakPaths$Net" "contacts" "I" ∈ lw_T := T_w 84 (by decide +kernel) (by rfl)
set_option maxRecDepth 20000 in
theorem fl_X6_33 : Cond.fieldLink RX6 33 "SneakPaths$Net" "contacts" "I" ∈ lw_T := T_w 85 (by decide +kernel) (by rfl)
set_option maxRecDepth 20000 in
theorem fl_X5_56 : Cond.fieldLink RX5 56 "SneakPaths$Net" "contacts" "I" ∈ lw_T := T_w 86 (by decide +kernel) (by rfl)
set_option maxRecDepth 20000 in
theorem fl_X2_66 : Cond.fieldLink RX2 66 "SneakPaths$Net" "contacts" "I" ∈ lw_T := T_w 87 (by decide +kernel) (by rfl)
set_option maxRecDepth 20000 in
theorem fl_X7_183 : Cond.fieldLink RX7 183 "SneakPaths$Net" "contacts" "I" ∈ lw_T := T_w 88 (by decide +kernel) (by rfl)
set_option maxRecDepth 20000 in
theorem fl_X1_34 : Cond.fieldLink RX1 34 "SneakPaths$Net" "loads" "I" ∈ lw_T := T_w 89 (by decide +kernel) (by rfl)
set_option maxRecDepth 20000 in
theorem fl_X2_73 : Cond.fieldLink RX2 73 "SneakPaths$Net" "loads" "I" ∈ lw_T := T_w 90 (by decide +kernel) (by rfl)
set_option maxRecDepth 20000 in
theorem fl_X7_233 : Cond.fieldLink RX7 233 "SneakPaths$Net" "loads" "I" ∈ lw_T := T_w 91 (by decide +kernel) (by rfl)
set_option maxRecDepth 20000 in
theorem fl_X1_15 : Cond.fieldLink RX1 15 "SneakPaths$Net" "kind" "[I" ∈ lw_T := T_w 92 (by decide +kernel) (by rfl)
set_option maxRecDepth 20000 in
theorem fl_X6_55 : Cond.fieldLink RX6 55 "SneakPaths$Net" "kind" "[I" ∈ lw_T := T_w 93 (by decide +kernel) (by rfl)
set_option maxRecDepth 20000 in
theorem fl_X7_108 : Cond.fieldLink RX7 108 "SneakPaths$Net" "kind" "[I" ∈ lw_T := T_w 94 (by decide +kernel) (by rfl)
set_option maxRecDepth 20000 in
theorem fl_X1_19 : Cond.fieldLink RX1 19 "SneakPaths$Net" "first" "[I" ∈ lw_T := T_w 95 (by decide +kernel) (by rfl)
set_option maxRecDepth 20000 in
theorem fl_X7_111 : Cond.fieldLink RX7 111 "SneakPaths$Net" "first" "[I" ∈ lw_T := T_w 96 (by decide +kernel) (by rfl)
set_option maxRecDepth 20000 in
theorem fl_X6_79 : Cond.fieldLink RX6 79 "SneakPaths$Net" "first" "[I" ∈ lw_T := T_w 97 (by decide +kernel) (by rfl)
set_option maxRecDepth 20000 in
theorem fl_X1_22 : Cond.fieldLink RX1 22 "SneakPaths$Net" "second" "[I" ∈ lw_T := T_w 98 (by decide +kernel) (by rfl)
set_option maxRecDepth 20000 in
theorem fl_X7_114 : Cond.fieldLink RX7 114 "SneakPaths$Net" "second" "[I" ∈ lw_T := T_w 99 (by decide +kernel) (by rfl)
set_option maxRecDepth 20000 in
theorem fl_X6_82 : Cond.fieldLink RX6 82 "SneakPaths$Net" "second" "[I" ∈ lw_T := T_w 100 (by decide +kernel) (by rfl)
set_option maxRecDepth 20000 in
theorem fl_X1_25 : Cond.fieldLink RX1 25 "SneakPaths$Net" "by" "[I" ∈ lw_T := T_w 101 (by decide +kernel) (by rfl)
set_option maxRecDepth 20000 in
theorem fl_X6_58 : Cond.fieldLink RX6 58 "SneakPaths$Net" "by" "[I" ∈ lw_T := T_w 102 (by decide +kernel) (by rfl)
set_option maxRecDepth 20000 in
theorem fl_X7_117 : Cond.fieldLink RX7 117 "SneakPaths$Net" "by" "[I" ∈ lw_T := T_w 103 (by decide +kernel) (by rfl)
set_option maxRecDepth 20000 in
theorem fl_X1_28 : Cond.fieldLink RX1 28 "SneakPaths$Net" "loadNode" "[I" ∈ lw_T := T_w 104 (by decide +kernel) (by rfl)
set_option maxRecDepth 20000 in
theorem fl_X5_26 : Cond.fieldLink RX5 26 "SneakPaths$Net" "loadNode" "[I" ∈ lw_T := T_w 105 (by decide +kernel) (by rfl)
set_option maxRecDepth 20000 in
theorem fl_X7_132 : Cond.fieldLink RX7 132 "SneakPaths$Net" "loadNode" "[I" ∈ lw_T := T_w 106 (by decide +kernel) (by rfl)
set_option maxRecDepth 20000 in
theorem fl_X6_89 : Cond.fieldLink RX6 89 "SneakPaths$Net" "loadNode" "[I" ∈ lw_T := T_w 107 (by decide +kernel) (by rfl)
set_option maxRecDepth 20000 in
theorem ac_int : Cond.arrayClass .int ∈ lw_T := T_w 125 (by decide +kernel) (by rfl)
set_option maxRecDepth 20000 in
theorem fl_X2_12 : Cond.fieldLink RX2 12 "SneakPaths$Reader" "draft" "LSneakPaths$Net;" ∈ lw_T := T_w 126 (by decide +kernel) (by rfl)
set_option maxRecDepth 20000 in
theorem fl_X7_86 : Cond.fieldLink RX7 86 "SneakPaths$Reader" "draft" "LSneakPaths$Net;" ∈ lw_T := T_w 127 (by decide +kernel) (by rfl)
set_option maxRecDepth 20000 in
theorem fl_X2_22 : Cond.fieldLink RX2 22 "SneakPaths$Reader" "length" "I" ∈ lw_T := T_w 128 (by decide +kernel) (by rfl)
set_option maxRecDepth 20000 in
theorem fl_X7_78 : Cond.fieldLink RX7 78 "SneakPaths$Reader" "length" "I" ∈ lw_T := T_w 129 (by decide +kernel) (by rfl)
set_option maxRecDepth 20000 in
theorem fl_X2_18 : Cond.fieldLink RX2 18 "SneakPaths$Reader" "letters" "[I" ∈ lw_T := T_w 130 (by decide +kernel) (by rfl)
set_option maxRecDepth 20000 in
theorem fl_X2_29 : Cond.fieldLink RX2 29 "SneakPaths$Reader" "at" "I" ∈ lw_T := T_w 131 (by decide +kernel) (by rfl)
set_option maxRecDepth 20000 in
theorem fl_X2_35 : Cond.fieldLink RX2 35 "SneakPaths$Reader" "token" "I" ∈ lw_T := T_w 132 (by decide +kernel) (by rfl)
set_option maxRecDepth 20000 in
theorem fl_X2_42 : Cond.fieldLink RX2 42 "SneakPaths$Reader" "place" "I" ∈ lw_T := T_w 133 (by decide +kernel) (by rfl)
set_option maxRecDepth 20000 in
theorem cl_X7_16 : Cond.classLink RX7 16 RX1 ∈ lw_T := T_w 147 (by decide +kernel) (by rfl)
set_option maxRecDepth 20000 in
theorem cl_X7_23 : Cond.classLink RX7 23 RX4 ∈ lw_T := T_w 149 (by decide +kernel) (by rfl)
set_option maxRecDepth 20000 in
theorem is_X4 : Cond.instantiable RX4 4 ∈ lw_T := T_w 150 (by decide +kernel) (by rfl)
set_option maxRecDepth 20000 in
theorem ml_X7_25 : Cond.methodLink RX7 25 yX4_init ∈ lw_T := T_w 151 (by decide +kernel) (by rfl)
set_option maxRecDepth 20000 in
theorem ml_X4_3 : Cond.methodLink RX4 3 objectInit ∈ lw_T := T_w 154 (by decide +kernel) (by rfl)
set_option maxRecDepth 20000 in
theorem ml_X4_24 : Cond.methodLink RX4 24 yX4_reset ∈ lw_T := T_w 155 (by decide +kernel) (by rfl)
set_option maxRecDepth 20000 in
theorem fl_X4_9 : Cond.fieldLink RX4 9 "SneakPaths$Setting" "wished" "[I" ∈ lw_T := T_w 159 (by decide +kernel) (by rfl)
set_option maxRecDepth 20000 in
theorem fl_X0_31 : Cond.fieldLink RX0 31 "SneakPaths$Setting" "wished" "[I" ∈ lw_T := T_w 160 (by decide +kernel) (by rfl)
set_option maxRecDepth 20000 in
theorem fl_X7_139 : Cond.fieldLink RX7 139 "SneakPaths$Setting" "wished" "[I" ∈ lw_T := T_w 161 (by decide +kernel) (by rfl)
set_option maxRecDepth 20000 in
theorem fl_X4_15 : Cond.fieldLink RX4 15 "SneakPaths$Setting" "cure" "[I" ∈ lw_T := T_w 162 (by decide +kernel) (by rfl)
set_option maxRecDepth 20000 in
theorem fl_X6_39 : Cond.fieldLink RX6 39 "SneakPaths$Setting" "cure" "[I" ∈ lw_T := T_w 163 (by decide +kernel) (by rfl)
set_option maxRecDepth 20000 in
theorem fl_X0_36 : Cond.fieldLink RX0 36 "SneakPaths$Setting" "cure" "[I" ∈ lw_T := T_w 164 (by decide +kernel) (by rfl)
set_option maxRecDepth 20000 in
theorem fl_X7_120 : Cond.fieldLink RX7 120 "SneakPaths$Setting" "cure" "[I" ∈ lw_T := T_w 165 (by decide +kernel) (by rfl)
set_option maxRecDepth 20000 in
theorem fl_X4_18 : Cond.fieldLink RX4 18 "SneakPaths$Setting" "cureBy" "[I" ∈ lw_T := T_w 166 (by decide +kernel) (by rfl)
set_option maxRecDepth 20000 in
theorem fl_X6_44 : Cond.fieldLink RX6 44 "SneakPaths$Setting" "cureBy" "[I" ∈ lw_T := T_w 167 (by decide +kernel) (by rfl)
set_option maxRecDepth 20000 in
theorem fl_X0_39 : Cond.fieldLink RX0 39 "SneakPaths$Setting" "cureBy" "[I" ∈ lw_T := T_w 168 (by decide +kernel) (by rfl)
set_option maxRecDepth 20000 in
theorem fl_X7_123 : Cond.fieldLink RX7 123 "SneakPaths$Setting" "cureBy" "[I" ∈ lw_T := T_w 169 (by decide +kernel) (by rfl)
set_option maxRecDepth 20000 in
theorem fl_X4_21 : Cond.fieldLink RX4 21 "SneakPaths$Setting" "stick" "[I" ∈ lw_T := T_w 170 (by decide +kernel) (by rfl)
set_option maxRecDepth 20000 in
theorem fl_X6_47 : Cond.fieldLink RX6 47 "SneakPaths$Setting" "stick" "[I" ∈ lw_T := T_w 171 (by decide +kernel) (by rfl)
set_option maxRecDepth 20000 in
theorem fl_X0_42 : Cond.fieldLink RX0 42 "SneakPaths$Setting" "stick" "[I" ∈ lw_T := T_w 172 (by decide +kernel) (by rfl)
set_option maxRecDepth 20000 in
theorem fl_X7_126 : Cond.fieldLink RX7 126 "SneakPaths$Setting" "stick" "[I" ∈ lw_T := T_w 173 (by decide +kernel) (by rfl)
set_option maxRecDepth 20000 in
theorem cl_X7_30 : Cond.classLink RX7 30 RX0 ∈ lw_T := T_w 183 (by decide +kernel) (by rfl)
set_option maxRecDepth 20000 in
theorem is_X0 : Cond.instantiable RX0 5 ∈ lw_T := T_w 184 (by decide +kernel) (by rfl)
set_option maxRecDepth 20000 in
theorem ml_X0_3 : Cond.methodLink RX0 3 objectInit ∈ lw_T := T_w 188 (by decide +kernel) (by rfl)
set_option maxRecDepth 20000 in
theorem fl_X0_24 : Cond.fieldLink RX0 24 "SneakPaths$History" "known" "I" ∈ lw_T := T_w 189 (by decide +kernel) (by rfl)
set_option maxRecDepth 20000 in
theorem fl_X7_96 : Cond.fieldLink RX7 96 "SneakPaths$History" "known" "I" ∈ lw_T := T_w 190 (by decide +kernel) (by rfl)
set_option maxRecDepth 20000 in
theorem fl_X0_9 : Cond.fieldLink RX0 9 "SneakPaths$History" "sort" "[I" ∈ lw_T := T_w 191 (by decide +kernel) (by rfl)
set_option maxRecDepth 20000 in
theorem fl_X0_15 : Cond.fieldLink RX0 15 "SneakPaths$History" "which" "[I" ∈ lw_T := T_w 192 (by decide +kernel) (by rfl)
set_option maxRecDepth 20000 in
theorem fl_X0_18 : Cond.fieldLink RX0 18 "SneakPaths$History" "was" "[I" ∈ lw_T := T_w 193 (by decide +kernel) (by rfl)
set_option maxRecDepth 20000 in
theorem fl_X0_21 : Cond.fieldLink RX0 21 "SneakPaths$History" "wasBy" "[I" ∈ lw_T := T_w 194 (by decide +kernel) (by rfl)
set_option maxRecDepth 20000 in
theorem cl_X7_37 : Cond.classLink RX7 37 RX3 ∈ lw_T := T_w 206 (by decide +kernel) (by rfl)
set_option maxRecDepth 20000 in
theorem is_X3 : Cond.instantiable RX3 4 ∈ lw_T := T_w 207 (by decide +kernel) (by rfl)
set_option maxRecDepth 20000 in
theorem ml_X3_3 : Cond.methodLink RX3 3 objectInit ∈ lw_T := T_w 211 (by decide +kernel) (by rfl)
set_option maxRecDepth 20000 in
theorem fl_X3_21 : Cond.fieldLink RX3 21 "SneakPaths$Seen" "size" "I" ∈ lw_T := T_w 212 (by decide +kernel) (by rfl)
set_option maxRecDepth 20000 in
theorem fl_X7_99 : Cond.fieldLink RX7 99 "SneakPaths$Seen" "size" "I" ∈ lw_T := T_w 213 (by decide +kernel) (by rfl)
set_option maxRecDepth 20000 in
theorem fl_X3_9 : Cond.fieldLink RX3 9 "SneakPaths$Seen" "which" "[I" ∈ lw_T := T_w 214 (by decide +kernel) (by rfl)
set_option maxRecDepth 20000 in
theorem fl_X3_15 : Cond.fieldLink RX3 15 "SneakPaths$Seen" "state" "[I" ∈ lw_T := T_w 215 (by decide +kernel) (by rfl)
set_option maxRecDepth 20000 in
theorem fl_X3_18 : Cond.fieldLink RX3 18 "SneakPaths$Seen" "fed" "[I" ∈ lw_T := T_w 216 (by decide +kernel) (by rfl)
set_option maxRecDepth 20000 in
theorem cl_X7_44 : Cond.classLink RX7 44 RX6 ∈ lw_T := T_w 226 (by decide +kernel) (by rfl)
set_option maxRecDepth 20000 in
theorem is_X6 : Cond.instantiable RX6 7 ∈ lw_T := T_w 227 (by decide +kernel) (by rfl)
set_option maxRecDepth 20000 in
theorem ml_X7_46 : Cond.methodLink RX7 46 yX6_init ∈ lw_T := T_w 228 (by decide +kernel) (by rfl)
set_option maxRecDepth 20000 in
theorem ml_X6_3 : Cond.methodLink RX6 3 objectInit ∈ lw_T := T_w 231 (by decide +kernel) (by rfl)
set_option maxRecDepth 20000 in
theorem fl_X6_9 : Cond.fieldLink RX6 9 "SneakPaths$Ways" "shut" "[I" ∈ lw_T := T_w 232 (by decide +kernel) (by rfl)
set_option maxRecDepth 20000 in
theorem fl_X5_65 : Cond.fieldLink RX5 65 "SneakPaths$Ways" "shut" "[I" ∈ lw_T := T_w 233 (by decide +kernel) (by rfl)
set_option maxRecDepth 20000 in
theorem fl_X6_25 : Cond.fieldLink RX6 25 "SneakPaths$Ways" "plan" "LSneakPaths$Net;" ∈ lw_T := T_w 234 (by decide +kernel) (by rfl)
set_option maxRecDepth 20000 in
theorem fl_X6_29 : Cond.fieldLink RX6 29 "SneakPaths$Ways" "now" "LSneakPaths$Setting;" ∈ lw_T := T_w 235 (by decide +kernel) (by rfl)
set_option maxRecDepth 20000 in
theorem fl_X6_15 : Cond.fieldLink RX6 15 "SneakPaths$Ways" "forth" "[Z" ∈ lw_T := T_w 236 (by decide +kernel) (by rfl)
set_option maxRecDepth 20000 in
theorem fl_X6_19 : Cond.fieldLink RX6 19 "SneakPaths$Ways" "back" "[Z" ∈ lw_T := T_w 237 (by decide +kernel) (by rfl)
set_option maxRecDepth 20000 in
theorem fl_X6_22 : Cond.fieldLink RX6 22 "SneakPaths$Ways" "reached" "[I" ∈ lw_T := T_w 238 (by decide +kernel) (by rfl)
set_option maxRecDepth 20000 in
theorem fl_X6_68 : Cond.fieldLink RX6 68 "SneakPaths$Ways" "grew" "Z" ∈ lw_T := T_w 239 (by decide +kernel) (by rfl)
set_option maxRecDepth 20000 in
theorem ac_boolean : Cond.arrayClass .boolean ∈ lw_T := T_w 255 (by decide +kernel) (by rfl)
set_option maxRecDepth 20000 in
theorem cl_X7_53 : Cond.classLink RX7 53 RX5 ∈ lw_T := T_w 256 (by decide +kernel) (by rfl)
set_option maxRecDepth 20000 in
theorem is_X5 : Cond.instantiable RX5 12 ∈ lw_T := T_w 257 (by decide +kernel) (by rfl)
set_option maxRecDepth 20000 in
theorem ml_X7_55 : Cond.methodLink RX7 55 yX5_init ∈ lw_T := T_w 258 (by decide +kernel) (by rfl)
set_option maxRecDepth 20000 in
theorem ml_X5_3 : Cond.methodLink RX5 3 objectInit ∈ lw_T := T_w 261 (by decide +kernel) (by rfl)
set_option maxRecDepth 20000 in
theorem fl_X5_41 : Cond.fieldLink RX5 41 "SneakPaths$Walk" "found" "I" ∈ lw_T := T_w 262 (by decide +kernel) (by rfl)
set_option maxRecDepth 20000 in
theorem fl_X7_164 : Cond.fieldLink RX7 164 "SneakPaths$Walk" "found" "I" ∈ lw_T := T_w 263 (by decide +kernel) (by rfl)
set_option maxRecDepth 20000 in
theorem fl_X5_68 : Cond.fieldLink RX5 68 "SneakPaths$Walk" "bits" "I" ∈ lw_T := T_w 264 (by decide +kernel) (by rfl)
set_option maxRecDepth 20000 in
theorem fl_X7_167 : Cond.fieldLink RX7 167 "SneakPaths$Walk" "bits" "I" ∈ lw_T := T_w 265 (by decide +kernel) (by rfl)
set_option maxRecDepth 20000 in
theorem fl_X5_71 : Cond.fieldLink RX5 71 "SneakPaths$Walk" "length" "I" ∈ lw_T := T_w 266 (by decide +kernel) (by rfl)
set_option maxRecDepth 20000 in
theorem fl_X7_170 : Cond.fieldLink RX7 170 "SneakPaths$Walk" "length" "I" ∈ lw_T := T_w 267 (by decide +kernel) (by rfl)
set_option maxRecDepth 20000 in
theorem fl_X5_74 : Cond.fieldLink RX5 74 "SneakPaths$Walk" "shut" "I" ∈ lw_T := T_w 268 (by decide +kernel) (by rfl)
set_option maxRecDepth 20000 in
theorem fl_X7_171 : Cond.fieldLink RX7 171 "SneakPaths$Walk" "shut" "I" ∈ lw_T := T_w 269 (by decide +kernel) (by rfl)
set_option maxRecDepth 20000 in
theorem fl_X5_44 : Cond.fieldLink RX5 44 "SneakPaths$Walk" "fewest" "I" ∈ lw_T := T_w 270 (by decide +kernel) (by rfl)
set_option maxRecDepth 20000 in
theorem fl_X7_177 : Cond.fieldLink RX7 177 "SneakPaths$Walk" "fewest" "I" ∈ lw_T := T_w 271 (by decide +kernel) (by rfl)
set_option maxRecDepth 20000 in
theorem fl_X5_9 : Cond.fieldLink RX5 9 "SneakPaths$Walk" "shortestTrail" "[I" ∈ lw_T := T_w 272 (by decide +kernel) (by rfl)
set_option maxRecDepth 20000 in
theorem fl_X7_180 : Cond.fieldLink RX7 180 "SneakPaths$Walk" "shortestTrail" "[I" ∈ lw_T := T_w 273 (by decide +kernel) (by rfl)
set_option maxRecDepth 20000 in
theorem fl_X5_18 : Cond.fieldLink RX5 18 "SneakPaths$Walk" "plan" "LSneakPaths$Net;" ∈ lw_T := T_w 274 (by decide +kernel) (by rfl)
set_option maxRecDepth 20000 in
theorem fl_X5_22 : Cond.fieldLink RX5 22 "SneakPaths$Walk" "ways" "LSneakPaths$Ways;" ∈ lw_T := T_w 275 (by decide +kernel) (by rfl)
set_option maxRecDepth 20000 in
theorem fl_X5_15 : Cond.fieldLink RX5 15 "SneakPaths$Walk" "trail" "[I" ∈ lw_T := T_w 276 (by decide +kernel) (by rfl)
set_option maxRecDepth 20000 in
theorem fl_X5_31 : Cond.fieldLink RX5 31 "SneakPaths$Walk" "goal" "I" ∈ lw_T := T_w 277 (by decide +kernel) (by rfl)
set_option maxRecDepth 20000 in
theorem fl_X5_35 : Cond.fieldLink RX5 35 "SneakPaths$Walk" "wantedPath" "I" ∈ lw_T := T_w 278 (by decide +kernel) (by rfl)
set_option maxRecDepth 20000 in
theorem fl_X5_38 : Cond.fieldLink RX5 38 "SneakPaths$Walk" "wantedState" "I" ∈ lw_T := T_w 279 (by decide +kernel) (by rfl)
set_option maxRecDepth 20000 in
theorem fl_X7_10 : Cond.fieldLink RX7 10 "SneakPaths" "reader" "LSneakPaths$Reader;" ∈ lw_T := T_w 306 (by decide +kernel) (by rfl)
set_option maxRecDepth 20000 in
theorem fl_X7_19 : Cond.fieldLink RX7 19 "SneakPaths" "plan" "LSneakPaths$Net;" ∈ lw_T := T_w 307 (by decide +kernel) (by rfl)
set_option maxRecDepth 20000 in
theorem fl_X7_26 : Cond.fieldLink RX7 26 "SneakPaths" "now" "LSneakPaths$Setting;" ∈ lw_T := T_w 308 (by decide +kernel) (by rfl)
set_option maxRecDepth 20000 in
theorem fl_X7_33 : Cond.fieldLink RX7 33 "SneakPaths" "history" "LSneakPaths$History;" ∈ lw_T := T_w 309 (by decide +kernel) (by rfl)
set_option maxRecDepth 20000 in
theorem fl_X7_40 : Cond.fieldLink RX7 40 "SneakPaths" "seen" "LSneakPaths$Seen;" ∈ lw_T := T_w 310 (by decide +kernel) (by rfl)
set_option maxRecDepth 20000 in
theorem fl_X7_49 : Cond.fieldLink RX7 49 "SneakPaths" "ways" "LSneakPaths$Ways;" ∈ lw_T := T_w 311 (by decide +kernel) (by rfl)
set_option maxRecDepth 20000 in
theorem fl_X7_58 : Cond.fieldLink RX7 58 "SneakPaths" "walk" "LSneakPaths$Walk;" ∈ lw_T := T_w 312 (by decide +kernel) (by rfl)
set_option maxRecDepth 20000 in
theorem fl_X7_62 : Cond.fieldLink RX7 62 "SneakPaths" "images" "[LSneakPaths$Setting;" ∈ lw_T := T_w 313 (by decide +kernel) (by rfl)
set_option maxRecDepth 20000 in
theorem fl_X7_66 : Cond.fieldLink RX7 66 "SneakPaths" "kept" "[Z" ∈ lw_T := T_w 314 (by decide +kernel) (by rfl)
set_option maxRecDepth 20000 in
theorem fl_X7_70 : Cond.fieldLink RX7 70 "SneakPaths" "missingBefore" "[I" ∈ lw_T := T_w 315 (by decide +kernel) (by rfl)
set_option maxRecDepth 20000 in
theorem ml_L_13 : Cond.methodLink RL 13 yX7_type ∈ lw_T := T_w 337 (by decide +kernel) (by rfl)
set_option maxRecDepth 20000 in
theorem ml_X7_74 : Cond.methodLink RX7 74 yX2_append ∈ lw_T := T_w 341 (by decide +kernel) (by rfl)
set_option maxRecDepth 20000 in
theorem ml_L_18 : Cond.methodLink RL 18 yX7_clear ∈ lw_T := T_w 345 (by decide +kernel) (by rfl)
set_option maxRecDepth 20000 in
theorem ml_L_23 : Cond.methodLink RL 23 yX7_net ∈ lw_T := T_w 349 (by decide +kernel) (by rfl)
set_option maxRecDepth 20000 in
theorem ml_X7_82 : Cond.methodLink RX7 82 yX2_read ∈ lw_T := T_w 353 (by decide +kernel) (by rfl)
set_option maxRecDepth 20000 in
theorem ml_X2_26 : Cond.methodLink RX2 26 yX1_reset ∈ lw_T := T_w 357 (by decide +kernel) (by rfl)
set_option maxRecDepth 20000 in
theorem ml_X2_32 : Cond.methodLink RX2 32 yX2_nextToken ∈ lw_T := T_w 361 (by decide +kernel) (by rfl)
set_option maxRecDepth 20000 in
theorem ml_X2_86 : Cond.methodLink RX2 86 yX2_letterAt ∈ lw_T := T_w 365 (by decide +kernel) (by rfl)
set_option maxRecDepth 20000 in
theorem ml_X2_83 : Cond.methodLink RX2 83 yX2_isDigit ∈ lw_T := T_w 369 (by decide +kernel) (by rfl)
set_option maxRecDepth 20000 in
theorem ml_X2_38 : Cond.methodLink RX2 38 yX2_readItem ∈ lw_T := T_w 372 (by decide +kernel) (by rfl)
set_option maxRecDepth 20000 in
theorem ml_X2_45 : Cond.methodLink RX2 45 yX2_readNodes ∈ lw_T := T_w 376 (by decide +kernel) (by rfl)
set_option maxRecDepth 20000 in
theorem ml_X2_56 : Cond.methodLink RX2 56 yX2_readNumber ∈ lw_T := T_w 380 (by decide +kernel) (by rfl)
set_option maxRecDepth 20000 in
theorem ml_X2_63 : Cond.methodLink RX2 63 yX2_readSemicolon ∈ lw_T := T_w 384 (by decide +kernel) (by rfl)
set_option maxRecDepth 20000 in
theorem ml_X2_49 : Cond.methodLink RX2 49 yX2_readContact ∈ lw_T := T_w 388 (by decide +kernel) (by rfl)
set_option maxRecDepth 20000 in
theorem ml_X2_69 : Cond.methodLink RX2 69 yX1_addContact ∈ lw_T := T_w 392 (by decide +kernel) (by rfl)
set_option maxRecDepth 20000 in
theorem ml_X2_53 : Cond.methodLink RX2 53 yX2_readLoad ∈ lw_T := T_w 396 (by decide +kernel) (by rfl)
set_option maxRecDepth 20000 in
theorem ml_X2_76 : Cond.methodLink RX2 76 yX1_hasLoadAt ∈ lw_T := T_w 400 (by decide +kernel) (by rfl)
set_option maxRecDepth 20000 in
theorem ml_X2_79 : Cond.methodLink RX2 79 yX1_addLoad ∈ lw_T := T_w 404 (by decide +kernel) (by rfl)
set_option maxRecDepth 20000 in
theorem ml_X7_89 : Cond.methodLink RX7 89 yX1_takeFrom ∈ lw_T := T_w 408 (by decide +kernel) (by rfl)
set_option maxRecDepth 20000 in
theorem ml_X1_37 : Cond.methodLink RX1 37 arraycopyName ∈ lw_T := T_w 412 (by decide +kernel) (by rfl)
set_option maxRecDepth 20000 in
theorem static_arraycopy : Cond.static arraycopyName ∈ lw_T := T_w 413 (by decide +kernel) (by rfl)
set_option maxRecDepth 20000 in
theorem native_arraycopy : Cond.native arraycopyName ∈ lw_T := T_w 414 (by decide +kernel) (by rfl)
set_option maxRecDepth 20000 in
theorem ml_X7_93 : Cond.methodLink RX7 93 yX4_reset ∈ lw_T := T_w 415 (by decide +kernel) (by rfl)
set_option maxRecDepth 20000 in
theorem ml_X7_102 : Cond.methodLink RX7 102 yX7_wishWhatIsFed ∈ lw_T := T_w 416 (by decide +kernel) (by rfl)
set_option maxRecDepth 20000 in
theorem ml_X7_157 : Cond.methodLink RX7 157 yX6_layAll ∈ lw_T := T_w 420 (by decide +kernel) (by rfl)
set_option maxRecDepth 20000 in
theorem ml_X6_50 : Cond.methodLink RX6 50 yX6_layOne ∈ lw_T := T_w 424 (by decide +kernel) (by rfl)
set_option maxRecDepth 20000 in
theorem co_X6_54 : Cond.constant RX6 54 (65535) ∈ lw_T := T_w 428 (by decide +kernel) (by rfl)
set_option maxRecDepth 20000 in
theorem ml_X6_61 : Cond.methodLink RX6 61 yX6_shutBy ∈ lw_T := T_w 429 (by decide +kernel) (by rfl)
set_option maxRecDepth 20000 in
theorem ml_X7_217 : Cond.methodLink RX7 217 yX6_spread ∈ lw_T := T_w 434 (by decide +kernel) (by rfl)
set_option maxRecDepth 20000 in
theorem ml_X6_75 : Cond.methodLink RX6 75 yX6_spreadOver ∈ lw_T := T_w 438 (by decide +kernel) (by rfl)
set_option maxRecDepth 20000 in
theorem ml_X6_85 : Cond.methodLink RX6 85 yX6_flow ∈ lw_T := T_w 442 (by decide +kernel) (by rfl)
set_option maxRecDepth 20000 in
theorem ml_X7_242 : Cond.methodLink RX7 242 yX6_fed ∈ lw_T := T_w 446 (by decide +kernel) (by rfl)
set_option maxRecDepth 20000 in
theorem ml_L_27 : Cond.methodLink RL 27 yX7_contact ∈ lw_T := T_w 450 (by decide +kernel) (by rfl)
set_option maxRecDepth 20000 in
theorem ml_X7_105 : Cond.methodLink RX7 105 yX7_isContact ∈ lw_T := T_w 454 (by decide +kernel) (by rfl)
set_option maxRecDepth 20000 in
theorem ml_L_32 : Cond.methodLink RL 32 yX7_load ∈ lw_T := T_w 458 (by decide +kernel) (by rfl)
set_option maxRecDepth 20000 in
theorem ml_X7_129 : Cond.methodLink RX7 129 yX7_isLoad ∈ lw_T := T_w 462 (by decide +kernel) (by rfl)
set_option maxRecDepth 20000 in
theorem ml_X7_135 : Cond.methodLink RX7 135 yX7_fedNow ∈ lw_T := T_w 466 (by decide +kernel) (by rfl)
set_option maxRecDepth 20000 in
theorem ml_X7_142 : Cond.methodLink RX7 142 yX7_howManyPaths ∈ lw_T := T_w 470 (by decide +kernel) (by rfl)
set_option maxRecDepth 20000 in
theorem ml_X7_160 : Cond.methodLink RX7 160 yX5_run ∈ lw_T := T_w 474 (by decide +kernel) (by rfl)
set_option maxRecDepth 20000 in
theorem co_X5_47 : Cond.constant RX5 47 (65535) ∈ lw_T := T_w 478 (by decide +kernel) (by rfl)
set_option maxRecDepth 20000 in
theorem ml_X5_48 : Cond.methodLink RX5 48 yX5_goOn ∈ lw_T := T_w 479 (by decide +kernel) (by rfl)
set_option maxRecDepth 20000 in
theorem ml_X5_52 : Cond.methodLink RX5 52 yX5_arrive ∈ lw_T := T_w 483 (by decide +kernel) (by rfl)
set_option maxRecDepth 20000 in
theorem ml_X5_76 : Cond.methodLink RX5 76 arraycopyName ∈ lw_T := T_w 487 (by decide +kernel) (by rfl)
set_option maxRecDepth 20000 in
theorem ml_X5_59 : Cond.methodLink RX5 59 yX6_nodeBehind ∈ lw_T := T_w 488 (by decide +kernel) (by rfl)
set_option maxRecDepth 20000 in
theorem ml_L_36 : Cond.methodLink RL 36 yX7_wishes ∈ lw_T := T_w 492 (by decide +kernel) (by rfl)
set_option maxRecDepth 20000 in
theorem co_X7_145 : Cond.constant RX7 145 (65535) ∈ lw_T := T_w 496 (by decide +kernel) (by rfl)
set_option maxRecDepth 20000 in
theorem ml_X7_146 : Cond.methodLink RX7 146 yX0_note ∈ lw_T := T_w 497 (by decide +kernel) (by rfl)
set_option maxRecDepth 20000 in
theorem ml_X0_28 : Cond.methodLink RX0 28 yX0_dropOldest ∈ lw_T := T_w 501 (by decide +kernel) (by rfl)
set_option maxRecDepth 20000 in
theorem ml_X0_45 : Cond.methodLink RX0 45 arraycopyName ∈ lw_T := T_w 505 (by decide +kernel) (by rfl)
set_option maxRecDepth 20000 in
theorem ml_L_40 : Cond.methodLink RL 40 yX7_cures ∈ lw_T := T_w 506 (by decide +kernel) (by rfl)
set_option maxRecDepth 20000 in
theorem ml_X7_150 : Cond.methodLink RX7 150 yX7_choicesOfSwitch ∈ lw_T := T_w 510 (by decide +kernel) (by rfl)
set_option maxRecDepth 20000 in
theorem ml_L_45 : Cond.methodLink RL 45 yX7_sticks ∈ lw_T := T_w 513 (by decide +kernel) (by rfl)
set_option maxRecDepth 20000 in
theorem ml_L_49 : Cond.methodLink RL 49 yX7_undo ∈ lw_T := T_w 517 (by decide +kernel) (by rfl)
set_option maxRecDepth 20000 in
theorem ml_X7_153 : Cond.methodLink RX7 153 yX0_takeBack ∈ lw_T := T_w 521 (by decide +kernel) (by rfl)
set_option maxRecDepth 20000 in
theorem ml_L_53 : Cond.methodLink RL 53 yX7_path ∈ lw_T := T_w 525 (by decide +kernel) (by rfl)
set_option maxRecDepth 20000 in
theorem ml_L_57 : Cond.methodLink RL 57 yX7_shortest ∈ lw_T := T_w 529 (by decide +kernel) (by rfl)
set_option maxRecDepth 20000 in
theorem ml_X7_174 : Cond.methodLink RX7 174 yX7_isState ∈ lw_T := T_w 533 (by decide +kernel) (by rfl)
set_option maxRecDepth 20000 in
theorem ml_L_61 : Cond.methodLink RL 61 yX7_parting ∈ lw_T := T_w 536 (by decide +kernel) (by rfl)
set_option maxRecDepth 20000 in
theorem ml_X7_186 : Cond.methodLink RX7 186 yJ6_bitCount_0f7a4 ∈ lw_T := T_w 540 (by decide +kernel) (by rfl)
set_option maxRecDepth 20000 in
theorem co_J6_265 : Cond.constant RJ6 265 (1431655765) ∈ lw_T := T_w 543 (by decide +kernel) (by rfl)
set_option maxRecDepth 20000 in
theorem co_J6_266 : Cond.constant RJ6 266 (858993459) ∈ lw_T := T_w 544 (by decide +kernel) (by rfl)
set_option maxRecDepth 20000 in
theorem co_J6_267 : Cond.constant RJ6 267 (252645135) ∈ lw_T := T_w 545 (by decide +kernel) (by rfl)
set_option maxRecDepth 20000 in
theorem ml_X7_191 : Cond.methodLink RX7 191 yX6_feedsWithout ∈ lw_T := T_w 546 (by decide +kernel) (by rfl)
set_option maxRecDepth 20000 in
theorem ml_X6_92 : Cond.methodLink RX6 92 yX6_spread ∈ lw_T := T_w 550 (by decide +kernel) (by rfl)
set_option maxRecDepth 20000 in
theorem ml_X6_95 : Cond.methodLink RX6 95 yX6_fed ∈ lw_T := T_w 551 (by decide +kernel) (by rfl)
set_option maxRecDepth 20000 in
theorem ml_L_65 : Cond.methodLink RL 65 yX7_enough ∈ lw_T := T_w 552 (by decide +kernel) (by rfl)
set_option maxRecDepth 20000 in
theorem ml_X7_195 : Cond.methodLink RX7 195 yX7_noteMissing ∈ lw_T := T_w 556 (by decide +kernel) (by rfl)
set_option maxRecDepth 20000 in
theorem ml_X7_198 : Cond.methodLink RX7 198 yX7_isEnough ∈ lw_T := T_w 560 (by decide +kernel) (by rfl)
set_option maxRecDepth 20000 in
theorem ml_X7_214 : Cond.methodLink RX7 214 yX6_layOne ∈ lw_T := T_w 564 (by decide +kernel) (by rfl)
set_option maxRecDepth 20000 in
theorem ml_L_69 : Cond.methodLink RL 69 yX7_flash ∈ lw_T := T_w 565 (by decide +kernel) (by rfl)
set_option maxRecDepth 20000 in
theorem ml_X7_201 : Cond.methodLink RX7 201 yX7_hasBit ∈ lw_T := T_w 569 (by decide +kernel) (by rfl)
set_option maxRecDepth 20000 in
theorem ml_L_73 : Cond.methodLink RL 73 yX7_odds ∈ lw_T := T_w 572 (by decide +kernel) (by rfl)
set_option maxRecDepth 20000 in
theorem ml_X7_205 : Cond.methodLink RX7 205 yX7_weight ∈ lw_T := T_w 576 (by decide +kernel) (by rfl)
set_option maxRecDepth 20000 in
theorem ml_X7_209 : Cond.methodLink RX7 209 yX7_commonDivisor ∈ lw_T := T_w 579 (by decide +kernel) (by rfl)
set_option maxRecDepth 20000 in
theorem ml_L_78 : Cond.methodLink RL 78 yX7_sees ∈ lw_T := T_w 582 (by decide +kernel) (by rfl)
set_option maxRecDepth 20000 in
theorem ml_X7_212 : Cond.methodLink RX7 212 yX3_append ∈ lw_T := T_w 586 (by decide +kernel) (by rfl)
set_option maxRecDepth 20000 in
theorem ml_L_82 : Cond.methodLink RL 82 yX7_forget ∈ lw_T := T_w 590 (by decide +kernel) (by rfl)
set_option maxRecDepth 20000 in
theorem ml_L_86 : Cond.methodLink RL 86 yX7_unseen ∈ lw_T := T_w 594 (by decide +kernel) (by rfl)
set_option maxRecDepth 20000 in
theorem ml_X7_221 : Cond.methodLink RX7 221 yX3_agrees ∈ lw_T := T_w 598 (by decide +kernel) (by rfl)
set_option maxRecDepth 20000 in
theorem ml_X3_25 : Cond.methodLink RX3 25 yX6_fed ∈ lw_T := T_w 602 (by decide +kernel) (by rfl)
set_option maxRecDepth 20000 in
theorem ml_L_90 : Cond.methodLink RL 90 yX7_keep ∈ lw_T := T_w 603 (by decide +kernel) (by rfl)
set_option maxRecDepth 20000 in
theorem ml_X7_225 : Cond.methodLink RX7 225 yX7_isImage ∈ lw_T := T_w 607 (by decide +kernel) (by rfl)
set_option maxRecDepth 20000 in
theorem ml_X7_228 : Cond.methodLink RX7 228 yX4_takeFrom ∈ lw_T := T_w 610 (by decide +kernel) (by rfl)
set_option maxRecDepth 20000 in
theorem ml_X4_27 : Cond.methodLink RX4 27 arraycopyName ∈ lw_T := T_w 614 (by decide +kernel) (by rfl)
set_option maxRecDepth 20000 in
theorem ml_L_94 : Cond.methodLink RL 94 yX7_back ∈ lw_T := T_w 615 (by decide +kernel) (by rfl)
set_option maxRecDepth 20000 in
theorem ml_L_98 : Cond.methodLink RL 98 yX7_count ∈ lw_T := T_w 619 (by decide +kernel) (by rfl)
set_option maxRecDepth 20000 in
theorem ml_X7_236 : Cond.methodLink RX7 236 yX7_loadsThatSneak ∈ lw_T := T_w 623 (by decide +kernel) (by rfl)
set_option maxRecDepth 20000 in
theorem ml_X7_239 : Cond.methodLink RX7 239 yX7_loadsThatMiss ∈ lw_T := T_w 627 (by decide +kernel) (by rfl)
set_option maxRecDepth 20000 in
theorem cl_L_10 : Cond.classLink RL 10 RX8 ∈ lw_T := T_w 631 (by decide +kernel) (by rfl)
set_option maxRecDepth 20000 in
theorem is_X8 : Cond.instantiable RX8 24 ∈ lw_T := T_w 632 (by decide +kernel) (by rfl)
set_option maxRecDepth 20000 in
theorem ml_L_12 : Cond.methodLink RL 12 yX8_init ∈ lw_T := T_w 633 (by decide +kernel) (by rfl)
set_option maxRecDepth 20000 in
theorem ml_X8_1 : Cond.methodLink RX8 1 objectInit ∈ lw_T := T_w 636 (by decide +kernel) (by rfl)
set_option maxRecDepth 20000 in
theorem ml_X8_53 : Cond.methodLink RX8 53 yX8_begins ∈ lw_T := T_w 637 (by decide +kernel) (by rfl)
set_option maxRecDepth 20000 in
theorem ml_X8_56 : Cond.methodLink RX8 56 yX8_settles ∈ lw_T := T_w 641 (by decide +kernel) (by rfl)
set_option maxRecDepth 20000 in
theorem ml_X8_121 : Cond.methodLink RX8 121 yX8_fedIn ∈ lw_T := T_w 645 (by decide +kernel) (by rfl)
set_option maxRecDepth 20000 in
theorem ml_X8_144 : Cond.methodLink RX8 144 yX8_isFed ∈ lw_T := T_w 649 (by decide +kernel) (by rfl)
set_option maxRecDepth 20000 in
theorem ml_X8_140 : Cond.methodLink RX8 140 yX8_live ∈ lw_T := T_w 653 (by decide +kernel) (by rfl)
set_option maxRecDepth 20000 in
theorem ml_X8_130 : Cond.methodLink RX8 130 yX8_has ∈ lw_T := T_w 657 (by decide +kernel) (by rfl)
set_option maxRecDepth 20000 in
theorem ml_X8_133 : Cond.methodLink RX8 133 yX8_isShut ∈ lw_T := T_w 660 (by decide +kernel) (by rfl)
set_option maxRecDepth 20000 in
theorem ml_X8_136 : Cond.methodLink RX8 136 yX8_isWay ∈ lw_T := T_w 664 (by decide +kernel) (by rfl)
set_option maxRecDepth 20000 in
theorem fl_X8_59 : Cond.fieldLink RX8 59 "SneakPathsModel" "thrown" "I" ∈ lw_T := T_w 668 (by decide +kernel) (by rfl)
set_option maxRecDepth 20000 in
theorem fl_X8_7 : Cond.fieldLink RX8 7 "SneakPathsModel" "text" "[I" ∈ lw_T := T_w 669 (by decide +kernel) (by rfl)
set_option maxRecDepth 20000 in
theorem fl_X8_67 : Cond.fieldLink RX8 67 "SneakPathsModel" "typed" "I" ∈ lw_T := T_w 670 (by decide +kernel) (by rfl)
set_option maxRecDepth 20000 in
theorem fl_X8_70 : Cond.fieldLink RX8 70 "SneakPathsModel" "spot" "I" ∈ lw_T := T_w 671 (by decide +kernel) (by rfl)
set_option maxRecDepth 20000 in
theorem fl_X8_80 : Cond.fieldLink RX8 80 "SneakPathsModel" "token" "I" ∈ lw_T := T_w 672 (by decide +kernel) (by rfl)
set_option maxRecDepth 20000 in
theorem fl_X8_77 : Cond.fieldLink RX8 77 "SneakPathsModel" "place" "I" ∈ lw_T := T_w 673 (by decide +kernel) (by rfl)
set_option maxRecDepth 20000 in
theorem fl_X8_83 : Cond.fieldLink RX8 83 "SneakPathsModel" "value" "I" ∈ lw_T := T_w 674 (by decide +kernel) (by rfl)
set_option maxRecDepth 20000 in
theorem fl_X8_90 : Cond.fieldLink RX8 90 "SneakPathsModel" "fault" "I" ∈ lw_T := T_w 675 (by decide +kernel) (by rfl)
set_option maxRecDepth 20000 in
theorem fl_X8_13 : Cond.fieldLink RX8 13 "SneakPathsModel" "told" "[I" ∈ lw_T := T_w 676 (by decide +kernel) (by rfl)
set_option maxRecDepth 20000 in
theorem fl_X8_16 : Cond.fieldLink RX8 16 "SneakPathsModel" "draft" "[I" ∈ lw_T := T_w 677 (by decide +kernel) (by rfl)
set_option maxRecDepth 20000 in
theorem fl_X8_19 : Cond.fieldLink RX8 19 "SneakPathsModel" "s" "[I" ∈ lw_T := T_w 678 (by decide +kernel) (by rfl)
set_option maxRecDepth 20000 in
theorem fl_X8_22 : Cond.fieldLink RX8 22 "SneakPathsModel" "undos" "[I" ∈ lw_T := T_w 679 (by decide +kernel) (by rfl)
set_option maxRecDepth 20000 in
theorem fl_X8_127 : Cond.fieldLink RX8 127 "SneakPathsModel" "undoMany" "I" ∈ lw_T := T_w 680 (by decide +kernel) (by rfl)
set_option maxRecDepth 20000 in
theorem fl_X8_25 : Cond.fieldLink RX8 25 "SneakPathsModel" "kept" "[I" ∈ lw_T := T_w 681 (by decide +kernel) (by rfl)
set_option maxRecDepth 20000 in
theorem fl_X8_28 : Cond.fieldLink RX8 28 "SneakPathsModel" "isKept" "[Z" ∈ lw_T := T_w 682 (by decide +kernel) (by rfl)
set_option maxRecDepth 20000 in
theorem fl_X8_32 : Cond.fieldLink RX8 32 "SneakPathsModel" "seenLoad" "[I" ∈ lw_T := T_w 683 (by decide +kernel) (by rfl)
set_option maxRecDepth 20000 in
theorem fl_X8_35 : Cond.fieldLink RX8 35 "SneakPathsModel" "seenState" "[I" ∈ lw_T := T_w 684 (by decide +kernel) (by rfl)
set_option maxRecDepth 20000 in
theorem fl_X8_38 : Cond.fieldLink RX8 38 "SneakPathsModel" "seenFed" "[I" ∈ lw_T := T_w 685 (by decide +kernel) (by rfl)
set_option maxRecDepth 20000 in
theorem fl_X8_124 : Cond.fieldLink RX8 124 "SneakPathsModel" "seenMany" "I" ∈ lw_T := T_w 686 (by decide +kernel) (by rfl)
set_option maxRecDepth 20000 in
theorem fl_X8_41 : Cond.fieldLink RX8 41 "SneakPathsModel" "step" "[I" ∈ lw_T := T_w 687 (by decide +kernel) (by rfl)
set_option maxRecDepth 20000 in
theorem fl_X8_44 : Cond.fieldLink RX8 44 "SneakPathsModel" "where" "[I" ∈ lw_T := T_w 688 (by decide +kernel) (by rfl)
set_option maxRecDepth 20000 in
theorem fl_X8_160 : Cond.fieldLink RX8 160 "SneakPathsModel" "steps" "I" ∈ lw_T := T_w 689 (by decide +kernel) (by rfl)
set_option maxRecDepth 20000 in
theorem fl_X8_47 : Cond.fieldLink RX8 47 "SneakPathsModel" "best" "[I" ∈ lw_T := T_w 690 (by decide +kernel) (by rfl)
set_option maxRecDepth 20000 in
theorem fl_X8_50 : Cond.fieldLink RX8 50 "SneakPathsModel" "missing" "[I" ∈ lw_T := T_w 691 (by decide +kernel) (by rfl)
set_option maxRecDepth 20000 in
theorem ml_L_17 : Cond.methodLink RL 17 yX8_type ∈ lw_T := T_w 741 (by decide +kernel) (by rfl)
set_option maxRecDepth 20000 in
theorem ml_X8_63 : Cond.methodLink RX8 63 yX8_in ∈ lw_T := T_w 745 (by decide +kernel) (by rfl)
set_option maxRecDepth 20000 in
theorem ml_L_22 : Cond.methodLink RL 22 yX8_clear ∈ lw_T := T_w 748 (by decide +kernel) (by rfl)
set_option maxRecDepth 20000 in
theorem ml_L_26 : Cond.methodLink RL 26 yX8_net ∈ lw_T := T_w 752 (by decide +kernel) (by rfl)
set_option maxRecDepth 20000 in
theorem ml_X8_97 : Cond.methodLink RX8 97 yX8_advances ∈ lw_T := T_w 756 (by decide +kernel) (by rfl)
set_option maxRecDepth 20000 in
theorem ml_X8_73 : Cond.methodLink RX8 73 yX8_letterAt ∈ lw_T := T_w 760 (by decide +kernel) (by rfl)
set_option maxRecDepth 20000 in
theorem ml_X8_86 : Cond.methodLink RX8 86 yX8_isLetter ∈ lw_T := T_w 764 (by decide +kernel) (by rfl)
set_option maxRecDepth 20000 in
theorem ml_X8_93 : Cond.methodLink RX8 93 yX8_isWell ∈ lw_T := T_w 767 (by decide +kernel) (by rfl)
set_option maxRecDepth 20000 in
theorem ml_X8_115 : Cond.methodLink RX8 115 yX8_mayBegin ∈ lw_T := T_w 771 (by decide +kernel) (by rfl)
set_option maxRecDepth 20000 in
theorem ml_X8_104 : Cond.methodLink RX8 104 yX8_takes ∈ lw_T := T_w 775 (by decide +kernel) (by rfl)
set_option maxRecDepth 20000 in
theorem ml_X8_118 : Cond.methodLink RX8 118 yX8_readsItem ∈ lw_T := T_w 779 (by decide +kernel) (by rfl)
set_option maxRecDepth 20000 in
theorem ml_X8_100 : Cond.methodLink RX8 100 yX8_isNumber ∈ lw_T := T_w 783 (by decide +kernel) (by rfl)
set_option maxRecDepth 20000 in
theorem ml_X8_108 : Cond.methodLink RX8 108 yX8_isFreeNode ∈ lw_T := T_w 787 (by decide +kernel) (by rfl)
set_option maxRecDepth 20000 in
theorem ml_X8_111 : Cond.methodLink RX8 111 yX8_readsContact ∈ lw_T := T_w 791 (by decide +kernel) (by rfl)
set_option maxRecDepth 20000 in
theorem ml_L_31 : Cond.methodLink RL 31 yX8_contact ∈ lw_T := T_w 795 (by decide +kernel) (by rfl)
set_option maxRecDepth 20000 in
theorem ml_X8_147 : Cond.methodLink RX8 147 yX8_isContact ∈ lw_T := T_w 799 (by decide +kernel) (by rfl)
set_option maxRecDepth 20000 in
theorem ml_L_35 : Cond.methodLink RL 35 yX8_load ∈ lw_T := T_w 803 (by decide +kernel) (by rfl)
set_option maxRecDepth 20000 in
theorem ml_X8_150 : Cond.methodLink RX8 150 yX8_isLoad ∈ lw_T := T_w 807 (by decide +kernel) (by rfl)
set_option maxRecDepth 20000 in
theorem ml_X8_153 : Cond.methodLink RX8 153 yX8_pathMany ∈ lw_T := T_w 811 (by decide +kernel) (by rfl)
set_option maxRecDepth 20000 in
theorem ml_X8_169 : Cond.methodLink RX8 169 yX8_beginsPath ∈ lw_T := T_w 815 (by decide +kernel) (by rfl)
set_option maxRecDepth 20000 in
theorem ml_X8_172 : Cond.methodLink RX8 172 yX8_nextPath ∈ lw_T := T_w 819 (by decide +kernel) (by rfl)
set_option maxRecDepth 20000 in
theorem ml_X8_163 : Cond.methodLink RX8 163 yX8_toBy ∈ lw_T := T_w 823 (by decide +kernel) (by rfl)
set_option maxRecDepth 20000 in
theorem ml_X8_166 : Cond.methodLink RX8 166 yX8_isOnPath ∈ lw_T := T_w 827 (by decide +kernel) (by rfl)
set_option maxRecDepth 20000 in
theorem ml_L_39 : Cond.methodLink RL 39 yX8_wishes ∈ lw_T := T_w 831 (by decide +kernel) (by rfl)
set_option maxRecDepth 20000 in
theorem co_X8_156 : Cond.constant RX8 156 (65535) ∈ lw_T := T_w 835 (by decide +kernel) (by rfl)
set_option maxRecDepth 20000 in
theorem ml_X8_157 : Cond.methodLink RX8 157 yX8_notes ∈ lw_T := T_w 836 (by decide +kernel) (by rfl)
set_option maxRecDepth 20000 in
theorem ml_L_44 : Cond.methodLink RL 44 yX8_cures ∈ lw_T := T_w 840 (by decide +kernel) (by rfl)
set_option maxRecDepth 20000 in
theorem ml_L_48 : Cond.methodLink RL 48 yX8_sticks ∈ lw_T := T_w 844 (by decide +kernel) (by rfl)
set_option maxRecDepth 20000 in
theorem ml_L_52 : Cond.methodLink RL 52 yX8_undo ∈ lw_T := T_w 848 (by decide +kernel) (by rfl)
set_option maxRecDepth 20000 in
theorem ml_L_56 : Cond.methodLink RL 56 yX8_path ∈ lw_T := T_w 852 (by decide +kernel) (by rfl)
set_option maxRecDepth 20000 in
theorem ml_X8_175 : Cond.methodLink RX8 175 yX8_shutIn ∈ lw_T := T_w 856 (by decide +kernel) (by rfl)
set_option maxRecDepth 20000 in
theorem ml_L_60 : Cond.methodLink RL 60 yX8_shortest ∈ lw_T := T_w 860 (by decide +kernel) (by rfl)
set_option maxRecDepth 20000 in
theorem ml_X8_179 : Cond.methodLink RX8 179 yX8_isState ∈ lw_T := T_w 864 (by decide +kernel) (by rfl)
set_option maxRecDepth 20000 in
theorem ml_L_64 : Cond.methodLink RL 64 yX8_parting ∈ lw_T := T_w 867 (by decide +kernel) (by rfl)
set_option maxRecDepth 20000 in
theorem ml_X8_182 : Cond.methodLink RX8 182 yX8_ones ∈ lw_T := T_w 871 (by decide +kernel) (by rfl)
set_option maxRecDepth 20000 in
theorem ml_L_68 : Cond.methodLink RL 68 yX8_enough ∈ lw_T := T_w 874 (by decide +kernel) (by rfl)
set_option maxRecDepth 20000 in
theorem ml_X8_185 : Cond.methodLink RX8 185 yX8_isEnough ∈ lw_T := T_w 878 (by decide +kernel) (by rfl)
set_option maxRecDepth 20000 in
theorem ml_L_72 : Cond.methodLink RL 72 yX8_flash ∈ lw_T := T_w 882 (by decide +kernel) (by rfl)
set_option maxRecDepth 20000 in
theorem ml_L_77 : Cond.methodLink RL 77 yX8_odds ∈ lw_T := T_w 886 (by decide +kernel) (by rfl)
set_option maxRecDepth 20000 in
theorem co_X8_189 : Cond.constantLong RX8 189 (10) ∈ lw_T := T_w 890 (by decide +kernel) (by rfl)
set_option maxRecDepth 20000 in
theorem ml_X8_191 : Cond.methodLink RX8 191 yX8_gcd ∈ lw_T := T_w 891 (by decide +kernel) (by rfl)
set_option maxRecDepth 20000 in
theorem ml_L_81 : Cond.methodLink RL 81 yX8_sees ∈ lw_T := T_w 894 (by decide +kernel) (by rfl)
set_option maxRecDepth 20000 in
theorem ml_L_85 : Cond.methodLink RL 85 yX8_forget ∈ lw_T := T_w 898 (by decide +kernel) (by rfl)
set_option maxRecDepth 20000 in
theorem ml_L_89 : Cond.methodLink RL 89 yX8_unseen ∈ lw_T := T_w 902 (by decide +kernel) (by rfl)
set_option maxRecDepth 20000 in
theorem ml_L_93 : Cond.methodLink RL 93 yX8_keep ∈ lw_T := T_w 906 (by decide +kernel) (by rfl)
set_option maxRecDepth 20000 in
theorem ml_L_97 : Cond.methodLink RL 97 yX8_back ∈ lw_T := T_w 910 (by decide +kernel) (by rfl)
set_option maxRecDepth 20000 in
theorem ml_L_101 : Cond.methodLink RL 101 yX8_count ∈ lw_T := T_w 914 (by decide +kernel) (by rfl)
set_option maxRecDepth 20000 in
theorem Y_X7_init : Yn yX7_init cX7_init 1 0 := ⟨T_w 64 (by rfl) (by rfl), T_w 63 (by decide +kernel) (by rfl), T_w 49 (by decide +kernel) (by rfl), rfl, ⟨by decide +kernel, by decide +kernel, by decide +kernel⟩⟩
set_option maxRecDepth 20000 in
theorem Y_X2_init : Yn yX2_init cX2_init 1 0 := ⟨T_w 72 (by rfl) (by rfl), T_w 71 (by decide +kernel) (by rfl), T_w 50 (by decide +kernel) (by rfl), rfl, ⟨by decide +kernel, by decide +kernel, by decide +kernel⟩⟩
set_option maxRecDepth 20000 in
theorem Y_X1_init : Yn yX1_init cX1_init 1 0 := ⟨T_w 78 (by rfl) (by rfl), T_w 77 (by decide +kernel) (by rfl), T_w 51 (by decide +kernel) (by rfl), rfl, ⟨by decide +kernel, by decide +kernel, by decide +kernel⟩⟩
set_option maxRecDepth 20000 in
theorem Y_X4_init : Yn yX4_init cX4_init 1 0 := ⟨T_w 153 (by rfl) (by rfl), T_w 152 (by decide +kernel) (by rfl), T_w 52 (by decide +kernel) (by rfl), rfl, ⟨by decide +kernel, by decide +kernel, by decide +kernel⟩⟩
set_option maxRecDepth 20000 in
theorem Y_X4_reset : Yv yX4_reset cX4_reset 2 (none) 0 := ⟨T_w 158 (by rfl) (by rfl), T_w 156 (by decide +kernel) (by rfl), T_w 157 (by decide +kernel) (by rfl), T_w 52 (by decide +kernel) (by rfl), ⟨by decide +kernel, by decide +kernel, by decide +kernel⟩⟩
set_option maxRecDepth 20000 in
theorem Y_X0_init : Yn yX0_init cX0_init 1 0 := ⟨T_w 187 (by rfl) (by rfl), T_w 186 (by decide +kernel) (by rfl), T_w 53 (by decide +kernel) (by rfl), rfl, ⟨by decide +kernel, by decide +kernel, by decide +kernel⟩⟩
set_option maxRecDepth 20000 in
theorem Y_X3_init : Yn yX3_init cX3_init 1 0 := ⟨T_w 210 (by rfl) (by rfl), T_w 209 (by decide +kernel) (by rfl), T_w 54 (by decide +kernel) (by rfl), rfl, ⟨by decide +kernel, by decide +kernel, by decide +kernel⟩⟩
set_option maxRecDepth 20000 in
theorem Y_X6_init : Yn yX6_init cX6_init 3 2 := ⟨T_w 230 (by rfl) (by rfl), T_w 229 (by decide +kernel) (by rfl), T_w 55 (by decide +kernel) (by rfl), rfl, ⟨by decide +kernel, by decide +kernel, by decide +kernel⟩⟩
set_option maxRecDepth 20000 in
theorem Y_X5_init : Yn yX5_init cX5_init 3 2 := ⟨T_w 260 (by rfl) (by rfl), T_w 259 (by decide +kernel) (by rfl), T_w 56 (by decide +kernel) (by rfl), rfl, ⟨by decide +kernel, by decide +kernel, by decide +kernel⟩⟩
set_option maxRecDepth 20000 in
theorem Y_X7_type : Yv yX7_type cX7_type 2 (some .int) 1 := ⟨T_w 340 (by rfl) (by rfl), T_w 338 (by decide +kernel) (by rfl), T_w 339 (by decide +kernel) (by rfl), T_w 49 (by decide +kernel) (by rfl), ⟨by decide +kernel, by decide +kernel, by decide +kernel⟩⟩
set_option maxRecDepth 20000 in
theorem Y_X2_append : Yv yX2_append cX2_append 2 (some .boolean) 1 := ⟨T_w 344 (by rfl) (by rfl), T_w 342 (by decide +kernel) (by rfl), T_w 343 (by decide +kernel) (by rfl), T_w 50 (by decide +kernel) (by rfl), ⟨by decide +kernel, by decide +kernel, by decide +kernel⟩⟩
set_option maxRecDepth 20000 in
theorem Y_X7_clear : Yv yX7_clear cX7_clear 2 (some .int) 0 := ⟨T_w 348 (by rfl) (by rfl), T_w 346 (by decide +kernel) (by rfl), T_w 347 (by decide +kernel) (by rfl), T_w 49 (by decide +kernel) (by rfl), ⟨by decide +kernel, by decide +kernel, by decide +kernel⟩⟩
set_option maxRecDepth 20000 in
theorem Y_X7_net : Yv yX7_net cX7_net 3 (some .int) 0 := ⟨T_w 352 (by rfl) (by rfl), T_w 350 (by decide +kernel) (by rfl), T_w 351 (by decide +kernel) (by rfl), T_w 49 (by decide +kernel) (by rfl), ⟨by decide +kernel, by decide +kernel, by decide +kernel⟩⟩
set_option maxRecDepth 20000 in
theorem Y_X2_read : Yv yX2_read cX2_read 2 (some .int) 0 := ⟨T_w 356 (by rfl) (by rfl), T_w 354 (by decide +kernel) (by rfl), T_w 355 (by decide +kernel) (by rfl), T_w 50 (by decide +kernel) (by rfl), ⟨by decide +kernel, by decide +kernel, by decide +kernel⟩⟩
set_option maxRecDepth 20000 in
theorem Y_X1_reset : Yv yX1_reset cX1_reset 1 (none) 0 := ⟨T_w 360 (by rfl) (by rfl), T_w 358 (by decide +kernel) (by rfl), T_w 359 (by decide +kernel) (by rfl), T_w 51 (by decide +kernel) (by rfl), ⟨by decide +kernel, by decide +kernel, by decide +kernel⟩⟩
set_option maxRecDepth 20000 in
theorem Y_X2_nextToken : Yv yX2_nextToken cX2_nextToken 2 (none) 0 := ⟨T_w 364 (by rfl) (by rfl), T_w 363 (by decide +kernel) (by rfl), T_w 0 (by decide +kernel) (by rfl), T_w 50 (by decide +kernel) (by rfl), ⟨by decide +kernel, by decide +kernel, by decide +kernel⟩⟩
set_option maxRecDepth 20000 in
theorem Y_X2_letterAt : Yv yX2_letterAt cX2_letterAt 2 (some .int) 1 := ⟨T_w 368 (by rfl) (by rfl), T_w 367 (by decide +kernel) (by rfl), T_w 1 (by decide +kernel) (by rfl), T_w 50 (by decide +kernel) (by rfl), ⟨by decide +kernel, by decide +kernel, by decide +kernel⟩⟩
set_option maxRecDepth 20000 in
theorem Y_X2_isDigit : Ys yX2_isDigit cX2_isDigit 1 (some .boolean) 1 := ⟨T_w 371 (by rfl) (by rfl), T_w 370 (by decide +kernel) (by rfl), T_w 50 (by decide +kernel) (by rfl), ⟨by decide +kernel, by decide +kernel, by decide +kernel⟩⟩
set_option maxRecDepth 20000 in
theorem Y_X2_readItem : Yv yX2_readItem cX2_readItem 2 (some .boolean) 1 := ⟨T_w 375 (by rfl) (by rfl), T_w 374 (by decide +kernel) (by rfl), T_w 2 (by decide +kernel) (by rfl), T_w 50 (by decide +kernel) (by rfl), ⟨by decide +kernel, by decide +kernel, by decide +kernel⟩⟩
set_option maxRecDepth 20000 in
theorem Y_X2_readNodes : Yv yX2_readNodes cX2_readNodes 2 (some .boolean) 0 := ⟨T_w 379 (by rfl) (by rfl), T_w 378 (by decide +kernel) (by rfl), T_w 3 (by decide +kernel) (by rfl), T_w 50 (by decide +kernel) (by rfl), ⟨by decide +kernel, by decide +kernel, by decide +kernel⟩⟩
set_option maxRecDepth 20000 in
theorem Y_X2_readNumber : Yv yX2_readNumber cX2_readNumber 4 (some .int) 2 := ⟨T_w 383 (by rfl) (by rfl), T_w 382 (by decide +kernel) (by rfl), T_w 4 (by decide +kernel) (by rfl), T_w 50 (by decide +kernel) (by rfl), ⟨by decide +kernel, by decide +kernel, by decide +kernel⟩⟩
set_option maxRecDepth 20000 in
theorem Y_X2_readSemicolon : Yv yX2_readSemicolon cX2_readSemicolon 1 (some .boolean) 0 := ⟨T_w 387 (by rfl) (by rfl), T_w 386 (by decide +kernel) (by rfl), T_w 5 (by decide +kernel) (by rfl), T_w 50 (by decide +kernel) (by rfl), ⟨by decide +kernel, by decide +kernel, by decide +kernel⟩⟩
set_option maxRecDepth 20000 in
theorem Y_X2_readContact : Yv yX2_readContact cX2_readContact 5 (some .boolean) 1 := ⟨T_w 391 (by rfl) (by rfl), T_w 390 (by decide +kernel) (by rfl), T_w 6 (by decide +kernel) (by rfl), T_w 50 (by decide +kernel) (by rfl), ⟨by decide +kernel, by decide +kernel, by decide +kernel⟩⟩
set_option maxRecDepth 20000 in
theorem Y_X1_addContact : Yv yX1_addContact cX1_addContact 5 (none) 4 := ⟨T_w 395 (by rfl) (by rfl), T_w 393 (by decide +kernel) (by rfl), T_w 394 (by decide +kernel) (by rfl), T_w 51 (by decide +kernel) (by rfl), ⟨by decide +kernel, by decide +kernel, by decide +kernel⟩⟩
set_option maxRecDepth 20000 in
theorem Y_X2_readLoad : Yv yX2_readLoad cX2_readLoad 2 (some .boolean) 0 := ⟨T_w 399 (by rfl) (by rfl), T_w 398 (by decide +kernel) (by rfl), T_w 7 (by decide +kernel) (by rfl), T_w 50 (by decide +kernel) (by rfl), ⟨by decide +kernel, by decide +kernel, by decide +kernel⟩⟩
set_option maxRecDepth 20000 in
theorem Y_X1_hasLoadAt : Yv yX1_hasLoadAt cX1_hasLoadAt 3 (some .boolean) 1 := ⟨T_w 403 (by rfl) (by rfl), T_w 401 (by decide +kernel) (by rfl), T_w 402 (by decide +kernel) (by rfl), T_w 51 (by decide +kernel) (by rfl), ⟨by decide +kernel, by decide +kernel, by decide +kernel⟩⟩
set_option maxRecDepth 20000 in
theorem Y_X1_addLoad : Yv yX1_addLoad cX1_addLoad 2 (none) 1 := ⟨T_w 407 (by rfl) (by rfl), T_w 405 (by decide +kernel) (by rfl), T_w 406 (by decide +kernel) (by rfl), T_w 51 (by decide +kernel) (by rfl), ⟨by decide +kernel, by decide +kernel, by decide +kernel⟩⟩
set_option maxRecDepth 20000 in
theorem Y_X1_takeFrom : Yv yX1_takeFrom cX1_takeFrom 2 (none) 1 := ⟨T_w 411 (by rfl) (by rfl), T_w 409 (by decide +kernel) (by rfl), T_w 410 (by decide +kernel) (by rfl), T_w 51 (by decide +kernel) (by rfl), ⟨by decide +kernel, by decide +kernel, by decide +kernel⟩⟩
set_option maxRecDepth 20000 in
theorem Y_X7_wishWhatIsFed : Yv yX7_wishWhatIsFed cX7_wishWhatIsFed 2 (none) 0 := ⟨T_w 419 (by rfl) (by rfl), T_w 418 (by decide +kernel) (by rfl), T_w 8 (by decide +kernel) (by rfl), T_w 49 (by decide +kernel) (by rfl), ⟨by decide +kernel, by decide +kernel, by decide +kernel⟩⟩
set_option maxRecDepth 20000 in
theorem Y_X6_layAll : Yv yX6_layAll cX6_layAll 2 (none) 0 := ⟨T_w 423 (by rfl) (by rfl), T_w 421 (by decide +kernel) (by rfl), T_w 422 (by decide +kernel) (by rfl), T_w 55 (by decide +kernel) (by rfl), ⟨by decide +kernel, by decide +kernel, by decide +kernel⟩⟩
set_option maxRecDepth 20000 in
theorem Y_X6_layOne : Yv yX6_layOne cX6_layOne 6 (none) 4 := ⟨T_w 427 (by rfl) (by rfl), T_w 425 (by decide +kernel) (by rfl), T_w 426 (by decide +kernel) (by rfl), T_w 55 (by decide +kernel) (by rfl), ⟨by decide +kernel, by decide +kernel, by decide +kernel⟩⟩
set_option maxRecDepth 20000 in
theorem Y_X6_shutBy : Ys yX6_shutBy cX6_shutBy 3 (some .int) 2 := ⟨T_w 431 (by rfl) (by rfl), T_w 430 (by decide +kernel) (by rfl), T_w 55 (by decide +kernel) (by rfl), ⟨by decide +kernel, by decide +kernel, by decide +kernel⟩⟩
set_option maxRecDepth 20000 in
theorem Y_X6_spread : Yv yX6_spread cX6_spread 4 (none) 1 := ⟨T_w 437 (by rfl) (by rfl), T_w 435 (by decide +kernel) (by rfl), T_w 436 (by decide +kernel) (by rfl), T_w 55 (by decide +kernel) (by rfl), ⟨by decide +kernel, by decide +kernel, by decide +kernel⟩⟩
set_option maxRecDepth 20000 in
theorem Y_X6_spreadOver : Yv yX6_spreadOver cX6_spreadOver 4 (none) 1 := ⟨T_w 441 (by rfl) (by rfl), T_w 440 (by decide +kernel) (by rfl), T_w 9 (by decide +kernel) (by rfl), T_w 55 (by decide +kernel) (by rfl), ⟨by decide +kernel, by decide +kernel, by decide +kernel⟩⟩
set_option maxRecDepth 20000 in
theorem Y_X6_flow : Yv yX6_flow cX6_flow 5 (none) 3 := ⟨T_w 445 (by rfl) (by rfl), T_w 444 (by decide +kernel) (by rfl), T_w 10 (by decide +kernel) (by rfl), T_w 55 (by decide +kernel) (by rfl), ⟨by decide +kernel, by decide +kernel, by decide +kernel⟩⟩
set_option maxRecDepth 20000 in
theorem Y_X6_fed : Yv yX6_fed cX6_fed 2 (some .int) 1 := ⟨T_w 449 (by rfl) (by rfl), T_w 447 (by decide +kernel) (by rfl), T_w 448 (by decide +kernel) (by rfl), T_w 55 (by decide +kernel) (by rfl), ⟨by decide +kernel, by decide +kernel, by decide +kernel⟩⟩
set_option maxRecDepth 20000 in
theorem Y_X7_contact : Yv yX7_contact cX7_contact 3 (some .int) 2 := ⟨T_w 453 (by rfl) (by rfl), T_w 451 (by decide +kernel) (by rfl), T_w 452 (by decide +kernel) (by rfl), T_w 49 (by decide +kernel) (by rfl), ⟨by decide +kernel, by decide +kernel, by decide +kernel⟩⟩
set_option maxRecDepth 20000 in
theorem Y_X7_isContact : Yv yX7_isContact cX7_isContact 2 (some .boolean) 1 := ⟨T_w 457 (by rfl) (by rfl), T_w 456 (by decide +kernel) (by rfl), T_w 11 (by decide +kernel) (by rfl), T_w 49 (by decide +kernel) (by rfl), ⟨by decide +kernel, by decide +kernel, by decide +kernel⟩⟩
set_option maxRecDepth 20000 in
theorem Y_X7_load : Yv yX7_load cX7_load 3 (some .int) 2 := ⟨T_w 461 (by rfl) (by rfl), T_w 459 (by decide +kernel) (by rfl), T_w 460 (by decide +kernel) (by rfl), T_w 49 (by decide +kernel) (by rfl), ⟨by decide +kernel, by decide +kernel, by decide +kernel⟩⟩
set_option maxRecDepth 20000 in
theorem Y_X7_isLoad : Yv yX7_isLoad cX7_isLoad 2 (some .boolean) 1 := ⟨T_w 465 (by rfl) (by rfl), T_w 464 (by decide +kernel) (by rfl), T_w 12 (by decide +kernel) (by rfl), T_w 49 (by decide +kernel) (by rfl), ⟨by decide +kernel, by decide +kernel, by decide +kernel⟩⟩
set_option maxRecDepth 20000 in
theorem Y_X7_fedNow : Yv yX7_fedNow cX7_fedNow 2 (some .int) 1 := ⟨T_w 469 (by rfl) (by rfl), T_w 468 (by decide +kernel) (by rfl), T_w 13 (by decide +kernel) (by rfl), T_w 49 (by decide +kernel) (by rfl), ⟨by decide +kernel, by decide +kernel, by decide +kernel⟩⟩
set_option maxRecDepth 20000 in
theorem Y_X7_howManyPaths : Yv yX7_howManyPaths cX7_howManyPaths 2 (some .int) 1 := ⟨T_w 473 (by rfl) (by rfl), T_w 472 (by decide +kernel) (by rfl), T_w 14 (by decide +kernel) (by rfl), T_w 49 (by decide +kernel) (by rfl), ⟨by decide +kernel, by decide +kernel, by decide +kernel⟩⟩
set_option maxRecDepth 20000 in
theorem Y_X5_run : Yv yX5_run cX5_run 4 (none) 3 := ⟨T_w 477 (by rfl) (by rfl), T_w 475 (by decide +kernel) (by rfl), T_w 476 (by decide +kernel) (by rfl), T_w 56 (by decide +kernel) (by rfl), ⟨by decide +kernel, by decide +kernel, by decide +kernel⟩⟩
set_option maxRecDepth 20000 in
theorem Y_X5_goOn : Yv yX5_goOn cX5_goOn 8 (none) 5 := ⟨T_w 482 (by rfl) (by rfl), T_w 481 (by decide +kernel) (by rfl), T_w 15 (by decide +kernel) (by rfl), T_w 56 (by decide +kernel) (by rfl), ⟨by decide +kernel, by decide +kernel, by decide +kernel⟩⟩
set_option maxRecDepth 20000 in
theorem Y_X5_arrive : Yv yX5_arrive cX5_arrive 4 (none) 3 := ⟨T_w 486 (by rfl) (by rfl), T_w 485 (by decide +kernel) (by rfl), T_w 16 (by decide +kernel) (by rfl), T_w 56 (by decide +kernel) (by rfl), ⟨by decide +kernel, by decide +kernel, by decide +kernel⟩⟩
set_option maxRecDepth 20000 in
theorem Y_X6_nodeBehind : Yv yX6_nodeBehind cX6_nodeBehind 3 (some .int) 2 := ⟨T_w 491 (by rfl) (by rfl), T_w 489 (by decide +kernel) (by rfl), T_w 490 (by decide +kernel) (by rfl), T_w 55 (by decide +kernel) (by rfl), ⟨by decide +kernel, by decide +kernel, by decide +kernel⟩⟩
set_option maxRecDepth 20000 in
theorem Y_X7_wishes : Yv yX7_wishes cX7_wishes 4 (some .int) 2 := ⟨T_w 495 (by rfl) (by rfl), T_w 493 (by decide +kernel) (by rfl), T_w 494 (by decide +kernel) (by rfl), T_w 49 (by decide +kernel) (by rfl), ⟨by decide +kernel, by decide +kernel, by decide +kernel⟩⟩
set_option maxRecDepth 20000 in
theorem Y_X0_note : Yv yX0_note cX0_note 5 (none) 4 := ⟨T_w 500 (by rfl) (by rfl), T_w 498 (by decide +kernel) (by rfl), T_w 499 (by decide +kernel) (by rfl), T_w 53 (by decide +kernel) (by rfl), ⟨by decide +kernel, by decide +kernel, by decide +kernel⟩⟩
set_option maxRecDepth 20000 in
theorem Y_X0_dropOldest : Yv yX0_dropOldest cX0_dropOldest 2 (none) 0 := ⟨T_w 504 (by rfl) (by rfl), T_w 503 (by decide +kernel) (by rfl), T_w 17 (by decide +kernel) (by rfl), T_w 53 (by decide +kernel) (by rfl), ⟨by decide +kernel, by decide +kernel, by decide +kernel⟩⟩
set_option maxRecDepth 20000 in
theorem Y_X7_cures : Yv yX7_cures cX7_cures 6 (some .int) 3 := ⟨T_w 509 (by rfl) (by rfl), T_w 507 (by decide +kernel) (by rfl), T_w 508 (by decide +kernel) (by rfl), T_w 49 (by decide +kernel) (by rfl), ⟨by decide +kernel, by decide +kernel, by decide +kernel⟩⟩
set_option maxRecDepth 20000 in
theorem Y_X7_choicesOfSwitch : Ys yX7_choicesOfSwitch cX7_choicesOfSwitch 1 (some .int) 1 := ⟨T_w 512 (by rfl) (by rfl), T_w 511 (by decide +kernel) (by rfl), T_w 49 (by decide +kernel) (by rfl), ⟨by decide +kernel, by decide +kernel, by decide +kernel⟩⟩
set_option maxRecDepth 20000 in
theorem Y_X7_sticks : Yv yX7_sticks cX7_sticks 4 (some .int) 2 := ⟨T_w 516 (by rfl) (by rfl), T_w 514 (by decide +kernel) (by rfl), T_w 515 (by decide +kernel) (by rfl), T_w 49 (by decide +kernel) (by rfl), ⟨by decide +kernel, by decide +kernel, by decide +kernel⟩⟩
set_option maxRecDepth 20000 in
theorem Y_X7_undo : Yv yX7_undo cX7_undo 1 (some .int) 0 := ⟨T_w 520 (by rfl) (by rfl), T_w 518 (by decide +kernel) (by rfl), T_w 519 (by decide +kernel) (by rfl), T_w 49 (by decide +kernel) (by rfl), ⟨by decide +kernel, by decide +kernel, by decide +kernel⟩⟩
set_option maxRecDepth 20000 in
theorem Y_X0_takeBack : Yv yX0_takeBack cX0_takeBack 3 (none) 1 := ⟨T_w 524 (by rfl) (by rfl), T_w 522 (by decide +kernel) (by rfl), T_w 523 (by decide +kernel) (by rfl), T_w 53 (by decide +kernel) (by rfl), ⟨by decide +kernel, by decide +kernel, by decide +kernel⟩⟩
set_option maxRecDepth 20000 in
theorem Y_X7_path : Yv yX7_path cX7_path 4 (some .int) 3 := ⟨T_w 528 (by rfl) (by rfl), T_w 526 (by decide +kernel) (by rfl), T_w 527 (by decide +kernel) (by rfl), T_w 49 (by decide +kernel) (by rfl), ⟨by decide +kernel, by decide +kernel, by decide +kernel⟩⟩
set_option maxRecDepth 20000 in
theorem Y_X7_shortest : Yv yX7_shortest cX7_shortest 4 (some .int) 3 := ⟨T_w 532 (by rfl) (by rfl), T_w 530 (by decide +kernel) (by rfl), T_w 531 (by decide +kernel) (by rfl), T_w 49 (by decide +kernel) (by rfl), ⟨by decide +kernel, by decide +kernel, by decide +kernel⟩⟩
set_option maxRecDepth 20000 in
theorem Y_X7_isState : Ys yX7_isState cX7_isState 1 (some .boolean) 1 := ⟨T_w 535 (by rfl) (by rfl), T_w 534 (by decide +kernel) (by rfl), T_w 49 (by decide +kernel) (by rfl), ⟨by decide +kernel, by decide +kernel, by decide +kernel⟩⟩
set_option maxRecDepth 20000 in
theorem Y_X7_parting : Yv yX7_parting cX7_parting 8 (some .int) 2 := ⟨T_w 539 (by rfl) (by rfl), T_w 537 (by decide +kernel) (by rfl), T_w 538 (by decide +kernel) (by rfl), T_w 49 (by decide +kernel) (by rfl), ⟨by decide +kernel, by decide +kernel, by decide +kernel⟩⟩
set_option maxRecDepth 20000 in
theorem Y_J6_bitCount_0f7a4 : Ys yJ6_bitCount_0f7a4 cJ6_bitCount_0f7a4 1 (some .int) 1 := ⟨T_w 542 (by rfl) (by rfl), T_w 541 (by decide +kernel) (by rfl), T_w 59 (by decide +kernel) (by rfl), ⟨by decide +kernel, by decide +kernel, by decide +kernel⟩⟩
set_option maxRecDepth 20000 in
theorem Y_X6_feedsWithout : Yv yX6_feedsWithout cX6_feedsWithout 4 (some .boolean) 3 := ⟨T_w 549 (by rfl) (by rfl), T_w 547 (by decide +kernel) (by rfl), T_w 548 (by decide +kernel) (by rfl), T_w 55 (by decide +kernel) (by rfl), ⟨by decide +kernel, by decide +kernel, by decide +kernel⟩⟩
set_option maxRecDepth 20000 in
theorem Y_X7_enough : Yv yX7_enough cX7_enough 7 (some .int) 1 := ⟨T_w 555 (by rfl) (by rfl), T_w 553 (by decide +kernel) (by rfl), T_w 554 (by decide +kernel) (by rfl), T_w 49 (by decide +kernel) (by rfl), ⟨by decide +kernel, by decide +kernel, by decide +kernel⟩⟩
set_option maxRecDepth 20000 in
theorem Y_X7_noteMissing : Yv yX7_noteMissing cX7_noteMissing 2 (none) 0 := ⟨T_w 559 (by rfl) (by rfl), T_w 558 (by decide +kernel) (by rfl), T_w 18 (by decide +kernel) (by rfl), T_w 49 (by decide +kernel) (by rfl), ⟨by decide +kernel, by decide +kernel, by decide +kernel⟩⟩
set_option maxRecDepth 20000 in
theorem Y_X7_isEnough : Yv yX7_isEnough cX7_isEnough 9 (some .boolean) 3 := ⟨T_w 563 (by rfl) (by rfl), T_w 562 (by decide +kernel) (by rfl), T_w 19 (by decide +kernel) (by rfl), T_w 49 (by decide +kernel) (by rfl), ⟨by decide +kernel, by decide +kernel, by decide +kernel⟩⟩
set_option maxRecDepth 20000 in
theorem Y_X7_flash : Yv yX7_flash cX7_flash 8 (some .int) 3 := ⟨T_w 568 (by rfl) (by rfl), T_w 566 (by decide +kernel) (by rfl), T_w 567 (by decide +kernel) (by rfl), T_w 49 (by decide +kernel) (by rfl), ⟨by decide +kernel, by decide +kernel, by decide +kernel⟩⟩
set_option maxRecDepth 20000 in
theorem Y_X7_hasBit : Ys yX7_hasBit cX7_hasBit 2 (some .boolean) 2 := ⟨T_w 571 (by rfl) (by rfl), T_w 570 (by decide +kernel) (by rfl), T_w 49 (by decide +kernel) (by rfl), ⟨by decide +kernel, by decide +kernel, by decide +kernel⟩⟩
set_option maxRecDepth 20000 in
theorem Y_X7_odds : Yv yX7_odds cX7_odds 9 (some .int) 4 := ⟨T_w 575 (by rfl) (by rfl), T_w 573 (by decide +kernel) (by rfl), T_w 574 (by decide +kernel) (by rfl), T_w 49 (by decide +kernel) (by rfl), ⟨by decide +kernel, by decide +kernel, by decide +kernel⟩⟩
set_option maxRecDepth 20000 in
theorem Y_X7_weight : Ys yX7_weight cX7_weight 4 (some .int) 2 := ⟨T_w 578 (by rfl) (by rfl), T_w 577 (by decide +kernel) (by rfl), T_w 49 (by decide +kernel) (by rfl), ⟨by decide +kernel, by decide +kernel, by decide +kernel⟩⟩
set_option maxRecDepth 20000 in
theorem Y_X7_commonDivisor : Ys yX7_commonDivisor cX7_commonDivisor 6 (some .int) 2 := ⟨T_w 581 (by rfl) (by rfl), T_w 580 (by decide +kernel) (by rfl), T_w 49 (by decide +kernel) (by rfl), ⟨by decide +kernel, by decide +kernel, by decide +kernel⟩⟩
set_option maxRecDepth 20000 in
theorem Y_X7_sees : Yv yX7_sees cX7_sees 4 (some .int) 3 := ⟨T_w 585 (by rfl) (by rfl), T_w 583 (by decide +kernel) (by rfl), T_w 584 (by decide +kernel) (by rfl), T_w 49 (by decide +kernel) (by rfl), ⟨by decide +kernel, by decide +kernel, by decide +kernel⟩⟩
set_option maxRecDepth 20000 in
theorem Y_X3_append : Yv yX3_append cX3_append 4 (some .boolean) 3 := ⟨T_w 589 (by rfl) (by rfl), T_w 587 (by decide +kernel) (by rfl), T_w 588 (by decide +kernel) (by rfl), T_w 54 (by decide +kernel) (by rfl), ⟨by decide +kernel, by decide +kernel, by decide +kernel⟩⟩
set_option maxRecDepth 20000 in
theorem Y_X7_forget : Yv yX7_forget cX7_forget 2 (some .int) 0 := ⟨T_w 593 (by rfl) (by rfl), T_w 591 (by decide +kernel) (by rfl), T_w 592 (by decide +kernel) (by rfl), T_w 49 (by decide +kernel) (by rfl), ⟨by decide +kernel, by decide +kernel, by decide +kernel⟩⟩
set_option maxRecDepth 20000 in
theorem Y_X7_unseen : Yv yX7_unseen cX7_unseen 4 (some .int) 1 := ⟨T_w 597 (by rfl) (by rfl), T_w 595 (by decide +kernel) (by rfl), T_w 596 (by decide +kernel) (by rfl), T_w 49 (by decide +kernel) (by rfl), ⟨by decide +kernel, by decide +kernel, by decide +kernel⟩⟩
set_option maxRecDepth 20000 in
theorem Y_X3_agrees : Yv yX3_agrees cX3_agrees 3 (some .boolean) 1 := ⟨T_w 601 (by rfl) (by rfl), T_w 599 (by decide +kernel) (by rfl), T_w 600 (by decide +kernel) (by rfl), T_w 54 (by decide +kernel) (by rfl), ⟨by decide +kernel, by decide +kernel, by decide +kernel⟩⟩
set_option maxRecDepth 20000 in
theorem Y_X7_keep : Yv yX7_keep cX7_keep 2 (some .int) 1 := ⟨T_w 606 (by rfl) (by rfl), T_w 604 (by decide +kernel) (by rfl), T_w 605 (by decide +kernel) (by rfl), T_w 49 (by decide +kernel) (by rfl), ⟨by decide +kernel, by decide +kernel, by decide +kernel⟩⟩
set_option maxRecDepth 20000 in
theorem Y_X7_isImage : Ys yX7_isImage cX7_isImage 1 (some .boolean) 1 := ⟨T_w 609 (by rfl) (by rfl), T_w 608 (by decide +kernel) (by rfl), T_w 49 (by decide +kernel) (by rfl), ⟨by decide +kernel, by decide +kernel, by decide +kernel⟩⟩
set_option maxRecDepth 20000 in
theorem Y_X4_takeFrom : Yv yX4_takeFrom cX4_takeFrom 2 (none) 1 := ⟨T_w 613 (by rfl) (by rfl), T_w 611 (by decide +kernel) (by rfl), T_w 612 (by decide +kernel) (by rfl), T_w 52 (by decide +kernel) (by rfl), ⟨by decide +kernel, by decide +kernel, by decide +kernel⟩⟩
set_option maxRecDepth 20000 in
theorem Y_X7_back : Yv yX7_back cX7_back 2 (some .int) 1 := ⟨T_w 618 (by rfl) (by rfl), T_w 616 (by decide +kernel) (by rfl), T_w 617 (by decide +kernel) (by rfl), T_w 49 (by decide +kernel) (by rfl), ⟨by decide +kernel, by decide +kernel, by decide +kernel⟩⟩
set_option maxRecDepth 20000 in
theorem Y_X7_count : Yv yX7_count cX7_count 2 (some .int) 1 := ⟨T_w 622 (by rfl) (by rfl), T_w 620 (by decide +kernel) (by rfl), T_w 621 (by decide +kernel) (by rfl), T_w 49 (by decide +kernel) (by rfl), ⟨by decide +kernel, by decide +kernel, by decide +kernel⟩⟩
set_option maxRecDepth 20000 in
theorem Y_X7_loadsThatSneak : Yv yX7_loadsThatSneak cX7_loadsThatSneak 3 (some .int) 0 := ⟨T_w 626 (by rfl) (by rfl), T_w 625 (by decide +kernel) (by rfl), T_w 20 (by decide +kernel) (by rfl), T_w 49 (by decide +kernel) (by rfl), ⟨by decide +kernel, by decide +kernel, by decide +kernel⟩⟩
set_option maxRecDepth 20000 in
theorem Y_X7_loadsThatMiss : Yv yX7_loadsThatMiss cX7_loadsThatMiss 3 (some .int) 0 := ⟨T_w 630 (by rfl) (by rfl), T_w 629 (by decide +kernel) (by rfl), T_w 21 (by decide +kernel) (by rfl), T_w 49 (by decide +kernel) (by rfl), ⟨by decide +kernel, by decide +kernel, by decide +kernel⟩⟩
set_option maxRecDepth 20000 in
theorem Y_X8_init : Yn yX8_init cX8_init 1 0 := ⟨T_w 635 (by rfl) (by rfl), T_w 634 (by decide +kernel) (by rfl), T_w 57 (by decide +kernel) (by rfl), rfl, ⟨by decide +kernel, by decide +kernel, by decide +kernel⟩⟩
set_option maxRecDepth 20000 in
theorem Y_X8_begins : Yv yX8_begins cX8_begins 2 (none) 0 := ⟨T_w 640 (by rfl) (by rfl), T_w 639 (by decide +kernel) (by rfl), T_w 22 (by decide +kernel) (by rfl), T_w 57 (by decide +kernel) (by rfl), ⟨by decide +kernel, by decide +kernel, by decide +kernel⟩⟩
set_option maxRecDepth 20000 in
theorem Y_X8_settles : Yv yX8_settles cX8_settles 2 (none) 0 := ⟨T_w 644 (by rfl) (by rfl), T_w 643 (by decide +kernel) (by rfl), T_w 23 (by decide +kernel) (by rfl), T_w 57 (by decide +kernel) (by rfl), ⟨by decide +kernel, by decide +kernel, by decide +kernel⟩⟩
set_option maxRecDepth 20000 in
theorem Y_X8_fedIn : Yv yX8_fedIn cX8_fedIn 4 (some .int) 1 := ⟨T_w 648 (by rfl) (by rfl), T_w 647 (by decide +kernel) (by rfl), T_w 24 (by decide +kernel) (by rfl), T_w 57 (by decide +kernel) (by rfl), ⟨by decide +kernel, by decide +kernel, by decide +kernel⟩⟩
set_option maxRecDepth 20000 in
theorem Y_X8_isFed : Yv yX8_isFed cX8_isFed 4 (some .boolean) 3 := ⟨T_w 652 (by rfl) (by rfl), T_w 651 (by decide +kernel) (by rfl), T_w 25 (by decide +kernel) (by rfl), T_w 57 (by decide +kernel) (by rfl), ⟨by decide +kernel, by decide +kernel, by decide +kernel⟩⟩
set_option maxRecDepth 20000 in
theorem Y_X8_live : Yv yX8_live cX8_live 8 (some .int) 2 := ⟨T_w 656 (by rfl) (by rfl), T_w 655 (by decide +kernel) (by rfl), T_w 26 (by decide +kernel) (by rfl), T_w 57 (by decide +kernel) (by rfl), ⟨by decide +kernel, by decide +kernel, by decide +kernel⟩⟩
set_option maxRecDepth 20000 in
theorem Y_X8_has : Ys yX8_has cX8_has 2 (some .boolean) 2 := ⟨T_w 659 (by rfl) (by rfl), T_w 658 (by decide +kernel) (by rfl), T_w 57 (by decide +kernel) (by rfl), ⟨by decide +kernel, by decide +kernel, by decide +kernel⟩⟩
set_option maxRecDepth 20000 in
theorem Y_X8_isShut : Yv yX8_isShut cX8_isShut 6 (some .boolean) 2 := ⟨T_w 663 (by rfl) (by rfl), T_w 662 (by decide +kernel) (by rfl), T_w 27 (by decide +kernel) (by rfl), T_w 57 (by decide +kernel) (by rfl), ⟨by decide +kernel, by decide +kernel, by decide +kernel⟩⟩
set_option maxRecDepth 20000 in
theorem Y_X8_isWay : Yv yX8_isWay cX8_isWay 3 (some .boolean) 2 := ⟨T_w 667 (by rfl) (by rfl), T_w 666 (by decide +kernel) (by rfl), T_w 28 (by decide +kernel) (by rfl), T_w 57 (by decide +kernel) (by rfl), ⟨by decide +kernel, by decide +kernel, by decide +kernel⟩⟩
set_option maxRecDepth 20000 in
theorem Y_X8_type : Yv yX8_type cX8_type 2 (some .int) 1 := ⟨T_w 744 (by rfl) (by rfl), T_w 742 (by decide +kernel) (by rfl), T_w 743 (by decide +kernel) (by rfl), T_w 57 (by decide +kernel) (by rfl), ⟨by decide +kernel, by decide +kernel, by decide +kernel⟩⟩
set_option maxRecDepth 20000 in
theorem Y_X8_in : Ys yX8_in cX8_in 3 (some .boolean) 3 := ⟨T_w 747 (by rfl) (by rfl), T_w 746 (by decide +kernel) (by rfl), T_w 57 (by decide +kernel) (by rfl), ⟨by decide +kernel, by decide +kernel, by decide +kernel⟩⟩
set_option maxRecDepth 20000 in
theorem Y_X8_clear : Yv yX8_clear cX8_clear 2 (some .int) 0 := ⟨T_w 751 (by rfl) (by rfl), T_w 749 (by decide +kernel) (by rfl), T_w 750 (by decide +kernel) (by rfl), T_w 57 (by decide +kernel) (by rfl), ⟨by decide +kernel, by decide +kernel, by decide +kernel⟩⟩
set_option maxRecDepth 20000 in
theorem Y_X8_net : Yv yX8_net cX8_net 3 (some .int) 0 := ⟨T_w 755 (by rfl) (by rfl), T_w 753 (by decide +kernel) (by rfl), T_w 754 (by decide +kernel) (by rfl), T_w 57 (by decide +kernel) (by rfl), ⟨by decide +kernel, by decide +kernel, by decide +kernel⟩⟩
set_option maxRecDepth 20000 in
theorem Y_X8_advances : Yv yX8_advances cX8_advances 2 (none) 0 := ⟨T_w 759 (by rfl) (by rfl), T_w 758 (by decide +kernel) (by rfl), T_w 29 (by decide +kernel) (by rfl), T_w 57 (by decide +kernel) (by rfl), ⟨by decide +kernel, by decide +kernel, by decide +kernel⟩⟩
set_option maxRecDepth 20000 in
theorem Y_X8_letterAt : Yv yX8_letterAt cX8_letterAt 2 (some .int) 1 := ⟨T_w 763 (by rfl) (by rfl), T_w 762 (by decide +kernel) (by rfl), T_w 30 (by decide +kernel) (by rfl), T_w 57 (by decide +kernel) (by rfl), ⟨by decide +kernel, by decide +kernel, by decide +kernel⟩⟩
set_option maxRecDepth 20000 in
theorem Y_X8_isLetter : Ys yX8_isLetter cX8_isLetter 1 (some .boolean) 1 := ⟨T_w 766 (by rfl) (by rfl), T_w 765 (by decide +kernel) (by rfl), T_w 57 (by decide +kernel) (by rfl), ⟨by decide +kernel, by decide +kernel, by decide +kernel⟩⟩
set_option maxRecDepth 20000 in
theorem Y_X8_isWell : Yv yX8_isWell cX8_isWell 1 (some .boolean) 0 := ⟨T_w 770 (by rfl) (by rfl), T_w 769 (by decide +kernel) (by rfl), T_w 31 (by decide +kernel) (by rfl), T_w 57 (by decide +kernel) (by rfl), ⟨by decide +kernel, by decide +kernel, by decide +kernel⟩⟩
set_option maxRecDepth 20000 in
theorem Y_X8_mayBegin : Yv yX8_mayBegin cX8_mayBegin 2 (some .boolean) 1 := ⟨T_w 774 (by rfl) (by rfl), T_w 773 (by decide +kernel) (by rfl), T_w 32 (by decide +kernel) (by rfl), T_w 57 (by decide +kernel) (by rfl), ⟨by decide +kernel, by decide +kernel, by decide +kernel⟩⟩
set_option maxRecDepth 20000 in
theorem Y_X8_takes : Yv yX8_takes cX8_takes 3 (some .int) 1 := ⟨T_w 778 (by rfl) (by rfl), T_w 777 (by decide +kernel) (by rfl), T_w 33 (by decide +kernel) (by rfl), T_w 57 (by decide +kernel) (by rfl), ⟨by decide +kernel, by decide +kernel, by decide +kernel⟩⟩
set_option maxRecDepth 20000 in
theorem Y_X8_readsItem : Yv yX8_readsItem cX8_readsItem 2 (none) 1 := ⟨T_w 782 (by rfl) (by rfl), T_w 781 (by decide +kernel) (by rfl), T_w 34 (by decide +kernel) (by rfl), T_w 57 (by decide +kernel) (by rfl), ⟨by decide +kernel, by decide +kernel, by decide +kernel⟩⟩
set_option maxRecDepth 20000 in
theorem Y_X8_isNumber : Yv yX8_isNumber cX8_isNumber 3 (some .boolean) 2 := ⟨T_w 786 (by rfl) (by rfl), T_w 785 (by decide +kernel) (by rfl), T_w 35 (by decide +kernel) (by rfl), T_w 57 (by decide +kernel) (by rfl), ⟨by decide +kernel, by decide +kernel, by decide +kernel⟩⟩
set_option maxRecDepth 20000 in
theorem Y_X8_isFreeNode : Yv yX8_isFreeNode cX8_isFreeNode 4 (some .boolean) 1 := ⟨T_w 790 (by rfl) (by rfl), T_w 789 (by decide +kernel) (by rfl), T_w 36 (by decide +kernel) (by rfl), T_w 57 (by decide +kernel) (by rfl), ⟨by decide +kernel, by decide +kernel, by decide +kernel⟩⟩
set_option maxRecDepth 20000 in
theorem Y_X8_readsContact : Yv yX8_readsContact cX8_readsContact 4 (none) 1 := ⟨T_w 794 (by rfl) (by rfl), T_w 793 (by decide +kernel) (by rfl), T_w 37 (by decide +kernel) (by rfl), T_w 57 (by decide +kernel) (by rfl), ⟨by decide +kernel, by decide +kernel, by decide +kernel⟩⟩
set_option maxRecDepth 20000 in
theorem Y_X8_contact : Yv yX8_contact cX8_contact 3 (some .int) 2 := ⟨T_w 798 (by rfl) (by rfl), T_w 796 (by decide +kernel) (by rfl), T_w 797 (by decide +kernel) (by rfl), T_w 57 (by decide +kernel) (by rfl), ⟨by decide +kernel, by decide +kernel, by decide +kernel⟩⟩
set_option maxRecDepth 20000 in
theorem Y_X8_isContact : Yv yX8_isContact cX8_isContact 2 (some .boolean) 1 := ⟨T_w 802 (by rfl) (by rfl), T_w 801 (by decide +kernel) (by rfl), T_w 38 (by decide +kernel) (by rfl), T_w 57 (by decide +kernel) (by rfl), ⟨by decide +kernel, by decide +kernel, by decide +kernel⟩⟩
set_option maxRecDepth 20000 in
theorem Y_X8_load : Yv yX8_load cX8_load 5 (some .int) 2 := ⟨T_w 806 (by rfl) (by rfl), T_w 804 (by decide +kernel) (by rfl), T_w 805 (by decide +kernel) (by rfl), T_w 57 (by decide +kernel) (by rfl), ⟨by decide +kernel, by decide +kernel, by decide +kernel⟩⟩
set_option maxRecDepth 20000 in
theorem Y_X8_isLoad : Yv yX8_isLoad cX8_isLoad 2 (some .boolean) 1 := ⟨T_w 810 (by rfl) (by rfl), T_w 809 (by decide +kernel) (by rfl), T_w 39 (by decide +kernel) (by rfl), T_w 57 (by decide +kernel) (by rfl), ⟨by decide +kernel, by decide +kernel, by decide +kernel⟩⟩
set_option maxRecDepth 20000 in
theorem Y_X8_pathMany : Yv yX8_pathMany cX8_pathMany 3 (some .int) 1 := ⟨T_w 814 (by rfl) (by rfl), T_w 813 (by decide +kernel) (by rfl), T_w 40 (by decide +kernel) (by rfl), T_w 57 (by decide +kernel) (by rfl), ⟨by decide +kernel, by decide +kernel, by decide +kernel⟩⟩
set_option maxRecDepth 20000 in
theorem Y_X8_beginsPath : Yv yX8_beginsPath cX8_beginsPath 1 (none) 0 := ⟨T_w 818 (by rfl) (by rfl), T_w 817 (by decide +kernel) (by rfl), T_w 41 (by decide +kernel) (by rfl), T_w 57 (by decide +kernel) (by rfl), ⟨by decide +kernel, by decide +kernel, by decide +kernel⟩⟩
set_option maxRecDepth 20000 in
theorem Y_X8_nextPath : Yv yX8_nextPath cX8_nextPath 4 (some .boolean) 1 := ⟨T_w 822 (by rfl) (by rfl), T_w 821 (by decide +kernel) (by rfl), T_w 42 (by decide +kernel) (by rfl), T_w 57 (by decide +kernel) (by rfl), ⟨by decide +kernel, by decide +kernel, by decide +kernel⟩⟩
set_option maxRecDepth 20000 in
theorem Y_X8_toBy : Yv yX8_toBy cX8_toBy 3 (some .int) 2 := ⟨T_w 826 (by rfl) (by rfl), T_w 825 (by decide +kernel) (by rfl), T_w 43 (by decide +kernel) (by rfl), T_w 57 (by decide +kernel) (by rfl), ⟨by decide +kernel, by decide +kernel, by decide +kernel⟩⟩
set_option maxRecDepth 20000 in
theorem Y_X8_isOnPath : Yv yX8_isOnPath cX8_isOnPath 4 (some .boolean) 1 := ⟨T_w 830 (by rfl) (by rfl), T_w 829 (by decide +kernel) (by rfl), T_w 44 (by decide +kernel) (by rfl), T_w 57 (by decide +kernel) (by rfl), ⟨by decide +kernel, by decide +kernel, by decide +kernel⟩⟩
set_option maxRecDepth 20000 in
theorem Y_X8_wishes : Yv yX8_wishes cX8_wishes 4 (some .int) 2 := ⟨T_w 834 (by rfl) (by rfl), T_w 832 (by decide +kernel) (by rfl), T_w 833 (by decide +kernel) (by rfl), T_w 57 (by decide +kernel) (by rfl), ⟨by decide +kernel, by decide +kernel, by decide +kernel⟩⟩
set_option maxRecDepth 20000 in
theorem Y_X8_notes : Yv yX8_notes cX8_notes 2 (none) 0 := ⟨T_w 839 (by rfl) (by rfl), T_w 838 (by decide +kernel) (by rfl), T_w 45 (by decide +kernel) (by rfl), T_w 57 (by decide +kernel) (by rfl), ⟨by decide +kernel, by decide +kernel, by decide +kernel⟩⟩
set_option maxRecDepth 20000 in
theorem Y_X8_cures : Yv yX8_cures cX8_cures 5 (some .int) 3 := ⟨T_w 843 (by rfl) (by rfl), T_w 841 (by decide +kernel) (by rfl), T_w 842 (by decide +kernel) (by rfl), T_w 57 (by decide +kernel) (by rfl), ⟨by decide +kernel, by decide +kernel, by decide +kernel⟩⟩
set_option maxRecDepth 20000 in
theorem Y_X8_sticks : Yv yX8_sticks cX8_sticks 4 (some .int) 2 := ⟨T_w 847 (by rfl) (by rfl), T_w 845 (by decide +kernel) (by rfl), T_w 846 (by decide +kernel) (by rfl), T_w 57 (by decide +kernel) (by rfl), ⟨by decide +kernel, by decide +kernel, by decide +kernel⟩⟩
set_option maxRecDepth 20000 in
theorem Y_X8_undo : Yv yX8_undo cX8_undo 2 (some .int) 0 := ⟨T_w 851 (by rfl) (by rfl), T_w 849 (by decide +kernel) (by rfl), T_w 850 (by decide +kernel) (by rfl), T_w 57 (by decide +kernel) (by rfl), ⟨by decide +kernel, by decide +kernel, by decide +kernel⟩⟩
set_option maxRecDepth 20000 in
theorem Y_X8_path : Yv yX8_path cX8_path 7 (some .int) 3 := ⟨T_w 855 (by rfl) (by rfl), T_w 853 (by decide +kernel) (by rfl), T_w 854 (by decide +kernel) (by rfl), T_w 57 (by decide +kernel) (by rfl), ⟨by decide +kernel, by decide +kernel, by decide +kernel⟩⟩
set_option maxRecDepth 20000 in
theorem Y_X8_shutIn : Yv yX8_shutIn cX8_shutIn 5 (some .int) 0 := ⟨T_w 859 (by rfl) (by rfl), T_w 858 (by decide +kernel) (by rfl), T_w 46 (by decide +kernel) (by rfl), T_w 57 (by decide +kernel) (by rfl), ⟨by decide +kernel, by decide +kernel, by decide +kernel⟩⟩
set_option maxRecDepth 20000 in
theorem Y_X8_shortest : Yv yX8_shortest cX8_shortest 6 (some .int) 3 := ⟨T_w 863 (by rfl) (by rfl), T_w 861 (by decide +kernel) (by rfl), T_w 862 (by decide +kernel) (by rfl), T_w 57 (by decide +kernel) (by rfl), ⟨by decide +kernel, by decide +kernel, by decide +kernel⟩⟩
set_option maxRecDepth 20000 in
theorem Y_X8_isState : Ys yX8_isState cX8_isState 1 (some .boolean) 1 := ⟨T_w 866 (by rfl) (by rfl), T_w 865 (by decide +kernel) (by rfl), T_w 57 (by decide +kernel) (by rfl), ⟨by decide +kernel, by decide +kernel, by decide +kernel⟩⟩
set_option maxRecDepth 20000 in
theorem Y_X8_parting : Yv yX8_parting cX8_parting 5 (some .int) 2 := ⟨T_w 870 (by rfl) (by rfl), T_w 868 (by decide +kernel) (by rfl), T_w 869 (by decide +kernel) (by rfl), T_w 57 (by decide +kernel) (by rfl), ⟨by decide +kernel, by decide +kernel, by decide +kernel⟩⟩
set_option maxRecDepth 20000 in
theorem Y_X8_ones : Ys yX8_ones cX8_ones 3 (some .int) 1 := ⟨T_w 873 (by rfl) (by rfl), T_w 872 (by decide +kernel) (by rfl), T_w 57 (by decide +kernel) (by rfl), ⟨by decide +kernel, by decide +kernel, by decide +kernel⟩⟩
set_option maxRecDepth 20000 in
theorem Y_X8_enough : Yv yX8_enough cX8_enough 8 (some .int) 1 := ⟨T_w 877 (by rfl) (by rfl), T_w 875 (by decide +kernel) (by rfl), T_w 876 (by decide +kernel) (by rfl), T_w 57 (by decide +kernel) (by rfl), ⟨by decide +kernel, by decide +kernel, by decide +kernel⟩⟩
set_option maxRecDepth 20000 in
theorem Y_X8_isEnough : Yv yX8_isEnough cX8_isEnough 6 (some .boolean) 1 := ⟨T_w 881 (by rfl) (by rfl), T_w 880 (by decide +kernel) (by rfl), T_w 47 (by decide +kernel) (by rfl), T_w 57 (by decide +kernel) (by rfl), ⟨by decide +kernel, by decide +kernel, by decide +kernel⟩⟩
set_option maxRecDepth 20000 in
theorem Y_X8_flash : Yv yX8_flash cX8_flash 8 (some .int) 3 := ⟨T_w 885 (by rfl) (by rfl), T_w 883 (by decide +kernel) (by rfl), T_w 884 (by decide +kernel) (by rfl), T_w 57 (by decide +kernel) (by rfl), ⟨by decide +kernel, by decide +kernel, by decide +kernel⟩⟩
set_option maxRecDepth 20000 in
theorem Y_X8_odds : Yv yX8_odds cX8_odds 13 (some .int) 4 := ⟨T_w 889 (by rfl) (by rfl), T_w 887 (by decide +kernel) (by rfl), T_w 888 (by decide +kernel) (by rfl), T_w 57 (by decide +kernel) (by rfl), ⟨by decide +kernel, by decide +kernel, by decide +kernel⟩⟩
set_option maxRecDepth 20000 in
theorem Y_X8_gcd : Ys yX8_gcd cX8_gcd 10 (some .long) 2 := ⟨T_w 893 (by rfl) (by rfl), T_w 892 (by decide +kernel) (by rfl), T_w 57 (by decide +kernel) (by rfl), ⟨by decide +kernel, by decide +kernel, by decide +kernel⟩⟩
set_option maxRecDepth 20000 in
theorem Y_X8_sees : Yv yX8_sees cX8_sees 4 (some .int) 3 := ⟨T_w 897 (by rfl) (by rfl), T_w 895 (by decide +kernel) (by rfl), T_w 896 (by decide +kernel) (by rfl), T_w 57 (by decide +kernel) (by rfl), ⟨by decide +kernel, by decide +kernel, by decide +kernel⟩⟩
set_option maxRecDepth 20000 in
theorem Y_X8_forget : Yv yX8_forget cX8_forget 2 (some .int) 0 := ⟨T_w 901 (by rfl) (by rfl), T_w 899 (by decide +kernel) (by rfl), T_w 900 (by decide +kernel) (by rfl), T_w 57 (by decide +kernel) (by rfl), ⟨by decide +kernel, by decide +kernel, by decide +kernel⟩⟩
set_option maxRecDepth 20000 in
theorem Y_X8_unseen : Yv yX8_unseen cX8_unseen 7 (some .int) 1 := ⟨T_w 905 (by rfl) (by rfl), T_w 903 (by decide +kernel) (by rfl), T_w 904 (by decide +kernel) (by rfl), T_w 57 (by decide +kernel) (by rfl), ⟨by decide +kernel, by decide +kernel, by decide +kernel⟩⟩
set_option maxRecDepth 20000 in
theorem Y_X8_keep : Yv yX8_keep cX8_keep 3 (some .int) 1 := ⟨T_w 909 (by rfl) (by rfl), T_w 907 (by decide +kernel) (by rfl), T_w 908 (by decide +kernel) (by rfl), T_w 57 (by decide +kernel) (by rfl), ⟨by decide +kernel, by decide +kernel, by decide +kernel⟩⟩
set_option maxRecDepth 20000 in
theorem Y_X8_back : Yv yX8_back cX8_back 3 (some .int) 1 := ⟨T_w 913 (by rfl) (by rfl), T_w 911 (by decide +kernel) (by rfl), T_w 912 (by decide +kernel) (by rfl), T_w 57 (by decide +kernel) (by rfl), ⟨by decide +kernel, by decide +kernel, by decide +kernel⟩⟩
set_option maxRecDepth 20000 in
theorem Y_X8_count : Yv yX8_count cX8_count 5 (some .int) 1 := ⟨T_w 917 (by rfl) (by rfl), T_w 915 (by decide +kernel) (by rfl), T_w 916 (by decide +kernel) (by rfl), T_w 57 (by decide +kernel) (by rfl), ⟨by decide +kernel, by decide +kernel, by decide +kernel⟩⟩
