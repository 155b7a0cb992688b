/-! THE CLAIM OUT OF ONE WALK OF THE LAW'S BODY. Your part is whole_start (and what it stands on); all else here is the same for every law, but numbers. -/
def R_law : String := "NeverBelowLaw"
def lw_P (b : Addr) (xs : List Int32) (args : Array Value) (s : State) : Prop := args = #[.ref b] ∧ s.IntsAt b xs ∧ xs.length ≤ 3072 ∧ (Jvm.Cond.and given_1 narrow_1).before args s = true
def lw_Q (_ : Array Value) (s : State) (o : Outcome) (t : State) : Prop := o = .returned (some (.int 1)) ∧ Framed s o t [] 600000 7302250
def lw_Z (below : List Frame) (a : Array Value) (s : State) : State → Prop := fun t => ∃ o, t.status = .running ∧ Ended t below o ∧ lw_Q a s o t
/-- the law's own end, with 1 on the stack, nothing written that was there before, its room as the claim has it -/
theorem lw_ret {p : Program} {l : Launch} {e : Env} {s : State} {m : MethodId} {below : List Frame} {meth : Method} {c : Code} {b : Nat} (hx : p.tables.exec = Jvm.exec) (hb : c.code = code) (hr : meth.sig.returnType = ret) (hlocks : meth.locks = false) {pc : Nat} {H : Heap} {ls : Array Slot} (hdg : decode code pc = .ok (.ireturn, 1)) : W p l e room_1 s m #[Value.ref b] below meth c H [] 600000 7302250 (lw_Z below #[Value.ref b] s) (F0 m pc ls [.int 1]) := by
  intro T hT X
  obtain ⟨fs, hret, hrun, hended, hW, hframe⟩ := X.leave (v := some (.int 1)) (hlocks := hlocks) (fun h => by rw [hr] at h; cases h)
  have hmeth' : T.vm.method? m = some meth := X.method'
  refine ⟨T.setFrames fs, ?_, .returned (some (.int 1)), hrun, hended, rfl, ⟨_, rfl⟩, hW, hframe⟩
  jvm_step X.here [X.here.top, hx, hb, hdg, hmeth', hr, ret, narrow_b1]
  (try refine ⟨rfl, ?_⟩); (try refine ⟨rfl, ?_⟩)
  first | (intro acts; rw [hret _ acts rfl rfl rfl]) | rw [hret _ _ rfl rfl rfl]
  exact Steps.refl _
/-- what holds at the law's entry: the machine, the code, the tables' words (any of lw_tbl by 'hts w (by decide +kernel)'), the script of L ints xs at the cell b, what the Statement gives of the start (any of its parts by flat_of_before) -/
def lw_At (p : Program) (s : State) (m : MethodId) (meth : Method) (c : Code) (b L : Nat) (xs : Nat → Int32) : Prop :=
  p.tables.exec = Jvm.exec ∧ c.code = code ∧ meth.sig.returnType = ret ∧ c.maxLocals = 4 ∧ s.vm.findClass R_law = some m.cls ∧ (∀ w ∈ lw_tbl, w.before #[Value.ref b] s = true) ∧ va_X b L xs s s.heap ∧ b < s.heap.size ∧ meth.locks = false ∧ (Jvm.Cond.and given_1 narrow_1).before #[Value.ref b] s = true

theorem xw_1000 : (Jvm.Cond.instanceMethod ({ cls := "NeverBelowModel", name := "box", desc := "(IIII)I" } : Jvm.MethodName)) ∈ xws := xws_in 1053 (by decide +kernel)
theorem xw_1001 : (Jvm.Cond.selects "NeverBelowModel" ({ cls := "NeverBelowModel", name := "box", desc := "(IIII)I" } : Jvm.MethodName) ({ cls := "NeverBelowModel", name := "box", desc := "(IIII)I" } : Jvm.MethodName)) ∈ xws := xws_in 1054 (by decide +kernel)
theorem xw_1002 : (Jvm.Cond.code ({ cls := "NeverBelowModel", name := "box", desc := "(IIII)I" } : Jvm.MethodName) prog_13_method_25_code (5 : Nat) (Option.some Jvm.ClassFile.FieldType.int)) ∈ xws := xws_in 1055 (by decide +kernel)
theorem xw_1010 : (Jvm.Cond.methodLink "NeverBelowLaw" (73 : Nat) ({ cls := "NeverBelowModel", name := "side", desc := "(II)I" } : Jvm.MethodName)) ∈ xws := xws_in 1063 (by decide +kernel)
theorem xw_1011 : (Jvm.Cond.instanceMethod ({ cls := "NeverBelowModel", name := "side", desc := "(II)I" } : Jvm.MethodName)) ∈ xws := xws_in 1064 (by decide +kernel)
theorem xw_1012 : (Jvm.Cond.selects "NeverBelowModel" ({ cls := "NeverBelowModel", name := "side", desc := "(II)I" } : Jvm.MethodName) ({ cls := "NeverBelowModel", name := "side", desc := "(II)I" } : Jvm.MethodName)) ∈ xws := xws_in 1065 (by decide +kernel)
theorem xw_1013 : (Jvm.Cond.code ({ cls := "NeverBelowModel", name := "side", desc := "(II)I" } : Jvm.MethodName) prog_13_method_26_code (3 : Nat) (Option.some Jvm.ClassFile.FieldType.int)) ∈ xws := xws_in 1066 (by decide +kernel)
theorem xw_1018 : (Jvm.Cond.methodLink "NeverBelowLaw" (77 : Nat) ({ cls := "NeverBelowModel", name := "corner", desc := "(III)J" } : Jvm.MethodName)) ∈ xws := xws_in 1071 (by decide +kernel)
theorem xw_1019 : (Jvm.Cond.instanceMethod ({ cls := "NeverBelowModel", name := "corner", desc := "(III)J" } : Jvm.MethodName)) ∈ xws := xws_in 1072 (by decide +kernel)
theorem xw_1020 : (Jvm.Cond.selects "NeverBelowModel" ({ cls := "NeverBelowModel", name := "corner", desc := "(III)J" } : Jvm.MethodName) ({ cls := "NeverBelowModel", name := "corner", desc := "(III)J" } : Jvm.MethodName)) ∈ xws := xws_in 1073 (by decide +kernel)
theorem xw_1021 : (Jvm.Cond.code ({ cls := "NeverBelowModel", name := "corner", desc := "(III)J" } : Jvm.MethodName) prog_13_method_30_code (4 : Nat) (Option.some Jvm.ClassFile.FieldType.long)) ∈ xws := xws_in 1074 (by decide +kernel)
theorem xw_1034 : (Jvm.Cond.methodLink "NeverBelowLaw" (81 : Nat) ({ cls := "NeverBelowModel", name := "bound", desc := "(III)J" } : Jvm.MethodName)) ∈ xws := xws_in 1087 (by decide +kernel)
theorem xw_1035 : (Jvm.Cond.instanceMethod ({ cls := "NeverBelowModel", name := "bound", desc := "(III)J" } : Jvm.MethodName)) ∈ xws := xws_in 1088 (by decide +kernel)
theorem xw_1036 : (Jvm.Cond.selects "NeverBelowModel" ({ cls := "NeverBelowModel", name := "bound", desc := "(III)J" } : Jvm.MethodName) ({ cls := "NeverBelowModel", name := "bound", desc := "(III)J" } : Jvm.MethodName)) ∈ xws := xws_in 1089 (by decide +kernel)
theorem xw_1037 : (Jvm.Cond.code ({ cls := "NeverBelowModel", name := "bound", desc := "(III)J" } : Jvm.MethodName) prog_13_method_31_code (9 : Nat) (Option.some Jvm.ClassFile.FieldType.long)) ∈ xws := xws_in 1090 (by decide +kernel)
theorem xw_1038 : (Jvm.Cond.methodLink "NeverBelowLaw" (85 : Nat) ({ cls := "NeverBelowModel", name := "cut", desc := "(II)I" } : Jvm.MethodName)) ∈ xws := xws_in 1091 (by decide +kernel)
theorem xw_1039 : (Jvm.Cond.instanceMethod ({ cls := "NeverBelowModel", name := "cut", desc := "(II)I" } : Jvm.MethodName)) ∈ xws := xws_in 1092 (by decide +kernel)
theorem xw_1040 : (Jvm.Cond.selects "NeverBelowModel" ({ cls := "NeverBelowModel", name := "cut", desc := "(II)I" } : Jvm.MethodName) ({ cls := "NeverBelowModel", name := "cut", desc := "(II)I" } : Jvm.MethodName)) ∈ xws := xws_in 1093 (by decide +kernel)
theorem xw_1041 : (Jvm.Cond.code ({ cls := "NeverBelowModel", name := "cut", desc := "(II)I" } : Jvm.MethodName) prog_13_method_32_code (9 : Nat) (Option.some Jvm.ClassFile.FieldType.int)) ∈ xws := xws_in 1094 (by decide +kernel)
theorem xw_1042 : (Jvm.Cond.methodLink "NeverBelowLaw" (89 : Nat) ({ cls := "NeverBelowModel", name := "parts", desc := "(II)I" } : Jvm.MethodName)) ∈ xws := xws_in 1095 (by decide +kernel)
theorem xw_1043 : (Jvm.Cond.instanceMethod ({ cls := "NeverBelowModel", name := "parts", desc := "(II)I" } : Jvm.MethodName)) ∈ xws := xws_in 1096 (by decide +kernel)
theorem xw_1044 : (Jvm.Cond.selects "NeverBelowModel" ({ cls := "NeverBelowModel", name := "parts", desc := "(II)I" } : Jvm.MethodName) ({ cls := "NeverBelowModel", name := "parts", desc := "(II)I" } : Jvm.MethodName)) ∈ xws := xws_in 1097 (by decide +kernel)
theorem xw_1045 : (Jvm.Cond.code ({ cls := "NeverBelowModel", name := "parts", desc := "(II)I" } : Jvm.MethodName) prog_13_method_34_code (3 : Nat) (Option.some Jvm.ClassFile.FieldType.int)) ∈ xws := xws_in 1098 (by decide +kernel)
theorem xw_1050 : (Jvm.Cond.methodLink "NeverBelowLaw" (93 : Nat) ({ cls := "NeverBelowModel", name := "cover", desc := "(I)I" } : Jvm.MethodName)) ∈ xws := xws_in 1103 (by decide +kernel)
theorem xw_1071 : (Jvm.Cond.methodLink "NeverBelowLaw" (97 : Nat) ({ cls := "NeverBelowModel", name := "open", desc := "(I)I" } : Jvm.MethodName)) ∈ xws := xws_in 1124 (by decide +kernel)
theorem xw_1072 : (Jvm.Cond.instanceMethod ({ cls := "NeverBelowModel", name := "open", desc := "(I)I" } : Jvm.MethodName)) ∈ xws := xws_in 1125 (by decide +kernel)
theorem xw_1073 : (Jvm.Cond.selects "NeverBelowModel" ({ cls := "NeverBelowModel", name := "open", desc := "(I)I" } : Jvm.MethodName) ({ cls := "NeverBelowModel", name := "open", desc := "(I)I" } : Jvm.MethodName)) ∈ xws := xws_in 1126 (by decide +kernel)
theorem xw_1074 : (Jvm.Cond.code ({ cls := "NeverBelowModel", name := "open", desc := "(I)I" } : Jvm.MethodName) prog_13_method_41_code (2 : Nat) (Option.some Jvm.ClassFile.FieldType.int)) ∈ xws := xws_in 1127 (by decide +kernel)
theorem xw_1079 : (Jvm.Cond.methodLink "NeverBelowLaw" (101 : Nat) ({ cls := "NeverBelowModel", name := "partly", desc := "(II)I" } : Jvm.MethodName)) ∈ xws := xws_in 1132 (by decide +kernel)
theorem xw_1080 : (Jvm.Cond.instanceMethod ({ cls := "NeverBelowModel", name := "partly", desc := "(II)I" } : Jvm.MethodName)) ∈ xws := xws_in 1133 (by decide +kernel)
theorem xw_1081 : (Jvm.Cond.selects "NeverBelowModel" ({ cls := "NeverBelowModel", name := "partly", desc := "(II)I" } : Jvm.MethodName) ({ cls := "NeverBelowModel", name := "partly", desc := "(II)I" } : Jvm.MethodName)) ∈ xws := xws_in 1134 (by decide +kernel)
theorem xw_1082 : (Jvm.Cond.code ({ cls := "NeverBelowModel", name := "partly", desc := "(II)I" } : Jvm.MethodName) prog_13_method_42_code (3 : Nat) (Option.some Jvm.ClassFile.FieldType.int)) ∈ xws := xws_in 1135 (by decide +kernel)
theorem xw_1083 : (Jvm.Cond.methodLink "NeverBelowLaw" (105 : Nat) ({ cls := "NeverBelowModel", name := "where", desc := "(I)I" } : Jvm.MethodName)) ∈ xws := xws_in 1136 (by decide +kernel)
theorem xw_1084 : (Jvm.Cond.instanceMethod ({ cls := "NeverBelowModel", name := "where", desc := "(I)I" } : Jvm.MethodName)) ∈ xws := xws_in 1137 (by decide +kernel)
theorem xw_1085 : (Jvm.Cond.selects "NeverBelowModel" ({ cls := "NeverBelowModel", name := "where", desc := "(I)I" } : Jvm.MethodName) ({ cls := "NeverBelowModel", name := "where", desc := "(I)I" } : Jvm.MethodName)) ∈ xws := xws_in 1138 (by decide +kernel)
theorem xw_1086 : (Jvm.Cond.code ({ cls := "NeverBelowModel", name := "where", desc := "(I)I" } : Jvm.MethodName) prog_13_method_43_code (2 : Nat) (Option.some Jvm.ClassFile.FieldType.int)) ∈ xws := xws_in 1139 (by decide +kernel)
theorem xw_1087 : (Jvm.Cond.methodLink "NeverBelowLaw" (110 : Nat) ({ cls := "NeverBelowModel", name := "least", desc := "()J" } : Jvm.MethodName)) ∈ xws := xws_in 1140 (by decide +kernel)
theorem xw_1088 : (Jvm.Cond.instanceMethod ({ cls := "NeverBelowModel", name := "least", desc := "()J" } : Jvm.MethodName)) ∈ xws := xws_in 1141 (by decide +kernel)
theorem xw_1089 : (Jvm.Cond.selects "NeverBelowModel" ({ cls := "NeverBelowModel", name := "least", desc := "()J" } : Jvm.MethodName) ({ cls := "NeverBelowModel", name := "least", desc := "()J" } : Jvm.MethodName)) ∈ xws := xws_in 1142 (by decide +kernel)
theorem xw_1090 : (Jvm.Cond.code ({ cls := "NeverBelowModel", name := "least", desc := "()J" } : Jvm.MethodName) prog_13_method_44_code (7 : Nat) (Option.some Jvm.ClassFile.FieldType.long)) ∈ xws := xws_in 1143 (by decide +kernel)
theorem xw_1091 : (Jvm.Cond.methodLink "NeverBelowLaw" (114 : Nat) ({ cls := "NeverBelowModel", name := "form", desc := "(III)J" } : Jvm.MethodName)) ∈ xws := xws_in 1144 (by decide +kernel)
theorem xw_1092 : (Jvm.Cond.instanceMethod ({ cls := "NeverBelowModel", name := "form", desc := "(III)J" } : Jvm.MethodName)) ∈ xws := xws_in 1145 (by decide +kernel)
theorem xw_1093 : (Jvm.Cond.selects "NeverBelowModel" ({ cls := "NeverBelowModel", name := "form", desc := "(III)J" } : Jvm.MethodName) ({ cls := "NeverBelowModel", name := "form", desc := "(III)J" } : Jvm.MethodName)) ∈ xws := xws_in 1146 (by decide +kernel)
theorem xw_1094 : (Jvm.Cond.code ({ cls := "NeverBelowModel", name := "form", desc := "(III)J" } : Jvm.MethodName) prog_13_method_48_code (4 : Nat) (Option.some Jvm.ClassFile.FieldType.long)) ∈ xws := xws_in 1147 (by decide +kernel)
theorem xw_1103 : (Jvm.Cond.methodLink "NeverBelowLaw" (118 : Nat) ({ cls := "NeverBelowModel", name := "squares", desc := "(I)I" } : Jvm.MethodName)) ∈ xws := xws_in 1156 (by decide +kernel)
theorem xw_1104 : (Jvm.Cond.instanceMethod ({ cls := "NeverBelowModel", name := "squares", desc := "(I)I" } : Jvm.MethodName)) ∈ xws := xws_in 1157 (by decide +kernel)
theorem xw_1105 : (Jvm.Cond.selects "NeverBelowModel" ({ cls := "NeverBelowModel", name := "squares", desc := "(I)I" } : Jvm.MethodName) ({ cls := "NeverBelowModel", name := "squares", desc := "(I)I" } : Jvm.MethodName)) ∈ xws := xws_in 1158 (by decide +kernel)
theorem xw_1106 : (Jvm.Cond.code ({ cls := "NeverBelowModel", name := "squares", desc := "(I)I" } : Jvm.MethodName) prog_13_method_54_code (3 : Nat) (Option.some Jvm.ClassFile.FieldType.int)) ∈ xws := xws_in 1159 (by decide +kernel)
theorem xw_1123 : (Jvm.Cond.methodLink "NeverBelowLaw" (122 : Nat) ({ cls := "NeverBelowModel", name := "corners", desc := "(II)I" } : Jvm.MethodName)) ∈ xws := xws_in 1176 (by decide +kernel)
theorem xw_1124 : (Jvm.Cond.instanceMethod ({ cls := "NeverBelowModel", name := "corners", desc := "(II)I" } : Jvm.MethodName)) ∈ xws := xws_in 1177 (by decide +kernel)
theorem xw_1125 : (Jvm.Cond.selects "NeverBelowModel" ({ cls := "NeverBelowModel", name := "corners", desc := "(II)I" } : Jvm.MethodName) ({ cls := "NeverBelowModel", name := "corners", desc := "(II)I" } : Jvm.MethodName)) ∈ xws := xws_in 1178 (by decide +kernel)
theorem xw_1126 : (Jvm.Cond.code ({ cls := "NeverBelowModel", name := "corners", desc := "(II)I" } : Jvm.MethodName) prog_13_method_55_code (5 : Nat) (Option.some Jvm.ClassFile.FieldType.int)) ∈ xws := xws_in 1179 (by decide +kernel)
theorem xw_1127 : (Jvm.Cond.methodLink "NeverBelowLaw" (127 : Nat) ({ cls := "NeverBelowModel", name := "proved", desc := "()I" } : Jvm.MethodName)) ∈ xws := xws_in 1180 (by decide +kernel)
theorem xw_1128 : (Jvm.Cond.instanceMethod ({ cls := "NeverBelowModel", name := "proved", desc := "()I" } : Jvm.MethodName)) ∈ xws := xws_in 1181 (by decide +kernel)
theorem xw_1129 : (Jvm.Cond.selects "NeverBelowModel" ({ cls := "NeverBelowModel", name := "proved", desc := "()I" } : Jvm.MethodName) ({ cls := "NeverBelowModel", name := "proved", desc := "()I" } : Jvm.MethodName)) ∈ xws := xws_in 1182 (by decide +kernel)
theorem xw_1130 : (Jvm.Cond.code ({ cls := "NeverBelowModel", name := "proved", desc := "()I" } : Jvm.MethodName) prog_13_method_56_code (3 : Nat) (Option.some Jvm.ClassFile.FieldType.int)) ∈ xws := xws_in 1183 (by decide +kernel)
theorem xw_1131 : (Jvm.Cond.methodLink "NeverBelowLaw" (132 : Nat) ({ cls := "NeverBelowModel", name := "span", desc := "(IIIII)I" } : Jvm.MethodName)) ∈ xws := xws_in 1184 (by decide +kernel)
theorem xw_1132 : (Jvm.Cond.instanceMethod ({ cls := "NeverBelowModel", name := "span", desc := "(IIIII)I" } : Jvm.MethodName)) ∈ xws := xws_in 1185 (by decide +kernel)
theorem xw_1133 : (Jvm.Cond.selects "NeverBelowModel" ({ cls := "NeverBelowModel", name := "span", desc := "(IIIII)I" } : Jvm.MethodName) ({ cls := "NeverBelowModel", name := "span", desc := "(IIIII)I" } : Jvm.MethodName)) ∈ xws := xws_in 1186 (by decide +kernel)
theorem xw_1134 : (Jvm.Cond.code ({ cls := "NeverBelowModel", name := "span", desc := "(IIIII)I" } : Jvm.MethodName) prog_13_method_58_code (13 : Nat) (Option.some Jvm.ClassFile.FieldType.int)) ∈ xws := xws_in 1187 (by decide +kernel)
theorem xw_1138 : (Jvm.Cond.methodLink "NeverBelowLaw" (136 : Nat) ({ cls := "NeverBelowModel", name := "proof", desc := "(II)I" } : Jvm.MethodName)) ∈ xws := xws_in 1191 (by decide +kernel)
theorem xw_1139 : (Jvm.Cond.instanceMethod ({ cls := "NeverBelowModel", name := "proof", desc := "(II)I" } : Jvm.MethodName)) ∈ xws := xws_in 1192 (by decide +kernel)
theorem xw_1140 : (Jvm.Cond.selects "NeverBelowModel" ({ cls := "NeverBelowModel", name := "proof", desc := "(II)I" } : Jvm.MethodName) ({ cls := "NeverBelowModel", name := "proof", desc := "(II)I" } : Jvm.MethodName)) ∈ xws := xws_in 1193 (by decide +kernel)
theorem xw_1141 : (Jvm.Cond.code ({ cls := "NeverBelowModel", name := "proof", desc := "(II)I" } : Jvm.MethodName) prog_13_method_60_code (3 : Nat) (Option.some Jvm.ClassFile.FieldType.int)) ∈ xws := xws_in 1194 (by decide +kernel)
theorem xw_1150 : (Jvm.Cond.methodLink "NeverBelowLaw" (140 : Nat) ({ cls := "NeverBelowModel", name := "number", desc := "(II)J" } : Jvm.MethodName)) ∈ xws := xws_in 1203 (by decide +kernel)
theorem xw_1151 : (Jvm.Cond.instanceMethod ({ cls := "NeverBelowModel", name := "number", desc := "(II)J" } : Jvm.MethodName)) ∈ xws := xws_in 1204 (by decide +kernel)
theorem xw_1152 : (Jvm.Cond.selects "NeverBelowModel" ({ cls := "NeverBelowModel", name := "number", desc := "(II)J" } : Jvm.MethodName) ({ cls := "NeverBelowModel", name := "number", desc := "(II)J" } : Jvm.MethodName)) ∈ xws := xws_in 1205 (by decide +kernel)
theorem xw_1153 : (Jvm.Cond.code ({ cls := "NeverBelowModel", name := "number", desc := "(II)J" } : Jvm.MethodName) prog_13_method_61_code (3 : Nat) (Option.some Jvm.ClassFile.FieldType.long)) ∈ xws := xws_in 1206 (by decide +kernel)
theorem xw_1154 : (Jvm.Cond.methodLink "NeverBelowLaw" (144 : Nat) ({ cls := "NeverBelowModel", name := "forge", desc := "(IIJ)I" } : Jvm.MethodName)) ∈ xws := xws_in 1207 (by decide +kernel)
theorem xw_1155 : (Jvm.Cond.instanceMethod ({ cls := "NeverBelowModel", name := "forge", desc := "(IIJ)I" } : Jvm.MethodName)) ∈ xws := xws_in 1208 (by decide +kernel)
theorem xw_1156 : (Jvm.Cond.selects "NeverBelowModel" ({ cls := "NeverBelowModel", name := "forge", desc := "(IIJ)I" } : Jvm.MethodName) ({ cls := "NeverBelowModel", name := "forge", desc := "(IIJ)I" } : Jvm.MethodName)) ∈ xws := xws_in 1209 (by decide +kernel)
theorem xw_1157 : (Jvm.Cond.code ({ cls := "NeverBelowModel", name := "forge", desc := "(IIJ)I" } : Jvm.MethodName) prog_13_method_62_code (5 : Nat) (Option.some Jvm.ClassFile.FieldType.int)) ∈ xws := xws_in 1210 (by decide +kernel)
theorem xw_1160 : (Jvm.Cond.methodLink "NeverBelowLaw" (148 : Nat) ({ cls := "NeverBelowModel", name := "check", desc := "(I)I" } : Jvm.MethodName)) ∈ xws := xws_in 1213 (by decide +kernel)
theorem xw_1161 : (Jvm.Cond.instanceMethod ({ cls := "NeverBelowModel", name := "check", desc := "(I)I" } : Jvm.MethodName)) ∈ xws := xws_in 1214 (by decide +kernel)
theorem xw_1162 : (Jvm.Cond.selects "NeverBelowModel" ({ cls := "NeverBelowModel", name := "check", desc := "(I)I" } : Jvm.MethodName) ({ cls := "NeverBelowModel", name := "check", desc := "(I)I" } : Jvm.MethodName)) ∈ xws := xws_in 1215 (by decide +kernel)
theorem xw_1163 : (Jvm.Cond.code ({ cls := "NeverBelowModel", name := "check", desc := "(I)I" } : Jvm.MethodName) prog_13_method_74_code (5 : Nat) (Option.some Jvm.ClassFile.FieldType.int)) ∈ xws := xws_in 1216 (by decide +kernel)
theorem xw_1212 : (Jvm.Cond.methodLink "NeverBelowLaw" (152 : Nat) ({ cls := "NeverBelowModel", name := "as", desc := "(II)I" } : Jvm.MethodName)) ∈ xws := xws_in 1265 (by decide +kernel)
theorem xw_1213 : (Jvm.Cond.instanceMethod ({ cls := "NeverBelowModel", name := "as", desc := "(II)I" } : Jvm.MethodName)) ∈ xws := xws_in 1266 (by decide +kernel)
theorem xw_1214 : (Jvm.Cond.selects "NeverBelowModel" ({ cls := "NeverBelowModel", name := "as", desc := "(II)I" } : Jvm.MethodName) ({ cls := "NeverBelowModel", name := "as", desc := "(II)I" } : Jvm.MethodName)) ∈ xws := xws_in 1267 (by decide +kernel)
theorem xw_1215 : (Jvm.Cond.code ({ cls := "NeverBelowModel", name := "as", desc := "(II)I" } : Jvm.MethodName) prog_13_method_75_code (5 : Nat) (Option.some Jvm.ClassFile.FieldType.int)) ∈ xws := xws_in 1268 (by decide +kernel)
theorem xw_1217 : (Jvm.Cond.methodLink "NeverBelowLaw" (156 : Nat) ({ cls := "NeverBelowModel", name := "tell", desc := "(I)I" } : Jvm.MethodName)) ∈ xws := xws_in 1270 (by decide +kernel)
theorem xw_1218 : (Jvm.Cond.instanceMethod ({ cls := "NeverBelowModel", name := "tell", desc := "(I)I" } : Jvm.MethodName)) ∈ xws := xws_in 1271 (by decide +kernel)
theorem xw_1219 : (Jvm.Cond.selects "NeverBelowModel" ({ cls := "NeverBelowModel", name := "tell", desc := "(I)I" } : Jvm.MethodName) ({ cls := "NeverBelowModel", name := "tell", desc := "(I)I" } : Jvm.MethodName)) ∈ xws := xws_in 1272 (by decide +kernel)
theorem xw_1220 : (Jvm.Cond.code ({ cls := "NeverBelowModel", name := "tell", desc := "(I)I" } : Jvm.MethodName) prog_13_method_77_code (3 : Nat) (Option.some Jvm.ClassFile.FieldType.int)) ∈ xws := xws_in 1273 (by decide +kernel)
theorem xw_1225 : (Jvm.Cond.methodLink "NeverBelowLaw" (160 : Nat) ({ cls := "NeverBelowModel", name := "cost", desc := "(I)I" } : Jvm.MethodName)) ∈ xws := xws_in 1278 (by decide +kernel)
theorem xw_1226 : (Jvm.Cond.instanceMethod ({ cls := "NeverBelowModel", name := "cost", desc := "(I)I" } : Jvm.MethodName)) ∈ xws := xws_in 1279 (by decide +kernel)
theorem xw_1227 : (Jvm.Cond.selects "NeverBelowModel" ({ cls := "NeverBelowModel", name := "cost", desc := "(I)I" } : Jvm.MethodName) ({ cls := "NeverBelowModel", name := "cost", desc := "(I)I" } : Jvm.MethodName)) ∈ xws := xws_in 1280 (by decide +kernel)
theorem xw_1228 : (Jvm.Cond.code ({ cls := "NeverBelowModel", name := "cost", desc := "(I)I" } : Jvm.MethodName) prog_13_method_78_code (3 : Nat) (Option.some Jvm.ClassFile.FieldType.int)) ∈ xws := xws_in 1281 (by decide +kernel)
theorem xw_1229 : (Jvm.Cond.methodLink "NeverBelowLaw" (164 : Nat) ({ cls := "NeverBelowModel", name := "trace", desc := "()I" } : Jvm.MethodName)) ∈ xws := xws_in 1282 (by decide +kernel)
theorem xw_1230 : (Jvm.Cond.instanceMethod ({ cls := "NeverBelowModel", name := "trace", desc := "()I" } : Jvm.MethodName)) ∈ xws := xws_in 1283 (by decide +kernel)
theorem xw_1231 : (Jvm.Cond.selects "NeverBelowModel" ({ cls := "NeverBelowModel", name := "trace", desc := "()I" } : Jvm.MethodName) ({ cls := "NeverBelowModel", name := "trace", desc := "()I" } : Jvm.MethodName)) ∈ xws := xws_in 1284 (by decide +kernel)
theorem xw_1232 : (Jvm.Cond.code ({ cls := "NeverBelowModel", name := "trace", desc := "()I" } : Jvm.MethodName) prog_13_method_79_code (1 : Nat) (Option.some Jvm.ClassFile.FieldType.int)) ∈ xws := xws_in 1285 (by decide +kernel)
theorem xw_1233 : (Jvm.Cond.methodLink "NeverBelowLaw" (168 : Nat) ({ cls := "NeverBelowModel", name := "fault", desc := "()I" } : Jvm.MethodName)) ∈ xws := xws_in 1286 (by decide +kernel)
theorem xw_1234 : (Jvm.Cond.instanceMethod ({ cls := "NeverBelowModel", name := "fault", desc := "()I" } : Jvm.MethodName)) ∈ xws := xws_in 1287 (by decide +kernel)
theorem xw_1235 : (Jvm.Cond.selects "NeverBelowModel" ({ cls := "NeverBelowModel", name := "fault", desc := "()I" } : Jvm.MethodName) ({ cls := "NeverBelowModel", name := "fault", desc := "()I" } : Jvm.MethodName)) ∈ xws := xws_in 1288 (by decide +kernel)
theorem xw_1236 : (Jvm.Cond.code ({ cls := "NeverBelowModel", name := "fault", desc := "()I" } : Jvm.MethodName) prog_13_method_80_code (1 : Nat) (Option.some Jvm.ClassFile.FieldType.int)) ∈ xws := xws_in 1289 (by decide +kernel)
theorem xw_1237 : (Jvm.Cond.methodLink "NeverBelowLaw" (172 : Nat) ({ cls := "NeverBelowModel", name := "told", desc := "(I)I" } : Jvm.MethodName)) ∈ xws := xws_in 1290 (by decide +kernel)
theorem xw_1238 : (Jvm.Cond.instanceMethod ({ cls := "NeverBelowModel", name := "told", desc := "(I)I" } : Jvm.MethodName)) ∈ xws := xws_in 1291 (by decide +kernel)
theorem xw_1239 : (Jvm.Cond.selects "NeverBelowModel" ({ cls := "NeverBelowModel", name := "told", desc := "(I)I" } : Jvm.MethodName) ({ cls := "NeverBelowModel", name := "told", desc := "(I)I" } : Jvm.MethodName)) ∈ xws := xws_in 1292 (by decide +kernel)
theorem xw_1240 : (Jvm.Cond.code ({ cls := "NeverBelowModel", name := "told", desc := "(I)I" } : Jvm.MethodName) prog_13_method_81_code (2 : Nat) (Option.some Jvm.ClassFile.FieldType.int)) ∈ xws := xws_in 1293 (by decide +kernel)
theorem xw_1241 : (Jvm.Cond.constantLong "NeverBelowLaw" (23 : Nat) (4294967295 : Int64)) ∈ xws := xws_in 1294 (by decide +kernel)
theorem xw_152 : (Jvm.Cond.methodLink "NeverBelowLaw" (13 : Nat) ({ cls := "NeverBelow", name := "sheet", desc := "(III)I" } : Jvm.MethodName)) ∈ xws := xws_in 205 (by decide +kernel)
theorem xw_153 : (Jvm.Cond.instanceMethod ({ cls := "NeverBelow", name := "sheet", desc := "(III)I" } : Jvm.MethodName)) ∈ xws := xws_in 206 (by decide +kernel)
theorem xw_154 : (Jvm.Cond.selects "NeverBelow" ({ cls := "NeverBelow", name := "sheet", desc := "(III)I" } : Jvm.MethodName) ({ cls := "NeverBelow", name := "sheet", desc := "(III)I" } : Jvm.MethodName)) ∈ xws := xws_in 207 (by decide +kernel)
theorem xw_155 : (Jvm.Cond.code ({ cls := "NeverBelow", name := "sheet", desc := "(III)I" } : Jvm.MethodName) prog_1_method_2_code (4 : Nat) (Option.some Jvm.ClassFile.FieldType.int)) ∈ xws := xws_in 208 (by decide +kernel)
theorem xw_16 : (Jvm.Cond.classLink "NeverBelowLaw" (7 : Nat) "NeverBelow") ∈ xws := xws_in 69 (by decide +kernel)
theorem xw_17 : (Jvm.Cond.instantiable "NeverBelow" (10 : Nat)) ∈ xws := xws_in 70 (by decide +kernel)
theorem xw_18 : (Jvm.Cond.methodLink "NeverBelowLaw" (9 : Nat) ({ cls := "NeverBelow", name := "<init>", desc := "()V" } : Jvm.MethodName)) ∈ xws := xws_in 71 (by decide +kernel)
theorem xw_183 : (Jvm.Cond.methodLink "NeverBelowLaw" (18 : Nat) ({ cls := "NeverBelow", name := "lose", desc := "(I)I" } : Jvm.MethodName)) ∈ xws := xws_in 236 (by decide +kernel)
theorem xw_184 : (Jvm.Cond.instanceMethod ({ cls := "NeverBelow", name := "lose", desc := "(I)I" } : Jvm.MethodName)) ∈ xws := xws_in 237 (by decide +kernel)
theorem xw_185 : (Jvm.Cond.selects "NeverBelow" ({ cls := "NeverBelow", name := "lose", desc := "(I)I" } : Jvm.MethodName) ({ cls := "NeverBelow", name := "lose", desc := "(I)I" } : Jvm.MethodName)) ∈ xws := xws_in 238 (by decide +kernel)
theorem xw_186 : (Jvm.Cond.code ({ cls := "NeverBelow", name := "lose", desc := "(I)I" } : Jvm.MethodName) prog_1_method_3_code (3 : Nat) (Option.some Jvm.ClassFile.FieldType.int)) ∈ xws := xws_in 239 (by decide +kernel)
theorem xw_187 : (Jvm.Cond.methodLink "NeverBelowLaw" (25 : Nat) ({ cls := "NeverBelow", name := "put", desc := "(IIJ)I" } : Jvm.MethodName)) ∈ xws := xws_in 240 (by decide +kernel)
theorem xw_188 : (Jvm.Cond.instanceMethod ({ cls := "NeverBelow", name := "put", desc := "(IIJ)I" } : Jvm.MethodName)) ∈ xws := xws_in 241 (by decide +kernel)
theorem xw_189 : (Jvm.Cond.selects "NeverBelow" ({ cls := "NeverBelow", name := "put", desc := "(IIJ)I" } : Jvm.MethodName) ({ cls := "NeverBelow", name := "put", desc := "(IIJ)I" } : Jvm.MethodName)) ∈ xws := xws_in 242 (by decide +kernel)
theorem xw_19 : (Jvm.Cond.instanceMethod ({ cls := "NeverBelow", name := "<init>", desc := "()V" } : Jvm.MethodName)) ∈ xws := xws_in 72 (by decide +kernel)
theorem xw_190 : (Jvm.Cond.code ({ cls := "NeverBelow", name := "put", desc := "(IIJ)I" } : Jvm.MethodName) prog_1_method_4_code (6 : Nat) (Option.some Jvm.ClassFile.FieldType.int)) ∈ xws := xws_in 243 (by decide +kernel)
theorem xw_199 : (Jvm.Cond.methodLink "NeverBelowLaw" (30 : Nat) ({ cls := "NeverBelow", name := "at", desc := "(III)J" } : Jvm.MethodName)) ∈ xws := xws_in 252 (by decide +kernel)
theorem xw_20 : (Jvm.Cond.code ({ cls := "NeverBelow", name := "<init>", desc := "()V" } : Jvm.MethodName) prog_1_method_1_code (1 : Nat) (Option.none : Option Jvm.ClassFile.FieldType)) ∈ xws := xws_in 73 (by decide +kernel)
theorem xw_200 : (Jvm.Cond.instanceMethod ({ cls := "NeverBelow", name := "at", desc := "(III)J" } : Jvm.MethodName)) ∈ xws := xws_in 253 (by decide +kernel)
theorem xw_201 : (Jvm.Cond.selects "NeverBelow" ({ cls := "NeverBelow", name := "at", desc := "(III)J" } : Jvm.MethodName) ({ cls := "NeverBelow", name := "at", desc := "(III)J" } : Jvm.MethodName)) ∈ xws := xws_in 254 (by decide +kernel)
theorem xw_202 : (Jvm.Cond.code ({ cls := "NeverBelow", name := "at", desc := "(III)J" } : Jvm.MethodName) prog_1_method_5_code (5 : Nat) (Option.some Jvm.ClassFile.FieldType.long)) ∈ xws := xws_in 255 (by decide +kernel)
theorem xw_208 : (Jvm.Cond.methodLink "NeverBelowLaw" (35 : Nat) ({ cls := "NeverBelow", name := "poly", desc := "(IIII)I" } : Jvm.MethodName)) ∈ xws := xws_in 261 (by decide +kernel)
theorem xw_209 : (Jvm.Cond.instanceMethod ({ cls := "NeverBelow", name := "poly", desc := "(IIII)I" } : Jvm.MethodName)) ∈ xws := xws_in 262 (by decide +kernel)
theorem xw_210 : (Jvm.Cond.selects "NeverBelow" ({ cls := "NeverBelow", name := "poly", desc := "(IIII)I" } : Jvm.MethodName) ({ cls := "NeverBelow", name := "poly", desc := "(IIII)I" } : Jvm.MethodName)) ∈ xws := xws_in 263 (by decide +kernel)
theorem xw_211 : (Jvm.Cond.code ({ cls := "NeverBelow", name := "poly", desc := "(IIII)I" } : Jvm.MethodName) prog_1_method_6_code (7 : Nat) (Option.some Jvm.ClassFile.FieldType.int)) ∈ xws := xws_in 264 (by decide +kernel)
theorem xw_237 : (Jvm.Cond.methodLink "NeverBelowLaw" (40 : Nat) ({ cls := "NeverBelow", name := "add", desc := "(III)I" } : Jvm.MethodName)) ∈ xws := xws_in 290 (by decide +kernel)
theorem xw_238 : (Jvm.Cond.instanceMethod ({ cls := "NeverBelow", name := "add", desc := "(III)I" } : Jvm.MethodName)) ∈ xws := xws_in 291 (by decide +kernel)
theorem xw_239 : (Jvm.Cond.selects "NeverBelow" ({ cls := "NeverBelow", name := "add", desc := "(III)I" } : Jvm.MethodName) ({ cls := "NeverBelow", name := "add", desc := "(III)I" } : Jvm.MethodName)) ∈ xws := xws_in 292 (by decide +kernel)
theorem xw_240 : (Jvm.Cond.code ({ cls := "NeverBelow", name := "add", desc := "(III)I" } : Jvm.MethodName) prog_1_method_7_code (8 : Nat) (Option.some Jvm.ClassFile.FieldType.int)) ∈ xws := xws_in 293 (by decide +kernel)
theorem xw_245 : (Jvm.Cond.methodLink "NeverBelowLaw" (44 : Nat) ({ cls := "NeverBelow", name := "times", desc := "(II)I" } : Jvm.MethodName)) ∈ xws := xws_in 298 (by decide +kernel)
theorem xw_246 : (Jvm.Cond.instanceMethod ({ cls := "NeverBelow", name := "times", desc := "(II)I" } : Jvm.MethodName)) ∈ xws := xws_in 299 (by decide +kernel)
theorem xw_247 : (Jvm.Cond.selects "NeverBelow" ({ cls := "NeverBelow", name := "times", desc := "(II)I" } : Jvm.MethodName) ({ cls := "NeverBelow", name := "times", desc := "(II)I" } : Jvm.MethodName)) ∈ xws := xws_in 300 (by decide +kernel)
theorem xw_248 : (Jvm.Cond.code ({ cls := "NeverBelow", name := "times", desc := "(II)I" } : Jvm.MethodName) prog_1_method_8_code (7 : Nat) (Option.some Jvm.ClassFile.FieldType.int)) ∈ xws := xws_in 301 (by decide +kernel)
theorem xw_253 : (Jvm.Cond.methodLink "NeverBelowLaw" (49 : Nat) ({ cls := "NeverBelow", name := "slope", desc := "(II)I" } : Jvm.MethodName)) ∈ xws := xws_in 306 (by decide +kernel)
theorem xw_254 : (Jvm.Cond.instanceMethod ({ cls := "NeverBelow", name := "slope", desc := "(II)I" } : Jvm.MethodName)) ∈ xws := xws_in 307 (by decide +kernel)
theorem xw_255 : (Jvm.Cond.selects "NeverBelow" ({ cls := "NeverBelow", name := "slope", desc := "(II)I" } : Jvm.MethodName) ({ cls := "NeverBelow", name := "slope", desc := "(II)I" } : Jvm.MethodName)) ∈ xws := xws_in 308 (by decide +kernel)
theorem xw_256 : (Jvm.Cond.code ({ cls := "NeverBelow", name := "slope", desc := "(II)I" } : Jvm.MethodName) prog_1_method_9_code (7 : Nat) (Option.some Jvm.ClassFile.FieldType.int)) ∈ xws := xws_in 309 (by decide +kernel)
theorem xw_260 : (Jvm.Cond.methodLink "NeverBelowLaw" (53 : Nat) ({ cls := "NeverBelow", name := "term", desc := "(II)J" } : Jvm.MethodName)) ∈ xws := xws_in 313 (by decide +kernel)
theorem xw_261 : (Jvm.Cond.instanceMethod ({ cls := "NeverBelow", name := "term", desc := "(II)J" } : Jvm.MethodName)) ∈ xws := xws_in 314 (by decide +kernel)
theorem xw_262 : (Jvm.Cond.selects "NeverBelow" ({ cls := "NeverBelow", name := "term", desc := "(II)J" } : Jvm.MethodName) ({ cls := "NeverBelow", name := "term", desc := "(II)J" } : Jvm.MethodName)) ∈ xws := xws_in 315 (by decide +kernel)
theorem xw_263 : (Jvm.Cond.code ({ cls := "NeverBelow", name := "term", desc := "(II)J" } : Jvm.MethodName) prog_1_method_10_code (4 : Nat) (Option.some Jvm.ClassFile.FieldType.long)) ∈ xws := xws_in 316 (by decide +kernel)
theorem xw_267 : (Jvm.Cond.methodLink "NeverBelowLaw" (58 : Nat) ({ cls := "NeverBelow", name := "value", desc := "(III)J" } : Jvm.MethodName)) ∈ xws := xws_in 320 (by decide +kernel)
theorem xw_268 : (Jvm.Cond.instanceMethod ({ cls := "NeverBelow", name := "value", desc := "(III)J" } : Jvm.MethodName)) ∈ xws := xws_in 321 (by decide +kernel)
theorem xw_269 : (Jvm.Cond.selects "NeverBelow" ({ cls := "NeverBelow", name := "value", desc := "(III)J" } : Jvm.MethodName) ({ cls := "NeverBelow", name := "value", desc := "(III)J" } : Jvm.MethodName)) ∈ xws := xws_in 322 (by decide +kernel)
theorem xw_270 : (Jvm.Cond.code ({ cls := "NeverBelow", name := "value", desc := "(III)J" } : Jvm.MethodName) prog_1_method_11_code (5 : Nat) (Option.some Jvm.ClassFile.FieldType.long)) ∈ xws := xws_in 323 (by decide +kernel)
theorem xw_280 : (Jvm.Cond.methodLink "NeverBelowLaw" (62 : Nat) ({ cls := "NeverBelow", name := "same", desc := "(II)I" } : Jvm.MethodName)) ∈ xws := xws_in 333 (by decide +kernel)
theorem xw_281 : (Jvm.Cond.instanceMethod ({ cls := "NeverBelow", name := "same", desc := "(II)I" } : Jvm.MethodName)) ∈ xws := xws_in 334 (by decide +kernel)
theorem xw_282 : (Jvm.Cond.selects "NeverBelow" ({ cls := "NeverBelow", name := "same", desc := "(II)I" } : Jvm.MethodName) ({ cls := "NeverBelow", name := "same", desc := "(II)I" } : Jvm.MethodName)) ∈ xws := xws_in 335 (by decide +kernel)
theorem xw_283 : (Jvm.Cond.code ({ cls := "NeverBelow", name := "same", desc := "(II)I" } : Jvm.MethodName) prog_1_method_12_code (6 : Nat) (Option.some Jvm.ClassFile.FieldType.int)) ∈ xws := xws_in 336 (by decide +kernel)
theorem xw_284 : (Jvm.Cond.methodLink "NeverBelowLaw" (66 : Nat) ({ cls := "NeverBelow", name := "box", desc := "(IIII)I" } : Jvm.MethodName)) ∈ xws := xws_in 337 (by decide +kernel)
theorem xw_285 : (Jvm.Cond.instanceMethod ({ cls := "NeverBelow", name := "box", desc := "(IIII)I" } : Jvm.MethodName)) ∈ xws := xws_in 338 (by decide +kernel)
theorem xw_286 : (Jvm.Cond.selects "NeverBelow" ({ cls := "NeverBelow", name := "box", desc := "(IIII)I" } : Jvm.MethodName) ({ cls := "NeverBelow", name := "box", desc := "(IIII)I" } : Jvm.MethodName)) ∈ xws := xws_in 339 (by decide +kernel)
theorem xw_287 : (Jvm.Cond.code ({ cls := "NeverBelow", name := "box", desc := "(IIII)I" } : Jvm.MethodName) prog_1_method_13_code (6 : Nat) (Option.some Jvm.ClassFile.FieldType.int)) ∈ xws := xws_in 340 (by decide +kernel)
theorem xw_291 : (Jvm.Cond.methodLink "NeverBelowLaw" (70 : Nat) ({ cls := "NeverBelow", name := "side", desc := "(II)I" } : Jvm.MethodName)) ∈ xws := xws_in 344 (by decide +kernel)
theorem xw_292 : (Jvm.Cond.instanceMethod ({ cls := "NeverBelow", name := "side", desc := "(II)I" } : Jvm.MethodName)) ∈ xws := xws_in 345 (by decide +kernel)
theorem xw_293 : (Jvm.Cond.selects "NeverBelow" ({ cls := "NeverBelow", name := "side", desc := "(II)I" } : Jvm.MethodName) ({ cls := "NeverBelow", name := "side", desc := "(II)I" } : Jvm.MethodName)) ∈ xws := xws_in 346 (by decide +kernel)
theorem xw_294 : (Jvm.Cond.code ({ cls := "NeverBelow", name := "side", desc := "(II)I" } : Jvm.MethodName) prog_1_method_14_code (3 : Nat) (Option.some Jvm.ClassFile.FieldType.int)) ∈ xws := xws_in 347 (by decide +kernel)
theorem xw_299 : (Jvm.Cond.methodLink "NeverBelowLaw" (74 : Nat) ({ cls := "NeverBelow", name := "corner", desc := "(III)J" } : Jvm.MethodName)) ∈ xws := xws_in 352 (by decide +kernel)
theorem xw_300 : (Jvm.Cond.instanceMethod ({ cls := "NeverBelow", name := "corner", desc := "(III)J" } : Jvm.MethodName)) ∈ xws := xws_in 353 (by decide +kernel)
theorem xw_301 : (Jvm.Cond.selects "NeverBelow" ({ cls := "NeverBelow", name := "corner", desc := "(III)J" } : Jvm.MethodName) ({ cls := "NeverBelow", name := "corner", desc := "(III)J" } : Jvm.MethodName)) ∈ xws := xws_in 354 (by decide +kernel)
theorem xw_302 : (Jvm.Cond.code ({ cls := "NeverBelow", name := "corner", desc := "(III)J" } : Jvm.MethodName) prog_1_method_15_code (5 : Nat) (Option.some Jvm.ClassFile.FieldType.long)) ∈ xws := xws_in 355 (by decide +kernel)
theorem xw_308 : (Jvm.Cond.methodLink "NeverBelowLaw" (78 : Nat) ({ cls := "NeverBelow", name := "bound", desc := "(III)J" } : Jvm.MethodName)) ∈ xws := xws_in 361 (by decide +kernel)
theorem xw_309 : (Jvm.Cond.instanceMethod ({ cls := "NeverBelow", name := "bound", desc := "(III)J" } : Jvm.MethodName)) ∈ xws := xws_in 362 (by decide +kernel)
theorem xw_310 : (Jvm.Cond.selects "NeverBelow" ({ cls := "NeverBelow", name := "bound", desc := "(III)J" } : Jvm.MethodName) ({ cls := "NeverBelow", name := "bound", desc := "(III)J" } : Jvm.MethodName)) ∈ xws := xws_in 363 (by decide +kernel)
theorem xw_311 : (Jvm.Cond.code ({ cls := "NeverBelow", name := "bound", desc := "(III)J" } : Jvm.MethodName) prog_1_method_16_code (5 : Nat) (Option.some Jvm.ClassFile.FieldType.long)) ∈ xws := xws_in 364 (by decide +kernel)
theorem xw_329 : (Jvm.Cond.methodLink "NeverBelowLaw" (82 : Nat) ({ cls := "NeverBelow", name := "cut", desc := "(II)I" } : Jvm.MethodName)) ∈ xws := xws_in 382 (by decide +kernel)
theorem xw_330 : (Jvm.Cond.instanceMethod ({ cls := "NeverBelow", name := "cut", desc := "(II)I" } : Jvm.MethodName)) ∈ xws := xws_in 383 (by decide +kernel)
theorem xw_331 : (Jvm.Cond.selects "NeverBelow" ({ cls := "NeverBelow", name := "cut", desc := "(II)I" } : Jvm.MethodName) ({ cls := "NeverBelow", name := "cut", desc := "(II)I" } : Jvm.MethodName)) ∈ xws := xws_in 384 (by decide +kernel)
theorem xw_332 : (Jvm.Cond.code ({ cls := "NeverBelow", name := "cut", desc := "(II)I" } : Jvm.MethodName) prog_1_method_17_code (5 : Nat) (Option.some Jvm.ClassFile.FieldType.int)) ∈ xws := xws_in 385 (by decide +kernel)
theorem xw_342 : (Jvm.Cond.methodLink "NeverBelowLaw" (86 : Nat) ({ cls := "NeverBelow", name := "parts", desc := "(II)I" } : Jvm.MethodName)) ∈ xws := xws_in 395 (by decide +kernel)
theorem xw_343 : (Jvm.Cond.instanceMethod ({ cls := "NeverBelow", name := "parts", desc := "(II)I" } : Jvm.MethodName)) ∈ xws := xws_in 396 (by decide +kernel)
theorem xw_344 : (Jvm.Cond.selects "NeverBelow" ({ cls := "NeverBelow", name := "parts", desc := "(II)I" } : Jvm.MethodName) ({ cls := "NeverBelow", name := "parts", desc := "(II)I" } : Jvm.MethodName)) ∈ xws := xws_in 397 (by decide +kernel)
theorem xw_345 : (Jvm.Cond.code ({ cls := "NeverBelow", name := "parts", desc := "(II)I" } : Jvm.MethodName) prog_1_method_18_code (4 : Nat) (Option.some Jvm.ClassFile.FieldType.int)) ∈ xws := xws_in 398 (by decide +kernel)
theorem xw_351 : (Jvm.Cond.methodLink "NeverBelowLaw" (90 : Nat) ({ cls := "NeverBelow", name := "cover", desc := "(I)I" } : Jvm.MethodName)) ∈ xws := xws_in 404 (by decide +kernel)
theorem xw_352 : (Jvm.Cond.instanceMethod ({ cls := "NeverBelow", name := "cover", desc := "(I)I" } : Jvm.MethodName)) ∈ xws := xws_in 405 (by decide +kernel)
theorem xw_353 : (Jvm.Cond.selects "NeverBelow" ({ cls := "NeverBelow", name := "cover", desc := "(I)I" } : Jvm.MethodName) ({ cls := "NeverBelow", name := "cover", desc := "(I)I" } : Jvm.MethodName)) ∈ xws := xws_in 406 (by decide +kernel)
theorem xw_354 : (Jvm.Cond.code ({ cls := "NeverBelow", name := "cover", desc := "(I)I" } : Jvm.MethodName) prog_1_method_19_code (3 : Nat) (Option.some Jvm.ClassFile.FieldType.int)) ∈ xws := xws_in 407 (by decide +kernel)
theorem xw_382 : (Jvm.Cond.methodLink "NeverBelowLaw" (94 : Nat) ({ cls := "NeverBelow", name := "open", desc := "(I)I" } : Jvm.MethodName)) ∈ xws := xws_in 435 (by decide +kernel)
theorem xw_383 : (Jvm.Cond.instanceMethod ({ cls := "NeverBelow", name := "open", desc := "(I)I" } : Jvm.MethodName)) ∈ xws := xws_in 436 (by decide +kernel)
theorem xw_384 : (Jvm.Cond.selects "NeverBelow" ({ cls := "NeverBelow", name := "open", desc := "(I)I" } : Jvm.MethodName) ({ cls := "NeverBelow", name := "open", desc := "(I)I" } : Jvm.MethodName)) ∈ xws := xws_in 437 (by decide +kernel)
theorem xw_385 : (Jvm.Cond.code ({ cls := "NeverBelow", name := "open", desc := "(I)I" } : Jvm.MethodName) prog_1_method_20_code (2 : Nat) (Option.some Jvm.ClassFile.FieldType.int)) ∈ xws := xws_in 438 (by decide +kernel)
theorem xw_390 : (Jvm.Cond.methodLink "NeverBelowLaw" (98 : Nat) ({ cls := "NeverBelow", name := "partly", desc := "(II)I" } : Jvm.MethodName)) ∈ xws := xws_in 443 (by decide +kernel)
theorem xw_391 : (Jvm.Cond.instanceMethod ({ cls := "NeverBelow", name := "partly", desc := "(II)I" } : Jvm.MethodName)) ∈ xws := xws_in 444 (by decide +kernel)
theorem xw_392 : (Jvm.Cond.selects "NeverBelow" ({ cls := "NeverBelow", name := "partly", desc := "(II)I" } : Jvm.MethodName) ({ cls := "NeverBelow", name := "partly", desc := "(II)I" } : Jvm.MethodName)) ∈ xws := xws_in 445 (by decide +kernel)
theorem xw_393 : (Jvm.Cond.code ({ cls := "NeverBelow", name := "partly", desc := "(II)I" } : Jvm.MethodName) prog_1_method_21_code (3 : Nat) (Option.some Jvm.ClassFile.FieldType.int)) ∈ xws := xws_in 446 (by decide +kernel)
theorem xw_394 : (Jvm.Cond.methodLink "NeverBelowLaw" (102 : Nat) ({ cls := "NeverBelow", name := "where", desc := "(I)I" } : Jvm.MethodName)) ∈ xws := xws_in 447 (by decide +kernel)
theorem xw_395 : (Jvm.Cond.instanceMethod ({ cls := "NeverBelow", name := "where", desc := "(I)I" } : Jvm.MethodName)) ∈ xws := xws_in 448 (by decide +kernel)
theorem xw_396 : (Jvm.Cond.selects "NeverBelow" ({ cls := "NeverBelow", name := "where", desc := "(I)I" } : Jvm.MethodName) ({ cls := "NeverBelow", name := "where", desc := "(I)I" } : Jvm.MethodName)) ∈ xws := xws_in 449 (by decide +kernel)
theorem xw_397 : (Jvm.Cond.code ({ cls := "NeverBelow", name := "where", desc := "(I)I" } : Jvm.MethodName) prog_1_method_22_code (2 : Nat) (Option.some Jvm.ClassFile.FieldType.int)) ∈ xws := xws_in 450 (by decide +kernel)
theorem xw_398 : (Jvm.Cond.methodLink "NeverBelowLaw" (106 : Nat) ({ cls := "NeverBelow", name := "least", desc := "()J" } : Jvm.MethodName)) ∈ xws := xws_in 451 (by decide +kernel)
theorem xw_399 : (Jvm.Cond.instanceMethod ({ cls := "NeverBelow", name := "least", desc := "()J" } : Jvm.MethodName)) ∈ xws := xws_in 452 (by decide +kernel)
theorem xw_400 : (Jvm.Cond.selects "NeverBelow" ({ cls := "NeverBelow", name := "least", desc := "()J" } : Jvm.MethodName) ({ cls := "NeverBelow", name := "least", desc := "()J" } : Jvm.MethodName)) ∈ xws := xws_in 453 (by decide +kernel)
theorem xw_401 : (Jvm.Cond.code ({ cls := "NeverBelow", name := "least", desc := "()J" } : Jvm.MethodName) prog_1_method_23_code (1 : Nat) (Option.some Jvm.ClassFile.FieldType.long)) ∈ xws := xws_in 454 (by decide +kernel)
theorem xw_408 : (Jvm.Cond.methodLink "NeverBelowLaw" (111 : Nat) ({ cls := "NeverBelow", name := "form", desc := "(III)J" } : Jvm.MethodName)) ∈ xws := xws_in 461 (by decide +kernel)
theorem xw_409 : (Jvm.Cond.instanceMethod ({ cls := "NeverBelow", name := "form", desc := "(III)J" } : Jvm.MethodName)) ∈ xws := xws_in 462 (by decide +kernel)
theorem xw_410 : (Jvm.Cond.selects "NeverBelow" ({ cls := "NeverBelow", name := "form", desc := "(III)J" } : Jvm.MethodName) ({ cls := "NeverBelow", name := "form", desc := "(III)J" } : Jvm.MethodName)) ∈ xws := xws_in 463 (by decide +kernel)
theorem xw_411 : (Jvm.Cond.code ({ cls := "NeverBelow", name := "form", desc := "(III)J" } : Jvm.MethodName) prog_1_method_24_code (5 : Nat) (Option.some Jvm.ClassFile.FieldType.long)) ∈ xws := xws_in 464 (by decide +kernel)
theorem xw_422 : (Jvm.Cond.methodLink "NeverBelowLaw" (115 : Nat) ({ cls := "NeverBelow", name := "squares", desc := "(I)I" } : Jvm.MethodName)) ∈ xws := xws_in 475 (by decide +kernel)
theorem xw_423 : (Jvm.Cond.instanceMethod ({ cls := "NeverBelow", name := "squares", desc := "(I)I" } : Jvm.MethodName)) ∈ xws := xws_in 476 (by decide +kernel)
theorem xw_424 : (Jvm.Cond.selects "NeverBelow" ({ cls := "NeverBelow", name := "squares", desc := "(I)I" } : Jvm.MethodName) ({ cls := "NeverBelow", name := "squares", desc := "(I)I" } : Jvm.MethodName)) ∈ xws := xws_in 477 (by decide +kernel)
theorem xw_425 : (Jvm.Cond.code ({ cls := "NeverBelow", name := "squares", desc := "(I)I" } : Jvm.MethodName) prog_1_method_25_code (4 : Nat) (Option.some Jvm.ClassFile.FieldType.int)) ∈ xws := xws_in 478 (by decide +kernel)
theorem xw_495 : (Jvm.Cond.methodLink "NeverBelowLaw" (119 : Nat) ({ cls := "NeverBelow", name := "corners", desc := "(II)I" } : Jvm.MethodName)) ∈ xws := xws_in 548 (by decide +kernel)
theorem xw_496 : (Jvm.Cond.instanceMethod ({ cls := "NeverBelow", name := "corners", desc := "(II)I" } : Jvm.MethodName)) ∈ xws := xws_in 549 (by decide +kernel)
theorem xw_497 : (Jvm.Cond.selects "NeverBelow" ({ cls := "NeverBelow", name := "corners", desc := "(II)I" } : Jvm.MethodName) ({ cls := "NeverBelow", name := "corners", desc := "(II)I" } : Jvm.MethodName)) ∈ xws := xws_in 550 (by decide +kernel)
theorem xw_498 : (Jvm.Cond.code ({ cls := "NeverBelow", name := "corners", desc := "(II)I" } : Jvm.MethodName) prog_1_method_26_code (5 : Nat) (Option.some Jvm.ClassFile.FieldType.int)) ∈ xws := xws_in 551 (by decide +kernel)
theorem xw_537 : (Jvm.Cond.methodLink "NeverBelowLaw" (123 : Nat) ({ cls := "NeverBelow", name := "proved", desc := "()I" } : Jvm.MethodName)) ∈ xws := xws_in 590 (by decide +kernel)
theorem xw_538 : (Jvm.Cond.instanceMethod ({ cls := "NeverBelow", name := "proved", desc := "()I" } : Jvm.MethodName)) ∈ xws := xws_in 591 (by decide +kernel)
theorem xw_539 : (Jvm.Cond.selects "NeverBelow" ({ cls := "NeverBelow", name := "proved", desc := "()I" } : Jvm.MethodName) ({ cls := "NeverBelow", name := "proved", desc := "()I" } : Jvm.MethodName)) ∈ xws := xws_in 592 (by decide +kernel)
theorem xw_540 : (Jvm.Cond.code ({ cls := "NeverBelow", name := "proved", desc := "()I" } : Jvm.MethodName) prog_1_method_27_code (3 : Nat) (Option.some Jvm.ClassFile.FieldType.int)) ∈ xws := xws_in 593 (by decide +kernel)
theorem xw_554 : (Jvm.Cond.methodLink "NeverBelowLaw" (128 : Nat) ({ cls := "NeverBelow", name := "span", desc := "(IIIII)I" } : Jvm.MethodName)) ∈ xws := xws_in 607 (by decide +kernel)
theorem xw_555 : (Jvm.Cond.instanceMethod ({ cls := "NeverBelow", name := "span", desc := "(IIIII)I" } : Jvm.MethodName)) ∈ xws := xws_in 608 (by decide +kernel)
theorem xw_556 : (Jvm.Cond.selects "NeverBelow" ({ cls := "NeverBelow", name := "span", desc := "(IIIII)I" } : Jvm.MethodName) ({ cls := "NeverBelow", name := "span", desc := "(IIIII)I" } : Jvm.MethodName)) ∈ xws := xws_in 609 (by decide +kernel)
theorem xw_557 : (Jvm.Cond.code ({ cls := "NeverBelow", name := "span", desc := "(IIIII)I" } : Jvm.MethodName) prog_1_method_28_code (10 : Nat) (Option.some Jvm.ClassFile.FieldType.int)) ∈ xws := xws_in 610 (by decide +kernel)
theorem xw_580 : (Jvm.Cond.methodLink "NeverBelowLaw" (133 : Nat) ({ cls := "NeverBelow", name := "proof", desc := "(II)I" } : Jvm.MethodName)) ∈ xws := xws_in 633 (by decide +kernel)
theorem xw_581 : (Jvm.Cond.instanceMethod ({ cls := "NeverBelow", name := "proof", desc := "(II)I" } : Jvm.MethodName)) ∈ xws := xws_in 634 (by decide +kernel)
theorem xw_582 : (Jvm.Cond.selects "NeverBelow" ({ cls := "NeverBelow", name := "proof", desc := "(II)I" } : Jvm.MethodName) ({ cls := "NeverBelow", name := "proof", desc := "(II)I" } : Jvm.MethodName)) ∈ xws := xws_in 635 (by decide +kernel)
theorem xw_583 : (Jvm.Cond.code ({ cls := "NeverBelow", name := "proof", desc := "(II)I" } : Jvm.MethodName) prog_1_method_29_code (4 : Nat) (Option.some Jvm.ClassFile.FieldType.int)) ∈ xws := xws_in 636 (by decide +kernel)
theorem xw_617 : (Jvm.Cond.methodLink "NeverBelowLaw" (137 : Nat) ({ cls := "NeverBelow", name := "number", desc := "(II)J" } : Jvm.MethodName)) ∈ xws := xws_in 670 (by decide +kernel)
theorem xw_618 : (Jvm.Cond.instanceMethod ({ cls := "NeverBelow", name := "number", desc := "(II)J" } : Jvm.MethodName)) ∈ xws := xws_in 671 (by decide +kernel)
theorem xw_619 : (Jvm.Cond.selects "NeverBelow" ({ cls := "NeverBelow", name := "number", desc := "(II)J" } : Jvm.MethodName) ({ cls := "NeverBelow", name := "number", desc := "(II)J" } : Jvm.MethodName)) ∈ xws := xws_in 672 (by decide +kernel)
theorem xw_620 : (Jvm.Cond.code ({ cls := "NeverBelow", name := "number", desc := "(II)J" } : Jvm.MethodName) prog_1_method_30_code (4 : Nat) (Option.some Jvm.ClassFile.FieldType.long)) ∈ xws := xws_in 673 (by decide +kernel)
theorem xw_629 : (Jvm.Cond.methodLink "NeverBelowLaw" (141 : Nat) ({ cls := "NeverBelow", name := "forge", desc := "(IIJ)I" } : Jvm.MethodName)) ∈ xws := xws_in 682 (by decide +kernel)
theorem xw_630 : (Jvm.Cond.instanceMethod ({ cls := "NeverBelow", name := "forge", desc := "(IIJ)I" } : Jvm.MethodName)) ∈ xws := xws_in 683 (by decide +kernel)
theorem xw_631 : (Jvm.Cond.selects "NeverBelow" ({ cls := "NeverBelow", name := "forge", desc := "(IIJ)I" } : Jvm.MethodName) ({ cls := "NeverBelow", name := "forge", desc := "(IIJ)I" } : Jvm.MethodName)) ∈ xws := xws_in 684 (by decide +kernel)
theorem xw_632 : (Jvm.Cond.code ({ cls := "NeverBelow", name := "forge", desc := "(IIJ)I" } : Jvm.MethodName) prog_1_method_31_code (6 : Nat) (Option.some Jvm.ClassFile.FieldType.int)) ∈ xws := xws_in 685 (by decide +kernel)
theorem xw_634 : (Jvm.Cond.methodLink "NeverBelowLaw" (145 : Nat) ({ cls := "NeverBelow", name := "check", desc := "(I)I" } : Jvm.MethodName)) ∈ xws := xws_in 687 (by decide +kernel)
theorem xw_635 : (Jvm.Cond.instanceMethod ({ cls := "NeverBelow", name := "check", desc := "(I)I" } : Jvm.MethodName)) ∈ xws := xws_in 688 (by decide +kernel)
theorem xw_636 : (Jvm.Cond.selects "NeverBelow" ({ cls := "NeverBelow", name := "check", desc := "(I)I" } : Jvm.MethodName) ({ cls := "NeverBelow", name := "check", desc := "(I)I" } : Jvm.MethodName)) ∈ xws := xws_in 689 (by decide +kernel)
theorem xw_637 : (Jvm.Cond.code ({ cls := "NeverBelow", name := "check", desc := "(I)I" } : Jvm.MethodName) prog_1_method_32_code (4 : Nat) (Option.some Jvm.ClassFile.FieldType.int)) ∈ xws := xws_in 690 (by decide +kernel)
theorem xw_749 : (Jvm.Cond.methodLink "NeverBelowLaw" (149 : Nat) ({ cls := "NeverBelow", name := "as", desc := "(II)I" } : Jvm.MethodName)) ∈ xws := xws_in 802 (by decide +kernel)
theorem xw_750 : (Jvm.Cond.instanceMethod ({ cls := "NeverBelow", name := "as", desc := "(II)I" } : Jvm.MethodName)) ∈ xws := xws_in 803 (by decide +kernel)
theorem xw_751 : (Jvm.Cond.selects "NeverBelow" ({ cls := "NeverBelow", name := "as", desc := "(II)I" } : Jvm.MethodName) ({ cls := "NeverBelow", name := "as", desc := "(II)I" } : Jvm.MethodName)) ∈ xws := xws_in 804 (by decide +kernel)
theorem xw_752 : (Jvm.Cond.code ({ cls := "NeverBelow", name := "as", desc := "(II)I" } : Jvm.MethodName) prog_1_method_33_code (4 : Nat) (Option.some Jvm.ClassFile.FieldType.int)) ∈ xws := xws_in 805 (by decide +kernel)
theorem xw_756 : (Jvm.Cond.methodLink "NeverBelowLaw" (153 : Nat) ({ cls := "NeverBelow", name := "tell", desc := "(I)I" } : Jvm.MethodName)) ∈ xws := xws_in 809 (by decide +kernel)
theorem xw_757 : (Jvm.Cond.instanceMethod ({ cls := "NeverBelow", name := "tell", desc := "(I)I" } : Jvm.MethodName)) ∈ xws := xws_in 810 (by decide +kernel)
theorem xw_758 : (Jvm.Cond.selects "NeverBelow" ({ cls := "NeverBelow", name := "tell", desc := "(I)I" } : Jvm.MethodName) ({ cls := "NeverBelow", name := "tell", desc := "(I)I" } : Jvm.MethodName)) ∈ xws := xws_in 811 (by decide +kernel)
theorem xw_759 : (Jvm.Cond.code ({ cls := "NeverBelow", name := "tell", desc := "(I)I" } : Jvm.MethodName) prog_1_method_34_code (3 : Nat) (Option.some Jvm.ClassFile.FieldType.int)) ∈ xws := xws_in 812 (by decide +kernel)
theorem xw_786 : (Jvm.Cond.methodLink "NeverBelowLaw" (157 : Nat) ({ cls := "NeverBelow", name := "cost", desc := "(I)I" } : Jvm.MethodName)) ∈ xws := xws_in 839 (by decide +kernel)
theorem xw_787 : (Jvm.Cond.instanceMethod ({ cls := "NeverBelow", name := "cost", desc := "(I)I" } : Jvm.MethodName)) ∈ xws := xws_in 840 (by decide +kernel)
theorem xw_788 : (Jvm.Cond.selects "NeverBelow" ({ cls := "NeverBelow", name := "cost", desc := "(I)I" } : Jvm.MethodName) ({ cls := "NeverBelow", name := "cost", desc := "(I)I" } : Jvm.MethodName)) ∈ xws := xws_in 841 (by decide +kernel)
theorem xw_789 : (Jvm.Cond.code ({ cls := "NeverBelow", name := "cost", desc := "(I)I" } : Jvm.MethodName) prog_1_method_35_code (3 : Nat) (Option.some Jvm.ClassFile.FieldType.int)) ∈ xws := xws_in 842 (by decide +kernel)
theorem xw_800 : (Jvm.Cond.methodLink "NeverBelowLaw" (161 : Nat) ({ cls := "NeverBelow", name := "trace", desc := "()I" } : Jvm.MethodName)) ∈ xws := xws_in 853 (by decide +kernel)
theorem xw_801 : (Jvm.Cond.instanceMethod ({ cls := "NeverBelow", name := "trace", desc := "()I" } : Jvm.MethodName)) ∈ xws := xws_in 854 (by decide +kernel)
theorem xw_802 : (Jvm.Cond.selects "NeverBelow" ({ cls := "NeverBelow", name := "trace", desc := "()I" } : Jvm.MethodName) ({ cls := "NeverBelow", name := "trace", desc := "()I" } : Jvm.MethodName)) ∈ xws := xws_in 855 (by decide +kernel)
theorem xw_803 : (Jvm.Cond.code ({ cls := "NeverBelow", name := "trace", desc := "()I" } : Jvm.MethodName) prog_1_method_36_code (1 : Nat) (Option.some Jvm.ClassFile.FieldType.int)) ∈ xws := xws_in 856 (by decide +kernel)
theorem xw_804 : (Jvm.Cond.methodLink "NeverBelowLaw" (165 : Nat) ({ cls := "NeverBelow", name := "fault", desc := "()I" } : Jvm.MethodName)) ∈ xws := xws_in 857 (by decide +kernel)
theorem xw_805 : (Jvm.Cond.instanceMethod ({ cls := "NeverBelow", name := "fault", desc := "()I" } : Jvm.MethodName)) ∈ xws := xws_in 858 (by decide +kernel)
theorem xw_806 : (Jvm.Cond.selects "NeverBelow" ({ cls := "NeverBelow", name := "fault", desc := "()I" } : Jvm.MethodName) ({ cls := "NeverBelow", name := "fault", desc := "()I" } : Jvm.MethodName)) ∈ xws := xws_in 859 (by decide +kernel)
theorem xw_807 : (Jvm.Cond.code ({ cls := "NeverBelow", name := "fault", desc := "()I" } : Jvm.MethodName) prog_1_method_37_code (1 : Nat) (Option.some Jvm.ClassFile.FieldType.int)) ∈ xws := xws_in 860 (by decide +kernel)
theorem xw_808 : (Jvm.Cond.methodLink "NeverBelowLaw" (169 : Nat) ({ cls := "NeverBelow", name := "told", desc := "(I)I" } : Jvm.MethodName)) ∈ xws := xws_in 861 (by decide +kernel)
theorem xw_809 : (Jvm.Cond.instanceMethod ({ cls := "NeverBelow", name := "told", desc := "(I)I" } : Jvm.MethodName)) ∈ xws := xws_in 862 (by decide +kernel)
theorem xw_810 : (Jvm.Cond.selects "NeverBelow" ({ cls := "NeverBelow", name := "told", desc := "(I)I" } : Jvm.MethodName) ({ cls := "NeverBelow", name := "told", desc := "(I)I" } : Jvm.MethodName)) ∈ xws := xws_in 863 (by decide +kernel)
theorem xw_811 : (Jvm.Cond.code ({ cls := "NeverBelow", name := "told", desc := "(I)I" } : Jvm.MethodName) prog_1_method_38_code (2 : Nat) (Option.some Jvm.ClassFile.FieldType.int)) ∈ xws := xws_in 864 (by decide +kernel)
theorem xw_812 : (Jvm.Cond.classLink "NeverBelowLaw" (10 : Nat) "NeverBelowModel") ∈ xws := xws_in 865 (by decide +kernel)
theorem xw_813 : (Jvm.Cond.instantiable "NeverBelowModel" (32 : Nat)) ∈ xws := xws_in 866 (by decide +kernel)
theorem xw_814 : (Jvm.Cond.methodLink "NeverBelowLaw" (12 : Nat) ({ cls := "NeverBelowModel", name := "<init>", desc := "()V" } : Jvm.MethodName)) ∈ xws := xws_in 867 (by decide +kernel)
theorem xw_815 : (Jvm.Cond.instanceMethod ({ cls := "NeverBelowModel", name := "<init>", desc := "()V" } : Jvm.MethodName)) ∈ xws := xws_in 868 (by decide +kernel)
theorem xw_816 : (Jvm.Cond.code ({ cls := "NeverBelowModel", name := "<init>", desc := "()V" } : Jvm.MethodName) prog_13_method_1_code (1 : Nat) (Option.none : Option Jvm.ClassFile.FieldType)) ∈ xws := xws_in 869 (by decide +kernel)
theorem xw_915 : (Jvm.Cond.methodLink "NeverBelowLaw" (17 : Nat) ({ cls := "NeverBelowModel", name := "sheet", desc := "(III)I" } : Jvm.MethodName)) ∈ xws := xws_in 968 (by decide +kernel)
theorem xw_916 : (Jvm.Cond.instanceMethod ({ cls := "NeverBelowModel", name := "sheet", desc := "(III)I" } : Jvm.MethodName)) ∈ xws := xws_in 969 (by decide +kernel)
theorem xw_917 : (Jvm.Cond.selects "NeverBelowModel" ({ cls := "NeverBelowModel", name := "sheet", desc := "(III)I" } : Jvm.MethodName) ({ cls := "NeverBelowModel", name := "sheet", desc := "(III)I" } : Jvm.MethodName)) ∈ xws := xws_in 970 (by decide +kernel)
theorem xw_918 : (Jvm.Cond.code ({ cls := "NeverBelowModel", name := "sheet", desc := "(III)I" } : Jvm.MethodName) prog_13_method_6_code (5 : Nat) (Option.some Jvm.ClassFile.FieldType.int)) ∈ xws := xws_in 971 (by decide +kernel)
theorem xw_928 : (Jvm.Cond.methodLink "NeverBelowLaw" (22 : Nat) ({ cls := "NeverBelowModel", name := "lose", desc := "(I)I" } : Jvm.MethodName)) ∈ xws := xws_in 981 (by decide +kernel)
theorem xw_929 : (Jvm.Cond.instanceMethod ({ cls := "NeverBelowModel", name := "lose", desc := "(I)I" } : Jvm.MethodName)) ∈ xws := xws_in 982 (by decide +kernel)
theorem xw_930 : (Jvm.Cond.selects "NeverBelowModel" ({ cls := "NeverBelowModel", name := "lose", desc := "(I)I" } : Jvm.MethodName) ({ cls := "NeverBelowModel", name := "lose", desc := "(I)I" } : Jvm.MethodName)) ∈ xws := xws_in 983 (by decide +kernel)
theorem xw_931 : (Jvm.Cond.code ({ cls := "NeverBelowModel", name := "lose", desc := "(I)I" } : Jvm.MethodName) prog_13_method_7_code (3 : Nat) (Option.some Jvm.ClassFile.FieldType.int)) ∈ xws := xws_in 984 (by decide +kernel)
theorem xw_932 : (Jvm.Cond.methodLink "NeverBelowLaw" (29 : Nat) ({ cls := "NeverBelowModel", name := "put", desc := "(IIJ)I" } : Jvm.MethodName)) ∈ xws := xws_in 985 (by decide +kernel)
theorem xw_933 : (Jvm.Cond.instanceMethod ({ cls := "NeverBelowModel", name := "put", desc := "(IIJ)I" } : Jvm.MethodName)) ∈ xws := xws_in 986 (by decide +kernel)
theorem xw_934 : (Jvm.Cond.selects "NeverBelowModel" ({ cls := "NeverBelowModel", name := "put", desc := "(IIJ)I" } : Jvm.MethodName) ({ cls := "NeverBelowModel", name := "put", desc := "(IIJ)I" } : Jvm.MethodName)) ∈ xws := xws_in 987 (by decide +kernel)
theorem xw_935 : (Jvm.Cond.code ({ cls := "NeverBelowModel", name := "put", desc := "(IIJ)I" } : Jvm.MethodName) prog_13_method_8_code (5 : Nat) (Option.some Jvm.ClassFile.FieldType.int)) ∈ xws := xws_in 988 (by decide +kernel)
theorem xw_936 : (Jvm.Cond.methodLink "NeverBelowLaw" (34 : Nat) ({ cls := "NeverBelowModel", name := "at", desc := "(III)J" } : Jvm.MethodName)) ∈ xws := xws_in 989 (by decide +kernel)
theorem xw_937 : (Jvm.Cond.instanceMethod ({ cls := "NeverBelowModel", name := "at", desc := "(III)J" } : Jvm.MethodName)) ∈ xws := xws_in 990 (by decide +kernel)
theorem xw_938 : (Jvm.Cond.selects "NeverBelowModel" ({ cls := "NeverBelowModel", name := "at", desc := "(III)J" } : Jvm.MethodName) ({ cls := "NeverBelowModel", name := "at", desc := "(III)J" } : Jvm.MethodName)) ∈ xws := xws_in 991 (by decide +kernel)
theorem xw_939 : (Jvm.Cond.code ({ cls := "NeverBelowModel", name := "at", desc := "(III)J" } : Jvm.MethodName) prog_13_method_9_code (4 : Nat) (Option.some Jvm.ClassFile.FieldType.long)) ∈ xws := xws_in 992 (by decide +kernel)
theorem xw_945 : (Jvm.Cond.methodLink "NeverBelowLaw" (39 : Nat) ({ cls := "NeverBelowModel", name := "poly", desc := "(IIII)I" } : Jvm.MethodName)) ∈ xws := xws_in 998 (by decide +kernel)
theorem xw_946 : (Jvm.Cond.instanceMethod ({ cls := "NeverBelowModel", name := "poly", desc := "(IIII)I" } : Jvm.MethodName)) ∈ xws := xws_in 999 (by decide +kernel)
theorem xw_947 : (Jvm.Cond.selects "NeverBelowModel" ({ cls := "NeverBelowModel", name := "poly", desc := "(IIII)I" } : Jvm.MethodName) ({ cls := "NeverBelowModel", name := "poly", desc := "(IIII)I" } : Jvm.MethodName)) ∈ xws := xws_in 1000 (by decide +kernel)
theorem xw_948 : (Jvm.Cond.code ({ cls := "NeverBelowModel", name := "poly", desc := "(IIII)I" } : Jvm.MethodName) prog_13_method_14_code (6 : Nat) (Option.some Jvm.ClassFile.FieldType.int)) ∈ xws := xws_in 1001 (by decide +kernel)
theorem xw_959 : (Jvm.Cond.methodLink "NeverBelowLaw" (43 : Nat) ({ cls := "NeverBelowModel", name := "add", desc := "(III)I" } : Jvm.MethodName)) ∈ xws := xws_in 1012 (by decide +kernel)
theorem xw_960 : (Jvm.Cond.instanceMethod ({ cls := "NeverBelowModel", name := "add", desc := "(III)I" } : Jvm.MethodName)) ∈ xws := xws_in 1013 (by decide +kernel)
theorem xw_961 : (Jvm.Cond.selects "NeverBelowModel" ({ cls := "NeverBelowModel", name := "add", desc := "(III)I" } : Jvm.MethodName) ({ cls := "NeverBelowModel", name := "add", desc := "(III)I" } : Jvm.MethodName)) ∈ xws := xws_in 1014 (by decide +kernel)
theorem xw_962 : (Jvm.Cond.code ({ cls := "NeverBelowModel", name := "add", desc := "(III)I" } : Jvm.MethodName) prog_13_method_15_code (5 : Nat) (Option.some Jvm.ClassFile.FieldType.int)) ∈ xws := xws_in 1015 (by decide +kernel)
theorem xw_971 : (Jvm.Cond.methodLink "NeverBelowLaw" (48 : Nat) ({ cls := "NeverBelowModel", name := "times", desc := "(II)I" } : Jvm.MethodName)) ∈ xws := xws_in 1024 (by decide +kernel)
theorem xw_972 : (Jvm.Cond.instanceMethod ({ cls := "NeverBelowModel", name := "times", desc := "(II)I" } : Jvm.MethodName)) ∈ xws := xws_in 1025 (by decide +kernel)
theorem xw_973 : (Jvm.Cond.selects "NeverBelowModel" ({ cls := "NeverBelowModel", name := "times", desc := "(II)I" } : Jvm.MethodName) ({ cls := "NeverBelowModel", name := "times", desc := "(II)I" } : Jvm.MethodName)) ∈ xws := xws_in 1026 (by decide +kernel)
theorem xw_974 : (Jvm.Cond.code ({ cls := "NeverBelowModel", name := "times", desc := "(II)I" } : Jvm.MethodName) prog_13_method_16_code (6 : Nat) (Option.some Jvm.ClassFile.FieldType.int)) ∈ xws := xws_in 1027 (by decide +kernel)
theorem xw_975 : (Jvm.Cond.methodLink "NeverBelowLaw" (52 : Nat) ({ cls := "NeverBelowModel", name := "slope", desc := "(II)I" } : Jvm.MethodName)) ∈ xws := xws_in 1028 (by decide +kernel)
theorem xw_976 : (Jvm.Cond.instanceMethod ({ cls := "NeverBelowModel", name := "slope", desc := "(II)I" } : Jvm.MethodName)) ∈ xws := xws_in 1029 (by decide +kernel)
theorem xw_977 : (Jvm.Cond.selects "NeverBelowModel" ({ cls := "NeverBelowModel", name := "slope", desc := "(II)I" } : Jvm.MethodName) ({ cls := "NeverBelowModel", name := "slope", desc := "(II)I" } : Jvm.MethodName)) ∈ xws := xws_in 1030 (by decide +kernel)
theorem xw_978 : (Jvm.Cond.code ({ cls := "NeverBelowModel", name := "slope", desc := "(II)I" } : Jvm.MethodName) prog_13_method_17_code (5 : Nat) (Option.some Jvm.ClassFile.FieldType.int)) ∈ xws := xws_in 1031 (by decide +kernel)
theorem xw_979 : (Jvm.Cond.methodLink "NeverBelowLaw" (57 : Nat) ({ cls := "NeverBelowModel", name := "term", desc := "(II)J" } : Jvm.MethodName)) ∈ xws := xws_in 1032 (by decide +kernel)
theorem xw_980 : (Jvm.Cond.instanceMethod ({ cls := "NeverBelowModel", name := "term", desc := "(II)J" } : Jvm.MethodName)) ∈ xws := xws_in 1033 (by decide +kernel)
theorem xw_981 : (Jvm.Cond.selects "NeverBelowModel" ({ cls := "NeverBelowModel", name := "term", desc := "(II)J" } : Jvm.MethodName) ({ cls := "NeverBelowModel", name := "term", desc := "(II)J" } : Jvm.MethodName)) ∈ xws := xws_in 1034 (by decide +kernel)
theorem xw_982 : (Jvm.Cond.code ({ cls := "NeverBelowModel", name := "term", desc := "(II)J" } : Jvm.MethodName) prog_13_method_18_code (3 : Nat) (Option.some Jvm.ClassFile.FieldType.long)) ∈ xws := xws_in 1035 (by decide +kernel)
theorem xw_984 : (Jvm.Cond.methodLink "NeverBelowLaw" (61 : Nat) ({ cls := "NeverBelowModel", name := "value", desc := "(III)J" } : Jvm.MethodName)) ∈ xws := xws_in 1037 (by decide +kernel)
theorem xw_985 : (Jvm.Cond.instanceMethod ({ cls := "NeverBelowModel", name := "value", desc := "(III)J" } : Jvm.MethodName)) ∈ xws := xws_in 1038 (by decide +kernel)
theorem xw_986 : (Jvm.Cond.selects "NeverBelowModel" ({ cls := "NeverBelowModel", name := "value", desc := "(III)J" } : Jvm.MethodName) ({ cls := "NeverBelowModel", name := "value", desc := "(III)J" } : Jvm.MethodName)) ∈ xws := xws_in 1039 (by decide +kernel)
theorem xw_987 : (Jvm.Cond.code ({ cls := "NeverBelowModel", name := "value", desc := "(III)J" } : Jvm.MethodName) prog_13_method_19_code (7 : Nat) (Option.some Jvm.ClassFile.FieldType.long)) ∈ xws := xws_in 1040 (by decide +kernel)
theorem xw_995 : (Jvm.Cond.methodLink "NeverBelowLaw" (65 : Nat) ({ cls := "NeverBelowModel", name := "same", desc := "(II)I" } : Jvm.MethodName)) ∈ xws := xws_in 1048 (by decide +kernel)
theorem xw_996 : (Jvm.Cond.instanceMethod ({ cls := "NeverBelowModel", name := "same", desc := "(II)I" } : Jvm.MethodName)) ∈ xws := xws_in 1049 (by decide +kernel)
theorem xw_997 : (Jvm.Cond.selects "NeverBelowModel" ({ cls := "NeverBelowModel", name := "same", desc := "(II)I" } : Jvm.MethodName) ({ cls := "NeverBelowModel", name := "same", desc := "(II)I" } : Jvm.MethodName)) ∈ xws := xws_in 1050 (by decide +kernel)
theorem xw_998 : (Jvm.Cond.code ({ cls := "NeverBelowModel", name := "same", desc := "(II)I" } : Jvm.MethodName) prog_13_method_21_code (4 : Nat) (Option.some Jvm.ClassFile.FieldType.int)) ∈ xws := xws_in 1051 (by decide +kernel)
theorem xw_999 : (Jvm.Cond.methodLink "NeverBelowLaw" (69 : Nat) ({ cls := "NeverBelowModel", name := "box", desc := "(IIII)I" } : Jvm.MethodName)) ∈ xws := xws_in 1052 (by decide +kernel)
set_option maxRecDepth 100000 in
theorem lv_L_13_9 : xLV RL 13 9 yX10_sheet := ⟨⟨_, _, rfl⟩, xw_152, xw_153, xw_154⟩
set_option maxRecDepth 100000 in
theorem cd_X10_sheet : xCd yX10_sheet cX10_sheet 4 (some .int) 3 := ⟨xw_155, xw_1, by decide +kernel, by decide +kernel⟩
set_option maxRecDepth 100000 in
theorem lv_L_17_10 : xLV RL 17 10 yX11_sheet := ⟨⟨_, _, rfl⟩, xw_915, xw_916, xw_917⟩
set_option maxRecDepth 100000 in
theorem cd_X11_sheet : xCd yX11_sheet cX11_sheet 5 (some .int) 3 := ⟨xw_918, xw_5, by decide +kernel, by decide +kernel⟩
set_option maxRecDepth 100000 in
theorem lv_L_18_9 : xLV RL 18 9 yX10_lose := ⟨⟨_, _, rfl⟩, xw_183, xw_184, xw_185⟩
set_option maxRecDepth 100000 in
theorem cd_X10_lose : xCd yX10_lose cX10_lose 3 (some .int) 1 := ⟨xw_186, xw_1, by decide +kernel, by decide +kernel⟩
set_option maxRecDepth 100000 in
theorem lv_L_22_10 : xLV RL 22 10 yX11_lose := ⟨⟨_, _, rfl⟩, xw_928, xw_929, xw_930⟩
set_option maxRecDepth 100000 in
theorem cd_X11_lose : xCd yX11_lose cX11_lose 3 (some .int) 1 := ⟨xw_931, xw_5, by decide +kernel, by decide +kernel⟩
set_option maxRecDepth 100000 in
theorem lv_L_25_9 : xLV RL 25 9 yX10_put := ⟨⟨_, _, rfl⟩, xw_187, xw_188, xw_189⟩
set_option maxRecDepth 100000 in
theorem cd_X10_put : xCd yX10_put cX10_put 6 (some .int) 3 := ⟨xw_190, xw_1, by decide +kernel, by decide +kernel⟩
set_option maxRecDepth 100000 in
theorem lv_L_29_10 : xLV RL 29 10 yX11_put := ⟨⟨_, _, rfl⟩, xw_932, xw_933, xw_934⟩
set_option maxRecDepth 100000 in
theorem cd_X11_put : xCd yX11_put cX11_put 5 (some .int) 3 := ⟨xw_935, xw_5, by decide +kernel, by decide +kernel⟩
set_option maxRecDepth 100000 in
theorem lv_L_30_9 : xLV RL 30 9 yX10_at := ⟨⟨_, _, rfl⟩, xw_199, xw_200, xw_201⟩
set_option maxRecDepth 100000 in
theorem cd_X10_at : xCd yX10_at cX10_at 5 (some .long) 3 := ⟨xw_202, xw_1, by decide +kernel, by decide +kernel⟩
set_option maxRecDepth 100000 in
theorem lv_L_34_10 : xLV RL 34 10 yX11_at := ⟨⟨_, _, rfl⟩, xw_936, xw_937, xw_938⟩
set_option maxRecDepth 100000 in
theorem cd_X11_at : xCd yX11_at cX11_at 4 (some .long) 3 := ⟨xw_939, xw_5, by decide +kernel, by decide +kernel⟩
set_option maxRecDepth 100000 in
theorem lv_L_35_9 : xLV RL 35 9 yX10_poly := ⟨⟨_, _, rfl⟩, xw_208, xw_209, xw_210⟩
set_option maxRecDepth 100000 in
theorem cd_X10_poly : xCd yX10_poly cX10_poly 7 (some .int) 4 := ⟨xw_211, xw_1, by decide +kernel, by decide +kernel⟩
set_option maxRecDepth 100000 in
theorem lv_L_39_10 : xLV RL 39 10 yX11_poly := ⟨⟨_, _, rfl⟩, xw_945, xw_946, xw_947⟩
set_option maxRecDepth 100000 in
theorem cd_X11_poly : xCd yX11_poly cX11_poly 6 (some .int) 4 := ⟨xw_948, xw_5, by decide +kernel, by decide +kernel⟩
set_option maxRecDepth 100000 in
theorem lv_L_40_9 : xLV RL 40 9 yX10_add := ⟨⟨_, _, rfl⟩, xw_237, xw_238, xw_239⟩
set_option maxRecDepth 100000 in
theorem cd_X10_add : xCd yX10_add cX10_add 8 (some .int) 3 := ⟨xw_240, xw_1, by decide +kernel, by decide +kernel⟩
set_option maxRecDepth 100000 in
theorem lv_L_43_10 : xLV RL 43 10 yX11_add := ⟨⟨_, _, rfl⟩, xw_959, xw_960, xw_961⟩
set_option maxRecDepth 100000 in
theorem cd_X11_add : xCd yX11_add cX11_add 5 (some .int) 3 := ⟨xw_962, xw_5, by decide +kernel, by decide +kernel⟩
set_option maxRecDepth 100000 in
theorem lv_L_44_9 : xLV RL 44 9 yX10_times := ⟨⟨_, _, rfl⟩, xw_245, xw_246, xw_247⟩
set_option maxRecDepth 100000 in
theorem cd_X10_times : xCd yX10_times cX10_times 7 (some .int) 2 := ⟨xw_248, xw_1, by decide +kernel, by decide +kernel⟩
set_option maxRecDepth 100000 in
theorem lv_L_48_10 : xLV RL 48 10 yX11_times := ⟨⟨_, _, rfl⟩, xw_971, xw_972, xw_973⟩
set_option maxRecDepth 100000 in
theorem cd_X11_times : xCd yX11_times cX11_times 6 (some .int) 2 := ⟨xw_974, xw_5, by decide +kernel, by decide +kernel⟩
set_option maxRecDepth 100000 in
theorem lv_L_49_9 : xLV RL 49 9 yX10_slope := ⟨⟨_, _, rfl⟩, xw_253, xw_254, xw_255⟩
set_option maxRecDepth 100000 in
theorem cd_X10_slope : xCd yX10_slope cX10_slope 7 (some .int) 2 := ⟨xw_256, xw_1, by decide +kernel, by decide +kernel⟩
set_option maxRecDepth 100000 in
theorem lv_L_52_10 : xLV RL 52 10 yX11_slope := ⟨⟨_, _, rfl⟩, xw_975, xw_976, xw_977⟩
set_option maxRecDepth 100000 in
theorem cd_X11_slope : xCd yX11_slope cX11_slope 5 (some .int) 2 := ⟨xw_978, xw_5, by decide +kernel, by decide +kernel⟩
set_option maxRecDepth 100000 in
theorem lv_L_53_9 : xLV RL 53 9 yX10_term := ⟨⟨_, _, rfl⟩, xw_260, xw_261, xw_262⟩
set_option maxRecDepth 100000 in
theorem cd_X10_term : xCd yX10_term cX10_term 4 (some .long) 2 := ⟨xw_263, xw_1, by decide +kernel, by decide +kernel⟩
set_option maxRecDepth 100000 in
theorem lv_L_57_10 : xLV RL 57 10 yX11_term := ⟨⟨_, _, rfl⟩, xw_979, xw_980, xw_981⟩
set_option maxRecDepth 100000 in
theorem cd_X11_term : xCd yX11_term cX11_term 3 (some .long) 2 := ⟨xw_982, xw_5, by decide +kernel, by decide +kernel⟩
set_option maxRecDepth 100000 in
theorem lv_L_58_9 : xLV RL 58 9 yX10_value := ⟨⟨_, _, rfl⟩, xw_267, xw_268, xw_269⟩
set_option maxRecDepth 100000 in
theorem cd_X10_value : xCd yX10_value cX10_value 5 (some .long) 3 := ⟨xw_270, xw_1, by decide +kernel, by decide +kernel⟩
set_option maxRecDepth 100000 in
theorem lv_L_61_10 : xLV RL 61 10 yX11_value := ⟨⟨_, _, rfl⟩, xw_984, xw_985, xw_986⟩
set_option maxRecDepth 100000 in
theorem cd_X11_value : xCd yX11_value cX11_value 7 (some .long) 3 := ⟨xw_987, xw_5, by decide +kernel, by decide +kernel⟩
set_option maxRecDepth 100000 in
theorem lv_L_62_9 : xLV RL 62 9 yX10_same := ⟨⟨_, _, rfl⟩, xw_280, xw_281, xw_282⟩
set_option maxRecDepth 100000 in
theorem cd_X10_same : xCd yX10_same cX10_same 6 (some .int) 2 := ⟨xw_283, xw_1, by decide +kernel, by decide +kernel⟩
set_option maxRecDepth 100000 in
theorem lv_L_65_10 : xLV RL 65 10 yX11_same := ⟨⟨_, _, rfl⟩, xw_995, xw_996, xw_997⟩
set_option maxRecDepth 100000 in
theorem cd_X11_same : xCd yX11_same cX11_same 4 (some .int) 2 := ⟨xw_998, xw_5, by decide +kernel, by decide +kernel⟩
set_option maxRecDepth 100000 in
theorem lv_L_66_9 : xLV RL 66 9 yX10_box := ⟨⟨_, _, rfl⟩, xw_284, xw_285, xw_286⟩
set_option maxRecDepth 100000 in
theorem cd_X10_box : xCd yX10_box cX10_box 6 (some .int) 4 := ⟨xw_287, xw_1, by decide +kernel, by decide +kernel⟩
set_option maxRecDepth 100000 in
theorem lv_L_69_10 : xLV RL 69 10 yX11_box := ⟨⟨_, _, rfl⟩, xw_999, xw_1000, xw_1001⟩
set_option maxRecDepth 100000 in
theorem cd_X11_box : xCd yX11_box cX11_box 5 (some .int) 4 := ⟨xw_1002, xw_5, by decide +kernel, by decide +kernel⟩
set_option maxRecDepth 100000 in
theorem lv_L_70_9 : xLV RL 70 9 yX10_side := ⟨⟨_, _, rfl⟩, xw_291, xw_292, xw_293⟩
set_option maxRecDepth 100000 in
theorem cd_X10_side : xCd yX10_side cX10_side 3 (some .int) 2 := ⟨xw_294, xw_1, by decide +kernel, by decide +kernel⟩
set_option maxRecDepth 100000 in
theorem lv_L_73_10 : xLV RL 73 10 yX11_side := ⟨⟨_, _, rfl⟩, xw_1010, xw_1011, xw_1012⟩
set_option maxRecDepth 100000 in
theorem cd_X11_side : xCd yX11_side cX11_side 3 (some .int) 2 := ⟨xw_1013, xw_5, by decide +kernel, by decide +kernel⟩
set_option maxRecDepth 100000 in
theorem lv_L_74_9 : xLV RL 74 9 yX10_corner := ⟨⟨_, _, rfl⟩, xw_299, xw_300, xw_301⟩
set_option maxRecDepth 100000 in
theorem cd_X10_corner : xCd yX10_corner cX10_corner 5 (some .long) 3 := ⟨xw_302, xw_1, by decide +kernel, by decide +kernel⟩
set_option maxRecDepth 100000 in
theorem lv_L_77_10 : xLV RL 77 10 yX11_corner := ⟨⟨_, _, rfl⟩, xw_1018, xw_1019, xw_1020⟩
set_option maxRecDepth 100000 in
theorem cd_X11_corner : xCd yX11_corner cX11_corner 4 (some .long) 3 := ⟨xw_1021, xw_5, by decide +kernel, by decide +kernel⟩
set_option maxRecDepth 100000 in
theorem lv_L_78_9 : xLV RL 78 9 yX10_bound := ⟨⟨_, _, rfl⟩, xw_308, xw_309, xw_310⟩
set_option maxRecDepth 100000 in
theorem cd_X10_bound : xCd yX10_bound cX10_bound 5 (some .long) 3 := ⟨xw_311, xw_1, by decide +kernel, by decide +kernel⟩
set_option maxRecDepth 100000 in
theorem lv_L_81_10 : xLV RL 81 10 yX11_bound := ⟨⟨_, _, rfl⟩, xw_1034, xw_1035, xw_1036⟩
set_option maxRecDepth 100000 in
theorem cd_X11_bound : xCd yX11_bound cX11_bound 9 (some .long) 3 := ⟨xw_1037, xw_5, by decide +kernel, by decide +kernel⟩
set_option maxRecDepth 100000 in
theorem lv_L_82_9 : xLV RL 82 9 yX10_cut := ⟨⟨_, _, rfl⟩, xw_329, xw_330, xw_331⟩
set_option maxRecDepth 100000 in
theorem cd_X10_cut : xCd yX10_cut cX10_cut 5 (some .int) 2 := ⟨xw_332, xw_1, by decide +kernel, by decide +kernel⟩
set_option maxRecDepth 100000 in
theorem lv_L_85_10 : xLV RL 85 10 yX11_cut := ⟨⟨_, _, rfl⟩, xw_1038, xw_1039, xw_1040⟩
set_option maxRecDepth 100000 in
theorem cd_X11_cut : xCd yX11_cut cX11_cut 9 (some .int) 2 := ⟨xw_1041, xw_5, by decide +kernel, by decide +kernel⟩
set_option maxRecDepth 100000 in
theorem lv_L_86_9 : xLV RL 86 9 yX10_parts := ⟨⟨_, _, rfl⟩, xw_342, xw_343, xw_344⟩
set_option maxRecDepth 100000 in
theorem cd_X10_parts : xCd yX10_parts cX10_parts 4 (some .int) 2 := ⟨xw_345, xw_1, by decide +kernel, by decide +kernel⟩
set_option maxRecDepth 100000 in
theorem lv_L_89_10 : xLV RL 89 10 yX11_parts := ⟨⟨_, _, rfl⟩, xw_1042, xw_1043, xw_1044⟩
set_option maxRecDepth 100000 in
theorem cd_X11_parts : xCd yX11_parts cX11_parts 3 (some .int) 2 := ⟨xw_1045, xw_5, by decide +kernel, by decide +kernel⟩
set_option maxRecDepth 100000 in
theorem lv_L_90_9 : xLV RL 90 9 yX10_cover := ⟨⟨_, _, rfl⟩, xw_351, xw_352, xw_353⟩
set_option maxRecDepth 100000 in
theorem cd_X10_cover : xCd yX10_cover cX10_cover 3 (some .int) 1 := ⟨xw_354, xw_1, by decide +kernel, by decide +kernel⟩
set_option maxRecDepth 100000 in
theorem lv_L_93_10 : xLV RL 93 10 yX11_cover := ⟨⟨_, _, rfl⟩, xw_1050, xw_1051, xw_1052⟩
set_option maxRecDepth 100000 in
theorem lv_L_94_9 : xLV RL 94 9 yX10_open := ⟨⟨_, _, rfl⟩, xw_382, xw_383, xw_384⟩
set_option maxRecDepth 100000 in
theorem cd_X10_open : xCd yX10_open cX10_open 2 (some .int) 1 := ⟨xw_385, xw_1, by decide +kernel, by decide +kernel⟩
set_option maxRecDepth 100000 in
theorem lv_L_97_10 : xLV RL 97 10 yX11_open := ⟨⟨_, _, rfl⟩, xw_1071, xw_1072, xw_1073⟩
set_option maxRecDepth 100000 in
theorem cd_X11_open : xCd yX11_open cX11_open 2 (some .int) 1 := ⟨xw_1074, xw_5, by decide +kernel, by decide +kernel⟩
set_option maxRecDepth 100000 in
theorem lv_L_98_9 : xLV RL 98 9 yX10_partly := ⟨⟨_, _, rfl⟩, xw_390, xw_391, xw_392⟩
set_option maxRecDepth 100000 in
theorem cd_X10_partly : xCd yX10_partly cX10_partly 3 (some .int) 2 := ⟨xw_393, xw_1, by decide +kernel, by decide +kernel⟩
set_option maxRecDepth 100000 in
theorem lv_L_101_10 : xLV RL 101 10 yX11_partly := ⟨⟨_, _, rfl⟩, xw_1079, xw_1080, xw_1081⟩
set_option maxRecDepth 100000 in
theorem cd_X11_partly : xCd yX11_partly cX11_partly 3 (some .int) 2 := ⟨xw_1082, xw_5, by decide +kernel, by decide +kernel⟩
set_option maxRecDepth 100000 in
theorem lv_L_102_9 : xLV RL 102 9 yX10_where := ⟨⟨_, _, rfl⟩, xw_394, xw_395, xw_396⟩
set_option maxRecDepth 100000 in
theorem cd_X10_where : xCd yX10_where cX10_where 2 (some .int) 1 := ⟨xw_397, xw_1, by decide +kernel, by decide +kernel⟩
set_option maxRecDepth 100000 in
theorem lv_L_105_10 : xLV RL 105 10 yX11_where := ⟨⟨_, _, rfl⟩, xw_1083, xw_1084, xw_1085⟩
set_option maxRecDepth 100000 in
theorem cd_X11_where : xCd yX11_where cX11_where 2 (some .int) 1 := ⟨xw_1086, xw_5, by decide +kernel, by decide +kernel⟩
set_option maxRecDepth 100000 in
theorem lv_L_106_9 : xLV RL 106 9 yX10_least := ⟨⟨_, _, rfl⟩, xw_398, xw_399, xw_400⟩
set_option maxRecDepth 100000 in
theorem cd_X10_least : xCd yX10_least cX10_least 1 (some .long) 0 := ⟨xw_401, xw_1, by decide +kernel, by decide +kernel⟩
set_option maxRecDepth 100000 in
theorem lv_L_110_10 : xLV RL 110 10 yX11_least := ⟨⟨_, _, rfl⟩, xw_1087, xw_1088, xw_1089⟩
set_option maxRecDepth 100000 in
theorem cd_X11_least : xCd yX11_least cX11_least 7 (some .long) 0 := ⟨xw_1090, xw_5, by decide +kernel, by decide +kernel⟩
set_option maxRecDepth 100000 in
theorem lv_L_111_9 : xLV RL 111 9 yX10_form := ⟨⟨_, _, rfl⟩, xw_408, xw_409, xw_410⟩
set_option maxRecDepth 100000 in
theorem cd_X10_form : xCd yX10_form cX10_form 5 (some .long) 3 := ⟨xw_411, xw_1, by decide +kernel, by decide +kernel⟩
set_option maxRecDepth 100000 in
theorem lv_L_114_10 : xLV RL 114 10 yX11_form := ⟨⟨_, _, rfl⟩, xw_1091, xw_1092, xw_1093⟩
set_option maxRecDepth 100000 in
theorem cd_X11_form : xCd yX11_form cX11_form 4 (some .long) 3 := ⟨xw_1094, xw_5, by decide +kernel, by decide +kernel⟩
set_option maxRecDepth 100000 in
theorem lv_L_115_9 : xLV RL 115 9 yX10_squares := ⟨⟨_, _, rfl⟩, xw_422, xw_423, xw_424⟩
set_option maxRecDepth 100000 in
theorem cd_X10_squares : xCd yX10_squares cX10_squares 4 (some .int) 1 := ⟨xw_425, xw_1, by decide +kernel, by decide +kernel⟩
set_option maxRecDepth 100000 in
theorem lv_L_118_10 : xLV RL 118 10 yX11_squares := ⟨⟨_, _, rfl⟩, xw_1103, xw_1104, xw_1105⟩
set_option maxRecDepth 100000 in
theorem cd_X11_squares : xCd yX11_squares cX11_squares 3 (some .int) 1 := ⟨xw_1106, xw_5, by decide +kernel, by decide +kernel⟩
set_option maxRecDepth 100000 in
theorem lv_L_119_9 : xLV RL 119 9 yX10_corners := ⟨⟨_, _, rfl⟩, xw_495, xw_496, xw_497⟩
set_option maxRecDepth 100000 in
theorem cd_X10_corners : xCd yX10_corners cX10_corners 5 (some .int) 2 := ⟨xw_498, xw_1, by decide +kernel, by decide +kernel⟩
set_option maxRecDepth 100000 in
theorem lv_L_122_10 : xLV RL 122 10 yX11_corners := ⟨⟨_, _, rfl⟩, xw_1123, xw_1124, xw_1125⟩
set_option maxRecDepth 100000 in
theorem cd_X11_corners : xCd yX11_corners cX11_corners 5 (some .int) 2 := ⟨xw_1126, xw_5, by decide +kernel, by decide +kernel⟩
set_option maxRecDepth 100000 in
theorem lv_L_123_9 : xLV RL 123 9 yX10_proved := ⟨⟨_, _, rfl⟩, xw_537, xw_538, xw_539⟩
set_option maxRecDepth 100000 in
theorem cd_X10_proved : xCd yX10_proved cX10_proved 3 (some .int) 0 := ⟨xw_540, xw_1, by decide +kernel, by decide +kernel⟩
set_option maxRecDepth 100000 in
theorem lv_L_127_10 : xLV RL 127 10 yX11_proved := ⟨⟨_, _, rfl⟩, xw_1127, xw_1128, xw_1129⟩
set_option maxRecDepth 100000 in
theorem cd_X11_proved : xCd yX11_proved cX11_proved 3 (some .int) 0 := ⟨xw_1130, xw_5, by decide +kernel, by decide +kernel⟩
set_option maxRecDepth 100000 in
theorem lv_L_128_9 : xLV RL 128 9 yX10_span := ⟨⟨_, _, rfl⟩, xw_554, xw_555, xw_556⟩
set_option maxRecDepth 100000 in
theorem cd_X10_span : xCd yX10_span cX10_span 10 (some .int) 5 := ⟨xw_557, xw_1, by decide +kernel, by decide +kernel⟩
set_option maxRecDepth 100000 in
theorem lv_L_132_10 : xLV RL 132 10 yX11_span := ⟨⟨_, _, rfl⟩, xw_1131, xw_1132, xw_1133⟩
set_option maxRecDepth 100000 in
theorem cd_X11_span : xCd yX11_span cX11_span 13 (some .int) 5 := ⟨xw_1134, xw_5, by decide +kernel, by decide +kernel⟩
set_option maxRecDepth 100000 in
theorem lv_L_133_9 : xLV RL 133 9 yX10_proof := ⟨⟨_, _, rfl⟩, xw_580, xw_581, xw_582⟩
set_option maxRecDepth 100000 in
theorem cd_X10_proof : xCd yX10_proof cX10_proof 4 (some .int) 2 := ⟨xw_583, xw_1, by decide +kernel, by decide +kernel⟩
set_option maxRecDepth 100000 in
theorem lv_L_136_10 : xLV RL 136 10 yX11_proof := ⟨⟨_, _, rfl⟩, xw_1138, xw_1139, xw_1140⟩
set_option maxRecDepth 100000 in
theorem cd_X11_proof : xCd yX11_proof cX11_proof 3 (some .int) 2 := ⟨xw_1141, xw_5, by decide +kernel, by decide +kernel⟩
set_option maxRecDepth 100000 in
theorem lv_L_137_9 : xLV RL 137 9 yX10_number := ⟨⟨_, _, rfl⟩, xw_617, xw_618, xw_619⟩
set_option maxRecDepth 100000 in
theorem cd_X10_number : xCd yX10_number cX10_number 4 (some .long) 2 := ⟨xw_620, xw_1, by decide +kernel, by decide +kernel⟩
set_option maxRecDepth 100000 in
theorem lv_L_140_10 : xLV RL 140 10 yX11_number := ⟨⟨_, _, rfl⟩, xw_1150, xw_1151, xw_1152⟩
set_option maxRecDepth 100000 in
theorem cd_X11_number : xCd yX11_number cX11_number 3 (some .long) 2 := ⟨xw_1153, xw_5, by decide +kernel, by decide +kernel⟩
set_option maxRecDepth 100000 in
theorem lv_L_141_9 : xLV RL 141 9 yX10_forge := ⟨⟨_, _, rfl⟩, xw_629, xw_630, xw_631⟩
set_option maxRecDepth 100000 in
theorem cd_X10_forge : xCd yX10_forge cX10_forge 6 (some .int) 3 := ⟨xw_632, xw_1, by decide +kernel, by decide +kernel⟩
set_option maxRecDepth 100000 in
theorem lv_L_144_10 : xLV RL 144 10 yX11_forge := ⟨⟨_, _, rfl⟩, xw_1154, xw_1155, xw_1156⟩
set_option maxRecDepth 100000 in
theorem cd_X11_forge : xCd yX11_forge cX11_forge 5 (some .int) 3 := ⟨xw_1157, xw_5, by decide +kernel, by decide +kernel⟩
set_option maxRecDepth 100000 in
theorem lv_L_145_9 : xLV RL 145 9 yX10_check := ⟨⟨_, _, rfl⟩, xw_634, xw_635, xw_636⟩
set_option maxRecDepth 100000 in
theorem cd_X10_check : xCd yX10_check cX10_check 4 (some .int) 1 := ⟨xw_637, xw_1, by decide +kernel, by decide +kernel⟩
set_option maxRecDepth 100000 in
theorem lv_L_148_10 : xLV RL 148 10 yX11_check := ⟨⟨_, _, rfl⟩, xw_1160, xw_1161, xw_1162⟩
set_option maxRecDepth 100000 in
theorem cd_X11_check : xCd yX11_check cX11_check 5 (some .int) 1 := ⟨xw_1163, xw_5, by decide +kernel, by decide +kernel⟩
set_option maxRecDepth 100000 in
theorem lv_L_149_9 : xLV RL 149 9 yX10_as := ⟨⟨_, _, rfl⟩, xw_749, xw_750, xw_751⟩
set_option maxRecDepth 100000 in
theorem cd_X10_as : xCd yX10_as cX10_as 4 (some .int) 2 := ⟨xw_752, xw_1, by decide +kernel, by decide +kernel⟩
set_option maxRecDepth 100000 in
theorem lv_L_152_10 : xLV RL 152 10 yX11_as := ⟨⟨_, _, rfl⟩, xw_1212, xw_1213, xw_1214⟩
set_option maxRecDepth 100000 in
theorem cd_X11_as : xCd yX11_as cX11_as 5 (some .int) 2 := ⟨xw_1215, xw_5, by decide +kernel, by decide +kernel⟩
set_option maxRecDepth 100000 in
theorem lv_L_153_9 : xLV RL 153 9 yX10_tell := ⟨⟨_, _, rfl⟩, xw_756, xw_757, xw_758⟩
set_option maxRecDepth 100000 in
theorem cd_X10_tell : xCd yX10_tell cX10_tell 3 (some .int) 1 := ⟨xw_759, xw_1, by decide +kernel, by decide +kernel⟩
set_option maxRecDepth 100000 in
theorem lv_L_156_10 : xLV RL 156 10 yX11_tell := ⟨⟨_, _, rfl⟩, xw_1217, xw_1218, xw_1219⟩
set_option maxRecDepth 100000 in
theorem cd_X11_tell : xCd yX11_tell cX11_tell 3 (some .int) 1 := ⟨xw_1220, xw_5, by decide +kernel, by decide +kernel⟩
set_option maxRecDepth 100000 in
theorem lv_L_157_9 : xLV RL 157 9 yX10_cost := ⟨⟨_, _, rfl⟩, xw_786, xw_787, xw_788⟩
set_option maxRecDepth 100000 in
theorem cd_X10_cost : xCd yX10_cost cX10_cost 3 (some .int) 1 := ⟨xw_789, xw_1, by decide +kernel, by decide +kernel⟩
set_option maxRecDepth 100000 in
theorem lv_L_160_10 : xLV RL 160 10 yX11_cost := ⟨⟨_, _, rfl⟩, xw_1225, xw_1226, xw_1227⟩
set_option maxRecDepth 100000 in
theorem cd_X11_cost : xCd yX11_cost cX11_cost 3 (some .int) 1 := ⟨xw_1228, xw_5, by decide +kernel, by decide +kernel⟩
set_option maxRecDepth 100000 in
theorem lv_L_161_9 : xLV RL 161 9 yX10_trace := ⟨⟨_, _, rfl⟩, xw_800, xw_801, xw_802⟩
set_option maxRecDepth 100000 in
theorem cd_X10_trace : xCd yX10_trace cX10_trace 1 (some .int) 0 := ⟨xw_803, xw_1, by decide +kernel, by decide +kernel⟩
set_option maxRecDepth 100000 in
theorem lv_L_164_10 : xLV RL 164 10 yX11_trace := ⟨⟨_, _, rfl⟩, xw_1229, xw_1230, xw_1231⟩
set_option maxRecDepth 100000 in
theorem cd_X11_trace : xCd yX11_trace cX11_trace 1 (some .int) 0 := ⟨xw_1232, xw_5, by decide +kernel, by decide +kernel⟩
set_option maxRecDepth 100000 in
theorem lv_L_165_9 : xLV RL 165 9 yX10_fault := ⟨⟨_, _, rfl⟩, xw_804, xw_805, xw_806⟩
set_option maxRecDepth 100000 in
theorem cd_X10_fault : xCd yX10_fault cX10_fault 1 (some .int) 0 := ⟨xw_807, xw_1, by decide +kernel, by decide +kernel⟩
set_option maxRecDepth 100000 in
theorem lv_L_168_10 : xLV RL 168 10 yX11_fault := ⟨⟨_, _, rfl⟩, xw_1233, xw_1234, xw_1235⟩
set_option maxRecDepth 100000 in
theorem cd_X11_fault : xCd yX11_fault cX11_fault 1 (some .int) 0 := ⟨xw_1236, xw_5, by decide +kernel, by decide +kernel⟩
set_option maxRecDepth 100000 in
theorem lv_L_169_9 : xLV RL 169 9 yX10_told := ⟨⟨_, _, rfl⟩, xw_808, xw_809, xw_810⟩
set_option maxRecDepth 100000 in
theorem cd_X10_told : xCd yX10_told cX10_told 2 (some .int) 1 := ⟨xw_811, xw_1, by decide +kernel, by decide +kernel⟩
set_option maxRecDepth 100000 in
theorem lv_L_172_10 : xLV RL 172 10 yX11_told := ⟨⟨_, _, rfl⟩, xw_1237, xw_1238, xw_1239⟩
set_option maxRecDepth 100000 in
theorem cd_X11_told : xCd yX11_told cX11_told 2 (some .int) 1 := ⟨xw_1240, xw_5, by decide +kernel, by decide +kernel⟩
set_option maxRecDepth 100000 in
theorem no_L_7 : xNO RL 7 9 10 [.null, .null, .null, .null, .null, .null, .int 0, .int 0, .int 0, .int 0] := ⟨RX10, TX10, tyX10, rfl, xi_9, tyX10_ok, xw_16, xw_17, xw_1, fun j hj => by
  rcases (show j = 0 ∨ j = 1 ∨ j = 2 ∨ j = 3 ∨ j = 4 ∨ j = 5 ∨ j = 6 ∨ j = 7 ∨ j = 8 ∨ j = 9 by omega) with rfl | rfl | rfl | rfl | rfl | rfl | rfl | rfl | rfl | rfl <;> rfl⟩
set_option maxRecDepth 100000 in
theorem no_L_10 : xNO RL 10 10 32 [.int 0, .int 0, .null, .null, .null, .int 0, .null, .null, .int 0, .null, .int 0, .int 0, .int 0, .null, .null, .int 0, .int 0, .null, .int 0, .null, .int 0, .null, .null, .null, .null, .null, .null, .null, .null, .null, .null, .null] := ⟨RX11, TX11, tyX11, rfl, xi_10, tyX11_ok, xw_812, xw_813, xw_5, fun j hj => by
  rcases (show j = 0 ∨ j = 1 ∨ j = 2 ∨ j = 3 ∨ j = 4 ∨ j = 5 ∨ j = 6 ∨ j = 7 ∨ j = 8 ∨ j = 9 ∨ j = 10 ∨ j = 11 ∨ j = 12 ∨ j = 13 ∨ j = 14 ∨ j = 15 ∨ j = 16 ∨ j = 17 ∨ j = 18 ∨ j = 19 ∨ j = 20 ∨ j = 21 ∨ j = 22 ∨ j = 23 ∨ j = 24 ∨ j = 25 ∨ j = 26 ∨ j = 27 ∨ j = 28 ∨ j = 29 ∨ j = 30 ∨ j = 31 by omega) with rfl | rfl | rfl | rfl | rfl | rfl | rfl | rfl | rfl | rfl | rfl | rfl | rfl | rfl | rfl | rfl | rfl | rfl | rfl | rfl | rfl | rfl | rfl | rfl | rfl | rfl | rfl | rfl | rfl | rfl | rfl | rfl <;> rfl⟩
set_option maxRecDepth 100000 in
theorem li_L_9 : xLI RL 9 yX10_init := ⟨xw_18, rfl, xw_19⟩
set_option maxRecDepth 100000 in
theorem li_L_12 : xLI RL 12 yX11_init := ⟨xw_814, rfl, xw_815⟩
set_option maxRecDepth 100000 in
theorem cd_X10_init : xCd yX10_init cX10_init 1 none 0 := ⟨xw_20, xw_1, by decide +kernel, by decide +kernel⟩
set_option maxRecDepth 100000 in
theorem cd_X11_init : xCd yX11_init cX11_init 1 none 0 := ⟨xw_816, xw_5, by decide +kernel, by decide +kernel⟩
