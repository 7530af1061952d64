theorem k_1 : (Cond.selects "StationRows" ⟨"StationRows", "gatherPersons", "(II)I"⟩ ⟨"StationRows", "gatherPersons", "(II)I"⟩) ∈ sr_ws := sr_mem 1 (by decide +kernel) rfl
theorem k_2 : (Cond.selects "StationRows$Persons" ⟨"StationRows$Persons", "isOnDuty", "(II)Z"⟩ ⟨"StationRows$Persons", "isOnDuty", "(II)Z"⟩) ∈ sr_ws := sr_mem 2 (by decide +kernel) rfl
theorem k_3 : (Cond.selects "StationRows$Persons" ⟨"StationRows$Persons", "stationAt", "(II)I"⟩ ⟨"StationRows$Persons", "stationAt", "(II)I"⟩) ∈ sr_ws := sr_mem 3 (by decide +kernel) rfl
theorem k_4 : (Cond.selects "StationRows$Persons" ⟨"StationRows$Persons", "insertIntoRow", "(I)V"⟩ ⟨"StationRows$Persons", "insertIntoRow", "(I)V"⟩) ∈ sr_ws := sr_mem 4 (by decide +kernel) rfl
theorem k_5 : (Cond.selects "StationRows$Vehicles" ⟨"StationRows$Vehicles", "isSpare", "(I)Z"⟩ ⟨"StationRows$Vehicles", "isSpare", "(I)Z"⟩) ∈ sr_ws := sr_mem 5 (by decide +kernel) rfl
theorem k_6 : (Cond.selects "StationRows$Vehicles" ⟨"StationRows$Vehicles", "lowestFreeSpare", "(ILStationRows$Stations;I)I"⟩ ⟨"StationRows$Vehicles", "lowestFreeSpare", "(ILStationRows$Stations;I)I"⟩) ∈ sr_ws := sr_mem 6 (by decide +kernel) rfl
theorem k_7 : (Cond.selects "StationRows" ⟨"StationRows", "tellCrew", "(III)I"⟩ ⟨"StationRows", "tellCrew", "(III)I"⟩) ∈ sr_ws := sr_mem 7 (by decide +kernel) rfl
theorem k_8 : (Cond.selects "StationRows$Vehicles" ⟨"StationRows$Vehicles", "wantedBy", "(II)I"⟩ ⟨"StationRows$Vehicles", "wantedBy", "(II)I"⟩) ∈ sr_ws := sr_mem 8 (by decide +kernel) rfl
theorem k_9 : (Cond.selects "StationRowsModel" ⟨"StationRowsModel", "goes", "(IZZZZ)Z"⟩ ⟨"StationRowsModel", "goes", "(IZZZZ)Z"⟩) ∈ sr_ws := sr_mem 9 (by decide +kernel) rfl
theorem k_10 : (Cond.selects "StationRowsModel" ⟨"StationRowsModel", "add", "(III)I"⟩ ⟨"StationRowsModel", "add", "(III)I"⟩) ∈ sr_ws := sr_mem 10 (by decide +kernel) rfl
theorem k_11 : (Cond.selects "StationRowsModel" ⟨"StationRowsModel", "isStation", "(I)Z"⟩ ⟨"StationRowsModel", "isStation", "(I)Z"⟩) ∈ sr_ws := sr_mem 11 (by decide +kernel) rfl
theorem k_12 : (Cond.selects "StationRowsModel" ⟨"StationRowsModel", "isVehicle", "(I)Z"⟩ ⟨"StationRowsModel", "isVehicle", "(I)Z"⟩) ∈ sr_ws := sr_mem 12 (by decide +kernel) rfl
theorem k_13 : (Cond.selects "StationRowsModel" ⟨"StationRowsModel", "isPerson", "(I)Z"⟩ ⟨"StationRowsModel", "isPerson", "(I)Z"⟩) ∈ sr_ws := sr_mem 13 (by decide +kernel) rfl
theorem k_14 : (Cond.selects "StationRowsModel" ⟨"StationRowsModel", "count", "(II)I"⟩ ⟨"StationRowsModel", "count", "(II)I"⟩) ∈ sr_ws := sr_mem 14 (by decide +kernel) rfl
theorem k_15 : (Cond.selects "StationRowsModel" ⟨"StationRowsModel", "isOn", "(III)Z"⟩ ⟨"StationRowsModel", "isOn", "(III)Z"⟩) ∈ sr_ws := sr_mem 15 (by decide +kernel) rfl
theorem k_16 : (Cond.selects "StationRowsModel" ⟨"StationRowsModel", "placeOf", "(II)I"⟩ ⟨"StationRowsModel", "placeOf", "(II)I"⟩) ∈ sr_ws := sr_mem 16 (by decide +kernel) rfl
theorem k_17 : (Cond.selects "StationRowsModel" ⟨"StationRowsModel", "isThere", "(II)Z"⟩ ⟨"StationRowsModel", "isThere", "(II)Z"⟩) ∈ sr_ws := sr_mem 17 (by decide +kernel) rfl
theorem k_18 : (Cond.selects "StationRowsModel" ⟨"StationRowsModel", "following", "(III)I"⟩ ⟨"StationRowsModel", "following", "(III)I"⟩) ∈ sr_ws := sr_mem 18 (by decide +kernel) rfl
theorem k_19 : (Cond.selects "StationRowsModel" ⟨"StationRowsModel", "look", "(I)V"⟩ ⟨"StationRowsModel", "look", "(I)V"⟩) ∈ sr_ws := sr_mem 19 (by decide +kernel) rfl
theorem k_20 : (Cond.selects "StationRowsModel" ⟨"StationRowsModel", "spares", "(I)V"⟩ ⟨"StationRowsModel", "spares", "(I)V"⟩) ∈ sr_ws := sr_mem 20 (by decide +kernel) rfl
theorem k_21 : (Cond.selects "StationRowsModel" ⟨"StationRowsModel", "isOut", "(II)Z"⟩ ⟨"StationRowsModel", "isOut", "(II)Z"⟩) ∈ sr_ws := sr_mem 21 (by decide +kernel) rfl
theorem k_22 : (Cond.selects "StationRowsModel" ⟨"StationRowsModel", "man", "(II)V"⟩ ⟨"StationRowsModel", "man", "(II)V"⟩) ∈ sr_ws := sr_mem 22 (by decide +kernel) rfl
theorem k_23 : (Cond.selects "StationRowsModel" ⟨"StationRowsModel", "free", "(II)I"⟩ ⟨"StationRowsModel", "free", "(II)I"⟩) ∈ sr_ws := sr_mem 23 (by decide +kernel) rfl
theorem k_24 : (Cond.selects "StationRowsModel" ⟨"StationRowsModel", "isMissing", "(II)Z"⟩ ⟨"StationRowsModel", "isMissing", "(II)Z"⟩) ∈ sr_ws := sr_mem 24 (by decide +kernel) rfl
theorem k_25 : (Jvm.Cond.initialized "StationRowsLaw") ∈ sr_ws := sr_mem 25 (by decide +kernel) rfl
theorem k_26 : (Jvm.Cond.initialized "StationRows") ∈ sr_ws := sr_mem 26 (by decide +kernel) rfl
theorem k_27 : (Jvm.Cond.initialized "StationRows$Stations") ∈ sr_ws := sr_mem 27 (by decide +kernel) rfl
theorem k_28 : (Jvm.Cond.initialized "StationRows$Vehicles") ∈ sr_ws := sr_mem 28 (by decide +kernel) rfl
theorem k_29 : (Jvm.Cond.initialized "StationRows$Times") ∈ sr_ws := sr_mem 29 (by decide +kernel) rfl
theorem k_30 : (Jvm.Cond.initialized "StationRows$Persons") ∈ sr_ws := sr_mem 30 (by decide +kernel) rfl
theorem k_31 : (Jvm.Cond.initialized "StationRows$Needs") ∈ sr_ws := sr_mem 31 (by decide +kernel) rfl
theorem k_32 : (Jvm.Cond.initialized "StationRows$Checks") ∈ sr_ws := sr_mem 32 (by decide +kernel) rfl
theorem k_33 : (Jvm.Cond.initialized "StationRows$Keys") ∈ sr_ws := sr_mem 33 (by decide +kernel) rfl
theorem k_34 : (Jvm.Cond.initialized "StationRowsModel") ∈ sr_ws := sr_mem 34 (by decide +kernel) rfl
theorem k_38 : (Jvm.Cond.initialized "java/lang/IndexOutOfBoundsException") ∈ sr_ws := sr_mem 38 (by decide +kernel) rfl
theorem k_39 : (Jvm.Cond.initialized "java/lang/UnsupportedOperationException") ∈ sr_ws := sr_mem 39 (by decide +kernel) rfl
theorem k_40 : (Jvm.Cond.initialized "java/lang/IllegalArgumentException") ∈ sr_ws := sr_mem 40 (by decide +kernel) rfl
theorem k_41 : (Jvm.Cond.initialized "java/lang/IllegalStateException") ∈ sr_ws := sr_mem 41 (by decide +kernel) rfl
theorem k_42 : (Jvm.Cond.initialized "java/util/Arrays") ∈ sr_ws := sr_mem 42 (by decide +kernel) rfl
theorem k_43 : (Jvm.Cond.initialized "java/lang/Math") ∈ sr_ws := sr_mem 43 (by decide +kernel) rfl
theorem k_44 : (Jvm.Cond.initialized "java/lang/Integer") ∈ sr_ws := sr_mem 44 (by decide +kernel) rfl
theorem k_45 : (Jvm.Cond.classLink "StationRowsLaw" (8 : Nat) "StationRows") ∈ sr_ws := sr_mem 45 (by decide +kernel) rfl
theorem k_46 : (Jvm.Cond.instantiable "StationRows" (6 : Nat)) ∈ sr_ws := sr_mem 46 (by decide +kernel) rfl
theorem k_47 : (Jvm.Cond.methodLink "StationRowsLaw" (77 : Nat) ({ cls := "StationRows", name := "<init>", desc := "()V" } : Jvm.MethodName)) ∈ sr_ws := sr_mem 47 (by decide +kernel) rfl
theorem k_48 : (Jvm.Cond.instanceMethod ({ cls := "StationRows", name := "<init>", desc := "()V" } : Jvm.MethodName)) ∈ sr_ws := sr_mem 48 (by decide +kernel) rfl
set_option maxRecDepth 100000 in
theorem k_49 : (Jvm.Cond.code ({ cls := "StationRows", name := "<init>", desc := "()V" } : Jvm.MethodName) prog_1_method_1_code (1 : Nat) (Option.none : Option Jvm.ClassFile.FieldType)) ∈ sr_ws := sr_mem 49 rfl rfl
theorem k_50 : (Jvm.Cond.methodLink "StationRows" (1 : Nat) ({ cls := "java/lang/Object", name := "<init>", desc := "()V" } : Jvm.MethodName)) ∈ sr_ws := sr_mem 50 (by decide +kernel) rfl
theorem k_51 : (Jvm.Cond.instanceMethod ({ cls := "java/lang/Object", name := "<init>", desc := "()V" } : Jvm.MethodName)) ∈ sr_ws := sr_mem 51 (by decide +kernel) rfl
set_option maxRecDepth 100000 in
theorem k_52 : (Jvm.Cond.code ({ cls := "java/lang/Object", name := "<init>", desc := "()V" } : Jvm.MethodName) object_method_1_code (1 : Nat) (Option.none : Option Jvm.ClassFile.FieldType)) ∈ sr_ws := sr_mem 52 rfl rfl
theorem k_53 : (Jvm.Cond.classLink "StationRows" (7 : Nat) "StationRows$Stations") ∈ sr_ws := sr_mem 53 (by decide +kernel) rfl
theorem k_54 : (Jvm.Cond.instantiable "StationRows$Stations" (4 : Nat)) ∈ sr_ws := sr_mem 54 (by decide +kernel) rfl
theorem k_56 : (Jvm.Cond.instanceMethod ({ cls := "StationRows$Stations", name := "<init>", desc := "()V" } : Jvm.MethodName)) ∈ sr_ws := sr_mem 56 (by decide +kernel) rfl
set_option maxRecDepth 100000 in
theorem k_57 : (Jvm.Cond.code ({ cls := "StationRows$Stations", name := "<init>", desc := "()V" } : Jvm.MethodName) prog_6_method_1_code (1 : Nat) (Option.none : Option Jvm.ClassFile.FieldType)) ∈ sr_ws := sr_mem 57 rfl rfl
theorem k_58 : (Jvm.Cond.methodLink "StationRows$Stations" (3 : Nat) ({ cls := "java/lang/Object", name := "<init>", desc := "()V" } : Jvm.MethodName)) ∈ sr_ws := sr_mem 58 (by decide +kernel) rfl
theorem k_59 : (Jvm.Cond.fieldLink "StationRows$Stations" (9 : Nat) "StationRows$Stations" "doors" "[I") ∈ sr_ws := sr_mem 59 (by decide +kernel) rfl
theorem k_60 : (Jvm.Cond.fieldLink "StationRows$Stations" (15 : Nat) "StationRows$Stations" "froms" "[I") ∈ sr_ws := sr_mem 60 (by decide +kernel) rfl
theorem k_61 : (Jvm.Cond.fieldLink "StationRows$Stations" (18 : Nat) "StationRows$Stations" "tos" "[I") ∈ sr_ws := sr_mem 61 (by decide +kernel) rfl
theorem k_62 : (Jvm.Cond.fieldLink "StationRows$Stations" (21 : Nat) "StationRows$Stations" "count" "I") ∈ sr_ws := sr_mem 62 (by decide +kernel) rfl
theorem k_63 : (Jvm.Cond.laysFinal "StationRows$Stations" "StationRows$Stations" "doors" "[I") ∈ sr_ws := sr_mem 63 (by decide +kernel) rfl
theorem k_65 : (Jvm.Cond.laysFinal "StationRows$Stations" "StationRows$Stations" "froms" "[I") ∈ sr_ws := sr_mem 65 (by decide +kernel) rfl
theorem k_67 : (Jvm.Cond.laysFinal "StationRows$Stations" "StationRows$Stations" "tos" "[I") ∈ sr_ws := sr_mem 67 (by decide +kernel) rfl
theorem k_69 : (Jvm.Cond.lays "StationRows$Stations" "StationRows$Stations" "count" "I") ∈ sr_ws := sr_mem 69 (by decide +kernel) rfl
theorem k_72 : (Jvm.Cond.arrayClass Jvm.ClassFile.FieldType.int) ∈ sr_ws := sr_mem 72 (by decide +kernel) rfl
theorem k_73 : (Jvm.Cond.classLink "StationRows" (16 : Nat) "StationRows$Vehicles") ∈ sr_ws := sr_mem 73 (by decide +kernel) rfl
theorem k_74 : (Jvm.Cond.instantiable "StationRows$Vehicles" (7 : Nat)) ∈ sr_ws := sr_mem 74 (by decide +kernel) rfl
theorem k_76 : (Jvm.Cond.instanceMethod ({ cls := "StationRows$Vehicles", name := "<init>", desc := "()V" } : Jvm.MethodName)) ∈ sr_ws := sr_mem 76 (by decide +kernel) rfl
set_option maxRecDepth 100000 in
theorem k_77 : (Jvm.Cond.code ({ cls := "StationRows$Vehicles", name := "<init>", desc := "()V" } : Jvm.MethodName) prog_8_method_1_code (1 : Nat) (Option.none : Option Jvm.ClassFile.FieldType)) ∈ sr_ws := sr_mem 77 rfl rfl
theorem k_78 : (Jvm.Cond.methodLink "StationRows$Vehicles" (3 : Nat) ({ cls := "java/lang/Object", name := "<init>", desc := "()V" } : Jvm.MethodName)) ∈ sr_ws := sr_mem 78 (by decide +kernel) rfl
theorem k_79 : (Jvm.Cond.classLink "StationRows$Vehicles" (21 : Nat) "StationRows$Times") ∈ sr_ws := sr_mem 79 (by decide +kernel) rfl
theorem k_80 : (Jvm.Cond.instantiable "StationRows$Times" (4 : Nat)) ∈ sr_ws := sr_mem 80 (by decide +kernel) rfl
theorem k_81 : (Jvm.Cond.methodLink "StationRows$Vehicles" (23 : Nat) ({ cls := "StationRows$Times", name := "<init>", desc := "(I[I[I[I)V" } : Jvm.MethodName)) ∈ sr_ws := sr_mem 81 (by decide +kernel) rfl
theorem k_82 : (Jvm.Cond.instanceMethod ({ cls := "StationRows$Times", name := "<init>", desc := "(I[I[I[I)V" } : Jvm.MethodName)) ∈ sr_ws := sr_mem 82 (by decide +kernel) rfl
set_option maxRecDepth 100000 in
theorem k_83 : (Jvm.Cond.code ({ cls := "StationRows$Times", name := "<init>", desc := "(I[I[I[I)V" } : Jvm.MethodName) prog_7_method_1_code (5 : Nat) (Option.none : Option Jvm.ClassFile.FieldType)) ∈ sr_ws := sr_mem 83 rfl rfl
theorem k_84 : (Jvm.Cond.methodLink "StationRows$Times" (3 : Nat) ({ cls := "java/lang/Object", name := "<init>", desc := "()V" } : Jvm.MethodName)) ∈ sr_ws := sr_mem 84 (by decide +kernel) rfl
theorem k_85 : (Jvm.Cond.fieldLink "StationRows$Times" (9 : Nat) "StationRows$Times" "most" "I") ∈ sr_ws := sr_mem 85 (by decide +kernel) rfl
theorem k_86 : (Jvm.Cond.fieldLink "StationRows$Times" (15 : Nat) "StationRows$Times" "counts" "[I") ∈ sr_ws := sr_mem 86 (by decide +kernel) rfl
theorem k_87 : (Jvm.Cond.fieldLink "StationRows$Times" (19 : Nat) "StationRows$Times" "froms" "[I") ∈ sr_ws := sr_mem 87 (by decide +kernel) rfl
theorem k_88 : (Jvm.Cond.fieldLink "StationRows$Times" (22 : Nat) "StationRows$Times" "tos" "[I") ∈ sr_ws := sr_mem 88 (by decide +kernel) rfl
theorem k_89 : (Jvm.Cond.laysFinal "StationRows$Times" "StationRows$Times" "most" "I") ∈ sr_ws := sr_mem 89 (by decide +kernel) rfl
theorem k_91 : (Jvm.Cond.laysFinal "StationRows$Times" "StationRows$Times" "counts" "[I") ∈ sr_ws := sr_mem 91 (by decide +kernel) rfl
theorem k_93 : (Jvm.Cond.laysFinal "StationRows$Times" "StationRows$Times" "froms" "[I") ∈ sr_ws := sr_mem 93 (by decide +kernel) rfl
theorem k_95 : (Jvm.Cond.laysFinal "StationRows$Times" "StationRows$Times" "tos" "[I") ∈ sr_ws := sr_mem 95 (by decide +kernel) rfl
theorem k_98 : (Jvm.Cond.fieldLink "StationRows$Vehicles" (9 : Nat) "StationRows$Vehicles" "stationRow" "[I") ∈ sr_ws := sr_mem 98 (by decide +kernel) rfl
theorem k_99 : (Jvm.Cond.fieldLink "StationRows$Vehicles" (15 : Nat) "StationRows$Vehicles" "kinds" "[I") ∈ sr_ws := sr_mem 99 (by decide +kernel) rfl
theorem k_100 : (Jvm.Cond.fieldLink "StationRows$Vehicles" (18 : Nat) "StationRows$Vehicles" "crews" "[I") ∈ sr_ws := sr_mem 100 (by decide +kernel) rfl
theorem k_101 : (Jvm.Cond.fieldLink "StationRows$Vehicles" (26 : Nat) "StationRows$Vehicles" "outs" "LStationRows$Times;") ∈ sr_ws := sr_mem 101 (by decide +kernel) rfl
theorem k_102 : (Jvm.Cond.fieldLink "StationRows$Vehicles" (30 : Nat) "StationRows$Vehicles" "standsFor" "[I") ∈ sr_ws := sr_mem 102 (by decide +kernel) rfl
theorem k_103 : (Jvm.Cond.fieldLink "StationRows$Vehicles" (33 : Nat) "StationRows$Vehicles" "spares" "[I") ∈ sr_ws := sr_mem 103 (by decide +kernel) rfl
theorem k_104 : (Jvm.Cond.fieldLink "StationRows$Vehicles" (36 : Nat) "StationRows$Vehicles" "count" "I") ∈ sr_ws := sr_mem 104 (by decide +kernel) rfl
theorem k_105 : (Jvm.Cond.laysFinal "StationRows$Vehicles" "StationRows$Vehicles" "stationRow" "[I") ∈ sr_ws := sr_mem 105 (by decide +kernel) rfl
theorem k_107 : (Jvm.Cond.laysFinal "StationRows$Vehicles" "StationRows$Vehicles" "kinds" "[I") ∈ sr_ws := sr_mem 107 (by decide +kernel) rfl
theorem k_109 : (Jvm.Cond.laysFinal "StationRows$Vehicles" "StationRows$Vehicles" "crews" "[I") ∈ sr_ws := sr_mem 109 (by decide +kernel) rfl
theorem k_111 : (Jvm.Cond.laysFinal "StationRows$Vehicles" "StationRows$Vehicles" "outs" "LStationRows$Times;") ∈ sr_ws := sr_mem 111 (by decide +kernel) rfl
theorem k_113 : (Jvm.Cond.laysFinal "StationRows$Vehicles" "StationRows$Vehicles" "standsFor" "[I") ∈ sr_ws := sr_mem 113 (by decide +kernel) rfl
theorem k_115 : (Jvm.Cond.laysFinal "StationRows$Vehicles" "StationRows$Vehicles" "spares" "[I") ∈ sr_ws := sr_mem 115 (by decide +kernel) rfl
theorem k_117 : (Jvm.Cond.lays "StationRows$Vehicles" "StationRows$Vehicles" "count" "I") ∈ sr_ws := sr_mem 117 (by decide +kernel) rfl
theorem k_120 : (Jvm.Cond.classLink "StationRows" (23 : Nat) "StationRows$Persons") ∈ sr_ws := sr_mem 120 (by decide +kernel) rfl
theorem k_121 : (Jvm.Cond.instantiable "StationRows$Persons" (9 : Nat)) ∈ sr_ws := sr_mem 121 (by decide +kernel) rfl
theorem k_123 : (Jvm.Cond.instanceMethod ({ cls := "StationRows$Persons", name := "<init>", desc := "()V" } : Jvm.MethodName)) ∈ sr_ws := sr_mem 123 (by decide +kernel) rfl
set_option maxRecDepth 100000 in
theorem k_124 : (Jvm.Cond.code ({ cls := "StationRows$Persons", name := "<init>", desc := "()V" } : Jvm.MethodName) prog_5_method_1_code (1 : Nat) (Option.none : Option Jvm.ClassFile.FieldType)) ∈ sr_ws := sr_mem 124 rfl rfl
theorem k_125 : (Jvm.Cond.methodLink "StationRows$Persons" (3 : Nat) ({ cls := "java/lang/Object", name := "<init>", desc := "()V" } : Jvm.MethodName)) ∈ sr_ws := sr_mem 125 (by decide +kernel) rfl
theorem k_126 : (Jvm.Cond.classLink "StationRows$Persons" (18 : Nat) "StationRows$Times") ∈ sr_ws := sr_mem 126 (by decide +kernel) rfl
theorem k_127 : (Jvm.Cond.methodLink "StationRows$Persons" (20 : Nat) ({ cls := "StationRows$Times", name := "<init>", desc := "(I[I[I[I)V" } : Jvm.MethodName)) ∈ sr_ws := sr_mem 127 (by decide +kernel) rfl
theorem k_128 : (Jvm.Cond.fieldLink "StationRows$Persons" (9 : Nat) "StationRows$Persons" "homes" "[I") ∈ sr_ws := sr_mem 128 (by decide +kernel) rfl
theorem k_129 : (Jvm.Cond.fieldLink "StationRows$Persons" (15 : Nat) "StationRows$Persons" "distances" "[I") ∈ sr_ws := sr_mem 129 (by decide +kernel) rfl
theorem k_130 : (Jvm.Cond.fieldLink "StationRows$Persons" (23 : Nat) "StationRows$Persons" "duties" "LStationRows$Times;") ∈ sr_ws := sr_mem 130 (by decide +kernel) rfl
theorem k_131 : (Jvm.Cond.fieldLink "StationRows$Persons" (27 : Nat) "StationRows$Persons" "moves" "LStationRows$Times;") ∈ sr_ws := sr_mem 131 (by decide +kernel) rfl
theorem k_132 : (Jvm.Cond.fieldLink "StationRows$Persons" (30 : Nat) "StationRows$Persons" "moveStations" "[I") ∈ sr_ws := sr_mem 132 (by decide +kernel) rfl
theorem k_133 : (Jvm.Cond.fieldLink "StationRows$Persons" (33 : Nat) "StationRows$Persons" "row" "[I") ∈ sr_ws := sr_mem 133 (by decide +kernel) rfl
theorem k_134 : (Jvm.Cond.fieldLink "StationRows$Persons" (47 : Nat) "StationRows$Persons" "rowLength" "I") ∈ sr_ws := sr_mem 134 (by decide +kernel) rfl
theorem k_135 : (Jvm.Cond.fieldLink "StationRows$Persons" (40 : Nat) "StationRows$Persons" "count" "I") ∈ sr_ws := sr_mem 135 (by decide +kernel) rfl
theorem k_136 : (Jvm.Cond.fieldLink "StationRows$Persons" (36 : Nat) "StationRows$Persons" "distanceLimit" "I") ∈ sr_ws := sr_mem 136 (by decide +kernel) rfl
theorem k_137 : (Jvm.Cond.laysFinal "StationRows$Persons" "StationRows$Persons" "homes" "[I") ∈ sr_ws := sr_mem 137 (by decide +kernel) rfl
theorem k_139 : (Jvm.Cond.laysFinal "StationRows$Persons" "StationRows$Persons" "distances" "[I") ∈ sr_ws := sr_mem 139 (by decide +kernel) rfl
theorem k_141 : (Jvm.Cond.laysFinal "StationRows$Persons" "StationRows$Persons" "duties" "LStationRows$Times;") ∈ sr_ws := sr_mem 141 (by decide +kernel) rfl
theorem k_143 : (Jvm.Cond.laysFinal "StationRows$Persons" "StationRows$Persons" "moves" "LStationRows$Times;") ∈ sr_ws := sr_mem 143 (by decide +kernel) rfl
theorem k_145 : (Jvm.Cond.laysFinal "StationRows$Persons" "StationRows$Persons" "moveStations" "[I") ∈ sr_ws := sr_mem 145 (by decide +kernel) rfl
theorem k_147 : (Jvm.Cond.laysFinal "StationRows$Persons" "StationRows$Persons" "row" "[I") ∈ sr_ws := sr_mem 147 (by decide +kernel) rfl
theorem k_149 : (Jvm.Cond.lays "StationRows$Persons" "StationRows$Persons" "rowLength" "I") ∈ sr_ws := sr_mem 149 (by decide +kernel) rfl
theorem k_151 : (Jvm.Cond.lays "StationRows$Persons" "StationRows$Persons" "count" "I") ∈ sr_ws := sr_mem 151 (by decide +kernel) rfl
theorem k_153 : (Jvm.Cond.lays "StationRows$Persons" "StationRows$Persons" "distanceLimit" "I") ∈ sr_ws := sr_mem 153 (by decide +kernel) rfl
theorem k_156 : (Jvm.Cond.classLink "StationRows" (30 : Nat) "StationRows$Needs") ∈ sr_ws := sr_mem 156 (by decide +kernel) rfl
theorem k_157 : (Jvm.Cond.instantiable "StationRows$Needs" (1 : Nat)) ∈ sr_ws := sr_mem 157 (by decide +kernel) rfl
theorem k_159 : (Jvm.Cond.instanceMethod ({ cls := "StationRows$Needs", name := "<init>", desc := "()V" } : Jvm.MethodName)) ∈ sr_ws := sr_mem 159 (by decide +kernel) rfl
set_option maxRecDepth 100000 in
theorem k_160 : (Jvm.Cond.code ({ cls := "StationRows$Needs", name := "<init>", desc := "()V" } : Jvm.MethodName) prog_4_method_1_code (1 : Nat) (Option.none : Option Jvm.ClassFile.FieldType)) ∈ sr_ws := sr_mem 160 rfl rfl
theorem k_161 : (Jvm.Cond.methodLink "StationRows$Needs" (3 : Nat) ({ cls := "java/lang/Object", name := "<init>", desc := "()V" } : Jvm.MethodName)) ∈ sr_ws := sr_mem 161 (by decide +kernel) rfl
theorem k_162 : (Jvm.Cond.fieldLink "StationRows$Needs" (9 : Nat) "StationRows$Needs" "needed" "[I") ∈ sr_ws := sr_mem 162 (by decide +kernel) rfl
theorem k_163 : (Jvm.Cond.laysFinal "StationRows$Needs" "StationRows$Needs" "needed" "[I") ∈ sr_ws := sr_mem 163 (by decide +kernel) rfl
theorem k_166 : (Jvm.Cond.classLink "StationRows" (37 : Nat) "StationRows$Checks") ∈ sr_ws := sr_mem 166 (by decide +kernel) rfl
theorem k_167 : (Jvm.Cond.instantiable "StationRows$Checks" (5 : Nat)) ∈ sr_ws := sr_mem 167 (by decide +kernel) rfl
theorem k_169 : (Jvm.Cond.instanceMethod ({ cls := "StationRows$Checks", name := "<init>", desc := "()V" } : Jvm.MethodName)) ∈ sr_ws := sr_mem 169 (by decide +kernel) rfl
set_option maxRecDepth 100000 in
theorem k_170 : (Jvm.Cond.code ({ cls := "StationRows$Checks", name := "<init>", desc := "()V" } : Jvm.MethodName) prog_2_method_1_code (1 : Nat) (Option.none : Option Jvm.ClassFile.FieldType)) ∈ sr_ws := sr_mem 170 rfl rfl
theorem k_171 : (Jvm.Cond.methodLink "StationRows$Checks" (3 : Nat) ({ cls := "java/lang/Object", name := "<init>", desc := "()V" } : Jvm.MethodName)) ∈ sr_ws := sr_mem 171 (by decide +kernel) rfl
theorem k_172 : (Jvm.Cond.fieldLink "StationRows$Checks" (9 : Nat) "StationRows$Checks" "periods" "[I") ∈ sr_ws := sr_mem 172 (by decide +kernel) rfl
theorem k_173 : (Jvm.Cond.fieldLink "StationRows$Checks" (15 : Nat) "StationRows$Checks" "latest" "[I") ∈ sr_ws := sr_mem 173 (by decide +kernel) rfl
theorem k_174 : (Jvm.Cond.fieldLink "StationRows$Checks" (18 : Nat) "StationRows$Checks" "donePlaces" "[I") ∈ sr_ws := sr_mem 174 (by decide +kernel) rfl
theorem k_175 : (Jvm.Cond.fieldLink "StationRows$Checks" (21 : Nat) "StationRows$Checks" "doneMinutes" "[I") ∈ sr_ws := sr_mem 175 (by decide +kernel) rfl
theorem k_176 : (Jvm.Cond.fieldLink "StationRows$Checks" (24 : Nat) "StationRows$Checks" "doneCount" "I") ∈ sr_ws := sr_mem 176 (by decide +kernel) rfl
theorem k_177 : (Jvm.Cond.laysFinal "StationRows$Checks" "StationRows$Checks" "periods" "[I") ∈ sr_ws := sr_mem 177 (by decide +kernel) rfl
theorem k_179 : (Jvm.Cond.laysFinal "StationRows$Checks" "StationRows$Checks" "latest" "[I") ∈ sr_ws := sr_mem 179 (by decide +kernel) rfl
theorem k_181 : (Jvm.Cond.laysFinal "StationRows$Checks" "StationRows$Checks" "donePlaces" "[I") ∈ sr_ws := sr_mem 181 (by decide +kernel) rfl
theorem k_183 : (Jvm.Cond.laysFinal "StationRows$Checks" "StationRows$Checks" "doneMinutes" "[I") ∈ sr_ws := sr_mem 183 (by decide +kernel) rfl
theorem k_185 : (Jvm.Cond.lays "StationRows$Checks" "StationRows$Checks" "doneCount" "I") ∈ sr_ws := sr_mem 185 (by decide +kernel) rfl
theorem k_188 : (Jvm.Cond.classLink "StationRows" (44 : Nat) "StationRows$Keys") ∈ sr_ws := sr_mem 188 (by decide +kernel) rfl
theorem k_189 : (Jvm.Cond.instantiable "StationRows$Keys" (1 : Nat)) ∈ sr_ws := sr_mem 189 (by decide +kernel) rfl
theorem k_191 : (Jvm.Cond.instanceMethod ({ cls := "StationRows$Keys", name := "<init>", desc := "()V" } : Jvm.MethodName)) ∈ sr_ws := sr_mem 191 (by decide +kernel) rfl
set_option maxRecDepth 100000 in
theorem k_192 : (Jvm.Cond.code ({ cls := "StationRows$Keys", name := "<init>", desc := "()V" } : Jvm.MethodName) prog_3_method_1_code (1 : Nat) (Option.none : Option Jvm.ClassFile.FieldType)) ∈ sr_ws := sr_mem 192 rfl rfl
theorem k_193 : (Jvm.Cond.methodLink "StationRows$Keys" (3 : Nat) ({ cls := "java/lang/Object", name := "<init>", desc := "()V" } : Jvm.MethodName)) ∈ sr_ws := sr_mem 193 (by decide +kernel) rfl
theorem k_194 : (Jvm.Cond.fieldLink "StationRows$Keys" (9 : Nat) "StationRows$Keys" "holders" "[I") ∈ sr_ws := sr_mem 194 (by decide +kernel) rfl
theorem k_195 : (Jvm.Cond.laysFinal "StationRows$Keys" "StationRows$Keys" "holders" "[I") ∈ sr_ws := sr_mem 195 (by decide +kernel) rfl
theorem k_198 : (Jvm.Cond.fieldLink "StationRows" (10 : Nat) "StationRows" "stations" "LStationRows$Stations;") ∈ sr_ws := sr_mem 198 (by decide +kernel) rfl
theorem k_199 : (Jvm.Cond.fieldLink "StationRows" (19 : Nat) "StationRows" "vehicles" "LStationRows$Vehicles;") ∈ sr_ws := sr_mem 199 (by decide +kernel) rfl
theorem k_200 : (Jvm.Cond.fieldLink "StationRows" (26 : Nat) "StationRows" "persons" "LStationRows$Persons;") ∈ sr_ws := sr_mem 200 (by decide +kernel) rfl
theorem k_201 : (Jvm.Cond.fieldLink "StationRows" (33 : Nat) "StationRows" "needs" "LStationRows$Needs;") ∈ sr_ws := sr_mem 201 (by decide +kernel) rfl
theorem k_202 : (Jvm.Cond.fieldLink "StationRows" (40 : Nat) "StationRows" "checks" "LStationRows$Checks;") ∈ sr_ws := sr_mem 202 (by decide +kernel) rfl
theorem k_203 : (Jvm.Cond.fieldLink "StationRows" (47 : Nat) "StationRows" "keys" "LStationRows$Keys;") ∈ sr_ws := sr_mem 203 (by decide +kernel) rfl
theorem k_204 : (Jvm.Cond.laysFinal "StationRows" "StationRows" "stations" "LStationRows$Stations;") ∈ sr_ws := sr_mem 204 (by decide +kernel) rfl
theorem k_206 : (Jvm.Cond.laysFinal "StationRows" "StationRows" "vehicles" "LStationRows$Vehicles;") ∈ sr_ws := sr_mem 206 (by decide +kernel) rfl
theorem k_208 : (Jvm.Cond.laysFinal "StationRows" "StationRows" "persons" "LStationRows$Persons;") ∈ sr_ws := sr_mem 208 (by decide +kernel) rfl
theorem k_210 : (Jvm.Cond.laysFinal "StationRows" "StationRows" "needs" "LStationRows$Needs;") ∈ sr_ws := sr_mem 210 (by decide +kernel) rfl
theorem k_212 : (Jvm.Cond.laysFinal "StationRows" "StationRows" "checks" "LStationRows$Checks;") ∈ sr_ws := sr_mem 212 (by decide +kernel) rfl
theorem k_214 : (Jvm.Cond.laysFinal "StationRows" "StationRows" "keys" "LStationRows$Keys;") ∈ sr_ws := sr_mem 214 (by decide +kernel) rfl
theorem k_217 : (Jvm.Cond.methodLink "StationRowsLaw" (147 : Nat) ({ cls := "StationRows", name := "twice", desc := "()I" } : Jvm.MethodName)) ∈ sr_ws := sr_mem 217 (by decide +kernel) rfl
theorem k_218 : (Jvm.Cond.instanceMethod ({ cls := "StationRows", name := "twice", desc := "()I" } : Jvm.MethodName)) ∈ sr_ws := sr_mem 218 (by decide +kernel) rfl
theorem k_219 : (Jvm.Cond.selects "StationRows" ({ cls := "StationRows", name := "twice", desc := "()I" } : Jvm.MethodName) ({ cls := "StationRows", name := "twice", desc := "()I" } : Jvm.MethodName)) ∈ sr_ws := sr_mem 219 (by decide +kernel) rfl
set_option maxRecDepth 100000 in
theorem k_220 : (Jvm.Cond.code ({ cls := "StationRows", name := "twice", desc := "()I" } : Jvm.MethodName) prog_1_method_20_code (1 : Nat) (Option.some Jvm.ClassFile.FieldType.int)) ∈ sr_ws := sr_mem 220 rfl rfl
theorem k_221 : (Jvm.Cond.methodLink "StationRows" (183 : Nat) ({ cls := "StationRows$Keys", name := "countAtSeveral", desc := "()I" } : Jvm.MethodName)) ∈ sr_ws := sr_mem 221 (by decide +kernel) rfl
theorem k_222 : (Jvm.Cond.instanceMethod ({ cls := "StationRows$Keys", name := "countAtSeveral", desc := "()I" } : Jvm.MethodName)) ∈ sr_ws := sr_mem 222 (by decide +kernel) rfl
theorem k_223 : (Jvm.Cond.selects "StationRows$Keys" ({ cls := "StationRows$Keys", name := "countAtSeveral", desc := "()I" } : Jvm.MethodName) ({ cls := "StationRows$Keys", name := "countAtSeveral", desc := "()I" } : Jvm.MethodName)) ∈ sr_ws := sr_mem 223 (by decide +kernel) rfl
set_option maxRecDepth 100000 in
theorem k_224 : (Jvm.Cond.code ({ cls := "StationRows$Keys", name := "countAtSeveral", desc := "()I" } : Jvm.MethodName) prog_3_method_5_code (3 : Nat) (Option.some Jvm.ClassFile.FieldType.int)) ∈ sr_ws := sr_mem 224 rfl rfl
theorem k_225 : (Jvm.Cond.methodLink "StationRows$Keys" (19 : Nat) ({ cls := "java/lang/Integer", name := "bitCount", desc := "(I)I" } : Jvm.MethodName)) ∈ sr_ws := sr_mem 225 (by decide +kernel) rfl
theorem k_226 : (Jvm.Cond.static ({ cls := "java/lang/Integer", name := "bitCount", desc := "(I)I" } : Jvm.MethodName)) ∈ sr_ws := sr_mem 226 (by decide +kernel) rfl
set_option maxRecDepth 100000 in
theorem k_227 : (Jvm.Cond.code ({ cls := "java/lang/Integer", name := "bitCount", desc := "(I)I" } : Jvm.MethodName) prog_15_method_49_code (1 : Nat) (Option.some Jvm.ClassFile.FieldType.int)) ∈ sr_ws := sr_mem 227 rfl rfl
theorem k_228 : (Jvm.Cond.constant "java/lang/Integer" (265 : Nat) (1431655765 : Int32)) ∈ sr_ws := sr_mem 228 (by decide +kernel) rfl
theorem k_229 : (Jvm.Cond.constant "java/lang/Integer" (266 : Nat) (858993459 : Int32)) ∈ sr_ws := sr_mem 229 (by decide +kernel) rfl
theorem k_230 : (Jvm.Cond.constant "java/lang/Integer" (267 : Nat) (252645135 : Int32)) ∈ sr_ws := sr_mem 230 (by decide +kernel) rfl
theorem k_231 : (Jvm.Cond.methodLink "StationRowsLaw" (81 : Nat) ({ cls := "StationRowsLaw", name := "station", desc := "(LStationRows;I[J)I" } : Jvm.MethodName)) ∈ sr_ws := sr_mem 231 (by decide +kernel) rfl
theorem k_232 : (Jvm.Cond.static ({ cls := "StationRowsLaw", name := "station", desc := "(LStationRows;I[J)I" } : Jvm.MethodName)) ∈ sr_ws := sr_mem 232 (by decide +kernel) rfl
set_option maxRecDepth 100000 in
theorem k_233 : (Jvm.Cond.codeWith ({ cls := "StationRowsLaw", name := "station", desc := "(LStationRows;I[J)I" } : Jvm.MethodName) method_3_code (4 : Nat) (Option.some Jvm.ClassFile.FieldType.int) [((0 : Nat), (9 : Nat), (12 : Nat), (13 : Nat)), ((0 : Nat), (9 : Nat), (15 : Nat), (15 : Nat))]) ∈ sr_ws := sr_mem 233 rfl rfl
theorem k_234 : (Jvm.Cond.classLink "StationRowsLaw" (13 : Nat) "java/lang/IndexOutOfBoundsException") ∈ sr_ws := sr_mem 234 (by decide +kernel) rfl
theorem k_235 : (Jvm.Cond.classLink "StationRowsLaw" (15 : Nat) "java/lang/UnsupportedOperationException") ∈ sr_ws := sr_mem 235 (by decide +kernel) rfl
theorem k_236 : (Jvm.Cond.methodLink "StationRowsLaw" (7 : Nat) ({ cls := "StationRows", name := "station", desc := "(I)I" } : Jvm.MethodName)) ∈ sr_ws := sr_mem 236 (by decide +kernel) rfl
theorem k_237 : (Jvm.Cond.instanceMethod ({ cls := "StationRows", name := "station", desc := "(I)I" } : Jvm.MethodName)) ∈ sr_ws := sr_mem 237 (by decide +kernel) rfl
theorem k_238 : (Jvm.Cond.selects "StationRows" ({ cls := "StationRows", name := "station", desc := "(I)I" } : Jvm.MethodName) ({ cls := "StationRows", name := "station", desc := "(I)I" } : Jvm.MethodName)) ∈ sr_ws := sr_mem 238 (by decide +kernel) rfl
set_option maxRecDepth 100000 in
theorem k_239 : (Jvm.Cond.code ({ cls := "StationRows", name := "station", desc := "(I)I" } : Jvm.MethodName) prog_1_method_2_code (2 : Nat) (Option.some Jvm.ClassFile.FieldType.int)) ∈ sr_ws := sr_mem 239 rfl rfl
theorem k_240 : (Jvm.Cond.methodLink "StationRows" (51 : Nat) ({ cls := "StationRows", name := "requireRange", desc := "(III)V" } : Jvm.MethodName)) ∈ sr_ws := sr_mem 240 (by decide +kernel) rfl
theorem k_241 : (Jvm.Cond.static ({ cls := "StationRows", name := "requireRange", desc := "(III)V" } : Jvm.MethodName)) ∈ sr_ws := sr_mem 241 (by decide +kernel) rfl
set_option maxRecDepth 100000 in
theorem k_242 : (Jvm.Cond.code ({ cls := "StationRows", name := "requireRange", desc := "(III)V" } : Jvm.MethodName) prog_1_method_22_code (3 : Nat) (Option.none : Option Jvm.ClassFile.FieldType)) ∈ sr_ws := sr_mem 242 rfl rfl
theorem k_243 : (Jvm.Cond.classLink "StationRows" (193 : Nat) "java/lang/IndexOutOfBoundsException") ∈ sr_ws := sr_mem 243 (by decide +kernel) rfl
theorem k_312 : (Jvm.Cond.methodLink "StationRows" (55 : Nat) ({ cls := "StationRows$Stations", name := "count", desc := "()I" } : Jvm.MethodName)) ∈ sr_ws := sr_mem 312 (by decide +kernel) rfl
theorem k_313 : (Jvm.Cond.instanceMethod ({ cls := "StationRows$Stations", name := "count", desc := "()I" } : Jvm.MethodName)) ∈ sr_ws := sr_mem 313 (by decide +kernel) rfl
theorem k_314 : (Jvm.Cond.selects "StationRows$Stations" ({ cls := "StationRows$Stations", name := "count", desc := "()I" } : Jvm.MethodName) ({ cls := "StationRows$Stations", name := "count", desc := "()I" } : Jvm.MethodName)) ∈ sr_ws := sr_mem 314 (by decide +kernel) rfl
set_option maxRecDepth 100000 in
theorem k_315 : (Jvm.Cond.code ({ cls := "StationRows$Stations", name := "count", desc := "()I" } : Jvm.MethodName) prog_6_method_2_code (1 : Nat) (Option.some Jvm.ClassFile.FieldType.int)) ∈ sr_ws := sr_mem 315 rfl rfl
theorem k_316 : (Jvm.Cond.methodLink "StationRows" (59 : Nat) ({ cls := "StationRows", name := "requireRoom", desc := "(Z)V" } : Jvm.MethodName)) ∈ sr_ws := sr_mem 316 (by decide +kernel) rfl
theorem k_317 : (Jvm.Cond.static ({ cls := "StationRows", name := "requireRoom", desc := "(Z)V" } : Jvm.MethodName)) ∈ sr_ws := sr_mem 317 (by decide +kernel) rfl
set_option maxRecDepth 100000 in
theorem k_318 : (Jvm.Cond.code ({ cls := "StationRows", name := "requireRoom", desc := "(Z)V" } : Jvm.MethodName) prog_1_method_27_code (1 : Nat) (Option.none : Option Jvm.ClassFile.FieldType)) ∈ sr_ws := sr_mem 318 rfl rfl
theorem k_319 : (Jvm.Cond.classLink "StationRows" (208 : Nat) "java/lang/UnsupportedOperationException") ∈ sr_ws := sr_mem 319 (by decide +kernel) rfl
theorem k_335 : (Jvm.Cond.constant "StationRows" (63 : Nat) (100000 : Int32)) ∈ sr_ws := sr_mem 335 (by decide +kernel) rfl
theorem k_336 : (Jvm.Cond.methodLink "StationRows" (64 : Nat) ({ cls := "StationRows$Stations", name := "add", desc := "(III)I" } : Jvm.MethodName)) ∈ sr_ws := sr_mem 336 (by decide +kernel) rfl
theorem k_337 : (Jvm.Cond.instanceMethod ({ cls := "StationRows$Stations", name := "add", desc := "(III)I" } : Jvm.MethodName)) ∈ sr_ws := sr_mem 337 (by decide +kernel) rfl
theorem k_338 : (Jvm.Cond.selects "StationRows$Stations" ({ cls := "StationRows$Stations", name := "add", desc := "(III)I" } : Jvm.MethodName) ({ cls := "StationRows$Stations", name := "add", desc := "(III)I" } : Jvm.MethodName)) ∈ sr_ws := sr_mem 338 (by decide +kernel) rfl
set_option maxRecDepth 100000 in
theorem k_339 : (Jvm.Cond.code ({ cls := "StationRows$Stations", name := "add", desc := "(III)I" } : Jvm.MethodName) prog_6_method_3_code (4 : Nat) (Option.some Jvm.ClassFile.FieldType.int)) ∈ sr_ws := sr_mem 339 rfl rfl
theorem k_340 : (Jvm.Cond.methodLink "StationRowsLaw" (91 : Nat) ({ cls := "StationRowsLaw", name := "temporary", desc := "(LStationRows;III[J)I" } : Jvm.MethodName)) ∈ sr_ws := sr_mem 340 (by decide +kernel) rfl
theorem k_341 : (Jvm.Cond.static ({ cls := "StationRowsLaw", name := "temporary", desc := "(LStationRows;III[J)I" } : Jvm.MethodName)) ∈ sr_ws := sr_mem 341 (by decide +kernel) rfl
set_option maxRecDepth 100000 in
theorem k_342 : (Jvm.Cond.codeWith ({ cls := "StationRowsLaw", name := "temporary", desc := "(LStationRows;III[J)I" } : Jvm.MethodName) method_4_code (6 : Nat) (Option.some Jvm.ClassFile.FieldType.int) [((0 : Nat), (12 : Nat), (15 : Nat), (13 : Nat)), ((0 : Nat), (12 : Nat), (19 : Nat), (15 : Nat))]) ∈ sr_ws := sr_mem 342 rfl rfl
theorem k_343 : (Jvm.Cond.methodLink "StationRowsLaw" (17 : Nat) ({ cls := "StationRows", name := "temporary", desc := "(III)I" } : Jvm.MethodName)) ∈ sr_ws := sr_mem 343 (by decide +kernel) rfl
theorem k_344 : (Jvm.Cond.instanceMethod ({ cls := "StationRows", name := "temporary", desc := "(III)I" } : Jvm.MethodName)) ∈ sr_ws := sr_mem 344 (by decide +kernel) rfl
theorem k_345 : (Jvm.Cond.selects "StationRows" ({ cls := "StationRows", name := "temporary", desc := "(III)I" } : Jvm.MethodName) ({ cls := "StationRows", name := "temporary", desc := "(III)I" } : Jvm.MethodName)) ∈ sr_ws := sr_mem 345 (by decide +kernel) rfl
set_option maxRecDepth 100000 in
theorem k_346 : (Jvm.Cond.code ({ cls := "StationRows", name := "temporary", desc := "(III)I" } : Jvm.MethodName) prog_1_method_3_code (4 : Nat) (Option.some Jvm.ClassFile.FieldType.int)) ∈ sr_ws := sr_mem 346 rfl rfl
theorem k_347 : (Jvm.Cond.methodLink "StationRows" (68 : Nat) ({ cls := "StationRows", name := "requireTime", desc := "(II)V" } : Jvm.MethodName)) ∈ sr_ws := sr_mem 347 (by decide +kernel) rfl
theorem k_348 : (Jvm.Cond.static ({ cls := "StationRows", name := "requireTime", desc := "(II)V" } : Jvm.MethodName)) ∈ sr_ws := sr_mem 348 (by decide +kernel) rfl
set_option maxRecDepth 100000 in
theorem k_349 : (Jvm.Cond.code ({ cls := "StationRows", name := "requireTime", desc := "(II)V" } : Jvm.MethodName) prog_1_method_25_code (2 : Nat) (Option.none : Option Jvm.ClassFile.FieldType)) ∈ sr_ws := sr_mem 349 rfl rfl
theorem k_350 : (Jvm.Cond.methodLink "StationRows" (114 : Nat) ({ cls := "StationRows", name := "requireMinute", desc := "(I)V" } : Jvm.MethodName)) ∈ sr_ws := sr_mem 350 (by decide +kernel) rfl
theorem k_351 : (Jvm.Cond.static ({ cls := "StationRows", name := "requireMinute", desc := "(I)V" } : Jvm.MethodName)) ∈ sr_ws := sr_mem 351 (by decide +kernel) rfl
set_option maxRecDepth 100000 in
theorem k_352 : (Jvm.Cond.code ({ cls := "StationRows", name := "requireMinute", desc := "(I)V" } : Jvm.MethodName) prog_1_method_23_code (1 : Nat) (Option.none : Option Jvm.ClassFile.FieldType)) ∈ sr_ws := sr_mem 352 rfl rfl
theorem k_353 : (Jvm.Cond.constant "StationRows" (198 : Nat) (99999 : Int32)) ∈ sr_ws := sr_mem 353 (by decide +kernel) rfl
theorem k_355 : (Jvm.Cond.methodLink "StationRowsLaw" (95 : Nat) ({ cls := "StationRowsLaw", name := "vehicle", desc := "(LStationRows;III[J)I" } : Jvm.MethodName)) ∈ sr_ws := sr_mem 355 (by decide +kernel) rfl
theorem k_356 : (Jvm.Cond.static ({ cls := "StationRowsLaw", name := "vehicle", desc := "(LStationRows;III[J)I" } : Jvm.MethodName)) ∈ sr_ws := sr_mem 356 (by decide +kernel) rfl
set_option maxRecDepth 100000 in
theorem k_357 : (Jvm.Cond.codeWith ({ cls := "StationRowsLaw", name := "vehicle", desc := "(LStationRows;III[J)I" } : Jvm.MethodName) method_5_code (6 : Nat) (Option.some Jvm.ClassFile.FieldType.int) [((0 : Nat), (12 : Nat), (15 : Nat), (24 : Nat)), ((0 : Nat), (12 : Nat), (19 : Nat), (13 : Nat)), ((0 : Nat), (12 : Nat), (23 : Nat), (15 : Nat))]) ∈ sr_ws := sr_mem 357 rfl rfl
theorem k_358 : (Jvm.Cond.classLink "StationRowsLaw" (24 : Nat) "java/lang/IllegalArgumentException") ∈ sr_ws := sr_mem 358 (by decide +kernel) rfl
theorem k_359 : (Jvm.Cond.methodLink "StationRowsLaw" (21 : Nat) ({ cls := "StationRows", name := "vehicle", desc := "(III)I" } : Jvm.MethodName)) ∈ sr_ws := sr_mem 359 (by decide +kernel) rfl
theorem k_360 : (Jvm.Cond.instanceMethod ({ cls := "StationRows", name := "vehicle", desc := "(III)I" } : Jvm.MethodName)) ∈ sr_ws := sr_mem 360 (by decide +kernel) rfl
theorem k_361 : (Jvm.Cond.selects "StationRows" ({ cls := "StationRows", name := "vehicle", desc := "(III)I" } : Jvm.MethodName) ({ cls := "StationRows", name := "vehicle", desc := "(III)I" } : Jvm.MethodName)) ∈ sr_ws := sr_mem 361 (by decide +kernel) rfl
set_option maxRecDepth 100000 in
theorem k_362 : (Jvm.Cond.code ({ cls := "StationRows", name := "vehicle", desc := "(III)I" } : Jvm.MethodName) prog_1_method_4_code (4 : Nat) (Option.some Jvm.ClassFile.FieldType.int)) ∈ sr_ws := sr_mem 362 rfl rfl
theorem k_363 : (Jvm.Cond.methodLink "StationRows" (72 : Nat) ({ cls := "StationRows", name := "requireKnown", desc := "(II)V" } : Jvm.MethodName)) ∈ sr_ws := sr_mem 363 (by decide +kernel) rfl
theorem k_364 : (Jvm.Cond.static ({ cls := "StationRows", name := "requireKnown", desc := "(II)V" } : Jvm.MethodName)) ∈ sr_ws := sr_mem 364 (by decide +kernel) rfl
set_option maxRecDepth 100000 in
theorem k_365 : (Jvm.Cond.code ({ cls := "StationRows", name := "requireKnown", desc := "(II)V" } : Jvm.MethodName) prog_1_method_21_code (2 : Nat) (Option.none : Option Jvm.ClassFile.FieldType)) ∈ sr_ws := sr_mem 365 rfl rfl
theorem k_366 : (Jvm.Cond.classLink "StationRows" (186 : Nat) "java/lang/IllegalArgumentException") ∈ sr_ws := sr_mem 366 (by decide +kernel) rfl
theorem k_382 : (Jvm.Cond.methodLink "StationRows" (75 : Nat) ({ cls := "StationRows$Vehicles", name := "count", desc := "()I" } : Jvm.MethodName)) ∈ sr_ws := sr_mem 382 (by decide +kernel) rfl
theorem k_383 : (Jvm.Cond.instanceMethod ({ cls := "StationRows$Vehicles", name := "count", desc := "()I" } : Jvm.MethodName)) ∈ sr_ws := sr_mem 383 (by decide +kernel) rfl
theorem k_384 : (Jvm.Cond.selects "StationRows$Vehicles" ({ cls := "StationRows$Vehicles", name := "count", desc := "()I" } : Jvm.MethodName) ({ cls := "StationRows$Vehicles", name := "count", desc := "()I" } : Jvm.MethodName)) ∈ sr_ws := sr_mem 384 (by decide +kernel) rfl
set_option maxRecDepth 100000 in
theorem k_385 : (Jvm.Cond.code ({ cls := "StationRows$Vehicles", name := "count", desc := "()I" } : Jvm.MethodName) prog_8_method_2_code (1 : Nat) (Option.some Jvm.ClassFile.FieldType.int)) ∈ sr_ws := sr_mem 385 rfl rfl
theorem k_386 : (Jvm.Cond.methodLink "StationRows" (76 : Nat) ({ cls := "StationRows$Vehicles", name := "countOf", desc := "(I)I" } : Jvm.MethodName)) ∈ sr_ws := sr_mem 386 (by decide +kernel) rfl
theorem k_387 : (Jvm.Cond.instanceMethod ({ cls := "StationRows$Vehicles", name := "countOf", desc := "(I)I" } : Jvm.MethodName)) ∈ sr_ws := sr_mem 387 (by decide +kernel) rfl
theorem k_388 : (Jvm.Cond.selects "StationRows$Vehicles" ({ cls := "StationRows$Vehicles", name := "countOf", desc := "(I)I" } : Jvm.MethodName) ({ cls := "StationRows$Vehicles", name := "countOf", desc := "(I)I" } : Jvm.MethodName)) ∈ sr_ws := sr_mem 388 (by decide +kernel) rfl
set_option maxRecDepth 100000 in
theorem k_389 : (Jvm.Cond.code ({ cls := "StationRows$Vehicles", name := "countOf", desc := "(I)I" } : Jvm.MethodName) prog_8_method_6_code (4 : Nat) (Option.some Jvm.ClassFile.FieldType.int)) ∈ sr_ws := sr_mem 389 rfl rfl
theorem k_390 : (Jvm.Cond.methodLink "StationRows" (80 : Nat) ({ cls := "StationRows$Stations", name := "doorsOf", desc := "(I)I" } : Jvm.MethodName)) ∈ sr_ws := sr_mem 390 (by decide +kernel) rfl
theorem k_391 : (Jvm.Cond.instanceMethod ({ cls := "StationRows$Stations", name := "doorsOf", desc := "(I)I" } : Jvm.MethodName)) ∈ sr_ws := sr_mem 391 (by decide +kernel) rfl
theorem k_392 : (Jvm.Cond.selects "StationRows$Stations" ({ cls := "StationRows$Stations", name := "doorsOf", desc := "(I)I" } : Jvm.MethodName) ({ cls := "StationRows$Stations", name := "doorsOf", desc := "(I)I" } : Jvm.MethodName)) ∈ sr_ws := sr_mem 392 (by decide +kernel) rfl
set_option maxRecDepth 100000 in
theorem k_393 : (Jvm.Cond.code ({ cls := "StationRows$Stations", name := "doorsOf", desc := "(I)I" } : Jvm.MethodName) prog_6_method_4_code (2 : Nat) (Option.some Jvm.ClassFile.FieldType.int)) ∈ sr_ws := sr_mem 393 rfl rfl
theorem k_394 : (Jvm.Cond.methodLink "StationRows" (83 : Nat) ({ cls := "StationRows$Vehicles", name := "add", desc := "(III)I" } : Jvm.MethodName)) ∈ sr_ws := sr_mem 394 (by decide +kernel) rfl
theorem k_395 : (Jvm.Cond.instanceMethod ({ cls := "StationRows$Vehicles", name := "add", desc := "(III)I" } : Jvm.MethodName)) ∈ sr_ws := sr_mem 395 (by decide +kernel) rfl
theorem k_396 : (Jvm.Cond.selects "StationRows$Vehicles" ({ cls := "StationRows$Vehicles", name := "add", desc := "(III)I" } : Jvm.MethodName) ({ cls := "StationRows$Vehicles", name := "add", desc := "(III)I" } : Jvm.MethodName)) ∈ sr_ws := sr_mem 396 (by decide +kernel) rfl
set_option maxRecDepth 100000 in
theorem k_397 : (Jvm.Cond.code ({ cls := "StationRows$Vehicles", name := "add", desc := "(III)I" } : Jvm.MethodName) prog_8_method_4_code (4 : Nat) (Option.some Jvm.ClassFile.FieldType.int)) ∈ sr_ws := sr_mem 397 rfl rfl
theorem k_398 : (Jvm.Cond.methodLink "StationRowsLaw" (98 : Nat) ({ cls := "StationRowsLaw", name := "out", desc := "(LStationRows;III)I" } : Jvm.MethodName)) ∈ sr_ws := sr_mem 398 (by decide +kernel) rfl
theorem k_399 : (Jvm.Cond.static ({ cls := "StationRowsLaw", name := "out", desc := "(LStationRows;III)I" } : Jvm.MethodName)) ∈ sr_ws := sr_mem 399 (by decide +kernel) rfl
set_option maxRecDepth 100000 in
theorem k_400 : (Jvm.Cond.codeWith ({ cls := "StationRowsLaw", name := "out", desc := "(LStationRows;III)I" } : Jvm.MethodName) method_6_code (5 : Nat) (Option.some Jvm.ClassFile.FieldType.int) [((0 : Nat), (7 : Nat), (10 : Nat), (24 : Nat)), ((0 : Nat), (7 : Nat), (14 : Nat), (13 : Nat)), ((0 : Nat), (7 : Nat), (18 : Nat), (30 : Nat)), ((0 : Nat), (7 : Nat), (22 : Nat), (15 : Nat))]) ∈ sr_ws := sr_mem 400 rfl rfl
theorem k_401 : (Jvm.Cond.classLink "StationRowsLaw" (30 : Nat) "java/lang/IllegalStateException") ∈ sr_ws := sr_mem 401 (by decide +kernel) rfl
theorem k_402 : (Jvm.Cond.methodLink "StationRowsLaw" (26 : Nat) ({ cls := "StationRows", name := "out", desc := "(III)V" } : Jvm.MethodName)) ∈ sr_ws := sr_mem 402 (by decide +kernel) rfl
theorem k_403 : (Jvm.Cond.instanceMethod ({ cls := "StationRows", name := "out", desc := "(III)V" } : Jvm.MethodName)) ∈ sr_ws := sr_mem 403 (by decide +kernel) rfl
theorem k_404 : (Jvm.Cond.selects "StationRows" ({ cls := "StationRows", name := "out", desc := "(III)V" } : Jvm.MethodName) ({ cls := "StationRows", name := "out", desc := "(III)V" } : Jvm.MethodName)) ∈ sr_ws := sr_mem 404 (by decide +kernel) rfl
set_option maxRecDepth 100000 in
theorem k_405 : (Jvm.Cond.code ({ cls := "StationRows", name := "out", desc := "(III)V" } : Jvm.MethodName) prog_1_method_5_code (4 : Nat) (Option.none : Option Jvm.ClassFile.FieldType)) ∈ sr_ws := sr_mem 405 rfl rfl
theorem k_406 : (Jvm.Cond.methodLink "StationRows" (84 : Nat) ({ cls := "StationRows$Vehicles", name := "outs", desc := "()LStationRows$Times;" } : Jvm.MethodName)) ∈ sr_ws := sr_mem 406 (by decide +kernel) rfl
theorem k_407 : (Jvm.Cond.instanceMethod ({ cls := "StationRows$Vehicles", name := "outs", desc := "()LStationRows$Times;" } : Jvm.MethodName)) ∈ sr_ws := sr_mem 407 (by decide +kernel) rfl
theorem k_408 : (Jvm.Cond.selects "StationRows$Vehicles" ({ cls := "StationRows$Vehicles", name := "outs", desc := "()LStationRows$Times;" } : Jvm.MethodName) ({ cls := "StationRows$Vehicles", name := "outs", desc := "()LStationRows$Times;" } : Jvm.MethodName)) ∈ sr_ws := sr_mem 408 (by decide +kernel) rfl
set_option maxRecDepth 100000 in
theorem k_409 : (Jvm.Cond.code ({ cls := "StationRows$Vehicles", name := "outs", desc := "()LStationRows$Times;" } : Jvm.MethodName) prog_8_method_3_code (1 : Nat) (Option.some (Jvm.ClassFile.FieldType.object "StationRows$Times"))) ∈ sr_ws := sr_mem 409 rfl rfl
theorem k_410 : (Jvm.Cond.methodLink "StationRows" (88 : Nat) ({ cls := "StationRows", name := "addTime", desc := "(LStationRows$Times;III)V" } : Jvm.MethodName)) ∈ sr_ws := sr_mem 410 (by decide +kernel) rfl
theorem k_411 : (Jvm.Cond.static ({ cls := "StationRows", name := "addTime", desc := "(LStationRows$Times;III)V" } : Jvm.MethodName)) ∈ sr_ws := sr_mem 411 (by decide +kernel) rfl
set_option maxRecDepth 100000 in
theorem k_412 : (Jvm.Cond.code ({ cls := "StationRows", name := "addTime", desc := "(LStationRows$Times;III)V" } : Jvm.MethodName) prog_1_method_28_code (4 : Nat) (Option.none : Option Jvm.ClassFile.FieldType)) ∈ sr_ws := sr_mem 412 rfl rfl
theorem k_413 : (Jvm.Cond.methodLink "StationRows" (213 : Nat) ({ cls := "StationRows$Times", name := "meets", desc := "(III)Z" } : Jvm.MethodName)) ∈ sr_ws := sr_mem 413 (by decide +kernel) rfl
theorem k_414 : (Jvm.Cond.instanceMethod ({ cls := "StationRows$Times", name := "meets", desc := "(III)Z" } : Jvm.MethodName)) ∈ sr_ws := sr_mem 414 (by decide +kernel) rfl
theorem k_415 : (Jvm.Cond.selects "StationRows$Times" ({ cls := "StationRows$Times", name := "meets", desc := "(III)Z" } : Jvm.MethodName) ({ cls := "StationRows$Times", name := "meets", desc := "(III)Z" } : Jvm.MethodName)) ∈ sr_ws := sr_mem 415 (by decide +kernel) rfl
set_option maxRecDepth 100000 in
theorem k_416 : (Jvm.Cond.code ({ cls := "StationRows$Times", name := "meets", desc := "(III)Z" } : Jvm.MethodName) prog_7_method_4_code (6 : Nat) (Option.some Jvm.ClassFile.FieldType.boolean)) ∈ sr_ws := sr_mem 416 rfl rfl
theorem k_417 : (Jvm.Cond.methodLink "StationRows" (102 : Nat) ({ cls := "StationRows", name := "requireState", desc := "(Z)V" } : Jvm.MethodName)) ∈ sr_ws := sr_mem 417 (by decide +kernel) rfl
theorem k_418 : (Jvm.Cond.static ({ cls := "StationRows", name := "requireState", desc := "(Z)V" } : Jvm.MethodName)) ∈ sr_ws := sr_mem 418 (by decide +kernel) rfl
set_option maxRecDepth 100000 in
theorem k_419 : (Jvm.Cond.code ({ cls := "StationRows", name := "requireState", desc := "(Z)V" } : Jvm.MethodName) prog_1_method_26_code (1 : Nat) (Option.none : Option Jvm.ClassFile.FieldType)) ∈ sr_ws := sr_mem 419 rfl rfl
theorem k_420 : (Jvm.Cond.classLink "StationRows" (203 : Nat) "java/lang/IllegalStateException") ∈ sr_ws := sr_mem 420 (by decide +kernel) rfl
theorem k_436 : (Jvm.Cond.methodLink "StationRows" (218 : Nat) ({ cls := "StationRows$Times", name := "hasRoom", desc := "(I)Z" } : Jvm.MethodName)) ∈ sr_ws := sr_mem 436 (by decide +kernel) rfl
theorem k_437 : (Jvm.Cond.instanceMethod ({ cls := "StationRows$Times", name := "hasRoom", desc := "(I)Z" } : Jvm.MethodName)) ∈ sr_ws := sr_mem 437 (by decide +kernel) rfl
theorem k_438 : (Jvm.Cond.selects "StationRows$Times" ({ cls := "StationRows$Times", name := "hasRoom", desc := "(I)Z" } : Jvm.MethodName) ({ cls := "StationRows$Times", name := "hasRoom", desc := "(I)Z" } : Jvm.MethodName)) ∈ sr_ws := sr_mem 438 (by decide +kernel) rfl
set_option maxRecDepth 100000 in
theorem k_439 : (Jvm.Cond.code ({ cls := "StationRows$Times", name := "hasRoom", desc := "(I)Z" } : Jvm.MethodName) prog_7_method_3_code (2 : Nat) (Option.some Jvm.ClassFile.FieldType.boolean)) ∈ sr_ws := sr_mem 439 rfl rfl
theorem k_440 : (Jvm.Cond.methodLink "StationRows" (222 : Nat) ({ cls := "StationRows$Times", name := "add", desc := "(III)V" } : Jvm.MethodName)) ∈ sr_ws := sr_mem 440 (by decide +kernel) rfl
theorem k_441 : (Jvm.Cond.instanceMethod ({ cls := "StationRows$Times", name := "add", desc := "(III)V" } : Jvm.MethodName)) ∈ sr_ws := sr_mem 441 (by decide +kernel) rfl
theorem k_442 : (Jvm.Cond.selects "StationRows$Times" ({ cls := "StationRows$Times", name := "add", desc := "(III)V" } : Jvm.MethodName) ({ cls := "StationRows$Times", name := "add", desc := "(III)V" } : Jvm.MethodName)) ∈ sr_ws := sr_mem 442 (by decide +kernel) rfl
set_option maxRecDepth 100000 in
theorem k_443 : (Jvm.Cond.code ({ cls := "StationRows$Times", name := "add", desc := "(III)V" } : Jvm.MethodName) prog_7_method_5_code (5 : Nat) (Option.none : Option Jvm.ClassFile.FieldType)) ∈ sr_ws := sr_mem 443 rfl rfl
theorem k_444 : (Jvm.Cond.methodLink "StationRowsLaw" (102 : Nat) ({ cls := "StationRowsLaw", name := "person", desc := "(LStationRows;II[J)I" } : Jvm.MethodName)) ∈ sr_ws := sr_mem 444 (by decide +kernel) rfl
theorem k_445 : (Jvm.Cond.static ({ cls := "StationRowsLaw", name := "person", desc := "(LStationRows;II[J)I" } : Jvm.MethodName)) ∈ sr_ws := sr_mem 445 (by decide +kernel) rfl
set_option maxRecDepth 100000 in
theorem k_446 : (Jvm.Cond.codeWith ({ cls := "StationRowsLaw", name := "person", desc := "(LStationRows;II[J)I" } : Jvm.MethodName) method_7_code (5 : Nat) (Option.some Jvm.ClassFile.FieldType.int) [((0 : Nat), (10 : Nat), (13 : Nat), (24 : Nat)), ((0 : Nat), (10 : Nat), (17 : Nat), (13 : Nat)), ((0 : Nat), (10 : Nat), (21 : Nat), (15 : Nat))]) ∈ sr_ws := sr_mem 446 rfl rfl
theorem k_447 : (Jvm.Cond.methodLink "StationRowsLaw" (32 : Nat) ({ cls := "StationRows", name := "person", desc := "(II)I" } : Jvm.MethodName)) ∈ sr_ws := sr_mem 447 (by decide +kernel) rfl
theorem k_448 : (Jvm.Cond.instanceMethod ({ cls := "StationRows", name := "person", desc := "(II)I" } : Jvm.MethodName)) ∈ sr_ws := sr_mem 448 (by decide +kernel) rfl
theorem k_449 : (Jvm.Cond.selects "StationRows" ({ cls := "StationRows", name := "person", desc := "(II)I" } : Jvm.MethodName) ({ cls := "StationRows", name := "person", desc := "(II)I" } : Jvm.MethodName)) ∈ sr_ws := sr_mem 449 (by decide +kernel) rfl
set_option maxRecDepth 100000 in
theorem k_450 : (Jvm.Cond.code ({ cls := "StationRows", name := "person", desc := "(II)I" } : Jvm.MethodName) prog_1_method_6_code (3 : Nat) (Option.some Jvm.ClassFile.FieldType.int)) ∈ sr_ws := sr_mem 450 rfl rfl
theorem k_451 : (Jvm.Cond.methodLink "StationRows" (92 : Nat) ({ cls := "StationRows$Persons", name := "count", desc := "()I" } : Jvm.MethodName)) ∈ sr_ws := sr_mem 451 (by decide +kernel) rfl
theorem k_452 : (Jvm.Cond.instanceMethod ({ cls := "StationRows$Persons", name := "count", desc := "()I" } : Jvm.MethodName)) ∈ sr_ws := sr_mem 452 (by decide +kernel) rfl
theorem k_453 : (Jvm.Cond.selects "StationRows$Persons" ({ cls := "StationRows$Persons", name := "count", desc := "()I" } : Jvm.MethodName) ({ cls := "StationRows$Persons", name := "count", desc := "()I" } : Jvm.MethodName)) ∈ sr_ws := sr_mem 453 (by decide +kernel) rfl
set_option maxRecDepth 100000 in
theorem k_454 : (Jvm.Cond.code ({ cls := "StationRows$Persons", name := "count", desc := "()I" } : Jvm.MethodName) prog_5_method_2_code (1 : Nat) (Option.some Jvm.ClassFile.FieldType.int)) ∈ sr_ws := sr_mem 454 rfl rfl
theorem k_455 : (Jvm.Cond.methodLink "StationRows" (93 : Nat) ({ cls := "StationRows$Persons", name := "add", desc := "(II)I" } : Jvm.MethodName)) ∈ sr_ws := sr_mem 455 (by decide +kernel) rfl
theorem k_456 : (Jvm.Cond.instanceMethod ({ cls := "StationRows$Persons", name := "add", desc := "(II)I" } : Jvm.MethodName)) ∈ sr_ws := sr_mem 456 (by decide +kernel) rfl
theorem k_457 : (Jvm.Cond.selects "StationRows$Persons" ({ cls := "StationRows$Persons", name := "add", desc := "(II)I" } : Jvm.MethodName) ({ cls := "StationRows$Persons", name := "add", desc := "(II)I" } : Jvm.MethodName)) ∈ sr_ws := sr_mem 457 (by decide +kernel) rfl
set_option maxRecDepth 100000 in
theorem k_458 : (Jvm.Cond.code ({ cls := "StationRows$Persons", name := "add", desc := "(II)I" } : Jvm.MethodName) prog_5_method_5_code (3 : Nat) (Option.some Jvm.ClassFile.FieldType.int)) ∈ sr_ws := sr_mem 458 rfl rfl
theorem k_459 : (Jvm.Cond.methodLink "StationRowsLaw" (106 : Nat) ({ cls := "StationRowsLaw", name := "duty", desc := "(LStationRows;III)I" } : Jvm.MethodName)) ∈ sr_ws := sr_mem 459 (by decide +kernel) rfl
theorem k_460 : (Jvm.Cond.static ({ cls := "StationRowsLaw", name := "duty", desc := "(LStationRows;III)I" } : Jvm.MethodName)) ∈ sr_ws := sr_mem 460 (by decide +kernel) rfl
set_option maxRecDepth 100000 in
theorem k_461 : (Jvm.Cond.codeWith ({ cls := "StationRowsLaw", name := "duty", desc := "(LStationRows;III)I" } : Jvm.MethodName) method_8_code (5 : Nat) (Option.some Jvm.ClassFile.FieldType.int) [((0 : Nat), (7 : Nat), (10 : Nat), (24 : Nat)), ((0 : Nat), (7 : Nat), (14 : Nat), (13 : Nat)), ((0 : Nat), (7 : Nat), (18 : Nat), (30 : Nat)), ((0 : Nat), (7 : Nat), (22 : Nat), (15 : Nat))]) ∈ sr_ws := sr_mem 461 rfl rfl
theorem k_462 : (Jvm.Cond.methodLink "StationRowsLaw" (36 : Nat) ({ cls := "StationRows", name := "duty", desc := "(III)V" } : Jvm.MethodName)) ∈ sr_ws := sr_mem 462 (by decide +kernel) rfl
theorem k_463 : (Jvm.Cond.instanceMethod ({ cls := "StationRows", name := "duty", desc := "(III)V" } : Jvm.MethodName)) ∈ sr_ws := sr_mem 463 (by decide +kernel) rfl
theorem k_464 : (Jvm.Cond.selects "StationRows" ({ cls := "StationRows", name := "duty", desc := "(III)V" } : Jvm.MethodName) ({ cls := "StationRows", name := "duty", desc := "(III)V" } : Jvm.MethodName)) ∈ sr_ws := sr_mem 464 (by decide +kernel) rfl
set_option maxRecDepth 100000 in
theorem k_465 : (Jvm.Cond.code ({ cls := "StationRows", name := "duty", desc := "(III)V" } : Jvm.MethodName) prog_1_method_7_code (4 : Nat) (Option.none : Option Jvm.ClassFile.FieldType)) ∈ sr_ws := sr_mem 465 rfl rfl
theorem k_466 : (Jvm.Cond.methodLink "StationRows" (96 : Nat) ({ cls := "StationRows$Persons", name := "duties", desc := "()LStationRows$Times;" } : Jvm.MethodName)) ∈ sr_ws := sr_mem 466 (by decide +kernel) rfl
theorem k_467 : (Jvm.Cond.instanceMethod ({ cls := "StationRows$Persons", name := "duties", desc := "()LStationRows$Times;" } : Jvm.MethodName)) ∈ sr_ws := sr_mem 467 (by decide +kernel) rfl
theorem k_468 : (Jvm.Cond.selects "StationRows$Persons" ({ cls := "StationRows$Persons", name := "duties", desc := "()LStationRows$Times;" } : Jvm.MethodName) ({ cls := "StationRows$Persons", name := "duties", desc := "()LStationRows$Times;" } : Jvm.MethodName)) ∈ sr_ws := sr_mem 468 (by decide +kernel) rfl
set_option maxRecDepth 100000 in
theorem k_469 : (Jvm.Cond.code ({ cls := "StationRows$Persons", name := "duties", desc := "()LStationRows$Times;" } : Jvm.MethodName) prog_5_method_3_code (1 : Nat) (Option.some (Jvm.ClassFile.FieldType.object "StationRows$Times"))) ∈ sr_ws := sr_mem 469 rfl rfl
theorem k_470 : (Jvm.Cond.methodLink "StationRowsLaw" (109 : Nat) ({ cls := "StationRowsLaw", name := "move", desc := "(LStationRows;IIII)I" } : Jvm.MethodName)) ∈ sr_ws := sr_mem 470 (by decide +kernel) rfl
theorem k_471 : (Jvm.Cond.static ({ cls := "StationRowsLaw", name := "move", desc := "(LStationRows;IIII)I" } : Jvm.MethodName)) ∈ sr_ws := sr_mem 471 (by decide +kernel) rfl
set_option maxRecDepth 100000 in
theorem k_472 : (Jvm.Cond.codeWith ({ cls := "StationRowsLaw", name := "move", desc := "(LStationRows;IIII)I" } : Jvm.MethodName) method_9_code (6 : Nat) (Option.some Jvm.ClassFile.FieldType.int) [((0 : Nat), (9 : Nat), (12 : Nat), (24 : Nat)), ((0 : Nat), (9 : Nat), (16 : Nat), (13 : Nat)), ((0 : Nat), (9 : Nat), (20 : Nat), (30 : Nat)), ((0 : Nat), (9 : Nat), (24 : Nat), (15 : Nat))]) ∈ sr_ws := sr_mem 472 rfl rfl
theorem k_473 : (Jvm.Cond.methodLink "StationRowsLaw" (39 : Nat) ({ cls := "StationRows", name := "move", desc := "(IIII)V" } : Jvm.MethodName)) ∈ sr_ws := sr_mem 473 (by decide +kernel) rfl
theorem k_474 : (Jvm.Cond.instanceMethod ({ cls := "StationRows", name := "move", desc := "(IIII)V" } : Jvm.MethodName)) ∈ sr_ws := sr_mem 474 (by decide +kernel) rfl
theorem k_475 : (Jvm.Cond.selects "StationRows" ({ cls := "StationRows", name := "move", desc := "(IIII)V" } : Jvm.MethodName) ({ cls := "StationRows", name := "move", desc := "(IIII)V" } : Jvm.MethodName)) ∈ sr_ws := sr_mem 475 (by decide +kernel) rfl
set_option maxRecDepth 100000 in
theorem k_476 : (Jvm.Cond.code ({ cls := "StationRows", name := "move", desc := "(IIII)V" } : Jvm.MethodName) prog_1_method_8_code (5 : Nat) (Option.none : Option Jvm.ClassFile.FieldType)) ∈ sr_ws := sr_mem 476 rfl rfl
theorem k_477 : (Jvm.Cond.methodLink "StationRows" (99 : Nat) ({ cls := "StationRows$Persons", name := "homeOf", desc := "(I)I" } : Jvm.MethodName)) ∈ sr_ws := sr_mem 477 (by decide +kernel) rfl
theorem k_478 : (Jvm.Cond.instanceMethod ({ cls := "StationRows$Persons", name := "homeOf", desc := "(I)I" } : Jvm.MethodName)) ∈ sr_ws := sr_mem 478 (by decide +kernel) rfl
theorem k_479 : (Jvm.Cond.selects "StationRows$Persons" ({ cls := "StationRows$Persons", name := "homeOf", desc := "(I)I" } : Jvm.MethodName) ({ cls := "StationRows$Persons", name := "homeOf", desc := "(I)I" } : Jvm.MethodName)) ∈ sr_ws := sr_mem 479 (by decide +kernel) rfl
set_option maxRecDepth 100000 in
theorem k_480 : (Jvm.Cond.code ({ cls := "StationRows$Persons", name := "homeOf", desc := "(I)I" } : Jvm.MethodName) prog_5_method_6_code (2 : Nat) (Option.some Jvm.ClassFile.FieldType.int)) ∈ sr_ws := sr_mem 480 rfl rfl
theorem k_481 : (Jvm.Cond.methodLink "StationRows" (105 : Nat) ({ cls := "StationRows$Persons", name := "moves", desc := "()LStationRows$Times;" } : Jvm.MethodName)) ∈ sr_ws := sr_mem 481 (by decide +kernel) rfl
theorem k_482 : (Jvm.Cond.instanceMethod ({ cls := "StationRows$Persons", name := "moves", desc := "()LStationRows$Times;" } : Jvm.MethodName)) ∈ sr_ws := sr_mem 482 (by decide +kernel) rfl
theorem k_483 : (Jvm.Cond.selects "StationRows$Persons" ({ cls := "StationRows$Persons", name := "moves", desc := "()LStationRows$Times;" } : Jvm.MethodName) ({ cls := "StationRows$Persons", name := "moves", desc := "()LStationRows$Times;" } : Jvm.MethodName)) ∈ sr_ws := sr_mem 483 (by decide +kernel) rfl
set_option maxRecDepth 100000 in
theorem k_484 : (Jvm.Cond.code ({ cls := "StationRows$Persons", name := "moves", desc := "()LStationRows$Times;" } : Jvm.MethodName) prog_5_method_4_code (1 : Nat) (Option.some (Jvm.ClassFile.FieldType.object "StationRows$Times"))) ∈ sr_ws := sr_mem 484 rfl rfl
theorem k_485 : (Jvm.Cond.methodLink "StationRows" (108 : Nat) ({ cls := "StationRows$Persons", name := "keepNewestMoveStation", desc := "(II)V" } : Jvm.MethodName)) ∈ sr_ws := sr_mem 485 (by decide +kernel) rfl
theorem k_486 : (Jvm.Cond.instanceMethod ({ cls := "StationRows$Persons", name := "keepNewestMoveStation", desc := "(II)V" } : Jvm.MethodName)) ∈ sr_ws := sr_mem 486 (by decide +kernel) rfl
theorem k_487 : (Jvm.Cond.selects "StationRows$Persons" ({ cls := "StationRows$Persons", name := "keepNewestMoveStation", desc := "(II)V" } : Jvm.MethodName) ({ cls := "StationRows$Persons", name := "keepNewestMoveStation", desc := "(II)V" } : Jvm.MethodName)) ∈ sr_ws := sr_mem 487 (by decide +kernel) rfl
set_option maxRecDepth 100000 in
theorem k_488 : (Jvm.Cond.code ({ cls := "StationRows$Persons", name := "keepNewestMoveStation", desc := "(II)V" } : Jvm.MethodName) prog_5_method_7_code (4 : Nat) (Option.none : Option Jvm.ClassFile.FieldType)) ∈ sr_ws := sr_mem 488 rfl rfl
theorem k_489 : (Jvm.Cond.methodLink "StationRows$Persons" (43 : Nat) ({ cls := "StationRows$Times", name := "countOf", desc := "(I)I" } : Jvm.MethodName)) ∈ sr_ws := sr_mem 489 (by decide +kernel) rfl
theorem k_490 : (Jvm.Cond.instanceMethod ({ cls := "StationRows$Times", name := "countOf", desc := "(I)I" } : Jvm.MethodName)) ∈ sr_ws := sr_mem 490 (by decide +kernel) rfl
theorem k_491 : (Jvm.Cond.selects "StationRows$Times" ({ cls := "StationRows$Times", name := "countOf", desc := "(I)I" } : Jvm.MethodName) ({ cls := "StationRows$Times", name := "countOf", desc := "(I)I" } : Jvm.MethodName)) ∈ sr_ws := sr_mem 491 (by decide +kernel) rfl
set_option maxRecDepth 100000 in
theorem k_492 : (Jvm.Cond.code ({ cls := "StationRows$Times", name := "countOf", desc := "(I)I" } : Jvm.MethodName) prog_7_method_2_code (2 : Nat) (Option.some Jvm.ClassFile.FieldType.int)) ∈ sr_ws := sr_mem 492 rfl rfl
theorem k_493 : (Jvm.Cond.methodLink "StationRowsLaw" (113 : Nat) ({ cls := "StationRowsLaw", name := "limit", desc := "(LStationRows;I[J)I" } : Jvm.MethodName)) ∈ sr_ws := sr_mem 493 (by decide +kernel) rfl
theorem k_494 : (Jvm.Cond.static ({ cls := "StationRowsLaw", name := "limit", desc := "(LStationRows;I[J)I" } : Jvm.MethodName)) ∈ sr_ws := sr_mem 494 (by decide +kernel) rfl
set_option maxRecDepth 100000 in
theorem k_495 : (Jvm.Cond.codeWith ({ cls := "StationRowsLaw", name := "limit", desc := "(LStationRows;I[J)I" } : Jvm.MethodName) method_10_code (4 : Nat) (Option.some Jvm.ClassFile.FieldType.int) [((0 : Nat), (9 : Nat), (12 : Nat), (13 : Nat))]) ∈ sr_ws := sr_mem 495 rfl rfl
theorem k_496 : (Jvm.Cond.methodLink "StationRowsLaw" (43 : Nat) ({ cls := "StationRows", name := "limit", desc := "(I)I" } : Jvm.MethodName)) ∈ sr_ws := sr_mem 496 (by decide +kernel) rfl
theorem k_497 : (Jvm.Cond.instanceMethod ({ cls := "StationRows", name := "limit", desc := "(I)I" } : Jvm.MethodName)) ∈ sr_ws := sr_mem 497 (by decide +kernel) rfl
theorem k_498 : (Jvm.Cond.selects "StationRows" ({ cls := "StationRows", name := "limit", desc := "(I)I" } : Jvm.MethodName) ({ cls := "StationRows", name := "limit", desc := "(I)I" } : Jvm.MethodName)) ∈ sr_ws := sr_mem 498 (by decide +kernel) rfl
set_option maxRecDepth 100000 in
theorem k_499 : (Jvm.Cond.code ({ cls := "StationRows", name := "limit", desc := "(I)I" } : Jvm.MethodName) prog_1_method_9_code (2 : Nat) (Option.some Jvm.ClassFile.FieldType.int)) ∈ sr_ws := sr_mem 499 rfl rfl
theorem k_500 : (Jvm.Cond.methodLink "StationRows" (111 : Nat) ({ cls := "StationRows$Persons", name := "changeLimit", desc := "(I)I" } : Jvm.MethodName)) ∈ sr_ws := sr_mem 500 (by decide +kernel) rfl
theorem k_501 : (Jvm.Cond.instanceMethod ({ cls := "StationRows$Persons", name := "changeLimit", desc := "(I)I" } : Jvm.MethodName)) ∈ sr_ws := sr_mem 501 (by decide +kernel) rfl
theorem k_502 : (Jvm.Cond.selects "StationRows$Persons" ({ cls := "StationRows$Persons", name := "changeLimit", desc := "(I)I" } : Jvm.MethodName) ({ cls := "StationRows$Persons", name := "changeLimit", desc := "(I)I" } : Jvm.MethodName)) ∈ sr_ws := sr_mem 502 (by decide +kernel) rfl
set_option maxRecDepth 100000 in
theorem k_503 : (Jvm.Cond.code ({ cls := "StationRows$Persons", name := "changeLimit", desc := "(I)I" } : Jvm.MethodName) prog_5_method_8_code (4 : Nat) (Option.some Jvm.ClassFile.FieldType.int)) ∈ sr_ws := sr_mem 503 rfl rfl
theorem k_504 : (Jvm.Cond.methodLink "StationRowsLaw" (116 : Nat) ({ cls := "StationRowsLaw", name := "on", desc := "(LStationRows;II[J)I" } : Jvm.MethodName)) ∈ sr_ws := sr_mem 504 (by decide +kernel) rfl
theorem k_505 : (Jvm.Cond.static ({ cls := "StationRowsLaw", name := "on", desc := "(LStationRows;II[J)I" } : Jvm.MethodName)) ∈ sr_ws := sr_mem 505 (by decide +kernel) rfl
set_option maxRecDepth 100000 in
theorem k_506 : (Jvm.Cond.codeWith ({ cls := "StationRowsLaw", name := "on", desc := "(LStationRows;II[J)I" } : Jvm.MethodName) method_11_code (5 : Nat) (Option.some Jvm.ClassFile.FieldType.int) [((0 : Nat), (10 : Nat), (13 : Nat), (24 : Nat)), ((0 : Nat), (10 : Nat), (17 : Nat), (13 : Nat))]) ∈ sr_ws := sr_mem 506 rfl rfl
theorem k_507 : (Jvm.Cond.methodLink "StationRowsLaw" (46 : Nat) ({ cls := "StationRows", name := "on", desc := "(II)I" } : Jvm.MethodName)) ∈ sr_ws := sr_mem 507 (by decide +kernel) rfl
theorem k_508 : (Jvm.Cond.instanceMethod ({ cls := "StationRows", name := "on", desc := "(II)I" } : Jvm.MethodName)) ∈ sr_ws := sr_mem 508 (by decide +kernel) rfl
theorem k_509 : (Jvm.Cond.selects "StationRows" ({ cls := "StationRows", name := "on", desc := "(II)I" } : Jvm.MethodName) ({ cls := "StationRows", name := "on", desc := "(II)I" } : Jvm.MethodName)) ∈ sr_ws := sr_mem 509 (by decide +kernel) rfl
set_option maxRecDepth 100000 in
theorem k_510 : (Jvm.Cond.code ({ cls := "StationRows", name := "on", desc := "(II)I" } : Jvm.MethodName) prog_1_method_10_code (3 : Nat) (Option.some Jvm.ClassFile.FieldType.int)) ∈ sr_ws := sr_mem 510 rfl rfl
theorem k_511 : (Jvm.Cond.methodLink "StationRows" (118 : Nat) ({ cls := "StationRows", name := "gatherPersons", desc := "(II)I" } : Jvm.MethodName)) ∈ sr_ws := sr_mem 511 (by decide +kernel) rfl
theorem k_513 : (Jvm.Cond.instanceMethod ({ cls := "StationRows", name := "gatherPersons", desc := "(II)I" } : Jvm.MethodName)) ∈ sr_ws := sr_mem 513 (by decide +kernel) rfl
set_option maxRecDepth 100000 in
theorem k_514 : (Jvm.Cond.code ({ cls := "StationRows", name := "gatherPersons", desc := "(II)I" } : Jvm.MethodName) prog_1_method_29_code (3 : Nat) (Option.some Jvm.ClassFile.FieldType.int)) ∈ sr_ws := sr_mem 514 rfl rfl
theorem k_515 : (Jvm.Cond.methodLink "StationRows" (147 : Nat) ({ cls := "StationRows$Stations", name := "isThere", desc := "(II)Z" } : Jvm.MethodName)) ∈ sr_ws := sr_mem 515 (by decide +kernel) rfl
theorem k_516 : (Jvm.Cond.instanceMethod ({ cls := "StationRows$Stations", name := "isThere", desc := "(II)Z" } : Jvm.MethodName)) ∈ sr_ws := sr_mem 516 (by decide +kernel) rfl
theorem k_517 : (Jvm.Cond.selects "StationRows$Stations" ({ cls := "StationRows$Stations", name := "isThere", desc := "(II)Z" } : Jvm.MethodName) ({ cls := "StationRows$Stations", name := "isThere", desc := "(II)Z" } : Jvm.MethodName)) ∈ sr_ws := sr_mem 517 (by decide +kernel) rfl
set_option maxRecDepth 100000 in
theorem k_518 : (Jvm.Cond.code ({ cls := "StationRows$Stations", name := "isThere", desc := "(II)Z" } : Jvm.MethodName) prog_6_method_5_code (3 : Nat) (Option.some Jvm.ClassFile.FieldType.boolean)) ∈ sr_ws := sr_mem 518 rfl rfl
theorem k_519 : (Jvm.Cond.methodLink "StationRows" (224 : Nat) ({ cls := "StationRows$Persons", name := "gather", desc := "(IIZ)I" } : Jvm.MethodName)) ∈ sr_ws := sr_mem 519 (by decide +kernel) rfl
theorem k_520 : (Jvm.Cond.instanceMethod ({ cls := "StationRows$Persons", name := "gather", desc := "(IIZ)I" } : Jvm.MethodName)) ∈ sr_ws := sr_mem 520 (by decide +kernel) rfl
theorem k_521 : (Jvm.Cond.selects "StationRows$Persons" ({ cls := "StationRows$Persons", name := "gather", desc := "(IIZ)I" } : Jvm.MethodName) ({ cls := "StationRows$Persons", name := "gather", desc := "(IIZ)I" } : Jvm.MethodName)) ∈ sr_ws := sr_mem 521 (by decide +kernel) rfl
set_option maxRecDepth 100000 in
theorem k_522 : (Jvm.Cond.code ({ cls := "StationRows$Persons", name := "gather", desc := "(IIZ)I" } : Jvm.MethodName) prog_5_method_9_code (5 : Nat) (Option.some Jvm.ClassFile.FieldType.int)) ∈ sr_ws := sr_mem 522 rfl rfl
theorem k_523 : (Jvm.Cond.methodLink "StationRows$Persons" (50 : Nat) ({ cls := "StationRows$Persons", name := "isOnDuty", desc := "(II)Z" } : Jvm.MethodName)) ∈ sr_ws := sr_mem 523 (by decide +kernel) rfl
theorem k_525 : (Jvm.Cond.instanceMethod ({ cls := "StationRows$Persons", name := "isOnDuty", desc := "(II)Z" } : Jvm.MethodName)) ∈ sr_ws := sr_mem 525 (by decide +kernel) rfl
set_option maxRecDepth 100000 in
theorem k_526 : (Jvm.Cond.code ({ cls := "StationRows$Persons", name := "isOnDuty", desc := "(II)Z" } : Jvm.MethodName) prog_5_method_13_code (3 : Nat) (Option.some Jvm.ClassFile.FieldType.boolean)) ∈ sr_ws := sr_mem 526 rfl rfl
theorem k_527 : (Jvm.Cond.methodLink "StationRows$Persons" (67 : Nat) ({ cls := "StationRows$Times", name := "indexAt", desc := "(II)I" } : Jvm.MethodName)) ∈ sr_ws := sr_mem 527 (by decide +kernel) rfl
theorem k_528 : (Jvm.Cond.instanceMethod ({ cls := "StationRows$Times", name := "indexAt", desc := "(II)I" } : Jvm.MethodName)) ∈ sr_ws := sr_mem 528 (by decide +kernel) rfl
theorem k_529 : (Jvm.Cond.selects "StationRows$Times" ({ cls := "StationRows$Times", name := "indexAt", desc := "(II)I" } : Jvm.MethodName) ({ cls := "StationRows$Times", name := "indexAt", desc := "(II)I" } : Jvm.MethodName)) ∈ sr_ws := sr_mem 529 (by decide +kernel) rfl
set_option maxRecDepth 100000 in
theorem k_530 : (Jvm.Cond.code ({ cls := "StationRows$Times", name := "indexAt", desc := "(II)I" } : Jvm.MethodName) prog_7_method_6_code (5 : Nat) (Option.some Jvm.ClassFile.FieldType.int)) ∈ sr_ws := sr_mem 530 rfl rfl
theorem k_531 : (Jvm.Cond.methodLink "StationRows$Persons" (54 : Nat) ({ cls := "StationRows$Persons", name := "stationAt", desc := "(II)I" } : Jvm.MethodName)) ∈ sr_ws := sr_mem 531 (by decide +kernel) rfl
theorem k_533 : (Jvm.Cond.instanceMethod ({ cls := "StationRows$Persons", name := "stationAt", desc := "(II)I" } : Jvm.MethodName)) ∈ sr_ws := sr_mem 533 (by decide +kernel) rfl
set_option maxRecDepth 100000 in
theorem k_534 : (Jvm.Cond.code ({ cls := "StationRows$Persons", name := "stationAt", desc := "(II)I" } : Jvm.MethodName) prog_5_method_14_code (4 : Nat) (Option.some Jvm.ClassFile.FieldType.int)) ∈ sr_ws := sr_mem 534 rfl rfl
theorem k_535 : (Jvm.Cond.methodLink "StationRows$Persons" (58 : Nat) ({ cls := "StationRows$Persons", name := "insertIntoRow", desc := "(I)V" } : Jvm.MethodName)) ∈ sr_ws := sr_mem 535 (by decide +kernel) rfl
theorem k_537 : (Jvm.Cond.instanceMethod ({ cls := "StationRows$Persons", name := "insertIntoRow", desc := "(I)V" } : Jvm.MethodName)) ∈ sr_ws := sr_mem 537 (by decide +kernel) rfl
set_option maxRecDepth 100000 in
theorem k_538 : (Jvm.Cond.code ({ cls := "StationRows$Persons", name := "insertIntoRow", desc := "(I)V" } : Jvm.MethodName) prog_5_method_15_code (3 : Nat) (Option.none : Option Jvm.ClassFile.FieldType)) ∈ sr_ws := sr_mem 538 rfl rfl
theorem k_539 : (Jvm.Cond.methodLink "StationRowsLaw" (119 : Nat) ({ cls := "StationRowsLaw", name := "at", desc := "(LStationRows;III[J)I" } : Jvm.MethodName)) ∈ sr_ws := sr_mem 539 (by decide +kernel) rfl
theorem k_540 : (Jvm.Cond.static ({ cls := "StationRowsLaw", name := "at", desc := "(LStationRows;III[J)I" } : Jvm.MethodName)) ∈ sr_ws := sr_mem 540 (by decide +kernel) rfl
set_option maxRecDepth 100000 in
theorem k_541 : (Jvm.Cond.codeWith ({ cls := "StationRowsLaw", name := "at", desc := "(LStationRows;III[J)I" } : Jvm.MethodName) method_12_code (6 : Nat) (Option.some Jvm.ClassFile.FieldType.int) [((0 : Nat), (12 : Nat), (15 : Nat), (24 : Nat)), ((0 : Nat), (12 : Nat), (19 : Nat), (13 : Nat))]) ∈ sr_ws := sr_mem 541 rfl rfl
theorem k_542 : (Jvm.Cond.methodLink "StationRowsLaw" (49 : Nat) ({ cls := "StationRows", name := "at", desc := "(III)I" } : Jvm.MethodName)) ∈ sr_ws := sr_mem 542 (by decide +kernel) rfl
theorem k_543 : (Jvm.Cond.instanceMethod ({ cls := "StationRows", name := "at", desc := "(III)I" } : Jvm.MethodName)) ∈ sr_ws := sr_mem 543 (by decide +kernel) rfl
theorem k_544 : (Jvm.Cond.selects "StationRows" ({ cls := "StationRows", name := "at", desc := "(III)I" } : Jvm.MethodName) ({ cls := "StationRows", name := "at", desc := "(III)I" } : Jvm.MethodName)) ∈ sr_ws := sr_mem 544 (by decide +kernel) rfl
set_option maxRecDepth 100000 in
theorem k_545 : (Jvm.Cond.code ({ cls := "StationRows", name := "at", desc := "(III)I" } : Jvm.MethodName) prog_1_method_11_code (4 : Nat) (Option.some Jvm.ClassFile.FieldType.int)) ∈ sr_ws := sr_mem 545 rfl rfl
theorem k_546 : (Jvm.Cond.methodLink "StationRows" (121 : Nat) ({ cls := "StationRows", name := "requirePlace", desc := "(I)V" } : Jvm.MethodName)) ∈ sr_ws := sr_mem 546 (by decide +kernel) rfl
theorem k_547 : (Jvm.Cond.static ({ cls := "StationRows", name := "requirePlace", desc := "(I)V" } : Jvm.MethodName)) ∈ sr_ws := sr_mem 547 (by decide +kernel) rfl
set_option maxRecDepth 100000 in
theorem k_548 : (Jvm.Cond.code ({ cls := "StationRows", name := "requirePlace", desc := "(I)V" } : Jvm.MethodName) prog_1_method_24_code (1 : Nat) (Option.none : Option Jvm.ClassFile.FieldType)) ∈ sr_ws := sr_mem 548 rfl rfl
theorem k_550 : (Jvm.Cond.methodLink "StationRows" (124 : Nat) ({ cls := "StationRows$Persons", name := "inRow", desc := "(I)I" } : Jvm.MethodName)) ∈ sr_ws := sr_mem 550 (by decide +kernel) rfl
theorem k_551 : (Jvm.Cond.instanceMethod ({ cls := "StationRows$Persons", name := "inRow", desc := "(I)I" } : Jvm.MethodName)) ∈ sr_ws := sr_mem 551 (by decide +kernel) rfl
theorem k_552 : (Jvm.Cond.selects "StationRows$Persons" ({ cls := "StationRows$Persons", name := "inRow", desc := "(I)I" } : Jvm.MethodName) ({ cls := "StationRows$Persons", name := "inRow", desc := "(I)I" } : Jvm.MethodName)) ∈ sr_ws := sr_mem 552 (by decide +kernel) rfl
set_option maxRecDepth 100000 in
theorem k_553 : (Jvm.Cond.code ({ cls := "StationRows$Persons", name := "inRow", desc := "(I)I" } : Jvm.MethodName) prog_5_method_10_code (2 : Nat) (Option.some Jvm.ClassFile.FieldType.int)) ∈ sr_ws := sr_mem 553 rfl rfl
theorem k_554 : (Jvm.Cond.methodLink "StationRowsLaw" (122 : Nat) ({ cls := "StationRowsLaw", name := "vehicleAt", desc := "(LStationRows;III[J)I" } : Jvm.MethodName)) ∈ sr_ws := sr_mem 554 (by decide +kernel) rfl
theorem k_555 : (Jvm.Cond.static ({ cls := "StationRowsLaw", name := "vehicleAt", desc := "(LStationRows;III[J)I" } : Jvm.MethodName)) ∈ sr_ws := sr_mem 555 (by decide +kernel) rfl
set_option maxRecDepth 100000 in
theorem k_556 : (Jvm.Cond.codeWith ({ cls := "StationRowsLaw", name := "vehicleAt", desc := "(LStationRows;III[J)I" } : Jvm.MethodName) method_13_code (6 : Nat) (Option.some Jvm.ClassFile.FieldType.int) [((0 : Nat), (12 : Nat), (15 : Nat), (24 : Nat)), ((0 : Nat), (12 : Nat), (19 : Nat), (13 : Nat))]) ∈ sr_ws := sr_mem 556 rfl rfl
theorem k_557 : (Jvm.Cond.methodLink "StationRowsLaw" (52 : Nat) ({ cls := "StationRows", name := "vehicleAt", desc := "(III)I" } : Jvm.MethodName)) ∈ sr_ws := sr_mem 557 (by decide +kernel) rfl
theorem k_558 : (Jvm.Cond.instanceMethod ({ cls := "StationRows", name := "vehicleAt", desc := "(III)I" } : Jvm.MethodName)) ∈ sr_ws := sr_mem 558 (by decide +kernel) rfl
theorem k_559 : (Jvm.Cond.selects "StationRows" ({ cls := "StationRows", name := "vehicleAt", desc := "(III)I" } : Jvm.MethodName) ({ cls := "StationRows", name := "vehicleAt", desc := "(III)I" } : Jvm.MethodName)) ∈ sr_ws := sr_mem 559 (by decide +kernel) rfl
set_option maxRecDepth 100000 in
theorem k_560 : (Jvm.Cond.code ({ cls := "StationRows", name := "vehicleAt", desc := "(III)I" } : Jvm.MethodName) prog_1_method_12_code (4 : Nat) (Option.some Jvm.ClassFile.FieldType.int)) ∈ sr_ws := sr_mem 560 rfl rfl
theorem k_561 : (Jvm.Cond.methodLink "StationRows" (127 : Nat) ({ cls := "StationRows$Vehicles", name := "assignSpares", desc := "(LStationRows$Stations;I)V" } : Jvm.MethodName)) ∈ sr_ws := sr_mem 561 (by decide +kernel) rfl
theorem k_562 : (Jvm.Cond.instanceMethod ({ cls := "StationRows$Vehicles", name := "assignSpares", desc := "(LStationRows$Stations;I)V" } : Jvm.MethodName)) ∈ sr_ws := sr_mem 562 (by decide +kernel) rfl
theorem k_563 : (Jvm.Cond.selects "StationRows$Vehicles" ({ cls := "StationRows$Vehicles", name := "assignSpares", desc := "(LStationRows$Stations;I)V" } : Jvm.MethodName) ({ cls := "StationRows$Vehicles", name := "assignSpares", desc := "(LStationRows$Stations;I)V" } : Jvm.MethodName)) ∈ sr_ws := sr_mem 563 (by decide +kernel) rfl
set_option maxRecDepth 100000 in
theorem k_564 : (Jvm.Cond.code ({ cls := "StationRows$Vehicles", name := "assignSpares", desc := "(LStationRows$Stations;I)V" } : Jvm.MethodName) prog_8_method_10_code (5 : Nat) (Option.none : Option Jvm.ClassFile.FieldType)) ∈ sr_ws := sr_mem 564 rfl rfl
theorem k_565 : (Jvm.Cond.methodLink "StationRows$Vehicles" (44 : Nat) ({ cls := "java/util/Arrays", name := "fill", desc := "([II)V" } : Jvm.MethodName)) ∈ sr_ws := sr_mem 565 (by decide +kernel) rfl
theorem k_566 : (Jvm.Cond.static ({ cls := "java/util/Arrays", name := "fill", desc := "([II)V" } : Jvm.MethodName)) ∈ sr_ws := sr_mem 566 (by decide +kernel) rfl
set_option maxRecDepth 100000 in
theorem k_567 : (Jvm.Cond.code ({ cls := "java/util/Arrays", name := "fill", desc := "([II)V" } : Jvm.MethodName) prog_21_method_103_code (4 : Nat) (Option.none : Option Jvm.ClassFile.FieldType)) ∈ sr_ws := sr_mem 567 rfl rfl
theorem k_568 : (Jvm.Cond.methodLink "StationRows$Vehicles" (50 : Nat) ({ cls := "StationRows$Vehicles", name := "isSpare", desc := "(I)Z" } : Jvm.MethodName)) ∈ sr_ws := sr_mem 568 (by decide +kernel) rfl
theorem k_570 : (Jvm.Cond.instanceMethod ({ cls := "StationRows$Vehicles", name := "isSpare", desc := "(I)Z" } : Jvm.MethodName)) ∈ sr_ws := sr_mem 570 (by decide +kernel) rfl
set_option maxRecDepth 100000 in
theorem k_571 : (Jvm.Cond.code ({ cls := "StationRows$Vehicles", name := "isSpare", desc := "(I)Z" } : Jvm.MethodName) prog_8_method_13_code (2 : Nat) (Option.some Jvm.ClassFile.FieldType.boolean)) ∈ sr_ws := sr_mem 571 rfl rfl
theorem k_572 : (Jvm.Cond.methodLink "StationRows$Vehicles" (54 : Nat) ({ cls := "StationRows$Vehicles", name := "isOut", desc := "(II)Z" } : Jvm.MethodName)) ∈ sr_ws := sr_mem 572 (by decide +kernel) rfl
theorem k_573 : (Jvm.Cond.instanceMethod ({ cls := "StationRows$Vehicles", name := "isOut", desc := "(II)Z" } : Jvm.MethodName)) ∈ sr_ws := sr_mem 573 (by decide +kernel) rfl
theorem k_574 : (Jvm.Cond.selects "StationRows$Vehicles" ({ cls := "StationRows$Vehicles", name := "isOut", desc := "(II)Z" } : Jvm.MethodName) ({ cls := "StationRows$Vehicles", name := "isOut", desc := "(II)Z" } : Jvm.MethodName)) ∈ sr_ws := sr_mem 574 (by decide +kernel) rfl
set_option maxRecDepth 100000 in
theorem k_575 : (Jvm.Cond.code ({ cls := "StationRows$Vehicles", name := "isOut", desc := "(II)Z" } : Jvm.MethodName) prog_8_method_7_code (3 : Nat) (Option.some Jvm.ClassFile.FieldType.boolean)) ∈ sr_ws := sr_mem 575 rfl rfl
theorem k_576 : (Jvm.Cond.methodLink "StationRows$Vehicles" (40 : Nat) ({ cls := "StationRows$Times", name := "indexAt", desc := "(II)I" } : Jvm.MethodName)) ∈ sr_ws := sr_mem 576 (by decide +kernel) rfl
theorem k_577 : (Jvm.Cond.methodLink "StationRows$Vehicles" (58 : Nat) ({ cls := "StationRows$Vehicles", name := "lowestFreeSpare", desc := "(ILStationRows$Stations;I)I" } : Jvm.MethodName)) ∈ sr_ws := sr_mem 577 (by decide +kernel) rfl
theorem k_579 : (Jvm.Cond.instanceMethod ({ cls := "StationRows$Vehicles", name := "lowestFreeSpare", desc := "(ILStationRows$Stations;I)I" } : Jvm.MethodName)) ∈ sr_ws := sr_mem 579 (by decide +kernel) rfl
set_option maxRecDepth 100000 in
theorem k_580 : (Jvm.Cond.code ({ cls := "StationRows$Vehicles", name := "lowestFreeSpare", desc := "(ILStationRows$Stations;I)I" } : Jvm.MethodName) prog_8_method_14_code (5 : Nat) (Option.some Jvm.ClassFile.FieldType.int)) ∈ sr_ws := sr_mem 580 rfl rfl
theorem k_581 : (Jvm.Cond.methodLink "StationRows$Vehicles" (69 : Nat) ({ cls := "StationRows$Stations", name := "isThere", desc := "(II)Z" } : Jvm.MethodName)) ∈ sr_ws := sr_mem 581 (by decide +kernel) rfl
theorem k_582 : (Jvm.Cond.methodLink "StationRows" (131 : Nat) ({ cls := "StationRows$Vehicles", name := "standsFor", desc := "(I)I" } : Jvm.MethodName)) ∈ sr_ws := sr_mem 582 (by decide +kernel) rfl
theorem k_583 : (Jvm.Cond.instanceMethod ({ cls := "StationRows$Vehicles", name := "standsFor", desc := "(I)I" } : Jvm.MethodName)) ∈ sr_ws := sr_mem 583 (by decide +kernel) rfl
theorem k_584 : (Jvm.Cond.selects "StationRows$Vehicles" ({ cls := "StationRows$Vehicles", name := "standsFor", desc := "(I)I" } : Jvm.MethodName) ({ cls := "StationRows$Vehicles", name := "standsFor", desc := "(I)I" } : Jvm.MethodName)) ∈ sr_ws := sr_mem 584 (by decide +kernel) rfl
set_option maxRecDepth 100000 in
theorem k_585 : (Jvm.Cond.code ({ cls := "StationRows$Vehicles", name := "standsFor", desc := "(I)I" } : Jvm.MethodName) prog_8_method_8_code (2 : Nat) (Option.some Jvm.ClassFile.FieldType.int)) ∈ sr_ws := sr_mem 585 rfl rfl
theorem k_586 : (Jvm.Cond.methodLink "StationRows" (134 : Nat) ({ cls := "StationRows$Vehicles", name := "spareOf", desc := "(I)I" } : Jvm.MethodName)) ∈ sr_ws := sr_mem 586 (by decide +kernel) rfl
theorem k_587 : (Jvm.Cond.instanceMethod ({ cls := "StationRows$Vehicles", name := "spareOf", desc := "(I)I" } : Jvm.MethodName)) ∈ sr_ws := sr_mem 587 (by decide +kernel) rfl
theorem k_588 : (Jvm.Cond.selects "StationRows$Vehicles" ({ cls := "StationRows$Vehicles", name := "spareOf", desc := "(I)I" } : Jvm.MethodName) ({ cls := "StationRows$Vehicles", name := "spareOf", desc := "(I)I" } : Jvm.MethodName)) ∈ sr_ws := sr_mem 588 (by decide +kernel) rfl
set_option maxRecDepth 100000 in
theorem k_589 : (Jvm.Cond.code ({ cls := "StationRows$Vehicles", name := "spareOf", desc := "(I)I" } : Jvm.MethodName) prog_8_method_9_code (2 : Nat) (Option.some Jvm.ClassFile.FieldType.int)) ∈ sr_ws := sr_mem 589 rfl rfl
theorem k_590 : (Jvm.Cond.methodLink "StationRows" (137 : Nat) ({ cls := "StationRows$Vehicles", name := "isOut", desc := "(II)Z" } : Jvm.MethodName)) ∈ sr_ws := sr_mem 590 (by decide +kernel) rfl
theorem k_591 : (Jvm.Cond.methodLink "StationRows" (141 : Nat) ({ cls := "StationRows", name := "tellCrew", desc := "(III)I" } : Jvm.MethodName)) ∈ sr_ws := sr_mem 591 (by decide +kernel) rfl
theorem k_593 : (Jvm.Cond.instanceMethod ({ cls := "StationRows", name := "tellCrew", desc := "(III)I" } : Jvm.MethodName)) ∈ sr_ws := sr_mem 593 (by decide +kernel) rfl
set_option maxRecDepth 100000 in
theorem k_594 : (Jvm.Cond.code ({ cls := "StationRows", name := "tellCrew", desc := "(III)I" } : Jvm.MethodName) prog_1_method_30_code (7 : Nat) (Option.some Jvm.ClassFile.FieldType.int)) ∈ sr_ws := sr_mem 594 rfl rfl
theorem k_595 : (Jvm.Cond.methodLink "StationRows" (228 : Nat) ({ cls := "StationRows$Vehicles", name := "stationOf", desc := "(I)I" } : Jvm.MethodName)) ∈ sr_ws := sr_mem 595 (by decide +kernel) rfl
theorem k_596 : (Jvm.Cond.instanceMethod ({ cls := "StationRows$Vehicles", name := "stationOf", desc := "(I)I" } : Jvm.MethodName)) ∈ sr_ws := sr_mem 596 (by decide +kernel) rfl
theorem k_597 : (Jvm.Cond.selects "StationRows$Vehicles" ({ cls := "StationRows$Vehicles", name := "stationOf", desc := "(I)I" } : Jvm.MethodName) ({ cls := "StationRows$Vehicles", name := "stationOf", desc := "(I)I" } : Jvm.MethodName)) ∈ sr_ws := sr_mem 597 (by decide +kernel) rfl
set_option maxRecDepth 100000 in
theorem k_598 : (Jvm.Cond.code ({ cls := "StationRows$Vehicles", name := "stationOf", desc := "(I)I" } : Jvm.MethodName) prog_8_method_5_code (2 : Nat) (Option.some Jvm.ClassFile.FieldType.int)) ∈ sr_ws := sr_mem 598 rfl rfl
theorem k_599 : (Jvm.Cond.methodLink "StationRows" (231 : Nat) ({ cls := "StationRows$Vehicles", name := "takenBefore", desc := "(III)I" } : Jvm.MethodName)) ∈ sr_ws := sr_mem 599 (by decide +kernel) rfl
theorem k_600 : (Jvm.Cond.instanceMethod ({ cls := "StationRows$Vehicles", name := "takenBefore", desc := "(III)I" } : Jvm.MethodName)) ∈ sr_ws := sr_mem 600 (by decide +kernel) rfl
theorem k_601 : (Jvm.Cond.selects "StationRows$Vehicles" ({ cls := "StationRows$Vehicles", name := "takenBefore", desc := "(III)I" } : Jvm.MethodName) ({ cls := "StationRows$Vehicles", name := "takenBefore", desc := "(III)I" } : Jvm.MethodName)) ∈ sr_ws := sr_mem 601 (by decide +kernel) rfl
set_option maxRecDepth 100000 in
theorem k_602 : (Jvm.Cond.code ({ cls := "StationRows$Vehicles", name := "takenBefore", desc := "(III)I" } : Jvm.MethodName) prog_8_method_11_code (6 : Nat) (Option.some Jvm.ClassFile.FieldType.int)) ∈ sr_ws := sr_mem 602 rfl rfl
theorem k_603 : (Jvm.Cond.methodLink "StationRows$Vehicles" (62 : Nat) ({ cls := "StationRows$Vehicles", name := "takenBy", desc := "(III)I" } : Jvm.MethodName)) ∈ sr_ws := sr_mem 603 (by decide +kernel) rfl
theorem k_604 : (Jvm.Cond.instanceMethod ({ cls := "StationRows$Vehicles", name := "takenBy", desc := "(III)I" } : Jvm.MethodName)) ∈ sr_ws := sr_mem 604 (by decide +kernel) rfl
theorem k_605 : (Jvm.Cond.selects "StationRows$Vehicles" ({ cls := "StationRows$Vehicles", name := "takenBy", desc := "(III)I" } : Jvm.MethodName) ({ cls := "StationRows$Vehicles", name := "takenBy", desc := "(III)I" } : Jvm.MethodName)) ∈ sr_ws := sr_mem 605 (by decide +kernel) rfl
set_option maxRecDepth 100000 in
theorem k_606 : (Jvm.Cond.code ({ cls := "StationRows$Vehicles", name := "takenBy", desc := "(III)I" } : Jvm.MethodName) prog_8_method_12_code (5 : Nat) (Option.some Jvm.ClassFile.FieldType.int)) ∈ sr_ws := sr_mem 606 rfl rfl
theorem k_607 : (Jvm.Cond.methodLink "StationRows$Vehicles" (66 : Nat) ({ cls := "StationRows$Vehicles", name := "wantedBy", desc := "(II)I" } : Jvm.MethodName)) ∈ sr_ws := sr_mem 607 (by decide +kernel) rfl
theorem k_609 : (Jvm.Cond.instanceMethod ({ cls := "StationRows$Vehicles", name := "wantedBy", desc := "(II)I" } : Jvm.MethodName)) ∈ sr_ws := sr_mem 609 (by decide +kernel) rfl
set_option maxRecDepth 100000 in
theorem k_610 : (Jvm.Cond.code ({ cls := "StationRows$Vehicles", name := "wantedBy", desc := "(II)I" } : Jvm.MethodName) prog_8_method_15_code (4 : Nat) (Option.some Jvm.ClassFile.FieldType.int)) ∈ sr_ws := sr_mem 610 rfl rfl
theorem k_611 : (Jvm.Cond.methodLink "StationRows" (234 : Nat) ({ cls := "StationRows$Vehicles", name := "takenBy", desc := "(III)I" } : Jvm.MethodName)) ∈ sr_ws := sr_mem 611 (by decide +kernel) rfl
theorem k_612 : (Jvm.Cond.methodLink "StationRows" (237 : Nat) ({ cls := "StationRows$Persons", name := "delayInRow", desc := "(II)I" } : Jvm.MethodName)) ∈ sr_ws := sr_mem 612 (by decide +kernel) rfl
theorem k_613 : (Jvm.Cond.instanceMethod ({ cls := "StationRows$Persons", name := "delayInRow", desc := "(II)I" } : Jvm.MethodName)) ∈ sr_ws := sr_mem 613 (by decide +kernel) rfl
theorem k_614 : (Jvm.Cond.selects "StationRows$Persons" ({ cls := "StationRows$Persons", name := "delayInRow", desc := "(II)I" } : Jvm.MethodName) ({ cls := "StationRows$Persons", name := "delayInRow", desc := "(II)I" } : Jvm.MethodName)) ∈ sr_ws := sr_mem 614 (by decide +kernel) rfl
set_option maxRecDepth 100000 in
theorem k_615 : (Jvm.Cond.code ({ cls := "StationRows$Persons", name := "delayInRow", desc := "(II)I" } : Jvm.MethodName) prog_5_method_11_code (3 : Nat) (Option.some Jvm.ClassFile.FieldType.int)) ∈ sr_ws := sr_mem 615 rfl rfl
theorem k_616 : (Jvm.Cond.methodLink "StationRows" (240 : Nat) ({ cls := "StationRows$Persons", name := "lowestInRow", desc := "(II)I" } : Jvm.MethodName)) ∈ sr_ws := sr_mem 616 (by decide +kernel) rfl
theorem k_617 : (Jvm.Cond.instanceMethod ({ cls := "StationRows$Persons", name := "lowestInRow", desc := "(II)I" } : Jvm.MethodName)) ∈ sr_ws := sr_mem 617 (by decide +kernel) rfl
theorem k_618 : (Jvm.Cond.selects "StationRows$Persons" ({ cls := "StationRows$Persons", name := "lowestInRow", desc := "(II)I" } : Jvm.MethodName) ({ cls := "StationRows$Persons", name := "lowestInRow", desc := "(II)I" } : Jvm.MethodName)) ∈ sr_ws := sr_mem 618 (by decide +kernel) rfl
set_option maxRecDepth 100000 in
theorem k_619 : (Jvm.Cond.code ({ cls := "StationRows$Persons", name := "lowestInRow", desc := "(II)I" } : Jvm.MethodName) prog_5_method_12_code (5 : Nat) (Option.some Jvm.ClassFile.FieldType.int)) ∈ sr_ws := sr_mem 619 rfl rfl
theorem k_620 : (Jvm.Cond.methodLink "StationRows$Persons" (62 : Nat) ({ cls := "java/lang/Math", name := "min", desc := "(II)I" } : Jvm.MethodName)) ∈ sr_ws := sr_mem 620 (by decide +kernel) rfl
theorem k_621 : (Jvm.Cond.static ({ cls := "java/lang/Math", name := "min", desc := "(II)I" } : Jvm.MethodName)) ∈ sr_ws := sr_mem 621 (by decide +kernel) rfl
set_option maxRecDepth 100000 in
theorem k_622 : (Jvm.Cond.code ({ cls := "java/lang/Math", name := "min", desc := "(II)I" } : Jvm.MethodName) prog_16_method_69_code (2 : Nat) (Option.some Jvm.ClassFile.FieldType.int)) ∈ sr_ws := sr_mem 622 rfl rfl
theorem k_623 : (Jvm.Cond.methodLink "StationRowsLaw" (125 : Nat) ({ cls := "StationRowsLaw", name := "need", desc := "(LStationRows;III)I" } : Jvm.MethodName)) ∈ sr_ws := sr_mem 623 (by decide +kernel) rfl
theorem k_624 : (Jvm.Cond.static ({ cls := "StationRowsLaw", name := "need", desc := "(LStationRows;III)I" } : Jvm.MethodName)) ∈ sr_ws := sr_mem 624 (by decide +kernel) rfl
set_option maxRecDepth 100000 in
theorem k_625 : (Jvm.Cond.codeWith ({ cls := "StationRowsLaw", name := "need", desc := "(LStationRows;III)I" } : Jvm.MethodName) method_14_code (5 : Nat) (Option.some Jvm.ClassFile.FieldType.int) [((0 : Nat), (7 : Nat), (10 : Nat), (24 : Nat)), ((0 : Nat), (7 : Nat), (14 : Nat), (13 : Nat))]) ∈ sr_ws := sr_mem 625 rfl rfl
theorem k_626 : (Jvm.Cond.methodLink "StationRowsLaw" (55 : Nat) ({ cls := "StationRows", name := "need", desc := "(III)V" } : Jvm.MethodName)) ∈ sr_ws := sr_mem 626 (by decide +kernel) rfl
theorem k_627 : (Jvm.Cond.instanceMethod ({ cls := "StationRows", name := "need", desc := "(III)V" } : Jvm.MethodName)) ∈ sr_ws := sr_mem 627 (by decide +kernel) rfl
theorem k_628 : (Jvm.Cond.selects "StationRows" ({ cls := "StationRows", name := "need", desc := "(III)V" } : Jvm.MethodName) ({ cls := "StationRows", name := "need", desc := "(III)V" } : Jvm.MethodName)) ∈ sr_ws := sr_mem 628 (by decide +kernel) rfl
set_option maxRecDepth 100000 in
theorem k_629 : (Jvm.Cond.code ({ cls := "StationRows", name := "need", desc := "(III)V" } : Jvm.MethodName) prog_1_method_13_code (4 : Nat) (Option.none : Option Jvm.ClassFile.FieldType)) ∈ sr_ws := sr_mem 629 rfl rfl
theorem k_630 : (Jvm.Cond.methodLink "StationRows" (144 : Nat) ({ cls := "StationRows$Needs", name := "raise", desc := "(III)V" } : Jvm.MethodName)) ∈ sr_ws := sr_mem 630 (by decide +kernel) rfl
theorem k_631 : (Jvm.Cond.instanceMethod ({ cls := "StationRows$Needs", name := "raise", desc := "(III)V" } : Jvm.MethodName)) ∈ sr_ws := sr_mem 631 (by decide +kernel) rfl
theorem k_632 : (Jvm.Cond.selects "StationRows$Needs" ({ cls := "StationRows$Needs", name := "raise", desc := "(III)V" } : Jvm.MethodName) ({ cls := "StationRows$Needs", name := "raise", desc := "(III)V" } : Jvm.MethodName)) ∈ sr_ws := sr_mem 632 (by decide +kernel) rfl
set_option maxRecDepth 100000 in
theorem k_633 : (Jvm.Cond.code ({ cls := "StationRows$Needs", name := "raise", desc := "(III)V" } : Jvm.MethodName) prog_4_method_2_code (5 : Nat) (Option.none : Option Jvm.ClassFile.FieldType)) ∈ sr_ws := sr_mem 633 rfl rfl
theorem k_634 : (Jvm.Cond.methodLink "StationRows$Needs" (15 : Nat) ({ cls := "java/lang/Math", name := "max", desc := "(II)I" } : Jvm.MethodName)) ∈ sr_ws := sr_mem 634 (by decide +kernel) rfl
theorem k_635 : (Jvm.Cond.static ({ cls := "java/lang/Math", name := "max", desc := "(II)I" } : Jvm.MethodName)) ∈ sr_ws := sr_mem 635 (by decide +kernel) rfl
set_option maxRecDepth 100000 in
theorem k_636 : (Jvm.Cond.code ({ cls := "java/lang/Math", name := "max", desc := "(II)I" } : Jvm.MethodName) prog_16_method_65_code (2 : Nat) (Option.some Jvm.ClassFile.FieldType.int)) ∈ sr_ws := sr_mem 636 rfl rfl
theorem k_637 : (Jvm.Cond.methodLink "StationRowsLaw" (128 : Nat) ({ cls := "StationRowsLaw", name := "lacks", desc := "(LStationRows;II[J)I" } : Jvm.MethodName)) ∈ sr_ws := sr_mem 637 (by decide +kernel) rfl
theorem k_638 : (Jvm.Cond.static ({ cls := "StationRowsLaw", name := "lacks", desc := "(LStationRows;II[J)I" } : Jvm.MethodName)) ∈ sr_ws := sr_mem 638 (by decide +kernel) rfl
set_option maxRecDepth 100000 in
theorem k_639 : (Jvm.Cond.codeWith ({ cls := "StationRowsLaw", name := "lacks", desc := "(LStationRows;II[J)I" } : Jvm.MethodName) method_15_code (5 : Nat) (Option.some Jvm.ClassFile.FieldType.int) [((0 : Nat), (10 : Nat), (13 : Nat), (24 : Nat)), ((0 : Nat), (10 : Nat), (17 : Nat), (13 : Nat))]) ∈ sr_ws := sr_mem 639 rfl rfl
theorem k_640 : (Jvm.Cond.methodLink "StationRowsLaw" (58 : Nat) ({ cls := "StationRows", name := "lacks", desc := "(II)I" } : Jvm.MethodName)) ∈ sr_ws := sr_mem 640 (by decide +kernel) rfl
theorem k_641 : (Jvm.Cond.instanceMethod ({ cls := "StationRows", name := "lacks", desc := "(II)I" } : Jvm.MethodName)) ∈ sr_ws := sr_mem 641 (by decide +kernel) rfl
theorem k_642 : (Jvm.Cond.selects "StationRows" ({ cls := "StationRows", name := "lacks", desc := "(II)I" } : Jvm.MethodName) ({ cls := "StationRows", name := "lacks", desc := "(II)I" } : Jvm.MethodName)) ∈ sr_ws := sr_mem 642 (by decide +kernel) rfl
set_option maxRecDepth 100000 in
theorem k_643 : (Jvm.Cond.code ({ cls := "StationRows", name := "lacks", desc := "(II)I" } : Jvm.MethodName) prog_1_method_14_code (3 : Nat) (Option.some Jvm.ClassFile.FieldType.int)) ∈ sr_ws := sr_mem 643 rfl rfl
theorem k_644 : (Jvm.Cond.methodLink "StationRows" (150 : Nat) ({ cls := "StationRows$Needs", name := "neededAt", desc := "(II)I" } : Jvm.MethodName)) ∈ sr_ws := sr_mem 644 (by decide +kernel) rfl
theorem k_645 : (Jvm.Cond.instanceMethod ({ cls := "StationRows$Needs", name := "neededAt", desc := "(II)I" } : Jvm.MethodName)) ∈ sr_ws := sr_mem 645 (by decide +kernel) rfl
theorem k_646 : (Jvm.Cond.selects "StationRows$Needs" ({ cls := "StationRows$Needs", name := "neededAt", desc := "(II)I" } : Jvm.MethodName) ({ cls := "StationRows$Needs", name := "neededAt", desc := "(II)I" } : Jvm.MethodName)) ∈ sr_ws := sr_mem 646 (by decide +kernel) rfl
set_option maxRecDepth 100000 in
theorem k_647 : (Jvm.Cond.code ({ cls := "StationRows$Needs", name := "neededAt", desc := "(II)I" } : Jvm.MethodName) prog_4_method_3_code (3 : Nat) (Option.some Jvm.ClassFile.FieldType.int)) ∈ sr_ws := sr_mem 647 rfl rfl
theorem k_648 : (Jvm.Cond.methodLink "StationRows" (153 : Nat) ({ cls := "java/lang/Math", name := "max", desc := "(II)I" } : Jvm.MethodName)) ∈ sr_ws := sr_mem 648 (by decide +kernel) rfl
theorem k_649 : (Jvm.Cond.methodLink "StationRowsLaw" (131 : Nat) ({ cls := "StationRowsLaw", name := "period", desc := "(LStationRows;III)I" } : Jvm.MethodName)) ∈ sr_ws := sr_mem 649 (by decide +kernel) rfl
theorem k_650 : (Jvm.Cond.static ({ cls := "StationRowsLaw", name := "period", desc := "(LStationRows;III)I" } : Jvm.MethodName)) ∈ sr_ws := sr_mem 650 (by decide +kernel) rfl
set_option maxRecDepth 100000 in
theorem k_651 : (Jvm.Cond.codeWith ({ cls := "StationRowsLaw", name := "period", desc := "(LStationRows;III)I" } : Jvm.MethodName) method_16_code (5 : Nat) (Option.some Jvm.ClassFile.FieldType.int) [((0 : Nat), (7 : Nat), (10 : Nat), (24 : Nat)), ((0 : Nat), (7 : Nat), (14 : Nat), (13 : Nat))]) ∈ sr_ws := sr_mem 651 rfl rfl
theorem k_652 : (Jvm.Cond.methodLink "StationRowsLaw" (61 : Nat) ({ cls := "StationRows", name := "period", desc := "(III)V" } : Jvm.MethodName)) ∈ sr_ws := sr_mem 652 (by decide +kernel) rfl
theorem k_653 : (Jvm.Cond.instanceMethod ({ cls := "StationRows", name := "period", desc := "(III)V" } : Jvm.MethodName)) ∈ sr_ws := sr_mem 653 (by decide +kernel) rfl
theorem k_654 : (Jvm.Cond.selects "StationRows" ({ cls := "StationRows", name := "period", desc := "(III)V" } : Jvm.MethodName) ({ cls := "StationRows", name := "period", desc := "(III)V" } : Jvm.MethodName)) ∈ sr_ws := sr_mem 654 (by decide +kernel) rfl
set_option maxRecDepth 100000 in
theorem k_655 : (Jvm.Cond.code ({ cls := "StationRows", name := "period", desc := "(III)V" } : Jvm.MethodName) prog_1_method_15_code (4 : Nat) (Option.none : Option Jvm.ClassFile.FieldType)) ∈ sr_ws := sr_mem 655 rfl rfl
theorem k_656 : (Jvm.Cond.methodLink "StationRows" (158 : Nat) ({ cls := "StationRows$Checks", name := "changePeriod", desc := "(III)V" } : Jvm.MethodName)) ∈ sr_ws := sr_mem 656 (by decide +kernel) rfl
theorem k_657 : (Jvm.Cond.instanceMethod ({ cls := "StationRows$Checks", name := "changePeriod", desc := "(III)V" } : Jvm.MethodName)) ∈ sr_ws := sr_mem 657 (by decide +kernel) rfl
theorem k_658 : (Jvm.Cond.selects "StationRows$Checks" ({ cls := "StationRows$Checks", name := "changePeriod", desc := "(III)V" } : Jvm.MethodName) ({ cls := "StationRows$Checks", name := "changePeriod", desc := "(III)V" } : Jvm.MethodName)) ∈ sr_ws := sr_mem 658 (by decide +kernel) rfl
set_option maxRecDepth 100000 in
theorem k_659 : (Jvm.Cond.code ({ cls := "StationRows$Checks", name := "changePeriod", desc := "(III)V" } : Jvm.MethodName) prog_2_method_3_code (4 : Nat) (Option.none : Option Jvm.ClassFile.FieldType)) ∈ sr_ws := sr_mem 659 rfl rfl
theorem k_660 : (Jvm.Cond.methodLink "StationRows$Checks" (28 : Nat) ({ cls := "StationRows$Checks", name := "placeOf", desc := "(II)I" } : Jvm.MethodName)) ∈ sr_ws := sr_mem 660 (by decide +kernel) rfl
theorem k_661 : (Jvm.Cond.static ({ cls := "StationRows$Checks", name := "placeOf", desc := "(II)I" } : Jvm.MethodName)) ∈ sr_ws := sr_mem 661 (by decide +kernel) rfl
set_option maxRecDepth 100000 in
theorem k_662 : (Jvm.Cond.code ({ cls := "StationRows$Checks", name := "placeOf", desc := "(II)I" } : Jvm.MethodName) prog_2_method_7_code (2 : Nat) (Option.some Jvm.ClassFile.FieldType.int)) ∈ sr_ws := sr_mem 662 rfl rfl
theorem k_663 : (Jvm.Cond.methodLink "StationRowsLaw" (134 : Nat) ({ cls := "StationRowsLaw", name := "check", desc := "(LStationRows;III)I" } : Jvm.MethodName)) ∈ sr_ws := sr_mem 663 (by decide +kernel) rfl
theorem k_664 : (Jvm.Cond.static ({ cls := "StationRowsLaw", name := "check", desc := "(LStationRows;III)I" } : Jvm.MethodName)) ∈ sr_ws := sr_mem 664 (by decide +kernel) rfl
set_option maxRecDepth 100000 in
theorem k_665 : (Jvm.Cond.codeWith ({ cls := "StationRowsLaw", name := "check", desc := "(LStationRows;III)I" } : Jvm.MethodName) method_17_code (5 : Nat) (Option.some Jvm.ClassFile.FieldType.int) [((0 : Nat), (7 : Nat), (10 : Nat), (24 : Nat)), ((0 : Nat), (7 : Nat), (14 : Nat), (13 : Nat)), ((0 : Nat), (7 : Nat), (18 : Nat), (15 : Nat))]) ∈ sr_ws := sr_mem 665 rfl rfl
theorem k_666 : (Jvm.Cond.methodLink "StationRowsLaw" (64 : Nat) ({ cls := "StationRows", name := "check", desc := "(III)V" } : Jvm.MethodName)) ∈ sr_ws := sr_mem 666 (by decide +kernel) rfl
theorem k_667 : (Jvm.Cond.instanceMethod ({ cls := "StationRows", name := "check", desc := "(III)V" } : Jvm.MethodName)) ∈ sr_ws := sr_mem 667 (by decide +kernel) rfl
theorem k_668 : (Jvm.Cond.selects "StationRows" ({ cls := "StationRows", name := "check", desc := "(III)V" } : Jvm.MethodName) ({ cls := "StationRows", name := "check", desc := "(III)V" } : Jvm.MethodName)) ∈ sr_ws := sr_mem 668 (by decide +kernel) rfl
set_option maxRecDepth 100000 in
theorem k_669 : (Jvm.Cond.code ({ cls := "StationRows", name := "check", desc := "(III)V" } : Jvm.MethodName) prog_1_method_16_code (4 : Nat) (Option.none : Option Jvm.ClassFile.FieldType)) ∈ sr_ws := sr_mem 669 rfl rfl
theorem k_670 : (Jvm.Cond.methodLink "StationRows" (161 : Nat) ({ cls := "StationRows$Checks", name := "doneCount", desc := "()I" } : Jvm.MethodName)) ∈ sr_ws := sr_mem 670 (by decide +kernel) rfl
theorem k_671 : (Jvm.Cond.instanceMethod ({ cls := "StationRows$Checks", name := "doneCount", desc := "()I" } : Jvm.MethodName)) ∈ sr_ws := sr_mem 671 (by decide +kernel) rfl
theorem k_672 : (Jvm.Cond.selects "StationRows$Checks" ({ cls := "StationRows$Checks", name := "doneCount", desc := "()I" } : Jvm.MethodName) ({ cls := "StationRows$Checks", name := "doneCount", desc := "()I" } : Jvm.MethodName)) ∈ sr_ws := sr_mem 672 (by decide +kernel) rfl
set_option maxRecDepth 100000 in
theorem k_673 : (Jvm.Cond.code ({ cls := "StationRows$Checks", name := "doneCount", desc := "()I" } : Jvm.MethodName) prog_2_method_2_code (1 : Nat) (Option.some Jvm.ClassFile.FieldType.int)) ∈ sr_ws := sr_mem 673 rfl rfl
theorem k_674 : (Jvm.Cond.methodLink "StationRows" (164 : Nat) ({ cls := "StationRows$Checks", name := "addDone", desc := "(III)V" } : Jvm.MethodName)) ∈ sr_ws := sr_mem 674 (by decide +kernel) rfl
theorem k_675 : (Jvm.Cond.instanceMethod ({ cls := "StationRows$Checks", name := "addDone", desc := "(III)V" } : Jvm.MethodName)) ∈ sr_ws := sr_mem 675 (by decide +kernel) rfl
theorem k_676 : (Jvm.Cond.selects "StationRows$Checks" ({ cls := "StationRows$Checks", name := "addDone", desc := "(III)V" } : Jvm.MethodName) ({ cls := "StationRows$Checks", name := "addDone", desc := "(III)V" } : Jvm.MethodName)) ∈ sr_ws := sr_mem 676 (by decide +kernel) rfl
set_option maxRecDepth 100000 in
theorem k_677 : (Jvm.Cond.code ({ cls := "StationRows$Checks", name := "addDone", desc := "(III)V" } : Jvm.MethodName) prog_2_method_4_code (4 : Nat) (Option.none : Option Jvm.ClassFile.FieldType)) ∈ sr_ws := sr_mem 677 rfl rfl
theorem k_678 : (Jvm.Cond.methodLink "StationRowsLaw" (137 : Nat) ({ cls := "StationRowsLaw", name := "missing", desc := "(LStationRows;II[J)I" } : Jvm.MethodName)) ∈ sr_ws := sr_mem 678 (by decide +kernel) rfl
theorem k_679 : (Jvm.Cond.static ({ cls := "StationRowsLaw", name := "missing", desc := "(LStationRows;II[J)I" } : Jvm.MethodName)) ∈ sr_ws := sr_mem 679 (by decide +kernel) rfl
set_option maxRecDepth 100000 in
theorem k_680 : (Jvm.Cond.codeWith ({ cls := "StationRowsLaw", name := "missing", desc := "(LStationRows;II[J)I" } : Jvm.MethodName) method_18_code (5 : Nat) (Option.some Jvm.ClassFile.FieldType.int) [((0 : Nat), (10 : Nat), (13 : Nat), (13 : Nat))]) ∈ sr_ws := sr_mem 680 rfl rfl
theorem k_681 : (Jvm.Cond.methodLink "StationRowsLaw" (67 : Nat) ({ cls := "StationRows", name := "missing", desc := "(II)I" } : Jvm.MethodName)) ∈ sr_ws := sr_mem 681 (by decide +kernel) rfl
theorem k_682 : (Jvm.Cond.instanceMethod ({ cls := "StationRows", name := "missing", desc := "(II)I" } : Jvm.MethodName)) ∈ sr_ws := sr_mem 682 (by decide +kernel) rfl
theorem k_683 : (Jvm.Cond.selects "StationRows" ({ cls := "StationRows", name := "missing", desc := "(II)I" } : Jvm.MethodName) ({ cls := "StationRows", name := "missing", desc := "(II)I" } : Jvm.MethodName)) ∈ sr_ws := sr_mem 683 (by decide +kernel) rfl
set_option maxRecDepth 100000 in
theorem k_684 : (Jvm.Cond.code ({ cls := "StationRows", name := "missing", desc := "(II)I" } : Jvm.MethodName) prog_1_method_17_code (6 : Nat) (Option.some Jvm.ClassFile.FieldType.int)) ∈ sr_ws := sr_mem 684 rfl rfl
theorem k_685 : (Jvm.Cond.methodLink "StationRows" (167 : Nat) ({ cls := "StationRows$Checks", name := "findLatest", desc := "(I)V" } : Jvm.MethodName)) ∈ sr_ws := sr_mem 685 (by decide +kernel) rfl
theorem k_686 : (Jvm.Cond.instanceMethod ({ cls := "StationRows$Checks", name := "findLatest", desc := "(I)V" } : Jvm.MethodName)) ∈ sr_ws := sr_mem 686 (by decide +kernel) rfl
theorem k_687 : (Jvm.Cond.selects "StationRows$Checks" ({ cls := "StationRows$Checks", name := "findLatest", desc := "(I)V" } : Jvm.MethodName) ({ cls := "StationRows$Checks", name := "findLatest", desc := "(I)V" } : Jvm.MethodName)) ∈ sr_ws := sr_mem 687 (by decide +kernel) rfl
set_option maxRecDepth 100000 in
theorem k_688 : (Jvm.Cond.code ({ cls := "StationRows$Checks", name := "findLatest", desc := "(I)V" } : Jvm.MethodName) prog_2_method_5_code (4 : Nat) (Option.none : Option Jvm.ClassFile.FieldType)) ∈ sr_ws := sr_mem 688 rfl rfl
theorem k_689 : (Jvm.Cond.methodLink "StationRows$Checks" (32 : Nat) ({ cls := "java/util/Arrays", name := "fill", desc := "([II)V" } : Jvm.MethodName)) ∈ sr_ws := sr_mem 689 (by decide +kernel) rfl
theorem k_690 : (Jvm.Cond.methodLink "StationRows" (170 : Nat) ({ cls := "StationRows$Checks", name := "isMissing", desc := "(III)Z" } : Jvm.MethodName)) ∈ sr_ws := sr_mem 690 (by decide +kernel) rfl
theorem k_691 : (Jvm.Cond.instanceMethod ({ cls := "StationRows$Checks", name := "isMissing", desc := "(III)Z" } : Jvm.MethodName)) ∈ sr_ws := sr_mem 691 (by decide +kernel) rfl
theorem k_692 : (Jvm.Cond.selects "StationRows$Checks" ({ cls := "StationRows$Checks", name := "isMissing", desc := "(III)Z" } : Jvm.MethodName) ({ cls := "StationRows$Checks", name := "isMissing", desc := "(III)Z" } : Jvm.MethodName)) ∈ sr_ws := sr_mem 692 (by decide +kernel) rfl
set_option maxRecDepth 100000 in
theorem k_693 : (Jvm.Cond.code ({ cls := "StationRows$Checks", name := "isMissing", desc := "(III)Z" } : Jvm.MethodName) prog_2_method_6_code (6 : Nat) (Option.some Jvm.ClassFile.FieldType.boolean)) ∈ sr_ws := sr_mem 693 rfl rfl
theorem k_694 : (Jvm.Cond.methodLink "StationRowsLaw" (140 : Nat) ({ cls := "StationRowsLaw", name := "key", desc := "(LStationRows;IIZ)I" } : Jvm.MethodName)) ∈ sr_ws := sr_mem 694 (by decide +kernel) rfl
theorem k_695 : (Jvm.Cond.static ({ cls := "StationRowsLaw", name := "key", desc := "(LStationRows;IIZ)I" } : Jvm.MethodName)) ∈ sr_ws := sr_mem 695 (by decide +kernel) rfl
set_option maxRecDepth 100000 in
theorem k_696 : (Jvm.Cond.codeWith ({ cls := "StationRowsLaw", name := "key", desc := "(LStationRows;IIZ)I" } : Jvm.MethodName) method_19_code (5 : Nat) (Option.some Jvm.ClassFile.FieldType.int) [((0 : Nat), (7 : Nat), (10 : Nat), (24 : Nat)), ((0 : Nat), (7 : Nat), (14 : Nat), (13 : Nat)), ((0 : Nat), (7 : Nat), (18 : Nat), (30 : Nat))]) ∈ sr_ws := sr_mem 696 rfl rfl
theorem k_697 : (Jvm.Cond.methodLink "StationRowsLaw" (70 : Nat) ({ cls := "StationRows", name := "key", desc := "(IIZ)V" } : Jvm.MethodName)) ∈ sr_ws := sr_mem 697 (by decide +kernel) rfl
theorem k_698 : (Jvm.Cond.instanceMethod ({ cls := "StationRows", name := "key", desc := "(IIZ)V" } : Jvm.MethodName)) ∈ sr_ws := sr_mem 698 (by decide +kernel) rfl
theorem k_699 : (Jvm.Cond.selects "StationRows" ({ cls := "StationRows", name := "key", desc := "(IIZ)V" } : Jvm.MethodName) ({ cls := "StationRows", name := "key", desc := "(IIZ)V" } : Jvm.MethodName)) ∈ sr_ws := sr_mem 699 (by decide +kernel) rfl
set_option maxRecDepth 100000 in
theorem k_700 : (Jvm.Cond.code ({ cls := "StationRows", name := "key", desc := "(IIZ)V" } : Jvm.MethodName) prog_1_method_18_code (4 : Nat) (Option.none : Option Jvm.ClassFile.FieldType)) ∈ sr_ws := sr_mem 700 rfl rfl
theorem k_701 : (Jvm.Cond.methodLink "StationRows" (174 : Nat) ({ cls := "StationRows$Keys", name := "isAt", desc := "(II)Z" } : Jvm.MethodName)) ∈ sr_ws := sr_mem 701 (by decide +kernel) rfl
theorem k_702 : (Jvm.Cond.instanceMethod ({ cls := "StationRows$Keys", name := "isAt", desc := "(II)Z" } : Jvm.MethodName)) ∈ sr_ws := sr_mem 702 (by decide +kernel) rfl
theorem k_703 : (Jvm.Cond.selects "StationRows$Keys" ({ cls := "StationRows$Keys", name := "isAt", desc := "(II)Z" } : Jvm.MethodName) ({ cls := "StationRows$Keys", name := "isAt", desc := "(II)Z" } : Jvm.MethodName)) ∈ sr_ws := sr_mem 703 (by decide +kernel) rfl
set_option maxRecDepth 100000 in
theorem k_704 : (Jvm.Cond.code ({ cls := "StationRows$Keys", name := "isAt", desc := "(II)Z" } : Jvm.MethodName) prog_3_method_2_code (3 : Nat) (Option.some Jvm.ClassFile.FieldType.boolean)) ∈ sr_ws := sr_mem 704 rfl rfl
theorem k_705 : (Jvm.Cond.methodLink "StationRows" (177 : Nat) ({ cls := "StationRows$Keys", name := "flip", desc := "(II)V" } : Jvm.MethodName)) ∈ sr_ws := sr_mem 705 (by decide +kernel) rfl
theorem k_706 : (Jvm.Cond.instanceMethod ({ cls := "StationRows$Keys", name := "flip", desc := "(II)V" } : Jvm.MethodName)) ∈ sr_ws := sr_mem 706 (by decide +kernel) rfl
theorem k_707 : (Jvm.Cond.selects "StationRows$Keys" ({ cls := "StationRows$Keys", name := "flip", desc := "(II)V" } : Jvm.MethodName) ({ cls := "StationRows$Keys", name := "flip", desc := "(II)V" } : Jvm.MethodName)) ∈ sr_ws := sr_mem 707 (by decide +kernel) rfl
set_option maxRecDepth 100000 in
theorem k_708 : (Jvm.Cond.code ({ cls := "StationRows$Keys", name := "flip", desc := "(II)V" } : Jvm.MethodName) prog_3_method_3_code (3 : Nat) (Option.none : Option Jvm.ClassFile.FieldType)) ∈ sr_ws := sr_mem 708 rfl rfl
theorem k_709 : (Jvm.Cond.methodLink "StationRowsLaw" (144 : Nat) ({ cls := "StationRowsLaw", name := "holder", desc := "(LStationRows;II[J)I" } : Jvm.MethodName)) ∈ sr_ws := sr_mem 709 (by decide +kernel) rfl
theorem k_710 : (Jvm.Cond.static ({ cls := "StationRowsLaw", name := "holder", desc := "(LStationRows;II[J)I" } : Jvm.MethodName)) ∈ sr_ws := sr_mem 710 (by decide +kernel) rfl
set_option maxRecDepth 100000 in
theorem k_711 : (Jvm.Cond.codeWith ({ cls := "StationRowsLaw", name := "holder", desc := "(LStationRows;II[J)I" } : Jvm.MethodName) method_20_code (5 : Nat) (Option.some Jvm.ClassFile.FieldType.int) [((0 : Nat), (10 : Nat), (13 : Nat), (13 : Nat))]) ∈ sr_ws := sr_mem 711 rfl rfl
theorem k_712 : (Jvm.Cond.methodLink "StationRowsLaw" (74 : Nat) ({ cls := "StationRows", name := "holder", desc := "(II)I" } : Jvm.MethodName)) ∈ sr_ws := sr_mem 712 (by decide +kernel) rfl
theorem k_713 : (Jvm.Cond.instanceMethod ({ cls := "StationRows", name := "holder", desc := "(II)I" } : Jvm.MethodName)) ∈ sr_ws := sr_mem 713 (by decide +kernel) rfl
theorem k_714 : (Jvm.Cond.selects "StationRows" ({ cls := "StationRows", name := "holder", desc := "(II)I" } : Jvm.MethodName) ({ cls := "StationRows", name := "holder", desc := "(II)I" } : Jvm.MethodName)) ∈ sr_ws := sr_mem 714 (by decide +kernel) rfl
set_option maxRecDepth 100000 in
theorem k_715 : (Jvm.Cond.code ({ cls := "StationRows", name := "holder", desc := "(II)I" } : Jvm.MethodName) prog_1_method_19_code (3 : Nat) (Option.some Jvm.ClassFile.FieldType.int)) ∈ sr_ws := sr_mem 715 rfl rfl
theorem k_716 : (Jvm.Cond.methodLink "StationRows" (180 : Nat) ({ cls := "StationRows$Keys", name := "stationInRow", desc := "(II)I" } : Jvm.MethodName)) ∈ sr_ws := sr_mem 716 (by decide +kernel) rfl
theorem k_717 : (Jvm.Cond.instanceMethod ({ cls := "StationRows$Keys", name := "stationInRow", desc := "(II)I" } : Jvm.MethodName)) ∈ sr_ws := sr_mem 717 (by decide +kernel) rfl
theorem k_718 : (Jvm.Cond.selects "StationRows$Keys" ({ cls := "StationRows$Keys", name := "stationInRow", desc := "(II)I" } : Jvm.MethodName) ({ cls := "StationRows$Keys", name := "stationInRow", desc := "(II)I" } : Jvm.MethodName)) ∈ sr_ws := sr_mem 718 (by decide +kernel) rfl
set_option maxRecDepth 100000 in
theorem k_719 : (Jvm.Cond.code ({ cls := "StationRows$Keys", name := "stationInRow", desc := "(II)I" } : Jvm.MethodName) prog_3_method_4_code (5 : Nat) (Option.some Jvm.ClassFile.FieldType.int)) ∈ sr_ws := sr_mem 719 rfl rfl
theorem k_720 : (Jvm.Cond.methodLink "StationRows$Keys" (15 : Nat) ({ cls := "StationRows$Keys", name := "isAt", desc := "(II)Z" } : Jvm.MethodName)) ∈ sr_ws := sr_mem 720 (by decide +kernel) rfl
theorem k_721 : (Jvm.Cond.classLink "StationRowsLaw" (78 : Nat) "StationRowsModel") ∈ sr_ws := sr_mem 721 (by decide +kernel) rfl
theorem k_722 : (Jvm.Cond.instantiable "StationRowsModel" (35 : Nat)) ∈ sr_ws := sr_mem 722 (by decide +kernel) rfl
theorem k_723 : (Jvm.Cond.methodLink "StationRowsLaw" (80 : Nat) ({ cls := "StationRowsModel", name := "<init>", desc := "()V" } : Jvm.MethodName)) ∈ sr_ws := sr_mem 723 (by decide +kernel) rfl
theorem k_724 : (Jvm.Cond.instanceMethod ({ cls := "StationRowsModel", name := "<init>", desc := "()V" } : Jvm.MethodName)) ∈ sr_ws := sr_mem 724 (by decide +kernel) rfl
set_option maxRecDepth 100000 in
theorem k_725 : (Jvm.Cond.code ({ cls := "StationRowsModel", name := "<init>", desc := "()V" } : Jvm.MethodName) prog_10_method_1_code (1 : Nat) (Option.none : Option Jvm.ClassFile.FieldType)) ∈ sr_ws := sr_mem 725 rfl rfl
theorem k_726 : (Jvm.Cond.methodLink "StationRowsModel" (1 : Nat) ({ cls := "java/lang/Object", name := "<init>", desc := "()V" } : Jvm.MethodName)) ∈ sr_ws := sr_mem 726 (by decide +kernel) rfl
theorem k_727 : (Jvm.Cond.fieldLink "StationRowsModel" (102 : Nat) "StationRowsModel" "thrown" "I") ∈ sr_ws := sr_mem 727 (by decide +kernel) rfl
theorem k_728 : (Jvm.Cond.fieldLink "StationRowsModel" (105 : Nat) "StationRowsModel" "stations" "I") ∈ sr_ws := sr_mem 728 (by decide +kernel) rfl
theorem k_729 : (Jvm.Cond.fieldLink "StationRowsModel" (7 : Nat) "StationRowsModel" "doors" "[I") ∈ sr_ws := sr_mem 729 (by decide +kernel) rfl
theorem k_730 : (Jvm.Cond.fieldLink "StationRowsModel" (13 : Nat) "StationRowsModel" "opens" "[I") ∈ sr_ws := sr_mem 730 (by decide +kernel) rfl
theorem k_731 : (Jvm.Cond.fieldLink "StationRowsModel" (16 : Nat) "StationRowsModel" "shuts" "[I") ∈ sr_ws := sr_mem 731 (by decide +kernel) rfl
theorem k_732 : (Jvm.Cond.fieldLink "StationRowsModel" (130 : Nat) "StationRowsModel" "vehicles" "I") ∈ sr_ws := sr_mem 732 (by decide +kernel) rfl
theorem k_733 : (Jvm.Cond.fieldLink "StationRowsModel" (19 : Nat) "StationRowsModel" "home" "[I") ∈ sr_ws := sr_mem 733 (by decide +kernel) rfl
theorem k_734 : (Jvm.Cond.fieldLink "StationRowsModel" (22 : Nat) "StationRowsModel" "kind" "[I") ∈ sr_ws := sr_mem 734 (by decide +kernel) rfl
theorem k_735 : (Jvm.Cond.fieldLink "StationRowsModel" (25 : Nat) "StationRowsModel" "crew" "[I") ∈ sr_ws := sr_mem 735 (by decide +kernel) rfl
theorem k_736 : (Jvm.Cond.fieldLink "StationRowsModel" (28 : Nat) "StationRowsModel" "outs" "[I") ∈ sr_ws := sr_mem 736 (by decide +kernel) rfl
theorem k_737 : (Jvm.Cond.fieldLink "StationRowsModel" (31 : Nat) "StationRowsModel" "outFrom" "[I") ∈ sr_ws := sr_mem 737 (by decide +kernel) rfl
theorem k_738 : (Jvm.Cond.fieldLink "StationRowsModel" (34 : Nat) "StationRowsModel" "outTo" "[I") ∈ sr_ws := sr_mem 738 (by decide +kernel) rfl
theorem k_739 : (Jvm.Cond.fieldLink "StationRowsModel" (143 : Nat) "StationRowsModel" "persons" "I") ∈ sr_ws := sr_mem 739 (by decide +kernel) rfl
theorem k_740 : (Jvm.Cond.fieldLink "StationRowsModel" (37 : Nat) "StationRowsModel" "lives" "[I") ∈ sr_ws := sr_mem 740 (by decide +kernel) rfl
theorem k_741 : (Jvm.Cond.fieldLink "StationRowsModel" (40 : Nat) "StationRowsModel" "distance" "[I") ∈ sr_ws := sr_mem 741 (by decide +kernel) rfl
theorem k_742 : (Jvm.Cond.fieldLink "StationRowsModel" (43 : Nat) "StationRowsModel" "duties" "[I") ∈ sr_ws := sr_mem 742 (by decide +kernel) rfl
theorem k_743 : (Jvm.Cond.fieldLink "StationRowsModel" (46 : Nat) "StationRowsModel" "dutyFrom" "[I") ∈ sr_ws := sr_mem 743 (by decide +kernel) rfl
theorem k_744 : (Jvm.Cond.fieldLink "StationRowsModel" (49 : Nat) "StationRowsModel" "dutyTo" "[I") ∈ sr_ws := sr_mem 744 (by decide +kernel) rfl
theorem k_745 : (Jvm.Cond.fieldLink "StationRowsModel" (52 : Nat) "StationRowsModel" "moves" "[I") ∈ sr_ws := sr_mem 745 (by decide +kernel) rfl
theorem k_746 : (Jvm.Cond.fieldLink "StationRowsModel" (55 : Nat) "StationRowsModel" "moveTo" "[I") ∈ sr_ws := sr_mem 746 (by decide +kernel) rfl
theorem k_747 : (Jvm.Cond.fieldLink "StationRowsModel" (58 : Nat) "StationRowsModel" "moveFrom" "[I") ∈ sr_ws := sr_mem 747 (by decide +kernel) rfl
theorem k_748 : (Jvm.Cond.fieldLink "StationRowsModel" (61 : Nat) "StationRowsModel" "moveEnd" "[I") ∈ sr_ws := sr_mem 748 (by decide +kernel) rfl
theorem k_749 : (Jvm.Cond.fieldLink "StationRowsModel" (64 : Nat) "StationRowsModel" "limit" "I") ∈ sr_ws := sr_mem 749 (by decide +kernel) rfl
theorem k_750 : (Jvm.Cond.fieldLink "StationRowsModel" (68 : Nat) "StationRowsModel" "needs" "[I") ∈ sr_ws := sr_mem 750 (by decide +kernel) rfl
theorem k_751 : (Jvm.Cond.fieldLink "StationRowsModel" (71 : Nat) "StationRowsModel" "period" "[I") ∈ sr_ws := sr_mem 751 (by decide +kernel) rfl
theorem k_752 : (Jvm.Cond.fieldLink "StationRowsModel" (182 : Nat) "StationRowsModel" "done" "I") ∈ sr_ws := sr_mem 752 (by decide +kernel) rfl
theorem k_753 : (Jvm.Cond.fieldLink "StationRowsModel" (74 : Nat) "StationRowsModel" "doneAt" "[I") ∈ sr_ws := sr_mem 753 (by decide +kernel) rfl
theorem k_754 : (Jvm.Cond.fieldLink "StationRowsModel" (77 : Nat) "StationRowsModel" "doneCheck" "[I") ∈ sr_ws := sr_mem 754 (by decide +kernel) rfl
theorem k_755 : (Jvm.Cond.fieldLink "StationRowsModel" (80 : Nat) "StationRowsModel" "key" "[Z") ∈ sr_ws := sr_mem 755 (by decide +kernel) rfl
theorem k_756 : (Jvm.Cond.fieldLink "StationRowsModel" (84 : Nat) "StationRowsModel" "standsFor" "[I") ∈ sr_ws := sr_mem 756 (by decide +kernel) rfl
theorem k_757 : (Jvm.Cond.fieldLink "StationRowsModel" (87 : Nat) "StationRowsModel" "standsIn" "[I") ∈ sr_ws := sr_mem 757 (by decide +kernel) rfl
theorem k_758 : (Jvm.Cond.fieldLink "StationRowsModel" (90 : Nat) "StationRowsModel" "taken" "[Z") ∈ sr_ws := sr_mem 758 (by decide +kernel) rfl
theorem k_759 : (Jvm.Cond.fieldLink "StationRowsModel" (93 : Nat) "StationRowsModel" "many" "[I") ∈ sr_ws := sr_mem 759 (by decide +kernel) rfl
theorem k_760 : (Jvm.Cond.fieldLink "StationRowsModel" (96 : Nat) "StationRowsModel" "lowest" "[I") ∈ sr_ws := sr_mem 760 (by decide +kernel) rfl
theorem k_761 : (Jvm.Cond.fieldLink "StationRowsModel" (99 : Nat) "StationRowsModel" "farthest" "[I") ∈ sr_ws := sr_mem 761 (by decide +kernel) rfl
theorem k_762 : (Jvm.Cond.lays "StationRowsModel" "StationRowsModel" "thrown" "I") ∈ sr_ws := sr_mem 762 (by decide +kernel) rfl
theorem k_764 : (Jvm.Cond.lays "StationRowsModel" "StationRowsModel" "stations" "I") ∈ sr_ws := sr_mem 764 (by decide +kernel) rfl
theorem k_766 : (Jvm.Cond.laysFinal "StationRowsModel" "StationRowsModel" "doors" "[I") ∈ sr_ws := sr_mem 766 (by decide +kernel) rfl
theorem k_768 : (Jvm.Cond.laysFinal "StationRowsModel" "StationRowsModel" "opens" "[I") ∈ sr_ws := sr_mem 768 (by decide +kernel) rfl
theorem k_770 : (Jvm.Cond.laysFinal "StationRowsModel" "StationRowsModel" "shuts" "[I") ∈ sr_ws := sr_mem 770 (by decide +kernel) rfl
theorem k_772 : (Jvm.Cond.lays "StationRowsModel" "StationRowsModel" "vehicles" "I") ∈ sr_ws := sr_mem 772 (by decide +kernel) rfl
theorem k_774 : (Jvm.Cond.laysFinal "StationRowsModel" "StationRowsModel" "home" "[I") ∈ sr_ws := sr_mem 774 (by decide +kernel) rfl
theorem k_776 : (Jvm.Cond.laysFinal "StationRowsModel" "StationRowsModel" "kind" "[I") ∈ sr_ws := sr_mem 776 (by decide +kernel) rfl
theorem k_778 : (Jvm.Cond.laysFinal "StationRowsModel" "StationRowsModel" "crew" "[I") ∈ sr_ws := sr_mem 778 (by decide +kernel) rfl
theorem k_780 : (Jvm.Cond.laysFinal "StationRowsModel" "StationRowsModel" "outs" "[I") ∈ sr_ws := sr_mem 780 (by decide +kernel) rfl
theorem k_782 : (Jvm.Cond.laysFinal "StationRowsModel" "StationRowsModel" "outFrom" "[I") ∈ sr_ws := sr_mem 782 (by decide +kernel) rfl
theorem k_784 : (Jvm.Cond.laysFinal "StationRowsModel" "StationRowsModel" "outTo" "[I") ∈ sr_ws := sr_mem 784 (by decide +kernel) rfl
theorem k_786 : (Jvm.Cond.lays "StationRowsModel" "StationRowsModel" "persons" "I") ∈ sr_ws := sr_mem 786 (by decide +kernel) rfl
theorem k_788 : (Jvm.Cond.laysFinal "StationRowsModel" "StationRowsModel" "lives" "[I") ∈ sr_ws := sr_mem 788 (by decide +kernel) rfl
theorem k_790 : (Jvm.Cond.laysFinal "StationRowsModel" "StationRowsModel" "distance" "[I") ∈ sr_ws := sr_mem 790 (by decide +kernel) rfl
theorem k_792 : (Jvm.Cond.laysFinal "StationRowsModel" "StationRowsModel" "duties" "[I") ∈ sr_ws := sr_mem 792 (by decide +kernel) rfl
theorem k_794 : (Jvm.Cond.laysFinal "StationRowsModel" "StationRowsModel" "dutyFrom" "[I") ∈ sr_ws := sr_mem 794 (by decide +kernel) rfl
theorem k_796 : (Jvm.Cond.laysFinal "StationRowsModel" "StationRowsModel" "dutyTo" "[I") ∈ sr_ws := sr_mem 796 (by decide +kernel) rfl
theorem k_798 : (Jvm.Cond.laysFinal "StationRowsModel" "StationRowsModel" "moves" "[I") ∈ sr_ws := sr_mem 798 (by decide +kernel) rfl
theorem k_800 : (Jvm.Cond.laysFinal "StationRowsModel" "StationRowsModel" "moveTo" "[I") ∈ sr_ws := sr_mem 800 (by decide +kernel) rfl
theorem k_802 : (Jvm.Cond.laysFinal "StationRowsModel" "StationRowsModel" "moveFrom" "[I") ∈ sr_ws := sr_mem 802 (by decide +kernel) rfl
theorem k_804 : (Jvm.Cond.laysFinal "StationRowsModel" "StationRowsModel" "moveEnd" "[I") ∈ sr_ws := sr_mem 804 (by decide +kernel) rfl
theorem k_806 : (Jvm.Cond.lays "StationRowsModel" "StationRowsModel" "limit" "I") ∈ sr_ws := sr_mem 806 (by decide +kernel) rfl
theorem k_808 : (Jvm.Cond.laysFinal "StationRowsModel" "StationRowsModel" "needs" "[I") ∈ sr_ws := sr_mem 808 (by decide +kernel) rfl
theorem k_810 : (Jvm.Cond.laysFinal "StationRowsModel" "StationRowsModel" "period" "[I") ∈ sr_ws := sr_mem 810 (by decide +kernel) rfl
theorem k_812 : (Jvm.Cond.lays "StationRowsModel" "StationRowsModel" "done" "I") ∈ sr_ws := sr_mem 812 (by decide +kernel) rfl
theorem k_814 : (Jvm.Cond.laysFinal "StationRowsModel" "StationRowsModel" "doneAt" "[I") ∈ sr_ws := sr_mem 814 (by decide +kernel) rfl
theorem k_816 : (Jvm.Cond.laysFinal "StationRowsModel" "StationRowsModel" "doneCheck" "[I") ∈ sr_ws := sr_mem 816 (by decide +kernel) rfl
theorem k_818 : (Jvm.Cond.laysFinal "StationRowsModel" "StationRowsModel" "key" "[Z") ∈ sr_ws := sr_mem 818 (by decide +kernel) rfl
theorem k_820 : (Jvm.Cond.laysFinal "StationRowsModel" "StationRowsModel" "standsFor" "[I") ∈ sr_ws := sr_mem 820 (by decide +kernel) rfl
theorem k_822 : (Jvm.Cond.laysFinal "StationRowsModel" "StationRowsModel" "standsIn" "[I") ∈ sr_ws := sr_mem 822 (by decide +kernel) rfl
theorem k_824 : (Jvm.Cond.laysFinal "StationRowsModel" "StationRowsModel" "taken" "[Z") ∈ sr_ws := sr_mem 824 (by decide +kernel) rfl
theorem k_826 : (Jvm.Cond.laysFinal "StationRowsModel" "StationRowsModel" "many" "[I") ∈ sr_ws := sr_mem 826 (by decide +kernel) rfl
theorem k_828 : (Jvm.Cond.laysFinal "StationRowsModel" "StationRowsModel" "lowest" "[I") ∈ sr_ws := sr_mem 828 (by decide +kernel) rfl
theorem k_830 : (Jvm.Cond.laysFinal "StationRowsModel" "StationRowsModel" "farthest" "[I") ∈ sr_ws := sr_mem 830 (by decide +kernel) rfl
theorem k_833 : (Jvm.Cond.arrayClass Jvm.ClassFile.FieldType.boolean) ∈ sr_ws := sr_mem 833 (by decide +kernel) rfl
theorem k_834 : (Jvm.Cond.methodLink "StationRowsLaw" (87 : Nat) ({ cls := "StationRowsModel", name := "thrown", desc := "()I" } : Jvm.MethodName)) ∈ sr_ws := sr_mem 834 (by decide +kernel) rfl
theorem k_835 : (Jvm.Cond.instanceMethod ({ cls := "StationRowsModel", name := "thrown", desc := "()I" } : Jvm.MethodName)) ∈ sr_ws := sr_mem 835 (by decide +kernel) rfl
theorem k_836 : (Jvm.Cond.selects "StationRowsModel" ({ cls := "StationRowsModel", name := "thrown", desc := "()I" } : Jvm.MethodName) ({ cls := "StationRowsModel", name := "thrown", desc := "()I" } : Jvm.MethodName)) ∈ sr_ws := sr_mem 836 (by decide +kernel) rfl
set_option maxRecDepth 100000 in
theorem k_837 : (Jvm.Cond.code ({ cls := "StationRowsModel", name := "thrown", desc := "()I" } : Jvm.MethodName) prog_10_method_2_code (1 : Nat) (Option.some Jvm.ClassFile.FieldType.int)) ∈ sr_ws := sr_mem 837 rfl rfl
theorem k_838 : (Jvm.Cond.methodLink "StationRowsLaw" (86 : Nat) ({ cls := "StationRowsModel", name := "station", desc := "(I)I" } : Jvm.MethodName)) ∈ sr_ws := sr_mem 838 (by decide +kernel) rfl
theorem k_839 : (Jvm.Cond.instanceMethod ({ cls := "StationRowsModel", name := "station", desc := "(I)I" } : Jvm.MethodName)) ∈ sr_ws := sr_mem 839 (by decide +kernel) rfl
theorem k_840 : (Jvm.Cond.selects "StationRowsModel" ({ cls := "StationRowsModel", name := "station", desc := "(I)I" } : Jvm.MethodName) ({ cls := "StationRowsModel", name := "station", desc := "(I)I" } : Jvm.MethodName)) ∈ sr_ws := sr_mem 840 (by decide +kernel) rfl
set_option maxRecDepth 100000 in
theorem k_841 : (Jvm.Cond.code ({ cls := "StationRowsModel", name := "station", desc := "(I)I" } : Jvm.MethodName) prog_10_method_11_code (2 : Nat) (Option.some Jvm.ClassFile.FieldType.int)) ∈ sr_ws := sr_mem 841 rfl rfl
theorem k_842 : (Jvm.Cond.methodLink "StationRowsModel" (108 : Nat) ({ cls := "StationRowsModel", name := "in", desc := "(III)Z" } : Jvm.MethodName)) ∈ sr_ws := sr_mem 842 (by decide +kernel) rfl
theorem k_843 : (Jvm.Cond.static ({ cls := "StationRowsModel", name := "in", desc := "(III)Z" } : Jvm.MethodName)) ∈ sr_ws := sr_mem 843 (by decide +kernel) rfl
set_option maxRecDepth 100000 in
theorem k_844 : (Jvm.Cond.code ({ cls := "StationRowsModel", name := "in", desc := "(III)Z" } : Jvm.MethodName) prog_10_method_3_code (3 : Nat) (Option.some Jvm.ClassFile.FieldType.boolean)) ∈ sr_ws := sr_mem 844 rfl rfl
theorem k_845 : (Jvm.Cond.methodLink "StationRowsModel" (117 : Nat) ({ cls := "StationRowsModel", name := "goes", desc := "(IZZZZ)Z" } : Jvm.MethodName)) ∈ sr_ws := sr_mem 845 (by decide +kernel) rfl
theorem k_847 : (Jvm.Cond.instanceMethod ({ cls := "StationRowsModel", name := "goes", desc := "(IZZZZ)Z" } : Jvm.MethodName)) ∈ sr_ws := sr_mem 847 (by decide +kernel) rfl
set_option maxRecDepth 100000 in
theorem k_848 : (Jvm.Cond.code ({ cls := "StationRowsModel", name := "goes", desc := "(IZZZZ)Z" } : Jvm.MethodName) prog_10_method_4_code (8 : Nat) (Option.some Jvm.ClassFile.FieldType.boolean)) ∈ sr_ws := sr_mem 848 rfl rfl
theorem k_849 : (Jvm.Cond.constant "StationRowsModel" (121 : Nat) (100000 : Int32)) ∈ sr_ws := sr_mem 849 (by decide +kernel) rfl
theorem k_850 : (Jvm.Cond.methodLink "StationRowsModel" (122 : Nat) ({ cls := "StationRowsModel", name := "add", desc := "(III)I" } : Jvm.MethodName)) ∈ sr_ws := sr_mem 850 (by decide +kernel) rfl
theorem k_852 : (Jvm.Cond.instanceMethod ({ cls := "StationRowsModel", name := "add", desc := "(III)I" } : Jvm.MethodName)) ∈ sr_ws := sr_mem 852 (by decide +kernel) rfl
set_option maxRecDepth 100000 in
theorem k_853 : (Jvm.Cond.code ({ cls := "StationRowsModel", name := "add", desc := "(III)I" } : Jvm.MethodName) prog_10_method_10_code (4 : Nat) (Option.some Jvm.ClassFile.FieldType.int)) ∈ sr_ws := sr_mem 853 rfl rfl
theorem k_854 : (Jvm.Cond.methodLink "StationRowsLaw" (94 : Nat) ({ cls := "StationRowsModel", name := "temporary", desc := "(III)I" } : Jvm.MethodName)) ∈ sr_ws := sr_mem 854 (by decide +kernel) rfl
theorem k_855 : (Jvm.Cond.instanceMethod ({ cls := "StationRowsModel", name := "temporary", desc := "(III)I" } : Jvm.MethodName)) ∈ sr_ws := sr_mem 855 (by decide +kernel) rfl
theorem k_856 : (Jvm.Cond.selects "StationRowsModel" ({ cls := "StationRowsModel", name := "temporary", desc := "(III)I" } : Jvm.MethodName) ({ cls := "StationRowsModel", name := "temporary", desc := "(III)I" } : Jvm.MethodName)) ∈ sr_ws := sr_mem 856 (by decide +kernel) rfl
set_option maxRecDepth 100000 in
theorem k_857 : (Jvm.Cond.code ({ cls := "StationRowsModel", name := "temporary", desc := "(III)I" } : Jvm.MethodName) prog_10_method_12_code (4 : Nat) (Option.some Jvm.ClassFile.FieldType.int)) ∈ sr_ws := sr_mem 857 rfl rfl
theorem k_858 : (Jvm.Cond.methodLink "StationRowsModel" (126 : Nat) ({ cls := "StationRowsModel", name := "isTime", desc := "(II)Z" } : Jvm.MethodName)) ∈ sr_ws := sr_mem 858 (by decide +kernel) rfl
theorem k_859 : (Jvm.Cond.static ({ cls := "StationRowsModel", name := "isTime", desc := "(II)Z" } : Jvm.MethodName)) ∈ sr_ws := sr_mem 859 (by decide +kernel) rfl
set_option maxRecDepth 100000 in
theorem k_860 : (Jvm.Cond.code ({ cls := "StationRowsModel", name := "isTime", desc := "(II)Z" } : Jvm.MethodName) prog_10_method_7_code (2 : Nat) (Option.some Jvm.ClassFile.FieldType.boolean)) ∈ sr_ws := sr_mem 860 rfl rfl
theorem k_861 : (Jvm.Cond.methodLink "StationRowsModel" (113 : Nat) ({ cls := "StationRowsModel", name := "isMinute", desc := "(I)Z" } : Jvm.MethodName)) ∈ sr_ws := sr_mem 861 (by decide +kernel) rfl
theorem k_862 : (Jvm.Cond.static ({ cls := "StationRowsModel", name := "isMinute", desc := "(I)Z" } : Jvm.MethodName)) ∈ sr_ws := sr_mem 862 (by decide +kernel) rfl
set_option maxRecDepth 100000 in
theorem k_863 : (Jvm.Cond.code ({ cls := "StationRowsModel", name := "isMinute", desc := "(I)Z" } : Jvm.MethodName) prog_10_method_6_code (1 : Nat) (Option.some Jvm.ClassFile.FieldType.boolean)) ∈ sr_ws := sr_mem 863 rfl rfl
theorem k_864 : (Jvm.Cond.constant "StationRowsModel" (112 : Nat) (99999 : Int32)) ∈ sr_ws := sr_mem 864 (by decide +kernel) rfl
theorem k_865 : (Jvm.Cond.methodLink "StationRowsLaw" (97 : Nat) ({ cls := "StationRowsModel", name := "vehicle", desc := "(III)I" } : Jvm.MethodName)) ∈ sr_ws := sr_mem 865 (by decide +kernel) rfl
theorem k_866 : (Jvm.Cond.instanceMethod ({ cls := "StationRowsModel", name := "vehicle", desc := "(III)I" } : Jvm.MethodName)) ∈ sr_ws := sr_mem 866 (by decide +kernel) rfl
theorem k_867 : (Jvm.Cond.selects "StationRowsModel" ({ cls := "StationRowsModel", name := "vehicle", desc := "(III)I" } : Jvm.MethodName) ({ cls := "StationRowsModel", name := "vehicle", desc := "(III)I" } : Jvm.MethodName)) ∈ sr_ws := sr_mem 867 (by decide +kernel) rfl
set_option maxRecDepth 100000 in
theorem k_868 : (Jvm.Cond.code ({ cls := "StationRowsModel", name := "vehicle", desc := "(III)I" } : Jvm.MethodName) prog_10_method_13_code (6 : Nat) (Option.some Jvm.ClassFile.FieldType.int)) ∈ sr_ws := sr_mem 868 rfl rfl
theorem k_869 : (Jvm.Cond.methodLink "StationRowsModel" (133 : Nat) ({ cls := "StationRowsModel", name := "isStation", desc := "(I)Z" } : Jvm.MethodName)) ∈ sr_ws := sr_mem 869 (by decide +kernel) rfl
theorem k_871 : (Jvm.Cond.instanceMethod ({ cls := "StationRowsModel", name := "isStation", desc := "(I)Z" } : Jvm.MethodName)) ∈ sr_ws := sr_mem 871 (by decide +kernel) rfl
set_option maxRecDepth 100000 in
theorem k_872 : (Jvm.Cond.code ({ cls := "StationRowsModel", name := "isStation", desc := "(I)Z" } : Jvm.MethodName) prog_10_method_5_code (2 : Nat) (Option.some Jvm.ClassFile.FieldType.boolean)) ∈ sr_ws := sr_mem 872 rfl rfl
theorem k_873 : (Jvm.Cond.methodLink "StationRowsLaw" (101 : Nat) ({ cls := "StationRowsModel", name := "out", desc := "(III)V" } : Jvm.MethodName)) ∈ sr_ws := sr_mem 873 (by decide +kernel) rfl
theorem k_874 : (Jvm.Cond.instanceMethod ({ cls := "StationRowsModel", name := "out", desc := "(III)V" } : Jvm.MethodName)) ∈ sr_ws := sr_mem 874 (by decide +kernel) rfl
theorem k_875 : (Jvm.Cond.selects "StationRowsModel" ({ cls := "StationRowsModel", name := "out", desc := "(III)V" } : Jvm.MethodName) ({ cls := "StationRowsModel", name := "out", desc := "(III)V" } : Jvm.MethodName)) ∈ sr_ws := sr_mem 875 (by decide +kernel) rfl
set_option maxRecDepth 100000 in
theorem k_876 : (Jvm.Cond.code ({ cls := "StationRowsModel", name := "out", desc := "(III)V" } : Jvm.MethodName) prog_10_method_15_code (7 : Nat) (Option.none : Option Jvm.ClassFile.FieldType)) ∈ sr_ws := sr_mem 876 rfl rfl
theorem k_877 : (Jvm.Cond.methodLink "StationRowsModel" (136 : Nat) ({ cls := "StationRowsModel", name := "isVehicle", desc := "(I)Z" } : Jvm.MethodName)) ∈ sr_ws := sr_mem 877 (by decide +kernel) rfl
theorem k_879 : (Jvm.Cond.instanceMethod ({ cls := "StationRowsModel", name := "isVehicle", desc := "(I)Z" } : Jvm.MethodName)) ∈ sr_ws := sr_mem 879 (by decide +kernel) rfl
set_option maxRecDepth 100000 in
theorem k_880 : (Jvm.Cond.code ({ cls := "StationRowsModel", name := "isVehicle", desc := "(I)Z" } : Jvm.MethodName) prog_10_method_14_code (2 : Nat) (Option.some Jvm.ClassFile.FieldType.boolean)) ∈ sr_ws := sr_mem 880 rfl rfl
theorem k_881 : (Jvm.Cond.methodLink "StationRowsModel" (139 : Nat) ({ cls := "StationRowsModel", name := "meet", desc := "(IIII)Z" } : Jvm.MethodName)) ∈ sr_ws := sr_mem 881 (by decide +kernel) rfl
theorem k_882 : (Jvm.Cond.static ({ cls := "StationRowsModel", name := "meet", desc := "(IIII)Z" } : Jvm.MethodName)) ∈ sr_ws := sr_mem 882 (by decide +kernel) rfl
set_option maxRecDepth 100000 in
theorem k_883 : (Jvm.Cond.code ({ cls := "StationRowsModel", name := "meet", desc := "(IIII)Z" } : Jvm.MethodName) prog_10_method_8_code (4 : Nat) (Option.some Jvm.ClassFile.FieldType.boolean)) ∈ sr_ws := sr_mem 883 rfl rfl
theorem k_884 : (Jvm.Cond.methodLink "StationRowsLaw" (105 : Nat) ({ cls := "StationRowsModel", name := "person", desc := "(II)I" } : Jvm.MethodName)) ∈ sr_ws := sr_mem 884 (by decide +kernel) rfl
theorem k_885 : (Jvm.Cond.instanceMethod ({ cls := "StationRowsModel", name := "person", desc := "(II)I" } : Jvm.MethodName)) ∈ sr_ws := sr_mem 885 (by decide +kernel) rfl
theorem k_886 : (Jvm.Cond.selects "StationRowsModel" ({ cls := "StationRowsModel", name := "person", desc := "(II)I" } : Jvm.MethodName) ({ cls := "StationRowsModel", name := "person", desc := "(II)I" } : Jvm.MethodName)) ∈ sr_ws := sr_mem 886 (by decide +kernel) rfl
set_option maxRecDepth 100000 in
theorem k_887 : (Jvm.Cond.code ({ cls := "StationRowsModel", name := "person", desc := "(II)I" } : Jvm.MethodName) prog_10_method_16_code (3 : Nat) (Option.some Jvm.ClassFile.FieldType.int)) ∈ sr_ws := sr_mem 887 rfl rfl
theorem k_888 : (Jvm.Cond.methodLink "StationRowsLaw" (108 : Nat) ({ cls := "StationRowsModel", name := "duty", desc := "(III)V" } : Jvm.MethodName)) ∈ sr_ws := sr_mem 888 (by decide +kernel) rfl
theorem k_889 : (Jvm.Cond.instanceMethod ({ cls := "StationRowsModel", name := "duty", desc := "(III)V" } : Jvm.MethodName)) ∈ sr_ws := sr_mem 889 (by decide +kernel) rfl
theorem k_890 : (Jvm.Cond.selects "StationRowsModel" ({ cls := "StationRowsModel", name := "duty", desc := "(III)V" } : Jvm.MethodName) ({ cls := "StationRowsModel", name := "duty", desc := "(III)V" } : Jvm.MethodName)) ∈ sr_ws := sr_mem 890 (by decide +kernel) rfl
set_option maxRecDepth 100000 in
theorem k_891 : (Jvm.Cond.code ({ cls := "StationRowsModel", name := "duty", desc := "(III)V" } : Jvm.MethodName) prog_10_method_18_code (7 : Nat) (Option.none : Option Jvm.ClassFile.FieldType)) ∈ sr_ws := sr_mem 891 rfl rfl
theorem k_892 : (Jvm.Cond.methodLink "StationRowsModel" (146 : Nat) ({ cls := "StationRowsModel", name := "isPerson", desc := "(I)Z" } : Jvm.MethodName)) ∈ sr_ws := sr_mem 892 (by decide +kernel) rfl
theorem k_894 : (Jvm.Cond.instanceMethod ({ cls := "StationRowsModel", name := "isPerson", desc := "(I)Z" } : Jvm.MethodName)) ∈ sr_ws := sr_mem 894 (by decide +kernel) rfl
set_option maxRecDepth 100000 in
theorem k_895 : (Jvm.Cond.code ({ cls := "StationRowsModel", name := "isPerson", desc := "(I)Z" } : Jvm.MethodName) prog_10_method_17_code (2 : Nat) (Option.some Jvm.ClassFile.FieldType.boolean)) ∈ sr_ws := sr_mem 895 rfl rfl
theorem k_896 : (Jvm.Cond.methodLink "StationRowsLaw" (112 : Nat) ({ cls := "StationRowsModel", name := "move", desc := "(IIII)V" } : Jvm.MethodName)) ∈ sr_ws := sr_mem 896 (by decide +kernel) rfl
theorem k_897 : (Jvm.Cond.instanceMethod ({ cls := "StationRowsModel", name := "move", desc := "(IIII)V" } : Jvm.MethodName)) ∈ sr_ws := sr_mem 897 (by decide +kernel) rfl
theorem k_898 : (Jvm.Cond.selects "StationRowsModel" ({ cls := "StationRowsModel", name := "move", desc := "(IIII)V" } : Jvm.MethodName) ({ cls := "StationRowsModel", name := "move", desc := "(IIII)V" } : Jvm.MethodName)) ∈ sr_ws := sr_mem 898 (by decide +kernel) rfl
set_option maxRecDepth 100000 in
theorem k_899 : (Jvm.Cond.code ({ cls := "StationRowsModel", name := "move", desc := "(IIII)V" } : Jvm.MethodName) prog_10_method_19_code (8 : Nat) (Option.none : Option Jvm.ClassFile.FieldType)) ∈ sr_ws := sr_mem 899 rfl rfl
theorem k_900 : (Jvm.Cond.methodLink "StationRowsLaw" (115 : Nat) ({ cls := "StationRowsModel", name := "limit", desc := "(I)I" } : Jvm.MethodName)) ∈ sr_ws := sr_mem 900 (by decide +kernel) rfl
theorem k_901 : (Jvm.Cond.instanceMethod ({ cls := "StationRowsModel", name := "limit", desc := "(I)I" } : Jvm.MethodName)) ∈ sr_ws := sr_mem 901 (by decide +kernel) rfl
theorem k_902 : (Jvm.Cond.selects "StationRowsModel" ({ cls := "StationRowsModel", name := "limit", desc := "(I)I" } : Jvm.MethodName) ({ cls := "StationRowsModel", name := "limit", desc := "(I)I" } : Jvm.MethodName)) ∈ sr_ws := sr_mem 902 (by decide +kernel) rfl
set_option maxRecDepth 100000 in
theorem k_903 : (Jvm.Cond.code ({ cls := "StationRowsModel", name := "limit", desc := "(I)I" } : Jvm.MethodName) prog_10_method_20_code (4 : Nat) (Option.some Jvm.ClassFile.FieldType.int)) ∈ sr_ws := sr_mem 903 rfl rfl
theorem k_904 : (Jvm.Cond.methodLink "StationRowsLaw" (118 : Nat) ({ cls := "StationRowsModel", name := "on", desc := "(II)I" } : Jvm.MethodName)) ∈ sr_ws := sr_mem 904 (by decide +kernel) rfl
theorem k_905 : (Jvm.Cond.instanceMethod ({ cls := "StationRowsModel", name := "on", desc := "(II)I" } : Jvm.MethodName)) ∈ sr_ws := sr_mem 905 (by decide +kernel) rfl
theorem k_906 : (Jvm.Cond.selects "StationRowsModel" ({ cls := "StationRowsModel", name := "on", desc := "(II)I" } : Jvm.MethodName) ({ cls := "StationRowsModel", name := "on", desc := "(II)I" } : Jvm.MethodName)) ∈ sr_ws := sr_mem 906 (by decide +kernel) rfl
set_option maxRecDepth 100000 in
theorem k_907 : (Jvm.Cond.code ({ cls := "StationRowsModel", name := "on", desc := "(II)I" } : Jvm.MethodName) prog_10_method_25_code (3 : Nat) (Option.some Jvm.ClassFile.FieldType.int)) ∈ sr_ws := sr_mem 907 rfl rfl
theorem k_908 : (Jvm.Cond.methodLink "StationRowsModel" (159 : Nat) ({ cls := "StationRowsModel", name := "count", desc := "(II)I" } : Jvm.MethodName)) ∈ sr_ws := sr_mem 908 (by decide +kernel) rfl
theorem k_910 : (Jvm.Cond.instanceMethod ({ cls := "StationRowsModel", name := "count", desc := "(II)I" } : Jvm.MethodName)) ∈ sr_ws := sr_mem 910 (by decide +kernel) rfl
set_option maxRecDepth 100000 in
theorem k_911 : (Jvm.Cond.code ({ cls := "StationRowsModel", name := "count", desc := "(II)I" } : Jvm.MethodName) prog_10_method_23_code (5 : Nat) (Option.some Jvm.ClassFile.FieldType.int)) ∈ sr_ws := sr_mem 911 rfl rfl
theorem k_912 : (Jvm.Cond.methodLink "StationRowsModel" (156 : Nat) ({ cls := "StationRowsModel", name := "isOn", desc := "(III)Z" } : Jvm.MethodName)) ∈ sr_ws := sr_mem 912 (by decide +kernel) rfl
theorem k_914 : (Jvm.Cond.instanceMethod ({ cls := "StationRowsModel", name := "isOn", desc := "(III)Z" } : Jvm.MethodName)) ∈ sr_ws := sr_mem 914 (by decide +kernel) rfl
set_option maxRecDepth 100000 in
theorem k_915 : (Jvm.Cond.code ({ cls := "StationRowsModel", name := "isOn", desc := "(III)Z" } : Jvm.MethodName) prog_10_method_22_code (5 : Nat) (Option.some Jvm.ClassFile.FieldType.boolean)) ∈ sr_ws := sr_mem 915 rfl rfl
theorem k_916 : (Jvm.Cond.methodLink "StationRowsModel" (149 : Nat) ({ cls := "StationRowsModel", name := "placeOf", desc := "(II)I" } : Jvm.MethodName)) ∈ sr_ws := sr_mem 916 (by decide +kernel) rfl
theorem k_918 : (Jvm.Cond.instanceMethod ({ cls := "StationRowsModel", name := "placeOf", desc := "(II)I" } : Jvm.MethodName)) ∈ sr_ws := sr_mem 918 (by decide +kernel) rfl
set_option maxRecDepth 100000 in
theorem k_919 : (Jvm.Cond.code ({ cls := "StationRowsModel", name := "placeOf", desc := "(II)I" } : Jvm.MethodName) prog_10_method_21_code (4 : Nat) (Option.some Jvm.ClassFile.FieldType.int)) ∈ sr_ws := sr_mem 919 rfl rfl
theorem k_920 : (Jvm.Cond.methodLink "StationRowsModel" (153 : Nat) ({ cls := "StationRowsModel", name := "isThere", desc := "(II)Z" } : Jvm.MethodName)) ∈ sr_ws := sr_mem 920 (by decide +kernel) rfl
theorem k_922 : (Jvm.Cond.instanceMethod ({ cls := "StationRowsModel", name := "isThere", desc := "(II)Z" } : Jvm.MethodName)) ∈ sr_ws := sr_mem 922 (by decide +kernel) rfl
set_option maxRecDepth 100000 in
theorem k_923 : (Jvm.Cond.code ({ cls := "StationRowsModel", name := "isThere", desc := "(II)Z" } : Jvm.MethodName) prog_10_method_9_code (3 : Nat) (Option.some Jvm.ClassFile.FieldType.boolean)) ∈ sr_ws := sr_mem 923 rfl rfl
theorem k_924 : (Jvm.Cond.methodLink "StationRowsLaw" (121 : Nat) ({ cls := "StationRowsModel", name := "at", desc := "(III)I" } : Jvm.MethodName)) ∈ sr_ws := sr_mem 924 (by decide +kernel) rfl
theorem k_925 : (Jvm.Cond.instanceMethod ({ cls := "StationRowsModel", name := "at", desc := "(III)I" } : Jvm.MethodName)) ∈ sr_ws := sr_mem 925 (by decide +kernel) rfl
theorem k_926 : (Jvm.Cond.selects "StationRowsModel" ({ cls := "StationRowsModel", name := "at", desc := "(III)I" } : Jvm.MethodName) ({ cls := "StationRowsModel", name := "at", desc := "(III)I" } : Jvm.MethodName)) ∈ sr_ws := sr_mem 926 (by decide +kernel) rfl
set_option maxRecDepth 100000 in
theorem k_927 : (Jvm.Cond.code ({ cls := "StationRowsModel", name := "at", desc := "(III)I" } : Jvm.MethodName) prog_10_method_26_code (6 : Nat) (Option.some Jvm.ClassFile.FieldType.int)) ∈ sr_ws := sr_mem 927 rfl rfl
theorem k_928 : (Jvm.Cond.methodLink "StationRowsModel" (162 : Nat) ({ cls := "StationRowsModel", name := "following", desc := "(III)I" } : Jvm.MethodName)) ∈ sr_ws := sr_mem 928 (by decide +kernel) rfl
theorem k_930 : (Jvm.Cond.instanceMethod ({ cls := "StationRowsModel", name := "following", desc := "(III)I" } : Jvm.MethodName)) ∈ sr_ws := sr_mem 930 (by decide +kernel) rfl
set_option maxRecDepth 100000 in
theorem k_931 : (Jvm.Cond.code ({ cls := "StationRowsModel", name := "following", desc := "(III)I" } : Jvm.MethodName) prog_10_method_24_code (7 : Nat) (Option.some Jvm.ClassFile.FieldType.int)) ∈ sr_ws := sr_mem 931 rfl rfl
theorem k_932 : (Jvm.Cond.methodLink "StationRowsLaw" (124 : Nat) ({ cls := "StationRowsModel", name := "vehicleAt", desc := "(III)I" } : Jvm.MethodName)) ∈ sr_ws := sr_mem 932 (by decide +kernel) rfl
theorem k_933 : (Jvm.Cond.instanceMethod ({ cls := "StationRowsModel", name := "vehicleAt", desc := "(III)I" } : Jvm.MethodName)) ∈ sr_ws := sr_mem 933 (by decide +kernel) rfl
theorem k_934 : (Jvm.Cond.selects "StationRowsModel" ({ cls := "StationRowsModel", name := "vehicleAt", desc := "(III)I" } : Jvm.MethodName) ({ cls := "StationRowsModel", name := "vehicleAt", desc := "(III)I" } : Jvm.MethodName)) ∈ sr_ws := sr_mem 934 (by decide +kernel) rfl
set_option maxRecDepth 100000 in
theorem k_935 : (Jvm.Cond.code ({ cls := "StationRowsModel", name := "vehicleAt", desc := "(III)I" } : Jvm.MethodName) prog_10_method_32_code (4 : Nat) (Option.some Jvm.ClassFile.FieldType.int)) ∈ sr_ws := sr_mem 935 rfl rfl
theorem k_936 : (Jvm.Cond.methodLink "StationRowsModel" (179 : Nat) ({ cls := "StationRowsModel", name := "look", desc := "(I)V" } : Jvm.MethodName)) ∈ sr_ws := sr_mem 936 (by decide +kernel) rfl
theorem k_938 : (Jvm.Cond.instanceMethod ({ cls := "StationRowsModel", name := "look", desc := "(I)V" } : Jvm.MethodName)) ∈ sr_ws := sr_mem 938 (by decide +kernel) rfl
set_option maxRecDepth 100000 in
theorem k_939 : (Jvm.Cond.code ({ cls := "StationRowsModel", name := "look", desc := "(I)V" } : Jvm.MethodName) prog_10_method_31_code (3 : Nat) (Option.none : Option Jvm.ClassFile.FieldType)) ∈ sr_ws := sr_mem 939 rfl rfl
theorem k_940 : (Jvm.Cond.methodLink "StationRowsModel" (171 : Nat) ({ cls := "StationRowsModel", name := "spares", desc := "(I)V" } : Jvm.MethodName)) ∈ sr_ws := sr_mem 940 (by decide +kernel) rfl
theorem k_942 : (Jvm.Cond.instanceMethod ({ cls := "StationRowsModel", name := "spares", desc := "(I)V" } : Jvm.MethodName)) ∈ sr_ws := sr_mem 942 (by decide +kernel) rfl
set_option maxRecDepth 100000 in
theorem k_943 : (Jvm.Cond.code ({ cls := "StationRowsModel", name := "spares", desc := "(I)V" } : Jvm.MethodName) prog_10_method_28_code (4 : Nat) (Option.none : Option Jvm.ClassFile.FieldType)) ∈ sr_ws := sr_mem 943 rfl rfl
theorem k_944 : (Jvm.Cond.methodLink "StationRowsModel" (165 : Nat) ({ cls := "StationRowsModel", name := "isOut", desc := "(II)Z" } : Jvm.MethodName)) ∈ sr_ws := sr_mem 944 (by decide +kernel) rfl
theorem k_946 : (Jvm.Cond.instanceMethod ({ cls := "StationRowsModel", name := "isOut", desc := "(II)Z" } : Jvm.MethodName)) ∈ sr_ws := sr_mem 946 (by decide +kernel) rfl
set_option maxRecDepth 100000 in
theorem k_947 : (Jvm.Cond.code ({ cls := "StationRowsModel", name := "isOut", desc := "(II)Z" } : Jvm.MethodName) prog_10_method_27_code (4 : Nat) (Option.some Jvm.ClassFile.FieldType.boolean)) ∈ sr_ws := sr_mem 947 rfl rfl
theorem k_948 : (Jvm.Cond.methodLink "StationRowsModel" (175 : Nat) ({ cls := "StationRowsModel", name := "man", desc := "(II)V" } : Jvm.MethodName)) ∈ sr_ws := sr_mem 948 (by decide +kernel) rfl
theorem k_950 : (Jvm.Cond.instanceMethod ({ cls := "StationRowsModel", name := "man", desc := "(II)V" } : Jvm.MethodName)) ∈ sr_ws := sr_mem 950 (by decide +kernel) rfl
set_option maxRecDepth 100000 in
theorem k_951 : (Jvm.Cond.code ({ cls := "StationRowsModel", name := "man", desc := "(II)V" } : Jvm.MethodName) prog_10_method_30_code (7 : Nat) (Option.none : Option Jvm.ClassFile.FieldType)) ∈ sr_ws := sr_mem 951 rfl rfl
theorem k_952 : (Jvm.Cond.methodLink "StationRowsModel" (168 : Nat) ({ cls := "StationRowsModel", name := "free", desc := "(II)I" } : Jvm.MethodName)) ∈ sr_ws := sr_mem 952 (by decide +kernel) rfl
theorem k_954 : (Jvm.Cond.instanceMethod ({ cls := "StationRowsModel", name := "free", desc := "(II)I" } : Jvm.MethodName)) ∈ sr_ws := sr_mem 954 (by decide +kernel) rfl
set_option maxRecDepth 100000 in
theorem k_955 : (Jvm.Cond.code ({ cls := "StationRowsModel", name := "free", desc := "(II)I" } : Jvm.MethodName) prog_10_method_29_code (4 : Nat) (Option.some Jvm.ClassFile.FieldType.int)) ∈ sr_ws := sr_mem 955 rfl rfl
theorem k_956 : (Jvm.Cond.methodLink "StationRowsLaw" (127 : Nat) ({ cls := "StationRowsModel", name := "need", desc := "(III)V" } : Jvm.MethodName)) ∈ sr_ws := sr_mem 956 (by decide +kernel) rfl
theorem k_957 : (Jvm.Cond.instanceMethod ({ cls := "StationRowsModel", name := "need", desc := "(III)V" } : Jvm.MethodName)) ∈ sr_ws := sr_mem 957 (by decide +kernel) rfl
theorem k_958 : (Jvm.Cond.selects "StationRowsModel" ({ cls := "StationRowsModel", name := "need", desc := "(III)V" } : Jvm.MethodName) ({ cls := "StationRowsModel", name := "need", desc := "(III)V" } : Jvm.MethodName)) ∈ sr_ws := sr_mem 958 (by decide +kernel) rfl
set_option maxRecDepth 100000 in
theorem k_959 : (Jvm.Cond.code ({ cls := "StationRowsModel", name := "need", desc := "(III)V" } : Jvm.MethodName) prog_10_method_33_code (4 : Nat) (Option.none : Option Jvm.ClassFile.FieldType)) ∈ sr_ws := sr_mem 959 rfl rfl
theorem k_960 : (Jvm.Cond.methodLink "StationRowsLaw" (130 : Nat) ({ cls := "StationRowsModel", name := "lacks", desc := "(II)I" } : Jvm.MethodName)) ∈ sr_ws := sr_mem 960 (by decide +kernel) rfl
theorem k_961 : (Jvm.Cond.instanceMethod ({ cls := "StationRowsModel", name := "lacks", desc := "(II)I" } : Jvm.MethodName)) ∈ sr_ws := sr_mem 961 (by decide +kernel) rfl
theorem k_962 : (Jvm.Cond.selects "StationRowsModel" ({ cls := "StationRowsModel", name := "lacks", desc := "(II)I" } : Jvm.MethodName) ({ cls := "StationRowsModel", name := "lacks", desc := "(II)I" } : Jvm.MethodName)) ∈ sr_ws := sr_mem 962 (by decide +kernel) rfl
set_option maxRecDepth 100000 in
theorem k_963 : (Jvm.Cond.code ({ cls := "StationRowsModel", name := "lacks", desc := "(II)I" } : Jvm.MethodName) prog_10_method_34_code (4 : Nat) (Option.some Jvm.ClassFile.FieldType.int)) ∈ sr_ws := sr_mem 963 rfl rfl
theorem k_964 : (Jvm.Cond.methodLink "StationRowsLaw" (133 : Nat) ({ cls := "StationRowsModel", name := "period", desc := "(III)V" } : Jvm.MethodName)) ∈ sr_ws := sr_mem 964 (by decide +kernel) rfl
theorem k_965 : (Jvm.Cond.instanceMethod ({ cls := "StationRowsModel", name := "period", desc := "(III)V" } : Jvm.MethodName)) ∈ sr_ws := sr_mem 965 (by decide +kernel) rfl
theorem k_966 : (Jvm.Cond.selects "StationRowsModel" ({ cls := "StationRowsModel", name := "period", desc := "(III)V" } : Jvm.MethodName) ({ cls := "StationRowsModel", name := "period", desc := "(III)V" } : Jvm.MethodName)) ∈ sr_ws := sr_mem 966 (by decide +kernel) rfl
set_option maxRecDepth 100000 in
theorem k_967 : (Jvm.Cond.code ({ cls := "StationRowsModel", name := "period", desc := "(III)V" } : Jvm.MethodName) prog_10_method_35_code (4 : Nat) (Option.none : Option Jvm.ClassFile.FieldType)) ∈ sr_ws := sr_mem 967 rfl rfl
theorem k_968 : (Jvm.Cond.methodLink "StationRowsLaw" (136 : Nat) ({ cls := "StationRowsModel", name := "check", desc := "(III)V" } : Jvm.MethodName)) ∈ sr_ws := sr_mem 968 (by decide +kernel) rfl
theorem k_969 : (Jvm.Cond.instanceMethod ({ cls := "StationRowsModel", name := "check", desc := "(III)V" } : Jvm.MethodName)) ∈ sr_ws := sr_mem 969 (by decide +kernel) rfl
theorem k_970 : (Jvm.Cond.selects "StationRowsModel" ({ cls := "StationRowsModel", name := "check", desc := "(III)V" } : Jvm.MethodName) ({ cls := "StationRowsModel", name := "check", desc := "(III)V" } : Jvm.MethodName)) ∈ sr_ws := sr_mem 970 (by decide +kernel) rfl
set_option maxRecDepth 100000 in
theorem k_971 : (Jvm.Cond.code ({ cls := "StationRowsModel", name := "check", desc := "(III)V" } : Jvm.MethodName) prog_10_method_36_code (4 : Nat) (Option.none : Option Jvm.ClassFile.FieldType)) ∈ sr_ws := sr_mem 971 rfl rfl
theorem k_972 : (Jvm.Cond.methodLink "StationRowsLaw" (139 : Nat) ({ cls := "StationRowsModel", name := "missing", desc := "(II)I" } : Jvm.MethodName)) ∈ sr_ws := sr_mem 972 (by decide +kernel) rfl
theorem k_973 : (Jvm.Cond.instanceMethod ({ cls := "StationRowsModel", name := "missing", desc := "(II)I" } : Jvm.MethodName)) ∈ sr_ws := sr_mem 973 (by decide +kernel) rfl
theorem k_974 : (Jvm.Cond.selects "StationRowsModel" ({ cls := "StationRowsModel", name := "missing", desc := "(II)I" } : Jvm.MethodName) ({ cls := "StationRowsModel", name := "missing", desc := "(II)I" } : Jvm.MethodName)) ∈ sr_ws := sr_mem 974 (by decide +kernel) rfl
set_option maxRecDepth 100000 in
theorem k_975 : (Jvm.Cond.code ({ cls := "StationRowsModel", name := "missing", desc := "(II)I" } : Jvm.MethodName) prog_10_method_38_code (5 : Nat) (Option.some Jvm.ClassFile.FieldType.int)) ∈ sr_ws := sr_mem 975 rfl rfl
theorem k_976 : (Jvm.Cond.methodLink "StationRowsModel" (185 : Nat) ({ cls := "StationRowsModel", name := "isMissing", desc := "(II)Z" } : Jvm.MethodName)) ∈ sr_ws := sr_mem 976 (by decide +kernel) rfl
theorem k_978 : (Jvm.Cond.instanceMethod ({ cls := "StationRowsModel", name := "isMissing", desc := "(II)Z" } : Jvm.MethodName)) ∈ sr_ws := sr_mem 978 (by decide +kernel) rfl
set_option maxRecDepth 100000 in
theorem k_979 : (Jvm.Cond.code ({ cls := "StationRowsModel", name := "isMissing", desc := "(II)Z" } : Jvm.MethodName) prog_10_method_37_code (5 : Nat) (Option.some Jvm.ClassFile.FieldType.boolean)) ∈ sr_ws := sr_mem 979 rfl rfl
theorem k_980 : (Jvm.Cond.methodLink "StationRowsLaw" (143 : Nat) ({ cls := "StationRowsModel", name := "key", desc := "(IIZ)V" } : Jvm.MethodName)) ∈ sr_ws := sr_mem 980 (by decide +kernel) rfl
theorem k_981 : (Jvm.Cond.instanceMethod ({ cls := "StationRowsModel", name := "key", desc := "(IIZ)V" } : Jvm.MethodName)) ∈ sr_ws := sr_mem 981 (by decide +kernel) rfl
theorem k_982 : (Jvm.Cond.selects "StationRowsModel" ({ cls := "StationRowsModel", name := "key", desc := "(IIZ)V" } : Jvm.MethodName) ({ cls := "StationRowsModel", name := "key", desc := "(IIZ)V" } : Jvm.MethodName)) ∈ sr_ws := sr_mem 982 (by decide +kernel) rfl
set_option maxRecDepth 100000 in
theorem k_983 : (Jvm.Cond.code ({ cls := "StationRowsModel", name := "key", desc := "(IIZ)V" } : Jvm.MethodName) prog_10_method_39_code (5 : Nat) (Option.none : Option Jvm.ClassFile.FieldType)) ∈ sr_ws := sr_mem 983 rfl rfl
theorem k_984 : (Jvm.Cond.methodLink "StationRowsLaw" (146 : Nat) ({ cls := "StationRowsModel", name := "holder", desc := "(II)I" } : Jvm.MethodName)) ∈ sr_ws := sr_mem 984 (by decide +kernel) rfl
theorem k_985 : (Jvm.Cond.instanceMethod ({ cls := "StationRowsModel", name := "holder", desc := "(II)I" } : Jvm.MethodName)) ∈ sr_ws := sr_mem 985 (by decide +kernel) rfl
theorem k_986 : (Jvm.Cond.selects "StationRowsModel" ({ cls := "StationRowsModel", name := "holder", desc := "(II)I" } : Jvm.MethodName) ({ cls := "StationRowsModel", name := "holder", desc := "(II)I" } : Jvm.MethodName)) ∈ sr_ws := sr_mem 986 (by decide +kernel) rfl
set_option maxRecDepth 100000 in
theorem k_987 : (Jvm.Cond.code ({ cls := "StationRowsModel", name := "holder", desc := "(II)I" } : Jvm.MethodName) prog_10_method_40_code (5 : Nat) (Option.some Jvm.ClassFile.FieldType.int)) ∈ sr_ws := sr_mem 987 rfl rfl
theorem k_988 : (Jvm.Cond.methodLink "StationRowsLaw" (150 : Nat) ({ cls := "StationRowsModel", name := "twice", desc := "()I" } : Jvm.MethodName)) ∈ sr_ws := sr_mem 988 (by decide +kernel) rfl
theorem k_989 : (Jvm.Cond.instanceMethod ({ cls := "StationRowsModel", name := "twice", desc := "()I" } : Jvm.MethodName)) ∈ sr_ws := sr_mem 989 (by decide +kernel) rfl
theorem k_990 : (Jvm.Cond.selects "StationRowsModel" ({ cls := "StationRowsModel", name := "twice", desc := "()I" } : Jvm.MethodName) ({ cls := "StationRowsModel", name := "twice", desc := "()I" } : Jvm.MethodName)) ∈ sr_ws := sr_mem 990 (by decide +kernel) rfl
set_option maxRecDepth 100000 in
theorem k_991 : (Jvm.Cond.code ({ cls := "StationRowsModel", name := "twice", desc := "()I" } : Jvm.MethodName) prog_10_method_41_code (5 : Nat) (Option.some Jvm.ClassFile.FieldType.int)) ∈ sr_ws := sr_mem 991 rfl rfl
theorem k_992 : (Jvm.Cond.arrayClass Jvm.ClassFile.FieldType.long) ∈ sr_ws := sr_mem 992 (by decide +kernel) rfl
theorem zi_T : ∀ w ∈ u_ws "StationRows$Times" zf_T 4, w ∈ sr_ws := by
  intro w hw
  obtain ⟨k, hk, rfl⟩ := List.mem_map.mp hw
  have hk := List.mem_range.mp hk
  match k, hk with
  | 0, _ => exact k_89
  | 1, _ => exact k_91
  | 2, _ => exact k_93
  | 3, _ => exact k_95
  | k + 4, h => exact absurd h (by omega)
theorem zi_St : ∀ w ∈ u_ws "StationRows$Stations" zf_St 4, w ∈ sr_ws := by
  intro w hw
  obtain ⟨k, hk, rfl⟩ := List.mem_map.mp hw
  have hk := List.mem_range.mp hk
  match k, hk with
  | 0, _ => exact k_63
  | 1, _ => exact k_65
  | 2, _ => exact k_67
  | 3, _ => exact k_69
  | k + 4, h => exact absurd h (by omega)
theorem zi_V : ∀ w ∈ u_ws "StationRows$Vehicles" zf_V 7, w ∈ sr_ws := by
  intro w hw
  obtain ⟨k, hk, rfl⟩ := List.mem_map.mp hw
  have hk := List.mem_range.mp hk
  match k, hk with
  | 0, _ => exact k_105
  | 1, _ => exact k_107
  | 2, _ => exact k_109
  | 3, _ => exact k_111
  | 4, _ => exact k_113
  | 5, _ => exact k_115
  | 6, _ => exact k_117
  | k + 7, h => exact absurd h (by omega)
theorem zi_P : ∀ w ∈ u_ws "StationRows$Persons" zf_P 9, w ∈ sr_ws := by
  intro w hw
  obtain ⟨k, hk, rfl⟩ := List.mem_map.mp hw
  have hk := List.mem_range.mp hk
  match k, hk with
  | 0, _ => exact k_137
  | 1, _ => exact k_139
  | 2, _ => exact k_141
  | 3, _ => exact k_143
  | 4, _ => exact k_145
  | 5, _ => exact k_147
  | 6, _ => exact k_149
  | 7, _ => exact k_151
  | 8, _ => exact k_153
  | k + 9, h => exact absurd h (by omega)
theorem zi_Ne : ∀ w ∈ u_ws "StationRows$Needs" zf_Ne 1, w ∈ sr_ws := by
  intro w hw
  obtain ⟨k, hk, rfl⟩ := List.mem_map.mp hw
  have hk := List.mem_range.mp hk
  match k, hk with
  | 0, _ => exact k_163
  | k + 1, h => exact absurd h (by omega)
theorem zi_Ch : ∀ w ∈ u_ws "StationRows$Checks" zf_Ch 5, w ∈ sr_ws := by
  intro w hw
  obtain ⟨k, hk, rfl⟩ := List.mem_map.mp hw
  have hk := List.mem_range.mp hk
  match k, hk with
  | 0, _ => exact k_177
  | 1, _ => exact k_179
  | 2, _ => exact k_181
  | 3, _ => exact k_183
  | 4, _ => exact k_185
  | k + 5, h => exact absurd h (by omega)
theorem zi_Ky : ∀ w ∈ u_ws "StationRows$Keys" zf_Ky 1, w ∈ sr_ws := by
  intro w hw
  obtain ⟨k, hk, rfl⟩ := List.mem_map.mp hw
  have hk := List.mem_range.mp hk
  match k, hk with
  | 0, _ => exact k_195
  | k + 1, h => exact absurd h (by omega)
theorem zi_S : ∀ w ∈ u_ws "StationRows" zf_S 6, w ∈ sr_ws := by
  intro w hw
  obtain ⟨k, hk, rfl⟩ := List.mem_map.mp hw
  have hk := List.mem_range.mp hk
  match k, hk with
  | 0, _ => exact k_204
  | 1, _ => exact k_206
  | 2, _ => exact k_208
  | 3, _ => exact k_210
  | 4, _ => exact k_212
  | 5, _ => exact k_214
  | k + 6, h => exact absurd h (by omega)
theorem zi_M : ∀ w ∈ u_ws "StationRowsModel" zf_M 35, w ∈ sr_ws := by
  intro w hw
  obtain ⟨k, hk, rfl⟩ := List.mem_map.mp hw
  have hk := List.mem_range.mp hk
  match k, hk with
  | 0, _ => exact k_762
  | 1, _ => exact k_764
  | 2, _ => exact k_766
  | 3, _ => exact k_768
  | 4, _ => exact k_770
  | 5, _ => exact k_772
  | 6, _ => exact k_774
  | 7, _ => exact k_776
  | 8, _ => exact k_778
  | 9, _ => exact k_780
  | 10, _ => exact k_782
  | 11, _ => exact k_784
  | 12, _ => exact k_786
  | 13, _ => exact k_788
  | 14, _ => exact k_790
  | 15, _ => exact k_792
  | 16, _ => exact k_794
  | 17, _ => exact k_796
  | 18, _ => exact k_798
  | 19, _ => exact k_800
  | 20, _ => exact k_802
  | 21, _ => exact k_804
  | 22, _ => exact k_806
  | 23, _ => exact k_808
  | 24, _ => exact k_810
  | 25, _ => exact k_812
  | 26, _ => exact k_814
  | 27, _ => exact k_816
  | 28, _ => exact k_818
  | 29, _ => exact k_820
  | 30, _ => exact k_822
  | 31, _ => exact k_824
  | 32, _ => exact k_826
  | 33, _ => exact k_828
  | 34, _ => exact k_830
  | k + 35, h => exact absurd h (by omega)