theorem b_0 : (Jvm.Cond.initialized "MovingBlockLaw") ∈ BIG := big_1 0 rfl rfl
theorem b_1 : (Jvm.Cond.initialized "MovingBlock") ∈ BIG := big_1 1 rfl rfl
theorem b_2 : (Jvm.Cond.initialized "MovingBlock$Track") ∈ BIG := big_1 2 rfl rfl
theorem b_3 : (Jvm.Cond.initialized "MovingBlock$Wayside") ∈ BIG := big_1 3 rfl rfl
theorem b_4 : (Jvm.Cond.initialized "MovingBlock$Train") ∈ BIG := big_1 4 rfl rfl
theorem b_5 : (Jvm.Cond.initialized "MovingBlock$Channel") ∈ BIG := big_1 5 rfl rfl
theorem b_6 : (Jvm.Cond.initialized "MovingBlockModel") ∈ BIG := big_1 6 rfl rfl
theorem b_7 : (Jvm.Cond.initialized "java/lang/Math") ∈ BIG := big_1 7 rfl rfl
theorem b_8 : (Jvm.Cond.classLink "MovingBlockLaw" (7 : Nat) "MovingBlock") ∈ BIG := big_1 8 rfl rfl
theorem b_9 : (Jvm.Cond.instantiable "MovingBlock" (5 : Nat)) ∈ BIG := big_1 9 rfl rfl
theorem b_10 : (Jvm.Cond.methodLink "MovingBlockLaw" (9 : Nat) ({ cls := "MovingBlock", name := "<init>", desc := "()V" } : Jvm.MethodName)) ∈ BIG := big_1 10 rfl rfl
theorem b_11 : (Jvm.Cond.instanceMethod ({ cls := "MovingBlock", name := "<init>", desc := "()V" } : Jvm.MethodName)) ∈ BIG := big_1 11 rfl rfl
theorem b_12 : (Jvm.Cond.code ({ cls := "MovingBlock", name := "<init>", desc := "()V" } : Jvm.MethodName) prog_1_method_1_code (2 : Nat) (Option.none : Option Jvm.ClassFile.FieldType)) ∈ BIG := big_1 12 rfl rfl
theorem b_13 : (Jvm.Cond.methodLink "MovingBlock" (3 : Nat) ({ cls := "java/lang/Object", name := "<init>", desc := "()V" } : Jvm.MethodName)) ∈ BIG := big_1 13 rfl rfl
theorem b_14 : (Jvm.Cond.instanceMethod ({ cls := "java/lang/Object", name := "<init>", desc := "()V" } : Jvm.MethodName)) ∈ BIG := big_1 14 rfl rfl
theorem b_15 : (Jvm.Cond.code ({ cls := "java/lang/Object", name := "<init>", desc := "()V" } : Jvm.MethodName) object_method_1_code (1 : Nat) (Option.none : Option Jvm.ClassFile.FieldType)) ∈ BIG := big_1 15 rfl rfl
theorem b_16 : (Jvm.Cond.classLink "MovingBlock" (9 : Nat) "MovingBlock$Track") ∈ BIG := big_1 16 rfl rfl
theorem b_17 : (Jvm.Cond.instantiable "MovingBlock$Track" (2 : Nat)) ∈ BIG := big_1 17 rfl rfl
theorem b_18 : (Jvm.Cond.methodLink "MovingBlock" (11 : Nat) ({ cls := "MovingBlock$Track", name := "<init>", desc := "()V" } : Jvm.MethodName)) ∈ BIG := big_1 18 rfl rfl
theorem b_19 : (Jvm.Cond.instanceMethod ({ cls := "MovingBlock$Track", name := "<init>", desc := "()V" } : Jvm.MethodName)) ∈ BIG := big_1 19 rfl rfl
theorem b_20 : (Jvm.Cond.code ({ cls := "MovingBlock$Track", name := "<init>", desc := "()V" } : Jvm.MethodName) prog_3_method_1_code (2 : Nat) (Option.none : Option Jvm.ClassFile.FieldType)) ∈ BIG := big_1 20 rfl rfl
theorem b_21 : (Jvm.Cond.methodLink "MovingBlock$Track" (5 : Nat) ({ cls := "java/lang/Object", name := "<init>", desc := "()V" } : Jvm.MethodName)) ∈ BIG := big_1 21 rfl rfl
theorem b_22 : (Jvm.Cond.fieldLink "MovingBlock$Track" (11 : Nat) "MovingBlock$Track" "limits" "[I") ∈ BIG := big_1 22 rfl rfl
theorem b_23 : (Jvm.Cond.fieldLink "MovingBlock" (35 : Nat) "MovingBlock$Track" "limits" "[I") ∈ BIG := big_1 23 rfl rfl
theorem b_24 : (Jvm.Cond.fieldLink "MovingBlock$Track" (15 : Nat) "MovingBlock$Track" "grades" "[I") ∈ BIG := big_1 24 rfl rfl
theorem b_25 : (Jvm.Cond.fieldLink "MovingBlock" (39 : Nat) "MovingBlock$Track" "grades" "[I") ∈ BIG := big_1 25 rfl rfl
theorem b_26 : (Jvm.Cond.fieldLink "MovingBlock$Train" (105 : Nat) "MovingBlock$Track" "grades" "[I") ∈ BIG := big_1 26 rfl rfl
theorem b_27 : (Jvm.Cond.laysFinal "MovingBlock$Track" "MovingBlock$Track" "limits" "[I") ∈ BIG := big_1 27 rfl rfl
theorem b_28 : (Jvm.Cond.soleField "MovingBlock$Track" "limits") ∈ BIG := big_1 28 rfl rfl
theorem b_29 : (Jvm.Cond.laysFinal "MovingBlock$Track" "MovingBlock$Track" "grades" "[I") ∈ BIG := big_1 29 rfl rfl
theorem b_30 : (Jvm.Cond.soleField "MovingBlock$Track" "grades") ∈ BIG := big_1 30 rfl rfl
theorem b_31 : (Jvm.Cond.superclass "MovingBlock$Track" "java/lang/Object") ∈ BIG := big_1 31 rfl rfl
theorem b_32 : (Jvm.Cond.arrayClass Jvm.ClassFile.FieldType.int) ∈ BIG := big_1 32 rfl rfl
theorem b_33 : (Jvm.Cond.classLink "MovingBlock" (16 : Nat) "MovingBlock$Wayside") ∈ BIG := big_1 33 rfl rfl
theorem b_34 : (Jvm.Cond.instantiable "MovingBlock$Wayside" (3 : Nat)) ∈ BIG := big_1 34 rfl rfl
theorem b_35 : (Jvm.Cond.methodLink "MovingBlock" (18 : Nat) ({ cls := "MovingBlock$Wayside", name := "<init>", desc := "()V" } : Jvm.MethodName)) ∈ BIG := big_1 35 rfl rfl
theorem b_36 : (Jvm.Cond.instanceMethod ({ cls := "MovingBlock$Wayside", name := "<init>", desc := "()V" } : Jvm.MethodName)) ∈ BIG := big_1 36 rfl rfl
theorem b_37 : (Jvm.Cond.code ({ cls := "MovingBlock$Wayside", name := "<init>", desc := "()V" } : Jvm.MethodName) prog_5_method_1_code (2 : Nat) (Option.none : Option Jvm.ClassFile.FieldType)) ∈ BIG := big_1 37 rfl rfl
theorem b_38 : (Jvm.Cond.methodLink "MovingBlock$Wayside" (3 : Nat) ({ cls := "java/lang/Object", name := "<init>", desc := "()V" } : Jvm.MethodName)) ∈ BIG := big_1 38 rfl rfl
theorem b_39 : (Jvm.Cond.constant "MovingBlock$Wayside" (22 : Nat) (32768 : Int32)) ∈ BIG := big_1 39 rfl rfl
theorem b_40 : (Jvm.Cond.fieldLink "MovingBlock$Wayside" (11 : Nat) "MovingBlock$Wayside" "places" "[I") ∈ BIG := big_1 40 rfl rfl
theorem b_41 : (Jvm.Cond.fieldLink "MovingBlock" (42 : Nat) "MovingBlock$Wayside" "places" "[I") ∈ BIG := big_1 41 rfl rfl
theorem b_42 : (Jvm.Cond.fieldLink "MovingBlock$Wayside" (15 : Nat) "MovingBlock$Wayside" "closed" "[Z") ∈ BIG := big_1 42 rfl rfl
theorem b_43 : (Jvm.Cond.fieldLink "MovingBlock" (45 : Nat) "MovingBlock$Wayside" "closed" "[Z") ∈ BIG := big_1 43 rfl rfl
theorem b_44 : (Jvm.Cond.fieldLink "MovingBlock$Wayside" (19 : Nat) "MovingBlock$Wayside" "up" "[Z") ∈ BIG := big_1 44 rfl rfl
theorem b_45 : (Jvm.Cond.fieldLink "MovingBlock" (49 : Nat) "MovingBlock$Wayside" "up" "[Z") ∈ BIG := big_1 45 rfl rfl
theorem b_46 : (Jvm.Cond.laysFinal "MovingBlock$Wayside" "MovingBlock$Wayside" "places" "[I") ∈ BIG := big_1 46 rfl rfl
theorem b_47 : (Jvm.Cond.soleField "MovingBlock$Wayside" "places") ∈ BIG := big_1 47 rfl rfl
theorem b_48 : (Jvm.Cond.laysFinal "MovingBlock$Wayside" "MovingBlock$Wayside" "closed" "[Z") ∈ BIG := big_1 48 rfl rfl
theorem b_49 : (Jvm.Cond.soleField "MovingBlock$Wayside" "closed") ∈ BIG := big_1 49 rfl rfl
theorem b_50 : (Jvm.Cond.laysFinal "MovingBlock$Wayside" "MovingBlock$Wayside" "up" "[Z") ∈ BIG := big_1 50 rfl rfl
theorem b_51 : (Jvm.Cond.soleField "MovingBlock$Wayside" "up") ∈ BIG := big_1 51 rfl rfl
theorem b_52 : (Jvm.Cond.superclass "MovingBlock$Wayside" "java/lang/Object") ∈ BIG := big_1 52 rfl rfl
theorem b_53 : (Jvm.Cond.arrayClass Jvm.ClassFile.FieldType.boolean) ∈ BIG := big_1 53 rfl rfl
theorem b_54 : (Jvm.Cond.classLink "MovingBlock" (23 : Nat) "MovingBlock$Train") ∈ BIG := big_1 54 rfl rfl
theorem b_56 : (Jvm.Cond.instantiable "MovingBlock$Train" (11 : Nat)) ∈ BIG := big_1 56 rfl rfl
theorem b_57 : (Jvm.Cond.methodLink "MovingBlock" (29 : Nat) ({ cls := "MovingBlock$Train", name := "<init>", desc := "()V" } : Jvm.MethodName)) ∈ BIG := big_1 57 rfl rfl
theorem b_58 : (Jvm.Cond.instanceMethod ({ cls := "MovingBlock$Train", name := "<init>", desc := "()V" } : Jvm.MethodName)) ∈ BIG := big_1 58 rfl rfl
theorem b_59 : (Jvm.Cond.code ({ cls := "MovingBlock$Train", name := "<init>", desc := "()V" } : Jvm.MethodName) prog_4_method_1_code (1 : Nat) (Option.none : Option Jvm.ClassFile.FieldType)) ∈ BIG := big_1 59 rfl rfl
theorem b_60 : (Jvm.Cond.methodLink "MovingBlock$Train" (5 : Nat) ({ cls := "java/lang/Object", name := "<init>", desc := "()V" } : Jvm.MethodName)) ∈ BIG := big_1 60 rfl rfl
theorem b_61 : (Jvm.Cond.classLink "MovingBlock$Train" (11 : Nat) "MovingBlock$Channel") ∈ BIG := big_1 61 rfl rfl
theorem b_62 : (Jvm.Cond.instantiable "MovingBlock$Channel" (10 : Nat)) ∈ BIG := big_1 62 rfl rfl
theorem b_63 : (Jvm.Cond.methodLink "MovingBlock$Train" (13 : Nat) ({ cls := "MovingBlock$Channel", name := "<init>", desc := "()V" } : Jvm.MethodName)) ∈ BIG := big_1 63 rfl rfl
theorem b_64 : (Jvm.Cond.instanceMethod ({ cls := "MovingBlock$Channel", name := "<init>", desc := "()V" } : Jvm.MethodName)) ∈ BIG := big_1 64 rfl rfl
theorem b_65 : (Jvm.Cond.code ({ cls := "MovingBlock$Channel", name := "<init>", desc := "()V" } : Jvm.MethodName) prog_2_method_1_code (1 : Nat) (Option.none : Option Jvm.ClassFile.FieldType)) ∈ BIG := big_1 65 rfl rfl
theorem b_66 : (Jvm.Cond.methodLink "MovingBlock$Channel" (3 : Nat) ({ cls := "java/lang/Object", name := "<init>", desc := "()V" } : Jvm.MethodName)) ∈ BIG := big_1 66 rfl rfl
theorem b_67 : (Jvm.Cond.fieldLink "MovingBlock$Channel" (11 : Nat) "MovingBlock$Channel" "stamps" "[I") ∈ BIG := big_1 67 rfl rfl
theorem b_68 : (Jvm.Cond.fieldLink "MovingBlock$Channel" (15 : Nat) "MovingBlock$Channel" "arrivals" "[I") ∈ BIG := big_1 68 rfl rfl
theorem b_69 : (Jvm.Cond.fieldLink "MovingBlock$Channel" (18 : Nat) "MovingBlock$Channel" "firsts" "[I") ∈ BIG := big_1 69 rfl rfl
theorem b_70 : (Jvm.Cond.fieldLink "MovingBlock$Channel" (21 : Nat) "MovingBlock$Channel" "seconds" "[I") ∈ BIG := big_1 70 rfl rfl
theorem b_71 : (Jvm.Cond.fieldLink "MovingBlock$Channel" (24 : Nat) "MovingBlock$Channel" "delay" "I") ∈ BIG := big_1 71 rfl rfl
theorem b_72 : (Jvm.Cond.fieldLink "MovingBlock" (78 : Nat) "MovingBlock$Channel" "delay" "I") ∈ BIG := big_1 72 rfl rfl
theorem b_73 : (Jvm.Cond.fieldLink "MovingBlock$Channel" (28 : Nat) "MovingBlock$Channel" "stamp" "I") ∈ BIG := big_1 73 rfl rfl
theorem b_74 : (Jvm.Cond.fieldLink "MovingBlock$Train" (85 : Nat) "MovingBlock$Channel" "stamp" "I") ∈ BIG := big_1 74 rfl rfl
theorem b_75 : (Jvm.Cond.fieldLink "MovingBlock" (118 : Nat) "MovingBlock$Channel" "stamp" "I") ∈ BIG := big_1 75 rfl rfl
theorem b_76 : (Jvm.Cond.fieldLink "MovingBlock$Channel" (47 : Nat) "MovingBlock$Channel" "first" "I") ∈ BIG := big_1 76 rfl rfl
theorem b_77 : (Jvm.Cond.fieldLink "MovingBlock$Train" (88 : Nat) "MovingBlock$Channel" "first" "I") ∈ BIG := big_1 77 rfl rfl
theorem b_78 : (Jvm.Cond.fieldLink "MovingBlock" (108 : Nat) "MovingBlock$Channel" "first" "I") ∈ BIG := big_1 78 rfl rfl
theorem b_79 : (Jvm.Cond.fieldLink "MovingBlock$Channel" (50 : Nat) "MovingBlock$Channel" "second" "I") ∈ BIG := big_1 79 rfl rfl
theorem b_80 : (Jvm.Cond.fieldLink "MovingBlock" (111 : Nat) "MovingBlock$Channel" "second" "I") ∈ BIG := big_1 80 rfl rfl
theorem b_81 : (Jvm.Cond.fieldLink "MovingBlock$Channel" (31 : Nat) "MovingBlock$Channel" "lost" "I") ∈ BIG := big_1 81 rfl rfl
theorem b_82 : (Jvm.Cond.fieldLink "MovingBlock" (180 : Nat) "MovingBlock$Channel" "lost" "I") ∈ BIG := big_1 82 rfl rfl
theorem b_83 : (Jvm.Cond.fieldLink "MovingBlock$Channel" (44 : Nat) "MovingBlock$Channel" "notTaken" "I") ∈ BIG := big_1 83 rfl rfl
theorem b_84 : (Jvm.Cond.fieldLink "MovingBlock" (183 : Nat) "MovingBlock$Channel" "notTaken" "I") ∈ BIG := big_1 84 rfl rfl
theorem b_85 : (Jvm.Cond.laysFinal "MovingBlock$Channel" "MovingBlock$Channel" "stamps" "[I") ∈ BIG := big_1 85 rfl rfl
theorem b_86 : (Jvm.Cond.soleField "MovingBlock$Channel" "stamps") ∈ BIG := big_1 86 rfl rfl
theorem b_87 : (Jvm.Cond.laysFinal "MovingBlock$Channel" "MovingBlock$Channel" "arrivals" "[I") ∈ BIG := big_1 87 rfl rfl
theorem b_88 : (Jvm.Cond.soleField "MovingBlock$Channel" "arrivals") ∈ BIG := big_1 88 rfl rfl
theorem b_89 : (Jvm.Cond.laysFinal "MovingBlock$Channel" "MovingBlock$Channel" "firsts" "[I") ∈ BIG := big_1 89 rfl rfl
theorem b_90 : (Jvm.Cond.soleField "MovingBlock$Channel" "firsts") ∈ BIG := big_1 90 rfl rfl
theorem b_91 : (Jvm.Cond.laysFinal "MovingBlock$Channel" "MovingBlock$Channel" "seconds" "[I") ∈ BIG := big_1 91 rfl rfl
theorem b_92 : (Jvm.Cond.soleField "MovingBlock$Channel" "seconds") ∈ BIG := big_1 92 rfl rfl
theorem b_93 : (Jvm.Cond.lays "MovingBlock$Channel" "MovingBlock$Channel" "delay" "I") ∈ BIG := big_1 93 rfl rfl
theorem b_94 : (Jvm.Cond.soleField "MovingBlock$Channel" "delay") ∈ BIG := big_1 94 rfl rfl
theorem b_95 : (Jvm.Cond.lays "MovingBlock$Channel" "MovingBlock$Channel" "stamp" "I") ∈ BIG := big_1 95 rfl rfl
theorem b_96 : (Jvm.Cond.soleField "MovingBlock$Channel" "stamp") ∈ BIG := big_1 96 rfl rfl
theorem b_97 : (Jvm.Cond.lays "MovingBlock$Channel" "MovingBlock$Channel" "first" "I") ∈ BIG := big_1 97 rfl rfl
theorem b_98 : (Jvm.Cond.soleField "MovingBlock$Channel" "first") ∈ BIG := big_1 98 rfl rfl
theorem b_99 : (Jvm.Cond.lays "MovingBlock$Channel" "MovingBlock$Channel" "second" "I") ∈ BIG := big_1 99 rfl rfl
theorem b_100 : (Jvm.Cond.soleField "MovingBlock$Channel" "second") ∈ BIG := big_1 100 rfl rfl
theorem b_101 : (Jvm.Cond.lays "MovingBlock$Channel" "MovingBlock$Channel" "lost" "I") ∈ BIG := big_1 101 rfl rfl
theorem b_102 : (Jvm.Cond.soleField "MovingBlock$Channel" "lost") ∈ BIG := big_1 102 rfl rfl
theorem b_103 : (Jvm.Cond.lays "MovingBlock$Channel" "MovingBlock$Channel" "notTaken" "I") ∈ BIG := big_1 103 rfl rfl
theorem b_104 : (Jvm.Cond.soleField "MovingBlock$Channel" "notTaken") ∈ BIG := big_1 104 rfl rfl
theorem b_105 : (Jvm.Cond.superclass "MovingBlock$Channel" "java/lang/Object") ∈ BIG := big_1 105 rfl rfl
theorem b_106 : (Jvm.Cond.fieldLink "MovingBlock$Train" (14 : Nat) "MovingBlock$Train" "reports" "LMovingBlock$Channel;") ∈ BIG := big_1 106 rfl rfl
theorem b_107 : (Jvm.Cond.fieldLink "MovingBlock" (74 : Nat) "MovingBlock$Train" "reports" "LMovingBlock$Channel;") ∈ BIG := big_1 107 rfl rfl
theorem b_108 : (Jvm.Cond.fieldLink "MovingBlock$Train" (20 : Nat) "MovingBlock$Train" "authorities" "LMovingBlock$Channel;") ∈ BIG := big_1 108 rfl rfl
theorem b_109 : (Jvm.Cond.fieldLink "MovingBlock" (83 : Nat) "MovingBlock$Train" "authorities" "LMovingBlock$Channel;") ∈ BIG := big_1 109 rfl rfl
theorem b_110 : (Jvm.Cond.fieldLink "MovingBlock$Train" (23 : Nat) "MovingBlock$Train" "length" "I") ∈ BIG := big_1 110 rfl rfl
theorem b_111 : (Jvm.Cond.fieldLink "MovingBlock$Train" (27 : Nat) "MovingBlock$Train" "front" "I") ∈ BIG := big_1 111 rfl rfl
theorem b_112 : (Jvm.Cond.fieldLink "MovingBlock" (92 : Nat) "MovingBlock$Train" "front" "I") ∈ BIG := big_1 112 rfl rfl
theorem b_113 : (Jvm.Cond.fieldLink "MovingBlock$Train" (59 : Nat) "MovingBlock$Train" "speed" "I") ∈ BIG := big_1 113 rfl rfl
theorem b_114 : (Jvm.Cond.fieldLink "MovingBlock" (95 : Nat) "MovingBlock$Train" "speed" "I") ∈ BIG := big_1 114 rfl rfl
theorem b_115 : (Jvm.Cond.fieldLink "MovingBlock$Train" (30 : Nat) "MovingBlock$Train" "estimate" "I") ∈ BIG := big_1 115 rfl rfl
theorem b_116 : (Jvm.Cond.fieldLink "MovingBlock" (98 : Nat) "MovingBlock$Train" "estimate" "I") ∈ BIG := big_1 116 rfl rfl
theorem b_117 : (Jvm.Cond.fieldLink "MovingBlock$Train" (33 : Nat) "MovingBlock$Train" "doubt" "I") ∈ BIG := big_1 117 rfl rfl
theorem b_118 : (Jvm.Cond.fieldLink "MovingBlock" (101 : Nat) "MovingBlock$Train" "doubt" "I") ∈ BIG := big_1 118 rfl rfl
theorem b_119 : (Jvm.Cond.fieldLink "MovingBlock" (68 : Nat) "MovingBlock$Train" "demand" "I") ∈ BIG := big_1 119 rfl rfl
theorem b_120 : (Jvm.Cond.fieldLink "MovingBlock$Train" (95 : Nat) "MovingBlock$Train" "demand" "I") ∈ BIG := big_1 120 rfl rfl
theorem b_121 : (Jvm.Cond.fieldLink "MovingBlock" (71 : Nat) "MovingBlock$Train" "drift" "I") ∈ BIG := big_1 121 rfl rfl
theorem b_122 : (Jvm.Cond.fieldLink "MovingBlock$Train" (118 : Nat) "MovingBlock$Train" "drift" "I") ∈ BIG := big_1 122 rfl rfl
theorem b_123 : (Jvm.Cond.fieldLink "MovingBlock$Train" (55 : Nat) "MovingBlock$Train" "emergency" "Z") ∈ BIG := big_1 123 rfl rfl
theorem b_124 : (Jvm.Cond.fieldLink "MovingBlock" (114 : Nat) "MovingBlock$Train" "emergency" "Z") ∈ BIG := big_1 124 rfl rfl
theorem b_125 : (Jvm.Cond.fieldLink "MovingBlock$Train" (66 : Nat) "MovingBlock$Train" "emergencies" "I") ∈ BIG := big_1 125 rfl rfl
theorem b_126 : (Jvm.Cond.fieldLink "MovingBlock" (121 : Nat) "MovingBlock$Train" "emergencies" "I") ∈ BIG := big_1 126 rfl rfl
theorem b_127 : (Jvm.Cond.laysFinal "MovingBlock$Train" "MovingBlock$Train" "reports" "LMovingBlock$Channel;") ∈ BIG := big_1 127 rfl rfl
theorem b_128 : (Jvm.Cond.soleField "MovingBlock$Train" "reports") ∈ BIG := big_1 128 rfl rfl
theorem b_129 : (Jvm.Cond.laysFinal "MovingBlock$Train" "MovingBlock$Train" "authorities" "LMovingBlock$Channel;") ∈ BIG := big_1 129 rfl rfl
theorem b_130 : (Jvm.Cond.soleField "MovingBlock$Train" "authorities") ∈ BIG := big_1 130 rfl rfl
theorem b_131 : (Jvm.Cond.lays "MovingBlock$Train" "MovingBlock$Train" "length" "I") ∈ BIG := big_1 131 rfl rfl
theorem b_132 : (Jvm.Cond.soleField "MovingBlock$Train" "length") ∈ BIG := big_1 132 rfl rfl
theorem b_133 : (Jvm.Cond.lays "MovingBlock$Train" "MovingBlock$Train" "front" "I") ∈ BIG := big_1 133 rfl rfl
theorem b_134 : (Jvm.Cond.soleField "MovingBlock$Train" "front") ∈ BIG := big_1 134 rfl rfl
theorem b_135 : (Jvm.Cond.lays "MovingBlock$Train" "MovingBlock$Train" "speed" "I") ∈ BIG := big_1 135 rfl rfl
theorem b_136 : (Jvm.Cond.soleField "MovingBlock$Train" "speed") ∈ BIG := big_1 136 rfl rfl
theorem b_137 : (Jvm.Cond.lays "MovingBlock$Train" "MovingBlock$Train" "estimate" "I") ∈ BIG := big_1 137 rfl rfl
theorem b_138 : (Jvm.Cond.soleField "MovingBlock$Train" "estimate") ∈ BIG := big_1 138 rfl rfl
theorem b_139 : (Jvm.Cond.lays "MovingBlock$Train" "MovingBlock$Train" "doubt" "I") ∈ BIG := big_1 139 rfl rfl
theorem b_140 : (Jvm.Cond.soleField "MovingBlock$Train" "doubt") ∈ BIG := big_1 140 rfl rfl
theorem b_141 : (Jvm.Cond.lays "MovingBlock$Train" "MovingBlock$Train" "demand" "I") ∈ BIG := big_1 141 rfl rfl
theorem b_142 : (Jvm.Cond.soleField "MovingBlock$Train" "demand") ∈ BIG := big_1 142 rfl rfl
theorem b_143 : (Jvm.Cond.lays "MovingBlock$Train" "MovingBlock$Train" "drift" "I") ∈ BIG := big_1 143 rfl rfl
theorem b_144 : (Jvm.Cond.soleField "MovingBlock$Train" "drift") ∈ BIG := big_1 144 rfl rfl
theorem b_145 : (Jvm.Cond.lays "MovingBlock$Train" "MovingBlock$Train" "emergency" "Z") ∈ BIG := big_1 145 rfl rfl
theorem b_146 : (Jvm.Cond.soleField "MovingBlock$Train" "emergency") ∈ BIG := big_1 146 rfl rfl
theorem b_147 : (Jvm.Cond.lays "MovingBlock$Train" "MovingBlock$Train" "emergencies" "I") ∈ BIG := big_1 147 rfl rfl
theorem b_148 : (Jvm.Cond.soleField "MovingBlock$Train" "emergencies") ∈ BIG := big_1 148 rfl rfl
theorem b_149 : (Jvm.Cond.superclass "MovingBlock$Train" "java/lang/Object") ∈ BIG := big_1 149 rfl rfl
theorem b_150 : (Jvm.Cond.fieldLink "MovingBlock" (12 : Nat) "MovingBlock" "track" "LMovingBlock$Track;") ∈ BIG := big_1 150 rfl rfl
theorem b_151 : (Jvm.Cond.fieldLink "MovingBlock" (19 : Nat) "MovingBlock" "wayside" "LMovingBlock$Wayside;") ∈ BIG := big_1 151 rfl rfl
theorem b_152 : (Jvm.Cond.fieldLink "MovingBlock" (25 : Nat) "MovingBlock" "trains" "[LMovingBlock$Train;") ∈ BIG := big_1 152 rfl rfl
theorem b_153 : (Jvm.Cond.fieldLink "MovingBlock" (52 : Nat) "MovingBlock" "entered" "I") ∈ BIG := big_1 153 rfl rfl
theorem b_154 : (Jvm.Cond.fieldLink "MovingBlock" (89 : Nat) "MovingBlock" "clock" "I") ∈ BIG := big_1 154 rfl rfl
theorem b_155 : (Jvm.Cond.laysFinal "MovingBlock" "MovingBlock" "track" "LMovingBlock$Track;") ∈ BIG := big_1 155 rfl rfl
theorem b_156 : (Jvm.Cond.soleField "MovingBlock" "track") ∈ BIG := big_1 156 rfl rfl
theorem b_157 : (Jvm.Cond.laysFinal "MovingBlock" "MovingBlock" "wayside" "LMovingBlock$Wayside;") ∈ BIG := big_1 157 rfl rfl
theorem b_158 : (Jvm.Cond.soleField "MovingBlock" "wayside") ∈ BIG := big_1 158 rfl rfl
theorem b_159 : (Jvm.Cond.laysFinal "MovingBlock" "MovingBlock" "trains" "[LMovingBlock$Train;") ∈ BIG := big_1 159 rfl rfl
theorem b_160 : (Jvm.Cond.soleField "MovingBlock" "trains") ∈ BIG := big_1 160 rfl rfl
theorem b_161 : (Jvm.Cond.lays "MovingBlock" "MovingBlock" "entered" "I") ∈ BIG := big_1 161 rfl rfl
theorem b_162 : (Jvm.Cond.soleField "MovingBlock" "entered") ∈ BIG := big_1 162 rfl rfl
theorem b_163 : (Jvm.Cond.lays "MovingBlock" "MovingBlock" "clock" "I") ∈ BIG := big_1 163 rfl rfl
theorem b_164 : (Jvm.Cond.soleField "MovingBlock" "clock") ∈ BIG := big_1 164 rfl rfl
theorem b_165 : (Jvm.Cond.superclass "MovingBlock" "java/lang/Object") ∈ BIG := big_1 165 rfl rfl
theorem b_166 : (Jvm.Cond.methodLink "MovingBlockLaw" (13 : Nat) ({ cls := "MovingBlock", name := "piece", desc := "(III)I" } : Jvm.MethodName)) ∈ BIG := big_1 166 rfl rfl
theorem b_167 : (Jvm.Cond.instanceMethod ({ cls := "MovingBlock", name := "piece", desc := "(III)I" } : Jvm.MethodName)) ∈ BIG := big_1 167 rfl rfl
theorem b_168 : (Jvm.Cond.selects "MovingBlock" ({ cls := "MovingBlock", name := "piece", desc := "(III)I" } : Jvm.MethodName) ({ cls := "MovingBlock", name := "piece", desc := "(III)I" } : Jvm.MethodName)) ∈ BIG := big_1 168 rfl rfl
theorem b_169 : (Jvm.Cond.code ({ cls := "MovingBlock", name := "piece", desc := "(III)I" } : Jvm.MethodName) prog_1_method_2_code (4 : Nat) (Option.some Jvm.ClassFile.FieldType.int)) ∈ BIG := big_1 169 rfl rfl
theorem b_170 : (Jvm.Cond.methodLink "MovingBlock" (30 : Nat) ({ cls := "MovingBlock", name := "isOutside", desc := "(III)Z" } : Jvm.MethodName)) ∈ BIG := big_1 170 rfl rfl
theorem b_171 : (Jvm.Cond.static ({ cls := "MovingBlock", name := "isOutside", desc := "(III)Z" } : Jvm.MethodName)) ∈ BIG := big_1 171 rfl rfl
theorem b_172 : (Jvm.Cond.code ({ cls := "MovingBlock", name := "isOutside", desc := "(III)Z" } : Jvm.MethodName) prog_1_method_14_code (3 : Nat) (Option.some Jvm.ClassFile.FieldType.boolean)) ∈ BIG := big_1 172 rfl rfl
theorem b_173 : (Jvm.Cond.constant "MovingBlock" (34 : Nat) (-1000000 : Int32)) ∈ BIG := big_1 173 rfl rfl
theorem b_174 : (Jvm.Cond.methodLink "MovingBlockLaw" (18 : Nat) ({ cls := "MovingBlock", name := "hold", desc := "(IIZ)I" } : Jvm.MethodName)) ∈ BIG := big_1 174 rfl rfl
theorem b_175 : (Jvm.Cond.instanceMethod ({ cls := "MovingBlock", name := "hold", desc := "(IIZ)I" } : Jvm.MethodName)) ∈ BIG := big_1 175 rfl rfl
theorem b_176 : (Jvm.Cond.selects "MovingBlock" ({ cls := "MovingBlock", name := "hold", desc := "(IIZ)I" } : Jvm.MethodName) ({ cls := "MovingBlock", name := "hold", desc := "(IIZ)I" } : Jvm.MethodName)) ∈ BIG := big_1 176 rfl rfl
theorem b_177 : (Jvm.Cond.code ({ cls := "MovingBlock", name := "hold", desc := "(IIZ)I" } : Jvm.MethodName) prog_1_method_3_code (4 : Nat) (Option.some Jvm.ClassFile.FieldType.int)) ∈ BIG := big_1 177 rfl rfl
theorem b_178 : (Jvm.Cond.methodLink "MovingBlockLaw" (23 : Nat) ({ cls := "MovingBlock", name := "controller", desc := "(IZ)I" } : Jvm.MethodName)) ∈ BIG := big_1 178 rfl rfl
theorem b_179 : (Jvm.Cond.instanceMethod ({ cls := "MovingBlock", name := "controller", desc := "(IZ)I" } : Jvm.MethodName)) ∈ BIG := big_1 179 rfl rfl
theorem b_180 : (Jvm.Cond.selects "MovingBlock" ({ cls := "MovingBlock", name := "controller", desc := "(IZ)I" } : Jvm.MethodName) ({ cls := "MovingBlock", name := "controller", desc := "(IZ)I" } : Jvm.MethodName)) ∈ BIG := big_1 180 rfl rfl
theorem b_181 : (Jvm.Cond.code ({ cls := "MovingBlock", name := "controller", desc := "(IZ)I" } : Jvm.MethodName) prog_1_method_4_code (3 : Nat) (Option.some Jvm.ClassFile.FieldType.int)) ∈ BIG := big_1 181 rfl rfl
theorem b_182 : (Jvm.Cond.methodLink "MovingBlockLaw" (28 : Nat) ({ cls := "MovingBlock", name := "enter", desc := "(II)I" } : Jvm.MethodName)) ∈ BIG := big_1 182 rfl rfl
theorem b_183 : (Jvm.Cond.instanceMethod ({ cls := "MovingBlock", name := "enter", desc := "(II)I" } : Jvm.MethodName)) ∈ BIG := big_1 183 rfl rfl
theorem b_184 : (Jvm.Cond.selects "MovingBlock" ({ cls := "MovingBlock", name := "enter", desc := "(II)I" } : Jvm.MethodName) ({ cls := "MovingBlock", name := "enter", desc := "(II)I" } : Jvm.MethodName)) ∈ BIG := big_1 184 rfl rfl
theorem b_185 : (Jvm.Cond.code ({ cls := "MovingBlock", name := "enter", desc := "(II)I" } : Jvm.MethodName) prog_1_method_5_code (3 : Nat) (Option.some Jvm.ClassFile.FieldType.int)) ∈ BIG := big_1 185 rfl rfl
theorem b_186 : (Jvm.Cond.methodLink "MovingBlock" (56 : Nat) ({ cls := "MovingBlock$Train", name := "rear", desc := "()I" } : Jvm.MethodName)) ∈ BIG := big_1 186 rfl rfl
theorem b_187 : (Jvm.Cond.instanceMethod ({ cls := "MovingBlock$Train", name := "rear", desc := "()I" } : Jvm.MethodName)) ∈ BIG := big_1 187 rfl rfl
theorem b_188 : (Jvm.Cond.selects "MovingBlock$Train" ({ cls := "MovingBlock$Train", name := "rear", desc := "()I" } : Jvm.MethodName) ({ cls := "MovingBlock$Train", name := "rear", desc := "()I" } : Jvm.MethodName)) ∈ BIG := big_1 188 rfl rfl
theorem b_189 : (Jvm.Cond.code ({ cls := "MovingBlock$Train", name := "rear", desc := "()I" } : Jvm.MethodName) prog_4_method_3_code (1 : Nat) (Option.some Jvm.ClassFile.FieldType.int)) ∈ BIG := big_1 189 rfl rfl
theorem b_190 : (Jvm.Cond.methodLink "MovingBlock" (60 : Nat) ({ cls := "MovingBlock$Train", name := "place", desc := "(II)V" } : Jvm.MethodName)) ∈ BIG := big_1 190 rfl rfl
theorem b_191 : (Jvm.Cond.instanceMethod ({ cls := "MovingBlock$Train", name := "place", desc := "(II)V" } : Jvm.MethodName)) ∈ BIG := big_1 191 rfl rfl
theorem b_192 : (Jvm.Cond.selects "MovingBlock$Train" ({ cls := "MovingBlock$Train", name := "place", desc := "(II)V" } : Jvm.MethodName) ({ cls := "MovingBlock$Train", name := "place", desc := "(II)V" } : Jvm.MethodName)) ∈ BIG := big_1 192 rfl rfl
theorem b_193 : (Jvm.Cond.code ({ cls := "MovingBlock$Train", name := "place", desc := "(II)V" } : Jvm.MethodName) prog_4_method_2_code (3 : Nat) (Option.none : Option Jvm.ClassFile.FieldType)) ∈ BIG := big_1 193 rfl rfl
theorem b_194 : (Jvm.Cond.methodLink "MovingBlockLaw" (33 : Nat) ({ cls := "MovingBlock", name := "demand", desc := "(II)I" } : Jvm.MethodName)) ∈ BIG := big_1 194 rfl rfl
theorem b_195 : (Jvm.Cond.instanceMethod ({ cls := "MovingBlock", name := "demand", desc := "(II)I" } : Jvm.MethodName)) ∈ BIG := big_1 195 rfl rfl
theorem b_196 : (Jvm.Cond.selects "MovingBlock" ({ cls := "MovingBlock", name := "demand", desc := "(II)I" } : Jvm.MethodName) ({ cls := "MovingBlock", name := "demand", desc := "(II)I" } : Jvm.MethodName)) ∈ BIG := big_1 196 rfl rfl
theorem b_197 : (Jvm.Cond.code ({ cls := "MovingBlock", name := "demand", desc := "(II)I" } : Jvm.MethodName) prog_1_method_6_code (3 : Nat) (Option.some Jvm.ClassFile.FieldType.int)) ∈ BIG := big_1 197 rfl rfl
theorem b_198 : (Jvm.Cond.methodLink "MovingBlock" (64 : Nat) ({ cls := "MovingBlock", name := "isNoTrain", desc := "(I)Z" } : Jvm.MethodName)) ∈ BIG := big_1 198 rfl rfl
theorem b_200 : (Jvm.Cond.instanceMethod ({ cls := "MovingBlock", name := "isNoTrain", desc := "(I)Z" } : Jvm.MethodName)) ∈ BIG := big_1 200 rfl rfl
theorem b_201 : (Jvm.Cond.code ({ cls := "MovingBlock", name := "isNoTrain", desc := "(I)Z" } : Jvm.MethodName) prog_1_method_15_code (2 : Nat) (Option.some Jvm.ClassFile.FieldType.boolean)) ∈ BIG := big_1 201 rfl rfl
theorem b_202 : (Jvm.Cond.methodLink "MovingBlockLaw" (37 : Nat) ({ cls := "MovingBlock", name := "drift", desc := "(II)I" } : Jvm.MethodName)) ∈ BIG := big_1 202 rfl rfl
theorem b_203 : (Jvm.Cond.instanceMethod ({ cls := "MovingBlock", name := "drift", desc := "(II)I" } : Jvm.MethodName)) ∈ BIG := big_1 203 rfl rfl
theorem b_204 : (Jvm.Cond.selects "MovingBlock" ({ cls := "MovingBlock", name := "drift", desc := "(II)I" } : Jvm.MethodName) ({ cls := "MovingBlock", name := "drift", desc := "(II)I" } : Jvm.MethodName)) ∈ BIG := big_1 204 rfl rfl
theorem b_205 : (Jvm.Cond.code ({ cls := "MovingBlock", name := "drift", desc := "(II)I" } : Jvm.MethodName) prog_1_method_7_code (3 : Nat) (Option.some Jvm.ClassFile.FieldType.int)) ∈ BIG := big_1 205 rfl rfl
theorem b_206 : (Jvm.Cond.methodLink "MovingBlockLaw" (41 : Nat) ({ cls := "MovingBlock", name := "radio", desc := "(III)I" } : Jvm.MethodName)) ∈ BIG := big_1 206 rfl rfl
theorem b_207 : (Jvm.Cond.instanceMethod ({ cls := "MovingBlock", name := "radio", desc := "(III)I" } : Jvm.MethodName)) ∈ BIG := big_1 207 rfl rfl
theorem b_208 : (Jvm.Cond.selects "MovingBlock" ({ cls := "MovingBlock", name := "radio", desc := "(III)I" } : Jvm.MethodName) ({ cls := "MovingBlock", name := "radio", desc := "(III)I" } : Jvm.MethodName)) ∈ BIG := big_1 208 rfl rfl
theorem b_209 : (Jvm.Cond.code ({ cls := "MovingBlock", name := "radio", desc := "(III)I" } : Jvm.MethodName) prog_1_method_8_code (4 : Nat) (Option.some Jvm.ClassFile.FieldType.int)) ∈ BIG := big_1 209 rfl rfl
theorem b_210 : (Jvm.Cond.methodLink "MovingBlockLaw" (45 : Nat) ({ cls := "MovingBlock", name := "tick", desc := "(I)I" } : Jvm.MethodName)) ∈ BIG := big_1 210 rfl rfl
theorem b_211 : (Jvm.Cond.instanceMethod ({ cls := "MovingBlock", name := "tick", desc := "(I)I" } : Jvm.MethodName)) ∈ BIG := big_1 211 rfl rfl
theorem b_212 : (Jvm.Cond.selects "MovingBlock" ({ cls := "MovingBlock", name := "tick", desc := "(I)I" } : Jvm.MethodName) ({ cls := "MovingBlock", name := "tick", desc := "(I)I" } : Jvm.MethodName)) ∈ BIG := big_1 212 rfl rfl
theorem b_213 : (Jvm.Cond.code ({ cls := "MovingBlock", name := "tick", desc := "(I)I" } : Jvm.MethodName) prog_1_method_9_code (3 : Nat) (Option.some Jvm.ClassFile.FieldType.int)) ∈ BIG := big_1 213 rfl rfl
theorem b_214 : (Jvm.Cond.methodLink "MovingBlock" (86 : Nat) ({ cls := "MovingBlock", name := "passOneSecond", desc := "()V" } : Jvm.MethodName)) ∈ BIG := big_1 214 rfl rfl
theorem b_216 : (Jvm.Cond.instanceMethod ({ cls := "MovingBlock", name := "passOneSecond", desc := "()V" } : Jvm.MethodName)) ∈ BIG := big_1 216 rfl rfl
theorem b_217 : (Jvm.Cond.code ({ cls := "MovingBlock", name := "passOneSecond", desc := "()V" } : Jvm.MethodName) prog_1_method_16_code (2 : Nat) (Option.none : Option Jvm.ClassFile.FieldType)) ∈ BIG := big_1 217 rfl rfl
theorem b_218 : (Jvm.Cond.methodLink "MovingBlock" (146 : Nat) ({ cls := "MovingBlock$Train", name := "sendReport", desc := "(I)V" } : Jvm.MethodName)) ∈ BIG := big_1 218 rfl rfl
theorem b_219 : (Jvm.Cond.instanceMethod ({ cls := "MovingBlock$Train", name := "sendReport", desc := "(I)V" } : Jvm.MethodName)) ∈ BIG := big_1 219 rfl rfl
theorem b_220 : (Jvm.Cond.selects "MovingBlock$Train" ({ cls := "MovingBlock$Train", name := "sendReport", desc := "(I)V" } : Jvm.MethodName) ({ cls := "MovingBlock$Train", name := "sendReport", desc := "(I)V" } : Jvm.MethodName)) ∈ BIG := big_1 220 rfl rfl
theorem b_221 : (Jvm.Cond.code ({ cls := "MovingBlock$Train", name := "sendReport", desc := "(I)V" } : Jvm.MethodName) prog_4_method_7_code (2 : Nat) (Option.none : Option Jvm.ClassFile.FieldType)) ∈ BIG := big_1 221 rfl rfl
theorem b_222 : (Jvm.Cond.methodLink "MovingBlock$Train" (40 : Nat) ({ cls := "MovingBlock$Train", name := "reach", desc := "()I" } : Jvm.MethodName)) ∈ BIG := big_1 222 rfl rfl
theorem b_223 : (Jvm.Cond.instanceMethod ({ cls := "MovingBlock$Train", name := "reach", desc := "()I" } : Jvm.MethodName)) ∈ BIG := big_1 223 rfl rfl
theorem b_224 : (Jvm.Cond.selects "MovingBlock$Train" ({ cls := "MovingBlock$Train", name := "reach", desc := "()I" } : Jvm.MethodName) ({ cls := "MovingBlock$Train", name := "reach", desc := "()I" } : Jvm.MethodName)) ∈ BIG := big_1 224 rfl rfl
theorem b_225 : (Jvm.Cond.code ({ cls := "MovingBlock$Train", name := "reach", desc := "()I" } : Jvm.MethodName) prog_4_method_4_code (1 : Nat) (Option.some Jvm.ClassFile.FieldType.int)) ∈ BIG := big_1 225 rfl rfl
theorem b_226 : (Jvm.Cond.methodLink "MovingBlock$Train" (44 : Nat) ({ cls := "MovingBlock$Train", name := "tail", desc := "()I" } : Jvm.MethodName)) ∈ BIG := big_1 226 rfl rfl
theorem b_227 : (Jvm.Cond.instanceMethod ({ cls := "MovingBlock$Train", name := "tail", desc := "()I" } : Jvm.MethodName)) ∈ BIG := big_1 227 rfl rfl
theorem b_228 : (Jvm.Cond.selects "MovingBlock$Train" ({ cls := "MovingBlock$Train", name := "tail", desc := "()I" } : Jvm.MethodName) ({ cls := "MovingBlock$Train", name := "tail", desc := "()I" } : Jvm.MethodName)) ∈ BIG := big_1 228 rfl rfl
theorem b_229 : (Jvm.Cond.code ({ cls := "MovingBlock$Train", name := "tail", desc := "()I" } : Jvm.MethodName) prog_4_method_5_code (1 : Nat) (Option.some Jvm.ClassFile.FieldType.int)) ∈ BIG := big_1 229 rfl rfl
theorem b_230 : (Jvm.Cond.methodLink "MovingBlock$Train" (47 : Nat) ({ cls := "MovingBlock$Channel", name := "send", desc := "(III)V" } : Jvm.MethodName)) ∈ BIG := big_1 230 rfl rfl
theorem b_231 : (Jvm.Cond.instanceMethod ({ cls := "MovingBlock$Channel", name := "send", desc := "(III)V" } : Jvm.MethodName)) ∈ BIG := big_1 231 rfl rfl
theorem b_232 : (Jvm.Cond.selects "MovingBlock$Channel" ({ cls := "MovingBlock$Channel", name := "send", desc := "(III)V" } : Jvm.MethodName) ({ cls := "MovingBlock$Channel", name := "send", desc := "(III)V" } : Jvm.MethodName)) ∈ BIG := big_1 232 rfl rfl
theorem b_233 : (Jvm.Cond.code ({ cls := "MovingBlock$Channel", name := "send", desc := "(III)V" } : Jvm.MethodName) prog_2_method_3_code (5 : Nat) (Option.none : Option Jvm.ClassFile.FieldType)) ∈ BIG := big_1 233 rfl rfl
theorem b_234 : (Jvm.Cond.methodLink "MovingBlock$Channel" (34 : Nat) ({ cls := "java/lang/Math", name := "floorMod", desc := "(II)I" } : Jvm.MethodName)) ∈ BIG := big_1 234 rfl rfl
theorem b_235 : (Jvm.Cond.static ({ cls := "java/lang/Math", name := "floorMod", desc := "(II)I" } : Jvm.MethodName)) ∈ BIG := big_1 235 rfl rfl
theorem b_236 : (Jvm.Cond.code ({ cls := "java/lang/Math", name := "floorMod", desc := "(II)I" } : Jvm.MethodName) prog_8_method_50_code (3 : Nat) (Option.some Jvm.ClassFile.FieldType.int)) ∈ BIG := big_1 236 rfl rfl
theorem b_237 : (Jvm.Cond.methodLink "MovingBlock" (150 : Nat) ({ cls := "MovingBlock$Channel", name := "receive", desc := "(I)V" } : Jvm.MethodName)) ∈ BIG := big_1 237 rfl rfl
theorem b_238 : (Jvm.Cond.instanceMethod ({ cls := "MovingBlock$Channel", name := "receive", desc := "(I)V" } : Jvm.MethodName)) ∈ BIG := big_1 238 rfl rfl
theorem b_239 : (Jvm.Cond.selects "MovingBlock$Channel" ({ cls := "MovingBlock$Channel", name := "receive", desc := "(I)V" } : Jvm.MethodName) ({ cls := "MovingBlock$Channel", name := "receive", desc := "(I)V" } : Jvm.MethodName)) ∈ BIG := big_1 239 rfl rfl
theorem b_240 : (Jvm.Cond.code ({ cls := "MovingBlock$Channel", name := "receive", desc := "(I)V" } : Jvm.MethodName) prog_2_method_4_code (4 : Nat) (Option.none : Option Jvm.ClassFile.FieldType)) ∈ BIG := big_2 0 rfl rfl
theorem b_241 : (Jvm.Cond.methodLink "MovingBlock$Channel" (40 : Nat) ({ cls := "MovingBlock$Channel", name := "takeIfNewer", desc := "(I)V" } : Jvm.MethodName)) ∈ BIG := big_2 1 rfl rfl
theorem b_242 : (Jvm.Cond.instanceMethod ({ cls := "MovingBlock$Channel", name := "takeIfNewer", desc := "(I)V" } : Jvm.MethodName)) ∈ BIG := big_2 2 rfl rfl
theorem b_243 : (Jvm.Cond.selects "MovingBlock$Channel" ({ cls := "MovingBlock$Channel", name := "takeIfNewer", desc := "(I)V" } : Jvm.MethodName) ({ cls := "MovingBlock$Channel", name := "takeIfNewer", desc := "(I)V" } : Jvm.MethodName)) ∈ BIG := big_2 3 rfl rfl
theorem b_244 : (Jvm.Cond.code ({ cls := "MovingBlock$Channel", name := "takeIfNewer", desc := "(I)V" } : Jvm.MethodName) prog_2_method_5_code (2 : Nat) (Option.none : Option Jvm.ClassFile.FieldType)) ∈ BIG := big_2 4 rfl rfl
theorem b_245 : (Jvm.Cond.methodLink "MovingBlock" (153 : Nat) ({ cls := "MovingBlock", name := "sendAuthority", desc := "(I)V" } : Jvm.MethodName)) ∈ BIG := big_2 5 rfl rfl
theorem b_247 : (Jvm.Cond.instanceMethod ({ cls := "MovingBlock", name := "sendAuthority", desc := "(I)V" } : Jvm.MethodName)) ∈ BIG := big_2 7 rfl rfl
theorem b_248 : (Jvm.Cond.code ({ cls := "MovingBlock", name := "sendAuthority", desc := "(I)V" } : Jvm.MethodName) prog_1_method_17_code (4 : Nat) (Option.none : Option Jvm.ClassFile.FieldType)) ∈ BIG := big_2 8 rfl rfl
theorem b_249 : (Jvm.Cond.methodLink "MovingBlock" (104 : Nat) ({ cls := "MovingBlock$Channel", name := "wasTaken", desc := "()Z" } : Jvm.MethodName)) ∈ BIG := big_2 9 rfl rfl
theorem b_250 : (Jvm.Cond.instanceMethod ({ cls := "MovingBlock$Channel", name := "wasTaken", desc := "()Z" } : Jvm.MethodName)) ∈ BIG := big_2 10 rfl rfl
theorem b_251 : (Jvm.Cond.selects "MovingBlock$Channel" ({ cls := "MovingBlock$Channel", name := "wasTaken", desc := "()Z" } : Jvm.MethodName) ({ cls := "MovingBlock$Channel", name := "wasTaken", desc := "()Z" } : Jvm.MethodName)) ∈ BIG := big_2 11 rfl rfl
theorem b_252 : (Jvm.Cond.code ({ cls := "MovingBlock$Channel", name := "wasTaken", desc := "()Z" } : Jvm.MethodName) prog_2_method_2_code (1 : Nat) (Option.some Jvm.ClassFile.FieldType.boolean)) ∈ BIG := big_2 12 rfl rfl
theorem b_253 : (Jvm.Cond.methodLink "MovingBlock" (160 : Nat) ({ cls := "MovingBlock$Wayside", name := "isUpAt", desc := "(I)Z" } : Jvm.MethodName)) ∈ BIG := big_2 13 rfl rfl
theorem b_254 : (Jvm.Cond.instanceMethod ({ cls := "MovingBlock$Wayside", name := "isUpAt", desc := "(I)Z" } : Jvm.MethodName)) ∈ BIG := big_2 14 rfl rfl
theorem b_255 : (Jvm.Cond.selects "MovingBlock$Wayside" ({ cls := "MovingBlock$Wayside", name := "isUpAt", desc := "(I)Z" } : Jvm.MethodName) ({ cls := "MovingBlock$Wayside", name := "isUpAt", desc := "(I)Z" } : Jvm.MethodName)) ∈ BIG := big_2 15 rfl rfl
theorem b_256 : (Jvm.Cond.code ({ cls := "MovingBlock$Wayside", name := "isUpAt", desc := "(I)Z" } : Jvm.MethodName) prog_5_method_2_code (2 : Nat) (Option.some Jvm.ClassFile.FieldType.boolean)) ∈ BIG := big_2 16 rfl rfl
theorem b_257 : (Jvm.Cond.methodLink "MovingBlock" (163 : Nat) ({ cls := "MovingBlock$Wayside", name := "endFor", desc := "(I)I" } : Jvm.MethodName)) ∈ BIG := big_2 17 rfl rfl
theorem b_258 : (Jvm.Cond.instanceMethod ({ cls := "MovingBlock$Wayside", name := "endFor", desc := "(I)I" } : Jvm.MethodName)) ∈ BIG := big_2 18 rfl rfl
theorem b_259 : (Jvm.Cond.selects "MovingBlock$Wayside" ({ cls := "MovingBlock$Wayside", name := "endFor", desc := "(I)I" } : Jvm.MethodName) ({ cls := "MovingBlock$Wayside", name := "endFor", desc := "(I)I" } : Jvm.MethodName)) ∈ BIG := big_2 19 rfl rfl
theorem b_260 : (Jvm.Cond.code ({ cls := "MovingBlock$Wayside", name := "endFor", desc := "(I)I" } : Jvm.MethodName) prog_5_method_3_code (4 : Nat) (Option.some Jvm.ClassFile.FieldType.int)) ∈ BIG := big_2 20 rfl rfl
theorem b_261 : (Jvm.Cond.methodLink "MovingBlock$Wayside" (23 : Nat) ({ cls := "java/lang/Math", name := "min", desc := "(II)I" } : Jvm.MethodName)) ∈ BIG := big_2 21 rfl rfl
theorem b_262 : (Jvm.Cond.static ({ cls := "java/lang/Math", name := "min", desc := "(II)I" } : Jvm.MethodName)) ∈ BIG := big_2 22 rfl rfl
theorem b_263 : (Jvm.Cond.code ({ cls := "java/lang/Math", name := "min", desc := "(II)I" } : Jvm.MethodName) prog_8_method_69_code (2 : Nat) (Option.some Jvm.ClassFile.FieldType.int)) ∈ BIG := big_2 23 rfl rfl
theorem b_264 : (Jvm.Cond.methodLink "MovingBlock" (166 : Nat) ({ cls := "MovingBlock", name := "endBehindTrainsAhead", desc := "(I)I" } : Jvm.MethodName)) ∈ BIG := big_2 24 rfl rfl
theorem b_266 : (Jvm.Cond.instanceMethod ({ cls := "MovingBlock", name := "endBehindTrainsAhead", desc := "(I)I" } : Jvm.MethodName)) ∈ BIG := big_2 26 rfl rfl
theorem b_267 : (Jvm.Cond.code ({ cls := "MovingBlock", name := "endBehindTrainsAhead", desc := "(I)I" } : Jvm.MethodName) prog_1_method_18_code (5 : Nat) (Option.some Jvm.ClassFile.FieldType.int)) ∈ BIG := big_2 27 rfl rfl
theorem b_268 : (Jvm.Cond.constant "MovingBlock" (179 : Nat) (32768 : Int32)) ∈ BIG := big_2 28 rfl rfl
theorem b_269 : (Jvm.Cond.methodLink "MovingBlock" (169 : Nat) ({ cls := "java/lang/Math", name := "min", desc := "(II)I" } : Jvm.MethodName)) ∈ BIG := big_2 29 rfl rfl
theorem b_270 : (Jvm.Cond.methodLink "MovingBlock" (175 : Nat) ({ cls := "MovingBlock$Channel", name := "send", desc := "(III)V" } : Jvm.MethodName)) ∈ BIG := big_2 30 rfl rfl
theorem b_271 : (Jvm.Cond.methodLink "MovingBlock" (156 : Nat) ({ cls := "MovingBlock$Train", name := "drive", desc := "(ILMovingBlock$Track;)V" } : Jvm.MethodName)) ∈ BIG := big_2 31 rfl rfl
theorem b_272 : (Jvm.Cond.instanceMethod ({ cls := "MovingBlock$Train", name := "drive", desc := "(ILMovingBlock$Track;)V" } : Jvm.MethodName)) ∈ BIG := big_2 32 rfl rfl
theorem b_273 : (Jvm.Cond.selects "MovingBlock$Train" ({ cls := "MovingBlock$Train", name := "drive", desc := "(ILMovingBlock$Track;)V" } : Jvm.MethodName) ({ cls := "MovingBlock$Train", name := "drive", desc := "(ILMovingBlock$Track;)V" } : Jvm.MethodName)) ∈ BIG := big_2 33 rfl rfl
theorem b_274 : (Jvm.Cond.code ({ cls := "MovingBlock$Train", name := "drive", desc := "(ILMovingBlock$Track;)V" } : Jvm.MethodName) prog_4_method_8_code (5 : Nat) (Option.none : Option Jvm.ClassFile.FieldType)) ∈ BIG := big_2 34 rfl rfl
theorem b_275 : (Jvm.Cond.methodLink "MovingBlock$Train" (51 : Nat) ({ cls := "MovingBlock$Train", name := "hasFreshAuthority", desc := "(I)Z" } : Jvm.MethodName)) ∈ BIG := big_2 35 rfl rfl
theorem b_276 : (Jvm.Cond.instanceMethod ({ cls := "MovingBlock$Train", name := "hasFreshAuthority", desc := "(I)Z" } : Jvm.MethodName)) ∈ BIG := big_2 36 rfl rfl
theorem b_277 : (Jvm.Cond.selects "MovingBlock$Train" ({ cls := "MovingBlock$Train", name := "hasFreshAuthority", desc := "(I)Z" } : Jvm.MethodName) ({ cls := "MovingBlock$Train", name := "hasFreshAuthority", desc := "(I)Z" } : Jvm.MethodName)) ∈ BIG := big_2 37 rfl rfl
theorem b_278 : (Jvm.Cond.code ({ cls := "MovingBlock$Train", name := "hasFreshAuthority", desc := "(I)Z" } : Jvm.MethodName) prog_4_method_9_code (2 : Nat) (Option.some Jvm.ClassFile.FieldType.boolean)) ∈ BIG := big_2 38 rfl rfl
theorem b_279 : (Jvm.Cond.methodLink "MovingBlock$Train" (81 : Nat) ({ cls := "MovingBlock$Channel", name := "wasTaken", desc := "()Z" } : Jvm.MethodName)) ∈ BIG := big_2 39 rfl rfl
theorem b_280 : (Jvm.Cond.methodLink "MovingBlock$Train" (62 : Nat) ({ cls := "MovingBlock$Train", name := "greatestSafeSquareHere", desc := "(LMovingBlock$Track;)I" } : Jvm.MethodName)) ∈ BIG := big_2 40 rfl rfl
theorem b_281 : (Jvm.Cond.instanceMethod ({ cls := "MovingBlock$Train", name := "greatestSafeSquareHere", desc := "(LMovingBlock$Track;)I" } : Jvm.MethodName)) ∈ BIG := big_2 41 rfl rfl
theorem b_282 : (Jvm.Cond.selects "MovingBlock$Train" ({ cls := "MovingBlock$Train", name := "greatestSafeSquareHere", desc := "(LMovingBlock$Track;)I" } : Jvm.MethodName) ({ cls := "MovingBlock$Train", name := "greatestSafeSquareHere", desc := "(LMovingBlock$Track;)I" } : Jvm.MethodName)) ∈ BIG := big_2 42 rfl rfl
theorem b_283 : (Jvm.Cond.code ({ cls := "MovingBlock$Train", name := "greatestSafeSquareHere", desc := "(LMovingBlock$Track;)I" } : Jvm.MethodName) prog_4_method_10_code (2 : Nat) (Option.some Jvm.ClassFile.FieldType.int)) ∈ BIG := big_2 43 rfl rfl
theorem b_284 : (Jvm.Cond.methodLink "MovingBlock$Train" (91 : Nat) ({ cls := "MovingBlock$Track", name := "greatestSafeSquare", desc := "(III)I" } : Jvm.MethodName)) ∈ BIG := big_2 44 rfl rfl
theorem b_285 : (Jvm.Cond.instanceMethod ({ cls := "MovingBlock$Track", name := "greatestSafeSquare", desc := "(III)I" } : Jvm.MethodName)) ∈ BIG := big_2 45 rfl rfl
theorem b_286 : (Jvm.Cond.selects "MovingBlock$Track" ({ cls := "MovingBlock$Track", name := "greatestSafeSquare", desc := "(III)I" } : Jvm.MethodName) ({ cls := "MovingBlock$Track", name := "greatestSafeSquare", desc := "(III)I" } : Jvm.MethodName)) ∈ BIG := big_2 46 rfl rfl
theorem b_287 : (Jvm.Cond.code ({ cls := "MovingBlock$Track", name := "greatestSafeSquare", desc := "(III)I" } : Jvm.MethodName) prog_3_method_3_code (8 : Nat) (Option.some Jvm.ClassFile.FieldType.int)) ∈ BIG := big_2 47 rfl rfl
theorem b_288 : (Jvm.Cond.methodLink "MovingBlock$Track" (19 : Nat) ({ cls := "MovingBlock$Track", name := "pieceAt", desc := "(I)I" } : Jvm.MethodName)) ∈ BIG := big_2 48 rfl rfl
theorem b_289 : (Jvm.Cond.static ({ cls := "MovingBlock$Track", name := "pieceAt", desc := "(I)I" } : Jvm.MethodName)) ∈ BIG := big_2 49 rfl rfl
theorem b_290 : (Jvm.Cond.code ({ cls := "MovingBlock$Track", name := "pieceAt", desc := "(I)I" } : Jvm.MethodName) prog_3_method_2_code (1 : Nat) (Option.some Jvm.ClassFile.FieldType.int)) ∈ BIG := big_2 50 rfl rfl
theorem b_291 : (Jvm.Cond.constant "MovingBlock$Track" (18 : Nat) (32768 : Int32)) ∈ BIG := big_2 51 rfl rfl
theorem b_292 : (Jvm.Cond.methodLink "MovingBlock$Track" (23 : Nat) ({ cls := "java/lang/Math", name := "min", desc := "(II)I" } : Jvm.MethodName)) ∈ BIG := big_2 52 rfl rfl
theorem b_293 : (Jvm.Cond.methodLink "MovingBlock$Train" (69 : Nat) ({ cls := "MovingBlock$Train", name := "pullByDemand", desc := "(ZLMovingBlock$Track;)I" } : Jvm.MethodName)) ∈ BIG := big_2 53 rfl rfl
theorem b_294 : (Jvm.Cond.instanceMethod ({ cls := "MovingBlock$Train", name := "pullByDemand", desc := "(ZLMovingBlock$Track;)I" } : Jvm.MethodName)) ∈ BIG := big_2 54 rfl rfl
theorem b_295 : (Jvm.Cond.selects "MovingBlock$Train" ({ cls := "MovingBlock$Train", name := "pullByDemand", desc := "(ZLMovingBlock$Track;)I" } : Jvm.MethodName) ({ cls := "MovingBlock$Train", name := "pullByDemand", desc := "(ZLMovingBlock$Track;)I" } : Jvm.MethodName)) ∈ BIG := big_2 55 rfl rfl
theorem b_296 : (Jvm.Cond.code ({ cls := "MovingBlock$Train", name := "pullByDemand", desc := "(ZLMovingBlock$Track;)I" } : Jvm.MethodName) prog_4_method_11_code (4 : Nat) (Option.some Jvm.ClassFile.FieldType.int)) ∈ BIG := big_2 56 rfl rfl
theorem b_297 : (Jvm.Cond.methodLink "MovingBlock$Train" (98 : Nat) ({ cls := "MovingBlock$Train", name := "staysSafe", desc := "(ILMovingBlock$Track;)Z" } : Jvm.MethodName)) ∈ BIG := big_2 57 rfl rfl
theorem b_298 : (Jvm.Cond.instanceMethod ({ cls := "MovingBlock$Train", name := "staysSafe", desc := "(ILMovingBlock$Track;)Z" } : Jvm.MethodName)) ∈ BIG := big_2 58 rfl rfl
theorem b_299 : (Jvm.Cond.selects "MovingBlock$Train" ({ cls := "MovingBlock$Train", name := "staysSafe", desc := "(ILMovingBlock$Track;)Z" } : Jvm.MethodName) ({ cls := "MovingBlock$Train", name := "staysSafe", desc := "(ILMovingBlock$Track;)Z" } : Jvm.MethodName)) ∈ BIG := big_2 59 rfl rfl
theorem b_300 : (Jvm.Cond.code ({ cls := "MovingBlock$Train", name := "staysSafe", desc := "(ILMovingBlock$Track;)Z" } : Jvm.MethodName) prog_4_method_12_code (6 : Nat) (Option.some Jvm.ClassFile.FieldType.boolean)) ∈ BIG := big_2 60 rfl rfl
theorem b_301 : (Jvm.Cond.methodLink "MovingBlock$Train" (73 : Nat) ({ cls := "MovingBlock$Train", name := "speedAfter", desc := "(ILMovingBlock$Track;)I" } : Jvm.MethodName)) ∈ BIG := big_2 61 rfl rfl
theorem b_302 : (Jvm.Cond.instanceMethod ({ cls := "MovingBlock$Train", name := "speedAfter", desc := "(ILMovingBlock$Track;)I" } : Jvm.MethodName)) ∈ BIG := big_2 62 rfl rfl
theorem b_303 : (Jvm.Cond.selects "MovingBlock$Train" ({ cls := "MovingBlock$Train", name := "speedAfter", desc := "(ILMovingBlock$Track;)I" } : Jvm.MethodName) ({ cls := "MovingBlock$Train", name := "speedAfter", desc := "(ILMovingBlock$Track;)I" } : Jvm.MethodName)) ∈ BIG := big_2 63 rfl rfl
theorem b_304 : (Jvm.Cond.code ({ cls := "MovingBlock$Train", name := "speedAfter", desc := "(ILMovingBlock$Track;)I" } : Jvm.MethodName) prog_4_method_13_code (3 : Nat) (Option.some Jvm.ClassFile.FieldType.int)) ∈ BIG := big_2 64 rfl rfl
theorem b_305 : (Jvm.Cond.methodLink "MovingBlock$Train" (109 : Nat) ({ cls := "MovingBlock$Track", name := "pieceAt", desc := "(I)I" } : Jvm.MethodName)) ∈ BIG := big_2 65 rfl rfl
theorem b_306 : (Jvm.Cond.methodLink "MovingBlock$Train" (112 : Nat) ({ cls := "java/lang/Math", name := "max", desc := "(II)I" } : Jvm.MethodName)) ∈ BIG := big_2 66 rfl rfl
theorem b_307 : (Jvm.Cond.static ({ cls := "java/lang/Math", name := "max", desc := "(II)I" } : Jvm.MethodName)) ∈ BIG := big_2 67 rfl rfl
theorem b_308 : (Jvm.Cond.code ({ cls := "java/lang/Math", name := "max", desc := "(II)I" } : Jvm.MethodName) prog_8_method_65_code (2 : Nat) (Option.some Jvm.ClassFile.FieldType.int)) ∈ BIG := big_2 68 rfl rfl
theorem b_309 : (Jvm.Cond.methodLink "MovingBlock$Train" (102 : Nat) ({ cls := "MovingBlock$Train", name := "wayTo", desc := "(I)I" } : Jvm.MethodName)) ∈ BIG := big_2 69 rfl rfl
theorem b_310 : (Jvm.Cond.instanceMethod ({ cls := "MovingBlock$Train", name := "wayTo", desc := "(I)I" } : Jvm.MethodName)) ∈ BIG := big_2 70 rfl rfl
theorem b_311 : (Jvm.Cond.selects "MovingBlock$Train" ({ cls := "MovingBlock$Train", name := "wayTo", desc := "(I)I" } : Jvm.MethodName) ({ cls := "MovingBlock$Train", name := "wayTo", desc := "(I)I" } : Jvm.MethodName)) ∈ BIG := big_2 71 rfl rfl
theorem b_312 : (Jvm.Cond.code ({ cls := "MovingBlock$Train", name := "wayTo", desc := "(I)I" } : Jvm.MethodName) prog_4_method_14_code (2 : Nat) (Option.some Jvm.ClassFile.FieldType.int)) ∈ BIG := big_2 72 rfl rfl
theorem b_313 : (Jvm.Cond.methodLink "MovingBlock$Train" (77 : Nat) ({ cls := "MovingBlock$Train", name := "move", desc := "(I)V" } : Jvm.MethodName)) ∈ BIG := big_2 73 rfl rfl
theorem b_314 : (Jvm.Cond.instanceMethod ({ cls := "MovingBlock$Train", name := "move", desc := "(I)V" } : Jvm.MethodName)) ∈ BIG := big_2 74 rfl rfl
theorem b_315 : (Jvm.Cond.selects "MovingBlock$Train" ({ cls := "MovingBlock$Train", name := "move", desc := "(I)V" } : Jvm.MethodName) ({ cls := "MovingBlock$Train", name := "move", desc := "(I)V" } : Jvm.MethodName)) ∈ BIG := big_2 75 rfl rfl
theorem b_316 : (Jvm.Cond.code ({ cls := "MovingBlock$Train", name := "move", desc := "(I)V" } : Jvm.MethodName) prog_4_method_15_code (4 : Nat) (Option.none : Option Jvm.ClassFile.FieldType)) ∈ BIG := big_2 76 rfl rfl
theorem b_317 : (Jvm.Cond.methodLink "MovingBlockLaw" (50 : Nat) ({ cls := "MovingBlock", name := "measure", desc := "(II)I" } : Jvm.MethodName)) ∈ BIG := big_2 77 rfl rfl
theorem b_318 : (Jvm.Cond.instanceMethod ({ cls := "MovingBlock", name := "measure", desc := "(II)I" } : Jvm.MethodName)) ∈ BIG := big_2 78 rfl rfl
theorem b_319 : (Jvm.Cond.selects "MovingBlock" ({ cls := "MovingBlock", name := "measure", desc := "(II)I" } : Jvm.MethodName) ({ cls := "MovingBlock", name := "measure", desc := "(II)I" } : Jvm.MethodName)) ∈ BIG := big_2 79 rfl rfl
theorem b_320 : (Jvm.Cond.code ({ cls := "MovingBlock", name := "measure", desc := "(II)I" } : Jvm.MethodName) prog_1_method_10_code (4 : Nat) (Option.some Jvm.ClassFile.FieldType.int)) ∈ BIG := big_2 80 rfl rfl
theorem b_321 : (Jvm.Cond.methodLink "MovingBlockLaw" (54 : Nat) ({ cls := "MovingBlock", name := "state", desc := "(II)I" } : Jvm.MethodName)) ∈ BIG := big_2 81 rfl rfl
theorem b_322 : (Jvm.Cond.instanceMethod ({ cls := "MovingBlock", name := "state", desc := "(II)I" } : Jvm.MethodName)) ∈ BIG := big_2 82 rfl rfl
theorem b_323 : (Jvm.Cond.selects "MovingBlock" ({ cls := "MovingBlock", name := "state", desc := "(II)I" } : Jvm.MethodName) ({ cls := "MovingBlock", name := "state", desc := "(II)I" } : Jvm.MethodName)) ∈ BIG := big_2 83 rfl rfl
theorem b_324 : (Jvm.Cond.code ({ cls := "MovingBlock", name := "state", desc := "(II)I" } : Jvm.MethodName) prog_1_method_11_code (4 : Nat) (Option.some Jvm.ClassFile.FieldType.int)) ∈ BIG := big_2 84 rfl rfl
theorem b_325 : (Jvm.Cond.methodLink "MovingBlock" (124 : Nat) ({ cls := "MovingBlock$Train", name := "messagesOnTheWay", desc := "(I)I" } : Jvm.MethodName)) ∈ BIG := big_2 85 rfl rfl
theorem b_326 : (Jvm.Cond.instanceMethod ({ cls := "MovingBlock$Train", name := "messagesOnTheWay", desc := "(I)I" } : Jvm.MethodName)) ∈ BIG := big_2 86 rfl rfl
theorem b_327 : (Jvm.Cond.selects "MovingBlock$Train" ({ cls := "MovingBlock$Train", name := "messagesOnTheWay", desc := "(I)I" } : Jvm.MethodName) ({ cls := "MovingBlock$Train", name := "messagesOnTheWay", desc := "(I)I" } : Jvm.MethodName)) ∈ BIG := big_2 87 rfl rfl
theorem b_328 : (Jvm.Cond.code ({ cls := "MovingBlock$Train", name := "messagesOnTheWay", desc := "(I)I" } : Jvm.MethodName) prog_4_method_6_code (2 : Nat) (Option.some Jvm.ClassFile.FieldType.int)) ∈ BIG := big_2 88 rfl rfl
theorem b_329 : (Jvm.Cond.methodLink "MovingBlock$Train" (36 : Nat) ({ cls := "MovingBlock$Channel", name := "onTheWay", desc := "(I)I" } : Jvm.MethodName)) ∈ BIG := big_2 89 rfl rfl
theorem b_330 : (Jvm.Cond.instanceMethod ({ cls := "MovingBlock$Channel", name := "onTheWay", desc := "(I)I" } : Jvm.MethodName)) ∈ BIG := big_2 90 rfl rfl
theorem b_331 : (Jvm.Cond.selects "MovingBlock$Channel" ({ cls := "MovingBlock$Channel", name := "onTheWay", desc := "(I)I" } : Jvm.MethodName) ({ cls := "MovingBlock$Channel", name := "onTheWay", desc := "(I)I" } : Jvm.MethodName)) ∈ BIG := big_2 91 rfl rfl
theorem b_332 : (Jvm.Cond.code ({ cls := "MovingBlock$Channel", name := "onTheWay", desc := "(I)I" } : Jvm.MethodName) prog_2_method_6_code (4 : Nat) (Option.some Jvm.ClassFile.FieldType.int)) ∈ BIG := big_2 92 rfl rfl
theorem b_333 : (Jvm.Cond.methodLink "MovingBlock" (128 : Nat) ({ cls := "MovingBlock$Track", name := "pieceAt", desc := "(I)I" } : Jvm.MethodName)) ∈ BIG := big_2 93 rfl rfl
theorem b_334 : (Jvm.Cond.methodLink "MovingBlockLaw" (58 : Nat) ({ cls := "MovingBlock", name := "permitted", desc := "(I)I" } : Jvm.MethodName)) ∈ BIG := big_2 94 rfl rfl
theorem b_335 : (Jvm.Cond.instanceMethod ({ cls := "MovingBlock", name := "permitted", desc := "(I)I" } : Jvm.MethodName)) ∈ BIG := big_2 95 rfl rfl
theorem b_336 : (Jvm.Cond.selects "MovingBlock" ({ cls := "MovingBlock", name := "permitted", desc := "(I)I" } : Jvm.MethodName) ({ cls := "MovingBlock", name := "permitted", desc := "(I)I" } : Jvm.MethodName)) ∈ BIG := big_2 96 rfl rfl
theorem b_337 : (Jvm.Cond.code ({ cls := "MovingBlock", name := "permitted", desc := "(I)I" } : Jvm.MethodName) prog_1_method_12_code (2 : Nat) (Option.some Jvm.ClassFile.FieldType.int)) ∈ BIG := big_2 97 rfl rfl
theorem b_338 : (Jvm.Cond.methodLink "MovingBlock" (131 : Nat) ({ cls := "MovingBlock$Train", name := "greatestSafeSpeed", desc := "(LMovingBlock$Track;)I" } : Jvm.MethodName)) ∈ BIG := big_2 98 rfl rfl
theorem b_339 : (Jvm.Cond.instanceMethod ({ cls := "MovingBlock$Train", name := "greatestSafeSpeed", desc := "(LMovingBlock$Track;)I" } : Jvm.MethodName)) ∈ BIG := big_2 99 rfl rfl
theorem b_340 : (Jvm.Cond.selects "MovingBlock$Train" ({ cls := "MovingBlock$Train", name := "greatestSafeSpeed", desc := "(LMovingBlock$Track;)I" } : Jvm.MethodName) ({ cls := "MovingBlock$Train", name := "greatestSafeSpeed", desc := "(LMovingBlock$Track;)I" } : Jvm.MethodName)) ∈ BIG := big_2 100 rfl rfl
theorem b_341 : (Jvm.Cond.code ({ cls := "MovingBlock$Train", name := "greatestSafeSpeed", desc := "(LMovingBlock$Track;)I" } : Jvm.MethodName) prog_4_method_16_code (4 : Nat) (Option.some Jvm.ClassFile.FieldType.int)) ∈ BIG := big_2 101 rfl rfl
theorem b_342 : (Jvm.Cond.methodLink "MovingBlockLaw" (62 : Nat) ({ cls := "MovingBlock", name := "count", desc := "(I)I" } : Jvm.MethodName)) ∈ BIG := big_2 102 rfl rfl
theorem b_343 : (Jvm.Cond.instanceMethod ({ cls := "MovingBlock", name := "count", desc := "(I)I" } : Jvm.MethodName)) ∈ BIG := big_2 103 rfl rfl
theorem b_344 : (Jvm.Cond.selects "MovingBlock" ({ cls := "MovingBlock", name := "count", desc := "(I)I" } : Jvm.MethodName) ({ cls := "MovingBlock", name := "count", desc := "(I)I" } : Jvm.MethodName)) ∈ BIG := big_2 104 rfl rfl
theorem b_345 : (Jvm.Cond.code ({ cls := "MovingBlock", name := "count", desc := "(I)I" } : Jvm.MethodName) prog_1_method_13_code (2 : Nat) (Option.some Jvm.ClassFile.FieldType.int)) ∈ BIG := big_2 105 rfl rfl
theorem b_346 : (Jvm.Cond.methodLink "MovingBlock" (135 : Nat) ({ cls := "MovingBlock", name := "trainsBeyondTheOneBefore", desc := "()I" } : Jvm.MethodName)) ∈ BIG := big_2 106 rfl rfl
theorem b_348 : (Jvm.Cond.instanceMethod ({ cls := "MovingBlock", name := "trainsBeyondTheOneBefore", desc := "()I" } : Jvm.MethodName)) ∈ BIG := big_2 108 rfl rfl
theorem b_349 : (Jvm.Cond.code ({ cls := "MovingBlock", name := "trainsBeyondTheOneBefore", desc := "()I" } : Jvm.MethodName) prog_1_method_19_code (3 : Nat) (Option.some Jvm.ClassFile.FieldType.int)) ∈ BIG := big_2 109 rfl rfl
theorem b_350 : (Jvm.Cond.methodLink "MovingBlock" (138 : Nat) ({ cls := "MovingBlock", name := "messagesOnTheWay", desc := "()I" } : Jvm.MethodName)) ∈ BIG := big_2 110 rfl rfl
theorem b_352 : (Jvm.Cond.instanceMethod ({ cls := "MovingBlock", name := "messagesOnTheWay", desc := "()I" } : Jvm.MethodName)) ∈ BIG := big_2 112 rfl rfl
theorem b_353 : (Jvm.Cond.code ({ cls := "MovingBlock", name := "messagesOnTheWay", desc := "()I" } : Jvm.MethodName) prog_1_method_20_code (3 : Nat) (Option.some Jvm.ClassFile.FieldType.int)) ∈ BIG := big_2 113 rfl rfl
theorem b_354 : (Jvm.Cond.methodLink "MovingBlock" (140 : Nat) ({ cls := "MovingBlock", name := "messagesLost", desc := "()I" } : Jvm.MethodName)) ∈ BIG := big_2 114 rfl rfl
theorem b_356 : (Jvm.Cond.instanceMethod ({ cls := "MovingBlock", name := "messagesLost", desc := "()I" } : Jvm.MethodName)) ∈ BIG := big_2 116 rfl rfl
theorem b_357 : (Jvm.Cond.code ({ cls := "MovingBlock", name := "messagesLost", desc := "()I" } : Jvm.MethodName) prog_1_method_21_code (3 : Nat) (Option.some Jvm.ClassFile.FieldType.int)) ∈ BIG := big_2 117 rfl rfl
theorem b_358 : (Jvm.Cond.methodLink "MovingBlock" (143 : Nat) ({ cls := "MovingBlock", name := "messagesNotTaken", desc := "()I" } : Jvm.MethodName)) ∈ BIG := big_2 118 rfl rfl
theorem b_360 : (Jvm.Cond.instanceMethod ({ cls := "MovingBlock", name := "messagesNotTaken", desc := "()I" } : Jvm.MethodName)) ∈ BIG := big_2 120 rfl rfl
theorem b_361 : (Jvm.Cond.code ({ cls := "MovingBlock", name := "messagesNotTaken", desc := "()I" } : Jvm.MethodName) prog_1_method_22_code (3 : Nat) (Option.some Jvm.ClassFile.FieldType.int)) ∈ BIG := big_2 121 rfl rfl
theorem b_362 : (Jvm.Cond.classLink "MovingBlockLaw" (10 : Nat) "MovingBlockModel") ∈ BIG := big_2 122 rfl rfl
theorem b_363 : (Jvm.Cond.instantiable "MovingBlockModel" (32 : Nat)) ∈ BIG := big_2 123 rfl rfl
theorem b_364 : (Jvm.Cond.methodLink "MovingBlockLaw" (12 : Nat) ({ cls := "MovingBlockModel", name := "<init>", desc := "()V" } : Jvm.MethodName)) ∈ BIG := big_2 124 rfl rfl
theorem b_365 : (Jvm.Cond.instanceMethod ({ cls := "MovingBlockModel", name := "<init>", desc := "()V" } : Jvm.MethodName)) ∈ BIG := big_2 125 rfl rfl
theorem b_366 : (Jvm.Cond.code ({ cls := "MovingBlockModel", name := "<init>", desc := "()V" } : Jvm.MethodName) prog_7_method_1_code (1 : Nat) (Option.none : Option Jvm.ClassFile.FieldType)) ∈ BIG := big_2 126 rfl rfl
theorem b_367 : (Jvm.Cond.methodLink "MovingBlockModel" (1 : Nat) ({ cls := "java/lang/Object", name := "<init>", desc := "()V" } : Jvm.MethodName)) ∈ BIG := big_2 127 rfl rfl
theorem b_368 : (Jvm.Cond.constantLong "MovingBlockModel" (16 : Nat) (32768 : Int64)) ∈ BIG := big_2 128 rfl rfl
theorem b_369 : (Jvm.Cond.constantLong "MovingBlockModel" (44 : Nat) (-1 : Int64)) ∈ BIG := big_2 129 rfl rfl
theorem b_370 : (Jvm.Cond.fieldLink "MovingBlockModel" (7 : Nat) "MovingBlockModel" "limit" "[I") ∈ BIG := big_2 130 rfl rfl
theorem b_371 : (Jvm.Cond.fieldLink "MovingBlockModel" (13 : Nat) "MovingBlockModel" "grade" "[I") ∈ BIG := big_2 131 rfl rfl
theorem b_372 : (Jvm.Cond.fieldLink "MovingBlockModel" (18 : Nat) "MovingBlockModel" "holdAt" "[J") ∈ BIG := big_2 132 rfl rfl
theorem b_373 : (Jvm.Cond.fieldLink "MovingBlockModel" (22 : Nat) "MovingBlockModel" "holdClosed" "[Z") ∈ BIG := big_2 133 rfl rfl
theorem b_374 : (Jvm.Cond.fieldLink "MovingBlockModel" (26 : Nat) "MovingBlockModel" "down" "[Z") ∈ BIG := big_2 134 rfl rfl
theorem b_375 : (Jvm.Cond.fieldLink "MovingBlockModel" (97 : Nat) "MovingBlockModel" "trains" "I") ∈ BIG := big_2 135 rfl rfl
theorem b_376 : (Jvm.Cond.fieldLink "MovingBlockModel" (29 : Nat) "MovingBlockModel" "length" "[J") ∈ BIG := big_2 136 rfl rfl
theorem b_377 : (Jvm.Cond.fieldLink "MovingBlockModel" (32 : Nat) "MovingBlockModel" "front" "[J") ∈ BIG := big_2 137 rfl rfl
theorem b_378 : (Jvm.Cond.fieldLink "MovingBlockModel" (35 : Nat) "MovingBlockModel" "speed" "[J") ∈ BIG := big_2 138 rfl rfl
theorem b_379 : (Jvm.Cond.fieldLink "MovingBlockModel" (38 : Nat) "MovingBlockModel" "estimate" "[J") ∈ BIG := big_2 139 rfl rfl
theorem b_380 : (Jvm.Cond.fieldLink "MovingBlockModel" (41 : Nat) "MovingBlockModel" "doubt" "[J") ∈ BIG := big_2 140 rfl rfl
theorem b_381 : (Jvm.Cond.fieldLink "MovingBlockModel" (46 : Nat) "MovingBlockModel" "authority" "[J") ∈ BIG := big_2 141 rfl rfl
theorem b_382 : (Jvm.Cond.fieldLink "MovingBlockModel" (49 : Nat) "MovingBlockModel" "authorityStamp" "[I") ∈ BIG := big_2 142 rfl rfl
theorem b_383 : (Jvm.Cond.fieldLink "MovingBlockModel" (52 : Nat) "MovingBlockModel" "saidReach" "[J") ∈ BIG := big_2 143 rfl rfl
theorem b_384 : (Jvm.Cond.fieldLink "MovingBlockModel" (55 : Nat) "MovingBlockModel" "saidTail" "[J") ∈ BIG := big_2 144 rfl rfl
theorem b_385 : (Jvm.Cond.fieldLink "MovingBlockModel" (58 : Nat) "MovingBlockModel" "reportStamp" "[I") ∈ BIG := big_2 145 rfl rfl
theorem b_386 : (Jvm.Cond.fieldLink "MovingBlockModel" (61 : Nat) "MovingBlockModel" "wish" "[I") ∈ BIG := big_2 146 rfl rfl
theorem b_387 : (Jvm.Cond.fieldLink "MovingBlockModel" (64 : Nat) "MovingBlockModel" "drift" "[I") ∈ BIG := big_2 147 rfl rfl
theorem b_388 : (Jvm.Cond.fieldLink "MovingBlockModel" (67 : Nat) "MovingBlockModel" "up" "[I") ∈ BIG := big_2 148 rfl rfl
theorem b_389 : (Jvm.Cond.fieldLink "MovingBlockModel" (70 : Nat) "MovingBlockModel" "back" "[I") ∈ BIG := big_2 149 rfl rfl
theorem b_390 : (Jvm.Cond.fieldLink "MovingBlockModel" (73 : Nat) "MovingBlockModel" "emergency" "[Z") ∈ BIG := big_2 150 rfl rfl
theorem b_391 : (Jvm.Cond.fieldLink "MovingBlockModel" (76 : Nat) "MovingBlockModel" "emergencies" "[I") ∈ BIG := big_2 151 rfl rfl
theorem b_392 : (Jvm.Cond.fieldLink "MovingBlockModel" (79 : Nat) "MovingBlockModel" "mAuthority" "[Z") ∈ BIG := big_2 152 rfl rfl
theorem b_393 : (Jvm.Cond.fieldLink "MovingBlockModel" (82 : Nat) "MovingBlockModel" "mTrain" "[I") ∈ BIG := big_2 153 rfl rfl
theorem b_394 : (Jvm.Cond.fieldLink "MovingBlockModel" (85 : Nat) "MovingBlockModel" "mStamp" "[I") ∈ BIG := big_2 154 rfl rfl
theorem b_395 : (Jvm.Cond.fieldLink "MovingBlockModel" (88 : Nat) "MovingBlockModel" "mDue" "[I") ∈ BIG := big_2 155 rfl rfl
theorem b_396 : (Jvm.Cond.fieldLink "MovingBlockModel" (91 : Nat) "MovingBlockModel" "mFirst" "[J") ∈ BIG := big_2 156 rfl rfl
theorem b_397 : (Jvm.Cond.fieldLink "MovingBlockModel" (94 : Nat) "MovingBlockModel" "mSecond" "[J") ∈ BIG := big_2 157 rfl rfl
theorem b_398 : (Jvm.Cond.fieldLink "MovingBlockModel" (121 : Nat) "MovingBlockModel" "messages" "I") ∈ BIG := big_2 158 rfl rfl
theorem b_399 : (Jvm.Cond.fieldLink "MovingBlockModel" (118 : Nat) "MovingBlockModel" "lost" "I") ∈ BIG := big_2 159 rfl rfl
theorem b_400 : (Jvm.Cond.fieldLink "MovingBlockModel" (127 : Nat) "MovingBlockModel" "stale" "I") ∈ BIG := big_2 160 rfl rfl
theorem b_401 : (Jvm.Cond.fieldLink "MovingBlockModel" (124 : Nat) "MovingBlockModel" "clock" "I") ∈ BIG := big_2 161 rfl rfl
theorem b_402 : (Jvm.Cond.laysFinal "MovingBlockModel" "MovingBlockModel" "limit" "[I") ∈ BIG := big_2 162 rfl rfl
theorem b_403 : (Jvm.Cond.soleField "MovingBlockModel" "limit") ∈ BIG := big_2 163 rfl rfl
theorem b_404 : (Jvm.Cond.laysFinal "MovingBlockModel" "MovingBlockModel" "grade" "[I") ∈ BIG := big_2 164 rfl rfl
theorem b_405 : (Jvm.Cond.soleField "MovingBlockModel" "grade") ∈ BIG := big_2 165 rfl rfl
theorem b_406 : (Jvm.Cond.laysFinal "MovingBlockModel" "MovingBlockModel" "holdAt" "[J") ∈ BIG := big_2 166 rfl rfl
theorem b_407 : (Jvm.Cond.soleField "MovingBlockModel" "holdAt") ∈ BIG := big_2 167 rfl rfl
theorem b_408 : (Jvm.Cond.laysFinal "MovingBlockModel" "MovingBlockModel" "holdClosed" "[Z") ∈ BIG := big_2 168 rfl rfl
theorem b_409 : (Jvm.Cond.soleField "MovingBlockModel" "holdClosed") ∈ BIG := big_2 169 rfl rfl
theorem b_410 : (Jvm.Cond.laysFinal "MovingBlockModel" "MovingBlockModel" "down" "[Z") ∈ BIG := big_2 170 rfl rfl
theorem b_411 : (Jvm.Cond.soleField "MovingBlockModel" "down") ∈ BIG := big_2 171 rfl rfl
theorem b_412 : (Jvm.Cond.lays "MovingBlockModel" "MovingBlockModel" "trains" "I") ∈ BIG := big_2 172 rfl rfl
theorem b_413 : (Jvm.Cond.soleField "MovingBlockModel" "trains") ∈ BIG := big_2 173 rfl rfl
theorem b_414 : (Jvm.Cond.laysFinal "MovingBlockModel" "MovingBlockModel" "length" "[J") ∈ BIG := big_2 174 rfl rfl
theorem b_415 : (Jvm.Cond.soleField "MovingBlockModel" "length") ∈ BIG := big_2 175 rfl rfl
theorem b_416 : (Jvm.Cond.laysFinal "MovingBlockModel" "MovingBlockModel" "front" "[J") ∈ BIG := big_2 176 rfl rfl
theorem b_417 : (Jvm.Cond.soleField "MovingBlockModel" "front") ∈ BIG := big_2 177 rfl rfl
theorem b_418 : (Jvm.Cond.laysFinal "MovingBlockModel" "MovingBlockModel" "speed" "[J") ∈ BIG := big_2 178 rfl rfl
theorem b_419 : (Jvm.Cond.soleField "MovingBlockModel" "speed") ∈ BIG := big_2 179 rfl rfl
theorem b_420 : (Jvm.Cond.laysFinal "MovingBlockModel" "MovingBlockModel" "estimate" "[J") ∈ BIG := big_2 180 rfl rfl
theorem b_421 : (Jvm.Cond.soleField "MovingBlockModel" "estimate") ∈ BIG := big_2 181 rfl rfl
theorem b_422 : (Jvm.Cond.laysFinal "MovingBlockModel" "MovingBlockModel" "doubt" "[J") ∈ BIG := big_2 182 rfl rfl
theorem b_423 : (Jvm.Cond.soleField "MovingBlockModel" "doubt") ∈ BIG := big_2 183 rfl rfl
theorem b_424 : (Jvm.Cond.laysFinal "MovingBlockModel" "MovingBlockModel" "authority" "[J") ∈ BIG := big_2 184 rfl rfl
theorem b_425 : (Jvm.Cond.soleField "MovingBlockModel" "authority") ∈ BIG := big_2 185 rfl rfl
theorem b_426 : (Jvm.Cond.laysFinal "MovingBlockModel" "MovingBlockModel" "authorityStamp" "[I") ∈ BIG := big_2 186 rfl rfl
theorem b_427 : (Jvm.Cond.soleField "MovingBlockModel" "authorityStamp") ∈ BIG := big_2 187 rfl rfl
theorem b_428 : (Jvm.Cond.laysFinal "MovingBlockModel" "MovingBlockModel" "saidReach" "[J") ∈ BIG := big_2 188 rfl rfl
theorem b_429 : (Jvm.Cond.soleField "MovingBlockModel" "saidReach") ∈ BIG := big_2 189 rfl rfl
theorem b_430 : (Jvm.Cond.laysFinal "MovingBlockModel" "MovingBlockModel" "saidTail" "[J") ∈ BIG := big_2 190 rfl rfl
theorem b_431 : (Jvm.Cond.soleField "MovingBlockModel" "saidTail") ∈ BIG := big_2 191 rfl rfl
theorem b_432 : (Jvm.Cond.laysFinal "MovingBlockModel" "MovingBlockModel" "reportStamp" "[I") ∈ BIG := big_2 192 rfl rfl
theorem b_433 : (Jvm.Cond.soleField "MovingBlockModel" "reportStamp") ∈ BIG := big_2 193 rfl rfl
theorem b_434 : (Jvm.Cond.laysFinal "MovingBlockModel" "MovingBlockModel" "wish" "[I") ∈ BIG := big_2 194 rfl rfl
theorem b_435 : (Jvm.Cond.soleField "MovingBlockModel" "wish") ∈ BIG := big_2 195 rfl rfl
theorem b_436 : (Jvm.Cond.laysFinal "MovingBlockModel" "MovingBlockModel" "drift" "[I") ∈ BIG := big_2 196 rfl rfl
theorem b_437 : (Jvm.Cond.soleField "MovingBlockModel" "drift") ∈ BIG := big_2 197 rfl rfl
theorem b_438 : (Jvm.Cond.laysFinal "MovingBlockModel" "MovingBlockModel" "up" "[I") ∈ BIG := big_2 198 rfl rfl
theorem b_439 : (Jvm.Cond.soleField "MovingBlockModel" "up") ∈ BIG := big_2 199 rfl rfl
theorem b_440 : (Jvm.Cond.laysFinal "MovingBlockModel" "MovingBlockModel" "back" "[I") ∈ BIG := big_2 200 rfl rfl
theorem b_441 : (Jvm.Cond.soleField "MovingBlockModel" "back") ∈ BIG := big_2 201 rfl rfl
theorem b_442 : (Jvm.Cond.laysFinal "MovingBlockModel" "MovingBlockModel" "emergency" "[Z") ∈ BIG := big_2 202 rfl rfl
theorem b_443 : (Jvm.Cond.soleField "MovingBlockModel" "emergency") ∈ BIG := big_2 203 rfl rfl
theorem b_444 : (Jvm.Cond.laysFinal "MovingBlockModel" "MovingBlockModel" "emergencies" "[I") ∈ BIG := big_2 204 rfl rfl
theorem b_445 : (Jvm.Cond.soleField "MovingBlockModel" "emergencies") ∈ BIG := big_2 205 rfl rfl
theorem b_446 : (Jvm.Cond.laysFinal "MovingBlockModel" "MovingBlockModel" "mAuthority" "[Z") ∈ BIG := big_2 206 rfl rfl
theorem b_447 : (Jvm.Cond.soleField "MovingBlockModel" "mAuthority") ∈ BIG := big_2 207 rfl rfl
theorem b_448 : (Jvm.Cond.laysFinal "MovingBlockModel" "MovingBlockModel" "mTrain" "[I") ∈ BIG := big_2 208 rfl rfl
theorem b_449 : (Jvm.Cond.soleField "MovingBlockModel" "mTrain") ∈ BIG := big_2 209 rfl rfl
theorem b_450 : (Jvm.Cond.laysFinal "MovingBlockModel" "MovingBlockModel" "mStamp" "[I") ∈ BIG := big_2 210 rfl rfl
theorem b_451 : (Jvm.Cond.soleField "MovingBlockModel" "mStamp") ∈ BIG := big_2 211 rfl rfl
theorem b_452 : (Jvm.Cond.laysFinal "MovingBlockModel" "MovingBlockModel" "mDue" "[I") ∈ BIG := big_2 212 rfl rfl
theorem b_453 : (Jvm.Cond.soleField "MovingBlockModel" "mDue") ∈ BIG := big_2 213 rfl rfl
theorem b_454 : (Jvm.Cond.laysFinal "MovingBlockModel" "MovingBlockModel" "mFirst" "[J") ∈ BIG := big_2 214 rfl rfl
theorem b_455 : (Jvm.Cond.soleField "MovingBlockModel" "mFirst") ∈ BIG := big_2 215 rfl rfl
theorem b_456 : (Jvm.Cond.laysFinal "MovingBlockModel" "MovingBlockModel" "mSecond" "[J") ∈ BIG := big_2 216 rfl rfl
theorem b_457 : (Jvm.Cond.soleField "MovingBlockModel" "mSecond") ∈ BIG := big_2 217 rfl rfl
theorem b_458 : (Jvm.Cond.lays "MovingBlockModel" "MovingBlockModel" "messages" "I") ∈ BIG := big_2 218 rfl rfl
theorem b_459 : (Jvm.Cond.soleField "MovingBlockModel" "messages") ∈ BIG := big_2 219 rfl rfl
theorem b_460 : (Jvm.Cond.lays "MovingBlockModel" "MovingBlockModel" "lost" "I") ∈ BIG := big_2 220 rfl rfl
theorem b_461 : (Jvm.Cond.soleField "MovingBlockModel" "lost") ∈ BIG := big_2 221 rfl rfl
theorem b_462 : (Jvm.Cond.lays "MovingBlockModel" "MovingBlockModel" "stale" "I") ∈ BIG := big_2 222 rfl rfl
theorem b_463 : (Jvm.Cond.soleField "MovingBlockModel" "stale") ∈ BIG := big_2 223 rfl rfl
theorem b_464 : (Jvm.Cond.lays "MovingBlockModel" "MovingBlockModel" "clock" "I") ∈ BIG := big_2 224 rfl rfl
theorem b_465 : (Jvm.Cond.soleField "MovingBlockModel" "clock") ∈ BIG := big_2 225 rfl rfl
theorem b_466 : (Jvm.Cond.superclass "MovingBlockModel" "java/lang/Object") ∈ BIG := big_2 226 rfl rfl
theorem b_467 : (Jvm.Cond.arrayClass Jvm.ClassFile.FieldType.long) ∈ BIG := big_2 227 rfl rfl
theorem b_468 : (Jvm.Cond.methodLink "MovingBlockLaw" (17 : Nat) ({ cls := "MovingBlockModel", name := "piece", desc := "(III)I" } : Jvm.MethodName)) ∈ BIG := big_2 228 rfl rfl
theorem b_469 : (Jvm.Cond.instanceMethod ({ cls := "MovingBlockModel", name := "piece", desc := "(III)I" } : Jvm.MethodName)) ∈ BIG := big_2 229 rfl rfl
theorem b_470 : (Jvm.Cond.selects "MovingBlockModel" ({ cls := "MovingBlockModel", name := "piece", desc := "(III)I" } : Jvm.MethodName) ({ cls := "MovingBlockModel", name := "piece", desc := "(III)I" } : Jvm.MethodName)) ∈ BIG := big_2 230 rfl rfl
theorem b_471 : (Jvm.Cond.code ({ cls := "MovingBlockModel", name := "piece", desc := "(III)I" } : Jvm.MethodName) prog_7_method_4_code (4 : Nat) (Option.some Jvm.ClassFile.FieldType.int)) ∈ BIG := big_2 231 rfl rfl
theorem b_472 : (Jvm.Cond.methodLink "MovingBlockModel" (101 : Nat) ({ cls := "MovingBlockModel", name := "in", desc := "(III)Z" } : Jvm.MethodName)) ∈ BIG := big_2 232 rfl rfl
theorem b_473 : (Jvm.Cond.static ({ cls := "MovingBlockModel", name := "in", desc := "(III)Z" } : Jvm.MethodName)) ∈ BIG := big_2 233 rfl rfl
theorem b_474 : (Jvm.Cond.code ({ cls := "MovingBlockModel", name := "in", desc := "(III)Z" } : Jvm.MethodName) prog_7_method_2_code (3 : Nat) (Option.some Jvm.ClassFile.FieldType.boolean)) ∈ BIG := big_2 234 rfl rfl
theorem b_475 : (Jvm.Cond.constant "MovingBlockModel" (105 : Nat) (-1000000 : Int32)) ∈ BIG := big_2 235 rfl rfl
theorem b_476 : (Jvm.Cond.methodLink "MovingBlockLaw" (22 : Nat) ({ cls := "MovingBlockModel", name := "hold", desc := "(IIZ)I" } : Jvm.MethodName)) ∈ BIG := big_2 236 rfl rfl
theorem b_477 : (Jvm.Cond.instanceMethod ({ cls := "MovingBlockModel", name := "hold", desc := "(IIZ)I" } : Jvm.MethodName)) ∈ BIG := big_2 237 rfl rfl
theorem b_478 : (Jvm.Cond.selects "MovingBlockModel" ({ cls := "MovingBlockModel", name := "hold", desc := "(IIZ)I" } : Jvm.MethodName) ({ cls := "MovingBlockModel", name := "hold", desc := "(IIZ)I" } : Jvm.MethodName)) ∈ BIG := big_2 238 rfl rfl
theorem b_479 : (Jvm.Cond.code ({ cls := "MovingBlockModel", name := "hold", desc := "(IIZ)I" } : Jvm.MethodName) prog_7_method_5_code (4 : Nat) (Option.some Jvm.ClassFile.FieldType.int)) ∈ BIG := big_2 239 rfl rfl
theorem b_480 : (Jvm.Cond.constantLong "MovingBlockModel" (106 : Nat) (8 : Int64)) ∈ BIG := big_3 0 rfl rfl
theorem b_481 : (Jvm.Cond.methodLink "MovingBlockLaw" (27 : Nat) ({ cls := "MovingBlockModel", name := "controller", desc := "(IZ)I" } : Jvm.MethodName)) ∈ BIG := big_3 1 rfl rfl
theorem b_482 : (Jvm.Cond.instanceMethod ({ cls := "MovingBlockModel", name := "controller", desc := "(IZ)I" } : Jvm.MethodName)) ∈ BIG := big_3 2 rfl rfl
theorem b_483 : (Jvm.Cond.selects "MovingBlockModel" ({ cls := "MovingBlockModel", name := "controller", desc := "(IZ)I" } : Jvm.MethodName) ({ cls := "MovingBlockModel", name := "controller", desc := "(IZ)I" } : Jvm.MethodName)) ∈ BIG := big_3 3 rfl rfl
theorem b_484 : (Jvm.Cond.code ({ cls := "MovingBlockModel", name := "controller", desc := "(IZ)I" } : Jvm.MethodName) prog_7_method_6_code (4 : Nat) (Option.some Jvm.ClassFile.FieldType.int)) ∈ BIG := big_3 4 rfl rfl
theorem b_485 : (Jvm.Cond.methodLink "MovingBlockLaw" (32 : Nat) ({ cls := "MovingBlockModel", name := "enter", desc := "(II)I" } : Jvm.MethodName)) ∈ BIG := big_3 5 rfl rfl
theorem b_486 : (Jvm.Cond.instanceMethod ({ cls := "MovingBlockModel", name := "enter", desc := "(II)I" } : Jvm.MethodName)) ∈ BIG := big_3 6 rfl rfl
theorem b_487 : (Jvm.Cond.selects "MovingBlockModel" ({ cls := "MovingBlockModel", name := "enter", desc := "(II)I" } : Jvm.MethodName) ({ cls := "MovingBlockModel", name := "enter", desc := "(II)I" } : Jvm.MethodName)) ∈ BIG := big_3 7 rfl rfl
theorem b_488 : (Jvm.Cond.code ({ cls := "MovingBlockModel", name := "enter", desc := "(II)I" } : Jvm.MethodName) prog_7_method_8_code (3 : Nat) (Option.some Jvm.ClassFile.FieldType.int)) ∈ BIG := big_3 8 rfl rfl
theorem b_489 : (Jvm.Cond.methodLink "MovingBlockModel" (108 : Nat) ({ cls := "MovingBlockModel", name := "rear", desc := "(I)J" } : Jvm.MethodName)) ∈ BIG := big_3 9 rfl rfl
theorem b_491 : (Jvm.Cond.instanceMethod ({ cls := "MovingBlockModel", name := "rear", desc := "(I)J" } : Jvm.MethodName)) ∈ BIG := big_3 11 rfl rfl
theorem b_492 : (Jvm.Cond.code ({ cls := "MovingBlockModel", name := "rear", desc := "(I)J" } : Jvm.MethodName) prog_7_method_7_code (2 : Nat) (Option.some Jvm.ClassFile.FieldType.long)) ∈ BIG := big_3 12 rfl rfl
theorem b_493 : (Jvm.Cond.constantLong "MovingBlockModel" (112 : Nat) (64 : Int64)) ∈ BIG := big_3 13 rfl rfl
theorem b_494 : (Jvm.Cond.methodLink "MovingBlockLaw" (36 : Nat) ({ cls := "MovingBlockModel", name := "demand", desc := "(II)I" } : Jvm.MethodName)) ∈ BIG := big_3 14 rfl rfl
theorem b_495 : (Jvm.Cond.instanceMethod ({ cls := "MovingBlockModel", name := "demand", desc := "(II)I" } : Jvm.MethodName)) ∈ BIG := big_3 15 rfl rfl
theorem b_496 : (Jvm.Cond.selects "MovingBlockModel" ({ cls := "MovingBlockModel", name := "demand", desc := "(II)I" } : Jvm.MethodName) ({ cls := "MovingBlockModel", name := "demand", desc := "(II)I" } : Jvm.MethodName)) ∈ BIG := big_3 16 rfl rfl
theorem b_497 : (Jvm.Cond.code ({ cls := "MovingBlockModel", name := "demand", desc := "(II)I" } : Jvm.MethodName) prog_7_method_9_code (3 : Nat) (Option.some Jvm.ClassFile.FieldType.int)) ∈ BIG := big_3 17 rfl rfl
theorem b_498 : (Jvm.Cond.methodLink "MovingBlockModel" (114 : Nat) ({ cls := "MovingBlockModel", name := "noTrain", desc := "(I)Z" } : Jvm.MethodName)) ∈ BIG := big_3 18 rfl rfl
theorem b_500 : (Jvm.Cond.instanceMethod ({ cls := "MovingBlockModel", name := "noTrain", desc := "(I)Z" } : Jvm.MethodName)) ∈ BIG := big_3 20 rfl rfl
theorem b_501 : (Jvm.Cond.code ({ cls := "MovingBlockModel", name := "noTrain", desc := "(I)Z" } : Jvm.MethodName) prog_7_method_3_code (2 : Nat) (Option.some Jvm.ClassFile.FieldType.boolean)) ∈ BIG := big_3 21 rfl rfl
theorem b_502 : (Jvm.Cond.methodLink "MovingBlockLaw" (40 : Nat) ({ cls := "MovingBlockModel", name := "drift", desc := "(II)I" } : Jvm.MethodName)) ∈ BIG := big_3 22 rfl rfl
theorem b_503 : (Jvm.Cond.instanceMethod ({ cls := "MovingBlockModel", name := "drift", desc := "(II)I" } : Jvm.MethodName)) ∈ BIG := big_3 23 rfl rfl
theorem b_504 : (Jvm.Cond.selects "MovingBlockModel" ({ cls := "MovingBlockModel", name := "drift", desc := "(II)I" } : Jvm.MethodName) ({ cls := "MovingBlockModel", name := "drift", desc := "(II)I" } : Jvm.MethodName)) ∈ BIG := big_3 24 rfl rfl
theorem b_505 : (Jvm.Cond.code ({ cls := "MovingBlockModel", name := "drift", desc := "(II)I" } : Jvm.MethodName) prog_7_method_10_code (3 : Nat) (Option.some Jvm.ClassFile.FieldType.int)) ∈ BIG := big_3 25 rfl rfl
theorem b_506 : (Jvm.Cond.methodLink "MovingBlockLaw" (44 : Nat) ({ cls := "MovingBlockModel", name := "radio", desc := "(III)I" } : Jvm.MethodName)) ∈ BIG := big_3 26 rfl rfl
theorem b_507 : (Jvm.Cond.instanceMethod ({ cls := "MovingBlockModel", name := "radio", desc := "(III)I" } : Jvm.MethodName)) ∈ BIG := big_3 27 rfl rfl
theorem b_508 : (Jvm.Cond.selects "MovingBlockModel" ({ cls := "MovingBlockModel", name := "radio", desc := "(III)I" } : Jvm.MethodName) ({ cls := "MovingBlockModel", name := "radio", desc := "(III)I" } : Jvm.MethodName)) ∈ BIG := big_3 28 rfl rfl
theorem b_509 : (Jvm.Cond.code ({ cls := "MovingBlockModel", name := "radio", desc := "(III)I" } : Jvm.MethodName) prog_7_method_11_code (4 : Nat) (Option.some Jvm.ClassFile.FieldType.int)) ∈ BIG := big_3 29 rfl rfl
theorem b_510 : (Jvm.Cond.methodLink "MovingBlockLaw" (49 : Nat) ({ cls := "MovingBlockModel", name := "tick", desc := "(I)I" } : Jvm.MethodName)) ∈ BIG := big_3 30 rfl rfl
theorem b_511 : (Jvm.Cond.instanceMethod ({ cls := "MovingBlockModel", name := "tick", desc := "(I)I" } : Jvm.MethodName)) ∈ BIG := big_3 31 rfl rfl
theorem b_512 : (Jvm.Cond.selects "MovingBlockModel" ({ cls := "MovingBlockModel", name := "tick", desc := "(I)I" } : Jvm.MethodName) ({ cls := "MovingBlockModel", name := "tick", desc := "(I)I" } : Jvm.MethodName)) ∈ BIG := big_3 32 rfl rfl
theorem b_513 : (Jvm.Cond.code ({ cls := "MovingBlockModel", name := "tick", desc := "(I)I" } : Jvm.MethodName) prog_7_method_26_code (4 : Nat) (Option.some Jvm.ClassFile.FieldType.int)) ∈ BIG := big_3 33 rfl rfl
theorem b_514 : (Jvm.Cond.methodLink "MovingBlockModel" (163 : Nat) ({ cls := "MovingBlockModel", name := "reach", desc := "(I)J" } : Jvm.MethodName)) ∈ BIG := big_3 34 rfl rfl
theorem b_516 : (Jvm.Cond.instanceMethod ({ cls := "MovingBlockModel", name := "reach", desc := "(I)J" } : Jvm.MethodName)) ∈ BIG := big_3 36 rfl rfl
theorem b_517 : (Jvm.Cond.code ({ cls := "MovingBlockModel", name := "reach", desc := "(I)J" } : Jvm.MethodName) prog_7_method_20_code (2 : Nat) (Option.some Jvm.ClassFile.FieldType.long)) ∈ BIG := big_3 37 rfl rfl
theorem b_518 : (Jvm.Cond.methodLink "MovingBlockModel" (166 : Nat) ({ cls := "MovingBlockModel", name := "tail", desc := "(I)J" } : Jvm.MethodName)) ∈ BIG := big_3 38 rfl rfl
theorem b_520 : (Jvm.Cond.instanceMethod ({ cls := "MovingBlockModel", name := "tail", desc := "(I)J" } : Jvm.MethodName)) ∈ BIG := big_3 40 rfl rfl
theorem b_521 : (Jvm.Cond.code ({ cls := "MovingBlockModel", name := "tail", desc := "(I)J" } : Jvm.MethodName) prog_7_method_21_code (2 : Nat) (Option.some Jvm.ClassFile.FieldType.long)) ∈ BIG := big_3 41 rfl rfl
theorem b_522 : (Jvm.Cond.methodLink "MovingBlockModel" (142 : Nat) ({ cls := "MovingBlockModel", name := "send", desc := "(ZIIJJ)V" } : Jvm.MethodName)) ∈ BIG := big_3 42 rfl rfl
theorem b_524 : (Jvm.Cond.instanceMethod ({ cls := "MovingBlockModel", name := "send", desc := "(ZIIJJ)V" } : Jvm.MethodName)) ∈ BIG := big_3 44 rfl rfl
theorem b_525 : (Jvm.Cond.code ({ cls := "MovingBlockModel", name := "send", desc := "(ZIIJJ)V" } : Jvm.MethodName) prog_7_method_12_code (8 : Nat) (Option.none : Option Jvm.ClassFile.FieldType)) ∈ BIG := big_3 45 rfl rfl
theorem b_526 : (Jvm.Cond.methodLink "MovingBlockModel" (177 : Nat) ({ cls := "MovingBlockModel", name := "arrive", desc := "(Z)V" } : Jvm.MethodName)) ∈ BIG := big_3 46 rfl rfl
theorem b_528 : (Jvm.Cond.instanceMethod ({ cls := "MovingBlockModel", name := "arrive", desc := "(Z)V" } : Jvm.MethodName)) ∈ BIG := big_3 48 rfl rfl
theorem b_529 : (Jvm.Cond.code ({ cls := "MovingBlockModel", name := "arrive", desc := "(Z)V" } : Jvm.MethodName) prog_7_method_15_code (3 : Nat) (Option.none : Option Jvm.ClassFile.FieldType)) ∈ BIG := big_3 49 rfl rfl
theorem b_530 : (Jvm.Cond.methodLink "MovingBlockModel" (130 : Nat) ({ cls := "MovingBlockModel", name := "take", desc := "(I)V" } : Jvm.MethodName)) ∈ BIG := big_3 50 rfl rfl
theorem b_532 : (Jvm.Cond.instanceMethod ({ cls := "MovingBlockModel", name := "take", desc := "(I)V" } : Jvm.MethodName)) ∈ BIG := big_3 52 rfl rfl
theorem b_533 : (Jvm.Cond.code ({ cls := "MovingBlockModel", name := "take", desc := "(I)V" } : Jvm.MethodName) prog_7_method_14_code (4 : Nat) (Option.none : Option Jvm.ClassFile.FieldType)) ∈ BIG := big_3 53 rfl rfl
theorem b_534 : (Jvm.Cond.methodLink "MovingBlockModel" (134 : Nat) ({ cls := "MovingBlockModel", name := "drop", desc := "(I)V" } : Jvm.MethodName)) ∈ BIG := big_3 54 rfl rfl
theorem b_536 : (Jvm.Cond.instanceMethod ({ cls := "MovingBlockModel", name := "drop", desc := "(I)V" } : Jvm.MethodName)) ∈ BIG := big_3 56 rfl rfl
theorem b_537 : (Jvm.Cond.code ({ cls := "MovingBlockModel", name := "drop", desc := "(I)V" } : Jvm.MethodName) prog_7_method_13_code (3 : Nat) (Option.none : Option Jvm.ClassFile.FieldType)) ∈ BIG := big_3 57 rfl rfl
theorem b_538 : (Jvm.Cond.methodLink "MovingBlockModel" (181 : Nat) ({ cls := "MovingBlockModel", name := "control", desc := "()V" } : Jvm.MethodName)) ∈ BIG := big_3 58 rfl rfl
theorem b_540 : (Jvm.Cond.instanceMethod ({ cls := "MovingBlockModel", name := "control", desc := "()V" } : Jvm.MethodName)) ∈ BIG := big_3 60 rfl rfl
theorem b_541 : (Jvm.Cond.code ({ cls := "MovingBlockModel", name := "control", desc := "()V" } : Jvm.MethodName) prog_7_method_17_code (3 : Nat) (Option.none : Option Jvm.ClassFile.FieldType)) ∈ BIG := big_3 61 rfl rfl
theorem b_542 : (Jvm.Cond.constantLong "MovingBlockModel" (137 : Nat) (16384 : Int64)) ∈ BIG := big_3 62 rfl rfl
theorem b_543 : (Jvm.Cond.methodLink "MovingBlockModel" (139 : Nat) ({ cls := "MovingBlockModel", name := "worked", desc := "(I)J" } : Jvm.MethodName)) ∈ BIG := big_3 63 rfl rfl
theorem b_545 : (Jvm.Cond.instanceMethod ({ cls := "MovingBlockModel", name := "worked", desc := "(I)J" } : Jvm.MethodName)) ∈ BIG := big_3 65 rfl rfl
theorem b_546 : (Jvm.Cond.code ({ cls := "MovingBlockModel", name := "worked", desc := "(I)J" } : Jvm.MethodName) prog_7_method_16_code (9 : Nat) (Option.some Jvm.ClassFile.FieldType.long)) ∈ BIG := big_3 66 rfl rfl
theorem b_547 : (Jvm.Cond.methodLink "MovingBlockModel" (184 : Nat) ({ cls := "MovingBlockModel", name := "drive", desc := "(I)V" } : Jvm.MethodName)) ∈ BIG := big_3 67 rfl rfl
theorem b_549 : (Jvm.Cond.instanceMethod ({ cls := "MovingBlockModel", name := "drive", desc := "(I)V" } : Jvm.MethodName)) ∈ BIG := big_3 69 rfl rfl
theorem b_550 : (Jvm.Cond.code ({ cls := "MovingBlockModel", name := "drive", desc := "(I)V" } : Jvm.MethodName) prog_7_method_25_code (7 : Nat) (Option.none : Option Jvm.ClassFile.FieldType)) ∈ BIG := big_3 70 rfl rfl
theorem b_551 : (Jvm.Cond.methodLink "MovingBlockModel" (160 : Nat) ({ cls := "MovingBlockModel", name := "old", desc := "(I)Z" } : Jvm.MethodName)) ∈ BIG := big_3 71 rfl rfl
theorem b_553 : (Jvm.Cond.instanceMethod ({ cls := "MovingBlockModel", name := "old", desc := "(I)Z" } : Jvm.MethodName)) ∈ BIG := big_3 73 rfl rfl
theorem b_554 : (Jvm.Cond.code ({ cls := "MovingBlockModel", name := "old", desc := "(I)Z" } : Jvm.MethodName) prog_7_method_22_code (2 : Nat) (Option.some Jvm.ClassFile.FieldType.boolean)) ∈ BIG := big_3 74 rfl rfl
theorem b_555 : (Jvm.Cond.methodLink "MovingBlockModel" (169 : Nat) ({ cls := "MovingBlockModel", name := "safe", desc := "(IJJJ)Z" } : Jvm.MethodName)) ∈ BIG := big_3 75 rfl rfl
theorem b_557 : (Jvm.Cond.instanceMethod ({ cls := "MovingBlockModel", name := "safe", desc := "(IJJJ)Z" } : Jvm.MethodName)) ∈ BIG := big_3 77 rfl rfl
theorem b_558 : (Jvm.Cond.code ({ cls := "MovingBlockModel", name := "safe", desc := "(IJJJ)Z" } : Jvm.MethodName) prog_7_method_19_code (12 : Nat) (Option.some Jvm.ClassFile.FieldType.boolean)) ∈ BIG := big_3 78 rfl rfl
theorem b_559 : (Jvm.Cond.constantLong "MovingBlockModel" (148 : Nat) (12 : Int64)) ∈ BIG := big_3 79 rfl rfl
theorem b_560 : (Jvm.Cond.methodLink "MovingBlockModel" (150 : Nat) ({ cls := "MovingBlockModel", name := "pieceOf", desc := "(J)I" } : Jvm.MethodName)) ∈ BIG := big_3 80 rfl rfl
theorem b_561 : (Jvm.Cond.static ({ cls := "MovingBlockModel", name := "pieceOf", desc := "(J)I" } : Jvm.MethodName)) ∈ BIG := big_3 81 rfl rfl
theorem b_562 : (Jvm.Cond.code ({ cls := "MovingBlockModel", name := "pieceOf", desc := "(J)I" } : Jvm.MethodName) prog_7_method_18_code (2 : Nat) (Option.some Jvm.ClassFile.FieldType.int)) ∈ BIG := big_3 82 rfl rfl
theorem b_563 : (Jvm.Cond.constantLong "MovingBlockModel" (146 : Nat) (4096 : Int64)) ∈ BIG := big_3 83 rfl rfl
theorem b_564 : (Jvm.Cond.methodLink "MovingBlockModel" (173 : Nat) ({ cls := "MovingBlockModel", name := "pull", desc := "(I)I" } : Jvm.MethodName)) ∈ BIG := big_3 84 rfl rfl
theorem b_566 : (Jvm.Cond.instanceMethod ({ cls := "MovingBlockModel", name := "pull", desc := "(I)I" } : Jvm.MethodName)) ∈ BIG := big_3 86 rfl rfl
theorem b_567 : (Jvm.Cond.code ({ cls := "MovingBlockModel", name := "pull", desc := "(I)I" } : Jvm.MethodName) prog_7_method_24_code (10 : Nat) (Option.some Jvm.ClassFile.FieldType.int)) ∈ BIG := big_3 87 rfl rfl
theorem b_568 : (Jvm.Cond.methodLink "MovingBlockModel" (154 : Nat) ({ cls := "MovingBlockModel", name := "next", desc := "(II)J" } : Jvm.MethodName)) ∈ BIG := big_3 88 rfl rfl
theorem b_570 : (Jvm.Cond.instanceMethod ({ cls := "MovingBlockModel", name := "next", desc := "(II)J" } : Jvm.MethodName)) ∈ BIG := big_3 90 rfl rfl
theorem b_571 : (Jvm.Cond.code ({ cls := "MovingBlockModel", name := "next", desc := "(II)J" } : Jvm.MethodName) prog_7_method_23_code (5 : Nat) (Option.some Jvm.ClassFile.FieldType.long)) ∈ BIG := big_3 91 rfl rfl
theorem b_572 : (Jvm.Cond.constantLong "MovingBlockModel" (158 : Nat) (2 : Int64)) ∈ BIG := big_3 92 rfl rfl
theorem b_573 : (Jvm.Cond.methodLink "MovingBlockLaw" (53 : Nat) ({ cls := "MovingBlockModel", name := "measure", desc := "(II)I" } : Jvm.MethodName)) ∈ BIG := big_3 93 rfl rfl
theorem b_574 : (Jvm.Cond.instanceMethod ({ cls := "MovingBlockModel", name := "measure", desc := "(II)I" } : Jvm.MethodName)) ∈ BIG := big_3 94 rfl rfl
theorem b_575 : (Jvm.Cond.selects "MovingBlockModel" ({ cls := "MovingBlockModel", name := "measure", desc := "(II)I" } : Jvm.MethodName) ({ cls := "MovingBlockModel", name := "measure", desc := "(II)I" } : Jvm.MethodName)) ∈ BIG := big_3 95 rfl rfl
theorem b_576 : (Jvm.Cond.code ({ cls := "MovingBlockModel", name := "measure", desc := "(II)I" } : Jvm.MethodName) prog_7_method_28_code (3 : Nat) (Option.some Jvm.ClassFile.FieldType.int)) ∈ BIG := big_3 96 rfl rfl
theorem b_577 : (Jvm.Cond.methodLink "MovingBlockModel" (187 : Nat) ({ cls := "MovingBlockModel", name := "told", desc := "(J)I" } : Jvm.MethodName)) ∈ BIG := big_3 97 rfl rfl
theorem b_578 : (Jvm.Cond.static ({ cls := "MovingBlockModel", name := "told", desc := "(J)I" } : Jvm.MethodName)) ∈ BIG := big_3 98 rfl rfl
theorem b_579 : (Jvm.Cond.code ({ cls := "MovingBlockModel", name := "told", desc := "(J)I" } : Jvm.MethodName) prog_7_method_27_code (2 : Nat) (Option.some Jvm.ClassFile.FieldType.int)) ∈ BIG := big_3 99 rfl rfl
theorem b_580 : (Jvm.Cond.methodLink "MovingBlockLaw" (57 : Nat) ({ cls := "MovingBlockModel", name := "state", desc := "(II)I" } : Jvm.MethodName)) ∈ BIG := big_3 100 rfl rfl
theorem b_581 : (Jvm.Cond.instanceMethod ({ cls := "MovingBlockModel", name := "state", desc := "(II)I" } : Jvm.MethodName)) ∈ BIG := big_3 101 rfl rfl
theorem b_582 : (Jvm.Cond.selects "MovingBlockModel" ({ cls := "MovingBlockModel", name := "state", desc := "(II)I" } : Jvm.MethodName) ({ cls := "MovingBlockModel", name := "state", desc := "(II)I" } : Jvm.MethodName)) ∈ BIG := big_3 102 rfl rfl
theorem b_583 : (Jvm.Cond.code ({ cls := "MovingBlockModel", name := "state", desc := "(II)I" } : Jvm.MethodName) prog_7_method_29_code (5 : Nat) (Option.some Jvm.ClassFile.FieldType.int)) ∈ BIG := big_3 103 rfl rfl
theorem b_584 : (Jvm.Cond.methodLink "MovingBlockLaw" (61 : Nat) ({ cls := "MovingBlockModel", name := "permitted", desc := "(I)I" } : Jvm.MethodName)) ∈ BIG := big_3 104 rfl rfl
theorem b_585 : (Jvm.Cond.instanceMethod ({ cls := "MovingBlockModel", name := "permitted", desc := "(I)I" } : Jvm.MethodName)) ∈ BIG := big_3 105 rfl rfl
theorem b_586 : (Jvm.Cond.selects "MovingBlockModel" ({ cls := "MovingBlockModel", name := "permitted", desc := "(I)I" } : Jvm.MethodName) ({ cls := "MovingBlockModel", name := "permitted", desc := "(I)I" } : Jvm.MethodName)) ∈ BIG := big_3 106 rfl rfl
theorem b_587 : (Jvm.Cond.code ({ cls := "MovingBlockModel", name := "permitted", desc := "(I)I" } : Jvm.MethodName) prog_7_method_30_code (3 : Nat) (Option.some Jvm.ClassFile.FieldType.int)) ∈ BIG := big_3 107 rfl rfl
theorem b_588 : (Jvm.Cond.methodLink "MovingBlockLaw" (65 : Nat) ({ cls := "MovingBlockModel", name := "count", desc := "(I)I" } : Jvm.MethodName)) ∈ BIG := big_3 108 rfl rfl
theorem b_589 : (Jvm.Cond.instanceMethod ({ cls := "MovingBlockModel", name := "count", desc := "(I)I" } : Jvm.MethodName)) ∈ BIG := big_3 109 rfl rfl
theorem b_590 : (Jvm.Cond.selects "MovingBlockModel" ({ cls := "MovingBlockModel", name := "count", desc := "(I)I" } : Jvm.MethodName) ({ cls := "MovingBlockModel", name := "count", desc := "(I)I" } : Jvm.MethodName)) ∈ BIG := big_3 110 rfl rfl
theorem b_591 : (Jvm.Cond.code ({ cls := "MovingBlockModel", name := "count", desc := "(I)I" } : Jvm.MethodName) prog_7_method_31_code (4 : Nat) (Option.some Jvm.ClassFile.FieldType.int)) ∈ BIG := big_3 111 rfl rfl
theorem bp_0 : Cond.selects "MovingBlock" ⟨"MovingBlock", "isNoTrain", "(I)Z"⟩ ⟨"MovingBlock", "isNoTrain", "(I)Z"⟩ ∈ BIG := big_p (List.mem_of_getElem? (i := 0) rfl) rfl
theorem bp_1 : Cond.selects "MovingBlock" ⟨"MovingBlock", "passOneSecond", "()V"⟩ ⟨"MovingBlock", "passOneSecond", "()V"⟩ ∈ BIG := big_p (List.mem_of_getElem? (i := 1) rfl) rfl
theorem bp_2 : Cond.selects "MovingBlock" ⟨"MovingBlock", "sendAuthority", "(I)V"⟩ ⟨"MovingBlock", "sendAuthority", "(I)V"⟩ ∈ BIG := big_p (List.mem_of_getElem? (i := 2) rfl) rfl
theorem bp_3 : Cond.selects "MovingBlock" ⟨"MovingBlock", "endBehindTrainsAhead", "(I)I"⟩ ⟨"MovingBlock", "endBehindTrainsAhead", "(I)I"⟩ ∈ BIG := big_p (List.mem_of_getElem? (i := 3) rfl) rfl
theorem bp_4 : Cond.selects "MovingBlock" ⟨"MovingBlock", "trainsBeyondTheOneBefore", "()I"⟩ ⟨"MovingBlock", "trainsBeyondTheOneBefore", "()I"⟩ ∈ BIG := big_p (List.mem_of_getElem? (i := 4) rfl) rfl
theorem bp_5 : Cond.selects "MovingBlock" ⟨"MovingBlock", "messagesOnTheWay", "()I"⟩ ⟨"MovingBlock", "messagesOnTheWay", "()I"⟩ ∈ BIG := big_p (List.mem_of_getElem? (i := 5) rfl) rfl
theorem bp_6 : Cond.selects "MovingBlock" ⟨"MovingBlock", "messagesLost", "()I"⟩ ⟨"MovingBlock", "messagesLost", "()I"⟩ ∈ BIG := big_p (List.mem_of_getElem? (i := 6) rfl) rfl
theorem bp_7 : Cond.selects "MovingBlock" ⟨"MovingBlock", "messagesNotTaken", "()I"⟩ ⟨"MovingBlock", "messagesNotTaken", "()I"⟩ ∈ BIG := big_p (List.mem_of_getElem? (i := 7) rfl) rfl
theorem bp_8 : Cond.selects "MovingBlockModel" ⟨"MovingBlockModel", "rear", "(I)J"⟩ ⟨"MovingBlockModel", "rear", "(I)J"⟩ ∈ BIG := big_p (List.mem_of_getElem? (i := 8) rfl) rfl
theorem bp_9 : Cond.selects "MovingBlockModel" ⟨"MovingBlockModel", "noTrain", "(I)Z"⟩ ⟨"MovingBlockModel", "noTrain", "(I)Z"⟩ ∈ BIG := big_p (List.mem_of_getElem? (i := 9) rfl) rfl
theorem bp_10 : Cond.selects "MovingBlockModel" ⟨"MovingBlockModel", "reach", "(I)J"⟩ ⟨"MovingBlockModel", "reach", "(I)J"⟩ ∈ BIG := big_p (List.mem_of_getElem? (i := 10) rfl) rfl
theorem bp_11 : Cond.selects "MovingBlockModel" ⟨"MovingBlockModel", "tail", "(I)J"⟩ ⟨"MovingBlockModel", "tail", "(I)J"⟩ ∈ BIG := big_p (List.mem_of_getElem? (i := 11) rfl) rfl
theorem bp_12 : Cond.selects "MovingBlockModel" ⟨"MovingBlockModel", "send", "(ZIIJJ)V"⟩ ⟨"MovingBlockModel", "send", "(ZIIJJ)V"⟩ ∈ BIG := big_p (List.mem_of_getElem? (i := 12) rfl) rfl
theorem bp_13 : Cond.selects "MovingBlockModel" ⟨"MovingBlockModel", "arrive", "(Z)V"⟩ ⟨"MovingBlockModel", "arrive", "(Z)V"⟩ ∈ BIG := big_p (List.mem_of_getElem? (i := 13) rfl) rfl
theorem bp_14 : Cond.selects "MovingBlockModel" ⟨"MovingBlockModel", "take", "(I)V"⟩ ⟨"MovingBlockModel", "take", "(I)V"⟩ ∈ BIG := big_p (List.mem_of_getElem? (i := 14) rfl) rfl
theorem bp_15 : Cond.selects "MovingBlockModel" ⟨"MovingBlockModel", "drop", "(I)V"⟩ ⟨"MovingBlockModel", "drop", "(I)V"⟩ ∈ BIG := big_p (List.mem_of_getElem? (i := 15) rfl) rfl
theorem bp_16 : Cond.selects "MovingBlockModel" ⟨"MovingBlockModel", "control", "()V"⟩ ⟨"MovingBlockModel", "control", "()V"⟩ ∈ BIG := big_p (List.mem_of_getElem? (i := 16) rfl) rfl
theorem bp_17 : Cond.selects "MovingBlockModel" ⟨"MovingBlockModel", "worked", "(I)J"⟩ ⟨"MovingBlockModel", "worked", "(I)J"⟩ ∈ BIG := big_p (List.mem_of_getElem? (i := 17) rfl) rfl
theorem bp_18 : Cond.selects "MovingBlockModel" ⟨"MovingBlockModel", "drive", "(I)V"⟩ ⟨"MovingBlockModel", "drive", "(I)V"⟩ ∈ BIG := big_p (List.mem_of_getElem? (i := 18) rfl) rfl
theorem bp_19 : Cond.selects "MovingBlockModel" ⟨"MovingBlockModel", "old", "(I)Z"⟩ ⟨"MovingBlockModel", "old", "(I)Z"⟩ ∈ BIG := big_p (List.mem_of_getElem? (i := 19) rfl) rfl
theorem bp_20 : Cond.selects "MovingBlockModel" ⟨"MovingBlockModel", "safe", "(IJJJ)Z"⟩ ⟨"MovingBlockModel", "safe", "(IJJJ)Z"⟩ ∈ BIG := big_p (List.mem_of_getElem? (i := 20) rfl) rfl
theorem bp_21 : Cond.selects "MovingBlockModel" ⟨"MovingBlockModel", "pull", "(I)I"⟩ ⟨"MovingBlockModel", "pull", "(I)I"⟩ ∈ BIG := big_p (List.mem_of_getElem? (i := 21) rfl) rfl
theorem bp_22 : Cond.selects "MovingBlockModel" ⟨"MovingBlockModel", "next", "(II)J"⟩ ⟨"MovingBlockModel", "next", "(II)J"⟩ ∈ BIG := big_p (List.mem_of_getElem? (i := 22) rfl) rfl
