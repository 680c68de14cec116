def xT_64 : List Jvm.Cond := [(Jvm.Cond.fieldLink "ServiceRows$DefectRows" (9 : Nat) "ServiceRows$DefectRows" "vehicles" "[I"), (Jvm.Cond.fieldLink "ServiceRows$DefectRows" (15 : Nat) "ServiceRows$DefectRows" "severe" "[Z"), (Jvm.Cond.fieldLink "ServiceRows$DefectRows" (19 : Nat) "ServiceRows$DefectRows" "states" "[I"), (Jvm.Cond.fieldLink "ServiceRows$DefectRows" (22 : Nat) "ServiceRows$DefectRows" "orders" "[I"), (Jvm.Cond.fieldLink "ServiceRows$DefectRows" (25 : Nat) "ServiceRows$DefectRows" "size" "I")]
set_option maxRecDepth 100000 in
theorem xI_64 : ∀ w ∈ xT_64, w ∈ xts := xT_in [97, 98, 99, 100, 101] (by rfl)
set_option maxRecDepth 100000 in
theorem xK_64 : xa_ckM xcl xT_64 xth xm 156 xM_64 = true := by decide +kernel
def xT_65 : List Jvm.Cond := [(Jvm.Cond.fieldLink "ServiceRows$DefectRows" (9 : Nat) "ServiceRows$DefectRows" "vehicles" "[I")]
set_option maxRecDepth 100000 in
theorem xI_65 : ∀ w ∈ xT_65, w ∈ xts := xT_in [97] (by rfl)
set_option maxRecDepth 100000 in
theorem xK_65 : xa_ckM xcl xT_65 xth xm 156 xM_65 = true := by decide +kernel
def xT_66 : List Jvm.Cond := [(Jvm.Cond.fieldLink "ServiceRows$DefectRows" (15 : Nat) "ServiceRows$DefectRows" "severe" "[Z")]
set_option maxRecDepth 100000 in
theorem xI_66 : ∀ w ∈ xT_66, w ∈ xts := xT_in [98] (by rfl)
set_option maxRecDepth 100000 in
theorem xK_66 : xa_ckM xcl xT_66 xth xm 156 xM_66 = true := by decide +kernel
def xT_67 : List Jvm.Cond := [(Jvm.Cond.fieldLink "ServiceRows$DefectRows" (19 : Nat) "ServiceRows$DefectRows" "states" "[I")]
set_option maxRecDepth 100000 in
theorem xI_67 : ∀ w ∈ xT_67, w ∈ xts := xT_in [99] (by rfl)
set_option maxRecDepth 100000 in
theorem xK_67 : xa_ckM xcl xT_67 xth xm 156 xM_67 = true := by decide +kernel
def xT_68 : List Jvm.Cond := [(Jvm.Cond.fieldLink "ServiceRows$DefectRows" (22 : Nat) "ServiceRows$DefectRows" "orders" "[I")]
set_option maxRecDepth 100000 in
theorem xI_68 : ∀ w ∈ xT_68, w ∈ xts := xT_in [100] (by rfl)
set_option maxRecDepth 100000 in
theorem xK_68 : xa_ckM xcl xT_68 xth xm 156 xM_68 = true := by decide +kernel
def xT_69 : List Jvm.Cond := [(Jvm.Cond.fieldLink "ServiceRows$DefectRows" (22 : Nat) "ServiceRows$DefectRows" "orders" "[I")]
set_option maxRecDepth 100000 in
theorem xI_69 : ∀ w ∈ xT_69, w ∈ xts := xT_in [100] (by rfl)
set_option maxRecDepth 100000 in
theorem xK_69 : xa_ckM xcl xT_69 xth xm 156 xM_69 = true := by decide +kernel
def xT_70 : List Jvm.Cond := [(Jvm.Cond.fieldLink "ServiceRows$DefectRows" (15 : Nat) "ServiceRows$DefectRows" "severe" "[Z"), (Jvm.Cond.fieldLink "ServiceRows$DefectRows" (19 : Nat) "ServiceRows$DefectRows" "states" "[I"), (Jvm.Cond.fieldLink "ServiceRows$DefectRows" (22 : Nat) "ServiceRows$DefectRows" "orders" "[I"), (Jvm.Cond.fieldLink "ServiceRows$DefectRows" (25 : Nat) "ServiceRows$DefectRows" "size" "I")]
set_option maxRecDepth 100000 in
theorem xI_70 : ∀ w ∈ xT_70, w ∈ xts := xT_in [98, 99, 100, 101] (by rfl)
set_option maxRecDepth 100000 in
theorem xK_70 : xa_ckM xcl xT_70 xth xm 156 xM_70 = true := by decide +kernel
def xT_71 : List Jvm.Cond := [(Jvm.Cond.fieldLink "ServiceRows$DefectRows" (9 : Nat) "ServiceRows$DefectRows" "vehicles" "[I"), (Jvm.Cond.fieldLink "ServiceRows$DefectRows" (19 : Nat) "ServiceRows$DefectRows" "states" "[I"), (Jvm.Cond.fieldLink "ServiceRows$DefectRows" (25 : Nat) "ServiceRows$DefectRows" "size" "I")]
set_option maxRecDepth 100000 in
theorem xI_71 : ∀ w ∈ xT_71, w ∈ xts := xT_in [97, 99, 101] (by rfl)
set_option maxRecDepth 100000 in
theorem xK_71 : xa_ckM xcl xT_71 xth xm 156 xM_71 = true := by decide +kernel
def xT_72 : List Jvm.Cond := [(Jvm.Cond.fieldLink "ServiceRows$DefectRows" (9 : Nat) "ServiceRows$DefectRows" "vehicles" "[I"), (Jvm.Cond.fieldLink "ServiceRows$DefectRows" (15 : Nat) "ServiceRows$DefectRows" "severe" "[Z"), (Jvm.Cond.fieldLink "ServiceRows$DefectRows" (19 : Nat) "ServiceRows$DefectRows" "states" "[I"), (Jvm.Cond.fieldLink "ServiceRows$DefectRows" (25 : Nat) "ServiceRows$DefectRows" "size" "I")]
set_option maxRecDepth 100000 in
theorem xI_72 : ∀ w ∈ xT_72, w ∈ xts := xT_in [97, 98, 99, 101] (by rfl)
set_option maxRecDepth 100000 in
theorem xK_72 : xa_ckM xcl xT_72 xth xm 156 xM_72 = true := by decide +kernel
def xT_73 : List Jvm.Cond := [(Jvm.Cond.fieldLink "ServiceRows$DefectRows" (9 : Nat) "ServiceRows$DefectRows" "vehicles" "[I"), (Jvm.Cond.fieldLink "ServiceRows$DefectRows" (15 : Nat) "ServiceRows$DefectRows" "severe" "[Z"), (Jvm.Cond.fieldLink "ServiceRows$DefectRows" (19 : Nat) "ServiceRows$DefectRows" "states" "[I"), (Jvm.Cond.fieldLink "ServiceRows$DefectRows" (25 : Nat) "ServiceRows$DefectRows" "size" "I")]
set_option maxRecDepth 100000 in
theorem xI_73 : ∀ w ∈ xT_73, w ∈ xts := xT_in [97, 98, 99, 101] (by rfl)
set_option maxRecDepth 100000 in
theorem xK_73 : xa_ckM xcl xT_73 xth xm 156 xM_73 = true := by decide +kernel
def xT_74 : List Jvm.Cond := [(Jvm.Cond.instanceMethod ({ cls := "java/lang/Object", name := "<init>", desc := "()V" } : Jvm.MethodName)), (Jvm.Cond.code ({ cls := "java/lang/Object", name := "<init>", desc := "()V" } : Jvm.MethodName) object_method_1_code (1 : Nat) (Option.none : Option Jvm.ClassFile.FieldType)), (Jvm.Cond.arrayClass Jvm.ClassFile.FieldType.int), (Jvm.Cond.arrayClass Jvm.ClassFile.FieldType.boolean), (Jvm.Cond.methodLink "ServiceRows$OrderRows" (3 : Nat) ({ cls := "java/lang/Object", name := "<init>", desc := "()V" } : Jvm.MethodName)), (Jvm.Cond.fieldLink "ServiceRows$OrderRows" (9 : Nat) "ServiceRows$OrderRows" "vehicles" "[I"), (Jvm.Cond.fieldLink "ServiceRows$OrderRows" (15 : Nat) "ServiceRows$OrderRows" "open" "[Z"), (Jvm.Cond.fieldLink "ServiceRows$OrderRows" (19 : Nat) "ServiceRows$OrderRows" "ruleMarks" "[Z"), (Jvm.Cond.fieldLink "ServiceRows$OrderRows" (22 : Nat) "ServiceRows$OrderRows" "works" "[I"), (Jvm.Cond.fieldLink "ServiceRows$OrderRows" (25 : Nat) "ServiceRows$OrderRows" "costs" "[I"), (Jvm.Cond.fieldLink "ServiceRows$OrderRows" (28 : Nat) "ServiceRows$OrderRows" "size" "I"), (Jvm.Cond.fieldLink "ServiceRows$OrderRows" (32 : Nat) "ServiceRows$OrderRows" "parts" "I")]
set_option maxRecDepth 100000 in
theorem xI_74 : ∀ w ∈ xT_74, w ∈ xts := xT_in [51, 52, 76, 77, 113, 114, 115, 116, 117, 118, 119, 120] (by rfl)
set_option maxRecDepth 100000 in
theorem xK_74 : xa_ckM xcl xT_74 xth xm 156 xM_74 = true := by decide +kernel
def xT_75 : List Jvm.Cond := [(Jvm.Cond.fieldLink "ServiceRows$OrderRows" (28 : Nat) "ServiceRows$OrderRows" "size" "I")]
set_option maxRecDepth 100000 in
theorem xI_75 : ∀ w ∈ xT_75, w ∈ xts := xT_in [119] (by rfl)
set_option maxRecDepth 100000 in
theorem xK_75 : xa_ckM xcl xT_75 xth xm 156 xM_75 = true := by decide +kernel
def xT_76 : List Jvm.Cond := [(Jvm.Cond.fieldLink "ServiceRows$OrderRows" (32 : Nat) "ServiceRows$OrderRows" "parts" "I")]
set_option maxRecDepth 100000 in
theorem xI_76 : ∀ w ∈ xT_76, w ∈ xts := xT_in [120] (by rfl)
set_option maxRecDepth 100000 in
theorem xK_76 : xa_ckM xcl xT_76 xth xm 156 xM_76 = true := by decide +kernel
def xT_77 : List Jvm.Cond := [(Jvm.Cond.fieldLink "ServiceRows$OrderRows" (9 : Nat) "ServiceRows$OrderRows" "vehicles" "[I"), (Jvm.Cond.fieldLink "ServiceRows$OrderRows" (15 : Nat) "ServiceRows$OrderRows" "open" "[Z"), (Jvm.Cond.fieldLink "ServiceRows$OrderRows" (28 : Nat) "ServiceRows$OrderRows" "size" "I")]
set_option maxRecDepth 100000 in
theorem xI_77 : ∀ w ∈ xT_77, w ∈ xts := xT_in [114, 115, 119] (by rfl)
set_option maxRecDepth 100000 in
theorem xK_77 : xa_ckM xcl xT_77 xth xm 156 xM_77 = true := by decide +kernel
def xT_78 : List Jvm.Cond := [(Jvm.Cond.fieldLink "ServiceRows$OrderRows" (9 : Nat) "ServiceRows$OrderRows" "vehicles" "[I")]
set_option maxRecDepth 100000 in
theorem xI_78 : ∀ w ∈ xT_78, w ∈ xts := xT_in [114] (by rfl)
set_option maxRecDepth 100000 in
theorem xK_78 : xa_ckM xcl xT_78 xth xm 156 xM_78 = true := by decide +kernel
def xT_79 : List Jvm.Cond := [(Jvm.Cond.fieldLink "ServiceRows$OrderRows" (15 : Nat) "ServiceRows$OrderRows" "open" "[Z")]
set_option maxRecDepth 100000 in
theorem xI_79 : ∀ w ∈ xT_79, w ∈ xts := xT_in [115] (by rfl)
set_option maxRecDepth 100000 in
theorem xK_79 : xa_ckM xcl xT_79 xth xm 156 xM_79 = true := by decide +kernel
def xT_80 : List Jvm.Cond := [(Jvm.Cond.fieldLink "ServiceRows$OrderRows" (9 : Nat) "ServiceRows$OrderRows" "vehicles" "[I"), (Jvm.Cond.fieldLink "ServiceRows$OrderRows" (15 : Nat) "ServiceRows$OrderRows" "open" "[Z"), (Jvm.Cond.fieldLink "ServiceRows$OrderRows" (28 : Nat) "ServiceRows$OrderRows" "size" "I")]
set_option maxRecDepth 100000 in
theorem xI_80 : ∀ w ∈ xT_80, w ∈ xts := xT_in [114, 115, 119] (by rfl)
set_option maxRecDepth 100000 in
theorem xK_80 : xa_ckM xcl xT_80 xth xm 156 xM_80 = true := by decide +kernel
def xT_81 : List Jvm.Cond := [(Jvm.Cond.fieldLink "ServiceRows$OrderRows" (15 : Nat) "ServiceRows$OrderRows" "open" "[Z"), (Jvm.Cond.fieldLink "ServiceRows$OrderRows" (28 : Nat) "ServiceRows$OrderRows" "size" "I")]
set_option maxRecDepth 100000 in
theorem xI_81 : ∀ w ∈ xT_81, w ∈ xts := xT_in [115, 119] (by rfl)
set_option maxRecDepth 100000 in
theorem xK_81 : xa_ckM xcl xT_81 xth xm 156 xM_81 = true := by decide +kernel
def xT_82 : List Jvm.Cond := [(Jvm.Cond.fieldLink "ServiceRows$OrderRows" (19 : Nat) "ServiceRows$OrderRows" "ruleMarks" "[Z")]
set_option maxRecDepth 100000 in
theorem xI_82 : ∀ w ∈ xT_82, w ∈ xts := xT_in [116] (by rfl)
set_option maxRecDepth 100000 in
theorem xK_82 : xa_ckM xcl xT_82 xth xm 156 xM_82 = true := by decide +kernel
def xT_83 : List Jvm.Cond := [(Jvm.Cond.fieldLink "ServiceRows$OrderRows" (19 : Nat) "ServiceRows$OrderRows" "ruleMarks" "[Z"), (Jvm.Cond.fieldLink "ServiceRows$OrderRows" (22 : Nat) "ServiceRows$OrderRows" "works" "[I")]
set_option maxRecDepth 100000 in
theorem xI_83 : ∀ w ∈ xT_83, w ∈ xts := xT_in [116, 117] (by rfl)
set_option maxRecDepth 100000 in
theorem xK_83 : xa_ckM xcl xT_83 xth xm 156 xM_83 = true := by decide +kernel
def xT_84 : List Jvm.Cond := [(Jvm.Cond.fieldLink "ServiceRows$OrderRows" (22 : Nat) "ServiceRows$OrderRows" "works" "[I")]
set_option maxRecDepth 100000 in
theorem xI_84 : ∀ w ∈ xT_84, w ∈ xts := xT_in [117] (by rfl)
set_option maxRecDepth 100000 in
theorem xK_84 : xa_ckM xcl xT_84 xth xm 156 xM_84 = true := by decide +kernel
def xT_85 : List Jvm.Cond := [(Jvm.Cond.fieldLink "ServiceRows$OrderRows" (22 : Nat) "ServiceRows$OrderRows" "works" "[I")]
set_option maxRecDepth 100000 in
theorem xI_85 : ∀ w ∈ xT_85, w ∈ xts := xT_in [117] (by rfl)
set_option maxRecDepth 100000 in
theorem xK_85 : xa_ckM xcl xT_85 xth xm 156 xM_85 = true := by decide +kernel
def xT_86 : List Jvm.Cond := [(Jvm.Cond.fieldLink "ServiceRows$OrderRows" (25 : Nat) "ServiceRows$OrderRows" "costs" "[I"), (Jvm.Cond.fieldLink "ServiceRows$OrderRows" (32 : Nat) "ServiceRows$OrderRows" "parts" "I")]
set_option maxRecDepth 100000 in
theorem xI_86 : ∀ w ∈ xT_86, w ∈ xts := xT_in [118, 120] (by rfl)
set_option maxRecDepth 100000 in
theorem xK_86 : xa_ckM xcl xT_86 xth xm 156 xM_86 = true := by decide +kernel
def xT_87 : List Jvm.Cond := [(Jvm.Cond.fieldLink "ServiceRows$OrderRows" (25 : Nat) "ServiceRows$OrderRows" "costs" "[I")]
set_option maxRecDepth 100000 in
theorem xI_87 : ∀ w ∈ xT_87, w ∈ xts := xT_in [118] (by rfl)
set_option maxRecDepth 100000 in
theorem xK_87 : xa_ckM xcl xT_87 xth xm 156 xM_87 = true := by decide +kernel
def xT_88 : List Jvm.Cond := [(Jvm.Cond.fieldLink "ServiceRows$OrderRows" (15 : Nat) "ServiceRows$OrderRows" "open" "[Z")]
set_option maxRecDepth 100000 in
theorem xI_88 : ∀ w ∈ xT_88, w ∈ xts := xT_in [115] (by rfl)
set_option maxRecDepth 100000 in
theorem xK_88 : xa_ckM xcl xT_88 xth xm 156 xM_88 = true := by decide +kernel
def xT_89 : List Jvm.Cond := [(Jvm.Cond.instanceMethod ({ cls := "java/lang/Object", name := "<init>", desc := "()V" } : Jvm.MethodName)), (Jvm.Cond.code ({ cls := "java/lang/Object", name := "<init>", desc := "()V" } : Jvm.MethodName) object_method_1_code (1 : Nat) (Option.none : Option Jvm.ClassFile.FieldType)), (Jvm.Cond.arrayClass Jvm.ClassFile.FieldType.int), (Jvm.Cond.methodLink "ServiceRows$DueRows" (3 : Nat) ({ cls := "java/lang/Object", name := "<init>", desc := "()V" } : Jvm.MethodName)), (Jvm.Cond.fieldLink "ServiceRows$DueRows" (9 : Nat) "ServiceRows$DueRows" "slots" "[I"), (Jvm.Cond.fieldLink "ServiceRows$DueRows" (15 : Nat) "ServiceRows$DueRows" "uppers" "[I"), (Jvm.Cond.fieldLink "ServiceRows$DueRows" (18 : Nat) "ServiceRows$DueRows" "lowers" "[I"), (Jvm.Cond.fieldLink "ServiceRows$DueRows" (21 : Nat) "ServiceRows$DueRows" "size" "I")]
set_option maxRecDepth 100000 in
theorem xI_89 : ∀ w ∈ xT_89, w ∈ xts := xT_in [51, 52, 76, 134, 135, 136, 137, 138] (by rfl)
set_option maxRecDepth 100000 in
theorem xK_89 : xa_ckM xcl xT_89 xth xm 156 xM_89 = true := by decide +kernel
def xT_90 : List Jvm.Cond := [(Jvm.Cond.fieldLink "ServiceRows$DueRows" (21 : Nat) "ServiceRows$DueRows" "size" "I")]
set_option maxRecDepth 100000 in
theorem xI_90 : ∀ w ∈ xT_90, w ∈ xts := xT_in [138] (by rfl)
set_option maxRecDepth 100000 in
theorem xK_90 : xa_ckM xcl xT_90 xth xm 156 xM_90 = true := by decide +kernel
def xT_91 : List Jvm.Cond := [(Jvm.Cond.selects "ServiceRows$DueRows" ({ cls := "ServiceRows$DueRows", name := "placeOf", desc := "(II)I" } : Jvm.MethodName) ({ cls := "ServiceRows$DueRows", name := "placeOf", desc := "(II)I" } : Jvm.MethodName)), (Jvm.Cond.initialized "ServiceRows$DueRows"), (Jvm.Cond.initialized "java/lang/System"), (Jvm.Cond.fieldLink "ServiceRows$DueRows" (9 : Nat) "ServiceRows$DueRows" "slots" "[I"), (Jvm.Cond.fieldLink "ServiceRows$DueRows" (15 : Nat) "ServiceRows$DueRows" "uppers" "[I"), (Jvm.Cond.fieldLink "ServiceRows$DueRows" (18 : Nat) "ServiceRows$DueRows" "lowers" "[I"), (Jvm.Cond.fieldLink "ServiceRows$DueRows" (21 : Nat) "ServiceRows$DueRows" "size" "I"), (Jvm.Cond.methodLink "ServiceRows$DueRows" (25 : Nat) ({ cls := "ServiceRows$DueRows", name := "placeOf", desc := "(II)I" } : Jvm.MethodName)), (Jvm.Cond.instanceMethod ({ cls := "ServiceRows$DueRows", name := "placeOf", desc := "(II)I" } : Jvm.MethodName)), (Jvm.Cond.code ({ cls := "ServiceRows$DueRows", name := "placeOf", desc := "(II)I" } : Jvm.MethodName) prog_3_method_4_code (5 : Nat) (Option.some Jvm.ClassFile.FieldType.int)), (Jvm.Cond.methodLink "ServiceRows$DueRows" (29 : Nat) ({ cls := "java/lang/System", name := "arraycopy", desc := "(Ljava/lang/Object;ILjava/lang/Object;II)V" } : Jvm.MethodName)), (Jvm.Cond.static ({ cls := "java/lang/System", name := "arraycopy", desc := "(Ljava/lang/Object;ILjava/lang/Object;II)V" } : Jvm.MethodName)), (Jvm.Cond.native ({ cls := "java/lang/System", name := "arraycopy", desc := "(Ljava/lang/Object;ILjava/lang/Object;II)V" } : Jvm.MethodName))]
set_option maxRecDepth 100000 in
theorem xI_91 : ∀ w ∈ xT_91, w ∈ xts := xT_in [5, 33, 42, 135, 136, 137, 138, 415, 416, 417, 422, 423, 424] (by rfl)
set_option maxRecDepth 100000 in
theorem xK_91 : xa_ckM xcl xT_91 xth xm 156 xM_91 = true := by decide +kernel
def xT_92 : List Jvm.Cond := [(Jvm.Cond.selects "ServiceRows$DueRows" ({ cls := "ServiceRows$DueRows", name := "isBefore", desc := "(III)Z" } : Jvm.MethodName) ({ cls := "ServiceRows$DueRows", name := "isBefore", desc := "(III)Z" } : Jvm.MethodName)), (Jvm.Cond.initialized "ServiceRows$DueRows"), (Jvm.Cond.fieldLink "ServiceRows$DueRows" (9 : Nat) "ServiceRows$DueRows" "slots" "[I"), (Jvm.Cond.fieldLink "ServiceRows$DueRows" (21 : Nat) "ServiceRows$DueRows" "size" "I"), (Jvm.Cond.methodLink "ServiceRows$DueRows" (35 : Nat) ({ cls := "ServiceRows$DueRows", name := "isBefore", desc := "(III)Z" } : Jvm.MethodName)), (Jvm.Cond.instanceMethod ({ cls := "ServiceRows$DueRows", name := "isBefore", desc := "(III)Z" } : Jvm.MethodName)), (Jvm.Cond.code ({ cls := "ServiceRows$DueRows", name := "isBefore", desc := "(III)Z" } : Jvm.MethodName) prog_3_method_5_code (4 : Nat) (Option.some Jvm.ClassFile.FieldType.boolean))]
set_option maxRecDepth 100000 in
theorem xI_92 : ∀ w ∈ xT_92, w ∈ xts := xT_in [6, 33, 135, 138, 418, 419, 420] (by rfl)
set_option maxRecDepth 100000 in
theorem xK_92 : xa_ckM xcl xT_92 xth xm 156 xM_92 = true := by decide +kernel
def xT_93 : List Jvm.Cond := [(Jvm.Cond.initialized "ServiceRows"), (Jvm.Cond.fieldLink "ServiceRows$DueRows" (15 : Nat) "ServiceRows$DueRows" "uppers" "[I"), (Jvm.Cond.fieldLink "ServiceRows$DueRows" (18 : Nat) "ServiceRows$DueRows" "lowers" "[I"), (Jvm.Cond.static ({ cls := "ServiceRows", name := "isBelow", desc := "(IIII)Z" } : Jvm.MethodName)), (Jvm.Cond.code ({ cls := "ServiceRows", name := "isBelow", desc := "(IIII)Z" } : Jvm.MethodName) prog_1_method_31_code (4 : Nat) (Option.some Jvm.ClassFile.FieldType.boolean)), (Jvm.Cond.methodLinkNest "ServiceRows$DueRows" (39 : Nat) ({ cls := "ServiceRows", name := "isBelow", desc := "(IIII)Z" } : Jvm.MethodName) "ServiceRows")]
set_option maxRecDepth 100000 in
theorem xI_93 : ∀ w ∈ xT_93, w ∈ xts := xT_in [28, 136, 137, 409, 410, 421] (by rfl)
set_option maxRecDepth 100000 in
theorem xK_93 : xa_ckM xcl xT_93 xth xm 156 xM_93 = true := by decide +kernel
def xT_94 : List Jvm.Cond := [(Jvm.Cond.fieldLink "ServiceRows$DueRows" (9 : Nat) "ServiceRows$DueRows" "slots" "[I"), (Jvm.Cond.fieldLink "ServiceRows$DueRows" (21 : Nat) "ServiceRows$DueRows" "size" "I")]
set_option maxRecDepth 100000 in
theorem xI_94 : ∀ w ∈ xT_94, w ∈ xts := xT_in [135, 138] (by rfl)
set_option maxRecDepth 100000 in
theorem xK_94 : xa_ckM xcl xT_94 xth xm 156 xM_94 = true := by decide +kernel
def xT_95 : List Jvm.Cond := [(Jvm.Cond.instanceMethod ({ cls := "java/lang/Object", name := "<init>", desc := "()V" } : Jvm.MethodName)), (Jvm.Cond.code ({ cls := "java/lang/Object", name := "<init>", desc := "()V" } : Jvm.MethodName) object_method_1_code (1 : Nat) (Option.none : Option Jvm.ClassFile.FieldType)), (Jvm.Cond.arrayClass Jvm.ClassFile.FieldType.int), (Jvm.Cond.arrayClass Jvm.ClassFile.FieldType.boolean), (Jvm.Cond.methodLink "ServiceRowsModel" (1 : Nat) ({ cls := "java/lang/Object", name := "<init>", desc := "()V" } : Jvm.MethodName)), (Jvm.Cond.fieldLink "ServiceRowsModel" (7 : Nat) "ServiceRowsModel" "small" "I"), (Jvm.Cond.fieldLink "ServiceRowsModel" (13 : Nat) "ServiceRowsModel" "station" "[I"), (Jvm.Cond.fieldLink "ServiceRowsModel" (17 : Nat) "ServiceRowsModel" "isSpare" "[Z"), (Jvm.Cond.fieldLink "ServiceRowsModel" (21 : Nat) "ServiceRowsModel" "kilometres" "[I"), (Jvm.Cond.fieldLink "ServiceRowsModel" (24 : Nat) "ServiceRowsModel" "hours" "[I"), (Jvm.Cond.fieldLink "ServiceRowsModel" (27 : Nat) "ServiceRowsModel" "oil" "[I"), (Jvm.Cond.fieldLink "ServiceRowsModel" (30 : Nat) "ServiceRowsModel" "interval" "[I"), (Jvm.Cond.fieldLink "ServiceRowsModel" (33 : Nat) "ServiceRowsModel" "served" "[I"), (Jvm.Cond.fieldLink "ServiceRowsModel" (36 : Nat) "ServiceRowsModel" "ends" "[I"), (Jvm.Cond.fieldLink "ServiceRowsModel" (39 : Nat) "ServiceRowsModel" "warranty" "[I"), (Jvm.Cond.fieldLink "ServiceRowsModel" (42 : Nat) "ServiceRowsModel" "defectVehicle" "[I"), (Jvm.Cond.fieldLink "ServiceRowsModel" (45 : Nat) "ServiceRowsModel" "severe" "[Z"), (Jvm.Cond.fieldLink "ServiceRowsModel" (48 : Nat) "ServiceRowsModel" "defectState" "[I"), (Jvm.Cond.fieldLink "ServiceRowsModel" (51 : Nat) "ServiceRowsModel" "orderVehicle" "[I"), (Jvm.Cond.fieldLink "ServiceRowsModel" (54 : Nat) "ServiceRowsModel" "orderDone" "[Z"), (Jvm.Cond.fieldLink "ServiceRowsModel" (57 : Nat) "ServiceRowsModel" "orderCost" "[I"), (Jvm.Cond.fieldLink "ServiceRowsModel" (60 : Nat) "ServiceRowsModel" "orderRule" "[Z"), (Jvm.Cond.fieldLink "ServiceRowsModel" (63 : Nat) "ServiceRowsModel" "orderDefect" "[Z")]
set_option maxRecDepth 100000 in
theorem xI_95 : ∀ w ∈ xT_95, w ∈ xts := xT_in [51, 52, 76, 77, 732, 737, 739, 740, 741, 742, 743, 745, 746, 747, 748, 750, 751, 752, 754, 755, 756, 757, 758] (by rfl)
set_option maxRecDepth 100000 in
theorem xK_95 : xa_ckM xcl xT_95 xth xm 156 xM_95 = true := by decide +kernel
