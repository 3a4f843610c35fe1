/-! NAMES: each method by its class and name: kc_ its code, ky_ its name, kw_ its one word; km_ words of the tables by their places (written by wip/gen/names.py) -/
abbrev kc_B_init : ByteArray := prog_1_method_1_code
abbrev ky_B_init : MethodName := ⟨"HostBridge", "<init>", "()V"⟩
abbrev kw_B_init : List Cond := [.code ky_B_init kc_B_init 1 none]
abbrev kc_W_init : ByteArray := prog_8_method_1_code
abbrev ky_W_init : MethodName := ⟨"HostBridge$World", "<init>", "()V"⟩
abbrev kw_W_init : List Cond := [.code ky_W_init kc_W_init 1 none]
abbrev kc_M_init : ByteArray := prog_6_method_1_code
abbrev ky_M_init : MethodName := ⟨"HostBridge$Methods", "<init>", "()V"⟩
abbrev kw_M_init : List Cond := [.code ky_M_init kc_M_init 1 none]
abbrev kc_A_init : ByteArray := prog_3_method_1_code
abbrev ky_A_init : MethodName := ⟨"HostBridge$Arguments", "<init>", "(LHostBridge$World;)V"⟩
abbrev kw_A_init : List Cond := [.code ky_A_init kc_A_init 2 none]
abbrev kc_C_init : ByteArray := prog_4_method_1_code
abbrev ky_C_init : MethodName := ⟨"HostBridge$Choice", "<init>", "(LHostBridge$World;LHostBridge$Methods;LHostBridge$Arguments;)V"⟩
abbrev kw_C_init : List Cond := [.code ky_C_init kc_C_init 4 none]
abbrev kc_D_init : ByteArray := prog_5_method_1_code
abbrev ky_D_init : MethodName := ⟨"HostBridge$Diary", "<init>", "()V"⟩
abbrev kw_D_init : List Cond := [.code ky_D_init kc_D_init 1 none]
abbrev kc_S_init : ByteArray := prog_2_method_1_code
abbrev ky_S_init : MethodName := ⟨"HostBridge$Answers", "<init>", "()V"⟩
abbrev kw_S_init : List Cond := [.code ky_S_init kc_S_init 1 none]
abbrev kc_B_calls : ByteArray := prog_1_method_11_code
abbrev ky_B_calls : MethodName := ⟨"HostBridge", "calls", "()I"⟩
abbrev kw_B_calls : List Cond := [.code ky_B_calls kc_B_calls 1 (some .int)]
abbrev kc_L_klass : ByteArray := method_3_code
abbrev ky_L_klass : MethodName := ⟨"HostBridgeLaw", "klass", "(LHostBridge;I[J)I"⟩
abbrev kw_L_klass : List Cond := [.codeWith ky_L_klass kc_L_klass 4 (some .int) [(0, 9, 12, 13), (0, 9, 15, 15)]]
abbrev kc_B_klass : ByteArray := prog_1_method_2_code
abbrev ky_B_klass : MethodName := ⟨"HostBridge", "klass", "(I)I"⟩
abbrev kw_B_klass : List Cond := [.code ky_B_klass kc_B_klass 2 (some .int)]
abbrev kc_W_hasClass : ByteArray := prog_8_method_2_code
abbrev ky_W_hasClass : MethodName := ⟨"HostBridge$World", "hasClass", "(I)Z"⟩
abbrev kw_W_hasClass : List Cond := [.code ky_W_hasClass kc_W_hasClass 2 (some .boolean)]
abbrev kc_W_addClass : ByteArray := prog_8_method_6_code
abbrev ky_W_addClass : MethodName := ⟨"HostBridge$World", "addClass", "(I)I"⟩
abbrev kw_W_addClass : List Cond := [.code ky_W_addClass kc_W_addClass 2 (some .int)]
abbrev kc_L_method : ByteArray := method_4_code
abbrev ky_L_method : MethodName := ⟨"HostBridgeLaw", "method", "(LHostBridge;IIIII[J)I"⟩
abbrev kw_L_method : List Cond := [.codeWith ky_L_method kc_L_method 8 (some .int) [(0, 16, 19, 13), (0, 16, 23, 15)]]
abbrev kc_B_method : ByteArray := prog_1_method_3_code
abbrev ky_B_method : MethodName := ⟨"HostBridge", "method", "(IIIII)I"⟩
abbrev kw_B_method : List Cond := [.code ky_B_method kc_B_method 6 (some .int)]
abbrev kc_B_isName : ByteArray := prog_1_method_16_code
abbrev ky_B_isName : MethodName := ⟨"HostBridge", "isName", "(I)Z"⟩
abbrev kw_B_isName : List Cond := [.code ky_B_isName kc_B_isName 1 (some .boolean)]
abbrev kc_W_hasTypes : ByteArray := prog_8_method_5_code
abbrev ky_W_hasTypes : MethodName := ⟨"HostBridge$World", "hasTypes", "(II)Z"⟩
abbrev kw_W_hasTypes : List Cond := [.code ky_W_hasTypes kc_W_hasTypes 4 (some .boolean)]
abbrev kc_B_typeAt : ByteArray := prog_1_method_17_code
abbrev ky_B_typeAt : MethodName := ⟨"HostBridge", "typeAt", "(III)I"⟩
abbrev kw_B_typeAt : List Cond := [.code ky_B_typeAt kc_B_typeAt 3 (some .int)]
abbrev kc_W_hasType : ByteArray := prog_8_method_4_code
abbrev ky_W_hasType : MethodName := ⟨"HostBridge$World", "hasType", "(I)Z"⟩
abbrev kw_W_hasType : List Cond := [.code ky_W_hasType kc_W_hasType 2 (some .boolean)]
abbrev kc_M_find : ByteArray := prog_6_method_4_code
abbrev ky_M_find : MethodName := ⟨"HostBridge$Methods", "find", "(IIII)I"⟩
abbrev kw_M_find : List Cond := [.code ky_M_find kc_M_find 6 (some .int)]
abbrev kc_M_isCalled : ByteArray := prog_6_method_3_code
abbrev ky_M_isCalled : MethodName := ⟨"HostBridge$Methods", "isCalled", "(IIII)Z"⟩
abbrev kw_M_isCalled : List Cond := [.code ky_M_isCalled kc_M_isCalled 5 (some .boolean)]
abbrev kc_M_add : ByteArray := prog_6_method_2_code
abbrev ky_M_add : MethodName := ⟨"HostBridge$Methods", "add", "(IIII)I"⟩
abbrev kw_M_add : List Cond := [.code ky_M_add kc_M_add 5 (some .int)]
abbrev kc_L_object : ByteArray := method_5_code
abbrev ky_L_object : MethodName := ⟨"HostBridgeLaw", "object", "(LHostBridge;I[J)I"⟩
abbrev kw_L_object : List Cond := [.codeWith ky_L_object kc_L_object 4 (some .int) [(0, 9, 12, 13), (0, 9, 15, 15)]]
abbrev kc_B_object : ByteArray := prog_1_method_4_code
abbrev ky_B_object : MethodName := ⟨"HostBridge", "object", "(I)I"⟩
abbrev kw_B_object : List Cond := [.code ky_B_object kc_B_object 2 (some .int)]
abbrev kc_W_addObject : ByteArray := prog_8_method_7_code
abbrev ky_W_addObject : MethodName := ⟨"HostBridge$World", "addObject", "(I)I"⟩
abbrev kw_W_addObject : List Cond := [.code ky_W_addObject kc_W_addObject 2 (some .int)]
abbrev kc_L_argument : ByteArray := method_6_code
abbrev ky_L_argument : MethodName := ⟨"HostBridgeLaw", "argument", "(LHostBridge;IJ[J)I"⟩
abbrev kw_L_argument : List Cond := [.codeWith ky_L_argument kc_L_argument 6 (some .int) [(0, 11, 14, 13), (0, 11, 18, 15)]]
abbrev kc_B_argument : ByteArray := prog_1_method_5_code
abbrev ky_B_argument : MethodName := ⟨"HostBridge", "argument", "(IJ)I"⟩
abbrev kw_B_argument : List Cond := [.code ky_B_argument kc_B_argument 4 (some .int)]
abbrev kc_B_isValue : ByteArray := prog_1_method_14_code
abbrev ky_B_isValue : MethodName := ⟨"HostBridge", "isValue", "(IJ)Z"⟩
abbrev kw_B_isValue : List Cond := [.code ky_B_isValue kc_B_isValue 4 (some .boolean)]
abbrev kc_A_add : ByteArray := prog_3_method_2_code
abbrev ky_A_add : MethodName := ⟨"HostBridge$Arguments", "add", "(IJ)I"⟩
abbrev kw_A_add : List Cond := [.code ky_A_add kc_A_add 4 (some .int)]
abbrev kc_A_sortOf : ByteArray := prog_3_method_3_code
abbrev ky_A_sortOf : MethodName := ⟨"HostBridge$Arguments", "sortOf", "(IJ)I"⟩
abbrev kw_A_sortOf : List Cond := [.code ky_A_sortOf kc_A_sortOf 3 (some .int)]
abbrev kc_N_isInt : ByteArray := prog_7_method_2_code
abbrev ky_N_isInt : MethodName := ⟨"HostBridge$Numbers", "isInt", "(J)Z"⟩
abbrev kw_N_isInt : List Cond := [.code ky_N_isInt kc_N_isInt 4 (some .boolean)]
abbrev kc_N_isLong : ByteArray := prog_7_method_3_code
abbrev ky_N_isLong : MethodName := ⟨"HostBridge$Numbers", "isLong", "(J)Z"⟩
abbrev kw_N_isLong : List Cond := [.code ky_N_isLong kc_N_isLong 5 (some .boolean)]
abbrev kc_N_isZero : ByteArray := prog_7_method_6_code
abbrev ky_N_isZero : MethodName := ⟨"HostBridge$Numbers", "isZero", "(J)Z"⟩
abbrev kw_N_isZero : List Cond := [.code ky_N_isZero kc_N_isZero 2 (some .boolean)]
abbrev kc_N_withoutSign : ByteArray := prog_7_method_8_code
abbrev ky_N_withoutSign : MethodName := ⟨"HostBridge$Numbers", "withoutSign", "(J)J"⟩
abbrev kw_N_withoutSign : List Cond := [.code ky_N_withoutSign kc_N_withoutSign 2 (some .long)]
abbrev kc_N_powerOf : ByteArray := prog_7_method_9_code
abbrev ky_N_powerOf : MethodName := ⟨"HostBridge$Numbers", "powerOf", "(J)I"⟩
abbrev kw_N_powerOf : List Cond := [.code ky_N_powerOf kc_N_powerOf 2 (some .int)]
abbrev kc_N_fractionOf : ByteArray := prog_7_method_10_code
abbrev ky_N_fractionOf : MethodName := ⟨"HostBridge$Numbers", "fractionOf", "(J)J"⟩
abbrev kw_N_fractionOf : List Cond := [.code ky_N_fractionOf kc_N_fractionOf 2 (some .long)]
abbrev kc_N_wholeOf : ByteArray := prog_7_method_4_code
abbrev ky_N_wholeOf : MethodName := ⟨"HostBridge$Numbers", "wholeOf", "(J)J"⟩
abbrev kw_N_wholeOf : List Cond := [.code ky_N_wholeOf kc_N_wholeOf 7 (some .long)]
abbrev kc_L_weight : ByteArray := method_7_code
abbrev ky_L_weight : MethodName := ⟨"HostBridgeLaw", "weight", "(LHostBridge;II[J)I"⟩
abbrev kw_L_weight : List Cond := [.codeWith ky_L_weight kc_L_weight 5 (some .int) [(0, 10, 13, 13)]]
abbrev kc_B_weight : ByteArray := prog_1_method_6_code
abbrev ky_B_weight : MethodName := ⟨"HostBridge", "weight", "(II)I"⟩
abbrev kw_B_weight : List Cond := [.code ky_B_weight kc_B_weight 3 (some .int)]
abbrev kc_A_weightFor : ByteArray := prog_3_method_6_code
abbrev ky_A_weightFor : MethodName := ⟨"HostBridge$Arguments", "weightFor", "(II)I"⟩
abbrev kw_A_weightFor : List Cond := [.code ky_A_weightFor kc_A_weightFor 3 (some .int)]
abbrev kc_W_distance : ByteArray := prog_8_method_8_code
abbrev ky_W_distance : MethodName := ⟨"HostBridge$World", "distance", "(II)I"⟩
abbrev kw_W_distance : List Cond := [.code ky_W_distance kc_W_distance 5 (some .int)]
abbrev kc_L_call : ByteArray := method_8_code
abbrev ky_L_call : MethodName := ⟨"HostBridgeLaw", "call", "(LHostBridge;II[J)I"⟩
abbrev kw_L_call : List Cond := [.codeWith ky_L_call kc_L_call 5 (some .int) [(0, 10, 13, 13), (0, 10, 17, 35), (0, 10, 21, 15)]]
abbrev kc_B_call : ByteArray := prog_1_method_7_code
abbrev ky_B_call : MethodName := ⟨"HostBridge", "call", "(II)I"⟩
abbrev kw_B_call : List Cond := [.code ky_B_call kc_B_call 5 (some .int)]
abbrev kc_A_takeAll : ByteArray := prog_3_method_4_code
abbrev ky_A_takeAll : MethodName := ⟨"HostBridge$Arguments", "takeAll", "()I"⟩
abbrev kw_A_takeAll : List Cond := [.code ky_A_takeAll kc_A_takeAll 2 (some .int)]
abbrev kc_W_hasObject : ByteArray := prog_8_method_3_code
abbrev ky_W_hasObject : MethodName := ⟨"HostBridge$World", "hasObject", "(I)Z"⟩
abbrev kw_W_hasObject : List Cond := [.code ky_W_hasObject kc_W_hasObject 2 (some .boolean)]
abbrev kc_C_gather : ByteArray := prog_4_method_3_code
abbrev ky_C_gather : MethodName := ⟨"HostBridge$Choice", "gather", "(III)V"⟩
abbrev kw_C_gather : List Cond := [.code ky_C_gather kc_C_gather 6 none]
abbrev kc_C_gatherFrom : ByteArray := prog_4_method_4_code
abbrev ky_C_gatherFrom : MethodName := ⟨"HostBridge$Choice", "gatherFrom", "(III)V"⟩
abbrev kw_C_gatherFrom : List Cond := [.code ky_C_gatherFrom kc_C_gatherFrom 5 none]
abbrev kc_A_fit : ByteArray := prog_3_method_5_code
abbrev ky_A_fit : MethodName := ⟨"HostBridge$Arguments", "fit", "(II)Z"⟩
abbrev kw_A_fit : List Cond := [.code ky_A_fit kc_A_fit 4 (some .boolean)]
abbrev kc_C_isHidden : ByteArray := prog_4_method_5_code
abbrev ky_C_isHidden : MethodName := ⟨"HostBridge$Choice", "isHidden", "(I)Z"⟩
abbrev kw_C_isHidden : List Cond := [.code ky_C_isHidden kc_C_isHidden 3 (some .boolean)]
abbrev kc_C_best : ByteArray := prog_4_method_6_code
abbrev ky_C_best : MethodName := ⟨"HostBridge$Choice", "best", "(I)I"⟩
abbrev kw_C_best : List Cond := [.code ky_C_best kc_C_best 4 (some .int)]
abbrev kc_C_lowestWeight : ByteArray := prog_4_method_7_code
abbrev ky_C_lowestWeight : MethodName := ⟨"HostBridge$Choice", "lowestWeight", "(II)I"⟩
abbrev kw_C_lowestWeight : List Cond := [.code ky_C_lowestWeight kc_C_lowestWeight 5 (some .int)]
abbrev kc_C_weightIn : ByteArray := prog_4_method_9_code
abbrev ky_C_weightIn : MethodName := ⟨"HostBridge$Choice", "weightIn", "(III)I"⟩
abbrev kw_C_weightIn : List Cond := [.code ky_C_weightIn kc_C_weightIn 4 (some .int)]
abbrev kc_J_min : ByteArray := prog_15_method_69_code
abbrev ky_J_min : MethodName := ⟨"java/lang/Math", "min", "(II)I"⟩
abbrev kw_J_min : List Cond := [.code ky_J_min kc_J_min 2 (some .int)]
abbrev kc_C_isLowest : ByteArray := prog_4_method_8_code
abbrev ky_C_isLowest : MethodName := ⟨"HostBridge$Choice", "isLowest", "(II)Z"⟩
abbrev kw_C_isLowest : List Cond := [.code ky_C_isLowest kc_C_isLowest 4 (some .boolean)]
abbrev kc_B_writeDown : ByteArray := prog_1_method_15_code
abbrev ky_B_writeDown : MethodName := ⟨"HostBridge", "writeDown", "(II)V"⟩
abbrev kw_B_writeDown : List Cond := [.code ky_B_writeDown kc_B_writeDown 6 none]
abbrev kc_D_open : ByteArray := prog_5_method_2_code
abbrev ky_D_open : MethodName := ⟨"HostBridge$Diary", "open", "(III)V"⟩
abbrev kw_D_open : List Cond := [.code ky_D_open kc_D_open 5 none]
abbrev kc_D_rowOf : ByteArray := prog_5_method_10_code
abbrev ky_D_rowOf : MethodName := ⟨"HostBridge$Diary", "rowOf", "(I)I"⟩
abbrev kw_D_rowOf : List Cond := [.code ky_D_rowOf kc_D_rowOf 1 (some .int)]
abbrev kc_J_floorMod : ByteArray := prog_15_method_50_code
abbrev ky_J_floorMod : MethodName := ⟨"java/lang/Math", "floorMod", "(II)I"⟩
abbrev kw_J_floorMod : List Cond := [.code ky_J_floorMod kc_J_floorMod 3 (some .int)]
abbrev kc_A_convert : ByteArray := prog_3_method_7_code
abbrev ky_A_convert : MethodName := ⟨"HostBridge$Arguments", "convert", "(II)J"⟩
abbrev kw_A_convert : List Cond := [.code ky_A_convert kc_A_convert 3 (some .long)]
abbrev kc_N_truthOf : ByteArray := prog_7_method_5_code
abbrev ky_N_truthOf : MethodName := ⟨"HostBridge$Numbers", "truthOf", "(J)J"⟩
abbrev kw_N_truthOf : List Cond := [.code ky_N_truthOf kc_N_truthOf 2 (some .long)]
abbrev kc_N_isNan : ByteArray := prog_7_method_7_code
abbrev ky_N_isNan : MethodName := ⟨"HostBridge$Numbers", "isNan", "(J)Z"⟩
abbrev kw_N_isNan : List Cond := [.code ky_N_isNan kc_N_isNan 2 (some .boolean)]
abbrev kc_D_setValue : ByteArray := prog_5_method_3_code
abbrev ky_D_setValue : MethodName := ⟨"HostBridge$Diary", "setValue", "(IJ)V"⟩
abbrev kw_D_setValue : List Cond := [.code ky_D_setValue kc_D_setValue 4 none]
abbrev kc_S_next : ByteArray := prog_2_method_3_code
abbrev ky_S_next : MethodName := ⟨"HostBridge$Answers", "next", "()J"⟩
abbrev kw_S_next : List Cond := [.code ky_S_next kc_S_next 3 (some .long)]
abbrev kc_D_close : ByteArray := prog_5_method_4_code
abbrev ky_D_close : MethodName := ⟨"HostBridge$Diary", "close", "(J)V"⟩
abbrev kw_D_close : List Cond := [.code ky_D_close kc_D_close 3 none]
abbrev kc_L_exact : ByteArray := method_9_code
abbrev ky_L_exact : MethodName := ⟨"HostBridgeLaw", "exact", "(LHostBridge;III[J)I"⟩
abbrev kw_L_exact : List Cond := [.codeWith ky_L_exact kc_L_exact 6 (some .int) [(0, 12, 15, 13), (0, 12, 19, 35)]]
abbrev kc_B_exact : ByteArray := prog_1_method_8_code
abbrev ky_B_exact : MethodName := ⟨"HostBridge", "exact", "(III)I"⟩
abbrev kw_B_exact : List Cond := [.code ky_B_exact kc_B_exact 6 (some .int)]
abbrev kc_C_first : ByteArray := prog_4_method_2_code
abbrev ky_C_first : MethodName := ⟨"HostBridge$Choice", "first", "(IIII)I"⟩
abbrev kw_C_first : List Cond := [.code ky_C_first kc_C_first 8 (some .int)]
abbrev kc_L_answer : ByteArray := method_10_code
abbrev ky_L_answer : MethodName := ⟨"HostBridgeLaw", "answer", "(LHostBridge;J)I"⟩
abbrev kw_L_answer : List Cond := [.codeWith ky_L_answer kc_L_answer 4 (some .int) [(0, 5, 8, 15)]]
abbrev kc_B_answer : ByteArray := prog_1_method_9_code
abbrev ky_B_answer : MethodName := ⟨"HostBridge", "answer", "(J)V"⟩
abbrev kw_B_answer : List Cond := [.code ky_B_answer kc_B_answer 3 none]
abbrev kc_S_add : ByteArray := prog_2_method_2_code
abbrev ky_S_add : MethodName := ⟨"HostBridge$Answers", "add", "(J)V"⟩
abbrev kw_S_add : List Cond := [.code ky_S_add kc_S_add 3 none]
abbrev kc_L_given : ByteArray := method_11_code
abbrev ky_L_given : MethodName := ⟨"HostBridgeLaw", "given", "(LHostBridge;[J)I"⟩
abbrev kw_L_given : List Cond := [.codeWith ky_L_given kc_L_given 3 (some .int) [(0, 7, 10, 15)]]
abbrev kc_B_given : ByteArray := prog_1_method_10_code
abbrev ky_B_given : MethodName := ⟨"HostBridge", "given", "()J"⟩
abbrev kw_B_given : List Cond := [.code ky_B_given kc_B_given 1 (some .long)]
abbrev kc_L_look : ByteArray := method_12_code
abbrev ky_L_look : MethodName := ⟨"HostBridgeLaw", "look", "(LHostBridge;II[J)I"⟩
abbrev kw_L_look : List Cond := [.codeWith ky_L_look kc_L_look 5 (some .int) [(0, 10, 13, 13), (0, 10, 17, 52)]]
abbrev kc_B_look : ByteArray := prog_1_method_12_code
abbrev ky_B_look : MethodName := ⟨"HostBridge", "look", "(II)I"⟩
abbrev kw_B_look : List Cond := [.code ky_B_look kc_B_look 3 (some .int)]
abbrev kc_D_keeps : ByteArray := prog_5_method_5_code
abbrev ky_D_keeps : MethodName := ⟨"HostBridge$Diary", "keeps", "(I)Z"⟩
abbrev kw_D_keeps : List Cond := [.code ky_D_keeps kc_D_keeps 2 (some .boolean)]
abbrev kc_D_objectOf : ByteArray := prog_5_method_6_code
abbrev ky_D_objectOf : MethodName := ⟨"HostBridge$Diary", "objectOf", "(I)I"⟩
abbrev kw_D_objectOf : List Cond := [.code ky_D_objectOf kc_D_objectOf 2 (some .int)]
abbrev kc_D_methodOf : ByteArray := prog_5_method_7_code
abbrev ky_D_methodOf : MethodName := ⟨"HostBridge$Diary", "methodOf", "(I)I"⟩
abbrev kw_D_methodOf : List Cond := [.code ky_D_methodOf kc_D_methodOf 2 (some .int)]
abbrev kc_D_argumentsOf : ByteArray := prog_5_method_8_code
abbrev ky_D_argumentsOf : MethodName := ⟨"HostBridge$Diary", "argumentsOf", "(I)I"⟩
abbrev kw_D_argumentsOf : List Cond := [.code ky_D_argumentsOf kc_D_argumentsOf 2 (some .int)]
abbrev kc_L_converted : ByteArray := method_13_code
abbrev ky_L_converted : MethodName := ⟨"HostBridgeLaw", "converted", "(LHostBridge;II[J)I"⟩
abbrev kw_L_converted : List Cond := [.codeWith ky_L_converted kc_L_converted 5 (some .int) [(0, 9, 12, 52)]]
abbrev kc_B_converted : ByteArray := prog_1_method_13_code
abbrev ky_B_converted : MethodName := ⟨"HostBridge", "converted", "(II)J"⟩
abbrev kw_B_converted : List Cond := [.code ky_B_converted kc_B_converted 3 (some .long)]
abbrev kc_D_valueOf : ByteArray := prog_5_method_9_code
abbrev ky_D_valueOf : MethodName := ⟨"HostBridge$Diary", "valueOf", "(II)J"⟩
abbrev kw_D_valueOf : List Cond := [.code ky_D_valueOf kc_D_valueOf 3 (some .long)]
abbrev kc_R_init : ByteArray := prog_10_method_1_code
abbrev ky_R_init : MethodName := ⟨"HostBridgeModel", "<init>", "()V"⟩
abbrev kw_R_init : List Cond := [.code ky_R_init kc_R_init 1 none]
abbrev kc_R_thrown : ByteArray := prog_10_method_2_code
abbrev ky_R_thrown : MethodName := ⟨"HostBridgeModel", "thrown", "()I"⟩
abbrev kw_R_thrown : List Cond := [.code ky_R_thrown kc_R_thrown 1 (some .int)]
abbrev kc_R_klass : ByteArray := prog_10_method_5_code
abbrev ky_R_klass : MethodName := ⟨"HostBridgeModel", "klass", "(I)I"⟩
abbrev kw_R_klass : List Cond := [.code ky_R_klass kc_R_klass 3 (some .int)]
abbrev kc_R_isNo : ByteArray := prog_10_method_4_code
abbrev ky_R_isNo : MethodName := ⟨"HostBridgeModel", "isNo", "(II)Z"⟩
abbrev kw_R_isNo : List Cond := [.code ky_R_isNo kc_R_isNo 2 (some .boolean)]
abbrev kc_R_throwing : ByteArray := prog_10_method_3_code
abbrev ky_R_throwing : MethodName := ⟨"HostBridgeModel", "throwing", "(ZZZ)Z"⟩
abbrev kw_R_throwing : List Cond := [.code ky_R_throwing kc_R_throwing 4 (some .boolean)]
abbrev kc_R_method : ByteArray := prog_10_method_8_code
abbrev ky_R_method : MethodName := ⟨"HostBridgeModel", "method", "(IIIII)I"⟩
abbrev kw_R_method : List Cond := [.code ky_R_method kc_R_method 9 (some .int)]
abbrev kc_R_asks : ByteArray := prog_10_method_6_code
abbrev ky_R_asks : MethodName := ⟨"HostBridgeModel", "asks", "(II)Z"⟩
abbrev kw_R_asks : List Cond := [.code ky_R_asks kc_R_asks 7 (some .boolean)]
abbrev kc_R_methodOf : ByteArray := prog_10_method_7_code
abbrev ky_R_methodOf : MethodName := ⟨"HostBridgeModel", "methodOf", "(III)I"⟩
abbrev kw_R_methodOf : List Cond := [.code ky_R_methodOf kc_R_methodOf 8 (some .int)]
abbrev kc_R_object : ByteArray := prog_10_method_9_code
abbrev ky_R_object : MethodName := ⟨"HostBridgeModel", "object", "(I)I"⟩
abbrev kw_R_object : List Cond := [.code ky_R_object kc_R_object 3 (some .int)]
abbrev kc_R_argument : ByteArray := prog_10_method_10_code
abbrev ky_R_argument : MethodName := ⟨"HostBridgeModel", "argument", "(IJ)I"⟩
abbrev kw_R_argument : List Cond := [.code ky_R_argument kc_R_argument 5 (some .int)]
abbrev kc_R_weight : ByteArray := prog_10_method_15_code
abbrev ky_R_weight : MethodName := ⟨"HostBridgeModel", "weight", "(II)I"⟩
abbrev kw_R_weight : List Cond := [.code ky_R_weight kc_R_weight 3 (some .int)]
abbrev kc_R_weightOf : ByteArray := prog_10_method_14_code
abbrev ky_R_weightOf : MethodName := ⟨"HostBridgeModel", "weightOf", "(II)I"⟩
abbrev kw_R_weightOf : List Cond := [.code ky_R_weightOf kc_R_weightOf 6 (some .int)]
abbrev kc_R_weightOfNumber : ByteArray := prog_10_method_13_code
abbrev ky_R_weightOfNumber : MethodName := ⟨"HostBridgeModel", "weightOfNumber", "(JI)I"⟩
abbrev kw_R_weightOfNumber : List Cond := [.code ky_R_weightOfNumber kc_R_weightOfNumber 6 (some .int)]
abbrev kc_R_wholeOf : ByteArray := prog_10_method_11_code
abbrev ky_R_wholeOf : MethodName := ⟨"HostBridgeModel", "wholeOf", "(J)J"⟩
abbrev kw_R_wholeOf : List Cond := [.code ky_R_wholeOf kc_R_wholeOf 7 (some .long)]
abbrev kc_R_isMinusZero : ByteArray := prog_10_method_12_code
abbrev ky_R_isMinusZero : MethodName := ⟨"HostBridgeModel", "isMinusZero", "(J)Z"⟩
abbrev kw_R_isMinusZero : List Cond := [.code ky_R_isMinusZero kc_R_isMinusZero 2 (some .boolean)]
abbrev kc_R_call : ByteArray := prog_10_method_23_code
abbrev ky_R_call : MethodName := ⟨"HostBridgeModel", "call", "(II)I"⟩
abbrev kw_R_call : List Cond := [.code ky_R_call kc_R_call 8 (some .int)]
abbrev kc_R_far : ByteArray := prog_10_method_18_code
abbrev ky_R_far : MethodName := ⟨"HostBridgeModel", "far", "(II)I"⟩
abbrev kw_R_far : List Cond := [.code ky_R_far kc_R_far 5 (some .int)]
abbrev kc_R_fits : ByteArray := prog_10_method_20_code
abbrev ky_R_fits : MethodName := ⟨"HostBridgeModel", "fits", "(I)Z"⟩
abbrev kw_R_fits : List Cond := [.code ky_R_fits kc_R_fits 4 (some .boolean)]
abbrev kc_R_isHidden : ByteArray := prog_10_method_19_code
abbrev ky_R_isHidden : MethodName := ⟨"HostBridgeModel", "isHidden", "(II)Z"⟩
abbrev kw_R_isHidden : List Cond := [.code ky_R_isHidden kc_R_isHidden 7 (some .boolean)]
abbrev kc_R_isBest : ByteArray := prog_10_method_21_code
abbrev ky_R_isBest : MethodName := ⟨"HostBridgeModel", "isBest", "(I)Z"⟩
abbrev kw_R_isBest : List Cond := [.code ky_R_isBest kc_R_isBest 5 (some .boolean)]
abbrev kc_R_make : ByteArray := prog_10_method_22_code
abbrev ky_R_make : MethodName := ⟨"HostBridgeModel", "make", "(II)I"⟩
abbrev kw_R_make : List Cond := [.code ky_R_make kc_R_make 5 (some .int)]
abbrev kc_R_turned : ByteArray := prog_10_method_17_code
abbrev ky_R_turned : MethodName := ⟨"HostBridgeModel", "turned", "(II)J"⟩
abbrev kw_R_turned : List Cond := [.code ky_R_turned kc_R_turned 3 (some .long)]
abbrev kc_R_isTrue : ByteArray := prog_10_method_16_code
abbrev ky_R_isTrue : MethodName := ⟨"HostBridgeModel", "isTrue", "(J)Z"⟩
abbrev kw_R_isTrue : List Cond := [.code ky_R_isTrue kc_R_isTrue 4 (some .boolean)]
abbrev kc_R_exact : ByteArray := prog_10_method_24_code
abbrev ky_R_exact : MethodName := ⟨"HostBridgeModel", "exact", "(III)I"⟩
abbrev kw_R_exact : List Cond := [.code ky_R_exact kc_R_exact 7 (some .int)]
abbrev kc_R_answer : ByteArray := prog_10_method_25_code
abbrev ky_R_answer : MethodName := ⟨"HostBridgeModel", "answer", "(J)V"⟩
abbrev kw_R_answer : List Cond := [.code ky_R_answer kc_R_answer 3 none]
abbrev kc_R_given : ByteArray := prog_10_method_26_code
abbrev ky_R_given : MethodName := ⟨"HostBridgeModel", "given", "()J"⟩
abbrev kw_R_given : List Cond := [.code ky_R_given kc_R_given 1 (some .long)]
abbrev kc_R_calls : ByteArray := prog_10_method_27_code
abbrev ky_R_calls : MethodName := ⟨"HostBridgeModel", "calls", "()I"⟩
abbrev kw_R_calls : List Cond := [.code ky_R_calls kc_R_calls 1 (some .int)]
abbrev kc_R_look : ByteArray := prog_10_method_29_code
abbrev ky_R_look : MethodName := ⟨"HostBridgeModel", "look", "(II)I"⟩
abbrev kw_R_look : List Cond := [.code ky_R_look kc_R_look 4 (some .int)]
abbrev kc_R_isGone : ByteArray := prog_10_method_28_code
abbrev ky_R_isGone : MethodName := ⟨"HostBridgeModel", "isGone", "(I)Z"⟩
abbrev kw_R_isGone : List Cond := [.code ky_R_isGone kc_R_isGone 2 (some .boolean)]
abbrev kc_R_converted : ByteArray := prog_10_method_30_code
abbrev ky_R_converted : MethodName := ⟨"HostBridgeModel", "converted", "(II)J"⟩
abbrev kw_R_converted : List Cond := [.code ky_R_converted kc_R_converted 3 (some .long)]
abbrev kc_L_law : ByteArray := code
abbrev ky_L_law : MethodName := ⟨"HostBridgeLaw", "law", "([I)Z"⟩
abbrev kw_L_law : List Cond := [.code ky_L_law kc_L_law 8 (some .boolean)]
theorem km_0 : Cond.initialized "HostBridgeLaw" ∈ cx_T := cx_tab (i := 0) (by decide +kernel) (by decide +kernel)
theorem km_1 : Cond.initialized "HostBridge" ∈ cx_T := cx_tab (i := 1) (by decide +kernel) (by decide +kernel)
theorem km_2 : Cond.initialized "HostBridge$World" ∈ cx_T := cx_tab (i := 2) (by decide +kernel) (by decide +kernel)
theorem km_3 : Cond.initialized "HostBridge$Methods" ∈ cx_T := cx_tab (i := 3) (by decide +kernel) (by decide +kernel)
theorem km_4 : Cond.initialized "HostBridge$Arguments" ∈ cx_T := cx_tab (i := 4) (by decide +kernel) (by decide +kernel)
theorem km_5 : Cond.initialized "HostBridge$Choice" ∈ cx_T := cx_tab (i := 5) (by decide +kernel) (by decide +kernel)
theorem km_6 : Cond.initialized "HostBridge$Diary" ∈ cx_T := cx_tab (i := 6) (by decide +kernel) (by decide +kernel)
theorem km_7 : Cond.initialized "HostBridge$Answers" ∈ cx_T := cx_tab (i := 7) (by decide +kernel) (by decide +kernel)
theorem km_8 : Cond.initialized "HostBridgeModel" ∈ cx_T := cx_tab (i := 8) (by decide +kernel) (by decide +kernel)
theorem km_9 : Cond.initialized "java/lang/Throwable" ∈ cx_T := cx_tab (i := 9) (by decide +kernel) (by decide +kernel)
theorem km_10 : Cond.initialized "java/lang/Exception" ∈ cx_T := cx_tab (i := 10) (by decide +kernel) (by decide +kernel)
theorem km_11 : Cond.initialized "java/lang/RuntimeException" ∈ cx_T := cx_tab (i := 11) (by decide +kernel) (by decide +kernel)
theorem km_12 : Cond.initialized "java/lang/IllegalArgumentException" ∈ cx_T := cx_tab (i := 12) (by decide +kernel) (by decide +kernel)
theorem km_13 : Cond.initialized "java/lang/IllegalStateException" ∈ cx_T := cx_tab (i := 13) (by decide +kernel) (by decide +kernel)
theorem km_14 : Cond.initialized "HostBridge$Numbers" ∈ cx_T := cx_tab (i := 14) (by decide +kernel) (by decide +kernel)
theorem km_15 : Cond.initialized "java/util/NoSuchElementException" ∈ cx_T := cx_tab (i := 15) (by decide +kernel) (by decide +kernel)
theorem km_16 : Cond.initialized "java/lang/Math" ∈ cx_T := cx_tab (i := 16) (by decide +kernel) (by decide +kernel)
theorem km_17 : Cond.initialized "java/lang/IndexOutOfBoundsException" ∈ cx_T := cx_tab (i := 17) (by decide +kernel) (by decide +kernel)
theorem km_18 : Cond.classLink "HostBridgeLaw" 8 "HostBridge" ∈ cx_T := cx_tab (i := 18) (by decide +kernel) (by decide +kernel)
theorem km_19 : Cond.instantiable "HostBridge" 6 ∈ cx_T := cx_tab (i := 19) (by decide +kernel) (by decide +kernel)
theorem km_20 : Cond.methodLink "HostBridgeLaw" 58 ⟨"HostBridge", "<init>", "()V"⟩ ∈ cx_T := cx_tab (i := 20) (by decide +kernel) (by decide +kernel)
theorem km_21 : Cond.instanceMethod ⟨"HostBridge", "<init>", "()V"⟩ ∈ cx_T := cx_tab (i := 21) (by decide +kernel) (by decide +kernel)
theorem km_22 : Cond.code ⟨"HostBridge", "<init>", "()V"⟩ prog_1_method_1_code 1 none ∈ cx_T := cx_tab (i := 22) (by decide +kernel) (by decide +kernel)
theorem km_23 : Cond.methodLink "HostBridge" 1 ⟨"java/lang/Object", "<init>", "()V"⟩ ∈ cx_T := cx_tab (i := 23) (by decide +kernel) (by decide +kernel)
theorem km_24 : Cond.instanceMethod ⟨"java/lang/Object", "<init>", "()V"⟩ ∈ cx_T := cx_tab (i := 24) (by decide +kernel) (by decide +kernel)
theorem km_25 : Cond.code ⟨"java/lang/Object", "<init>", "()V"⟩ object_method_1_code 1 none ∈ cx_T := cx_tab (i := 25) (by decide +kernel) (by decide +kernel)
theorem km_26 : Cond.classLink "HostBridge" 7 "HostBridge$World" ∈ cx_T := cx_tab (i := 26) (by decide +kernel) (by decide +kernel)
theorem km_27 : Cond.instantiable "HostBridge$World" 4 ∈ cx_T := cx_tab (i := 27) (by decide +kernel) (by decide +kernel)
theorem km_28 : Cond.methodLinkNest "HostBridge" 9 ⟨"HostBridge$World", "<init>", "()V"⟩ "HostBridge" ∈ cx_T := cx_tab (i := 28) (by decide +kernel) (by decide +kernel)
theorem km_29 : Cond.instanceMethod ⟨"HostBridge$World", "<init>", "()V"⟩ ∈ cx_T := cx_tab (i := 29) (by decide +kernel) (by decide +kernel)
theorem km_30 : Cond.code ⟨"HostBridge$World", "<init>", "()V"⟩ prog_8_method_1_code 1 none ∈ cx_T := cx_tab (i := 30) (by decide +kernel) (by decide +kernel)
theorem km_31 : Cond.methodLink "HostBridge$World" 3 ⟨"java/lang/Object", "<init>", "()V"⟩ ∈ cx_T := cx_tab (i := 31) (by decide +kernel) (by decide +kernel)
theorem km_32 : Cond.fieldLink "HostBridge$World" 9 "HostBridge$World" "parents" "[I" ∈ cx_T := cx_tab (i := 32) (by decide +kernel) (by decide +kernel)
theorem km_33 : Cond.fieldLinkNest "HostBridge$Choice" 36 "HostBridge$World" "parents" "[I" "HostBridge" ∈ cx_T := cx_tab (i := 33) (by decide +kernel) (by decide +kernel)
theorem km_34 : Cond.fieldLink "HostBridge$World" 15 "HostBridge$World" "classOf" "[I" ∈ cx_T := cx_tab (i := 34) (by decide +kernel) (by decide +kernel)
theorem km_35 : Cond.fieldLinkNest "HostBridge$Arguments" 54 "HostBridge$World" "classOf" "[I" "HostBridge" ∈ cx_T := cx_tab (i := 35) (by decide +kernel) (by decide +kernel)
theorem km_36 : Cond.fieldLinkNest "HostBridge" 146 "HostBridge$World" "classOf" "[I" "HostBridge" ∈ cx_T := cx_tab (i := 36) (by decide +kernel) (by decide +kernel)
theorem km_37 : Cond.fieldLink "HostBridge$World" 18 "HostBridge$World" "classes" "I" ∈ cx_T := cx_tab (i := 37) (by decide +kernel) (by decide +kernel)
theorem km_38 : Cond.fieldLinkNest "HostBridge" 66 "HostBridge$World" "classes" "I" "HostBridge" ∈ cx_T := cx_tab (i := 38) (by decide +kernel) (by decide +kernel)
theorem km_39 : Cond.fieldLink "HostBridge$World" 22 "HostBridge$World" "objects" "I" ∈ cx_T := cx_tab (i := 39) (by decide +kernel) (by decide +kernel)
theorem km_40 : Cond.fieldLinkNest "HostBridge" 111 "HostBridge$World" "objects" "I" "HostBridge" ∈ cx_T := cx_tab (i := 40) (by decide +kernel) (by decide +kernel)
theorem km_41 : Cond.laysFinal "HostBridge$World" "HostBridge$World" "parents" "[I" ∈ cx_T := cx_tab (i := 41) (by decide +kernel) (by decide +kernel)
theorem km_42 : Cond.soleField "HostBridge$World" "parents" ∈ cx_T := cx_tab (i := 42) (by decide +kernel) (by decide +kernel)
theorem km_43 : Cond.laysFinal "HostBridge$World" "HostBridge$World" "classOf" "[I" ∈ cx_T := cx_tab (i := 43) (by decide +kernel) (by decide +kernel)
theorem km_44 : Cond.soleField "HostBridge$World" "classOf" ∈ cx_T := cx_tab (i := 44) (by decide +kernel) (by decide +kernel)
theorem km_45 : Cond.lays "HostBridge$World" "HostBridge$World" "classes" "I" ∈ cx_T := cx_tab (i := 45) (by decide +kernel) (by decide +kernel)
theorem km_46 : Cond.soleField "HostBridge$World" "classes" ∈ cx_T := cx_tab (i := 46) (by decide +kernel) (by decide +kernel)
theorem km_47 : Cond.lays "HostBridge$World" "HostBridge$World" "objects" "I" ∈ cx_T := cx_tab (i := 47) (by decide +kernel) (by decide +kernel)
theorem km_48 : Cond.soleField "HostBridge$World" "objects" ∈ cx_T := cx_tab (i := 48) (by decide +kernel) (by decide +kernel)
theorem km_49 : Cond.superclass "HostBridge$World" "java/lang/Object" ∈ cx_T := cx_tab (i := 49) (by decide +kernel) (by decide +kernel)
theorem km_50 : Cond.arrayClass FieldType.int ∈ cx_T := cx_tab (i := 50) (by decide +kernel) (by decide +kernel)
theorem km_51 : Cond.classLink "HostBridge" 16 "HostBridge$Methods" ∈ cx_T := cx_tab (i := 51) (by decide +kernel) (by decide +kernel)
theorem km_52 : Cond.instantiable "HostBridge$Methods" 5 ∈ cx_T := cx_tab (i := 52) (by decide +kernel) (by decide +kernel)
theorem km_53 : Cond.methodLinkNest "HostBridge" 18 ⟨"HostBridge$Methods", "<init>", "()V"⟩ "HostBridge" ∈ cx_T := cx_tab (i := 53) (by decide +kernel) (by decide +kernel)
theorem km_54 : Cond.instanceMethod ⟨"HostBridge$Methods", "<init>", "()V"⟩ ∈ cx_T := cx_tab (i := 54) (by decide +kernel) (by decide +kernel)
theorem km_55 : Cond.code ⟨"HostBridge$Methods", "<init>", "()V"⟩ prog_6_method_1_code 1 none ∈ cx_T := cx_tab (i := 55) (by decide +kernel) (by decide +kernel)
theorem km_56 : Cond.methodLink "HostBridge$Methods" 3 ⟨"java/lang/Object", "<init>", "()V"⟩ ∈ cx_T := cx_tab (i := 56) (by decide +kernel) (by decide +kernel)
theorem km_57 : Cond.fieldLink "HostBridge$Methods" 9 "HostBridge$Methods" "homes" "[I" ∈ cx_T := cx_tab (i := 57) (by decide +kernel) (by decide +kernel)
theorem km_58 : Cond.fieldLink "HostBridge$Methods" 15 "HostBridge$Methods" "names" "[I" ∈ cx_T := cx_tab (i := 58) (by decide +kernel) (by decide +kernel)
theorem km_59 : Cond.fieldLink "HostBridge$Methods" 18 "HostBridge$Methods" "sizes" "[I" ∈ cx_T := cx_tab (i := 59) (by decide +kernel) (by decide +kernel)
theorem km_60 : Cond.fieldLinkNest "HostBridge" 215 "HostBridge$Methods" "sizes" "[I" "HostBridge" ∈ cx_T := cx_tab (i := 60) (by decide +kernel) (by decide +kernel)
theorem km_61 : Cond.fieldLink "HostBridge$Methods" 21 "HostBridge$Methods" "types" "[I" ∈ cx_T := cx_tab (i := 61) (by decide +kernel) (by decide +kernel)
theorem km_62 : Cond.fieldLinkNest "HostBridge$Choice" 54 "HostBridge$Methods" "types" "[I" "HostBridge" ∈ cx_T := cx_tab (i := 62) (by decide +kernel) (by decide +kernel)
theorem km_63 : Cond.fieldLinkNest "HostBridge" 218 "HostBridge$Methods" "types" "[I" "HostBridge" ∈ cx_T := cx_tab (i := 63) (by decide +kernel) (by decide +kernel)
theorem km_64 : Cond.fieldLink "HostBridge$Methods" 24 "HostBridge$Methods" "count" "I" ∈ cx_T := cx_tab (i := 64) (by decide +kernel) (by decide +kernel)
theorem km_65 : Cond.fieldLinkNest "HostBridge" 103 "HostBridge$Methods" "count" "I" "HostBridge" ∈ cx_T := cx_tab (i := 65) (by decide +kernel) (by decide +kernel)
theorem km_66 : Cond.fieldLinkNest "HostBridge$Choice" 49 "HostBridge$Methods" "count" "I" "HostBridge" ∈ cx_T := cx_tab (i := 66) (by decide +kernel) (by decide +kernel)
theorem km_67 : Cond.laysFinal "HostBridge$Methods" "HostBridge$Methods" "homes" "[I" ∈ cx_T := cx_tab (i := 67) (by decide +kernel) (by decide +kernel)
theorem km_68 : Cond.soleField "HostBridge$Methods" "homes" ∈ cx_T := cx_tab (i := 68) (by decide +kernel) (by decide +kernel)
theorem km_69 : Cond.laysFinal "HostBridge$Methods" "HostBridge$Methods" "names" "[I" ∈ cx_T := cx_tab (i := 69) (by decide +kernel) (by decide +kernel)
theorem km_70 : Cond.soleField "HostBridge$Methods" "names" ∈ cx_T := cx_tab (i := 70) (by decide +kernel) (by decide +kernel)
theorem km_71 : Cond.laysFinal "HostBridge$Methods" "HostBridge$Methods" "sizes" "[I" ∈ cx_T := cx_tab (i := 71) (by decide +kernel) (by decide +kernel)
theorem km_72 : Cond.soleField "HostBridge$Methods" "sizes" ∈ cx_T := cx_tab (i := 72) (by decide +kernel) (by decide +kernel)
theorem km_73 : Cond.laysFinal "HostBridge$Methods" "HostBridge$Methods" "types" "[I" ∈ cx_T := cx_tab (i := 73) (by decide +kernel) (by decide +kernel)
theorem km_74 : Cond.soleField "HostBridge$Methods" "types" ∈ cx_T := cx_tab (i := 74) (by decide +kernel) (by decide +kernel)
theorem km_75 : Cond.lays "HostBridge$Methods" "HostBridge$Methods" "count" "I" ∈ cx_T := cx_tab (i := 75) (by decide +kernel) (by decide +kernel)
theorem km_76 : Cond.soleField "HostBridge$Methods" "count" ∈ cx_T := cx_tab (i := 76) (by decide +kernel) (by decide +kernel)
theorem km_77 : Cond.superclass "HostBridge$Methods" "java/lang/Object" ∈ cx_T := cx_tab (i := 77) (by decide +kernel) (by decide +kernel)
theorem km_78 : Cond.classLink "HostBridge" 23 "HostBridge$Arguments" ∈ cx_T := cx_tab (i := 78) (by decide +kernel) (by decide +kernel)
theorem km_79 : Cond.instantiable "HostBridge$Arguments" 5 ∈ cx_T := cx_tab (i := 79) (by decide +kernel) (by decide +kernel)
theorem km_80 : Cond.methodLink "HostBridge" 25 ⟨"HostBridge$Arguments", "<init>", "(LHostBridge$World;)V"⟩ ∈ cx_T := cx_tab (i := 80) (by decide +kernel) (by decide +kernel)
theorem km_81 : Cond.instanceMethod ⟨"HostBridge$Arguments", "<init>", "(LHostBridge$World;)V"⟩ ∈ cx_T := cx_tab (i := 81) (by decide +kernel) (by decide +kernel)
theorem km_82 : Cond.code ⟨"HostBridge$Arguments", "<init>", "(LHostBridge$World;)V"⟩ prog_3_method_1_code 2 none ∈ cx_T := cx_tab (i := 82) (by decide +kernel) (by decide +kernel)
theorem km_83 : Cond.methodLink "HostBridge$Arguments" 3 ⟨"java/lang/Object", "<init>", "()V"⟩ ∈ cx_T := cx_tab (i := 83) (by decide +kernel) (by decide +kernel)
theorem km_84 : Cond.fieldLink "HostBridge$Arguments" 22 "HostBridge$Arguments" "world" "LHostBridge$World;" ∈ cx_T := cx_tab (i := 84) (by decide +kernel) (by decide +kernel)
theorem km_85 : Cond.fieldLink "HostBridge$Arguments" 9 "HostBridge$Arguments" "kinds" "[I" ∈ cx_T := cx_tab (i := 85) (by decide +kernel) (by decide +kernel)
theorem km_86 : Cond.fieldLink "HostBridge$Arguments" 15 "HostBridge$Arguments" "sorts" "[I" ∈ cx_T := cx_tab (i := 86) (by decide +kernel) (by decide +kernel)
theorem km_87 : Cond.fieldLink "HostBridge$Arguments" 18 "HostBridge$Arguments" "bits" "[J" ∈ cx_T := cx_tab (i := 87) (by decide +kernel) (by decide +kernel)
theorem km_88 : Cond.fieldLink "HostBridge$Arguments" 26 "HostBridge$Arguments" "count" "I" ∈ cx_T := cx_tab (i := 88) (by decide +kernel) (by decide +kernel)
theorem km_89 : Cond.fieldLinkNest "HostBridge" 125 "HostBridge$Arguments" "count" "I" "HostBridge" ∈ cx_T := cx_tab (i := 89) (by decide +kernel) (by decide +kernel)
theorem km_90 : Cond.laysFinal "HostBridge$Arguments" "HostBridge$Arguments" "world" "LHostBridge$World;" ∈ cx_T := cx_tab (i := 90) (by decide +kernel) (by decide +kernel)
theorem km_91 : Cond.soleField "HostBridge$Arguments" "world" ∈ cx_T := cx_tab (i := 91) (by decide +kernel) (by decide +kernel)
theorem km_92 : Cond.laysFinal "HostBridge$Arguments" "HostBridge$Arguments" "kinds" "[I" ∈ cx_T := cx_tab (i := 92) (by decide +kernel) (by decide +kernel)
theorem km_93 : Cond.soleField "HostBridge$Arguments" "kinds" ∈ cx_T := cx_tab (i := 93) (by decide +kernel) (by decide +kernel)
theorem km_94 : Cond.laysFinal "HostBridge$Arguments" "HostBridge$Arguments" "sorts" "[I" ∈ cx_T := cx_tab (i := 94) (by decide +kernel) (by decide +kernel)
theorem km_95 : Cond.soleField "HostBridge$Arguments" "sorts" ∈ cx_T := cx_tab (i := 95) (by decide +kernel) (by decide +kernel)
theorem km_96 : Cond.laysFinal "HostBridge$Arguments" "HostBridge$Arguments" "bits" "[J" ∈ cx_T := cx_tab (i := 96) (by decide +kernel) (by decide +kernel)
theorem km_97 : Cond.soleField "HostBridge$Arguments" "bits" ∈ cx_T := cx_tab (i := 97) (by decide +kernel) (by decide +kernel)
theorem km_98 : Cond.lays "HostBridge$Arguments" "HostBridge$Arguments" "count" "I" ∈ cx_T := cx_tab (i := 98) (by decide +kernel) (by decide +kernel)
theorem km_99 : Cond.soleField "HostBridge$Arguments" "count" ∈ cx_T := cx_tab (i := 99) (by decide +kernel) (by decide +kernel)
theorem km_100 : Cond.superclass "HostBridge$Arguments" "java/lang/Object" ∈ cx_T := cx_tab (i := 100) (by decide +kernel) (by decide +kernel)
theorem km_101 : Cond.arrayClass FieldType.long ∈ cx_T := cx_tab (i := 101) (by decide +kernel) (by decide +kernel)
theorem km_102 : Cond.classLink "HostBridge" 32 "HostBridge$Choice" ∈ cx_T := cx_tab (i := 102) (by decide +kernel) (by decide +kernel)
theorem km_103 : Cond.instantiable "HostBridge$Choice" 6 ∈ cx_T := cx_tab (i := 103) (by decide +kernel) (by decide +kernel)
theorem km_104 : Cond.methodLink "HostBridge" 34 ⟨"HostBridge$Choice", "<init>", "(LHostBridge$World;LHostBridge$Methods;LHostBridge$Arguments;)V"⟩ ∈ cx_T := cx_tab (i := 104) (by decide +kernel) (by decide +kernel)
theorem km_105 : Cond.instanceMethod ⟨"HostBridge$Choice", "<init>", "(LHostBridge$World;LHostBridge$Methods;LHostBridge$Arguments;)V"⟩ ∈ cx_T := cx_tab (i := 105) (by decide +kernel) (by decide +kernel)
theorem km_106 : Cond.code ⟨"HostBridge$Choice", "<init>", "(LHostBridge$World;LHostBridge$Methods;LHostBridge$Arguments;)V"⟩ prog_4_method_1_code 4 none ∈ cx_T := cx_tab (i := 106) (by decide +kernel) (by decide +kernel)
theorem km_107 : Cond.methodLink "HostBridge$Choice" 3 ⟨"java/lang/Object", "<init>", "()V"⟩ ∈ cx_T := cx_tab (i := 107) (by decide +kernel) (by decide +kernel)
theorem km_108 : Cond.fieldLink "HostBridge$Choice" 18 "HostBridge$Choice" "world" "LHostBridge$World;" ∈ cx_T := cx_tab (i := 108) (by decide +kernel) (by decide +kernel)
theorem km_109 : Cond.fieldLink "HostBridge$Choice" 22 "HostBridge$Choice" "methods" "LHostBridge$Methods;" ∈ cx_T := cx_tab (i := 109) (by decide +kernel) (by decide +kernel)
theorem km_110 : Cond.fieldLink "HostBridge$Choice" 26 "HostBridge$Choice" "arguments" "LHostBridge$Arguments;" ∈ cx_T := cx_tab (i := 110) (by decide +kernel) (by decide +kernel)
theorem km_111 : Cond.fieldLink "HostBridge$Choice" 9 "HostBridge$Choice" "candidates" "[I" ∈ cx_T := cx_tab (i := 111) (by decide +kernel) (by decide +kernel)
theorem km_112 : Cond.fieldLink "HostBridge$Choice" 15 "HostBridge$Choice" "lowest" "[I" ∈ cx_T := cx_tab (i := 112) (by decide +kernel) (by decide +kernel)
theorem km_113 : Cond.fieldLink "HostBridge$Choice" 41 "HostBridge$Choice" "count" "I" ∈ cx_T := cx_tab (i := 113) (by decide +kernel) (by decide +kernel)
theorem km_114 : Cond.fieldLinkNest "HostBridge" 154 "HostBridge$Choice" "count" "I" "HostBridge" ∈ cx_T := cx_tab (i := 114) (by decide +kernel) (by decide +kernel)
theorem km_115 : Cond.laysFinal "HostBridge$Choice" "HostBridge$Choice" "world" "LHostBridge$World;" ∈ cx_T := cx_tab (i := 115) (by decide +kernel) (by decide +kernel)
theorem km_116 : Cond.soleField "HostBridge$Choice" "world" ∈ cx_T := cx_tab (i := 116) (by decide +kernel) (by decide +kernel)
theorem km_117 : Cond.laysFinal "HostBridge$Choice" "HostBridge$Choice" "methods" "LHostBridge$Methods;" ∈ cx_T := cx_tab (i := 117) (by decide +kernel) (by decide +kernel)
theorem km_118 : Cond.soleField "HostBridge$Choice" "methods" ∈ cx_T := cx_tab (i := 118) (by decide +kernel) (by decide +kernel)
theorem km_119 : Cond.laysFinal "HostBridge$Choice" "HostBridge$Choice" "arguments" "LHostBridge$Arguments;" ∈ cx_T := cx_tab (i := 119) (by decide +kernel) (by decide +kernel)
theorem km_120 : Cond.soleField "HostBridge$Choice" "arguments" ∈ cx_T := cx_tab (i := 120) (by decide +kernel) (by decide +kernel)
theorem km_121 : Cond.laysFinal "HostBridge$Choice" "HostBridge$Choice" "candidates" "[I" ∈ cx_T := cx_tab (i := 121) (by decide +kernel) (by decide +kernel)
theorem km_122 : Cond.soleField "HostBridge$Choice" "candidates" ∈ cx_T := cx_tab (i := 122) (by decide +kernel) (by decide +kernel)
theorem km_123 : Cond.laysFinal "HostBridge$Choice" "HostBridge$Choice" "lowest" "[I" ∈ cx_T := cx_tab (i := 123) (by decide +kernel) (by decide +kernel)
theorem km_124 : Cond.soleField "HostBridge$Choice" "lowest" ∈ cx_T := cx_tab (i := 124) (by decide +kernel) (by decide +kernel)
theorem km_125 : Cond.lays "HostBridge$Choice" "HostBridge$Choice" "count" "I" ∈ cx_T := cx_tab (i := 125) (by decide +kernel) (by decide +kernel)
theorem km_126 : Cond.soleField "HostBridge$Choice" "count" ∈ cx_T := cx_tab (i := 126) (by decide +kernel) (by decide +kernel)
theorem km_127 : Cond.superclass "HostBridge$Choice" "java/lang/Object" ∈ cx_T := cx_tab (i := 127) (by decide +kernel) (by decide +kernel)
theorem km_128 : Cond.classLink "HostBridge" 41 "HostBridge$Diary" ∈ cx_T := cx_tab (i := 128) (by decide +kernel) (by decide +kernel)
theorem km_129 : Cond.instantiable "HostBridge$Diary" 6 ∈ cx_T := cx_tab (i := 129) (by decide +kernel) (by decide +kernel)
theorem km_130 : Cond.methodLinkNest "HostBridge" 43 ⟨"HostBridge$Diary", "<init>", "()V"⟩ "HostBridge" ∈ cx_T := cx_tab (i := 130) (by decide +kernel) (by decide +kernel)
theorem km_131 : Cond.instanceMethod ⟨"HostBridge$Diary", "<init>", "()V"⟩ ∈ cx_T := cx_tab (i := 131) (by decide +kernel) (by decide +kernel)
theorem km_132 : Cond.code ⟨"HostBridge$Diary", "<init>", "()V"⟩ prog_5_method_1_code 1 none ∈ cx_T := cx_tab (i := 132) (by decide +kernel) (by decide +kernel)
theorem km_133 : Cond.methodLink "HostBridge$Diary" 3 ⟨"java/lang/Object", "<init>", "()V"⟩ ∈ cx_T := cx_tab (i := 133) (by decide +kernel) (by decide +kernel)
theorem km_134 : Cond.fieldLink "HostBridge$Diary" 9 "HostBridge$Diary" "objects" "[I" ∈ cx_T := cx_tab (i := 134) (by decide +kernel) (by decide +kernel)
theorem km_135 : Cond.fieldLink "HostBridge$Diary" 15 "HostBridge$Diary" "methods" "[I" ∈ cx_T := cx_tab (i := 135) (by decide +kernel) (by decide +kernel)
theorem km_136 : Cond.fieldLink "HostBridge$Diary" 18 "HostBridge$Diary" "sizes" "[I" ∈ cx_T := cx_tab (i := 136) (by decide +kernel) (by decide +kernel)
theorem km_137 : Cond.fieldLink "HostBridge$Diary" 21 "HostBridge$Diary" "values" "[J" ∈ cx_T := cx_tab (i := 137) (by decide +kernel) (by decide +kernel)
theorem km_138 : Cond.fieldLink "HostBridge$Diary" 33 "HostBridge$Diary" "latestGiven" "J" ∈ cx_T := cx_tab (i := 138) (by decide +kernel) (by decide +kernel)
theorem km_139 : Cond.fieldLinkNest "HostBridge" 188 "HostBridge$Diary" "latestGiven" "J" "HostBridge" ∈ cx_T := cx_tab (i := 139) (by decide +kernel) (by decide +kernel)
theorem km_140 : Cond.fieldLink "HostBridge$Diary" 25 "HostBridge$Diary" "count" "I" ∈ cx_T := cx_tab (i := 140) (by decide +kernel) (by decide +kernel)
theorem km_141 : Cond.fieldLinkNest "HostBridge" 185 "HostBridge$Diary" "count" "I" "HostBridge" ∈ cx_T := cx_tab (i := 141) (by decide +kernel) (by decide +kernel)
theorem km_142 : Cond.laysFinal "HostBridge$Diary" "HostBridge$Diary" "objects" "[I" ∈ cx_T := cx_tab (i := 142) (by decide +kernel) (by decide +kernel)
theorem km_143 : Cond.soleField "HostBridge$Diary" "objects" ∈ cx_T := cx_tab (i := 143) (by decide +kernel) (by decide +kernel)
theorem km_144 : Cond.laysFinal "HostBridge$Diary" "HostBridge$Diary" "methods" "[I" ∈ cx_T := cx_tab (i := 144) (by decide +kernel) (by decide +kernel)
theorem km_145 : Cond.soleField "HostBridge$Diary" "methods" ∈ cx_T := cx_tab (i := 145) (by decide +kernel) (by decide +kernel)
theorem km_146 : Cond.laysFinal "HostBridge$Diary" "HostBridge$Diary" "sizes" "[I" ∈ cx_T := cx_tab (i := 146) (by decide +kernel) (by decide +kernel)
theorem km_147 : Cond.soleField "HostBridge$Diary" "sizes" ∈ cx_T := cx_tab (i := 147) (by decide +kernel) (by decide +kernel)
theorem km_148 : Cond.laysFinal "HostBridge$Diary" "HostBridge$Diary" "values" "[J" ∈ cx_T := cx_tab (i := 148) (by decide +kernel) (by decide +kernel)
theorem km_149 : Cond.soleField "HostBridge$Diary" "values" ∈ cx_T := cx_tab (i := 149) (by decide +kernel) (by decide +kernel)
theorem km_150 : Cond.lays "HostBridge$Diary" "HostBridge$Diary" "latestGiven" "J" ∈ cx_T := cx_tab (i := 150) (by decide +kernel) (by decide +kernel)
theorem km_151 : Cond.soleField "HostBridge$Diary" "latestGiven" ∈ cx_T := cx_tab (i := 151) (by decide +kernel) (by decide +kernel)
theorem km_152 : Cond.lays "HostBridge$Diary" "HostBridge$Diary" "count" "I" ∈ cx_T := cx_tab (i := 152) (by decide +kernel) (by decide +kernel)
theorem km_153 : Cond.soleField "HostBridge$Diary" "count" ∈ cx_T := cx_tab (i := 153) (by decide +kernel) (by decide +kernel)
theorem km_154 : Cond.superclass "HostBridge$Diary" "java/lang/Object" ∈ cx_T := cx_tab (i := 154) (by decide +kernel) (by decide +kernel)
theorem km_155 : Cond.classLink "HostBridge" 48 "HostBridge$Answers" ∈ cx_T := cx_tab (i := 155) (by decide +kernel) (by decide +kernel)
theorem km_156 : Cond.instantiable "HostBridge$Answers" 3 ∈ cx_T := cx_tab (i := 156) (by decide +kernel) (by decide +kernel)
theorem km_157 : Cond.methodLinkNest "HostBridge" 50 ⟨"HostBridge$Answers", "<init>", "()V"⟩ "HostBridge" ∈ cx_T := cx_tab (i := 157) (by decide +kernel) (by decide +kernel)
theorem km_158 : Cond.instanceMethod ⟨"HostBridge$Answers", "<init>", "()V"⟩ ∈ cx_T := cx_tab (i := 158) (by decide +kernel) (by decide +kernel)
theorem km_159 : Cond.code ⟨"HostBridge$Answers", "<init>", "()V"⟩ prog_2_method_1_code 1 none ∈ cx_T := cx_tab (i := 159) (by decide +kernel) (by decide +kernel)
theorem km_160 : Cond.methodLink "HostBridge$Answers" 3 ⟨"java/lang/Object", "<init>", "()V"⟩ ∈ cx_T := cx_tab (i := 160) (by decide +kernel) (by decide +kernel)
theorem km_161 : Cond.fieldLink "HostBridge$Answers" 9 "HostBridge$Answers" "waiting" "[J" ∈ cx_T := cx_tab (i := 161) (by decide +kernel) (by decide +kernel)
theorem km_162 : Cond.fieldLink "HostBridge$Answers" 15 "HostBridge$Answers" "start" "I" ∈ cx_T := cx_tab (i := 162) (by decide +kernel) (by decide +kernel)
theorem km_163 : Cond.fieldLink "HostBridge$Answers" 19 "HostBridge$Answers" "count" "I" ∈ cx_T := cx_tab (i := 163) (by decide +kernel) (by decide +kernel)
theorem km_164 : Cond.fieldLinkNest "HostBridge" 179 "HostBridge$Answers" "count" "I" "HostBridge" ∈ cx_T := cx_tab (i := 164) (by decide +kernel) (by decide +kernel)
theorem km_165 : Cond.laysFinal "HostBridge$Answers" "HostBridge$Answers" "waiting" "[J" ∈ cx_T := cx_tab (i := 165) (by decide +kernel) (by decide +kernel)
theorem km_166 : Cond.soleField "HostBridge$Answers" "waiting" ∈ cx_T := cx_tab (i := 166) (by decide +kernel) (by decide +kernel)
theorem km_167 : Cond.lays "HostBridge$Answers" "HostBridge$Answers" "start" "I" ∈ cx_T := cx_tab (i := 167) (by decide +kernel) (by decide +kernel)
theorem km_168 : Cond.soleField "HostBridge$Answers" "start" ∈ cx_T := cx_tab (i := 168) (by decide +kernel) (by decide +kernel)
theorem km_169 : Cond.lays "HostBridge$Answers" "HostBridge$Answers" "count" "I" ∈ cx_T := cx_tab (i := 169) (by decide +kernel) (by decide +kernel)
theorem km_170 : Cond.soleField "HostBridge$Answers" "count" ∈ cx_T := cx_tab (i := 170) (by decide +kernel) (by decide +kernel)
theorem km_171 : Cond.superclass "HostBridge$Answers" "java/lang/Object" ∈ cx_T := cx_tab (i := 171) (by decide +kernel) (by decide +kernel)
theorem km_172 : Cond.fieldLink "HostBridge" 10 "HostBridge" "world" "LHostBridge$World;" ∈ cx_T := cx_tab (i := 172) (by decide +kernel) (by decide +kernel)
theorem km_173 : Cond.fieldLink "HostBridge" 19 "HostBridge" "methods" "LHostBridge$Methods;" ∈ cx_T := cx_tab (i := 173) (by decide +kernel) (by decide +kernel)
theorem km_174 : Cond.fieldLink "HostBridge" 28 "HostBridge" "arguments" "LHostBridge$Arguments;" ∈ cx_T := cx_tab (i := 174) (by decide +kernel) (by decide +kernel)
theorem km_175 : Cond.fieldLink "HostBridge" 37 "HostBridge" "choice" "LHostBridge$Choice;" ∈ cx_T := cx_tab (i := 175) (by decide +kernel) (by decide +kernel)
theorem km_176 : Cond.fieldLink "HostBridge" 44 "HostBridge" "diary" "LHostBridge$Diary;" ∈ cx_T := cx_tab (i := 176) (by decide +kernel) (by decide +kernel)
theorem km_177 : Cond.fieldLink "HostBridge" 51 "HostBridge" "answers" "LHostBridge$Answers;" ∈ cx_T := cx_tab (i := 177) (by decide +kernel) (by decide +kernel)
theorem km_178 : Cond.laysFinal "HostBridge" "HostBridge" "world" "LHostBridge$World;" ∈ cx_T := cx_tab (i := 178) (by decide +kernel) (by decide +kernel)
theorem km_179 : Cond.soleField "HostBridge" "world" ∈ cx_T := cx_tab (i := 179) (by decide +kernel) (by decide +kernel)
theorem km_180 : Cond.laysFinal "HostBridge" "HostBridge" "methods" "LHostBridge$Methods;" ∈ cx_T := cx_tab (i := 180) (by decide +kernel) (by decide +kernel)
theorem km_181 : Cond.soleField "HostBridge" "methods" ∈ cx_T := cx_tab (i := 181) (by decide +kernel) (by decide +kernel)
theorem km_182 : Cond.laysFinal "HostBridge" "HostBridge" "arguments" "LHostBridge$Arguments;" ∈ cx_T := cx_tab (i := 182) (by decide +kernel) (by decide +kernel)
theorem km_183 : Cond.soleField "HostBridge" "arguments" ∈ cx_T := cx_tab (i := 183) (by decide +kernel) (by decide +kernel)
theorem km_184 : Cond.laysFinal "HostBridge" "HostBridge" "choice" "LHostBridge$Choice;" ∈ cx_T := cx_tab (i := 184) (by decide +kernel) (by decide +kernel)
theorem km_185 : Cond.soleField "HostBridge" "choice" ∈ cx_T := cx_tab (i := 185) (by decide +kernel) (by decide +kernel)
theorem km_186 : Cond.laysFinal "HostBridge" "HostBridge" "diary" "LHostBridge$Diary;" ∈ cx_T := cx_tab (i := 186) (by decide +kernel) (by decide +kernel)
theorem km_187 : Cond.soleField "HostBridge" "diary" ∈ cx_T := cx_tab (i := 187) (by decide +kernel) (by decide +kernel)
theorem km_188 : Cond.laysFinal "HostBridge" "HostBridge" "answers" "LHostBridge$Answers;" ∈ cx_T := cx_tab (i := 188) (by decide +kernel) (by decide +kernel)
theorem km_189 : Cond.soleField "HostBridge" "answers" ∈ cx_T := cx_tab (i := 189) (by decide +kernel) (by decide +kernel)
theorem km_190 : Cond.superclass "HostBridge" "java/lang/Object" ∈ cx_T := cx_tab (i := 190) (by decide +kernel) (by decide +kernel)
theorem km_191 : Cond.methodLink "HostBridgeLaw" 104 ⟨"HostBridge", "calls", "()I"⟩ ∈ cx_T := cx_tab (i := 191) (by decide +kernel) (by decide +kernel)
theorem km_192 : Cond.instanceMethod ⟨"HostBridge", "calls", "()I"⟩ ∈ cx_T := cx_tab (i := 192) (by decide +kernel) (by decide +kernel)
theorem km_193 : Cond.selects "HostBridge" ⟨"HostBridge", "calls", "()I"⟩ ⟨"HostBridge", "calls", "()I"⟩ ∈ cx_T := cx_tab (i := 193) (by decide +kernel) (by decide +kernel)
theorem km_194 : Cond.code ⟨"HostBridge", "calls", "()I"⟩ prog_1_method_11_code 1 (some FieldType.int) ∈ cx_T := cx_tab (i := 194) (by decide +kernel) (by decide +kernel)
theorem km_195 : Cond.methodLink "HostBridgeLaw" 62 ⟨"HostBridgeLaw", "klass", "(LHostBridge;I[J)I"⟩ ∈ cx_T := cx_tab (i := 195) (by decide +kernel) (by decide +kernel)
theorem km_196 : Cond.static ⟨"HostBridgeLaw", "klass", "(LHostBridge;I[J)I"⟩ ∈ cx_T := cx_tab (i := 196) (by decide +kernel) (by decide +kernel)
theorem km_197 : Cond.codeWith ⟨"HostBridgeLaw", "klass", "(LHostBridge;I[J)I"⟩ method_3_code 4 (some FieldType.int) [(0, 9, 12, 13), (0, 9, 15, 15)] ∈ cx_T := cx_tab (i := 197) (by decide +kernel) (by decide +kernel)
theorem km_198 : Cond.classLink "HostBridgeLaw" 13 "java/lang/IllegalArgumentException" ∈ cx_T := cx_tab (i := 198) (by decide +kernel) (by decide +kernel)
theorem km_199 : Cond.classLink "HostBridgeLaw" 15 "java/lang/IllegalStateException" ∈ cx_T := cx_tab (i := 199) (by decide +kernel) (by decide +kernel)
theorem km_200 : Cond.methodLink "HostBridgeLaw" 7 ⟨"HostBridge", "klass", "(I)I"⟩ ∈ cx_T := cx_tab (i := 200) (by decide +kernel) (by decide +kernel)
theorem km_201 : Cond.instanceMethod ⟨"HostBridge", "klass", "(I)I"⟩ ∈ cx_T := cx_tab (i := 201) (by decide +kernel) (by decide +kernel)
theorem km_202 : Cond.selects "HostBridge" ⟨"HostBridge", "klass", "(I)I"⟩ ⟨"HostBridge", "klass", "(I)I"⟩ ∈ cx_T := cx_tab (i := 202) (by decide +kernel) (by decide +kernel)
theorem km_203 : Cond.code ⟨"HostBridge", "klass", "(I)I"⟩ prog_1_method_2_code 2 (some FieldType.int) ∈ cx_T := cx_tab (i := 203) (by decide +kernel) (by decide +kernel)
theorem km_204 : Cond.methodLink "HostBridge" 55 ⟨"HostBridge$World", "hasClass", "(I)Z"⟩ ∈ cx_T := cx_tab (i := 204) (by decide +kernel) (by decide +kernel)
theorem km_205 : Cond.instanceMethod ⟨"HostBridge$World", "hasClass", "(I)Z"⟩ ∈ cx_T := cx_tab (i := 205) (by decide +kernel) (by decide +kernel)
theorem km_206 : Cond.selects "HostBridge$World" ⟨"HostBridge$World", "hasClass", "(I)Z"⟩ ⟨"HostBridge$World", "hasClass", "(I)Z"⟩ ∈ cx_T := cx_tab (i := 206) (by decide +kernel) (by decide +kernel)
theorem km_207 : Cond.code ⟨"HostBridge$World", "hasClass", "(I)Z"⟩ prog_8_method_2_code 2 (some FieldType.boolean) ∈ cx_T := cx_tab (i := 207) (by decide +kernel) (by decide +kernel)
theorem km_208 : Cond.classLink "HostBridge" 59 "java/lang/IllegalArgumentException" ∈ cx_T := cx_tab (i := 208) (by decide +kernel) (by decide +kernel)
theorem km_209 : Cond.instantiable "java/lang/IllegalArgumentException" 6 ∈ cx_T := cx_tab (i := 209) (by decide +kernel) (by decide +kernel)
theorem km_210 : Cond.castable "java/lang/IllegalArgumentException" "java/lang/IllegalArgumentException" ∈ cx_T := cx_tab (i := 210) (by decide +kernel) (by decide +kernel)
theorem km_211 : Cond.declares ⟨"java/lang/RuntimeException", "<init>", "()V"⟩ ∈ cx_T := cx_tab (i := 211) (by decide +kernel) (by decide +kernel)
theorem km_212 : Cond.declares ⟨"java/lang/RuntimeException", "<init>", "(Ljava/lang/String;)V"⟩ ∈ cx_T := cx_tab (i := 212) (by decide +kernel) (by decide +kernel)
theorem km_213 : Cond.declares ⟨"java/lang/Exception", "<init>", "()V"⟩ ∈ cx_T := cx_tab (i := 213) (by decide +kernel) (by decide +kernel)
theorem km_214 : Cond.declares ⟨"java/lang/Exception", "<init>", "(Ljava/lang/String;)V"⟩ ∈ cx_T := cx_tab (i := 214) (by decide +kernel) (by decide +kernel)
theorem km_215 : Cond.declares ⟨"java/lang/Throwable", "<init>", "()V"⟩ ∈ cx_T := cx_tab (i := 215) (by decide +kernel) (by decide +kernel)
theorem km_216 : Cond.declares ⟨"java/lang/Throwable", "<init>", "(Ljava/lang/String;)V"⟩ ∈ cx_T := cx_tab (i := 216) (by decide +kernel) (by decide +kernel)
theorem km_217 : Cond.selects "java/lang/IllegalArgumentException" ⟨"java/lang/Throwable", "fillInStackTrace", "(I)Ljava/lang/Throwable;"⟩ ⟨"java/lang/Throwable", "fillInStackTrace", "(I)Ljava/lang/Throwable;"⟩ ∈ cx_T := cx_tab (i := 217) (by decide +kernel) (by decide +kernel)
theorem km_218 : Cond.selects "java/lang/IllegalArgumentException" ⟨"java/lang/Throwable", "fillInStackTrace", "()Ljava/lang/Throwable;"⟩ ⟨"java/lang/Throwable", "fillInStackTrace", "()Ljava/lang/Throwable;"⟩ ∈ cx_T := cx_tab (i := 218) (by decide +kernel) (by decide +kernel)
theorem km_219 : Cond.lays "java/lang/IllegalArgumentException" "java/lang/Throwable" "cause" "Ljava/lang/Throwable;" ∈ cx_T := cx_tab (i := 219) (by decide +kernel) (by decide +kernel)
theorem km_220 : Cond.lays "java/lang/Throwable" "java/lang/Throwable" "cause" "Ljava/lang/Throwable;" ∈ cx_T := cx_tab (i := 220) (by decide +kernel) (by decide +kernel)
theorem km_221 : Cond.lays "java/lang/IllegalArgumentException" "java/lang/Throwable" "stackTrace" "[Ljava/lang/StackTraceElement;" ∈ cx_T := cx_tab (i := 221) (by decide +kernel) (by decide +kernel)
theorem km_222 : Cond.lays "java/lang/Throwable" "java/lang/Throwable" "stackTrace" "[Ljava/lang/StackTraceElement;" ∈ cx_T := cx_tab (i := 222) (by decide +kernel) (by decide +kernel)
theorem km_223 : Cond.lays "java/lang/IllegalArgumentException" "java/lang/Throwable" "suppressedExceptions" "Ljava/util/List;" ∈ cx_T := cx_tab (i := 223) (by decide +kernel) (by decide +kernel)
theorem km_224 : Cond.lays "java/lang/Throwable" "java/lang/Throwable" "suppressedExceptions" "Ljava/util/List;" ∈ cx_T := cx_tab (i := 224) (by decide +kernel) (by decide +kernel)
theorem km_225 : Cond.lays "java/lang/IllegalArgumentException" "java/lang/Throwable" "detailMessage" "Ljava/lang/String;" ∈ cx_T := cx_tab (i := 225) (by decide +kernel) (by decide +kernel)
theorem km_226 : Cond.lays "java/lang/Throwable" "java/lang/Throwable" "detailMessage" "Ljava/lang/String;" ∈ cx_T := cx_tab (i := 226) (by decide +kernel) (by decide +kernel)
theorem km_227 : Cond.lays "java/lang/IllegalArgumentException" "java/lang/Throwable" "backtrace" "Ljava/lang/Object;" ∈ cx_T := cx_tab (i := 227) (by decide +kernel) (by decide +kernel)
theorem km_228 : Cond.lays "java/lang/Throwable" "java/lang/Throwable" "backtrace" "Ljava/lang/Object;" ∈ cx_T := cx_tab (i := 228) (by decide +kernel) (by decide +kernel)
theorem km_229 : Cond.fieldLink "java/lang/Throwable" 198 "java/lang/Throwable" "backtrace" "Ljava/lang/Object;" ∈ cx_T := cx_tab (i := 229) (by decide +kernel) (by decide +kernel)
theorem km_230 : Cond.superclass "java/lang/Throwable" "java/lang/Object" ∈ cx_T := cx_tab (i := 230) (by decide +kernel) (by decide +kernel)
theorem km_231 : Cond.instanceMethod ⟨"java/lang/Throwable", "<init>", "()V"⟩ ∈ cx_T := cx_tab (i := 231) (by decide +kernel) (by decide +kernel)
theorem km_232 : Cond.code ⟨"java/lang/Throwable", "<init>", "()V"⟩ prog_18_method_1_code 1 none ∈ cx_T := cx_tab (i := 232) (by decide +kernel) (by decide +kernel)
theorem km_233 : Cond.methodLink "java/lang/Throwable" 1 ⟨"java/lang/Object", "<init>", "()V"⟩ ∈ cx_T := cx_tab (i := 233) (by decide +kernel) (by decide +kernel)
theorem km_234 : Cond.fieldLink "java/lang/Throwable" 13 "java/lang/Throwable" "UNASSIGNED_STACK" "[Ljava/lang/StackTraceElement;" ∈ cx_T := cx_tab (i := 234) (by decide +kernel) (by decide +kernel)
theorem km_236 : Cond.fieldLink "java/lang/Throwable" 20 "java/lang/Throwable" "SUPPRESSED_SENTINEL" "Ljava/util/List;" ∈ cx_T := cx_tab (i := 236) (by decide +kernel) (by decide +kernel)
theorem km_238 : Cond.methodLink "java/lang/Throwable" 27 ⟨"java/lang/Throwable", "fillInStackTrace", "()Ljava/lang/Throwable;"⟩ ∈ cx_T := cx_tab (i := 238) (by decide +kernel) (by decide +kernel)
theorem km_239 : Cond.instanceMethod ⟨"java/lang/Throwable", "fillInStackTrace", "()Ljava/lang/Throwable;"⟩ ∈ cx_T := cx_tab (i := 239) (by decide +kernel) (by decide +kernel)
theorem km_240 : Cond.sameMethod "java/lang/Throwable" "java/lang/Throwable" "fillInStackTrace" "()Ljava/lang/Throwable;" ∈ cx_T := cx_tab (i := 240) (by decide +kernel) (by decide +kernel)
theorem km_241 : Cond.selects "java/lang/IllegalStateException" ⟨"java/lang/Throwable", "fillInStackTrace", "()Ljava/lang/Throwable;"⟩ ⟨"java/lang/Throwable", "fillInStackTrace", "()Ljava/lang/Throwable;"⟩ ∈ cx_T := cx_tab (i := 241) (by decide +kernel) (by decide +kernel)
theorem km_242 : Cond.selects "java/lang/IndexOutOfBoundsException" ⟨"java/lang/Throwable", "fillInStackTrace", "()Ljava/lang/Throwable;"⟩ ⟨"java/lang/Throwable", "fillInStackTrace", "()Ljava/lang/Throwable;"⟩ ∈ cx_T := cx_tab (i := 242) (by decide +kernel) (by decide +kernel)
theorem km_243 : Cond.selects "java/util/NoSuchElementException" ⟨"java/lang/Throwable", "fillInStackTrace", "()Ljava/lang/Throwable;"⟩ ⟨"java/lang/Throwable", "fillInStackTrace", "()Ljava/lang/Throwable;"⟩ ∈ cx_T := cx_tab (i := 243) (by decide +kernel) (by decide +kernel)
theorem km_244 : Cond.codeSync ⟨"java/lang/Throwable", "fillInStackTrace", "()Ljava/lang/Throwable;"⟩ prog_18_method_18_code 1 (Option.some (FieldType.object "java/lang/Throwable")) ∈ cx_T := cx_tab (i := 244) (by decide +kernel) (by decide +kernel)
theorem km_245 : Cond.methodLink "java/lang/Throwable" 202 ⟨"java/lang/Throwable", "fillInStackTrace", "(I)Ljava/lang/Throwable;"⟩ ∈ cx_T := cx_tab (i := 245) (by decide +kernel) (by decide +kernel)
theorem km_246 : Cond.privateMethod ⟨"java/lang/Throwable", "fillInStackTrace", "(I)Ljava/lang/Throwable;"⟩ ∈ cx_T := cx_tab (i := 246) (by decide +kernel) (by decide +kernel)
theorem km_247 : Cond.instanceMethod ⟨"java/lang/Throwable", "fillInStackTrace", "(I)Ljava/lang/Throwable;"⟩ ∈ cx_T := cx_tab (i := 247) (by decide +kernel) (by decide +kernel)
theorem km_248 : Cond.instantiable "java/lang/Throwable" 6 ∈ cx_T := cx_tab (i := 248) (by decide +kernel) (by decide +kernel)
theorem km_249 : Cond.native ⟨"java/lang/Throwable", "fillInStackTrace", "(I)Ljava/lang/Throwable;"⟩ ∈ cx_T := cx_tab (i := 249) (by decide +kernel) (by decide +kernel)
theorem km_251 : Cond.methodLink "HostBridge" 63 ⟨"java/lang/IllegalArgumentException", "<init>", "(Ljava/lang/String;)V"⟩ ∈ cx_T := cx_tab (i := 251) (by decide +kernel) (by decide +kernel)
theorem km_252 : Cond.instanceMethod ⟨"java/lang/IllegalArgumentException", "<init>", "(Ljava/lang/String;)V"⟩ ∈ cx_T := cx_tab (i := 252) (by decide +kernel) (by decide +kernel)
theorem km_253 : Cond.code ⟨"java/lang/IllegalArgumentException", "<init>", "(Ljava/lang/String;)V"⟩ prog_12_method_2_code 2 none ∈ cx_T := cx_tab (i := 253) (by decide +kernel) (by decide +kernel)
theorem km_254 : Cond.methodLink "java/lang/IllegalArgumentException" 7 ⟨"java/lang/RuntimeException", "<init>", "(Ljava/lang/String;)V"⟩ ∈ cx_T := cx_tab (i := 254) (by decide +kernel) (by decide +kernel)
theorem km_255 : Cond.instanceMethod ⟨"java/lang/RuntimeException", "<init>", "(Ljava/lang/String;)V"⟩ ∈ cx_T := cx_tab (i := 255) (by decide +kernel) (by decide +kernel)
theorem km_256 : Cond.code ⟨"java/lang/RuntimeException", "<init>", "(Ljava/lang/String;)V"⟩ prog_16_method_2_code 2 none ∈ cx_T := cx_tab (i := 256) (by decide +kernel) (by decide +kernel)
theorem km_257 : Cond.methodLink "java/lang/RuntimeException" 7 ⟨"java/lang/Exception", "<init>", "(Ljava/lang/String;)V"⟩ ∈ cx_T := cx_tab (i := 257) (by decide +kernel) (by decide +kernel)
theorem km_258 : Cond.instanceMethod ⟨"java/lang/Exception", "<init>", "(Ljava/lang/String;)V"⟩ ∈ cx_T := cx_tab (i := 258) (by decide +kernel) (by decide +kernel)
theorem km_259 : Cond.code ⟨"java/lang/Exception", "<init>", "(Ljava/lang/String;)V"⟩ prog_11_method_2_code 2 none ∈ cx_T := cx_tab (i := 259) (by decide +kernel) (by decide +kernel)
theorem km_260 : Cond.methodLink "java/lang/Exception" 7 ⟨"java/lang/Throwable", "<init>", "(Ljava/lang/String;)V"⟩ ∈ cx_T := cx_tab (i := 260) (by decide +kernel) (by decide +kernel)
theorem km_261 : Cond.instanceMethod ⟨"java/lang/Throwable", "<init>", "(Ljava/lang/String;)V"⟩ ∈ cx_T := cx_tab (i := 261) (by decide +kernel) (by decide +kernel)
theorem km_262 : Cond.code ⟨"java/lang/Throwable", "<init>", "(Ljava/lang/String;)V"⟩ prog_18_method_2_code 2 none ∈ cx_T := cx_tab (i := 262) (by decide +kernel) (by decide +kernel)
theorem km_263 : Cond.fieldLink "java/lang/Throwable" 198 "java/lang/Throwable" "backtrace" "Ljava/lang/Object;" ∈ cx_T := cx_tab (i := 263) (by decide +kernel) (by decide +kernel)
theorem km_264 : Cond.fieldLink "java/lang/Throwable" 31 "java/lang/Throwable" "detailMessage" "Ljava/lang/String;" ∈ cx_T := cx_tab (i := 264) (by decide +kernel) (by decide +kernel)
theorem km_265 : Cond.fieldLink "java/lang/Throwable" 7 "java/lang/Throwable" "cause" "Ljava/lang/Throwable;" ∈ cx_T := cx_tab (i := 265) (by decide +kernel) (by decide +kernel)
theorem km_266 : Cond.fieldLink "java/lang/Throwable" 17 "java/lang/Throwable" "stackTrace" "[Ljava/lang/StackTraceElement;" ∈ cx_T := cx_tab (i := 266) (by decide +kernel) (by decide +kernel)
theorem km_267 : Cond.fieldLink "java/lang/Throwable" 24 "java/lang/Throwable" "suppressedExceptions" "Ljava/util/List;" ∈ cx_T := cx_tab (i := 267) (by decide +kernel) (by decide +kernel)
theorem km_268 : Cond.soleField "java/lang/Throwable" "backtrace" ∈ cx_T := cx_tab (i := 268) (by decide +kernel) (by decide +kernel)
theorem km_269 : Cond.soleField "java/lang/Throwable" "detailMessage" ∈ cx_T := cx_tab (i := 269) (by decide +kernel) (by decide +kernel)
theorem km_270 : Cond.soleField "java/lang/Throwable" "cause" ∈ cx_T := cx_tab (i := 270) (by decide +kernel) (by decide +kernel)
theorem km_271 : Cond.soleField "java/lang/Throwable" "stackTrace" ∈ cx_T := cx_tab (i := 271) (by decide +kernel) (by decide +kernel)
theorem km_272 : Cond.lays "java/lang/IllegalArgumentException" "java/lang/Throwable" "depth" "I" ∈ cx_T := cx_tab (i := 272) (by decide +kernel) (by decide +kernel)
theorem km_273 : Cond.soleField "java/lang/Throwable" "depth" ∈ cx_T := cx_tab (i := 273) (by decide +kernel) (by decide +kernel)
theorem km_274 : Cond.soleField "java/lang/Throwable" "suppressedExceptions" ∈ cx_T := cx_tab (i := 274) (by decide +kernel) (by decide +kernel)
theorem km_275 : Cond.superclass "java/lang/IllegalArgumentException" "java/lang/RuntimeException" ∈ cx_T := cx_tab (i := 275) (by decide +kernel) (by decide +kernel)
theorem km_276 : Cond.arrayClass FieldType.byte ∈ cx_T := cx_tab (i := 276) (by decide +kernel) (by decide +kernel)
theorem km_277 : Cond.classLink "HostBridge" 70 "java/lang/IllegalStateException" ∈ cx_T := cx_tab (i := 277) (by decide +kernel) (by decide +kernel)
theorem km_278 : Cond.instantiable "java/lang/IllegalStateException" 6 ∈ cx_T := cx_tab (i := 278) (by decide +kernel) (by decide +kernel)
theorem km_279 : Cond.castable "java/lang/IllegalStateException" "java/lang/IllegalStateException" ∈ cx_T := cx_tab (i := 279) (by decide +kernel) (by decide +kernel)
theorem km_280 : Cond.selects "java/lang/IllegalStateException" ⟨"java/lang/Throwable", "fillInStackTrace", "(I)Ljava/lang/Throwable;"⟩ ⟨"java/lang/Throwable", "fillInStackTrace", "(I)Ljava/lang/Throwable;"⟩ ∈ cx_T := cx_tab (i := 280) (by decide +kernel) (by decide +kernel)
theorem km_281 : Cond.lays "java/lang/IllegalStateException" "java/lang/Throwable" "cause" "Ljava/lang/Throwable;" ∈ cx_T := cx_tab (i := 281) (by decide +kernel) (by decide +kernel)
theorem km_282 : Cond.lays "java/lang/IllegalStateException" "java/lang/Throwable" "stackTrace" "[Ljava/lang/StackTraceElement;" ∈ cx_T := cx_tab (i := 282) (by decide +kernel) (by decide +kernel)
theorem km_283 : Cond.lays "java/lang/IllegalStateException" "java/lang/Throwable" "suppressedExceptions" "Ljava/util/List;" ∈ cx_T := cx_tab (i := 283) (by decide +kernel) (by decide +kernel)
theorem km_284 : Cond.lays "java/lang/IllegalStateException" "java/lang/Throwable" "detailMessage" "Ljava/lang/String;" ∈ cx_T := cx_tab (i := 284) (by decide +kernel) (by decide +kernel)
theorem km_285 : Cond.lays "java/lang/IllegalStateException" "java/lang/Throwable" "backtrace" "Ljava/lang/Object;" ∈ cx_T := cx_tab (i := 285) (by decide +kernel) (by decide +kernel)
theorem km_287 : Cond.methodLink "HostBridge" 74 ⟨"java/lang/IllegalStateException", "<init>", "(Ljava/lang/String;)V"⟩ ∈ cx_T := cx_tab (i := 287) (by decide +kernel) (by decide +kernel)
theorem km_288 : Cond.instanceMethod ⟨"java/lang/IllegalStateException", "<init>", "(Ljava/lang/String;)V"⟩ ∈ cx_T := cx_tab (i := 288) (by decide +kernel) (by decide +kernel)
theorem km_289 : Cond.code ⟨"java/lang/IllegalStateException", "<init>", "(Ljava/lang/String;)V"⟩ prog_13_method_2_code 2 none ∈ cx_T := cx_tab (i := 289) (by decide +kernel) (by decide +kernel)
theorem km_290 : Cond.methodLink "java/lang/IllegalStateException" 7 ⟨"java/lang/RuntimeException", "<init>", "(Ljava/lang/String;)V"⟩ ∈ cx_T := cx_tab (i := 290) (by decide +kernel) (by decide +kernel)
theorem km_291 : Cond.lays "java/lang/IllegalStateException" "java/lang/Throwable" "depth" "I" ∈ cx_T := cx_tab (i := 291) (by decide +kernel) (by decide +kernel)
theorem km_292 : Cond.superclass "java/lang/IllegalStateException" "java/lang/RuntimeException" ∈ cx_T := cx_tab (i := 292) (by decide +kernel) (by decide +kernel)
theorem km_293 : Cond.methodLink "HostBridge" 75 ⟨"HostBridge$World", "addClass", "(I)I"⟩ ∈ cx_T := cx_tab (i := 293) (by decide +kernel) (by decide +kernel)
theorem km_294 : Cond.instanceMethod ⟨"HostBridge$World", "addClass", "(I)I"⟩ ∈ cx_T := cx_tab (i := 294) (by decide +kernel) (by decide +kernel)
theorem km_295 : Cond.selects "HostBridge$World" ⟨"HostBridge$World", "addClass", "(I)I"⟩ ⟨"HostBridge$World", "addClass", "(I)I"⟩ ∈ cx_T := cx_tab (i := 295) (by decide +kernel) (by decide +kernel)
theorem km_296 : Cond.code ⟨"HostBridge$World", "addClass", "(I)I"⟩ prog_8_method_6_code 2 (some FieldType.int) ∈ cx_T := cx_tab (i := 296) (by decide +kernel) (by decide +kernel)
theorem km_297 : Cond.methodLink "HostBridgeLaw" 72 ⟨"HostBridgeLaw", "method", "(LHostBridge;IIIII[J)I"⟩ ∈ cx_T := cx_tab (i := 297) (by decide +kernel) (by decide +kernel)
theorem km_298 : Cond.static ⟨"HostBridgeLaw", "method", "(LHostBridge;IIIII[J)I"⟩ ∈ cx_T := cx_tab (i := 298) (by decide +kernel) (by decide +kernel)
theorem km_299 : Cond.codeWith ⟨"HostBridgeLaw", "method", "(LHostBridge;IIIII[J)I"⟩ method_4_code 8 (some FieldType.int) [(0, 16, 19, 13), (0, 16, 23, 15)] ∈ cx_T := cx_tab (i := 299) (by decide +kernel) (by decide +kernel)
theorem km_300 : Cond.methodLink "HostBridgeLaw" 17 ⟨"HostBridge", "method", "(IIIII)I"⟩ ∈ cx_T := cx_tab (i := 300) (by decide +kernel) (by decide +kernel)
theorem km_301 : Cond.instanceMethod ⟨"HostBridge", "method", "(IIIII)I"⟩ ∈ cx_T := cx_tab (i := 301) (by decide +kernel) (by decide +kernel)
theorem km_302 : Cond.selects "HostBridge" ⟨"HostBridge", "method", "(IIIII)I"⟩ ⟨"HostBridge", "method", "(IIIII)I"⟩ ∈ cx_T := cx_tab (i := 302) (by decide +kernel) (by decide +kernel)
theorem km_303 : Cond.code ⟨"HostBridge", "method", "(IIIII)I"⟩ prog_1_method_3_code 6 (some FieldType.int) ∈ cx_T := cx_tab (i := 303) (by decide +kernel) (by decide +kernel)
theorem km_305 : Cond.methodLink "HostBridge" 81 ⟨"HostBridge", "isName", "(I)Z"⟩ ∈ cx_T := cx_tab (i := 305) (by decide +kernel) (by decide +kernel)
theorem km_306 : Cond.static ⟨"HostBridge", "isName", "(I)Z"⟩ ∈ cx_T := cx_tab (i := 306) (by decide +kernel) (by decide +kernel)
theorem km_307 : Cond.code ⟨"HostBridge", "isName", "(I)Z"⟩ prog_1_method_16_code 1 (some FieldType.boolean) ∈ cx_T := cx_tab (i := 307) (by decide +kernel) (by decide +kernel)
theorem km_310 : Cond.methodLink "HostBridge" 88 ⟨"HostBridge$World", "hasTypes", "(II)Z"⟩ ∈ cx_T := cx_tab (i := 310) (by decide +kernel) (by decide +kernel)
theorem km_311 : Cond.instanceMethod ⟨"HostBridge$World", "hasTypes", "(II)Z"⟩ ∈ cx_T := cx_tab (i := 311) (by decide +kernel) (by decide +kernel)
theorem km_312 : Cond.selects "HostBridge$World" ⟨"HostBridge$World", "hasTypes", "(II)Z"⟩ ⟨"HostBridge$World", "hasTypes", "(II)Z"⟩ ∈ cx_T := cx_tab (i := 312) (by decide +kernel) (by decide +kernel)
theorem km_313 : Cond.code ⟨"HostBridge$World", "hasTypes", "(II)Z"⟩ prog_8_method_5_code 4 (some FieldType.boolean) ∈ cx_T := cx_tab (i := 313) (by decide +kernel) (by decide +kernel)
theorem km_314 : Cond.methodLinkNest "HostBridge$World" 25 ⟨"HostBridge", "typeAt", "(III)I"⟩ "HostBridge" ∈ cx_T := cx_tab (i := 314) (by decide +kernel) (by decide +kernel)
theorem km_315 : Cond.static ⟨"HostBridge", "typeAt", "(III)I"⟩ ∈ cx_T := cx_tab (i := 315) (by decide +kernel) (by decide +kernel)
theorem km_316 : Cond.code ⟨"HostBridge", "typeAt", "(III)I"⟩ prog_1_method_17_code 3 (some FieldType.int) ∈ cx_T := cx_tab (i := 316) (by decide +kernel) (by decide +kernel)
theorem km_317 : Cond.methodLink "HostBridge$World" 29 ⟨"HostBridge$World", "hasType", "(I)Z"⟩ ∈ cx_T := cx_tab (i := 317) (by decide +kernel) (by decide +kernel)
theorem km_318 : Cond.instanceMethod ⟨"HostBridge$World", "hasType", "(I)Z"⟩ ∈ cx_T := cx_tab (i := 318) (by decide +kernel) (by decide +kernel)
theorem km_319 : Cond.selects "HostBridge$World" ⟨"HostBridge$World", "hasType", "(I)Z"⟩ ⟨"HostBridge$World", "hasType", "(I)Z"⟩ ∈ cx_T := cx_tab (i := 319) (by decide +kernel) (by decide +kernel)
theorem km_320 : Cond.code ⟨"HostBridge$World", "hasType", "(I)Z"⟩ prog_8_method_4_code 2 (some FieldType.boolean) ∈ cx_T := cx_tab (i := 320) (by decide +kernel) (by decide +kernel)
theorem km_321 : Cond.methodLink "HostBridge" 92 ⟨"HostBridge$World", "hasType", "(I)Z"⟩ ∈ cx_T := cx_tab (i := 321) (by decide +kernel) (by decide +kernel)
theorem km_323 : Cond.methodLink "HostBridge" 97 ⟨"HostBridge$Methods", "find", "(IIII)I"⟩ ∈ cx_T := cx_tab (i := 323) (by decide +kernel) (by decide +kernel)
theorem km_324 : Cond.instanceMethod ⟨"HostBridge$Methods", "find", "(IIII)I"⟩ ∈ cx_T := cx_tab (i := 324) (by decide +kernel) (by decide +kernel)
theorem km_325 : Cond.selects "HostBridge$Methods" ⟨"HostBridge$Methods", "find", "(IIII)I"⟩ ⟨"HostBridge$Methods", "find", "(IIII)I"⟩ ∈ cx_T := cx_tab (i := 325) (by decide +kernel) (by decide +kernel)
theorem km_326 : Cond.code ⟨"HostBridge$Methods", "find", "(IIII)I"⟩ prog_6_method_4_code 6 (some FieldType.int) ∈ cx_T := cx_tab (i := 326) (by decide +kernel) (by decide +kernel)
theorem km_327 : Cond.methodLink "HostBridge$Methods" 28 ⟨"HostBridge$Methods", "isCalled", "(IIII)Z"⟩ ∈ cx_T := cx_tab (i := 327) (by decide +kernel) (by decide +kernel)
theorem km_328 : Cond.instanceMethod ⟨"HostBridge$Methods", "isCalled", "(IIII)Z"⟩ ∈ cx_T := cx_tab (i := 328) (by decide +kernel) (by decide +kernel)
theorem km_329 : Cond.selects "HostBridge$Methods" ⟨"HostBridge$Methods", "isCalled", "(IIII)Z"⟩ ⟨"HostBridge$Methods", "isCalled", "(IIII)Z"⟩ ∈ cx_T := cx_tab (i := 329) (by decide +kernel) (by decide +kernel)
theorem km_330 : Cond.code ⟨"HostBridge$Methods", "isCalled", "(IIII)Z"⟩ prog_6_method_3_code 5 (some FieldType.boolean) ∈ cx_T := cx_tab (i := 330) (by decide +kernel) (by decide +kernel)
theorem km_333 : Cond.methodLink "HostBridge" 108 ⟨"HostBridge$Methods", "add", "(IIII)I"⟩ ∈ cx_T := cx_tab (i := 333) (by decide +kernel) (by decide +kernel)
theorem km_334 : Cond.instanceMethod ⟨"HostBridge$Methods", "add", "(IIII)I"⟩ ∈ cx_T := cx_tab (i := 334) (by decide +kernel) (by decide +kernel)
theorem km_335 : Cond.selects "HostBridge$Methods" ⟨"HostBridge$Methods", "add", "(IIII)I"⟩ ⟨"HostBridge$Methods", "add", "(IIII)I"⟩ ∈ cx_T := cx_tab (i := 335) (by decide +kernel) (by decide +kernel)
theorem km_336 : Cond.code ⟨"HostBridge$Methods", "add", "(IIII)I"⟩ prog_6_method_2_code 5 (some FieldType.int) ∈ cx_T := cx_tab (i := 336) (by decide +kernel) (by decide +kernel)
theorem km_337 : Cond.methodLink "HostBridgeLaw" 76 ⟨"HostBridgeLaw", "object", "(LHostBridge;I[J)I"⟩ ∈ cx_T := cx_tab (i := 337) (by decide +kernel) (by decide +kernel)
theorem km_338 : Cond.static ⟨"HostBridgeLaw", "object", "(LHostBridge;I[J)I"⟩ ∈ cx_T := cx_tab (i := 338) (by decide +kernel) (by decide +kernel)
theorem km_339 : Cond.codeWith ⟨"HostBridgeLaw", "object", "(LHostBridge;I[J)I"⟩ method_5_code 4 (some FieldType.int) [(0, 9, 12, 13), (0, 9, 15, 15)] ∈ cx_T := cx_tab (i := 339) (by decide +kernel) (by decide +kernel)
theorem km_340 : Cond.methodLink "HostBridgeLaw" 21 ⟨"HostBridge", "object", "(I)I"⟩ ∈ cx_T := cx_tab (i := 340) (by decide +kernel) (by decide +kernel)
theorem km_341 : Cond.instanceMethod ⟨"HostBridge", "object", "(I)I"⟩ ∈ cx_T := cx_tab (i := 341) (by decide +kernel) (by decide +kernel)
theorem km_342 : Cond.selects "HostBridge" ⟨"HostBridge", "object", "(I)I"⟩ ⟨"HostBridge", "object", "(I)I"⟩ ∈ cx_T := cx_tab (i := 342) (by decide +kernel) (by decide +kernel)
theorem km_343 : Cond.code ⟨"HostBridge", "object", "(I)I"⟩ prog_1_method_4_code 2 (some FieldType.int) ∈ cx_T := cx_tab (i := 343) (by decide +kernel) (by decide +kernel)
theorem km_345 : Cond.methodLink "HostBridge" 116 ⟨"HostBridge$World", "addObject", "(I)I"⟩ ∈ cx_T := cx_tab (i := 345) (by decide +kernel) (by decide +kernel)
theorem km_346 : Cond.instanceMethod ⟨"HostBridge$World", "addObject", "(I)I"⟩ ∈ cx_T := cx_tab (i := 346) (by decide +kernel) (by decide +kernel)
theorem km_347 : Cond.selects "HostBridge$World" ⟨"HostBridge$World", "addObject", "(I)I"⟩ ⟨"HostBridge$World", "addObject", "(I)I"⟩ ∈ cx_T := cx_tab (i := 347) (by decide +kernel) (by decide +kernel)
theorem km_348 : Cond.code ⟨"HostBridge$World", "addObject", "(I)I"⟩ prog_8_method_7_code 2 (some FieldType.int) ∈ cx_T := cx_tab (i := 348) (by decide +kernel) (by decide +kernel)
theorem km_349 : Cond.methodLink "HostBridgeLaw" 81 ⟨"HostBridgeLaw", "argument", "(LHostBridge;IJ[J)I"⟩ ∈ cx_T := cx_tab (i := 349) (by decide +kernel) (by decide +kernel)
theorem km_350 : Cond.static ⟨"HostBridgeLaw", "argument", "(LHostBridge;IJ[J)I"⟩ ∈ cx_T := cx_tab (i := 350) (by decide +kernel) (by decide +kernel)
theorem km_351 : Cond.codeWith ⟨"HostBridgeLaw", "argument", "(LHostBridge;IJ[J)I"⟩ method_6_code 6 (some FieldType.int) [(0, 11, 14, 13), (0, 11, 18, 15)] ∈ cx_T := cx_tab (i := 351) (by decide +kernel) (by decide +kernel)
theorem km_352 : Cond.methodLink "HostBridgeLaw" 24 ⟨"HostBridge", "argument", "(IJ)I"⟩ ∈ cx_T := cx_tab (i := 352) (by decide +kernel) (by decide +kernel)
theorem km_353 : Cond.instanceMethod ⟨"HostBridge", "argument", "(IJ)I"⟩ ∈ cx_T := cx_tab (i := 353) (by decide +kernel) (by decide +kernel)
theorem km_354 : Cond.selects "HostBridge" ⟨"HostBridge", "argument", "(IJ)I"⟩ ⟨"HostBridge", "argument", "(IJ)I"⟩ ∈ cx_T := cx_tab (i := 354) (by decide +kernel) (by decide +kernel)
theorem km_355 : Cond.code ⟨"HostBridge", "argument", "(IJ)I"⟩ prog_1_method_5_code 4 (some FieldType.int) ∈ cx_T := cx_tab (i := 355) (by decide +kernel) (by decide +kernel)
theorem km_356 : Cond.methodLink "HostBridge" 119 ⟨"HostBridge", "isValue", "(IJ)Z"⟩ ∈ cx_T := cx_tab (i := 356) (by decide +kernel) (by decide +kernel)
theorem km_357 : Cond.privateMethod ⟨"HostBridge", "isValue", "(IJ)Z"⟩ ∈ cx_T := cx_tab (i := 357) (by decide +kernel) (by decide +kernel)
theorem km_358 : Cond.instanceMethod ⟨"HostBridge", "isValue", "(IJ)Z"⟩ ∈ cx_T := cx_tab (i := 358) (by decide +kernel) (by decide +kernel)
theorem km_359 : Cond.code ⟨"HostBridge", "isValue", "(IJ)Z"⟩ prog_1_method_14_code 4 (some FieldType.boolean) ∈ cx_T := cx_tab (i := 359) (by decide +kernel) (by decide +kernel)
theorem km_362 : Cond.methodLink "HostBridge" 128 ⟨"HostBridge$Arguments", "add", "(IJ)I"⟩ ∈ cx_T := cx_tab (i := 362) (by decide +kernel) (by decide +kernel)
theorem km_363 : Cond.instanceMethod ⟨"HostBridge$Arguments", "add", "(IJ)I"⟩ ∈ cx_T := cx_tab (i := 363) (by decide +kernel) (by decide +kernel)
theorem km_364 : Cond.selects "HostBridge$Arguments" ⟨"HostBridge$Arguments", "add", "(IJ)I"⟩ ⟨"HostBridge$Arguments", "add", "(IJ)I"⟩ ∈ cx_T := cx_tab (i := 364) (by decide +kernel) (by decide +kernel)
theorem km_365 : Cond.code ⟨"HostBridge$Arguments", "add", "(IJ)I"⟩ prog_3_method_2_code 4 (some FieldType.int) ∈ cx_T := cx_tab (i := 365) (by decide +kernel) (by decide +kernel)
theorem km_366 : Cond.methodLink "HostBridge$Arguments" 30 ⟨"HostBridge$Arguments", "sortOf", "(IJ)I"⟩ ∈ cx_T := cx_tab (i := 366) (by decide +kernel) (by decide +kernel)
theorem km_367 : Cond.static ⟨"HostBridge$Arguments", "sortOf", "(IJ)I"⟩ ∈ cx_T := cx_tab (i := 367) (by decide +kernel) (by decide +kernel)
theorem km_368 : Cond.code ⟨"HostBridge$Arguments", "sortOf", "(IJ)I"⟩ prog_3_method_3_code 3 (some FieldType.int) ∈ cx_T := cx_tab (i := 368) (by decide +kernel) (by decide +kernel)
theorem km_369 : Cond.methodLink "HostBridge$Arguments" 34 ⟨"HostBridge$Numbers", "isInt", "(J)Z"⟩ ∈ cx_T := cx_tab (i := 369) (by decide +kernel) (by decide +kernel)
theorem km_370 : Cond.static ⟨"HostBridge$Numbers", "isInt", "(J)Z"⟩ ∈ cx_T := cx_tab (i := 370) (by decide +kernel) (by decide +kernel)
theorem km_371 : Cond.code ⟨"HostBridge$Numbers", "isInt", "(J)Z"⟩ prog_7_method_2_code 4 (some FieldType.boolean) ∈ cx_T := cx_tab (i := 371) (by decide +kernel) (by decide +kernel)
theorem km_372 : Cond.constantLong "HostBridge$Numbers" 9 (-9223372036854775808 : Int64) ∈ cx_T := cx_tab (i := 372) (by decide +kernel) (by decide +kernel)
theorem km_373 : Cond.methodLink "HostBridge$Numbers" 11 ⟨"HostBridge$Numbers", "isLong", "(J)Z"⟩ ∈ cx_T := cx_tab (i := 373) (by decide +kernel) (by decide +kernel)
theorem km_374 : Cond.static ⟨"HostBridge$Numbers", "isLong", "(J)Z"⟩ ∈ cx_T := cx_tab (i := 374) (by decide +kernel) (by decide +kernel)
theorem km_375 : Cond.code ⟨"HostBridge$Numbers", "isLong", "(J)Z"⟩ prog_7_method_3_code 5 (some FieldType.boolean) ∈ cx_T := cx_tab (i := 375) (by decide +kernel) (by decide +kernel)
theorem km_376 : Cond.methodLink "HostBridge$Numbers" 19 ⟨"HostBridge$Numbers", "isZero", "(J)Z"⟩ ∈ cx_T := cx_tab (i := 376) (by decide +kernel) (by decide +kernel)
theorem km_377 : Cond.static ⟨"HostBridge$Numbers", "isZero", "(J)Z"⟩ ∈ cx_T := cx_tab (i := 377) (by decide +kernel) (by decide +kernel)
theorem km_378 : Cond.code ⟨"HostBridge$Numbers", "isZero", "(J)Z"⟩ prog_7_method_6_code 2 (some FieldType.boolean) ∈ cx_T := cx_tab (i := 378) (by decide +kernel) (by decide +kernel)
theorem km_379 : Cond.methodLink "HostBridge$Numbers" 34 ⟨"HostBridge$Numbers", "withoutSign", "(J)J"⟩ ∈ cx_T := cx_tab (i := 379) (by decide +kernel) (by decide +kernel)
theorem km_380 : Cond.static ⟨"HostBridge$Numbers", "withoutSign", "(J)J"⟩ ∈ cx_T := cx_tab (i := 380) (by decide +kernel) (by decide +kernel)
theorem km_381 : Cond.code ⟨"HostBridge$Numbers", "withoutSign", "(J)J"⟩ prog_7_method_8_code 2 (some FieldType.long) ∈ cx_T := cx_tab (i := 381) (by decide +kernel) (by decide +kernel)
theorem km_382 : Cond.constantLong "HostBridge$Numbers" 39 (9223372036854775807 : Int64) ∈ cx_T := cx_tab (i := 382) (by decide +kernel) (by decide +kernel)
theorem km_383 : Cond.methodLink "HostBridge$Numbers" 22 ⟨"HostBridge$Numbers", "powerOf", "(J)I"⟩ ∈ cx_T := cx_tab (i := 383) (by decide +kernel) (by decide +kernel)
theorem km_384 : Cond.static ⟨"HostBridge$Numbers", "powerOf", "(J)I"⟩ ∈ cx_T := cx_tab (i := 384) (by decide +kernel) (by decide +kernel)
theorem km_385 : Cond.code ⟨"HostBridge$Numbers", "powerOf", "(J)I"⟩ prog_7_method_9_code 2 (some FieldType.int) ∈ cx_T := cx_tab (i := 385) (by decide +kernel) (by decide +kernel)
theorem km_386 : Cond.constantLong "HostBridge$Numbers" 41 (2047 : Int64) ∈ cx_T := cx_tab (i := 386) (by decide +kernel) (by decide +kernel)
theorem km_387 : Cond.methodLink "HostBridge$Numbers" 26 ⟨"HostBridge$Numbers", "fractionOf", "(J)J"⟩ ∈ cx_T := cx_tab (i := 387) (by decide +kernel) (by decide +kernel)
theorem km_388 : Cond.static ⟨"HostBridge$Numbers", "fractionOf", "(J)J"⟩ ∈ cx_T := cx_tab (i := 388) (by decide +kernel) (by decide +kernel)
theorem km_389 : Cond.code ⟨"HostBridge$Numbers", "fractionOf", "(J)J"⟩ prog_7_method_10_code 2 (some FieldType.long) ∈ cx_T := cx_tab (i := 389) (by decide +kernel) (by decide +kernel)
theorem km_390 : Cond.constantLong "HostBridge$Numbers" 43 (4503599627370495 : Int64) ∈ cx_T := cx_tab (i := 390) (by decide +kernel) (by decide +kernel)
theorem km_391 : Cond.methodLink "HostBridge$Numbers" 15 ⟨"HostBridge$Numbers", "wholeOf", "(J)J"⟩ ∈ cx_T := cx_tab (i := 391) (by decide +kernel) (by decide +kernel)
theorem km_392 : Cond.static ⟨"HostBridge$Numbers", "wholeOf", "(J)J"⟩ ∈ cx_T := cx_tab (i := 392) (by decide +kernel) (by decide +kernel)
theorem km_393 : Cond.code ⟨"HostBridge$Numbers", "wholeOf", "(J)J"⟩ prog_7_method_4_code 7 (some FieldType.long) ∈ cx_T := cx_tab (i := 393) (by decide +kernel) (by decide +kernel)
theorem km_394 : Cond.constantLong "HostBridge$Numbers" 29 (4503599627370496 : Int64) ∈ cx_T := cx_tab (i := 394) (by decide +kernel) (by decide +kernel)
theorem km_395 : Cond.methodLink "HostBridge$Arguments" 40 ⟨"HostBridge$Numbers", "isLong", "(J)Z"⟩ ∈ cx_T := cx_tab (i := 395) (by decide +kernel) (by decide +kernel)
theorem km_396 : Cond.methodLink "HostBridgeLaw" 85 ⟨"HostBridgeLaw", "weight", "(LHostBridge;II[J)I"⟩ ∈ cx_T := cx_tab (i := 396) (by decide +kernel) (by decide +kernel)
theorem km_397 : Cond.static ⟨"HostBridgeLaw", "weight", "(LHostBridge;II[J)I"⟩ ∈ cx_T := cx_tab (i := 397) (by decide +kernel) (by decide +kernel)
theorem km_398 : Cond.codeWith ⟨"HostBridgeLaw", "weight", "(LHostBridge;II[J)I"⟩ method_7_code 5 (some FieldType.int) [(0, 10, 13, 13)] ∈ cx_T := cx_tab (i := 398) (by decide +kernel) (by decide +kernel)
theorem km_399 : Cond.methodLink "HostBridgeLaw" 28 ⟨"HostBridge", "weight", "(II)I"⟩ ∈ cx_T := cx_tab (i := 399) (by decide +kernel) (by decide +kernel)
theorem km_400 : Cond.instanceMethod ⟨"HostBridge", "weight", "(II)I"⟩ ∈ cx_T := cx_tab (i := 400) (by decide +kernel) (by decide +kernel)
theorem km_401 : Cond.selects "HostBridge" ⟨"HostBridge", "weight", "(II)I"⟩ ⟨"HostBridge", "weight", "(II)I"⟩ ∈ cx_T := cx_tab (i := 401) (by decide +kernel) (by decide +kernel)
theorem km_402 : Cond.code ⟨"HostBridge", "weight", "(II)I"⟩ prog_1_method_6_code 3 (some FieldType.int) ∈ cx_T := cx_tab (i := 402) (by decide +kernel) (by decide +kernel)
theorem km_404 : Cond.methodLink "HostBridge" 133 ⟨"HostBridge$Arguments", "weightFor", "(II)I"⟩ ∈ cx_T := cx_tab (i := 404) (by decide +kernel) (by decide +kernel)
theorem km_405 : Cond.instanceMethod ⟨"HostBridge$Arguments", "weightFor", "(II)I"⟩ ∈ cx_T := cx_tab (i := 405) (by decide +kernel) (by decide +kernel)
theorem km_406 : Cond.selects "HostBridge$Arguments" ⟨"HostBridge$Arguments", "weightFor", "(II)I"⟩ ⟨"HostBridge$Arguments", "weightFor", "(II)I"⟩ ∈ cx_T := cx_tab (i := 406) (by decide +kernel) (by decide +kernel)
theorem km_407 : Cond.code ⟨"HostBridge$Arguments", "weightFor", "(II)I"⟩ prog_3_method_6_code 3 (some FieldType.int) ∈ cx_T := cx_tab (i := 407) (by decide +kernel) (by decide +kernel)
theorem km_408 : Cond.fieldLink "HostBridge$Arguments" 51 "HostBridge$Arguments" "WEIGHTS" "[I" ∈ cx_T := cx_tab (i := 408) (by decide +kernel) (by decide +kernel)
theorem km_410 : Cond.methodLink "HostBridge$Arguments" 59 ⟨"HostBridge$World", "distance", "(II)I"⟩ ∈ cx_T := cx_tab (i := 410) (by decide +kernel) (by decide +kernel)
theorem km_411 : Cond.instanceMethod ⟨"HostBridge$World", "distance", "(II)I"⟩ ∈ cx_T := cx_tab (i := 411) (by decide +kernel) (by decide +kernel)
theorem km_412 : Cond.selects "HostBridge$World" ⟨"HostBridge$World", "distance", "(II)I"⟩ ⟨"HostBridge$World", "distance", "(II)I"⟩ ∈ cx_T := cx_tab (i := 412) (by decide +kernel) (by decide +kernel)
theorem km_413 : Cond.code ⟨"HostBridge$World", "distance", "(II)I"⟩ prog_8_method_8_code 5 (some FieldType.int) ∈ cx_T := cx_tab (i := 413) (by decide +kernel) (by decide +kernel)
theorem km_414 : Cond.methodLink "HostBridgeLaw" 89 ⟨"HostBridgeLaw", "call", "(LHostBridge;II[J)I"⟩ ∈ cx_T := cx_tab (i := 414) (by decide +kernel) (by decide +kernel)
theorem km_415 : Cond.static ⟨"HostBridgeLaw", "call", "(LHostBridge;II[J)I"⟩ ∈ cx_T := cx_tab (i := 415) (by decide +kernel) (by decide +kernel)
theorem km_416 : Cond.codeWith ⟨"HostBridgeLaw", "call", "(LHostBridge;II[J)I"⟩ method_8_code 5 (some FieldType.int) [(0, 10, 13, 13), (0, 10, 17, 35), (0, 10, 21, 15)] ∈ cx_T := cx_tab (i := 416) (by decide +kernel) (by decide +kernel)
theorem km_417 : Cond.classLink "HostBridgeLaw" 35 "java/util/NoSuchElementException" ∈ cx_T := cx_tab (i := 417) (by decide +kernel) (by decide +kernel)
theorem km_418 : Cond.methodLink "HostBridgeLaw" 32 ⟨"HostBridge", "call", "(II)I"⟩ ∈ cx_T := cx_tab (i := 418) (by decide +kernel) (by decide +kernel)
theorem km_419 : Cond.instanceMethod ⟨"HostBridge", "call", "(II)I"⟩ ∈ cx_T := cx_tab (i := 419) (by decide +kernel) (by decide +kernel)
theorem km_420 : Cond.selects "HostBridge" ⟨"HostBridge", "call", "(II)I"⟩ ⟨"HostBridge", "call", "(II)I"⟩ ∈ cx_T := cx_tab (i := 420) (by decide +kernel) (by decide +kernel)
theorem km_421 : Cond.code ⟨"HostBridge", "call", "(II)I"⟩ prog_1_method_7_code 5 (some FieldType.int) ∈ cx_T := cx_tab (i := 421) (by decide +kernel) (by decide +kernel)
theorem km_422 : Cond.methodLink "HostBridge" 137 ⟨"HostBridge$Arguments", "takeAll", "()I"⟩ ∈ cx_T := cx_tab (i := 422) (by decide +kernel) (by decide +kernel)
theorem km_423 : Cond.instanceMethod ⟨"HostBridge$Arguments", "takeAll", "()I"⟩ ∈ cx_T := cx_tab (i := 423) (by decide +kernel) (by decide +kernel)
theorem km_424 : Cond.selects "HostBridge$Arguments" ⟨"HostBridge$Arguments", "takeAll", "()I"⟩ ⟨"HostBridge$Arguments", "takeAll", "()I"⟩ ∈ cx_T := cx_tab (i := 424) (by decide +kernel) (by decide +kernel)
theorem km_425 : Cond.code ⟨"HostBridge$Arguments", "takeAll", "()I"⟩ prog_3_method_4_code 2 (some FieldType.int) ∈ cx_T := cx_tab (i := 425) (by decide +kernel) (by decide +kernel)
theorem km_426 : Cond.methodLink "HostBridge" 141 ⟨"HostBridge$World", "hasObject", "(I)Z"⟩ ∈ cx_T := cx_tab (i := 426) (by decide +kernel) (by decide +kernel)
theorem km_427 : Cond.instanceMethod ⟨"HostBridge$World", "hasObject", "(I)Z"⟩ ∈ cx_T := cx_tab (i := 427) (by decide +kernel) (by decide +kernel)
theorem km_428 : Cond.selects "HostBridge$World" ⟨"HostBridge$World", "hasObject", "(I)Z"⟩ ⟨"HostBridge$World", "hasObject", "(I)Z"⟩ ∈ cx_T := cx_tab (i := 428) (by decide +kernel) (by decide +kernel)
theorem km_429 : Cond.code ⟨"HostBridge$World", "hasObject", "(I)Z"⟩ prog_8_method_3_code 2 (some FieldType.boolean) ∈ cx_T := cx_tab (i := 429) (by decide +kernel) (by decide +kernel)
theorem km_431 : Cond.methodLink "HostBridge" 150 ⟨"HostBridge$Choice", "gather", "(III)V"⟩ ∈ cx_T := cx_tab (i := 431) (by decide +kernel) (by decide +kernel)
theorem km_432 : Cond.instanceMethod ⟨"HostBridge$Choice", "gather", "(III)V"⟩ ∈ cx_T := cx_tab (i := 432) (by decide +kernel) (by decide +kernel)
theorem km_433 : Cond.selects "HostBridge$Choice" ⟨"HostBridge$Choice", "gather", "(III)V"⟩ ⟨"HostBridge$Choice", "gather", "(III)V"⟩ ∈ cx_T := cx_tab (i := 433) (by decide +kernel) (by decide +kernel)
theorem km_434 : Cond.code ⟨"HostBridge$Choice", "gather", "(III)V"⟩ prog_4_method_3_code 6 none ∈ cx_T := cx_tab (i := 434) (by decide +kernel) (by decide +kernel)
theorem km_435 : Cond.methodLink "HostBridge$Choice" 45 ⟨"HostBridge$Choice", "gatherFrom", "(III)V"⟩ ∈ cx_T := cx_tab (i := 435) (by decide +kernel) (by decide +kernel)
theorem km_436 : Cond.privateMethod ⟨"HostBridge$Choice", "gatherFrom", "(III)V"⟩ ∈ cx_T := cx_tab (i := 436) (by decide +kernel) (by decide +kernel)
theorem km_437 : Cond.instanceMethod ⟨"HostBridge$Choice", "gatherFrom", "(III)V"⟩ ∈ cx_T := cx_tab (i := 437) (by decide +kernel) (by decide +kernel)
theorem km_438 : Cond.code ⟨"HostBridge$Choice", "gatherFrom", "(III)V"⟩ prog_4_method_4_code 5 none ∈ cx_T := cx_tab (i := 438) (by decide +kernel) (by decide +kernel)
theorem km_439 : Cond.methodLink "HostBridge$Choice" 50 ⟨"HostBridge$Methods", "isCalled", "(IIII)Z"⟩ ∈ cx_T := cx_tab (i := 439) (by decide +kernel) (by decide +kernel)
theorem km_440 : Cond.methodLink "HostBridge$Choice" 57 ⟨"HostBridge$Arguments", "fit", "(II)Z"⟩ ∈ cx_T := cx_tab (i := 440) (by decide +kernel) (by decide +kernel)
theorem km_441 : Cond.instanceMethod ⟨"HostBridge$Arguments", "fit", "(II)Z"⟩ ∈ cx_T := cx_tab (i := 441) (by decide +kernel) (by decide +kernel)
theorem km_442 : Cond.selects "HostBridge$Arguments" ⟨"HostBridge$Arguments", "fit", "(II)Z"⟩ ⟨"HostBridge$Arguments", "fit", "(II)Z"⟩ ∈ cx_T := cx_tab (i := 442) (by decide +kernel) (by decide +kernel)
theorem km_443 : Cond.code ⟨"HostBridge$Arguments", "fit", "(II)Z"⟩ prog_3_method_5_code 4 (some FieldType.boolean) ∈ cx_T := cx_tab (i := 443) (by decide +kernel) (by decide +kernel)
theorem km_444 : Cond.methodLinkNest "HostBridge$Arguments" 43 ⟨"HostBridge", "typeAt", "(III)I"⟩ "HostBridge" ∈ cx_T := cx_tab (i := 444) (by decide +kernel) (by decide +kernel)
theorem km_445 : Cond.methodLink "HostBridge$Arguments" 47 ⟨"HostBridge$Arguments", "weightFor", "(II)I"⟩ ∈ cx_T := cx_tab (i := 445) (by decide +kernel) (by decide +kernel)
theorem km_446 : Cond.methodLink "HostBridge$Choice" 63 ⟨"HostBridge$Choice", "isHidden", "(I)Z"⟩ ∈ cx_T := cx_tab (i := 446) (by decide +kernel) (by decide +kernel)
theorem km_447 : Cond.privateMethod ⟨"HostBridge$Choice", "isHidden", "(I)Z"⟩ ∈ cx_T := cx_tab (i := 447) (by decide +kernel) (by decide +kernel)
theorem km_448 : Cond.instanceMethod ⟨"HostBridge$Choice", "isHidden", "(I)Z"⟩ ∈ cx_T := cx_tab (i := 448) (by decide +kernel) (by decide +kernel)
theorem km_449 : Cond.code ⟨"HostBridge$Choice", "isHidden", "(I)Z"⟩ prog_4_method_5_code 3 (some FieldType.boolean) ∈ cx_T := cx_tab (i := 449) (by decide +kernel) (by decide +kernel)
theorem km_450 : Cond.classLink "HostBridge" 155 "java/util/NoSuchElementException" ∈ cx_T := cx_tab (i := 450) (by decide +kernel) (by decide +kernel)
theorem km_451 : Cond.instantiable "java/util/NoSuchElementException" 6 ∈ cx_T := cx_tab (i := 451) (by decide +kernel) (by decide +kernel)
theorem km_452 : Cond.castable "java/util/NoSuchElementException" "java/util/NoSuchElementException" ∈ cx_T := cx_tab (i := 452) (by decide +kernel) (by decide +kernel)
theorem km_453 : Cond.selects "java/util/NoSuchElementException" ⟨"java/lang/Throwable", "fillInStackTrace", "(I)Ljava/lang/Throwable;"⟩ ⟨"java/lang/Throwable", "fillInStackTrace", "(I)Ljava/lang/Throwable;"⟩ ∈ cx_T := cx_tab (i := 453) (by decide +kernel) (by decide +kernel)
theorem km_454 : Cond.lays "java/util/NoSuchElementException" "java/lang/Throwable" "cause" "Ljava/lang/Throwable;" ∈ cx_T := cx_tab (i := 454) (by decide +kernel) (by decide +kernel)
theorem km_455 : Cond.lays "java/util/NoSuchElementException" "java/lang/Throwable" "stackTrace" "[Ljava/lang/StackTraceElement;" ∈ cx_T := cx_tab (i := 455) (by decide +kernel) (by decide +kernel)
theorem km_456 : Cond.lays "java/util/NoSuchElementException" "java/lang/Throwable" "suppressedExceptions" "Ljava/util/List;" ∈ cx_T := cx_tab (i := 456) (by decide +kernel) (by decide +kernel)
theorem km_457 : Cond.lays "java/util/NoSuchElementException" "java/lang/Throwable" "detailMessage" "Ljava/lang/String;" ∈ cx_T := cx_tab (i := 457) (by decide +kernel) (by decide +kernel)
theorem km_458 : Cond.lays "java/util/NoSuchElementException" "java/lang/Throwable" "backtrace" "Ljava/lang/Object;" ∈ cx_T := cx_tab (i := 458) (by decide +kernel) (by decide +kernel)
theorem km_460 : Cond.methodLink "HostBridge" 159 ⟨"java/util/NoSuchElementException", "<init>", "(Ljava/lang/String;)V"⟩ ∈ cx_T := cx_tab (i := 460) (by decide +kernel) (by decide +kernel)
theorem km_461 : Cond.instanceMethod ⟨"java/util/NoSuchElementException", "<init>", "(Ljava/lang/String;)V"⟩ ∈ cx_T := cx_tab (i := 461) (by decide +kernel) (by decide +kernel)
theorem km_462 : Cond.code ⟨"java/util/NoSuchElementException", "<init>", "(Ljava/lang/String;)V"⟩ prog_19_method_4_code 2 none ∈ cx_T := cx_tab (i := 462) (by decide +kernel) (by decide +kernel)
theorem km_463 : Cond.methodLink "java/util/NoSuchElementException" 13 ⟨"java/lang/RuntimeException", "<init>", "(Ljava/lang/String;)V"⟩ ∈ cx_T := cx_tab (i := 463) (by decide +kernel) (by decide +kernel)
theorem km_464 : Cond.lays "java/util/NoSuchElementException" "java/lang/Throwable" "depth" "I" ∈ cx_T := cx_tab (i := 464) (by decide +kernel) (by decide +kernel)
theorem km_465 : Cond.superclass "java/util/NoSuchElementException" "java/lang/RuntimeException" ∈ cx_T := cx_tab (i := 465) (by decide +kernel) (by decide +kernel)
theorem km_466 : Cond.methodLink "HostBridge" 160 ⟨"HostBridge$Choice", "best", "(I)I"⟩ ∈ cx_T := cx_tab (i := 466) (by decide +kernel) (by decide +kernel)
theorem km_467 : Cond.instanceMethod ⟨"HostBridge$Choice", "best", "(I)I"⟩ ∈ cx_T := cx_tab (i := 467) (by decide +kernel) (by decide +kernel)
theorem km_468 : Cond.selects "HostBridge$Choice" ⟨"HostBridge$Choice", "best", "(I)I"⟩ ⟨"HostBridge$Choice", "best", "(I)I"⟩ ∈ cx_T := cx_tab (i := 468) (by decide +kernel) (by decide +kernel)
theorem km_469 : Cond.code ⟨"HostBridge$Choice", "best", "(I)I"⟩ prog_4_method_6_code 4 (some FieldType.int) ∈ cx_T := cx_tab (i := 469) (by decide +kernel) (by decide +kernel)
theorem km_470 : Cond.methodLink "HostBridge$Choice" 67 ⟨"HostBridge$Choice", "lowestWeight", "(II)I"⟩ ∈ cx_T := cx_tab (i := 470) (by decide +kernel) (by decide +kernel)
theorem km_471 : Cond.privateMethod ⟨"HostBridge$Choice", "lowestWeight", "(II)I"⟩ ∈ cx_T := cx_tab (i := 471) (by decide +kernel) (by decide +kernel)
theorem km_472 : Cond.instanceMethod ⟨"HostBridge$Choice", "lowestWeight", "(II)I"⟩ ∈ cx_T := cx_tab (i := 472) (by decide +kernel) (by decide +kernel)
theorem km_473 : Cond.code ⟨"HostBridge$Choice", "lowestWeight", "(II)I"⟩ prog_4_method_7_code 5 (some FieldType.int) ∈ cx_T := cx_tab (i := 473) (by decide +kernel) (by decide +kernel)
theorem km_474 : Cond.methodLink "HostBridge$Choice" 74 ⟨"HostBridge$Choice", "weightIn", "(III)I"⟩ ∈ cx_T := cx_tab (i := 474) (by decide +kernel) (by decide +kernel)
theorem km_475 : Cond.privateMethod ⟨"HostBridge$Choice", "weightIn", "(III)I"⟩ ∈ cx_T := cx_tab (i := 475) (by decide +kernel) (by decide +kernel)
theorem km_476 : Cond.instanceMethod ⟨"HostBridge$Choice", "weightIn", "(III)I"⟩ ∈ cx_T := cx_tab (i := 476) (by decide +kernel) (by decide +kernel)
theorem km_477 : Cond.code ⟨"HostBridge$Choice", "weightIn", "(III)I"⟩ prog_4_method_9_code 4 (some FieldType.int) ∈ cx_T := cx_tab (i := 477) (by decide +kernel) (by decide +kernel)
theorem km_478 : Cond.methodLinkNest "HostBridge$Choice" 83 ⟨"HostBridge", "typeAt", "(III)I"⟩ "HostBridge" ∈ cx_T := cx_tab (i := 478) (by decide +kernel) (by decide +kernel)
theorem km_479 : Cond.methodLink "HostBridge$Choice" 86 ⟨"HostBridge$Arguments", "weightFor", "(II)I"⟩ ∈ cx_T := cx_tab (i := 479) (by decide +kernel) (by decide +kernel)
theorem km_480 : Cond.methodLink "HostBridge$Choice" 78 ⟨"java/lang/Math", "min", "(II)I"⟩ ∈ cx_T := cx_tab (i := 480) (by decide +kernel) (by decide +kernel)
theorem km_481 : Cond.static ⟨"java/lang/Math", "min", "(II)I"⟩ ∈ cx_T := cx_tab (i := 481) (by decide +kernel) (by decide +kernel)
theorem km_482 : Cond.code ⟨"java/lang/Math", "min", "(II)I"⟩ prog_15_method_69_code 2 (some FieldType.int) ∈ cx_T := cx_tab (i := 482) (by decide +kernel) (by decide +kernel)
theorem km_483 : Cond.methodLink "HostBridge$Choice" 71 ⟨"HostBridge$Choice", "isLowest", "(II)Z"⟩ ∈ cx_T := cx_tab (i := 483) (by decide +kernel) (by decide +kernel)
theorem km_484 : Cond.privateMethod ⟨"HostBridge$Choice", "isLowest", "(II)Z"⟩ ∈ cx_T := cx_tab (i := 484) (by decide +kernel) (by decide +kernel)
theorem km_485 : Cond.instanceMethod ⟨"HostBridge$Choice", "isLowest", "(II)Z"⟩ ∈ cx_T := cx_tab (i := 485) (by decide +kernel) (by decide +kernel)
theorem km_486 : Cond.code ⟨"HostBridge$Choice", "isLowest", "(II)Z"⟩ prog_4_method_8_code 4 (some FieldType.boolean) ∈ cx_T := cx_tab (i := 486) (by decide +kernel) (by decide +kernel)
theorem km_488 : Cond.methodLink "HostBridge" 165 ⟨"HostBridge", "writeDown", "(II)V"⟩ ∈ cx_T := cx_tab (i := 488) (by decide +kernel) (by decide +kernel)
theorem km_489 : Cond.privateMethod ⟨"HostBridge", "writeDown", "(II)V"⟩ ∈ cx_T := cx_tab (i := 489) (by decide +kernel) (by decide +kernel)
theorem km_490 : Cond.instanceMethod ⟨"HostBridge", "writeDown", "(II)V"⟩ ∈ cx_T := cx_tab (i := 490) (by decide +kernel) (by decide +kernel)
theorem km_491 : Cond.code ⟨"HostBridge", "writeDown", "(II)V"⟩ prog_1_method_15_code 6 none ∈ cx_T := cx_tab (i := 491) (by decide +kernel) (by decide +kernel)
theorem km_492 : Cond.methodLink "HostBridge" 221 ⟨"HostBridge$Diary", "open", "(III)V"⟩ ∈ cx_T := cx_tab (i := 492) (by decide +kernel) (by decide +kernel)
theorem km_493 : Cond.instanceMethod ⟨"HostBridge$Diary", "open", "(III)V"⟩ ∈ cx_T := cx_tab (i := 493) (by decide +kernel) (by decide +kernel)
theorem km_494 : Cond.selects "HostBridge$Diary" ⟨"HostBridge$Diary", "open", "(III)V"⟩ ⟨"HostBridge$Diary", "open", "(III)V"⟩ ∈ cx_T := cx_tab (i := 494) (by decide +kernel) (by decide +kernel)
theorem km_495 : Cond.code ⟨"HostBridge$Diary", "open", "(III)V"⟩ prog_5_method_2_code 5 none ∈ cx_T := cx_tab (i := 495) (by decide +kernel) (by decide +kernel)
theorem km_496 : Cond.methodLink "HostBridge$Diary" 29 ⟨"HostBridge$Diary", "rowOf", "(I)I"⟩ ∈ cx_T := cx_tab (i := 496) (by decide +kernel) (by decide +kernel)
theorem km_497 : Cond.static ⟨"HostBridge$Diary", "rowOf", "(I)I"⟩ ∈ cx_T := cx_tab (i := 497) (by decide +kernel) (by decide +kernel)
theorem km_498 : Cond.code ⟨"HostBridge$Diary", "rowOf", "(I)I"⟩ prog_5_method_10_code 1 (some FieldType.int) ∈ cx_T := cx_tab (i := 498) (by decide +kernel) (by decide +kernel)
theorem km_499 : Cond.methodLink "HostBridge$Diary" 37 ⟨"java/lang/Math", "floorMod", "(II)I"⟩ ∈ cx_T := cx_tab (i := 499) (by decide +kernel) (by decide +kernel)
theorem km_500 : Cond.static ⟨"java/lang/Math", "floorMod", "(II)I"⟩ ∈ cx_T := cx_tab (i := 500) (by decide +kernel) (by decide +kernel)
theorem km_501 : Cond.code ⟨"java/lang/Math", "floorMod", "(II)I"⟩ prog_15_method_50_code 3 (some FieldType.int) ∈ cx_T := cx_tab (i := 501) (by decide +kernel) (by decide +kernel)
theorem km_502 : Cond.methodLink "HostBridge" 224 ⟨"HostBridge", "typeAt", "(III)I"⟩ ∈ cx_T := cx_tab (i := 502) (by decide +kernel) (by decide +kernel)
theorem km_503 : Cond.methodLink "HostBridge" 228 ⟨"HostBridge$Arguments", "convert", "(II)J"⟩ ∈ cx_T := cx_tab (i := 503) (by decide +kernel) (by decide +kernel)
theorem km_504 : Cond.instanceMethod ⟨"HostBridge$Arguments", "convert", "(II)J"⟩ ∈ cx_T := cx_tab (i := 504) (by decide +kernel) (by decide +kernel)
theorem km_505 : Cond.selects "HostBridge$Arguments" ⟨"HostBridge$Arguments", "convert", "(II)J"⟩ ⟨"HostBridge$Arguments", "convert", "(II)J"⟩ ∈ cx_T := cx_tab (i := 505) (by decide +kernel) (by decide +kernel)
theorem km_506 : Cond.code ⟨"HostBridge$Arguments", "convert", "(II)J"⟩ prog_3_method_7_code 3 (some FieldType.long) ∈ cx_T := cx_tab (i := 506) (by decide +kernel) (by decide +kernel)
theorem km_507 : Cond.methodLink "HostBridge$Arguments" 62 ⟨"HostBridge$Numbers", "truthOf", "(J)J"⟩ ∈ cx_T := cx_tab (i := 507) (by decide +kernel) (by decide +kernel)
theorem km_508 : Cond.static ⟨"HostBridge$Numbers", "truthOf", "(J)J"⟩ ∈ cx_T := cx_tab (i := 508) (by decide +kernel) (by decide +kernel)
theorem km_509 : Cond.code ⟨"HostBridge$Numbers", "truthOf", "(J)J"⟩ prog_7_method_5_code 2 (some FieldType.long) ∈ cx_T := cx_tab (i := 509) (by decide +kernel) (by decide +kernel)
theorem km_510 : Cond.methodLink "HostBridge$Numbers" 31 ⟨"HostBridge$Numbers", "isNan", "(J)Z"⟩ ∈ cx_T := cx_tab (i := 510) (by decide +kernel) (by decide +kernel)
theorem km_511 : Cond.static ⟨"HostBridge$Numbers", "isNan", "(J)Z"⟩ ∈ cx_T := cx_tab (i := 511) (by decide +kernel) (by decide +kernel)
theorem km_512 : Cond.code ⟨"HostBridge$Numbers", "isNan", "(J)Z"⟩ prog_7_method_7_code 2 (some FieldType.boolean) ∈ cx_T := cx_tab (i := 512) (by decide +kernel) (by decide +kernel)
theorem km_513 : Cond.constantLong "HostBridge$Numbers" 37 (9218868437227405312 : Int64) ∈ cx_T := cx_tab (i := 513) (by decide +kernel) (by decide +kernel)
theorem km_514 : Cond.methodLink "HostBridge$Arguments" 66 ⟨"HostBridge$Numbers", "wholeOf", "(J)J"⟩ ∈ cx_T := cx_tab (i := 514) (by decide +kernel) (by decide +kernel)
theorem km_515 : Cond.constantLong "HostBridge$Arguments" 69 (-1 : Int64) ∈ cx_T := cx_tab (i := 515) (by decide +kernel) (by decide +kernel)
theorem km_516 : Cond.methodLink "HostBridge" 231 ⟨"HostBridge$Diary", "setValue", "(IJ)V"⟩ ∈ cx_T := cx_tab (i := 516) (by decide +kernel) (by decide +kernel)
theorem km_517 : Cond.instanceMethod ⟨"HostBridge$Diary", "setValue", "(IJ)V"⟩ ∈ cx_T := cx_tab (i := 517) (by decide +kernel) (by decide +kernel)
theorem km_518 : Cond.selects "HostBridge$Diary" ⟨"HostBridge$Diary", "setValue", "(IJ)V"⟩ ⟨"HostBridge$Diary", "setValue", "(IJ)V"⟩ ∈ cx_T := cx_tab (i := 518) (by decide +kernel) (by decide +kernel)
theorem km_519 : Cond.code ⟨"HostBridge$Diary", "setValue", "(IJ)V"⟩ prog_5_method_3_code 4 none ∈ cx_T := cx_tab (i := 519) (by decide +kernel) (by decide +kernel)
theorem km_520 : Cond.methodLink "HostBridge" 235 ⟨"HostBridge$Answers", "next", "()J"⟩ ∈ cx_T := cx_tab (i := 520) (by decide +kernel) (by decide +kernel)
theorem km_521 : Cond.instanceMethod ⟨"HostBridge$Answers", "next", "()J"⟩ ∈ cx_T := cx_tab (i := 521) (by decide +kernel) (by decide +kernel)
theorem km_522 : Cond.selects "HostBridge$Answers" ⟨"HostBridge$Answers", "next", "()J"⟩ ⟨"HostBridge$Answers", "next", "()J"⟩ ∈ cx_T := cx_tab (i := 522) (by decide +kernel) (by decide +kernel)
theorem km_523 : Cond.code ⟨"HostBridge$Answers", "next", "()J"⟩ prog_2_method_3_code 3 (some FieldType.long) ∈ cx_T := cx_tab (i := 523) (by decide +kernel) (by decide +kernel)
theorem km_524 : Cond.methodLink "HostBridge" 239 ⟨"HostBridge$Diary", "close", "(J)V"⟩ ∈ cx_T := cx_tab (i := 524) (by decide +kernel) (by decide +kernel)
theorem km_525 : Cond.instanceMethod ⟨"HostBridge$Diary", "close", "(J)V"⟩ ∈ cx_T := cx_tab (i := 525) (by decide +kernel) (by decide +kernel)
theorem km_526 : Cond.selects "HostBridge$Diary" ⟨"HostBridge$Diary", "close", "(J)V"⟩ ⟨"HostBridge$Diary", "close", "(J)V"⟩ ∈ cx_T := cx_tab (i := 526) (by decide +kernel) (by decide +kernel)
theorem km_527 : Cond.code ⟨"HostBridge$Diary", "close", "(J)V"⟩ prog_5_method_4_code 3 none ∈ cx_T := cx_tab (i := 527) (by decide +kernel) (by decide +kernel)
theorem km_528 : Cond.methodLink "HostBridgeLaw" 92 ⟨"HostBridgeLaw", "exact", "(LHostBridge;III[J)I"⟩ ∈ cx_T := cx_tab (i := 528) (by decide +kernel) (by decide +kernel)
theorem km_529 : Cond.static ⟨"HostBridgeLaw", "exact", "(LHostBridge;III[J)I"⟩ ∈ cx_T := cx_tab (i := 529) (by decide +kernel) (by decide +kernel)
theorem km_530 : Cond.codeWith ⟨"HostBridgeLaw", "exact", "(LHostBridge;III[J)I"⟩ method_9_code 6 (some FieldType.int) [(0, 12, 15, 13), (0, 12, 19, 35)] ∈ cx_T := cx_tab (i := 530) (by decide +kernel) (by decide +kernel)
theorem km_531 : Cond.methodLink "HostBridgeLaw" 37 ⟨"HostBridge", "exact", "(III)I"⟩ ∈ cx_T := cx_tab (i := 531) (by decide +kernel) (by decide +kernel)
theorem km_532 : Cond.instanceMethod ⟨"HostBridge", "exact", "(III)I"⟩ ∈ cx_T := cx_tab (i := 532) (by decide +kernel) (by decide +kernel)
theorem km_533 : Cond.selects "HostBridge" ⟨"HostBridge", "exact", "(III)I"⟩ ⟨"HostBridge", "exact", "(III)I"⟩ ∈ cx_T := cx_tab (i := 533) (by decide +kernel) (by decide +kernel)
theorem km_534 : Cond.code ⟨"HostBridge", "exact", "(III)I"⟩ prog_1_method_8_code 6 (some FieldType.int) ∈ cx_T := cx_tab (i := 534) (by decide +kernel) (by decide +kernel)
theorem km_535 : Cond.methodLink "HostBridge" 169 ⟨"HostBridge$Choice", "first", "(IIII)I"⟩ ∈ cx_T := cx_tab (i := 535) (by decide +kernel) (by decide +kernel)
theorem km_536 : Cond.instanceMethod ⟨"HostBridge$Choice", "first", "(IIII)I"⟩ ∈ cx_T := cx_tab (i := 536) (by decide +kernel) (by decide +kernel)
theorem km_537 : Cond.selects "HostBridge$Choice" ⟨"HostBridge$Choice", "first", "(IIII)I"⟩ ⟨"HostBridge$Choice", "first", "(IIII)I"⟩ ∈ cx_T := cx_tab (i := 537) (by decide +kernel) (by decide +kernel)
theorem km_538 : Cond.code ⟨"HostBridge$Choice", "first", "(IIII)I"⟩ prog_4_method_2_code 8 (some FieldType.int) ∈ cx_T := cx_tab (i := 538) (by decide +kernel) (by decide +kernel)
theorem km_539 : Cond.methodLink "HostBridge$Choice" 30 ⟨"HostBridge$Methods", "find", "(IIII)I"⟩ ∈ cx_T := cx_tab (i := 539) (by decide +kernel) (by decide +kernel)
theorem km_541 : Cond.methodLink "HostBridge" 174 ⟨"HostBridge$Arguments", "fit", "(II)Z"⟩ ∈ cx_T := cx_tab (i := 541) (by decide +kernel) (by decide +kernel)
theorem km_543 : Cond.methodLink "HostBridgeLaw" 96 ⟨"HostBridgeLaw", "answer", "(LHostBridge;J)I"⟩ ∈ cx_T := cx_tab (i := 543) (by decide +kernel) (by decide +kernel)
theorem km_544 : Cond.static ⟨"HostBridgeLaw", "answer", "(LHostBridge;J)I"⟩ ∈ cx_T := cx_tab (i := 544) (by decide +kernel) (by decide +kernel)
theorem km_545 : Cond.codeWith ⟨"HostBridgeLaw", "answer", "(LHostBridge;J)I"⟩ method_10_code 4 (some FieldType.int) [(0, 5, 8, 15)] ∈ cx_T := cx_tab (i := 545) (by decide +kernel) (by decide +kernel)
theorem km_546 : Cond.methodLink "HostBridgeLaw" 41 ⟨"HostBridge", "answer", "(J)V"⟩ ∈ cx_T := cx_tab (i := 546) (by decide +kernel) (by decide +kernel)
theorem km_547 : Cond.instanceMethod ⟨"HostBridge", "answer", "(J)V"⟩ ∈ cx_T := cx_tab (i := 547) (by decide +kernel) (by decide +kernel)
theorem km_548 : Cond.selects "HostBridge" ⟨"HostBridge", "answer", "(J)V"⟩ ⟨"HostBridge", "answer", "(J)V"⟩ ∈ cx_T := cx_tab (i := 548) (by decide +kernel) (by decide +kernel)
theorem km_549 : Cond.code ⟨"HostBridge", "answer", "(J)V"⟩ prog_1_method_9_code 3 none ∈ cx_T := cx_tab (i := 549) (by decide +kernel) (by decide +kernel)
theorem km_551 : Cond.methodLink "HostBridge" 182 ⟨"HostBridge$Answers", "add", "(J)V"⟩ ∈ cx_T := cx_tab (i := 551) (by decide +kernel) (by decide +kernel)
theorem km_552 : Cond.instanceMethod ⟨"HostBridge$Answers", "add", "(J)V"⟩ ∈ cx_T := cx_tab (i := 552) (by decide +kernel) (by decide +kernel)
theorem km_553 : Cond.selects "HostBridge$Answers" ⟨"HostBridge$Answers", "add", "(J)V"⟩ ⟨"HostBridge$Answers", "add", "(J)V"⟩ ∈ cx_T := cx_tab (i := 553) (by decide +kernel) (by decide +kernel)
theorem km_554 : Cond.code ⟨"HostBridge$Answers", "add", "(J)V"⟩ prog_2_method_2_code 3 none ∈ cx_T := cx_tab (i := 554) (by decide +kernel) (by decide +kernel)
theorem km_555 : Cond.methodLink "HostBridgeLaw" 100 ⟨"HostBridgeLaw", "given", "(LHostBridge;[J)I"⟩ ∈ cx_T := cx_tab (i := 555) (by decide +kernel) (by decide +kernel)
theorem km_556 : Cond.static ⟨"HostBridgeLaw", "given", "(LHostBridge;[J)I"⟩ ∈ cx_T := cx_tab (i := 556) (by decide +kernel) (by decide +kernel)
theorem km_557 : Cond.codeWith ⟨"HostBridgeLaw", "given", "(LHostBridge;[J)I"⟩ method_11_code 3 (some FieldType.int) [(0, 7, 10, 15)] ∈ cx_T := cx_tab (i := 557) (by decide +kernel) (by decide +kernel)
theorem km_558 : Cond.methodLink "HostBridgeLaw" 45 ⟨"HostBridge", "given", "()J"⟩ ∈ cx_T := cx_tab (i := 558) (by decide +kernel) (by decide +kernel)
theorem km_559 : Cond.instanceMethod ⟨"HostBridge", "given", "()J"⟩ ∈ cx_T := cx_tab (i := 559) (by decide +kernel) (by decide +kernel)
theorem km_560 : Cond.selects "HostBridge" ⟨"HostBridge", "given", "()J"⟩ ⟨"HostBridge", "given", "()J"⟩ ∈ cx_T := cx_tab (i := 560) (by decide +kernel) (by decide +kernel)
theorem km_561 : Cond.code ⟨"HostBridge", "given", "()J"⟩ prog_1_method_10_code 1 (some FieldType.long) ∈ cx_T := cx_tab (i := 561) (by decide +kernel) (by decide +kernel)
theorem km_563 : Cond.methodLink "HostBridgeLaw" 108 ⟨"HostBridgeLaw", "look", "(LHostBridge;II[J)I"⟩ ∈ cx_T := cx_tab (i := 563) (by decide +kernel) (by decide +kernel)
theorem km_564 : Cond.static ⟨"HostBridgeLaw", "look", "(LHostBridge;II[J)I"⟩ ∈ cx_T := cx_tab (i := 564) (by decide +kernel) (by decide +kernel)
theorem km_565 : Cond.codeWith ⟨"HostBridgeLaw", "look", "(LHostBridge;II[J)I"⟩ method_12_code 5 (some FieldType.int) [(0, 10, 13, 13), (0, 10, 17, 52)] ∈ cx_T := cx_tab (i := 565) (by decide +kernel) (by decide +kernel)
theorem km_566 : Cond.classLink "HostBridgeLaw" 52 "java/lang/IndexOutOfBoundsException" ∈ cx_T := cx_tab (i := 566) (by decide +kernel) (by decide +kernel)
theorem km_567 : Cond.methodLink "HostBridgeLaw" 49 ⟨"HostBridge", "look", "(II)I"⟩ ∈ cx_T := cx_tab (i := 567) (by decide +kernel) (by decide +kernel)
theorem km_568 : Cond.instanceMethod ⟨"HostBridge", "look", "(II)I"⟩ ∈ cx_T := cx_tab (i := 568) (by decide +kernel) (by decide +kernel)
theorem km_569 : Cond.selects "HostBridge" ⟨"HostBridge", "look", "(II)I"⟩ ⟨"HostBridge", "look", "(II)I"⟩ ∈ cx_T := cx_tab (i := 569) (by decide +kernel) (by decide +kernel)
theorem km_570 : Cond.code ⟨"HostBridge", "look", "(II)I"⟩ prog_1_method_12_code 3 (some FieldType.int) ∈ cx_T := cx_tab (i := 570) (by decide +kernel) (by decide +kernel)
theorem km_572 : Cond.methodLink "HostBridge" 194 ⟨"HostBridge$Diary", "keeps", "(I)Z"⟩ ∈ cx_T := cx_tab (i := 572) (by decide +kernel) (by decide +kernel)
theorem km_573 : Cond.instanceMethod ⟨"HostBridge$Diary", "keeps", "(I)Z"⟩ ∈ cx_T := cx_tab (i := 573) (by decide +kernel) (by decide +kernel)
theorem km_574 : Cond.selects "HostBridge$Diary" ⟨"HostBridge$Diary", "keeps", "(I)Z"⟩ ⟨"HostBridge$Diary", "keeps", "(I)Z"⟩ ∈ cx_T := cx_tab (i := 574) (by decide +kernel) (by decide +kernel)
theorem km_575 : Cond.code ⟨"HostBridge$Diary", "keeps", "(I)Z"⟩ prog_5_method_5_code 2 (some FieldType.boolean) ∈ cx_T := cx_tab (i := 575) (by decide +kernel) (by decide +kernel)
theorem km_576 : Cond.classLink "HostBridge" 197 "java/lang/IndexOutOfBoundsException" ∈ cx_T := cx_tab (i := 576) (by decide +kernel) (by decide +kernel)
theorem km_577 : Cond.instantiable "java/lang/IndexOutOfBoundsException" 6 ∈ cx_T := cx_tab (i := 577) (by decide +kernel) (by decide +kernel)
theorem km_578 : Cond.castable "java/lang/IndexOutOfBoundsException" "java/lang/IndexOutOfBoundsException" ∈ cx_T := cx_tab (i := 578) (by decide +kernel) (by decide +kernel)
theorem km_579 : Cond.selects "java/lang/IndexOutOfBoundsException" ⟨"java/lang/Throwable", "fillInStackTrace", "(I)Ljava/lang/Throwable;"⟩ ⟨"java/lang/Throwable", "fillInStackTrace", "(I)Ljava/lang/Throwable;"⟩ ∈ cx_T := cx_tab (i := 579) (by decide +kernel) (by decide +kernel)
theorem km_580 : Cond.lays "java/lang/IndexOutOfBoundsException" "java/lang/Throwable" "cause" "Ljava/lang/Throwable;" ∈ cx_T := cx_tab (i := 580) (by decide +kernel) (by decide +kernel)
theorem km_581 : Cond.lays "java/lang/IndexOutOfBoundsException" "java/lang/Throwable" "stackTrace" "[Ljava/lang/StackTraceElement;" ∈ cx_T := cx_tab (i := 581) (by decide +kernel) (by decide +kernel)
theorem km_582 : Cond.lays "java/lang/IndexOutOfBoundsException" "java/lang/Throwable" "suppressedExceptions" "Ljava/util/List;" ∈ cx_T := cx_tab (i := 582) (by decide +kernel) (by decide +kernel)
theorem km_583 : Cond.lays "java/lang/IndexOutOfBoundsException" "java/lang/Throwable" "detailMessage" "Ljava/lang/String;" ∈ cx_T := cx_tab (i := 583) (by decide +kernel) (by decide +kernel)
theorem km_584 : Cond.lays "java/lang/IndexOutOfBoundsException" "java/lang/Throwable" "backtrace" "Ljava/lang/Object;" ∈ cx_T := cx_tab (i := 584) (by decide +kernel) (by decide +kernel)
theorem km_586 : Cond.methodLink "HostBridge" 201 ⟨"java/lang/IndexOutOfBoundsException", "<init>", "(Ljava/lang/String;)V"⟩ ∈ cx_T := cx_tab (i := 586) (by decide +kernel) (by decide +kernel)
theorem km_587 : Cond.instanceMethod ⟨"java/lang/IndexOutOfBoundsException", "<init>", "(Ljava/lang/String;)V"⟩ ∈ cx_T := cx_tab (i := 587) (by decide +kernel) (by decide +kernel)
theorem km_588 : Cond.code ⟨"java/lang/IndexOutOfBoundsException", "<init>", "(Ljava/lang/String;)V"⟩ prog_14_method_2_code 2 none ∈ cx_T := cx_tab (i := 588) (by decide +kernel) (by decide +kernel)
theorem km_589 : Cond.methodLink "java/lang/IndexOutOfBoundsException" 7 ⟨"java/lang/RuntimeException", "<init>", "(Ljava/lang/String;)V"⟩ ∈ cx_T := cx_tab (i := 589) (by decide +kernel) (by decide +kernel)
theorem km_590 : Cond.lays "java/lang/IndexOutOfBoundsException" "java/lang/Throwable" "depth" "I" ∈ cx_T := cx_tab (i := 590) (by decide +kernel) (by decide +kernel)
theorem km_591 : Cond.superclass "java/lang/IndexOutOfBoundsException" "java/lang/RuntimeException" ∈ cx_T := cx_tab (i := 591) (by decide +kernel) (by decide +kernel)
theorem km_592 : Cond.methodLink "HostBridge" 202 ⟨"HostBridge$Diary", "objectOf", "(I)I"⟩ ∈ cx_T := cx_tab (i := 592) (by decide +kernel) (by decide +kernel)
theorem km_593 : Cond.instanceMethod ⟨"HostBridge$Diary", "objectOf", "(I)I"⟩ ∈ cx_T := cx_tab (i := 593) (by decide +kernel) (by decide +kernel)
theorem km_594 : Cond.selects "HostBridge$Diary" ⟨"HostBridge$Diary", "objectOf", "(I)I"⟩ ⟨"HostBridge$Diary", "objectOf", "(I)I"⟩ ∈ cx_T := cx_tab (i := 594) (by decide +kernel) (by decide +kernel)
theorem km_595 : Cond.code ⟨"HostBridge$Diary", "objectOf", "(I)I"⟩ prog_5_method_6_code 2 (some FieldType.int) ∈ cx_T := cx_tab (i := 595) (by decide +kernel) (by decide +kernel)
theorem km_596 : Cond.methodLink "HostBridge" 205 ⟨"HostBridge$Diary", "methodOf", "(I)I"⟩ ∈ cx_T := cx_tab (i := 596) (by decide +kernel) (by decide +kernel)
theorem km_597 : Cond.instanceMethod ⟨"HostBridge$Diary", "methodOf", "(I)I"⟩ ∈ cx_T := cx_tab (i := 597) (by decide +kernel) (by decide +kernel)
theorem km_598 : Cond.selects "HostBridge$Diary" ⟨"HostBridge$Diary", "methodOf", "(I)I"⟩ ⟨"HostBridge$Diary", "methodOf", "(I)I"⟩ ∈ cx_T := cx_tab (i := 598) (by decide +kernel) (by decide +kernel)
theorem km_599 : Cond.code ⟨"HostBridge$Diary", "methodOf", "(I)I"⟩ prog_5_method_7_code 2 (some FieldType.int) ∈ cx_T := cx_tab (i := 599) (by decide +kernel) (by decide +kernel)
theorem km_600 : Cond.methodLink "HostBridge" 208 ⟨"HostBridge$Diary", "argumentsOf", "(I)I"⟩ ∈ cx_T := cx_tab (i := 600) (by decide +kernel) (by decide +kernel)
theorem km_601 : Cond.instanceMethod ⟨"HostBridge$Diary", "argumentsOf", "(I)I"⟩ ∈ cx_T := cx_tab (i := 601) (by decide +kernel) (by decide +kernel)
theorem km_602 : Cond.selects "HostBridge$Diary" ⟨"HostBridge$Diary", "argumentsOf", "(I)I"⟩ ⟨"HostBridge$Diary", "argumentsOf", "(I)I"⟩ ∈ cx_T := cx_tab (i := 602) (by decide +kernel) (by decide +kernel)
theorem km_603 : Cond.code ⟨"HostBridge$Diary", "argumentsOf", "(I)I"⟩ prog_5_method_8_code 2 (some FieldType.int) ∈ cx_T := cx_tab (i := 603) (by decide +kernel) (by decide +kernel)
theorem km_604 : Cond.methodLink "HostBridgeLaw" 111 ⟨"HostBridgeLaw", "converted", "(LHostBridge;II[J)I"⟩ ∈ cx_T := cx_tab (i := 604) (by decide +kernel) (by decide +kernel)
theorem km_605 : Cond.static ⟨"HostBridgeLaw", "converted", "(LHostBridge;II[J)I"⟩ ∈ cx_T := cx_tab (i := 605) (by decide +kernel) (by decide +kernel)
theorem km_606 : Cond.codeWith ⟨"HostBridgeLaw", "converted", "(LHostBridge;II[J)I"⟩ method_13_code 5 (some FieldType.int) [(0, 9, 12, 52)] ∈ cx_T := cx_tab (i := 606) (by decide +kernel) (by decide +kernel)
theorem km_607 : Cond.methodLink "HostBridgeLaw" 54 ⟨"HostBridge", "converted", "(II)J"⟩ ∈ cx_T := cx_tab (i := 607) (by decide +kernel) (by decide +kernel)
theorem km_608 : Cond.instanceMethod ⟨"HostBridge", "converted", "(II)J"⟩ ∈ cx_T := cx_tab (i := 608) (by decide +kernel) (by decide +kernel)
theorem km_609 : Cond.selects "HostBridge" ⟨"HostBridge", "converted", "(II)J"⟩ ⟨"HostBridge", "converted", "(II)J"⟩ ∈ cx_T := cx_tab (i := 609) (by decide +kernel) (by decide +kernel)
theorem km_610 : Cond.code ⟨"HostBridge", "converted", "(II)J"⟩ prog_1_method_13_code 3 (some FieldType.long) ∈ cx_T := cx_tab (i := 610) (by decide +kernel) (by decide +kernel)
theorem km_611 : Cond.methodLink "HostBridge" 211 ⟨"HostBridge$Diary", "valueOf", "(II)J"⟩ ∈ cx_T := cx_tab (i := 611) (by decide +kernel) (by decide +kernel)
theorem km_612 : Cond.instanceMethod ⟨"HostBridge$Diary", "valueOf", "(II)J"⟩ ∈ cx_T := cx_tab (i := 612) (by decide +kernel) (by decide +kernel)
theorem km_613 : Cond.selects "HostBridge$Diary" ⟨"HostBridge$Diary", "valueOf", "(II)J"⟩ ⟨"HostBridge$Diary", "valueOf", "(II)J"⟩ ∈ cx_T := cx_tab (i := 613) (by decide +kernel) (by decide +kernel)
theorem km_614 : Cond.code ⟨"HostBridge$Diary", "valueOf", "(II)J"⟩ prog_5_method_9_code 3 (some FieldType.long) ∈ cx_T := cx_tab (i := 614) (by decide +kernel) (by decide +kernel)
theorem km_615 : Cond.classLink "HostBridgeLaw" 59 "HostBridgeModel" ∈ cx_T := cx_tab (i := 615) (by decide +kernel) (by decide +kernel)
theorem km_616 : Cond.instantiable "HostBridgeModel" 23 ∈ cx_T := cx_tab (i := 616) (by decide +kernel) (by decide +kernel)
theorem km_617 : Cond.methodLink "HostBridgeLaw" 61 ⟨"HostBridgeModel", "<init>", "()V"⟩ ∈ cx_T := cx_tab (i := 617) (by decide +kernel) (by decide +kernel)
theorem km_618 : Cond.instanceMethod ⟨"HostBridgeModel", "<init>", "()V"⟩ ∈ cx_T := cx_tab (i := 618) (by decide +kernel) (by decide +kernel)
theorem km_619 : Cond.code ⟨"HostBridgeModel", "<init>", "()V"⟩ prog_10_method_1_code 1 none ∈ cx_T := cx_tab (i := 619) (by decide +kernel) (by decide +kernel)
theorem km_620 : Cond.methodLink "HostBridgeModel" 1 ⟨"java/lang/Object", "<init>", "()V"⟩ ∈ cx_T := cx_tab (i := 620) (by decide +kernel) (by decide +kernel)
theorem km_621 : Cond.fieldLink "HostBridgeModel" 57 "HostBridgeModel" "thrown" "I" ∈ cx_T := cx_tab (i := 621) (by decide +kernel) (by decide +kernel)
theorem km_622 : Cond.fieldLink "HostBridgeModel" 61 "HostBridgeModel" "classes" "I" ∈ cx_T := cx_tab (i := 622) (by decide +kernel) (by decide +kernel)
theorem km_623 : Cond.fieldLink "HostBridgeModel" 7 "HostBridgeModel" "parent" "[I" ∈ cx_T := cx_tab (i := 623) (by decide +kernel) (by decide +kernel)
theorem km_624 : Cond.fieldLink "HostBridgeModel" 82 "HostBridgeModel" "objects" "I" ∈ cx_T := cx_tab (i := 624) (by decide +kernel) (by decide +kernel)
theorem km_625 : Cond.fieldLink "HostBridgeModel" 13 "HostBridgeModel" "klass" "[I" ∈ cx_T := cx_tab (i := 625) (by decide +kernel) (by decide +kernel)
theorem km_626 : Cond.fieldLink "HostBridgeModel" 72 "HostBridgeModel" "methods" "I" ∈ cx_T := cx_tab (i := 626) (by decide +kernel) (by decide +kernel)
theorem km_627 : Cond.fieldLink "HostBridgeModel" 16 "HostBridgeModel" "owner" "[I" ∈ cx_T := cx_tab (i := 627) (by decide +kernel) (by decide +kernel)
theorem km_628 : Cond.fieldLink "HostBridgeModel" 19 "HostBridgeModel" "names" "[I" ∈ cx_T := cx_tab (i := 628) (by decide +kernel) (by decide +kernel)
theorem km_629 : Cond.fieldLink "HostBridgeModel" 22 "HostBridgeModel" "counts" "[I" ∈ cx_T := cx_tab (i := 629) (by decide +kernel) (by decide +kernel)
theorem km_630 : Cond.fieldLink "HostBridgeModel" 25 "HostBridgeModel" "types" "[I" ∈ cx_T := cx_tab (i := 630) (by decide +kernel) (by decide +kernel)
theorem km_631 : Cond.fieldLink "HostBridgeModel" 85 "HostBridgeModel" "many" "I" ∈ cx_T := cx_tab (i := 631) (by decide +kernel) (by decide +kernel)
theorem km_632 : Cond.fieldLink "HostBridgeModel" 28 "HostBridgeModel" "kind" "[I" ∈ cx_T := cx_tab (i := 632) (by decide +kernel) (by decide +kernel)
theorem km_633 : Cond.fieldLink "HostBridgeModel" 31 "HostBridgeModel" "bits" "[J" ∈ cx_T := cx_tab (i := 633) (by decide +kernel) (by decide +kernel)
theorem km_634 : Cond.fieldLink "HostBridgeModel" 35 "HostBridgeModel" "asked" "[I" ∈ cx_T := cx_tab (i := 634) (by decide +kernel) (by decide +kernel)
theorem km_635 : Cond.fieldLink "HostBridgeModel" 38 "HostBridgeModel" "candidate" "[Z" ∈ cx_T := cx_tab (i := 635) (by decide +kernel) (by decide +kernel)
theorem km_636 : Cond.fieldLink "HostBridgeModel" 134 "HostBridgeModel" "calls" "I" ∈ cx_T := cx_tab (i := 636) (by decide +kernel) (by decide +kernel)
theorem km_637 : Cond.fieldLink "HostBridgeModel" 42 "HostBridgeModel" "calledObject" "[I" ∈ cx_T := cx_tab (i := 637) (by decide +kernel) (by decide +kernel)
theorem km_638 : Cond.fieldLink "HostBridgeModel" 45 "HostBridgeModel" "calledMethod" "[I" ∈ cx_T := cx_tab (i := 638) (by decide +kernel) (by decide +kernel)
theorem km_639 : Cond.fieldLink "HostBridgeModel" 48 "HostBridgeModel" "calledMany" "[I" ∈ cx_T := cx_tab (i := 639) (by decide +kernel) (by decide +kernel)
theorem km_640 : Cond.fieldLink "HostBridgeModel" 51 "HostBridgeModel" "calledWith" "[J" ∈ cx_T := cx_tab (i := 640) (by decide +kernel) (by decide +kernel)
theorem km_641 : Cond.fieldLink "HostBridgeModel" 141 "HostBridgeModel" "answers" "I" ∈ cx_T := cx_tab (i := 641) (by decide +kernel) (by decide +kernel)
theorem km_642 : Cond.fieldLink "HostBridgeModel" 54 "HostBridgeModel" "answer" "[J" ∈ cx_T := cx_tab (i := 642) (by decide +kernel) (by decide +kernel)
theorem km_643 : Cond.fieldLink "HostBridgeModel" 144 "HostBridgeModel" "given" "J" ∈ cx_T := cx_tab (i := 643) (by decide +kernel) (by decide +kernel)
theorem km_644 : Cond.lays "HostBridgeModel" "HostBridgeModel" "thrown" "I" ∈ cx_T := cx_tab (i := 644) (by decide +kernel) (by decide +kernel)
theorem km_645 : Cond.soleField "HostBridgeModel" "thrown" ∈ cx_T := cx_tab (i := 645) (by decide +kernel) (by decide +kernel)
theorem km_646 : Cond.lays "HostBridgeModel" "HostBridgeModel" "classes" "I" ∈ cx_T := cx_tab (i := 646) (by decide +kernel) (by decide +kernel)
theorem km_647 : Cond.soleField "HostBridgeModel" "classes" ∈ cx_T := cx_tab (i := 647) (by decide +kernel) (by decide +kernel)
theorem km_648 : Cond.laysFinal "HostBridgeModel" "HostBridgeModel" "parent" "[I" ∈ cx_T := cx_tab (i := 648) (by decide +kernel) (by decide +kernel)
theorem km_649 : Cond.soleField "HostBridgeModel" "parent" ∈ cx_T := cx_tab (i := 649) (by decide +kernel) (by decide +kernel)
theorem km_650 : Cond.lays "HostBridgeModel" "HostBridgeModel" "objects" "I" ∈ cx_T := cx_tab (i := 650) (by decide +kernel) (by decide +kernel)
theorem km_651 : Cond.soleField "HostBridgeModel" "objects" ∈ cx_T := cx_tab (i := 651) (by decide +kernel) (by decide +kernel)
theorem km_652 : Cond.laysFinal "HostBridgeModel" "HostBridgeModel" "klass" "[I" ∈ cx_T := cx_tab (i := 652) (by decide +kernel) (by decide +kernel)
theorem km_653 : Cond.soleField "HostBridgeModel" "klass" ∈ cx_T := cx_tab (i := 653) (by decide +kernel) (by decide +kernel)
theorem km_654 : Cond.lays "HostBridgeModel" "HostBridgeModel" "methods" "I" ∈ cx_T := cx_tab (i := 654) (by decide +kernel) (by decide +kernel)
theorem km_655 : Cond.soleField "HostBridgeModel" "methods" ∈ cx_T := cx_tab (i := 655) (by decide +kernel) (by decide +kernel)
theorem km_656 : Cond.laysFinal "HostBridgeModel" "HostBridgeModel" "owner" "[I" ∈ cx_T := cx_tab (i := 656) (by decide +kernel) (by decide +kernel)
theorem km_657 : Cond.soleField "HostBridgeModel" "owner" ∈ cx_T := cx_tab (i := 657) (by decide +kernel) (by decide +kernel)
theorem km_658 : Cond.laysFinal "HostBridgeModel" "HostBridgeModel" "names" "[I" ∈ cx_T := cx_tab (i := 658) (by decide +kernel) (by decide +kernel)
theorem km_659 : Cond.soleField "HostBridgeModel" "names" ∈ cx_T := cx_tab (i := 659) (by decide +kernel) (by decide +kernel)
theorem km_660 : Cond.laysFinal "HostBridgeModel" "HostBridgeModel" "counts" "[I" ∈ cx_T := cx_tab (i := 660) (by decide +kernel) (by decide +kernel)
theorem km_661 : Cond.soleField "HostBridgeModel" "counts" ∈ cx_T := cx_tab (i := 661) (by decide +kernel) (by decide +kernel)
theorem km_662 : Cond.laysFinal "HostBridgeModel" "HostBridgeModel" "types" "[I" ∈ cx_T := cx_tab (i := 662) (by decide +kernel) (by decide +kernel)
theorem km_663 : Cond.soleField "HostBridgeModel" "types" ∈ cx_T := cx_tab (i := 663) (by decide +kernel) (by decide +kernel)
theorem km_664 : Cond.lays "HostBridgeModel" "HostBridgeModel" "many" "I" ∈ cx_T := cx_tab (i := 664) (by decide +kernel) (by decide +kernel)
theorem km_665 : Cond.soleField "HostBridgeModel" "many" ∈ cx_T := cx_tab (i := 665) (by decide +kernel) (by decide +kernel)
theorem km_666 : Cond.laysFinal "HostBridgeModel" "HostBridgeModel" "kind" "[I" ∈ cx_T := cx_tab (i := 666) (by decide +kernel) (by decide +kernel)
theorem km_667 : Cond.soleField "HostBridgeModel" "kind" ∈ cx_T := cx_tab (i := 667) (by decide +kernel) (by decide +kernel)
theorem km_668 : Cond.laysFinal "HostBridgeModel" "HostBridgeModel" "bits" "[J" ∈ cx_T := cx_tab (i := 668) (by decide +kernel) (by decide +kernel)
theorem km_669 : Cond.soleField "HostBridgeModel" "bits" ∈ cx_T := cx_tab (i := 669) (by decide +kernel) (by decide +kernel)
theorem km_670 : Cond.laysFinal "HostBridgeModel" "HostBridgeModel" "asked" "[I" ∈ cx_T := cx_tab (i := 670) (by decide +kernel) (by decide +kernel)
theorem km_671 : Cond.soleField "HostBridgeModel" "asked" ∈ cx_T := cx_tab (i := 671) (by decide +kernel) (by decide +kernel)
theorem km_672 : Cond.laysFinal "HostBridgeModel" "HostBridgeModel" "candidate" "[Z" ∈ cx_T := cx_tab (i := 672) (by decide +kernel) (by decide +kernel)
theorem km_673 : Cond.soleField "HostBridgeModel" "candidate" ∈ cx_T := cx_tab (i := 673) (by decide +kernel) (by decide +kernel)
theorem km_674 : Cond.lays "HostBridgeModel" "HostBridgeModel" "calls" "I" ∈ cx_T := cx_tab (i := 674) (by decide +kernel) (by decide +kernel)
theorem km_675 : Cond.soleField "HostBridgeModel" "calls" ∈ cx_T := cx_tab (i := 675) (by decide +kernel) (by decide +kernel)
theorem km_676 : Cond.laysFinal "HostBridgeModel" "HostBridgeModel" "calledObject" "[I" ∈ cx_T := cx_tab (i := 676) (by decide +kernel) (by decide +kernel)
theorem km_677 : Cond.soleField "HostBridgeModel" "calledObject" ∈ cx_T := cx_tab (i := 677) (by decide +kernel) (by decide +kernel)
theorem km_678 : Cond.laysFinal "HostBridgeModel" "HostBridgeModel" "calledMethod" "[I" ∈ cx_T := cx_tab (i := 678) (by decide +kernel) (by decide +kernel)
theorem km_679 : Cond.soleField "HostBridgeModel" "calledMethod" ∈ cx_T := cx_tab (i := 679) (by decide +kernel) (by decide +kernel)
theorem km_680 : Cond.laysFinal "HostBridgeModel" "HostBridgeModel" "calledMany" "[I" ∈ cx_T := cx_tab (i := 680) (by decide +kernel) (by decide +kernel)
theorem km_681 : Cond.soleField "HostBridgeModel" "calledMany" ∈ cx_T := cx_tab (i := 681) (by decide +kernel) (by decide +kernel)
theorem km_682 : Cond.laysFinal "HostBridgeModel" "HostBridgeModel" "calledWith" "[J" ∈ cx_T := cx_tab (i := 682) (by decide +kernel) (by decide +kernel)
theorem km_683 : Cond.soleField "HostBridgeModel" "calledWith" ∈ cx_T := cx_tab (i := 683) (by decide +kernel) (by decide +kernel)
theorem km_684 : Cond.lays "HostBridgeModel" "HostBridgeModel" "answers" "I" ∈ cx_T := cx_tab (i := 684) (by decide +kernel) (by decide +kernel)
theorem km_685 : Cond.soleField "HostBridgeModel" "answers" ∈ cx_T := cx_tab (i := 685) (by decide +kernel) (by decide +kernel)
theorem km_686 : Cond.laysFinal "HostBridgeModel" "HostBridgeModel" "answer" "[J" ∈ cx_T := cx_tab (i := 686) (by decide +kernel) (by decide +kernel)
theorem km_687 : Cond.soleField "HostBridgeModel" "answer" ∈ cx_T := cx_tab (i := 687) (by decide +kernel) (by decide +kernel)
theorem km_688 : Cond.lays "HostBridgeModel" "HostBridgeModel" "given" "J" ∈ cx_T := cx_tab (i := 688) (by decide +kernel) (by decide +kernel)
theorem km_689 : Cond.soleField "HostBridgeModel" "given" ∈ cx_T := cx_tab (i := 689) (by decide +kernel) (by decide +kernel)
theorem km_690 : Cond.superclass "HostBridgeModel" "java/lang/Object" ∈ cx_T := cx_tab (i := 690) (by decide +kernel) (by decide +kernel)
theorem km_691 : Cond.arrayClass FieldType.boolean ∈ cx_T := cx_tab (i := 691) (by decide +kernel) (by decide +kernel)
theorem km_692 : Cond.methodLink "HostBridgeLaw" 68 ⟨"HostBridgeModel", "thrown", "()I"⟩ ∈ cx_T := cx_tab (i := 692) (by decide +kernel) (by decide +kernel)
theorem km_693 : Cond.instanceMethod ⟨"HostBridgeModel", "thrown", "()I"⟩ ∈ cx_T := cx_tab (i := 693) (by decide +kernel) (by decide +kernel)
theorem km_694 : Cond.selects "HostBridgeModel" ⟨"HostBridgeModel", "thrown", "()I"⟩ ⟨"HostBridgeModel", "thrown", "()I"⟩ ∈ cx_T := cx_tab (i := 694) (by decide +kernel) (by decide +kernel)
theorem km_695 : Cond.code ⟨"HostBridgeModel", "thrown", "()I"⟩ prog_10_method_2_code 1 (some FieldType.int) ∈ cx_T := cx_tab (i := 695) (by decide +kernel) (by decide +kernel)
theorem km_696 : Cond.methodLink "HostBridgeLaw" 67 ⟨"HostBridgeModel", "klass", "(I)I"⟩ ∈ cx_T := cx_tab (i := 696) (by decide +kernel) (by decide +kernel)
theorem km_697 : Cond.instanceMethod ⟨"HostBridgeModel", "klass", "(I)I"⟩ ∈ cx_T := cx_tab (i := 697) (by decide +kernel) (by decide +kernel)
theorem km_698 : Cond.selects "HostBridgeModel" ⟨"HostBridgeModel", "klass", "(I)I"⟩ ⟨"HostBridgeModel", "klass", "(I)I"⟩ ∈ cx_T := cx_tab (i := 698) (by decide +kernel) (by decide +kernel)
theorem km_699 : Cond.code ⟨"HostBridgeModel", "klass", "(I)I"⟩ prog_10_method_5_code 3 (some FieldType.int) ∈ cx_T := cx_tab (i := 699) (by decide +kernel) (by decide +kernel)
theorem km_700 : Cond.methodLink "HostBridgeModel" 64 ⟨"HostBridgeModel", "isNo", "(II)Z"⟩ ∈ cx_T := cx_tab (i := 700) (by decide +kernel) (by decide +kernel)
theorem km_701 : Cond.static ⟨"HostBridgeModel", "isNo", "(II)Z"⟩ ∈ cx_T := cx_tab (i := 701) (by decide +kernel) (by decide +kernel)
theorem km_702 : Cond.code ⟨"HostBridgeModel", "isNo", "(II)Z"⟩ prog_10_method_4_code 2 (some FieldType.boolean) ∈ cx_T := cx_tab (i := 702) (by decide +kernel) (by decide +kernel)
theorem km_703 : Cond.methodLink "HostBridgeModel" 68 ⟨"HostBridgeModel", "throwing", "(ZZZ)Z"⟩ ∈ cx_T := cx_tab (i := 703) (by decide +kernel) (by decide +kernel)
theorem km_704 : Cond.privateMethod ⟨"HostBridgeModel", "throwing", "(ZZZ)Z"⟩ ∈ cx_T := cx_tab (i := 704) (by decide +kernel) (by decide +kernel)
theorem km_705 : Cond.instanceMethod ⟨"HostBridgeModel", "throwing", "(ZZZ)Z"⟩ ∈ cx_T := cx_tab (i := 705) (by decide +kernel) (by decide +kernel)
theorem km_706 : Cond.code ⟨"HostBridgeModel", "throwing", "(ZZZ)Z"⟩ prog_10_method_3_code 4 (some FieldType.boolean) ∈ cx_T := cx_tab (i := 706) (by decide +kernel) (by decide +kernel)
theorem km_707 : Cond.methodLink "HostBridgeLaw" 75 ⟨"HostBridgeModel", "method", "(IIIII)I"⟩ ∈ cx_T := cx_tab (i := 707) (by decide +kernel) (by decide +kernel)
theorem km_708 : Cond.instanceMethod ⟨"HostBridgeModel", "method", "(IIIII)I"⟩ ∈ cx_T := cx_tab (i := 708) (by decide +kernel) (by decide +kernel)
theorem km_709 : Cond.selects "HostBridgeModel" ⟨"HostBridgeModel", "method", "(IIIII)I"⟩ ⟨"HostBridgeModel", "method", "(IIIII)I"⟩ ∈ cx_T := cx_tab (i := 709) (by decide +kernel) (by decide +kernel)
theorem km_710 : Cond.code ⟨"HostBridgeModel", "method", "(IIIII)I"⟩ prog_10_method_8_code 9 (some FieldType.int) ∈ cx_T := cx_tab (i := 710) (by decide +kernel) (by decide +kernel)
theorem km_711 : Cond.methodLink "HostBridgeModel" 75 ⟨"HostBridgeModel", "asks", "(II)Z"⟩ ∈ cx_T := cx_tab (i := 711) (by decide +kernel) (by decide +kernel)
theorem km_712 : Cond.privateMethod ⟨"HostBridgeModel", "asks", "(II)Z"⟩ ∈ cx_T := cx_tab (i := 712) (by decide +kernel) (by decide +kernel)
theorem km_713 : Cond.instanceMethod ⟨"HostBridgeModel", "asks", "(II)Z"⟩ ∈ cx_T := cx_tab (i := 713) (by decide +kernel) (by decide +kernel)
theorem km_714 : Cond.code ⟨"HostBridgeModel", "asks", "(II)Z"⟩ prog_10_method_6_code 7 (some FieldType.boolean) ∈ cx_T := cx_tab (i := 714) (by decide +kernel) (by decide +kernel)
theorem km_715 : Cond.methodLink "HostBridgeModel" 78 ⟨"HostBridgeModel", "methodOf", "(III)I"⟩ ∈ cx_T := cx_tab (i := 715) (by decide +kernel) (by decide +kernel)
theorem km_716 : Cond.privateMethod ⟨"HostBridgeModel", "methodOf", "(III)I"⟩ ∈ cx_T := cx_tab (i := 716) (by decide +kernel) (by decide +kernel)
theorem km_717 : Cond.instanceMethod ⟨"HostBridgeModel", "methodOf", "(III)I"⟩ ∈ cx_T := cx_tab (i := 717) (by decide +kernel) (by decide +kernel)
theorem km_718 : Cond.code ⟨"HostBridgeModel", "methodOf", "(III)I"⟩ prog_10_method_7_code 8 (some FieldType.int) ∈ cx_T := cx_tab (i := 718) (by decide +kernel) (by decide +kernel)
theorem km_719 : Cond.methodLink "HostBridgeLaw" 78 ⟨"HostBridgeModel", "object", "(I)I"⟩ ∈ cx_T := cx_tab (i := 719) (by decide +kernel) (by decide +kernel)
theorem km_720 : Cond.instanceMethod ⟨"HostBridgeModel", "object", "(I)I"⟩ ∈ cx_T := cx_tab (i := 720) (by decide +kernel) (by decide +kernel)
theorem km_721 : Cond.selects "HostBridgeModel" ⟨"HostBridgeModel", "object", "(I)I"⟩ ⟨"HostBridgeModel", "object", "(I)I"⟩ ∈ cx_T := cx_tab (i := 721) (by decide +kernel) (by decide +kernel)
theorem km_722 : Cond.code ⟨"HostBridgeModel", "object", "(I)I"⟩ prog_10_method_9_code 3 (some FieldType.int) ∈ cx_T := cx_tab (i := 722) (by decide +kernel) (by decide +kernel)
theorem km_723 : Cond.methodLink "HostBridgeLaw" 84 ⟨"HostBridgeModel", "argument", "(IJ)I"⟩ ∈ cx_T := cx_tab (i := 723) (by decide +kernel) (by decide +kernel)
theorem km_724 : Cond.instanceMethod ⟨"HostBridgeModel", "argument", "(IJ)I"⟩ ∈ cx_T := cx_tab (i := 724) (by decide +kernel) (by decide +kernel)
theorem km_725 : Cond.selects "HostBridgeModel" ⟨"HostBridgeModel", "argument", "(IJ)I"⟩ ⟨"HostBridgeModel", "argument", "(IJ)I"⟩ ∈ cx_T := cx_tab (i := 725) (by decide +kernel) (by decide +kernel)
theorem km_726 : Cond.code ⟨"HostBridgeModel", "argument", "(IJ)I"⟩ prog_10_method_10_code 5 (some FieldType.int) ∈ cx_T := cx_tab (i := 726) (by decide +kernel) (by decide +kernel)
theorem km_727 : Cond.methodLink "HostBridgeLaw" 88 ⟨"HostBridgeModel", "weight", "(II)I"⟩ ∈ cx_T := cx_tab (i := 727) (by decide +kernel) (by decide +kernel)
theorem km_728 : Cond.instanceMethod ⟨"HostBridgeModel", "weight", "(II)I"⟩ ∈ cx_T := cx_tab (i := 728) (by decide +kernel) (by decide +kernel)
theorem km_729 : Cond.selects "HostBridgeModel" ⟨"HostBridgeModel", "weight", "(II)I"⟩ ⟨"HostBridgeModel", "weight", "(II)I"⟩ ∈ cx_T := cx_tab (i := 729) (by decide +kernel) (by decide +kernel)
theorem km_730 : Cond.code ⟨"HostBridgeModel", "weight", "(II)I"⟩ prog_10_method_15_code 3 (some FieldType.int) ∈ cx_T := cx_tab (i := 730) (by decide +kernel) (by decide +kernel)
theorem km_731 : Cond.methodLink "HostBridgeModel" 118 ⟨"HostBridgeModel", "weightOf", "(II)I"⟩ ∈ cx_T := cx_tab (i := 731) (by decide +kernel) (by decide +kernel)
theorem km_732 : Cond.privateMethod ⟨"HostBridgeModel", "weightOf", "(II)I"⟩ ∈ cx_T := cx_tab (i := 732) (by decide +kernel) (by decide +kernel)
theorem km_733 : Cond.instanceMethod ⟨"HostBridgeModel", "weightOf", "(II)I"⟩ ∈ cx_T := cx_tab (i := 733) (by decide +kernel) (by decide +kernel)
theorem km_734 : Cond.code ⟨"HostBridgeModel", "weightOf", "(II)I"⟩ prog_10_method_14_code 6 (some FieldType.int) ∈ cx_T := cx_tab (i := 734) (by decide +kernel) (by decide +kernel)
theorem km_735 : Cond.methodLink "HostBridgeModel" 114 ⟨"HostBridgeModel", "weightOfNumber", "(JI)I"⟩ ∈ cx_T := cx_tab (i := 735) (by decide +kernel) (by decide +kernel)
theorem km_736 : Cond.static ⟨"HostBridgeModel", "weightOfNumber", "(JI)I"⟩ ∈ cx_T := cx_tab (i := 736) (by decide +kernel) (by decide +kernel)
theorem km_737 : Cond.code ⟨"HostBridgeModel", "weightOfNumber", "(JI)I"⟩ prog_10_method_13_code 6 (some FieldType.int) ∈ cx_T := cx_tab (i := 737) (by decide +kernel) (by decide +kernel)
theorem km_738 : Cond.methodLink "HostBridgeModel" 102 ⟨"HostBridgeModel", "wholeOf", "(J)J"⟩ ∈ cx_T := cx_tab (i := 738) (by decide +kernel) (by decide +kernel)
theorem km_739 : Cond.static ⟨"HostBridgeModel", "wholeOf", "(J)J"⟩ ∈ cx_T := cx_tab (i := 739) (by decide +kernel) (by decide +kernel)
theorem km_740 : Cond.code ⟨"HostBridgeModel", "wholeOf", "(J)J"⟩ prog_10_method_11_code 7 (some FieldType.long) ∈ cx_T := cx_tab (i := 740) (by decide +kernel) (by decide +kernel)
theorem km_741 : Cond.constantLong "HostBridgeModel" 88 (9007199254740992 : Int64) ∈ cx_T := cx_tab (i := 741) (by decide +kernel) (by decide +kernel)
theorem km_742 : Cond.constantLong "HostBridgeModel" 90 (2047 : Int64) ∈ cx_T := cx_tab (i := 742) (by decide +kernel) (by decide +kernel)
theorem km_743 : Cond.constantLong "HostBridgeModel" 92 (4503599627370495 : Int64) ∈ cx_T := cx_tab (i := 743) (by decide +kernel) (by decide +kernel)
theorem km_744 : Cond.constantLong "HostBridgeModel" 94 (4611686018427387904 : Int64) ∈ cx_T := cx_tab (i := 744) (by decide +kernel) (by decide +kernel)
theorem km_745 : Cond.constantLong "HostBridgeModel" 96 (4503599627370496 : Int64) ∈ cx_T := cx_tab (i := 745) (by decide +kernel) (by decide +kernel)
theorem km_746 : Cond.constantLong "HostBridgeModel" 98 (2 : Int64) ∈ cx_T := cx_tab (i := 746) (by decide +kernel) (by decide +kernel)
theorem km_747 : Cond.constantLong "HostBridgeModel" 106 (-2147483648 : Int64) ∈ cx_T := cx_tab (i := 747) (by decide +kernel) (by decide +kernel)
theorem km_748 : Cond.constantLong "HostBridgeModel" 108 (2147483647 : Int64) ∈ cx_T := cx_tab (i := 748) (by decide +kernel) (by decide +kernel)
theorem km_749 : Cond.methodLink "HostBridgeModel" 110 ⟨"HostBridgeModel", "isMinusZero", "(J)Z"⟩ ∈ cx_T := cx_tab (i := 749) (by decide +kernel) (by decide +kernel)
theorem km_750 : Cond.static ⟨"HostBridgeModel", "isMinusZero", "(J)Z"⟩ ∈ cx_T := cx_tab (i := 750) (by decide +kernel) (by decide +kernel)
theorem km_751 : Cond.code ⟨"HostBridgeModel", "isMinusZero", "(J)Z"⟩ prog_10_method_12_code 2 (some FieldType.boolean) ∈ cx_T := cx_tab (i := 751) (by decide +kernel) (by decide +kernel)
theorem km_752 : Cond.constantLong "HostBridgeModel" 100 (-9223372036854775808 : Int64) ∈ cx_T := cx_tab (i := 752) (by decide +kernel) (by decide +kernel)
theorem km_753 : Cond.methodLink "HostBridgeLaw" 91 ⟨"HostBridgeModel", "call", "(II)I"⟩ ∈ cx_T := cx_tab (i := 753) (by decide +kernel) (by decide +kernel)
theorem km_754 : Cond.instanceMethod ⟨"HostBridgeModel", "call", "(II)I"⟩ ∈ cx_T := cx_tab (i := 754) (by decide +kernel) (by decide +kernel)
theorem km_755 : Cond.selects "HostBridgeModel" ⟨"HostBridgeModel", "call", "(II)I"⟩ ⟨"HostBridgeModel", "call", "(II)I"⟩ ∈ cx_T := cx_tab (i := 755) (by decide +kernel) (by decide +kernel)
theorem km_756 : Cond.code ⟨"HostBridgeModel", "call", "(II)I"⟩ prog_10_method_23_code 8 (some FieldType.int) ∈ cx_T := cx_tab (i := 756) (by decide +kernel) (by decide +kernel)
theorem km_757 : Cond.methodLink "HostBridgeModel" 131 ⟨"HostBridgeModel", "far", "(II)I"⟩ ∈ cx_T := cx_tab (i := 757) (by decide +kernel) (by decide +kernel)
theorem km_758 : Cond.privateMethod ⟨"HostBridgeModel", "far", "(II)I"⟩ ∈ cx_T := cx_tab (i := 758) (by decide +kernel) (by decide +kernel)
theorem km_759 : Cond.instanceMethod ⟨"HostBridgeModel", "far", "(II)I"⟩ ∈ cx_T := cx_tab (i := 759) (by decide +kernel) (by decide +kernel)
theorem km_760 : Cond.code ⟨"HostBridgeModel", "far", "(II)I"⟩ prog_10_method_18_code 5 (some FieldType.int) ∈ cx_T := cx_tab (i := 760) (by decide +kernel) (by decide +kernel)
theorem km_761 : Cond.methodLink "HostBridgeModel" 148 ⟨"HostBridgeModel", "fits", "(I)Z"⟩ ∈ cx_T := cx_tab (i := 761) (by decide +kernel) (by decide +kernel)
theorem km_762 : Cond.privateMethod ⟨"HostBridgeModel", "fits", "(I)Z"⟩ ∈ cx_T := cx_tab (i := 762) (by decide +kernel) (by decide +kernel)
theorem km_763 : Cond.instanceMethod ⟨"HostBridgeModel", "fits", "(I)Z"⟩ ∈ cx_T := cx_tab (i := 763) (by decide +kernel) (by decide +kernel)
theorem km_764 : Cond.code ⟨"HostBridgeModel", "fits", "(I)Z"⟩ prog_10_method_20_code 4 (some FieldType.boolean) ∈ cx_T := cx_tab (i := 764) (by decide +kernel) (by decide +kernel)
theorem km_765 : Cond.methodLink "HostBridgeModel" 152 ⟨"HostBridgeModel", "isHidden", "(II)Z"⟩ ∈ cx_T := cx_tab (i := 765) (by decide +kernel) (by decide +kernel)
theorem km_766 : Cond.privateMethod ⟨"HostBridgeModel", "isHidden", "(II)Z"⟩ ∈ cx_T := cx_tab (i := 766) (by decide +kernel) (by decide +kernel)
theorem km_767 : Cond.instanceMethod ⟨"HostBridgeModel", "isHidden", "(II)Z"⟩ ∈ cx_T := cx_tab (i := 767) (by decide +kernel) (by decide +kernel)
theorem km_768 : Cond.code ⟨"HostBridgeModel", "isHidden", "(II)Z"⟩ prog_10_method_19_code 7 (some FieldType.boolean) ∈ cx_T := cx_tab (i := 768) (by decide +kernel) (by decide +kernel)
theorem km_769 : Cond.methodLink "HostBridgeModel" 155 ⟨"HostBridgeModel", "isBest", "(I)Z"⟩ ∈ cx_T := cx_tab (i := 769) (by decide +kernel) (by decide +kernel)
theorem km_770 : Cond.privateMethod ⟨"HostBridgeModel", "isBest", "(I)Z"⟩ ∈ cx_T := cx_tab (i := 770) (by decide +kernel) (by decide +kernel)
theorem km_771 : Cond.instanceMethod ⟨"HostBridgeModel", "isBest", "(I)Z"⟩ ∈ cx_T := cx_tab (i := 771) (by decide +kernel) (by decide +kernel)
theorem km_772 : Cond.code ⟨"HostBridgeModel", "isBest", "(I)Z"⟩ prog_10_method_21_code 5 (some FieldType.boolean) ∈ cx_T := cx_tab (i := 772) (by decide +kernel) (by decide +kernel)
theorem km_773 : Cond.methodLink "HostBridgeModel" 158 ⟨"HostBridgeModel", "make", "(II)I"⟩ ∈ cx_T := cx_tab (i := 773) (by decide +kernel) (by decide +kernel)
theorem km_774 : Cond.privateMethod ⟨"HostBridgeModel", "make", "(II)I"⟩ ∈ cx_T := cx_tab (i := 774) (by decide +kernel) (by decide +kernel)
theorem km_775 : Cond.instanceMethod ⟨"HostBridgeModel", "make", "(II)I"⟩ ∈ cx_T := cx_tab (i := 775) (by decide +kernel) (by decide +kernel)
theorem km_776 : Cond.code ⟨"HostBridgeModel", "make", "(II)I"⟩ prog_10_method_22_code 5 (some FieldType.int) ∈ cx_T := cx_tab (i := 776) (by decide +kernel) (by decide +kernel)
theorem km_777 : Cond.methodLink "HostBridgeModel" 137 ⟨"HostBridgeModel", "turned", "(II)J"⟩ ∈ cx_T := cx_tab (i := 777) (by decide +kernel) (by decide +kernel)
theorem km_778 : Cond.privateMethod ⟨"HostBridgeModel", "turned", "(II)J"⟩ ∈ cx_T := cx_tab (i := 778) (by decide +kernel) (by decide +kernel)
theorem km_779 : Cond.instanceMethod ⟨"HostBridgeModel", "turned", "(II)J"⟩ ∈ cx_T := cx_tab (i := 779) (by decide +kernel) (by decide +kernel)
theorem km_780 : Cond.code ⟨"HostBridgeModel", "turned", "(II)J"⟩ prog_10_method_17_code 3 (some FieldType.long) ∈ cx_T := cx_tab (i := 780) (by decide +kernel) (by decide +kernel)
theorem km_781 : Cond.constantLong "HostBridgeModel" 126 (-1 : Int64) ∈ cx_T := cx_tab (i := 781) (by decide +kernel) (by decide +kernel)
theorem km_782 : Cond.methodLink "HostBridgeModel" 128 ⟨"HostBridgeModel", "isTrue", "(J)Z"⟩ ∈ cx_T := cx_tab (i := 782) (by decide +kernel) (by decide +kernel)
theorem km_783 : Cond.static ⟨"HostBridgeModel", "isTrue", "(J)Z"⟩ ∈ cx_T := cx_tab (i := 783) (by decide +kernel) (by decide +kernel)
theorem km_784 : Cond.code ⟨"HostBridgeModel", "isTrue", "(J)Z"⟩ prog_10_method_16_code 4 (some FieldType.boolean) ∈ cx_T := cx_tab (i := 784) (by decide +kernel) (by decide +kernel)
theorem km_785 : Cond.constantLong "HostBridgeModel" 122 (9223372036854775807 : Int64) ∈ cx_T := cx_tab (i := 785) (by decide +kernel) (by decide +kernel)
theorem km_786 : Cond.constantLong "HostBridgeModel" 124 (9218868437227405312 : Int64) ∈ cx_T := cx_tab (i := 786) (by decide +kernel) (by decide +kernel)
theorem km_787 : Cond.methodLink "HostBridgeLaw" 95 ⟨"HostBridgeModel", "exact", "(III)I"⟩ ∈ cx_T := cx_tab (i := 787) (by decide +kernel) (by decide +kernel)
theorem km_788 : Cond.instanceMethod ⟨"HostBridgeModel", "exact", "(III)I"⟩ ∈ cx_T := cx_tab (i := 788) (by decide +kernel) (by decide +kernel)
theorem km_789 : Cond.selects "HostBridgeModel" ⟨"HostBridgeModel", "exact", "(III)I"⟩ ⟨"HostBridgeModel", "exact", "(III)I"⟩ ∈ cx_T := cx_tab (i := 789) (by decide +kernel) (by decide +kernel)
theorem km_790 : Cond.code ⟨"HostBridgeModel", "exact", "(III)I"⟩ prog_10_method_24_code 7 (some FieldType.int) ∈ cx_T := cx_tab (i := 790) (by decide +kernel) (by decide +kernel)
theorem km_791 : Cond.methodLink "HostBridgeLaw" 99 ⟨"HostBridgeModel", "answer", "(J)V"⟩ ∈ cx_T := cx_tab (i := 791) (by decide +kernel) (by decide +kernel)
theorem km_792 : Cond.instanceMethod ⟨"HostBridgeModel", "answer", "(J)V"⟩ ∈ cx_T := cx_tab (i := 792) (by decide +kernel) (by decide +kernel)
theorem km_793 : Cond.selects "HostBridgeModel" ⟨"HostBridgeModel", "answer", "(J)V"⟩ ⟨"HostBridgeModel", "answer", "(J)V"⟩ ∈ cx_T := cx_tab (i := 793) (by decide +kernel) (by decide +kernel)
theorem km_794 : Cond.code ⟨"HostBridgeModel", "answer", "(J)V"⟩ prog_10_method_25_code 3 none ∈ cx_T := cx_tab (i := 794) (by decide +kernel) (by decide +kernel)
theorem km_795 : Cond.methodLink "HostBridgeLaw" 103 ⟨"HostBridgeModel", "given", "()J"⟩ ∈ cx_T := cx_tab (i := 795) (by decide +kernel) (by decide +kernel)
theorem km_796 : Cond.instanceMethod ⟨"HostBridgeModel", "given", "()J"⟩ ∈ cx_T := cx_tab (i := 796) (by decide +kernel) (by decide +kernel)
theorem km_797 : Cond.selects "HostBridgeModel" ⟨"HostBridgeModel", "given", "()J"⟩ ⟨"HostBridgeModel", "given", "()J"⟩ ∈ cx_T := cx_tab (i := 797) (by decide +kernel) (by decide +kernel)
theorem km_798 : Cond.code ⟨"HostBridgeModel", "given", "()J"⟩ prog_10_method_26_code 1 (some FieldType.long) ∈ cx_T := cx_tab (i := 798) (by decide +kernel) (by decide +kernel)
theorem km_799 : Cond.methodLink "HostBridgeLaw" 107 ⟨"HostBridgeModel", "calls", "()I"⟩ ∈ cx_T := cx_tab (i := 799) (by decide +kernel) (by decide +kernel)
theorem km_800 : Cond.instanceMethod ⟨"HostBridgeModel", "calls", "()I"⟩ ∈ cx_T := cx_tab (i := 800) (by decide +kernel) (by decide +kernel)
theorem km_801 : Cond.selects "HostBridgeModel" ⟨"HostBridgeModel", "calls", "()I"⟩ ⟨"HostBridgeModel", "calls", "()I"⟩ ∈ cx_T := cx_tab (i := 801) (by decide +kernel) (by decide +kernel)
theorem km_802 : Cond.code ⟨"HostBridgeModel", "calls", "()I"⟩ prog_10_method_27_code 1 (some FieldType.int) ∈ cx_T := cx_tab (i := 802) (by decide +kernel) (by decide +kernel)
theorem km_803 : Cond.methodLink "HostBridgeLaw" 110 ⟨"HostBridgeModel", "look", "(II)I"⟩ ∈ cx_T := cx_tab (i := 803) (by decide +kernel) (by decide +kernel)
theorem km_804 : Cond.instanceMethod ⟨"HostBridgeModel", "look", "(II)I"⟩ ∈ cx_T := cx_tab (i := 804) (by decide +kernel) (by decide +kernel)
theorem km_805 : Cond.selects "HostBridgeModel" ⟨"HostBridgeModel", "look", "(II)I"⟩ ⟨"HostBridgeModel", "look", "(II)I"⟩ ∈ cx_T := cx_tab (i := 805) (by decide +kernel) (by decide +kernel)
theorem km_806 : Cond.code ⟨"HostBridgeModel", "look", "(II)I"⟩ prog_10_method_29_code 4 (some FieldType.int) ∈ cx_T := cx_tab (i := 806) (by decide +kernel) (by decide +kernel)
theorem km_807 : Cond.methodLink "HostBridgeModel" 161 ⟨"HostBridgeModel", "isGone", "(I)Z"⟩ ∈ cx_T := cx_tab (i := 807) (by decide +kernel) (by decide +kernel)
theorem km_808 : Cond.privateMethod ⟨"HostBridgeModel", "isGone", "(I)Z"⟩ ∈ cx_T := cx_tab (i := 808) (by decide +kernel) (by decide +kernel)
theorem km_809 : Cond.instanceMethod ⟨"HostBridgeModel", "isGone", "(I)Z"⟩ ∈ cx_T := cx_tab (i := 809) (by decide +kernel) (by decide +kernel)
theorem km_810 : Cond.code ⟨"HostBridgeModel", "isGone", "(I)Z"⟩ prog_10_method_28_code 2 (some FieldType.boolean) ∈ cx_T := cx_tab (i := 810) (by decide +kernel) (by decide +kernel)
theorem km_811 : Cond.methodLink "HostBridgeLaw" 113 ⟨"HostBridgeModel", "converted", "(II)J"⟩ ∈ cx_T := cx_tab (i := 811) (by decide +kernel) (by decide +kernel)
theorem km_812 : Cond.instanceMethod ⟨"HostBridgeModel", "converted", "(II)J"⟩ ∈ cx_T := cx_tab (i := 812) (by decide +kernel) (by decide +kernel)
theorem km_813 : Cond.selects "HostBridgeModel" ⟨"HostBridgeModel", "converted", "(II)J"⟩ ⟨"HostBridgeModel", "converted", "(II)J"⟩ ∈ cx_T := cx_tab (i := 813) (by decide +kernel) (by decide +kernel)
theorem km_814 : Cond.code ⟨"HostBridgeModel", "converted", "(II)J"⟩ prog_10_method_30_code 3 (some FieldType.long) ∈ cx_T := cx_tab (i := 814) (by decide +kernel) (by decide +kernel)
theorem km_815 : Cond.constantLong "HostBridgeLaw" 79 (4294967295 : Int64) ∈ cx_T := cx_tab (i := 815) (by decide +kernel) (by decide +kernel)
theorem km_816 : Cond.sameMethod "java/lang/Throwable" "java/lang/Throwable" "fillInStackTrace" "(I)Ljava/lang/Throwable;" ∈ cx_T := cx_tab (i := 816) (by decide +kernel) (by decide +kernel)
theorem kv_B_isValue : Cond.selects "HostBridge" ⟨"HostBridge", "isValue", "(IJ)Z"⟩ ⟨"HostBridge", "isValue", "(IJ)Z"⟩ ∈ cx_T := cx_mem (by decide +kernel) (by decide +kernel)
theorem kv_C_gatherFrom : Cond.selects "HostBridge$Choice" ⟨"HostBridge$Choice", "gatherFrom", "(III)V"⟩ ⟨"HostBridge$Choice", "gatherFrom", "(III)V"⟩ ∈ cx_T := cx_mem (by decide +kernel) (by decide +kernel)
theorem kv_C_isHidden : Cond.selects "HostBridge$Choice" ⟨"HostBridge$Choice", "isHidden", "(I)Z"⟩ ⟨"HostBridge$Choice", "isHidden", "(I)Z"⟩ ∈ cx_T := cx_mem (by decide +kernel) (by decide +kernel)
theorem kv_C_lowestWeight : Cond.selects "HostBridge$Choice" ⟨"HostBridge$Choice", "lowestWeight", "(II)I"⟩ ⟨"HostBridge$Choice", "lowestWeight", "(II)I"⟩ ∈ cx_T := cx_mem (by decide +kernel) (by decide +kernel)
theorem kv_C_weightIn : Cond.selects "HostBridge$Choice" ⟨"HostBridge$Choice", "weightIn", "(III)I"⟩ ⟨"HostBridge$Choice", "weightIn", "(III)I"⟩ ∈ cx_T := cx_mem (by decide +kernel) (by decide +kernel)
theorem kv_C_isLowest : Cond.selects "HostBridge$Choice" ⟨"HostBridge$Choice", "isLowest", "(II)Z"⟩ ⟨"HostBridge$Choice", "isLowest", "(II)Z"⟩ ∈ cx_T := cx_mem (by decide +kernel) (by decide +kernel)
theorem kv_B_writeDown : Cond.selects "HostBridge" ⟨"HostBridge", "writeDown", "(II)V"⟩ ⟨"HostBridge", "writeDown", "(II)V"⟩ ∈ cx_T := cx_mem (by decide +kernel) (by decide +kernel)
theorem kv_R_throwing : Cond.selects "HostBridgeModel" ⟨"HostBridgeModel", "throwing", "(ZZZ)Z"⟩ ⟨"HostBridgeModel", "throwing", "(ZZZ)Z"⟩ ∈ cx_T := cx_mem (by decide +kernel) (by decide +kernel)
theorem kv_R_asks : Cond.selects "HostBridgeModel" ⟨"HostBridgeModel", "asks", "(II)Z"⟩ ⟨"HostBridgeModel", "asks", "(II)Z"⟩ ∈ cx_T := cx_mem (by decide +kernel) (by decide +kernel)
theorem kv_R_methodOf : Cond.selects "HostBridgeModel" ⟨"HostBridgeModel", "methodOf", "(III)I"⟩ ⟨"HostBridgeModel", "methodOf", "(III)I"⟩ ∈ cx_T := cx_mem (by decide +kernel) (by decide +kernel)
theorem kv_R_weightOf : Cond.selects "HostBridgeModel" ⟨"HostBridgeModel", "weightOf", "(II)I"⟩ ⟨"HostBridgeModel", "weightOf", "(II)I"⟩ ∈ cx_T := cx_mem (by decide +kernel) (by decide +kernel)
theorem kv_R_far : Cond.selects "HostBridgeModel" ⟨"HostBridgeModel", "far", "(II)I"⟩ ⟨"HostBridgeModel", "far", "(II)I"⟩ ∈ cx_T := cx_mem (by decide +kernel) (by decide +kernel)
theorem kv_R_fits : Cond.selects "HostBridgeModel" ⟨"HostBridgeModel", "fits", "(I)Z"⟩ ⟨"HostBridgeModel", "fits", "(I)Z"⟩ ∈ cx_T := cx_mem (by decide +kernel) (by decide +kernel)
theorem kv_R_isHidden : Cond.selects "HostBridgeModel" ⟨"HostBridgeModel", "isHidden", "(II)Z"⟩ ⟨"HostBridgeModel", "isHidden", "(II)Z"⟩ ∈ cx_T := cx_mem (by decide +kernel) (by decide +kernel)
theorem kv_R_isBest : Cond.selects "HostBridgeModel" ⟨"HostBridgeModel", "isBest", "(I)Z"⟩ ⟨"HostBridgeModel", "isBest", "(I)Z"⟩ ∈ cx_T := cx_mem (by decide +kernel) (by decide +kernel)
theorem kv_R_make : Cond.selects "HostBridgeModel" ⟨"HostBridgeModel", "make", "(II)I"⟩ ⟨"HostBridgeModel", "make", "(II)I"⟩ ∈ cx_T := cx_mem (by decide +kernel) (by decide +kernel)
theorem kv_R_turned : Cond.selects "HostBridgeModel" ⟨"HostBridgeModel", "turned", "(II)J"⟩ ⟨"HostBridgeModel", "turned", "(II)J"⟩ ∈ cx_T := cx_mem (by decide +kernel) (by decide +kernel)
theorem kv_R_isGone : Cond.selects "HostBridgeModel" ⟨"HostBridgeModel", "isGone", "(I)Z"⟩ ⟨"HostBridgeModel", "isGone", "(I)Z"⟩ ∈ cx_T := cx_mem (by decide +kernel) (by decide +kernel)
