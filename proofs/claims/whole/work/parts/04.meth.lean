/-! the methods: names, codes, their words -/
/-- a method: own class, code, words of locals, what it returns, whether it is a constructor -/
abbrev MM : Type := Nat × ByteArray × Nat × Option FieldType × Bool
/-- what is known of a method's name -/
def m_nm (y : MethodName) (M : MM) (n : Nat) : Prop := Cond.code y M.2.1 M.2.2.1 M.2.2.2.1 ∈ tw ∧ Cond.initialized y.cls ∈ tw ∧ y.cls = m_cn M.1 ∧ (y.cls ≠ "java/lang/invoke/MethodHandle" ∧ y.cls ≠ "java/lang/invoke/VarHandle" ∧ (parseMethodDescriptor y.desc).map (fun d => d.parameters.length) = some n)
/-- the constructors of nest mates that are called -/
def m_nest : List (String × Nat × MethodName) := [("WalkFence", 11, ⟨"WalkFence$Tape", "<init>", "()V"⟩), ("WalkFence", 18, ⟨"WalkFence$Slope", "<init>", "()V"⟩), ("WalkFence", 62, ⟨"WalkFence$Log", "<init>", "()V"⟩), ("WalkFence", 76, ⟨"WalkFence$Seen", "<init>", "()V"⟩), ("WalkFence", 83, ⟨"WalkFence$Image", "<init>", "()V"⟩), ("WalkFence$History", 24, ⟨"WalkFence$Log", "<init>", "()V"⟩), ("WalkFence$Walker", 11, ⟨"WalkFence$Reckoner", "<init>", "()V"⟩)]
theorem tw_qs {ws : List Cond} (ps : List Nat) (hp : ws.map some = ps.map (fun i => lw_tbl[i]?)) (h : ws.all goodWord = true) : ∀ w ∈ ws, w ∈ tw := by
  intro w hw
  have h1 : some w ∈ ps.map (fun i => lw_tbl[i]?) := by rw [← hp]; exact List.mem_map_of_mem hw
  obtain ⟨i, -, hi⟩ := List.mem_map.mp h1
  exact List.mem_filter.mpr ⟨List.mem_of_getElem? hi, List.all_eq_true.mp h w hw⟩
theorem tw_c {w : Cond} {l : List Cond} (i : Nat) (h : ∀ w ∈ l, w ∈ tw) (hi : l[i]? = some w) : w ∈ tw := h w (List.mem_of_getElem? hi)
def y_WF_init : MethodName := ⟨"WalkFence", "<init>", "()V"⟩
def M_WF_init : MM := (11, prog_1_method_1_code, 1, none, true)
def y_Tape_init : MethodName := ⟨"WalkFence$Tape", "<init>", "()V"⟩
def M_Tape_init : MM := (9, prog_11_method_1_code, 1, none, true)
def y_Slope_init : MethodName := ⟨"WalkFence$Slope", "<init>", "()V"⟩
def M_Slope_init : MM := (8, prog_10_method_1_code, 1, none, true)
def y_Lay_init : MethodName := ⟨"WalkFence$Lay", "<init>", "()V"⟩
def M_Lay_init : MM := (3, prog_5_method_1_code, 1, none, true)
def y_Arrays_fill : MethodName := ⟨"java/util/Arrays", "fill", "([II)V"⟩
def M_Arrays_fill : MM := (16, prog_21_method_103_code, 4, none, false)
def y_Reader_init : MethodName := ⟨"WalkFence$Reader", "<init>", "(LWalkFence$Tape;LWalkFence$Slope;)V"⟩
def M_Reader_init : MM := (5, prog_7_method_1_code, 3, none, true)
def y_Walker_init : MethodName := ⟨"WalkFence$Walker", "<init>", "(LWalkFence$Slope;)V"⟩
def M_Walker_init : MM := (10, prog_12_method_1_code, 2, none, true)
def y_Reckoner_init : MethodName := ⟨"WalkFence$Reckoner", "<init>", "()V"⟩
def M_Reckoner_init : MM := (6, prog_8_method_1_code, 1, none, true)
def y_Foresight_init : MethodName := ⟨"WalkFence$Foresight", "<init>", "(LWalkFence$Lay;LWalkFence$Walker;)V"⟩
def M_Foresight_init : MM := (0, prog_2_method_1_code, 3, none, true)
def y_Log_init : MethodName := ⟨"WalkFence$Log", "<init>", "()V"⟩
def M_Log_init : MM := (4, prog_6_method_1_code, 1, none, true)
def y_History_init : MethodName := ⟨"WalkFence$History", "<init>", "()V"⟩
def M_History_init : MM := (1, prog_3_method_1_code, 2, none, true)
def y_Seen_init : MethodName := ⟨"WalkFence$Seen", "<init>", "()V"⟩
def M_Seen_init : MM := (7, prog_9_method_1_code, 1, none, true)
def y_Image_init : MethodName := ⟨"WalkFence$Image", "<init>", "()V"⟩
def M_Image_init : MM := (2, prog_4_method_1_code, 1, none, true)
def y_WF_feed : MethodName := ⟨"WalkFence", "feed", "(IIIII)I"⟩
def M_WF_feed : MM := (11, prog_1_method_2_code, 6, some .int, false)
def y_WF_refuse : MethodName := ⟨"WalkFence", "refuse", "(I)I"⟩
def M_WF_refuse : MM := (11, prog_1_method_37_code, 2, some .int, false)
def y_Tape_append : MethodName := ⟨"WalkFence$Tape", "append", "(I)V"⟩
def M_Tape_append : MM := (9, prog_11_method_2_code, 3, none, false)
def y_WF_end : MethodName := ⟨"WalkFence", "end", "(I)Z"⟩
def M_WF_end : MM := (11, prog_1_method_3_code, 2, some .boolean, false)
def y_WF_slope : MethodName := ⟨"WalkFence", "slope", "()I"⟩
def M_WF_slope : MM := (11, prog_1_method_4_code, 3, some .int, false)
def y_Reader_readSlope : MethodName := ⟨"WalkFence$Reader", "readSlope", "(LWalkFence$Slope;)Z"⟩
def M_Reader_readSlope : MM := (5, prog_7_method_2_code, 4, some .boolean, false)
def y_Reader_begin : MethodName := ⟨"WalkFence$Reader", "begin", "(LWalkFence$Slope;)V"⟩
def M_Reader_begin : MM := (5, prog_7_method_4_code, 2, none, false)
def y_Reader_advance : MethodName := ⟨"WalkFence$Reader", "advance", "()V"⟩
def M_Reader_advance : MM := (5, prog_7_method_6_code, 4, none, false)
def y_Tape_byteAt : MethodName := ⟨"WalkFence$Tape", "byteAt", "(I)I"⟩
def M_Tape_byteAt : MM := (9, prog_11_method_3_code, 2, some .int, false)
def y_Reader_isBlank : MethodName := ⟨"WalkFence$Reader", "isBlank", "(I)Z"⟩
def M_Reader_isBlank : MM := (5, prog_7_method_7_code, 1, some .boolean, false)
def y_Reader_isLetter : MethodName := ⟨"WalkFence$Reader", "isLetter", "(I)Z"⟩
def M_Reader_isLetter : MM := (5, prog_7_method_8_code, 1, some .boolean, false)
def y_Reader_wordNumber : MethodName := ⟨"WalkFence$Reader", "wordNumber", "()I"⟩
def M_Reader_wordNumber : MM := (5, prog_7_method_10_code, 5, some .int, false)
def y_Reader_isDigit : MethodName := ⟨"WalkFence$Reader", "isDigit", "(I)Z"⟩
def M_Reader_isDigit : MM := (5, prog_7_method_9_code, 1, some .boolean, false)
def y_Slope_clear : MethodName := ⟨"WalkFence$Slope", "clear", "()V"⟩
def M_Slope_clear : MM := (8, prog_10_method_2_code, 1, none, false)
def y_Lay_clear : MethodName := ⟨"WalkFence$Lay", "clear", "()V"⟩
def M_Lay_clear : MM := (3, prog_5_method_2_code, 1, none, false)
def y_Reader_slopeLine : MethodName := ⟨"WalkFence$Reader", "slopeLine", "()Z"⟩
def M_Reader_slopeLine : MM := (5, prog_7_method_18_code, 2, some .boolean, false)
def y_Reader_needWord : MethodName := ⟨"WalkFence$Reader", "needWord", "(I)Z"⟩
def M_Reader_needWord : MM := (5, prog_7_method_13_code, 2, some .boolean, false)
def y_Reader_isWord : MethodName := ⟨"WalkFence$Reader", "isWord", "(I)Z"⟩
def M_Reader_isWord : MM := (5, prog_7_method_11_code, 2, some .boolean, false)
def y_Reader_wrong : MethodName := ⟨"WalkFence$Reader", "wrong", "(II)Z"⟩
def M_Reader_wrong : MM := (5, prog_7_method_5_code, 3, some .boolean, false)
def y_Reader_number : MethodName := ⟨"WalkFence$Reader", "number", "(II)Z"⟩
def M_Reader_number : MM := (5, prog_7_method_14_code, 4, some .boolean, false)
def y_Reader_need : MethodName := ⟨"WalkFence$Reader", "need", "(I)Z"⟩
def M_Reader_need : MM := (5, prog_7_method_12_code, 2, some .boolean, false)
def y_Reader_steepLine : MethodName := ⟨"WalkFence$Reader", "steepLine", "()Z"⟩
def M_Reader_steepLine : MM := (5, prog_7_method_19_code, 2, some .boolean, false)
def y_Reader_ironLine : MethodName := ⟨"WalkFence$Reader", "ironLine", "()Z"⟩
def M_Reader_ironLine : MM := (5, prog_7_method_20_code, 3, some .boolean, false)
def y_Lay_countPosts : MethodName := ⟨"WalkFence$Lay", "countPosts", "()I"⟩
def M_Lay_countPosts : MM := (3, prog_5_method_15_code, 3, some .int, false)
def y_Integer_bitCount : MethodName := ⟨"java/lang/Integer", "bitCount", "(I)I"⟩
def M_Integer_bitCount : MM := (14, prog_15_method_49_code, 1, some .int, false)
def y_Lay_hasPost : MethodName := ⟨"WalkFence$Lay", "hasPost", "(II)Z"⟩
def M_Lay_hasPost : MM := (3, prog_5_method_13_code, 3, some .boolean, false)
def y_Lay_postsOf : MethodName := ⟨"WalkFence$Lay", "postsOf", "(I)I"⟩
def M_Lay_postsOf : MM := (3, prog_5_method_12_code, 2, some .int, false)
def y_Lay_drive : MethodName := ⟨"WalkFence$Lay", "drive", "(II)V"⟩
def M_Lay_drive : MM := (3, prog_5_method_14_code, 3, none, false)
def y_Reader_fenceLine : MethodName := ⟨"WalkFence$Reader", "fenceLine", "()Z"⟩
def M_Reader_fenceLine : MM := (5, prog_7_method_21_code, 3, some .boolean, false)
def y_Reader_name : MethodName := ⟨"WalkFence$Reader", "name", "()Z"⟩
def M_Reader_name : MM := (5, prog_7_method_15_code, 1, some .boolean, false)
def y_Reader_named : MethodName := ⟨"WalkFence$Reader", "named", "()I"⟩
def M_Reader_named : MM := (5, prog_7_method_17_code, 4, some .int, false)
def y_Reader_letterAt : MethodName := ⟨"WalkFence$Reader", "letterAt", "(I)I"⟩
def M_Reader_letterAt : MM := (5, prog_7_method_16_code, 2, some .int, false)
def y_Lay_putStake : MethodName := ⟨"WalkFence$Lay", "putStake", "(III)V"⟩
def M_Lay_putStake : MM := (3, prog_5_method_6_code, 4, none, false)
def y_Lay_isStake : MethodName := ⟨"WalkFence$Lay", "isStake", "(II)Z"⟩
def M_Lay_isStake : MM := (3, prog_5_method_7_code, 2, some .boolean, false)
def y_Lay_putAge : MethodName := ⟨"WalkFence$Lay", "putAge", "(II)V"⟩
def M_Lay_putAge : MM := (3, prog_5_method_9_code, 3, none, false)
def y_Reader_stakeLine : MethodName := ⟨"WalkFence$Reader", "stakeLine", "()Z"⟩
def M_Reader_stakeLine : MM := (5, prog_7_method_22_code, 3, some .boolean, false)
def y_Reader_walksLine : MethodName := ⟨"WalkFence$Reader", "walksLine", "()Z"⟩
def M_Reader_walksLine : MM := (5, prog_7_method_23_code, 2, some .boolean, false)
def y_Reader_sum : MethodName := ⟨"WalkFence$Reader", "sum", "(I)Z"⟩
def M_Reader_sum : MM := (5, prog_7_method_31_code, 4, some .boolean, false)
def y_Reader_product : MethodName := ⟨"WalkFence$Reader", "product", "(I)Z"⟩
def M_Reader_product : MM := (5, prog_7_method_32_code, 4, some .boolean, false)
def y_Reader_part : MethodName := ⟨"WalkFence$Reader", "part", "(I)Z"⟩
def M_Reader_part : MM := (5, prog_7_method_33_code, 3, some .boolean, false)
def y_Reader_emit : MethodName := ⟨"WalkFence$Reader", "emit", "(I)Z"⟩
def M_Reader_emit : MM := (5, prog_7_method_26_code, 2, some .boolean, false)
def y_Reader_opens : MethodName := ⟨"WalkFence$Reader", "opens", "(I)Z"⟩
def M_Reader_opens : MM := (5, prog_7_method_27_code, 2, some .boolean, false)
def y_Reader_rootsLine : MethodName := ⟨"WalkFence$Reader", "rootsLine", "()Z"⟩
def M_Reader_rootsLine : MM := (5, prog_7_method_24_code, 2, some .boolean, false)
def y_Reader_test : MethodName := ⟨"WalkFence$Reader", "test", "(I)Z"⟩
def M_Reader_test : MM := (5, prog_7_method_28_code, 3, some .boolean, false)
def y_Reader_both : MethodName := ⟨"WalkFence$Reader", "both", "(I)Z"⟩
def M_Reader_both : MM := (5, prog_7_method_29_code, 3, some .boolean, false)
def y_Reader_fact : MethodName := ⟨"WalkFence$Reader", "fact", "(I)Z"⟩
def M_Reader_fact : MM := (5, prog_7_method_30_code, 3, some .boolean, false)
def y_Reader_tideLine : MethodName := ⟨"WalkFence$Reader", "tideLine", "()Z"⟩
def M_Reader_tideLine : MM := (5, prog_7_method_25_code, 1, some .boolean, false)
def y_WF_beginAnew : MethodName := ⟨"WalkFence", "beginAnew", "(LWalkFence$Lay;)V"⟩
def M_WF_beginAnew : MM := (11, prog_1_method_35_code, 2, none, false)
def y_Lay_takeFrom : MethodName := ⟨"WalkFence$Lay", "takeFrom", "(LWalkFence$Lay;)V"⟩
def M_Lay_takeFrom : MM := (3, prog_5_method_3_code, 2, none, false)
def y_Log_clear : MethodName := ⟨"WalkFence$Log", "clear", "()V"⟩
def M_Log_clear : MM := (4, prog_6_method_2_code, 1, none, false)
def y_History_clear : MethodName := ⟨"WalkFence$History", "clear", "()V"⟩
def M_History_clear : MM := (1, prog_3_method_2_code, 1, none, false)
def y_Foresight_forget : MethodName := ⟨"WalkFence$Foresight", "forget", "()V"⟩
def M_Foresight_forget : MM := (0, prog_2_method_2_code, 1, none, false)
def y_WF_fault : MethodName := ⟨"WalkFence", "fault", "(I)I"⟩
def M_WF_fault : MM := (11, prog_1_method_5_code, 2, some .int, false)
def y_WF_has : MethodName := ⟨"WalkFence", "has", "(I)I"⟩
def M_WF_has : MM := (11, prog_1_method_6_code, 2, some .int, false)
def y_WF_countStakes : MethodName := ⟨"WalkFence", "countStakes", "()I"⟩
def M_WF_countStakes : MM := (11, prog_1_method_40_code, 3, some .int, false)
def y_Lay_leftOf : MethodName := ⟨"WalkFence$Lay", "leftOf", "(I)I"⟩
def M_Lay_leftOf : MM := (3, prog_5_method_16_code, 4, some .int, false)
def y_Lay_rowOf : MethodName := ⟨"WalkFence$Lay", "rowOf", "(II)I"⟩
def M_Lay_rowOf : MM := (3, prog_5_method_5_code, 3, some .int, false)
def y_WF_countMoor : MethodName := ⟨"WalkFence", "countMoor", "()I"⟩
def M_WF_countMoor : MM := (11, prog_1_method_41_code, 3, some .int, false)
def y_Lay_fieldOf : MethodName := ⟨"WalkFence$Lay", "fieldOf", "(II)I"⟩
def M_Lay_fieldOf : MM := (3, prog_5_method_19_code, 5, some .int, false)
def y_Lay_fieldIn : MethodName := ⟨"WalkFence$Lay", "fieldIn", "(III)I"⟩
def M_Lay_fieldIn : MM := (3, prog_5_method_20_code, 8, some .int, false)
def y_WF_letter : MethodName := ⟨"WalkFence", "letter", "(II)I"⟩
def M_WF_letter : MM := (11, prog_1_method_7_code, 3, some .int, false)
def y_Slope_hasFence : MethodName := ⟨"WalkFence$Slope", "hasFence", "(I)Z"⟩
def M_Slope_hasFence : MM := (8, prog_10_method_4_code, 2, some .boolean, false)
def y_WF_place : MethodName := ⟨"WalkFence", "place", "(III)I"⟩
def M_WF_place : MM := (11, prog_1_method_8_code, 4, some .int, false)
def y_Slope_hasPlace : MethodName := ⟨"WalkFence$Slope", "hasPlace", "(II)Z"⟩
def M_Slope_hasPlace : MM := (8, prog_10_method_5_code, 3, some .boolean, false)
def y_Lay_ownerOf : MethodName := ⟨"WalkFence$Lay", "ownerOf", "(II)I"⟩
def M_Lay_ownerOf : MM := (3, prog_5_method_18_code, 7, some .int, false)
def y_Lay_stakesAt : MethodName := ⟨"WalkFence$Lay", "stakesAt", "(II)I"⟩
def M_Lay_stakesAt : MM := (3, prog_5_method_17_code, 5, some .int, false)
def y_WF_fence : MethodName := ⟨"WalkFence", "fence", "(II)I"⟩
def M_WF_fence : MM := (11, prog_1_method_9_code, 3, some .int, false)
def y_Lay_isCut : MethodName := ⟨"WalkFence$Lay", "isCut", "(I)Z"⟩
def M_Lay_isCut : MM := (3, prog_5_method_11_code, 2, some .boolean, false)
def y_WF_stake : MethodName := ⟨"WalkFence", "stake", "(II)I"⟩
def M_WF_stake : MM := (11, prog_1_method_10_code, 4, some .int, false)
def y_WF_walks : MethodName := ⟨"WalkFence", "walks", "(II)I"⟩
def M_WF_walks : MM := (11, prog_1_method_11_code, 4, some .int, false)
def y_Walker_face : MethodName := ⟨"WalkFence$Walker", "face", "(LWalkFence$Lay;I)V"⟩
def M_Walker_face : MM := (10, prog_12_method_2_code, 3, none, false)
def y_Lay_ageOf : MethodName := ⟨"WalkFence$Lay", "ageOf", "(I)I"⟩
def M_Lay_ageOf : MM := (3, prog_5_method_10_code, 2, some .int, false)
def y_Walker_paces : MethodName := ⟨"WalkFence$Walker", "paces", "(II)I"⟩
def M_Walker_paces : MM := (10, prog_12_method_3_code, 4, some .int, false)
def y_Slope_steepOf : MethodName := ⟨"WalkFence$Slope", "steepOf", "(I)I"⟩
def M_Slope_steepOf : MM := (8, prog_10_method_6_code, 2, some .int, false)
def y_Reckoner_run : MethodName := ⟨"WalkFence$Reckoner", "run", "([III)I"⟩
def M_Reckoner_run : MM := (6, prog_8_method_2_code, 7, some .int, false)
def y_Math_max_II : MethodName := ⟨"java/lang/Math", "max", "(II)I"⟩
def M_Math_max_II : MM := (15, prog_16_method_65_code, 2, some .int, false)
def y_Reckoner_single : MethodName := ⟨"WalkFence$Reckoner", "single", "(II)I"⟩
def M_Reckoner_single : MM := (6, prog_8_method_4_code, 3, some .int, false)
def y_Reckoner_pair : MethodName := ⟨"WalkFence$Reckoner", "pair", "(III)I"⟩
def M_Reckoner_pair : MM := (6, prog_8_method_5_code, 5, some .int, false)
def y_Math_floorDiv : MethodName := ⟨"java/lang/Math", "floorDiv", "(II)I"⟩
def M_Math_floorDiv : MM := (15, prog_16_method_47_code, 3, some .int, false)
def y_Math_min_II : MethodName := ⟨"java/lang/Math", "min", "(II)I"⟩
def M_Math_min_II : MM := (15, prog_16_method_69_code, 2, some .int, false)
def y_Reckoner_partOf : MethodName := ⟨"WalkFence$Reckoner", "partOf", "(I)I"⟩
def M_Reckoner_partOf : MM := (6, prog_8_method_3_code, 2, some .int, false)
def y_WF_kept : MethodName := ⟨"WalkFence", "kept", "(II)I"⟩
def M_WF_kept : MM := (11, prog_1_method_12_code, 3, some .int, false)
def y_Log_tell : MethodName := ⟨"WalkFence$Log", "tell", "(II)I"⟩
def M_Log_tell : MM := (4, prog_6_method_5_code, 5, some .int, false)
def y_WF_later : MethodName := ⟨"WalkFence", "later", "(III)I"⟩
def M_WF_later : MM := (11, prog_1_method_13_code, 5, some .int, false)
def y_WF_yearsAtMost : MethodName := ⟨"WalkFence", "yearsAtMost", "(I)I"⟩
def M_WF_yearsAtMost : MM := (11, prog_1_method_38_code, 2, some .int, false)
def y_Foresight_goAhead : MethodName := ⟨"WalkFence$Foresight", "goAhead", "(I)LWalkFence$Lay;"⟩
def M_Foresight_goAhead : MM := (0, prog_2_method_3_code, 2, some (.object "WalkFence$Lay"), false)
def y_Foresight_passYears : MethodName := ⟨"WalkFence$Foresight", "passYears", "(LWalkFence$Lay;I)V"⟩
def M_Foresight_passYears : MM := (0, prog_2_method_4_code, 4, none, false)
def y_Walker_passYear : MethodName := ⟨"WalkFence$Walker", "passYear", "(LWalkFence$Lay;LWalkFence$Log;)I"⟩
def M_Walker_passYear : MM := (10, prog_12_method_4_code, 5, some .int, false)
def y_Walker_walkFence : MethodName := ⟨"WalkFence$Walker", "walkFence", "(LWalkFence$Lay;ILWalkFence$Log;)I"⟩
def M_Walker_walkFence : MM := (10, prog_12_method_5_code, 8, some .int, false)
def y_Walker_landing : MethodName := ⟨"WalkFence$Walker", "landing", "(III)I"⟩
def M_Walker_landing : MM := (10, prog_12_method_6_code, 6, some .int, false)
def y_Integer_numberOfTrailingZeros : MethodName := ⟨"java/lang/Integer", "numberOfTrailingZeros", "(I)I"⟩
def M_Integer_numberOfTrailingZeros : MM := (14, prog_15_method_48_code, 2, some .int, false)
def y_Log_note : MethodName := ⟨"WalkFence$Log", "note", "(III)V"⟩
def M_Log_note : MM := (4, prog_6_method_4_code, 5, none, false)
def y_Walker_rootsAgain : MethodName := ⟨"WalkFence$Walker", "rootsAgain", "(LWalkFence$Lay;I)Z"⟩
def M_Walker_rootsAgain : MM := (10, prog_12_method_7_code, 3, some .boolean, false)
def y_Lay_plant : MethodName := ⟨"WalkFence$Lay", "plant", "(II)V"⟩
def M_Lay_plant : MM := (3, prog_5_method_8_code, 4, none, false)
def y_WF_whose : MethodName := ⟨"WalkFence", "whose", "(III)I"⟩
def M_WF_whose : MM := (11, prog_1_method_14_code, 4, some .int, false)
def y_WF_meets : MethodName := ⟨"WalkFence", "meets", "(II)I"⟩
def M_WF_meets : MM := (11, prog_1_method_15_code, 3, some .int, false)
def y_WF_areTwoFences : MethodName := ⟨"WalkFence", "areTwoFences", "(II)Z"⟩
def M_WF_areTwoFences : MM := (11, prog_1_method_39_code, 3, some .boolean, false)
def y_Foresight_firstMeeting : MethodName := ⟨"WalkFence$Foresight", "firstMeeting", "(III)I"⟩
def M_Foresight_firstMeeting : MM := (0, prog_2_method_5_code, 5, some .int, false)
def y_Lay_meetSomewhere : MethodName := ⟨"WalkFence$Lay", "meetSomewhere", "(II)Z"⟩
def M_Lay_meetSomewhere : MM := (3, prog_5_method_22_code, 5, some .boolean, false)
def y_WF_below : MethodName := ⟨"WalkFence", "below", "(II)I"⟩
def M_WF_below : MM := (11, prog_1_method_16_code, 3, some .int, false)
def y_Lay_columnsBelow : MethodName := ⟨"WalkFence$Lay", "columnsBelow", "(II)I"⟩
def M_Lay_columnsBelow : MM := (3, prog_5_method_21_code, 6, some .int, false)
def y_WF_sets : MethodName := ⟨"WalkFence", "sets", "(III)I"⟩
def M_WF_sets : MM := (11, prog_1_method_17_code, 8, some .int, false)
def y_Foresight_leastField : MethodName := ⟨"WalkFence$Foresight", "leastField", "(III)I"⟩
def M_Foresight_leastField : MM := (0, prog_2_method_6_code, 6, some .int, false)
def y_WF_irons : MethodName := ⟨"WalkFence", "irons", "(III)I"⟩
def M_WF_irons : MM := (11, prog_1_method_18_code, 4, some .int, false)
def y_Foresight_findIron : MethodName := ⟨"WalkFence$Foresight", "findIron", "(II)V"⟩
def M_Foresight_findIron : MM := (0, prog_2_method_7_code, 6, none, false)
def y_Foresight_tread : MethodName := ⟨"WalkFence$Foresight", "tread", "(I)V"⟩
def M_Foresight_tread : MM := (0, prog_2_method_8_code, 4, none, false)
def y_Foresight_treadBy : MethodName := ⟨"WalkFence$Foresight", "treadBy", "(I)V"⟩
def M_Foresight_treadBy : MM := (0, prog_2_method_9_code, 5, none, false)
def y_Foresight_tryIron : MethodName := ⟨"WalkFence$Foresight", "tryIron", "(II)V"⟩
def M_Foresight_tryIron : MM := (0, prog_2_method_10_code, 4, none, false)
def y_WF_rest : MethodName := ⟨"WalkFence", "rest", "(I)I"⟩
def M_WF_rest : MM := (11, prog_1_method_19_code, 2, some .int, false)
def y_Slope_isTold : MethodName := ⟨"WalkFence$Slope", "isTold", "()Z"⟩
def M_Slope_isTold : MM := (8, prog_10_method_3_code, 1, some .boolean, false)
def y_Foresight_findRest : MethodName := ⟨"WalkFence$Foresight", "findRest", "(I)I"⟩
def M_Foresight_findRest : MM := (0, prog_2_method_11_code, 6, some .int, false)
def y_Foresight_isAtRest : MethodName := ⟨"WalkFence$Foresight", "isAtRest", "(I)Z"⟩
def M_Foresight_isAtRest : MM := (0, prog_2_method_12_code, 6, some .boolean, false)
def y_Lay_takeStakes : MethodName := ⟨"WalkFence$Lay", "takeStakes", "(LWalkFence$Lay;I)V"⟩
def M_Lay_takeStakes : MM := (3, prog_5_method_4_code, 3, none, false)
def y_WF_see : MethodName := ⟨"WalkFence", "see", "()I"⟩
def M_WF_see : MM := (11, prog_1_method_20_code, 2, some .int, false)
def y_Seen_readFrom : MethodName := ⟨"WalkFence$Seen", "readFrom", "(LWalkFence$Tape;LWalkFence$Slope;)Z"⟩
def M_Seen_readFrom : MM := (7, prog_9_method_2_code, 7, some .boolean, false)
def y_WF_fits : MethodName := ⟨"WalkFence", "fits", "(I)I"⟩
def M_WF_fits : MM := (11, prog_1_method_21_code, 2, some .int, false)
def y_Foresight_findFits : MethodName := ⟨"WalkFence$Foresight", "findFits", "(LWalkFence$Seen;I)V"⟩
def M_Foresight_findFits : MM := (0, prog_2_method_13_code, 4, none, false)
def y_Seen_isSo : MethodName := ⟨"WalkFence$Seen", "isSo", "(LWalkFence$Lay;)Z"⟩
def M_Seen_isSo : MM := (7, prog_9_method_3_code, 3, some .boolean, false)
def y_Foresight_countOwners : MethodName := ⟨"WalkFence$Foresight", "countOwners", "()V"⟩
def M_Foresight_countOwners : MM := (0, prog_2_method_14_code, 4, none, false)
def y_WF_tells : MethodName := ⟨"WalkFence", "tells", "(I)I"⟩
def M_WF_tells : MM := (11, prog_1_method_22_code, 2, some .int, false)
def y_Foresight_findTelling : MethodName := ⟨"WalkFence$Foresight", "findTelling", "(LWalkFence$Seen;I)V"⟩
def M_Foresight_findTelling : MM := (0, prog_2_method_15_code, 6, none, false)
def y_Foresight_leftBy : MethodName := ⟨"WalkFence$Foresight", "leftBy", "(II)I"⟩
def M_Foresight_leftBy : MM := (0, prog_2_method_16_code, 6, some .int, false)
def y_WF_set : MethodName := ⟨"WalkFence", "set", "(I)Z"⟩
def M_WF_set : MM := (11, prog_1_method_23_code, 2, some .boolean, false)
def y_WF_beginAct : MethodName := ⟨"WalkFence", "beginAct", "()V"⟩
def M_WF_beginAct : MM := (11, prog_1_method_36_code, 1, none, false)
def y_History_keep : MethodName := ⟨"WalkFence$History", "keep", "(LWalkFence$Lay;LWalkFence$Log;)V"⟩
def M_History_keep : MM := (1, prog_3_method_3_code, 3, none, false)
def y_History_hasRing : MethodName := ⟨"WalkFence$History", "hasRing", "(I)Z"⟩
def M_History_hasRing : MM := (1, prog_3_method_5_code, 2, some .boolean, false)
def y_Log_takeFrom : MethodName := ⟨"WalkFence$Log", "takeFrom", "(LWalkFence$Log;)V"⟩
def M_Log_takeFrom : MM := (4, prog_6_method_3_code, 2, none, false)
def y_WF_cut : MethodName := ⟨"WalkFence", "cut", "(I)Z"⟩
def M_WF_cut : MM := (11, prog_1_method_24_code, 2, some .boolean, false)
def y_WF_iron : MethodName := ⟨"WalkFence", "iron", "(II)I"⟩
def M_WF_iron : MM := (11, prog_1_method_25_code, 3, some .int, false)
def y_WF_years : MethodName := ⟨"WalkFence", "years", "(I)I"⟩
def M_WF_years : MM := (11, prog_1_method_26_code, 4, some .int, false)
def y_WF_chance : MethodName := ⟨"WalkFence", "chance", "(I)I"⟩
def M_WF_chance : MM := (11, prog_1_method_27_code, 4, some .int, false)
def y_WF_draw : MethodName := ⟨"WalkFence", "draw", "(I)I"⟩
def M_WF_draw : MM := (11, prog_1_method_42_code, 2, some .int, false)
def y_WF_washOut : MethodName := ⟨"WalkFence", "washOut", "(II)V"⟩
def M_WF_washOut : MM := (11, prog_1_method_43_code, 3, none, false)
def y_WF_undo : MethodName := ⟨"WalkFence", "undo", "()Z"⟩
def M_WF_undo : MM := (11, prog_1_method_28_code, 1, some .boolean, false)
def y_History_giveBack : MethodName := ⟨"WalkFence$History", "giveBack", "(LWalkFence$Lay;LWalkFence$Log;)Z"⟩
def M_History_giveBack : MM := (1, prog_3_method_4_code, 4, some .boolean, false)
def y_WF_seed : MethodName := ⟨"WalkFence", "seed", "(I)Z"⟩
def M_WF_seed : MM := (11, prog_1_method_29_code, 2, some .boolean, false)
def y_WF_ask : MethodName := ⟨"WalkFence", "ask", "()J"⟩
def M_WF_ask : MM := (11, prog_1_method_30_code, 2, some .long, false)
def y_Reader_readQuestion : MethodName := ⟨"WalkFence$Reader", "readQuestion", "(LWalkFence$Slope;)Z"⟩
def M_Reader_readQuestion : MM := (5, prog_7_method_3_code, 3, some .boolean, false)
def y_WF_answer : MethodName := ⟨"WalkFence", "answer", "(I)J"⟩
def M_WF_answer : MM := (11, prog_1_method_44_code, 6, some .long, false)
def y_Walker_reckonQuestion : MethodName := ⟨"WalkFence$Walker", "reckonQuestion", "(LWalkFence$Slope;LWalkFence$Lay;I)I"⟩
def M_Walker_reckonQuestion : MM := (10, prog_12_method_8_code, 5, some .int, false)
def y_Math_max_JJ : MethodName := ⟨"java/lang/Math", "max", "(JJ)J"⟩
def M_Math_max_JJ : MM := (15, prog_16_method_66_code, 4, some .long, false)
def y_Math_min_JJ : MethodName := ⟨"java/lang/Math", "min", "(JJ)J"⟩
def M_Math_min_JJ : MM := (15, prog_16_method_70_code, 4, some .long, false)
def y_WF_image : MethodName := ⟨"WalkFence", "image", "()I"⟩
def M_WF_image : MM := (11, prog_1_method_31_code, 1, some .int, false)
def y_Image_write : MethodName := ⟨"WalkFence$Image", "write", "(LWalkFence$Lay;LWalkFence$Slope;)V"⟩
def M_Image_write : MM := (2, prog_4_method_2_code, 6, none, false)
def y_Image_add : MethodName := ⟨"WalkFence$Image", "add", "(I)V"⟩
def M_Image_add : MM := (2, prog_4_method_3_code, 2, none, false)
def y_WF_octet : MethodName := ⟨"WalkFence", "octet", "(I)I"⟩
def M_WF_octet : MM := (11, prog_1_method_32_code, 2, some .int, false)
def y_WF_on : MethodName := ⟨"WalkFence", "on", "()Z"⟩
def M_WF_on : MM := (11, prog_1_method_33_code, 2, some .boolean, false)
def y_Image_read : MethodName := ⟨"WalkFence$Image", "read", "(LWalkFence$Tape;LWalkFence$Slope;LWalkFence$Lay;)Z"⟩
def M_Image_read : MM := (2, prog_4_method_4_code, 9, some .boolean, false)
def y_Image_readPosts : MethodName := ⟨"WalkFence$Image", "readPosts", "(LWalkFence$Tape;LWalkFence$Slope;LWalkFence$Lay;I)Z"⟩
def M_Image_readPosts : MM := (2, prog_4_method_5_code, 9, some .boolean, false)
def y_Image_readFences : MethodName := ⟨"WalkFence$Image", "readFences", "(LWalkFence$Tape;LWalkFence$Slope;LWalkFence$Lay;I)Z"⟩
def M_Image_readFences : MM := (2, prog_4_method_6_code, 10, some .boolean, false)
def y_WF_status : MethodName := ⟨"WalkFence", "status", "(I)I"⟩
def M_WF_status : MM := (11, prog_1_method_34_code, 2, some .int, false)
def y_MD_init : MethodName := ⟨"WalkFenceModel", "<init>", "()V"⟩
def M_MD_init : MM := (12, prog_14_method_1_code, 1, none, true)
def y_MD_feed : MethodName := ⟨"WalkFenceModel", "feed", "(IIIII)I"⟩
def M_MD_feed : MM := (12, prog_14_method_3_code, 8, some .int, false)
def y_MD_end : MethodName := ⟨"WalkFenceModel", "end", "(I)Z"⟩
def M_MD_end : MM := (12, prog_14_method_4_code, 2, some .boolean, false)
def y_MD_slope : MethodName := ⟨"WalkFenceModel", "slope", "()I"⟩
def M_MD_slope : MM := (12, prog_14_method_26_code, 2, some .int, false)
def y_MD_slopeTold : MethodName := ⟨"WalkFenceModel", "slopeTold", "()V"⟩
def M_MD_slopeTold : MM := (12, prog_14_method_18_code, 1, none, false)
def y_MD_asks : MethodName := ⟨"WalkFenceModel", "asks", "([C)V"⟩
def M_MD_asks : MM := (12, prog_14_method_11_code, 2, none, false)
def y_MD_takes : MethodName := ⟨"WalkFenceModel", "takes", "([C)Z"⟩
def M_MD_takes : MM := (12, prog_14_method_10_code, 2, some .boolean, false)
def y_MD_isHere : MethodName := ⟨"WalkFenceModel", "isHere", "([C)Z"⟩
def M_MD_isHere : MM := (12, prog_14_method_9_code, 4, some .boolean, false)
def y_MD_look : MethodName := ⟨"WalkFenceModel", "look", "()I"⟩
def M_MD_look : MM := (12, prog_14_method_8_code, 1, some .int, false)
def y_MD_isLetter : MethodName := ⟨"WalkFenceModel", "isLetter", "(I)Z"⟩
def M_MD_isLetter : MM := (12, prog_14_method_6_code, 1, some .boolean, false)
def y_MD_fail : MethodName := ⟨"WalkFenceModel", "fail", "(II)V"⟩
def M_MD_fail : MM := (12, prog_14_method_5_code, 3, none, false)
def y_MD_number : MethodName := ⟨"WalkFenceModel", "number", "(II)I"⟩
def M_MD_number : MM := (12, prog_14_method_14_code, 5, some .int, false)
def y_MD_isDigit : MethodName := ⟨"WalkFenceModel", "isDigit", "(I)Z"⟩
def M_MD_isDigit : MM := (12, prog_14_method_7_code, 1, some .boolean, false)
def y_MD_isIn : MethodName := ⟨"WalkFenceModel", "isIn", "(JJJ)Z"⟩
def M_MD_isIn : MM := (12, prog_14_method_2_code, 6, some .boolean, false)
def y_MD_asksSign : MethodName := ⟨"WalkFenceModel", "asksSign", "(I)V"⟩
def M_MD_asksSign : MM := (12, prog_14_method_13_code, 2, none, false)
def y_MD_takesSign : MethodName := ⟨"WalkFenceModel", "takesSign", "(I)Z"⟩
def M_MD_takesSign : MM := (12, prog_14_method_12_code, 2, some .boolean, false)
def y_MD_statementTold : MethodName := ⟨"WalkFenceModel", "statementTold", "()V"⟩
def M_MD_statementTold : MM := (12, prog_14_method_25_code, 2, none, false)
def y_MD_steepTold : MethodName := ⟨"WalkFenceModel", "steepTold", "()V"⟩
def M_MD_steepTold : MM := (12, prog_14_method_20_code, 3, none, false)
def y_MD_ironTold : MethodName := ⟨"WalkFenceModel", "ironTold", "(I)V"⟩
def M_MD_ironTold : MM := (12, prog_14_method_21_code, 4, none, false)
def y_MD_fenceTold : MethodName := ⟨"WalkFenceModel", "fenceTold", "(I)V"⟩
def M_MD_fenceTold : MM := (12, prog_14_method_22_code, 8, none, false)
def y_MD_name : MethodName := ⟨"WalkFenceModel", "name", "()J"⟩
def M_MD_name : MM := (12, prog_14_method_16_code, 3, some .long, false)
def y_MD_isOwnHere : MethodName := ⟨"WalkFenceModel", "isOwnHere", "()Z"⟩
def M_MD_isOwnHere : MM := (12, prog_14_method_15_code, 2, some .boolean, false)
def y_MD_nameOf : MethodName := ⟨"WalkFenceModel", "nameOf", "(J)I"⟩
def M_MD_nameOf : MM := (12, prog_14_method_19_code, 4, some .int, false)
def y_MD_stakeTold : MethodName := ⟨"WalkFenceModel", "stakeTold", "()V"⟩
def M_MD_stakeTold : MM := (12, prog_14_method_23_code, 6, none, false)
def y_MD_codesTold : MethodName := ⟨"WalkFenceModel", "codesTold", "(II)V"⟩
def M_MD_codesTold : MM := (12, prog_14_method_24_code, 4, none, false)
def y_MD_qTest : MethodName := ⟨"WalkFenceModel", "qTest", "()V"⟩
def M_MD_qTest : MM := (12, prog_14_method_113_code, 3, none, false)
def y_MD_qOpens : MethodName := ⟨"WalkFenceModel", "qOpens", "(II)V"⟩
def M_MD_qOpens : MM := (12, prog_14_method_97_code, 3, none, false)
def y_MD_qFact : MethodName := ⟨"WalkFenceModel", "qFact", "()V"⟩
def M_MD_qFact : MM := (12, prog_14_method_110_code, 2, none, false)
def y_MD_qCode : MethodName := ⟨"WalkFenceModel", "qCode", "(I)V"⟩
def M_MD_qCode : MM := (12, prog_14_method_96_code, 2, none, false)
def y_MD_qSums : MethodName := ⟨"WalkFenceModel", "qSums", "()V"⟩
def M_MD_qSums : MM := (12, prog_14_method_109_code, 3, none, false)
def y_MD_qPartTold : MethodName := ⟨"WalkFenceModel", "qPartTold", "()V"⟩
def M_MD_qPartTold : MM := (12, prog_14_method_107_code, 6, none, false)
def y_MD_qWordOf : MethodName := ⟨"WalkFenceModel", "qWordOf", "(II)I"⟩
def M_MD_qWordOf : MM := (12, prog_14_method_104_code, 4, some .int, false)
def y_MD_qWordHere : MethodName := ⟨"WalkFenceModel", "qWordHere", "()I"⟩
def M_MD_qWordHere : MM := (12, prog_14_method_103_code, 1, some .int, false)
def y_MD_isAllowed : MethodName := ⟨"WalkFenceModel", "isAllowed", "(I)Z"⟩
def M_MD_isAllowed : MM := (12, prog_14_method_17_code, 2, some .boolean, false)
def y_MD_qAsksWord : MethodName := ⟨"WalkFenceModel", "qAsksWord", "(I)V"⟩
def M_MD_qAsksWord : MM := (12, prog_14_method_105_code, 2, none, false)
def y_MD_qEndsPart : MethodName := ⟨"WalkFenceModel", "qEndsPart", "()V"⟩
def M_MD_qEndsPart : MM := (12, prog_14_method_106_code, 1, none, false)
def y_MD_qDrops : MethodName := ⟨"WalkFenceModel", "qDrops", "()V"⟩
def M_MD_qDrops : MM := (12, prog_14_method_99_code, 1, none, false)
def y_MD_qGoesOn : MethodName := ⟨"WalkFenceModel", "qGoesOn", "()Z"⟩
def M_MD_qGoesOn : MM := (12, prog_14_method_108_code, 2, some .boolean, false)
def y_MD_qBracket : MethodName := ⟨"WalkFenceModel", "qBracket", "()I"⟩
def M_MD_qBracket : MM := (12, prog_14_method_101_code, 2, some .int, false)
def y_MD_qIsBracket : MethodName := ⟨"WalkFenceModel", "qIsBracket", "(I)Z"⟩
def M_MD_qIsBracket : MM := (12, prog_14_method_100_code, 1, some .boolean, false)
def y_MD_qDropsToBracket : MethodName := ⟨"WalkFenceModel", "qDropsToBracket", "()V"⟩
def M_MD_qDropsToBracket : MM := (12, prog_14_method_102_code, 1, none, false)
def y_MD_qIsOn : MethodName := ⟨"WalkFenceModel", "qIsOn", "(I)Z"⟩
def M_MD_qIsOn : MM := (12, prog_14_method_98_code, 2, some .boolean, false)
def y_MD_qDropsNots : MethodName := ⟨"WalkFenceModel", "qDropsNots", "()V"⟩
def M_MD_qDropsNots : MM := (12, prog_14_method_112_code, 1, none, false)
def y_MD_qGoesOnTest : MethodName := ⟨"WalkFenceModel", "qGoesOnTest", "()Z"⟩
def M_MD_qGoesOnTest : MM := (12, prog_14_method_114_code, 1, some .boolean, false)
def y_MD_qHasSquare : MethodName := ⟨"WalkFenceModel", "qHasSquare", "()Z"⟩
def M_MD_qHasSquare : MM := (12, prog_14_method_111_code, 2, some .boolean, false)
def y_MD_stands : MethodName := ⟨"WalkFenceModel", "stands", "()V"⟩
def M_MD_stands : MM := (12, prog_14_method_27_code, 3, none, false)
def y_MD_fault : MethodName := ⟨"WalkFenceModel", "fault", "(I)I"⟩
def M_MD_fault : MM := (12, prog_14_method_28_code, 2, some .int, false)
def y_MD_has : MethodName := ⟨"WalkFenceModel", "has", "(I)I"⟩
def M_MD_has : MM := (12, prog_14_method_59_code, 2, some .int, false)
def y_MD_fenceMany : MethodName := ⟨"WalkFenceModel", "fenceMany", "()I"⟩
def M_MD_fenceMany : MM := (12, prog_14_method_29_code, 1, some .int, false)
def y_MD_postMany : MethodName := ⟨"WalkFenceModel", "postMany", "()I"⟩
def M_MD_postMany : MM := (12, prog_14_method_39_code, 3, some .int, false)
def y_MD_bits : MethodName := ⟨"WalkFenceModel", "bits", "(I)I"⟩
def M_MD_bits : MM := (12, prog_14_method_38_code, 3, some .int, false)
def y_MD_leftAll : MethodName := ⟨"WalkFenceModel", "leftAll", "()I"⟩
def M_MD_leftAll : MM := (12, prog_14_method_57_code, 3, some .int, false)
def y_MD_leftOf : MethodName := ⟨"WalkFenceModel", "leftOf", "(I)I"⟩
def M_MD_leftOf : MM := (12, prog_14_method_40_code, 4, some .int, false)
def y_MD_rowOf : MethodName := ⟨"WalkFenceModel", "rowOf", "(II)I"⟩
def M_MD_rowOf : MM := (12, prog_14_method_35_code, 3, some .int, false)
def y_MD_cutSet : MethodName := ⟨"WalkFenceModel", "cutSet", "()I"⟩
def M_MD_cutSet : MM := (12, prog_14_method_58_code, 3, some .int, false)
def y_MD_isCut : MethodName := ⟨"WalkFenceModel", "isCut", "(I)Z"⟩
def M_MD_isCut : MM := (12, prog_14_method_34_code, 2, some .boolean, false)
def y_MD_fieldOf : MethodName := ⟨"WalkFenceModel", "fieldOf", "(I)I"⟩
def M_MD_fieldOf : MM := (12, prog_14_method_42_code, 5, some .int, false)
def y_MD_whoseIs : MethodName := ⟨"WalkFenceModel", "whoseIs", "(II)I"⟩
def M_MD_whoseIs : MM := (12, prog_14_method_41_code, 7, some .int, false)
def y_MD_letter : MethodName := ⟨"WalkFenceModel", "letter", "(II)I"⟩
def M_MD_letter : MM := (12, prog_14_method_60_code, 8, some .int, false)
def y_MD_isFence : MethodName := ⟨"WalkFenceModel", "isFence", "(I)Z"⟩
def M_MD_isFence : MM := (12, prog_14_method_30_code, 2, some .boolean, false)
def y_MD_place : MethodName := ⟨"WalkFenceModel", "place", "(III)I"⟩
def M_MD_place : MM := (12, prog_14_method_62_code, 4, some .int, false)
def y_MD_isPlace : MethodName := ⟨"WalkFenceModel", "isPlace", "(II)Z"⟩
def M_MD_isPlace : MM := (12, prog_14_method_32_code, 3, some .boolean, false)
def y_MD_isColumn : MethodName := ⟨"WalkFenceModel", "isColumn", "(I)Z"⟩
def M_MD_isColumn : MM := (12, prog_14_method_31_code, 2, some .boolean, false)
def y_MD_isPost : MethodName := ⟨"WalkFenceModel", "isPost", "(II)Z"⟩
def M_MD_isPost : MM := (12, prog_14_method_37_code, 3, some .boolean, false)
def y_MD_stakesAt : MethodName := ⟨"WalkFenceModel", "stakesAt", "(II)I"⟩
def M_MD_stakesAt : MM := (12, prog_14_method_61_code, 5, some .int, false)
def y_MD_fence : MethodName := ⟨"WalkFenceModel", "fence", "(II)I"⟩
def M_MD_fence : MM := (12, prog_14_method_63_code, 3, some .int, false)
def y_MD_ageOf : MethodName := ⟨"WalkFenceModel", "ageOf", "(I)I"⟩
def M_MD_ageOf : MM := (12, prog_14_method_33_code, 2, some .int, false)
def y_MD_stake : MethodName := ⟨"WalkFenceModel", "stake", "(II)I"⟩
def M_MD_stake : MM := (12, prog_14_method_64_code, 3, some .int, false)
def y_MD_walks : MethodName := ⟨"WalkFenceModel", "walks", "(II)I"⟩
def M_MD_walks : MM := (12, prog_14_method_65_code, 3, some .int, false)
def y_MD_walkOf : MethodName := ⟨"WalkFenceModel", "walkOf", "(II)I"⟩
def M_MD_walkOf : MM := (12, prog_14_method_45_code, 5, some .int, false)
def y_MD_codesTell : MethodName := ⟨"WalkFenceModel", "codesTell", "(II)J"⟩
def M_MD_codesTell : MM := (12, prog_14_method_44_code, 5, some .long, false)
def y_MD_qPuts : MethodName := ⟨"WalkFenceModel", "qPuts", "(J)V"⟩
def M_MD_qPuts : MM := (12, prog_14_method_117_code, 3, none, false)
def y_MD_qPartOf : MethodName := ⟨"WalkFenceModel", "qPartOf", "(II)J"⟩
def M_MD_qPartOf : MM := (12, prog_14_method_119_code, 3, some .long, false)
def y_MD_qJoins : MethodName := ⟨"WalkFenceModel", "qJoins", "(I)V"⟩
def M_MD_qJoins : MM := (12, prog_14_method_118_code, 6, none, false)
def y_MD_qClip : MethodName := ⟨"WalkFenceModel", "qClip", "(J)J"⟩
def M_MD_qClip : MM := (12, prog_14_method_115_code, 2, some .long, false)
def y_MD_qFloor : MethodName := ⟨"WalkFenceModel", "qFloor", "(JJ)J"⟩
def M_MD_qFloor : MM := (12, prog_14_method_116_code, 6, some .long, false)
def y_MD_kept : MethodName := ⟨"WalkFenceModel", "kept", "(II)I"⟩
def M_MD_kept : MM := (12, prog_14_method_66_code, 3, some .int, false)
def y_MD_later : MethodName := ⟨"WalkFenceModel", "later", "(III)I"⟩
def M_MD_later : MM := (12, prog_14_method_67_code, 5, some .int, false)
def y_MD_isAhead : MethodName := ⟨"WalkFenceModel", "isAhead", "(III)Z"⟩
def M_MD_isAhead : MM := (12, prog_14_method_56_code, 4, some .boolean, false)
def y_MD_putsAside : MethodName := ⟨"WalkFenceModel", "putsAside", "()V"⟩
def M_MD_putsAside : MM := (12, prog_14_method_53_code, 2, none, false)
def y_MD_yearsGo : MethodName := ⟨"WalkFenceModel", "yearsGo", "(I)V"⟩
def M_MD_yearsGo : MM := (12, prog_14_method_52_code, 3, none, false)
def y_MD_yearGoes : MethodName := ⟨"WalkFenceModel", "yearGoes", "()V"⟩
def M_MD_yearGoes : MM := (12, prog_14_method_51_code, 3, none, false)
def y_MD_stakeWalks : MethodName := ⟨"WalkFenceModel", "stakeWalks", "(III)V"⟩
def M_MD_stakeWalks : MM := (12, prog_14_method_48_code, 6, none, false)
def y_MD_isGone : MethodName := ⟨"WalkFenceModel", "isGone", "(II)V"⟩
def M_MD_isGone : MM := (12, prog_14_method_47_code, 3, none, false)
def y_MD_rowIs : MethodName := ⟨"WalkFenceModel", "rowIs", "(III)V"⟩
def M_MD_rowIs : MM := (12, prog_14_method_36_code, 4, none, false)
def y_MD_isKept : MethodName := ⟨"WalkFenceModel", "isKept", "(II)V"⟩
def M_MD_isKept : MM := (12, prog_14_method_46_code, 4, none, false)
def y_MD_doesRoot : MethodName := ⟨"WalkFenceModel", "doesRoot", "(I)Z"⟩
def M_MD_doesRoot : MM := (12, prog_14_method_50_code, 2, some .boolean, false)
def y_MD_isSet : MethodName := ⟨"WalkFenceModel", "isSet", "(I)V"⟩
def M_MD_isSet : MM := (12, prog_14_method_49_code, 3, none, false)
def y_MD_takesBack : MethodName := ⟨"WalkFenceModel", "takesBack", "()V"⟩
def M_MD_takesBack : MM := (12, prog_14_method_55_code, 1, none, false)
def y_MD_triesAnew : MethodName := ⟨"WalkFenceModel", "triesAnew", "()V"⟩
def M_MD_triesAnew : MM := (12, prog_14_method_54_code, 2, none, false)
def y_MD_whose : MethodName := ⟨"WalkFenceModel", "whose", "(III)I"⟩
def M_MD_whose : MM := (12, prog_14_method_68_code, 5, some .int, false)
def y_MD_meets : MethodName := ⟨"WalkFenceModel", "meets", "(II)I"⟩
def M_MD_meets : MM := (12, prog_14_method_71_code, 5, some .int, false)
def y_MD_areTwo : MethodName := ⟨"WalkFenceModel", "areTwo", "(II)Z"⟩
def M_MD_areTwo : MM := (12, prog_14_method_70_code, 3, some .boolean, false)
def y_MD_doMeet : MethodName := ⟨"WalkFenceModel", "doMeet", "(II)Z"⟩
def M_MD_doMeet : MM := (12, prog_14_method_69_code, 4, some .boolean, false)
def y_MD_below : MethodName := ⟨"WalkFenceModel", "below", "(II)I"⟩
def M_MD_below : MM := (12, prog_14_method_72_code, 3, some .int, false)
def y_MD_belows : MethodName := ⟨"WalkFenceModel", "belows", "(II)I"⟩
def M_MD_belows : MM := (12, prog_14_method_43_code, 5, some .int, false)
def y_MD_sets : MethodName := ⟨"WalkFenceModel", "sets", "(III)I"⟩
def M_MD_sets : MM := (12, prog_14_method_74_code, 8, some .int, false)
def y_MD_leastField : MethodName := ⟨"WalkFenceModel", "leastField", "(III)I"⟩
def M_MD_leastField : MM := (12, prog_14_method_73_code, 7, some .int, false)
def y_MD_irons : MethodName := ⟨"WalkFenceModel", "irons", "(III)I"⟩
def M_MD_irons : MM := (12, prog_14_method_75_code, 10, some .int, false)
def y_MD_rest : MethodName := ⟨"WalkFenceModel", "rest", "(I)I"⟩
def M_MD_rest : MM := (12, prog_14_method_78_code, 4, some .int, false)
def y_MD_laysFields : MethodName := ⟨"WalkFenceModel", "laysFields", "(I)V"⟩
def M_MD_laysFields : MM := (12, prog_14_method_76_code, 4, none, false)
def y_MD_isRest : MethodName := ⟨"WalkFenceModel", "isRest", "(I)Z"⟩
def M_MD_isRest : MM := (12, prog_14_method_77_code, 3, some .boolean, false)
def y_MD_see : MethodName := ⟨"WalkFenceModel", "see", "()I"⟩
def M_MD_see : MM := (12, prog_14_method_80_code, 4, some .int, false)
def y_MD_refuses : MethodName := ⟨"WalkFenceModel", "refuses", "(I)I"⟩
def M_MD_refuses : MM := (12, prog_14_method_79_code, 2, some .int, false)
def y_MD_fits : MethodName := ⟨"WalkFenceModel", "fits", "(I)I"⟩
def M_MD_fits : MM := (12, prog_14_method_83_code, 5, some .int, false)
def y_MD_laysFits : MethodName := ⟨"WalkFenceModel", "laysFits", "()V"⟩
def M_MD_laysFits : MM := (12, prog_14_method_82_code, 4, none, false)
def y_MD_isAsSeen : MethodName := ⟨"WalkFenceModel", "isAsSeen", "()Z"⟩
def M_MD_isAsSeen : MM := (12, prog_14_method_81_code, 2, some .boolean, false)
def y_MD_tells : MethodName := ⟨"WalkFenceModel", "tells", "(I)I"⟩
def M_MD_tells : MM := (12, prog_14_method_85_code, 8, some .int, false)
def y_MD_mostAlike : MethodName := ⟨"WalkFenceModel", "mostAlike", "(II)I"⟩
def M_MD_mostAlike : MM := (12, prog_14_method_84_code, 6, some .int, false)
def y_MD_undo : MethodName := ⟨"WalkFenceModel", "undo", "()Z"⟩
def M_MD_undo : MM := (12, prog_14_method_87_code, 2, some .boolean, false)
def y_MD_set : MethodName := ⟨"WalkFenceModel", "set", "(I)Z"⟩
def M_MD_set : MM := (12, prog_14_method_89_code, 2, some .boolean, false)
def y_MD_isRefused : MethodName := ⟨"WalkFenceModel", "isRefused", "()Z"⟩
def M_MD_isRefused : MM := (12, prog_14_method_88_code, 1, some .boolean, false)
def y_MD_keeps : MethodName := ⟨"WalkFenceModel", "keeps", "()V"⟩
def M_MD_keeps : MM := (12, prog_14_method_86_code, 2, none, false)
def y_MD_cut : MethodName := ⟨"WalkFenceModel", "cut", "(I)Z"⟩
def M_MD_cut : MM := (12, prog_14_method_90_code, 2, some .boolean, false)
def y_MD_iron : MethodName := ⟨"WalkFenceModel", "iron", "(II)I"⟩
def M_MD_iron : MM := (12, prog_14_method_91_code, 3, some .int, false)
def y_MD_years : MethodName := ⟨"WalkFenceModel", "years", "(I)I"⟩
def M_MD_years : MM := (12, prog_14_method_92_code, 2, some .int, false)
def y_MD_seed : MethodName := ⟨"WalkFenceModel", "seed", "(I)Z"⟩
def M_MD_seed : MM := (12, prog_14_method_93_code, 2, some .boolean, false)
def y_MD_chance : MethodName := ⟨"WalkFenceModel", "chance", "(I)I"⟩
def M_MD_chance : MM := (12, prog_14_method_95_code, 6, some .int, false)
def y_MD_drawOf : MethodName := ⟨"WalkFenceModel", "drawOf", "(I)I"⟩
def M_MD_drawOf : MM := (12, prog_14_method_94_code, 2, some .int, false)
def y_MD_ask : MethodName := ⟨"WalkFenceModel", "ask", "()J"⟩
def M_MD_ask : MM := (12, prog_14_method_124_code, 3, some .long, false)
def y_MD_qKind : MethodName := ⟨"WalkFenceModel", "qKind", "()I"⟩
def M_MD_qKind : MM := (12, prog_14_method_122_code, 2, some .int, false)
def y_MD_qTold : MethodName := ⟨"WalkFenceModel", "qTold", "(I)J"⟩
def M_MD_qTold : MM := (12, prog_14_method_121_code, 4, some .long, false)
def y_MD_qOf : MethodName := ⟨"WalkFenceModel", "qOf", "(IJI)J"⟩
def M_MD_qOf : MM := (12, prog_14_method_120_code, 5, some .long, false)
def y_MD_qTakes : MethodName := ⟨"WalkFenceModel", "qTakes", "(IJI)V"⟩
def M_MD_qTakes : MM := (12, prog_14_method_123_code, 6, none, false)
def y_MD_image : MethodName := ⟨"WalkFenceModel", "image", "()I"⟩
def M_MD_image : MM := (12, prog_14_method_127_code, 3, some .int, false)
def y_MD_writes : MethodName := ⟨"WalkFenceModel", "writes", "(I)V"⟩
def M_MD_writes : MM := (12, prog_14_method_126_code, 2, none, false)
def y_MD_checked : MethodName := ⟨"WalkFenceModel", "checked", "([II)I"⟩
def M_MD_checked : MM := (12, prog_14_method_125_code, 4, some .int, false)
def y_MD_octet : MethodName := ⟨"WalkFenceModel", "octet", "(I)I"⟩
def M_MD_octet : MM := (12, prog_14_method_128_code, 2, some .int, false)
def y_MD_on : MethodName := ⟨"WalkFenceModel", "on", "()Z"⟩
def M_MD_on : MM := (12, prog_14_method_132_code, 6, some .boolean, false)
def y_MD_isImage : MethodName := ⟨"WalkFenceModel", "isImage", "(I)Z"⟩
def M_MD_isImage : MM := (12, prog_14_method_131_code, 4, some .boolean, false)
def y_MD_arePostsTold : MethodName := ⟨"WalkFenceModel", "arePostsTold", "(I)Z"⟩
def M_MD_arePostsTold : MM := (12, prog_14_method_129_code, 4, some .boolean, false)
def y_MD_isFenceTold : MethodName := ⟨"WalkFenceModel", "isFenceTold", "(I)Z"⟩
def M_MD_isFenceTold : MM := (12, prog_14_method_130_code, 3, some .boolean, false)
def y_MD_status : MethodName := ⟨"WalkFenceModel", "status", "(I)I"⟩
def M_MD_status : MM := (12, prog_14_method_133_code, 2, some .int, false)
def wl_0 : List Cond := [Cond.initialized "WalkFence$Foresight", Cond.initialized "WalkFence$History", Cond.initialized "WalkFence$Image", Cond.initialized "WalkFence$Lay", Cond.initialized "WalkFence$Log", Cond.initialized "WalkFence$Reader", Cond.initialized "WalkFence$Reckoner", Cond.initialized "WalkFence$Seen", Cond.initialized "WalkFence$Slope", Cond.initialized "WalkFence$Tape", Cond.initialized "WalkFence$Walker", Cond.initialized "WalkFence", Cond.initialized "WalkFenceModel", Cond.initialized "WalkFenceLaw", Cond.initialized "java/lang/Integer", Cond.initialized "java/lang/Math", Cond.initialized "java/util/Arrays", Cond.initialized "java/lang/System", Cond.initialized "java/lang/String", Cond.initialized "java/lang/StringLatin1"]
set_option maxRecDepth 100000 in
theorem wl_0_ok : ∀ w ∈ wl_0, w ∈ tw := tw_qs [152, 154, 156, 147, 153, 149, 151, 155, 146, 145, 150, 144, 157, 143, 162, 164, 148, 163, 158, 159] (by decide +kernel) (by decide +kernel)
def wl_1 : List Cond := [Cond.classLink "WalkFence" 9 "WalkFence$Tape", Cond.classLink "WalkFence" 16 "WalkFence$Slope", Cond.classLink "WalkFence" 26 "WalkFence$Reader", Cond.classLink "WalkFence" 35 "WalkFence$Lay", Cond.classLink "WalkFence" 42 "WalkFence$Walker", Cond.classLink "WalkFence" 51 "WalkFence$Foresight", Cond.classLink "WalkFence" 60 "WalkFence$Log", Cond.classLink "WalkFence" 67 "WalkFence$History", Cond.classLink "WalkFence" 74 "WalkFence$Seen", Cond.classLink "WalkFence" 81 "WalkFence$Image", Cond.classLink "WalkFence$Foresight" 9 "WalkFence$Lay", Cond.classLink "WalkFence$History" 9 "WalkFence$Lay", Cond.classLink "WalkFence$History" 17 "WalkFence$Log", Cond.classLink "WalkFence$Slope" 18 "WalkFence$Lay", Cond.classLink "WalkFence$Walker" 9 "WalkFence$Reckoner", Cond.classLink "WalkFenceLaw" 7 "WalkFence", Cond.classLink "WalkFenceLaw" 10 "WalkFenceModel", Cond.instantiable "WalkFence$Foresight" 18, Cond.instantiable "WalkFence$History" 4, Cond.instantiable "WalkFence$Image" 2]
set_option maxRecDepth 100000 in
theorem wl_1_ok : ∀ w ∈ wl_1, w ∈ tw := tw_qs [173, 192, 306, 355, 357, 394, 467, 484, 510, 530, 400, 490, 492, 198, 363, 165, 1298, 395, 485, 531] (by decide +kernel) (by decide +kernel)
def wl_2 : List Cond := [Cond.instantiable "WalkFence$Lay" 5, Cond.instantiable "WalkFence$Log" 3, Cond.instantiable "WalkFence$Reader" 13, Cond.instantiable "WalkFence$Reckoner" 4, Cond.instantiable "WalkFence$Seen" 4, Cond.instantiable "WalkFence$Slope" 13, Cond.instantiable "WalkFence$Tape" 2, Cond.instantiable "WalkFence$Walker" 2, Cond.instantiable "WalkFence" 13, Cond.instantiable "WalkFenceModel" 103, Cond.arrayClass .int, Cond.arrayClass .long, Cond.arrayClass .byte, Cond.arrayClass .char, Cond.arrayClass .boolean, Cond.instanceMethod y_WF_init, Cond.instanceMethod y_Tape_init, Cond.instanceMethod y_Slope_init, Cond.instanceMethod y_Lay_init, Cond.static y_Arrays_fill]
set_option maxRecDepth 100000 in
theorem wl_2_ok : ∀ w ∈ wl_2, w ∈ tw := tw_qs [199, 468, 307, 364, 511, 193, 174, 358, 166, 1299, 231, 1615, 191, 1614, 1616, 168, 176, 195, 201, 205] (by decide +kernel) (by decide +kernel)
def wl_3 : List Cond := [Cond.instanceMethod y_Reader_init, Cond.instanceMethod y_Walker_init, Cond.instanceMethod y_Reckoner_init, Cond.instanceMethod y_Foresight_init, Cond.instanceMethod y_Log_init, Cond.instanceMethod y_History_init, Cond.instanceMethod y_Seen_init, Cond.instanceMethod y_Image_init, Cond.instanceMethod y_WF_feed, Cond.selects "WalkFence" y_WF_feed y_WF_feed, Cond.instanceMethod y_WF_refuse, Cond.selects "WalkFence" y_WF_refuse y_WF_refuse, Cond.instanceMethod y_Tape_append, Cond.selects "WalkFence$Tape" y_Tape_append y_Tape_append, Cond.instanceMethod y_WF_end, Cond.selects "WalkFence" y_WF_end y_WF_end, Cond.instanceMethod y_WF_slope, Cond.selects "WalkFence" y_WF_slope y_WF_slope, Cond.instanceMethod y_Reader_readSlope, Cond.selects "WalkFence$Reader" y_Reader_readSlope y_Reader_readSlope]
set_option maxRecDepth 100000 in
theorem wl_3_ok : ∀ w ∈ wl_3, w ∈ tw := tw_qs [309, 360, 366, 397, 470, 487, 513, 533, 586, 587, 591, 0, 594, 595, 598, 599, 602, 603, 606, 607] (by decide +kernel) (by decide +kernel)
def wl_4 : List Cond := [Cond.instanceMethod y_Reader_begin, Cond.selects "WalkFence$Reader" y_Reader_begin y_Reader_begin, Cond.instanceMethod y_Reader_advance, Cond.selects "WalkFence$Reader" y_Reader_advance y_Reader_advance, Cond.instanceMethod y_Tape_byteAt, Cond.selects "WalkFence$Tape" y_Tape_byteAt y_Tape_byteAt, Cond.static y_Reader_isBlank, Cond.static y_Reader_isLetter, Cond.instanceMethod y_Reader_wordNumber, Cond.selects "WalkFence$Reader" y_Reader_wordNumber y_Reader_wordNumber, Cond.static y_Reader_isDigit, Cond.instanceMethod y_Slope_clear, Cond.selects "WalkFence$Slope" y_Slope_clear y_Slope_clear, Cond.instanceMethod y_Lay_clear, Cond.selects "WalkFence$Lay" y_Lay_clear y_Lay_clear, Cond.instanceMethod y_Reader_slopeLine, Cond.selects "WalkFence$Reader" y_Reader_slopeLine y_Reader_slopeLine, Cond.instanceMethod y_Reader_needWord, Cond.selects "WalkFence$Reader" y_Reader_needWord y_Reader_needWord, Cond.instanceMethod y_Reader_isWord]
set_option maxRecDepth 100000 in
theorem wl_4_ok : ∀ w ∈ wl_4, w ∈ tw := tw_qs [611, 1, 615, 2, 618, 619, 622, 625, 629, 3, 681, 684, 685, 688, 689, 694, 4, 698, 5, 702] (by decide +kernel) (by decide +kernel)
def wl_5 : List Cond := [Cond.selects "WalkFence$Reader" y_Reader_isWord y_Reader_isWord, Cond.instanceMethod y_Reader_wrong, Cond.selects "WalkFence$Reader" y_Reader_wrong y_Reader_wrong, Cond.instanceMethod y_Reader_number, Cond.selects "WalkFence$Reader" y_Reader_number y_Reader_number, Cond.instanceMethod y_Reader_need, Cond.selects "WalkFence$Reader" y_Reader_need y_Reader_need, Cond.instanceMethod y_Reader_steepLine, Cond.selects "WalkFence$Reader" y_Reader_steepLine y_Reader_steepLine, Cond.instanceMethod y_Reader_ironLine, Cond.selects "WalkFence$Reader" y_Reader_ironLine y_Reader_ironLine, Cond.instanceMethod y_Lay_countPosts, Cond.selects "WalkFence$Lay" y_Lay_countPosts y_Lay_countPosts, Cond.static y_Integer_bitCount, Cond.instanceMethod y_Lay_hasPost, Cond.selects "WalkFence$Lay" y_Lay_hasPost y_Lay_hasPost, Cond.instanceMethod y_Lay_postsOf, Cond.selects "WalkFence$Lay" y_Lay_postsOf y_Lay_postsOf, Cond.instanceMethod y_Lay_drive, Cond.selects "WalkFence$Lay" y_Lay_drive y_Lay_drive]
set_option maxRecDepth 100000 in
theorem wl_5_ok : ∀ w ∈ wl_5, w ∈ tw := tw_qs [6, 706, 7, 710, 8, 714, 9, 718, 10, 722, 11, 725, 726, 729, 735, 736, 739, 740, 743, 744] (by decide +kernel) (by decide +kernel)
def wl_6 : List Cond := [Cond.instanceMethod y_Reader_fenceLine, Cond.selects "WalkFence$Reader" y_Reader_fenceLine y_Reader_fenceLine, Cond.instanceMethod y_Reader_name, Cond.selects "WalkFence$Reader" y_Reader_name y_Reader_name, Cond.instanceMethod y_Reader_named, Cond.selects "WalkFence$Reader" y_Reader_named y_Reader_named, Cond.instanceMethod y_Reader_letterAt, Cond.selects "WalkFence$Reader" y_Reader_letterAt y_Reader_letterAt, Cond.instanceMethod y_Lay_putStake, Cond.selects "WalkFence$Lay" y_Lay_putStake y_Lay_putStake, Cond.static y_Lay_isStake, Cond.instanceMethod y_Lay_putAge, Cond.selects "WalkFence$Lay" y_Lay_putAge y_Lay_putAge, Cond.instanceMethod y_Reader_stakeLine, Cond.selects "WalkFence$Reader" y_Reader_stakeLine y_Reader_stakeLine, Cond.instanceMethod y_Reader_walksLine, Cond.selects "WalkFence$Reader" y_Reader_walksLine y_Reader_walksLine, Cond.instanceMethod y_Reader_sum, Cond.selects "WalkFence$Reader" y_Reader_sum y_Reader_sum, Cond.instanceMethod y_Reader_product]
set_option maxRecDepth 100000 in
theorem wl_6_ok : ∀ w ∈ wl_6, w ∈ tw := tw_qs [748, 12, 752, 13, 756, 14, 760, 15, 763, 764, 767, 770, 771, 775, 16, 779, 17, 783, 18, 787] (by decide +kernel) (by decide +kernel)
def wl_7 : List Cond := [Cond.selects "WalkFence$Reader" y_Reader_product y_Reader_product, Cond.instanceMethod y_Reader_part, Cond.selects "WalkFence$Reader" y_Reader_part y_Reader_part, Cond.instanceMethod y_Reader_emit, Cond.selects "WalkFence$Reader" y_Reader_emit y_Reader_emit, Cond.instanceMethod y_Reader_opens, Cond.selects "WalkFence$Reader" y_Reader_opens y_Reader_opens, Cond.instanceMethod y_Reader_rootsLine, Cond.selects "WalkFence$Reader" y_Reader_rootsLine y_Reader_rootsLine, Cond.instanceMethod y_Reader_test, Cond.selects "WalkFence$Reader" y_Reader_test y_Reader_test, Cond.instanceMethod y_Reader_both, Cond.selects "WalkFence$Reader" y_Reader_both y_Reader_both, Cond.instanceMethod y_Reader_fact, Cond.selects "WalkFence$Reader" y_Reader_fact y_Reader_fact, Cond.instanceMethod y_Reader_tideLine, Cond.selects "WalkFence$Reader" y_Reader_tideLine y_Reader_tideLine, Cond.instanceMethod y_WF_beginAnew, Cond.selects "WalkFence" y_WF_beginAnew y_WF_beginAnew, Cond.instanceMethod y_Lay_takeFrom]
set_option maxRecDepth 100000 in
theorem wl_7_ok : ∀ w ∈ wl_7, w ∈ tw := tw_qs [19, 791, 20, 795, 21, 799, 22, 803, 23, 807, 24, 811, 25, 815, 26, 819, 27, 823, 28, 826] (by decide +kernel) (by decide +kernel)
def wl_8 : List Cond := [Cond.selects "WalkFence$Lay" y_Lay_takeFrom y_Lay_takeFrom, Cond.instanceMethod y_Log_clear, Cond.selects "WalkFence$Log" y_Log_clear y_Log_clear, Cond.instanceMethod y_History_clear, Cond.selects "WalkFence$History" y_History_clear y_History_clear, Cond.instanceMethod y_Foresight_forget, Cond.selects "WalkFence$Foresight" y_Foresight_forget y_Foresight_forget, Cond.instanceMethod y_WF_fault, Cond.selects "WalkFence" y_WF_fault y_WF_fault, Cond.instanceMethod y_WF_has, Cond.selects "WalkFence" y_WF_has y_WF_has, Cond.instanceMethod y_WF_countStakes, Cond.selects "WalkFence" y_WF_countStakes y_WF_countStakes, Cond.instanceMethod y_Lay_leftOf, Cond.selects "WalkFence$Lay" y_Lay_leftOf y_Lay_leftOf, Cond.instanceMethod y_Lay_rowOf, Cond.selects "WalkFence$Lay" y_Lay_rowOf y_Lay_rowOf, Cond.instanceMethod y_WF_countMoor, Cond.selects "WalkFence" y_WF_countMoor y_WF_countMoor, Cond.instanceMethod y_Lay_fieldOf]
set_option maxRecDepth 100000 in
theorem wl_8_ok : ∀ w ∈ wl_8, w ∈ tw := tw_qs [827, 833, 834, 837, 838, 841, 842, 845, 846, 849, 850, 855, 29, 858, 859, 862, 863, 868, 30, 871] (by decide +kernel) (by decide +kernel)
def wl_9 : List Cond := [Cond.selects "WalkFence$Lay" y_Lay_fieldOf y_Lay_fieldOf, Cond.instanceMethod y_Lay_fieldIn, Cond.selects "WalkFence$Lay" y_Lay_fieldIn y_Lay_fieldIn, Cond.instanceMethod y_WF_letter, Cond.selects "WalkFence" y_WF_letter y_WF_letter, Cond.instanceMethod y_Slope_hasFence, Cond.selects "WalkFence$Slope" y_Slope_hasFence y_Slope_hasFence, Cond.instanceMethod y_WF_place, Cond.selects "WalkFence" y_WF_place y_WF_place, Cond.instanceMethod y_Slope_hasPlace, Cond.selects "WalkFence$Slope" y_Slope_hasPlace y_Slope_hasPlace, Cond.instanceMethod y_Lay_ownerOf, Cond.selects "WalkFence$Lay" y_Lay_ownerOf y_Lay_ownerOf, Cond.instanceMethod y_Lay_stakesAt, Cond.selects "WalkFence$Lay" y_Lay_stakesAt y_Lay_stakesAt, Cond.instanceMethod y_WF_fence, Cond.selects "WalkFence" y_WF_fence y_WF_fence, Cond.instanceMethod y_Lay_isCut, Cond.selects "WalkFence$Lay" y_Lay_isCut y_Lay_isCut, Cond.instanceMethod y_WF_stake]
set_option maxRecDepth 100000 in
theorem wl_9_ok : ∀ w ∈ wl_9, w ∈ tw := tw_qs [872, 876, 31, 879, 880, 883, 884, 887, 888, 891, 892, 895, 896, 900, 901, 904, 905, 908, 909, 912] (by decide +kernel) (by decide +kernel)
def wl_10 : List Cond := [Cond.selects "WalkFence" y_WF_stake y_WF_stake, Cond.instanceMethod y_WF_walks, Cond.selects "WalkFence" y_WF_walks y_WF_walks, Cond.instanceMethod y_Walker_face, Cond.selects "WalkFence$Walker" y_Walker_face y_Walker_face, Cond.instanceMethod y_Lay_ageOf, Cond.selects "WalkFence$Lay" y_Lay_ageOf y_Lay_ageOf, Cond.instanceMethod y_Walker_paces, Cond.selects "WalkFence$Walker" y_Walker_paces y_Walker_paces, Cond.instanceMethod y_Slope_steepOf, Cond.selects "WalkFence$Slope" y_Slope_steepOf y_Slope_steepOf, Cond.instanceMethod y_Reckoner_run, Cond.selects "WalkFence$Reckoner" y_Reckoner_run y_Reckoner_run, Cond.static y_Math_max_II, Cond.instanceMethod y_Reckoner_single, Cond.selects "WalkFence$Reckoner" y_Reckoner_single y_Reckoner_single, Cond.static y_Reckoner_pair, Cond.static y_Math_floorDiv, Cond.static y_Math_min_II, Cond.instanceMethod y_Reckoner_partOf]
set_option maxRecDepth 100000 in
theorem wl_10_ok : ∀ w ∈ wl_10, w ∈ tw := tw_qs [913, 917, 918, 921, 922, 925, 926, 929, 930, 933, 934, 937, 938, 941, 945, 32, 948, 951, 954, 962] (by decide +kernel) (by decide +kernel)
def wl_11 : List Cond := [Cond.selects "WalkFence$Reckoner" y_Reckoner_partOf y_Reckoner_partOf, Cond.instanceMethod y_WF_kept, Cond.selects "WalkFence" y_WF_kept y_WF_kept, Cond.instanceMethod y_Log_tell, Cond.selects "WalkFence$Log" y_Log_tell y_Log_tell, Cond.instanceMethod y_WF_later, Cond.selects "WalkFence" y_WF_later y_WF_later, Cond.instanceMethod y_WF_yearsAtMost, Cond.selects "WalkFence" y_WF_yearsAtMost y_WF_yearsAtMost, Cond.instanceMethod y_Foresight_goAhead, Cond.selects "WalkFence$Foresight" y_Foresight_goAhead y_Foresight_goAhead, Cond.instanceMethod y_Foresight_passYears, Cond.selects "WalkFence$Foresight" y_Foresight_passYears y_Foresight_passYears, Cond.instanceMethod y_Walker_passYear, Cond.selects "WalkFence$Walker" y_Walker_passYear y_Walker_passYear, Cond.instanceMethod y_Walker_walkFence, Cond.selects "WalkFence$Walker" y_Walker_walkFence y_Walker_walkFence, Cond.instanceMethod y_Walker_landing, Cond.selects "WalkFence$Walker" y_Walker_landing y_Walker_landing, Cond.static y_Integer_numberOfTrailingZeros]
set_option maxRecDepth 100000 in
theorem wl_11_ok : ∀ w ∈ wl_11, w ∈ tw := tw_qs [33, 967, 968, 971, 972, 975, 976, 980, 34, 984, 985, 990, 35, 993, 994, 999, 36, 1007, 37, 1010] (by decide +kernel) (by decide +kernel)
def wl_12 : List Cond := [Cond.instanceMethod y_Log_note, Cond.selects "WalkFence$Log" y_Log_note y_Log_note, Cond.instanceMethod y_Walker_rootsAgain, Cond.selects "WalkFence$Walker" y_Walker_rootsAgain y_Walker_rootsAgain, Cond.instanceMethod y_Lay_plant, Cond.selects "WalkFence$Lay" y_Lay_plant y_Lay_plant, Cond.instanceMethod y_WF_whose, Cond.selects "WalkFence" y_WF_whose y_WF_whose, Cond.instanceMethod y_WF_meets, Cond.selects "WalkFence" y_WF_meets y_WF_meets, Cond.instanceMethod y_WF_areTwoFences, Cond.selects "WalkFence" y_WF_areTwoFences y_WF_areTwoFences, Cond.instanceMethod y_Foresight_firstMeeting, Cond.selects "WalkFence$Foresight" y_Foresight_firstMeeting y_Foresight_firstMeeting, Cond.instanceMethod y_Lay_meetSomewhere, Cond.selects "WalkFence$Lay" y_Lay_meetSomewhere y_Lay_meetSomewhere, Cond.instanceMethod y_WF_below, Cond.selects "WalkFence" y_WF_below y_WF_below, Cond.instanceMethod y_Lay_columnsBelow, Cond.selects "WalkFence$Lay" y_Lay_columnsBelow y_Lay_columnsBelow]
set_option maxRecDepth 100000 in
theorem wl_12_ok : ∀ w ∈ wl_12, w ∈ tw := tw_qs [1015, 1016, 1021, 38, 1025, 1026, 1031, 1032, 1035, 1036, 1040, 39, 1043, 1044, 1047, 1048, 1051, 1052, 1055, 1056] (by decide +kernel) (by decide +kernel)
def wl_13 : List Cond := [Cond.instanceMethod y_WF_sets, Cond.selects "WalkFence" y_WF_sets y_WF_sets, Cond.instanceMethod y_Foresight_leastField, Cond.selects "WalkFence$Foresight" y_Foresight_leastField y_Foresight_leastField, Cond.instanceMethod y_WF_irons, Cond.selects "WalkFence" y_WF_irons y_WF_irons, Cond.instanceMethod y_Foresight_findIron, Cond.selects "WalkFence$Foresight" y_Foresight_findIron y_Foresight_findIron, Cond.instanceMethod y_Foresight_tread, Cond.selects "WalkFence$Foresight" y_Foresight_tread y_Foresight_tread, Cond.instanceMethod y_Foresight_treadBy, Cond.selects "WalkFence$Foresight" y_Foresight_treadBy y_Foresight_treadBy, Cond.instanceMethod y_Foresight_tryIron, Cond.selects "WalkFence$Foresight" y_Foresight_tryIron y_Foresight_tryIron, Cond.instanceMethod y_WF_rest, Cond.selects "WalkFence" y_WF_rest y_WF_rest, Cond.instanceMethod y_Slope_isTold, Cond.selects "WalkFence$Slope" y_Slope_isTold y_Slope_isTold, Cond.instanceMethod y_Foresight_findRest, Cond.selects "WalkFence$Foresight" y_Foresight_findRest y_Foresight_findRest]
set_option maxRecDepth 100000 in
theorem wl_13_ok : ∀ w ∈ wl_13, w ∈ tw := tw_qs [1059, 1060, 1063, 1064, 1070, 1071, 1074, 1075, 1079, 40, 1084, 41, 1092, 42, 1096, 1097, 1100, 1101, 1104, 1105] (by decide +kernel) (by decide +kernel)
def wl_14 : List Cond := [Cond.instanceMethod y_Foresight_isAtRest, Cond.selects "WalkFence$Foresight" y_Foresight_isAtRest y_Foresight_isAtRest, Cond.instanceMethod y_Lay_takeStakes, Cond.selects "WalkFence$Lay" y_Lay_takeStakes y_Lay_takeStakes, Cond.instanceMethod y_WF_see, Cond.selects "WalkFence" y_WF_see y_WF_see, Cond.instanceMethod y_Seen_readFrom, Cond.selects "WalkFence$Seen" y_Seen_readFrom y_Seen_readFrom, Cond.instanceMethod y_WF_fits, Cond.selects "WalkFence" y_WF_fits y_WF_fits, Cond.instanceMethod y_Foresight_findFits, Cond.selects "WalkFence$Foresight" y_Foresight_findFits y_Foresight_findFits, Cond.instanceMethod y_Seen_isSo, Cond.selects "WalkFence$Seen" y_Seen_isSo y_Seen_isSo, Cond.instanceMethod y_Foresight_countOwners, Cond.selects "WalkFence$Foresight" y_Foresight_countOwners y_Foresight_countOwners, Cond.instanceMethod y_WF_tells, Cond.selects "WalkFence" y_WF_tells y_WF_tells, Cond.instanceMethod y_Foresight_findTelling, Cond.selects "WalkFence$Foresight" y_Foresight_findTelling y_Foresight_findTelling]
set_option maxRecDepth 100000 in
theorem wl_14_ok : ∀ w ∈ wl_14, w ∈ tw := tw_qs [1110, 43, 1113, 1114, 1117, 1118, 1121, 1122, 1128, 1129, 1132, 1133, 1136, 1137, 1142, 44, 1146, 1147, 1150, 1151] (by decide +kernel) (by decide +kernel)
def wl_15 : List Cond := [Cond.instanceMethod y_Foresight_leftBy, Cond.selects "WalkFence$Foresight" y_Foresight_leftBy y_Foresight_leftBy, Cond.instanceMethod y_WF_set, Cond.selects "WalkFence" y_WF_set y_WF_set, Cond.instanceMethod y_WF_beginAct, Cond.selects "WalkFence" y_WF_beginAct y_WF_beginAct, Cond.instanceMethod y_History_keep, Cond.selects "WalkFence$History" y_History_keep y_History_keep, Cond.instanceMethod y_History_hasRing, Cond.selects "WalkFence$History" y_History_hasRing y_History_hasRing, Cond.instanceMethod y_Log_takeFrom, Cond.selects "WalkFence$Log" y_Log_takeFrom y_Log_takeFrom, Cond.instanceMethod y_WF_cut, Cond.selects "WalkFence" y_WF_cut y_WF_cut, Cond.instanceMethod y_WF_iron, Cond.selects "WalkFence" y_WF_iron y_WF_iron, Cond.instanceMethod y_WF_years, Cond.selects "WalkFence" y_WF_years y_WF_years, Cond.instanceMethod y_WF_chance, Cond.selects "WalkFence" y_WF_chance y_WF_chance]
set_option maxRecDepth 100000 in
theorem wl_15_ok : ∀ w ∈ wl_15, w ∈ tw := tw_qs [1156, 45, 1160, 1161, 1165, 46, 1168, 1169, 1173, 47, 1177, 1178, 1184, 1185, 1188, 1189, 1193, 1194, 1198, 1199] (by decide +kernel) (by decide +kernel)
def wl_16 : List Cond := [Cond.instanceMethod y_WF_draw, Cond.selects "WalkFence" y_WF_draw y_WF_draw, Cond.instanceMethod y_WF_washOut, Cond.selects "WalkFence" y_WF_washOut y_WF_washOut, Cond.instanceMethod y_WF_undo, Cond.selects "WalkFence" y_WF_undo y_WF_undo, Cond.instanceMethod y_History_giveBack, Cond.selects "WalkFence$History" y_History_giveBack y_History_giveBack, Cond.instanceMethod y_WF_seed, Cond.selects "WalkFence" y_WF_seed y_WF_seed, Cond.instanceMethod y_WF_ask, Cond.selects "WalkFence" y_WF_ask y_WF_ask, Cond.instanceMethod y_Reader_readQuestion, Cond.selects "WalkFence$Reader" y_Reader_readQuestion y_Reader_readQuestion, Cond.instanceMethod y_WF_answer, Cond.selects "WalkFence" y_WF_answer y_WF_answer, Cond.instanceMethod y_Walker_reckonQuestion, Cond.selects "WalkFence$Walker" y_Walker_reckonQuestion y_Walker_reckonQuestion, Cond.static y_Math_max_JJ, Cond.static y_Math_min_JJ]
set_option maxRecDepth 100000 in
theorem wl_16_ok : ∀ w ∈ wl_16, w ∈ tw := tw_qs [1203, 48, 1209, 49, 1214, 1215, 1218, 1219, 1222, 1223, 1226, 1227, 1231, 1232, 1238, 50, 1242, 1243, 1248, 1251] (by decide +kernel) (by decide +kernel)
def wl_17 : List Cond := [Cond.instanceMethod y_WF_image, Cond.selects "WalkFence" y_WF_image y_WF_image, Cond.instanceMethod y_Image_write, Cond.selects "WalkFence$Image" y_Image_write y_Image_write, Cond.instanceMethod y_Image_add, Cond.selects "WalkFence$Image" y_Image_add y_Image_add, Cond.instanceMethod y_WF_octet, Cond.selects "WalkFence" y_WF_octet y_WF_octet, Cond.instanceMethod y_WF_on, Cond.selects "WalkFence" y_WF_on y_WF_on, Cond.instanceMethod y_Image_read, Cond.selects "WalkFence$Image" y_Image_read y_Image_read, Cond.static y_Image_readPosts, Cond.static y_Image_readFences, Cond.instanceMethod y_WF_status, Cond.selects "WalkFence" y_WF_status y_WF_status, Cond.instanceMethod y_MD_init, Cond.instanceMethod y_MD_feed, Cond.selects "WalkFenceModel" y_MD_feed y_MD_feed, Cond.instanceMethod y_MD_end]
set_option maxRecDepth 100000 in
theorem wl_17_ok : ∀ w ∈ wl_17, w ∈ tw := tw_qs [1254, 1255, 1258, 1259, 1263, 51, 1271, 1272, 1275, 1276, 1279, 1280, 1285, 1290, 1295, 1296, 1301, 1618, 1619, 1622] (by decide +kernel) (by decide +kernel)
def wl_18 : List Cond := [Cond.selects "WalkFenceModel" y_MD_end y_MD_end, Cond.instanceMethod y_MD_slope, Cond.selects "WalkFenceModel" y_MD_slope y_MD_slope, Cond.instanceMethod y_MD_slopeTold, Cond.selects "WalkFenceModel" y_MD_slopeTold y_MD_slopeTold, Cond.instanceMethod y_MD_asks, Cond.selects "WalkFenceModel" y_MD_asks y_MD_asks, Cond.instanceMethod y_MD_takes, Cond.selects "WalkFenceModel" y_MD_takes y_MD_takes, Cond.instanceMethod y_MD_isHere, Cond.selects "WalkFenceModel" y_MD_isHere y_MD_isHere, Cond.instanceMethod y_MD_look, Cond.selects "WalkFenceModel" y_MD_look y_MD_look, Cond.static y_MD_isLetter, Cond.instanceMethod y_MD_fail, Cond.selects "WalkFenceModel" y_MD_fail y_MD_fail, Cond.instanceMethod y_MD_number, Cond.selects "WalkFenceModel" y_MD_number y_MD_number, Cond.static y_MD_isDigit, Cond.static y_MD_isIn]
set_option maxRecDepth 100000 in
theorem wl_18_ok : ∀ w ∈ wl_18, w ∈ tw := tw_qs [1623, 1626, 1627, 1631, 52, 1635, 53, 1639, 54, 1643, 55, 1647, 56, 1650, 1654, 57, 1658, 58, 1661, 1664] (by decide +kernel) (by decide +kernel)
def wl_19 : List Cond := [Cond.instanceMethod y_MD_asksSign, Cond.selects "WalkFenceModel" y_MD_asksSign y_MD_asksSign, Cond.instanceMethod y_MD_takesSign, Cond.selects "WalkFenceModel" y_MD_takesSign y_MD_takesSign, Cond.instanceMethod y_MD_statementTold, Cond.selects "WalkFenceModel" y_MD_statementTold y_MD_statementTold, Cond.instanceMethod y_MD_steepTold, Cond.selects "WalkFenceModel" y_MD_steepTold y_MD_steepTold, Cond.instanceMethod y_MD_ironTold, Cond.selects "WalkFenceModel" y_MD_ironTold y_MD_ironTold, Cond.instanceMethod y_MD_fenceTold, Cond.selects "WalkFenceModel" y_MD_fenceTold y_MD_fenceTold, Cond.instanceMethod y_MD_name, Cond.selects "WalkFenceModel" y_MD_name y_MD_name, Cond.instanceMethod y_MD_isOwnHere, Cond.selects "WalkFenceModel" y_MD_isOwnHere y_MD_isOwnHere, Cond.instanceMethod y_MD_nameOf, Cond.selects "WalkFenceModel" y_MD_nameOf y_MD_nameOf, Cond.instanceMethod y_MD_stakeTold, Cond.selects "WalkFenceModel" y_MD_stakeTold y_MD_stakeTold]
set_option maxRecDepth 100000 in
theorem wl_19_ok : ∀ w ∈ wl_19, w ∈ tw := tw_qs [1668, 59, 1672, 60, 1676, 61, 1680, 62, 1684, 63, 1688, 64, 1692, 65, 1696, 66, 1702, 67, 1706, 68] (by decide +kernel) (by decide +kernel)
def wl_20 : List Cond := [Cond.instanceMethod y_MD_codesTold, Cond.selects "WalkFenceModel" y_MD_codesTold y_MD_codesTold, Cond.instanceMethod y_MD_qTest, Cond.selects "WalkFenceModel" y_MD_qTest y_MD_qTest, Cond.instanceMethod y_MD_qOpens, Cond.selects "WalkFenceModel" y_MD_qOpens y_MD_qOpens, Cond.instanceMethod y_MD_qFact, Cond.selects "WalkFenceModel" y_MD_qFact y_MD_qFact, Cond.instanceMethod y_MD_qCode, Cond.selects "WalkFenceModel" y_MD_qCode y_MD_qCode, Cond.instanceMethod y_MD_qSums, Cond.selects "WalkFenceModel" y_MD_qSums y_MD_qSums, Cond.instanceMethod y_MD_qPartTold, Cond.selects "WalkFenceModel" y_MD_qPartTold y_MD_qPartTold, Cond.instanceMethod y_MD_qWordOf, Cond.selects "WalkFenceModel" y_MD_qWordOf y_MD_qWordOf, Cond.instanceMethod y_MD_qWordHere, Cond.selects "WalkFenceModel" y_MD_qWordHere y_MD_qWordHere, Cond.instanceMethod y_MD_isAllowed, Cond.selects "WalkFenceModel" y_MD_isAllowed y_MD_isAllowed]
set_option maxRecDepth 100000 in
theorem wl_20_ok : ∀ w ∈ wl_20, w ∈ tw := tw_qs [1710, 69, 1714, 70, 1718, 71, 1722, 72, 1726, 73, 1730, 74, 1734, 75, 1738, 76, 1742, 77, 1746, 78] (by decide +kernel) (by decide +kernel)
def wl_21 : List Cond := [Cond.instanceMethod y_MD_qAsksWord, Cond.selects "WalkFenceModel" y_MD_qAsksWord y_MD_qAsksWord, Cond.instanceMethod y_MD_qEndsPart, Cond.selects "WalkFenceModel" y_MD_qEndsPart y_MD_qEndsPart, Cond.instanceMethod y_MD_qDrops, Cond.selects "WalkFenceModel" y_MD_qDrops y_MD_qDrops, Cond.instanceMethod y_MD_qGoesOn, Cond.selects "WalkFenceModel" y_MD_qGoesOn y_MD_qGoesOn, Cond.instanceMethod y_MD_qBracket, Cond.selects "WalkFenceModel" y_MD_qBracket y_MD_qBracket, Cond.static y_MD_qIsBracket, Cond.instanceMethod y_MD_qDropsToBracket, Cond.selects "WalkFenceModel" y_MD_qDropsToBracket y_MD_qDropsToBracket, Cond.instanceMethod y_MD_qIsOn, Cond.selects "WalkFenceModel" y_MD_qIsOn y_MD_qIsOn, Cond.instanceMethod y_MD_qDropsNots, Cond.selects "WalkFenceModel" y_MD_qDropsNots y_MD_qDropsNots, Cond.instanceMethod y_MD_qGoesOnTest, Cond.selects "WalkFenceModel" y_MD_qGoesOnTest y_MD_qGoesOnTest, Cond.instanceMethod y_MD_qHasSquare]
set_option maxRecDepth 100000 in
theorem wl_21_ok : ∀ w ∈ wl_21, w ∈ tw := tw_qs [1750, 79, 1754, 80, 1758, 81, 1762, 82, 1766, 83, 1769, 1773, 84, 1777, 85, 1781, 86, 1785, 87, 1789] (by decide +kernel) (by decide +kernel)
def wl_22 : List Cond := [Cond.selects "WalkFenceModel" y_MD_qHasSquare y_MD_qHasSquare, Cond.instanceMethod y_MD_stands, Cond.selects "WalkFenceModel" y_MD_stands y_MD_stands, Cond.instanceMethod y_MD_fault, Cond.selects "WalkFenceModel" y_MD_fault y_MD_fault, Cond.instanceMethod y_MD_has, Cond.selects "WalkFenceModel" y_MD_has y_MD_has, Cond.instanceMethod y_MD_fenceMany, Cond.selects "WalkFenceModel" y_MD_fenceMany y_MD_fenceMany, Cond.instanceMethod y_MD_postMany, Cond.selects "WalkFenceModel" y_MD_postMany y_MD_postMany, Cond.static y_MD_bits, Cond.instanceMethod y_MD_leftAll, Cond.selects "WalkFenceModel" y_MD_leftAll y_MD_leftAll, Cond.instanceMethod y_MD_leftOf, Cond.selects "WalkFenceModel" y_MD_leftOf y_MD_leftOf, Cond.instanceMethod y_MD_rowOf, Cond.selects "WalkFenceModel" y_MD_rowOf y_MD_rowOf, Cond.instanceMethod y_MD_cutSet, Cond.selects "WalkFenceModel" y_MD_cutSet y_MD_cutSet]
set_option maxRecDepth 100000 in
theorem wl_22_ok : ∀ w ∈ wl_22, w ∈ tw := tw_qs [88, 1793, 89, 1796, 1797, 1800, 1801, 1805, 90, 1809, 91, 1812, 1816, 92, 1820, 93, 1824, 94, 1828, 95] (by decide +kernel) (by decide +kernel)
def wl_23 : List Cond := [Cond.instanceMethod y_MD_isCut, Cond.selects "WalkFenceModel" y_MD_isCut y_MD_isCut, Cond.instanceMethod y_MD_fieldOf, Cond.selects "WalkFenceModel" y_MD_fieldOf y_MD_fieldOf, Cond.instanceMethod y_MD_whoseIs, Cond.selects "WalkFenceModel" y_MD_whoseIs y_MD_whoseIs, Cond.instanceMethod y_MD_letter, Cond.selects "WalkFenceModel" y_MD_letter y_MD_letter, Cond.instanceMethod y_MD_isFence, Cond.selects "WalkFenceModel" y_MD_isFence y_MD_isFence, Cond.instanceMethod y_MD_place, Cond.selects "WalkFenceModel" y_MD_place y_MD_place, Cond.instanceMethod y_MD_isPlace, Cond.selects "WalkFenceModel" y_MD_isPlace y_MD_isPlace, Cond.instanceMethod y_MD_isColumn, Cond.selects "WalkFenceModel" y_MD_isColumn y_MD_isColumn, Cond.instanceMethod y_MD_isPost, Cond.selects "WalkFenceModel" y_MD_isPost y_MD_isPost, Cond.instanceMethod y_MD_stakesAt, Cond.selects "WalkFenceModel" y_MD_stakesAt y_MD_stakesAt]
set_option maxRecDepth 100000 in
theorem wl_23_ok : ∀ w ∈ wl_23, w ∈ tw := tw_qs [1832, 96, 1836, 97, 1840, 98, 1843, 1844, 1848, 99, 1852, 1853, 1857, 100, 1861, 101, 1865, 102, 1869, 103] (by decide +kernel) (by decide +kernel)
def wl_24 : List Cond := [Cond.instanceMethod y_MD_fence, Cond.selects "WalkFenceModel" y_MD_fence y_MD_fence, Cond.instanceMethod y_MD_ageOf, Cond.selects "WalkFenceModel" y_MD_ageOf y_MD_ageOf, Cond.instanceMethod y_MD_stake, Cond.selects "WalkFenceModel" y_MD_stake y_MD_stake, Cond.instanceMethod y_MD_walks, Cond.selects "WalkFenceModel" y_MD_walks y_MD_walks, Cond.instanceMethod y_MD_walkOf, Cond.selects "WalkFenceModel" y_MD_walkOf y_MD_walkOf, Cond.instanceMethod y_MD_codesTell, Cond.selects "WalkFenceModel" y_MD_codesTell y_MD_codesTell, Cond.instanceMethod y_MD_qPuts, Cond.selects "WalkFenceModel" y_MD_qPuts y_MD_qPuts, Cond.instanceMethod y_MD_qPartOf, Cond.selects "WalkFenceModel" y_MD_qPartOf y_MD_qPartOf, Cond.instanceMethod y_MD_qJoins, Cond.selects "WalkFenceModel" y_MD_qJoins y_MD_qJoins, Cond.static y_MD_qClip, Cond.static y_MD_qFloor]
set_option maxRecDepth 100000 in
theorem wl_24_ok : ∀ w ∈ wl_24, w ∈ tw := tw_qs [1872, 1873, 1877, 104, 1880, 1881, 1884, 1885, 1889, 105, 1893, 106, 1897, 107, 1901, 108, 1905, 109, 1908, 1913] (by decide +kernel) (by decide +kernel)
def wl_25 : List Cond := [Cond.instanceMethod y_MD_kept, Cond.selects "WalkFenceModel" y_MD_kept y_MD_kept, Cond.instanceMethod y_MD_later, Cond.selects "WalkFenceModel" y_MD_later y_MD_later, Cond.instanceMethod y_MD_isAhead, Cond.selects "WalkFenceModel" y_MD_isAhead y_MD_isAhead, Cond.instanceMethod y_MD_putsAside, Cond.selects "WalkFenceModel" y_MD_putsAside y_MD_putsAside, Cond.instanceMethod y_MD_yearsGo, Cond.selects "WalkFenceModel" y_MD_yearsGo y_MD_yearsGo, Cond.instanceMethod y_MD_yearGoes, Cond.selects "WalkFenceModel" y_MD_yearGoes y_MD_yearGoes, Cond.instanceMethod y_MD_stakeWalks, Cond.selects "WalkFenceModel" y_MD_stakeWalks y_MD_stakeWalks, Cond.instanceMethod y_MD_isGone, Cond.selects "WalkFenceModel" y_MD_isGone y_MD_isGone, Cond.instanceMethod y_MD_rowIs, Cond.selects "WalkFenceModel" y_MD_rowIs y_MD_rowIs, Cond.instanceMethod y_MD_isKept, Cond.selects "WalkFenceModel" y_MD_isKept y_MD_isKept]
set_option maxRecDepth 100000 in
theorem wl_25_ok : ∀ w ∈ wl_25, w ∈ tw := tw_qs [1917, 1918, 1922, 1923, 1927, 110, 1931, 111, 1935, 112, 1939, 113, 1943, 114, 1947, 115, 1951, 116, 1955, 117] (by decide +kernel) (by decide +kernel)
def wl_26 : List Cond := [Cond.instanceMethod y_MD_doesRoot, Cond.selects "WalkFenceModel" y_MD_doesRoot y_MD_doesRoot, Cond.instanceMethod y_MD_isSet, Cond.selects "WalkFenceModel" y_MD_isSet y_MD_isSet, Cond.instanceMethod y_MD_takesBack, Cond.selects "WalkFenceModel" y_MD_takesBack y_MD_takesBack, Cond.instanceMethod y_MD_triesAnew, Cond.selects "WalkFenceModel" y_MD_triesAnew y_MD_triesAnew, Cond.instanceMethod y_MD_whose, Cond.selects "WalkFenceModel" y_MD_whose y_MD_whose, Cond.instanceMethod y_MD_meets, Cond.selects "WalkFenceModel" y_MD_meets y_MD_meets, Cond.instanceMethod y_MD_areTwo, Cond.selects "WalkFenceModel" y_MD_areTwo y_MD_areTwo, Cond.instanceMethod y_MD_doMeet, Cond.selects "WalkFenceModel" y_MD_doMeet y_MD_doMeet, Cond.instanceMethod y_MD_below, Cond.selects "WalkFenceModel" y_MD_below y_MD_below, Cond.instanceMethod y_MD_belows, Cond.selects "WalkFenceModel" y_MD_belows y_MD_belows]
set_option maxRecDepth 100000 in
theorem wl_26_ok : ∀ w ∈ wl_26, w ∈ tw := tw_qs [1959, 118, 1963, 119, 1967, 120, 1971, 121, 1974, 1975, 1978, 1979, 1983, 122, 1987, 123, 1990, 1991, 1995, 124] (by decide +kernel) (by decide +kernel)
def wl_27 : List Cond := [Cond.instanceMethod y_MD_sets, Cond.selects "WalkFenceModel" y_MD_sets y_MD_sets, Cond.instanceMethod y_MD_leastField, Cond.selects "WalkFenceModel" y_MD_leastField y_MD_leastField, Cond.instanceMethod y_MD_irons, Cond.selects "WalkFenceModel" y_MD_irons y_MD_irons, Cond.instanceMethod y_MD_rest, Cond.selects "WalkFenceModel" y_MD_rest y_MD_rest, Cond.instanceMethod y_MD_laysFields, Cond.selects "WalkFenceModel" y_MD_laysFields y_MD_laysFields, Cond.instanceMethod y_MD_isRest, Cond.selects "WalkFenceModel" y_MD_isRest y_MD_isRest, Cond.instanceMethod y_MD_see, Cond.selects "WalkFenceModel" y_MD_see y_MD_see, Cond.instanceMethod y_MD_refuses, Cond.selects "WalkFenceModel" y_MD_refuses y_MD_refuses, Cond.instanceMethod y_MD_fits, Cond.selects "WalkFenceModel" y_MD_fits y_MD_fits, Cond.instanceMethod y_MD_laysFits, Cond.selects "WalkFenceModel" y_MD_laysFits y_MD_laysFits]
set_option maxRecDepth 100000 in
theorem wl_27_ok : ∀ w ∈ wl_27, w ∈ tw := tw_qs [1998, 1999, 2003, 125, 2006, 2007, 2010, 2011, 2015, 126, 2019, 127, 2022, 2023, 2027, 128, 2030, 2031, 2035, 129] (by decide +kernel) (by decide +kernel)
def wl_28 : List Cond := [Cond.instanceMethod y_MD_isAsSeen, Cond.selects "WalkFenceModel" y_MD_isAsSeen y_MD_isAsSeen, Cond.instanceMethod y_MD_tells, Cond.selects "WalkFenceModel" y_MD_tells y_MD_tells, Cond.instanceMethod y_MD_mostAlike, Cond.selects "WalkFenceModel" y_MD_mostAlike y_MD_mostAlike, Cond.instanceMethod y_MD_undo, Cond.selects "WalkFenceModel" y_MD_undo y_MD_undo, Cond.instanceMethod y_MD_set, Cond.selects "WalkFenceModel" y_MD_set y_MD_set, Cond.instanceMethod y_MD_isRefused, Cond.selects "WalkFenceModel" y_MD_isRefused y_MD_isRefused, Cond.instanceMethod y_MD_keeps, Cond.selects "WalkFenceModel" y_MD_keeps y_MD_keeps, Cond.instanceMethod y_MD_cut, Cond.selects "WalkFenceModel" y_MD_cut y_MD_cut, Cond.instanceMethod y_MD_iron, Cond.selects "WalkFenceModel" y_MD_iron y_MD_iron, Cond.instanceMethod y_MD_years, Cond.selects "WalkFenceModel" y_MD_years y_MD_years]
set_option maxRecDepth 100000 in
theorem wl_28_ok : ∀ w ∈ wl_28, w ∈ tw := tw_qs [2039, 130, 2042, 2043, 2047, 131, 2050, 2051, 2054, 2055, 2059, 132, 2063, 133, 2066, 2067, 2070, 2071, 2074, 2075] (by decide +kernel) (by decide +kernel)
def wl_29 : List Cond := [Cond.instanceMethod y_MD_seed, Cond.selects "WalkFenceModel" y_MD_seed y_MD_seed, Cond.instanceMethod y_MD_chance, Cond.selects "WalkFenceModel" y_MD_chance y_MD_chance, Cond.instanceMethod y_MD_drawOf, Cond.selects "WalkFenceModel" y_MD_drawOf y_MD_drawOf, Cond.instanceMethod y_MD_ask, Cond.selects "WalkFenceModel" y_MD_ask y_MD_ask, Cond.instanceMethod y_MD_qKind, Cond.selects "WalkFenceModel" y_MD_qKind y_MD_qKind, Cond.instanceMethod y_MD_qTold, Cond.selects "WalkFenceModel" y_MD_qTold y_MD_qTold, Cond.instanceMethod y_MD_qOf, Cond.selects "WalkFenceModel" y_MD_qOf y_MD_qOf, Cond.instanceMethod y_MD_qTakes, Cond.selects "WalkFenceModel" y_MD_qTakes y_MD_qTakes, Cond.instanceMethod y_MD_image, Cond.selects "WalkFenceModel" y_MD_image y_MD_image, Cond.instanceMethod y_MD_writes, Cond.selects "WalkFenceModel" y_MD_writes y_MD_writes]
set_option maxRecDepth 100000 in
theorem wl_29_ok : ∀ w ∈ wl_29, w ∈ tw := tw_qs [2078, 2079, 2082, 2083, 2087, 134, 2094, 2095, 2100, 135, 2105, 136, 2109, 137, 2113, 138, 2116, 2117, 2121, 139] (by decide +kernel) (by decide +kernel)
def wl_30 : List Cond := [Cond.static y_MD_checked, Cond.instanceMethod y_MD_octet, Cond.selects "WalkFenceModel" y_MD_octet y_MD_octet, Cond.instanceMethod y_MD_on, Cond.selects "WalkFenceModel" y_MD_on y_MD_on, Cond.instanceMethod y_MD_isImage, Cond.selects "WalkFenceModel" y_MD_isImage y_MD_isImage, Cond.instanceMethod y_MD_arePostsTold, Cond.selects "WalkFenceModel" y_MD_arePostsTold y_MD_arePostsTold, Cond.instanceMethod y_MD_isFenceTold, Cond.selects "WalkFenceModel" y_MD_isFenceTold y_MD_isFenceTold, Cond.instanceMethod y_MD_status, Cond.selects "WalkFenceModel" y_MD_status y_MD_status, Cond.methodLink "WalkFence" 28 y_Reader_init, Cond.methodLink "WalkFence" 37 y_Lay_init, Cond.methodLink "WalkFence" 44 y_Walker_init, Cond.methodLink "WalkFence" 53 y_Foresight_init, Cond.methodLink "WalkFence" 69 y_History_init, Cond.methodLink "WalkFence" 99 y_WF_refuse, Cond.methodLink "WalkFence" 103 y_Tape_append]
set_option maxRecDepth 100000 in
theorem wl_30_ok : ∀ w ∈ wl_30, w ∈ tw := tw_qs [2124, 2127, 2128, 2131, 2132, 2136, 140, 2140, 141, 2144, 142, 2147, 2148, 308, 356, 359, 396, 486, 589, 593] (by decide +kernel) (by decide +kernel)
def wl_31 : List Cond := [Cond.methodLink "WalkFence" 107 y_Reader_readSlope, Cond.methodLink "WalkFence" 115 y_WF_beginAnew, Cond.methodLink "WalkFence" 143 y_Lay_countPosts, Cond.methodLink "WalkFence" 147 y_WF_countStakes, Cond.methodLink "WalkFence" 153 y_Integer_bitCount, Cond.methodLink "WalkFence" 158 y_WF_countMoor, Cond.methodLink "WalkFence" 163 y_Slope_hasFence, Cond.methodLink "WalkFence" 170 y_Slope_hasPlace, Cond.methodLink "WalkFence" 174 y_Lay_ownerOf, Cond.methodLink "WalkFence" 178 y_Lay_hasPost, Cond.methodLink "WalkFence" 181 y_Lay_stakesAt, Cond.methodLink "WalkFence" 187 y_Lay_fieldOf, Cond.methodLink "WalkFence" 190 y_Lay_leftOf, Cond.methodLink "WalkFence" 193 y_Lay_isCut, Cond.methodLink "WalkFence" 196 y_Lay_rowOf, Cond.methodLink "WalkFence" 199 y_Walker_face, Cond.methodLink "WalkFence" 203 y_Walker_paces, Cond.methodLink "WalkFence" 206 y_Log_tell, Cond.methodLink "WalkFence" 209 y_WF_yearsAtMost, Cond.methodLink "WalkFence" 212 y_Foresight_goAhead]
set_option maxRecDepth 100000 in
theorem wl_31_ok : ∀ w ∈ wl_31, w ∈ tw := tw_qs [605, 821, 852, 853, 865, 866, 882, 890, 894, 898, 899, 870, 857, 907, 915, 920, 928, 970, 978, 983] (by decide +kernel) (by decide +kernel)
def wl_32 : List Cond := [Cond.methodLink "WalkFence" 216 y_WF_areTwoFences, Cond.methodLink "WalkFence" 219 y_Foresight_firstMeeting, Cond.methodLink "WalkFence" 223 y_Lay_columnsBelow, Cond.methodLink "WalkFence" 226 y_Foresight_leastField, Cond.methodLink "WalkFence" 229 y_Foresight_findIron, Cond.methodLink "WalkFence" 242 y_Slope_isTold, Cond.methodLink "WalkFence" 246 y_Foresight_findRest, Cond.methodLink "WalkFence" 249 y_Seen_readFrom, Cond.methodLink "WalkFence" 253 y_Foresight_findFits, Cond.methodLink "WalkFence" 266 y_Foresight_findTelling, Cond.methodLink "WalkFence" 278 y_WF_beginAct, Cond.methodLink "WalkFence" 281 y_Lay_plant, Cond.methodLink "WalkFence" 284 y_Lay_drive, Cond.methodLink "WalkFence" 287 y_Walker_passYear, Cond.methodLink "WalkFence" 291 y_WF_draw, Cond.methodLink "WalkFence" 297 y_WF_washOut, Cond.methodLink "WalkFence" 300 y_History_giveBack, Cond.methodLink "WalkFence" 304 y_Foresight_forget, Cond.methodLink "WalkFence" 309 y_Reader_readQuestion, Cond.methodLink "WalkFence" 315 y_WF_answer]
set_option maxRecDepth 100000 in
theorem wl_32_ok : ∀ w ∈ wl_32, w ∈ tw := tw_qs [1038, 1042, 1054, 1062, 1073, 1099, 1103, 1120, 1131, 1149, 1163, 1182, 1191, 1196, 1201, 1207, 1217, 840, 1230, 1236] (by decide +kernel) (by decide +kernel)
def wl_33 : List Cond := [Cond.methodLink "WalkFence" 319 y_Image_write, Cond.methodLink "WalkFence" 331 y_Image_read, Cond.methodLink "WalkFence" 335 y_Lay_takeFrom, Cond.methodLink "WalkFence" 338 y_Log_clear, Cond.methodLink "WalkFence" 341 y_History_clear, Cond.methodLink "WalkFence" 342 y_History_keep, Cond.methodLink "WalkFence" 346 y_Math_min_II, Cond.methodLink "WalkFence" 353 y_Lay_putStake, Cond.methodLink "WalkFence" 357 y_Log_note, Cond.methodLink "WalkFence" 362 y_Walker_reckonQuestion, Cond.methodLink "WalkFence" 366 y_Math_max_JJ, Cond.methodLink "WalkFence" 370 y_Math_min_JJ, Cond.methodLink "WalkFence$Foresight" 11 y_Lay_init, Cond.methodLink "WalkFence$Foresight" 42 y_Lay_takeFrom, Cond.methodLink "WalkFence$Foresight" 46 y_Foresight_passYears, Cond.methodLink "WalkFence$Foresight" 50 y_Walker_passYear, Cond.methodLink "WalkFence$Foresight" 56 y_Lay_meetSomewhere, Cond.methodLink "WalkFence$Foresight" 69 y_Lay_plant, Cond.methodLink "WalkFence$Foresight" 76 y_Lay_fieldOf, Cond.methodLink "WalkFence$Foresight" 80 y_Math_min_II]
set_option maxRecDepth 100000 in
theorem wl_33_ok : ∀ w ∈ wl_33, w ∈ tw := tw_qs [1257, 1278, 825, 832, 836, 1167, 982, 1211, 1212, 1241, 1247, 1250, 401, 987, 988, 992, 1046, 1066, 1067, 1068] (by decide +kernel) (by decide +kernel)
def wl_34 : List Cond := [Cond.methodLink "WalkFence$Foresight" 94 y_Foresight_tread, Cond.methodLink "WalkFence$Foresight" 101 y_Lay_postsOf, Cond.methodLink "WalkFence$Foresight" 105 y_Foresight_tryIron, Cond.methodLink "WalkFence$Foresight" 108 y_Arrays_fill, Cond.methodLink "WalkFence$Foresight" 117 y_Foresight_treadBy, Cond.methodLink "WalkFence$Foresight" 120 y_Walker_face, Cond.methodLink "WalkFence$Foresight" 123 y_Lay_rowOf, Cond.methodLink "WalkFence$Foresight" 126 y_Walker_paces, Cond.methodLink "WalkFence$Foresight" 129 y_Lay_drive, Cond.methodLink "WalkFence$Foresight" 135 y_Integer_bitCount, Cond.methodLink "WalkFence$Foresight" 140 y_Foresight_isAtRest, Cond.methodLink "WalkFence$Foresight" 144 y_Lay_takeStakes, Cond.methodLink "WalkFence$Foresight" 156 y_Seen_isSo, Cond.methodLink "WalkFence$Foresight" 162 y_Foresight_countOwners, Cond.methodLink "WalkFence$Foresight" 165 y_Lay_ownerOf, Cond.methodLink "WalkFence$Foresight" 168 y_Foresight_findFits, Cond.methodLink "WalkFence$Foresight" 181 y_Foresight_leftBy, Cond.methodLink "WalkFence$Foresight" 184 y_Math_max_II, Cond.methodLink "WalkFence$History" 23 y_Lay_init, Cond.methodLink "WalkFence$History" 32 y_History_hasRing]
set_option maxRecDepth 100000 in
theorem wl_34_ok : ∀ w ∈ wl_34, w ∈ tw := tw_qs [1077, 1089, 1090, 1081, 1082, 1086, 1087, 1088, 1094, 1107, 1108, 1112, 1135, 1140, 1144, 1153, 1154, 1158, 494, 1171] (by decide +kernel) (by decide +kernel)
def wl_35 : List Cond := [Cond.methodLink "WalkFence$History" 36 y_Lay_takeFrom, Cond.methodLink "WalkFence$History" 40 y_Log_takeFrom, Cond.methodLink "WalkFence$History" 43 y_Math_min_II, Cond.methodLink "WalkFence$Image" 24 y_Image_add, Cond.methodLink "WalkFence$Image" 28 y_Lay_countPosts, Cond.methodLink "WalkFence$Image" 40 y_Lay_hasPost, Cond.methodLink "WalkFence$Image" 47 y_Lay_ageOf, Cond.methodLink "WalkFence$Image" 51 y_Lay_isCut, Cond.methodLink "WalkFence$Image" 55 y_Lay_rowOf, Cond.methodLink "WalkFence$Image" 59 y_Tape_byteAt, Cond.methodLink "WalkFence$Image" 65 y_Lay_clear, Cond.methodLink "WalkFence$Image" 68 y_Image_readPosts, Cond.methodLink "WalkFence$Image" 72 y_Image_readFences, Cond.methodLink "WalkFence$Image" 75 y_Slope_hasPlace, Cond.methodLink "WalkFence$Image" 78 y_Lay_drive, Cond.methodLink "WalkFence$Image" 82 y_Lay_putAge, Cond.methodLink "WalkFence$Image" 88 y_Lay_putStake, Cond.methodLink "WalkFence$Lay" 21 y_Arrays_fill, Cond.methodLink "WalkFence$Lay" 40 y_Lay_isStake, Cond.methodLink "WalkFence$Lay" 44 y_Lay_putStake]
set_option maxRecDepth 100000 in
theorem wl_35_ok : ∀ w ∈ wl_35, w ∈ tw := tw_qs [1175, 1176, 1181, 1261, 1265, 1266, 1267, 1268, 1269, 1282, 1283, 1284, 1289, 1287, 1288, 1292, 1293, 204, 766, 1028] (by decide +kernel) (by decide +kernel)
def wl_36 : List Cond := [Cond.methodLink "WalkFence$Lay" 48 y_Lay_putAge, Cond.methodLink "WalkFence$Lay" 52 y_Lay_postsOf, Cond.methodLink "WalkFence$Lay" 56 y_Integer_bitCount, Cond.methodLink "WalkFence$Lay" 61 y_Lay_rowOf, Cond.methodLink "WalkFence$Lay" 65 y_Lay_fieldIn, Cond.methodLink "WalkFence$Reader" 23 y_Reader_begin, Cond.methodLink "WalkFence$Reader" 27 y_Slope_clear, Cond.methodLink "WalkFence$Reader" 32 y_Reader_slopeLine, Cond.methodLink "WalkFence$Reader" 45 y_Reader_steepLine, Cond.methodLink "WalkFence$Reader" 48 y_Reader_ironLine, Cond.methodLink "WalkFence$Reader" 51 y_Reader_fenceLine, Cond.methodLink "WalkFence$Reader" 54 y_Reader_stakeLine, Cond.methodLink "WalkFence$Reader" 57 y_Reader_walksLine, Cond.methodLink "WalkFence$Reader" 60 y_Reader_rootsLine, Cond.methodLink "WalkFence$Reader" 63 y_Reader_tideLine, Cond.methodLink "WalkFence$Reader" 69 y_Reader_wrong, Cond.methodLink "WalkFence$Reader" 73 y_Reader_need, Cond.methodLink "WalkFence$Reader" 88 y_Reader_advance, Cond.methodLink "WalkFence$Reader" 91 y_Reader_test, Cond.methodLink "WalkFence$Reader" 94 y_Reader_sum]
set_option maxRecDepth 100000 in
theorem wl_36_ok : ∀ w ∈ wl_36, w ∈ tw := tw_qs [1029, 738, 728, 861, 874, 609, 683, 692, 716, 720, 746, 773, 777, 801, 817, 704, 712, 613, 805, 781] (by decide +kernel) (by decide +kernel)
def wl_37 : List Cond := [Cond.methodLink "WalkFence$Reader" 114 y_Tape_byteAt, Cond.methodLink "WalkFence$Reader" 118 y_Reader_isBlank, Cond.methodLink "WalkFence$Reader" 121 y_Reader_isLetter, Cond.methodLink "WalkFence$Reader" 124 y_Reader_wordNumber, Cond.methodLink "WalkFence$Reader" 128 y_Reader_isDigit, Cond.methodLink "WalkFence$Reader" 145 y_Reader_isWord, Cond.methodLink "WalkFence$Reader" 158 y_Reader_letterAt, Cond.methodLink "WalkFence$Reader" 161 y_Reader_needWord, Cond.methodLink "WalkFence$Reader" 164 y_Reader_number, Cond.methodLink "WalkFence$Reader" 179 y_Lay_countPosts, Cond.methodLink "WalkFence$Reader" 184 y_Lay_hasPost, Cond.methodLink "WalkFence$Reader" 187 y_Lay_drive, Cond.methodLink "WalkFence$Reader" 191 y_Reader_name, Cond.methodLink "WalkFence$Reader" 194 y_Reader_named, Cond.methodLink "WalkFence$Reader" 197 y_Lay_putStake, Cond.methodLink "WalkFence$Reader" 201 y_Lay_putAge, Cond.methodLink "WalkFence$Reader" 219 y_Reader_both, Cond.methodLink "WalkFence$Reader" 222 y_Reader_emit, Cond.methodLink "WalkFence$Reader" 225 y_Reader_fact, Cond.methodLink "WalkFence$Reader" 228 y_Reader_opens]
set_option maxRecDepth 100000 in
theorem wl_37_ok : ∀ w ∈ wl_37, w ∈ tw := tw_qs [617, 621, 624, 627, 680, 700, 758, 696, 708, 724, 734, 742, 750, 754, 762, 769, 809, 793, 813, 797] (by decide +kernel) (by decide +kernel)
def wl_38 : List Cond := [Cond.methodLink "WalkFence$Reader" 231 y_Reader_product, Cond.methodLink "WalkFence$Reader" 234 y_Reader_part, Cond.methodLink "WalkFence$Reckoner" 24 y_Math_max_II, Cond.methodLink "WalkFence$Reckoner" 30 y_Reckoner_single, Cond.methodLink "WalkFence$Reckoner" 33 y_Reckoner_pair, Cond.methodLink "WalkFence$Reckoner" 37 y_Reckoner_partOf, Cond.methodLink "WalkFence$Reckoner" 41 y_Math_floorDiv, Cond.methodLink "WalkFence$Reckoner" 44 y_Math_min_II, Cond.methodLink "WalkFence$Seen" 27 y_Tape_byteAt, Cond.methodLink "WalkFence$Seen" 31 y_Slope_hasFence, Cond.methodLink "WalkFence$Seen" 37 y_Slope_hasPlace, Cond.methodLink "WalkFence$Seen" 44 y_Lay_ownerOf, Cond.methodLink "WalkFence$Slope" 20 y_Lay_init, Cond.methodLink "WalkFence$Slope" 56 y_Lay_clear, Cond.methodLink "WalkFence$Slope" 59 y_Arrays_fill, Cond.methodLink "WalkFence$Walker" 26 y_Lay_ageOf, Cond.methodLink "WalkFence$Walker" 36 y_Slope_steepOf, Cond.methodLink "WalkFence$Walker" 50 y_Reckoner_run, Cond.methodLink "WalkFence$Walker" 54 y_Math_min_II, Cond.methodLink "WalkFence$Walker" 60 y_Math_max_II]
set_option maxRecDepth 100000 in
theorem wl_38_ok : ∀ w ∈ wl_38, w ∈ tw := tw_qs [785, 789, 940, 943, 947, 960, 950, 953, 1124, 1125, 1126, 1139, 200, 687, 691, 924, 932, 936, 964, 965] (by decide +kernel) (by decide +kernel)
def wl_39 : List Cond := [Cond.methodLink "WalkFence$Walker" 66 y_Lay_isCut, Cond.methodLink "WalkFence$Walker" 70 y_Walker_walkFence, Cond.methodLink "WalkFence$Walker" 77 y_Lay_putAge, Cond.methodLink "WalkFence$Walker" 81 y_Walker_rootsAgain, Cond.methodLink "WalkFence$Walker" 88 y_Lay_plant, Cond.methodLink "WalkFence$Walker" 91 y_Log_note, Cond.methodLink "WalkFence$Walker" 97 y_Walker_face, Cond.methodLink "WalkFence$Walker" 101 y_Lay_rowOf, Cond.methodLink "WalkFence$Walker" 104 y_Lay_postsOf, Cond.methodLink "WalkFence$Walker" 107 y_Walker_paces, Cond.methodLink "WalkFence$Walker" 110 y_Walker_landing, Cond.methodLink "WalkFence$Walker" 114 y_Lay_putStake, Cond.methodLink "WalkFence$Walker" 117 y_Integer_numberOfTrailingZeros, Cond.methodLink "WalkFence$Walker" 131 y_Lay_leftOf, Cond.methodLink "WalkFence$Walker" 134 y_Lay_fieldOf, Cond.methodLink "WalkFence$Walker" 143 y_Lay_columnsBelow, Cond.methodLink "WalkFenceLaw" 9 y_WF_init, Cond.methodLink "WalkFenceLaw" 12 y_MD_init, Cond.methodLink "WalkFenceLaw" 13 y_WF_feed, Cond.methodLink "WalkFenceLaw" 17 y_MD_feed]
set_option maxRecDepth 100000 in
theorem wl_39_ok : ∀ w ∈ wl_39, w ∈ tw := tw_qs [996, 997, 1018, 1019, 1024, 1014, 1001, 1002, 1003, 1004, 1005, 1013, 1009, 1023, 1245, 1246, 167, 1300, 585, 1617] (by decide +kernel) (by decide +kernel)
def wl_40 : List Cond := [Cond.methodLink "WalkFenceLaw" 18 y_WF_end, Cond.methodLink "WalkFenceLaw" 22 y_MD_end, Cond.methodLink "WalkFenceLaw" 23 y_WF_slope, Cond.methodLink "WalkFenceLaw" 27 y_MD_slope, Cond.methodLink "WalkFenceLaw" 28 y_WF_fault, Cond.methodLink "WalkFenceLaw" 32 y_MD_fault, Cond.methodLink "WalkFenceLaw" 33 y_WF_has, Cond.methodLink "WalkFenceLaw" 36 y_MD_has, Cond.methodLink "WalkFenceLaw" 37 y_WF_letter, Cond.methodLink "WalkFenceLaw" 41 y_MD_letter, Cond.methodLink "WalkFenceLaw" 42 y_WF_place, Cond.methodLink "WalkFenceLaw" 46 y_MD_place, Cond.methodLink "WalkFenceLaw" 47 y_WF_fence, Cond.methodLink "WalkFenceLaw" 50 y_MD_fence, Cond.methodLink "WalkFenceLaw" 51 y_WF_stake, Cond.methodLink "WalkFenceLaw" 54 y_MD_stake, Cond.methodLink "WalkFenceLaw" 55 y_WF_walks, Cond.methodLink "WalkFenceLaw" 58 y_MD_walks, Cond.methodLink "WalkFenceLaw" 59 y_WF_kept, Cond.methodLink "WalkFenceLaw" 62 y_MD_kept]
set_option maxRecDepth 100000 in
theorem wl_40_ok : ∀ w ∈ wl_40, w ∈ tw := tw_qs [597, 1621, 601, 1625, 844, 1795, 848, 1799, 878, 1842, 886, 1851, 903, 1871, 911, 1879, 916, 1883, 966, 1916] (by decide +kernel) (by decide +kernel)
def wl_41 : List Cond := [Cond.methodLink "WalkFenceLaw" 63 y_WF_later, Cond.methodLink "WalkFenceLaw" 66 y_MD_later, Cond.methodLink "WalkFenceLaw" 67 y_WF_whose, Cond.methodLink "WalkFenceLaw" 70 y_MD_whose, Cond.methodLink "WalkFenceLaw" 71 y_WF_meets, Cond.methodLink "WalkFenceLaw" 74 y_MD_meets, Cond.methodLink "WalkFenceLaw" 75 y_WF_below, Cond.methodLink "WalkFenceLaw" 78 y_MD_below, Cond.methodLink "WalkFenceLaw" 79 y_WF_sets, Cond.methodLink "WalkFenceLaw" 82 y_MD_sets, Cond.methodLink "WalkFenceLaw" 83 y_WF_irons, Cond.methodLink "WalkFenceLaw" 86 y_MD_irons, Cond.methodLink "WalkFenceLaw" 87 y_WF_rest, Cond.methodLink "WalkFenceLaw" 90 y_MD_rest, Cond.methodLink "WalkFenceLaw" 91 y_WF_see, Cond.methodLink "WalkFenceLaw" 94 y_MD_see, Cond.methodLink "WalkFenceLaw" 95 y_WF_fits, Cond.methodLink "WalkFenceLaw" 98 y_MD_fits, Cond.methodLink "WalkFenceLaw" 99 y_WF_tells, Cond.methodLink "WalkFenceLaw" 102 y_MD_tells]
set_option maxRecDepth 100000 in
theorem wl_41_ok : ∀ w ∈ wl_41, w ∈ tw := tw_qs [974, 1921, 1030, 1973, 1034, 1977, 1050, 1989, 1058, 1997, 1069, 2005, 1095, 2009, 1116, 2021, 1127, 2029, 1145, 2041] (by decide +kernel) (by decide +kernel)
def wl_42 : List Cond := [Cond.methodLink "WalkFenceLaw" 103 y_WF_set, Cond.methodLink "WalkFenceLaw" 106 y_MD_set, Cond.methodLink "WalkFenceLaw" 107 y_WF_cut, Cond.methodLink "WalkFenceLaw" 110 y_MD_cut, Cond.methodLink "WalkFenceLaw" 111 y_WF_iron, Cond.methodLink "WalkFenceLaw" 114 y_MD_iron, Cond.methodLink "WalkFenceLaw" 115 y_WF_years, Cond.methodLink "WalkFenceLaw" 118 y_MD_years, Cond.methodLink "WalkFenceLaw" 119 y_WF_chance, Cond.methodLink "WalkFenceLaw" 122 y_MD_chance, Cond.methodLink "WalkFenceLaw" 123 y_WF_undo, Cond.methodLink "WalkFenceLaw" 127 y_MD_undo, Cond.methodLink "WalkFenceLaw" 128 y_WF_seed, Cond.methodLink "WalkFenceLaw" 131 y_MD_seed, Cond.methodLink "WalkFenceLaw" 132 y_WF_ask, Cond.methodLink "WalkFenceLaw" 136 y_MD_ask, Cond.methodLink "WalkFenceLaw" 137 y_WF_image, Cond.methodLink "WalkFenceLaw" 140 y_MD_image, Cond.methodLink "WalkFenceLaw" 141 y_WF_octet, Cond.methodLink "WalkFenceLaw" 144 y_MD_octet]
set_option maxRecDepth 100000 in
theorem wl_42_ok : ∀ w ∈ wl_42, w ∈ tw := tw_qs [1159, 2053, 1183, 2065, 1187, 2069, 1192, 2073, 1197, 2081, 1213, 2049, 1221, 2077, 1225, 2093, 1253, 2115, 1270, 2126] (by decide +kernel) (by decide +kernel)
def wl_43 : List Cond := [Cond.methodLink "WalkFenceLaw" 145 y_WF_on, Cond.methodLink "WalkFenceLaw" 148 y_MD_on, Cond.methodLink "WalkFenceLaw" 149 y_WF_status, Cond.methodLink "WalkFenceLaw" 152 y_MD_status, Cond.methodLink "WalkFenceModel" 246 y_MD_look, Cond.methodLink "WalkFenceModel" 250 y_MD_isLetter, Cond.methodLink "WalkFenceModel" 257 y_MD_isHere, Cond.methodLink "WalkFenceModel" 261 y_MD_takes, Cond.methodLink "WalkFenceModel" 264 y_MD_fail, Cond.methodLink "WalkFenceModel" 268 y_MD_takesSign, Cond.methodLink "WalkFenceModel" 271 y_MD_isDigit, Cond.methodLink "WalkFenceModel" 277 y_MD_isIn, Cond.methodLink "WalkFenceModel" 281 y_MD_isOwnHere, Cond.methodLink "WalkFenceModel" 295 y_MD_asks, Cond.methodLink "WalkFenceModel" 299 y_MD_number, Cond.methodLink "WalkFenceModel" 303 y_MD_asksSign, Cond.methodLink "WalkFenceModel" 307 y_MD_name, Cond.methodLink "WalkFenceModel" 311 y_MD_nameOf, Cond.methodLink "WalkFenceModel" 327 y_MD_qTest, Cond.methodLink "WalkFenceModel" 330 y_MD_qSums]
set_option maxRecDepth 100000 in
theorem wl_43_ok : ∀ w ∈ wl_43, w ∈ tw := tw_qs [1274, 2130, 1294, 2146, 1645, 1649, 1641, 1637, 1652, 1670, 1660, 1663, 1694, 1633, 1656, 1666, 1690, 1700, 1712, 1728] (by decide +kernel) (by decide +kernel)
def wl_44 : List Cond := [Cond.methodLink "WalkFenceModel" 339 y_MD_steepTold, Cond.methodLink "WalkFenceModel" 342 y_MD_ironTold, Cond.methodLink "WalkFenceModel" 345 y_MD_fenceTold, Cond.methodLink "WalkFenceModel" 348 y_MD_stakeTold, Cond.methodLink "WalkFenceModel" 351 y_MD_codesTold, Cond.methodLink "WalkFenceModel" 357 y_MD_slopeTold, Cond.methodLink "WalkFenceModel" 360 y_MD_statementTold, Cond.methodLink "WalkFenceModel" 366 y_MD_stands, Cond.methodLink "WalkFenceModel" 382 y_MD_fenceMany, Cond.methodLink "WalkFenceModel" 385 y_MD_isColumn, Cond.methodLink "WalkFenceModel" 388 y_MD_bits, Cond.methodLink "WalkFenceModel" 392 y_MD_rowOf, Cond.methodLink "WalkFenceModel" 395 y_MD_whoseIs, Cond.methodLink "WalkFenceModel" 401 y_MD_qPuts, Cond.methodLink "WalkFenceModel" 405 y_MD_qPartOf, Cond.methodLink "WalkFenceModel" 409 y_MD_qJoins, Cond.methodLink "WalkFenceModel" 418 y_MD_codesTell, Cond.methodLink "WalkFenceModel" 426 y_MD_rowIs, Cond.methodLink "WalkFenceModel" 433 y_MD_isKept, Cond.methodLink "WalkFenceModel" 436 y_MD_isPost]
set_option maxRecDepth 100000 in
theorem wl_44_ok : ∀ w ∈ wl_44, w ∈ tw := tw_qs [1678, 1682, 1686, 1704, 1708, 1629, 1674, 1791, 1803, 1859, 1811, 1822, 1838, 1895, 1899, 1903, 1891, 1949, 1953, 1863] (by decide +kernel) (by decide +kernel)
def wl_45 : List Cond := [Cond.methodLink "WalkFenceModel" 440 y_MD_isGone, Cond.methodLink "WalkFenceModel" 443 y_MD_isCut, Cond.methodLink "WalkFenceModel" 446 y_MD_walkOf, Cond.methodLink "WalkFenceModel" 449 y_MD_stakeWalks, Cond.methodLink "WalkFenceModel" 452 y_MD_ageOf, Cond.methodLink "WalkFenceModel" 455 y_MD_doesRoot, Cond.methodLink "WalkFenceModel" 458 y_MD_isSet, Cond.methodLink "WalkFenceModel" 461 y_MD_yearGoes, Cond.methodLink "WalkFenceModel" 464 y_MD_triesAnew, Cond.methodLink "WalkFenceModel" 467 y_MD_leftOf, Cond.methodLink "WalkFenceModel" 470 y_MD_postMany, Cond.methodLink "WalkFenceModel" 473 y_MD_leftAll, Cond.methodLink "WalkFenceModel" 476 y_MD_cutSet, Cond.methodLink "WalkFenceModel" 479 y_MD_fieldOf, Cond.methodLink "WalkFenceModel" 482 y_MD_isFence, Cond.methodLink "WalkFenceModel" 487 y_MD_isPlace, Cond.methodLink "WalkFenceModel" 490 y_MD_stakesAt, Cond.methodLink "WalkFenceModel" 495 y_MD_isAhead, Cond.methodLink "WalkFenceModel" 499 y_MD_putsAside, Cond.methodLink "WalkFenceModel" 502 y_MD_yearsGo]
set_option maxRecDepth 100000 in
theorem wl_45_ok : ∀ w ∈ wl_45, w ∈ tw := tw_qs [1945, 1830, 1887, 1941, 1875, 1957, 1961, 1937, 1969, 1818, 1807, 1814, 1826, 1834, 1846, 1855, 1867, 1925, 1929, 1933] (by decide +kernel) (by decide +kernel)
def wl_46 : List Cond := [Cond.methodLink "WalkFenceModel" 505 y_MD_takesBack, Cond.methodLink "WalkFenceModel" 508 y_MD_areTwo, Cond.methodLink "WalkFenceModel" 511 y_MD_doMeet, Cond.methodLink "WalkFenceModel" 514 y_MD_belows, Cond.methodLink "WalkFenceModel" 517 y_MD_leastField, Cond.methodLink "WalkFenceModel" 521 y_MD_laysFields, Cond.methodLink "WalkFenceModel" 524 y_MD_isRest, Cond.methodLink "WalkFenceModel" 527 y_MD_refuses, Cond.methodLink "WalkFenceModel" 533 y_MD_isAsSeen, Cond.methodLink "WalkFenceModel" 536 y_MD_laysFits, Cond.methodLink "WalkFenceModel" 539 y_MD_mostAlike, Cond.methodLink "WalkFenceModel" 545 y_MD_isRefused, Cond.methodLink "WalkFenceModel" 548 y_MD_keeps, Cond.methodLink "WalkFenceModel" 559 y_MD_drawOf, Cond.methodLink "WalkFenceModel" 562 y_MD_qCode, Cond.methodLink "WalkFenceModel" 565 y_MD_qIsBracket, Cond.methodLink "WalkFenceModel" 568 y_MD_qDrops, Cond.methodLink "WalkFenceModel" 571 y_MD_qWordHere, Cond.methodLink "WalkFenceModel" 574 y_MD_isAllowed, Cond.methodLink "WalkFenceModel" 577 y_MD_qWordOf]
set_option maxRecDepth 100000 in
theorem wl_46_ok : ∀ w ∈ wl_46, w ∈ tw := tw_qs [1965, 1981, 1985, 1993, 2001, 2013, 2017, 2025, 2037, 2033, 2045, 2057, 2061, 2085, 1724, 1768, 1756, 1740, 1744, 1736] (by decide +kernel) (by decide +kernel)
def wl_47 : List Cond := [Cond.methodLink "WalkFenceModel" 580 y_MD_qOpens, Cond.methodLink "WalkFenceModel" 583 y_MD_qAsksWord, Cond.methodLink "WalkFenceModel" 586 y_MD_qEndsPart, Cond.methodLink "WalkFenceModel" 589 y_MD_qBracket, Cond.methodLink "WalkFenceModel" 592 y_MD_qDropsToBracket, Cond.methodLink "WalkFenceModel" 595 y_MD_qIsOn, Cond.methodLink "WalkFenceModel" 598 y_MD_qPartTold, Cond.methodLink "WalkFenceModel" 601 y_MD_qGoesOn, Cond.methodLink "WalkFenceModel" 604 y_MD_qFact, Cond.methodLink "WalkFenceModel" 607 y_MD_qDropsNots, Cond.methodLink "WalkFenceModel" 610 y_MD_qGoesOnTest, Cond.methodLink "WalkFenceModel" 613 y_MD_qHasSquare, Cond.methodLink "WalkFenceModel" 620 y_MD_qClip, Cond.methodLink "WalkFenceModel" 624 y_MD_qFloor, Cond.methodLink "WalkFenceModel" 630 y_MD_qOf, Cond.methodLink "WalkFenceModel" 642 y_MD_qKind, Cond.methodLink "WalkFenceModel" 645 y_MD_qTold, Cond.methodLink "WalkFenceModel" 649 y_MD_qTakes, Cond.methodLink "WalkFenceModel" 656 y_MD_writes, Cond.methodLink "WalkFenceModel" 659 y_MD_checked]
set_option maxRecDepth 100000 in
theorem wl_47_ok : ∀ w ∈ wl_47, w ∈ tw := tw_qs [1716, 1748, 1752, 1764, 1771, 1775, 1732, 1760, 1720, 1779, 1783, 1787, 1907, 1912, 2107, 2098, 2103, 2111, 2119, 2123] (by decide +kernel) (by decide +kernel)
def wl_48 : List Cond := [Cond.methodLink "WalkFenceModel" 663 y_MD_arePostsTold, Cond.methodLink "WalkFenceModel" 666 y_MD_isFenceTold, Cond.methodLink "WalkFenceModel" 669 y_MD_isImage]
set_option maxRecDepth 100000 in
theorem wl_48_ok : ∀ w ∈ wl_48, w ∈ tw := tw_qs [2138, 2142, 2134] (by decide +kernel) (by decide +kernel)
set_option maxRecDepth 100000 in
theorem n_WF_init : m_nm y_WF_init M_WF_init 0 := ⟨List.mem_filter.mpr ⟨List.mem_of_getElem? (i := 169) rfl, rfl⟩, tw_c 11 wl_0_ok rfl, rfl, by decide, by decide, by decide +kernel⟩
theorem i_WF_init : Cond.instanceMethod y_WF_init ∈ tw := tw_c 15 wl_2_ok rfl
set_option maxRecDepth 100000 in
theorem n_Tape_init : m_nm y_Tape_init M_Tape_init 0 := ⟨List.mem_filter.mpr ⟨List.mem_of_getElem? (i := 177) rfl, rfl⟩, tw_c 9 wl_0_ok rfl, rfl, by decide, by decide, by decide +kernel⟩
theorem i_Tape_init : Cond.instanceMethod y_Tape_init ∈ tw := tw_c 16 wl_2_ok rfl
set_option maxRecDepth 100000 in
theorem n_Slope_init : m_nm y_Slope_init M_Slope_init 0 := ⟨List.mem_filter.mpr ⟨List.mem_of_getElem? (i := 196) rfl, rfl⟩, tw_c 8 wl_0_ok rfl, rfl, by decide, by decide, by decide +kernel⟩
theorem i_Slope_init : Cond.instanceMethod y_Slope_init ∈ tw := tw_c 17 wl_2_ok rfl
set_option maxRecDepth 100000 in
theorem n_Lay_init : m_nm y_Lay_init M_Lay_init 0 := ⟨List.mem_filter.mpr ⟨List.mem_of_getElem? (i := 202) rfl, rfl⟩, tw_c 3 wl_0_ok rfl, rfl, by decide, by decide, by decide +kernel⟩
theorem i_Lay_init : Cond.instanceMethod y_Lay_init ∈ tw := tw_c 18 wl_2_ok rfl
set_option maxRecDepth 100000 in
theorem n_Arrays_fill : m_nm y_Arrays_fill M_Arrays_fill 2 := ⟨List.mem_filter.mpr ⟨List.mem_of_getElem? (i := 206) rfl, rfl⟩, tw_c 16 wl_0_ok rfl, rfl, by decide, by decide, by decide +kernel⟩
theorem s_Arrays_fill : Cond.static y_Arrays_fill ∈ tw := tw_c 19 wl_2_ok rfl
set_option maxRecDepth 100000 in
theorem n_Reader_init : m_nm y_Reader_init M_Reader_init 2 := ⟨List.mem_filter.mpr ⟨List.mem_of_getElem? (i := 310) rfl, rfl⟩, tw_c 5 wl_0_ok rfl, rfl, by decide, by decide, by decide +kernel⟩
theorem i_Reader_init : Cond.instanceMethod y_Reader_init ∈ tw := tw_c 0 wl_3_ok rfl
set_option maxRecDepth 100000 in
theorem n_Walker_init : m_nm y_Walker_init M_Walker_init 1 := ⟨List.mem_filter.mpr ⟨List.mem_of_getElem? (i := 361) rfl, rfl⟩, tw_c 10 wl_0_ok rfl, rfl, by decide, by decide, by decide +kernel⟩
theorem i_Walker_init : Cond.instanceMethod y_Walker_init ∈ tw := tw_c 1 wl_3_ok rfl
set_option maxRecDepth 100000 in
theorem n_Reckoner_init : m_nm y_Reckoner_init M_Reckoner_init 0 := ⟨List.mem_filter.mpr ⟨List.mem_of_getElem? (i := 367) rfl, rfl⟩, tw_c 6 wl_0_ok rfl, rfl, by decide, by decide, by decide +kernel⟩
theorem i_Reckoner_init : Cond.instanceMethod y_Reckoner_init ∈ tw := tw_c 2 wl_3_ok rfl
set_option maxRecDepth 100000 in
theorem n_Foresight_init : m_nm y_Foresight_init M_Foresight_init 2 := ⟨List.mem_filter.mpr ⟨List.mem_of_getElem? (i := 398) rfl, rfl⟩, tw_c 0 wl_0_ok rfl, rfl, by decide, by decide, by decide +kernel⟩
theorem i_Foresight_init : Cond.instanceMethod y_Foresight_init ∈ tw := tw_c 3 wl_3_ok rfl
set_option maxRecDepth 100000 in
theorem n_Log_init : m_nm y_Log_init M_Log_init 0 := ⟨List.mem_filter.mpr ⟨List.mem_of_getElem? (i := 471) rfl, rfl⟩, tw_c 4 wl_0_ok rfl, rfl, by decide, by decide, by decide +kernel⟩
theorem i_Log_init : Cond.instanceMethod y_Log_init ∈ tw := tw_c 4 wl_3_ok rfl
set_option maxRecDepth 100000 in
theorem n_History_init : m_nm y_History_init M_History_init 0 := ⟨List.mem_filter.mpr ⟨List.mem_of_getElem? (i := 488) rfl, rfl⟩, tw_c 1 wl_0_ok rfl, rfl, by decide, by decide, by decide +kernel⟩
theorem i_History_init : Cond.instanceMethod y_History_init ∈ tw := tw_c 5 wl_3_ok rfl
set_option maxRecDepth 100000 in
theorem n_Seen_init : m_nm y_Seen_init M_Seen_init 0 := ⟨List.mem_filter.mpr ⟨List.mem_of_getElem? (i := 514) rfl, rfl⟩, tw_c 7 wl_0_ok rfl, rfl, by decide, by decide, by decide +kernel⟩
theorem i_Seen_init : Cond.instanceMethod y_Seen_init ∈ tw := tw_c 6 wl_3_ok rfl
set_option maxRecDepth 100000 in
theorem n_Image_init : m_nm y_Image_init M_Image_init 0 := ⟨List.mem_filter.mpr ⟨List.mem_of_getElem? (i := 534) rfl, rfl⟩, tw_c 2 wl_0_ok rfl, rfl, by decide, by decide, by decide +kernel⟩
theorem i_Image_init : Cond.instanceMethod y_Image_init ∈ tw := tw_c 7 wl_3_ok rfl
set_option maxRecDepth 100000 in
theorem n_WF_feed : m_nm y_WF_feed M_WF_feed 5 := ⟨List.mem_filter.mpr ⟨List.mem_of_getElem? (i := 588) rfl, rfl⟩, tw_c 11 wl_0_ok rfl, rfl, by decide, by decide, by decide +kernel⟩
theorem v_WF_feed : Cond.instanceMethod y_WF_feed ∈ tw ∧ Cond.selects y_WF_feed.cls y_WF_feed y_WF_feed ∈ tw := ⟨tw_c 8 wl_3_ok rfl, tw_c 9 wl_3_ok rfl⟩
set_option maxRecDepth 100000 in
theorem n_WF_refuse : m_nm y_WF_refuse M_WF_refuse 1 := ⟨List.mem_filter.mpr ⟨List.mem_of_getElem? (i := 592) rfl, rfl⟩, tw_c 11 wl_0_ok rfl, rfl, by decide, by decide, by decide +kernel⟩
theorem v_WF_refuse : Cond.instanceMethod y_WF_refuse ∈ tw ∧ Cond.selects y_WF_refuse.cls y_WF_refuse y_WF_refuse ∈ tw := ⟨tw_c 10 wl_3_ok rfl, tw_c 11 wl_3_ok rfl⟩
set_option maxRecDepth 100000 in
theorem n_Tape_append : m_nm y_Tape_append M_Tape_append 1 := ⟨List.mem_filter.mpr ⟨List.mem_of_getElem? (i := 596) rfl, rfl⟩, tw_c 9 wl_0_ok rfl, rfl, by decide, by decide, by decide +kernel⟩
theorem v_Tape_append : Cond.instanceMethod y_Tape_append ∈ tw ∧ Cond.selects y_Tape_append.cls y_Tape_append y_Tape_append ∈ tw := ⟨tw_c 12 wl_3_ok rfl, tw_c 13 wl_3_ok rfl⟩
set_option maxRecDepth 100000 in
theorem n_WF_end : m_nm y_WF_end M_WF_end 1 := ⟨List.mem_filter.mpr ⟨List.mem_of_getElem? (i := 600) rfl, rfl⟩, tw_c 11 wl_0_ok rfl, rfl, by decide, by decide, by decide +kernel⟩
theorem v_WF_end : Cond.instanceMethod y_WF_end ∈ tw ∧ Cond.selects y_WF_end.cls y_WF_end y_WF_end ∈ tw := ⟨tw_c 14 wl_3_ok rfl, tw_c 15 wl_3_ok rfl⟩
set_option maxRecDepth 100000 in
theorem n_WF_slope : m_nm y_WF_slope M_WF_slope 0 := ⟨List.mem_filter.mpr ⟨List.mem_of_getElem? (i := 604) rfl, rfl⟩, tw_c 11 wl_0_ok rfl, rfl, by decide, by decide, by decide +kernel⟩
theorem v_WF_slope : Cond.instanceMethod y_WF_slope ∈ tw ∧ Cond.selects y_WF_slope.cls y_WF_slope y_WF_slope ∈ tw := ⟨tw_c 16 wl_3_ok rfl, tw_c 17 wl_3_ok rfl⟩
set_option maxRecDepth 100000 in
theorem n_Reader_readSlope : m_nm y_Reader_readSlope M_Reader_readSlope 1 := ⟨List.mem_filter.mpr ⟨List.mem_of_getElem? (i := 608) rfl, rfl⟩, tw_c 5 wl_0_ok rfl, rfl, by decide, by decide, by decide +kernel⟩
theorem v_Reader_readSlope : Cond.instanceMethod y_Reader_readSlope ∈ tw ∧ Cond.selects y_Reader_readSlope.cls y_Reader_readSlope y_Reader_readSlope ∈ tw := ⟨tw_c 18 wl_3_ok rfl, tw_c 19 wl_3_ok rfl⟩
set_option maxRecDepth 100000 in
theorem n_Reader_begin : m_nm y_Reader_begin M_Reader_begin 1 := ⟨List.mem_filter.mpr ⟨List.mem_of_getElem? (i := 612) rfl, rfl⟩, tw_c 5 wl_0_ok rfl, rfl, by decide, by decide, by decide +kernel⟩
theorem v_Reader_begin : Cond.instanceMethod y_Reader_begin ∈ tw ∧ Cond.selects y_Reader_begin.cls y_Reader_begin y_Reader_begin ∈ tw := ⟨tw_c 0 wl_4_ok rfl, tw_c 1 wl_4_ok rfl⟩
set_option maxRecDepth 100000 in
theorem n_Reader_advance : m_nm y_Reader_advance M_Reader_advance 0 := ⟨List.mem_filter.mpr ⟨List.mem_of_getElem? (i := 616) rfl, rfl⟩, tw_c 5 wl_0_ok rfl, rfl, by decide, by decide, by decide +kernel⟩
theorem v_Reader_advance : Cond.instanceMethod y_Reader_advance ∈ tw ∧ Cond.selects y_Reader_advance.cls y_Reader_advance y_Reader_advance ∈ tw := ⟨tw_c 2 wl_4_ok rfl, tw_c 3 wl_4_ok rfl⟩
set_option maxRecDepth 100000 in
theorem n_Tape_byteAt : m_nm y_Tape_byteAt M_Tape_byteAt 1 := ⟨List.mem_filter.mpr ⟨List.mem_of_getElem? (i := 620) rfl, rfl⟩, tw_c 9 wl_0_ok rfl, rfl, by decide, by decide, by decide +kernel⟩
theorem v_Tape_byteAt : Cond.instanceMethod y_Tape_byteAt ∈ tw ∧ Cond.selects y_Tape_byteAt.cls y_Tape_byteAt y_Tape_byteAt ∈ tw := ⟨tw_c 4 wl_4_ok rfl, tw_c 5 wl_4_ok rfl⟩
set_option maxRecDepth 100000 in
theorem n_Reader_isBlank : m_nm y_Reader_isBlank M_Reader_isBlank 1 := ⟨List.mem_filter.mpr ⟨List.mem_of_getElem? (i := 623) rfl, rfl⟩, tw_c 5 wl_0_ok rfl, rfl, by decide, by decide, by decide +kernel⟩
theorem s_Reader_isBlank : Cond.static y_Reader_isBlank ∈ tw := tw_c 6 wl_4_ok rfl
set_option maxRecDepth 100000 in
theorem n_Reader_isLetter : m_nm y_Reader_isLetter M_Reader_isLetter 1 := ⟨List.mem_filter.mpr ⟨List.mem_of_getElem? (i := 626) rfl, rfl⟩, tw_c 5 wl_0_ok rfl, rfl, by decide, by decide, by decide +kernel⟩
theorem s_Reader_isLetter : Cond.static y_Reader_isLetter ∈ tw := tw_c 7 wl_4_ok rfl
set_option maxRecDepth 100000 in
theorem n_Reader_wordNumber : m_nm y_Reader_wordNumber M_Reader_wordNumber 0 := ⟨List.mem_filter.mpr ⟨List.mem_of_getElem? (i := 630) rfl, rfl⟩, tw_c 5 wl_0_ok rfl, rfl, by decide, by decide, by decide +kernel⟩
theorem v_Reader_wordNumber : Cond.instanceMethod y_Reader_wordNumber ∈ tw ∧ Cond.selects y_Reader_wordNumber.cls y_Reader_wordNumber y_Reader_wordNumber ∈ tw := ⟨tw_c 8 wl_4_ok rfl, tw_c 9 wl_4_ok rfl⟩
set_option maxRecDepth 100000 in
theorem n_Reader_isDigit : m_nm y_Reader_isDigit M_Reader_isDigit 1 := ⟨List.mem_filter.mpr ⟨List.mem_of_getElem? (i := 682) rfl, rfl⟩, tw_c 5 wl_0_ok rfl, rfl, by decide, by decide, by decide +kernel⟩
theorem s_Reader_isDigit : Cond.static y_Reader_isDigit ∈ tw := tw_c 10 wl_4_ok rfl
set_option maxRecDepth 100000 in
theorem n_Slope_clear : m_nm y_Slope_clear M_Slope_clear 0 := ⟨List.mem_filter.mpr ⟨List.mem_of_getElem? (i := 686) rfl, rfl⟩, tw_c 8 wl_0_ok rfl, rfl, by decide, by decide, by decide +kernel⟩
theorem v_Slope_clear : Cond.instanceMethod y_Slope_clear ∈ tw ∧ Cond.selects y_Slope_clear.cls y_Slope_clear y_Slope_clear ∈ tw := ⟨tw_c 11 wl_4_ok rfl, tw_c 12 wl_4_ok rfl⟩
set_option maxRecDepth 100000 in
theorem n_Lay_clear : m_nm y_Lay_clear M_Lay_clear 0 := ⟨List.mem_filter.mpr ⟨List.mem_of_getElem? (i := 690) rfl, rfl⟩, tw_c 3 wl_0_ok rfl, rfl, by decide, by decide, by decide +kernel⟩
theorem v_Lay_clear : Cond.instanceMethod y_Lay_clear ∈ tw ∧ Cond.selects y_Lay_clear.cls y_Lay_clear y_Lay_clear ∈ tw := ⟨tw_c 13 wl_4_ok rfl, tw_c 14 wl_4_ok rfl⟩
set_option maxRecDepth 100000 in
theorem n_Reader_slopeLine : m_nm y_Reader_slopeLine M_Reader_slopeLine 0 := ⟨List.mem_filter.mpr ⟨List.mem_of_getElem? (i := 695) rfl, rfl⟩, tw_c 5 wl_0_ok rfl, rfl, by decide, by decide, by decide +kernel⟩
theorem v_Reader_slopeLine : Cond.instanceMethod y_Reader_slopeLine ∈ tw ∧ Cond.selects y_Reader_slopeLine.cls y_Reader_slopeLine y_Reader_slopeLine ∈ tw := ⟨tw_c 15 wl_4_ok rfl, tw_c 16 wl_4_ok rfl⟩
set_option maxRecDepth 100000 in
theorem n_Reader_needWord : m_nm y_Reader_needWord M_Reader_needWord 1 := ⟨List.mem_filter.mpr ⟨List.mem_of_getElem? (i := 699) rfl, rfl⟩, tw_c 5 wl_0_ok rfl, rfl, by decide, by decide, by decide +kernel⟩
theorem v_Reader_needWord : Cond.instanceMethod y_Reader_needWord ∈ tw ∧ Cond.selects y_Reader_needWord.cls y_Reader_needWord y_Reader_needWord ∈ tw := ⟨tw_c 17 wl_4_ok rfl, tw_c 18 wl_4_ok rfl⟩
set_option maxRecDepth 100000 in
theorem n_Reader_isWord : m_nm y_Reader_isWord M_Reader_isWord 1 := ⟨List.mem_filter.mpr ⟨List.mem_of_getElem? (i := 703) rfl, rfl⟩, tw_c 5 wl_0_ok rfl, rfl, by decide, by decide, by decide +kernel⟩
theorem v_Reader_isWord : Cond.instanceMethod y_Reader_isWord ∈ tw ∧ Cond.selects y_Reader_isWord.cls y_Reader_isWord y_Reader_isWord ∈ tw := ⟨tw_c 19 wl_4_ok rfl, tw_c 0 wl_5_ok rfl⟩
set_option maxRecDepth 100000 in
theorem n_Reader_wrong : m_nm y_Reader_wrong M_Reader_wrong 2 := ⟨List.mem_filter.mpr ⟨List.mem_of_getElem? (i := 707) rfl, rfl⟩, tw_c 5 wl_0_ok rfl, rfl, by decide, by decide, by decide +kernel⟩
theorem v_Reader_wrong : Cond.instanceMethod y_Reader_wrong ∈ tw ∧ Cond.selects y_Reader_wrong.cls y_Reader_wrong y_Reader_wrong ∈ tw := ⟨tw_c 1 wl_5_ok rfl, tw_c 2 wl_5_ok rfl⟩
set_option maxRecDepth 100000 in
theorem n_Reader_number : m_nm y_Reader_number M_Reader_number 2 := ⟨List.mem_filter.mpr ⟨List.mem_of_getElem? (i := 711) rfl, rfl⟩, tw_c 5 wl_0_ok rfl, rfl, by decide, by decide, by decide +kernel⟩
theorem v_Reader_number : Cond.instanceMethod y_Reader_number ∈ tw ∧ Cond.selects y_Reader_number.cls y_Reader_number y_Reader_number ∈ tw := ⟨tw_c 3 wl_5_ok rfl, tw_c 4 wl_5_ok rfl⟩
set_option maxRecDepth 100000 in
theorem n_Reader_need : m_nm y_Reader_need M_Reader_need 1 := ⟨List.mem_filter.mpr ⟨List.mem_of_getElem? (i := 715) rfl, rfl⟩, tw_c 5 wl_0_ok rfl, rfl, by decide, by decide, by decide +kernel⟩
theorem v_Reader_need : Cond.instanceMethod y_Reader_need ∈ tw ∧ Cond.selects y_Reader_need.cls y_Reader_need y_Reader_need ∈ tw := ⟨tw_c 5 wl_5_ok rfl, tw_c 6 wl_5_ok rfl⟩
set_option maxRecDepth 100000 in
theorem n_Reader_steepLine : m_nm y_Reader_steepLine M_Reader_steepLine 0 := ⟨List.mem_filter.mpr ⟨List.mem_of_getElem? (i := 719) rfl, rfl⟩, tw_c 5 wl_0_ok rfl, rfl, by decide, by decide, by decide +kernel⟩
theorem v_Reader_steepLine : Cond.instanceMethod y_Reader_steepLine ∈ tw ∧ Cond.selects y_Reader_steepLine.cls y_Reader_steepLine y_Reader_steepLine ∈ tw := ⟨tw_c 7 wl_5_ok rfl, tw_c 8 wl_5_ok rfl⟩
set_option maxRecDepth 100000 in
theorem n_Reader_ironLine : m_nm y_Reader_ironLine M_Reader_ironLine 0 := ⟨List.mem_filter.mpr ⟨List.mem_of_getElem? (i := 723) rfl, rfl⟩, tw_c 5 wl_0_ok rfl, rfl, by decide, by decide, by decide +kernel⟩
theorem v_Reader_ironLine : Cond.instanceMethod y_Reader_ironLine ∈ tw ∧ Cond.selects y_Reader_ironLine.cls y_Reader_ironLine y_Reader_ironLine ∈ tw := ⟨tw_c 9 wl_5_ok rfl, tw_c 10 wl_5_ok rfl⟩
set_option maxRecDepth 100000 in
theorem n_Lay_countPosts : m_nm y_Lay_countPosts M_Lay_countPosts 0 := ⟨List.mem_filter.mpr ⟨List.mem_of_getElem? (i := 727) rfl, rfl⟩, tw_c 3 wl_0_ok rfl, rfl, by decide, by decide, by decide +kernel⟩
theorem v_Lay_countPosts : Cond.instanceMethod y_Lay_countPosts ∈ tw ∧ Cond.selects y_Lay_countPosts.cls y_Lay_countPosts y_Lay_countPosts ∈ tw := ⟨tw_c 11 wl_5_ok rfl, tw_c 12 wl_5_ok rfl⟩
set_option maxRecDepth 100000 in
theorem n_Integer_bitCount : m_nm y_Integer_bitCount M_Integer_bitCount 1 := ⟨List.mem_filter.mpr ⟨List.mem_of_getElem? (i := 730) rfl, rfl⟩, tw_c 14 wl_0_ok rfl, rfl, by decide, by decide, by decide +kernel⟩
theorem s_Integer_bitCount : Cond.static y_Integer_bitCount ∈ tw := tw_c 13 wl_5_ok rfl
set_option maxRecDepth 100000 in
theorem n_Lay_hasPost : m_nm y_Lay_hasPost M_Lay_hasPost 2 := ⟨List.mem_filter.mpr ⟨List.mem_of_getElem? (i := 737) rfl, rfl⟩, tw_c 3 wl_0_ok rfl, rfl, by decide, by decide, by decide +kernel⟩
theorem v_Lay_hasPost : Cond.instanceMethod y_Lay_hasPost ∈ tw ∧ Cond.selects y_Lay_hasPost.cls y_Lay_hasPost y_Lay_hasPost ∈ tw := ⟨tw_c 14 wl_5_ok rfl, tw_c 15 wl_5_ok rfl⟩
set_option maxRecDepth 100000 in
theorem n_Lay_postsOf : m_nm y_Lay_postsOf M_Lay_postsOf 1 := ⟨List.mem_filter.mpr ⟨List.mem_of_getElem? (i := 741) rfl, rfl⟩, tw_c 3 wl_0_ok rfl, rfl, by decide, by decide, by decide +kernel⟩
theorem v_Lay_postsOf : Cond.instanceMethod y_Lay_postsOf ∈ tw ∧ Cond.selects y_Lay_postsOf.cls y_Lay_postsOf y_Lay_postsOf ∈ tw := ⟨tw_c 16 wl_5_ok rfl, tw_c 17 wl_5_ok rfl⟩
set_option maxRecDepth 100000 in
theorem n_Lay_drive : m_nm y_Lay_drive M_Lay_drive 2 := ⟨List.mem_filter.mpr ⟨List.mem_of_getElem? (i := 745) rfl, rfl⟩, tw_c 3 wl_0_ok rfl, rfl, by decide, by decide, by decide +kernel⟩
theorem v_Lay_drive : Cond.instanceMethod y_Lay_drive ∈ tw ∧ Cond.selects y_Lay_drive.cls y_Lay_drive y_Lay_drive ∈ tw := ⟨tw_c 18 wl_5_ok rfl, tw_c 19 wl_5_ok rfl⟩
set_option maxRecDepth 100000 in
theorem n_Reader_fenceLine : m_nm y_Reader_fenceLine M_Reader_fenceLine 0 := ⟨List.mem_filter.mpr ⟨List.mem_of_getElem? (i := 749) rfl, rfl⟩, tw_c 5 wl_0_ok rfl, rfl, by decide, by decide, by decide +kernel⟩
theorem v_Reader_fenceLine : Cond.instanceMethod y_Reader_fenceLine ∈ tw ∧ Cond.selects y_Reader_fenceLine.cls y_Reader_fenceLine y_Reader_fenceLine ∈ tw := ⟨tw_c 0 wl_6_ok rfl, tw_c 1 wl_6_ok rfl⟩
set_option maxRecDepth 100000 in
theorem n_Reader_name : m_nm y_Reader_name M_Reader_name 0 := ⟨List.mem_filter.mpr ⟨List.mem_of_getElem? (i := 753) rfl, rfl⟩, tw_c 5 wl_0_ok rfl, rfl, by decide, by decide, by decide +kernel⟩
theorem v_Reader_name : Cond.instanceMethod y_Reader_name ∈ tw ∧ Cond.selects y_Reader_name.cls y_Reader_name y_Reader_name ∈ tw := ⟨tw_c 2 wl_6_ok rfl, tw_c 3 wl_6_ok rfl⟩
set_option maxRecDepth 100000 in
theorem n_Reader_named : m_nm y_Reader_named M_Reader_named 0 := ⟨List.mem_filter.mpr ⟨List.mem_of_getElem? (i := 757) rfl, rfl⟩, tw_c 5 wl_0_ok rfl, rfl, by decide, by decide, by decide +kernel⟩
theorem v_Reader_named : Cond.instanceMethod y_Reader_named ∈ tw ∧ Cond.selects y_Reader_named.cls y_Reader_named y_Reader_named ∈ tw := ⟨tw_c 4 wl_6_ok rfl, tw_c 5 wl_6_ok rfl⟩
set_option maxRecDepth 100000 in
theorem n_Reader_letterAt : m_nm y_Reader_letterAt M_Reader_letterAt 1 := ⟨List.mem_filter.mpr ⟨List.mem_of_getElem? (i := 761) rfl, rfl⟩, tw_c 5 wl_0_ok rfl, rfl, by decide, by decide, by decide +kernel⟩
theorem v_Reader_letterAt : Cond.instanceMethod y_Reader_letterAt ∈ tw ∧ Cond.selects y_Reader_letterAt.cls y_Reader_letterAt y_Reader_letterAt ∈ tw := ⟨tw_c 6 wl_6_ok rfl, tw_c 7 wl_6_ok rfl⟩
set_option maxRecDepth 100000 in
theorem n_Lay_putStake : m_nm y_Lay_putStake M_Lay_putStake 3 := ⟨List.mem_filter.mpr ⟨List.mem_of_getElem? (i := 765) rfl, rfl⟩, tw_c 3 wl_0_ok rfl, rfl, by decide, by decide, by decide +kernel⟩
theorem v_Lay_putStake : Cond.instanceMethod y_Lay_putStake ∈ tw ∧ Cond.selects y_Lay_putStake.cls y_Lay_putStake y_Lay_putStake ∈ tw := ⟨tw_c 8 wl_6_ok rfl, tw_c 9 wl_6_ok rfl⟩
set_option maxRecDepth 100000 in
theorem n_Lay_isStake : m_nm y_Lay_isStake M_Lay_isStake 2 := ⟨List.mem_filter.mpr ⟨List.mem_of_getElem? (i := 768) rfl, rfl⟩, tw_c 3 wl_0_ok rfl, rfl, by decide, by decide, by decide +kernel⟩
theorem s_Lay_isStake : Cond.static y_Lay_isStake ∈ tw := tw_c 10 wl_6_ok rfl
set_option maxRecDepth 100000 in
theorem n_Lay_putAge : m_nm y_Lay_putAge M_Lay_putAge 2 := ⟨List.mem_filter.mpr ⟨List.mem_of_getElem? (i := 772) rfl, rfl⟩, tw_c 3 wl_0_ok rfl, rfl, by decide, by decide, by decide +kernel⟩
theorem v_Lay_putAge : Cond.instanceMethod y_Lay_putAge ∈ tw ∧ Cond.selects y_Lay_putAge.cls y_Lay_putAge y_Lay_putAge ∈ tw := ⟨tw_c 11 wl_6_ok rfl, tw_c 12 wl_6_ok rfl⟩
set_option maxRecDepth 100000 in
theorem n_Reader_stakeLine : m_nm y_Reader_stakeLine M_Reader_stakeLine 0 := ⟨List.mem_filter.mpr ⟨List.mem_of_getElem? (i := 776) rfl, rfl⟩, tw_c 5 wl_0_ok rfl, rfl, by decide, by decide, by decide +kernel⟩
theorem v_Reader_stakeLine : Cond.instanceMethod y_Reader_stakeLine ∈ tw ∧ Cond.selects y_Reader_stakeLine.cls y_Reader_stakeLine y_Reader_stakeLine ∈ tw := ⟨tw_c 13 wl_6_ok rfl, tw_c 14 wl_6_ok rfl⟩
set_option maxRecDepth 100000 in
theorem n_Reader_walksLine : m_nm y_Reader_walksLine M_Reader_walksLine 0 := ⟨List.mem_filter.mpr ⟨List.mem_of_getElem? (i := 780) rfl, rfl⟩, tw_c 5 wl_0_ok rfl, rfl, by decide, by decide, by decide +kernel⟩
theorem v_Reader_walksLine : Cond.instanceMethod y_Reader_walksLine ∈ tw ∧ Cond.selects y_Reader_walksLine.cls y_Reader_walksLine y_Reader_walksLine ∈ tw := ⟨tw_c 15 wl_6_ok rfl, tw_c 16 wl_6_ok rfl⟩
set_option maxRecDepth 100000 in
theorem n_Reader_sum : m_nm y_Reader_sum M_Reader_sum 1 := ⟨List.mem_filter.mpr ⟨List.mem_of_getElem? (i := 784) rfl, rfl⟩, tw_c 5 wl_0_ok rfl, rfl, by decide, by decide, by decide +kernel⟩
theorem v_Reader_sum : Cond.instanceMethod y_Reader_sum ∈ tw ∧ Cond.selects y_Reader_sum.cls y_Reader_sum y_Reader_sum ∈ tw := ⟨tw_c 17 wl_6_ok rfl, tw_c 18 wl_6_ok rfl⟩
set_option maxRecDepth 100000 in
theorem n_Reader_product : m_nm y_Reader_product M_Reader_product 1 := ⟨List.mem_filter.mpr ⟨List.mem_of_getElem? (i := 788) rfl, rfl⟩, tw_c 5 wl_0_ok rfl, rfl, by decide, by decide, by decide +kernel⟩
theorem v_Reader_product : Cond.instanceMethod y_Reader_product ∈ tw ∧ Cond.selects y_Reader_product.cls y_Reader_product y_Reader_product ∈ tw := ⟨tw_c 19 wl_6_ok rfl, tw_c 0 wl_7_ok rfl⟩
set_option maxRecDepth 100000 in
theorem n_Reader_part : m_nm y_Reader_part M_Reader_part 1 := ⟨List.mem_filter.mpr ⟨List.mem_of_getElem? (i := 792) rfl, rfl⟩, tw_c 5 wl_0_ok rfl, rfl, by decide, by decide, by decide +kernel⟩
theorem v_Reader_part : Cond.instanceMethod y_Reader_part ∈ tw ∧ Cond.selects y_Reader_part.cls y_Reader_part y_Reader_part ∈ tw := ⟨tw_c 1 wl_7_ok rfl, tw_c 2 wl_7_ok rfl⟩
set_option maxRecDepth 100000 in
theorem n_Reader_emit : m_nm y_Reader_emit M_Reader_emit 1 := ⟨List.mem_filter.mpr ⟨List.mem_of_getElem? (i := 796) rfl, rfl⟩, tw_c 5 wl_0_ok rfl, rfl, by decide, by decide, by decide +kernel⟩
theorem v_Reader_emit : Cond.instanceMethod y_Reader_emit ∈ tw ∧ Cond.selects y_Reader_emit.cls y_Reader_emit y_Reader_emit ∈ tw := ⟨tw_c 3 wl_7_ok rfl, tw_c 4 wl_7_ok rfl⟩
set_option maxRecDepth 100000 in
theorem n_Reader_opens : m_nm y_Reader_opens M_Reader_opens 1 := ⟨List.mem_filter.mpr ⟨List.mem_of_getElem? (i := 800) rfl, rfl⟩, tw_c 5 wl_0_ok rfl, rfl, by decide, by decide, by decide +kernel⟩
theorem v_Reader_opens : Cond.instanceMethod y_Reader_opens ∈ tw ∧ Cond.selects y_Reader_opens.cls y_Reader_opens y_Reader_opens ∈ tw := ⟨tw_c 5 wl_7_ok rfl, tw_c 6 wl_7_ok rfl⟩
set_option maxRecDepth 100000 in
theorem n_Reader_rootsLine : m_nm y_Reader_rootsLine M_Reader_rootsLine 0 := ⟨List.mem_filter.mpr ⟨List.mem_of_getElem? (i := 804) rfl, rfl⟩, tw_c 5 wl_0_ok rfl, rfl, by decide, by decide, by decide +kernel⟩
theorem v_Reader_rootsLine : Cond.instanceMethod y_Reader_rootsLine ∈ tw ∧ Cond.selects y_Reader_rootsLine.cls y_Reader_rootsLine y_Reader_rootsLine ∈ tw := ⟨tw_c 7 wl_7_ok rfl, tw_c 8 wl_7_ok rfl⟩
set_option maxRecDepth 100000 in
theorem n_Reader_test : m_nm y_Reader_test M_Reader_test 1 := ⟨List.mem_filter.mpr ⟨List.mem_of_getElem? (i := 808) rfl, rfl⟩, tw_c 5 wl_0_ok rfl, rfl, by decide, by decide, by decide +kernel⟩
theorem v_Reader_test : Cond.instanceMethod y_Reader_test ∈ tw ∧ Cond.selects y_Reader_test.cls y_Reader_test y_Reader_test ∈ tw := ⟨tw_c 9 wl_7_ok rfl, tw_c 10 wl_7_ok rfl⟩
set_option maxRecDepth 100000 in
theorem n_Reader_both : m_nm y_Reader_both M_Reader_both 1 := ⟨List.mem_filter.mpr ⟨List.mem_of_getElem? (i := 812) rfl, rfl⟩, tw_c 5 wl_0_ok rfl, rfl, by decide, by decide, by decide +kernel⟩
theorem v_Reader_both : Cond.instanceMethod y_Reader_both ∈ tw ∧ Cond.selects y_Reader_both.cls y_Reader_both y_Reader_both ∈ tw := ⟨tw_c 11 wl_7_ok rfl, tw_c 12 wl_7_ok rfl⟩
set_option maxRecDepth 100000 in
theorem n_Reader_fact : m_nm y_Reader_fact M_Reader_fact 1 := ⟨List.mem_filter.mpr ⟨List.mem_of_getElem? (i := 816) rfl, rfl⟩, tw_c 5 wl_0_ok rfl, rfl, by decide, by decide, by decide +kernel⟩
theorem v_Reader_fact : Cond.instanceMethod y_Reader_fact ∈ tw ∧ Cond.selects y_Reader_fact.cls y_Reader_fact y_Reader_fact ∈ tw := ⟨tw_c 13 wl_7_ok rfl, tw_c 14 wl_7_ok rfl⟩
set_option maxRecDepth 100000 in
theorem n_Reader_tideLine : m_nm y_Reader_tideLine M_Reader_tideLine 0 := ⟨List.mem_filter.mpr ⟨List.mem_of_getElem? (i := 820) rfl, rfl⟩, tw_c 5 wl_0_ok rfl, rfl, by decide, by decide, by decide +kernel⟩
theorem v_Reader_tideLine : Cond.instanceMethod y_Reader_tideLine ∈ tw ∧ Cond.selects y_Reader_tideLine.cls y_Reader_tideLine y_Reader_tideLine ∈ tw := ⟨tw_c 15 wl_7_ok rfl, tw_c 16 wl_7_ok rfl⟩
set_option maxRecDepth 100000 in
theorem n_WF_beginAnew : m_nm y_WF_beginAnew M_WF_beginAnew 1 := ⟨List.mem_filter.mpr ⟨List.mem_of_getElem? (i := 824) rfl, rfl⟩, tw_c 11 wl_0_ok rfl, rfl, by decide, by decide, by decide +kernel⟩
theorem v_WF_beginAnew : Cond.instanceMethod y_WF_beginAnew ∈ tw ∧ Cond.selects y_WF_beginAnew.cls y_WF_beginAnew y_WF_beginAnew ∈ tw := ⟨tw_c 17 wl_7_ok rfl, tw_c 18 wl_7_ok rfl⟩
set_option maxRecDepth 100000 in
theorem n_Lay_takeFrom : m_nm y_Lay_takeFrom M_Lay_takeFrom 1 := ⟨List.mem_filter.mpr ⟨List.mem_of_getElem? (i := 828) rfl, rfl⟩, tw_c 3 wl_0_ok rfl, rfl, by decide, by decide, by decide +kernel⟩
theorem v_Lay_takeFrom : Cond.instanceMethod y_Lay_takeFrom ∈ tw ∧ Cond.selects y_Lay_takeFrom.cls y_Lay_takeFrom y_Lay_takeFrom ∈ tw := ⟨tw_c 19 wl_7_ok rfl, tw_c 0 wl_8_ok rfl⟩
set_option maxRecDepth 100000 in
theorem n_Log_clear : m_nm y_Log_clear M_Log_clear 0 := ⟨List.mem_filter.mpr ⟨List.mem_of_getElem? (i := 835) rfl, rfl⟩, tw_c 4 wl_0_ok rfl, rfl, by decide, by decide, by decide +kernel⟩
theorem v_Log_clear : Cond.instanceMethod y_Log_clear ∈ tw ∧ Cond.selects y_Log_clear.cls y_Log_clear y_Log_clear ∈ tw := ⟨tw_c 1 wl_8_ok rfl, tw_c 2 wl_8_ok rfl⟩
set_option maxRecDepth 100000 in
theorem n_History_clear : m_nm y_History_clear M_History_clear 0 := ⟨List.mem_filter.mpr ⟨List.mem_of_getElem? (i := 839) rfl, rfl⟩, tw_c 1 wl_0_ok rfl, rfl, by decide, by decide, by decide +kernel⟩
theorem v_History_clear : Cond.instanceMethod y_History_clear ∈ tw ∧ Cond.selects y_History_clear.cls y_History_clear y_History_clear ∈ tw := ⟨tw_c 3 wl_8_ok rfl, tw_c 4 wl_8_ok rfl⟩
set_option maxRecDepth 100000 in
theorem n_Foresight_forget : m_nm y_Foresight_forget M_Foresight_forget 0 := ⟨List.mem_filter.mpr ⟨List.mem_of_getElem? (i := 843) rfl, rfl⟩, tw_c 0 wl_0_ok rfl, rfl, by decide, by decide, by decide +kernel⟩
theorem v_Foresight_forget : Cond.instanceMethod y_Foresight_forget ∈ tw ∧ Cond.selects y_Foresight_forget.cls y_Foresight_forget y_Foresight_forget ∈ tw := ⟨tw_c 5 wl_8_ok rfl, tw_c 6 wl_8_ok rfl⟩
set_option maxRecDepth 100000 in
theorem n_WF_fault : m_nm y_WF_fault M_WF_fault 1 := ⟨List.mem_filter.mpr ⟨List.mem_of_getElem? (i := 847) rfl, rfl⟩, tw_c 11 wl_0_ok rfl, rfl, by decide, by decide, by decide +kernel⟩
theorem v_WF_fault : Cond.instanceMethod y_WF_fault ∈ tw ∧ Cond.selects y_WF_fault.cls y_WF_fault y_WF_fault ∈ tw := ⟨tw_c 7 wl_8_ok rfl, tw_c 8 wl_8_ok rfl⟩
set_option maxRecDepth 100000 in
theorem n_WF_has : m_nm y_WF_has M_WF_has 1 := ⟨List.mem_filter.mpr ⟨List.mem_of_getElem? (i := 851) rfl, rfl⟩, tw_c 11 wl_0_ok rfl, rfl, by decide, by decide, by decide +kernel⟩
theorem v_WF_has : Cond.instanceMethod y_WF_has ∈ tw ∧ Cond.selects y_WF_has.cls y_WF_has y_WF_has ∈ tw := ⟨tw_c 9 wl_8_ok rfl, tw_c 10 wl_8_ok rfl⟩
set_option maxRecDepth 100000 in
theorem n_WF_countStakes : m_nm y_WF_countStakes M_WF_countStakes 0 := ⟨List.mem_filter.mpr ⟨List.mem_of_getElem? (i := 856) rfl, rfl⟩, tw_c 11 wl_0_ok rfl, rfl, by decide, by decide, by decide +kernel⟩
theorem v_WF_countStakes : Cond.instanceMethod y_WF_countStakes ∈ tw ∧ Cond.selects y_WF_countStakes.cls y_WF_countStakes y_WF_countStakes ∈ tw := ⟨tw_c 11 wl_8_ok rfl, tw_c 12 wl_8_ok rfl⟩
set_option maxRecDepth 100000 in
theorem n_Lay_leftOf : m_nm y_Lay_leftOf M_Lay_leftOf 1 := ⟨List.mem_filter.mpr ⟨List.mem_of_getElem? (i := 860) rfl, rfl⟩, tw_c 3 wl_0_ok rfl, rfl, by decide, by decide, by decide +kernel⟩
theorem v_Lay_leftOf : Cond.instanceMethod y_Lay_leftOf ∈ tw ∧ Cond.selects y_Lay_leftOf.cls y_Lay_leftOf y_Lay_leftOf ∈ tw := ⟨tw_c 13 wl_8_ok rfl, tw_c 14 wl_8_ok rfl⟩
set_option maxRecDepth 100000 in
theorem n_Lay_rowOf : m_nm y_Lay_rowOf M_Lay_rowOf 2 := ⟨List.mem_filter.mpr ⟨List.mem_of_getElem? (i := 864) rfl, rfl⟩, tw_c 3 wl_0_ok rfl, rfl, by decide, by decide, by decide +kernel⟩
theorem v_Lay_rowOf : Cond.instanceMethod y_Lay_rowOf ∈ tw ∧ Cond.selects y_Lay_rowOf.cls y_Lay_rowOf y_Lay_rowOf ∈ tw := ⟨tw_c 15 wl_8_ok rfl, tw_c 16 wl_8_ok rfl⟩
set_option maxRecDepth 100000 in
theorem n_WF_countMoor : m_nm y_WF_countMoor M_WF_countMoor 0 := ⟨List.mem_filter.mpr ⟨List.mem_of_getElem? (i := 869) rfl, rfl⟩, tw_c 11 wl_0_ok rfl, rfl, by decide, by decide, by decide +kernel⟩
theorem v_WF_countMoor : Cond.instanceMethod y_WF_countMoor ∈ tw ∧ Cond.selects y_WF_countMoor.cls y_WF_countMoor y_WF_countMoor ∈ tw := ⟨tw_c 17 wl_8_ok rfl, tw_c 18 wl_8_ok rfl⟩
set_option maxRecDepth 100000 in
theorem n_Lay_fieldOf : m_nm y_Lay_fieldOf M_Lay_fieldOf 2 := ⟨List.mem_filter.mpr ⟨List.mem_of_getElem? (i := 873) rfl, rfl⟩, tw_c 3 wl_0_ok rfl, rfl, by decide, by decide, by decide +kernel⟩
theorem v_Lay_fieldOf : Cond.instanceMethod y_Lay_fieldOf ∈ tw ∧ Cond.selects y_Lay_fieldOf.cls y_Lay_fieldOf y_Lay_fieldOf ∈ tw := ⟨tw_c 19 wl_8_ok rfl, tw_c 0 wl_9_ok rfl⟩
set_option maxRecDepth 100000 in
theorem n_Lay_fieldIn : m_nm y_Lay_fieldIn M_Lay_fieldIn 3 := ⟨List.mem_filter.mpr ⟨List.mem_of_getElem? (i := 877) rfl, rfl⟩, tw_c 3 wl_0_ok rfl, rfl, by decide, by decide, by decide +kernel⟩
theorem v_Lay_fieldIn : Cond.instanceMethod y_Lay_fieldIn ∈ tw ∧ Cond.selects y_Lay_fieldIn.cls y_Lay_fieldIn y_Lay_fieldIn ∈ tw := ⟨tw_c 1 wl_9_ok rfl, tw_c 2 wl_9_ok rfl⟩
set_option maxRecDepth 100000 in
theorem n_WF_letter : m_nm y_WF_letter M_WF_letter 2 := ⟨List.mem_filter.mpr ⟨List.mem_of_getElem? (i := 881) rfl, rfl⟩, tw_c 11 wl_0_ok rfl, rfl, by decide, by decide, by decide +kernel⟩
theorem v_WF_letter : Cond.instanceMethod y_WF_letter ∈ tw ∧ Cond.selects y_WF_letter.cls y_WF_letter y_WF_letter ∈ tw := ⟨tw_c 3 wl_9_ok rfl, tw_c 4 wl_9_ok rfl⟩
set_option maxRecDepth 100000 in
theorem n_Slope_hasFence : m_nm y_Slope_hasFence M_Slope_hasFence 1 := ⟨List.mem_filter.mpr ⟨List.mem_of_getElem? (i := 885) rfl, rfl⟩, tw_c 8 wl_0_ok rfl, rfl, by decide, by decide, by decide +kernel⟩
theorem v_Slope_hasFence : Cond.instanceMethod y_Slope_hasFence ∈ tw ∧ Cond.selects y_Slope_hasFence.cls y_Slope_hasFence y_Slope_hasFence ∈ tw := ⟨tw_c 5 wl_9_ok rfl, tw_c 6 wl_9_ok rfl⟩
set_option maxRecDepth 100000 in
theorem n_WF_place : m_nm y_WF_place M_WF_place 3 := ⟨List.mem_filter.mpr ⟨List.mem_of_getElem? (i := 889) rfl, rfl⟩, tw_c 11 wl_0_ok rfl, rfl, by decide, by decide, by decide +kernel⟩
theorem v_WF_place : Cond.instanceMethod y_WF_place ∈ tw ∧ Cond.selects y_WF_place.cls y_WF_place y_WF_place ∈ tw := ⟨tw_c 7 wl_9_ok rfl, tw_c 8 wl_9_ok rfl⟩
set_option maxRecDepth 100000 in
theorem n_Slope_hasPlace : m_nm y_Slope_hasPlace M_Slope_hasPlace 2 := ⟨List.mem_filter.mpr ⟨List.mem_of_getElem? (i := 893) rfl, rfl⟩, tw_c 8 wl_0_ok rfl, rfl, by decide, by decide, by decide +kernel⟩
theorem v_Slope_hasPlace : Cond.instanceMethod y_Slope_hasPlace ∈ tw ∧ Cond.selects y_Slope_hasPlace.cls y_Slope_hasPlace y_Slope_hasPlace ∈ tw := ⟨tw_c 9 wl_9_ok rfl, tw_c 10 wl_9_ok rfl⟩
set_option maxRecDepth 100000 in
theorem n_Lay_ownerOf : m_nm y_Lay_ownerOf M_Lay_ownerOf 2 := ⟨List.mem_filter.mpr ⟨List.mem_of_getElem? (i := 897) rfl, rfl⟩, tw_c 3 wl_0_ok rfl, rfl, by decide, by decide, by decide +kernel⟩
theorem v_Lay_ownerOf : Cond.instanceMethod y_Lay_ownerOf ∈ tw ∧ Cond.selects y_Lay_ownerOf.cls y_Lay_ownerOf y_Lay_ownerOf ∈ tw := ⟨tw_c 11 wl_9_ok rfl, tw_c 12 wl_9_ok rfl⟩
set_option maxRecDepth 100000 in
theorem n_Lay_stakesAt : m_nm y_Lay_stakesAt M_Lay_stakesAt 2 := ⟨List.mem_filter.mpr ⟨List.mem_of_getElem? (i := 902) rfl, rfl⟩, tw_c 3 wl_0_ok rfl, rfl, by decide, by decide, by decide +kernel⟩
theorem v_Lay_stakesAt : Cond.instanceMethod y_Lay_stakesAt ∈ tw ∧ Cond.selects y_Lay_stakesAt.cls y_Lay_stakesAt y_Lay_stakesAt ∈ tw := ⟨tw_c 13 wl_9_ok rfl, tw_c 14 wl_9_ok rfl⟩
set_option maxRecDepth 100000 in
theorem n_WF_fence : m_nm y_WF_fence M_WF_fence 2 := ⟨List.mem_filter.mpr ⟨List.mem_of_getElem? (i := 906) rfl, rfl⟩, tw_c 11 wl_0_ok rfl, rfl, by decide, by decide, by decide +kernel⟩
theorem v_WF_fence : Cond.instanceMethod y_WF_fence ∈ tw ∧ Cond.selects y_WF_fence.cls y_WF_fence y_WF_fence ∈ tw := ⟨tw_c 15 wl_9_ok rfl, tw_c 16 wl_9_ok rfl⟩
set_option maxRecDepth 100000 in
theorem n_Lay_isCut : m_nm y_Lay_isCut M_Lay_isCut 1 := ⟨List.mem_filter.mpr ⟨List.mem_of_getElem? (i := 910) rfl, rfl⟩, tw_c 3 wl_0_ok rfl, rfl, by decide, by decide, by decide +kernel⟩
theorem v_Lay_isCut : Cond.instanceMethod y_Lay_isCut ∈ tw ∧ Cond.selects y_Lay_isCut.cls y_Lay_isCut y_Lay_isCut ∈ tw := ⟨tw_c 17 wl_9_ok rfl, tw_c 18 wl_9_ok rfl⟩
set_option maxRecDepth 100000 in
theorem n_WF_stake : m_nm y_WF_stake M_WF_stake 2 := ⟨List.mem_filter.mpr ⟨List.mem_of_getElem? (i := 914) rfl, rfl⟩, tw_c 11 wl_0_ok rfl, rfl, by decide, by decide, by decide +kernel⟩
theorem v_WF_stake : Cond.instanceMethod y_WF_stake ∈ tw ∧ Cond.selects y_WF_stake.cls y_WF_stake y_WF_stake ∈ tw := ⟨tw_c 19 wl_9_ok rfl, tw_c 0 wl_10_ok rfl⟩
set_option maxRecDepth 100000 in
theorem n_WF_walks : m_nm y_WF_walks M_WF_walks 2 := ⟨List.mem_filter.mpr ⟨List.mem_of_getElem? (i := 919) rfl, rfl⟩, tw_c 11 wl_0_ok rfl, rfl, by decide, by decide, by decide +kernel⟩
theorem v_WF_walks : Cond.instanceMethod y_WF_walks ∈ tw ∧ Cond.selects y_WF_walks.cls y_WF_walks y_WF_walks ∈ tw := ⟨tw_c 1 wl_10_ok rfl, tw_c 2 wl_10_ok rfl⟩
set_option maxRecDepth 100000 in
theorem n_Walker_face : m_nm y_Walker_face M_Walker_face 2 := ⟨List.mem_filter.mpr ⟨List.mem_of_getElem? (i := 923) rfl, rfl⟩, tw_c 10 wl_0_ok rfl, rfl, by decide, by decide, by decide +kernel⟩
theorem v_Walker_face : Cond.instanceMethod y_Walker_face ∈ tw ∧ Cond.selects y_Walker_face.cls y_Walker_face y_Walker_face ∈ tw := ⟨tw_c 3 wl_10_ok rfl, tw_c 4 wl_10_ok rfl⟩
set_option maxRecDepth 100000 in
theorem n_Lay_ageOf : m_nm y_Lay_ageOf M_Lay_ageOf 1 := ⟨List.mem_filter.mpr ⟨List.mem_of_getElem? (i := 927) rfl, rfl⟩, tw_c 3 wl_0_ok rfl, rfl, by decide, by decide, by decide +kernel⟩
theorem v_Lay_ageOf : Cond.instanceMethod y_Lay_ageOf ∈ tw ∧ Cond.selects y_Lay_ageOf.cls y_Lay_ageOf y_Lay_ageOf ∈ tw := ⟨tw_c 5 wl_10_ok rfl, tw_c 6 wl_10_ok rfl⟩
set_option maxRecDepth 100000 in
theorem n_Walker_paces : m_nm y_Walker_paces M_Walker_paces 2 := ⟨List.mem_filter.mpr ⟨List.mem_of_getElem? (i := 931) rfl, rfl⟩, tw_c 10 wl_0_ok rfl, rfl, by decide, by decide, by decide +kernel⟩
theorem v_Walker_paces : Cond.instanceMethod y_Walker_paces ∈ tw ∧ Cond.selects y_Walker_paces.cls y_Walker_paces y_Walker_paces ∈ tw := ⟨tw_c 7 wl_10_ok rfl, tw_c 8 wl_10_ok rfl⟩
set_option maxRecDepth 100000 in
theorem n_Slope_steepOf : m_nm y_Slope_steepOf M_Slope_steepOf 1 := ⟨List.mem_filter.mpr ⟨List.mem_of_getElem? (i := 935) rfl, rfl⟩, tw_c 8 wl_0_ok rfl, rfl, by decide, by decide, by decide +kernel⟩
theorem v_Slope_steepOf : Cond.instanceMethod y_Slope_steepOf ∈ tw ∧ Cond.selects y_Slope_steepOf.cls y_Slope_steepOf y_Slope_steepOf ∈ tw := ⟨tw_c 9 wl_10_ok rfl, tw_c 10 wl_10_ok rfl⟩
set_option maxRecDepth 100000 in
theorem n_Reckoner_run : m_nm y_Reckoner_run M_Reckoner_run 3 := ⟨List.mem_filter.mpr ⟨List.mem_of_getElem? (i := 939) rfl, rfl⟩, tw_c 6 wl_0_ok rfl, rfl, by decide, by decide, by decide +kernel⟩
theorem v_Reckoner_run : Cond.instanceMethod y_Reckoner_run ∈ tw ∧ Cond.selects y_Reckoner_run.cls y_Reckoner_run y_Reckoner_run ∈ tw := ⟨tw_c 11 wl_10_ok rfl, tw_c 12 wl_10_ok rfl⟩
set_option maxRecDepth 100000 in
theorem n_Math_max_II : m_nm y_Math_max_II M_Math_max_II 2 := ⟨List.mem_filter.mpr ⟨List.mem_of_getElem? (i := 942) rfl, rfl⟩, tw_c 15 wl_0_ok rfl, rfl, by decide, by decide, by decide +kernel⟩
theorem s_Math_max_II : Cond.static y_Math_max_II ∈ tw := tw_c 13 wl_10_ok rfl
set_option maxRecDepth 100000 in
theorem n_Reckoner_single : m_nm y_Reckoner_single M_Reckoner_single 2 := ⟨List.mem_filter.mpr ⟨List.mem_of_getElem? (i := 946) rfl, rfl⟩, tw_c 6 wl_0_ok rfl, rfl, by decide, by decide, by decide +kernel⟩
theorem v_Reckoner_single : Cond.instanceMethod y_Reckoner_single ∈ tw ∧ Cond.selects y_Reckoner_single.cls y_Reckoner_single y_Reckoner_single ∈ tw := ⟨tw_c 14 wl_10_ok rfl, tw_c 15 wl_10_ok rfl⟩
set_option maxRecDepth 100000 in
theorem n_Reckoner_pair : m_nm y_Reckoner_pair M_Reckoner_pair 3 := ⟨List.mem_filter.mpr ⟨List.mem_of_getElem? (i := 949) rfl, rfl⟩, tw_c 6 wl_0_ok rfl, rfl, by decide, by decide, by decide +kernel⟩
theorem s_Reckoner_pair : Cond.static y_Reckoner_pair ∈ tw := tw_c 16 wl_10_ok rfl
set_option maxRecDepth 100000 in
theorem n_Math_floorDiv : m_nm y_Math_floorDiv M_Math_floorDiv 2 := ⟨List.mem_filter.mpr ⟨List.mem_of_getElem? (i := 952) rfl, rfl⟩, tw_c 15 wl_0_ok rfl, rfl, by decide, by decide, by decide +kernel⟩
theorem s_Math_floorDiv : Cond.static y_Math_floorDiv ∈ tw := tw_c 17 wl_10_ok rfl
set_option maxRecDepth 100000 in
theorem n_Math_min_II : m_nm y_Math_min_II M_Math_min_II 2 := ⟨List.mem_filter.mpr ⟨List.mem_of_getElem? (i := 955) rfl, rfl⟩, tw_c 15 wl_0_ok rfl, rfl, by decide, by decide, by decide +kernel⟩
theorem s_Math_min_II : Cond.static y_Math_min_II ∈ tw := tw_c 18 wl_10_ok rfl
set_option maxRecDepth 100000 in
theorem n_Reckoner_partOf : m_nm y_Reckoner_partOf M_Reckoner_partOf 1 := ⟨List.mem_filter.mpr ⟨List.mem_of_getElem? (i := 963) rfl, rfl⟩, tw_c 6 wl_0_ok rfl, rfl, by decide, by decide, by decide +kernel⟩
theorem v_Reckoner_partOf : Cond.instanceMethod y_Reckoner_partOf ∈ tw ∧ Cond.selects y_Reckoner_partOf.cls y_Reckoner_partOf y_Reckoner_partOf ∈ tw := ⟨tw_c 19 wl_10_ok rfl, tw_c 0 wl_11_ok rfl⟩
set_option maxRecDepth 100000 in
theorem n_WF_kept : m_nm y_WF_kept M_WF_kept 2 := ⟨List.mem_filter.mpr ⟨List.mem_of_getElem? (i := 969) rfl, rfl⟩, tw_c 11 wl_0_ok rfl, rfl, by decide, by decide, by decide +kernel⟩
theorem v_WF_kept : Cond.instanceMethod y_WF_kept ∈ tw ∧ Cond.selects y_WF_kept.cls y_WF_kept y_WF_kept ∈ tw := ⟨tw_c 1 wl_11_ok rfl, tw_c 2 wl_11_ok rfl⟩
set_option maxRecDepth 100000 in
theorem n_Log_tell : m_nm y_Log_tell M_Log_tell 2 := ⟨List.mem_filter.mpr ⟨List.mem_of_getElem? (i := 973) rfl, rfl⟩, tw_c 4 wl_0_ok rfl, rfl, by decide, by decide, by decide +kernel⟩
theorem v_Log_tell : Cond.instanceMethod y_Log_tell ∈ tw ∧ Cond.selects y_Log_tell.cls y_Log_tell y_Log_tell ∈ tw := ⟨tw_c 3 wl_11_ok rfl, tw_c 4 wl_11_ok rfl⟩
set_option maxRecDepth 100000 in
theorem n_WF_later : m_nm y_WF_later M_WF_later 3 := ⟨List.mem_filter.mpr ⟨List.mem_of_getElem? (i := 977) rfl, rfl⟩, tw_c 11 wl_0_ok rfl, rfl, by decide, by decide, by decide +kernel⟩
theorem v_WF_later : Cond.instanceMethod y_WF_later ∈ tw ∧ Cond.selects y_WF_later.cls y_WF_later y_WF_later ∈ tw := ⟨tw_c 5 wl_11_ok rfl, tw_c 6 wl_11_ok rfl⟩
set_option maxRecDepth 100000 in
theorem n_WF_yearsAtMost : m_nm y_WF_yearsAtMost M_WF_yearsAtMost 1 := ⟨List.mem_filter.mpr ⟨List.mem_of_getElem? (i := 981) rfl, rfl⟩, tw_c 11 wl_0_ok rfl, rfl, by decide, by decide, by decide +kernel⟩
theorem v_WF_yearsAtMost : Cond.instanceMethod y_WF_yearsAtMost ∈ tw ∧ Cond.selects y_WF_yearsAtMost.cls y_WF_yearsAtMost y_WF_yearsAtMost ∈ tw := ⟨tw_c 7 wl_11_ok rfl, tw_c 8 wl_11_ok rfl⟩
set_option maxRecDepth 100000 in
theorem n_Foresight_goAhead : m_nm y_Foresight_goAhead M_Foresight_goAhead 1 := ⟨List.mem_filter.mpr ⟨List.mem_of_getElem? (i := 986) rfl, rfl⟩, tw_c 0 wl_0_ok rfl, rfl, by decide, by decide, by decide +kernel⟩
theorem v_Foresight_goAhead : Cond.instanceMethod y_Foresight_goAhead ∈ tw ∧ Cond.selects y_Foresight_goAhead.cls y_Foresight_goAhead y_Foresight_goAhead ∈ tw := ⟨tw_c 9 wl_11_ok rfl, tw_c 10 wl_11_ok rfl⟩
set_option maxRecDepth 100000 in
theorem n_Foresight_passYears : m_nm y_Foresight_passYears M_Foresight_passYears 2 := ⟨List.mem_filter.mpr ⟨List.mem_of_getElem? (i := 991) rfl, rfl⟩, tw_c 0 wl_0_ok rfl, rfl, by decide, by decide, by decide +kernel⟩
theorem v_Foresight_passYears : Cond.instanceMethod y_Foresight_passYears ∈ tw ∧ Cond.selects y_Foresight_passYears.cls y_Foresight_passYears y_Foresight_passYears ∈ tw := ⟨tw_c 11 wl_11_ok rfl, tw_c 12 wl_11_ok rfl⟩
set_option maxRecDepth 100000 in
theorem n_Walker_passYear : m_nm y_Walker_passYear M_Walker_passYear 2 := ⟨List.mem_filter.mpr ⟨List.mem_of_getElem? (i := 995) rfl, rfl⟩, tw_c 10 wl_0_ok rfl, rfl, by decide, by decide, by decide +kernel⟩
theorem v_Walker_passYear : Cond.instanceMethod y_Walker_passYear ∈ tw ∧ Cond.selects y_Walker_passYear.cls y_Walker_passYear y_Walker_passYear ∈ tw := ⟨tw_c 13 wl_11_ok rfl, tw_c 14 wl_11_ok rfl⟩
set_option maxRecDepth 100000 in
theorem n_Walker_walkFence : m_nm y_Walker_walkFence M_Walker_walkFence 3 := ⟨List.mem_filter.mpr ⟨List.mem_of_getElem? (i := 1000) rfl, rfl⟩, tw_c 10 wl_0_ok rfl, rfl, by decide, by decide, by decide +kernel⟩
theorem v_Walker_walkFence : Cond.instanceMethod y_Walker_walkFence ∈ tw ∧ Cond.selects y_Walker_walkFence.cls y_Walker_walkFence y_Walker_walkFence ∈ tw := ⟨tw_c 15 wl_11_ok rfl, tw_c 16 wl_11_ok rfl⟩
set_option maxRecDepth 100000 in
theorem n_Walker_landing : m_nm y_Walker_landing M_Walker_landing 3 := ⟨List.mem_filter.mpr ⟨List.mem_of_getElem? (i := 1008) rfl, rfl⟩, tw_c 10 wl_0_ok rfl, rfl, by decide, by decide, by decide +kernel⟩
theorem v_Walker_landing : Cond.instanceMethod y_Walker_landing ∈ tw ∧ Cond.selects y_Walker_landing.cls y_Walker_landing y_Walker_landing ∈ tw := ⟨tw_c 17 wl_11_ok rfl, tw_c 18 wl_11_ok rfl⟩
set_option maxRecDepth 100000 in
theorem n_Integer_numberOfTrailingZeros : m_nm y_Integer_numberOfTrailingZeros M_Integer_numberOfTrailingZeros 1 := ⟨List.mem_filter.mpr ⟨List.mem_of_getElem? (i := 1011) rfl, rfl⟩, tw_c 14 wl_0_ok rfl, rfl, by decide, by decide, by decide +kernel⟩
theorem s_Integer_numberOfTrailingZeros : Cond.static y_Integer_numberOfTrailingZeros ∈ tw := tw_c 19 wl_11_ok rfl
set_option maxRecDepth 100000 in
theorem n_Log_note : m_nm y_Log_note M_Log_note 3 := ⟨List.mem_filter.mpr ⟨List.mem_of_getElem? (i := 1017) rfl, rfl⟩, tw_c 4 wl_0_ok rfl, rfl, by decide, by decide, by decide +kernel⟩
theorem v_Log_note : Cond.instanceMethod y_Log_note ∈ tw ∧ Cond.selects y_Log_note.cls y_Log_note y_Log_note ∈ tw := ⟨tw_c 0 wl_12_ok rfl, tw_c 1 wl_12_ok rfl⟩
set_option maxRecDepth 100000 in
theorem n_Walker_rootsAgain : m_nm y_Walker_rootsAgain M_Walker_rootsAgain 2 := ⟨List.mem_filter.mpr ⟨List.mem_of_getElem? (i := 1022) rfl, rfl⟩, tw_c 10 wl_0_ok rfl, rfl, by decide, by decide, by decide +kernel⟩
theorem v_Walker_rootsAgain : Cond.instanceMethod y_Walker_rootsAgain ∈ tw ∧ Cond.selects y_Walker_rootsAgain.cls y_Walker_rootsAgain y_Walker_rootsAgain ∈ tw := ⟨tw_c 2 wl_12_ok rfl, tw_c 3 wl_12_ok rfl⟩
set_option maxRecDepth 100000 in
theorem n_Lay_plant : m_nm y_Lay_plant M_Lay_plant 2 := ⟨List.mem_filter.mpr ⟨List.mem_of_getElem? (i := 1027) rfl, rfl⟩, tw_c 3 wl_0_ok rfl, rfl, by decide, by decide, by decide +kernel⟩
theorem v_Lay_plant : Cond.instanceMethod y_Lay_plant ∈ tw ∧ Cond.selects y_Lay_plant.cls y_Lay_plant y_Lay_plant ∈ tw := ⟨tw_c 4 wl_12_ok rfl, tw_c 5 wl_12_ok rfl⟩
set_option maxRecDepth 100000 in
theorem n_WF_whose : m_nm y_WF_whose M_WF_whose 3 := ⟨List.mem_filter.mpr ⟨List.mem_of_getElem? (i := 1033) rfl, rfl⟩, tw_c 11 wl_0_ok rfl, rfl, by decide, by decide, by decide +kernel⟩
theorem v_WF_whose : Cond.instanceMethod y_WF_whose ∈ tw ∧ Cond.selects y_WF_whose.cls y_WF_whose y_WF_whose ∈ tw := ⟨tw_c 6 wl_12_ok rfl, tw_c 7 wl_12_ok rfl⟩
set_option maxRecDepth 100000 in
theorem n_WF_meets : m_nm y_WF_meets M_WF_meets 2 := ⟨List.mem_filter.mpr ⟨List.mem_of_getElem? (i := 1037) rfl, rfl⟩, tw_c 11 wl_0_ok rfl, rfl, by decide, by decide, by decide +kernel⟩
theorem v_WF_meets : Cond.instanceMethod y_WF_meets ∈ tw ∧ Cond.selects y_WF_meets.cls y_WF_meets y_WF_meets ∈ tw := ⟨tw_c 8 wl_12_ok rfl, tw_c 9 wl_12_ok rfl⟩
set_option maxRecDepth 100000 in
theorem n_WF_areTwoFences : m_nm y_WF_areTwoFences M_WF_areTwoFences 2 := ⟨List.mem_filter.mpr ⟨List.mem_of_getElem? (i := 1041) rfl, rfl⟩, tw_c 11 wl_0_ok rfl, rfl, by decide, by decide, by decide +kernel⟩
theorem v_WF_areTwoFences : Cond.instanceMethod y_WF_areTwoFences ∈ tw ∧ Cond.selects y_WF_areTwoFences.cls y_WF_areTwoFences y_WF_areTwoFences ∈ tw := ⟨tw_c 10 wl_12_ok rfl, tw_c 11 wl_12_ok rfl⟩
set_option maxRecDepth 100000 in
theorem n_Foresight_firstMeeting : m_nm y_Foresight_firstMeeting M_Foresight_firstMeeting 3 := ⟨List.mem_filter.mpr ⟨List.mem_of_getElem? (i := 1045) rfl, rfl⟩, tw_c 0 wl_0_ok rfl, rfl, by decide, by decide, by decide +kernel⟩
theorem v_Foresight_firstMeeting : Cond.instanceMethod y_Foresight_firstMeeting ∈ tw ∧ Cond.selects y_Foresight_firstMeeting.cls y_Foresight_firstMeeting y_Foresight_firstMeeting ∈ tw := ⟨tw_c 12 wl_12_ok rfl, tw_c 13 wl_12_ok rfl⟩
set_option maxRecDepth 100000 in
theorem n_Lay_meetSomewhere : m_nm y_Lay_meetSomewhere M_Lay_meetSomewhere 2 := ⟨List.mem_filter.mpr ⟨List.mem_of_getElem? (i := 1049) rfl, rfl⟩, tw_c 3 wl_0_ok rfl, rfl, by decide, by decide, by decide +kernel⟩
theorem v_Lay_meetSomewhere : Cond.instanceMethod y_Lay_meetSomewhere ∈ tw ∧ Cond.selects y_Lay_meetSomewhere.cls y_Lay_meetSomewhere y_Lay_meetSomewhere ∈ tw := ⟨tw_c 14 wl_12_ok rfl, tw_c 15 wl_12_ok rfl⟩
set_option maxRecDepth 100000 in
theorem n_WF_below : m_nm y_WF_below M_WF_below 2 := ⟨List.mem_filter.mpr ⟨List.mem_of_getElem? (i := 1053) rfl, rfl⟩, tw_c 11 wl_0_ok rfl, rfl, by decide, by decide, by decide +kernel⟩
theorem v_WF_below : Cond.instanceMethod y_WF_below ∈ tw ∧ Cond.selects y_WF_below.cls y_WF_below y_WF_below ∈ tw := ⟨tw_c 16 wl_12_ok rfl, tw_c 17 wl_12_ok rfl⟩
set_option maxRecDepth 100000 in
theorem n_Lay_columnsBelow : m_nm y_Lay_columnsBelow M_Lay_columnsBelow 2 := ⟨List.mem_filter.mpr ⟨List.mem_of_getElem? (i := 1057) rfl, rfl⟩, tw_c 3 wl_0_ok rfl, rfl, by decide, by decide, by decide +kernel⟩
theorem v_Lay_columnsBelow : Cond.instanceMethod y_Lay_columnsBelow ∈ tw ∧ Cond.selects y_Lay_columnsBelow.cls y_Lay_columnsBelow y_Lay_columnsBelow ∈ tw := ⟨tw_c 18 wl_12_ok rfl, tw_c 19 wl_12_ok rfl⟩
set_option maxRecDepth 100000 in
theorem n_WF_sets : m_nm y_WF_sets M_WF_sets 3 := ⟨List.mem_filter.mpr ⟨List.mem_of_getElem? (i := 1061) rfl, rfl⟩, tw_c 11 wl_0_ok rfl, rfl, by decide, by decide, by decide +kernel⟩
theorem v_WF_sets : Cond.instanceMethod y_WF_sets ∈ tw ∧ Cond.selects y_WF_sets.cls y_WF_sets y_WF_sets ∈ tw := ⟨tw_c 0 wl_13_ok rfl, tw_c 1 wl_13_ok rfl⟩
set_option maxRecDepth 100000 in
theorem n_Foresight_leastField : m_nm y_Foresight_leastField M_Foresight_leastField 3 := ⟨List.mem_filter.mpr ⟨List.mem_of_getElem? (i := 1065) rfl, rfl⟩, tw_c 0 wl_0_ok rfl, rfl, by decide, by decide, by decide +kernel⟩
theorem v_Foresight_leastField : Cond.instanceMethod y_Foresight_leastField ∈ tw ∧ Cond.selects y_Foresight_leastField.cls y_Foresight_leastField y_Foresight_leastField ∈ tw := ⟨tw_c 2 wl_13_ok rfl, tw_c 3 wl_13_ok rfl⟩
set_option maxRecDepth 100000 in
theorem n_WF_irons : m_nm y_WF_irons M_WF_irons 3 := ⟨List.mem_filter.mpr ⟨List.mem_of_getElem? (i := 1072) rfl, rfl⟩, tw_c 11 wl_0_ok rfl, rfl, by decide, by decide, by decide +kernel⟩
theorem v_WF_irons : Cond.instanceMethod y_WF_irons ∈ tw ∧ Cond.selects y_WF_irons.cls y_WF_irons y_WF_irons ∈ tw := ⟨tw_c 4 wl_13_ok rfl, tw_c 5 wl_13_ok rfl⟩
set_option maxRecDepth 100000 in
theorem n_Foresight_findIron : m_nm y_Foresight_findIron M_Foresight_findIron 2 := ⟨List.mem_filter.mpr ⟨List.mem_of_getElem? (i := 1076) rfl, rfl⟩, tw_c 0 wl_0_ok rfl, rfl, by decide, by decide, by decide +kernel⟩
theorem v_Foresight_findIron : Cond.instanceMethod y_Foresight_findIron ∈ tw ∧ Cond.selects y_Foresight_findIron.cls y_Foresight_findIron y_Foresight_findIron ∈ tw := ⟨tw_c 6 wl_13_ok rfl, tw_c 7 wl_13_ok rfl⟩
set_option maxRecDepth 100000 in
theorem n_Foresight_tread : m_nm y_Foresight_tread M_Foresight_tread 1 := ⟨List.mem_filter.mpr ⟨List.mem_of_getElem? (i := 1080) rfl, rfl⟩, tw_c 0 wl_0_ok rfl, rfl, by decide, by decide, by decide +kernel⟩
theorem v_Foresight_tread : Cond.instanceMethod y_Foresight_tread ∈ tw ∧ Cond.selects y_Foresight_tread.cls y_Foresight_tread y_Foresight_tread ∈ tw := ⟨tw_c 8 wl_13_ok rfl, tw_c 9 wl_13_ok rfl⟩
set_option maxRecDepth 100000 in
theorem n_Foresight_treadBy : m_nm y_Foresight_treadBy M_Foresight_treadBy 1 := ⟨List.mem_filter.mpr ⟨List.mem_of_getElem? (i := 1085) rfl, rfl⟩, tw_c 0 wl_0_ok rfl, rfl, by decide, by decide, by decide +kernel⟩
theorem v_Foresight_treadBy : Cond.instanceMethod y_Foresight_treadBy ∈ tw ∧ Cond.selects y_Foresight_treadBy.cls y_Foresight_treadBy y_Foresight_treadBy ∈ tw := ⟨tw_c 10 wl_13_ok rfl, tw_c 11 wl_13_ok rfl⟩
set_option maxRecDepth 100000 in
theorem n_Foresight_tryIron : m_nm y_Foresight_tryIron M_Foresight_tryIron 2 := ⟨List.mem_filter.mpr ⟨List.mem_of_getElem? (i := 1093) rfl, rfl⟩, tw_c 0 wl_0_ok rfl, rfl, by decide, by decide, by decide +kernel⟩
theorem v_Foresight_tryIron : Cond.instanceMethod y_Foresight_tryIron ∈ tw ∧ Cond.selects y_Foresight_tryIron.cls y_Foresight_tryIron y_Foresight_tryIron ∈ tw := ⟨tw_c 12 wl_13_ok rfl, tw_c 13 wl_13_ok rfl⟩
set_option maxRecDepth 100000 in
theorem n_WF_rest : m_nm y_WF_rest M_WF_rest 1 := ⟨List.mem_filter.mpr ⟨List.mem_of_getElem? (i := 1098) rfl, rfl⟩, tw_c 11 wl_0_ok rfl, rfl, by decide, by decide, by decide +kernel⟩
theorem v_WF_rest : Cond.instanceMethod y_WF_rest ∈ tw ∧ Cond.selects y_WF_rest.cls y_WF_rest y_WF_rest ∈ tw := ⟨tw_c 14 wl_13_ok rfl, tw_c 15 wl_13_ok rfl⟩
set_option maxRecDepth 100000 in
theorem n_Slope_isTold : m_nm y_Slope_isTold M_Slope_isTold 0 := ⟨List.mem_filter.mpr ⟨List.mem_of_getElem? (i := 1102) rfl, rfl⟩, tw_c 8 wl_0_ok rfl, rfl, by decide, by decide, by decide +kernel⟩
theorem v_Slope_isTold : Cond.instanceMethod y_Slope_isTold ∈ tw ∧ Cond.selects y_Slope_isTold.cls y_Slope_isTold y_Slope_isTold ∈ tw := ⟨tw_c 16 wl_13_ok rfl, tw_c 17 wl_13_ok rfl⟩
set_option maxRecDepth 100000 in
theorem n_Foresight_findRest : m_nm y_Foresight_findRest M_Foresight_findRest 1 := ⟨List.mem_filter.mpr ⟨List.mem_of_getElem? (i := 1106) rfl, rfl⟩, tw_c 0 wl_0_ok rfl, rfl, by decide, by decide, by decide +kernel⟩
theorem v_Foresight_findRest : Cond.instanceMethod y_Foresight_findRest ∈ tw ∧ Cond.selects y_Foresight_findRest.cls y_Foresight_findRest y_Foresight_findRest ∈ tw := ⟨tw_c 18 wl_13_ok rfl, tw_c 19 wl_13_ok rfl⟩
set_option maxRecDepth 100000 in
theorem n_Foresight_isAtRest : m_nm y_Foresight_isAtRest M_Foresight_isAtRest 1 := ⟨List.mem_filter.mpr ⟨List.mem_of_getElem? (i := 1111) rfl, rfl⟩, tw_c 0 wl_0_ok rfl, rfl, by decide, by decide, by decide +kernel⟩
theorem v_Foresight_isAtRest : Cond.instanceMethod y_Foresight_isAtRest ∈ tw ∧ Cond.selects y_Foresight_isAtRest.cls y_Foresight_isAtRest y_Foresight_isAtRest ∈ tw := ⟨tw_c 0 wl_14_ok rfl, tw_c 1 wl_14_ok rfl⟩
set_option maxRecDepth 100000 in
theorem n_Lay_takeStakes : m_nm y_Lay_takeStakes M_Lay_takeStakes 2 := ⟨List.mem_filter.mpr ⟨List.mem_of_getElem? (i := 1115) rfl, rfl⟩, tw_c 3 wl_0_ok rfl, rfl, by decide, by decide, by decide +kernel⟩
theorem v_Lay_takeStakes : Cond.instanceMethod y_Lay_takeStakes ∈ tw ∧ Cond.selects y_Lay_takeStakes.cls y_Lay_takeStakes y_Lay_takeStakes ∈ tw := ⟨tw_c 2 wl_14_ok rfl, tw_c 3 wl_14_ok rfl⟩
set_option maxRecDepth 100000 in
theorem n_WF_see : m_nm y_WF_see M_WF_see 0 := ⟨List.mem_filter.mpr ⟨List.mem_of_getElem? (i := 1119) rfl, rfl⟩, tw_c 11 wl_0_ok rfl, rfl, by decide, by decide, by decide +kernel⟩
theorem v_WF_see : Cond.instanceMethod y_WF_see ∈ tw ∧ Cond.selects y_WF_see.cls y_WF_see y_WF_see ∈ tw := ⟨tw_c 4 wl_14_ok rfl, tw_c 5 wl_14_ok rfl⟩
set_option maxRecDepth 100000 in
theorem n_Seen_readFrom : m_nm y_Seen_readFrom M_Seen_readFrom 2 := ⟨List.mem_filter.mpr ⟨List.mem_of_getElem? (i := 1123) rfl, rfl⟩, tw_c 7 wl_0_ok rfl, rfl, by decide, by decide, by decide +kernel⟩
theorem v_Seen_readFrom : Cond.instanceMethod y_Seen_readFrom ∈ tw ∧ Cond.selects y_Seen_readFrom.cls y_Seen_readFrom y_Seen_readFrom ∈ tw := ⟨tw_c 6 wl_14_ok rfl, tw_c 7 wl_14_ok rfl⟩
set_option maxRecDepth 100000 in
theorem n_WF_fits : m_nm y_WF_fits M_WF_fits 1 := ⟨List.mem_filter.mpr ⟨List.mem_of_getElem? (i := 1130) rfl, rfl⟩, tw_c 11 wl_0_ok rfl, rfl, by decide, by decide, by decide +kernel⟩
theorem v_WF_fits : Cond.instanceMethod y_WF_fits ∈ tw ∧ Cond.selects y_WF_fits.cls y_WF_fits y_WF_fits ∈ tw := ⟨tw_c 8 wl_14_ok rfl, tw_c 9 wl_14_ok rfl⟩
set_option maxRecDepth 100000 in
theorem n_Foresight_findFits : m_nm y_Foresight_findFits M_Foresight_findFits 2 := ⟨List.mem_filter.mpr ⟨List.mem_of_getElem? (i := 1134) rfl, rfl⟩, tw_c 0 wl_0_ok rfl, rfl, by decide, by decide, by decide +kernel⟩
theorem v_Foresight_findFits : Cond.instanceMethod y_Foresight_findFits ∈ tw ∧ Cond.selects y_Foresight_findFits.cls y_Foresight_findFits y_Foresight_findFits ∈ tw := ⟨tw_c 10 wl_14_ok rfl, tw_c 11 wl_14_ok rfl⟩
set_option maxRecDepth 100000 in
theorem n_Seen_isSo : m_nm y_Seen_isSo M_Seen_isSo 1 := ⟨List.mem_filter.mpr ⟨List.mem_of_getElem? (i := 1138) rfl, rfl⟩, tw_c 7 wl_0_ok rfl, rfl, by decide, by decide, by decide +kernel⟩
theorem v_Seen_isSo : Cond.instanceMethod y_Seen_isSo ∈ tw ∧ Cond.selects y_Seen_isSo.cls y_Seen_isSo y_Seen_isSo ∈ tw := ⟨tw_c 12 wl_14_ok rfl, tw_c 13 wl_14_ok rfl⟩
set_option maxRecDepth 100000 in
theorem n_Foresight_countOwners : m_nm y_Foresight_countOwners M_Foresight_countOwners 0 := ⟨List.mem_filter.mpr ⟨List.mem_of_getElem? (i := 1143) rfl, rfl⟩, tw_c 0 wl_0_ok rfl, rfl, by decide, by decide, by decide +kernel⟩
theorem v_Foresight_countOwners : Cond.instanceMethod y_Foresight_countOwners ∈ tw ∧ Cond.selects y_Foresight_countOwners.cls y_Foresight_countOwners y_Foresight_countOwners ∈ tw := ⟨tw_c 14 wl_14_ok rfl, tw_c 15 wl_14_ok rfl⟩
set_option maxRecDepth 100000 in
theorem n_WF_tells : m_nm y_WF_tells M_WF_tells 1 := ⟨List.mem_filter.mpr ⟨List.mem_of_getElem? (i := 1148) rfl, rfl⟩, tw_c 11 wl_0_ok rfl, rfl, by decide, by decide, by decide +kernel⟩
theorem v_WF_tells : Cond.instanceMethod y_WF_tells ∈ tw ∧ Cond.selects y_WF_tells.cls y_WF_tells y_WF_tells ∈ tw := ⟨tw_c 16 wl_14_ok rfl, tw_c 17 wl_14_ok rfl⟩
set_option maxRecDepth 100000 in
theorem n_Foresight_findTelling : m_nm y_Foresight_findTelling M_Foresight_findTelling 2 := ⟨List.mem_filter.mpr ⟨List.mem_of_getElem? (i := 1152) rfl, rfl⟩, tw_c 0 wl_0_ok rfl, rfl, by decide, by decide, by decide +kernel⟩
theorem v_Foresight_findTelling : Cond.instanceMethod y_Foresight_findTelling ∈ tw ∧ Cond.selects y_Foresight_findTelling.cls y_Foresight_findTelling y_Foresight_findTelling ∈ tw := ⟨tw_c 18 wl_14_ok rfl, tw_c 19 wl_14_ok rfl⟩
set_option maxRecDepth 100000 in
theorem n_Foresight_leftBy : m_nm y_Foresight_leftBy M_Foresight_leftBy 2 := ⟨List.mem_filter.mpr ⟨List.mem_of_getElem? (i := 1157) rfl, rfl⟩, tw_c 0 wl_0_ok rfl, rfl, by decide, by decide, by decide +kernel⟩
theorem v_Foresight_leftBy : Cond.instanceMethod y_Foresight_leftBy ∈ tw ∧ Cond.selects y_Foresight_leftBy.cls y_Foresight_leftBy y_Foresight_leftBy ∈ tw := ⟨tw_c 0 wl_15_ok rfl, tw_c 1 wl_15_ok rfl⟩
set_option maxRecDepth 100000 in
theorem n_WF_set : m_nm y_WF_set M_WF_set 1 := ⟨List.mem_filter.mpr ⟨List.mem_of_getElem? (i := 1162) rfl, rfl⟩, tw_c 11 wl_0_ok rfl, rfl, by decide, by decide, by decide +kernel⟩
theorem v_WF_set : Cond.instanceMethod y_WF_set ∈ tw ∧ Cond.selects y_WF_set.cls y_WF_set y_WF_set ∈ tw := ⟨tw_c 2 wl_15_ok rfl, tw_c 3 wl_15_ok rfl⟩
set_option maxRecDepth 100000 in
theorem n_WF_beginAct : m_nm y_WF_beginAct M_WF_beginAct 0 := ⟨List.mem_filter.mpr ⟨List.mem_of_getElem? (i := 1166) rfl, rfl⟩, tw_c 11 wl_0_ok rfl, rfl, by decide, by decide, by decide +kernel⟩
theorem v_WF_beginAct : Cond.instanceMethod y_WF_beginAct ∈ tw ∧ Cond.selects y_WF_beginAct.cls y_WF_beginAct y_WF_beginAct ∈ tw := ⟨tw_c 4 wl_15_ok rfl, tw_c 5 wl_15_ok rfl⟩
set_option maxRecDepth 100000 in
theorem n_History_keep : m_nm y_History_keep M_History_keep 2 := ⟨List.mem_filter.mpr ⟨List.mem_of_getElem? (i := 1170) rfl, rfl⟩, tw_c 1 wl_0_ok rfl, rfl, by decide, by decide, by decide +kernel⟩
theorem v_History_keep : Cond.instanceMethod y_History_keep ∈ tw ∧ Cond.selects y_History_keep.cls y_History_keep y_History_keep ∈ tw := ⟨tw_c 6 wl_15_ok rfl, tw_c 7 wl_15_ok rfl⟩
set_option maxRecDepth 100000 in
theorem n_History_hasRing : m_nm y_History_hasRing M_History_hasRing 1 := ⟨List.mem_filter.mpr ⟨List.mem_of_getElem? (i := 1174) rfl, rfl⟩, tw_c 1 wl_0_ok rfl, rfl, by decide, by decide, by decide +kernel⟩
theorem v_History_hasRing : Cond.instanceMethod y_History_hasRing ∈ tw ∧ Cond.selects y_History_hasRing.cls y_History_hasRing y_History_hasRing ∈ tw := ⟨tw_c 8 wl_15_ok rfl, tw_c 9 wl_15_ok rfl⟩
set_option maxRecDepth 100000 in
theorem n_Log_takeFrom : m_nm y_Log_takeFrom M_Log_takeFrom 1 := ⟨List.mem_filter.mpr ⟨List.mem_of_getElem? (i := 1179) rfl, rfl⟩, tw_c 4 wl_0_ok rfl, rfl, by decide, by decide, by decide +kernel⟩
theorem v_Log_takeFrom : Cond.instanceMethod y_Log_takeFrom ∈ tw ∧ Cond.selects y_Log_takeFrom.cls y_Log_takeFrom y_Log_takeFrom ∈ tw := ⟨tw_c 10 wl_15_ok rfl, tw_c 11 wl_15_ok rfl⟩
set_option maxRecDepth 100000 in
theorem n_WF_cut : m_nm y_WF_cut M_WF_cut 1 := ⟨List.mem_filter.mpr ⟨List.mem_of_getElem? (i := 1186) rfl, rfl⟩, tw_c 11 wl_0_ok rfl, rfl, by decide, by decide, by decide +kernel⟩
theorem v_WF_cut : Cond.instanceMethod y_WF_cut ∈ tw ∧ Cond.selects y_WF_cut.cls y_WF_cut y_WF_cut ∈ tw := ⟨tw_c 12 wl_15_ok rfl, tw_c 13 wl_15_ok rfl⟩
set_option maxRecDepth 100000 in
theorem n_WF_iron : m_nm y_WF_iron M_WF_iron 2 := ⟨List.mem_filter.mpr ⟨List.mem_of_getElem? (i := 1190) rfl, rfl⟩, tw_c 11 wl_0_ok rfl, rfl, by decide, by decide, by decide +kernel⟩
theorem v_WF_iron : Cond.instanceMethod y_WF_iron ∈ tw ∧ Cond.selects y_WF_iron.cls y_WF_iron y_WF_iron ∈ tw := ⟨tw_c 14 wl_15_ok rfl, tw_c 15 wl_15_ok rfl⟩
set_option maxRecDepth 100000 in
theorem n_WF_years : m_nm y_WF_years M_WF_years 1 := ⟨List.mem_filter.mpr ⟨List.mem_of_getElem? (i := 1195) rfl, rfl⟩, tw_c 11 wl_0_ok rfl, rfl, by decide, by decide, by decide +kernel⟩
theorem v_WF_years : Cond.instanceMethod y_WF_years ∈ tw ∧ Cond.selects y_WF_years.cls y_WF_years y_WF_years ∈ tw := ⟨tw_c 16 wl_15_ok rfl, tw_c 17 wl_15_ok rfl⟩
set_option maxRecDepth 100000 in
theorem n_WF_chance : m_nm y_WF_chance M_WF_chance 1 := ⟨List.mem_filter.mpr ⟨List.mem_of_getElem? (i := 1200) rfl, rfl⟩, tw_c 11 wl_0_ok rfl, rfl, by decide, by decide, by decide +kernel⟩
theorem v_WF_chance : Cond.instanceMethod y_WF_chance ∈ tw ∧ Cond.selects y_WF_chance.cls y_WF_chance y_WF_chance ∈ tw := ⟨tw_c 18 wl_15_ok rfl, tw_c 19 wl_15_ok rfl⟩
set_option maxRecDepth 100000 in
theorem n_WF_draw : m_nm y_WF_draw M_WF_draw 1 := ⟨List.mem_filter.mpr ⟨List.mem_of_getElem? (i := 1204) rfl, rfl⟩, tw_c 11 wl_0_ok rfl, rfl, by decide, by decide, by decide +kernel⟩
theorem v_WF_draw : Cond.instanceMethod y_WF_draw ∈ tw ∧ Cond.selects y_WF_draw.cls y_WF_draw y_WF_draw ∈ tw := ⟨tw_c 0 wl_16_ok rfl, tw_c 1 wl_16_ok rfl⟩
set_option maxRecDepth 100000 in
theorem n_WF_washOut : m_nm y_WF_washOut M_WF_washOut 2 := ⟨List.mem_filter.mpr ⟨List.mem_of_getElem? (i := 1210) rfl, rfl⟩, tw_c 11 wl_0_ok rfl, rfl, by decide, by decide, by decide +kernel⟩
theorem v_WF_washOut : Cond.instanceMethod y_WF_washOut ∈ tw ∧ Cond.selects y_WF_washOut.cls y_WF_washOut y_WF_washOut ∈ tw := ⟨tw_c 2 wl_16_ok rfl, tw_c 3 wl_16_ok rfl⟩
set_option maxRecDepth 100000 in
theorem n_WF_undo : m_nm y_WF_undo M_WF_undo 0 := ⟨List.mem_filter.mpr ⟨List.mem_of_getElem? (i := 1216) rfl, rfl⟩, tw_c 11 wl_0_ok rfl, rfl, by decide, by decide, by decide +kernel⟩
theorem v_WF_undo : Cond.instanceMethod y_WF_undo ∈ tw ∧ Cond.selects y_WF_undo.cls y_WF_undo y_WF_undo ∈ tw := ⟨tw_c 4 wl_16_ok rfl, tw_c 5 wl_16_ok rfl⟩
set_option maxRecDepth 100000 in
theorem n_History_giveBack : m_nm y_History_giveBack M_History_giveBack 2 := ⟨List.mem_filter.mpr ⟨List.mem_of_getElem? (i := 1220) rfl, rfl⟩, tw_c 1 wl_0_ok rfl, rfl, by decide, by decide, by decide +kernel⟩
theorem v_History_giveBack : Cond.instanceMethod y_History_giveBack ∈ tw ∧ Cond.selects y_History_giveBack.cls y_History_giveBack y_History_giveBack ∈ tw := ⟨tw_c 6 wl_16_ok rfl, tw_c 7 wl_16_ok rfl⟩
set_option maxRecDepth 100000 in
theorem n_WF_seed : m_nm y_WF_seed M_WF_seed 1 := ⟨List.mem_filter.mpr ⟨List.mem_of_getElem? (i := 1224) rfl, rfl⟩, tw_c 11 wl_0_ok rfl, rfl, by decide, by decide, by decide +kernel⟩
theorem v_WF_seed : Cond.instanceMethod y_WF_seed ∈ tw ∧ Cond.selects y_WF_seed.cls y_WF_seed y_WF_seed ∈ tw := ⟨tw_c 8 wl_16_ok rfl, tw_c 9 wl_16_ok rfl⟩
set_option maxRecDepth 100000 in
theorem n_WF_ask : m_nm y_WF_ask M_WF_ask 0 := ⟨List.mem_filter.mpr ⟨List.mem_of_getElem? (i := 1228) rfl, rfl⟩, tw_c 11 wl_0_ok rfl, rfl, by decide, by decide, by decide +kernel⟩
theorem v_WF_ask : Cond.instanceMethod y_WF_ask ∈ tw ∧ Cond.selects y_WF_ask.cls y_WF_ask y_WF_ask ∈ tw := ⟨tw_c 10 wl_16_ok rfl, tw_c 11 wl_16_ok rfl⟩
set_option maxRecDepth 100000 in
theorem n_Reader_readQuestion : m_nm y_Reader_readQuestion M_Reader_readQuestion 1 := ⟨List.mem_filter.mpr ⟨List.mem_of_getElem? (i := 1233) rfl, rfl⟩, tw_c 5 wl_0_ok rfl, rfl, by decide, by decide, by decide +kernel⟩
theorem v_Reader_readQuestion : Cond.instanceMethod y_Reader_readQuestion ∈ tw ∧ Cond.selects y_Reader_readQuestion.cls y_Reader_readQuestion y_Reader_readQuestion ∈ tw := ⟨tw_c 12 wl_16_ok rfl, tw_c 13 wl_16_ok rfl⟩
set_option maxRecDepth 100000 in
theorem n_WF_answer : m_nm y_WF_answer M_WF_answer 1 := ⟨List.mem_filter.mpr ⟨List.mem_of_getElem? (i := 1239) rfl, rfl⟩, tw_c 11 wl_0_ok rfl, rfl, by decide, by decide, by decide +kernel⟩
theorem v_WF_answer : Cond.instanceMethod y_WF_answer ∈ tw ∧ Cond.selects y_WF_answer.cls y_WF_answer y_WF_answer ∈ tw := ⟨tw_c 14 wl_16_ok rfl, tw_c 15 wl_16_ok rfl⟩
set_option maxRecDepth 100000 in
theorem n_Walker_reckonQuestion : m_nm y_Walker_reckonQuestion M_Walker_reckonQuestion 3 := ⟨List.mem_filter.mpr ⟨List.mem_of_getElem? (i := 1244) rfl, rfl⟩, tw_c 10 wl_0_ok rfl, rfl, by decide, by decide, by decide +kernel⟩
theorem v_Walker_reckonQuestion : Cond.instanceMethod y_Walker_reckonQuestion ∈ tw ∧ Cond.selects y_Walker_reckonQuestion.cls y_Walker_reckonQuestion y_Walker_reckonQuestion ∈ tw := ⟨tw_c 16 wl_16_ok rfl, tw_c 17 wl_16_ok rfl⟩
set_option maxRecDepth 100000 in
theorem n_Math_max_JJ : m_nm y_Math_max_JJ M_Math_max_JJ 2 := ⟨List.mem_filter.mpr ⟨List.mem_of_getElem? (i := 1249) rfl, rfl⟩, tw_c 15 wl_0_ok rfl, rfl, by decide, by decide, by decide +kernel⟩
theorem s_Math_max_JJ : Cond.static y_Math_max_JJ ∈ tw := tw_c 18 wl_16_ok rfl
set_option maxRecDepth 100000 in
theorem n_Math_min_JJ : m_nm y_Math_min_JJ M_Math_min_JJ 2 := ⟨List.mem_filter.mpr ⟨List.mem_of_getElem? (i := 1252) rfl, rfl⟩, tw_c 15 wl_0_ok rfl, rfl, by decide, by decide, by decide +kernel⟩
theorem s_Math_min_JJ : Cond.static y_Math_min_JJ ∈ tw := tw_c 19 wl_16_ok rfl
set_option maxRecDepth 100000 in
theorem n_WF_image : m_nm y_WF_image M_WF_image 0 := ⟨List.mem_filter.mpr ⟨List.mem_of_getElem? (i := 1256) rfl, rfl⟩, tw_c 11 wl_0_ok rfl, rfl, by decide, by decide, by decide +kernel⟩
theorem v_WF_image : Cond.instanceMethod y_WF_image ∈ tw ∧ Cond.selects y_WF_image.cls y_WF_image y_WF_image ∈ tw := ⟨tw_c 0 wl_17_ok rfl, tw_c 1 wl_17_ok rfl⟩
set_option maxRecDepth 100000 in
theorem n_Image_write : m_nm y_Image_write M_Image_write 2 := ⟨List.mem_filter.mpr ⟨List.mem_of_getElem? (i := 1260) rfl, rfl⟩, tw_c 2 wl_0_ok rfl, rfl, by decide, by decide, by decide +kernel⟩
theorem v_Image_write : Cond.instanceMethod y_Image_write ∈ tw ∧ Cond.selects y_Image_write.cls y_Image_write y_Image_write ∈ tw := ⟨tw_c 2 wl_17_ok rfl, tw_c 3 wl_17_ok rfl⟩
set_option maxRecDepth 100000 in
theorem n_Image_add : m_nm y_Image_add M_Image_add 1 := ⟨List.mem_filter.mpr ⟨List.mem_of_getElem? (i := 1264) rfl, rfl⟩, tw_c 2 wl_0_ok rfl, rfl, by decide, by decide, by decide +kernel⟩
theorem v_Image_add : Cond.instanceMethod y_Image_add ∈ tw ∧ Cond.selects y_Image_add.cls y_Image_add y_Image_add ∈ tw := ⟨tw_c 4 wl_17_ok rfl, tw_c 5 wl_17_ok rfl⟩
set_option maxRecDepth 100000 in
theorem n_WF_octet : m_nm y_WF_octet M_WF_octet 1 := ⟨List.mem_filter.mpr ⟨List.mem_of_getElem? (i := 1273) rfl, rfl⟩, tw_c 11 wl_0_ok rfl, rfl, by decide, by decide, by decide +kernel⟩
theorem v_WF_octet : Cond.instanceMethod y_WF_octet ∈ tw ∧ Cond.selects y_WF_octet.cls y_WF_octet y_WF_octet ∈ tw := ⟨tw_c 6 wl_17_ok rfl, tw_c 7 wl_17_ok rfl⟩
set_option maxRecDepth 100000 in
theorem n_WF_on : m_nm y_WF_on M_WF_on 0 := ⟨List.mem_filter.mpr ⟨List.mem_of_getElem? (i := 1277) rfl, rfl⟩, tw_c 11 wl_0_ok rfl, rfl, by decide, by decide, by decide +kernel⟩
theorem v_WF_on : Cond.instanceMethod y_WF_on ∈ tw ∧ Cond.selects y_WF_on.cls y_WF_on y_WF_on ∈ tw := ⟨tw_c 8 wl_17_ok rfl, tw_c 9 wl_17_ok rfl⟩
set_option maxRecDepth 100000 in
theorem n_Image_read : m_nm y_Image_read M_Image_read 3 := ⟨List.mem_filter.mpr ⟨List.mem_of_getElem? (i := 1281) rfl, rfl⟩, tw_c 2 wl_0_ok rfl, rfl, by decide, by decide, by decide +kernel⟩
theorem v_Image_read : Cond.instanceMethod y_Image_read ∈ tw ∧ Cond.selects y_Image_read.cls y_Image_read y_Image_read ∈ tw := ⟨tw_c 10 wl_17_ok rfl, tw_c 11 wl_17_ok rfl⟩
set_option maxRecDepth 100000 in
theorem n_Image_readPosts : m_nm y_Image_readPosts M_Image_readPosts 4 := ⟨List.mem_filter.mpr ⟨List.mem_of_getElem? (i := 1286) rfl, rfl⟩, tw_c 2 wl_0_ok rfl, rfl, by decide, by decide, by decide +kernel⟩
theorem s_Image_readPosts : Cond.static y_Image_readPosts ∈ tw := tw_c 12 wl_17_ok rfl
set_option maxRecDepth 100000 in
theorem n_Image_readFences : m_nm y_Image_readFences M_Image_readFences 4 := ⟨List.mem_filter.mpr ⟨List.mem_of_getElem? (i := 1291) rfl, rfl⟩, tw_c 2 wl_0_ok rfl, rfl, by decide, by decide, by decide +kernel⟩
theorem s_Image_readFences : Cond.static y_Image_readFences ∈ tw := tw_c 13 wl_17_ok rfl
set_option maxRecDepth 100000 in
theorem n_WF_status : m_nm y_WF_status M_WF_status 1 := ⟨List.mem_filter.mpr ⟨List.mem_of_getElem? (i := 1297) rfl, rfl⟩, tw_c 11 wl_0_ok rfl, rfl, by decide, by decide, by decide +kernel⟩
theorem v_WF_status : Cond.instanceMethod y_WF_status ∈ tw ∧ Cond.selects y_WF_status.cls y_WF_status y_WF_status ∈ tw := ⟨tw_c 14 wl_17_ok rfl, tw_c 15 wl_17_ok rfl⟩
set_option maxRecDepth 100000 in
theorem n_MD_init : m_nm y_MD_init M_MD_init 0 := ⟨List.mem_filter.mpr ⟨List.mem_of_getElem? (i := 1302) rfl, rfl⟩, tw_c 12 wl_0_ok rfl, rfl, by decide, by decide, by decide +kernel⟩
theorem i_MD_init : Cond.instanceMethod y_MD_init ∈ tw := tw_c 16 wl_17_ok rfl
set_option maxRecDepth 100000 in
theorem n_MD_feed : m_nm y_MD_feed M_MD_feed 5 := ⟨List.mem_filter.mpr ⟨List.mem_of_getElem? (i := 1620) rfl, rfl⟩, tw_c 12 wl_0_ok rfl, rfl, by decide, by decide, by decide +kernel⟩
theorem v_MD_feed : Cond.instanceMethod y_MD_feed ∈ tw ∧ Cond.selects y_MD_feed.cls y_MD_feed y_MD_feed ∈ tw := ⟨tw_c 17 wl_17_ok rfl, tw_c 18 wl_17_ok rfl⟩
set_option maxRecDepth 100000 in
theorem n_MD_end : m_nm y_MD_end M_MD_end 1 := ⟨List.mem_filter.mpr ⟨List.mem_of_getElem? (i := 1624) rfl, rfl⟩, tw_c 12 wl_0_ok rfl, rfl, by decide, by decide, by decide +kernel⟩
theorem v_MD_end : Cond.instanceMethod y_MD_end ∈ tw ∧ Cond.selects y_MD_end.cls y_MD_end y_MD_end ∈ tw := ⟨tw_c 19 wl_17_ok rfl, tw_c 0 wl_18_ok rfl⟩
set_option maxRecDepth 100000 in
theorem n_MD_slope : m_nm y_MD_slope M_MD_slope 0 := ⟨List.mem_filter.mpr ⟨List.mem_of_getElem? (i := 1628) rfl, rfl⟩, tw_c 12 wl_0_ok rfl, rfl, by decide, by decide, by decide +kernel⟩
theorem v_MD_slope : Cond.instanceMethod y_MD_slope ∈ tw ∧ Cond.selects y_MD_slope.cls y_MD_slope y_MD_slope ∈ tw := ⟨tw_c 1 wl_18_ok rfl, tw_c 2 wl_18_ok rfl⟩
set_option maxRecDepth 100000 in
theorem n_MD_slopeTold : m_nm y_MD_slopeTold M_MD_slopeTold 0 := ⟨List.mem_filter.mpr ⟨List.mem_of_getElem? (i := 1632) rfl, rfl⟩, tw_c 12 wl_0_ok rfl, rfl, by decide, by decide, by decide +kernel⟩
theorem v_MD_slopeTold : Cond.instanceMethod y_MD_slopeTold ∈ tw ∧ Cond.selects y_MD_slopeTold.cls y_MD_slopeTold y_MD_slopeTold ∈ tw := ⟨tw_c 3 wl_18_ok rfl, tw_c 4 wl_18_ok rfl⟩
set_option maxRecDepth 100000 in
theorem n_MD_asks : m_nm y_MD_asks M_MD_asks 1 := ⟨List.mem_filter.mpr ⟨List.mem_of_getElem? (i := 1636) rfl, rfl⟩, tw_c 12 wl_0_ok rfl, rfl, by decide, by decide, by decide +kernel⟩
theorem v_MD_asks : Cond.instanceMethod y_MD_asks ∈ tw ∧ Cond.selects y_MD_asks.cls y_MD_asks y_MD_asks ∈ tw := ⟨tw_c 5 wl_18_ok rfl, tw_c 6 wl_18_ok rfl⟩
set_option maxRecDepth 100000 in
theorem n_MD_takes : m_nm y_MD_takes M_MD_takes 1 := ⟨List.mem_filter.mpr ⟨List.mem_of_getElem? (i := 1640) rfl, rfl⟩, tw_c 12 wl_0_ok rfl, rfl, by decide, by decide, by decide +kernel⟩
theorem v_MD_takes : Cond.instanceMethod y_MD_takes ∈ tw ∧ Cond.selects y_MD_takes.cls y_MD_takes y_MD_takes ∈ tw := ⟨tw_c 7 wl_18_ok rfl, tw_c 8 wl_18_ok rfl⟩
set_option maxRecDepth 100000 in
theorem n_MD_isHere : m_nm y_MD_isHere M_MD_isHere 1 := ⟨List.mem_filter.mpr ⟨List.mem_of_getElem? (i := 1644) rfl, rfl⟩, tw_c 12 wl_0_ok rfl, rfl, by decide, by decide, by decide +kernel⟩
theorem v_MD_isHere : Cond.instanceMethod y_MD_isHere ∈ tw ∧ Cond.selects y_MD_isHere.cls y_MD_isHere y_MD_isHere ∈ tw := ⟨tw_c 9 wl_18_ok rfl, tw_c 10 wl_18_ok rfl⟩
set_option maxRecDepth 100000 in
theorem n_MD_look : m_nm y_MD_look M_MD_look 0 := ⟨List.mem_filter.mpr ⟨List.mem_of_getElem? (i := 1648) rfl, rfl⟩, tw_c 12 wl_0_ok rfl, rfl, by decide, by decide, by decide +kernel⟩
theorem v_MD_look : Cond.instanceMethod y_MD_look ∈ tw ∧ Cond.selects y_MD_look.cls y_MD_look y_MD_look ∈ tw := ⟨tw_c 11 wl_18_ok rfl, tw_c 12 wl_18_ok rfl⟩
set_option maxRecDepth 100000 in
theorem n_MD_isLetter : m_nm y_MD_isLetter M_MD_isLetter 1 := ⟨List.mem_filter.mpr ⟨List.mem_of_getElem? (i := 1651) rfl, rfl⟩, tw_c 12 wl_0_ok rfl, rfl, by decide, by decide, by decide +kernel⟩
theorem s_MD_isLetter : Cond.static y_MD_isLetter ∈ tw := tw_c 13 wl_18_ok rfl
set_option maxRecDepth 100000 in
theorem n_MD_fail : m_nm y_MD_fail M_MD_fail 2 := ⟨List.mem_filter.mpr ⟨List.mem_of_getElem? (i := 1655) rfl, rfl⟩, tw_c 12 wl_0_ok rfl, rfl, by decide, by decide, by decide +kernel⟩
theorem v_MD_fail : Cond.instanceMethod y_MD_fail ∈ tw ∧ Cond.selects y_MD_fail.cls y_MD_fail y_MD_fail ∈ tw := ⟨tw_c 14 wl_18_ok rfl, tw_c 15 wl_18_ok rfl⟩
set_option maxRecDepth 100000 in
theorem n_MD_number : m_nm y_MD_number M_MD_number 2 := ⟨List.mem_filter.mpr ⟨List.mem_of_getElem? (i := 1659) rfl, rfl⟩, tw_c 12 wl_0_ok rfl, rfl, by decide, by decide, by decide +kernel⟩
theorem v_MD_number : Cond.instanceMethod y_MD_number ∈ tw ∧ Cond.selects y_MD_number.cls y_MD_number y_MD_number ∈ tw := ⟨tw_c 16 wl_18_ok rfl, tw_c 17 wl_18_ok rfl⟩
set_option maxRecDepth 100000 in
theorem n_MD_isDigit : m_nm y_MD_isDigit M_MD_isDigit 1 := ⟨List.mem_filter.mpr ⟨List.mem_of_getElem? (i := 1662) rfl, rfl⟩, tw_c 12 wl_0_ok rfl, rfl, by decide, by decide, by decide +kernel⟩
theorem s_MD_isDigit : Cond.static y_MD_isDigit ∈ tw := tw_c 18 wl_18_ok rfl
set_option maxRecDepth 100000 in
theorem n_MD_isIn : m_nm y_MD_isIn M_MD_isIn 3 := ⟨List.mem_filter.mpr ⟨List.mem_of_getElem? (i := 1665) rfl, rfl⟩, tw_c 12 wl_0_ok rfl, rfl, by decide, by decide, by decide +kernel⟩
theorem s_MD_isIn : Cond.static y_MD_isIn ∈ tw := tw_c 19 wl_18_ok rfl
set_option maxRecDepth 100000 in
theorem n_MD_asksSign : m_nm y_MD_asksSign M_MD_asksSign 1 := ⟨List.mem_filter.mpr ⟨List.mem_of_getElem? (i := 1669) rfl, rfl⟩, tw_c 12 wl_0_ok rfl, rfl, by decide, by decide, by decide +kernel⟩
theorem v_MD_asksSign : Cond.instanceMethod y_MD_asksSign ∈ tw ∧ Cond.selects y_MD_asksSign.cls y_MD_asksSign y_MD_asksSign ∈ tw := ⟨tw_c 0 wl_19_ok rfl, tw_c 1 wl_19_ok rfl⟩
set_option maxRecDepth 100000 in
theorem n_MD_takesSign : m_nm y_MD_takesSign M_MD_takesSign 1 := ⟨List.mem_filter.mpr ⟨List.mem_of_getElem? (i := 1673) rfl, rfl⟩, tw_c 12 wl_0_ok rfl, rfl, by decide, by decide, by decide +kernel⟩
theorem v_MD_takesSign : Cond.instanceMethod y_MD_takesSign ∈ tw ∧ Cond.selects y_MD_takesSign.cls y_MD_takesSign y_MD_takesSign ∈ tw := ⟨tw_c 2 wl_19_ok rfl, tw_c 3 wl_19_ok rfl⟩
set_option maxRecDepth 100000 in
theorem n_MD_statementTold : m_nm y_MD_statementTold M_MD_statementTold 0 := ⟨List.mem_filter.mpr ⟨List.mem_of_getElem? (i := 1677) rfl, rfl⟩, tw_c 12 wl_0_ok rfl, rfl, by decide, by decide, by decide +kernel⟩
theorem v_MD_statementTold : Cond.instanceMethod y_MD_statementTold ∈ tw ∧ Cond.selects y_MD_statementTold.cls y_MD_statementTold y_MD_statementTold ∈ tw := ⟨tw_c 4 wl_19_ok rfl, tw_c 5 wl_19_ok rfl⟩
set_option maxRecDepth 100000 in
theorem n_MD_steepTold : m_nm y_MD_steepTold M_MD_steepTold 0 := ⟨List.mem_filter.mpr ⟨List.mem_of_getElem? (i := 1681) rfl, rfl⟩, tw_c 12 wl_0_ok rfl, rfl, by decide, by decide, by decide +kernel⟩
theorem v_MD_steepTold : Cond.instanceMethod y_MD_steepTold ∈ tw ∧ Cond.selects y_MD_steepTold.cls y_MD_steepTold y_MD_steepTold ∈ tw := ⟨tw_c 6 wl_19_ok rfl, tw_c 7 wl_19_ok rfl⟩
set_option maxRecDepth 100000 in
theorem n_MD_ironTold : m_nm y_MD_ironTold M_MD_ironTold 1 := ⟨List.mem_filter.mpr ⟨List.mem_of_getElem? (i := 1685) rfl, rfl⟩, tw_c 12 wl_0_ok rfl, rfl, by decide, by decide, by decide +kernel⟩
theorem v_MD_ironTold : Cond.instanceMethod y_MD_ironTold ∈ tw ∧ Cond.selects y_MD_ironTold.cls y_MD_ironTold y_MD_ironTold ∈ tw := ⟨tw_c 8 wl_19_ok rfl, tw_c 9 wl_19_ok rfl⟩
set_option maxRecDepth 100000 in
theorem n_MD_fenceTold : m_nm y_MD_fenceTold M_MD_fenceTold 1 := ⟨List.mem_filter.mpr ⟨List.mem_of_getElem? (i := 1689) rfl, rfl⟩, tw_c 12 wl_0_ok rfl, rfl, by decide, by decide, by decide +kernel⟩
theorem v_MD_fenceTold : Cond.instanceMethod y_MD_fenceTold ∈ tw ∧ Cond.selects y_MD_fenceTold.cls y_MD_fenceTold y_MD_fenceTold ∈ tw := ⟨tw_c 10 wl_19_ok rfl, tw_c 11 wl_19_ok rfl⟩
set_option maxRecDepth 100000 in
theorem n_MD_name : m_nm y_MD_name M_MD_name 0 := ⟨List.mem_filter.mpr ⟨List.mem_of_getElem? (i := 1693) rfl, rfl⟩, tw_c 12 wl_0_ok rfl, rfl, by decide, by decide, by decide +kernel⟩
theorem v_MD_name : Cond.instanceMethod y_MD_name ∈ tw ∧ Cond.selects y_MD_name.cls y_MD_name y_MD_name ∈ tw := ⟨tw_c 12 wl_19_ok rfl, tw_c 13 wl_19_ok rfl⟩
set_option maxRecDepth 100000 in
theorem n_MD_isOwnHere : m_nm y_MD_isOwnHere M_MD_isOwnHere 0 := ⟨List.mem_filter.mpr ⟨List.mem_of_getElem? (i := 1697) rfl, rfl⟩, tw_c 12 wl_0_ok rfl, rfl, by decide, by decide, by decide +kernel⟩
theorem v_MD_isOwnHere : Cond.instanceMethod y_MD_isOwnHere ∈ tw ∧ Cond.selects y_MD_isOwnHere.cls y_MD_isOwnHere y_MD_isOwnHere ∈ tw := ⟨tw_c 14 wl_19_ok rfl, tw_c 15 wl_19_ok rfl⟩
set_option maxRecDepth 100000 in
theorem n_MD_nameOf : m_nm y_MD_nameOf M_MD_nameOf 1 := ⟨List.mem_filter.mpr ⟨List.mem_of_getElem? (i := 1703) rfl, rfl⟩, tw_c 12 wl_0_ok rfl, rfl, by decide, by decide, by decide +kernel⟩
theorem v_MD_nameOf : Cond.instanceMethod y_MD_nameOf ∈ tw ∧ Cond.selects y_MD_nameOf.cls y_MD_nameOf y_MD_nameOf ∈ tw := ⟨tw_c 16 wl_19_ok rfl, tw_c 17 wl_19_ok rfl⟩
set_option maxRecDepth 100000 in
theorem n_MD_stakeTold : m_nm y_MD_stakeTold M_MD_stakeTold 0 := ⟨List.mem_filter.mpr ⟨List.mem_of_getElem? (i := 1707) rfl, rfl⟩, tw_c 12 wl_0_ok rfl, rfl, by decide, by decide, by decide +kernel⟩
theorem v_MD_stakeTold : Cond.instanceMethod y_MD_stakeTold ∈ tw ∧ Cond.selects y_MD_stakeTold.cls y_MD_stakeTold y_MD_stakeTold ∈ tw := ⟨tw_c 18 wl_19_ok rfl, tw_c 19 wl_19_ok rfl⟩
set_option maxRecDepth 100000 in
theorem n_MD_codesTold : m_nm y_MD_codesTold M_MD_codesTold 2 := ⟨List.mem_filter.mpr ⟨List.mem_of_getElem? (i := 1711) rfl, rfl⟩, tw_c 12 wl_0_ok rfl, rfl, by decide, by decide, by decide +kernel⟩
theorem v_MD_codesTold : Cond.instanceMethod y_MD_codesTold ∈ tw ∧ Cond.selects y_MD_codesTold.cls y_MD_codesTold y_MD_codesTold ∈ tw := ⟨tw_c 0 wl_20_ok rfl, tw_c 1 wl_20_ok rfl⟩
set_option maxRecDepth 100000 in
theorem n_MD_qTest : m_nm y_MD_qTest M_MD_qTest 0 := ⟨List.mem_filter.mpr ⟨List.mem_of_getElem? (i := 1715) rfl, rfl⟩, tw_c 12 wl_0_ok rfl, rfl, by decide, by decide, by decide +kernel⟩
theorem v_MD_qTest : Cond.instanceMethod y_MD_qTest ∈ tw ∧ Cond.selects y_MD_qTest.cls y_MD_qTest y_MD_qTest ∈ tw := ⟨tw_c 2 wl_20_ok rfl, tw_c 3 wl_20_ok rfl⟩
set_option maxRecDepth 100000 in
theorem n_MD_qOpens : m_nm y_MD_qOpens M_MD_qOpens 2 := ⟨List.mem_filter.mpr ⟨List.mem_of_getElem? (i := 1719) rfl, rfl⟩, tw_c 12 wl_0_ok rfl, rfl, by decide, by decide, by decide +kernel⟩
theorem v_MD_qOpens : Cond.instanceMethod y_MD_qOpens ∈ tw ∧ Cond.selects y_MD_qOpens.cls y_MD_qOpens y_MD_qOpens ∈ tw := ⟨tw_c 4 wl_20_ok rfl, tw_c 5 wl_20_ok rfl⟩
set_option maxRecDepth 100000 in
theorem n_MD_qFact : m_nm y_MD_qFact M_MD_qFact 0 := ⟨List.mem_filter.mpr ⟨List.mem_of_getElem? (i := 1723) rfl, rfl⟩, tw_c 12 wl_0_ok rfl, rfl, by decide, by decide, by decide +kernel⟩
theorem v_MD_qFact : Cond.instanceMethod y_MD_qFact ∈ tw ∧ Cond.selects y_MD_qFact.cls y_MD_qFact y_MD_qFact ∈ tw := ⟨tw_c 6 wl_20_ok rfl, tw_c 7 wl_20_ok rfl⟩
set_option maxRecDepth 100000 in
theorem n_MD_qCode : m_nm y_MD_qCode M_MD_qCode 1 := ⟨List.mem_filter.mpr ⟨List.mem_of_getElem? (i := 1727) rfl, rfl⟩, tw_c 12 wl_0_ok rfl, rfl, by decide, by decide, by decide +kernel⟩
theorem v_MD_qCode : Cond.instanceMethod y_MD_qCode ∈ tw ∧ Cond.selects y_MD_qCode.cls y_MD_qCode y_MD_qCode ∈ tw := ⟨tw_c 8 wl_20_ok rfl, tw_c 9 wl_20_ok rfl⟩
set_option maxRecDepth 100000 in
theorem n_MD_qSums : m_nm y_MD_qSums M_MD_qSums 0 := ⟨List.mem_filter.mpr ⟨List.mem_of_getElem? (i := 1731) rfl, rfl⟩, tw_c 12 wl_0_ok rfl, rfl, by decide, by decide, by decide +kernel⟩
theorem v_MD_qSums : Cond.instanceMethod y_MD_qSums ∈ tw ∧ Cond.selects y_MD_qSums.cls y_MD_qSums y_MD_qSums ∈ tw := ⟨tw_c 10 wl_20_ok rfl, tw_c 11 wl_20_ok rfl⟩
set_option maxRecDepth 100000 in
theorem n_MD_qPartTold : m_nm y_MD_qPartTold M_MD_qPartTold 0 := ⟨List.mem_filter.mpr ⟨List.mem_of_getElem? (i := 1735) rfl, rfl⟩, tw_c 12 wl_0_ok rfl, rfl, by decide, by decide, by decide +kernel⟩
theorem v_MD_qPartTold : Cond.instanceMethod y_MD_qPartTold ∈ tw ∧ Cond.selects y_MD_qPartTold.cls y_MD_qPartTold y_MD_qPartTold ∈ tw := ⟨tw_c 12 wl_20_ok rfl, tw_c 13 wl_20_ok rfl⟩
set_option maxRecDepth 100000 in
theorem n_MD_qWordOf : m_nm y_MD_qWordOf M_MD_qWordOf 2 := ⟨List.mem_filter.mpr ⟨List.mem_of_getElem? (i := 1739) rfl, rfl⟩, tw_c 12 wl_0_ok rfl, rfl, by decide, by decide, by decide +kernel⟩
theorem v_MD_qWordOf : Cond.instanceMethod y_MD_qWordOf ∈ tw ∧ Cond.selects y_MD_qWordOf.cls y_MD_qWordOf y_MD_qWordOf ∈ tw := ⟨tw_c 14 wl_20_ok rfl, tw_c 15 wl_20_ok rfl⟩
set_option maxRecDepth 100000 in
theorem n_MD_qWordHere : m_nm y_MD_qWordHere M_MD_qWordHere 0 := ⟨List.mem_filter.mpr ⟨List.mem_of_getElem? (i := 1743) rfl, rfl⟩, tw_c 12 wl_0_ok rfl, rfl, by decide, by decide, by decide +kernel⟩
theorem v_MD_qWordHere : Cond.instanceMethod y_MD_qWordHere ∈ tw ∧ Cond.selects y_MD_qWordHere.cls y_MD_qWordHere y_MD_qWordHere ∈ tw := ⟨tw_c 16 wl_20_ok rfl, tw_c 17 wl_20_ok rfl⟩
set_option maxRecDepth 100000 in
theorem n_MD_isAllowed : m_nm y_MD_isAllowed M_MD_isAllowed 1 := ⟨List.mem_filter.mpr ⟨List.mem_of_getElem? (i := 1747) rfl, rfl⟩, tw_c 12 wl_0_ok rfl, rfl, by decide, by decide, by decide +kernel⟩
theorem v_MD_isAllowed : Cond.instanceMethod y_MD_isAllowed ∈ tw ∧ Cond.selects y_MD_isAllowed.cls y_MD_isAllowed y_MD_isAllowed ∈ tw := ⟨tw_c 18 wl_20_ok rfl, tw_c 19 wl_20_ok rfl⟩
set_option maxRecDepth 100000 in
theorem n_MD_qAsksWord : m_nm y_MD_qAsksWord M_MD_qAsksWord 1 := ⟨List.mem_filter.mpr ⟨List.mem_of_getElem? (i := 1751) rfl, rfl⟩, tw_c 12 wl_0_ok rfl, rfl, by decide, by decide, by decide +kernel⟩
theorem v_MD_qAsksWord : Cond.instanceMethod y_MD_qAsksWord ∈ tw ∧ Cond.selects y_MD_qAsksWord.cls y_MD_qAsksWord y_MD_qAsksWord ∈ tw := ⟨tw_c 0 wl_21_ok rfl, tw_c 1 wl_21_ok rfl⟩
set_option maxRecDepth 100000 in
theorem n_MD_qEndsPart : m_nm y_MD_qEndsPart M_MD_qEndsPart 0 := ⟨List.mem_filter.mpr ⟨List.mem_of_getElem? (i := 1755) rfl, rfl⟩, tw_c 12 wl_0_ok rfl, rfl, by decide, by decide, by decide +kernel⟩
theorem v_MD_qEndsPart : Cond.instanceMethod y_MD_qEndsPart ∈ tw ∧ Cond.selects y_MD_qEndsPart.cls y_MD_qEndsPart y_MD_qEndsPart ∈ tw := ⟨tw_c 2 wl_21_ok rfl, tw_c 3 wl_21_ok rfl⟩
set_option maxRecDepth 100000 in
theorem n_MD_qDrops : m_nm y_MD_qDrops M_MD_qDrops 0 := ⟨List.mem_filter.mpr ⟨List.mem_of_getElem? (i := 1759) rfl, rfl⟩, tw_c 12 wl_0_ok rfl, rfl, by decide, by decide, by decide +kernel⟩
theorem v_MD_qDrops : Cond.instanceMethod y_MD_qDrops ∈ tw ∧ Cond.selects y_MD_qDrops.cls y_MD_qDrops y_MD_qDrops ∈ tw := ⟨tw_c 4 wl_21_ok rfl, tw_c 5 wl_21_ok rfl⟩
set_option maxRecDepth 100000 in
theorem n_MD_qGoesOn : m_nm y_MD_qGoesOn M_MD_qGoesOn 0 := ⟨List.mem_filter.mpr ⟨List.mem_of_getElem? (i := 1763) rfl, rfl⟩, tw_c 12 wl_0_ok rfl, rfl, by decide, by decide, by decide +kernel⟩
theorem v_MD_qGoesOn : Cond.instanceMethod y_MD_qGoesOn ∈ tw ∧ Cond.selects y_MD_qGoesOn.cls y_MD_qGoesOn y_MD_qGoesOn ∈ tw := ⟨tw_c 6 wl_21_ok rfl, tw_c 7 wl_21_ok rfl⟩
set_option maxRecDepth 100000 in
theorem n_MD_qBracket : m_nm y_MD_qBracket M_MD_qBracket 0 := ⟨List.mem_filter.mpr ⟨List.mem_of_getElem? (i := 1767) rfl, rfl⟩, tw_c 12 wl_0_ok rfl, rfl, by decide, by decide, by decide +kernel⟩
theorem v_MD_qBracket : Cond.instanceMethod y_MD_qBracket ∈ tw ∧ Cond.selects y_MD_qBracket.cls y_MD_qBracket y_MD_qBracket ∈ tw := ⟨tw_c 8 wl_21_ok rfl, tw_c 9 wl_21_ok rfl⟩
set_option maxRecDepth 100000 in
theorem n_MD_qIsBracket : m_nm y_MD_qIsBracket M_MD_qIsBracket 1 := ⟨List.mem_filter.mpr ⟨List.mem_of_getElem? (i := 1770) rfl, rfl⟩, tw_c 12 wl_0_ok rfl, rfl, by decide, by decide, by decide +kernel⟩
theorem s_MD_qIsBracket : Cond.static y_MD_qIsBracket ∈ tw := tw_c 10 wl_21_ok rfl
set_option maxRecDepth 100000 in
theorem n_MD_qDropsToBracket : m_nm y_MD_qDropsToBracket M_MD_qDropsToBracket 0 := ⟨List.mem_filter.mpr ⟨List.mem_of_getElem? (i := 1774) rfl, rfl⟩, tw_c 12 wl_0_ok rfl, rfl, by decide, by decide, by decide +kernel⟩
theorem v_MD_qDropsToBracket : Cond.instanceMethod y_MD_qDropsToBracket ∈ tw ∧ Cond.selects y_MD_qDropsToBracket.cls y_MD_qDropsToBracket y_MD_qDropsToBracket ∈ tw := ⟨tw_c 11 wl_21_ok rfl, tw_c 12 wl_21_ok rfl⟩
set_option maxRecDepth 100000 in
theorem n_MD_qIsOn : m_nm y_MD_qIsOn M_MD_qIsOn 1 := ⟨List.mem_filter.mpr ⟨List.mem_of_getElem? (i := 1778) rfl, rfl⟩, tw_c 12 wl_0_ok rfl, rfl, by decide, by decide, by decide +kernel⟩
theorem v_MD_qIsOn : Cond.instanceMethod y_MD_qIsOn ∈ tw ∧ Cond.selects y_MD_qIsOn.cls y_MD_qIsOn y_MD_qIsOn ∈ tw := ⟨tw_c 13 wl_21_ok rfl, tw_c 14 wl_21_ok rfl⟩
set_option maxRecDepth 100000 in
theorem n_MD_qDropsNots : m_nm y_MD_qDropsNots M_MD_qDropsNots 0 := ⟨List.mem_filter.mpr ⟨List.mem_of_getElem? (i := 1782) rfl, rfl⟩, tw_c 12 wl_0_ok rfl, rfl, by decide, by decide, by decide +kernel⟩
theorem v_MD_qDropsNots : Cond.instanceMethod y_MD_qDropsNots ∈ tw ∧ Cond.selects y_MD_qDropsNots.cls y_MD_qDropsNots y_MD_qDropsNots ∈ tw := ⟨tw_c 15 wl_21_ok rfl, tw_c 16 wl_21_ok rfl⟩
set_option maxRecDepth 100000 in
theorem n_MD_qGoesOnTest : m_nm y_MD_qGoesOnTest M_MD_qGoesOnTest 0 := ⟨List.mem_filter.mpr ⟨List.mem_of_getElem? (i := 1786) rfl, rfl⟩, tw_c 12 wl_0_ok rfl, rfl, by decide, by decide, by decide +kernel⟩
theorem v_MD_qGoesOnTest : Cond.instanceMethod y_MD_qGoesOnTest ∈ tw ∧ Cond.selects y_MD_qGoesOnTest.cls y_MD_qGoesOnTest y_MD_qGoesOnTest ∈ tw := ⟨tw_c 17 wl_21_ok rfl, tw_c 18 wl_21_ok rfl⟩
set_option maxRecDepth 100000 in
theorem n_MD_qHasSquare : m_nm y_MD_qHasSquare M_MD_qHasSquare 0 := ⟨List.mem_filter.mpr ⟨List.mem_of_getElem? (i := 1790) rfl, rfl⟩, tw_c 12 wl_0_ok rfl, rfl, by decide, by decide, by decide +kernel⟩
theorem v_MD_qHasSquare : Cond.instanceMethod y_MD_qHasSquare ∈ tw ∧ Cond.selects y_MD_qHasSquare.cls y_MD_qHasSquare y_MD_qHasSquare ∈ tw := ⟨tw_c 19 wl_21_ok rfl, tw_c 0 wl_22_ok rfl⟩
set_option maxRecDepth 100000 in
theorem n_MD_stands : m_nm y_MD_stands M_MD_stands 0 := ⟨List.mem_filter.mpr ⟨List.mem_of_getElem? (i := 1794) rfl, rfl⟩, tw_c 12 wl_0_ok rfl, rfl, by decide, by decide, by decide +kernel⟩
theorem v_MD_stands : Cond.instanceMethod y_MD_stands ∈ tw ∧ Cond.selects y_MD_stands.cls y_MD_stands y_MD_stands ∈ tw := ⟨tw_c 1 wl_22_ok rfl, tw_c 2 wl_22_ok rfl⟩
set_option maxRecDepth 100000 in
theorem n_MD_fault : m_nm y_MD_fault M_MD_fault 1 := ⟨List.mem_filter.mpr ⟨List.mem_of_getElem? (i := 1798) rfl, rfl⟩, tw_c 12 wl_0_ok rfl, rfl, by decide, by decide, by decide +kernel⟩
theorem v_MD_fault : Cond.instanceMethod y_MD_fault ∈ tw ∧ Cond.selects y_MD_fault.cls y_MD_fault y_MD_fault ∈ tw := ⟨tw_c 3 wl_22_ok rfl, tw_c 4 wl_22_ok rfl⟩
set_option maxRecDepth 100000 in
theorem n_MD_has : m_nm y_MD_has M_MD_has 1 := ⟨List.mem_filter.mpr ⟨List.mem_of_getElem? (i := 1802) rfl, rfl⟩, tw_c 12 wl_0_ok rfl, rfl, by decide, by decide, by decide +kernel⟩
theorem v_MD_has : Cond.instanceMethod y_MD_has ∈ tw ∧ Cond.selects y_MD_has.cls y_MD_has y_MD_has ∈ tw := ⟨tw_c 5 wl_22_ok rfl, tw_c 6 wl_22_ok rfl⟩
set_option maxRecDepth 100000 in
theorem n_MD_fenceMany : m_nm y_MD_fenceMany M_MD_fenceMany 0 := ⟨List.mem_filter.mpr ⟨List.mem_of_getElem? (i := 1806) rfl, rfl⟩, tw_c 12 wl_0_ok rfl, rfl, by decide, by decide, by decide +kernel⟩
theorem v_MD_fenceMany : Cond.instanceMethod y_MD_fenceMany ∈ tw ∧ Cond.selects y_MD_fenceMany.cls y_MD_fenceMany y_MD_fenceMany ∈ tw := ⟨tw_c 7 wl_22_ok rfl, tw_c 8 wl_22_ok rfl⟩
set_option maxRecDepth 100000 in
theorem n_MD_postMany : m_nm y_MD_postMany M_MD_postMany 0 := ⟨List.mem_filter.mpr ⟨List.mem_of_getElem? (i := 1810) rfl, rfl⟩, tw_c 12 wl_0_ok rfl, rfl, by decide, by decide, by decide +kernel⟩
theorem v_MD_postMany : Cond.instanceMethod y_MD_postMany ∈ tw ∧ Cond.selects y_MD_postMany.cls y_MD_postMany y_MD_postMany ∈ tw := ⟨tw_c 9 wl_22_ok rfl, tw_c 10 wl_22_ok rfl⟩
set_option maxRecDepth 100000 in
theorem n_MD_bits : m_nm y_MD_bits M_MD_bits 1 := ⟨List.mem_filter.mpr ⟨List.mem_of_getElem? (i := 1813) rfl, rfl⟩, tw_c 12 wl_0_ok rfl, rfl, by decide, by decide, by decide +kernel⟩
theorem s_MD_bits : Cond.static y_MD_bits ∈ tw := tw_c 11 wl_22_ok rfl
set_option maxRecDepth 100000 in
theorem n_MD_leftAll : m_nm y_MD_leftAll M_MD_leftAll 0 := ⟨List.mem_filter.mpr ⟨List.mem_of_getElem? (i := 1817) rfl, rfl⟩, tw_c 12 wl_0_ok rfl, rfl, by decide, by decide, by decide +kernel⟩
theorem v_MD_leftAll : Cond.instanceMethod y_MD_leftAll ∈ tw ∧ Cond.selects y_MD_leftAll.cls y_MD_leftAll y_MD_leftAll ∈ tw := ⟨tw_c 12 wl_22_ok rfl, tw_c 13 wl_22_ok rfl⟩
set_option maxRecDepth 100000 in
theorem n_MD_leftOf : m_nm y_MD_leftOf M_MD_leftOf 1 := ⟨List.mem_filter.mpr ⟨List.mem_of_getElem? (i := 1821) rfl, rfl⟩, tw_c 12 wl_0_ok rfl, rfl, by decide, by decide, by decide +kernel⟩
theorem v_MD_leftOf : Cond.instanceMethod y_MD_leftOf ∈ tw ∧ Cond.selects y_MD_leftOf.cls y_MD_leftOf y_MD_leftOf ∈ tw := ⟨tw_c 14 wl_22_ok rfl, tw_c 15 wl_22_ok rfl⟩
set_option maxRecDepth 100000 in
theorem n_MD_rowOf : m_nm y_MD_rowOf M_MD_rowOf 2 := ⟨List.mem_filter.mpr ⟨List.mem_of_getElem? (i := 1825) rfl, rfl⟩, tw_c 12 wl_0_ok rfl, rfl, by decide, by decide, by decide +kernel⟩
theorem v_MD_rowOf : Cond.instanceMethod y_MD_rowOf ∈ tw ∧ Cond.selects y_MD_rowOf.cls y_MD_rowOf y_MD_rowOf ∈ tw := ⟨tw_c 16 wl_22_ok rfl, tw_c 17 wl_22_ok rfl⟩
set_option maxRecDepth 100000 in
theorem n_MD_cutSet : m_nm y_MD_cutSet M_MD_cutSet 0 := ⟨List.mem_filter.mpr ⟨List.mem_of_getElem? (i := 1829) rfl, rfl⟩, tw_c 12 wl_0_ok rfl, rfl, by decide, by decide, by decide +kernel⟩
theorem v_MD_cutSet : Cond.instanceMethod y_MD_cutSet ∈ tw ∧ Cond.selects y_MD_cutSet.cls y_MD_cutSet y_MD_cutSet ∈ tw := ⟨tw_c 18 wl_22_ok rfl, tw_c 19 wl_22_ok rfl⟩
set_option maxRecDepth 100000 in
theorem n_MD_isCut : m_nm y_MD_isCut M_MD_isCut 1 := ⟨List.mem_filter.mpr ⟨List.mem_of_getElem? (i := 1833) rfl, rfl⟩, tw_c 12 wl_0_ok rfl, rfl, by decide, by decide, by decide +kernel⟩
theorem v_MD_isCut : Cond.instanceMethod y_MD_isCut ∈ tw ∧ Cond.selects y_MD_isCut.cls y_MD_isCut y_MD_isCut ∈ tw := ⟨tw_c 0 wl_23_ok rfl, tw_c 1 wl_23_ok rfl⟩
set_option maxRecDepth 100000 in
theorem n_MD_fieldOf : m_nm y_MD_fieldOf M_MD_fieldOf 1 := ⟨List.mem_filter.mpr ⟨List.mem_of_getElem? (i := 1837) rfl, rfl⟩, tw_c 12 wl_0_ok rfl, rfl, by decide, by decide, by decide +kernel⟩
theorem v_MD_fieldOf : Cond.instanceMethod y_MD_fieldOf ∈ tw ∧ Cond.selects y_MD_fieldOf.cls y_MD_fieldOf y_MD_fieldOf ∈ tw := ⟨tw_c 2 wl_23_ok rfl, tw_c 3 wl_23_ok rfl⟩
set_option maxRecDepth 100000 in
theorem n_MD_whoseIs : m_nm y_MD_whoseIs M_MD_whoseIs 2 := ⟨List.mem_filter.mpr ⟨List.mem_of_getElem? (i := 1841) rfl, rfl⟩, tw_c 12 wl_0_ok rfl, rfl, by decide, by decide, by decide +kernel⟩
theorem v_MD_whoseIs : Cond.instanceMethod y_MD_whoseIs ∈ tw ∧ Cond.selects y_MD_whoseIs.cls y_MD_whoseIs y_MD_whoseIs ∈ tw := ⟨tw_c 4 wl_23_ok rfl, tw_c 5 wl_23_ok rfl⟩
set_option maxRecDepth 100000 in
theorem n_MD_letter : m_nm y_MD_letter M_MD_letter 2 := ⟨List.mem_filter.mpr ⟨List.mem_of_getElem? (i := 1845) rfl, rfl⟩, tw_c 12 wl_0_ok rfl, rfl, by decide, by decide, by decide +kernel⟩
theorem v_MD_letter : Cond.instanceMethod y_MD_letter ∈ tw ∧ Cond.selects y_MD_letter.cls y_MD_letter y_MD_letter ∈ tw := ⟨tw_c 6 wl_23_ok rfl, tw_c 7 wl_23_ok rfl⟩
set_option maxRecDepth 100000 in
theorem n_MD_isFence : m_nm y_MD_isFence M_MD_isFence 1 := ⟨List.mem_filter.mpr ⟨List.mem_of_getElem? (i := 1849) rfl, rfl⟩, tw_c 12 wl_0_ok rfl, rfl, by decide, by decide, by decide +kernel⟩
theorem v_MD_isFence : Cond.instanceMethod y_MD_isFence ∈ tw ∧ Cond.selects y_MD_isFence.cls y_MD_isFence y_MD_isFence ∈ tw := ⟨tw_c 8 wl_23_ok rfl, tw_c 9 wl_23_ok rfl⟩
set_option maxRecDepth 100000 in
theorem n_MD_place : m_nm y_MD_place M_MD_place 3 := ⟨List.mem_filter.mpr ⟨List.mem_of_getElem? (i := 1854) rfl, rfl⟩, tw_c 12 wl_0_ok rfl, rfl, by decide, by decide, by decide +kernel⟩
theorem v_MD_place : Cond.instanceMethod y_MD_place ∈ tw ∧ Cond.selects y_MD_place.cls y_MD_place y_MD_place ∈ tw := ⟨tw_c 10 wl_23_ok rfl, tw_c 11 wl_23_ok rfl⟩
set_option maxRecDepth 100000 in
theorem n_MD_isPlace : m_nm y_MD_isPlace M_MD_isPlace 2 := ⟨List.mem_filter.mpr ⟨List.mem_of_getElem? (i := 1858) rfl, rfl⟩, tw_c 12 wl_0_ok rfl, rfl, by decide, by decide, by decide +kernel⟩
theorem v_MD_isPlace : Cond.instanceMethod y_MD_isPlace ∈ tw ∧ Cond.selects y_MD_isPlace.cls y_MD_isPlace y_MD_isPlace ∈ tw := ⟨tw_c 12 wl_23_ok rfl, tw_c 13 wl_23_ok rfl⟩
set_option maxRecDepth 100000 in
theorem n_MD_isColumn : m_nm y_MD_isColumn M_MD_isColumn 1 := ⟨List.mem_filter.mpr ⟨List.mem_of_getElem? (i := 1862) rfl, rfl⟩, tw_c 12 wl_0_ok rfl, rfl, by decide, by decide, by decide +kernel⟩
theorem v_MD_isColumn : Cond.instanceMethod y_MD_isColumn ∈ tw ∧ Cond.selects y_MD_isColumn.cls y_MD_isColumn y_MD_isColumn ∈ tw := ⟨tw_c 14 wl_23_ok rfl, tw_c 15 wl_23_ok rfl⟩
set_option maxRecDepth 100000 in
theorem n_MD_isPost : m_nm y_MD_isPost M_MD_isPost 2 := ⟨List.mem_filter.mpr ⟨List.mem_of_getElem? (i := 1866) rfl, rfl⟩, tw_c 12 wl_0_ok rfl, rfl, by decide, by decide, by decide +kernel⟩
theorem v_MD_isPost : Cond.instanceMethod y_MD_isPost ∈ tw ∧ Cond.selects y_MD_isPost.cls y_MD_isPost y_MD_isPost ∈ tw := ⟨tw_c 16 wl_23_ok rfl, tw_c 17 wl_23_ok rfl⟩
set_option maxRecDepth 100000 in
theorem n_MD_stakesAt : m_nm y_MD_stakesAt M_MD_stakesAt 2 := ⟨List.mem_filter.mpr ⟨List.mem_of_getElem? (i := 1870) rfl, rfl⟩, tw_c 12 wl_0_ok rfl, rfl, by decide, by decide, by decide +kernel⟩
theorem v_MD_stakesAt : Cond.instanceMethod y_MD_stakesAt ∈ tw ∧ Cond.selects y_MD_stakesAt.cls y_MD_stakesAt y_MD_stakesAt ∈ tw := ⟨tw_c 18 wl_23_ok rfl, tw_c 19 wl_23_ok rfl⟩
set_option maxRecDepth 100000 in
theorem n_MD_fence : m_nm y_MD_fence M_MD_fence 2 := ⟨List.mem_filter.mpr ⟨List.mem_of_getElem? (i := 1874) rfl, rfl⟩, tw_c 12 wl_0_ok rfl, rfl, by decide, by decide, by decide +kernel⟩
theorem v_MD_fence : Cond.instanceMethod y_MD_fence ∈ tw ∧ Cond.selects y_MD_fence.cls y_MD_fence y_MD_fence ∈ tw := ⟨tw_c 0 wl_24_ok rfl, tw_c 1 wl_24_ok rfl⟩
set_option maxRecDepth 100000 in
theorem n_MD_ageOf : m_nm y_MD_ageOf M_MD_ageOf 1 := ⟨List.mem_filter.mpr ⟨List.mem_of_getElem? (i := 1878) rfl, rfl⟩, tw_c 12 wl_0_ok rfl, rfl, by decide, by decide, by decide +kernel⟩
theorem v_MD_ageOf : Cond.instanceMethod y_MD_ageOf ∈ tw ∧ Cond.selects y_MD_ageOf.cls y_MD_ageOf y_MD_ageOf ∈ tw := ⟨tw_c 2 wl_24_ok rfl, tw_c 3 wl_24_ok rfl⟩
set_option maxRecDepth 100000 in
theorem n_MD_stake : m_nm y_MD_stake M_MD_stake 2 := ⟨List.mem_filter.mpr ⟨List.mem_of_getElem? (i := 1882) rfl, rfl⟩, tw_c 12 wl_0_ok rfl, rfl, by decide, by decide, by decide +kernel⟩
theorem v_MD_stake : Cond.instanceMethod y_MD_stake ∈ tw ∧ Cond.selects y_MD_stake.cls y_MD_stake y_MD_stake ∈ tw := ⟨tw_c 4 wl_24_ok rfl, tw_c 5 wl_24_ok rfl⟩
set_option maxRecDepth 100000 in
theorem n_MD_walks : m_nm y_MD_walks M_MD_walks 2 := ⟨List.mem_filter.mpr ⟨List.mem_of_getElem? (i := 1886) rfl, rfl⟩, tw_c 12 wl_0_ok rfl, rfl, by decide, by decide, by decide +kernel⟩
theorem v_MD_walks : Cond.instanceMethod y_MD_walks ∈ tw ∧ Cond.selects y_MD_walks.cls y_MD_walks y_MD_walks ∈ tw := ⟨tw_c 6 wl_24_ok rfl, tw_c 7 wl_24_ok rfl⟩
set_option maxRecDepth 100000 in
theorem n_MD_walkOf : m_nm y_MD_walkOf M_MD_walkOf 2 := ⟨List.mem_filter.mpr ⟨List.mem_of_getElem? (i := 1890) rfl, rfl⟩, tw_c 12 wl_0_ok rfl, rfl, by decide, by decide, by decide +kernel⟩
theorem v_MD_walkOf : Cond.instanceMethod y_MD_walkOf ∈ tw ∧ Cond.selects y_MD_walkOf.cls y_MD_walkOf y_MD_walkOf ∈ tw := ⟨tw_c 8 wl_24_ok rfl, tw_c 9 wl_24_ok rfl⟩
set_option maxRecDepth 100000 in
theorem n_MD_codesTell : m_nm y_MD_codesTell M_MD_codesTell 2 := ⟨List.mem_filter.mpr ⟨List.mem_of_getElem? (i := 1894) rfl, rfl⟩, tw_c 12 wl_0_ok rfl, rfl, by decide, by decide, by decide +kernel⟩
theorem v_MD_codesTell : Cond.instanceMethod y_MD_codesTell ∈ tw ∧ Cond.selects y_MD_codesTell.cls y_MD_codesTell y_MD_codesTell ∈ tw := ⟨tw_c 10 wl_24_ok rfl, tw_c 11 wl_24_ok rfl⟩
set_option maxRecDepth 100000 in
theorem n_MD_qPuts : m_nm y_MD_qPuts M_MD_qPuts 1 := ⟨List.mem_filter.mpr ⟨List.mem_of_getElem? (i := 1898) rfl, rfl⟩, tw_c 12 wl_0_ok rfl, rfl, by decide, by decide, by decide +kernel⟩
theorem v_MD_qPuts : Cond.instanceMethod y_MD_qPuts ∈ tw ∧ Cond.selects y_MD_qPuts.cls y_MD_qPuts y_MD_qPuts ∈ tw := ⟨tw_c 12 wl_24_ok rfl, tw_c 13 wl_24_ok rfl⟩
set_option maxRecDepth 100000 in
theorem n_MD_qPartOf : m_nm y_MD_qPartOf M_MD_qPartOf 2 := ⟨List.mem_filter.mpr ⟨List.mem_of_getElem? (i := 1902) rfl, rfl⟩, tw_c 12 wl_0_ok rfl, rfl, by decide, by decide, by decide +kernel⟩
theorem v_MD_qPartOf : Cond.instanceMethod y_MD_qPartOf ∈ tw ∧ Cond.selects y_MD_qPartOf.cls y_MD_qPartOf y_MD_qPartOf ∈ tw := ⟨tw_c 14 wl_24_ok rfl, tw_c 15 wl_24_ok rfl⟩
set_option maxRecDepth 100000 in
theorem n_MD_qJoins : m_nm y_MD_qJoins M_MD_qJoins 1 := ⟨List.mem_filter.mpr ⟨List.mem_of_getElem? (i := 1906) rfl, rfl⟩, tw_c 12 wl_0_ok rfl, rfl, by decide, by decide, by decide +kernel⟩
theorem v_MD_qJoins : Cond.instanceMethod y_MD_qJoins ∈ tw ∧ Cond.selects y_MD_qJoins.cls y_MD_qJoins y_MD_qJoins ∈ tw := ⟨tw_c 16 wl_24_ok rfl, tw_c 17 wl_24_ok rfl⟩
set_option maxRecDepth 100000 in
theorem n_MD_qClip : m_nm y_MD_qClip M_MD_qClip 1 := ⟨List.mem_filter.mpr ⟨List.mem_of_getElem? (i := 1909) rfl, rfl⟩, tw_c 12 wl_0_ok rfl, rfl, by decide, by decide, by decide +kernel⟩
theorem s_MD_qClip : Cond.static y_MD_qClip ∈ tw := tw_c 18 wl_24_ok rfl
set_option maxRecDepth 100000 in
theorem n_MD_qFloor : m_nm y_MD_qFloor M_MD_qFloor 2 := ⟨List.mem_filter.mpr ⟨List.mem_of_getElem? (i := 1914) rfl, rfl⟩, tw_c 12 wl_0_ok rfl, rfl, by decide, by decide, by decide +kernel⟩
theorem s_MD_qFloor : Cond.static y_MD_qFloor ∈ tw := tw_c 19 wl_24_ok rfl
set_option maxRecDepth 100000 in
theorem n_MD_kept : m_nm y_MD_kept M_MD_kept 2 := ⟨List.mem_filter.mpr ⟨List.mem_of_getElem? (i := 1919) rfl, rfl⟩, tw_c 12 wl_0_ok rfl, rfl, by decide, by decide, by decide +kernel⟩
theorem v_MD_kept : Cond.instanceMethod y_MD_kept ∈ tw ∧ Cond.selects y_MD_kept.cls y_MD_kept y_MD_kept ∈ tw := ⟨tw_c 0 wl_25_ok rfl, tw_c 1 wl_25_ok rfl⟩
set_option maxRecDepth 100000 in
theorem n_MD_later : m_nm y_MD_later M_MD_later 3 := ⟨List.mem_filter.mpr ⟨List.mem_of_getElem? (i := 1924) rfl, rfl⟩, tw_c 12 wl_0_ok rfl, rfl, by decide, by decide, by decide +kernel⟩
theorem v_MD_later : Cond.instanceMethod y_MD_later ∈ tw ∧ Cond.selects y_MD_later.cls y_MD_later y_MD_later ∈ tw := ⟨tw_c 2 wl_25_ok rfl, tw_c 3 wl_25_ok rfl⟩
set_option maxRecDepth 100000 in
theorem n_MD_isAhead : m_nm y_MD_isAhead M_MD_isAhead 3 := ⟨List.mem_filter.mpr ⟨List.mem_of_getElem? (i := 1928) rfl, rfl⟩, tw_c 12 wl_0_ok rfl, rfl, by decide, by decide, by decide +kernel⟩
theorem v_MD_isAhead : Cond.instanceMethod y_MD_isAhead ∈ tw ∧ Cond.selects y_MD_isAhead.cls y_MD_isAhead y_MD_isAhead ∈ tw := ⟨tw_c 4 wl_25_ok rfl, tw_c 5 wl_25_ok rfl⟩
set_option maxRecDepth 100000 in
theorem n_MD_putsAside : m_nm y_MD_putsAside M_MD_putsAside 0 := ⟨List.mem_filter.mpr ⟨List.mem_of_getElem? (i := 1932) rfl, rfl⟩, tw_c 12 wl_0_ok rfl, rfl, by decide, by decide, by decide +kernel⟩
theorem v_MD_putsAside : Cond.instanceMethod y_MD_putsAside ∈ tw ∧ Cond.selects y_MD_putsAside.cls y_MD_putsAside y_MD_putsAside ∈ tw := ⟨tw_c 6 wl_25_ok rfl, tw_c 7 wl_25_ok rfl⟩
set_option maxRecDepth 100000 in
theorem n_MD_yearsGo : m_nm y_MD_yearsGo M_MD_yearsGo 1 := ⟨List.mem_filter.mpr ⟨List.mem_of_getElem? (i := 1936) rfl, rfl⟩, tw_c 12 wl_0_ok rfl, rfl, by decide, by decide, by decide +kernel⟩
theorem v_MD_yearsGo : Cond.instanceMethod y_MD_yearsGo ∈ tw ∧ Cond.selects y_MD_yearsGo.cls y_MD_yearsGo y_MD_yearsGo ∈ tw := ⟨tw_c 8 wl_25_ok rfl, tw_c 9 wl_25_ok rfl⟩
set_option maxRecDepth 100000 in
theorem n_MD_yearGoes : m_nm y_MD_yearGoes M_MD_yearGoes 0 := ⟨List.mem_filter.mpr ⟨List.mem_of_getElem? (i := 1940) rfl, rfl⟩, tw_c 12 wl_0_ok rfl, rfl, by decide, by decide, by decide +kernel⟩
theorem v_MD_yearGoes : Cond.instanceMethod y_MD_yearGoes ∈ tw ∧ Cond.selects y_MD_yearGoes.cls y_MD_yearGoes y_MD_yearGoes ∈ tw := ⟨tw_c 10 wl_25_ok rfl, tw_c 11 wl_25_ok rfl⟩
set_option maxRecDepth 100000 in
theorem n_MD_stakeWalks : m_nm y_MD_stakeWalks M_MD_stakeWalks 3 := ⟨List.mem_filter.mpr ⟨List.mem_of_getElem? (i := 1944) rfl, rfl⟩, tw_c 12 wl_0_ok rfl, rfl, by decide, by decide, by decide +kernel⟩
theorem v_MD_stakeWalks : Cond.instanceMethod y_MD_stakeWalks ∈ tw ∧ Cond.selects y_MD_stakeWalks.cls y_MD_stakeWalks y_MD_stakeWalks ∈ tw := ⟨tw_c 12 wl_25_ok rfl, tw_c 13 wl_25_ok rfl⟩
set_option maxRecDepth 100000 in
theorem n_MD_isGone : m_nm y_MD_isGone M_MD_isGone 2 := ⟨List.mem_filter.mpr ⟨List.mem_of_getElem? (i := 1948) rfl, rfl⟩, tw_c 12 wl_0_ok rfl, rfl, by decide, by decide, by decide +kernel⟩
theorem v_MD_isGone : Cond.instanceMethod y_MD_isGone ∈ tw ∧ Cond.selects y_MD_isGone.cls y_MD_isGone y_MD_isGone ∈ tw := ⟨tw_c 14 wl_25_ok rfl, tw_c 15 wl_25_ok rfl⟩
set_option maxRecDepth 100000 in
theorem n_MD_rowIs : m_nm y_MD_rowIs M_MD_rowIs 3 := ⟨List.mem_filter.mpr ⟨List.mem_of_getElem? (i := 1952) rfl, rfl⟩, tw_c 12 wl_0_ok rfl, rfl, by decide, by decide, by decide +kernel⟩
theorem v_MD_rowIs : Cond.instanceMethod y_MD_rowIs ∈ tw ∧ Cond.selects y_MD_rowIs.cls y_MD_rowIs y_MD_rowIs ∈ tw := ⟨tw_c 16 wl_25_ok rfl, tw_c 17 wl_25_ok rfl⟩
set_option maxRecDepth 100000 in
theorem n_MD_isKept : m_nm y_MD_isKept M_MD_isKept 2 := ⟨List.mem_filter.mpr ⟨List.mem_of_getElem? (i := 1956) rfl, rfl⟩, tw_c 12 wl_0_ok rfl, rfl, by decide, by decide, by decide +kernel⟩
theorem v_MD_isKept : Cond.instanceMethod y_MD_isKept ∈ tw ∧ Cond.selects y_MD_isKept.cls y_MD_isKept y_MD_isKept ∈ tw := ⟨tw_c 18 wl_25_ok rfl, tw_c 19 wl_25_ok rfl⟩
set_option maxRecDepth 100000 in
theorem n_MD_doesRoot : m_nm y_MD_doesRoot M_MD_doesRoot 1 := ⟨List.mem_filter.mpr ⟨List.mem_of_getElem? (i := 1960) rfl, rfl⟩, tw_c 12 wl_0_ok rfl, rfl, by decide, by decide, by decide +kernel⟩
theorem v_MD_doesRoot : Cond.instanceMethod y_MD_doesRoot ∈ tw ∧ Cond.selects y_MD_doesRoot.cls y_MD_doesRoot y_MD_doesRoot ∈ tw := ⟨tw_c 0 wl_26_ok rfl, tw_c 1 wl_26_ok rfl⟩
set_option maxRecDepth 100000 in
theorem n_MD_isSet : m_nm y_MD_isSet M_MD_isSet 1 := ⟨List.mem_filter.mpr ⟨List.mem_of_getElem? (i := 1964) rfl, rfl⟩, tw_c 12 wl_0_ok rfl, rfl, by decide, by decide, by decide +kernel⟩
theorem v_MD_isSet : Cond.instanceMethod y_MD_isSet ∈ tw ∧ Cond.selects y_MD_isSet.cls y_MD_isSet y_MD_isSet ∈ tw := ⟨tw_c 2 wl_26_ok rfl, tw_c 3 wl_26_ok rfl⟩
set_option maxRecDepth 100000 in
theorem n_MD_takesBack : m_nm y_MD_takesBack M_MD_takesBack 0 := ⟨List.mem_filter.mpr ⟨List.mem_of_getElem? (i := 1968) rfl, rfl⟩, tw_c 12 wl_0_ok rfl, rfl, by decide, by decide, by decide +kernel⟩
theorem v_MD_takesBack : Cond.instanceMethod y_MD_takesBack ∈ tw ∧ Cond.selects y_MD_takesBack.cls y_MD_takesBack y_MD_takesBack ∈ tw := ⟨tw_c 4 wl_26_ok rfl, tw_c 5 wl_26_ok rfl⟩
set_option maxRecDepth 100000 in
theorem n_MD_triesAnew : m_nm y_MD_triesAnew M_MD_triesAnew 0 := ⟨List.mem_filter.mpr ⟨List.mem_of_getElem? (i := 1972) rfl, rfl⟩, tw_c 12 wl_0_ok rfl, rfl, by decide, by decide, by decide +kernel⟩
theorem v_MD_triesAnew : Cond.instanceMethod y_MD_triesAnew ∈ tw ∧ Cond.selects y_MD_triesAnew.cls y_MD_triesAnew y_MD_triesAnew ∈ tw := ⟨tw_c 6 wl_26_ok rfl, tw_c 7 wl_26_ok rfl⟩
set_option maxRecDepth 100000 in
theorem n_MD_whose : m_nm y_MD_whose M_MD_whose 3 := ⟨List.mem_filter.mpr ⟨List.mem_of_getElem? (i := 1976) rfl, rfl⟩, tw_c 12 wl_0_ok rfl, rfl, by decide, by decide, by decide +kernel⟩
theorem v_MD_whose : Cond.instanceMethod y_MD_whose ∈ tw ∧ Cond.selects y_MD_whose.cls y_MD_whose y_MD_whose ∈ tw := ⟨tw_c 8 wl_26_ok rfl, tw_c 9 wl_26_ok rfl⟩
set_option maxRecDepth 100000 in
theorem n_MD_meets : m_nm y_MD_meets M_MD_meets 2 := ⟨List.mem_filter.mpr ⟨List.mem_of_getElem? (i := 1980) rfl, rfl⟩, tw_c 12 wl_0_ok rfl, rfl, by decide, by decide, by decide +kernel⟩
theorem v_MD_meets : Cond.instanceMethod y_MD_meets ∈ tw ∧ Cond.selects y_MD_meets.cls y_MD_meets y_MD_meets ∈ tw := ⟨tw_c 10 wl_26_ok rfl, tw_c 11 wl_26_ok rfl⟩
set_option maxRecDepth 100000 in
theorem n_MD_areTwo : m_nm y_MD_areTwo M_MD_areTwo 2 := ⟨List.mem_filter.mpr ⟨List.mem_of_getElem? (i := 1984) rfl, rfl⟩, tw_c 12 wl_0_ok rfl, rfl, by decide, by decide, by decide +kernel⟩
theorem v_MD_areTwo : Cond.instanceMethod y_MD_areTwo ∈ tw ∧ Cond.selects y_MD_areTwo.cls y_MD_areTwo y_MD_areTwo ∈ tw := ⟨tw_c 12 wl_26_ok rfl, tw_c 13 wl_26_ok rfl⟩
set_option maxRecDepth 100000 in
theorem n_MD_doMeet : m_nm y_MD_doMeet M_MD_doMeet 2 := ⟨List.mem_filter.mpr ⟨List.mem_of_getElem? (i := 1988) rfl, rfl⟩, tw_c 12 wl_0_ok rfl, rfl, by decide, by decide, by decide +kernel⟩
theorem v_MD_doMeet : Cond.instanceMethod y_MD_doMeet ∈ tw ∧ Cond.selects y_MD_doMeet.cls y_MD_doMeet y_MD_doMeet ∈ tw := ⟨tw_c 14 wl_26_ok rfl, tw_c 15 wl_26_ok rfl⟩
set_option maxRecDepth 100000 in
theorem n_MD_below : m_nm y_MD_below M_MD_below 2 := ⟨List.mem_filter.mpr ⟨List.mem_of_getElem? (i := 1992) rfl, rfl⟩, tw_c 12 wl_0_ok rfl, rfl, by decide, by decide, by decide +kernel⟩
theorem v_MD_below : Cond.instanceMethod y_MD_below ∈ tw ∧ Cond.selects y_MD_below.cls y_MD_below y_MD_below ∈ tw := ⟨tw_c 16 wl_26_ok rfl, tw_c 17 wl_26_ok rfl⟩
set_option maxRecDepth 100000 in
theorem n_MD_belows : m_nm y_MD_belows M_MD_belows 2 := ⟨List.mem_filter.mpr ⟨List.mem_of_getElem? (i := 1996) rfl, rfl⟩, tw_c 12 wl_0_ok rfl, rfl, by decide, by decide, by decide +kernel⟩
theorem v_MD_belows : Cond.instanceMethod y_MD_belows ∈ tw ∧ Cond.selects y_MD_belows.cls y_MD_belows y_MD_belows ∈ tw := ⟨tw_c 18 wl_26_ok rfl, tw_c 19 wl_26_ok rfl⟩
set_option maxRecDepth 100000 in
theorem n_MD_sets : m_nm y_MD_sets M_MD_sets 3 := ⟨List.mem_filter.mpr ⟨List.mem_of_getElem? (i := 2000) rfl, rfl⟩, tw_c 12 wl_0_ok rfl, rfl, by decide, by decide, by decide +kernel⟩
theorem v_MD_sets : Cond.instanceMethod y_MD_sets ∈ tw ∧ Cond.selects y_MD_sets.cls y_MD_sets y_MD_sets ∈ tw := ⟨tw_c 0 wl_27_ok rfl, tw_c 1 wl_27_ok rfl⟩
set_option maxRecDepth 100000 in
theorem n_MD_leastField : m_nm y_MD_leastField M_MD_leastField 3 := ⟨List.mem_filter.mpr ⟨List.mem_of_getElem? (i := 2004) rfl, rfl⟩, tw_c 12 wl_0_ok rfl, rfl, by decide, by decide, by decide +kernel⟩
theorem v_MD_leastField : Cond.instanceMethod y_MD_leastField ∈ tw ∧ Cond.selects y_MD_leastField.cls y_MD_leastField y_MD_leastField ∈ tw := ⟨tw_c 2 wl_27_ok rfl, tw_c 3 wl_27_ok rfl⟩
set_option maxRecDepth 100000 in
theorem n_MD_irons : m_nm y_MD_irons M_MD_irons 3 := ⟨List.mem_filter.mpr ⟨List.mem_of_getElem? (i := 2008) rfl, rfl⟩, tw_c 12 wl_0_ok rfl, rfl, by decide, by decide, by decide +kernel⟩
theorem v_MD_irons : Cond.instanceMethod y_MD_irons ∈ tw ∧ Cond.selects y_MD_irons.cls y_MD_irons y_MD_irons ∈ tw := ⟨tw_c 4 wl_27_ok rfl, tw_c 5 wl_27_ok rfl⟩
set_option maxRecDepth 100000 in
theorem n_MD_rest : m_nm y_MD_rest M_MD_rest 1 := ⟨List.mem_filter.mpr ⟨List.mem_of_getElem? (i := 2012) rfl, rfl⟩, tw_c 12 wl_0_ok rfl, rfl, by decide, by decide, by decide +kernel⟩
theorem v_MD_rest : Cond.instanceMethod y_MD_rest ∈ tw ∧ Cond.selects y_MD_rest.cls y_MD_rest y_MD_rest ∈ tw := ⟨tw_c 6 wl_27_ok rfl, tw_c 7 wl_27_ok rfl⟩
set_option maxRecDepth 100000 in
theorem n_MD_laysFields : m_nm y_MD_laysFields M_MD_laysFields 1 := ⟨List.mem_filter.mpr ⟨List.mem_of_getElem? (i := 2016) rfl, rfl⟩, tw_c 12 wl_0_ok rfl, rfl, by decide, by decide, by decide +kernel⟩
theorem v_MD_laysFields : Cond.instanceMethod y_MD_laysFields ∈ tw ∧ Cond.selects y_MD_laysFields.cls y_MD_laysFields y_MD_laysFields ∈ tw := ⟨tw_c 8 wl_27_ok rfl, tw_c 9 wl_27_ok rfl⟩
set_option maxRecDepth 100000 in
theorem n_MD_isRest : m_nm y_MD_isRest M_MD_isRest 1 := ⟨List.mem_filter.mpr ⟨List.mem_of_getElem? (i := 2020) rfl, rfl⟩, tw_c 12 wl_0_ok rfl, rfl, by decide, by decide, by decide +kernel⟩
theorem v_MD_isRest : Cond.instanceMethod y_MD_isRest ∈ tw ∧ Cond.selects y_MD_isRest.cls y_MD_isRest y_MD_isRest ∈ tw := ⟨tw_c 10 wl_27_ok rfl, tw_c 11 wl_27_ok rfl⟩
set_option maxRecDepth 100000 in
theorem n_MD_see : m_nm y_MD_see M_MD_see 0 := ⟨List.mem_filter.mpr ⟨List.mem_of_getElem? (i := 2024) rfl, rfl⟩, tw_c 12 wl_0_ok rfl, rfl, by decide, by decide, by decide +kernel⟩
theorem v_MD_see : Cond.instanceMethod y_MD_see ∈ tw ∧ Cond.selects y_MD_see.cls y_MD_see y_MD_see ∈ tw := ⟨tw_c 12 wl_27_ok rfl, tw_c 13 wl_27_ok rfl⟩
set_option maxRecDepth 100000 in
theorem n_MD_refuses : m_nm y_MD_refuses M_MD_refuses 1 := ⟨List.mem_filter.mpr ⟨List.mem_of_getElem? (i := 2028) rfl, rfl⟩, tw_c 12 wl_0_ok rfl, rfl, by decide, by decide, by decide +kernel⟩
theorem v_MD_refuses : Cond.instanceMethod y_MD_refuses ∈ tw ∧ Cond.selects y_MD_refuses.cls y_MD_refuses y_MD_refuses ∈ tw := ⟨tw_c 14 wl_27_ok rfl, tw_c 15 wl_27_ok rfl⟩
set_option maxRecDepth 100000 in
theorem n_MD_fits : m_nm y_MD_fits M_MD_fits 1 := ⟨List.mem_filter.mpr ⟨List.mem_of_getElem? (i := 2032) rfl, rfl⟩, tw_c 12 wl_0_ok rfl, rfl, by decide, by decide, by decide +kernel⟩
theorem v_MD_fits : Cond.instanceMethod y_MD_fits ∈ tw ∧ Cond.selects y_MD_fits.cls y_MD_fits y_MD_fits ∈ tw := ⟨tw_c 16 wl_27_ok rfl, tw_c 17 wl_27_ok rfl⟩
set_option maxRecDepth 100000 in
theorem n_MD_laysFits : m_nm y_MD_laysFits M_MD_laysFits 0 := ⟨List.mem_filter.mpr ⟨List.mem_of_getElem? (i := 2036) rfl, rfl⟩, tw_c 12 wl_0_ok rfl, rfl, by decide, by decide, by decide +kernel⟩
theorem v_MD_laysFits : Cond.instanceMethod y_MD_laysFits ∈ tw ∧ Cond.selects y_MD_laysFits.cls y_MD_laysFits y_MD_laysFits ∈ tw := ⟨tw_c 18 wl_27_ok rfl, tw_c 19 wl_27_ok rfl⟩
set_option maxRecDepth 100000 in
theorem n_MD_isAsSeen : m_nm y_MD_isAsSeen M_MD_isAsSeen 0 := ⟨List.mem_filter.mpr ⟨List.mem_of_getElem? (i := 2040) rfl, rfl⟩, tw_c 12 wl_0_ok rfl, rfl, by decide, by decide, by decide +kernel⟩
theorem v_MD_isAsSeen : Cond.instanceMethod y_MD_isAsSeen ∈ tw ∧ Cond.selects y_MD_isAsSeen.cls y_MD_isAsSeen y_MD_isAsSeen ∈ tw := ⟨tw_c 0 wl_28_ok rfl, tw_c 1 wl_28_ok rfl⟩
set_option maxRecDepth 100000 in
theorem n_MD_tells : m_nm y_MD_tells M_MD_tells 1 := ⟨List.mem_filter.mpr ⟨List.mem_of_getElem? (i := 2044) rfl, rfl⟩, tw_c 12 wl_0_ok rfl, rfl, by decide, by decide, by decide +kernel⟩
theorem v_MD_tells : Cond.instanceMethod y_MD_tells ∈ tw ∧ Cond.selects y_MD_tells.cls y_MD_tells y_MD_tells ∈ tw := ⟨tw_c 2 wl_28_ok rfl, tw_c 3 wl_28_ok rfl⟩
set_option maxRecDepth 100000 in
theorem n_MD_mostAlike : m_nm y_MD_mostAlike M_MD_mostAlike 2 := ⟨List.mem_filter.mpr ⟨List.mem_of_getElem? (i := 2048) rfl, rfl⟩, tw_c 12 wl_0_ok rfl, rfl, by decide, by decide, by decide +kernel⟩
theorem v_MD_mostAlike : Cond.instanceMethod y_MD_mostAlike ∈ tw ∧ Cond.selects y_MD_mostAlike.cls y_MD_mostAlike y_MD_mostAlike ∈ tw := ⟨tw_c 4 wl_28_ok rfl, tw_c 5 wl_28_ok rfl⟩
set_option maxRecDepth 100000 in
theorem n_MD_undo : m_nm y_MD_undo M_MD_undo 0 := ⟨List.mem_filter.mpr ⟨List.mem_of_getElem? (i := 2052) rfl, rfl⟩, tw_c 12 wl_0_ok rfl, rfl, by decide, by decide, by decide +kernel⟩
theorem v_MD_undo : Cond.instanceMethod y_MD_undo ∈ tw ∧ Cond.selects y_MD_undo.cls y_MD_undo y_MD_undo ∈ tw := ⟨tw_c 6 wl_28_ok rfl, tw_c 7 wl_28_ok rfl⟩
set_option maxRecDepth 100000 in
theorem n_MD_set : m_nm y_MD_set M_MD_set 1 := ⟨List.mem_filter.mpr ⟨List.mem_of_getElem? (i := 2056) rfl, rfl⟩, tw_c 12 wl_0_ok rfl, rfl, by decide, by decide, by decide +kernel⟩
theorem v_MD_set : Cond.instanceMethod y_MD_set ∈ tw ∧ Cond.selects y_MD_set.cls y_MD_set y_MD_set ∈ tw := ⟨tw_c 8 wl_28_ok rfl, tw_c 9 wl_28_ok rfl⟩
set_option maxRecDepth 100000 in
theorem n_MD_isRefused : m_nm y_MD_isRefused M_MD_isRefused 0 := ⟨List.mem_filter.mpr ⟨List.mem_of_getElem? (i := 2060) rfl, rfl⟩, tw_c 12 wl_0_ok rfl, rfl, by decide, by decide, by decide +kernel⟩
theorem v_MD_isRefused : Cond.instanceMethod y_MD_isRefused ∈ tw ∧ Cond.selects y_MD_isRefused.cls y_MD_isRefused y_MD_isRefused ∈ tw := ⟨tw_c 10 wl_28_ok rfl, tw_c 11 wl_28_ok rfl⟩
set_option maxRecDepth 100000 in
theorem n_MD_keeps : m_nm y_MD_keeps M_MD_keeps 0 := ⟨List.mem_filter.mpr ⟨List.mem_of_getElem? (i := 2064) rfl, rfl⟩, tw_c 12 wl_0_ok rfl, rfl, by decide, by decide, by decide +kernel⟩
theorem v_MD_keeps : Cond.instanceMethod y_MD_keeps ∈ tw ∧ Cond.selects y_MD_keeps.cls y_MD_keeps y_MD_keeps ∈ tw := ⟨tw_c 12 wl_28_ok rfl, tw_c 13 wl_28_ok rfl⟩
set_option maxRecDepth 100000 in
theorem n_MD_cut : m_nm y_MD_cut M_MD_cut 1 := ⟨List.mem_filter.mpr ⟨List.mem_of_getElem? (i := 2068) rfl, rfl⟩, tw_c 12 wl_0_ok rfl, rfl, by decide, by decide, by decide +kernel⟩
theorem v_MD_cut : Cond.instanceMethod y_MD_cut ∈ tw ∧ Cond.selects y_MD_cut.cls y_MD_cut y_MD_cut ∈ tw := ⟨tw_c 14 wl_28_ok rfl, tw_c 15 wl_28_ok rfl⟩
set_option maxRecDepth 100000 in
theorem n_MD_iron : m_nm y_MD_iron M_MD_iron 2 := ⟨List.mem_filter.mpr ⟨List.mem_of_getElem? (i := 2072) rfl, rfl⟩, tw_c 12 wl_0_ok rfl, rfl, by decide, by decide, by decide +kernel⟩
theorem v_MD_iron : Cond.instanceMethod y_MD_iron ∈ tw ∧ Cond.selects y_MD_iron.cls y_MD_iron y_MD_iron ∈ tw := ⟨tw_c 16 wl_28_ok rfl, tw_c 17 wl_28_ok rfl⟩
set_option maxRecDepth 100000 in
theorem n_MD_years : m_nm y_MD_years M_MD_years 1 := ⟨List.mem_filter.mpr ⟨List.mem_of_getElem? (i := 2076) rfl, rfl⟩, tw_c 12 wl_0_ok rfl, rfl, by decide, by decide, by decide +kernel⟩
theorem v_MD_years : Cond.instanceMethod y_MD_years ∈ tw ∧ Cond.selects y_MD_years.cls y_MD_years y_MD_years ∈ tw := ⟨tw_c 18 wl_28_ok rfl, tw_c 19 wl_28_ok rfl⟩
set_option maxRecDepth 100000 in
theorem n_MD_seed : m_nm y_MD_seed M_MD_seed 1 := ⟨List.mem_filter.mpr ⟨List.mem_of_getElem? (i := 2080) rfl, rfl⟩, tw_c 12 wl_0_ok rfl, rfl, by decide, by decide, by decide +kernel⟩
theorem v_MD_seed : Cond.instanceMethod y_MD_seed ∈ tw ∧ Cond.selects y_MD_seed.cls y_MD_seed y_MD_seed ∈ tw := ⟨tw_c 0 wl_29_ok rfl, tw_c 1 wl_29_ok rfl⟩
set_option maxRecDepth 100000 in
theorem n_MD_chance : m_nm y_MD_chance M_MD_chance 1 := ⟨List.mem_filter.mpr ⟨List.mem_of_getElem? (i := 2084) rfl, rfl⟩, tw_c 12 wl_0_ok rfl, rfl, by decide, by decide, by decide +kernel⟩
theorem v_MD_chance : Cond.instanceMethod y_MD_chance ∈ tw ∧ Cond.selects y_MD_chance.cls y_MD_chance y_MD_chance ∈ tw := ⟨tw_c 2 wl_29_ok rfl, tw_c 3 wl_29_ok rfl⟩
set_option maxRecDepth 100000 in
theorem n_MD_drawOf : m_nm y_MD_drawOf M_MD_drawOf 1 := ⟨List.mem_filter.mpr ⟨List.mem_of_getElem? (i := 2088) rfl, rfl⟩, tw_c 12 wl_0_ok rfl, rfl, by decide, by decide, by decide +kernel⟩
theorem v_MD_drawOf : Cond.instanceMethod y_MD_drawOf ∈ tw ∧ Cond.selects y_MD_drawOf.cls y_MD_drawOf y_MD_drawOf ∈ tw := ⟨tw_c 4 wl_29_ok rfl, tw_c 5 wl_29_ok rfl⟩
set_option maxRecDepth 100000 in
theorem n_MD_ask : m_nm y_MD_ask M_MD_ask 0 := ⟨List.mem_filter.mpr ⟨List.mem_of_getElem? (i := 2096) rfl, rfl⟩, tw_c 12 wl_0_ok rfl, rfl, by decide, by decide, by decide +kernel⟩
theorem v_MD_ask : Cond.instanceMethod y_MD_ask ∈ tw ∧ Cond.selects y_MD_ask.cls y_MD_ask y_MD_ask ∈ tw := ⟨tw_c 6 wl_29_ok rfl, tw_c 7 wl_29_ok rfl⟩
set_option maxRecDepth 100000 in
theorem n_MD_qKind : m_nm y_MD_qKind M_MD_qKind 0 := ⟨List.mem_filter.mpr ⟨List.mem_of_getElem? (i := 2101) rfl, rfl⟩, tw_c 12 wl_0_ok rfl, rfl, by decide, by decide, by decide +kernel⟩
theorem v_MD_qKind : Cond.instanceMethod y_MD_qKind ∈ tw ∧ Cond.selects y_MD_qKind.cls y_MD_qKind y_MD_qKind ∈ tw := ⟨tw_c 8 wl_29_ok rfl, tw_c 9 wl_29_ok rfl⟩
set_option maxRecDepth 100000 in
theorem n_MD_qTold : m_nm y_MD_qTold M_MD_qTold 1 := ⟨List.mem_filter.mpr ⟨List.mem_of_getElem? (i := 2106) rfl, rfl⟩, tw_c 12 wl_0_ok rfl, rfl, by decide, by decide, by decide +kernel⟩
theorem v_MD_qTold : Cond.instanceMethod y_MD_qTold ∈ tw ∧ Cond.selects y_MD_qTold.cls y_MD_qTold y_MD_qTold ∈ tw := ⟨tw_c 10 wl_29_ok rfl, tw_c 11 wl_29_ok rfl⟩
set_option maxRecDepth 100000 in
theorem n_MD_qOf : m_nm y_MD_qOf M_MD_qOf 3 := ⟨List.mem_filter.mpr ⟨List.mem_of_getElem? (i := 2110) rfl, rfl⟩, tw_c 12 wl_0_ok rfl, rfl, by decide, by decide, by decide +kernel⟩
theorem v_MD_qOf : Cond.instanceMethod y_MD_qOf ∈ tw ∧ Cond.selects y_MD_qOf.cls y_MD_qOf y_MD_qOf ∈ tw := ⟨tw_c 12 wl_29_ok rfl, tw_c 13 wl_29_ok rfl⟩
set_option maxRecDepth 100000 in
theorem n_MD_qTakes : m_nm y_MD_qTakes M_MD_qTakes 3 := ⟨List.mem_filter.mpr ⟨List.mem_of_getElem? (i := 2114) rfl, rfl⟩, tw_c 12 wl_0_ok rfl, rfl, by decide, by decide, by decide +kernel⟩
theorem v_MD_qTakes : Cond.instanceMethod y_MD_qTakes ∈ tw ∧ Cond.selects y_MD_qTakes.cls y_MD_qTakes y_MD_qTakes ∈ tw := ⟨tw_c 14 wl_29_ok rfl, tw_c 15 wl_29_ok rfl⟩
set_option maxRecDepth 100000 in
theorem n_MD_image : m_nm y_MD_image M_MD_image 0 := ⟨List.mem_filter.mpr ⟨List.mem_of_getElem? (i := 2118) rfl, rfl⟩, tw_c 12 wl_0_ok rfl, rfl, by decide, by decide, by decide +kernel⟩
theorem v_MD_image : Cond.instanceMethod y_MD_image ∈ tw ∧ Cond.selects y_MD_image.cls y_MD_image y_MD_image ∈ tw := ⟨tw_c 16 wl_29_ok rfl, tw_c 17 wl_29_ok rfl⟩
set_option maxRecDepth 100000 in
theorem n_MD_writes : m_nm y_MD_writes M_MD_writes 1 := ⟨List.mem_filter.mpr ⟨List.mem_of_getElem? (i := 2122) rfl, rfl⟩, tw_c 12 wl_0_ok rfl, rfl, by decide, by decide, by decide +kernel⟩
theorem v_MD_writes : Cond.instanceMethod y_MD_writes ∈ tw ∧ Cond.selects y_MD_writes.cls y_MD_writes y_MD_writes ∈ tw := ⟨tw_c 18 wl_29_ok rfl, tw_c 19 wl_29_ok rfl⟩
set_option maxRecDepth 100000 in
theorem n_MD_checked : m_nm y_MD_checked M_MD_checked 2 := ⟨List.mem_filter.mpr ⟨List.mem_of_getElem? (i := 2125) rfl, rfl⟩, tw_c 12 wl_0_ok rfl, rfl, by decide, by decide, by decide +kernel⟩
theorem s_MD_checked : Cond.static y_MD_checked ∈ tw := tw_c 0 wl_30_ok rfl
set_option maxRecDepth 100000 in
theorem n_MD_octet : m_nm y_MD_octet M_MD_octet 1 := ⟨List.mem_filter.mpr ⟨List.mem_of_getElem? (i := 2129) rfl, rfl⟩, tw_c 12 wl_0_ok rfl, rfl, by decide, by decide, by decide +kernel⟩
theorem v_MD_octet : Cond.instanceMethod y_MD_octet ∈ tw ∧ Cond.selects y_MD_octet.cls y_MD_octet y_MD_octet ∈ tw := ⟨tw_c 1 wl_30_ok rfl, tw_c 2 wl_30_ok rfl⟩
set_option maxRecDepth 100000 in
theorem n_MD_on : m_nm y_MD_on M_MD_on 0 := ⟨List.mem_filter.mpr ⟨List.mem_of_getElem? (i := 2133) rfl, rfl⟩, tw_c 12 wl_0_ok rfl, rfl, by decide, by decide, by decide +kernel⟩
theorem v_MD_on : Cond.instanceMethod y_MD_on ∈ tw ∧ Cond.selects y_MD_on.cls y_MD_on y_MD_on ∈ tw := ⟨tw_c 3 wl_30_ok rfl, tw_c 4 wl_30_ok rfl⟩
set_option maxRecDepth 100000 in
theorem n_MD_isImage : m_nm y_MD_isImage M_MD_isImage 1 := ⟨List.mem_filter.mpr ⟨List.mem_of_getElem? (i := 2137) rfl, rfl⟩, tw_c 12 wl_0_ok rfl, rfl, by decide, by decide, by decide +kernel⟩
theorem v_MD_isImage : Cond.instanceMethod y_MD_isImage ∈ tw ∧ Cond.selects y_MD_isImage.cls y_MD_isImage y_MD_isImage ∈ tw := ⟨tw_c 5 wl_30_ok rfl, tw_c 6 wl_30_ok rfl⟩
set_option maxRecDepth 100000 in
theorem n_MD_arePostsTold : m_nm y_MD_arePostsTold M_MD_arePostsTold 1 := ⟨List.mem_filter.mpr ⟨List.mem_of_getElem? (i := 2141) rfl, rfl⟩, tw_c 12 wl_0_ok rfl, rfl, by decide, by decide, by decide +kernel⟩
theorem v_MD_arePostsTold : Cond.instanceMethod y_MD_arePostsTold ∈ tw ∧ Cond.selects y_MD_arePostsTold.cls y_MD_arePostsTold y_MD_arePostsTold ∈ tw := ⟨tw_c 7 wl_30_ok rfl, tw_c 8 wl_30_ok rfl⟩
set_option maxRecDepth 100000 in
theorem n_MD_isFenceTold : m_nm y_MD_isFenceTold M_MD_isFenceTold 1 := ⟨List.mem_filter.mpr ⟨List.mem_of_getElem? (i := 2145) rfl, rfl⟩, tw_c 12 wl_0_ok rfl, rfl, by decide, by decide, by decide +kernel⟩
theorem v_MD_isFenceTold : Cond.instanceMethod y_MD_isFenceTold ∈ tw ∧ Cond.selects y_MD_isFenceTold.cls y_MD_isFenceTold y_MD_isFenceTold ∈ tw := ⟨tw_c 9 wl_30_ok rfl, tw_c 10 wl_30_ok rfl⟩
set_option maxRecDepth 100000 in
theorem n_MD_status : m_nm y_MD_status M_MD_status 1 := ⟨List.mem_filter.mpr ⟨List.mem_of_getElem? (i := 2149) rfl, rfl⟩, tw_c 12 wl_0_ok rfl, rfl, by decide, by decide, by decide +kernel⟩
theorem v_MD_status : Cond.instanceMethod y_MD_status ∈ tw ∧ Cond.selects y_MD_status.cls y_MD_status y_MD_status ∈ tw := ⟨tw_c 11 wl_30_ok rfl, tw_c 12 wl_30_ok rfl⟩
theorem k_11_11 : (m_cn 11, 11, y_Tape_init) ∈ m_nest := by decide +kernel
theorem k_11_18 : (m_cn 11, 18, y_Slope_init) ∈ m_nest := by decide +kernel
theorem k_11_28 : Cond.methodLink (m_cn 11) 28 y_Reader_init ∈ tw := tw_c 13 wl_30_ok rfl
theorem k_11_37 : Cond.methodLink (m_cn 11) 37 y_Lay_init ∈ tw := tw_c 14 wl_30_ok rfl
theorem k_11_44 : Cond.methodLink (m_cn 11) 44 y_Walker_init ∈ tw := tw_c 15 wl_30_ok rfl
theorem k_11_53 : Cond.methodLink (m_cn 11) 53 y_Foresight_init ∈ tw := tw_c 16 wl_30_ok rfl
theorem k_11_62 : (m_cn 11, 62, y_Log_init) ∈ m_nest := by decide +kernel
theorem k_11_69 : Cond.methodLink (m_cn 11) 69 y_History_init ∈ tw := tw_c 17 wl_30_ok rfl
theorem k_11_76 : (m_cn 11, 76, y_Seen_init) ∈ m_nest := by decide +kernel
theorem k_11_83 : (m_cn 11, 83, y_Image_init) ∈ m_nest := by decide +kernel
theorem k_11_99 : Cond.methodLink (m_cn 11) 99 y_WF_refuse ∈ tw := tw_c 18 wl_30_ok rfl
theorem k_11_103 : Cond.methodLink (m_cn 11) 103 y_Tape_append ∈ tw := tw_c 19 wl_30_ok rfl
theorem k_11_107 : Cond.methodLink (m_cn 11) 107 y_Reader_readSlope ∈ tw := tw_c 0 wl_31_ok rfl
theorem k_11_115 : Cond.methodLink (m_cn 11) 115 y_WF_beginAnew ∈ tw := tw_c 1 wl_31_ok rfl
theorem k_11_143 : Cond.methodLink (m_cn 11) 143 y_Lay_countPosts ∈ tw := tw_c 2 wl_31_ok rfl
theorem k_11_147 : Cond.methodLink (m_cn 11) 147 y_WF_countStakes ∈ tw := tw_c 3 wl_31_ok rfl
theorem k_11_153 : Cond.methodLink (m_cn 11) 153 y_Integer_bitCount ∈ tw := tw_c 4 wl_31_ok rfl
theorem k_11_158 : Cond.methodLink (m_cn 11) 158 y_WF_countMoor ∈ tw := tw_c 5 wl_31_ok rfl
theorem k_11_163 : Cond.methodLink (m_cn 11) 163 y_Slope_hasFence ∈ tw := tw_c 6 wl_31_ok rfl
theorem k_11_170 : Cond.methodLink (m_cn 11) 170 y_Slope_hasPlace ∈ tw := tw_c 7 wl_31_ok rfl
theorem k_11_174 : Cond.methodLink (m_cn 11) 174 y_Lay_ownerOf ∈ tw := tw_c 8 wl_31_ok rfl
theorem k_11_178 : Cond.methodLink (m_cn 11) 178 y_Lay_hasPost ∈ tw := tw_c 9 wl_31_ok rfl
theorem k_11_181 : Cond.methodLink (m_cn 11) 181 y_Lay_stakesAt ∈ tw := tw_c 10 wl_31_ok rfl
theorem k_11_187 : Cond.methodLink (m_cn 11) 187 y_Lay_fieldOf ∈ tw := tw_c 11 wl_31_ok rfl
theorem k_11_190 : Cond.methodLink (m_cn 11) 190 y_Lay_leftOf ∈ tw := tw_c 12 wl_31_ok rfl
theorem k_11_193 : Cond.methodLink (m_cn 11) 193 y_Lay_isCut ∈ tw := tw_c 13 wl_31_ok rfl
theorem k_11_196 : Cond.methodLink (m_cn 11) 196 y_Lay_rowOf ∈ tw := tw_c 14 wl_31_ok rfl
theorem k_11_199 : Cond.methodLink (m_cn 11) 199 y_Walker_face ∈ tw := tw_c 15 wl_31_ok rfl
theorem k_11_203 : Cond.methodLink (m_cn 11) 203 y_Walker_paces ∈ tw := tw_c 16 wl_31_ok rfl
theorem k_11_206 : Cond.methodLink (m_cn 11) 206 y_Log_tell ∈ tw := tw_c 17 wl_31_ok rfl
theorem k_11_209 : Cond.methodLink (m_cn 11) 209 y_WF_yearsAtMost ∈ tw := tw_c 18 wl_31_ok rfl
theorem k_11_212 : Cond.methodLink (m_cn 11) 212 y_Foresight_goAhead ∈ tw := tw_c 19 wl_31_ok rfl
theorem k_11_216 : Cond.methodLink (m_cn 11) 216 y_WF_areTwoFences ∈ tw := tw_c 0 wl_32_ok rfl
theorem k_11_219 : Cond.methodLink (m_cn 11) 219 y_Foresight_firstMeeting ∈ tw := tw_c 1 wl_32_ok rfl
theorem k_11_223 : Cond.methodLink (m_cn 11) 223 y_Lay_columnsBelow ∈ tw := tw_c 2 wl_32_ok rfl
theorem k_11_226 : Cond.methodLink (m_cn 11) 226 y_Foresight_leastField ∈ tw := tw_c 3 wl_32_ok rfl
theorem k_11_229 : Cond.methodLink (m_cn 11) 229 y_Foresight_findIron ∈ tw := tw_c 4 wl_32_ok rfl
theorem k_11_242 : Cond.methodLink (m_cn 11) 242 y_Slope_isTold ∈ tw := tw_c 5 wl_32_ok rfl
theorem k_11_246 : Cond.methodLink (m_cn 11) 246 y_Foresight_findRest ∈ tw := tw_c 6 wl_32_ok rfl
theorem k_11_249 : Cond.methodLink (m_cn 11) 249 y_Seen_readFrom ∈ tw := tw_c 7 wl_32_ok rfl
theorem k_11_253 : Cond.methodLink (m_cn 11) 253 y_Foresight_findFits ∈ tw := tw_c 8 wl_32_ok rfl
theorem k_11_266 : Cond.methodLink (m_cn 11) 266 y_Foresight_findTelling ∈ tw := tw_c 9 wl_32_ok rfl
theorem k_11_278 : Cond.methodLink (m_cn 11) 278 y_WF_beginAct ∈ tw := tw_c 10 wl_32_ok rfl
theorem k_11_281 : Cond.methodLink (m_cn 11) 281 y_Lay_plant ∈ tw := tw_c 11 wl_32_ok rfl
theorem k_11_284 : Cond.methodLink (m_cn 11) 284 y_Lay_drive ∈ tw := tw_c 12 wl_32_ok rfl
theorem k_11_287 : Cond.methodLink (m_cn 11) 287 y_Walker_passYear ∈ tw := tw_c 13 wl_32_ok rfl
theorem k_11_291 : Cond.methodLink (m_cn 11) 291 y_WF_draw ∈ tw := tw_c 14 wl_32_ok rfl
theorem k_11_297 : Cond.methodLink (m_cn 11) 297 y_WF_washOut ∈ tw := tw_c 15 wl_32_ok rfl
theorem k_11_300 : Cond.methodLink (m_cn 11) 300 y_History_giveBack ∈ tw := tw_c 16 wl_32_ok rfl
theorem k_11_304 : Cond.methodLink (m_cn 11) 304 y_Foresight_forget ∈ tw := tw_c 17 wl_32_ok rfl
theorem k_11_309 : Cond.methodLink (m_cn 11) 309 y_Reader_readQuestion ∈ tw := tw_c 18 wl_32_ok rfl
theorem k_11_315 : Cond.methodLink (m_cn 11) 315 y_WF_answer ∈ tw := tw_c 19 wl_32_ok rfl
theorem k_11_319 : Cond.methodLink (m_cn 11) 319 y_Image_write ∈ tw := tw_c 0 wl_33_ok rfl
theorem k_11_331 : Cond.methodLink (m_cn 11) 331 y_Image_read ∈ tw := tw_c 1 wl_33_ok rfl
theorem k_11_335 : Cond.methodLink (m_cn 11) 335 y_Lay_takeFrom ∈ tw := tw_c 2 wl_33_ok rfl
theorem k_11_338 : Cond.methodLink (m_cn 11) 338 y_Log_clear ∈ tw := tw_c 3 wl_33_ok rfl
theorem k_11_341 : Cond.methodLink (m_cn 11) 341 y_History_clear ∈ tw := tw_c 4 wl_33_ok rfl
theorem k_11_342 : Cond.methodLink (m_cn 11) 342 y_History_keep ∈ tw := tw_c 5 wl_33_ok rfl
theorem k_11_346 : Cond.methodLink (m_cn 11) 346 y_Math_min_II ∈ tw := tw_c 6 wl_33_ok rfl
theorem k_11_353 : Cond.methodLink (m_cn 11) 353 y_Lay_putStake ∈ tw := tw_c 7 wl_33_ok rfl
theorem k_11_357 : Cond.methodLink (m_cn 11) 357 y_Log_note ∈ tw := tw_c 8 wl_33_ok rfl
theorem k_11_362 : Cond.methodLink (m_cn 11) 362 y_Walker_reckonQuestion ∈ tw := tw_c 9 wl_33_ok rfl
theorem k_11_366 : Cond.methodLink (m_cn 11) 366 y_Math_max_JJ ∈ tw := tw_c 10 wl_33_ok rfl
theorem k_11_370 : Cond.methodLink (m_cn 11) 370 y_Math_min_JJ ∈ tw := tw_c 11 wl_33_ok rfl
theorem k_0_11 : Cond.methodLink (m_cn 0) 11 y_Lay_init ∈ tw := tw_c 12 wl_33_ok rfl
theorem k_0_42 : Cond.methodLink (m_cn 0) 42 y_Lay_takeFrom ∈ tw := tw_c 13 wl_33_ok rfl
theorem k_0_46 : Cond.methodLink (m_cn 0) 46 y_Foresight_passYears ∈ tw := tw_c 14 wl_33_ok rfl
theorem k_0_50 : Cond.methodLink (m_cn 0) 50 y_Walker_passYear ∈ tw := tw_c 15 wl_33_ok rfl
theorem k_0_56 : Cond.methodLink (m_cn 0) 56 y_Lay_meetSomewhere ∈ tw := tw_c 16 wl_33_ok rfl
theorem k_0_69 : Cond.methodLink (m_cn 0) 69 y_Lay_plant ∈ tw := tw_c 17 wl_33_ok rfl
theorem k_0_76 : Cond.methodLink (m_cn 0) 76 y_Lay_fieldOf ∈ tw := tw_c 18 wl_33_ok rfl
theorem k_0_80 : Cond.methodLink (m_cn 0) 80 y_Math_min_II ∈ tw := tw_c 19 wl_33_ok rfl
theorem k_0_94 : Cond.methodLink (m_cn 0) 94 y_Foresight_tread ∈ tw := tw_c 0 wl_34_ok rfl
theorem k_0_101 : Cond.methodLink (m_cn 0) 101 y_Lay_postsOf ∈ tw := tw_c 1 wl_34_ok rfl
theorem k_0_105 : Cond.methodLink (m_cn 0) 105 y_Foresight_tryIron ∈ tw := tw_c 2 wl_34_ok rfl
theorem k_0_108 : Cond.methodLink (m_cn 0) 108 y_Arrays_fill ∈ tw := tw_c 3 wl_34_ok rfl
theorem k_0_117 : Cond.methodLink (m_cn 0) 117 y_Foresight_treadBy ∈ tw := tw_c 4 wl_34_ok rfl
theorem k_0_120 : Cond.methodLink (m_cn 0) 120 y_Walker_face ∈ tw := tw_c 5 wl_34_ok rfl
theorem k_0_123 : Cond.methodLink (m_cn 0) 123 y_Lay_rowOf ∈ tw := tw_c 6 wl_34_ok rfl
theorem k_0_126 : Cond.methodLink (m_cn 0) 126 y_Walker_paces ∈ tw := tw_c 7 wl_34_ok rfl
theorem k_0_129 : Cond.methodLink (m_cn 0) 129 y_Lay_drive ∈ tw := tw_c 8 wl_34_ok rfl
theorem k_0_135 : Cond.methodLink (m_cn 0) 135 y_Integer_bitCount ∈ tw := tw_c 9 wl_34_ok rfl
theorem k_0_140 : Cond.methodLink (m_cn 0) 140 y_Foresight_isAtRest ∈ tw := tw_c 10 wl_34_ok rfl
theorem k_0_144 : Cond.methodLink (m_cn 0) 144 y_Lay_takeStakes ∈ tw := tw_c 11 wl_34_ok rfl
theorem k_0_156 : Cond.methodLink (m_cn 0) 156 y_Seen_isSo ∈ tw := tw_c 12 wl_34_ok rfl
theorem k_0_162 : Cond.methodLink (m_cn 0) 162 y_Foresight_countOwners ∈ tw := tw_c 13 wl_34_ok rfl
theorem k_0_165 : Cond.methodLink (m_cn 0) 165 y_Lay_ownerOf ∈ tw := tw_c 14 wl_34_ok rfl
theorem k_0_168 : Cond.methodLink (m_cn 0) 168 y_Foresight_findFits ∈ tw := tw_c 15 wl_34_ok rfl
theorem k_0_181 : Cond.methodLink (m_cn 0) 181 y_Foresight_leftBy ∈ tw := tw_c 16 wl_34_ok rfl
theorem k_0_184 : Cond.methodLink (m_cn 0) 184 y_Math_max_II ∈ tw := tw_c 17 wl_34_ok rfl
theorem k_1_23 : Cond.methodLink (m_cn 1) 23 y_Lay_init ∈ tw := tw_c 18 wl_34_ok rfl
theorem k_1_24 : (m_cn 1, 24, y_Log_init) ∈ m_nest := by decide +kernel
theorem k_1_32 : Cond.methodLink (m_cn 1) 32 y_History_hasRing ∈ tw := tw_c 19 wl_34_ok rfl
theorem k_1_36 : Cond.methodLink (m_cn 1) 36 y_Lay_takeFrom ∈ tw := tw_c 0 wl_35_ok rfl
theorem k_1_40 : Cond.methodLink (m_cn 1) 40 y_Log_takeFrom ∈ tw := tw_c 1 wl_35_ok rfl
theorem k_1_43 : Cond.methodLink (m_cn 1) 43 y_Math_min_II ∈ tw := tw_c 2 wl_35_ok rfl
theorem k_2_24 : Cond.methodLink (m_cn 2) 24 y_Image_add ∈ tw := tw_c 3 wl_35_ok rfl
theorem k_2_28 : Cond.methodLink (m_cn 2) 28 y_Lay_countPosts ∈ tw := tw_c 4 wl_35_ok rfl
theorem k_2_40 : Cond.methodLink (m_cn 2) 40 y_Lay_hasPost ∈ tw := tw_c 5 wl_35_ok rfl
theorem k_2_47 : Cond.methodLink (m_cn 2) 47 y_Lay_ageOf ∈ tw := tw_c 6 wl_35_ok rfl
theorem k_2_51 : Cond.methodLink (m_cn 2) 51 y_Lay_isCut ∈ tw := tw_c 7 wl_35_ok rfl
theorem k_2_55 : Cond.methodLink (m_cn 2) 55 y_Lay_rowOf ∈ tw := tw_c 8 wl_35_ok rfl
theorem k_2_59 : Cond.methodLink (m_cn 2) 59 y_Tape_byteAt ∈ tw := tw_c 9 wl_35_ok rfl
theorem k_2_65 : Cond.methodLink (m_cn 2) 65 y_Lay_clear ∈ tw := tw_c 10 wl_35_ok rfl
theorem k_2_68 : Cond.methodLink (m_cn 2) 68 y_Image_readPosts ∈ tw := tw_c 11 wl_35_ok rfl
theorem k_2_72 : Cond.methodLink (m_cn 2) 72 y_Image_readFences ∈ tw := tw_c 12 wl_35_ok rfl
theorem k_2_75 : Cond.methodLink (m_cn 2) 75 y_Slope_hasPlace ∈ tw := tw_c 13 wl_35_ok rfl
theorem k_2_78 : Cond.methodLink (m_cn 2) 78 y_Lay_drive ∈ tw := tw_c 14 wl_35_ok rfl
theorem k_2_82 : Cond.methodLink (m_cn 2) 82 y_Lay_putAge ∈ tw := tw_c 15 wl_35_ok rfl
theorem k_2_88 : Cond.methodLink (m_cn 2) 88 y_Lay_putStake ∈ tw := tw_c 16 wl_35_ok rfl
theorem k_3_21 : Cond.methodLink (m_cn 3) 21 y_Arrays_fill ∈ tw := tw_c 17 wl_35_ok rfl
theorem k_3_40 : Cond.methodLink (m_cn 3) 40 y_Lay_isStake ∈ tw := tw_c 18 wl_35_ok rfl
theorem k_3_44 : Cond.methodLink (m_cn 3) 44 y_Lay_putStake ∈ tw := tw_c 19 wl_35_ok rfl
theorem k_3_48 : Cond.methodLink (m_cn 3) 48 y_Lay_putAge ∈ tw := tw_c 0 wl_36_ok rfl
theorem k_3_52 : Cond.methodLink (m_cn 3) 52 y_Lay_postsOf ∈ tw := tw_c 1 wl_36_ok rfl
theorem k_3_56 : Cond.methodLink (m_cn 3) 56 y_Integer_bitCount ∈ tw := tw_c 2 wl_36_ok rfl
theorem k_3_61 : Cond.methodLink (m_cn 3) 61 y_Lay_rowOf ∈ tw := tw_c 3 wl_36_ok rfl
theorem k_3_65 : Cond.methodLink (m_cn 3) 65 y_Lay_fieldIn ∈ tw := tw_c 4 wl_36_ok rfl
theorem k_5_23 : Cond.methodLink (m_cn 5) 23 y_Reader_begin ∈ tw := tw_c 5 wl_36_ok rfl
theorem k_5_27 : Cond.methodLink (m_cn 5) 27 y_Slope_clear ∈ tw := tw_c 6 wl_36_ok rfl
theorem k_5_32 : Cond.methodLink (m_cn 5) 32 y_Reader_slopeLine ∈ tw := tw_c 7 wl_36_ok rfl
theorem k_5_45 : Cond.methodLink (m_cn 5) 45 y_Reader_steepLine ∈ tw := tw_c 8 wl_36_ok rfl
theorem k_5_48 : Cond.methodLink (m_cn 5) 48 y_Reader_ironLine ∈ tw := tw_c 9 wl_36_ok rfl
theorem k_5_51 : Cond.methodLink (m_cn 5) 51 y_Reader_fenceLine ∈ tw := tw_c 10 wl_36_ok rfl
theorem k_5_54 : Cond.methodLink (m_cn 5) 54 y_Reader_stakeLine ∈ tw := tw_c 11 wl_36_ok rfl
theorem k_5_57 : Cond.methodLink (m_cn 5) 57 y_Reader_walksLine ∈ tw := tw_c 12 wl_36_ok rfl
theorem k_5_60 : Cond.methodLink (m_cn 5) 60 y_Reader_rootsLine ∈ tw := tw_c 13 wl_36_ok rfl
theorem k_5_63 : Cond.methodLink (m_cn 5) 63 y_Reader_tideLine ∈ tw := tw_c 14 wl_36_ok rfl
theorem k_5_69 : Cond.methodLink (m_cn 5) 69 y_Reader_wrong ∈ tw := tw_c 15 wl_36_ok rfl
theorem k_5_73 : Cond.methodLink (m_cn 5) 73 y_Reader_need ∈ tw := tw_c 16 wl_36_ok rfl
theorem k_5_88 : Cond.methodLink (m_cn 5) 88 y_Reader_advance ∈ tw := tw_c 17 wl_36_ok rfl
theorem k_5_91 : Cond.methodLink (m_cn 5) 91 y_Reader_test ∈ tw := tw_c 18 wl_36_ok rfl
theorem k_5_94 : Cond.methodLink (m_cn 5) 94 y_Reader_sum ∈ tw := tw_c 19 wl_36_ok rfl
theorem k_5_114 : Cond.methodLink (m_cn 5) 114 y_Tape_byteAt ∈ tw := tw_c 0 wl_37_ok rfl
theorem k_5_118 : Cond.methodLink (m_cn 5) 118 y_Reader_isBlank ∈ tw := tw_c 1 wl_37_ok rfl
theorem k_5_121 : Cond.methodLink (m_cn 5) 121 y_Reader_isLetter ∈ tw := tw_c 2 wl_37_ok rfl
theorem k_5_124 : Cond.methodLink (m_cn 5) 124 y_Reader_wordNumber ∈ tw := tw_c 3 wl_37_ok rfl
theorem k_5_128 : Cond.methodLink (m_cn 5) 128 y_Reader_isDigit ∈ tw := tw_c 4 wl_37_ok rfl
theorem k_5_145 : Cond.methodLink (m_cn 5) 145 y_Reader_isWord ∈ tw := tw_c 5 wl_37_ok rfl
theorem k_5_158 : Cond.methodLink (m_cn 5) 158 y_Reader_letterAt ∈ tw := tw_c 6 wl_37_ok rfl
theorem k_5_161 : Cond.methodLink (m_cn 5) 161 y_Reader_needWord ∈ tw := tw_c 7 wl_37_ok rfl
theorem k_5_164 : Cond.methodLink (m_cn 5) 164 y_Reader_number ∈ tw := tw_c 8 wl_37_ok rfl
theorem k_5_179 : Cond.methodLink (m_cn 5) 179 y_Lay_countPosts ∈ tw := tw_c 9 wl_37_ok rfl
theorem k_5_184 : Cond.methodLink (m_cn 5) 184 y_Lay_hasPost ∈ tw := tw_c 10 wl_37_ok rfl
theorem k_5_187 : Cond.methodLink (m_cn 5) 187 y_Lay_drive ∈ tw := tw_c 11 wl_37_ok rfl
theorem k_5_191 : Cond.methodLink (m_cn 5) 191 y_Reader_name ∈ tw := tw_c 12 wl_37_ok rfl
theorem k_5_194 : Cond.methodLink (m_cn 5) 194 y_Reader_named ∈ tw := tw_c 13 wl_37_ok rfl
theorem k_5_197 : Cond.methodLink (m_cn 5) 197 y_Lay_putStake ∈ tw := tw_c 14 wl_37_ok rfl
theorem k_5_201 : Cond.methodLink (m_cn 5) 201 y_Lay_putAge ∈ tw := tw_c 15 wl_37_ok rfl
theorem k_5_219 : Cond.methodLink (m_cn 5) 219 y_Reader_both ∈ tw := tw_c 16 wl_37_ok rfl
theorem k_5_222 : Cond.methodLink (m_cn 5) 222 y_Reader_emit ∈ tw := tw_c 17 wl_37_ok rfl
theorem k_5_225 : Cond.methodLink (m_cn 5) 225 y_Reader_fact ∈ tw := tw_c 18 wl_37_ok rfl
theorem k_5_228 : Cond.methodLink (m_cn 5) 228 y_Reader_opens ∈ tw := tw_c 19 wl_37_ok rfl
theorem k_5_231 : Cond.methodLink (m_cn 5) 231 y_Reader_product ∈ tw := tw_c 0 wl_38_ok rfl
theorem k_5_234 : Cond.methodLink (m_cn 5) 234 y_Reader_part ∈ tw := tw_c 1 wl_38_ok rfl
theorem k_6_24 : Cond.methodLink (m_cn 6) 24 y_Math_max_II ∈ tw := tw_c 2 wl_38_ok rfl
theorem k_6_30 : Cond.methodLink (m_cn 6) 30 y_Reckoner_single ∈ tw := tw_c 3 wl_38_ok rfl
theorem k_6_33 : Cond.methodLink (m_cn 6) 33 y_Reckoner_pair ∈ tw := tw_c 4 wl_38_ok rfl
theorem k_6_37 : Cond.methodLink (m_cn 6) 37 y_Reckoner_partOf ∈ tw := tw_c 5 wl_38_ok rfl
theorem k_6_41 : Cond.methodLink (m_cn 6) 41 y_Math_floorDiv ∈ tw := tw_c 6 wl_38_ok rfl
theorem k_6_44 : Cond.methodLink (m_cn 6) 44 y_Math_min_II ∈ tw := tw_c 7 wl_38_ok rfl
theorem k_7_27 : Cond.methodLink (m_cn 7) 27 y_Tape_byteAt ∈ tw := tw_c 8 wl_38_ok rfl
theorem k_7_31 : Cond.methodLink (m_cn 7) 31 y_Slope_hasFence ∈ tw := tw_c 9 wl_38_ok rfl
theorem k_7_37 : Cond.methodLink (m_cn 7) 37 y_Slope_hasPlace ∈ tw := tw_c 10 wl_38_ok rfl
theorem k_7_44 : Cond.methodLink (m_cn 7) 44 y_Lay_ownerOf ∈ tw := tw_c 11 wl_38_ok rfl
theorem k_8_20 : Cond.methodLink (m_cn 8) 20 y_Lay_init ∈ tw := tw_c 12 wl_38_ok rfl
theorem k_8_56 : Cond.methodLink (m_cn 8) 56 y_Lay_clear ∈ tw := tw_c 13 wl_38_ok rfl
theorem k_8_59 : Cond.methodLink (m_cn 8) 59 y_Arrays_fill ∈ tw := tw_c 14 wl_38_ok rfl
theorem k_10_11 : (m_cn 10, 11, y_Reckoner_init) ∈ m_nest := by decide +kernel
theorem k_10_26 : Cond.methodLink (m_cn 10) 26 y_Lay_ageOf ∈ tw := tw_c 15 wl_38_ok rfl
theorem k_10_36 : Cond.methodLink (m_cn 10) 36 y_Slope_steepOf ∈ tw := tw_c 16 wl_38_ok rfl
theorem k_10_50 : Cond.methodLink (m_cn 10) 50 y_Reckoner_run ∈ tw := tw_c 17 wl_38_ok rfl
theorem k_10_54 : Cond.methodLink (m_cn 10) 54 y_Math_min_II ∈ tw := tw_c 18 wl_38_ok rfl
theorem k_10_60 : Cond.methodLink (m_cn 10) 60 y_Math_max_II ∈ tw := tw_c 19 wl_38_ok rfl
theorem k_10_66 : Cond.methodLink (m_cn 10) 66 y_Lay_isCut ∈ tw := tw_c 0 wl_39_ok rfl
theorem k_10_70 : Cond.methodLink (m_cn 10) 70 y_Walker_walkFence ∈ tw := tw_c 1 wl_39_ok rfl
theorem k_10_77 : Cond.methodLink (m_cn 10) 77 y_Lay_putAge ∈ tw := tw_c 2 wl_39_ok rfl
theorem k_10_81 : Cond.methodLink (m_cn 10) 81 y_Walker_rootsAgain ∈ tw := tw_c 3 wl_39_ok rfl
theorem k_10_88 : Cond.methodLink (m_cn 10) 88 y_Lay_plant ∈ tw := tw_c 4 wl_39_ok rfl
theorem k_10_91 : Cond.methodLink (m_cn 10) 91 y_Log_note ∈ tw := tw_c 5 wl_39_ok rfl
theorem k_10_97 : Cond.methodLink (m_cn 10) 97 y_Walker_face ∈ tw := tw_c 6 wl_39_ok rfl
theorem k_10_101 : Cond.methodLink (m_cn 10) 101 y_Lay_rowOf ∈ tw := tw_c 7 wl_39_ok rfl
theorem k_10_104 : Cond.methodLink (m_cn 10) 104 y_Lay_postsOf ∈ tw := tw_c 8 wl_39_ok rfl
theorem k_10_107 : Cond.methodLink (m_cn 10) 107 y_Walker_paces ∈ tw := tw_c 9 wl_39_ok rfl
theorem k_10_110 : Cond.methodLink (m_cn 10) 110 y_Walker_landing ∈ tw := tw_c 10 wl_39_ok rfl
theorem k_10_114 : Cond.methodLink (m_cn 10) 114 y_Lay_putStake ∈ tw := tw_c 11 wl_39_ok rfl
theorem k_10_117 : Cond.methodLink (m_cn 10) 117 y_Integer_numberOfTrailingZeros ∈ tw := tw_c 12 wl_39_ok rfl
theorem k_10_131 : Cond.methodLink (m_cn 10) 131 y_Lay_leftOf ∈ tw := tw_c 13 wl_39_ok rfl
theorem k_10_134 : Cond.methodLink (m_cn 10) 134 y_Lay_fieldOf ∈ tw := tw_c 14 wl_39_ok rfl
theorem k_10_143 : Cond.methodLink (m_cn 10) 143 y_Lay_columnsBelow ∈ tw := tw_c 15 wl_39_ok rfl
theorem k_13_9 : Cond.methodLink (m_cn 13) 9 y_WF_init ∈ tw := tw_c 16 wl_39_ok rfl
theorem k_13_12 : Cond.methodLink (m_cn 13) 12 y_MD_init ∈ tw := tw_c 17 wl_39_ok rfl
theorem k_13_13 : Cond.methodLink (m_cn 13) 13 y_WF_feed ∈ tw := tw_c 18 wl_39_ok rfl
theorem k_13_17 : Cond.methodLink (m_cn 13) 17 y_MD_feed ∈ tw := tw_c 19 wl_39_ok rfl
theorem k_13_18 : Cond.methodLink (m_cn 13) 18 y_WF_end ∈ tw := tw_c 0 wl_40_ok rfl
theorem k_13_22 : Cond.methodLink (m_cn 13) 22 y_MD_end ∈ tw := tw_c 1 wl_40_ok rfl
theorem k_13_23 : Cond.methodLink (m_cn 13) 23 y_WF_slope ∈ tw := tw_c 2 wl_40_ok rfl
theorem k_13_27 : Cond.methodLink (m_cn 13) 27 y_MD_slope ∈ tw := tw_c 3 wl_40_ok rfl
theorem k_13_28 : Cond.methodLink (m_cn 13) 28 y_WF_fault ∈ tw := tw_c 4 wl_40_ok rfl
theorem k_13_32 : Cond.methodLink (m_cn 13) 32 y_MD_fault ∈ tw := tw_c 5 wl_40_ok rfl
theorem k_13_33 : Cond.methodLink (m_cn 13) 33 y_WF_has ∈ tw := tw_c 6 wl_40_ok rfl
theorem k_13_36 : Cond.methodLink (m_cn 13) 36 y_MD_has ∈ tw := tw_c 7 wl_40_ok rfl
theorem k_13_37 : Cond.methodLink (m_cn 13) 37 y_WF_letter ∈ tw := tw_c 8 wl_40_ok rfl
theorem k_13_41 : Cond.methodLink (m_cn 13) 41 y_MD_letter ∈ tw := tw_c 9 wl_40_ok rfl
theorem k_13_42 : Cond.methodLink (m_cn 13) 42 y_WF_place ∈ tw := tw_c 10 wl_40_ok rfl
theorem k_13_46 : Cond.methodLink (m_cn 13) 46 y_MD_place ∈ tw := tw_c 11 wl_40_ok rfl
theorem k_13_47 : Cond.methodLink (m_cn 13) 47 y_WF_fence ∈ tw := tw_c 12 wl_40_ok rfl
theorem k_13_50 : Cond.methodLink (m_cn 13) 50 y_MD_fence ∈ tw := tw_c 13 wl_40_ok rfl
theorem k_13_51 : Cond.methodLink (m_cn 13) 51 y_WF_stake ∈ tw := tw_c 14 wl_40_ok rfl
theorem k_13_54 : Cond.methodLink (m_cn 13) 54 y_MD_stake ∈ tw := tw_c 15 wl_40_ok rfl
theorem k_13_55 : Cond.methodLink (m_cn 13) 55 y_WF_walks ∈ tw := tw_c 16 wl_40_ok rfl
theorem k_13_58 : Cond.methodLink (m_cn 13) 58 y_MD_walks ∈ tw := tw_c 17 wl_40_ok rfl
theorem k_13_59 : Cond.methodLink (m_cn 13) 59 y_WF_kept ∈ tw := tw_c 18 wl_40_ok rfl
theorem k_13_62 : Cond.methodLink (m_cn 13) 62 y_MD_kept ∈ tw := tw_c 19 wl_40_ok rfl
theorem k_13_63 : Cond.methodLink (m_cn 13) 63 y_WF_later ∈ tw := tw_c 0 wl_41_ok rfl
theorem k_13_66 : Cond.methodLink (m_cn 13) 66 y_MD_later ∈ tw := tw_c 1 wl_41_ok rfl
theorem k_13_67 : Cond.methodLink (m_cn 13) 67 y_WF_whose ∈ tw := tw_c 2 wl_41_ok rfl
theorem k_13_70 : Cond.methodLink (m_cn 13) 70 y_MD_whose ∈ tw := tw_c 3 wl_41_ok rfl
theorem k_13_71 : Cond.methodLink (m_cn 13) 71 y_WF_meets ∈ tw := tw_c 4 wl_41_ok rfl
theorem k_13_74 : Cond.methodLink (m_cn 13) 74 y_MD_meets ∈ tw := tw_c 5 wl_41_ok rfl
theorem k_13_75 : Cond.methodLink (m_cn 13) 75 y_WF_below ∈ tw := tw_c 6 wl_41_ok rfl
theorem k_13_78 : Cond.methodLink (m_cn 13) 78 y_MD_below ∈ tw := tw_c 7 wl_41_ok rfl
theorem k_13_79 : Cond.methodLink (m_cn 13) 79 y_WF_sets ∈ tw := tw_c 8 wl_41_ok rfl
theorem k_13_82 : Cond.methodLink (m_cn 13) 82 y_MD_sets ∈ tw := tw_c 9 wl_41_ok rfl
theorem k_13_83 : Cond.methodLink (m_cn 13) 83 y_WF_irons ∈ tw := tw_c 10 wl_41_ok rfl
theorem k_13_86 : Cond.methodLink (m_cn 13) 86 y_MD_irons ∈ tw := tw_c 11 wl_41_ok rfl
theorem k_13_87 : Cond.methodLink (m_cn 13) 87 y_WF_rest ∈ tw := tw_c 12 wl_41_ok rfl
theorem k_13_90 : Cond.methodLink (m_cn 13) 90 y_MD_rest ∈ tw := tw_c 13 wl_41_ok rfl
theorem k_13_91 : Cond.methodLink (m_cn 13) 91 y_WF_see ∈ tw := tw_c 14 wl_41_ok rfl
theorem k_13_94 : Cond.methodLink (m_cn 13) 94 y_MD_see ∈ tw := tw_c 15 wl_41_ok rfl
theorem k_13_95 : Cond.methodLink (m_cn 13) 95 y_WF_fits ∈ tw := tw_c 16 wl_41_ok rfl
theorem k_13_98 : Cond.methodLink (m_cn 13) 98 y_MD_fits ∈ tw := tw_c 17 wl_41_ok rfl
theorem k_13_99 : Cond.methodLink (m_cn 13) 99 y_WF_tells ∈ tw := tw_c 18 wl_41_ok rfl
theorem k_13_102 : Cond.methodLink (m_cn 13) 102 y_MD_tells ∈ tw := tw_c 19 wl_41_ok rfl
theorem k_13_103 : Cond.methodLink (m_cn 13) 103 y_WF_set ∈ tw := tw_c 0 wl_42_ok rfl
theorem k_13_106 : Cond.methodLink (m_cn 13) 106 y_MD_set ∈ tw := tw_c 1 wl_42_ok rfl
theorem k_13_107 : Cond.methodLink (m_cn 13) 107 y_WF_cut ∈ tw := tw_c 2 wl_42_ok rfl
theorem k_13_110 : Cond.methodLink (m_cn 13) 110 y_MD_cut ∈ tw := tw_c 3 wl_42_ok rfl
theorem k_13_111 : Cond.methodLink (m_cn 13) 111 y_WF_iron ∈ tw := tw_c 4 wl_42_ok rfl
theorem k_13_114 : Cond.methodLink (m_cn 13) 114 y_MD_iron ∈ tw := tw_c 5 wl_42_ok rfl
theorem k_13_115 : Cond.methodLink (m_cn 13) 115 y_WF_years ∈ tw := tw_c 6 wl_42_ok rfl
theorem k_13_118 : Cond.methodLink (m_cn 13) 118 y_MD_years ∈ tw := tw_c 7 wl_42_ok rfl
theorem k_13_119 : Cond.methodLink (m_cn 13) 119 y_WF_chance ∈ tw := tw_c 8 wl_42_ok rfl
theorem k_13_122 : Cond.methodLink (m_cn 13) 122 y_MD_chance ∈ tw := tw_c 9 wl_42_ok rfl
theorem k_13_123 : Cond.methodLink (m_cn 13) 123 y_WF_undo ∈ tw := tw_c 10 wl_42_ok rfl
theorem k_13_127 : Cond.methodLink (m_cn 13) 127 y_MD_undo ∈ tw := tw_c 11 wl_42_ok rfl
theorem k_13_128 : Cond.methodLink (m_cn 13) 128 y_WF_seed ∈ tw := tw_c 12 wl_42_ok rfl
theorem k_13_131 : Cond.methodLink (m_cn 13) 131 y_MD_seed ∈ tw := tw_c 13 wl_42_ok rfl
theorem k_13_132 : Cond.methodLink (m_cn 13) 132 y_WF_ask ∈ tw := tw_c 14 wl_42_ok rfl
theorem k_13_136 : Cond.methodLink (m_cn 13) 136 y_MD_ask ∈ tw := tw_c 15 wl_42_ok rfl
theorem k_13_137 : Cond.methodLink (m_cn 13) 137 y_WF_image ∈ tw := tw_c 16 wl_42_ok rfl
theorem k_13_140 : Cond.methodLink (m_cn 13) 140 y_MD_image ∈ tw := tw_c 17 wl_42_ok rfl
theorem k_13_141 : Cond.methodLink (m_cn 13) 141 y_WF_octet ∈ tw := tw_c 18 wl_42_ok rfl
theorem k_13_144 : Cond.methodLink (m_cn 13) 144 y_MD_octet ∈ tw := tw_c 19 wl_42_ok rfl
theorem k_13_145 : Cond.methodLink (m_cn 13) 145 y_WF_on ∈ tw := tw_c 0 wl_43_ok rfl
theorem k_13_148 : Cond.methodLink (m_cn 13) 148 y_MD_on ∈ tw := tw_c 1 wl_43_ok rfl
theorem k_13_149 : Cond.methodLink (m_cn 13) 149 y_WF_status ∈ tw := tw_c 2 wl_43_ok rfl
theorem k_13_152 : Cond.methodLink (m_cn 13) 152 y_MD_status ∈ tw := tw_c 3 wl_43_ok rfl
theorem k_12_246 : Cond.methodLink (m_cn 12) 246 y_MD_look ∈ tw := tw_c 4 wl_43_ok rfl
theorem k_12_250 : Cond.methodLink (m_cn 12) 250 y_MD_isLetter ∈ tw := tw_c 5 wl_43_ok rfl
theorem k_12_257 : Cond.methodLink (m_cn 12) 257 y_MD_isHere ∈ tw := tw_c 6 wl_43_ok rfl
theorem k_12_261 : Cond.methodLink (m_cn 12) 261 y_MD_takes ∈ tw := tw_c 7 wl_43_ok rfl
theorem k_12_264 : Cond.methodLink (m_cn 12) 264 y_MD_fail ∈ tw := tw_c 8 wl_43_ok rfl
theorem k_12_268 : Cond.methodLink (m_cn 12) 268 y_MD_takesSign ∈ tw := tw_c 9 wl_43_ok rfl
theorem k_12_271 : Cond.methodLink (m_cn 12) 271 y_MD_isDigit ∈ tw := tw_c 10 wl_43_ok rfl
theorem k_12_277 : Cond.methodLink (m_cn 12) 277 y_MD_isIn ∈ tw := tw_c 11 wl_43_ok rfl
theorem k_12_281 : Cond.methodLink (m_cn 12) 281 y_MD_isOwnHere ∈ tw := tw_c 12 wl_43_ok rfl
theorem k_12_295 : Cond.methodLink (m_cn 12) 295 y_MD_asks ∈ tw := tw_c 13 wl_43_ok rfl
theorem k_12_299 : Cond.methodLink (m_cn 12) 299 y_MD_number ∈ tw := tw_c 14 wl_43_ok rfl
theorem k_12_303 : Cond.methodLink (m_cn 12) 303 y_MD_asksSign ∈ tw := tw_c 15 wl_43_ok rfl
theorem k_12_307 : Cond.methodLink (m_cn 12) 307 y_MD_name ∈ tw := tw_c 16 wl_43_ok rfl
theorem k_12_311 : Cond.methodLink (m_cn 12) 311 y_MD_nameOf ∈ tw := tw_c 17 wl_43_ok rfl
theorem k_12_327 : Cond.methodLink (m_cn 12) 327 y_MD_qTest ∈ tw := tw_c 18 wl_43_ok rfl
theorem k_12_330 : Cond.methodLink (m_cn 12) 330 y_MD_qSums ∈ tw := tw_c 19 wl_43_ok rfl
theorem k_12_339 : Cond.methodLink (m_cn 12) 339 y_MD_steepTold ∈ tw := tw_c 0 wl_44_ok rfl
theorem k_12_342 : Cond.methodLink (m_cn 12) 342 y_MD_ironTold ∈ tw := tw_c 1 wl_44_ok rfl
theorem k_12_345 : Cond.methodLink (m_cn 12) 345 y_MD_fenceTold ∈ tw := tw_c 2 wl_44_ok rfl
theorem k_12_348 : Cond.methodLink (m_cn 12) 348 y_MD_stakeTold ∈ tw := tw_c 3 wl_44_ok rfl
theorem k_12_351 : Cond.methodLink (m_cn 12) 351 y_MD_codesTold ∈ tw := tw_c 4 wl_44_ok rfl
theorem k_12_357 : Cond.methodLink (m_cn 12) 357 y_MD_slopeTold ∈ tw := tw_c 5 wl_44_ok rfl
theorem k_12_360 : Cond.methodLink (m_cn 12) 360 y_MD_statementTold ∈ tw := tw_c 6 wl_44_ok rfl
theorem k_12_366 : Cond.methodLink (m_cn 12) 366 y_MD_stands ∈ tw := tw_c 7 wl_44_ok rfl
theorem k_12_382 : Cond.methodLink (m_cn 12) 382 y_MD_fenceMany ∈ tw := tw_c 8 wl_44_ok rfl
theorem k_12_385 : Cond.methodLink (m_cn 12) 385 y_MD_isColumn ∈ tw := tw_c 9 wl_44_ok rfl
theorem k_12_388 : Cond.methodLink (m_cn 12) 388 y_MD_bits ∈ tw := tw_c 10 wl_44_ok rfl
theorem k_12_392 : Cond.methodLink (m_cn 12) 392 y_MD_rowOf ∈ tw := tw_c 11 wl_44_ok rfl
theorem k_12_395 : Cond.methodLink (m_cn 12) 395 y_MD_whoseIs ∈ tw := tw_c 12 wl_44_ok rfl
theorem k_12_401 : Cond.methodLink (m_cn 12) 401 y_MD_qPuts ∈ tw := tw_c 13 wl_44_ok rfl
theorem k_12_405 : Cond.methodLink (m_cn 12) 405 y_MD_qPartOf ∈ tw := tw_c 14 wl_44_ok rfl
theorem k_12_409 : Cond.methodLink (m_cn 12) 409 y_MD_qJoins ∈ tw := tw_c 15 wl_44_ok rfl
theorem k_12_418 : Cond.methodLink (m_cn 12) 418 y_MD_codesTell ∈ tw := tw_c 16 wl_44_ok rfl
theorem k_12_426 : Cond.methodLink (m_cn 12) 426 y_MD_rowIs ∈ tw := tw_c 17 wl_44_ok rfl
theorem k_12_433 : Cond.methodLink (m_cn 12) 433 y_MD_isKept ∈ tw := tw_c 18 wl_44_ok rfl
theorem k_12_436 : Cond.methodLink (m_cn 12) 436 y_MD_isPost ∈ tw := tw_c 19 wl_44_ok rfl
theorem k_12_440 : Cond.methodLink (m_cn 12) 440 y_MD_isGone ∈ tw := tw_c 0 wl_45_ok rfl
theorem k_12_443 : Cond.methodLink (m_cn 12) 443 y_MD_isCut ∈ tw := tw_c 1 wl_45_ok rfl
theorem k_12_446 : Cond.methodLink (m_cn 12) 446 y_MD_walkOf ∈ tw := tw_c 2 wl_45_ok rfl
theorem k_12_449 : Cond.methodLink (m_cn 12) 449 y_MD_stakeWalks ∈ tw := tw_c 3 wl_45_ok rfl
theorem k_12_452 : Cond.methodLink (m_cn 12) 452 y_MD_ageOf ∈ tw := tw_c 4 wl_45_ok rfl
theorem k_12_455 : Cond.methodLink (m_cn 12) 455 y_MD_doesRoot ∈ tw := tw_c 5 wl_45_ok rfl
theorem k_12_458 : Cond.methodLink (m_cn 12) 458 y_MD_isSet ∈ tw := tw_c 6 wl_45_ok rfl
theorem k_12_461 : Cond.methodLink (m_cn 12) 461 y_MD_yearGoes ∈ tw := tw_c 7 wl_45_ok rfl
theorem k_12_464 : Cond.methodLink (m_cn 12) 464 y_MD_triesAnew ∈ tw := tw_c 8 wl_45_ok rfl
theorem k_12_467 : Cond.methodLink (m_cn 12) 467 y_MD_leftOf ∈ tw := tw_c 9 wl_45_ok rfl
theorem k_12_470 : Cond.methodLink (m_cn 12) 470 y_MD_postMany ∈ tw := tw_c 10 wl_45_ok rfl
theorem k_12_473 : Cond.methodLink (m_cn 12) 473 y_MD_leftAll ∈ tw := tw_c 11 wl_45_ok rfl
theorem k_12_476 : Cond.methodLink (m_cn 12) 476 y_MD_cutSet ∈ tw := tw_c 12 wl_45_ok rfl
theorem k_12_479 : Cond.methodLink (m_cn 12) 479 y_MD_fieldOf ∈ tw := tw_c 13 wl_45_ok rfl
theorem k_12_482 : Cond.methodLink (m_cn 12) 482 y_MD_isFence ∈ tw := tw_c 14 wl_45_ok rfl
theorem k_12_487 : Cond.methodLink (m_cn 12) 487 y_MD_isPlace ∈ tw := tw_c 15 wl_45_ok rfl
theorem k_12_490 : Cond.methodLink (m_cn 12) 490 y_MD_stakesAt ∈ tw := tw_c 16 wl_45_ok rfl
theorem k_12_495 : Cond.methodLink (m_cn 12) 495 y_MD_isAhead ∈ tw := tw_c 17 wl_45_ok rfl
theorem k_12_499 : Cond.methodLink (m_cn 12) 499 y_MD_putsAside ∈ tw := tw_c 18 wl_45_ok rfl
theorem k_12_502 : Cond.methodLink (m_cn 12) 502 y_MD_yearsGo ∈ tw := tw_c 19 wl_45_ok rfl
theorem k_12_505 : Cond.methodLink (m_cn 12) 505 y_MD_takesBack ∈ tw := tw_c 0 wl_46_ok rfl
theorem k_12_508 : Cond.methodLink (m_cn 12) 508 y_MD_areTwo ∈ tw := tw_c 1 wl_46_ok rfl
theorem k_12_511 : Cond.methodLink (m_cn 12) 511 y_MD_doMeet ∈ tw := tw_c 2 wl_46_ok rfl
theorem k_12_514 : Cond.methodLink (m_cn 12) 514 y_MD_belows ∈ tw := tw_c 3 wl_46_ok rfl
theorem k_12_517 : Cond.methodLink (m_cn 12) 517 y_MD_leastField ∈ tw := tw_c 4 wl_46_ok rfl
theorem k_12_521 : Cond.methodLink (m_cn 12) 521 y_MD_laysFields ∈ tw := tw_c 5 wl_46_ok rfl
theorem k_12_524 : Cond.methodLink (m_cn 12) 524 y_MD_isRest ∈ tw := tw_c 6 wl_46_ok rfl
theorem k_12_527 : Cond.methodLink (m_cn 12) 527 y_MD_refuses ∈ tw := tw_c 7 wl_46_ok rfl
theorem k_12_533 : Cond.methodLink (m_cn 12) 533 y_MD_isAsSeen ∈ tw := tw_c 8 wl_46_ok rfl
theorem k_12_536 : Cond.methodLink (m_cn 12) 536 y_MD_laysFits ∈ tw := tw_c 9 wl_46_ok rfl
theorem k_12_539 : Cond.methodLink (m_cn 12) 539 y_MD_mostAlike ∈ tw := tw_c 10 wl_46_ok rfl
theorem k_12_545 : Cond.methodLink (m_cn 12) 545 y_MD_isRefused ∈ tw := tw_c 11 wl_46_ok rfl
theorem k_12_548 : Cond.methodLink (m_cn 12) 548 y_MD_keeps ∈ tw := tw_c 12 wl_46_ok rfl
theorem k_12_559 : Cond.methodLink (m_cn 12) 559 y_MD_drawOf ∈ tw := tw_c 13 wl_46_ok rfl
theorem k_12_562 : Cond.methodLink (m_cn 12) 562 y_MD_qCode ∈ tw := tw_c 14 wl_46_ok rfl
theorem k_12_565 : Cond.methodLink (m_cn 12) 565 y_MD_qIsBracket ∈ tw := tw_c 15 wl_46_ok rfl
theorem k_12_568 : Cond.methodLink (m_cn 12) 568 y_MD_qDrops ∈ tw := tw_c 16 wl_46_ok rfl
theorem k_12_571 : Cond.methodLink (m_cn 12) 571 y_MD_qWordHere ∈ tw := tw_c 17 wl_46_ok rfl
theorem k_12_574 : Cond.methodLink (m_cn 12) 574 y_MD_isAllowed ∈ tw := tw_c 18 wl_46_ok rfl
theorem k_12_577 : Cond.methodLink (m_cn 12) 577 y_MD_qWordOf ∈ tw := tw_c 19 wl_46_ok rfl
theorem k_12_580 : Cond.methodLink (m_cn 12) 580 y_MD_qOpens ∈ tw := tw_c 0 wl_47_ok rfl
theorem k_12_583 : Cond.methodLink (m_cn 12) 583 y_MD_qAsksWord ∈ tw := tw_c 1 wl_47_ok rfl
theorem k_12_586 : Cond.methodLink (m_cn 12) 586 y_MD_qEndsPart ∈ tw := tw_c 2 wl_47_ok rfl
theorem k_12_589 : Cond.methodLink (m_cn 12) 589 y_MD_qBracket ∈ tw := tw_c 3 wl_47_ok rfl
theorem k_12_592 : Cond.methodLink (m_cn 12) 592 y_MD_qDropsToBracket ∈ tw := tw_c 4 wl_47_ok rfl
theorem k_12_595 : Cond.methodLink (m_cn 12) 595 y_MD_qIsOn ∈ tw := tw_c 5 wl_47_ok rfl
theorem k_12_598 : Cond.methodLink (m_cn 12) 598 y_MD_qPartTold ∈ tw := tw_c 6 wl_47_ok rfl
theorem k_12_601 : Cond.methodLink (m_cn 12) 601 y_MD_qGoesOn ∈ tw := tw_c 7 wl_47_ok rfl
theorem k_12_604 : Cond.methodLink (m_cn 12) 604 y_MD_qFact ∈ tw := tw_c 8 wl_47_ok rfl
theorem k_12_607 : Cond.methodLink (m_cn 12) 607 y_MD_qDropsNots ∈ tw := tw_c 9 wl_47_ok rfl
theorem k_12_610 : Cond.methodLink (m_cn 12) 610 y_MD_qGoesOnTest ∈ tw := tw_c 10 wl_47_ok rfl
theorem k_12_613 : Cond.methodLink (m_cn 12) 613 y_MD_qHasSquare ∈ tw := tw_c 11 wl_47_ok rfl
theorem k_12_620 : Cond.methodLink (m_cn 12) 620 y_MD_qClip ∈ tw := tw_c 12 wl_47_ok rfl
theorem k_12_624 : Cond.methodLink (m_cn 12) 624 y_MD_qFloor ∈ tw := tw_c 13 wl_47_ok rfl
theorem k_12_630 : Cond.methodLink (m_cn 12) 630 y_MD_qOf ∈ tw := tw_c 14 wl_47_ok rfl
theorem k_12_642 : Cond.methodLink (m_cn 12) 642 y_MD_qKind ∈ tw := tw_c 15 wl_47_ok rfl
theorem k_12_645 : Cond.methodLink (m_cn 12) 645 y_MD_qTold ∈ tw := tw_c 16 wl_47_ok rfl
theorem k_12_649 : Cond.methodLink (m_cn 12) 649 y_MD_qTakes ∈ tw := tw_c 17 wl_47_ok rfl
theorem k_12_656 : Cond.methodLink (m_cn 12) 656 y_MD_writes ∈ tw := tw_c 18 wl_47_ok rfl
theorem k_12_659 : Cond.methodLink (m_cn 12) 659 y_MD_checked ∈ tw := tw_c 19 wl_47_ok rfl
theorem k_12_663 : Cond.methodLink (m_cn 12) 663 y_MD_arePostsTold ∈ tw := tw_c 0 wl_48_ok rfl
theorem k_12_666 : Cond.methodLink (m_cn 12) 666 y_MD_isFenceTold ∈ tw := tw_c 1 wl_48_ok rfl
theorem k_12_669 : Cond.methodLink (m_cn 12) 669 y_MD_isImage ∈ tw := tw_c 2 wl_48_ok rfl
theorem kc_11_9 : Cond.classLink (m_cn 11) 9 (m_cn 9) ∈ tw := tw_c 0 wl_1_ok rfl
theorem kc_11_16 : Cond.classLink (m_cn 11) 16 (m_cn 8) ∈ tw := tw_c 1 wl_1_ok rfl
theorem kc_11_26 : Cond.classLink (m_cn 11) 26 (m_cn 5) ∈ tw := tw_c 2 wl_1_ok rfl
theorem kc_11_35 : Cond.classLink (m_cn 11) 35 (m_cn 3) ∈ tw := tw_c 3 wl_1_ok rfl
theorem kc_11_42 : Cond.classLink (m_cn 11) 42 (m_cn 10) ∈ tw := tw_c 4 wl_1_ok rfl
theorem kc_11_51 : Cond.classLink (m_cn 11) 51 (m_cn 0) ∈ tw := tw_c 5 wl_1_ok rfl
theorem kc_11_60 : Cond.classLink (m_cn 11) 60 (m_cn 4) ∈ tw := tw_c 6 wl_1_ok rfl
theorem kc_11_67 : Cond.classLink (m_cn 11) 67 (m_cn 1) ∈ tw := tw_c 7 wl_1_ok rfl
theorem kc_11_74 : Cond.classLink (m_cn 11) 74 (m_cn 7) ∈ tw := tw_c 8 wl_1_ok rfl
theorem kc_11_81 : Cond.classLink (m_cn 11) 81 (m_cn 2) ∈ tw := tw_c 9 wl_1_ok rfl
theorem kc_0_9 : Cond.classLink (m_cn 0) 9 (m_cn 3) ∈ tw := tw_c 10 wl_1_ok rfl
theorem kc_1_9 : Cond.classLink (m_cn 1) 9 (m_cn 3) ∈ tw := tw_c 11 wl_1_ok rfl
theorem kc_1_17 : Cond.classLink (m_cn 1) 17 (m_cn 4) ∈ tw := tw_c 12 wl_1_ok rfl
theorem kc_8_18 : Cond.classLink (m_cn 8) 18 (m_cn 3) ∈ tw := tw_c 13 wl_1_ok rfl
theorem kc_10_9 : Cond.classLink (m_cn 10) 9 (m_cn 6) ∈ tw := tw_c 14 wl_1_ok rfl
theorem kc_13_7 : Cond.classLink (m_cn 13) 7 (m_cn 11) ∈ tw := tw_c 15 wl_1_ok rfl
theorem kc_13_10 : Cond.classLink (m_cn 13) 10 (m_cn 12) ∈ tw := tw_c 16 wl_1_ok rfl
theorem m_inst0 : Cond.instantiable (m_cn 0) (m_nf 0) ∈ tw ∧ Cond.initialized (m_cn 0) ∈ tw := ⟨tw_c 17 wl_1_ok rfl, tw_c 0 wl_0_ok rfl⟩
theorem m_inst1 : Cond.instantiable (m_cn 1) (m_nf 1) ∈ tw ∧ Cond.initialized (m_cn 1) ∈ tw := ⟨tw_c 18 wl_1_ok rfl, tw_c 1 wl_0_ok rfl⟩
theorem m_inst2 : Cond.instantiable (m_cn 2) (m_nf 2) ∈ tw ∧ Cond.initialized (m_cn 2) ∈ tw := ⟨tw_c 19 wl_1_ok rfl, tw_c 2 wl_0_ok rfl⟩
theorem m_inst3 : Cond.instantiable (m_cn 3) (m_nf 3) ∈ tw ∧ Cond.initialized (m_cn 3) ∈ tw := ⟨tw_c 0 wl_2_ok rfl, tw_c 3 wl_0_ok rfl⟩
theorem m_inst4 : Cond.instantiable (m_cn 4) (m_nf 4) ∈ tw ∧ Cond.initialized (m_cn 4) ∈ tw := ⟨tw_c 1 wl_2_ok rfl, tw_c 4 wl_0_ok rfl⟩
theorem m_inst5 : Cond.instantiable (m_cn 5) (m_nf 5) ∈ tw ∧ Cond.initialized (m_cn 5) ∈ tw := ⟨tw_c 2 wl_2_ok rfl, tw_c 5 wl_0_ok rfl⟩
theorem m_inst6 : Cond.instantiable (m_cn 6) (m_nf 6) ∈ tw ∧ Cond.initialized (m_cn 6) ∈ tw := ⟨tw_c 3 wl_2_ok rfl, tw_c 6 wl_0_ok rfl⟩
theorem m_inst7 : Cond.instantiable (m_cn 7) (m_nf 7) ∈ tw ∧ Cond.initialized (m_cn 7) ∈ tw := ⟨tw_c 4 wl_2_ok rfl, tw_c 7 wl_0_ok rfl⟩
theorem m_inst8 : Cond.instantiable (m_cn 8) (m_nf 8) ∈ tw ∧ Cond.initialized (m_cn 8) ∈ tw := ⟨tw_c 5 wl_2_ok rfl, tw_c 8 wl_0_ok rfl⟩
theorem m_inst9 : Cond.instantiable (m_cn 9) (m_nf 9) ∈ tw ∧ Cond.initialized (m_cn 9) ∈ tw := ⟨tw_c 6 wl_2_ok rfl, tw_c 9 wl_0_ok rfl⟩
theorem m_inst10 : Cond.instantiable (m_cn 10) (m_nf 10) ∈ tw ∧ Cond.initialized (m_cn 10) ∈ tw := ⟨tw_c 7 wl_2_ok rfl, tw_c 10 wl_0_ok rfl⟩
theorem m_inst11 : Cond.instantiable (m_cn 11) (m_nf 11) ∈ tw ∧ Cond.initialized (m_cn 11) ∈ tw := ⟨tw_c 8 wl_2_ok rfl, tw_c 11 wl_0_ok rfl⟩
theorem m_inst12 : Cond.instantiable (m_cn 12) (m_nf 12) ∈ tw ∧ Cond.initialized (m_cn 12) ∈ tw := ⟨tw_c 9 wl_2_ok rfl, tw_c 12 wl_0_ok rfl⟩
theorem m_arr_int : Cond.arrayClass .int ∈ tw := tw_c 10 wl_2_ok rfl
theorem m_arr_long : Cond.arrayClass .long ∈ tw := tw_c 11 wl_2_ok rfl
theorem m_arr_byte : Cond.arrayClass .byte ∈ tw := tw_c 12 wl_2_ok rfl
theorem m_arr_char : Cond.arrayClass .char ∈ tw := tw_c 13 wl_2_ok rfl
theorem m_arr_boolean : Cond.arrayClass .boolean ∈ tw := tw_c 14 wl_2_ok rfl
