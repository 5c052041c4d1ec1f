/-! the words of the tables that the pools, classes and methods need, by their places (printed by wip/whole/gen.py) -/
def jx_nm : List jx_Y := [(⟨"OppositeThreads$Army", "<init>", "()V"⟩, prog_2_method_1_code, none), (⟨"OppositeThreads$Army", "begin", "(I)V"⟩, prog_2_method_2_code, none), (⟨"OppositeThreads$Army", "takeFrom", "(LOppositeThreads$Army;)V"⟩, prog_2_method_3_code, none), (⟨"OppositeThreads$Army", "has", "(I)Z"⟩, prog_2_method_4_code, some Jvm.ClassFile.FieldType.boolean), (⟨"OppositeThreads$Army", "sideOf", "(I)I"⟩, prog_2_method_5_code, some Jvm.ClassFile.FieldType.int), (⟨"OppositeThreads$Army", "firstOf", "(I)I"⟩, prog_2_method_6_code, some Jvm.ClassFile.FieldType.int), (⟨"OppositeThreads$Army", "isHome", "(I)Z"⟩, prog_2_method_7_code, some Jvm.ClassFile.FieldType.boolean), (⟨"OppositeThreads$Army", "isOpen", "(II)Z"⟩, prog_2_method_8_code, some Jvm.ClassFile.FieldType.boolean), (⟨"OppositeThreads$Army", "aimOf", "(I)I"⟩, prog_2_method_9_code, some Jvm.ClassFile.FieldType.int), (⟨"OppositeThreads$Army", "leastOpen", "(I)I"⟩, prog_2_method_10_code, some Jvm.ClassFile.FieldType.int), (⟨"OppositeThreads$Army", "greatestOpen", "(I)I"⟩, prog_2_method_11_code, some Jvm.ClassFile.FieldType.int), (⟨"OppositeThreads$Army", "fullestOpen", "(I)I"⟩, prog_2_method_12_code, some Jvm.ClassFile.FieldType.int), (⟨"OppositeThreads$Army", "pass", "(I)V"⟩, prog_2_method_13_code, none), (⟨"OppositeThreads$Army", "passDay", "()V"⟩, prog_2_method_14_code, none), (⟨"OppositeThreads$Army", "bringHamper", "()V"⟩, prog_2_method_15_code, none), (⟨"OppositeThreads$Army", "knowersOf", "(I)I"⟩, prog_2_method_16_code, some Jvm.ClassFile.FieldType.int), (⟨"OppositeThreads$Army", "aimersAt", "(I)I"⟩, prog_2_method_17_code, some Jvm.ClassFile.FieldType.int), (⟨"OppositeThreads$Army", "aimers", "()I"⟩, prog_2_method_18_code, some Jvm.ClassFile.FieldType.int), (⟨"OppositeThreads$Army", "inField", "()I"⟩, prog_2_method_19_code, some Jvm.ClassFile.FieldType.int), (⟨"OppositeThreads$Army", "leftOf", "(I)I"⟩, prog_2_method_20_code, some Jvm.ClassFile.FieldType.int), (⟨"OppositeThreads$Army", "leftOfBoth", "()I"⟩, prog_2_method_21_code, some Jvm.ClassFile.FieldType.int), (⟨"OppositeThreads$Army", "buttonsOf", "(I)I"⟩, prog_2_method_22_code, some Jvm.ClassFile.FieldType.int), (⟨"OppositeThreads$Army", "placeInPlan", "(II)I"⟩, prog_2_method_23_code, some Jvm.ClassFile.FieldType.int), (⟨"OppositeThreads$Army", "takePlan", "(II)Z"⟩, prog_2_method_24_code, some Jvm.ClassFile.FieldType.boolean), (⟨"OppositeThreads$Army", "waysToStay", "(III)I"⟩, prog_2_method_25_code, some Jvm.ClassFile.FieldType.int), (⟨"OppositeThreads$Army", "hitsOf", "(I)I"⟩, prog_2_method_26_code, some Jvm.ClassFile.FieldType.int), (⟨"OppositeThreads$Army", "powerOf", "(II)I"⟩, prog_2_method_27_code, some Jvm.ClassFile.FieldType.int), (⟨"OppositeThreads$Kinds", "hitOf", "(I)I"⟩, prog_3_method_2_code, some Jvm.ClassFile.FieldType.int), (⟨"OppositeThreads$Kinds", "aimOn", "(IZ)I"⟩, prog_3_method_3_code, some Jvm.ClassFile.FieldType.int), (⟨"OppositeThreads$Kinds", "isOne", "(II)Z"⟩, prog_3_method_4_code, some Jvm.ClassFile.FieldType.boolean), (⟨"OppositeThreads$Past", "<init>", "()V"⟩, prog_4_method_1_code, none), (⟨"OppositeThreads$Past", "clear", "()V"⟩, prog_4_method_2_code, none), (⟨"OppositeThreads$Past", "remember", "(LOppositeThreads$Army;)V"⟩, prog_4_method_3_code, none), (⟨"OppositeThreads$Past", "restore", "(LOppositeThreads$Army;)Z"⟩, prog_4_method_4_code, some Jvm.ClassFile.FieldType.boolean), (⟨"OppositeThreads$Sheet", "<init>", "()V"⟩, prog_5_method_1_code, none), (⟨"OppositeThreads$Sheet", "isMissing", "()Z"⟩, prog_5_method_2_code, some Jvm.ClassFile.FieldType.boolean), (⟨"OppositeThreads$Sheet", "begin", "(II)V"⟩, prog_5_method_3_code, none), (⟨"OppositeThreads$Sheet", "lose", "()V"⟩, prog_5_method_4_code, none), (⟨"OppositeThreads$Sheet", "holds", "(II)Z"⟩, prog_5_method_5_code, some Jvm.ClassFile.FieldType.boolean), (⟨"OppositeThreads$Sheet", "total", "()J"⟩, prog_5_method_6_code, some Jvm.ClassFile.FieldType.long), (⟨"OppositeThreads$Sightings", "<init>", "()V"⟩, prog_6_method_1_code, none), (⟨"OppositeThreads$Sightings", "add", "(III)Z"⟩, prog_6_method_2_code, some Jvm.ClassFile.FieldType.boolean), (⟨"OppositeThreads$Sightings", "sightOf", "(II)I"⟩, prog_6_method_3_code, some Jvm.ClassFile.FieldType.int), (⟨"OppositeThreads$Sightings", "sightOfKind", "(II)I"⟩, prog_6_method_4_code, some Jvm.ClassFile.FieldType.int), (⟨"OppositeThreads$Sightings", "fits", "(I)Z"⟩, prog_6_method_5_code, some Jvm.ClassFile.FieldType.boolean), (⟨"OppositeThreads$Sightings", "possibleKinds", "()I"⟩, prog_6_method_6_code, some Jvm.ClassFile.FieldType.int), (⟨"OppositeThreads$Sightings", "bestDay", "()I"⟩, prog_6_method_7_code, some Jvm.ClassFile.FieldType.int), (⟨"OppositeThreads$Sightings", "greatestPart", "(II)I"⟩, prog_6_method_8_code, some Jvm.ClassFile.FieldType.int), (⟨"OppositeThreads$Sightings", "alikeTo", "(III)I"⟩, prog_6_method_9_code, some Jvm.ClassFile.FieldType.int), (⟨"OppositeThreads$Text", "<init>", "()V"⟩, prog_7_method_1_code, none), (⟨"OppositeThreads$Text", "add", "(C)Z"⟩, prog_7_method_2_code, some Jvm.ClassFile.FieldType.boolean), (⟨"OppositeThreads$Text", "readOnto", "(LOppositeThreads$Army;)I"⟩, prog_7_method_3_code, some Jvm.ClassFile.FieldType.int), (⟨"OppositeThreads$Text", "readClause", "()Z"⟩, prog_7_method_4_code, some Jvm.ClassFile.FieldType.boolean), (⟨"OppositeThreads$Text", "readArmy", "()Z"⟩, prog_7_method_5_code, some Jvm.ClassFile.FieldType.boolean), (⟨"OppositeThreads$Text", "readButtons", "(I)Z"⟩, prog_7_method_6_code, some Jvm.ClassFile.FieldType.boolean), (⟨"OppositeThreads$Text", "readMender", "(I)Z"⟩, prog_7_method_7_code, some Jvm.ClassFile.FieldType.boolean), (⟨"OppositeThreads$Text", "readWord", "()I"⟩, prog_7_method_8_code, some Jvm.ClassFile.FieldType.int), (⟨"OppositeThreads$Text", "wordOf", "(I)Ljava/lang/String;"⟩, prog_7_method_9_code, some (.object "java/lang/String")), (⟨"OppositeThreads$Text", "isToken", "(Ljava/lang/String;)Z"⟩, prog_7_method_10_code, some Jvm.ClassFile.FieldType.boolean), (⟨"OppositeThreads$Text", "readNumber", "(II)I"⟩, prog_7_method_11_code, some Jvm.ClassFile.FieldType.int), (⟨"OppositeThreads$Text", "nextToken", "()V"⟩, prog_7_method_12_code, none), (⟨"OppositeThreads$Text", "sortOf", "(C)I"⟩, prog_7_method_13_code, some Jvm.ClassFile.FieldType.int), (⟨"OppositeThreads", "<init>", "()V"⟩, prog_1_method_1_code, none), (⟨"OppositeThreads", "write", "(I)I"⟩, prog_1_method_2_code, some Jvm.ClassFile.FieldType.int), (⟨"OppositeThreads", "erase", "()I"⟩, prog_1_method_3_code, some Jvm.ClassFile.FieldType.int), (⟨"OppositeThreads", "fault", "()I"⟩, prog_1_method_4_code, some Jvm.ClassFile.FieldType.int), (⟨"OppositeThreads", "army", "()I"⟩, prog_1_method_5_code, some Jvm.ClassFile.FieldType.int), (⟨"OppositeThreads", "man", "(II)I"⟩, prog_1_method_6_code, some Jvm.ClassFile.FieldType.int), (⟨"OppositeThreads", "as", "(II)I"⟩, prog_1_method_7_code, some Jvm.ClassFile.FieldType.int), (⟨"OppositeThreads", "day", "(I)I"⟩, prog_1_method_8_code, some Jvm.ClassFile.FieldType.int), (⟨"OppositeThreads", "mend", "(II)I"⟩, prog_1_method_9_code, some Jvm.ClassFile.FieldType.int), (⟨"OppositeThreads", "swap", "(II)I"⟩, prog_1_method_10_code, some Jvm.ClassFile.FieldType.int), (⟨"OppositeThreads", "undo", "()I"⟩, prog_1_method_11_code, some Jvm.ClassFile.FieldType.int), (⟨"OppositeThreads", "keep", "(I)I"⟩, prog_1_method_12_code, some Jvm.ClassFile.FieldType.int), (⟨"OppositeThreads", "back", "(I)I"⟩, prog_1_method_13_code, some Jvm.ClassFile.FieldType.int), (⟨"OppositeThreads", "behind", "(II)I"⟩, prog_1_method_14_code, some Jvm.ClassFile.FieldType.int), (⟨"OppositeThreads", "home", "(I)I"⟩, prog_1_method_15_code, some Jvm.ClassFile.FieldType.int), (⟨"OppositeThreads", "quiet", "()I"⟩, prog_1_method_16_code, some Jvm.ClassFile.FieldType.int), (⟨"OppositeThreads", "left", "(II)I"⟩, prog_1_method_17_code, some Jvm.ClassFile.FieldType.int), (⟨"OppositeThreads", "coat", "(I)I"⟩, prog_1_method_18_code, some Jvm.ClassFile.FieldType.int), (⟨"OppositeThreads", "pairs", "(III)I"⟩, prog_1_method_19_code, some Jvm.ClassFile.FieldType.int), (⟨"OppositeThreads", "keeps", "(III)I"⟩, prog_1_method_20_code, some Jvm.ClassFile.FieldType.int), (⟨"OppositeThreads", "seen", "(III)I"⟩, prog_1_method_21_code, some Jvm.ClassFile.FieldType.int), (⟨"OppositeThreads", "forget", "()I"⟩, prog_1_method_22_code, some Jvm.ClassFile.FieldType.int), (⟨"OppositeThreads", "kinds", "()I"⟩, prog_1_method_23_code, some Jvm.ClassFile.FieldType.int), (⟨"OppositeThreads", "ask", "()I"⟩, prog_1_method_24_code, some Jvm.ClassFile.FieldType.int), (⟨"OppositeThreads", "sheet", "(III)I"⟩, prog_1_method_25_code, some Jvm.ClassFile.FieldType.int), (⟨"OppositeThreads", "set", "(IIII)I"⟩, prog_1_method_26_code, some Jvm.ClassFile.FieldType.int), (⟨"OppositeThreads", "get", "(III)I"⟩, prog_1_method_27_code, some Jvm.ClassFile.FieldType.int), (⟨"OppositeThreads", "copy", "(IIIII)I"⟩, prog_1_method_28_code, some Jvm.ClassFile.FieldType.int), (⟨"OppositeThreads", "join", "(II)I"⟩, prog_1_method_29_code, some Jvm.ClassFile.FieldType.int), (⟨"OppositeThreads", "sum", "(I)I"⟩, prog_1_method_30_code, some Jvm.ClassFile.FieldType.int), (⟨"OppositeThreads", "drop", "(I)I"⟩, prog_1_method_31_code, some Jvm.ClassFile.FieldType.int), (⟨"OppositeThreads", "count", "(I)I"⟩, prog_1_method_32_code, some Jvm.ClassFile.FieldType.int), (⟨"OppositeThreads", "areTwoMen", "(II)Z"⟩, prog_1_method_33_code, some Jvm.ClassFile.FieldType.boolean), (⟨"OppositeThreads", "isSide", "(I)Z"⟩, prog_1_method_34_code, some Jvm.ClassFile.FieldType.boolean), (⟨"OppositeThreads", "isPlanned", "(I)Z"⟩, prog_1_method_35_code, some Jvm.ClassFile.FieldType.boolean), (⟨"OppositeThreads", "isSheet", "(I)Z"⟩, prog_1_method_36_code, some Jvm.ClassFile.FieldType.boolean), (⟨"OppositeThreads", "isSort", "(I)Z"⟩, prog_1_method_37_code, some Jvm.ClassFile.FieldType.boolean), (⟨"OppositeThreads", "commonDivisor", "(II)I"⟩, prog_1_method_38_code, some Jvm.ClassFile.FieldType.int), (⟨"OppositeThreads", "valueAt", "(LOppositeThreads$Sheet;II)I"⟩, prog_1_method_39_code, some Jvm.ClassFile.FieldType.int), (⟨"OppositeThreads", "placesOfSheets", "()I"⟩, prog_1_method_40_code, some Jvm.ClassFile.FieldType.int), (⟨"OppositeThreadsModel", "<init>", "()V"⟩, prog_9_method_1_code, none), (⟨"OppositeThreadsModel", "in", "(JJJ)Z"⟩, prog_9_method_2_code, some Jvm.ClassFile.FieldType.boolean), (⟨"OppositeThreadsModel", "has", "(II)Z"⟩, prog_9_method_3_code, some Jvm.ClassFile.FieldType.boolean), (⟨"OppositeThreadsModel", "bits", "(I)I"⟩, prog_9_method_4_code, some Jvm.ClassFile.FieldType.int), (⟨"OppositeThreadsModel", "layArmy", "(I)V"⟩, prog_9_method_5_code, none), (⟨"OppositeThreadsModel", "write", "(I)I"⟩, prog_9_method_6_code, some Jvm.ClassFile.FieldType.int), (⟨"OppositeThreadsModel", "erase", "()I"⟩, prog_9_method_7_code, some Jvm.ClassFile.FieldType.int), (⟨"OppositeThreadsModel", "isLetter", "(I)Z"⟩, prog_9_method_8_code, some Jvm.ClassFile.FieldType.boolean), (⟨"OppositeThreadsModel", "isDigit", "(I)Z"⟩, prog_9_method_9_code, some Jvm.ClassFile.FieldType.boolean), (⟨"OppositeThreadsModel", "nextToken", "()V"⟩, prog_9_method_10_code, none), (⟨"OppositeThreadsModel", "isWord", "([I)Z"⟩, prog_9_method_11_code, some Jvm.ClassFile.FieldType.boolean), (⟨"OppositeThreadsModel", "number", "(III)Z"⟩, prog_9_method_12_code, some Jvm.ClassFile.FieldType.boolean), (⟨"OppositeThreadsModel", "kindHere", "()I"⟩, prog_9_method_13_code, some Jvm.ClassFile.FieldType.int), (⟨"OppositeThreadsModel", "readsKind", "(I)Z"⟩, prog_9_method_14_code, some Jvm.ClassFile.FieldType.boolean), (⟨"OppositeThreadsModel", "readsArmy", "()Z"⟩, prog_9_method_15_code, some Jvm.ClassFile.FieldType.boolean), (⟨"OppositeThreadsModel", "readsButtons", "()Z"⟩, prog_9_method_16_code, some Jvm.ClassFile.FieldType.boolean), (⟨"OppositeThreadsModel", "readsMender", "()Z"⟩, prog_9_method_17_code, some Jvm.ClassFile.FieldType.boolean), (⟨"OppositeThreadsModel", "readsClause", "()Z"⟩, prog_9_method_18_code, some Jvm.ClassFile.FieldType.boolean), (⟨"OppositeThreadsModel", "reads", "(Z)Z"⟩, prog_9_method_19_code, some Jvm.ClassFile.FieldType.boolean), (⟨"OppositeThreadsModel", "fault", "()I"⟩, prog_9_method_20_code, some Jvm.ClassFile.FieldType.int), (⟨"OppositeThreadsModel", "copyRow", "(III)V"⟩, prog_9_method_21_code, none), (⟨"OppositeThreadsModel", "army", "()I"⟩, prog_9_method_22_code, some Jvm.ClassFile.FieldType.int), (⟨"OppositeThreadsModel", "men", "()I"⟩, prog_9_method_23_code, some Jvm.ClassFile.FieldType.int), (⟨"OppositeThreadsModel", "isMan", "(I)Z"⟩, prog_9_method_24_code, some Jvm.ClassFile.FieldType.boolean), (⟨"OppositeThreadsModel", "sideOf", "(I)I"⟩, prog_9_method_25_code, some Jvm.ClassFile.FieldType.int), (⟨"OppositeThreadsModel", "isOut", "(II)Z"⟩, prog_9_method_26_code, some Jvm.ClassFile.FieldType.boolean), (⟨"OppositeThreadsModel", "isOpen", "(III)Z"⟩, prog_9_method_27_code, some Jvm.ClassFile.FieldType.boolean), (⟨"OppositeThreadsModel", "hitsBy", "(I)I"⟩, prog_9_method_28_code, some Jvm.ClassFile.FieldType.int), (⟨"OppositeThreadsModel", "aimsAt", "(II)I"⟩, prog_9_method_29_code, some Jvm.ClassFile.FieldType.int), (⟨"OppositeThreadsModel", "hamper", "(I)V"⟩, prog_9_method_30_code, none), (⟨"OppositeThreadsModel", "days", "(II)V"⟩, prog_9_method_31_code, none), (⟨"OppositeThreadsModel", "knownBy", "(I)I"⟩, prog_9_method_32_code, some Jvm.ClassFile.FieldType.int), (⟨"OppositeThreadsModel", "man", "(II)I"⟩, prog_9_method_33_code, some Jvm.ClassFile.FieldType.int), (⟨"OppositeThreadsModel", "as", "(II)I"⟩, prog_9_method_34_code, some Jvm.ClassFile.FieldType.int), (⟨"OppositeThreadsModel", "keepPast", "()V"⟩, prog_9_method_35_code, none), (⟨"OppositeThreadsModel", "day", "(I)I"⟩, prog_9_method_36_code, some Jvm.ClassFile.FieldType.int), (⟨"OppositeThreadsModel", "mend", "(II)I"⟩, prog_9_method_37_code, some Jvm.ClassFile.FieldType.int), (⟨"OppositeThreadsModel", "swap", "(II)I"⟩, prog_9_method_38_code, some Jvm.ClassFile.FieldType.int), (⟨"OppositeThreadsModel", "undo", "()I"⟩, prog_9_method_39_code, some Jvm.ClassFile.FieldType.int), (⟨"OppositeThreadsModel", "keep", "(I)I"⟩, prog_9_method_40_code, some Jvm.ClassFile.FieldType.int), (⟨"OppositeThreadsModel", "back", "(I)I"⟩, prog_9_method_41_code, some Jvm.ClassFile.FieldType.int), (⟨"OppositeThreadsModel", "layTried", "()V"⟩, prog_9_method_42_code, none), (⟨"OppositeThreadsModel", "behind", "(II)I"⟩, prog_9_method_43_code, some Jvm.ClassFile.FieldType.int), (⟨"OppositeThreadsModel", "home", "(I)I"⟩, prog_9_method_44_code, some Jvm.ClassFile.FieldType.int), (⟨"OppositeThreadsModel", "aiming", "(I)I"⟩, prog_9_method_45_code, some Jvm.ClassFile.FieldType.int), (⟨"OppositeThreadsModel", "quiet", "()I"⟩, prog_9_method_46_code, some Jvm.ClassFile.FieldType.int), (⟨"OppositeThreadsModel", "outOnes", "(I)I"⟩, prog_9_method_47_code, some Jvm.ClassFile.FieldType.int), (⟨"OppositeThreadsModel", "left", "(II)I"⟩, prog_9_method_48_code, some Jvm.ClassFile.FieldType.int), (⟨"OppositeThreadsModel", "leftBehind", "(I)I"⟩, prog_9_method_49_code, some Jvm.ClassFile.FieldType.int), (⟨"OppositeThreadsModel", "coat", "(I)I"⟩, prog_9_method_50_code, some Jvm.ClassFile.FieldType.int), (⟨"OppositeThreadsModel", "swapOrder", "(II)V"⟩, prog_9_method_51_code, none), (⟨"OppositeThreadsModel", "nextOrder", "()Z"⟩, prog_9_method_52_code, some Jvm.ClassFile.FieldType.boolean), (⟨"OppositeThreadsModel", "pairs", "(III)I"⟩, prog_9_method_53_code, some Jvm.ClassFile.FieldType.int), (⟨"OppositeThreadsModel", "keeps", "(III)I"⟩, prog_9_method_54_code, some Jvm.ClassFile.FieldType.int), (⟨"OppositeThreadsModel", "seen", "(III)I"⟩, prog_9_method_55_code, some Jvm.ClassFile.FieldType.int), (⟨"OppositeThreadsModel", "forget", "()I"⟩, prog_9_method_56_code, some Jvm.ClassFile.FieldType.int), (⟨"OppositeThreadsModel", "aimsBy", "(II)I"⟩, prog_9_method_57_code, some Jvm.ClassFile.FieldType.int), (⟨"OppositeThreadsModel", "kinds", "()I"⟩, prog_9_method_58_code, some Jvm.ClassFile.FieldType.int), (⟨"OppositeThreadsModel", "ask", "()I"⟩, prog_9_method_59_code, some Jvm.ClassFile.FieldType.int), (⟨"OppositeThreadsModel", "isSheet", "(I)Z"⟩, prog_9_method_60_code, some Jvm.ClassFile.FieldType.boolean), (⟨"OppositeThreadsModel", "sheet", "(III)I"⟩, prog_9_method_61_code, some Jvm.ClassFile.FieldType.int), (⟨"OppositeThreadsModel", "noPlace", "(III)I"⟩, prog_9_method_62_code, some Jvm.ClassFile.FieldType.int), (⟨"OppositeThreadsModel", "set", "(IIII)I"⟩, prog_9_method_63_code, some Jvm.ClassFile.FieldType.int), (⟨"OppositeThreadsModel", "get", "(III)I"⟩, prog_9_method_64_code, some Jvm.ClassFile.FieldType.int), (⟨"OppositeThreadsModel", "isSpan", "(III)Z"⟩, prog_9_method_65_code, some Jvm.ClassFile.FieldType.boolean), (⟨"OppositeThreadsModel", "copy", "(IIIII)I"⟩, prog_9_method_66_code, some Jvm.ClassFile.FieldType.int), (⟨"OppositeThreadsModel", "join", "(II)I"⟩, prog_9_method_67_code, some Jvm.ClassFile.FieldType.int), (⟨"OppositeThreadsModel", "sum", "(I)I"⟩, prog_9_method_68_code, some Jvm.ClassFile.FieldType.int), (⟨"OppositeThreadsModel", "drop", "(I)I"⟩, prog_9_method_69_code, some Jvm.ClassFile.FieldType.int), (⟨"OppositeThreadsModel", "buttonsOf", "(I)I"⟩, prog_9_method_70_code, some Jvm.ClassFile.FieldType.int), (⟨"OppositeThreadsModel", "allPlaces", "()I"⟩, prog_9_method_71_code, some Jvm.ClassFile.FieldType.int), (⟨"OppositeThreadsModel", "count", "(I)I"⟩, prog_9_method_72_code, some Jvm.ClassFile.FieldType.int), (⟨"java/lang/Integer", "bitCount", "(I)I"⟩, prog_10_method_49_code, some Jvm.ClassFile.FieldType.int), (⟨"java/lang/String", "length", "()I"⟩, prog_12_method_54_code, some Jvm.ClassFile.FieldType.int), (⟨"java/lang/String", "charAt", "(I)C"⟩, prog_12_method_56_code, some Jvm.ClassFile.FieldType.char), (⟨"java/lang/String", "coder", "()B"⟩, prog_12_method_152_code, some Jvm.ClassFile.FieldType.byte), (⟨"java/lang/String", "isLatin1", "()Z"⟩, prog_12_method_154_code, some Jvm.ClassFile.FieldType.boolean), (⟨"java/lang/String", "checkIndex", "(II)V"⟩, prog_12_method_155_code, none), (⟨"java/lang/StringLatin1", "charAt", "([BI)C"⟩, prog_13_method_2_code, some Jvm.ClassFile.FieldType.char), (⟨"jdk/internal/util/Preconditions", "checkIndex", "(IILjava/util/function/BiFunction;)I"⟩, prog_16_method_11_code, some Jvm.ClassFile.FieldType.int)]
theorem jq_Army_init : jx_okS 0 ⟨"OppositeThreads$Army", "<init>", "()V"⟩ 1 := ⟨0, _, rfl, by decide +kernel, rfl⟩
theorem jq_Army_begin : jx_okS 1 ⟨"OppositeThreads$Army", "begin", "(I)V"⟩ 1 := ⟨1, _, rfl, by decide +kernel, rfl⟩
theorem jq_Army_takeFrom : jx_okS 2 ⟨"OppositeThreads$Army", "takeFrom", "(LOppositeThreads$Army;)V"⟩ 1 := ⟨1, _, rfl, by decide +kernel, rfl⟩
theorem jq_Army_has : jx_okS 3 ⟨"OppositeThreads$Army", "has", "(I)Z"⟩ 1 := ⟨1, _, rfl, by decide +kernel, rfl⟩
theorem jq_Army_sideOf : jx_okS 4 ⟨"OppositeThreads$Army", "sideOf", "(I)I"⟩ 1 := ⟨1, _, rfl, by decide +kernel, rfl⟩
theorem jq_Army_firstOf : jx_okS 5 ⟨"OppositeThreads$Army", "firstOf", "(I)I"⟩ 1 := ⟨1, _, rfl, by decide +kernel, rfl⟩
theorem jq_Army_isHome : jx_okS 6 ⟨"OppositeThreads$Army", "isHome", "(I)Z"⟩ 1 := ⟨1, _, rfl, by decide +kernel, rfl⟩
theorem jq_Army_isOpen : jx_okS 7 ⟨"OppositeThreads$Army", "isOpen", "(II)Z"⟩ 1 := ⟨2, _, rfl, by decide +kernel, rfl⟩
theorem jq_Army_aimOf : jx_okS 8 ⟨"OppositeThreads$Army", "aimOf", "(I)I"⟩ 1 := ⟨1, _, rfl, by decide +kernel, rfl⟩
theorem jq_Army_leastOpen : jx_okS 9 ⟨"OppositeThreads$Army", "leastOpen", "(I)I"⟩ 1 := ⟨1, _, rfl, by decide +kernel, rfl⟩
theorem jq_Army_greatestOpen : jx_okS 10 ⟨"OppositeThreads$Army", "greatestOpen", "(I)I"⟩ 1 := ⟨1, _, rfl, by decide +kernel, rfl⟩
theorem jq_Army_fullestOpen : jx_okS 11 ⟨"OppositeThreads$Army", "fullestOpen", "(I)I"⟩ 1 := ⟨1, _, rfl, by decide +kernel, rfl⟩
theorem jq_Army_pass : jx_okS 12 ⟨"OppositeThreads$Army", "pass", "(I)V"⟩ 1 := ⟨1, _, rfl, by decide +kernel, rfl⟩
theorem jq_Army_passDay : jx_okS 13 ⟨"OppositeThreads$Army", "passDay", "()V"⟩ 1 := ⟨0, _, rfl, by decide +kernel, rfl⟩
theorem jq_Army_bringHamper : jx_okS 14 ⟨"OppositeThreads$Army", "bringHamper", "()V"⟩ 1 := ⟨0, _, rfl, by decide +kernel, rfl⟩
theorem jq_Army_knowersOf : jx_okS 15 ⟨"OppositeThreads$Army", "knowersOf", "(I)I"⟩ 1 := ⟨1, _, rfl, by decide +kernel, rfl⟩
theorem jq_Army_aimersAt : jx_okS 16 ⟨"OppositeThreads$Army", "aimersAt", "(I)I"⟩ 1 := ⟨1, _, rfl, by decide +kernel, rfl⟩
theorem jq_Army_aimers : jx_okS 17 ⟨"OppositeThreads$Army", "aimers", "()I"⟩ 1 := ⟨0, _, rfl, by decide +kernel, rfl⟩
theorem jq_Army_inField : jx_okS 18 ⟨"OppositeThreads$Army", "inField", "()I"⟩ 1 := ⟨0, _, rfl, by decide +kernel, rfl⟩
theorem jq_Army_leftOf : jx_okS 19 ⟨"OppositeThreads$Army", "leftOf", "(I)I"⟩ 1 := ⟨1, _, rfl, by decide +kernel, rfl⟩
theorem jq_Army_leftOfBoth : jx_okS 20 ⟨"OppositeThreads$Army", "leftOfBoth", "()I"⟩ 1 := ⟨0, _, rfl, by decide +kernel, rfl⟩
theorem jq_Army_buttonsOf : jx_okS 21 ⟨"OppositeThreads$Army", "buttonsOf", "(I)I"⟩ 1 := ⟨1, _, rfl, by decide +kernel, rfl⟩
theorem jq_Army_placeInPlan : jx_okS 22 ⟨"OppositeThreads$Army", "placeInPlan", "(II)I"⟩ 1 := ⟨2, _, rfl, by decide +kernel, rfl⟩
theorem jq_Army_takePlan : jx_okS 23 ⟨"OppositeThreads$Army", "takePlan", "(II)Z"⟩ 1 := ⟨2, _, rfl, by decide +kernel, rfl⟩
theorem jq_Army_waysToStay : jx_okS 24 ⟨"OppositeThreads$Army", "waysToStay", "(III)I"⟩ 1 := ⟨3, _, rfl, by decide +kernel, rfl⟩
theorem jq_Army_hitsOf : jx_okS 25 ⟨"OppositeThreads$Army", "hitsOf", "(I)I"⟩ 1 := ⟨1, _, rfl, by decide +kernel, rfl⟩
theorem jq_Army_powerOf : jx_okS 26 ⟨"OppositeThreads$Army", "powerOf", "(II)I"⟩ 0 := ⟨2, _, rfl, by decide +kernel, rfl⟩
theorem jq_Kinds_hitOf : jx_okS 27 ⟨"OppositeThreads$Kinds", "hitOf", "(I)I"⟩ 0 := ⟨1, _, rfl, by decide +kernel, rfl⟩
theorem jq_Kinds_aimOn : jx_okS 28 ⟨"OppositeThreads$Kinds", "aimOn", "(IZ)I"⟩ 0 := ⟨2, _, rfl, by decide +kernel, rfl⟩
theorem jq_Kinds_isOne : jx_okS 29 ⟨"OppositeThreads$Kinds", "isOne", "(II)Z"⟩ 0 := ⟨2, _, rfl, by decide +kernel, rfl⟩
theorem jq_Past_init : jx_okS 30 ⟨"OppositeThreads$Past", "<init>", "()V"⟩ 1 := ⟨0, _, rfl, by decide +kernel, rfl⟩
theorem jq_Past_clear : jx_okS 31 ⟨"OppositeThreads$Past", "clear", "()V"⟩ 1 := ⟨0, _, rfl, by decide +kernel, rfl⟩
theorem jq_Past_remember : jx_okS 32 ⟨"OppositeThreads$Past", "remember", "(LOppositeThreads$Army;)V"⟩ 1 := ⟨1, _, rfl, by decide +kernel, rfl⟩
theorem jq_Past_restore : jx_okS 33 ⟨"OppositeThreads$Past", "restore", "(LOppositeThreads$Army;)Z"⟩ 1 := ⟨1, _, rfl, by decide +kernel, rfl⟩
theorem jq_Sheet_init : jx_okS 34 ⟨"OppositeThreads$Sheet", "<init>", "()V"⟩ 1 := ⟨0, _, rfl, by decide +kernel, rfl⟩
theorem jq_Sheet_isMissing : jx_okS 35 ⟨"OppositeThreads$Sheet", "isMissing", "()Z"⟩ 1 := ⟨0, _, rfl, by decide +kernel, rfl⟩
theorem jq_Sheet_begin : jx_okS 36 ⟨"OppositeThreads$Sheet", "begin", "(II)V"⟩ 1 := ⟨2, _, rfl, by decide +kernel, rfl⟩
theorem jq_Sheet_lose : jx_okS 37 ⟨"OppositeThreads$Sheet", "lose", "()V"⟩ 1 := ⟨0, _, rfl, by decide +kernel, rfl⟩
theorem jq_Sheet_holds : jx_okS 38 ⟨"OppositeThreads$Sheet", "holds", "(II)Z"⟩ 1 := ⟨2, _, rfl, by decide +kernel, rfl⟩
theorem jq_Sheet_total : jx_okS 39 ⟨"OppositeThreads$Sheet", "total", "()J"⟩ 1 := ⟨0, _, rfl, by decide +kernel, rfl⟩
theorem jq_Sightings_init : jx_okS 40 ⟨"OppositeThreads$Sightings", "<init>", "()V"⟩ 1 := ⟨0, _, rfl, by decide +kernel, rfl⟩
theorem jq_Sightings_add : jx_okS 41 ⟨"OppositeThreads$Sightings", "add", "(III)Z"⟩ 1 := ⟨3, _, rfl, by decide +kernel, rfl⟩
theorem jq_Sightings_sightOf : jx_okS 42 ⟨"OppositeThreads$Sightings", "sightOf", "(II)I"⟩ 0 := ⟨2, _, rfl, by decide +kernel, rfl⟩
theorem jq_Sightings_sightOfKind : jx_okS 43 ⟨"OppositeThreads$Sightings", "sightOfKind", "(II)I"⟩ 0 := ⟨2, _, rfl, by decide +kernel, rfl⟩
theorem jq_Sightings_fits : jx_okS 44 ⟨"OppositeThreads$Sightings", "fits", "(I)Z"⟩ 1 := ⟨1, _, rfl, by decide +kernel, rfl⟩
theorem jq_Sightings_possibleKinds : jx_okS 45 ⟨"OppositeThreads$Sightings", "possibleKinds", "()I"⟩ 1 := ⟨0, _, rfl, by decide +kernel, rfl⟩
theorem jq_Sightings_bestDay : jx_okS 46 ⟨"OppositeThreads$Sightings", "bestDay", "()I"⟩ 1 := ⟨0, _, rfl, by decide +kernel, rfl⟩
theorem jq_Sightings_greatestPart : jx_okS 47 ⟨"OppositeThreads$Sightings", "greatestPart", "(II)I"⟩ 0 := ⟨2, _, rfl, by decide +kernel, rfl⟩
theorem jq_Sightings_alikeTo : jx_okS 48 ⟨"OppositeThreads$Sightings", "alikeTo", "(III)I"⟩ 0 := ⟨3, _, rfl, by decide +kernel, rfl⟩
theorem jq_Text_init : jx_okS 49 ⟨"OppositeThreads$Text", "<init>", "()V"⟩ 1 := ⟨0, _, rfl, by decide +kernel, rfl⟩
theorem jq_Text_add : jx_okS 50 ⟨"OppositeThreads$Text", "add", "(C)Z"⟩ 1 := ⟨1, _, rfl, by decide +kernel, rfl⟩
theorem jq_Text_readOnto : jx_okS 51 ⟨"OppositeThreads$Text", "readOnto", "(LOppositeThreads$Army;)I"⟩ 1 := ⟨1, _, rfl, by decide +kernel, rfl⟩
theorem jq_Text_readClause : jx_okS 52 ⟨"OppositeThreads$Text", "readClause", "()Z"⟩ 1 := ⟨0, _, rfl, by decide +kernel, rfl⟩
theorem jq_Text_readArmy : jx_okS 53 ⟨"OppositeThreads$Text", "readArmy", "()Z"⟩ 1 := ⟨0, _, rfl, by decide +kernel, rfl⟩
theorem jq_Text_readButtons : jx_okS 54 ⟨"OppositeThreads$Text", "readButtons", "(I)Z"⟩ 1 := ⟨1, _, rfl, by decide +kernel, rfl⟩
theorem jq_Text_readMender : jx_okS 55 ⟨"OppositeThreads$Text", "readMender", "(I)Z"⟩ 1 := ⟨1, _, rfl, by decide +kernel, rfl⟩
theorem jq_Text_readWord : jx_okS 56 ⟨"OppositeThreads$Text", "readWord", "()I"⟩ 1 := ⟨0, _, rfl, by decide +kernel, rfl⟩
theorem jq_Text_wordOf : jx_okS 57 ⟨"OppositeThreads$Text", "wordOf", "(I)Ljava/lang/String;"⟩ 0 := ⟨1, _, rfl, by decide +kernel, rfl⟩
theorem jq_Text_isToken : jx_okS 58 ⟨"OppositeThreads$Text", "isToken", "(Ljava/lang/String;)Z"⟩ 1 := ⟨1, _, rfl, by decide +kernel, rfl⟩
theorem jq_Text_readNumber : jx_okS 59 ⟨"OppositeThreads$Text", "readNumber", "(II)I"⟩ 1 := ⟨2, _, rfl, by decide +kernel, rfl⟩
theorem jq_Text_nextToken : jx_okS 60 ⟨"OppositeThreads$Text", "nextToken", "()V"⟩ 1 := ⟨0, _, rfl, by decide +kernel, rfl⟩
theorem jq_Text_sortOf : jx_okS 61 ⟨"OppositeThreads$Text", "sortOf", "(C)I"⟩ 0 := ⟨1, _, rfl, by decide +kernel, rfl⟩
theorem jq_Main_init : jx_okS 62 ⟨"OppositeThreads", "<init>", "()V"⟩ 1 := ⟨0, _, rfl, by decide +kernel, rfl⟩
theorem jq_Main_write : jx_okS 63 ⟨"OppositeThreads", "write", "(I)I"⟩ 1 := ⟨1, _, rfl, by decide +kernel, rfl⟩
theorem jq_Main_erase : jx_okS 64 ⟨"OppositeThreads", "erase", "()I"⟩ 1 := ⟨0, _, rfl, by decide +kernel, rfl⟩
theorem jq_Main_fault : jx_okS 65 ⟨"OppositeThreads", "fault", "()I"⟩ 1 := ⟨0, _, rfl, by decide +kernel, rfl⟩
theorem jq_Main_army : jx_okS 66 ⟨"OppositeThreads", "army", "()I"⟩ 1 := ⟨0, _, rfl, by decide +kernel, rfl⟩
theorem jq_Main_man : jx_okS 67 ⟨"OppositeThreads", "man", "(II)I"⟩ 1 := ⟨2, _, rfl, by decide +kernel, rfl⟩
theorem jq_Main_as : jx_okS 68 ⟨"OppositeThreads", "as", "(II)I"⟩ 1 := ⟨2, _, rfl, by decide +kernel, rfl⟩
theorem jq_Main_day : jx_okS 69 ⟨"OppositeThreads", "day", "(I)I"⟩ 1 := ⟨1, _, rfl, by decide +kernel, rfl⟩
theorem jq_Main_mend : jx_okS 70 ⟨"OppositeThreads", "mend", "(II)I"⟩ 1 := ⟨2, _, rfl, by decide +kernel, rfl⟩
theorem jq_Main_swap : jx_okS 71 ⟨"OppositeThreads", "swap", "(II)I"⟩ 1 := ⟨2, _, rfl, by decide +kernel, rfl⟩
theorem jq_Main_undo : jx_okS 72 ⟨"OppositeThreads", "undo", "()I"⟩ 1 := ⟨0, _, rfl, by decide +kernel, rfl⟩
theorem jq_Main_keep : jx_okS 73 ⟨"OppositeThreads", "keep", "(I)I"⟩ 1 := ⟨1, _, rfl, by decide +kernel, rfl⟩
theorem jq_Main_back : jx_okS 74 ⟨"OppositeThreads", "back", "(I)I"⟩ 1 := ⟨1, _, rfl, by decide +kernel, rfl⟩
theorem jq_Main_behind : jx_okS 75 ⟨"OppositeThreads", "behind", "(II)I"⟩ 1 := ⟨2, _, rfl, by decide +kernel, rfl⟩
theorem jq_Main_home : jx_okS 76 ⟨"OppositeThreads", "home", "(I)I"⟩ 1 := ⟨1, _, rfl, by decide +kernel, rfl⟩
theorem jq_Main_quiet : jx_okS 77 ⟨"OppositeThreads", "quiet", "()I"⟩ 1 := ⟨0, _, rfl, by decide +kernel, rfl⟩
theorem jq_Main_left : jx_okS 78 ⟨"OppositeThreads", "left", "(II)I"⟩ 1 := ⟨2, _, rfl, by decide +kernel, rfl⟩
theorem jq_Main_coat : jx_okS 79 ⟨"OppositeThreads", "coat", "(I)I"⟩ 1 := ⟨1, _, rfl, by decide +kernel, rfl⟩
theorem jq_Main_pairs : jx_okS 80 ⟨"OppositeThreads", "pairs", "(III)I"⟩ 1 := ⟨3, _, rfl, by decide +kernel, rfl⟩
theorem jq_Main_keeps : jx_okS 81 ⟨"OppositeThreads", "keeps", "(III)I"⟩ 1 := ⟨3, _, rfl, by decide +kernel, rfl⟩
theorem jq_Main_seen : jx_okS 82 ⟨"OppositeThreads", "seen", "(III)I"⟩ 1 := ⟨3, _, rfl, by decide +kernel, rfl⟩
theorem jq_Main_forget : jx_okS 83 ⟨"OppositeThreads", "forget", "()I"⟩ 1 := ⟨0, _, rfl, by decide +kernel, rfl⟩
theorem jq_Main_kinds : jx_okS 84 ⟨"OppositeThreads", "kinds", "()I"⟩ 1 := ⟨0, _, rfl, by decide +kernel, rfl⟩
theorem jq_Main_ask : jx_okS 85 ⟨"OppositeThreads", "ask", "()I"⟩ 1 := ⟨0, _, rfl, by decide +kernel, rfl⟩
theorem jq_Main_sheet : jx_okS 86 ⟨"OppositeThreads", "sheet", "(III)I"⟩ 1 := ⟨3, _, rfl, by decide +kernel, rfl⟩
theorem jq_Main_set : jx_okS 87 ⟨"OppositeThreads", "set", "(IIII)I"⟩ 1 := ⟨4, _, rfl, by decide +kernel, rfl⟩
theorem jq_Main_get : jx_okS 88 ⟨"OppositeThreads", "get", "(III)I"⟩ 1 := ⟨3, _, rfl, by decide +kernel, rfl⟩
theorem jq_Main_copy : jx_okS 89 ⟨"OppositeThreads", "copy", "(IIIII)I"⟩ 1 := ⟨5, _, rfl, by decide +kernel, rfl⟩
theorem jq_Main_join : jx_okS 90 ⟨"OppositeThreads", "join", "(II)I"⟩ 1 := ⟨2, _, rfl, by decide +kernel, rfl⟩
theorem jq_Main_sum : jx_okS 91 ⟨"OppositeThreads", "sum", "(I)I"⟩ 1 := ⟨1, _, rfl, by decide +kernel, rfl⟩
theorem jq_Main_drop : jx_okS 92 ⟨"OppositeThreads", "drop", "(I)I"⟩ 1 := ⟨1, _, rfl, by decide +kernel, rfl⟩
theorem jq_Main_count : jx_okS 93 ⟨"OppositeThreads", "count", "(I)I"⟩ 1 := ⟨1, _, rfl, by decide +kernel, rfl⟩
theorem jq_Main_areTwoMen : jx_okS 94 ⟨"OppositeThreads", "areTwoMen", "(II)Z"⟩ 1 := ⟨2, _, rfl, by decide +kernel, rfl⟩
theorem jq_Main_isSide : jx_okS 95 ⟨"OppositeThreads", "isSide", "(I)Z"⟩ 0 := ⟨1, _, rfl, by decide +kernel, rfl⟩
theorem jq_Main_isPlanned : jx_okS 96 ⟨"OppositeThreads", "isPlanned", "(I)Z"⟩ 0 := ⟨1, _, rfl, by decide +kernel, rfl⟩
theorem jq_Main_isSheet : jx_okS 97 ⟨"OppositeThreads", "isSheet", "(I)Z"⟩ 0 := ⟨1, _, rfl, by decide +kernel, rfl⟩
theorem jq_Main_isSort : jx_okS 98 ⟨"OppositeThreads", "isSort", "(I)Z"⟩ 0 := ⟨1, _, rfl, by decide +kernel, rfl⟩
theorem jq_Main_commonDivisor : jx_okS 99 ⟨"OppositeThreads", "commonDivisor", "(II)I"⟩ 0 := ⟨2, _, rfl, by decide +kernel, rfl⟩
theorem jq_Main_valueAt : jx_okS 100 ⟨"OppositeThreads", "valueAt", "(LOppositeThreads$Sheet;II)I"⟩ 0 := ⟨3, _, rfl, by decide +kernel, rfl⟩
theorem jq_Main_placesOfSheets : jx_okS 101 ⟨"OppositeThreads", "placesOfSheets", "()I"⟩ 1 := ⟨0, _, rfl, by decide +kernel, rfl⟩
theorem jq_Model_init : jx_okS 102 ⟨"OppositeThreadsModel", "<init>", "()V"⟩ 1 := ⟨0, _, rfl, by decide +kernel, rfl⟩
theorem jq_Model_in : jx_okS 103 ⟨"OppositeThreadsModel", "in", "(JJJ)Z"⟩ 0 := ⟨3, _, rfl, by decide +kernel, rfl⟩
theorem jq_Model_has : jx_okS 104 ⟨"OppositeThreadsModel", "has", "(II)Z"⟩ 0 := ⟨2, _, rfl, by decide +kernel, rfl⟩
theorem jq_Model_bits : jx_okS 105 ⟨"OppositeThreadsModel", "bits", "(I)I"⟩ 0 := ⟨1, _, rfl, by decide +kernel, rfl⟩
theorem jq_Model_layArmy : jx_okS 106 ⟨"OppositeThreadsModel", "layArmy", "(I)V"⟩ 1 := ⟨1, _, rfl, by decide +kernel, rfl⟩
theorem jq_Model_write : jx_okS 107 ⟨"OppositeThreadsModel", "write", "(I)I"⟩ 1 := ⟨1, _, rfl, by decide +kernel, rfl⟩
theorem jq_Model_erase : jx_okS 108 ⟨"OppositeThreadsModel", "erase", "()I"⟩ 1 := ⟨0, _, rfl, by decide +kernel, rfl⟩
theorem jq_Model_isLetter : jx_okS 109 ⟨"OppositeThreadsModel", "isLetter", "(I)Z"⟩ 0 := ⟨1, _, rfl, by decide +kernel, rfl⟩
theorem jq_Model_isDigit : jx_okS 110 ⟨"OppositeThreadsModel", "isDigit", "(I)Z"⟩ 0 := ⟨1, _, rfl, by decide +kernel, rfl⟩
theorem jq_Model_nextToken : jx_okS 111 ⟨"OppositeThreadsModel", "nextToken", "()V"⟩ 1 := ⟨0, _, rfl, by decide +kernel, rfl⟩
theorem jq_Model_isWord : jx_okS 112 ⟨"OppositeThreadsModel", "isWord", "([I)Z"⟩ 1 := ⟨1, _, rfl, by decide +kernel, rfl⟩
theorem jq_Model_number : jx_okS 113 ⟨"OppositeThreadsModel", "number", "(III)Z"⟩ 1 := ⟨3, _, rfl, by decide +kernel, rfl⟩
theorem jq_Model_kindHere : jx_okS 114 ⟨"OppositeThreadsModel", "kindHere", "()I"⟩ 1 := ⟨0, _, rfl, by decide +kernel, rfl⟩
theorem jq_Model_readsKind : jx_okS 115 ⟨"OppositeThreadsModel", "readsKind", "(I)Z"⟩ 1 := ⟨1, _, rfl, by decide +kernel, rfl⟩
theorem jq_Model_readsArmy : jx_okS 116 ⟨"OppositeThreadsModel", "readsArmy", "()Z"⟩ 1 := ⟨0, _, rfl, by decide +kernel, rfl⟩
theorem jq_Model_readsButtons : jx_okS 117 ⟨"OppositeThreadsModel", "readsButtons", "()Z"⟩ 1 := ⟨0, _, rfl, by decide +kernel, rfl⟩
theorem jq_Model_readsMender : jx_okS 118 ⟨"OppositeThreadsModel", "readsMender", "()Z"⟩ 1 := ⟨0, _, rfl, by decide +kernel, rfl⟩
theorem jq_Model_readsClause : jx_okS 119 ⟨"OppositeThreadsModel", "readsClause", "()Z"⟩ 1 := ⟨0, _, rfl, by decide +kernel, rfl⟩
theorem jq_Model_reads : jx_okS 120 ⟨"OppositeThreadsModel", "reads", "(Z)Z"⟩ 1 := ⟨1, _, rfl, by decide +kernel, rfl⟩
theorem jq_Model_fault : jx_okS 121 ⟨"OppositeThreadsModel", "fault", "()I"⟩ 1 := ⟨0, _, rfl, by decide +kernel, rfl⟩
theorem jq_Model_copyRow : jx_okS 122 ⟨"OppositeThreadsModel", "copyRow", "(III)V"⟩ 1 := ⟨3, _, rfl, by decide +kernel, rfl⟩
theorem jq_Model_army : jx_okS 123 ⟨"OppositeThreadsModel", "army", "()I"⟩ 1 := ⟨0, _, rfl, by decide +kernel, rfl⟩
theorem jq_Model_men : jx_okS 124 ⟨"OppositeThreadsModel", "men", "()I"⟩ 1 := ⟨0, _, rfl, by decide +kernel, rfl⟩
theorem jq_Model_isMan : jx_okS 125 ⟨"OppositeThreadsModel", "isMan", "(I)Z"⟩ 1 := ⟨1, _, rfl, by decide +kernel, rfl⟩
theorem jq_Model_sideOf : jx_okS 126 ⟨"OppositeThreadsModel", "sideOf", "(I)I"⟩ 1 := ⟨1, _, rfl, by decide +kernel, rfl⟩
theorem jq_Model_isOut : jx_okS 127 ⟨"OppositeThreadsModel", "isOut", "(II)Z"⟩ 1 := ⟨2, _, rfl, by decide +kernel, rfl⟩
theorem jq_Model_isOpen : jx_okS 128 ⟨"OppositeThreadsModel", "isOpen", "(III)Z"⟩ 1 := ⟨3, _, rfl, by decide +kernel, rfl⟩
theorem jq_Model_hitsBy : jx_okS 129 ⟨"OppositeThreadsModel", "hitsBy", "(I)I"⟩ 0 := ⟨1, _, rfl, by decide +kernel, rfl⟩
theorem jq_Model_aimsAt : jx_okS 130 ⟨"OppositeThreadsModel", "aimsAt", "(II)I"⟩ 1 := ⟨2, _, rfl, by decide +kernel, rfl⟩
theorem jq_Model_hamper : jx_okS 131 ⟨"OppositeThreadsModel", "hamper", "(I)V"⟩ 1 := ⟨1, _, rfl, by decide +kernel, rfl⟩
theorem jq_Model_days : jx_okS 132 ⟨"OppositeThreadsModel", "days", "(II)V"⟩ 1 := ⟨2, _, rfl, by decide +kernel, rfl⟩
theorem jq_Model_knownBy : jx_okS 133 ⟨"OppositeThreadsModel", "knownBy", "(I)I"⟩ 1 := ⟨1, _, rfl, by decide +kernel, rfl⟩
theorem jq_Model_man : jx_okS 134 ⟨"OppositeThreadsModel", "man", "(II)I"⟩ 1 := ⟨2, _, rfl, by decide +kernel, rfl⟩
theorem jq_Model_as : jx_okS 135 ⟨"OppositeThreadsModel", "as", "(II)I"⟩ 1 := ⟨2, _, rfl, by decide +kernel, rfl⟩
theorem jq_Model_keepPast : jx_okS 136 ⟨"OppositeThreadsModel", "keepPast", "()V"⟩ 1 := ⟨0, _, rfl, by decide +kernel, rfl⟩
theorem jq_Model_day : jx_okS 137 ⟨"OppositeThreadsModel", "day", "(I)I"⟩ 1 := ⟨1, _, rfl, by decide +kernel, rfl⟩
theorem jq_Model_mend : jx_okS 138 ⟨"OppositeThreadsModel", "mend", "(II)I"⟩ 1 := ⟨2, _, rfl, by decide +kernel, rfl⟩
theorem jq_Model_swap : jx_okS 139 ⟨"OppositeThreadsModel", "swap", "(II)I"⟩ 1 := ⟨2, _, rfl, by decide +kernel, rfl⟩
theorem jq_Model_undo : jx_okS 140 ⟨"OppositeThreadsModel", "undo", "()I"⟩ 1 := ⟨0, _, rfl, by decide +kernel, rfl⟩
theorem jq_Model_keep : jx_okS 141 ⟨"OppositeThreadsModel", "keep", "(I)I"⟩ 1 := ⟨1, _, rfl, by decide +kernel, rfl⟩
theorem jq_Model_back : jx_okS 142 ⟨"OppositeThreadsModel", "back", "(I)I"⟩ 1 := ⟨1, _, rfl, by decide +kernel, rfl⟩
theorem jq_Model_layTried : jx_okS 143 ⟨"OppositeThreadsModel", "layTried", "()V"⟩ 1 := ⟨0, _, rfl, by decide +kernel, rfl⟩
theorem jq_Model_behind : jx_okS 144 ⟨"OppositeThreadsModel", "behind", "(II)I"⟩ 1 := ⟨2, _, rfl, by decide +kernel, rfl⟩
theorem jq_Model_home : jx_okS 145 ⟨"OppositeThreadsModel", "home", "(I)I"⟩ 1 := ⟨1, _, rfl, by decide +kernel, rfl⟩
theorem jq_Model_aiming : jx_okS 146 ⟨"OppositeThreadsModel", "aiming", "(I)I"⟩ 1 := ⟨1, _, rfl, by decide +kernel, rfl⟩
theorem jq_Model_quiet : jx_okS 147 ⟨"OppositeThreadsModel", "quiet", "()I"⟩ 1 := ⟨0, _, rfl, by decide +kernel, rfl⟩
theorem jq_Model_outOnes : jx_okS 148 ⟨"OppositeThreadsModel", "outOnes", "(I)I"⟩ 1 := ⟨1, _, rfl, by decide +kernel, rfl⟩
theorem jq_Model_left : jx_okS 149 ⟨"OppositeThreadsModel", "left", "(II)I"⟩ 1 := ⟨2, _, rfl, by decide +kernel, rfl⟩
theorem jq_Model_leftBehind : jx_okS 150 ⟨"OppositeThreadsModel", "leftBehind", "(I)I"⟩ 1 := ⟨1, _, rfl, by decide +kernel, rfl⟩
theorem jq_Model_coat : jx_okS 151 ⟨"OppositeThreadsModel", "coat", "(I)I"⟩ 1 := ⟨1, _, rfl, by decide +kernel, rfl⟩
theorem jq_Model_swapOrder : jx_okS 152 ⟨"OppositeThreadsModel", "swapOrder", "(II)V"⟩ 1 := ⟨2, _, rfl, by decide +kernel, rfl⟩
theorem jq_Model_nextOrder : jx_okS 153 ⟨"OppositeThreadsModel", "nextOrder", "()Z"⟩ 1 := ⟨0, _, rfl, by decide +kernel, rfl⟩
theorem jq_Model_pairs : jx_okS 154 ⟨"OppositeThreadsModel", "pairs", "(III)I"⟩ 1 := ⟨3, _, rfl, by decide +kernel, rfl⟩
theorem jq_Model_keeps : jx_okS 155 ⟨"OppositeThreadsModel", "keeps", "(III)I"⟩ 1 := ⟨3, _, rfl, by decide +kernel, rfl⟩
theorem jq_Model_seen : jx_okS 156 ⟨"OppositeThreadsModel", "seen", "(III)I"⟩ 1 := ⟨3, _, rfl, by decide +kernel, rfl⟩
theorem jq_Model_forget : jx_okS 157 ⟨"OppositeThreadsModel", "forget", "()I"⟩ 1 := ⟨0, _, rfl, by decide +kernel, rfl⟩
theorem jq_Model_aimsBy : jx_okS 158 ⟨"OppositeThreadsModel", "aimsBy", "(II)I"⟩ 0 := ⟨2, _, rfl, by decide +kernel, rfl⟩
theorem jq_Model_kinds : jx_okS 159 ⟨"OppositeThreadsModel", "kinds", "()I"⟩ 1 := ⟨0, _, rfl, by decide +kernel, rfl⟩
theorem jq_Model_ask : jx_okS 160 ⟨"OppositeThreadsModel", "ask", "()I"⟩ 1 := ⟨0, _, rfl, by decide +kernel, rfl⟩
theorem jq_Model_isSheet : jx_okS 161 ⟨"OppositeThreadsModel", "isSheet", "(I)Z"⟩ 0 := ⟨1, _, rfl, by decide +kernel, rfl⟩
theorem jq_Model_sheet : jx_okS 162 ⟨"OppositeThreadsModel", "sheet", "(III)I"⟩ 1 := ⟨3, _, rfl, by decide +kernel, rfl⟩
theorem jq_Model_noPlace : jx_okS 163 ⟨"OppositeThreadsModel", "noPlace", "(III)I"⟩ 1 := ⟨3, _, rfl, by decide +kernel, rfl⟩
theorem jq_Model_set : jx_okS 164 ⟨"OppositeThreadsModel", "set", "(IIII)I"⟩ 1 := ⟨4, _, rfl, by decide +kernel, rfl⟩
theorem jq_Model_get : jx_okS 165 ⟨"OppositeThreadsModel", "get", "(III)I"⟩ 1 := ⟨3, _, rfl, by decide +kernel, rfl⟩
theorem jq_Model_isSpan : jx_okS 166 ⟨"OppositeThreadsModel", "isSpan", "(III)Z"⟩ 1 := ⟨3, _, rfl, by decide +kernel, rfl⟩
theorem jq_Model_copy : jx_okS 167 ⟨"OppositeThreadsModel", "copy", "(IIIII)I"⟩ 1 := ⟨5, _, rfl, by decide +kernel, rfl⟩
theorem jq_Model_join : jx_okS 168 ⟨"OppositeThreadsModel", "join", "(II)I"⟩ 1 := ⟨2, _, rfl, by decide +kernel, rfl⟩
theorem jq_Model_sum : jx_okS 169 ⟨"OppositeThreadsModel", "sum", "(I)I"⟩ 1 := ⟨1, _, rfl, by decide +kernel, rfl⟩
theorem jq_Model_drop : jx_okS 170 ⟨"OppositeThreadsModel", "drop", "(I)I"⟩ 1 := ⟨1, _, rfl, by decide +kernel, rfl⟩
theorem jq_Model_buttonsOf : jx_okS 171 ⟨"OppositeThreadsModel", "buttonsOf", "(I)I"⟩ 1 := ⟨1, _, rfl, by decide +kernel, rfl⟩
theorem jq_Model_allPlaces : jx_okS 172 ⟨"OppositeThreadsModel", "allPlaces", "()I"⟩ 1 := ⟨0, _, rfl, by decide +kernel, rfl⟩
theorem jq_Model_count : jx_okS 173 ⟨"OppositeThreadsModel", "count", "(I)I"⟩ 1 := ⟨1, _, rfl, by decide +kernel, rfl⟩
theorem jq_Integer_bitCount : jx_okS 174 ⟨"java/lang/Integer", "bitCount", "(I)I"⟩ 0 := ⟨1, _, rfl, by decide +kernel, rfl⟩
theorem jq_String_length : jx_okS 175 ⟨"java/lang/String", "length", "()I"⟩ 1 := ⟨0, _, rfl, by decide +kernel, rfl⟩
theorem jq_String_charAt : jx_okS 176 ⟨"java/lang/String", "charAt", "(I)C"⟩ 1 := ⟨1, _, rfl, by decide +kernel, rfl⟩
theorem jq_String_coder : jx_okS 177 ⟨"java/lang/String", "coder", "()B"⟩ 1 := ⟨0, _, rfl, by decide +kernel, rfl⟩
theorem jq_String_isLatin1 : jx_okS 178 ⟨"java/lang/String", "isLatin1", "()Z"⟩ 1 := ⟨0, _, rfl, by decide +kernel, rfl⟩
theorem jq_String_checkIndex : jx_okS 179 ⟨"java/lang/String", "checkIndex", "(II)V"⟩ 0 := ⟨2, _, rfl, by decide +kernel, rfl⟩
theorem jq_StringLatin1_charAt : jx_okS 180 ⟨"java/lang/StringLatin1", "charAt", "([BI)C"⟩ 0 := ⟨2, _, rfl, by decide +kernel, rfl⟩
theorem jq_Preconditions_checkIndex : jx_okS 181 ⟨"jdk/internal/util/Preconditions", "checkIndex", "(IILjava/util/function/BiFunction;)I"⟩ 0 := ⟨3, _, rfl, by decide +kernel, rfl⟩
theorem jg_oi1 : Cond.instanceMethod Lib.objectInit ∈ jx_G := jx_mem 71 (by decide +kernel) (by decide +kernel)
theorem jg_oi2 : Cond.code Lib.objectInit ⟨#[0xb1]⟩ 1 none ∈ jx_G := jx_mem 72 rfl (by decide +kernel)
theorem jg_ac1 : Cond.native arraycopyName ∈ jx_G := jx_mem 259 (by decide +kernel) (by decide +kernel)
theorem jg_ac2 : Cond.static arraycopyName ∈ jx_G := jx_mem 258 (by decide +kernel) (by decide +kernel)
theorem jg_ac3 : Cond.initialized "java/lang/System" ∈ jx_G := jx_mem 58 (by decide +kernel) (by decide +kernel)
theorem jg_max1 : Cond.static Lib.Math.max.name ∈ jx_G := jx_mem 87 (by decide +kernel) (by decide +kernel)
set_option maxRecDepth 100000 in
theorem jg_max2 : Cond.code Lib.Math.max.name Lib.Math.max.code 2 (some .int) ∈ jx_G := jx_mem 88 rfl (by decide +kernel)
theorem jg_min1 : Cond.static Lib.Math.min.name ∈ jx_G := jx_mem 84 (by decide +kernel) (by decide +kernel)
set_option maxRecDepth 100000 in
theorem jg_min2 : Cond.code Lib.Math.min.name Lib.Math.min.code 2 (some .int) ∈ jx_G := jx_mem 85 rfl (by decide +kernel)
theorem jg_math : Cond.initialized "java/lang/Math" ∈ jx_G := jx_mem 52 (by decide +kernel) (by decide +kernel)
theorem jg_ar_int : Cond.arrayClass .int ∈ jx_G := jx_mem 114 (by decide +kernel) (by decide +kernel)
theorem jg_ar_char : Cond.arrayClass .char ∈ jx_G := jx_mem 145 (by decide +kernel) (by decide +kernel)
theorem jg_ar_boolean : Cond.arrayClass .boolean ∈ jx_G := jx_mem 183 (by decide +kernel) (by decide +kernel)
theorem jg_ar_long : Cond.arrayClass .long ∈ jx_G := jx_mem 204 (by decide +kernel) (by decide +kernel)
theorem jg_nest : ∀ w ∈ jx_nest, w ∈ lw_tbl := by
  have h : jx_nest = ([90, 91, 93, 94, 96, 97, 99, 100, 102, 125, 127, 129, 158, 175, 192, 194, 196] : List Nat).filterMap (fun i => lw_tbl[i]?) := by decide +kernel
  intro w hw; rw [h] at hw; obtain ⟨i, -, hi⟩ := List.mem_filterMap.mp hw; exact List.mem_of_getElem? hi
theorem jg_strs : ∀ q ∈ jx_strs, Cond.stringRef q.1 q.2.1 q.2.2.1 ∈ lw_tbl := by
  have h : jx_strs.map (fun q => Cond.stringRef q.1 q.2.1 q.2.2.1) = ([278, 279, 280, 281, 282, 283, 284, 285] : List Nat).filterMap (fun i => lw_tbl[i]?) := by decide +kernel
  intro q hq; have hm := List.mem_map_of_mem (f := fun q : String × Nat × String × Nat => Cond.stringRef q.1 q.2.1 q.2.2.1) hq; rw [h] at hm; obtain ⟨i, -, hi⟩ := List.mem_filterMap.mp hm; exact List.mem_of_getElem? hi
theorem jg_ao0 : Cond.arrayOver (.object "OppositeThreads$Army") ∈ lw_tbl := List.mem_of_getElem? (i := 153) (by decide +kernel)
theorem jg_ao2 : Cond.arrayOver (.object "OppositeThreads$Sheet") ∈ lw_tbl := List.mem_of_getElem? (i := 185) (by decide +kernel)
theorem jg_ls0 : Cond.laysStatic "java/lang/String" "COMPACT_STRINGS" "Z" ∈ lw_tbl := List.mem_of_getElem? (i := 299) (by decide +kernel)
theorem jg_ls1 : Cond.laysStatic "jdk/internal/util/Preconditions" "SIOOBE_FORMATTER" "Ljava/util/function/BiFunction;" ∈ lw_tbl := List.mem_of_getElem? (i := 315) (by decide +kernel)
theorem jg_ls2 : Cond.laysStatic "OppositeThreads$Kinds" "ABOVE" "[I" ∈ lw_tbl := List.mem_of_getElem? (i := 431) (by decide +kernel)
theorem jg_si0 : Cond.initialized "java/lang/String" ∈ lw_tbl := List.mem_of_getElem? (i := 59) (by decide +kernel)
theorem jg_si1 : Cond.initialized "jdk/internal/util/Preconditions" ∈ lw_tbl := List.mem_of_getElem? (i := 61) (by decide +kernel)
theorem jg_si2 : Cond.initialized "OppositeThreads$Kinds" ∈ lw_tbl := List.mem_of_getElem? (i := 63) (by decide +kernel)
def jc_Y0 : Nat → FieldType := fun k => match k with
  | 0 => .array .int
  | 1 => .array .int
  | 2 => .array .int
  | 3 => .int
  | _ => .int
def jc_L0 : Nat → Nat := fun k => match k with
  | 0 => 103
  | 1 => 105
  | 2 => 107
  | 3 => 109
  | _ => 111
theorem jc_l0 : ∀ k, k < 5 → lw_tbl[jc_L0 k]? = some (u_lay jc_R0 jc_T0 k) ∧ goodWord (u_lay jc_R0 jc_T0 k) = true := by decide +kernel
theorem jc_w0 : ∀ w ∈ u_ws jc_R0 jc_T0 5, w ∈ jx_G := fun w hw => by
  obtain ⟨k, hk, rfl⟩ := List.mem_map.mp hw
  exact jx_mem _ (jc_l0 k (List.mem_range.mp hk)).1 (jc_l0 k (List.mem_range.mp hk)).2
theorem jc_s0 : ∀ (k : Nat) (q : Nat × Bool), ([(9, true), (9, true), (9, true), (0, false), (0, false)] : List (Nat × Bool))[k]? = some q → q.2 = (jc_T0 k).2.2.2 ∧ jx_so (jc_Y0 k) q.1 := by
  intro k q hq
  have hk : k < 5 := (List.getElem?_eq_some_iff.mp hq).1
  by_cases h0 : k = 0
  · subst h0; cases hq; exact ⟨rfl, Or.inr (Or.inr ⟨rfl, Or.inr ⟨_, rfl⟩⟩)⟩
  by_cases h1 : k = 1
  · subst h1; cases hq; exact ⟨rfl, Or.inr (Or.inr ⟨rfl, Or.inr ⟨_, rfl⟩⟩)⟩
  by_cases h2 : k = 2
  · subst h2; cases hq; exact ⟨rfl, Or.inr (Or.inr ⟨rfl, Or.inr ⟨_, rfl⟩⟩)⟩
  by_cases h3 : k = 3
  · subst h3; cases hq; exact ⟨rfl, Or.inl ⟨rfl, rfl⟩⟩
  have h4 : k = 4 := by omega
  subst h4; cases hq; exact ⟨rfl, Or.inl ⟨rfl, rfl⟩⟩
theorem jw_0 : Cond.instantiable jc_R0 5 ∈ jx_G := jx_mem 74 (by decide +kernel) (by decide +kernel)
theorem jw_1 : Cond.initialized jc_R0 ∈ jx_G := jx_mem 51 (by decide +kernel) (by decide +kernel)
theorem jc_ok0 : jx_okC 0 (jc_R0, jc_T0, 5) := ⟨jc_Y0, _, jc_w0, by decide +kernel, by decide +kernel, rfl, rfl, jc_s0, jw_0, jw_1, by decide +kernel⟩
def jc_Y1 : Nat → FieldType := fun k => match k with
  | 0 => .array (.object "OppositeThreads$Army")
  | 1 => .int
  | _ => .int
def jc_L1 : Nat → Nat := fun k => match k with
  | 0 => 159
  | 1 => 161
  | _ => 163
theorem jc_l1 : ∀ k, k < 3 → lw_tbl[jc_L1 k]? = some (u_lay jc_R1 jc_T1 k) ∧ goodWord (u_lay jc_R1 jc_T1 k) = true := by decide +kernel
theorem jc_w1 : ∀ w ∈ u_ws jc_R1 jc_T1 3, w ∈ jx_G := fun w hw => by
  obtain ⟨k, hk, rfl⟩ := List.mem_map.mp hw
  exact jx_mem _ (jc_l1 k (List.mem_range.mp hk)).1 (jc_l1 k (List.mem_range.mp hk)).2
theorem jc_s1 : ∀ (k : Nat) (q : Nat × Bool), ([(9, true), (0, false), (0, false)] : List (Nat × Bool))[k]? = some q → q.2 = (jc_T1 k).2.2.2 ∧ jx_so (jc_Y1 k) q.1 := by
  intro k q hq
  have hk : k < 3 := (List.getElem?_eq_some_iff.mp hq).1
  by_cases h0 : k = 0
  · subst h0; cases hq; exact ⟨rfl, Or.inr (Or.inr ⟨rfl, Or.inr ⟨_, rfl⟩⟩)⟩
  by_cases h1 : k = 1
  · subst h1; cases hq; exact ⟨rfl, Or.inl ⟨rfl, rfl⟩⟩
  have h2 : k = 2 := by omega
  subst h2; cases hq; exact ⟨rfl, Or.inl ⟨rfl, rfl⟩⟩
theorem jw_2 : Cond.instantiable jc_R1 3 ∈ jx_G := jx_mem 147 (by decide +kernel) (by decide +kernel)
theorem jw_3 : Cond.initialized jc_R1 ∈ jx_G := jx_mem 54 (by decide +kernel) (by decide +kernel)
theorem jc_ok1 : jx_okC 1 (jc_R1, jc_T1, 3) := ⟨jc_Y1, _, jc_w1, by decide +kernel, by decide +kernel, rfl, rfl, jc_s1, jw_2, jw_3, by decide +kernel⟩
def jc_Y2 : Nat → FieldType := fun k => match k with
  | 0 => .array .long
  | 1 => .int
  | _ => .int
def jc_L2 : Nat → Nat := fun k => match k with
  | 0 => 197
  | 1 => 199
  | _ => 201
theorem jc_l2 : ∀ k, k < 3 → lw_tbl[jc_L2 k]? = some (u_lay jc_R2 jc_T2 k) ∧ goodWord (u_lay jc_R2 jc_T2 k) = true := by decide +kernel
theorem jc_w2 : ∀ w ∈ u_ws jc_R2 jc_T2 3, w ∈ jx_G := fun w hw => by
  obtain ⟨k, hk, rfl⟩ := List.mem_map.mp hw
  exact jx_mem _ (jc_l2 k (List.mem_range.mp hk)).1 (jc_l2 k (List.mem_range.mp hk)).2
theorem jc_s2 : ∀ (k : Nat) (q : Nat × Bool), ([(9, true), (0, false), (0, false)] : List (Nat × Bool))[k]? = some q → q.2 = (jc_T2 k).2.2.2 ∧ jx_so (jc_Y2 k) q.1 := by
  intro k q hq
  have hk : k < 3 := (List.getElem?_eq_some_iff.mp hq).1
  by_cases h0 : k = 0
  · subst h0; cases hq; exact ⟨rfl, Or.inr (Or.inr ⟨rfl, Or.inr ⟨_, rfl⟩⟩)⟩
  by_cases h1 : k = 1
  · subst h1; cases hq; exact ⟨rfl, Or.inl ⟨rfl, rfl⟩⟩
  have h2 : k = 2 := by omega
  subst h2; cases hq; exact ⟨rfl, Or.inl ⟨rfl, rfl⟩⟩
theorem jw_4 : Cond.instantiable jc_R2 3 ∈ jx_G := jx_mem 186 (by decide +kernel) (by decide +kernel)
theorem jw_5 : Cond.initialized jc_R2 ∈ jx_G := jx_mem 56 (by decide +kernel) (by decide +kernel)
theorem jc_ok2 : jx_okC 2 (jc_R2, jc_T2, 3) := ⟨jc_Y2, _, jc_w2, by decide +kernel, by decide +kernel, rfl, rfl, jc_s2, jw_4, jw_5, by decide +kernel⟩
def jc_Y3 : Nat → FieldType := fun k => match k with
  | 0 => .array .int
  | 1 => .array .int
  | _ => .int
def jc_L3 : Nat → Nat := fun k => match k with
  | 0 => 176
  | 1 => 178
  | _ => 180
theorem jc_l3 : ∀ k, k < 3 → lw_tbl[jc_L3 k]? = some (u_lay jc_R3 jc_T3 k) ∧ goodWord (u_lay jc_R3 jc_T3 k) = true := by decide +kernel
theorem jc_w3 : ∀ w ∈ u_ws jc_R3 jc_T3 3, w ∈ jx_G := fun w hw => by
  obtain ⟨k, hk, rfl⟩ := List.mem_map.mp hw
  exact jx_mem _ (jc_l3 k (List.mem_range.mp hk)).1 (jc_l3 k (List.mem_range.mp hk)).2
theorem jc_s3 : ∀ (k : Nat) (q : Nat × Bool), ([(9, true), (9, true), (0, false)] : List (Nat × Bool))[k]? = some q → q.2 = (jc_T3 k).2.2.2 ∧ jx_so (jc_Y3 k) q.1 := by
  intro k q hq
  have hk : k < 3 := (List.getElem?_eq_some_iff.mp hq).1
  by_cases h0 : k = 0
  · subst h0; cases hq; exact ⟨rfl, Or.inr (Or.inr ⟨rfl, Or.inr ⟨_, rfl⟩⟩)⟩
  by_cases h1 : k = 1
  · subst h1; cases hq; exact ⟨rfl, Or.inr (Or.inr ⟨rfl, Or.inr ⟨_, rfl⟩⟩)⟩
  have h2 : k = 2 := by omega
  subst h2; cases hq; exact ⟨rfl, Or.inl ⟨rfl, rfl⟩⟩
theorem jw_6 : Cond.instantiable jc_R3 3 ∈ jx_G := jx_mem 167 (by decide +kernel) (by decide +kernel)
theorem jw_7 : Cond.initialized jc_R3 ∈ jx_G := jx_mem 55 (by decide +kernel) (by decide +kernel)
theorem jc_ok3 : jx_okC 3 (jc_R3, jc_T3, 3) := ⟨jc_Y3, _, jc_w3, by decide +kernel, by decide +kernel, rfl, rfl, jc_s3, jw_6, jw_7, by decide +kernel⟩
def jc_Y4 : Nat → FieldType := fun k => match k with
  | 0 => .array .char
  | 1 => .object "OppositeThreads$Army"
  | 2 => .int
  | 3 => .int
  | 4 => .int
  | _ => .int
def jc_L4 : Nat → Nat := fun k => match k with
  | 0 => 132
  | 1 => 134
  | 2 => 136
  | 3 => 138
  | 4 => 140
  | _ => 142
theorem jc_l4 : ∀ k, k < 6 → lw_tbl[jc_L4 k]? = some (u_lay jc_R4 jc_T4 k) ∧ goodWord (u_lay jc_R4 jc_T4 k) = true := by decide +kernel
theorem jc_w4 : ∀ w ∈ u_ws jc_R4 jc_T4 6, w ∈ jx_G := fun w hw => by
  obtain ⟨k, hk, rfl⟩ := List.mem_map.mp hw
  exact jx_mem _ (jc_l4 k (List.mem_range.mp hk)).1 (jc_l4 k (List.mem_range.mp hk)).2
theorem jc_s4 : ∀ (k : Nat) (q : Nat × Bool), ([(9, true), (9, true), (0, false), (0, false), (0, false), (0, false)] : List (Nat × Bool))[k]? = some q → q.2 = (jc_T4 k).2.2.2 ∧ jx_so (jc_Y4 k) q.1 := by
  intro k q hq
  have hk : k < 6 := (List.getElem?_eq_some_iff.mp hq).1
  by_cases h0 : k = 0
  · subst h0; cases hq; exact ⟨rfl, Or.inr (Or.inr ⟨rfl, Or.inr ⟨_, rfl⟩⟩)⟩
  by_cases h1 : k = 1
  · subst h1; cases hq; exact ⟨rfl, Or.inr (Or.inr ⟨rfl, Or.inl ⟨_, rfl⟩⟩)⟩
  by_cases h2 : k = 2
  · subst h2; cases hq; exact ⟨rfl, Or.inl ⟨rfl, rfl⟩⟩
  by_cases h3 : k = 3
  · subst h3; cases hq; exact ⟨rfl, Or.inl ⟨rfl, rfl⟩⟩
  by_cases h4 : k = 4
  · subst h4; cases hq; exact ⟨rfl, Or.inl ⟨rfl, rfl⟩⟩
  have h5 : k = 5 := by omega
  subst h5; cases hq; exact ⟨rfl, Or.inl ⟨rfl, rfl⟩⟩
theorem jw_8 : Cond.instantiable jc_R4 6 ∈ jx_G := jx_mem 116 (by decide +kernel) (by decide +kernel)
theorem jw_9 : Cond.initialized jc_R4 ∈ jx_G := jx_mem 53 (by decide +kernel) (by decide +kernel)
theorem jc_ok4 : jx_okC 4 (jc_R4, jc_T4, 6) := ⟨jc_Y4, _, jc_w4, by decide +kernel, by decide +kernel, rfl, rfl, jc_s4, jw_8, jw_9, by decide +kernel⟩
def jc_Y5 : Nat → FieldType := fun k => match k with
  | 0 => .object "OppositeThreads$Army"
  | 1 => .object "OppositeThreads$Army"
  | 2 => .object "OppositeThreads$Army"
  | 3 => .object "OppositeThreads$Text"
  | 4 => .object "OppositeThreads$Past"
  | 5 => .array (.object "OppositeThreads$Army")
  | 6 => .array .boolean
  | 7 => .object "OppositeThreads$Sightings"
  | _ => .array (.object "OppositeThreads$Sheet")
def jc_L5 : Nat → Nat := fun k => match k with
  | 0 => 214
  | 1 => 216
  | 2 => 218
  | 3 => 220
  | 4 => 222
  | 5 => 224
  | 6 => 226
  | 7 => 228
  | _ => 230
theorem jc_l5 : ∀ k, k < 9 → lw_tbl[jc_L5 k]? = some (u_lay jc_R5 jc_T5 k) ∧ goodWord (u_lay jc_R5 jc_T5 k) = true := by decide +kernel
theorem jc_w5 : ∀ w ∈ u_ws jc_R5 jc_T5 9, w ∈ jx_G := fun w hw => by
  obtain ⟨k, hk, rfl⟩ := List.mem_map.mp hw
  exact jx_mem _ (jc_l5 k (List.mem_range.mp hk)).1 (jc_l5 k (List.mem_range.mp hk)).2
theorem jc_s5 : ∀ (k : Nat) (q : Nat × Bool), ([(9, true), (9, true), (9, true), (9, true), (9, true), (9, true), (9, true), (9, true), (9, true)] : List (Nat × Bool))[k]? = some q → q.2 = (jc_T5 k).2.2.2 ∧ jx_so (jc_Y5 k) q.1 := by
  intro k q hq
  have hk : k < 9 := (List.getElem?_eq_some_iff.mp hq).1
  by_cases h0 : k = 0
  · subst h0; cases hq; exact ⟨rfl, Or.inr (Or.inr ⟨rfl, Or.inl ⟨_, rfl⟩⟩)⟩
  by_cases h1 : k = 1
  · subst h1; cases hq; exact ⟨rfl, Or.inr (Or.inr ⟨rfl, Or.inl ⟨_, rfl⟩⟩)⟩
  by_cases h2 : k = 2
  · subst h2; cases hq; exact ⟨rfl, Or.inr (Or.inr ⟨rfl, Or.inl ⟨_, rfl⟩⟩)⟩
  by_cases h3 : k = 3
  · subst h3; cases hq; exact ⟨rfl, Or.inr (Or.inr ⟨rfl, Or.inl ⟨_, rfl⟩⟩)⟩
  by_cases h4 : k = 4
  · subst h4; cases hq; exact ⟨rfl, Or.inr (Or.inr ⟨rfl, Or.inl ⟨_, rfl⟩⟩)⟩
  by_cases h5 : k = 5
  · subst h5; cases hq; exact ⟨rfl, Or.inr (Or.inr ⟨rfl, Or.inr ⟨_, rfl⟩⟩)⟩
  by_cases h6 : k = 6
  · subst h6; cases hq; exact ⟨rfl, Or.inr (Or.inr ⟨rfl, Or.inr ⟨_, rfl⟩⟩)⟩
  by_cases h7 : k = 7
  · subst h7; cases hq; exact ⟨rfl, Or.inr (Or.inr ⟨rfl, Or.inl ⟨_, rfl⟩⟩)⟩
  have h8 : k = 8 := by omega
  subst h8; cases hq; exact ⟨rfl, Or.inr (Or.inr ⟨rfl, Or.inr ⟨_, rfl⟩⟩)⟩
theorem jw_10 : Cond.instantiable jc_R5 9 ∈ jx_G := jx_mem 66 (by decide +kernel) (by decide +kernel)
theorem jw_11 : Cond.initialized jc_R5 ∈ jx_G := jx_mem 50 (by decide +kernel) (by decide +kernel)
theorem jc_ok5 : jx_okC 5 (jc_R5, jc_T5, 9) := ⟨jc_Y5, _, jc_w5, by decide +kernel, by decide +kernel, rfl, rfl, jc_s5, jw_10, jw_11, by decide +kernel⟩
def jc_Y6 : Nat → FieldType := fun k => match k with
  | 0 => .array .int
  | 1 => .int
  | 2 => .array .boolean
  | 3 => .array .int
  | 4 => .int
  | 5 => .int
  | 6 => .array .int
  | 7 => .array .int
  | 8 => .array .int
  | 9 => .array .int
  | 10 => .array .int
  | 11 => .array .int
  | 12 => .int
  | 13 => .int
  | 14 => .int
  | 15 => .int
  | 16 => .boolean
  | 17 => .array .int
  | 18 => .array .int
  | 19 => .array .int
  | 20 => .array .int
  | 21 => .array .int
  | 22 => .array .int
  | 23 => .array .int
  | 24 => .array .int
  | 25 => .array .int
  | 26 => .array .int
  | 27 => .array .int
  | _ => .array .int
def jc_L6 : Nat → Nat := fun k => match k with
  | 0 => 736
  | 1 => 738
  | 2 => 740
  | 3 => 742
  | 4 => 744
  | 5 => 746
  | 6 => 748
  | 7 => 750
  | 8 => 752
  | 9 => 754
  | 10 => 756
  | 11 => 758
  | 12 => 760
  | 13 => 762
  | 14 => 764
  | 15 => 766
  | 16 => 768
  | 17 => 770
  | 18 => 772
  | 19 => 774
  | 20 => 776
  | 21 => 778
  | 22 => 780
  | 23 => 782
  | 24 => 784
  | 25 => 786
  | 26 => 788
  | 27 => 790
  | _ => 792
theorem jc_l6 : ∀ k, k < 29 → lw_tbl[jc_L6 k]? = some (u_lay jc_R6 jc_T6 k) ∧ goodWord (u_lay jc_R6 jc_T6 k) = true := by decide +kernel
theorem jc_w6 : ∀ w ∈ u_ws jc_R6 jc_T6 29, w ∈ jx_G := fun w hw => by
  obtain ⟨k, hk, rfl⟩ := List.mem_map.mp hw
  exact jx_mem _ (jc_l6 k (List.mem_range.mp hk)).1 (jc_l6 k (List.mem_range.mp hk)).2
theorem jc_s6 : ∀ (k : Nat) (q : Nat × Bool), ([(9, true), (0, false), (9, true), (9, true), (0, false), (0, false), (9, true), (9, true), (9, true), (9, true), (9, true), (9, true), (0, false), (0, false), (0, false), (0, false), (2, false), (9, true), (9, true), (9, true), (9, true), (9, true), (9, true), (9, true), (9, true), (9, true), (9, true), (9, true), (9, true)] : List (Nat × Bool))[k]? = some q → q.2 = (jc_T6 k).2.2.2 ∧ jx_so (jc_Y6 k) q.1 := by
  intro k q hq
  have hk : k < 29 := (List.getElem?_eq_some_iff.mp hq).1
  by_cases h0 : k = 0
  · subst h0; cases hq; exact ⟨rfl, Or.inr (Or.inr ⟨rfl, Or.inr ⟨_, rfl⟩⟩)⟩
  by_cases h1 : k = 1
  · subst h1; cases hq; exact ⟨rfl, Or.inl ⟨rfl, rfl⟩⟩
  by_cases h2 : k = 2
  · subst h2; cases hq; exact ⟨rfl, Or.inr (Or.inr ⟨rfl, Or.inr ⟨_, rfl⟩⟩)⟩
  by_cases h3 : k = 3
  · subst h3; cases hq; exact ⟨rfl, Or.inr (Or.inr ⟨rfl, Or.inr ⟨_, rfl⟩⟩)⟩
  by_cases h4 : k = 4
  · subst h4; cases hq; exact ⟨rfl, Or.inl ⟨rfl, rfl⟩⟩
  by_cases h5 : k = 5
  · subst h5; cases hq; exact ⟨rfl, Or.inl ⟨rfl, rfl⟩⟩
  by_cases h6 : k = 6
  · subst h6; cases hq; exact ⟨rfl, Or.inr (Or.inr ⟨rfl, Or.inr ⟨_, rfl⟩⟩)⟩
  by_cases h7 : k = 7
  · subst h7; cases hq; exact ⟨rfl, Or.inr (Or.inr ⟨rfl, Or.inr ⟨_, rfl⟩⟩)⟩
  by_cases h8 : k = 8
  · subst h8; cases hq; exact ⟨rfl, Or.inr (Or.inr ⟨rfl, Or.inr ⟨_, rfl⟩⟩)⟩
  by_cases h9 : k = 9
  · subst h9; cases hq; exact ⟨rfl, Or.inr (Or.inr ⟨rfl, Or.inr ⟨_, rfl⟩⟩)⟩
  by_cases h10 : k = 10
  · subst h10; cases hq; exact ⟨rfl, Or.inr (Or.inr ⟨rfl, Or.inr ⟨_, rfl⟩⟩)⟩
  by_cases h11 : k = 11
  · subst h11; cases hq; exact ⟨rfl, Or.inr (Or.inr ⟨rfl, Or.inr ⟨_, rfl⟩⟩)⟩
  by_cases h12 : k = 12
  · subst h12; cases hq; exact ⟨rfl, Or.inl ⟨rfl, rfl⟩⟩
  by_cases h13 : k = 13
  · subst h13; cases hq; exact ⟨rfl, Or.inl ⟨rfl, rfl⟩⟩
  by_cases h14 : k = 14
  · subst h14; cases hq; exact ⟨rfl, Or.inl ⟨rfl, rfl⟩⟩
  by_cases h15 : k = 15
  · subst h15; cases hq; exact ⟨rfl, Or.inl ⟨rfl, rfl⟩⟩
  by_cases h16 : k = 16
  · subst h16; cases hq; exact ⟨rfl, Or.inr (Or.inl ⟨rfl, rfl⟩)⟩
  by_cases h17 : k = 17
  · subst h17; cases hq; exact ⟨rfl, Or.inr (Or.inr ⟨rfl, Or.inr ⟨_, rfl⟩⟩)⟩
  by_cases h18 : k = 18
  · subst h18; cases hq; exact ⟨rfl, Or.inr (Or.inr ⟨rfl, Or.inr ⟨_, rfl⟩⟩)⟩
  by_cases h19 : k = 19
  · subst h19; cases hq; exact ⟨rfl, Or.inr (Or.inr ⟨rfl, Or.inr ⟨_, rfl⟩⟩)⟩
  by_cases h20 : k = 20
  · subst h20; cases hq; exact ⟨rfl, Or.inr (Or.inr ⟨rfl, Or.inr ⟨_, rfl⟩⟩)⟩
  by_cases h21 : k = 21
  · subst h21; cases hq; exact ⟨rfl, Or.inr (Or.inr ⟨rfl, Or.inr ⟨_, rfl⟩⟩)⟩
  by_cases h22 : k = 22
  · subst h22; cases hq; exact ⟨rfl, Or.inr (Or.inr ⟨rfl, Or.inr ⟨_, rfl⟩⟩)⟩
  by_cases h23 : k = 23
  · subst h23; cases hq; exact ⟨rfl, Or.inr (Or.inr ⟨rfl, Or.inr ⟨_, rfl⟩⟩)⟩
  by_cases h24 : k = 24
  · subst h24; cases hq; exact ⟨rfl, Or.inr (Or.inr ⟨rfl, Or.inr ⟨_, rfl⟩⟩)⟩
  by_cases h25 : k = 25
  · subst h25; cases hq; exact ⟨rfl, Or.inr (Or.inr ⟨rfl, Or.inr ⟨_, rfl⟩⟩)⟩
  by_cases h26 : k = 26
  · subst h26; cases hq; exact ⟨rfl, Or.inr (Or.inr ⟨rfl, Or.inr ⟨_, rfl⟩⟩)⟩
  by_cases h27 : k = 27
  · subst h27; cases hq; exact ⟨rfl, Or.inr (Or.inr ⟨rfl, Or.inr ⟨_, rfl⟩⟩)⟩
  have h28 : k = 28 := by omega
  subst h28; cases hq; exact ⟨rfl, Or.inr (Or.inr ⟨rfl, Or.inr ⟨_, rfl⟩⟩)⟩
theorem jw_12 : Cond.instantiable jc_R6 29 ∈ jx_G := jx_mem 694 (by decide +kernel) (by decide +kernel)
theorem jw_13 : Cond.initialized jc_R6 ∈ jx_G := jx_mem 57 (by decide +kernel) (by decide +kernel)
theorem jc_ok6 : jx_okC 6 (jc_R6, jc_T6, 29) := ⟨jc_Y6, _, jc_w6, by decide +kernel, by decide +kernel, rfl, rfl, jc_s6, jw_12, jw_13, by decide +kernel⟩
theorem jx_clOk (ci : Nat) (r : vw_C) (h : jx_cl[ci]? = some r) : jx_okC ci r := by
  have hk : ci < 7 := (List.getElem?_eq_some_iff.mp h).1
  by_cases h0 : ci = 0
  · subst h0; cases h; exact jc_ok0
  by_cases h1 : ci = 1
  · subst h1; cases h; exact jc_ok1
  by_cases h2 : ci = 2
  · subst h2; cases h; exact jc_ok2
  by_cases h3 : ci = 3
  · subst h3; cases h; exact jc_ok3
  by_cases h4 : ci = 4
  · subst h4; cases h; exact jc_ok4
  by_cases h5 : ci = 5
  · subst h5; cases h; exact jc_ok5
  have h6 : ci = 6 := by omega
  subst h6; cases h; exact jc_ok6
theorem jw_14 : Cond.classLink "OppositeThreadsLaw" 7 jc_R5 ∈ jx_G := jx_mem 65 (by decide +kernel) (by decide +kernel)
theorem jw_15 : Cond.methodLink "OppositeThreadsLaw" 9 (⟨"OppositeThreads", "<init>", "()V"⟩ : MethodName) ∈ jx_G := jx_mem 67 (by decide +kernel) (by decide +kernel)
theorem jw_16 : Cond.instanceMethod (⟨"OppositeThreads", "<init>", "()V"⟩ : MethodName) ∈ jx_G := jx_mem 68 (by decide +kernel) (by decide +kernel)
theorem jw_17 : Cond.classLink "OppositeThreadsLaw" 10 jc_R6 ∈ jx_G := jx_mem 693 (by decide +kernel) (by decide +kernel)
theorem jw_18 : Cond.methodLink "OppositeThreadsLaw" 12 (⟨"OppositeThreadsModel", "<init>", "()V"⟩ : MethodName) ∈ jx_G := jx_mem 695 (by decide +kernel) (by decide +kernel)
theorem jw_19 : Cond.instanceMethod (⟨"OppositeThreadsModel", "<init>", "()V"⟩ : MethodName) ∈ jx_G := jx_mem 696 (by decide +kernel) (by decide +kernel)
theorem jw_20 : Cond.methodLink "OppositeThreadsLaw" 13 (⟨"OppositeThreads", "write", "(I)I"⟩ : MethodName) ∈ jx_G := jx_mem 233 (by decide +kernel) (by decide +kernel)
theorem jw_21 : Cond.instanceMethod (⟨"OppositeThreads", "write", "(I)I"⟩ : MethodName) ∈ jx_G := jx_mem 234 (by decide +kernel) (by decide +kernel)
theorem jw_22 : Cond.selects "OppositeThreads" (⟨"OppositeThreads", "write", "(I)I"⟩ : MethodName) (⟨"OppositeThreads", "write", "(I)I"⟩ : MethodName) ∈ jx_G := jx_mem 235 (by decide +kernel) (by decide +kernel)
theorem jw_23 : Cond.methodLink "OppositeThreadsLaw" 17 (⟨"OppositeThreadsModel", "write", "(I)I"⟩ : MethodName) ∈ jx_G := jx_mem 795 (by decide +kernel) (by decide +kernel)
theorem jw_24 : Cond.instanceMethod (⟨"OppositeThreadsModel", "write", "(I)I"⟩ : MethodName) ∈ jx_G := jx_mem 796 (by decide +kernel) (by decide +kernel)
theorem jw_25 : Cond.selects "OppositeThreadsModel" (⟨"OppositeThreadsModel", "write", "(I)I"⟩ : MethodName) (⟨"OppositeThreadsModel", "write", "(I)I"⟩ : MethodName) ∈ jx_G := jx_mem 797 (by decide +kernel) (by decide +kernel)
theorem jw_26 : Cond.methodLink "OppositeThreadsLaw" 18 (⟨"OppositeThreads", "erase", "()I"⟩ : MethodName) ∈ jx_G := jx_mem 241 (by decide +kernel) (by decide +kernel)
theorem jw_27 : Cond.instanceMethod (⟨"OppositeThreads", "erase", "()I"⟩ : MethodName) ∈ jx_G := jx_mem 242 (by decide +kernel) (by decide +kernel)
theorem jw_28 : Cond.selects "OppositeThreads" (⟨"OppositeThreads", "erase", "()I"⟩ : MethodName) (⟨"OppositeThreads", "erase", "()I"⟩ : MethodName) ∈ jx_G := jx_mem 243 (by decide +kernel) (by decide +kernel)
theorem jw_29 : Cond.methodLink "OppositeThreadsLaw" 22 (⟨"OppositeThreadsModel", "erase", "()I"⟩ : MethodName) ∈ jx_G := jx_mem 803 (by decide +kernel) (by decide +kernel)
theorem jw_30 : Cond.instanceMethod (⟨"OppositeThreadsModel", "erase", "()I"⟩ : MethodName) ∈ jx_G := jx_mem 804 (by decide +kernel) (by decide +kernel)
theorem jw_31 : Cond.selects "OppositeThreadsModel" (⟨"OppositeThreadsModel", "erase", "()I"⟩ : MethodName) (⟨"OppositeThreadsModel", "erase", "()I"⟩ : MethodName) ∈ jx_G := jx_mem 805 (by decide +kernel) (by decide +kernel)
theorem jw_32 : Cond.methodLink "OppositeThreadsLaw" 23 (⟨"OppositeThreads", "fault", "()I"⟩ : MethodName) ∈ jx_G := jx_mem 245 (by decide +kernel) (by decide +kernel)
theorem jw_33 : Cond.instanceMethod (⟨"OppositeThreads", "fault", "()I"⟩ : MethodName) ∈ jx_G := jx_mem 246 (by decide +kernel) (by decide +kernel)
theorem jw_34 : Cond.selects "OppositeThreads" (⟨"OppositeThreads", "fault", "()I"⟩ : MethodName) (⟨"OppositeThreads", "fault", "()I"⟩ : MethodName) ∈ jx_G := jx_mem 247 (by decide +kernel) (by decide +kernel)
theorem jw_35 : Cond.methodLink "OppositeThreadsLaw" 26 (⟨"OppositeThreadsModel", "fault", "()I"⟩ : MethodName) ∈ jx_G := jx_mem 807 (by decide +kernel) (by decide +kernel)
theorem jw_36 : Cond.instanceMethod (⟨"OppositeThreadsModel", "fault", "()I"⟩ : MethodName) ∈ jx_G := jx_mem 808 (by decide +kernel) (by decide +kernel)
theorem jw_37 : Cond.selects "OppositeThreadsModel" (⟨"OppositeThreadsModel", "fault", "()I"⟩ : MethodName) (⟨"OppositeThreadsModel", "fault", "()I"⟩ : MethodName) ∈ jx_G := jx_mem 809 (by decide +kernel) (by decide +kernel)
theorem jw_38 : Cond.methodLink "OppositeThreadsLaw" 27 (⟨"OppositeThreads", "army", "()I"⟩ : MethodName) ∈ jx_G := jx_mem 368 (by decide +kernel) (by decide +kernel)
theorem jw_39 : Cond.instanceMethod (⟨"OppositeThreads", "army", "()I"⟩ : MethodName) ∈ jx_G := jx_mem 369 (by decide +kernel) (by decide +kernel)
theorem jw_40 : Cond.selects "OppositeThreads" (⟨"OppositeThreads", "army", "()I"⟩ : MethodName) (⟨"OppositeThreads", "army", "()I"⟩ : MethodName) ∈ jx_G := jx_mem 370 (by decide +kernel) (by decide +kernel)
theorem jw_41 : Cond.methodLink "OppositeThreadsLaw" 30 (⟨"OppositeThreadsModel", "army", "()I"⟩ : MethodName) ∈ jx_G := jx_mem 861 (by decide +kernel) (by decide +kernel)
theorem jw_42 : Cond.instanceMethod (⟨"OppositeThreadsModel", "army", "()I"⟩ : MethodName) ∈ jx_G := jx_mem 862 (by decide +kernel) (by decide +kernel)
theorem jw_43 : Cond.selects "OppositeThreadsModel" (⟨"OppositeThreadsModel", "army", "()I"⟩ : MethodName) (⟨"OppositeThreadsModel", "army", "()I"⟩ : MethodName) ∈ jx_G := jx_mem 863 (by decide +kernel) (by decide +kernel)
theorem jw_44 : Cond.methodLink "OppositeThreadsLaw" 31 (⟨"OppositeThreads", "man", "(II)I"⟩ : MethodName) ∈ jx_G := jx_mem 381 (by decide +kernel) (by decide +kernel)
theorem jw_45 : Cond.instanceMethod (⟨"OppositeThreads", "man", "(II)I"⟩ : MethodName) ∈ jx_G := jx_mem 382 (by decide +kernel) (by decide +kernel)
theorem jw_46 : Cond.selects "OppositeThreads" (⟨"OppositeThreads", "man", "(II)I"⟩ : MethodName) (⟨"OppositeThreads", "man", "(II)I"⟩ : MethodName) ∈ jx_G := jx_mem 383 (by decide +kernel) (by decide +kernel)
theorem jw_47 : Cond.methodLink "OppositeThreadsLaw" 35 (⟨"OppositeThreadsModel", "man", "(II)I"⟩ : MethodName) ∈ jx_G := jx_mem 865 (by decide +kernel) (by decide +kernel)
theorem jw_48 : Cond.instanceMethod (⟨"OppositeThreadsModel", "man", "(II)I"⟩ : MethodName) ∈ jx_G := jx_mem 866 (by decide +kernel) (by decide +kernel)
theorem jw_49 : Cond.selects "OppositeThreadsModel" (⟨"OppositeThreadsModel", "man", "(II)I"⟩ : MethodName) (⟨"OppositeThreadsModel", "man", "(II)I"⟩ : MethodName) ∈ jx_G := jx_mem 867 (by decide +kernel) (by decide +kernel)
theorem jw_50 : Cond.methodLink "OppositeThreadsLaw" 36 (⟨"OppositeThreads", "as", "(II)I"⟩ : MethodName) ∈ jx_G := jx_mem 423 (by decide +kernel) (by decide +kernel)
theorem jw_51 : Cond.instanceMethod (⟨"OppositeThreads", "as", "(II)I"⟩ : MethodName) ∈ jx_G := jx_mem 424 (by decide +kernel) (by decide +kernel)
theorem jw_52 : Cond.selects "OppositeThreads" (⟨"OppositeThreads", "as", "(II)I"⟩ : MethodName) (⟨"OppositeThreads", "as", "(II)I"⟩ : MethodName) ∈ jx_G := jx_mem 425 (by decide +kernel) (by decide +kernel)
theorem jw_53 : Cond.methodLink "OppositeThreadsLaw" 39 (⟨"OppositeThreadsModel", "as", "(II)I"⟩ : MethodName) ∈ jx_G := jx_mem 900 (by decide +kernel) (by decide +kernel)
theorem jw_54 : Cond.instanceMethod (⟨"OppositeThreadsModel", "as", "(II)I"⟩ : MethodName) ∈ jx_G := jx_mem 901 (by decide +kernel) (by decide +kernel)
theorem jw_55 : Cond.selects "OppositeThreadsModel" (⟨"OppositeThreadsModel", "as", "(II)I"⟩ : MethodName) (⟨"OppositeThreadsModel", "as", "(II)I"⟩ : MethodName) ∈ jx_G := jx_mem 902 (by decide +kernel) (by decide +kernel)
theorem jw_56 : Cond.methodLink "OppositeThreadsLaw" 40 (⟨"OppositeThreads", "day", "(I)I"⟩ : MethodName) ∈ jx_G := jx_mem 432 (by decide +kernel) (by decide +kernel)
theorem jw_57 : Cond.instanceMethod (⟨"OppositeThreads", "day", "(I)I"⟩ : MethodName) ∈ jx_G := jx_mem 433 (by decide +kernel) (by decide +kernel)
theorem jw_58 : Cond.selects "OppositeThreads" (⟨"OppositeThreads", "day", "(I)I"⟩ : MethodName) (⟨"OppositeThreads", "day", "(I)I"⟩ : MethodName) ∈ jx_G := jx_mem 434 (by decide +kernel) (by decide +kernel)
theorem jw_59 : Cond.methodLink "OppositeThreadsLaw" 43 (⟨"OppositeThreadsModel", "day", "(I)I"⟩ : MethodName) ∈ jx_G := jx_mem 905 (by decide +kernel) (by decide +kernel)
theorem jw_60 : Cond.instanceMethod (⟨"OppositeThreadsModel", "day", "(I)I"⟩ : MethodName) ∈ jx_G := jx_mem 906 (by decide +kernel) (by decide +kernel)
theorem jw_61 : Cond.selects "OppositeThreadsModel" (⟨"OppositeThreadsModel", "day", "(I)I"⟩ : MethodName) (⟨"OppositeThreadsModel", "day", "(I)I"⟩ : MethodName) ∈ jx_G := jx_mem 907 (by decide +kernel) (by decide +kernel)
theorem jw_62 : Cond.methodLink "OppositeThreadsLaw" 44 (⟨"OppositeThreads", "mend", "(II)I"⟩ : MethodName) ∈ jx_G := jx_mem 456 (by decide +kernel) (by decide +kernel)
theorem jw_63 : Cond.instanceMethod (⟨"OppositeThreads", "mend", "(II)I"⟩ : MethodName) ∈ jx_G := jx_mem 457 (by decide +kernel) (by decide +kernel)
theorem jw_64 : Cond.selects "OppositeThreads" (⟨"OppositeThreads", "mend", "(II)I"⟩ : MethodName) (⟨"OppositeThreads", "mend", "(II)I"⟩ : MethodName) ∈ jx_G := jx_mem 458 (by decide +kernel) (by decide +kernel)
theorem jw_65 : Cond.methodLink "OppositeThreadsLaw" 47 (⟨"OppositeThreadsModel", "mend", "(II)I"⟩ : MethodName) ∈ jx_G := jx_mem 925 (by decide +kernel) (by decide +kernel)
theorem jw_66 : Cond.instanceMethod (⟨"OppositeThreadsModel", "mend", "(II)I"⟩ : MethodName) ∈ jx_G := jx_mem 926 (by decide +kernel) (by decide +kernel)
theorem jw_67 : Cond.selects "OppositeThreadsModel" (⟨"OppositeThreadsModel", "mend", "(II)I"⟩ : MethodName) (⟨"OppositeThreadsModel", "mend", "(II)I"⟩ : MethodName) ∈ jx_G := jx_mem 927 (by decide +kernel) (by decide +kernel)
theorem jw_68 : Cond.methodLink "OppositeThreadsLaw" 48 (⟨"OppositeThreads", "swap", "(II)I"⟩ : MethodName) ∈ jx_G := jx_mem 465 (by decide +kernel) (by decide +kernel)
theorem jw_69 : Cond.instanceMethod (⟨"OppositeThreads", "swap", "(II)I"⟩ : MethodName) ∈ jx_G := jx_mem 466 (by decide +kernel) (by decide +kernel)
theorem jw_70 : Cond.selects "OppositeThreads" (⟨"OppositeThreads", "swap", "(II)I"⟩ : MethodName) (⟨"OppositeThreads", "swap", "(II)I"⟩ : MethodName) ∈ jx_G := jx_mem 467 (by decide +kernel) (by decide +kernel)
theorem jw_71 : Cond.methodLink "OppositeThreadsLaw" 51 (⟨"OppositeThreadsModel", "swap", "(II)I"⟩ : MethodName) ∈ jx_G := jx_mem 929 (by decide +kernel) (by decide +kernel)
theorem jw_72 : Cond.instanceMethod (⟨"OppositeThreadsModel", "swap", "(II)I"⟩ : MethodName) ∈ jx_G := jx_mem 930 (by decide +kernel) (by decide +kernel)
theorem jw_73 : Cond.selects "OppositeThreadsModel" (⟨"OppositeThreadsModel", "swap", "(II)I"⟩ : MethodName) (⟨"OppositeThreadsModel", "swap", "(II)I"⟩ : MethodName) ∈ jx_G := jx_mem 931 (by decide +kernel) (by decide +kernel)
theorem jw_74 : Cond.methodLink "OppositeThreadsLaw" 52 (⟨"OppositeThreads", "undo", "()I"⟩ : MethodName) ∈ jx_G := jx_mem 469 (by decide +kernel) (by decide +kernel)
theorem jw_75 : Cond.instanceMethod (⟨"OppositeThreads", "undo", "()I"⟩ : MethodName) ∈ jx_G := jx_mem 470 (by decide +kernel) (by decide +kernel)
theorem jw_76 : Cond.selects "OppositeThreads" (⟨"OppositeThreads", "undo", "()I"⟩ : MethodName) (⟨"OppositeThreads", "undo", "()I"⟩ : MethodName) ∈ jx_G := jx_mem 471 (by decide +kernel) (by decide +kernel)
theorem jw_77 : Cond.methodLink "OppositeThreadsLaw" 55 (⟨"OppositeThreadsModel", "undo", "()I"⟩ : MethodName) ∈ jx_G := jx_mem 933 (by decide +kernel) (by decide +kernel)
theorem jw_78 : Cond.instanceMethod (⟨"OppositeThreadsModel", "undo", "()I"⟩ : MethodName) ∈ jx_G := jx_mem 934 (by decide +kernel) (by decide +kernel)
theorem jw_79 : Cond.selects "OppositeThreadsModel" (⟨"OppositeThreadsModel", "undo", "()I"⟩ : MethodName) (⟨"OppositeThreadsModel", "undo", "()I"⟩ : MethodName) ∈ jx_G := jx_mem 935 (by decide +kernel) (by decide +kernel)
theorem jw_80 : Cond.methodLink "OppositeThreadsLaw" 56 (⟨"OppositeThreads", "keep", "(I)I"⟩ : MethodName) ∈ jx_G := jx_mem 477 (by decide +kernel) (by decide +kernel)
theorem jw_81 : Cond.instanceMethod (⟨"OppositeThreads", "keep", "(I)I"⟩ : MethodName) ∈ jx_G := jx_mem 478 (by decide +kernel) (by decide +kernel)
theorem jw_82 : Cond.selects "OppositeThreads" (⟨"OppositeThreads", "keep", "(I)I"⟩ : MethodName) (⟨"OppositeThreads", "keep", "(I)I"⟩ : MethodName) ∈ jx_G := jx_mem 479 (by decide +kernel) (by decide +kernel)
theorem jw_83 : Cond.methodLink "OppositeThreadsLaw" 59 (⟨"OppositeThreadsModel", "keep", "(I)I"⟩ : MethodName) ∈ jx_G := jx_mem 937 (by decide +kernel) (by decide +kernel)
theorem jw_84 : Cond.instanceMethod (⟨"OppositeThreadsModel", "keep", "(I)I"⟩ : MethodName) ∈ jx_G := jx_mem 938 (by decide +kernel) (by decide +kernel)
theorem jw_85 : Cond.selects "OppositeThreadsModel" (⟨"OppositeThreadsModel", "keep", "(I)I"⟩ : MethodName) (⟨"OppositeThreadsModel", "keep", "(I)I"⟩ : MethodName) ∈ jx_G := jx_mem 939 (by decide +kernel) (by decide +kernel)
theorem jw_86 : Cond.methodLink "OppositeThreadsLaw" 60 (⟨"OppositeThreads", "back", "(I)I"⟩ : MethodName) ∈ jx_G := jx_mem 481 (by decide +kernel) (by decide +kernel)
theorem jw_87 : Cond.instanceMethod (⟨"OppositeThreads", "back", "(I)I"⟩ : MethodName) ∈ jx_G := jx_mem 482 (by decide +kernel) (by decide +kernel)
theorem jw_88 : Cond.selects "OppositeThreads" (⟨"OppositeThreads", "back", "(I)I"⟩ : MethodName) (⟨"OppositeThreads", "back", "(I)I"⟩ : MethodName) ∈ jx_G := jx_mem 483 (by decide +kernel) (by decide +kernel)
theorem jw_89 : Cond.methodLink "OppositeThreadsLaw" 63 (⟨"OppositeThreadsModel", "back", "(I)I"⟩ : MethodName) ∈ jx_G := jx_mem 941 (by decide +kernel) (by decide +kernel)
theorem jw_90 : Cond.instanceMethod (⟨"OppositeThreadsModel", "back", "(I)I"⟩ : MethodName) ∈ jx_G := jx_mem 942 (by decide +kernel) (by decide +kernel)
theorem jw_91 : Cond.selects "OppositeThreadsModel" (⟨"OppositeThreadsModel", "back", "(I)I"⟩ : MethodName) (⟨"OppositeThreadsModel", "back", "(I)I"⟩ : MethodName) ∈ jx_G := jx_mem 943 (by decide +kernel) (by decide +kernel)
theorem jw_92 : Cond.methodLink "OppositeThreadsLaw" 64 (⟨"OppositeThreads", "behind", "(II)I"⟩ : MethodName) ∈ jx_G := jx_mem 485 (by decide +kernel) (by decide +kernel)
theorem jw_93 : Cond.instanceMethod (⟨"OppositeThreads", "behind", "(II)I"⟩ : MethodName) ∈ jx_G := jx_mem 486 (by decide +kernel) (by decide +kernel)
theorem jw_94 : Cond.selects "OppositeThreads" (⟨"OppositeThreads", "behind", "(II)I"⟩ : MethodName) (⟨"OppositeThreads", "behind", "(II)I"⟩ : MethodName) ∈ jx_G := jx_mem 487 (by decide +kernel) (by decide +kernel)
theorem jw_95 : Cond.methodLink "OppositeThreadsLaw" 67 (⟨"OppositeThreadsModel", "behind", "(II)I"⟩ : MethodName) ∈ jx_G := jx_mem 945 (by decide +kernel) (by decide +kernel)
theorem jw_96 : Cond.instanceMethod (⟨"OppositeThreadsModel", "behind", "(II)I"⟩ : MethodName) ∈ jx_G := jx_mem 946 (by decide +kernel) (by decide +kernel)
theorem jw_97 : Cond.selects "OppositeThreadsModel" (⟨"OppositeThreadsModel", "behind", "(II)I"⟩ : MethodName) (⟨"OppositeThreadsModel", "behind", "(II)I"⟩ : MethodName) ∈ jx_G := jx_mem 947 (by decide +kernel) (by decide +kernel)
theorem jw_98 : Cond.methodLink "OppositeThreadsLaw" 68 (⟨"OppositeThreads", "home", "(I)I"⟩ : MethodName) ∈ jx_G := jx_mem 489 (by decide +kernel) (by decide +kernel)
theorem jw_99 : Cond.instanceMethod (⟨"OppositeThreads", "home", "(I)I"⟩ : MethodName) ∈ jx_G := jx_mem 490 (by decide +kernel) (by decide +kernel)
theorem jw_100 : Cond.selects "OppositeThreads" (⟨"OppositeThreads", "home", "(I)I"⟩ : MethodName) (⟨"OppositeThreads", "home", "(I)I"⟩ : MethodName) ∈ jx_G := jx_mem 491 (by decide +kernel) (by decide +kernel)
theorem jw_101 : Cond.methodLink "OppositeThreadsLaw" 71 (⟨"OppositeThreadsModel", "home", "(I)I"⟩ : MethodName) ∈ jx_G := jx_mem 954 (by decide +kernel) (by decide +kernel)
theorem jw_102 : Cond.instanceMethod (⟨"OppositeThreadsModel", "home", "(I)I"⟩ : MethodName) ∈ jx_G := jx_mem 955 (by decide +kernel) (by decide +kernel)
theorem jw_103 : Cond.selects "OppositeThreadsModel" (⟨"OppositeThreadsModel", "home", "(I)I"⟩ : MethodName) (⟨"OppositeThreadsModel", "home", "(I)I"⟩ : MethodName) ∈ jx_G := jx_mem 956 (by decide +kernel) (by decide +kernel)
theorem jw_104 : Cond.methodLink "OppositeThreadsLaw" 72 (⟨"OppositeThreads", "quiet", "()I"⟩ : MethodName) ∈ jx_G := jx_mem 495 (by decide +kernel) (by decide +kernel)
theorem jw_105 : Cond.instanceMethod (⟨"OppositeThreads", "quiet", "()I"⟩ : MethodName) ∈ jx_G := jx_mem 496 (by decide +kernel) (by decide +kernel)
theorem jw_106 : Cond.selects "OppositeThreads" (⟨"OppositeThreads", "quiet", "()I"⟩ : MethodName) (⟨"OppositeThreads", "quiet", "()I"⟩ : MethodName) ∈ jx_G := jx_mem 497 (by decide +kernel) (by decide +kernel)
theorem jw_107 : Cond.methodLink "OppositeThreadsLaw" 75 (⟨"OppositeThreadsModel", "quiet", "()I"⟩ : MethodName) ∈ jx_G := jx_mem 958 (by decide +kernel) (by decide +kernel)
theorem jw_108 : Cond.instanceMethod (⟨"OppositeThreadsModel", "quiet", "()I"⟩ : MethodName) ∈ jx_G := jx_mem 959 (by decide +kernel) (by decide +kernel)
theorem jw_109 : Cond.selects "OppositeThreadsModel" (⟨"OppositeThreadsModel", "quiet", "()I"⟩ : MethodName) (⟨"OppositeThreadsModel", "quiet", "()I"⟩ : MethodName) ∈ jx_G := jx_mem 960 (by decide +kernel) (by decide +kernel)
theorem jw_110 : Cond.methodLink "OppositeThreadsLaw" 76 (⟨"OppositeThreads", "left", "(II)I"⟩ : MethodName) ∈ jx_G := jx_mem 503 (by decide +kernel) (by decide +kernel)
theorem jw_111 : Cond.instanceMethod (⟨"OppositeThreads", "left", "(II)I"⟩ : MethodName) ∈ jx_G := jx_mem 504 (by decide +kernel) (by decide +kernel)
theorem jw_112 : Cond.selects "OppositeThreads" (⟨"OppositeThreads", "left", "(II)I"⟩ : MethodName) (⟨"OppositeThreads", "left", "(II)I"⟩ : MethodName) ∈ jx_G := jx_mem 505 (by decide +kernel) (by decide +kernel)
theorem jw_113 : Cond.methodLink "OppositeThreadsLaw" 79 (⟨"OppositeThreadsModel", "left", "(II)I"⟩ : MethodName) ∈ jx_G := jx_mem 966 (by decide +kernel) (by decide +kernel)
theorem jw_114 : Cond.instanceMethod (⟨"OppositeThreadsModel", "left", "(II)I"⟩ : MethodName) ∈ jx_G := jx_mem 967 (by decide +kernel) (by decide +kernel)
theorem jw_115 : Cond.selects "OppositeThreadsModel" (⟨"OppositeThreadsModel", "left", "(II)I"⟩ : MethodName) (⟨"OppositeThreadsModel", "left", "(II)I"⟩ : MethodName) ∈ jx_G := jx_mem 968 (by decide +kernel) (by decide +kernel)
theorem jw_116 : Cond.methodLink "OppositeThreadsLaw" 80 (⟨"OppositeThreads", "coat", "(I)I"⟩ : MethodName) ∈ jx_G := jx_mem 514 (by decide +kernel) (by decide +kernel)
theorem jw_117 : Cond.instanceMethod (⟨"OppositeThreads", "coat", "(I)I"⟩ : MethodName) ∈ jx_G := jx_mem 515 (by decide +kernel) (by decide +kernel)
theorem jw_118 : Cond.selects "OppositeThreads" (⟨"OppositeThreads", "coat", "(I)I"⟩ : MethodName) (⟨"OppositeThreads", "coat", "(I)I"⟩ : MethodName) ∈ jx_G := jx_mem 516 (by decide +kernel) (by decide +kernel)
theorem jw_119 : Cond.methodLink "OppositeThreadsLaw" 83 (⟨"OppositeThreadsModel", "coat", "(I)I"⟩ : MethodName) ∈ jx_G := jx_mem 970 (by decide +kernel) (by decide +kernel)
theorem jw_120 : Cond.instanceMethod (⟨"OppositeThreadsModel", "coat", "(I)I"⟩ : MethodName) ∈ jx_G := jx_mem 971 (by decide +kernel) (by decide +kernel)
theorem jw_121 : Cond.selects "OppositeThreadsModel" (⟨"OppositeThreadsModel", "coat", "(I)I"⟩ : MethodName) (⟨"OppositeThreadsModel", "coat", "(I)I"⟩ : MethodName) ∈ jx_G := jx_mem 972 (by decide +kernel) (by decide +kernel)
theorem jw_122 : Cond.methodLink "OppositeThreadsLaw" 84 (⟨"OppositeThreads", "pairs", "(III)I"⟩ : MethodName) ∈ jx_G := jx_mem 527 (by decide +kernel) (by decide +kernel)
theorem jw_123 : Cond.instanceMethod (⟨"OppositeThreads", "pairs", "(III)I"⟩ : MethodName) ∈ jx_G := jx_mem 528 (by decide +kernel) (by decide +kernel)
theorem jw_124 : Cond.selects "OppositeThreads" (⟨"OppositeThreads", "pairs", "(III)I"⟩ : MethodName) (⟨"OppositeThreads", "pairs", "(III)I"⟩ : MethodName) ∈ jx_G := jx_mem 529 (by decide +kernel) (by decide +kernel)
theorem jw_125 : Cond.methodLink "OppositeThreadsLaw" 88 (⟨"OppositeThreadsModel", "pairs", "(III)I"⟩ : MethodName) ∈ jx_G := jx_mem 986 (by decide +kernel) (by decide +kernel)
theorem jw_126 : Cond.instanceMethod (⟨"OppositeThreadsModel", "pairs", "(III)I"⟩ : MethodName) ∈ jx_G := jx_mem 987 (by decide +kernel) (by decide +kernel)
theorem jw_127 : Cond.selects "OppositeThreadsModel" (⟨"OppositeThreadsModel", "pairs", "(III)I"⟩ : MethodName) (⟨"OppositeThreadsModel", "pairs", "(III)I"⟩ : MethodName) ∈ jx_G := jx_mem 988 (by decide +kernel) (by decide +kernel)
theorem jw_128 : Cond.methodLink "OppositeThreadsLaw" 89 (⟨"OppositeThreads", "keeps", "(III)I"⟩ : MethodName) ∈ jx_G := jx_mem 540 (by decide +kernel) (by decide +kernel)
theorem jw_129 : Cond.instanceMethod (⟨"OppositeThreads", "keeps", "(III)I"⟩ : MethodName) ∈ jx_G := jx_mem 541 (by decide +kernel) (by decide +kernel)
theorem jw_130 : Cond.selects "OppositeThreads" (⟨"OppositeThreads", "keeps", "(III)I"⟩ : MethodName) (⟨"OppositeThreads", "keeps", "(III)I"⟩ : MethodName) ∈ jx_G := jx_mem 542 (by decide +kernel) (by decide +kernel)
theorem jw_131 : Cond.methodLink "OppositeThreadsLaw" 92 (⟨"OppositeThreadsModel", "keeps", "(III)I"⟩ : MethodName) ∈ jx_G := jx_mem 999 (by decide +kernel) (by decide +kernel)
theorem jw_132 : Cond.instanceMethod (⟨"OppositeThreadsModel", "keeps", "(III)I"⟩ : MethodName) ∈ jx_G := jx_mem 1000 (by decide +kernel) (by decide +kernel)
theorem jw_133 : Cond.selects "OppositeThreadsModel" (⟨"OppositeThreadsModel", "keeps", "(III)I"⟩ : MethodName) (⟨"OppositeThreadsModel", "keeps", "(III)I"⟩ : MethodName) ∈ jx_G := jx_mem 1001 (by decide +kernel) (by decide +kernel)
theorem jw_134 : Cond.methodLink "OppositeThreadsLaw" 93 (⟨"OppositeThreads", "seen", "(III)I"⟩ : MethodName) ∈ jx_G := jx_mem 570 (by decide +kernel) (by decide +kernel)
theorem jw_135 : Cond.instanceMethod (⟨"OppositeThreads", "seen", "(III)I"⟩ : MethodName) ∈ jx_G := jx_mem 571 (by decide +kernel) (by decide +kernel)
theorem jw_136 : Cond.selects "OppositeThreads" (⟨"OppositeThreads", "seen", "(III)I"⟩ : MethodName) (⟨"OppositeThreads", "seen", "(III)I"⟩ : MethodName) ∈ jx_G := jx_mem 572 (by decide +kernel) (by decide +kernel)
theorem jw_137 : Cond.methodLink "OppositeThreadsLaw" 96 (⟨"OppositeThreadsModel", "seen", "(III)I"⟩ : MethodName) ∈ jx_G := jx_mem 1004 (by decide +kernel) (by decide +kernel)
theorem jw_138 : Cond.instanceMethod (⟨"OppositeThreadsModel", "seen", "(III)I"⟩ : MethodName) ∈ jx_G := jx_mem 1005 (by decide +kernel) (by decide +kernel)
theorem jw_139 : Cond.selects "OppositeThreadsModel" (⟨"OppositeThreadsModel", "seen", "(III)I"⟩ : MethodName) (⟨"OppositeThreadsModel", "seen", "(III)I"⟩ : MethodName) ∈ jx_G := jx_mem 1006 (by decide +kernel) (by decide +kernel)
theorem jw_140 : Cond.methodLink "OppositeThreadsLaw" 97 (⟨"OppositeThreads", "forget", "()I"⟩ : MethodName) ∈ jx_G := jx_mem 581 (by decide +kernel) (by decide +kernel)
theorem jw_141 : Cond.instanceMethod (⟨"OppositeThreads", "forget", "()I"⟩ : MethodName) ∈ jx_G := jx_mem 582 (by decide +kernel) (by decide +kernel)
theorem jw_142 : Cond.selects "OppositeThreads" (⟨"OppositeThreads", "forget", "()I"⟩ : MethodName) (⟨"OppositeThreads", "forget", "()I"⟩ : MethodName) ∈ jx_G := jx_mem 583 (by decide +kernel) (by decide +kernel)
theorem jw_143 : Cond.methodLink "OppositeThreadsLaw" 100 (⟨"OppositeThreadsModel", "forget", "()I"⟩ : MethodName) ∈ jx_G := jx_mem 1009 (by decide +kernel) (by decide +kernel)
theorem jw_144 : Cond.instanceMethod (⟨"OppositeThreadsModel", "forget", "()I"⟩ : MethodName) ∈ jx_G := jx_mem 1010 (by decide +kernel) (by decide +kernel)
theorem jw_145 : Cond.selects "OppositeThreadsModel" (⟨"OppositeThreadsModel", "forget", "()I"⟩ : MethodName) (⟨"OppositeThreadsModel", "forget", "()I"⟩ : MethodName) ∈ jx_G := jx_mem 1011 (by decide +kernel) (by decide +kernel)
theorem jw_146 : Cond.methodLink "OppositeThreadsLaw" 101 (⟨"OppositeThreads", "kinds", "()I"⟩ : MethodName) ∈ jx_G := jx_mem 585 (by decide +kernel) (by decide +kernel)
theorem jw_147 : Cond.instanceMethod (⟨"OppositeThreads", "kinds", "()I"⟩ : MethodName) ∈ jx_G := jx_mem 586 (by decide +kernel) (by decide +kernel)
theorem jw_148 : Cond.selects "OppositeThreads" (⟨"OppositeThreads", "kinds", "()I"⟩ : MethodName) (⟨"OppositeThreads", "kinds", "()I"⟩ : MethodName) ∈ jx_G := jx_mem 587 (by decide +kernel) (by decide +kernel)
theorem jw_149 : Cond.methodLink "OppositeThreadsLaw" 104 (⟨"OppositeThreadsModel", "kinds", "()I"⟩ : MethodName) ∈ jx_G := jx_mem 1013 (by decide +kernel) (by decide +kernel)
theorem jw_150 : Cond.instanceMethod (⟨"OppositeThreadsModel", "kinds", "()I"⟩ : MethodName) ∈ jx_G := jx_mem 1014 (by decide +kernel) (by decide +kernel)
theorem jw_151 : Cond.selects "OppositeThreadsModel" (⟨"OppositeThreadsModel", "kinds", "()I"⟩ : MethodName) (⟨"OppositeThreadsModel", "kinds", "()I"⟩ : MethodName) ∈ jx_G := jx_mem 1015 (by decide +kernel) (by decide +kernel)
theorem jw_152 : Cond.methodLink "OppositeThreadsLaw" 105 (⟨"OppositeThreads", "ask", "()I"⟩ : MethodName) ∈ jx_G := jx_mem 602 (by decide +kernel) (by decide +kernel)
theorem jw_153 : Cond.instanceMethod (⟨"OppositeThreads", "ask", "()I"⟩ : MethodName) ∈ jx_G := jx_mem 603 (by decide +kernel) (by decide +kernel)
theorem jw_154 : Cond.selects "OppositeThreads" (⟨"OppositeThreads", "ask", "()I"⟩ : MethodName) (⟨"OppositeThreads", "ask", "()I"⟩ : MethodName) ∈ jx_G := jx_mem 604 (by decide +kernel) (by decide +kernel)
theorem jw_155 : Cond.methodLink "OppositeThreadsLaw" 108 (⟨"OppositeThreadsModel", "ask", "()I"⟩ : MethodName) ∈ jx_G := jx_mem 1020 (by decide +kernel) (by decide +kernel)
theorem jw_156 : Cond.instanceMethod (⟨"OppositeThreadsModel", "ask", "()I"⟩ : MethodName) ∈ jx_G := jx_mem 1021 (by decide +kernel) (by decide +kernel)
theorem jw_157 : Cond.selects "OppositeThreadsModel" (⟨"OppositeThreadsModel", "ask", "()I"⟩ : MethodName) (⟨"OppositeThreadsModel", "ask", "()I"⟩ : MethodName) ∈ jx_G := jx_mem 1022 (by decide +kernel) (by decide +kernel)
theorem jw_158 : Cond.methodLink "OppositeThreadsLaw" 109 (⟨"OppositeThreads", "sheet", "(III)I"⟩ : MethodName) ∈ jx_G := jx_mem 619 (by decide +kernel) (by decide +kernel)
theorem jw_159 : Cond.instanceMethod (⟨"OppositeThreads", "sheet", "(III)I"⟩ : MethodName) ∈ jx_G := jx_mem 620 (by decide +kernel) (by decide +kernel)
theorem jw_160 : Cond.selects "OppositeThreads" (⟨"OppositeThreads", "sheet", "(III)I"⟩ : MethodName) (⟨"OppositeThreads", "sheet", "(III)I"⟩ : MethodName) ∈ jx_G := jx_mem 621 (by decide +kernel) (by decide +kernel)
theorem jw_161 : Cond.methodLink "OppositeThreadsLaw" 112 (⟨"OppositeThreadsModel", "sheet", "(III)I"⟩ : MethodName) ∈ jx_G := jx_mem 1025 (by decide +kernel) (by decide +kernel)
theorem jw_162 : Cond.instanceMethod (⟨"OppositeThreadsModel", "sheet", "(III)I"⟩ : MethodName) ∈ jx_G := jx_mem 1026 (by decide +kernel) (by decide +kernel)
theorem jw_163 : Cond.selects "OppositeThreadsModel" (⟨"OppositeThreadsModel", "sheet", "(III)I"⟩ : MethodName) (⟨"OppositeThreadsModel", "sheet", "(III)I"⟩ : MethodName) ∈ jx_G := jx_mem 1027 (by decide +kernel) (by decide +kernel)
theorem jw_164 : Cond.methodLink "OppositeThreadsLaw" 113 (⟨"OppositeThreads", "set", "(IIII)I"⟩ : MethodName) ∈ jx_G := jx_mem 635 (by decide +kernel) (by decide +kernel)
theorem jw_165 : Cond.instanceMethod (⟨"OppositeThreads", "set", "(IIII)I"⟩ : MethodName) ∈ jx_G := jx_mem 636 (by decide +kernel) (by decide +kernel)
theorem jw_166 : Cond.selects "OppositeThreads" (⟨"OppositeThreads", "set", "(IIII)I"⟩ : MethodName) (⟨"OppositeThreads", "set", "(IIII)I"⟩ : MethodName) ∈ jx_G := jx_mem 637 (by decide +kernel) (by decide +kernel)
theorem jw_167 : Cond.methodLink "OppositeThreadsLaw" 117 (⟨"OppositeThreadsModel", "set", "(IIII)I"⟩ : MethodName) ∈ jx_G := jx_mem 1033 (by decide +kernel) (by decide +kernel)
theorem jw_168 : Cond.instanceMethod (⟨"OppositeThreadsModel", "set", "(IIII)I"⟩ : MethodName) ∈ jx_G := jx_mem 1034 (by decide +kernel) (by decide +kernel)
theorem jw_169 : Cond.selects "OppositeThreadsModel" (⟨"OppositeThreadsModel", "set", "(IIII)I"⟩ : MethodName) (⟨"OppositeThreadsModel", "set", "(IIII)I"⟩ : MethodName) ∈ jx_G := jx_mem 1035 (by decide +kernel) (by decide +kernel)
theorem jw_170 : Cond.methodLink "OppositeThreadsLaw" 118 (⟨"OppositeThreads", "get", "(III)I"⟩ : MethodName) ∈ jx_G := jx_mem 651 (by decide +kernel) (by decide +kernel)
theorem jw_171 : Cond.instanceMethod (⟨"OppositeThreads", "get", "(III)I"⟩ : MethodName) ∈ jx_G := jx_mem 652 (by decide +kernel) (by decide +kernel)
theorem jw_172 : Cond.selects "OppositeThreads" (⟨"OppositeThreads", "get", "(III)I"⟩ : MethodName) (⟨"OppositeThreads", "get", "(III)I"⟩ : MethodName) ∈ jx_G := jx_mem 653 (by decide +kernel) (by decide +kernel)
theorem jw_173 : Cond.methodLink "OppositeThreadsLaw" 121 (⟨"OppositeThreadsModel", "get", "(III)I"⟩ : MethodName) ∈ jx_G := jx_mem 1044 (by decide +kernel) (by decide +kernel)
theorem jw_174 : Cond.instanceMethod (⟨"OppositeThreadsModel", "get", "(III)I"⟩ : MethodName) ∈ jx_G := jx_mem 1045 (by decide +kernel) (by decide +kernel)
theorem jw_175 : Cond.selects "OppositeThreadsModel" (⟨"OppositeThreadsModel", "get", "(III)I"⟩ : MethodName) (⟨"OppositeThreadsModel", "get", "(III)I"⟩ : MethodName) ∈ jx_G := jx_mem 1046 (by decide +kernel) (by decide +kernel)
theorem jw_176 : Cond.methodLink "OppositeThreadsLaw" 122 (⟨"OppositeThreads", "copy", "(IIIII)I"⟩ : MethodName) ∈ jx_G := jx_mem 655 (by decide +kernel) (by decide +kernel)
theorem jw_177 : Cond.instanceMethod (⟨"OppositeThreads", "copy", "(IIIII)I"⟩ : MethodName) ∈ jx_G := jx_mem 656 (by decide +kernel) (by decide +kernel)
theorem jw_178 : Cond.selects "OppositeThreads" (⟨"OppositeThreads", "copy", "(IIIII)I"⟩ : MethodName) (⟨"OppositeThreads", "copy", "(IIIII)I"⟩ : MethodName) ∈ jx_G := jx_mem 657 (by decide +kernel) (by decide +kernel)
theorem jw_179 : Cond.methodLink "OppositeThreadsLaw" 126 (⟨"OppositeThreadsModel", "copy", "(IIIII)I"⟩ : MethodName) ∈ jx_G := jx_mem 1048 (by decide +kernel) (by decide +kernel)
theorem jw_180 : Cond.instanceMethod (⟨"OppositeThreadsModel", "copy", "(IIIII)I"⟩ : MethodName) ∈ jx_G := jx_mem 1049 (by decide +kernel) (by decide +kernel)
theorem jw_181 : Cond.selects "OppositeThreadsModel" (⟨"OppositeThreadsModel", "copy", "(IIIII)I"⟩ : MethodName) (⟨"OppositeThreadsModel", "copy", "(IIIII)I"⟩ : MethodName) ∈ jx_G := jx_mem 1050 (by decide +kernel) (by decide +kernel)
theorem jw_182 : Cond.methodLink "OppositeThreadsLaw" 127 (⟨"OppositeThreads", "join", "(II)I"⟩ : MethodName) ∈ jx_G := jx_mem 660 (by decide +kernel) (by decide +kernel)
theorem jw_183 : Cond.instanceMethod (⟨"OppositeThreads", "join", "(II)I"⟩ : MethodName) ∈ jx_G := jx_mem 661 (by decide +kernel) (by decide +kernel)
theorem jw_184 : Cond.selects "OppositeThreads" (⟨"OppositeThreads", "join", "(II)I"⟩ : MethodName) (⟨"OppositeThreads", "join", "(II)I"⟩ : MethodName) ∈ jx_G := jx_mem 662 (by decide +kernel) (by decide +kernel)
theorem jw_185 : Cond.methodLink "OppositeThreadsLaw" 130 (⟨"OppositeThreadsModel", "join", "(II)I"⟩ : MethodName) ∈ jx_G := jx_mem 1056 (by decide +kernel) (by decide +kernel)
theorem jw_186 : Cond.instanceMethod (⟨"OppositeThreadsModel", "join", "(II)I"⟩ : MethodName) ∈ jx_G := jx_mem 1057 (by decide +kernel) (by decide +kernel)
theorem jw_187 : Cond.selects "OppositeThreadsModel" (⟨"OppositeThreadsModel", "join", "(II)I"⟩ : MethodName) (⟨"OppositeThreadsModel", "join", "(II)I"⟩ : MethodName) ∈ jx_G := jx_mem 1058 (by decide +kernel) (by decide +kernel)
theorem jw_188 : Cond.methodLink "OppositeThreadsLaw" 131 (⟨"OppositeThreads", "sum", "(I)I"⟩ : MethodName) ∈ jx_G := jx_mem 664 (by decide +kernel) (by decide +kernel)
theorem jw_189 : Cond.instanceMethod (⟨"OppositeThreads", "sum", "(I)I"⟩ : MethodName) ∈ jx_G := jx_mem 665 (by decide +kernel) (by decide +kernel)
theorem jw_190 : Cond.selects "OppositeThreads" (⟨"OppositeThreads", "sum", "(I)I"⟩ : MethodName) (⟨"OppositeThreads", "sum", "(I)I"⟩ : MethodName) ∈ jx_G := jx_mem 666 (by decide +kernel) (by decide +kernel)
theorem jw_191 : Cond.methodLink "OppositeThreadsLaw" 134 (⟨"OppositeThreadsModel", "sum", "(I)I"⟩ : MethodName) ∈ jx_G := jx_mem 1060 (by decide +kernel) (by decide +kernel)
theorem jw_192 : Cond.instanceMethod (⟨"OppositeThreadsModel", "sum", "(I)I"⟩ : MethodName) ∈ jx_G := jx_mem 1061 (by decide +kernel) (by decide +kernel)
theorem jw_193 : Cond.selects "OppositeThreadsModel" (⟨"OppositeThreadsModel", "sum", "(I)I"⟩ : MethodName) (⟨"OppositeThreadsModel", "sum", "(I)I"⟩ : MethodName) ∈ jx_G := jx_mem 1062 (by decide +kernel) (by decide +kernel)
theorem jw_194 : Cond.methodLink "OppositeThreadsLaw" 135 (⟨"OppositeThreads", "drop", "(I)I"⟩ : MethodName) ∈ jx_G := jx_mem 673 (by decide +kernel) (by decide +kernel)
theorem jw_195 : Cond.instanceMethod (⟨"OppositeThreads", "drop", "(I)I"⟩ : MethodName) ∈ jx_G := jx_mem 674 (by decide +kernel) (by decide +kernel)
theorem jw_196 : Cond.selects "OppositeThreads" (⟨"OppositeThreads", "drop", "(I)I"⟩ : MethodName) (⟨"OppositeThreads", "drop", "(I)I"⟩ : MethodName) ∈ jx_G := jx_mem 675 (by decide +kernel) (by decide +kernel)
theorem jw_197 : Cond.methodLink "OppositeThreadsLaw" 138 (⟨"OppositeThreadsModel", "drop", "(I)I"⟩ : MethodName) ∈ jx_G := jx_mem 1065 (by decide +kernel) (by decide +kernel)
theorem jw_198 : Cond.instanceMethod (⟨"OppositeThreadsModel", "drop", "(I)I"⟩ : MethodName) ∈ jx_G := jx_mem 1066 (by decide +kernel) (by decide +kernel)
theorem jw_199 : Cond.selects "OppositeThreadsModel" (⟨"OppositeThreadsModel", "drop", "(I)I"⟩ : MethodName) (⟨"OppositeThreadsModel", "drop", "(I)I"⟩ : MethodName) ∈ jx_G := jx_mem 1067 (by decide +kernel) (by decide +kernel)
theorem jw_200 : Cond.methodLink "OppositeThreadsLaw" 139 (⟨"OppositeThreads", "count", "(I)I"⟩ : MethodName) ∈ jx_G := jx_mem 677 (by decide +kernel) (by decide +kernel)
theorem jw_201 : Cond.instanceMethod (⟨"OppositeThreads", "count", "(I)I"⟩ : MethodName) ∈ jx_G := jx_mem 678 (by decide +kernel) (by decide +kernel)
theorem jw_202 : Cond.selects "OppositeThreads" (⟨"OppositeThreads", "count", "(I)I"⟩ : MethodName) (⟨"OppositeThreads", "count", "(I)I"⟩ : MethodName) ∈ jx_G := jx_mem 679 (by decide +kernel) (by decide +kernel)
theorem jw_203 : Cond.methodLink "OppositeThreadsLaw" 142 (⟨"OppositeThreadsModel", "count", "(I)I"⟩ : MethodName) ∈ jx_G := jx_mem 1069 (by decide +kernel) (by decide +kernel)
theorem jw_204 : Cond.instanceMethod (⟨"OppositeThreadsModel", "count", "(I)I"⟩ : MethodName) ∈ jx_G := jx_mem 1070 (by decide +kernel) (by decide +kernel)
theorem jw_205 : Cond.selects "OppositeThreadsModel" (⟨"OppositeThreadsModel", "count", "(I)I"⟩ : MethodName) (⟨"OppositeThreadsModel", "count", "(I)I"⟩ : MethodName) ∈ jx_G := jx_mem 1071 (by decide +kernel) (by decide +kernel)
set_option maxRecDepth 20000 in
theorem jo_Law : ∀ q ∈ jp_Law, jx_okP jx_nm "OppositeThreadsLaw" q.1 q.2 := List.forall_mem_cons.mpr ⟨⟨_, rfl, jw_14⟩, List.forall_mem_cons.mpr ⟨⟨_, rfl, jw_15, jw_16, rfl, rfl, jq_Main_init⟩, List.forall_mem_cons.mpr ⟨⟨_, rfl, jw_17⟩, List.forall_mem_cons.mpr ⟨⟨_, rfl, jw_18, jw_19, rfl, rfl, jq_Model_init⟩, List.forall_mem_cons.mpr ⟨⟨_, rfl, jw_20, jw_21, jw_22, jq_Main_write⟩, List.forall_mem_cons.mpr ⟨⟨_, rfl, jw_23, jw_24, jw_25, jq_Model_write⟩, List.forall_mem_cons.mpr ⟨⟨_, rfl, jw_26, jw_27, jw_28, jq_Main_erase⟩, List.forall_mem_cons.mpr ⟨⟨_, rfl, jw_29, jw_30, jw_31, jq_Model_erase⟩, List.forall_mem_cons.mpr ⟨⟨_, rfl, jw_32, jw_33, jw_34, jq_Main_fault⟩, List.forall_mem_cons.mpr ⟨⟨_, rfl, jw_35, jw_36, jw_37, jq_Model_fault⟩, List.forall_mem_cons.mpr ⟨⟨_, rfl, jw_38, jw_39, jw_40, jq_Main_army⟩, List.forall_mem_cons.mpr ⟨⟨_, rfl, jw_41, jw_42, jw_43, jq_Model_army⟩, List.forall_mem_cons.mpr ⟨⟨_, rfl, jw_44, jw_45, jw_46, jq_Main_man⟩, List.forall_mem_cons.mpr ⟨⟨_, rfl, jw_47, jw_48, jw_49, jq_Model_man⟩, List.forall_mem_cons.mpr ⟨⟨_, rfl, jw_50, jw_51, jw_52, jq_Main_as⟩, List.forall_mem_cons.mpr ⟨⟨_, rfl, jw_53, jw_54, jw_55, jq_Model_as⟩, List.forall_mem_cons.mpr ⟨⟨_, rfl, jw_56, jw_57, jw_58, jq_Main_day⟩, List.forall_mem_cons.mpr ⟨⟨_, rfl, jw_59, jw_60, jw_61, jq_Model_day⟩, List.forall_mem_cons.mpr ⟨⟨_, rfl, jw_62, jw_63, jw_64, jq_Main_mend⟩, List.forall_mem_cons.mpr ⟨⟨_, rfl, jw_65, jw_66, jw_67, jq_Model_mend⟩, List.forall_mem_cons.mpr ⟨⟨_, rfl, jw_68, jw_69, jw_70, jq_Main_swap⟩, List.forall_mem_cons.mpr ⟨⟨_, rfl, jw_71, jw_72, jw_73, jq_Model_swap⟩, List.forall_mem_cons.mpr ⟨⟨_, rfl, jw_74, jw_75, jw_76, jq_Main_undo⟩, List.forall_mem_cons.mpr ⟨⟨_, rfl, jw_77, jw_78, jw_79, jq_Model_undo⟩, List.forall_mem_cons.mpr ⟨⟨_, rfl, jw_80, jw_81, jw_82, jq_Main_keep⟩, List.forall_mem_cons.mpr ⟨⟨_, rfl, jw_83, jw_84, jw_85, jq_Model_keep⟩, List.forall_mem_cons.mpr ⟨⟨_, rfl, jw_86, jw_87, jw_88, jq_Main_back⟩, List.forall_mem_cons.mpr ⟨⟨_, rfl, jw_89, jw_90, jw_91, jq_Model_back⟩, List.forall_mem_cons.mpr ⟨⟨_, rfl, jw_92, jw_93, jw_94, jq_Main_behind⟩, List.forall_mem_cons.mpr ⟨⟨_, rfl, jw_95, jw_96, jw_97, jq_Model_behind⟩, List.forall_mem_cons.mpr ⟨⟨_, rfl, jw_98, jw_99, jw_100, jq_Main_home⟩, List.forall_mem_cons.mpr ⟨⟨_, rfl, jw_101, jw_102, jw_103, jq_Model_home⟩, List.forall_mem_cons.mpr ⟨⟨_, rfl, jw_104, jw_105, jw_106, jq_Main_quiet⟩, List.forall_mem_cons.mpr ⟨⟨_, rfl, jw_107, jw_108, jw_109, jq_Model_quiet⟩, List.forall_mem_cons.mpr ⟨⟨_, rfl, jw_110, jw_111, jw_112, jq_Main_left⟩, List.forall_mem_cons.mpr ⟨⟨_, rfl, jw_113, jw_114, jw_115, jq_Model_left⟩, List.forall_mem_cons.mpr ⟨⟨_, rfl, jw_116, jw_117, jw_118, jq_Main_coat⟩, List.forall_mem_cons.mpr ⟨⟨_, rfl, jw_119, jw_120, jw_121, jq_Model_coat⟩, List.forall_mem_cons.mpr ⟨⟨_, rfl, jw_122, jw_123, jw_124, jq_Main_pairs⟩, List.forall_mem_cons.mpr ⟨⟨_, rfl, jw_125, jw_126, jw_127, jq_Model_pairs⟩, List.forall_mem_cons.mpr ⟨⟨_, rfl, jw_128, jw_129, jw_130, jq_Main_keeps⟩, List.forall_mem_cons.mpr ⟨⟨_, rfl, jw_131, jw_132, jw_133, jq_Model_keeps⟩, List.forall_mem_cons.mpr ⟨⟨_, rfl, jw_134, jw_135, jw_136, jq_Main_seen⟩, List.forall_mem_cons.mpr ⟨⟨_, rfl, jw_137, jw_138, jw_139, jq_Model_seen⟩, List.forall_mem_cons.mpr ⟨⟨_, rfl, jw_140, jw_141, jw_142, jq_Main_forget⟩, List.forall_mem_cons.mpr ⟨⟨_, rfl, jw_143, jw_144, jw_145, jq_Model_forget⟩, List.forall_mem_cons.mpr ⟨⟨_, rfl, jw_146, jw_147, jw_148, jq_Main_kinds⟩, List.forall_mem_cons.mpr ⟨⟨_, rfl, jw_149, jw_150, jw_151, jq_Model_kinds⟩, List.forall_mem_cons.mpr ⟨⟨_, rfl, jw_152, jw_153, jw_154, jq_Main_ask⟩, List.forall_mem_cons.mpr ⟨⟨_, rfl, jw_155, jw_156, jw_157, jq_Model_ask⟩, List.forall_mem_cons.mpr ⟨⟨_, rfl, jw_158, jw_159, jw_160, jq_Main_sheet⟩, List.forall_mem_cons.mpr ⟨⟨_, rfl, jw_161, jw_162, jw_163, jq_Model_sheet⟩, List.forall_mem_cons.mpr ⟨⟨_, rfl, jw_164, jw_165, jw_166, jq_Main_set⟩, List.forall_mem_cons.mpr ⟨⟨_, rfl, jw_167, jw_168, jw_169, jq_Model_set⟩, List.forall_mem_cons.mpr ⟨⟨_, rfl, jw_170, jw_171, jw_172, jq_Main_get⟩, List.forall_mem_cons.mpr ⟨⟨_, rfl, jw_173, jw_174, jw_175, jq_Model_get⟩, List.forall_mem_cons.mpr ⟨⟨_, rfl, jw_176, jw_177, jw_178, jq_Main_copy⟩, List.forall_mem_cons.mpr ⟨⟨_, rfl, jw_179, jw_180, jw_181, jq_Model_copy⟩, List.forall_mem_cons.mpr ⟨⟨_, rfl, jw_182, jw_183, jw_184, jq_Main_join⟩, List.forall_mem_cons.mpr ⟨⟨_, rfl, jw_185, jw_186, jw_187, jq_Model_join⟩, List.forall_mem_cons.mpr ⟨⟨_, rfl, jw_188, jw_189, jw_190, jq_Main_sum⟩, List.forall_mem_cons.mpr ⟨⟨_, rfl, jw_191, jw_192, jw_193, jq_Model_sum⟩, List.forall_mem_cons.mpr ⟨⟨_, rfl, jw_194, jw_195, jw_196, jq_Main_drop⟩, List.forall_mem_cons.mpr ⟨⟨_, rfl, jw_197, jw_198, jw_199, jq_Model_drop⟩, List.forall_mem_cons.mpr ⟨⟨_, rfl, jw_200, jw_201, jw_202, jq_Main_count⟩, List.forall_mem_cons.mpr ⟨⟨_, rfl, jw_203, jw_204, jw_205, jq_Model_count⟩, fun _ h => absurd h List.not_mem_nil⟩⟩⟩⟩⟩⟩⟩⟩⟩⟩⟩⟩⟩⟩⟩⟩⟩⟩⟩⟩⟩⟩⟩⟩⟩⟩⟩⟩⟩⟩⟩⟩⟩⟩⟩⟩⟩⟩⟩⟩⟩⟩⟩⟩⟩⟩⟩⟩⟩⟩⟩⟩⟩⟩⟩⟩⟩⟩⟩⟩⟩⟩⟩⟩⟩⟩
theorem jw_206 : Cond.methodLink "OppositeThreads" 1 Lib.objectInit ∈ jx_G := jx_mem 70 (by decide +kernel) (by decide +kernel)
theorem jw_207 : Cond.classLink "OppositeThreads" 7 jc_R0 ∈ jx_G := jx_mem 73 (by decide +kernel) (by decide +kernel)
theorem jw_208 : Cond.methodLink "OppositeThreads" 9 (⟨"OppositeThreads$Army", "<init>", "()V"⟩ : MethodName) ∈ jx_G := jx_mem 75 (by decide +kernel) (by decide +kernel)
theorem jw_209 : Cond.instanceMethod (⟨"OppositeThreads$Army", "<init>", "()V"⟩ : MethodName) ∈ jx_G := jx_mem 76 (by decide +kernel) (by decide +kernel)
theorem jw_210 : Cond.fieldLink "OppositeThreads" 10 "OppositeThreads" "told" "LOppositeThreads$Army;" ∈ jx_G := jx_mem 205 (by decide +kernel) (by decide +kernel)
theorem jw_211 : Cond.fieldLink "OppositeThreads" 16 "OppositeThreads" "now" "LOppositeThreads$Army;" ∈ jx_G := jx_mem 206 (by decide +kernel) (by decide +kernel)
theorem jw_212 : Cond.fieldLink "OppositeThreads" 19 "OppositeThreads" "trial" "LOppositeThreads$Army;" ∈ jx_G := jx_mem 207 (by decide +kernel) (by decide +kernel)
theorem jw_213 : Cond.classLink "OppositeThreads" 22 jc_R4 ∈ jx_G := jx_mem 115 (by decide +kernel) (by decide +kernel)
theorem jw_214 : Cond.methodLink "OppositeThreads" 24 (⟨"OppositeThreads$Text", "<init>", "()V"⟩ : MethodName) ∈ jx_G := jx_mem 117 (by decide +kernel) (by decide +kernel)
theorem jw_215 : Cond.instanceMethod (⟨"OppositeThreads$Text", "<init>", "()V"⟩ : MethodName) ∈ jx_G := jx_mem 118 (by decide +kernel) (by decide +kernel)
theorem jw_216 : Cond.fieldLink "OppositeThreads" 25 "OppositeThreads" "text" "LOppositeThreads$Text;" ∈ jx_G := jx_mem 208 (by decide +kernel) (by decide +kernel)
theorem jw_217 : Cond.classLink "OppositeThreads" 29 jc_R1 ∈ jx_G := jx_mem 146 (by decide +kernel) (by decide +kernel)
theorem jw_218 : Cond.methodLink "OppositeThreads" 31 (⟨"OppositeThreads$Past", "<init>", "()V"⟩ : MethodName) ∈ jx_G := jx_mem 148 (by decide +kernel) (by decide +kernel)
theorem jw_219 : Cond.instanceMethod (⟨"OppositeThreads$Past", "<init>", "()V"⟩ : MethodName) ∈ jx_G := jx_mem 149 (by decide +kernel) (by decide +kernel)
theorem jw_220 : Cond.fieldLink "OppositeThreads" 32 "OppositeThreads" "past" "LOppositeThreads$Past;" ∈ jx_G := jx_mem 209 (by decide +kernel) (by decide +kernel)
theorem jw_221 : Cond.fieldLink "OppositeThreads" 36 "OppositeThreads" "kept" "[LOppositeThreads$Army;" ∈ jx_G := jx_mem 210 (by decide +kernel) (by decide +kernel)
theorem jw_222 : Cond.fieldLink "OppositeThreads" 40 "OppositeThreads" "isKept" "[Z" ∈ jx_G := jx_mem 211 (by decide +kernel) (by decide +kernel)
theorem jw_223 : Cond.classLink "OppositeThreads" 44 jc_R3 ∈ jx_G := jx_mem 166 (by decide +kernel) (by decide +kernel)
theorem jw_224 : Cond.methodLink "OppositeThreads" 46 (⟨"OppositeThreads$Sightings", "<init>", "()V"⟩ : MethodName) ∈ jx_G := jx_mem 168 (by decide +kernel) (by decide +kernel)
theorem jw_225 : Cond.instanceMethod (⟨"OppositeThreads$Sightings", "<init>", "()V"⟩ : MethodName) ∈ jx_G := jx_mem 169 (by decide +kernel) (by decide +kernel)
theorem jw_226 : Cond.fieldLink "OppositeThreads" 47 "OppositeThreads" "sightings" "LOppositeThreads$Sightings;" ∈ jx_G := jx_mem 212 (by decide +kernel) (by decide +kernel)
theorem jw_227 : Cond.classLink "OppositeThreads" 51 jc_R2 ∈ jx_G := jx_mem 184 (by decide +kernel) (by decide +kernel)
theorem jw_228 : Cond.fieldLink "OppositeThreads" 53 "OppositeThreads" "sheets" "[LOppositeThreads$Sheet;" ∈ jx_G := jx_mem 213 (by decide +kernel) (by decide +kernel)
theorem jw_229 : Cond.methodLink "OppositeThreads" 57 (⟨"OppositeThreads$Sheet", "<init>", "()V"⟩ : MethodName) ∈ jx_G := jx_mem 187 (by decide +kernel) (by decide +kernel)
theorem jw_230 : Cond.instanceMethod (⟨"OppositeThreads$Sheet", "<init>", "()V"⟩ : MethodName) ∈ jx_G := jx_mem 188 (by decide +kernel) (by decide +kernel)
theorem jw_231 : Cond.methodLink "OppositeThreads" 58 (⟨"OppositeThreads$Text", "add", "(C)Z"⟩ : MethodName) ∈ jx_G := jx_mem 237 (by decide +kernel) (by decide +kernel)
theorem jw_232 : Cond.instanceMethod (⟨"OppositeThreads$Text", "add", "(C)Z"⟩ : MethodName) ∈ jx_G := jx_mem 238 (by decide +kernel) (by decide +kernel)
theorem jw_233 : Cond.selects "OppositeThreads$Text" (⟨"OppositeThreads$Text", "add", "(C)Z"⟩ : MethodName) (⟨"OppositeThreads$Text", "add", "(C)Z"⟩ : MethodName) ∈ jx_G := jx_mem 239 (by decide +kernel) (by decide +kernel)
theorem jw_234 : Cond.methodLink "OppositeThreads" 66 (⟨"OppositeThreads$Text", "readOnto", "(LOppositeThreads$Army;)I"⟩ : MethodName) ∈ jx_G := jx_mem 249 (by decide +kernel) (by decide +kernel)
theorem jw_235 : Cond.instanceMethod (⟨"OppositeThreads$Text", "readOnto", "(LOppositeThreads$Army;)I"⟩ : MethodName) ∈ jx_G := jx_mem 250 (by decide +kernel) (by decide +kernel)
theorem jw_236 : Cond.selects "OppositeThreads$Text" (⟨"OppositeThreads$Text", "readOnto", "(LOppositeThreads$Army;)I"⟩ : MethodName) (⟨"OppositeThreads$Text", "readOnto", "(LOppositeThreads$Army;)I"⟩ : MethodName) ∈ jx_G := jx_mem 251 (by decide +kernel) (by decide +kernel)
theorem jw_237 : Cond.methodLink "OppositeThreads" 73 (⟨"OppositeThreads$Army", "takeFrom", "(LOppositeThreads$Army;)V"⟩ : MethodName) ∈ jx_G := jx_mem 372 (by decide +kernel) (by decide +kernel)
theorem jw_238 : Cond.instanceMethod (⟨"OppositeThreads$Army", "takeFrom", "(LOppositeThreads$Army;)V"⟩ : MethodName) ∈ jx_G := jx_mem 254 (by decide +kernel) (by decide +kernel)
theorem jw_239 : Cond.selects "OppositeThreads$Army" (⟨"OppositeThreads$Army", "takeFrom", "(LOppositeThreads$Army;)V"⟩ : MethodName) (⟨"OppositeThreads$Army", "takeFrom", "(LOppositeThreads$Army;)V"⟩ : MethodName) ∈ jx_G := jx_mem 255 (by decide +kernel) (by decide +kernel)
theorem jw_240 : Cond.methodLink "OppositeThreads" 77 (⟨"OppositeThreads$Past", "clear", "()V"⟩ : MethodName) ∈ jx_G := jx_mem 373 (by decide +kernel) (by decide +kernel)
theorem jw_241 : Cond.instanceMethod (⟨"OppositeThreads$Past", "clear", "()V"⟩ : MethodName) ∈ jx_G := jx_mem 374 (by decide +kernel) (by decide +kernel)
theorem jw_242 : Cond.selects "OppositeThreads$Past" (⟨"OppositeThreads$Past", "clear", "()V"⟩ : MethodName) (⟨"OppositeThreads$Past", "clear", "()V"⟩ : MethodName) ∈ jx_G := jx_mem 375 (by decide +kernel) (by decide +kernel)
theorem jw_243 : Cond.methodLink "OppositeThreads" 83 (⟨"OppositeThreads$Sheet", "lose", "()V"⟩ : MethodName) ∈ jx_G := jx_mem 377 (by decide +kernel) (by decide +kernel)
theorem jw_244 : Cond.instanceMethod (⟨"OppositeThreads$Sheet", "lose", "()V"⟩ : MethodName) ∈ jx_G := jx_mem 378 (by decide +kernel) (by decide +kernel)
theorem jw_245 : Cond.selects "OppositeThreads$Sheet" (⟨"OppositeThreads$Sheet", "lose", "()V"⟩ : MethodName) (⟨"OppositeThreads$Sheet", "lose", "()V"⟩ : MethodName) ∈ jx_G := jx_mem 379 (by decide +kernel) (by decide +kernel)
theorem jw_246 : Cond.methodLink "OppositeThreads" 89 (⟨"OppositeThreads$Army", "has", "(I)Z"⟩ : MethodName) ∈ jx_G := jx_mem 385 (by decide +kernel) (by decide +kernel)
theorem jw_247 : Cond.instanceMethod (⟨"OppositeThreads$Army", "has", "(I)Z"⟩ : MethodName) ∈ jx_G := jx_mem 348 (by decide +kernel) (by decide +kernel)
theorem jw_248 : Cond.selects "OppositeThreads$Army" (⟨"OppositeThreads$Army", "has", "(I)Z"⟩ : MethodName) (⟨"OppositeThreads$Army", "has", "(I)Z"⟩ : MethodName) ∈ jx_G := jx_mem 349 (by decide +kernel) (by decide +kernel)
theorem jw_249 : Cond.methodLink "OppositeThreads" 103 (⟨"OppositeThreads$Army", "aimOf", "(I)I"⟩ : MethodName) ∈ jx_G := jx_mem 386 (by decide +kernel) (by decide +kernel)
theorem jw_250 : Cond.instanceMethod (⟨"OppositeThreads$Army", "aimOf", "(I)I"⟩ : MethodName) ∈ jx_G := jx_mem 387 (by decide +kernel) (by decide +kernel)
theorem jw_251 : Cond.selects "OppositeThreads$Army" (⟨"OppositeThreads$Army", "aimOf", "(I)I"⟩ : MethodName) (⟨"OppositeThreads$Army", "aimOf", "(I)I"⟩ : MethodName) ∈ jx_G := jx_mem 388 (by decide +kernel) (by decide +kernel)
theorem jw_252 : Cond.methodLink "OppositeThreads" 107 (⟨"OppositeThreads$Kinds", "hitOf", "(I)I"⟩ : MethodName) ∈ jx_G := jx_mem 416 (by decide +kernel) (by decide +kernel)
theorem jw_253 : Cond.static (⟨"OppositeThreads$Kinds", "hitOf", "(I)I"⟩ : MethodName) ∈ jx_G := jx_mem 417 (by decide +kernel) (by decide +kernel)
theorem jw_254 : Cond.methodLink "OppositeThreads" 112 (⟨"OppositeThreads$Army", "knowersOf", "(I)I"⟩ : MethodName) ∈ jx_G := jx_mem 419 (by decide +kernel) (by decide +kernel)
theorem jw_255 : Cond.instanceMethod (⟨"OppositeThreads$Army", "knowersOf", "(I)I"⟩ : MethodName) ∈ jx_G := jx_mem 420 (by decide +kernel) (by decide +kernel)
theorem jw_256 : Cond.selects "OppositeThreads$Army" (⟨"OppositeThreads$Army", "knowersOf", "(I)I"⟩ : MethodName) (⟨"OppositeThreads$Army", "knowersOf", "(I)I"⟩ : MethodName) ∈ jx_G := jx_mem 421 (by decide +kernel) (by decide +kernel)
theorem jw_257 : Cond.methodLink "OppositeThreads" 115 (⟨"OppositeThreads$Kinds", "isOne", "(II)Z"⟩ : MethodName) ∈ jx_G := jx_mem 427 (by decide +kernel) (by decide +kernel)
theorem jw_258 : Cond.static (⟨"OppositeThreads$Kinds", "isOne", "(II)Z"⟩ : MethodName) ∈ jx_G := jx_mem 428 (by decide +kernel) (by decide +kernel)
theorem jw_259 : Cond.methodLink "OppositeThreads" 122 (⟨"OppositeThreads$Past", "remember", "(LOppositeThreads$Army;)V"⟩ : MethodName) ∈ jx_G := jx_mem 436 (by decide +kernel) (by decide +kernel)
theorem jw_260 : Cond.instanceMethod (⟨"OppositeThreads$Past", "remember", "(LOppositeThreads$Army;)V"⟩ : MethodName) ∈ jx_G := jx_mem 437 (by decide +kernel) (by decide +kernel)
theorem jw_261 : Cond.selects "OppositeThreads$Past" (⟨"OppositeThreads$Past", "remember", "(LOppositeThreads$Army;)V"⟩ : MethodName) (⟨"OppositeThreads$Past", "remember", "(LOppositeThreads$Army;)V"⟩ : MethodName) ∈ jx_G := jx_mem 438 (by decide +kernel) (by decide +kernel)
theorem jw_262 : Cond.methodLink "OppositeThreads" 125 (⟨"OppositeThreads$Army", "pass", "(I)V"⟩ : MethodName) ∈ jx_G := jx_mem 442 (by decide +kernel) (by decide +kernel)
theorem jw_263 : Cond.instanceMethod (⟨"OppositeThreads$Army", "pass", "(I)V"⟩ : MethodName) ∈ jx_G := jx_mem 443 (by decide +kernel) (by decide +kernel)
theorem jw_264 : Cond.selects "OppositeThreads$Army" (⟨"OppositeThreads$Army", "pass", "(I)V"⟩ : MethodName) (⟨"OppositeThreads$Army", "pass", "(I)V"⟩ : MethodName) ∈ jx_G := jx_mem 444 (by decide +kernel) (by decide +kernel)
theorem jw_265 : Cond.methodLink "OppositeThreads" 129 (⟨"OppositeThreads", "areTwoMen", "(II)Z"⟩ : MethodName) ∈ jx_G := jx_mem 460 (by decide +kernel) (by decide +kernel)
theorem jw_266 : Cond.instanceMethod (⟨"OppositeThreads", "areTwoMen", "(II)Z"⟩ : MethodName) ∈ jx_G := jx_mem 462 (by decide +kernel) (by decide +kernel)
theorem jw_267 : Cond.selects "OppositeThreads" (⟨"OppositeThreads", "areTwoMen", "(II)Z"⟩ : MethodName) (⟨"OppositeThreads", "areTwoMen", "(II)Z"⟩ : MethodName) ∈ jx_G := jx_mem 13 (by decide +kernel) (by decide +kernel)
theorem jw_268 : Cond.methodLink "OppositeThreads" 132 (⟨"OppositeThreads$Army", "sideOf", "(I)I"⟩ : MethodName) ∈ jx_G := jx_mem 464 (by decide +kernel) (by decide +kernel)
theorem jw_269 : Cond.instanceMethod (⟨"OppositeThreads$Army", "sideOf", "(I)I"⟩ : MethodName) ∈ jx_G := jx_mem 360 (by decide +kernel) (by decide +kernel)
theorem jw_270 : Cond.selects "OppositeThreads$Army" (⟨"OppositeThreads$Army", "sideOf", "(I)I"⟩ : MethodName) (⟨"OppositeThreads$Army", "sideOf", "(I)I"⟩ : MethodName) ∈ jx_G := jx_mem 361 (by decide +kernel) (by decide +kernel)
theorem jw_271 : Cond.methodLink "OppositeThreads" 135 (⟨"OppositeThreads$Past", "restore", "(LOppositeThreads$Army;)Z"⟩ : MethodName) ∈ jx_G := jx_mem 473 (by decide +kernel) (by decide +kernel)
theorem jw_272 : Cond.instanceMethod (⟨"OppositeThreads$Past", "restore", "(LOppositeThreads$Army;)Z"⟩ : MethodName) ∈ jx_G := jx_mem 474 (by decide +kernel) (by decide +kernel)
theorem jw_273 : Cond.selects "OppositeThreads$Past" (⟨"OppositeThreads$Past", "restore", "(LOppositeThreads$Army;)Z"⟩ : MethodName) (⟨"OppositeThreads$Past", "restore", "(LOppositeThreads$Army;)Z"⟩ : MethodName) ∈ jx_G := jx_mem 475 (by decide +kernel) (by decide +kernel)
theorem jw_274 : Cond.methodLink "OppositeThreads" 140 (⟨"OppositeThreads$Army", "isHome", "(I)Z"⟩ : MethodName) ∈ jx_G := jx_mem 493 (by decide +kernel) (by decide +kernel)
theorem jw_275 : Cond.instanceMethod (⟨"OppositeThreads$Army", "isHome", "(I)Z"⟩ : MethodName) ∈ jx_G := jx_mem 391 (by decide +kernel) (by decide +kernel)
theorem jw_276 : Cond.selects "OppositeThreads$Army" (⟨"OppositeThreads$Army", "isHome", "(I)Z"⟩ : MethodName) (⟨"OppositeThreads$Army", "isHome", "(I)Z"⟩ : MethodName) ∈ jx_G := jx_mem 392 (by decide +kernel) (by decide +kernel)
theorem jw_277 : Cond.methodLink "OppositeThreads" 143 (⟨"OppositeThreads$Army", "passDay", "()V"⟩ : MethodName) ∈ jx_G := jx_mem 494 (by decide +kernel) (by decide +kernel)
theorem jw_278 : Cond.instanceMethod (⟨"OppositeThreads$Army", "passDay", "()V"⟩ : MethodName) ∈ jx_G := jx_mem 447 (by decide +kernel) (by decide +kernel)
theorem jw_279 : Cond.selects "OppositeThreads$Army" (⟨"OppositeThreads$Army", "passDay", "()V"⟩ : MethodName) (⟨"OppositeThreads$Army", "passDay", "()V"⟩ : MethodName) ∈ jx_G := jx_mem 448 (by decide +kernel) (by decide +kernel)
theorem jw_280 : Cond.methodLink "OppositeThreads" 146 (⟨"OppositeThreads$Army", "aimers", "()I"⟩ : MethodName) ∈ jx_G := jx_mem 499 (by decide +kernel) (by decide +kernel)
theorem jw_281 : Cond.instanceMethod (⟨"OppositeThreads$Army", "aimers", "()I"⟩ : MethodName) ∈ jx_G := jx_mem 500 (by decide +kernel) (by decide +kernel)
theorem jw_282 : Cond.selects "OppositeThreads$Army" (⟨"OppositeThreads$Army", "aimers", "()I"⟩ : MethodName) (⟨"OppositeThreads$Army", "aimers", "()I"⟩ : MethodName) ∈ jx_G := jx_mem 501 (by decide +kernel) (by decide +kernel)
theorem jw_283 : Cond.methodLink "OppositeThreads" 150 (⟨"OppositeThreads", "isSide", "(I)Z"⟩ : MethodName) ∈ jx_G := jx_mem 507 (by decide +kernel) (by decide +kernel)
theorem jw_284 : Cond.static (⟨"OppositeThreads", "isSide", "(I)Z"⟩ : MethodName) ∈ jx_G := jx_mem 508 (by decide +kernel) (by decide +kernel)
theorem jw_285 : Cond.methodLink "OppositeThreads" 153 (⟨"OppositeThreads$Army", "leftOf", "(I)I"⟩ : MethodName) ∈ jx_G := jx_mem 510 (by decide +kernel) (by decide +kernel)
theorem jw_286 : Cond.instanceMethod (⟨"OppositeThreads$Army", "leftOf", "(I)I"⟩ : MethodName) ∈ jx_G := jx_mem 511 (by decide +kernel) (by decide +kernel)
theorem jw_287 : Cond.selects "OppositeThreads$Army" (⟨"OppositeThreads$Army", "leftOf", "(I)I"⟩ : MethodName) (⟨"OppositeThreads$Army", "leftOf", "(I)I"⟩ : MethodName) ∈ jx_G := jx_mem 512 (by decide +kernel) (by decide +kernel)
theorem jw_288 : Cond.methodLink "OppositeThreads" 156 (⟨"OppositeThreads", "isPlanned", "(I)Z"⟩ : MethodName) ∈ jx_G := jx_mem 518 (by decide +kernel) (by decide +kernel)
theorem jw_289 : Cond.static (⟨"OppositeThreads", "isPlanned", "(I)Z"⟩ : MethodName) ∈ jx_G := jx_mem 519 (by decide +kernel) (by decide +kernel)
theorem jw_290 : Cond.methodLink "OppositeThreads" 159 (⟨"OppositeThreads$Army", "leftOfBoth", "()I"⟩ : MethodName) ∈ jx_G := jx_mem 521 (by decide +kernel) (by decide +kernel)
theorem jw_291 : Cond.instanceMethod (⟨"OppositeThreads$Army", "leftOfBoth", "()I"⟩ : MethodName) ∈ jx_G := jx_mem 522 (by decide +kernel) (by decide +kernel)
theorem jw_292 : Cond.selects "OppositeThreads$Army" (⟨"OppositeThreads$Army", "leftOfBoth", "()I"⟩ : MethodName) (⟨"OppositeThreads$Army", "leftOfBoth", "()I"⟩ : MethodName) ∈ jx_G := jx_mem 523 (by decide +kernel) (by decide +kernel)
theorem jw_293 : Cond.methodLink "OppositeThreads" 165 (⟨"OppositeThreads$Army", "firstOf", "(I)I"⟩ : MethodName) ∈ jx_G := jx_mem 526 (by decide +kernel) (by decide +kernel)
theorem jw_294 : Cond.instanceMethod (⟨"OppositeThreads$Army", "firstOf", "(I)I"⟩ : MethodName) ∈ jx_G := jx_mem 364 (by decide +kernel) (by decide +kernel)
theorem jw_295 : Cond.selects "OppositeThreads$Army" (⟨"OppositeThreads$Army", "firstOf", "(I)I"⟩ : MethodName) (⟨"OppositeThreads$Army", "firstOf", "(I)I"⟩ : MethodName) ∈ jx_G := jx_mem 365 (by decide +kernel) (by decide +kernel)
theorem jw_296 : Cond.methodLink "OppositeThreads" 168 (⟨"OppositeThreads$Army", "takePlan", "(II)Z"⟩ : MethodName) ∈ jx_G := jx_mem 531 (by decide +kernel) (by decide +kernel)
theorem jw_297 : Cond.instanceMethod (⟨"OppositeThreads$Army", "takePlan", "(II)Z"⟩ : MethodName) ∈ jx_G := jx_mem 532 (by decide +kernel) (by decide +kernel)
theorem jw_298 : Cond.selects "OppositeThreads$Army" (⟨"OppositeThreads$Army", "takePlan", "(II)Z"⟩ : MethodName) (⟨"OppositeThreads$Army", "takePlan", "(II)Z"⟩ : MethodName) ∈ jx_G := jx_mem 533 (by decide +kernel) (by decide +kernel)
theorem jw_299 : Cond.methodLink "OppositeThreads" 171 (⟨"OppositeThreads$Army", "placeInPlan", "(II)I"⟩ : MethodName) ∈ jx_G := jx_mem 539 (by decide +kernel) (by decide +kernel)
theorem jw_300 : Cond.instanceMethod (⟨"OppositeThreads$Army", "placeInPlan", "(II)I"⟩ : MethodName) ∈ jx_G := jx_mem 536 (by decide +kernel) (by decide +kernel)
theorem jw_301 : Cond.selects "OppositeThreads$Army" (⟨"OppositeThreads$Army", "placeInPlan", "(II)I"⟩ : MethodName) (⟨"OppositeThreads$Army", "placeInPlan", "(II)I"⟩ : MethodName) ∈ jx_G := jx_mem 537 (by decide +kernel) (by decide +kernel)
theorem jw_302 : Cond.methodLink "OppositeThreads" 175 (⟨"OppositeThreads$Army", "aimersAt", "(I)I"⟩ : MethodName) ∈ jx_G := jx_mem 544 (by decide +kernel) (by decide +kernel)
theorem jw_303 : Cond.instanceMethod (⟨"OppositeThreads$Army", "aimersAt", "(I)I"⟩ : MethodName) ∈ jx_G := jx_mem 545 (by decide +kernel) (by decide +kernel)
theorem jw_304 : Cond.selects "OppositeThreads$Army" (⟨"OppositeThreads$Army", "aimersAt", "(I)I"⟩ : MethodName) (⟨"OppositeThreads$Army", "aimersAt", "(I)I"⟩ : MethodName) ∈ jx_G := jx_mem 546 (by decide +kernel) (by decide +kernel)
theorem jw_305 : Cond.methodLink "OppositeThreads" 178 (⟨"OppositeThreads$Army", "waysToStay", "(III)I"⟩ : MethodName) ∈ jx_G := jx_mem 548 (by decide +kernel) (by decide +kernel)
theorem jw_306 : Cond.instanceMethod (⟨"OppositeThreads$Army", "waysToStay", "(III)I"⟩ : MethodName) ∈ jx_G := jx_mem 549 (by decide +kernel) (by decide +kernel)
theorem jw_307 : Cond.selects "OppositeThreads$Army" (⟨"OppositeThreads$Army", "waysToStay", "(III)I"⟩ : MethodName) (⟨"OppositeThreads$Army", "waysToStay", "(III)I"⟩ : MethodName) ∈ jx_G := jx_mem 550 (by decide +kernel) (by decide +kernel)
theorem jw_308 : Cond.methodLink "OppositeThreads" 182 (⟨"java/lang/Integer", "bitCount", "(I)I"⟩ : MethodName) ∈ jx_G := jx_mem 565 (by decide +kernel) (by decide +kernel)
theorem jw_309 : Cond.static (⟨"java/lang/Integer", "bitCount", "(I)I"⟩ : MethodName) ∈ jx_G := jx_mem 557 (by decide +kernel) (by decide +kernel)
theorem jw_310 : Cond.methodLink "OppositeThreads" 187 (⟨"OppositeThreads", "commonDivisor", "(II)I"⟩ : MethodName) ∈ jx_G := jx_mem 566 (by decide +kernel) (by decide +kernel)
theorem jw_311 : Cond.static (⟨"OppositeThreads", "commonDivisor", "(II)I"⟩ : MethodName) ∈ jx_G := jx_mem 567 (by decide +kernel) (by decide +kernel)
theorem jw_312 : Cond.methodLink "OppositeThreads" 190 Lib.Math.max.name ∈ jx_G := jx_mem 569 (by decide +kernel) (by decide +kernel)
theorem jw_313 : Cond.methodLink "OppositeThreads" 195 (⟨"OppositeThreads$Sightings", "add", "(III)Z"⟩ : MethodName) ∈ jx_G := jx_mem 574 (by decide +kernel) (by decide +kernel)
theorem jw_314 : Cond.instanceMethod (⟨"OppositeThreads$Sightings", "add", "(III)Z"⟩ : MethodName) ∈ jx_G := jx_mem 575 (by decide +kernel) (by decide +kernel)
theorem jw_315 : Cond.selects "OppositeThreads$Sightings" (⟨"OppositeThreads$Sightings", "add", "(III)Z"⟩ : MethodName) (⟨"OppositeThreads$Sightings", "add", "(III)Z"⟩ : MethodName) ∈ jx_G := jx_mem 576 (by decide +kernel) (by decide +kernel)
theorem jw_316 : Cond.methodLink "OppositeThreads" 198 (⟨"OppositeThreads$Sightings", "possibleKinds", "()I"⟩ : MethodName) ∈ jx_G := jx_mem 589 (by decide +kernel) (by decide +kernel)
theorem jw_317 : Cond.instanceMethod (⟨"OppositeThreads$Sightings", "possibleKinds", "()I"⟩ : MethodName) ∈ jx_G := jx_mem 590 (by decide +kernel) (by decide +kernel)
theorem jw_318 : Cond.selects "OppositeThreads$Sightings" (⟨"OppositeThreads$Sightings", "possibleKinds", "()I"⟩ : MethodName) (⟨"OppositeThreads$Sightings", "possibleKinds", "()I"⟩ : MethodName) ∈ jx_G := jx_mem 591 (by decide +kernel) (by decide +kernel)
theorem jw_319 : Cond.methodLink "OppositeThreads" 201 (⟨"OppositeThreads$Sightings", "bestDay", "()I"⟩ : MethodName) ∈ jx_G := jx_mem 606 (by decide +kernel) (by decide +kernel)
theorem jw_320 : Cond.instanceMethod (⟨"OppositeThreads$Sightings", "bestDay", "()I"⟩ : MethodName) ∈ jx_G := jx_mem 607 (by decide +kernel) (by decide +kernel)
theorem jw_321 : Cond.selects "OppositeThreads$Sightings" (⟨"OppositeThreads$Sightings", "bestDay", "()I"⟩ : MethodName) (⟨"OppositeThreads$Sightings", "bestDay", "()I"⟩ : MethodName) ∈ jx_G := jx_mem 608 (by decide +kernel) (by decide +kernel)
theorem jw_322 : Cond.methodLink "OppositeThreads" 204 (⟨"OppositeThreads", "isSheet", "(I)Z"⟩ : MethodName) ∈ jx_G := jx_mem 623 (by decide +kernel) (by decide +kernel)
theorem jw_323 : Cond.static (⟨"OppositeThreads", "isSheet", "(I)Z"⟩ : MethodName) ∈ jx_G := jx_mem 624 (by decide +kernel) (by decide +kernel)
theorem jw_324 : Cond.methodLink "OppositeThreads" 207 (⟨"OppositeThreads", "isSort", "(I)Z"⟩ : MethodName) ∈ jx_G := jx_mem 626 (by decide +kernel) (by decide +kernel)
theorem jw_325 : Cond.static (⟨"OppositeThreads", "isSort", "(I)Z"⟩ : MethodName) ∈ jx_G := jx_mem 627 (by decide +kernel) (by decide +kernel)
theorem jw_326 : Cond.methodLink "OppositeThreads" 210 (⟨"OppositeThreads$Sheet", "begin", "(II)V"⟩ : MethodName) ∈ jx_G := jx_mem 629 (by decide +kernel) (by decide +kernel)
theorem jw_327 : Cond.instanceMethod (⟨"OppositeThreads$Sheet", "begin", "(II)V"⟩ : MethodName) ∈ jx_G := jx_mem 630 (by decide +kernel) (by decide +kernel)
theorem jw_328 : Cond.selects "OppositeThreads$Sheet" (⟨"OppositeThreads$Sheet", "begin", "(II)V"⟩ : MethodName) (⟨"OppositeThreads$Sheet", "begin", "(II)V"⟩ : MethodName) ∈ jx_G := jx_mem 631 (by decide +kernel) (by decide +kernel)
theorem jw_329 : Cond.methodLink "OppositeThreads" 214 (⟨"OppositeThreads", "valueAt", "(LOppositeThreads$Sheet;II)I"⟩ : MethodName) ∈ jx_G := jx_mem 639 (by decide +kernel) (by decide +kernel)
theorem jw_330 : Cond.static (⟨"OppositeThreads", "valueAt", "(LOppositeThreads$Sheet;II)I"⟩ : MethodName) ∈ jx_G := jx_mem 640 (by decide +kernel) (by decide +kernel)
theorem jw_331 : Cond.methodLink "OppositeThreads" 222 (⟨"OppositeThreads$Sheet", "isMissing", "()Z"⟩ : MethodName) ∈ jx_G := jx_mem 642 (by decide +kernel) (by decide +kernel)
theorem jw_332 : Cond.instanceMethod (⟨"OppositeThreads$Sheet", "isMissing", "()Z"⟩ : MethodName) ∈ jx_G := jx_mem 643 (by decide +kernel) (by decide +kernel)
theorem jw_333 : Cond.selects "OppositeThreads$Sheet" (⟨"OppositeThreads$Sheet", "isMissing", "()Z"⟩ : MethodName) (⟨"OppositeThreads$Sheet", "isMissing", "()Z"⟩ : MethodName) ∈ jx_G := jx_mem 644 (by decide +kernel) (by decide +kernel)
theorem jw_334 : Cond.methodLink "OppositeThreads" 229 (⟨"OppositeThreads$Sheet", "holds", "(II)Z"⟩ : MethodName) ∈ jx_G := jx_mem 646 (by decide +kernel) (by decide +kernel)
theorem jw_335 : Cond.instanceMethod (⟨"OppositeThreads$Sheet", "holds", "(II)Z"⟩ : MethodName) ∈ jx_G := jx_mem 647 (by decide +kernel) (by decide +kernel)
theorem jw_336 : Cond.selects "OppositeThreads$Sheet" (⟨"OppositeThreads$Sheet", "holds", "(II)Z"⟩ : MethodName) (⟨"OppositeThreads$Sheet", "holds", "(II)Z"⟩ : MethodName) ∈ jx_G := jx_mem 648 (by decide +kernel) (by decide +kernel)
theorem jw_337 : Cond.methodLink "OppositeThreads" 232 arraycopyName ∈ jx_G := jx_mem 659 (by decide +kernel) (by decide +kernel)
theorem jw_338 : Cond.constant "OppositeThreads" 241 (Int32.ofInt 500000) ∈ jx_G := jx_mem 668 (by decide +kernel) (by decide +kernel)
theorem jw_339 : Cond.methodLink "OppositeThreads" 242 (⟨"OppositeThreads$Sheet", "total", "()J"⟩ : MethodName) ∈ jx_G := jx_mem 669 (by decide +kernel) (by decide +kernel)
theorem jw_340 : Cond.instanceMethod (⟨"OppositeThreads$Sheet", "total", "()J"⟩ : MethodName) ∈ jx_G := jx_mem 670 (by decide +kernel) (by decide +kernel)
theorem jw_341 : Cond.selects "OppositeThreads$Sheet" (⟨"OppositeThreads$Sheet", "total", "()J"⟩ : MethodName) (⟨"OppositeThreads$Sheet", "total", "()J"⟩ : MethodName) ∈ jx_G := jx_mem 671 (by decide +kernel) (by decide +kernel)
theorem jw_342 : Cond.methodLink "OppositeThreads" 246 (⟨"OppositeThreads$Army", "inField", "()I"⟩ : MethodName) ∈ jx_G := jx_mem 681 (by decide +kernel) (by decide +kernel)
theorem jw_343 : Cond.instanceMethod (⟨"OppositeThreads$Army", "inField", "()I"⟩ : MethodName) ∈ jx_G := jx_mem 682 (by decide +kernel) (by decide +kernel)
theorem jw_344 : Cond.selects "OppositeThreads$Army" (⟨"OppositeThreads$Army", "inField", "()I"⟩ : MethodName) (⟨"OppositeThreads$Army", "inField", "()I"⟩ : MethodName) ∈ jx_G := jx_mem 683 (by decide +kernel) (by decide +kernel)
theorem jw_345 : Cond.methodLink "OppositeThreads" 249 (⟨"OppositeThreads$Army", "buttonsOf", "(I)I"⟩ : MethodName) ∈ jx_G := jx_mem 685 (by decide +kernel) (by decide +kernel)
theorem jw_346 : Cond.instanceMethod (⟨"OppositeThreads$Army", "buttonsOf", "(I)I"⟩ : MethodName) ∈ jx_G := jx_mem 686 (by decide +kernel) (by decide +kernel)
theorem jw_347 : Cond.selects "OppositeThreads$Army" (⟨"OppositeThreads$Army", "buttonsOf", "(I)I"⟩ : MethodName) (⟨"OppositeThreads$Army", "buttonsOf", "(I)I"⟩ : MethodName) ∈ jx_G := jx_mem 687 (by decide +kernel) (by decide +kernel)
theorem jw_348 : Cond.methodLink "OppositeThreads" 252 (⟨"OppositeThreads", "placesOfSheets", "()I"⟩ : MethodName) ∈ jx_G := jx_mem 689 (by decide +kernel) (by decide +kernel)
theorem jw_349 : Cond.instanceMethod (⟨"OppositeThreads", "placesOfSheets", "()I"⟩ : MethodName) ∈ jx_G := jx_mem 691 (by decide +kernel) (by decide +kernel)
theorem jw_350 : Cond.selects "OppositeThreads" (⟨"OppositeThreads", "placesOfSheets", "()I"⟩ : MethodName) (⟨"OppositeThreads", "placesOfSheets", "()I"⟩ : MethodName) ∈ jx_G := jx_mem 16 (by decide +kernel) (by decide +kernel)
theorem jw_351 : Cond.constant "OppositeThreads" 255 (Int32.ofInt 50000) ∈ jx_G := jx_mem 650 (by decide +kernel) (by decide +kernel)
set_option maxRecDepth 20000 in
theorem jo_Main : ∀ q ∈ jp_Main, jx_okP jx_nm "OppositeThreads" q.1 q.2 := List.forall_mem_cons.mpr ⟨jw_206, List.forall_mem_cons.mpr ⟨⟨_, rfl, jw_207⟩, List.forall_mem_cons.mpr ⟨⟨_, rfl, jw_208, jw_209, rfl, rfl, jq_Army_init⟩, List.forall_mem_cons.mpr ⟨⟨_, rfl, by decide, jw_210⟩, List.forall_mem_cons.mpr ⟨⟨_, rfl, by decide, jw_211⟩, List.forall_mem_cons.mpr ⟨⟨_, rfl, by decide, jw_212⟩, List.forall_mem_cons.mpr ⟨⟨_, rfl, jw_213⟩, List.forall_mem_cons.mpr ⟨⟨_, rfl, jw_214, jw_215, rfl, rfl, jq_Text_init⟩, List.forall_mem_cons.mpr ⟨⟨_, rfl, by decide, jw_216⟩, List.forall_mem_cons.mpr ⟨⟨_, rfl, jw_217⟩, List.forall_mem_cons.mpr ⟨⟨_, rfl, jw_218, jw_219, rfl, rfl, jq_Past_init⟩, List.forall_mem_cons.mpr ⟨⟨_, rfl, by decide, jw_220⟩, List.forall_mem_cons.mpr ⟨⟨_, rfl, by decide, jw_221⟩, List.forall_mem_cons.mpr ⟨⟨_, rfl, by decide, jw_222⟩, List.forall_mem_cons.mpr ⟨⟨_, rfl, jw_223⟩, List.forall_mem_cons.mpr ⟨⟨_, rfl, jw_224, jw_225, rfl, rfl, jq_Sightings_init⟩, List.forall_mem_cons.mpr ⟨⟨_, rfl, by decide, jw_226⟩, List.forall_mem_cons.mpr ⟨⟨_, rfl, jw_227⟩, List.forall_mem_cons.mpr ⟨⟨_, rfl, by decide, jw_228⟩, List.forall_mem_cons.mpr ⟨⟨_, rfl, jw_229, jw_230, rfl, rfl, jq_Sheet_init⟩, List.forall_mem_cons.mpr ⟨⟨_, rfl, jw_231, jw_232, jw_233, jq_Text_add⟩, List.forall_mem_cons.mpr ⟨⟨_, "OppositeThreads", rfl, by decide, List.mem_of_getElem? (i := 10) rfl⟩, List.forall_mem_cons.mpr ⟨⟨_, rfl, jw_234, jw_235, jw_236, jq_Text_readOnto⟩, List.forall_mem_cons.mpr ⟨⟨_, "OppositeThreads", rfl, by decide, List.mem_of_getElem? (i := 9) rfl⟩, List.forall_mem_cons.mpr ⟨⟨_, rfl, jw_237, jw_238, jw_239, jq_Army_takeFrom⟩, List.forall_mem_cons.mpr ⟨⟨_, rfl, jw_240, jw_241, jw_242, jq_Past_clear⟩, List.forall_mem_cons.mpr ⟨⟨_, "OppositeThreads", rfl, by decide, List.mem_of_getElem? (i := 13) rfl⟩, List.forall_mem_cons.mpr ⟨⟨_, rfl, jw_243, jw_244, jw_245, jq_Sheet_lose⟩, List.forall_mem_cons.mpr ⟨⟨_, "OppositeThreads", rfl, by decide, List.mem_of_getElem? (i := 11) rfl⟩, List.forall_mem_cons.mpr ⟨⟨_, rfl, jw_246, jw_247, jw_248, jq_Army_has⟩, List.forall_mem_cons.mpr ⟨⟨_, "OppositeThreads", rfl, by decide, List.mem_of_getElem? (i := 1) rfl⟩, List.forall_mem_cons.mpr ⟨⟨_, "OppositeThreads", rfl, by decide, List.mem_of_getElem? (i := 3) rfl⟩, List.forall_mem_cons.mpr ⟨⟨_, "OppositeThreads", rfl, by decide, List.mem_of_getElem? (i := 4) rfl⟩, List.forall_mem_cons.mpr ⟨⟨_, rfl, jw_249, jw_250, jw_251, jq_Army_aimOf⟩, List.forall_mem_cons.mpr ⟨⟨_, rfl, jw_252, jw_253, jq_Kinds_hitOf⟩, List.forall_mem_cons.mpr ⟨⟨_, rfl, jw_254, jw_255, jw_256, jq_Army_knowersOf⟩, List.forall_mem_cons.mpr ⟨⟨_, rfl, jw_257, jw_258, jq_Kinds_isOne⟩, List.forall_mem_cons.mpr ⟨⟨_, "OppositeThreads", rfl, by decide, List.mem_of_getElem? (i := 8) rfl⟩, List.forall_mem_cons.mpr ⟨⟨_, rfl, jw_259, jw_260, jw_261, jq_Past_remember⟩, List.forall_mem_cons.mpr ⟨⟨_, rfl, jw_262, jw_263, jw_264, jq_Army_pass⟩, List.forall_mem_cons.mpr ⟨⟨_, rfl, jw_265, jw_266, jw_267, jq_Main_areTwoMen⟩, List.forall_mem_cons.mpr ⟨⟨_, rfl, jw_268, jw_269, jw_270, jq_Army_sideOf⟩, List.forall_mem_cons.mpr ⟨⟨_, rfl, jw_271, jw_272, jw_273, jq_Past_restore⟩, List.forall_mem_cons.mpr ⟨⟨_, "OppositeThreads", rfl, by decide, List.mem_of_getElem? (i := 12) rfl⟩, List.forall_mem_cons.mpr ⟨⟨_, rfl, jw_274, jw_275, jw_276, jq_Army_isHome⟩, List.forall_mem_cons.mpr ⟨⟨_, rfl, jw_277, jw_278, jw_279, jq_Army_passDay⟩, List.forall_mem_cons.mpr ⟨⟨_, rfl, jw_280, jw_281, jw_282, jq_Army_aimers⟩, List.forall_mem_cons.mpr ⟨⟨_, rfl, jw_283, jw_284, jq_Main_isSide⟩, List.forall_mem_cons.mpr ⟨⟨_, rfl, jw_285, jw_286, jw_287, jq_Army_leftOf⟩, List.forall_mem_cons.mpr ⟨⟨_, rfl, jw_288, jw_289, jq_Main_isPlanned⟩, List.forall_mem_cons.mpr ⟨⟨_, rfl, jw_290, jw_291, jw_292, jq_Army_leftOfBoth⟩, List.forall_mem_cons.mpr ⟨⟨_, "OppositeThreads", rfl, by decide, List.mem_of_getElem? (i := 7) rfl⟩, List.forall_mem_cons.mpr ⟨⟨_, rfl, jw_293, jw_294, jw_295, jq_Army_firstOf⟩, List.forall_mem_cons.mpr ⟨⟨_, rfl, jw_296, jw_297, jw_298, jq_Army_takePlan⟩, List.forall_mem_cons.mpr ⟨⟨_, rfl, jw_299, jw_300, jw_301, jq_Army_placeInPlan⟩, List.forall_mem_cons.mpr ⟨⟨_, rfl, jw_302, jw_303, jw_304, jq_Army_aimersAt⟩, List.forall_mem_cons.mpr ⟨⟨_, rfl, jw_305, jw_306, jw_307, jq_Army_waysToStay⟩, List.forall_mem_cons.mpr ⟨⟨_, rfl, jw_308, jw_309, jq_Integer_bitCount⟩, List.forall_mem_cons.mpr ⟨⟨_, rfl, jw_310, jw_311, jq_Main_commonDivisor⟩, List.forall_mem_cons.mpr ⟨jw_312, List.forall_mem_cons.mpr ⟨⟨_, rfl, jw_313, jw_314, jw_315, jq_Sightings_add⟩, List.forall_mem_cons.mpr ⟨⟨_, rfl, jw_316, jw_317, jw_318, jq_Sightings_possibleKinds⟩, List.forall_mem_cons.mpr ⟨⟨_, rfl, jw_319, jw_320, jw_321, jq_Sightings_bestDay⟩, List.forall_mem_cons.mpr ⟨⟨_, rfl, jw_322, jw_323, jq_Main_isSheet⟩, List.forall_mem_cons.mpr ⟨⟨_, rfl, jw_324, jw_325, jq_Main_isSort⟩, List.forall_mem_cons.mpr ⟨⟨_, rfl, jw_326, jw_327, jw_328, jq_Sheet_begin⟩, List.forall_mem_cons.mpr ⟨⟨_, rfl, jw_329, jw_330, jq_Main_valueAt⟩, List.forall_mem_cons.mpr ⟨⟨_, "OppositeThreads", rfl, by decide, List.mem_of_getElem? (i := 14) rfl⟩, List.forall_mem_cons.mpr ⟨⟨_, rfl, jw_331, jw_332, jw_333, jq_Sheet_isMissing⟩, List.forall_mem_cons.mpr ⟨⟨_, "OppositeThreads", rfl, by decide, List.mem_of_getElem? (i := 15) rfl⟩, List.forall_mem_cons.mpr ⟨⟨_, rfl, jw_334, jw_335, jw_336, jq_Sheet_holds⟩, List.forall_mem_cons.mpr ⟨jw_337, List.forall_mem_cons.mpr ⟨⟨_, "OppositeThreads", rfl, by decide, List.mem_of_getElem? (i := 16) rfl⟩, List.forall_mem_cons.mpr ⟨jw_338, List.forall_mem_cons.mpr ⟨⟨_, rfl, jw_339, jw_340, jw_341, jq_Sheet_total⟩, List.forall_mem_cons.mpr ⟨⟨_, rfl, jw_342, jw_343, jw_344, jq_Army_inField⟩, List.forall_mem_cons.mpr ⟨⟨_, rfl, jw_345, jw_346, jw_347, jq_Army_buttonsOf⟩, List.forall_mem_cons.mpr ⟨⟨_, rfl, jw_348, jw_349, jw_350, jq_Main_placesOfSheets⟩, List.forall_mem_cons.mpr ⟨jw_351, fun _ h => absurd h List.not_mem_nil⟩⟩⟩⟩⟩⟩⟩⟩⟩⟩⟩⟩⟩⟩⟩⟩⟩⟩⟩⟩⟩⟩⟩⟩⟩⟩⟩⟩⟩⟩⟩⟩⟩⟩⟩⟩⟩⟩⟩⟩⟩⟩⟩⟩⟩⟩⟩⟩⟩⟩⟩⟩⟩⟩⟩⟩⟩⟩⟩⟩⟩⟩⟩⟩⟩⟩⟩⟩⟩⟩⟩⟩⟩⟩⟩⟩⟩⟩⟩
theorem jw_352 : Cond.methodLink "OppositeThreads$Army" 3 Lib.objectInit ∈ jx_G := jx_mem 78 (by decide +kernel) (by decide +kernel)
theorem jw_353 : Cond.fieldLink "OppositeThreads$Army" 11 "OppositeThreads$Army" "kind" "[I" ∈ jx_G := jx_mem 89 (by decide +kernel) (by decide +kernel)
theorem jw_354 : Cond.fieldLink "OppositeThreads$Army" 15 "OppositeThreads$Army" "buttons" "[I" ∈ jx_G := jx_mem 92 (by decide +kernel) (by decide +kernel)
theorem jw_355 : Cond.fieldLink "OppositeThreads$Army" 18 "OppositeThreads$Army" "mender" "[I" ∈ jx_G := jx_mem 95 (by decide +kernel) (by decide +kernel)
theorem jw_356 : Cond.methodLink "OppositeThreads$Army" 21 (⟨"OppositeThreads$Army", "begin", "(I)V"⟩ : MethodName) ∈ jx_G := jx_mem 79 (by decide +kernel) (by decide +kernel)
theorem jw_357 : Cond.instanceMethod (⟨"OppositeThreads$Army", "begin", "(I)V"⟩ : MethodName) ∈ jx_G := jx_mem 80 (by decide +kernel) (by decide +kernel)
theorem jw_358 : Cond.selects "OppositeThreads$Army" (⟨"OppositeThreads$Army", "begin", "(I)V"⟩ : MethodName) (⟨"OppositeThreads$Army", "begin", "(I)V"⟩ : MethodName) ∈ jx_G := jx_mem 81 (by decide +kernel) (by decide +kernel)
theorem jw_359 : Cond.methodLink "OppositeThreads$Army" 25 Lib.Math.min.name ∈ jx_G := jx_mem 83 (by decide +kernel) (by decide +kernel)
theorem jw_360 : Cond.methodLink "OppositeThreads$Army" 31 Lib.Math.max.name ∈ jx_G := jx_mem 86 (by decide +kernel) (by decide +kernel)
theorem jw_361 : Cond.fieldLink "OppositeThreads$Army" 34 "OppositeThreads$Army" "men" "I" ∈ jx_G := jx_mem 98 (by decide +kernel) (by decide +kernel)
theorem jw_362 : Cond.fieldLink "OppositeThreads$Army" 38 "OppositeThreads$Army" "day" "I" ∈ jx_G := jx_mem 101 (by decide +kernel) (by decide +kernel)
theorem jw_363 : Cond.methodLink "OppositeThreads$Army" 43 arraycopyName ∈ jx_G := jx_mem 257 (by decide +kernel) (by decide +kernel)
theorem jw_364 : Cond.methodLink "OppositeThreads$Army" 49 (⟨"OppositeThreads$Army", "has", "(I)Z"⟩ : MethodName) ∈ jx_G := jx_mem 394 (by decide +kernel) (by decide +kernel)
theorem jw_365 : Cond.methodLink "OppositeThreads$Army" 53 (⟨"OppositeThreads$Army", "isHome", "(I)Z"⟩ : MethodName) ∈ jx_G := jx_mem 390 (by decide +kernel) (by decide +kernel)
theorem jw_366 : Cond.methodLink "OppositeThreads$Army" 56 (⟨"OppositeThreads$Kinds", "aimOn", "(IZ)I"⟩ : MethodName) ∈ jx_G := jx_mem 395 (by decide +kernel) (by decide +kernel)
theorem jw_367 : Cond.static (⟨"OppositeThreads$Kinds", "aimOn", "(IZ)I"⟩ : MethodName) ∈ jx_G := jx_mem 396 (by decide +kernel) (by decide +kernel)
theorem jw_368 : Cond.methodLink "OppositeThreads$Army" 60 (⟨"OppositeThreads$Army", "leastOpen", "(I)I"⟩ : MethodName) ∈ jx_G := jx_mem 398 (by decide +kernel) (by decide +kernel)
theorem jw_369 : Cond.instanceMethod (⟨"OppositeThreads$Army", "leastOpen", "(I)I"⟩ : MethodName) ∈ jx_G := jx_mem 400 (by decide +kernel) (by decide +kernel)
theorem jw_370 : Cond.selects "OppositeThreads$Army" (⟨"OppositeThreads$Army", "leastOpen", "(I)I"⟩ : MethodName) (⟨"OppositeThreads$Army", "leastOpen", "(I)I"⟩ : MethodName) ∈ jx_G := jx_mem 8 (by decide +kernel) (by decide +kernel)
theorem jw_371 : Cond.methodLink "OppositeThreads$Army" 64 (⟨"OppositeThreads$Army", "greatestOpen", "(I)I"⟩ : MethodName) ∈ jx_G := jx_mem 408 (by decide +kernel) (by decide +kernel)
theorem jw_372 : Cond.instanceMethod (⟨"OppositeThreads$Army", "greatestOpen", "(I)I"⟩ : MethodName) ∈ jx_G := jx_mem 410 (by decide +kernel) (by decide +kernel)
theorem jw_373 : Cond.selects "OppositeThreads$Army" (⟨"OppositeThreads$Army", "greatestOpen", "(I)I"⟩ : MethodName) (⟨"OppositeThreads$Army", "greatestOpen", "(I)I"⟩ : MethodName) ∈ jx_G := jx_mem 10 (by decide +kernel) (by decide +kernel)
theorem jw_374 : Cond.methodLink "OppositeThreads$Army" 67 (⟨"OppositeThreads$Army", "fullestOpen", "(I)I"⟩ : MethodName) ∈ jx_G := jx_mem 412 (by decide +kernel) (by decide +kernel)
theorem jw_375 : Cond.instanceMethod (⟨"OppositeThreads$Army", "fullestOpen", "(I)I"⟩ : MethodName) ∈ jx_G := jx_mem 414 (by decide +kernel) (by decide +kernel)
theorem jw_376 : Cond.selects "OppositeThreads$Army" (⟨"OppositeThreads$Army", "fullestOpen", "(I)I"⟩ : MethodName) (⟨"OppositeThreads$Army", "fullestOpen", "(I)I"⟩ : MethodName) ∈ jx_G := jx_mem 11 (by decide +kernel) (by decide +kernel)
theorem jw_377 : Cond.methodLink "OppositeThreads$Army" 70 (⟨"OppositeThreads$Army", "sideOf", "(I)I"⟩ : MethodName) ∈ jx_G := jx_mem 402 (by decide +kernel) (by decide +kernel)
theorem jw_378 : Cond.methodLink "OppositeThreads$Army" 73 (⟨"OppositeThreads$Army", "firstOf", "(I)I"⟩ : MethodName) ∈ jx_G := jx_mem 403 (by decide +kernel) (by decide +kernel)
theorem jw_379 : Cond.methodLink "OppositeThreads$Army" 76 (⟨"OppositeThreads$Army", "isOpen", "(II)Z"⟩ : MethodName) ∈ jx_G := jx_mem 404 (by decide +kernel) (by decide +kernel)
theorem jw_380 : Cond.instanceMethod (⟨"OppositeThreads$Army", "isOpen", "(II)Z"⟩ : MethodName) ∈ jx_G := jx_mem 406 (by decide +kernel) (by decide +kernel)
theorem jw_381 : Cond.selects "OppositeThreads$Army" (⟨"OppositeThreads$Army", "isOpen", "(II)Z"⟩ : MethodName) (⟨"OppositeThreads$Army", "isOpen", "(II)Z"⟩ : MethodName) ∈ jx_G := jx_mem 9 (by decide +kernel) (by decide +kernel)
theorem jw_382 : Cond.methodLink "OppositeThreads$Army" 80 (⟨"OppositeThreads$Army", "passDay", "()V"⟩ : MethodName) ∈ jx_G := jx_mem 446 (by decide +kernel) (by decide +kernel)
theorem jw_383 : Cond.methodLink "OppositeThreads$Army" 83 (⟨"OppositeThreads$Army", "aimOf", "(I)I"⟩ : MethodName) ∈ jx_G := jx_mem 450 (by decide +kernel) (by decide +kernel)
theorem jw_384 : Cond.methodLink "OppositeThreads$Army" 86 (⟨"OppositeThreads$Kinds", "hitOf", "(I)I"⟩ : MethodName) ∈ jx_G := jx_mem 451 (by decide +kernel) (by decide +kernel)
theorem jw_385 : Cond.methodLink "OppositeThreads$Army" 89 (⟨"OppositeThreads$Army", "bringHamper", "()V"⟩ : MethodName) ∈ jx_G := jx_mem 452 (by decide +kernel) (by decide +kernel)
theorem jw_386 : Cond.instanceMethod (⟨"OppositeThreads$Army", "bringHamper", "()V"⟩ : MethodName) ∈ jx_G := jx_mem 454 (by decide +kernel) (by decide +kernel)
theorem jw_387 : Cond.selects "OppositeThreads$Army" (⟨"OppositeThreads$Army", "bringHamper", "()V"⟩ : MethodName) (⟨"OppositeThreads$Army", "bringHamper", "()V"⟩ : MethodName) ∈ jx_G := jx_mem 12 (by decide +kernel) (by decide +kernel)
theorem jw_388 : Cond.methodLink "OppositeThreads$Army" 92 (⟨"OppositeThreads$Army", "leftOf", "(I)I"⟩ : MethodName) ∈ jx_G := jx_mem 525 (by decide +kernel) (by decide +kernel)
theorem jw_389 : Cond.methodLink "OppositeThreads$Army" 95 (⟨"OppositeThreads$Army", "placeInPlan", "(II)I"⟩ : MethodName) ∈ jx_G := jx_mem 535 (by decide +kernel) (by decide +kernel)
theorem jw_390 : Cond.methodLink "OppositeThreads$Army" 98 (⟨"OppositeThreads$Army", "hitsOf", "(I)I"⟩ : MethodName) ∈ jx_G := jx_mem 552 (by decide +kernel) (by decide +kernel)
theorem jw_391 : Cond.instanceMethod (⟨"OppositeThreads$Army", "hitsOf", "(I)I"⟩ : MethodName) ∈ jx_G := jx_mem 554 (by decide +kernel) (by decide +kernel)
theorem jw_392 : Cond.selects "OppositeThreads$Army" (⟨"OppositeThreads$Army", "hitsOf", "(I)I"⟩ : MethodName) (⟨"OppositeThreads$Army", "hitsOf", "(I)I"⟩ : MethodName) ∈ jx_G := jx_mem 14 (by decide +kernel) (by decide +kernel)
theorem jw_393 : Cond.methodLink "OppositeThreads$Army" 101 (⟨"java/lang/Integer", "bitCount", "(I)I"⟩ : MethodName) ∈ jx_G := jx_mem 556 (by decide +kernel) (by decide +kernel)
theorem jw_394 : Cond.methodLink "OppositeThreads$Army" 106 (⟨"OppositeThreads$Army", "powerOf", "(II)I"⟩ : MethodName) ∈ jx_G := jx_mem 562 (by decide +kernel) (by decide +kernel)
theorem jw_395 : Cond.static (⟨"OppositeThreads$Army", "powerOf", "(II)I"⟩ : MethodName) ∈ jx_G := jx_mem 563 (by decide +kernel) (by decide +kernel)
set_option maxRecDepth 20000 in
theorem jo_Army : ∀ q ∈ jp_Army, jx_okP jx_nm "OppositeThreads$Army" q.1 q.2 := List.forall_mem_cons.mpr ⟨jw_352, List.forall_mem_cons.mpr ⟨⟨_, rfl, by decide, jw_353⟩, List.forall_mem_cons.mpr ⟨⟨_, rfl, by decide, jw_354⟩, List.forall_mem_cons.mpr ⟨⟨_, rfl, by decide, jw_355⟩, List.forall_mem_cons.mpr ⟨⟨_, rfl, jw_356, jw_357, jw_358, jq_Army_begin⟩, List.forall_mem_cons.mpr ⟨jw_359, List.forall_mem_cons.mpr ⟨jw_360, List.forall_mem_cons.mpr ⟨⟨_, rfl, by decide, jw_361⟩, List.forall_mem_cons.mpr ⟨⟨_, rfl, by decide, jw_362⟩, List.forall_mem_cons.mpr ⟨jw_363, List.forall_mem_cons.mpr ⟨⟨_, rfl, jw_364, jw_247, jw_248, jq_Army_has⟩, List.forall_mem_cons.mpr ⟨⟨_, rfl, jw_365, jw_275, jw_276, jq_Army_isHome⟩, List.forall_mem_cons.mpr ⟨⟨_, rfl, jw_366, jw_367, jq_Kinds_aimOn⟩, List.forall_mem_cons.mpr ⟨⟨_, rfl, jw_368, jw_369, jw_370, jq_Army_leastOpen⟩, List.forall_mem_cons.mpr ⟨⟨_, rfl, jw_371, jw_372, jw_373, jq_Army_greatestOpen⟩, List.forall_mem_cons.mpr ⟨⟨_, rfl, jw_374, jw_375, jw_376, jq_Army_fullestOpen⟩, List.forall_mem_cons.mpr ⟨⟨_, rfl, jw_377, jw_269, jw_270, jq_Army_sideOf⟩, List.forall_mem_cons.mpr ⟨⟨_, rfl, jw_378, jw_294, jw_295, jq_Army_firstOf⟩, List.forall_mem_cons.mpr ⟨⟨_, rfl, jw_379, jw_380, jw_381, jq_Army_isOpen⟩, List.forall_mem_cons.mpr ⟨⟨_, rfl, jw_382, jw_278, jw_279, jq_Army_passDay⟩, List.forall_mem_cons.mpr ⟨⟨_, rfl, jw_383, jw_250, jw_251, jq_Army_aimOf⟩, List.forall_mem_cons.mpr ⟨⟨_, rfl, jw_384, jw_253, jq_Kinds_hitOf⟩, List.forall_mem_cons.mpr ⟨⟨_, rfl, jw_385, jw_386, jw_387, jq_Army_bringHamper⟩, List.forall_mem_cons.mpr ⟨⟨_, rfl, jw_388, jw_286, jw_287, jq_Army_leftOf⟩, List.forall_mem_cons.mpr ⟨⟨_, rfl, jw_389, jw_300, jw_301, jq_Army_placeInPlan⟩, List.forall_mem_cons.mpr ⟨⟨_, rfl, jw_390, jw_391, jw_392, jq_Army_hitsOf⟩, List.forall_mem_cons.mpr ⟨⟨_, rfl, jw_393, jw_309, jq_Integer_bitCount⟩, List.forall_mem_cons.mpr ⟨⟨_, rfl, jw_394, jw_395, jq_Army_powerOf⟩, fun _ h => absurd h List.not_mem_nil⟩⟩⟩⟩⟩⟩⟩⟩⟩⟩⟩⟩⟩⟩⟩⟩⟩⟩⟩⟩⟩⟩⟩⟩⟩⟩⟩⟩
theorem jw_396 : Cond.methodLink "OppositeThreads$Text" 3 Lib.objectInit ∈ jx_G := jx_mem 120 (by decide +kernel) (by decide +kernel)
theorem jw_397 : Cond.fieldLink "OppositeThreads$Text" 11 "OppositeThreads$Text" "letters" "[C" ∈ jx_G := jx_mem 123 (by decide +kernel) (by decide +kernel)
theorem jw_398 : Cond.classLink "OppositeThreads$Text" 15 jc_R0 ∈ jx_G := jx_mem 121 (by decide +kernel) (by decide +kernel)
theorem jw_399 : Cond.methodLink "OppositeThreads$Text" 17 (⟨"OppositeThreads$Army", "<init>", "()V"⟩ : MethodName) ∈ jx_G := jx_mem 122 (by decide +kernel) (by decide +kernel)
theorem jw_400 : Cond.fieldLink "OppositeThreads$Text" 18 "OppositeThreads$Text" "draft" "LOppositeThreads$Army;" ∈ jx_G := jx_mem 124 (by decide +kernel) (by decide +kernel)
theorem jw_401 : Cond.fieldLink "OppositeThreads$Text" 22 "OppositeThreads$Text" "length" "I" ∈ jx_G := jx_mem 126 (by decide +kernel) (by decide +kernel)
theorem jw_402 : Cond.methodLink "OppositeThreads$Text" 26 (⟨"OppositeThreads$Army", "takeFrom", "(LOppositeThreads$Army;)V"⟩ : MethodName) ∈ jx_G := jx_mem 253 (by decide +kernel) (by decide +kernel)
theorem jw_403 : Cond.fieldLink "OppositeThreads$Text" 30 "OppositeThreads$Text" "clauses" "I" ∈ jx_G := jx_mem 128 (by decide +kernel) (by decide +kernel)
theorem jw_404 : Cond.fieldLink "OppositeThreads$Text" 33 "OppositeThreads$Text" "end" "I" ∈ jx_G := jx_mem 131 (by decide +kernel) (by decide +kernel)
theorem jw_405 : Cond.methodLink "OppositeThreads$Text" 36 (⟨"OppositeThreads$Text", "readClause", "()Z"⟩ : MethodName) ∈ jx_G := jx_mem 260 (by decide +kernel) (by decide +kernel)
theorem jw_406 : Cond.instanceMethod (⟨"OppositeThreads$Text", "readClause", "()Z"⟩ : MethodName) ∈ jx_G := jx_mem 262 (by decide +kernel) (by decide +kernel)
theorem jw_407 : Cond.selects "OppositeThreads$Text" (⟨"OppositeThreads$Text", "readClause", "()Z"⟩ : MethodName) (⟨"OppositeThreads$Text", "readClause", "()Z"⟩ : MethodName) ∈ jx_G := jx_mem 0 (by decide +kernel) (by decide +kernel)
theorem jw_408 : Cond.fieldLink "OppositeThreads$Text" 40 "OppositeThreads$Text" "start" "I" ∈ jx_G := jx_mem 130 (by decide +kernel) (by decide +kernel)
theorem jw_409 : Cond.methodLink "OppositeThreads$Text" 43 (⟨"OppositeThreads$Text", "nextToken", "()V"⟩ : MethodName) ∈ jx_G := jx_mem 268 (by decide +kernel) (by decide +kernel)
theorem jw_410 : Cond.instanceMethod (⟨"OppositeThreads$Text", "nextToken", "()V"⟩ : MethodName) ∈ jx_G := jx_mem 270 (by decide +kernel) (by decide +kernel)
theorem jw_411 : Cond.selects "OppositeThreads$Text" (⟨"OppositeThreads$Text", "nextToken", "()V"⟩ : MethodName) (⟨"OppositeThreads$Text", "nextToken", "()V"⟩ : MethodName) ∈ jx_G := jx_mem 2 (by decide +kernel) (by decide +kernel)
theorem jw_412 : Cond.methodLink "OppositeThreads$Text" 46 (⟨"OppositeThreads$Text", "readWord", "()I"⟩ : MethodName) ∈ jx_G := jx_mem 264 (by decide +kernel) (by decide +kernel)
theorem jw_413 : Cond.instanceMethod (⟨"OppositeThreads$Text", "readWord", "()I"⟩ : MethodName) ∈ jx_G := jx_mem 266 (by decide +kernel) (by decide +kernel)
theorem jw_414 : Cond.selects "OppositeThreads$Text" (⟨"OppositeThreads$Text", "readWord", "()I"⟩ : MethodName) (⟨"OppositeThreads$Text", "readWord", "()I"⟩ : MethodName) ∈ jx_G := jx_mem 1 (by decide +kernel) (by decide +kernel)
theorem jw_415 : Cond.methodLink "OppositeThreads$Text" 50 (⟨"OppositeThreads$Text", "readArmy", "()Z"⟩ : MethodName) ∈ jx_G := jx_mem 338 (by decide +kernel) (by decide +kernel)
theorem jw_416 : Cond.instanceMethod (⟨"OppositeThreads$Text", "readArmy", "()Z"⟩ : MethodName) ∈ jx_G := jx_mem 340 (by decide +kernel) (by decide +kernel)
theorem jw_417 : Cond.selects "OppositeThreads$Text" (⟨"OppositeThreads$Text", "readArmy", "()Z"⟩ : MethodName) (⟨"OppositeThreads$Text", "readArmy", "()Z"⟩ : MethodName) ∈ jx_G := jx_mem 4 (by decide +kernel) (by decide +kernel)
theorem jw_418 : Cond.methodLink "OppositeThreads$Text" 56 (⟨"OppositeThreads$Text", "readNumber", "(II)I"⟩ : MethodName) ∈ jx_G := jx_mem 342 (by decide +kernel) (by decide +kernel)
theorem jw_419 : Cond.instanceMethod (⟨"OppositeThreads$Text", "readNumber", "(II)I"⟩ : MethodName) ∈ jx_G := jx_mem 344 (by decide +kernel) (by decide +kernel)
theorem jw_420 : Cond.selects "OppositeThreads$Text" (⟨"OppositeThreads$Text", "readNumber", "(II)I"⟩ : MethodName) (⟨"OppositeThreads$Text", "readNumber", "(II)I"⟩ : MethodName) ∈ jx_G := jx_mem 5 (by decide +kernel) (by decide +kernel)
theorem jw_421 : Cond.methodLink "OppositeThreads$Text" 60 (⟨"OppositeThreads$Army", "has", "(I)Z"⟩ : MethodName) ∈ jx_G := jx_mem 347 (by decide +kernel) (by decide +kernel)
theorem jw_422 : Cond.methodLink "OppositeThreads$Text" 68 (⟨"OppositeThreads$Text", "readButtons", "(I)Z"⟩ : MethodName) ∈ jx_G := jx_mem 351 (by decide +kernel) (by decide +kernel)
theorem jw_423 : Cond.instanceMethod (⟨"OppositeThreads$Text", "readButtons", "(I)Z"⟩ : MethodName) ∈ jx_G := jx_mem 353 (by decide +kernel) (by decide +kernel)
theorem jw_424 : Cond.selects "OppositeThreads$Text" (⟨"OppositeThreads$Text", "readButtons", "(I)Z"⟩ : MethodName) (⟨"OppositeThreads$Text", "readButtons", "(I)Z"⟩ : MethodName) ∈ jx_G := jx_mem 6 (by decide +kernel) (by decide +kernel)
theorem jw_425 : Cond.methodLink "OppositeThreads$Text" 71 (⟨"OppositeThreads$Text", "readMender", "(I)Z"⟩ : MethodName) ∈ jx_G := jx_mem 355 (by decide +kernel) (by decide +kernel)
theorem jw_426 : Cond.instanceMethod (⟨"OppositeThreads$Text", "readMender", "(I)Z"⟩ : MethodName) ∈ jx_G := jx_mem 357 (by decide +kernel) (by decide +kernel)
theorem jw_427 : Cond.selects "OppositeThreads$Text" (⟨"OppositeThreads$Text", "readMender", "(I)Z"⟩ : MethodName) (⟨"OppositeThreads$Text", "readMender", "(I)Z"⟩ : MethodName) ∈ jx_G := jx_mem 7 (by decide +kernel) (by decide +kernel)
theorem jw_428 : Cond.methodLink "OppositeThreads$Text" 74 (⟨"OppositeThreads$Army", "begin", "(I)V"⟩ : MethodName) ∈ jx_G := jx_mem 346 (by decide +kernel) (by decide +kernel)
theorem jw_429 : Cond.methodLink "OppositeThreads$Text" 81 (⟨"OppositeThreads$Army", "sideOf", "(I)I"⟩ : MethodName) ∈ jx_G := jx_mem 359 (by decide +kernel) (by decide +kernel)
theorem jw_430 : Cond.methodLink "OppositeThreads$Text" 85 (⟨"OppositeThreads$Army", "firstOf", "(I)I"⟩ : MethodName) ∈ jx_G := jx_mem 363 (by decide +kernel) (by decide +kernel)
theorem jw_431 : Cond.methodLink "OppositeThreads$Text" 91 (⟨"OppositeThreads$Text", "wordOf", "(I)Ljava/lang/String;"⟩ : MethodName) ∈ jx_G := jx_mem 275 (by decide +kernel) (by decide +kernel)
theorem jw_432 : Cond.static (⟨"OppositeThreads$Text", "wordOf", "(I)Ljava/lang/String;"⟩ : MethodName) ∈ jx_G := jx_mem 276 (by decide +kernel) (by decide +kernel)
theorem jw_433 : Cond.methodLink "OppositeThreads$Text" 95 (⟨"OppositeThreads$Text", "isToken", "(Ljava/lang/String;)Z"⟩ : MethodName) ∈ jx_G := jx_mem 286 (by decide +kernel) (by decide +kernel)
theorem jw_434 : Cond.instanceMethod (⟨"OppositeThreads$Text", "isToken", "(Ljava/lang/String;)Z"⟩ : MethodName) ∈ jx_G := jx_mem 288 (by decide +kernel) (by decide +kernel)
theorem jw_435 : Cond.selects "OppositeThreads$Text" (⟨"OppositeThreads$Text", "isToken", "(Ljava/lang/String;)Z"⟩ : MethodName) (⟨"OppositeThreads$Text", "isToken", "(Ljava/lang/String;)Z"⟩ : MethodName) ∈ jx_G := jx_mem 3 (by decide +kernel) (by decide +kernel)
theorem jw_436 : Cond.methodLink "OppositeThreads$Text" 113 (⟨"java/lang/String", "length", "()I"⟩ : MethodName) ∈ jx_G := jx_mem 290 (by decide +kernel) (by decide +kernel)
theorem jw_437 : Cond.instanceMethod (⟨"java/lang/String", "length", "()I"⟩ : MethodName) ∈ jx_G := jx_mem 291 (by decide +kernel) (by decide +kernel)
theorem jw_438 : Cond.selects "java/lang/String" (⟨"java/lang/String", "length", "()I"⟩ : MethodName) (⟨"java/lang/String", "length", "()I"⟩ : MethodName) ∈ jx_G := jx_mem 292 (by decide +kernel) (by decide +kernel)
theorem jw_439 : Cond.methodLink "OppositeThreads$Text" 117 (⟨"java/lang/String", "charAt", "(I)C"⟩ : MethodName) ∈ jx_G := jx_mem 300 (by decide +kernel) (by decide +kernel)
theorem jw_440 : Cond.instanceMethod (⟨"java/lang/String", "charAt", "(I)C"⟩ : MethodName) ∈ jx_G := jx_mem 301 (by decide +kernel) (by decide +kernel)
theorem jw_441 : Cond.selects "java/lang/String" (⟨"java/lang/String", "charAt", "(I)C"⟩ : MethodName) (⟨"java/lang/String", "charAt", "(I)C"⟩ : MethodName) ∈ jx_G := jx_mem 302 (by decide +kernel) (by decide +kernel)
theorem jw_442 : Cond.methodLink "OppositeThreads$Text" 121 (⟨"OppositeThreads$Text", "sortOf", "(C)I"⟩ : MethodName) ∈ jx_G := jx_mem 272 (by decide +kernel) (by decide +kernel)
theorem jw_443 : Cond.static (⟨"OppositeThreads$Text", "sortOf", "(C)I"⟩ : MethodName) ∈ jx_G := jx_mem 273 (by decide +kernel) (by decide +kernel)
set_option maxRecDepth 20000 in
theorem jo_Text : ∀ q ∈ jp_Text, jx_okP jx_nm "OppositeThreads$Text" q.1 q.2 := List.forall_mem_cons.mpr ⟨jw_396, List.forall_mem_cons.mpr ⟨⟨_, rfl, by decide, jw_397⟩, List.forall_mem_cons.mpr ⟨⟨_, rfl, jw_398⟩, List.forall_mem_cons.mpr ⟨⟨_, rfl, jw_399, jw_209, rfl, rfl, jq_Army_init⟩, List.forall_mem_cons.mpr ⟨⟨_, rfl, by decide, jw_400⟩, List.forall_mem_cons.mpr ⟨⟨_, rfl, by decide, jw_401⟩, List.forall_mem_cons.mpr ⟨⟨_, rfl, jw_402, jw_238, jw_239, jq_Army_takeFrom⟩, List.forall_mem_cons.mpr ⟨⟨_, rfl, by decide, jw_403⟩, List.forall_mem_cons.mpr ⟨⟨_, rfl, by decide, jw_404⟩, List.forall_mem_cons.mpr ⟨⟨_, rfl, jw_405, jw_406, jw_407, jq_Text_readClause⟩, List.forall_mem_cons.mpr ⟨⟨_, rfl, by decide, jw_408⟩, List.forall_mem_cons.mpr ⟨⟨_, rfl, jw_409, jw_410, jw_411, jq_Text_nextToken⟩, List.forall_mem_cons.mpr ⟨⟨_, rfl, jw_412, jw_413, jw_414, jq_Text_readWord⟩, List.forall_mem_cons.mpr ⟨⟨_, rfl, jw_415, jw_416, jw_417, jq_Text_readArmy⟩, List.forall_mem_cons.mpr ⟨⟨_, "OppositeThreads", rfl, by decide, List.mem_of_getElem? (i := 6) rfl⟩, List.forall_mem_cons.mpr ⟨⟨_, rfl, jw_418, jw_419, jw_420, jq_Text_readNumber⟩, List.forall_mem_cons.mpr ⟨⟨_, rfl, jw_421, jw_247, jw_248, jq_Army_has⟩, List.forall_mem_cons.mpr ⟨⟨_, "OppositeThreads", rfl, by decide, List.mem_of_getElem? (i := 0) rfl⟩, List.forall_mem_cons.mpr ⟨⟨_, rfl, jw_422, jw_423, jw_424, jq_Text_readButtons⟩, List.forall_mem_cons.mpr ⟨⟨_, rfl, jw_425, jw_426, jw_427, jq_Text_readMender⟩, List.forall_mem_cons.mpr ⟨⟨_, rfl, jw_428, jw_357, jw_358, jq_Army_begin⟩, List.forall_mem_cons.mpr ⟨⟨_, "OppositeThreads", rfl, by decide, List.mem_of_getElem? (i := 2) rfl⟩, List.forall_mem_cons.mpr ⟨⟨_, rfl, jw_429, jw_269, jw_270, jq_Army_sideOf⟩, List.forall_mem_cons.mpr ⟨⟨_, rfl, jw_430, jw_294, jw_295, jq_Army_firstOf⟩, List.forall_mem_cons.mpr ⟨⟨_, "OppositeThreads", rfl, by decide, List.mem_of_getElem? (i := 5) rfl⟩, List.forall_mem_cons.mpr ⟨⟨_, rfl, jw_431, jw_432, jq_Text_wordOf⟩, List.forall_mem_cons.mpr ⟨⟨_, rfl, jw_433, jw_434, jw_435, jq_Text_isToken⟩, List.forall_mem_cons.mpr ⟨⟨_, List.mem_of_getElem? (i := 0) rfl⟩, List.forall_mem_cons.mpr ⟨⟨_, List.mem_of_getElem? (i := 1) rfl⟩, List.forall_mem_cons.mpr ⟨⟨_, List.mem_of_getElem? (i := 2) rfl⟩, List.forall_mem_cons.mpr ⟨⟨_, List.mem_of_getElem? (i := 3) rfl⟩, List.forall_mem_cons.mpr ⟨⟨_, List.mem_of_getElem? (i := 4) rfl⟩, List.forall_mem_cons.mpr ⟨⟨_, List.mem_of_getElem? (i := 5) rfl⟩, List.forall_mem_cons.mpr ⟨⟨_, List.mem_of_getElem? (i := 6) rfl⟩, List.forall_mem_cons.mpr ⟨⟨_, List.mem_of_getElem? (i := 7) rfl⟩, List.forall_mem_cons.mpr ⟨⟨_, rfl, jw_436, jw_437, jw_438, jq_String_length⟩, List.forall_mem_cons.mpr ⟨⟨_, rfl, jw_439, jw_440, jw_441, jq_String_charAt⟩, List.forall_mem_cons.mpr ⟨⟨_, rfl, jw_442, jw_443, jq_Text_sortOf⟩, fun _ h => absurd h List.not_mem_nil⟩⟩⟩⟩⟩⟩⟩⟩⟩⟩⟩⟩⟩⟩⟩⟩⟩⟩⟩⟩⟩⟩⟩⟩⟩⟩⟩⟩⟩⟩⟩⟩⟩⟩⟩⟩⟩⟩
theorem jw_444 : Cond.methodLink "OppositeThreads$Past" 1 Lib.objectInit ∈ jx_G := jx_mem 151 (by decide +kernel) (by decide +kernel)
theorem jw_445 : Cond.classLink "OppositeThreads$Past" 9 jc_R0 ∈ jx_G := jx_mem 152 (by decide +kernel) (by decide +kernel)
theorem jw_446 : Cond.fieldLink "OppositeThreads$Past" 11 "OppositeThreads$Past" "states" "[LOppositeThreads$Army;" ∈ jx_G := jx_mem 155 (by decide +kernel) (by decide +kernel)
theorem jw_447 : Cond.methodLink "OppositeThreads$Past" 15 (⟨"OppositeThreads$Army", "<init>", "()V"⟩ : MethodName) ∈ jx_G := jx_mem 154 (by decide +kernel) (by decide +kernel)
theorem jw_448 : Cond.fieldLink "OppositeThreads$Past" 16 "OppositeThreads$Past" "next" "I" ∈ jx_G := jx_mem 156 (by decide +kernel) (by decide +kernel)
theorem jw_449 : Cond.fieldLink "OppositeThreads$Past" 20 "OppositeThreads$Past" "number" "I" ∈ jx_G := jx_mem 157 (by decide +kernel) (by decide +kernel)
theorem jw_450 : Cond.methodLink "OppositeThreads$Past" 23 (⟨"OppositeThreads$Army", "takeFrom", "(LOppositeThreads$Army;)V"⟩ : MethodName) ∈ jx_G := jx_mem 440 (by decide +kernel) (by decide +kernel)
theorem jw_451 : Cond.methodLink "OppositeThreads$Past" 27 Lib.Math.min.name ∈ jx_G := jx_mem 441 (by decide +kernel) (by decide +kernel)
set_option maxRecDepth 20000 in
theorem jo_Past : ∀ q ∈ jp_Past, jx_okP jx_nm "OppositeThreads$Past" q.1 q.2 := List.forall_mem_cons.mpr ⟨jw_444, List.forall_mem_cons.mpr ⟨⟨_, rfl, jw_445⟩, List.forall_mem_cons.mpr ⟨⟨_, rfl, by decide, jw_446⟩, List.forall_mem_cons.mpr ⟨⟨_, rfl, jw_447, jw_209, rfl, rfl, jq_Army_init⟩, List.forall_mem_cons.mpr ⟨⟨_, rfl, by decide, jw_448⟩, List.forall_mem_cons.mpr ⟨⟨_, rfl, by decide, jw_449⟩, List.forall_mem_cons.mpr ⟨⟨_, rfl, jw_450, jw_238, jw_239, jq_Army_takeFrom⟩, List.forall_mem_cons.mpr ⟨jw_451, fun _ h => absurd h List.not_mem_nil⟩⟩⟩⟩⟩⟩⟩⟩
theorem jw_452 : Cond.methodLink "OppositeThreads$Sightings" 3 Lib.objectInit ∈ jx_G := jx_mem 171 (by decide +kernel) (by decide +kernel)
theorem jw_453 : Cond.fieldLink "OppositeThreads$Sightings" 11 "OppositeThreads$Sightings" "days" "[I" ∈ jx_G := jx_mem 172 (by decide +kernel) (by decide +kernel)
theorem jw_454 : Cond.fieldLink "OppositeThreads$Sightings" 15 "OppositeThreads$Sightings" "sights" "[I" ∈ jx_G := jx_mem 173 (by decide +kernel) (by decide +kernel)
theorem jw_455 : Cond.fieldLink "OppositeThreads$Sightings" 18 "OppositeThreads$Sightings" "number" "I" ∈ jx_G := jx_mem 174 (by decide +kernel) (by decide +kernel)
theorem jw_456 : Cond.methodLink "OppositeThreads$Sightings" 22 (⟨"OppositeThreads$Sightings", "sightOf", "(II)I"⟩ : MethodName) ∈ jx_G := jx_mem 578 (by decide +kernel) (by decide +kernel)
theorem jw_457 : Cond.static (⟨"OppositeThreads$Sightings", "sightOf", "(II)I"⟩ : MethodName) ∈ jx_G := jx_mem 579 (by decide +kernel) (by decide +kernel)
theorem jw_458 : Cond.methodLink "OppositeThreads$Sightings" 26 (⟨"OppositeThreads$Kinds", "aimOn", "(IZ)I"⟩ : MethodName) ∈ jx_G := jx_mem 600 (by decide +kernel) (by decide +kernel)
theorem jw_459 : Cond.methodLink "OppositeThreads$Sightings" 32 (⟨"OppositeThreads$Kinds", "hitOf", "(I)I"⟩ : MethodName) ∈ jx_G := jx_mem 601 (by decide +kernel) (by decide +kernel)
theorem jw_460 : Cond.methodLink "OppositeThreads$Sightings" 36 (⟨"OppositeThreads$Sightings", "sightOfKind", "(II)I"⟩ : MethodName) ∈ jx_G := jx_mem 597 (by decide +kernel) (by decide +kernel)
theorem jw_461 : Cond.static (⟨"OppositeThreads$Sightings", "sightOfKind", "(II)I"⟩ : MethodName) ∈ jx_G := jx_mem 598 (by decide +kernel) (by decide +kernel)
theorem jw_462 : Cond.methodLink "OppositeThreads$Sightings" 39 (⟨"OppositeThreads$Sightings", "fits", "(I)Z"⟩ : MethodName) ∈ jx_G := jx_mem 593 (by decide +kernel) (by decide +kernel)
theorem jw_463 : Cond.instanceMethod (⟨"OppositeThreads$Sightings", "fits", "(I)Z"⟩ : MethodName) ∈ jx_G := jx_mem 595 (by decide +kernel) (by decide +kernel)
theorem jw_464 : Cond.selects "OppositeThreads$Sightings" (⟨"OppositeThreads$Sightings", "fits", "(I)Z"⟩ : MethodName) (⟨"OppositeThreads$Sightings", "fits", "(I)Z"⟩ : MethodName) ∈ jx_G := jx_mem 15 (by decide +kernel) (by decide +kernel)
theorem jw_465 : Cond.methodLink "OppositeThreads$Sightings" 43 (⟨"OppositeThreads$Sightings", "possibleKinds", "()I"⟩ : MethodName) ∈ jx_G := jx_mem 610 (by decide +kernel) (by decide +kernel)
theorem jw_466 : Cond.methodLink "OppositeThreads$Sightings" 47 (⟨"java/lang/Integer", "bitCount", "(I)I"⟩ : MethodName) ∈ jx_G := jx_mem 611 (by decide +kernel) (by decide +kernel)
theorem jw_467 : Cond.methodLink "OppositeThreads$Sightings" 52 (⟨"OppositeThreads$Sightings", "greatestPart", "(II)I"⟩ : MethodName) ∈ jx_G := jx_mem 612 (by decide +kernel) (by decide +kernel)
theorem jw_468 : Cond.static (⟨"OppositeThreads$Sightings", "greatestPart", "(II)I"⟩ : MethodName) ∈ jx_G := jx_mem 613 (by decide +kernel) (by decide +kernel)
theorem jw_469 : Cond.methodLink "OppositeThreads$Sightings" 55 (⟨"OppositeThreads$Sightings", "alikeTo", "(III)I"⟩ : MethodName) ∈ jx_G := jx_mem 615 (by decide +kernel) (by decide +kernel)
theorem jw_470 : Cond.static (⟨"OppositeThreads$Sightings", "alikeTo", "(III)I"⟩ : MethodName) ∈ jx_G := jx_mem 616 (by decide +kernel) (by decide +kernel)
theorem jw_471 : Cond.methodLink "OppositeThreads$Sightings" 59 Lib.Math.max.name ∈ jx_G := jx_mem 618 (by decide +kernel) (by decide +kernel)
set_option maxRecDepth 20000 in
theorem jo_Sightings : ∀ q ∈ jp_Sightings, jx_okP jx_nm "OppositeThreads$Sightings" q.1 q.2 := List.forall_mem_cons.mpr ⟨jw_452, List.forall_mem_cons.mpr ⟨⟨_, rfl, by decide, jw_453⟩, List.forall_mem_cons.mpr ⟨⟨_, rfl, by decide, jw_454⟩, List.forall_mem_cons.mpr ⟨⟨_, rfl, by decide, jw_455⟩, List.forall_mem_cons.mpr ⟨⟨_, rfl, jw_456, jw_457, jq_Sightings_sightOf⟩, List.forall_mem_cons.mpr ⟨⟨_, rfl, jw_458, jw_367, jq_Kinds_aimOn⟩, List.forall_mem_cons.mpr ⟨⟨_, rfl, jw_459, jw_253, jq_Kinds_hitOf⟩, List.forall_mem_cons.mpr ⟨⟨_, rfl, jw_460, jw_461, jq_Sightings_sightOfKind⟩, List.forall_mem_cons.mpr ⟨⟨_, rfl, jw_462, jw_463, jw_464, jq_Sightings_fits⟩, List.forall_mem_cons.mpr ⟨⟨_, rfl, jw_465, jw_317, jw_318, jq_Sightings_possibleKinds⟩, List.forall_mem_cons.mpr ⟨⟨_, rfl, jw_466, jw_309, jq_Integer_bitCount⟩, List.forall_mem_cons.mpr ⟨⟨_, rfl, jw_467, jw_468, jq_Sightings_greatestPart⟩, List.forall_mem_cons.mpr ⟨⟨_, rfl, jw_469, jw_470, jq_Sightings_alikeTo⟩, List.forall_mem_cons.mpr ⟨jw_471, fun _ h => absurd h List.not_mem_nil⟩⟩⟩⟩⟩⟩⟩⟩⟩⟩⟩⟩⟩⟩
theorem jw_472 : Cond.methodLink "OppositeThreads$Sheet" 3 Lib.objectInit ∈ jx_G := jx_mem 190 (by decide +kernel) (by decide +kernel)
theorem jw_473 : Cond.fieldLink "OppositeThreads$Sheet" 11 "OppositeThreads$Sheet" "places" "[J" ∈ jx_G := jx_mem 191 (by decide +kernel) (by decide +kernel)
theorem jw_474 : Cond.fieldLink "OppositeThreads$Sheet" 15 "OppositeThreads$Sheet" "sort" "I" ∈ jx_G := jx_mem 193 (by decide +kernel) (by decide +kernel)
theorem jw_475 : Cond.methodLink "OppositeThreads$Sheet" 19 Lib.Math.min.name ∈ jx_G := jx_mem 633 (by decide +kernel) (by decide +kernel)
theorem jw_476 : Cond.methodLink "OppositeThreads$Sheet" 25 Lib.Math.max.name ∈ jx_G := jx_mem 634 (by decide +kernel) (by decide +kernel)
theorem jw_477 : Cond.fieldLink "OppositeThreads$Sheet" 28 "OppositeThreads$Sheet" "size" "I" ∈ jx_G := jx_mem 195 (by decide +kernel) (by decide +kernel)
set_option maxRecDepth 20000 in
theorem jo_Sheet : ∀ q ∈ jp_Sheet, jx_okP jx_nm "OppositeThreads$Sheet" q.1 q.2 := List.forall_mem_cons.mpr ⟨jw_472, List.forall_mem_cons.mpr ⟨⟨_, rfl, by decide, jw_473⟩, List.forall_mem_cons.mpr ⟨⟨_, rfl, by decide, jw_474⟩, List.forall_mem_cons.mpr ⟨jw_475, List.forall_mem_cons.mpr ⟨jw_476, List.forall_mem_cons.mpr ⟨⟨_, rfl, by decide, jw_477⟩, fun _ h => absurd h List.not_mem_nil⟩⟩⟩⟩⟩⟩
theorem jw_478 : Cond.fieldLink "java/lang/String" 9 "java/lang/String" "value" "[B" ∈ jx_G := jx_mem 1081 (by decide +kernel) (by decide +kernel)
theorem jw_479 : Cond.fieldLink "java/lang/String" 15 "java/lang/String" "coder" "B" ∈ jx_G := jx_mem 1082 (by decide +kernel) (by decide +kernel)
theorem jw_480 : Cond.fieldLink "java/lang/String" 38 "java/lang/String" "COMPACT_STRINGS" "Z" ∈ jx_G := jx_mem 298 (by decide +kernel) (by decide +kernel)
theorem jw_481 : Cond.methodLink "java/lang/String" 335 (⟨"java/lang/String", "coder", "()B"⟩ : MethodName) ∈ jx_G := jx_mem 294 (by decide +kernel) (by decide +kernel)
theorem jw_482 : Cond.instanceMethod (⟨"java/lang/String", "coder", "()B"⟩ : MethodName) ∈ jx_G := jx_mem 295 (by decide +kernel) (by decide +kernel)
theorem jw_483 : Cond.selects "java/lang/String" (⟨"java/lang/String", "coder", "()B"⟩ : MethodName) (⟨"java/lang/String", "coder", "()B"⟩ : MethodName) ∈ jx_G := jx_mem 296 (by decide +kernel) (by decide +kernel)
theorem jw_484 : Cond.methodLink "java/lang/String" 492 (⟨"java/lang/String", "isLatin1", "()Z"⟩ : MethodName) ∈ jx_G := jx_mem 304 (by decide +kernel) (by decide +kernel)
theorem jw_485 : Cond.instanceMethod (⟨"java/lang/String", "isLatin1", "()Z"⟩ : MethodName) ∈ jx_G := jx_mem 305 (by decide +kernel) (by decide +kernel)
theorem jw_486 : Cond.selects "java/lang/String" (⟨"java/lang/String", "isLatin1", "()Z"⟩ : MethodName) (⟨"java/lang/String", "isLatin1", "()Z"⟩ : MethodName) ∈ jx_G := jx_mem 306 (by decide +kernel) (by decide +kernel)
theorem jw_487 : Cond.methodLink "java/lang/String" 495 (⟨"java/lang/StringLatin1", "charAt", "([BI)C"⟩ : MethodName) ∈ jx_G := jx_mem 308 (by decide +kernel) (by decide +kernel)
theorem jw_488 : Cond.static (⟨"java/lang/StringLatin1", "charAt", "([BI)C"⟩ : MethodName) ∈ jx_G := jx_mem 309 (by decide +kernel) (by decide +kernel)
theorem jw_489 : Cond.fieldLink "java/lang/String" 1053 "jdk/internal/util/Preconditions" "SIOOBE_FORMATTER" "Ljava/util/function/BiFunction;" ∈ jx_G := jx_mem 314 (by decide +kernel) (by decide +kernel)
theorem jw_490 : Cond.methodLink "java/lang/String" 1059 (⟨"jdk/internal/util/Preconditions", "checkIndex", "(IILjava/util/function/BiFunction;)I"⟩ : MethodName) ∈ jx_G := jx_mem 316 (by decide +kernel) (by decide +kernel)
theorem jw_491 : Cond.static (⟨"jdk/internal/util/Preconditions", "checkIndex", "(IILjava/util/function/BiFunction;)I"⟩ : MethodName) ∈ jx_G := jx_mem 317 (by decide +kernel) (by decide +kernel)
set_option maxRecDepth 20000 in
theorem jo_String : ∀ q ∈ jp_String, jx_okP jx_nm "java/lang/String" q.1 q.2 := List.forall_mem_cons.mpr ⟨⟨rfl, Or.inl ⟨rfl, jw_478⟩⟩, List.forall_mem_cons.mpr ⟨⟨rfl, Or.inr ⟨rfl, jw_479⟩⟩, List.forall_mem_cons.mpr ⟨⟨_, rfl, jw_480⟩, List.forall_mem_cons.mpr ⟨⟨_, rfl, jw_481, jw_482, jw_483, jq_String_coder⟩, List.forall_mem_cons.mpr ⟨⟨_, rfl, jw_484, jw_485, jw_486, jq_String_isLatin1⟩, List.forall_mem_cons.mpr ⟨⟨_, rfl, jw_487, jw_488, jq_StringLatin1_charAt⟩, List.forall_mem_cons.mpr ⟨⟨_, rfl, jw_489⟩, List.forall_mem_cons.mpr ⟨⟨_, rfl, jw_490, jw_491, jq_Preconditions_checkIndex⟩, fun _ h => absurd h List.not_mem_nil⟩⟩⟩⟩⟩⟩⟩⟩
theorem jw_492 : Cond.methodLink "java/lang/StringLatin1" 9 (⟨"java/lang/String", "checkIndex", "(II)V"⟩ : MethodName) ∈ jx_G := jx_mem 311 (by decide +kernel) (by decide +kernel)
theorem jw_493 : Cond.static (⟨"java/lang/String", "checkIndex", "(II)V"⟩ : MethodName) ∈ jx_G := jx_mem 312 (by decide +kernel) (by decide +kernel)
set_option maxRecDepth 20000 in
theorem jo_StringLatin1 : ∀ q ∈ jp_StringLatin1, jx_okP jx_nm "java/lang/StringLatin1" q.1 q.2 := List.forall_mem_cons.mpr ⟨⟨_, rfl, jw_492, jw_493, jq_String_checkIndex⟩, fun _ h => absurd h List.not_mem_nil⟩
theorem jw_494 : Cond.methodLink "java/lang/StringUTF16" 414 (⟨"java/lang/String", "checkIndex", "(II)V"⟩ : MethodName) ∈ jx_G := jx_mem 328 (by decide +kernel) (by decide +kernel)
set_option maxRecDepth 20000 in
theorem jo_StringUTF16 : ∀ q ∈ jp_StringUTF16, jx_okP jx_nm "java/lang/StringUTF16" q.1 q.2 := List.forall_mem_cons.mpr ⟨⟨_, rfl, jw_494, jw_493, jq_String_checkIndex⟩, fun _ h => absurd h List.not_mem_nil⟩
theorem jw_495 : Cond.fieldLink "OppositeThreads$Kinds" 9 "OppositeThreads$Kinds" "ABOVE" "[I" ∈ jx_G := jx_mem 430 (by decide +kernel) (by decide +kernel)
set_option maxRecDepth 20000 in
theorem jo_Kinds : ∀ q ∈ jp_Kinds, jx_okP jx_nm "OppositeThreads$Kinds" q.1 q.2 := List.forall_mem_cons.mpr ⟨⟨_, rfl, jw_495⟩, fun _ h => absurd h List.not_mem_nil⟩
theorem jw_496 : Cond.constant "java/lang/Integer" 265 (Int32.ofInt 1431655765) ∈ jx_G := jx_mem 559 (by decide +kernel) (by decide +kernel)
theorem jw_497 : Cond.constant "java/lang/Integer" 266 (Int32.ofInt 858993459) ∈ jx_G := jx_mem 560 (by decide +kernel) (by decide +kernel)
theorem jw_498 : Cond.constant "java/lang/Integer" 267 (Int32.ofInt 252645135) ∈ jx_G := jx_mem 561 (by decide +kernel) (by decide +kernel)
set_option maxRecDepth 20000 in
theorem jo_Integer : ∀ q ∈ jp_Integer, jx_okP jx_nm "java/lang/Integer" q.1 q.2 := List.forall_mem_cons.mpr ⟨jw_496, List.forall_mem_cons.mpr ⟨jw_497, List.forall_mem_cons.mpr ⟨jw_498, fun _ h => absurd h List.not_mem_nil⟩⟩⟩
theorem jw_499 : Cond.methodLink "OppositeThreadsModel" 1 Lib.objectInit ∈ jx_G := jx_mem 698 (by decide +kernel) (by decide +kernel)
theorem jw_500 : Cond.fieldLink "OppositeThreadsModel" 7 "OppositeThreadsModel" "row" "[I" ∈ jx_G := jx_mem 707 (by decide +kernel) (by decide +kernel)
theorem jw_501 : Cond.fieldLink "OppositeThreadsModel" 13 "OppositeThreadsModel" "isKept" "[Z" ∈ jx_G := jx_mem 709 (by decide +kernel) (by decide +kernel)
theorem jw_502 : Cond.fieldLink "OppositeThreadsModel" 17 "OppositeThreadsModel" "text" "[I" ∈ jx_G := jx_mem 710 (by decide +kernel) (by decide +kernel)
theorem jw_503 : Cond.fieldLink "OppositeThreadsModel" 20 "OppositeThreadsModel" "seenDay" "[I" ∈ jx_G := jx_mem 713 (by decide +kernel) (by decide +kernel)
theorem jw_504 : Cond.fieldLink "OppositeThreadsModel" 23 "OppositeThreadsModel" "seenWhere" "[I" ∈ jx_G := jx_mem 714 (by decide +kernel) (by decide +kernel)
theorem jw_505 : Cond.fieldLink "OppositeThreadsModel" 26 "OppositeThreadsModel" "seenHit" "[I" ∈ jx_G := jx_mem 715 (by decide +kernel) (by decide +kernel)
theorem jw_506 : Cond.fieldLink "OppositeThreadsModel" 29 "OppositeThreadsModel" "sorts" "[I" ∈ jx_G := jx_mem 716 (by decide +kernel) (by decide +kernel)
theorem jw_507 : Cond.fieldLink "OppositeThreadsModel" 32 "OppositeThreadsModel" "sizes" "[I" ∈ jx_G := jx_mem 717 (by decide +kernel) (by decide +kernel)
theorem jw_508 : Cond.fieldLink "OppositeThreadsModel" 35 "OppositeThreadsModel" "values" "[I" ∈ jx_G := jx_mem 718 (by decide +kernel) (by decide +kernel)
theorem jw_509 : Cond.fieldLink "OppositeThreadsModel" 38 "OppositeThreadsModel" "numbers" "[I" ∈ jx_G := jx_mem 724 (by decide +kernel) (by decide +kernel)
theorem jw_510 : Cond.fieldLink "OppositeThreadsModel" 41 "OppositeThreadsModel" "armyWord" "[I" ∈ jx_G := jx_mem 725 (by decide +kernel) (by decide +kernel)
theorem jw_511 : Cond.fieldLink "OppositeThreadsModel" 44 "OppositeThreadsModel" "plainWord" "[I" ∈ jx_G := jx_mem 726 (by decide +kernel) (by decide +kernel)
theorem jw_512 : Cond.fieldLink "OppositeThreadsModel" 47 "OppositeThreadsModel" "sailorWord" "[I" ∈ jx_G := jx_mem 727 (by decide +kernel) (by decide +kernel)
theorem jw_513 : Cond.fieldLink "OppositeThreadsModel" 50 "OppositeThreadsModel" "sniperWord" "[I" ∈ jx_G := jx_mem 728 (by decide +kernel) (by decide +kernel)
theorem jw_514 : Cond.fieldLink "OppositeThreadsModel" 53 "OppositeThreadsModel" "corporalWord" "[I" ∈ jx_G := jx_mem 729 (by decide +kernel) (by decide +kernel)
theorem jw_515 : Cond.fieldLink "OppositeThreadsModel" 56 "OppositeThreadsModel" "drummerWord" "[I" ∈ jx_G := jx_mem 730 (by decide +kernel) (by decide +kernel)
theorem jw_516 : Cond.fieldLink "OppositeThreadsModel" 59 "OppositeThreadsModel" "buttonsWord" "[I" ∈ jx_G := jx_mem 731 (by decide +kernel) (by decide +kernel)
theorem jw_517 : Cond.fieldLink "OppositeThreadsModel" 62 "OppositeThreadsModel" "menderWord" "[I" ∈ jx_G := jx_mem 732 (by decide +kernel) (by decide +kernel)
theorem jw_518 : Cond.fieldLink "OppositeThreadsModel" 65 "OppositeThreadsModel" "gone" "[I" ∈ jx_G := jx_mem 733 (by decide +kernel) (by decide +kernel)
theorem jw_519 : Cond.fieldLink "OppositeThreadsModel" 68 "OppositeThreadsModel" "order" "[I" ∈ jx_G := jx_mem 734 (by decide +kernel) (by decide +kernel)
theorem jw_520 : Cond.fieldLink "OppositeThreadsModel" 71 "OppositeThreadsModel" "bestOrder" "[I" ∈ jx_G := jx_mem 735 (by decide +kernel) (by decide +kernel)
theorem jw_521 : Cond.methodLink "OppositeThreadsModel" 74 (⟨"OppositeThreadsModel", "layArmy", "(I)V"⟩ : MethodName) ∈ jx_G := jx_mem 699 (by decide +kernel) (by decide +kernel)
theorem jw_522 : Cond.instanceMethod (⟨"OppositeThreadsModel", "layArmy", "(I)V"⟩ : MethodName) ∈ jx_G := jx_mem 701 (by decide +kernel) (by decide +kernel)
theorem jw_523 : Cond.selects "OppositeThreadsModel" (⟨"OppositeThreadsModel", "layArmy", "(I)V"⟩ : MethodName) (⟨"OppositeThreadsModel", "layArmy", "(I)V"⟩ : MethodName) ∈ jx_G := jx_mem 17 (by decide +kernel) (by decide +kernel)
theorem jw_524 : Cond.methodLink "OppositeThreadsModel" 78 (⟨"OppositeThreadsModel", "copyRow", "(III)V"⟩ : MethodName) ∈ jx_G := jx_mem 703 (by decide +kernel) (by decide +kernel)
theorem jw_525 : Cond.instanceMethod (⟨"OppositeThreadsModel", "copyRow", "(III)V"⟩ : MethodName) ∈ jx_G := jx_mem 705 (by decide +kernel) (by decide +kernel)
theorem jw_526 : Cond.selects "OppositeThreadsModel" (⟨"OppositeThreadsModel", "copyRow", "(III)V"⟩ : MethodName) (⟨"OppositeThreadsModel", "copyRow", "(III)V"⟩ : MethodName) ∈ jx_G := jx_mem 18 (by decide +kernel) (by decide +kernel)
theorem jw_527 : Cond.constantLong "OppositeThreadsModel" 82 (Int64.ofInt 255) ∈ jx_G := jx_mem 799 (by decide +kernel) (by decide +kernel)
theorem jw_528 : Cond.methodLink "OppositeThreadsModel" 84 (⟨"OppositeThreadsModel", "in", "(JJJ)Z"⟩ : MethodName) ∈ jx_G := jx_mem 800 (by decide +kernel) (by decide +kernel)
theorem jw_529 : Cond.static (⟨"OppositeThreadsModel", "in", "(JJJ)Z"⟩ : MethodName) ∈ jx_G := jx_mem 801 (by decide +kernel) (by decide +kernel)
theorem jw_530 : Cond.fieldLink "OppositeThreadsModel" 88 "OppositeThreadsModel" "length" "I" ∈ jx_G := jx_mem 711 (by decide +kernel) (by decide +kernel)
theorem jw_531 : Cond.constantLong "OppositeThreadsModel" 92 (Int64.ofInt 97) ∈ jx_G := jx_mem 822 (by decide +kernel) (by decide +kernel)
theorem jw_532 : Cond.constantLong "OppositeThreadsModel" 94 (Int64.ofInt 122) ∈ jx_G := jx_mem 823 (by decide +kernel) (by decide +kernel)
theorem jw_533 : Cond.constantLong "OppositeThreadsModel" 96 (Int64.ofInt 48) ∈ jx_G := jx_mem 827 (by decide +kernel) (by decide +kernel)
theorem jw_534 : Cond.constantLong "OppositeThreadsModel" 98 (Int64.ofInt 57) ∈ jx_G := jx_mem 828 (by decide +kernel) (by decide +kernel)
theorem jw_535 : Cond.fieldLink "OppositeThreadsModel" 100 "OppositeThreadsModel" "behind" "I" ∈ jx_G := jx_mem 720 (by decide +kernel) (by decide +kernel)
theorem jw_536 : Cond.fieldLink "OppositeThreadsModel" 103 "OppositeThreadsModel" "first" "I" ∈ jx_G := jx_mem 719 (by decide +kernel) (by decide +kernel)
theorem jw_537 : Cond.methodLink "OppositeThreadsModel" 106 (⟨"OppositeThreadsModel", "isLetter", "(I)Z"⟩ : MethodName) ∈ jx_G := jx_mem 819 (by decide +kernel) (by decide +kernel)
theorem jw_538 : Cond.static (⟨"OppositeThreadsModel", "isLetter", "(I)Z"⟩ : MethodName) ∈ jx_G := jx_mem 820 (by decide +kernel) (by decide +kernel)
theorem jw_539 : Cond.methodLink "OppositeThreadsModel" 110 (⟨"OppositeThreadsModel", "isDigit", "(I)Z"⟩ : MethodName) ∈ jx_G := jx_mem 824 (by decide +kernel) (by decide +kernel)
theorem jw_540 : Cond.static (⟨"OppositeThreadsModel", "isDigit", "(I)Z"⟩ : MethodName) ∈ jx_G := jx_mem 825 (by decide +kernel) (by decide +kernel)
theorem jw_541 : Cond.methodLink "OppositeThreadsModel" 113 (⟨"OppositeThreadsModel", "nextToken", "()V"⟩ : MethodName) ∈ jx_G := jx_mem 815 (by decide +kernel) (by decide +kernel)
theorem jw_542 : Cond.instanceMethod (⟨"OppositeThreadsModel", "nextToken", "()V"⟩ : MethodName) ∈ jx_G := jx_mem 817 (by decide +kernel) (by decide +kernel)
theorem jw_543 : Cond.selects "OppositeThreadsModel" (⟨"OppositeThreadsModel", "nextToken", "()V"⟩ : MethodName) (⟨"OppositeThreadsModel", "nextToken", "()V"⟩ : MethodName) ∈ jx_G := jx_mem 20 (by decide +kernel) (by decide +kernel)
theorem jw_544 : Cond.methodLink "OppositeThreadsModel" 116 (⟨"OppositeThreadsModel", "isWord", "([I)Z"⟩ : MethodName) ∈ jx_G := jx_mem 837 (by decide +kernel) (by decide +kernel)
theorem jw_545 : Cond.instanceMethod (⟨"OppositeThreadsModel", "isWord", "([I)Z"⟩ : MethodName) ∈ jx_G := jx_mem 839 (by decide +kernel) (by decide +kernel)
theorem jw_546 : Cond.selects "OppositeThreadsModel" (⟨"OppositeThreadsModel", "isWord", "([I)Z"⟩ : MethodName) (⟨"OppositeThreadsModel", "isWord", "([I)Z"⟩ : MethodName) ∈ jx_G := jx_mem 23 (by decide +kernel) (by decide +kernel)
theorem jw_547 : Cond.fieldLink "OppositeThreadsModel" 120 "OppositeThreadsModel" "readSides" "I" ∈ jx_G := jx_mem 721 (by decide +kernel) (by decide +kernel)
theorem jw_548 : Cond.methodLink "OppositeThreadsModel" 123 (⟨"OppositeThreadsModel", "number", "(III)Z"⟩ : MethodName) ∈ jx_G := jx_mem 845 (by decide +kernel) (by decide +kernel)
theorem jw_549 : Cond.instanceMethod (⟨"OppositeThreadsModel", "number", "(III)Z"⟩ : MethodName) ∈ jx_G := jx_mem 847 (by decide +kernel) (by decide +kernel)
theorem jw_550 : Cond.selects "OppositeThreadsModel" (⟨"OppositeThreadsModel", "number", "(III)Z"⟩ : MethodName) (⟨"OppositeThreadsModel", "number", "(III)Z"⟩ : MethodName) ∈ jx_G := jx_mem 25 (by decide +kernel) (by decide +kernel)
theorem jw_551 : Cond.fieldLink "OppositeThreadsModel" 127 "OppositeThreadsModel" "doing" "Z" ∈ jx_G := jx_mem 723 (by decide +kernel) (by decide +kernel)
theorem jw_552 : Cond.methodLink "OppositeThreadsModel" 131 (⟨"OppositeThreadsModel", "kindHere", "()I"⟩ : MethodName) ∈ jx_G := jx_mem 833 (by decide +kernel) (by decide +kernel)
theorem jw_553 : Cond.instanceMethod (⟨"OppositeThreadsModel", "kindHere", "()I"⟩ : MethodName) ∈ jx_G := jx_mem 835 (by decide +kernel) (by decide +kernel)
theorem jw_554 : Cond.selects "OppositeThreadsModel" (⟨"OppositeThreadsModel", "kindHere", "()I"⟩ : MethodName) (⟨"OppositeThreadsModel", "kindHere", "()I"⟩ : MethodName) ∈ jx_G := jx_mem 22 (by decide +kernel) (by decide +kernel)
theorem jw_555 : Cond.methodLink "OppositeThreadsModel" 135 (⟨"OppositeThreadsModel", "readsKind", "(I)Z"⟩ : MethodName) ∈ jx_G := jx_mem 841 (by decide +kernel) (by decide +kernel)
theorem jw_556 : Cond.instanceMethod (⟨"OppositeThreadsModel", "readsKind", "(I)Z"⟩ : MethodName) ∈ jx_G := jx_mem 843 (by decide +kernel) (by decide +kernel)
theorem jw_557 : Cond.selects "OppositeThreadsModel" (⟨"OppositeThreadsModel", "readsKind", "(I)Z"⟩ : MethodName) (⟨"OppositeThreadsModel", "readsKind", "(I)Z"⟩ : MethodName) ∈ jx_G := jx_mem 24 (by decide +kernel) (by decide +kernel)
theorem jw_558 : Cond.methodLink "OppositeThreadsModel" 138 (⟨"OppositeThreadsModel", "readsArmy", "()Z"⟩ : MethodName) ∈ jx_G := jx_mem 849 (by decide +kernel) (by decide +kernel)
theorem jw_559 : Cond.instanceMethod (⟨"OppositeThreadsModel", "readsArmy", "()Z"⟩ : MethodName) ∈ jx_G := jx_mem 851 (by decide +kernel) (by decide +kernel)
theorem jw_560 : Cond.selects "OppositeThreadsModel" (⟨"OppositeThreadsModel", "readsArmy", "()Z"⟩ : MethodName) (⟨"OppositeThreadsModel", "readsArmy", "()Z"⟩ : MethodName) ∈ jx_G := jx_mem 26 (by decide +kernel) (by decide +kernel)
theorem jw_561 : Cond.methodLink "OppositeThreadsModel" 142 (⟨"OppositeThreadsModel", "readsButtons", "()Z"⟩ : MethodName) ∈ jx_G := jx_mem 853 (by decide +kernel) (by decide +kernel)
theorem jw_562 : Cond.instanceMethod (⟨"OppositeThreadsModel", "readsButtons", "()Z"⟩ : MethodName) ∈ jx_G := jx_mem 855 (by decide +kernel) (by decide +kernel)
theorem jw_563 : Cond.selects "OppositeThreadsModel" (⟨"OppositeThreadsModel", "readsButtons", "()Z"⟩ : MethodName) (⟨"OppositeThreadsModel", "readsButtons", "()Z"⟩ : MethodName) ∈ jx_G := jx_mem 27 (by decide +kernel) (by decide +kernel)
theorem jw_564 : Cond.methodLink "OppositeThreadsModel" 145 (⟨"OppositeThreadsModel", "readsMender", "()Z"⟩ : MethodName) ∈ jx_G := jx_mem 857 (by decide +kernel) (by decide +kernel)
theorem jw_565 : Cond.instanceMethod (⟨"OppositeThreadsModel", "readsMender", "()Z"⟩ : MethodName) ∈ jx_G := jx_mem 859 (by decide +kernel) (by decide +kernel)
theorem jw_566 : Cond.selects "OppositeThreadsModel" (⟨"OppositeThreadsModel", "readsMender", "()Z"⟩ : MethodName) (⟨"OppositeThreadsModel", "readsMender", "()Z"⟩ : MethodName) ∈ jx_G := jx_mem 28 (by decide +kernel) (by decide +kernel)
theorem jw_567 : Cond.fieldLink "OppositeThreadsModel" 148 "OppositeThreadsModel" "clauses" "I" ∈ jx_G := jx_mem 722 (by decide +kernel) (by decide +kernel)
theorem jw_568 : Cond.methodLink "OppositeThreadsModel" 151 (⟨"OppositeThreadsModel", "readsClause", "()Z"⟩ : MethodName) ∈ jx_G := jx_mem 829 (by decide +kernel) (by decide +kernel)
theorem jw_569 : Cond.instanceMethod (⟨"OppositeThreadsModel", "readsClause", "()Z"⟩ : MethodName) ∈ jx_G := jx_mem 831 (by decide +kernel) (by decide +kernel)
theorem jw_570 : Cond.selects "OppositeThreadsModel" (⟨"OppositeThreadsModel", "readsClause", "()Z"⟩ : MethodName) (⟨"OppositeThreadsModel", "readsClause", "()Z"⟩ : MethodName) ∈ jx_G := jx_mem 21 (by decide +kernel) (by decide +kernel)
theorem jw_571 : Cond.methodLink "OppositeThreadsModel" 154 (⟨"OppositeThreadsModel", "reads", "(Z)Z"⟩ : MethodName) ∈ jx_G := jx_mem 811 (by decide +kernel) (by decide +kernel)
theorem jw_572 : Cond.instanceMethod (⟨"OppositeThreadsModel", "reads", "(Z)Z"⟩ : MethodName) ∈ jx_G := jx_mem 813 (by decide +kernel) (by decide +kernel)
theorem jw_573 : Cond.selects "OppositeThreadsModel" (⟨"OppositeThreadsModel", "reads", "(Z)Z"⟩ : MethodName) (⟨"OppositeThreadsModel", "reads", "(Z)Z"⟩ : MethodName) ∈ jx_G := jx_mem 19 (by decide +kernel) (by decide +kernel)
theorem jw_574 : Cond.fieldLink "OppositeThreadsModel" 158 "OppositeThreadsModel" "undos" "I" ∈ jx_G := jx_mem 708 (by decide +kernel) (by decide +kernel)
theorem jw_575 : Cond.fieldLink "OppositeThreadsModel" 161 "OppositeThreadsModel" "seenMany" "I" ∈ jx_G := jx_mem 712 (by decide +kernel) (by decide +kernel)
theorem jw_576 : Cond.methodLink "OppositeThreadsModel" 164 (⟨"OppositeThreadsModel", "men", "()I"⟩ : MethodName) ∈ jx_G := jx_mem 873 (by decide +kernel) (by decide +kernel)
theorem jw_577 : Cond.instanceMethod (⟨"OppositeThreadsModel", "men", "()I"⟩ : MethodName) ∈ jx_G := jx_mem 875 (by decide +kernel) (by decide +kernel)
theorem jw_578 : Cond.selects "OppositeThreadsModel" (⟨"OppositeThreadsModel", "men", "()I"⟩ : MethodName) (⟨"OppositeThreadsModel", "men", "()I"⟩ : MethodName) ∈ jx_G := jx_mem 30 (by decide +kernel) (by decide +kernel)
theorem jw_579 : Cond.methodLink "OppositeThreadsModel" 167 (⟨"OppositeThreadsModel", "sideOf", "(I)I"⟩ : MethodName) ∈ jx_G := jx_mem 889 (by decide +kernel) (by decide +kernel)
theorem jw_580 : Cond.instanceMethod (⟨"OppositeThreadsModel", "sideOf", "(I)I"⟩ : MethodName) ∈ jx_G := jx_mem 891 (by decide +kernel) (by decide +kernel)
theorem jw_581 : Cond.selects "OppositeThreadsModel" (⟨"OppositeThreadsModel", "sideOf", "(I)I"⟩ : MethodName) (⟨"OppositeThreadsModel", "sideOf", "(I)I"⟩ : MethodName) ∈ jx_G := jx_mem 34 (by decide +kernel) (by decide +kernel)
theorem jw_582 : Cond.methodLink "OppositeThreadsModel" 171 (⟨"OppositeThreadsModel", "isOut", "(II)Z"⟩ : MethodName) ∈ jx_G := jx_mem 881 (by decide +kernel) (by decide +kernel)
theorem jw_583 : Cond.instanceMethod (⟨"OppositeThreadsModel", "isOut", "(II)Z"⟩ : MethodName) ∈ jx_G := jx_mem 883 (by decide +kernel) (by decide +kernel)
theorem jw_584 : Cond.selects "OppositeThreadsModel" (⟨"OppositeThreadsModel", "isOut", "(II)Z"⟩ : MethodName) (⟨"OppositeThreadsModel", "isOut", "(II)Z"⟩ : MethodName) ∈ jx_G := jx_mem 32 (by decide +kernel) (by decide +kernel)
theorem jw_585 : Cond.methodLink "OppositeThreadsModel" 175 (⟨"OppositeThreadsModel", "isOpen", "(III)Z"⟩ : MethodName) ∈ jx_G := jx_mem 885 (by decide +kernel) (by decide +kernel)
theorem jw_586 : Cond.instanceMethod (⟨"OppositeThreadsModel", "isOpen", "(III)Z"⟩ : MethodName) ∈ jx_G := jx_mem 887 (by decide +kernel) (by decide +kernel)
theorem jw_587 : Cond.selects "OppositeThreadsModel" (⟨"OppositeThreadsModel", "isOpen", "(III)Z"⟩ : MethodName) (⟨"OppositeThreadsModel", "isOpen", "(III)Z"⟩ : MethodName) ∈ jx_G := jx_mem 33 (by decide +kernel) (by decide +kernel)
theorem jw_588 : Cond.methodLink "OppositeThreadsModel" 178 (⟨"OppositeThreadsModel", "has", "(II)Z"⟩ : MethodName) ∈ jx_G := jx_mem 922 (by decide +kernel) (by decide +kernel)
theorem jw_589 : Cond.static (⟨"OppositeThreadsModel", "has", "(II)Z"⟩ : MethodName) ∈ jx_G := jx_mem 923 (by decide +kernel) (by decide +kernel)
theorem jw_590 : Cond.methodLink "OppositeThreadsModel" 181 (⟨"OppositeThreadsModel", "aimsAt", "(II)I"⟩ : MethodName) ∈ jx_G := jx_mem 877 (by decide +kernel) (by decide +kernel)
theorem jw_591 : Cond.instanceMethod (⟨"OppositeThreadsModel", "aimsAt", "(II)I"⟩ : MethodName) ∈ jx_G := jx_mem 879 (by decide +kernel) (by decide +kernel)
theorem jw_592 : Cond.selects "OppositeThreadsModel" (⟨"OppositeThreadsModel", "aimsAt", "(II)I"⟩ : MethodName) (⟨"OppositeThreadsModel", "aimsAt", "(II)I"⟩ : MethodName) ∈ jx_G := jx_mem 31 (by decide +kernel) (by decide +kernel)
theorem jw_593 : Cond.methodLink "OppositeThreadsModel" 185 (⟨"OppositeThreadsModel", "hitsBy", "(I)I"⟩ : MethodName) ∈ jx_G := jx_mem 893 (by decide +kernel) (by decide +kernel)
theorem jw_594 : Cond.static (⟨"OppositeThreadsModel", "hitsBy", "(I)I"⟩ : MethodName) ∈ jx_G := jx_mem 894 (by decide +kernel) (by decide +kernel)
theorem jw_595 : Cond.methodLink "OppositeThreadsModel" 188 (⟨"OppositeThreadsModel", "hamper", "(I)V"⟩ : MethodName) ∈ jx_G := jx_mem 918 (by decide +kernel) (by decide +kernel)
theorem jw_596 : Cond.instanceMethod (⟨"OppositeThreadsModel", "hamper", "(I)V"⟩ : MethodName) ∈ jx_G := jx_mem 920 (by decide +kernel) (by decide +kernel)
theorem jw_597 : Cond.selects "OppositeThreadsModel" (⟨"OppositeThreadsModel", "hamper", "(I)V"⟩ : MethodName) (⟨"OppositeThreadsModel", "hamper", "(I)V"⟩ : MethodName) ∈ jx_G := jx_mem 38 (by decide +kernel) (by decide +kernel)
theorem jw_598 : Cond.methodLink "OppositeThreadsModel" 191 (⟨"OppositeThreadsModel", "isMan", "(I)Z"⟩ : MethodName) ∈ jx_G := jx_mem 869 (by decide +kernel) (by decide +kernel)
theorem jw_599 : Cond.instanceMethod (⟨"OppositeThreadsModel", "isMan", "(I)Z"⟩ : MethodName) ∈ jx_G := jx_mem 871 (by decide +kernel) (by decide +kernel)
theorem jw_600 : Cond.selects "OppositeThreadsModel" (⟨"OppositeThreadsModel", "isMan", "(I)Z"⟩ : MethodName) (⟨"OppositeThreadsModel", "isMan", "(I)Z"⟩ : MethodName) ∈ jx_G := jx_mem 29 (by decide +kernel) (by decide +kernel)
theorem jw_601 : Cond.methodLink "OppositeThreadsModel" 194 (⟨"OppositeThreadsModel", "knownBy", "(I)I"⟩ : MethodName) ∈ jx_G := jx_mem 896 (by decide +kernel) (by decide +kernel)
theorem jw_602 : Cond.instanceMethod (⟨"OppositeThreadsModel", "knownBy", "(I)I"⟩ : MethodName) ∈ jx_G := jx_mem 898 (by decide +kernel) (by decide +kernel)
theorem jw_603 : Cond.selects "OppositeThreadsModel" (⟨"OppositeThreadsModel", "knownBy", "(I)I"⟩ : MethodName) (⟨"OppositeThreadsModel", "knownBy", "(I)I"⟩ : MethodName) ∈ jx_G := jx_mem 35 (by decide +kernel) (by decide +kernel)
theorem jw_604 : Cond.constantLong "OppositeThreadsModel" 197 (Int64.ofInt 5) ∈ jx_G := jx_mem 904 (by decide +kernel) (by decide +kernel)
theorem jw_605 : Cond.constantLong "OppositeThreadsModel" 199 (Int64.ofInt 9) ∈ jx_G := jx_mem 909 (by decide +kernel) (by decide +kernel)
theorem jw_606 : Cond.methodLink "OppositeThreadsModel" 201 (⟨"OppositeThreadsModel", "keepPast", "()V"⟩ : MethodName) ∈ jx_G := jx_mem 910 (by decide +kernel) (by decide +kernel)
theorem jw_607 : Cond.instanceMethod (⟨"OppositeThreadsModel", "keepPast", "()V"⟩ : MethodName) ∈ jx_G := jx_mem 912 (by decide +kernel) (by decide +kernel)
theorem jw_608 : Cond.selects "OppositeThreadsModel" (⟨"OppositeThreadsModel", "keepPast", "()V"⟩ : MethodName) (⟨"OppositeThreadsModel", "keepPast", "()V"⟩ : MethodName) ∈ jx_G := jx_mem 36 (by decide +kernel) (by decide +kernel)
theorem jw_609 : Cond.methodLink "OppositeThreadsModel" 204 (⟨"OppositeThreadsModel", "days", "(II)V"⟩ : MethodName) ∈ jx_G := jx_mem 914 (by decide +kernel) (by decide +kernel)
theorem jw_610 : Cond.instanceMethod (⟨"OppositeThreadsModel", "days", "(II)V"⟩ : MethodName) ∈ jx_G := jx_mem 916 (by decide +kernel) (by decide +kernel)
theorem jw_611 : Cond.selects "OppositeThreadsModel" (⟨"OppositeThreadsModel", "days", "(II)V"⟩ : MethodName) (⟨"OppositeThreadsModel", "days", "(II)V"⟩ : MethodName) ∈ jx_G := jx_mem 37 (by decide +kernel) (by decide +kernel)
theorem jw_612 : Cond.constantLong "OppositeThreadsModel" 208 (Int64.ofInt 60) ∈ jx_G := jx_mem 949 (by decide +kernel) (by decide +kernel)
theorem jw_613 : Cond.methodLink "OppositeThreadsModel" 210 (⟨"OppositeThreadsModel", "layTried", "()V"⟩ : MethodName) ∈ jx_G := jx_mem 950 (by decide +kernel) (by decide +kernel)
theorem jw_614 : Cond.instanceMethod (⟨"OppositeThreadsModel", "layTried", "()V"⟩ : MethodName) ∈ jx_G := jx_mem 952 (by decide +kernel) (by decide +kernel)
theorem jw_615 : Cond.selects "OppositeThreadsModel" (⟨"OppositeThreadsModel", "layTried", "()V"⟩ : MethodName) (⟨"OppositeThreadsModel", "layTried", "()V"⟩ : MethodName) ∈ jx_G := jx_mem 39 (by decide +kernel) (by decide +kernel)
theorem jw_616 : Cond.methodLink "OppositeThreadsModel" 213 (⟨"OppositeThreadsModel", "aiming", "(I)I"⟩ : MethodName) ∈ jx_G := jx_mem 962 (by decide +kernel) (by decide +kernel)
theorem jw_617 : Cond.instanceMethod (⟨"OppositeThreadsModel", "aiming", "(I)I"⟩ : MethodName) ∈ jx_G := jx_mem 964 (by decide +kernel) (by decide +kernel)
theorem jw_618 : Cond.selects "OppositeThreadsModel" (⟨"OppositeThreadsModel", "aiming", "(I)I"⟩ : MethodName) (⟨"OppositeThreadsModel", "aiming", "(I)I"⟩ : MethodName) ∈ jx_G := jx_mem 40 (by decide +kernel) (by decide +kernel)
theorem jw_619 : Cond.methodLink "OppositeThreadsModel" 216 (⟨"OppositeThreadsModel", "outOnes", "(I)I"⟩ : MethodName) ∈ jx_G := jx_mem 979 (by decide +kernel) (by decide +kernel)
theorem jw_620 : Cond.instanceMethod (⟨"OppositeThreadsModel", "outOnes", "(I)I"⟩ : MethodName) ∈ jx_G := jx_mem 981 (by decide +kernel) (by decide +kernel)
theorem jw_621 : Cond.selects "OppositeThreadsModel" (⟨"OppositeThreadsModel", "outOnes", "(I)I"⟩ : MethodName) (⟨"OppositeThreadsModel", "outOnes", "(I)I"⟩ : MethodName) ∈ jx_G := jx_mem 42 (by decide +kernel) (by decide +kernel)
theorem jw_622 : Cond.methodLink "OppositeThreadsModel" 219 (⟨"OppositeThreadsModel", "bits", "(I)I"⟩ : MethodName) ∈ jx_G := jx_mem 983 (by decide +kernel) (by decide +kernel)
theorem jw_623 : Cond.static (⟨"OppositeThreadsModel", "bits", "(I)I"⟩ : MethodName) ∈ jx_G := jx_mem 984 (by decide +kernel) (by decide +kernel)
theorem jw_624 : Cond.constantLong "OppositeThreadsModel" 222 (Int64.ofInt 20) ∈ jx_G := jx_mem 974 (by decide +kernel) (by decide +kernel)
theorem jw_625 : Cond.methodLink "OppositeThreadsModel" 224 (⟨"OppositeThreadsModel", "leftBehind", "(I)I"⟩ : MethodName) ∈ jx_G := jx_mem 975 (by decide +kernel) (by decide +kernel)
theorem jw_626 : Cond.instanceMethod (⟨"OppositeThreadsModel", "leftBehind", "(I)I"⟩ : MethodName) ∈ jx_G := jx_mem 977 (by decide +kernel) (by decide +kernel)
theorem jw_627 : Cond.selects "OppositeThreadsModel" (⟨"OppositeThreadsModel", "leftBehind", "(I)I"⟩ : MethodName) (⟨"OppositeThreadsModel", "leftBehind", "(I)I"⟩ : MethodName) ∈ jx_G := jx_mem 41 (by decide +kernel) (by decide +kernel)
theorem jw_628 : Cond.methodLink "OppositeThreadsModel" 227 (⟨"OppositeThreadsModel", "swapOrder", "(II)V"⟩ : MethodName) ∈ jx_G := jx_mem 995 (by decide +kernel) (by decide +kernel)
theorem jw_629 : Cond.instanceMethod (⟨"OppositeThreadsModel", "swapOrder", "(II)V"⟩ : MethodName) ∈ jx_G := jx_mem 997 (by decide +kernel) (by decide +kernel)
theorem jw_630 : Cond.selects "OppositeThreadsModel" (⟨"OppositeThreadsModel", "swapOrder", "(II)V"⟩ : MethodName) (⟨"OppositeThreadsModel", "swapOrder", "(II)V"⟩ : MethodName) ∈ jx_G := jx_mem 44 (by decide +kernel) (by decide +kernel)
theorem jw_631 : Cond.constantLong "OppositeThreadsModel" 230 (Int64.ofInt (-1)) ∈ jx_G := jx_mem 990 (by decide +kernel) (by decide +kernel)
theorem jw_632 : Cond.methodLink "OppositeThreadsModel" 232 (⟨"OppositeThreadsModel", "nextOrder", "()Z"⟩ : MethodName) ∈ jx_G := jx_mem 991 (by decide +kernel) (by decide +kernel)
theorem jw_633 : Cond.instanceMethod (⟨"OppositeThreadsModel", "nextOrder", "()Z"⟩ : MethodName) ∈ jx_G := jx_mem 993 (by decide +kernel) (by decide +kernel)
theorem jw_634 : Cond.selects "OppositeThreadsModel" (⟨"OppositeThreadsModel", "nextOrder", "()Z"⟩ : MethodName) (⟨"OppositeThreadsModel", "nextOrder", "()Z"⟩ : MethodName) ∈ jx_G := jx_mem 43 (by decide +kernel) (by decide +kernel)
theorem jw_635 : Cond.constantLong "OppositeThreadsModel" 235 (Int64.ofInt 10) ∈ jx_G := jx_mem 1003 (by decide +kernel) (by decide +kernel)
theorem jw_636 : Cond.constantLong "OppositeThreadsModel" 237 (Int64.ofInt 3) ∈ jx_G := jx_mem 1008 (by decide +kernel) (by decide +kernel)
theorem jw_637 : Cond.methodLink "OppositeThreadsModel" 239 (⟨"OppositeThreadsModel", "aimsBy", "(II)I"⟩ : MethodName) ∈ jx_G := jx_mem 1017 (by decide +kernel) (by decide +kernel)
theorem jw_638 : Cond.static (⟨"OppositeThreadsModel", "aimsBy", "(II)I"⟩ : MethodName) ∈ jx_G := jx_mem 1018 (by decide +kernel) (by decide +kernel)
theorem jw_639 : Cond.methodLink "OppositeThreadsModel" 242 (⟨"OppositeThreadsModel", "kinds", "()I"⟩ : MethodName) ∈ jx_G := jx_mem 1024 (by decide +kernel) (by decide +kernel)
theorem jw_640 : Cond.constantLong "OppositeThreadsModel" 245 (Int64.ofInt 2) ∈ jx_G := jx_mem 1032 (by decide +kernel) (by decide +kernel)
theorem jw_641 : Cond.methodLink "OppositeThreadsModel" 247 (⟨"OppositeThreadsModel", "isSheet", "(I)Z"⟩ : MethodName) ∈ jx_G := jx_mem 1029 (by decide +kernel) (by decide +kernel)
theorem jw_642 : Cond.static (⟨"OppositeThreadsModel", "isSheet", "(I)Z"⟩ : MethodName) ∈ jx_G := jx_mem 1030 (by decide +kernel) (by decide +kernel)
theorem jw_643 : Cond.constantLong "OppositeThreadsModel" 250 (Int64.ofInt (-9999)) ∈ jx_G := jx_mem 1037 (by decide +kernel) (by decide +kernel)
theorem jw_644 : Cond.constantLong "OppositeThreadsModel" 252 (Int64.ofInt 9999) ∈ jx_G := jx_mem 1038 (by decide +kernel) (by decide +kernel)
theorem jw_645 : Cond.methodLink "OppositeThreadsModel" 254 (⟨"OppositeThreadsModel", "noPlace", "(III)I"⟩ : MethodName) ∈ jx_G := jx_mem 1039 (by decide +kernel) (by decide +kernel)
theorem jw_646 : Cond.instanceMethod (⟨"OppositeThreadsModel", "noPlace", "(III)I"⟩ : MethodName) ∈ jx_G := jx_mem 1041 (by decide +kernel) (by decide +kernel)
theorem jw_647 : Cond.selects "OppositeThreadsModel" (⟨"OppositeThreadsModel", "noPlace", "(III)I"⟩ : MethodName) (⟨"OppositeThreadsModel", "noPlace", "(III)I"⟩ : MethodName) ∈ jx_G := jx_mem 45 (by decide +kernel) (by decide +kernel)
theorem jw_648 : Cond.constant "OppositeThreadsModel" 258 (Int32.ofInt 50000) ∈ jx_G := jx_mem 1043 (by decide +kernel) (by decide +kernel)
theorem jw_649 : Cond.methodLink "OppositeThreadsModel" 259 (⟨"OppositeThreadsModel", "isSpan", "(III)Z"⟩ : MethodName) ∈ jx_G := jx_mem 1052 (by decide +kernel) (by decide +kernel)
theorem jw_650 : Cond.instanceMethod (⟨"OppositeThreadsModel", "isSpan", "(III)Z"⟩ : MethodName) ∈ jx_G := jx_mem 1054 (by decide +kernel) (by decide +kernel)
theorem jw_651 : Cond.selects "OppositeThreadsModel" (⟨"OppositeThreadsModel", "isSpan", "(III)Z"⟩ : MethodName) (⟨"OppositeThreadsModel", "isSpan", "(III)Z"⟩ : MethodName) ∈ jx_G := jx_mem 46 (by decide +kernel) (by decide +kernel)
theorem jw_652 : Cond.constant "OppositeThreadsModel" 262 (Int32.ofInt 500000) ∈ jx_G := jx_mem 1064 (by decide +kernel) (by decide +kernel)
theorem jw_653 : Cond.methodLink "OppositeThreadsModel" 263 (⟨"OppositeThreadsModel", "buttonsOf", "(I)I"⟩ : MethodName) ∈ jx_G := jx_mem 1073 (by decide +kernel) (by decide +kernel)
theorem jw_654 : Cond.instanceMethod (⟨"OppositeThreadsModel", "buttonsOf", "(I)I"⟩ : MethodName) ∈ jx_G := jx_mem 1075 (by decide +kernel) (by decide +kernel)
theorem jw_655 : Cond.selects "OppositeThreadsModel" (⟨"OppositeThreadsModel", "buttonsOf", "(I)I"⟩ : MethodName) (⟨"OppositeThreadsModel", "buttonsOf", "(I)I"⟩ : MethodName) ∈ jx_G := jx_mem 47 (by decide +kernel) (by decide +kernel)
theorem jw_656 : Cond.methodLink "OppositeThreadsModel" 266 (⟨"OppositeThreadsModel", "allPlaces", "()I"⟩ : MethodName) ∈ jx_G := jx_mem 1077 (by decide +kernel) (by decide +kernel)
theorem jw_657 : Cond.instanceMethod (⟨"OppositeThreadsModel", "allPlaces", "()I"⟩ : MethodName) ∈ jx_G := jx_mem 1079 (by decide +kernel) (by decide +kernel)
theorem jw_658 : Cond.selects "OppositeThreadsModel" (⟨"OppositeThreadsModel", "allPlaces", "()I"⟩ : MethodName) (⟨"OppositeThreadsModel", "allPlaces", "()I"⟩ : MethodName) ∈ jx_G := jx_mem 48 (by decide +kernel) (by decide +kernel)
set_option maxRecDepth 20000 in
theorem jo_Model : ∀ q ∈ jp_Model, jx_okP jx_nm "OppositeThreadsModel" q.1 q.2 := List.forall_mem_cons.mpr ⟨jw_499, List.forall_mem_cons.mpr ⟨⟨_, rfl, by decide, jw_500⟩, List.forall_mem_cons.mpr ⟨⟨_, rfl, by decide, jw_501⟩, List.forall_mem_cons.mpr ⟨⟨_, rfl, by decide, jw_502⟩, List.forall_mem_cons.mpr ⟨⟨_, rfl, by decide, jw_503⟩, List.forall_mem_cons.mpr ⟨⟨_, rfl, by decide, jw_504⟩, List.forall_mem_cons.mpr ⟨⟨_, rfl, by decide, jw_505⟩, List.forall_mem_cons.mpr ⟨⟨_, rfl, by decide, jw_506⟩, List.forall_mem_cons.mpr ⟨⟨_, rfl, by decide, jw_507⟩, List.forall_mem_cons.mpr ⟨⟨_, rfl, by decide, jw_508⟩, List.forall_mem_cons.mpr ⟨⟨_, rfl, by decide, jw_509⟩, List.forall_mem_cons.mpr ⟨⟨_, rfl, by decide, jw_510⟩, List.forall_mem_cons.mpr ⟨⟨_, rfl, by decide, jw_511⟩, List.forall_mem_cons.mpr ⟨⟨_, rfl, by decide, jw_512⟩, List.forall_mem_cons.mpr ⟨⟨_, rfl, by decide, jw_513⟩, List.forall_mem_cons.mpr ⟨⟨_, rfl, by decide, jw_514⟩, List.forall_mem_cons.mpr ⟨⟨_, rfl, by decide, jw_515⟩, List.forall_mem_cons.mpr ⟨⟨_, rfl, by decide, jw_516⟩, List.forall_mem_cons.mpr ⟨⟨_, rfl, by decide, jw_517⟩, List.forall_mem_cons.mpr ⟨⟨_, rfl, by decide, jw_518⟩, List.forall_mem_cons.mpr ⟨⟨_, rfl, by decide, jw_519⟩, List.forall_mem_cons.mpr ⟨⟨_, rfl, by decide, jw_520⟩, List.forall_mem_cons.mpr ⟨⟨_, rfl, jw_521, jw_522, jw_523, jq_Model_layArmy⟩, List.forall_mem_cons.mpr ⟨⟨_, rfl, jw_524, jw_525, jw_526, jq_Model_copyRow⟩, List.forall_mem_cons.mpr ⟨jw_527, List.forall_mem_cons.mpr ⟨⟨_, rfl, jw_528, jw_529, jq_Model_in⟩, List.forall_mem_cons.mpr ⟨⟨_, rfl, by decide, jw_530⟩, List.forall_mem_cons.mpr ⟨jw_531, List.forall_mem_cons.mpr ⟨jw_532, List.forall_mem_cons.mpr ⟨jw_533, List.forall_mem_cons.mpr ⟨jw_534, List.forall_mem_cons.mpr ⟨⟨_, rfl, by decide, jw_535⟩, List.forall_mem_cons.mpr ⟨⟨_, rfl, by decide, jw_536⟩, List.forall_mem_cons.mpr ⟨⟨_, rfl, jw_537, jw_538, jq_Model_isLetter⟩, List.forall_mem_cons.mpr ⟨⟨_, rfl, jw_539, jw_540, jq_Model_isDigit⟩, List.forall_mem_cons.mpr ⟨⟨_, rfl, jw_541, jw_542, jw_543, jq_Model_nextToken⟩, List.forall_mem_cons.mpr ⟨⟨_, rfl, jw_544, jw_545, jw_546, jq_Model_isWord⟩, List.forall_mem_cons.mpr ⟨⟨_, rfl, by decide, jw_547⟩, List.forall_mem_cons.mpr ⟨⟨_, rfl, jw_548, jw_549, jw_550, jq_Model_number⟩, List.forall_mem_cons.mpr ⟨⟨_, rfl, by decide, jw_551⟩, List.forall_mem_cons.mpr ⟨⟨_, rfl, jw_552, jw_553, jw_554, jq_Model_kindHere⟩, List.forall_mem_cons.mpr ⟨⟨_, rfl, jw_555, jw_556, jw_557, jq_Model_readsKind⟩, List.forall_mem_cons.mpr ⟨⟨_, rfl, jw_558, jw_559, jw_560, jq_Model_readsArmy⟩, List.forall_mem_cons.mpr ⟨⟨_, rfl, jw_561, jw_562, jw_563, jq_Model_readsButtons⟩, List.forall_mem_cons.mpr ⟨⟨_, rfl, jw_564, jw_565, jw_566, jq_Model_readsMender⟩, List.forall_mem_cons.mpr ⟨⟨_, rfl, by decide, jw_567⟩, List.forall_mem_cons.mpr ⟨⟨_, rfl, jw_568, jw_569, jw_570, jq_Model_readsClause⟩, List.forall_mem_cons.mpr ⟨⟨_, rfl, jw_571, jw_572, jw_573, jq_Model_reads⟩, List.forall_mem_cons.mpr ⟨⟨_, rfl, by decide, jw_574⟩, List.forall_mem_cons.mpr ⟨⟨_, rfl, by decide, jw_575⟩, List.forall_mem_cons.mpr ⟨⟨_, rfl, jw_576, jw_577, jw_578, jq_Model_men⟩, List.forall_mem_cons.mpr ⟨⟨_, rfl, jw_579, jw_580, jw_581, jq_Model_sideOf⟩, List.forall_mem_cons.mpr ⟨⟨_, rfl, jw_582, jw_583, jw_584, jq_Model_isOut⟩, List.forall_mem_cons.mpr ⟨⟨_, rfl, jw_585, jw_586, jw_587, jq_Model_isOpen⟩, List.forall_mem_cons.mpr ⟨⟨_, rfl, jw_588, jw_589, jq_Model_has⟩, List.forall_mem_cons.mpr ⟨⟨_, rfl, jw_590, jw_591, jw_592, jq_Model_aimsAt⟩, List.forall_mem_cons.mpr ⟨⟨_, rfl, jw_593, jw_594, jq_Model_hitsBy⟩, List.forall_mem_cons.mpr ⟨⟨_, rfl, jw_595, jw_596, jw_597, jq_Model_hamper⟩, List.forall_mem_cons.mpr ⟨⟨_, rfl, jw_598, jw_599, jw_600, jq_Model_isMan⟩, List.forall_mem_cons.mpr ⟨⟨_, rfl, jw_601, jw_602, jw_603, jq_Model_knownBy⟩, List.forall_mem_cons.mpr ⟨jw_604, List.forall_mem_cons.mpr ⟨jw_605, List.forall_mem_cons.mpr ⟨⟨_, rfl, jw_606, jw_607, jw_608, jq_Model_keepPast⟩, List.forall_mem_cons.mpr ⟨⟨_, rfl, jw_609, jw_610, jw_611, jq_Model_days⟩, List.forall_mem_cons.mpr ⟨jw_612, List.forall_mem_cons.mpr ⟨⟨_, rfl, jw_613, jw_614, jw_615, jq_Model_layTried⟩, List.forall_mem_cons.mpr ⟨⟨_, rfl, jw_616, jw_617, jw_618, jq_Model_aiming⟩, List.forall_mem_cons.mpr ⟨⟨_, rfl, jw_619, jw_620, jw_621, jq_Model_outOnes⟩, List.forall_mem_cons.mpr ⟨⟨_, rfl, jw_622, jw_623, jq_Model_bits⟩, List.forall_mem_cons.mpr ⟨jw_624, List.forall_mem_cons.mpr ⟨⟨_, rfl, jw_625, jw_626, jw_627, jq_Model_leftBehind⟩, List.forall_mem_cons.mpr ⟨⟨_, rfl, jw_628, jw_629, jw_630, jq_Model_swapOrder⟩, List.forall_mem_cons.mpr ⟨jw_631, List.forall_mem_cons.mpr ⟨⟨_, rfl, jw_632, jw_633, jw_634, jq_Model_nextOrder⟩, List.forall_mem_cons.mpr ⟨jw_635, List.forall_mem_cons.mpr ⟨jw_636, List.forall_mem_cons.mpr ⟨⟨_, rfl, jw_637, jw_638, jq_Model_aimsBy⟩, List.forall_mem_cons.mpr ⟨⟨_, rfl, jw_639, jw_150, jw_151, jq_Model_kinds⟩, List.forall_mem_cons.mpr ⟨jw_640, List.forall_mem_cons.mpr ⟨⟨_, rfl, jw_641, jw_642, jq_Model_isSheet⟩, List.forall_mem_cons.mpr ⟨jw_643, List.forall_mem_cons.mpr ⟨jw_644, List.forall_mem_cons.mpr ⟨⟨_, rfl, jw_645, jw_646, jw_647, jq_Model_noPlace⟩, List.forall_mem_cons.mpr ⟨jw_648, List.forall_mem_cons.mpr ⟨⟨_, rfl, jw_649, jw_650, jw_651, jq_Model_isSpan⟩, List.forall_mem_cons.mpr ⟨jw_652, List.forall_mem_cons.mpr ⟨⟨_, rfl, jw_653, jw_654, jw_655, jq_Model_buttonsOf⟩, List.forall_mem_cons.mpr ⟨⟨_, rfl, jw_656, jw_657, jw_658, jq_Model_allPlaces⟩, fun _ h => absurd h List.not_mem_nil⟩⟩⟩⟩⟩⟩⟩⟩⟩⟩⟩⟩⟩⟩⟩⟩⟩⟩⟩⟩⟩⟩⟩⟩⟩⟩⟩⟩⟩⟩⟩⟩⟩⟩⟩⟩⟩⟩⟩⟩⟩⟩⟩⟩⟩⟩⟩⟩⟩⟩⟩⟩⟩⟩⟩⟩⟩⟩⟩⟩⟩⟩⟩⟩⟩⟩⟩⟩⟩⟩⟩⟩⟩⟩⟩⟩⟩⟩⟩⟩⟩⟩⟩⟩⟩⟩⟩⟩
