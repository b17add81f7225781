theorem qw_0 : lw_tbl[0]? = some (Jvm.Cond.selects "KindGrids" (⟨"KindGrids", "tally", "(I)I"⟩ : MethodName) (⟨"KindGrids", "tally", "(I)I"⟩ : MethodName)) := by decide +kernel
theorem qw_1 : lw_tbl[1]? = some (Jvm.Cond.selects "KindGrids" (⟨"KindGrids", "carryOut", "(I)I"⟩ : MethodName) (⟨"KindGrids", "carryOut", "(I)I"⟩ : MethodName)) := by decide +kernel
theorem qw_2 : lw_tbl[2]? = some (Jvm.Cond.selects "KindGrids" (⟨"KindGrids", "keptImages", "()I"⟩ : MethodName) (⟨"KindGrids", "keptImages", "()I"⟩ : MethodName)) := by decide +kernel
theorem qw_3 : lw_tbl[3]? = some (Jvm.Cond.selects "KindGridsModel" (⟨"KindGridsModel", "said", "(I)I"⟩ : MethodName) (⟨"KindGridsModel", "said", "(I)I"⟩ : MethodName)) := by decide +kernel
theorem qw_4 : lw_tbl[4]? = some (Jvm.Cond.selects "KindGridsModel" (⟨"KindGridsModel", "ends", "()V"⟩ : MethodName) (⟨"KindGridsModel", "ends", "()V"⟩ : MethodName)) := by decide +kernel
theorem qw_5 : lw_tbl[5]? = some (Jvm.Cond.selects "KindGridsModel" (⟨"KindGridsModel", "anew", "(II)V"⟩ : MethodName) (⟨"KindGridsModel", "anew", "(II)V"⟩ : MethodName)) := by decide +kernel
theorem qw_6 : lw_tbl[6]? = some (Jvm.Cond.selects "KindGridsModel" (⟨"KindGridsModel", "holdsNow", "(III)V"⟩ : MethodName) (⟨"KindGridsModel", "holdsNow", "(III)V"⟩ : MethodName)) := by decide +kernel
theorem qw_7 : lw_tbl[7]? = some (Jvm.Cond.selects "KindGridsModel" (⟨"KindGridsModel", "dropDeed", "(I)I"⟩ : MethodName) (⟨"KindGridsModel", "dropDeed", "(I)I"⟩ : MethodName)) := by decide +kernel
theorem qw_8 : lw_tbl[8]? = some (Jvm.Cond.selects "KindGridsModel" (⟨"KindGridsModel", "rowDeed", "(IIII)I"⟩ : MethodName) (⟨"KindGridsModel", "rowDeed", "(IIII)I"⟩ : MethodName)) := by decide +kernel
theorem qw_9 : lw_tbl[9]? = some (Jvm.Cond.selects "KindGridsModel" (⟨"KindGridsModel", "placeFault", "(II)I"⟩ : MethodName) (⟨"KindGridsModel", "placeFault", "(II)I"⟩ : MethodName)) := by decide +kernel
theorem qw_10 : lw_tbl[10]? = some (Jvm.Cond.selects "KindGridsModel" (⟨"KindGridsModel", "newRow", "(II)I"⟩ : MethodName) (⟨"KindGridsModel", "newRow", "(II)I"⟩ : MethodName)) := by decide +kernel
theorem qw_11 : lw_tbl[11]? = some (Jvm.Cond.selects "KindGridsModel" (⟨"KindGridsModel", "isHeld", "(I)Z"⟩ : MethodName) (⟨"KindGridsModel", "isHeld", "(I)Z"⟩ : MethodName)) := by decide +kernel
theorem qw_12 : lw_tbl[12]? = some (Jvm.Cond.selects "KindGridsModel" (⟨"KindGridsModel", "thingDeed", "(III)I"⟩ : MethodName) (⟨"KindGridsModel", "thingDeed", "(III)I"⟩ : MethodName)) := by decide +kernel
theorem qw_13 : lw_tbl[13]? = some (Jvm.Cond.selects "KindGridsModel" (⟨"KindGridsModel", "shareDeed", "(IIII)I"⟩ : MethodName) (⟨"KindGridsModel", "shareDeed", "(IIII)I"⟩ : MethodName)) := by decide +kernel
theorem qw_14 : lw_tbl[14]? = some (Jvm.Cond.selects "KindGridsModel" (⟨"KindGridsModel", "twoPlaces", "(IIII)I"⟩ : MethodName) (⟨"KindGridsModel", "twoPlaces", "(IIII)I"⟩ : MethodName)) := by decide +kernel
theorem qw_15 : lw_tbl[15]? = some (Jvm.Cond.selects "KindGridsModel" (⟨"KindGridsModel", "held", "(II)I"⟩ : MethodName) (⟨"KindGridsModel", "held", "(II)I"⟩ : MethodName)) := by decide +kernel
theorem qw_16 : lw_tbl[16]? = some (Jvm.Cond.selects "KindGridsModel" (⟨"KindGridsModel", "holdsOf", "(II)I"⟩ : MethodName) (⟨"KindGridsModel", "holdsOf", "(II)I"⟩ : MethodName)) := by decide +kernel
theorem qw_17 : lw_tbl[17]? = some (Jvm.Cond.selects "KindGridsModel" (⟨"KindGridsModel", "swapDeed", "(IIII)I"⟩ : MethodName) (⟨"KindGridsModel", "swapDeed", "(IIII)I"⟩ : MethodName)) := by decide +kernel
theorem qw_18 : lw_tbl[18]? = some (Jvm.Cond.selects "KindGridsModel" (⟨"KindGridsModel", "holdsAnswer", "(II)I"⟩ : MethodName) (⟨"KindGridsModel", "holdsAnswer", "(II)I"⟩ : MethodName)) := by decide +kernel
theorem qw_19 : lw_tbl[19]? = some (Jvm.Cond.selects "KindGridsModel" (⟨"KindGridsModel", "sameAnswer", "(IIII)I"⟩ : MethodName) (⟨"KindGridsModel", "sameAnswer", "(IIII)I"⟩ : MethodName)) := by decide +kernel
theorem qw_20 : lw_tbl[20]? = some (Jvm.Cond.selects "KindGridsModel" (⟨"KindGridsModel", "twoRows", "(IIII)I"⟩ : MethodName) (⟨"KindGridsModel", "twoRows", "(IIII)I"⟩ : MethodName)) := by decide +kernel
theorem qw_21 : lw_tbl[21]? = some (Jvm.Cond.selects "KindGridsModel" (⟨"KindGridsModel", "rowFault", "(II)I"⟩ : MethodName) (⟨"KindGridsModel", "rowFault", "(II)I"⟩ : MethodName)) := by decide +kernel
theorem qw_22 : lw_tbl[22]? = some (Jvm.Cond.selects "KindGridsModel" (⟨"KindGridsModel", "sizeAnswer", "(II)I"⟩ : MethodName) (⟨"KindGridsModel", "sizeAnswer", "(II)I"⟩ : MethodName)) := by decide +kernel
theorem qw_23 : lw_tbl[23]? = some (Jvm.Cond.selects "KindGridsModel" (⟨"KindGridsModel", "readAnswer", "(IIII)I"⟩ : MethodName) (⟨"KindGridsModel", "readAnswer", "(IIII)I"⟩ : MethodName)) := by decide +kernel
theorem qw_24 : lw_tbl[24]? = some (Jvm.Cond.selects "KindGridsModel" (⟨"KindGridsModel", "cellFault", "(III)I"⟩ : MethodName) (⟨"KindGridsModel", "cellFault", "(III)I"⟩ : MethodName)) := by decide +kernel
theorem qw_25 : lw_tbl[25]? = some (Jvm.Cond.selects "KindGridsModel" (⟨"KindGridsModel", "isReadable", "(II)Z"⟩ : MethodName) (⟨"KindGridsModel", "isReadable", "(II)Z"⟩ : MethodName)) := by decide +kernel
theorem qw_26 : lw_tbl[26]? = some (Jvm.Cond.selects "KindGridsModel" (⟨"KindGridsModel", "loads", "(II)V"⟩ : MethodName) (⟨"KindGridsModel", "loads", "(II)V"⟩ : MethodName)) := by decide +kernel
theorem qw_27 : lw_tbl[27]? = some (Jvm.Cond.selects "KindGridsModel" (⟨"KindGridsModel", "widens", "(I)V"⟩ : MethodName) (⟨"KindGridsModel", "widens", "(I)V"⟩ : MethodName)) := by decide +kernel
theorem qw_28 : lw_tbl[28]? = some (Jvm.Cond.selects "KindGridsModel" (⟨"KindGridsModel", "toldOf", "()J"⟩ : MethodName) (⟨"KindGridsModel", "toldOf", "()J"⟩ : MethodName)) := by decide +kernel
theorem qw_29 : lw_tbl[29]? = some (Jvm.Cond.selects "KindGridsModel" (⟨"KindGridsModel", "tells", "(JI)I"⟩ : MethodName) (⟨"KindGridsModel", "tells", "(JI)I"⟩ : MethodName)) := by decide +kernel
theorem qw_30 : lw_tbl[30]? = some (Jvm.Cond.selects "KindGridsModel" (⟨"KindGridsModel", "writeDeed", "(IIIIJ)I"⟩ : MethodName) (⟨"KindGridsModel", "writeDeed", "(IIIIJ)I"⟩ : MethodName)) := by decide +kernel
theorem qw_31 : lw_tbl[31]? = some (Jvm.Cond.selects "KindGridsModel" (⟨"KindGridsModel", "makes", "(IJ)V"⟩ : MethodName) (⟨"KindGridsModel", "makes", "(IJ)V"⟩ : MethodName)) := by decide +kernel
theorem qw_32 : lw_tbl[32]? = some (Jvm.Cond.selects "KindGridsModel" (⟨"KindGridsModel", "puts", "(II)Z"⟩ : MethodName) (⟨"KindGridsModel", "puts", "(II)Z"⟩ : MethodName)) := by decide +kernel
theorem qw_33 : lw_tbl[33]? = some (Jvm.Cond.selects "KindGridsModel" (⟨"KindGridsModel", "lays", "(II)V"⟩ : MethodName) (⟨"KindGridsModel", "lays", "(II)V"⟩ : MethodName)) := by decide +kernel
theorem qw_34 : lw_tbl[34]? = some (Jvm.Cond.selects "KindGridsModel" (⟨"KindGridsModel", "putDeed", "(IIIIJ)I"⟩ : MethodName) (⟨"KindGridsModel", "putDeed", "(IIIIJ)I"⟩ : MethodName)) := by decide +kernel
theorem qw_35 : lw_tbl[35]? = some (Jvm.Cond.selects "KindGridsModel" (⟨"KindGridsModel", "findAnswer", "(IIIJ)I"⟩ : MethodName) (⟨"KindGridsModel", "findAnswer", "(IIIJ)I"⟩ : MethodName)) := by decide +kernel
theorem qw_36 : lw_tbl[36]? = some (Jvm.Cond.selects "KindGridsModel" (⟨"KindGridsModel", "alikeAnswer", "(IIII)I"⟩ : MethodName) (⟨"KindGridsModel", "alikeAnswer", "(IIII)I"⟩ : MethodName)) := by decide +kernel
theorem qw_37 : lw_tbl[37]? = some (Jvm.Cond.selects "KindGridsModel" (⟨"KindGridsModel", "both", "(II)I"⟩ : MethodName) (⟨"KindGridsModel", "both", "(II)I"⟩ : MethodName)) := by decide +kernel
theorem qw_38 : lw_tbl[38]? = some (Jvm.Cond.selects "KindGridsModel" (⟨"KindGridsModel", "cellsLike", "(II)Z"⟩ : MethodName) (⟨"KindGridsModel", "cellsLike", "(II)Z"⟩ : MethodName)) := by decide +kernel
theorem qw_39 : lw_tbl[39]? = some (Jvm.Cond.selects "KindGridsModel" (⟨"KindGridsModel", "cutDeed", "(IIIII)I"⟩ : MethodName) (⟨"KindGridsModel", "cutDeed", "(IIIII)I"⟩ : MethodName)) := by decide +kernel
theorem qw_40 : lw_tbl[40]? = some (Jvm.Cond.selects "KindGridsModel" (⟨"KindGridsModel", "copies", "(IIII)V"⟩ : MethodName) (⟨"KindGridsModel", "copies", "(IIII)V"⟩ : MethodName)) := by decide +kernel
theorem qw_41 : lw_tbl[41]? = some (Jvm.Cond.selects "KindGridsModel" (⟨"KindGridsModel", "castDeed", "(III)I"⟩ : MethodName) (⟨"KindGridsModel", "castDeed", "(III)I"⟩ : MethodName)) := by decide +kernel
theorem qw_42 : lw_tbl[42]? = some (Jvm.Cond.selects "KindGridsModel" (⟨"KindGridsModel", "pourDeed", "(IIII)I"⟩ : MethodName) (⟨"KindGridsModel", "pourDeed", "(IIII)I"⟩ : MethodName)) := by decide +kernel
theorem qw_43 : lw_tbl[43]? = some (Jvm.Cond.selects "KindGridsModel" (⟨"KindGridsModel", "joinDeed", "(III)I"⟩ : MethodName) (⟨"KindGridsModel", "joinDeed", "(III)I"⟩ : MethodName)) := by decide +kernel
theorem qw_44 : lw_tbl[44]? = some (Jvm.Cond.selects "KindGridsModel" (⟨"KindGridsModel", "flipDeed", "(II)I"⟩ : MethodName) (⟨"KindGridsModel", "flipDeed", "(II)I"⟩ : MethodName)) := by decide +kernel
theorem qw_45 : lw_tbl[45]? = some (Jvm.Cond.selects "KindGridsModel" (⟨"KindGridsModel", "laysBy", "(I)V"⟩ : MethodName) (⟨"KindGridsModel", "laysBy", "(I)V"⟩ : MethodName)) := by decide +kernel
theorem qw_46 : lw_tbl[46]? = some (Jvm.Cond.selects "KindGridsModel" (⟨"KindGridsModel", "fromBy", "(III)V"⟩ : MethodName) (⟨"KindGridsModel", "fromBy", "(III)V"⟩ : MethodName)) := by decide +kernel
theorem qw_47 : lw_tbl[47]? = some (Jvm.Cond.selects "KindGridsModel" (⟨"KindGridsModel", "rollDeed", "(III)I"⟩ : MethodName) (⟨"KindGridsModel", "rollDeed", "(III)I"⟩ : MethodName)) := by decide +kernel
theorem qw_48 : lw_tbl[48]? = some (Jvm.Cond.selects "KindGridsModel" (⟨"KindGridsModel", "orderDeed", "(II)I"⟩ : MethodName) (⟨"KindGridsModel", "orderDeed", "(II)I"⟩ : MethodName)) := by decide +kernel
theorem qw_49 : lw_tbl[49]? = some (Jvm.Cond.selects "KindGridsModel" (⟨"KindGridsModel", "isBehind", "(II)Z"⟩ : MethodName) (⟨"KindGridsModel", "isBehind", "(II)Z"⟩ : MethodName)) := by decide +kernel
theorem qw_50 : lw_tbl[50]? = some (Jvm.Cond.selects "KindGridsModel" (⟨"KindGridsModel", "addDeed", "(IIII)I"⟩ : MethodName) (⟨"KindGridsModel", "addDeed", "(IIII)I"⟩ : MethodName)) := by decide +kernel
theorem qw_51 : lw_tbl[51]? = some (Jvm.Cond.selects "KindGridsModel" (⟨"KindGridsModel", "adds", "(IJD)V"⟩ : MethodName) (⟨"KindGridsModel", "adds", "(IJD)V"⟩ : MethodName)) := by decide +kernel
theorem qw_52 : lw_tbl[52]? = some (Jvm.Cond.selects "KindGridsModel" (⟨"KindGridsModel", "aboveDeed", "(IIIJI)I"⟩ : MethodName) (⟨"KindGridsModel", "aboveDeed", "(IIIJI)I"⟩ : MethodName)) := by decide +kernel
theorem qw_53 : lw_tbl[53]? = some (Jvm.Cond.selects "KindGridsModel" (⟨"KindGridsModel", "isAbove", "(IIIJ)Z"⟩ : MethodName) (⟨"KindGridsModel", "isAbove", "(IIIJ)Z"⟩ : MethodName)) := by decide +kernel
theorem qw_54 : lw_tbl[54]? = some (Jvm.Cond.selects "KindGridsModel" (⟨"KindGridsModel", "pickDeed", "(III)I"⟩ : MethodName) (⟨"KindGridsModel", "pickDeed", "(III)I"⟩ : MethodName)) := by decide +kernel
theorem qw_55 : lw_tbl[55]? = some (Jvm.Cond.selects "KindGridsModel" (⟨"KindGridsModel", "flatDeed", "(III)I"⟩ : MethodName) (⟨"KindGridsModel", "flatDeed", "(III)I"⟩ : MethodName)) := by decide +kernel
theorem qw_56 : lw_tbl[56]? = some (Jvm.Cond.selects "KindGridsModel" (⟨"KindGridsModel", "isRow", "(II)Z"⟩ : MethodName) (⟨"KindGridsModel", "isRow", "(II)Z"⟩ : MethodName)) := by decide +kernel
theorem qw_57 : lw_tbl[57]? = some (Jvm.Cond.selects "KindGridsModel" (⟨"KindGridsModel", "dealDeed", "(IIII)I"⟩ : MethodName) (⟨"KindGridsModel", "dealDeed", "(IIII)I"⟩ : MethodName)) := by decide +kernel
theorem qw_58 : lw_tbl[58]? = some (Jvm.Cond.selects "KindGridsModel" (⟨"KindGridsModel", "comes", "(II)I"⟩ : MethodName) (⟨"KindGridsModel", "comes", "(II)I"⟩ : MethodName)) := by decide +kernel
theorem qw_59 : lw_tbl[59]? = some (Jvm.Cond.selects "KindGridsModel" (⟨"KindGridsModel", "turnDeed", "(II)I"⟩ : MethodName) (⟨"KindGridsModel", "turnDeed", "(II)I"⟩ : MethodName)) := by decide +kernel
theorem qw_60 : lw_tbl[60]? = some (Jvm.Cond.selects "KindGridsModel" (⟨"KindGridsModel", "longest", "(I)I"⟩ : MethodName) (⟨"KindGridsModel", "longest", "(I)I"⟩ : MethodName)) := by decide +kernel
theorem qw_61 : lw_tbl[61]? = some (Jvm.Cond.selects "KindGridsModel" (⟨"KindGridsModel", "columnRow", "(II)I"⟩ : MethodName) (⟨"KindGridsModel", "columnRow", "(II)I"⟩ : MethodName)) := by decide +kernel
theorem qw_62 : lw_tbl[62]? = some (Jvm.Cond.selects "KindGridsModel" (⟨"KindGridsModel", "hasCell", "(III)Z"⟩ : MethodName) (⟨"KindGridsModel", "hasCell", "(III)Z"⟩ : MethodName)) := by decide +kernel
theorem qw_63 : lw_tbl[63]? = some (Jvm.Cond.selects "KindGridsModel" (⟨"KindGridsModel", "timesDeed", "(III)I"⟩ : MethodName) (⟨"KindGridsModel", "timesDeed", "(III)I"⟩ : MethodName)) := by decide +kernel
theorem qw_64 : lw_tbl[64]? = some (Jvm.Cond.selects "KindGridsModel" (⟨"KindGridsModel", "firstUnlike", "(II)I"⟩ : MethodName) (⟨"KindGridsModel", "firstUnlike", "(II)I"⟩ : MethodName)) := by decide +kernel
theorem qw_65 : lw_tbl[65]? = some (Jvm.Cond.selects "KindGridsModel" (⟨"KindGridsModel", "product", "(IIII)J"⟩ : MethodName) (⟨"KindGridsModel", "product", "(IIII)J"⟩ : MethodName)) := by decide +kernel
theorem qw_66 : lw_tbl[66]? = some (Jvm.Cond.selects "KindGridsModel" (⟨"KindGridsModel", "foldAnswer", "(IIIII)I"⟩ : MethodName) (⟨"KindGridsModel", "foldAnswer", "(IIIII)I"⟩ : MethodName)) := by decide +kernel
theorem qw_67 : lw_tbl[67]? = some (Jvm.Cond.selects "KindGridsModel" (⟨"KindGridsModel", "foldsCell", "(IIII)Z"⟩ : MethodName) (⟨"KindGridsModel", "foldsCell", "(IIII)Z"⟩ : MethodName)) := by decide +kernel
theorem qw_68 : lw_tbl[68]? = some (Jvm.Cond.selects "KindGridsModel" (⟨"KindGridsModel", "foldsReal", "(ID)V"⟩ : MethodName) (⟨"KindGridsModel", "foldsReal", "(ID)V"⟩ : MethodName)) := by decide +kernel
theorem qw_69 : lw_tbl[69]? = some (Jvm.Cond.selects "KindGridsModel" (⟨"KindGridsModel", "foldsNumber", "(IIJ)V"⟩ : MethodName) (⟨"KindGridsModel", "foldsNumber", "(IIJ)V"⟩ : MethodName)) := by decide +kernel
theorem qw_70 : lw_tbl[70]? = some (Jvm.Cond.selects "KindGridsModel" (⟨"KindGridsModel", "dotAnswer", "(IIIII)I"⟩ : MethodName) (⟨"KindGridsModel", "dotAnswer", "(IIIII)I"⟩ : MethodName)) := by decide +kernel
theorem qw_71 : lw_tbl[71]? = some (Jvm.Cond.selects "KindGridsModel" (⟨"KindGridsModel", "trailAnswer", "(I)I"⟩ : MethodName) (⟨"KindGridsModel", "trailAnswer", "(I)I"⟩ : MethodName)) := by decide +kernel
theorem qw_72 : lw_tbl[72]? = some (Jvm.Cond.selects "KindGridsModel" (⟨"KindGridsModel", "trails", "(IZ)V"⟩ : MethodName) (⟨"KindGridsModel", "trails", "(IZ)V"⟩ : MethodName)) := by decide +kernel
theorem qw_73 : lw_tbl[73]? = some (Jvm.Cond.selects "KindGridsModel" (⟨"KindGridsModel", "patchAnswer", "(III)I"⟩ : MethodName) (⟨"KindGridsModel", "patchAnswer", "(III)I"⟩ : MethodName)) := by decide +kernel
theorem qw_74 : lw_tbl[74]? = some (Jvm.Cond.selects "KindGridsModel" (⟨"KindGridsModel", "noMarks", "()V"⟩ : MethodName) (⟨"KindGridsModel", "noMarks", "()V"⟩ : MethodName)) := by decide +kernel
theorem qw_75 : lw_tbl[75]? = some (Jvm.Cond.selects "KindGridsModel" (⟨"KindGridsModel", "grows", "(III)I"⟩ : MethodName) (⟨"KindGridsModel", "grows", "(III)I"⟩ : MethodName)) := by decide +kernel
theorem qw_76 : lw_tbl[76]? = some (Jvm.Cond.selects "KindGridsModel" (⟨"KindGridsModel", "isBeside", "(III)Z"⟩ : MethodName) (⟨"KindGridsModel", "isBeside", "(III)Z"⟩ : MethodName)) := by decide +kernel
theorem qw_77 : lw_tbl[77]? = some (Jvm.Cond.selects "KindGridsModel" (⟨"KindGridsModel", "joins", "(IIII)Z"⟩ : MethodName) (⟨"KindGridsModel", "joins", "(IIII)Z"⟩ : MethodName)) := by decide +kernel
theorem qw_78 : lw_tbl[78]? = some (Jvm.Cond.selects "KindGridsModel" (⟨"KindGridsModel", "cellAt", "(II)I"⟩ : MethodName) (⟨"KindGridsModel", "cellAt", "(II)I"⟩ : MethodName)) := by decide +kernel
theorem qw_79 : lw_tbl[79]? = some (Jvm.Cond.selects "KindGridsModel" (⟨"KindGridsModel", "patchesAnswer", "(I)I"⟩ : MethodName) (⟨"KindGridsModel", "patchesAnswer", "(I)I"⟩ : MethodName)) := by decide +kernel
theorem qw_80 : lw_tbl[80]? = some (Jvm.Cond.selects "KindGridsModel" (⟨"KindGridsModel", "paintDeed", "(IIIIJ)I"⟩ : MethodName) (⟨"KindGridsModel", "paintDeed", "(IIIIJ)I"⟩ : MethodName)) := by decide +kernel
theorem qw_81 : lw_tbl[81]? = some (Jvm.Cond.selects "KindGridsModel" (⟨"KindGridsModel", "blockAnswer", "(I)I"⟩ : MethodName) (⟨"KindGridsModel", "blockAnswer", "(I)I"⟩ : MethodName)) := by decide +kernel
theorem qw_82 : lw_tbl[82]? = some (Jvm.Cond.selects "KindGridsModel" (⟨"KindGridsModel", "isBlock", "(IIIII)Z"⟩ : MethodName) (⟨"KindGridsModel", "isBlock", "(IIIII)Z"⟩ : MethodName)) := by decide +kernel
theorem qw_83 : lw_tbl[83]? = some (Jvm.Cond.selects "KindGridsModel" (⟨"KindGridsModel", "liesAnswer", "(III)I"⟩ : MethodName) (⟨"KindGridsModel", "liesAnswer", "(III)I"⟩ : MethodName)) := by decide +kernel
theorem qw_84 : lw_tbl[84]? = some (Jvm.Cond.selects "KindGridsModel" (⟨"KindGridsModel", "isLying", "(IIII)Z"⟩ : MethodName) (⟨"KindGridsModel", "isLying", "(IIII)Z"⟩ : MethodName)) := by decide +kernel
theorem qw_85 : lw_tbl[85]? = some (Jvm.Cond.selects "KindGridsModel" (⟨"KindGridsModel", "keeps", "(I)V"⟩ : MethodName) (⟨"KindGridsModel", "keeps", "(I)V"⟩ : MethodName)) := by decide +kernel
theorem qw_86 : lw_tbl[86]? = some (Jvm.Cond.selects "KindGridsModel" (⟨"KindGridsModel", "gridMany", "()I"⟩ : MethodName) (⟨"KindGridsModel", "gridMany", "()I"⟩ : MethodName)) := by decide +kernel
theorem qw_87 : lw_tbl[87]? = some (Jvm.Cond.selects "KindGridsModel" (⟨"KindGridsModel", "comesBack", "(I)V"⟩ : MethodName) (⟨"KindGridsModel", "comesBack", "(I)V"⟩ : MethodName)) := by decide +kernel
theorem qw_88 : lw_tbl[88]? = some (Jvm.Cond.selects "KindGridsModel" (⟨"KindGridsModel", "planDeed", "()I"⟩ : MethodName) (⟨"KindGridsModel", "planDeed", "()I"⟩ : MethodName)) := by decide +kernel
theorem qw_89 : lw_tbl[89]? = some (Jvm.Cond.selects "KindGridsModel" (⟨"KindGridsModel", "reads", "()Z"⟩ : MethodName) (⟨"KindGridsModel", "reads", "()Z"⟩ : MethodName)) := by decide +kernel
theorem qw_90 : lw_tbl[90]? = some (Jvm.Cond.selects "KindGridsModel" (⟨"KindGridsModel", "passesBlanks", "()V"⟩ : MethodName) (⟨"KindGridsModel", "passesBlanks", "()V"⟩ : MethodName)) := by decide +kernel
theorem qw_91 : lw_tbl[91]? = some (Jvm.Cond.selects "KindGridsModel" (⟨"KindGridsModel", "readsStep", "()Z"⟩ : MethodName) (⟨"KindGridsModel", "readsStep", "()Z"⟩ : MethodName)) := by decide +kernel
theorem qw_92 : lw_tbl[92]? = some (Jvm.Cond.selects "KindGridsModel" (⟨"KindGridsModel", "isLetter", "(I)Z"⟩ : MethodName) (⟨"KindGridsModel", "isLetter", "(I)Z"⟩ : MethodName)) := by decide +kernel
theorem qw_93 : lw_tbl[93]? = some (Jvm.Cond.selects "KindGridsModel" (⟨"KindGridsModel", "word", "()J"⟩ : MethodName) (⟨"KindGridsModel", "word", "()J"⟩ : MethodName)) := by decide +kernel
theorem qw_94 : lw_tbl[94]? = some (Jvm.Cond.selects "KindGridsModel" (⟨"KindGridsModel", "readsNumber", "()Z"⟩ : MethodName) (⟨"KindGridsModel", "readsNumber", "()Z"⟩ : MethodName)) := by decide +kernel
theorem qw_95 : lw_tbl[95]? = some (Jvm.Cond.selects "KindGridsModel" (⟨"KindGridsModel", "isFigure", "(I)Z"⟩ : MethodName) (⟨"KindGridsModel", "isFigure", "(I)Z"⟩ : MethodName)) := by decide +kernel
theorem qw_96 : lw_tbl[96]? = some (Jvm.Cond.selects "KindGridsModel" (⟨"KindGridsModel", "does", "(IIIIII)I"⟩ : MethodName) (⟨"KindGridsModel", "does", "(IIIIII)I"⟩ : MethodName)) := by decide +kernel
theorem qw_97 : lw_tbl[97]? = some (Jvm.Cond.selects "KindGridsModel" (⟨"KindGridsModel", "leftSet", "()I"⟩ : MethodName) (⟨"KindGridsModel", "leftSet", "()I"⟩ : MethodName)) := by decide +kernel
theorem qw_98 : lw_tbl[98]? = some (Jvm.Cond.selects "KindGridsModel" (⟨"KindGridsModel", "placesWith", "(II)I"⟩ : MethodName) (⟨"KindGridsModel", "placesWith", "(II)I"⟩ : MethodName)) := by decide +kernel
theorem qw_99 : lw_tbl[99]? = some (Jvm.Cond.selects "KindGridsModel" (⟨"KindGridsModel", "ofRows", "(I)I"⟩ : MethodName) (⟨"KindGridsModel", "ofRows", "(I)I"⟩ : MethodName)) := by decide +kernel
theorem qw_100 : lw_tbl[100]? = some (Jvm.Cond.selects "KindGridsModel" (⟨"KindGridsModel", "holder", "(I)I"⟩ : MethodName) (⟨"KindGridsModel", "holder", "(I)I"⟩ : MethodName)) := by decide +kernel
theorem qw_101 : lw_tbl[101]? = some (Jvm.Cond.selects "KindGridsModel" (⟨"KindGridsModel", "nothings", "(I)I"⟩ : MethodName) (⟨"KindGridsModel", "nothings", "(I)I"⟩ : MethodName)) := by decide +kernel
theorem qw_102 : lw_tbl[102]? = some (Jvm.Cond.selects "KindGridsModel" (⟨"KindGridsModel", "rowDigest", "(JI)J"⟩ : MethodName) (⟨"KindGridsModel", "rowDigest", "(JI)J"⟩ : MethodName)) := by decide +kernel
theorem qw_104 : lw_tbl[104]? = some (Jvm.Cond.initialized "KindGrids") := by decide +kernel
theorem qw_105 : lw_tbl[105]? = some (Jvm.Cond.initialized "KindGrids$Store") := by decide +kernel
theorem qw_106 : lw_tbl[106]? = some (Jvm.Cond.initialized "java/util/Arrays") := by decide +kernel
theorem qw_107 : lw_tbl[107]? = some (Jvm.Cond.initialized "KindGrids$Row") := by decide +kernel
theorem qw_108 : lw_tbl[108]? = some (Jvm.Cond.initialized "KindGrids$Notes") := by decide +kernel
theorem qw_109 : lw_tbl[109]? = some (Jvm.Cond.initialized "KindGrids$Rows") := by decide +kernel
theorem qw_110 : lw_tbl[110]? = some (Jvm.Cond.initialized "KindGrids$Wholes") := by decide +kernel
theorem qw_111 : lw_tbl[111]? = some (Jvm.Cond.initialized "KindGrids$Sums") := by decide +kernel
theorem qw_112 : lw_tbl[112]? = some (Jvm.Cond.initialized "KindGrids$Searches") := by decide +kernel
theorem qw_113 : lw_tbl[113]? = some (Jvm.Cond.initialized "KindGrids$Regions") := by decide +kernel
theorem qw_114 : lw_tbl[114]? = some (Jvm.Cond.initialized "KindGrids$PlanText") := by decide +kernel
theorem qw_115 : lw_tbl[115]? = some (Jvm.Cond.initialized "KindGrids$Guesses") := by decide +kernel
theorem qw_116 : lw_tbl[116]? = some (Jvm.Cond.initialized "KindGridsModel") := by decide +kernel
theorem qw_117 : lw_tbl[117]? = some (Jvm.Cond.initialized "java/lang/System") := by decide +kernel
theorem qw_118 : lw_tbl[118]? = some (Jvm.Cond.initialized "java/lang/Math") := by decide +kernel
theorem qw_124 : lw_tbl[124]? = some (Jvm.Cond.initialized "java/lang/Integer") := by decide +kernel
theorem qw_126 : lw_tbl[126]? = some (Jvm.Cond.instantiable "KindGrids" (12 : Nat)) := by decide +kernel
theorem qw_130 : lw_tbl[130]? = some (Jvm.Cond.methodLink "KindGrids" (1 : Nat) (⟨"java/lang/Object", "<init>", "()V"⟩ : MethodName)) := by decide +kernel
theorem qw_131 : lw_tbl[131]? = some (Jvm.Cond.instanceMethod (⟨"java/lang/Object", "<init>", "()V"⟩ : MethodName)) := by decide +kernel
theorem qw_132 : lw_tbl[132]? = some (Jvm.Cond.code (⟨"java/lang/Object", "<init>", "()V"⟩ : MethodName) object_method_1_code (1 : Nat) (Option.none : Option Jvm.ClassFile.FieldType)) := by decide +kernel
theorem qw_133 : lw_tbl[133]? = some (Jvm.Cond.classLink "KindGrids" (7 : Nat) "KindGrids$Store") := by decide +kernel
theorem qw_134 : lw_tbl[134]? = some (Jvm.Cond.instantiable "KindGrids$Store" (3 : Nat)) := by decide +kernel
theorem qw_135 : lw_tbl[135]? = some (Jvm.Cond.methodLink "KindGrids" (9 : Nat) (⟨"KindGrids$Store", "<init>", "()V"⟩ : MethodName)) := by decide +kernel
theorem qw_136 : lw_tbl[136]? = some (Jvm.Cond.instanceMethod (⟨"KindGrids$Store", "<init>", "()V"⟩ : MethodName)) := by decide +kernel
theorem qw_137 : lw_tbl[137]? = some (Jvm.Cond.code (⟨"KindGrids$Store", "<init>", "()V"⟩ : MethodName) prog_11_method_1_code (2 : Nat) (Option.none : Option Jvm.ClassFile.FieldType)) := by decide +kernel
theorem qw_138 : lw_tbl[138]? = some (Jvm.Cond.methodLink "KindGrids$Store" (3 : Nat) (⟨"java/lang/Object", "<init>", "()V"⟩ : MethodName)) := by decide +kernel
theorem qw_139 : lw_tbl[139]? = some (Jvm.Cond.classLink "KindGrids$Store" (18 : Nat) "KindGrids$Row") := by decide +kernel
theorem qw_141 : lw_tbl[141]? = some (Jvm.Cond.methodLink "KindGrids$Store" (24 : Nat) (⟨"java/util/Arrays", "fill", "([II)V"⟩ : MethodName)) := by decide +kernel
theorem qw_142 : lw_tbl[142]? = some (Jvm.Cond.static (⟨"java/util/Arrays", "fill", "([II)V"⟩ : MethodName)) := by decide +kernel
theorem qw_143 : lw_tbl[143]? = some (Jvm.Cond.code (⟨"java/util/Arrays", "fill", "([II)V"⟩ : MethodName) prog_23_method_103_code (4 : Nat) (Option.none : Option Jvm.ClassFile.FieldType)) := by decide +kernel
theorem qw_144 : lw_tbl[144]? = some (Jvm.Cond.instantiable "KindGrids$Row" (6 : Nat)) := by decide +kernel
theorem qw_145 : lw_tbl[145]? = some (Jvm.Cond.methodLink "KindGrids$Store" (30 : Nat) (⟨"KindGrids$Row", "<init>", "(I)V"⟩ : MethodName)) := by decide +kernel
theorem qw_146 : lw_tbl[146]? = some (Jvm.Cond.instanceMethod (⟨"KindGrids$Row", "<init>", "(I)V"⟩ : MethodName)) := by decide +kernel
theorem qw_147 : lw_tbl[147]? = some (Jvm.Cond.code (⟨"KindGrids$Row", "<init>", "(I)V"⟩ : MethodName) prog_7_method_1_code (2 : Nat) (Option.none : Option Jvm.ClassFile.FieldType)) := by decide +kernel
theorem qw_148 : lw_tbl[148]? = some (Jvm.Cond.methodLink "KindGrids$Row" (3 : Nat) (⟨"java/lang/Object", "<init>", "()V"⟩ : MethodName)) := by decide +kernel
theorem qw_149 : lw_tbl[149]? = some (Jvm.Cond.fieldLink "KindGrids$Row" (30 : Nat) "KindGrids$Row" "number" "I") := by decide +kernel
theorem qw_150 : lw_tbl[150]? = some (Jvm.Cond.fieldLink "KindGrids$Store" (66 : Nat) "KindGrids$Row" "number" "I") := by decide +kernel
theorem qw_151 : lw_tbl[151]? = some (Jvm.Cond.fieldLink "KindGrids$Row" (9 : Nat) "KindGrids$Row" "kind" "I") := by decide +kernel
theorem qw_152 : lw_tbl[152]? = some (Jvm.Cond.fieldLink "KindGrids$Rows" (48 : Nat) "KindGrids$Row" "kind" "I") := by decide +kernel
theorem qw_153 : lw_tbl[153]? = some (Jvm.Cond.fieldLink "KindGrids$Wholes" (47 : Nat) "KindGrids$Row" "kind" "I") := by decide +kernel
theorem qw_154 : lw_tbl[154]? = some (Jvm.Cond.fieldLink "KindGrids$Sums" (88 : Nat) "KindGrids$Row" "kind" "I") := by decide +kernel
theorem qw_155 : lw_tbl[155]? = some (Jvm.Cond.fieldLink "KindGrids$Searches" (113 : Nat) "KindGrids$Row" "kind" "I") := by decide +kernel
theorem qw_156 : lw_tbl[156]? = some (Jvm.Cond.fieldLink "KindGrids$Store" (97 : Nat) "KindGrids$Row" "kind" "I") := by decide +kernel
theorem qw_157 : lw_tbl[157]? = some (Jvm.Cond.fieldLink "KindGrids$Row" (15 : Nat) "KindGrids$Row" "length" "I") := by decide +kernel
theorem qw_158 : lw_tbl[158]? = some (Jvm.Cond.fieldLink "KindGrids$Wholes" (41 : Nat) "KindGrids$Row" "length" "I") := by decide +kernel
theorem qw_159 : lw_tbl[159]? = some (Jvm.Cond.fieldLink "KindGrids$Searches" (55 : Nat) "KindGrids$Row" "length" "I") := by decide +kernel
theorem qw_160 : lw_tbl[160]? = some (Jvm.Cond.fieldLink "KindGrids$Rows" (92 : Nat) "KindGrids$Row" "length" "I") := by decide +kernel
theorem qw_161 : lw_tbl[161]? = some (Jvm.Cond.fieldLink "KindGrids$Sums" (128 : Nat) "KindGrids$Row" "length" "I") := by decide +kernel
theorem qw_162 : lw_tbl[162]? = some (Jvm.Cond.fieldLink "KindGrids$Store" (103 : Nat) "KindGrids$Row" "length" "I") := by decide +kernel
theorem qw_163 : lw_tbl[163]? = some (Jvm.Cond.fieldLink "KindGrids$Row" (18 : Nat) "KindGrids$Row" "sorts" "[I") := by decide +kernel
theorem qw_164 : lw_tbl[164]? = some (Jvm.Cond.fieldLink "KindGrids$Rows" (74 : Nat) "KindGrids$Row" "sorts" "[I") := by decide +kernel
theorem qw_165 : lw_tbl[165]? = some (Jvm.Cond.fieldLink "KindGrids$Searches" (138 : Nat) "KindGrids$Row" "sorts" "[I") := by decide +kernel
theorem qw_166 : lw_tbl[166]? = some (Jvm.Cond.fieldLink "KindGrids$Store" (129 : Nat) "KindGrids$Row" "sorts" "[I") := by decide +kernel
theorem qw_167 : lw_tbl[167]? = some (Jvm.Cond.fieldLink "KindGrids$Row" (22 : Nat) "KindGrids$Row" "whole" "[J") := by decide +kernel
theorem qw_168 : lw_tbl[168]? = some (Jvm.Cond.fieldLink "KindGrids$Searches" (77 : Nat) "KindGrids$Row" "whole" "[J") := by decide +kernel
theorem qw_169 : lw_tbl[169]? = some (Jvm.Cond.fieldLink "KindGrids$Wholes" (111 : Nat) "KindGrids$Row" "whole" "[J") := by decide +kernel
theorem qw_170 : lw_tbl[170]? = some (Jvm.Cond.fieldLink "KindGrids$Sums" (105 : Nat) "KindGrids$Row" "whole" "[J") := by decide +kernel
theorem qw_171 : lw_tbl[171]? = some (Jvm.Cond.fieldLink "KindGrids$Rows" (146 : Nat) "KindGrids$Row" "whole" "[J") := by decide +kernel
theorem qw_172 : lw_tbl[172]? = some (Jvm.Cond.fieldLink "KindGrids$Row" (26 : Nat) "KindGrids$Row" "real" "[D") := by decide +kernel
theorem qw_173 : lw_tbl[173]? = some (Jvm.Cond.fieldLink "KindGrids$Rows" (138 : Nat) "KindGrids$Row" "real" "[D") := by decide +kernel
theorem qw_174 : lw_tbl[174]? = some (Jvm.Cond.laysFinal "KindGrids$Row" "KindGrids$Row" "number" "I") := by decide +kernel
theorem qw_176 : lw_tbl[176]? = some (Jvm.Cond.lays "KindGrids$Row" "KindGrids$Row" "kind" "I") := by decide +kernel
theorem qw_178 : lw_tbl[178]? = some (Jvm.Cond.lays "KindGrids$Row" "KindGrids$Row" "length" "I") := by decide +kernel
theorem qw_180 : lw_tbl[180]? = some (Jvm.Cond.laysFinal "KindGrids$Row" "KindGrids$Row" "sorts" "[I") := by decide +kernel
theorem qw_182 : lw_tbl[182]? = some (Jvm.Cond.laysFinal "KindGrids$Row" "KindGrids$Row" "whole" "[J") := by decide +kernel
theorem qw_184 : lw_tbl[184]? = some (Jvm.Cond.laysFinal "KindGrids$Row" "KindGrids$Row" "real" "[D") := by decide +kernel
theorem qw_187 : lw_tbl[187]? = some (Jvm.Cond.arrayClass Jvm.ClassFile.FieldType.int) := by decide +kernel
theorem qw_188 : lw_tbl[188]? = some (Jvm.Cond.arrayClass Jvm.ClassFile.FieldType.long) := by decide +kernel
theorem qw_189 : lw_tbl[189]? = some (Jvm.Cond.arrayClass Jvm.ClassFile.FieldType.double) := by decide +kernel
theorem qw_190 : lw_tbl[190]? = some (Jvm.Cond.fieldLink "KindGrids$Store" (9 : Nat) "KindGrids$Store" "places" "[I") := by decide +kernel
theorem qw_191 : lw_tbl[191]? = some (Jvm.Cond.fieldLink "KindGrids$Searches" (43 : Nat) "KindGrids$Store" "places" "[I") := by decide +kernel
theorem qw_192 : lw_tbl[192]? = some (Jvm.Cond.fieldLink "KindGrids$Wholes" (33 : Nat) "KindGrids$Store" "places" "[I") := by decide +kernel
theorem qw_193 : lw_tbl[193]? = some (Jvm.Cond.fieldLink "KindGrids$Regions" (90 : Nat) "KindGrids$Store" "places" "[I") := by decide +kernel
theorem qw_194 : lw_tbl[194]? = some (Jvm.Cond.fieldLink "KindGrids$Sums" (58 : Nat) "KindGrids$Store" "places" "[I") := by decide +kernel
theorem qw_195 : lw_tbl[195]? = some (Jvm.Cond.fieldLink "KindGrids$Store" (15 : Nat) "KindGrids$Store" "held" "[I") := by decide +kernel
theorem qw_196 : lw_tbl[196]? = some (Jvm.Cond.fieldLink "KindGrids$Store" (20 : Nat) "KindGrids$Store" "pool" "[LKindGrids$Row;") := by decide +kernel
theorem qw_197 : lw_tbl[197]? = some (Jvm.Cond.laysFinal "KindGrids$Store" "KindGrids$Store" "places" "[I") := by decide +kernel
theorem qw_199 : lw_tbl[199]? = some (Jvm.Cond.laysFinal "KindGrids$Store" "KindGrids$Store" "held" "[I") := by decide +kernel
theorem qw_201 : lw_tbl[201]? = some (Jvm.Cond.laysFinal "KindGrids$Store" "KindGrids$Store" "pool" "[LKindGrids$Row;") := by decide +kernel
theorem qw_205 : lw_tbl[205]? = some (Jvm.Cond.classLink "KindGrids" (23 : Nat) "KindGrids$Notes") := by decide +kernel
theorem qw_206 : lw_tbl[206]? = some (Jvm.Cond.instantiable "KindGrids$Notes" (3 : Nat)) := by decide +kernel
theorem qw_207 : lw_tbl[207]? = some (Jvm.Cond.methodLinkNest "KindGrids" (25 : Nat) (⟨"KindGrids$Notes", "<init>", "()V"⟩ : MethodName) "KindGrids") := by decide +kernel
theorem qw_208 : lw_tbl[208]? = some (Jvm.Cond.instanceMethod (⟨"KindGrids$Notes", "<init>", "()V"⟩ : MethodName)) := by decide +kernel
theorem qw_209 : lw_tbl[209]? = some (Jvm.Cond.code (⟨"KindGrids$Notes", "<init>", "()V"⟩ : MethodName) prog_4_method_1_code (1 : Nat) (Option.none : Option Jvm.ClassFile.FieldType)) := by decide +kernel
theorem qw_210 : lw_tbl[210]? = some (Jvm.Cond.methodLink "KindGrids$Notes" (3 : Nat) (⟨"java/lang/Object", "<init>", "()V"⟩ : MethodName)) := by decide +kernel
theorem qw_211 : lw_tbl[211]? = some (Jvm.Cond.fieldLink "KindGrids$Notes" (9 : Nat) "KindGrids$Notes" "told" "J") := by decide +kernel
theorem qw_212 : lw_tbl[212]? = some (Jvm.Cond.fieldLink "KindGrids$Regions" (68 : Nat) "KindGrids$Notes" "told" "J") := by decide +kernel
theorem qw_213 : lw_tbl[213]? = some (Jvm.Cond.fieldLink "KindGrids$Rows" (68 : Nat) "KindGrids$Notes" "told" "J") := by decide +kernel
theorem qw_214 : lw_tbl[214]? = some (Jvm.Cond.fieldLink "KindGrids$Searches" (88 : Nat) "KindGrids$Notes" "told" "J") := by decide +kernel
theorem qw_215 : lw_tbl[215]? = some (Jvm.Cond.fieldLink "KindGrids$Guesses" (56 : Nat) "KindGrids$Notes" "told" "J") := by decide +kernel
theorem qw_216 : lw_tbl[216]? = some (Jvm.Cond.fieldLink "KindGrids$Sums" (80 : Nat) "KindGrids$Notes" "told" "J") := by decide +kernel
theorem qw_217 : lw_tbl[217]? = some (Jvm.Cond.fieldLink "KindGrids" (259 : Nat) "KindGrids$Notes" "told" "J") := by decide +kernel
theorem qw_218 : lw_tbl[218]? = some (Jvm.Cond.fieldLink "KindGrids$Notes" (15 : Nat) "KindGrids$Notes" "first" "I") := by decide +kernel
theorem qw_219 : lw_tbl[219]? = some (Jvm.Cond.fieldLink "KindGrids$Searches" (94 : Nat) "KindGrids$Notes" "first" "I") := by decide +kernel
theorem qw_220 : lw_tbl[220]? = some (Jvm.Cond.fieldLink "KindGrids$Wholes" (102 : Nat) "KindGrids$Notes" "first" "I") := by decide +kernel
theorem qw_221 : lw_tbl[221]? = some (Jvm.Cond.fieldLink "KindGrids$Rows" (115 : Nat) "KindGrids$Notes" "first" "I") := by decide +kernel
theorem qw_222 : lw_tbl[222]? = some (Jvm.Cond.fieldLink "KindGrids" (223 : Nat) "KindGrids$Notes" "first" "I") := by decide +kernel
theorem qw_223 : lw_tbl[223]? = some (Jvm.Cond.fieldLink "KindGrids$Notes" (19 : Nat) "KindGrids$Notes" "passed" "I") := by decide +kernel
theorem qw_224 : lw_tbl[224]? = some (Jvm.Cond.fieldLink "KindGrids$Sums" (85 : Nat) "KindGrids$Notes" "passed" "I") := by decide +kernel
theorem qw_225 : lw_tbl[225]? = some (Jvm.Cond.fieldLink "KindGrids" (263 : Nat) "KindGrids$Notes" "passed" "I") := by decide +kernel
theorem qw_226 : lw_tbl[226]? = some (Jvm.Cond.lays "KindGrids$Notes" "KindGrids$Notes" "told" "J") := by decide +kernel
theorem qw_228 : lw_tbl[228]? = some (Jvm.Cond.lays "KindGrids$Notes" "KindGrids$Notes" "first" "I") := by decide +kernel
theorem qw_230 : lw_tbl[230]? = some (Jvm.Cond.lays "KindGrids$Notes" "KindGrids$Notes" "passed" "I") := by decide +kernel
theorem qw_233 : lw_tbl[233]? = some (Jvm.Cond.classLink "KindGrids" (30 : Nat) "KindGrids$Rows") := by decide +kernel
theorem qw_234 : lw_tbl[234]? = some (Jvm.Cond.instantiable "KindGrids$Rows" (4 : Nat)) := by decide +kernel
theorem qw_235 : lw_tbl[235]? = some (Jvm.Cond.methodLink "KindGrids" (32 : Nat) (⟨"KindGrids$Rows", "<init>", "(LKindGrids$Store;LKindGrids$Notes;)V"⟩ : MethodName)) := by decide +kernel
theorem qw_236 : lw_tbl[236]? = some (Jvm.Cond.instanceMethod (⟨"KindGrids$Rows", "<init>", "(LKindGrids$Store;LKindGrids$Notes;)V"⟩ : MethodName)) := by decide +kernel
theorem qw_237 : lw_tbl[237]? = some (Jvm.Cond.code (⟨"KindGrids$Rows", "<init>", "(LKindGrids$Store;LKindGrids$Notes;)V"⟩ : MethodName) prog_8_method_1_code (3 : Nat) (Option.none : Option Jvm.ClassFile.FieldType)) := by decide +kernel
theorem qw_238 : lw_tbl[238]? = some (Jvm.Cond.methodLink "KindGrids$Rows" (3 : Nat) (⟨"java/lang/Object", "<init>", "()V"⟩ : MethodName)) := by decide +kernel
theorem qw_239 : lw_tbl[239]? = some (Jvm.Cond.classLink "KindGrids$Rows" (9 : Nat) "KindGrids$Row") := by decide +kernel
theorem qw_240 : lw_tbl[240]? = some (Jvm.Cond.methodLink "KindGrids$Rows" (11 : Nat) (⟨"KindGrids$Row", "<init>", "(I)V"⟩ : MethodName)) := by decide +kernel
theorem qw_241 : lw_tbl[241]? = some (Jvm.Cond.fieldLink "KindGrids$Rows" (23 : Nat) "KindGrids$Rows" "store" "LKindGrids$Store;") := by decide +kernel
theorem qw_242 : lw_tbl[242]? = some (Jvm.Cond.fieldLink "KindGrids$Rows" (27 : Nat) "KindGrids$Rows" "notes" "LKindGrids$Notes;") := by decide +kernel
theorem qw_243 : lw_tbl[243]? = some (Jvm.Cond.fieldLink "KindGrids$Rows" (14 : Nat) "KindGrids$Rows" "hand" "LKindGrids$Row;") := by decide +kernel
theorem qw_244 : lw_tbl[244]? = some (Jvm.Cond.fieldLink "KindGrids$Rows" (20 : Nat) "KindGrids$Rows" "aside" "LKindGrids$Row;") := by decide +kernel
theorem qw_245 : lw_tbl[245]? = some (Jvm.Cond.laysFinal "KindGrids$Rows" "KindGrids$Rows" "store" "LKindGrids$Store;") := by decide +kernel
theorem qw_247 : lw_tbl[247]? = some (Jvm.Cond.laysFinal "KindGrids$Rows" "KindGrids$Rows" "notes" "LKindGrids$Notes;") := by decide +kernel
theorem qw_249 : lw_tbl[249]? = some (Jvm.Cond.laysFinal "KindGrids$Rows" "KindGrids$Rows" "hand" "LKindGrids$Row;") := by decide +kernel
theorem qw_251 : lw_tbl[251]? = some (Jvm.Cond.laysFinal "KindGrids$Rows" "KindGrids$Rows" "aside" "LKindGrids$Row;") := by decide +kernel
theorem qw_254 : lw_tbl[254]? = some (Jvm.Cond.classLink "KindGrids" (39 : Nat) "KindGrids$Wholes") := by decide +kernel
theorem qw_255 : lw_tbl[255]? = some (Jvm.Cond.instantiable "KindGrids$Wholes" (2 : Nat)) := by decide +kernel
theorem qw_256 : lw_tbl[256]? = some (Jvm.Cond.methodLink "KindGrids" (41 : Nat) (⟨"KindGrids$Wholes", "<init>", "(LKindGrids$Store;LKindGrids$Notes;)V"⟩ : MethodName)) := by decide +kernel
theorem qw_257 : lw_tbl[257]? = some (Jvm.Cond.instanceMethod (⟨"KindGrids$Wholes", "<init>", "(LKindGrids$Store;LKindGrids$Notes;)V"⟩ : MethodName)) := by decide +kernel
theorem qw_258 : lw_tbl[258]? = some (Jvm.Cond.code (⟨"KindGrids$Wholes", "<init>", "(LKindGrids$Store;LKindGrids$Notes;)V"⟩ : MethodName) prog_13_method_1_code (3 : Nat) (Option.none : Option Jvm.ClassFile.FieldType)) := by decide +kernel
theorem qw_259 : lw_tbl[259]? = some (Jvm.Cond.methodLink "KindGrids$Wholes" (3 : Nat) (⟨"java/lang/Object", "<init>", "()V"⟩ : MethodName)) := by decide +kernel
theorem qw_260 : lw_tbl[260]? = some (Jvm.Cond.fieldLink "KindGrids$Wholes" (9 : Nat) "KindGrids$Wholes" "store" "LKindGrids$Store;") := by decide +kernel
theorem qw_261 : lw_tbl[261]? = some (Jvm.Cond.fieldLink "KindGrids$Wholes" (15 : Nat) "KindGrids$Wholes" "notes" "LKindGrids$Notes;") := by decide +kernel
theorem qw_262 : lw_tbl[262]? = some (Jvm.Cond.laysFinal "KindGrids$Wholes" "KindGrids$Wholes" "store" "LKindGrids$Store;") := by decide +kernel
theorem qw_264 : lw_tbl[264]? = some (Jvm.Cond.laysFinal "KindGrids$Wholes" "KindGrids$Wholes" "notes" "LKindGrids$Notes;") := by decide +kernel
theorem qw_267 : lw_tbl[267]? = some (Jvm.Cond.classLink "KindGrids" (46 : Nat) "KindGrids$Sums") := by decide +kernel
theorem qw_268 : lw_tbl[268]? = some (Jvm.Cond.instantiable "KindGrids$Sums" (6 : Nat)) := by decide +kernel
theorem qw_269 : lw_tbl[269]? = some (Jvm.Cond.methodLink "KindGrids" (48 : Nat) (⟨"KindGrids$Sums", "<init>", "(LKindGrids$Store;LKindGrids$Notes;)V"⟩ : MethodName)) := by decide +kernel
theorem qw_270 : lw_tbl[270]? = some (Jvm.Cond.instanceMethod (⟨"KindGrids$Sums", "<init>", "(LKindGrids$Store;LKindGrids$Notes;)V"⟩ : MethodName)) := by decide +kernel
theorem qw_271 : lw_tbl[271]? = some (Jvm.Cond.code (⟨"KindGrids$Sums", "<init>", "(LKindGrids$Store;LKindGrids$Notes;)V"⟩ : MethodName) prog_12_method_1_code (3 : Nat) (Option.none : Option Jvm.ClassFile.FieldType)) := by decide +kernel
theorem qw_272 : lw_tbl[272]? = some (Jvm.Cond.methodLink "KindGrids$Sums" (3 : Nat) (⟨"java/lang/Object", "<init>", "()V"⟩ : MethodName)) := by decide +kernel
theorem qw_273 : lw_tbl[273]? = some (Jvm.Cond.fieldLink "KindGrids$Sums" (9 : Nat) "KindGrids$Sums" "store" "LKindGrids$Store;") := by decide +kernel
theorem qw_274 : lw_tbl[274]? = some (Jvm.Cond.fieldLink "KindGrids$Sums" (15 : Nat) "KindGrids$Sums" "notes" "LKindGrids$Notes;") := by decide +kernel
theorem qw_275 : lw_tbl[275]? = some (Jvm.Cond.fieldLink "KindGrids$Sums" (23 : Nat) "KindGrids$Sums" "whole" "J") := by decide +kernel
theorem qw_276 : lw_tbl[276]? = some (Jvm.Cond.fieldLink "KindGrids$Sums" (27 : Nat) "KindGrids$Sums" "real" "D") := by decide +kernel
theorem qw_277 : lw_tbl[277]? = some (Jvm.Cond.fieldLink "KindGrids$Sums" (31 : Nat) "KindGrids$Sums" "notZero" "I") := by decide +kernel
theorem qw_278 : lw_tbl[278]? = some (Jvm.Cond.fieldLink "KindGrids$Sums" (35 : Nat) "KindGrids$Sums" "taken" "I") := by decide +kernel
theorem qw_279 : lw_tbl[279]? = some (Jvm.Cond.laysFinal "KindGrids$Sums" "KindGrids$Sums" "store" "LKindGrids$Store;") := by decide +kernel
theorem qw_281 : lw_tbl[281]? = some (Jvm.Cond.laysFinal "KindGrids$Sums" "KindGrids$Sums" "notes" "LKindGrids$Notes;") := by decide +kernel
theorem qw_283 : lw_tbl[283]? = some (Jvm.Cond.lays "KindGrids$Sums" "KindGrids$Sums" "whole" "J") := by decide +kernel
theorem qw_285 : lw_tbl[285]? = some (Jvm.Cond.lays "KindGrids$Sums" "KindGrids$Sums" "real" "D") := by decide +kernel
theorem qw_287 : lw_tbl[287]? = some (Jvm.Cond.lays "KindGrids$Sums" "KindGrids$Sums" "notZero" "I") := by decide +kernel
theorem qw_289 : lw_tbl[289]? = some (Jvm.Cond.lays "KindGrids$Sums" "KindGrids$Sums" "taken" "I") := by decide +kernel
theorem qw_292 : lw_tbl[292]? = some (Jvm.Cond.classLink "KindGrids" (53 : Nat) "KindGrids$Searches") := by decide +kernel
theorem qw_293 : lw_tbl[293]? = some (Jvm.Cond.instantiable "KindGrids$Searches" (7 : Nat)) := by decide +kernel
theorem qw_294 : lw_tbl[294]? = some (Jvm.Cond.methodLink "KindGrids" (55 : Nat) (⟨"KindGrids$Searches", "<init>", "(LKindGrids$Store;LKindGrids$Notes;)V"⟩ : MethodName)) := by decide +kernel
theorem qw_295 : lw_tbl[295]? = some (Jvm.Cond.instanceMethod (⟨"KindGrids$Searches", "<init>", "(LKindGrids$Store;LKindGrids$Notes;)V"⟩ : MethodName)) := by decide +kernel
theorem qw_296 : lw_tbl[296]? = some (Jvm.Cond.code (⟨"KindGrids$Searches", "<init>", "(LKindGrids$Store;LKindGrids$Notes;)V"⟩ : MethodName) prog_9_method_1_code (3 : Nat) (Option.none : Option Jvm.ClassFile.FieldType)) := by decide +kernel
theorem qw_297 : lw_tbl[297]? = some (Jvm.Cond.methodLink "KindGrids$Searches" (3 : Nat) (⟨"java/lang/Object", "<init>", "()V"⟩ : MethodName)) := by decide +kernel
theorem qw_298 : lw_tbl[298]? = some (Jvm.Cond.fieldLink "KindGrids$Searches" (21 : Nat) "KindGrids$Searches" "store" "LKindGrids$Store;") := by decide +kernel
theorem qw_299 : lw_tbl[299]? = some (Jvm.Cond.fieldLink "KindGrids$Searches" (25 : Nat) "KindGrids$Searches" "notes" "LKindGrids$Notes;") := by decide +kernel
theorem qw_300 : lw_tbl[300]? = some (Jvm.Cond.fieldLink "KindGrids$Searches" (9 : Nat) "KindGrids$Searches" "best" "[J") := by decide +kernel
theorem qw_301 : lw_tbl[301]? = some (Jvm.Cond.fieldLink "KindGrids$Searches" (15 : Nat) "KindGrids$Searches" "bestBelow" "[J") := by decide +kernel
theorem qw_302 : lw_tbl[302]? = some (Jvm.Cond.fieldLink "KindGrids$Searches" (18 : Nat) "KindGrids$Searches" "columns" "[J") := by decide +kernel
theorem qw_303 : lw_tbl[303]? = some (Jvm.Cond.fieldLink "KindGrids$Searches" (104 : Nat) "KindGrids$Searches" "blockSum" "J") := by decide +kernel
theorem qw_304 : lw_tbl[304]? = some (Jvm.Cond.fieldLink "KindGrids$Searches" (97 : Nat) "KindGrids$Searches" "found" "I") := by decide +kernel
theorem qw_305 : lw_tbl[305]? = some (Jvm.Cond.laysFinal "KindGrids$Searches" "KindGrids$Searches" "store" "LKindGrids$Store;") := by decide +kernel
theorem qw_307 : lw_tbl[307]? = some (Jvm.Cond.laysFinal "KindGrids$Searches" "KindGrids$Searches" "notes" "LKindGrids$Notes;") := by decide +kernel
theorem qw_309 : lw_tbl[309]? = some (Jvm.Cond.laysFinal "KindGrids$Searches" "KindGrids$Searches" "best" "[J") := by decide +kernel
theorem qw_311 : lw_tbl[311]? = some (Jvm.Cond.laysFinal "KindGrids$Searches" "KindGrids$Searches" "bestBelow" "[J") := by decide +kernel
theorem qw_313 : lw_tbl[313]? = some (Jvm.Cond.laysFinal "KindGrids$Searches" "KindGrids$Searches" "columns" "[J") := by decide +kernel
theorem qw_315 : lw_tbl[315]? = some (Jvm.Cond.lays "KindGrids$Searches" "KindGrids$Searches" "blockSum" "J") := by decide +kernel
theorem qw_317 : lw_tbl[317]? = some (Jvm.Cond.lays "KindGrids$Searches" "KindGrids$Searches" "found" "I") := by decide +kernel
theorem qw_320 : lw_tbl[320]? = some (Jvm.Cond.classLink "KindGrids" (60 : Nat) "KindGrids$Regions") := by decide +kernel
theorem qw_321 : lw_tbl[321]? = some (Jvm.Cond.instantiable "KindGrids$Regions" (6 : Nat)) := by decide +kernel
theorem qw_322 : lw_tbl[322]? = some (Jvm.Cond.methodLink "KindGrids" (62 : Nat) (⟨"KindGrids$Regions", "<init>", "(LKindGrids$Store;LKindGrids$Notes;)V"⟩ : MethodName)) := by decide +kernel
theorem qw_323 : lw_tbl[323]? = some (Jvm.Cond.instanceMethod (⟨"KindGrids$Regions", "<init>", "(LKindGrids$Store;LKindGrids$Notes;)V"⟩ : MethodName)) := by decide +kernel
theorem qw_324 : lw_tbl[324]? = some (Jvm.Cond.code (⟨"KindGrids$Regions", "<init>", "(LKindGrids$Store;LKindGrids$Notes;)V"⟩ : MethodName) prog_6_method_1_code (3 : Nat) (Option.none : Option Jvm.ClassFile.FieldType)) := by decide +kernel
theorem qw_325 : lw_tbl[325]? = some (Jvm.Cond.methodLink "KindGrids$Regions" (3 : Nat) (⟨"java/lang/Object", "<init>", "()V"⟩ : MethodName)) := by decide +kernel
theorem qw_326 : lw_tbl[326]? = some (Jvm.Cond.classLink "KindGrids$Regions" (9 : Nat) "KindGrids$Row") := by decide +kernel
theorem qw_327 : lw_tbl[327]? = some (Jvm.Cond.methodLink "KindGrids$Regions" (11 : Nat) (⟨"KindGrids$Row", "<init>", "(I)V"⟩ : MethodName)) := by decide +kernel
theorem qw_328 : lw_tbl[328]? = some (Jvm.Cond.fieldLink "KindGrids$Regions" (27 : Nat) "KindGrids$Regions" "store" "LKindGrids$Store;") := by decide +kernel
theorem qw_329 : lw_tbl[329]? = some (Jvm.Cond.fieldLink "KindGrids$Regions" (31 : Nat) "KindGrids$Regions" "notes" "LKindGrids$Notes;") := by decide +kernel
theorem qw_330 : lw_tbl[330]? = some (Jvm.Cond.fieldLink "KindGrids$Regions" (14 : Nat) "KindGrids$Regions" "hand" "LKindGrids$Row;") := by decide +kernel
theorem qw_331 : lw_tbl[331]? = some (Jvm.Cond.fieldLink "KindGrids$Regions" (20 : Nat) "KindGrids$Regions" "reached" "[I") := by decide +kernel
theorem qw_332 : lw_tbl[332]? = some (Jvm.Cond.fieldLink "KindGrids$Regions" (59 : Nat) "KindGrids$Regions" "reachedCount" "I") := by decide +kernel
theorem qw_333 : lw_tbl[333]? = some (Jvm.Cond.fieldLink "KindGrids$Regions" (24 : Nat) "KindGrids$Regions" "seen" "[I") := by decide +kernel
theorem qw_334 : lw_tbl[334]? = some (Jvm.Cond.laysFinal "KindGrids$Regions" "KindGrids$Regions" "store" "LKindGrids$Store;") := by decide +kernel
theorem qw_336 : lw_tbl[336]? = some (Jvm.Cond.laysFinal "KindGrids$Regions" "KindGrids$Regions" "notes" "LKindGrids$Notes;") := by decide +kernel
theorem qw_338 : lw_tbl[338]? = some (Jvm.Cond.laysFinal "KindGrids$Regions" "KindGrids$Regions" "hand" "LKindGrids$Row;") := by decide +kernel
theorem qw_340 : lw_tbl[340]? = some (Jvm.Cond.laysFinal "KindGrids$Regions" "KindGrids$Regions" "reached" "[I") := by decide +kernel
theorem qw_342 : lw_tbl[342]? = some (Jvm.Cond.lays "KindGrids$Regions" "KindGrids$Regions" "reachedCount" "I") := by decide +kernel
theorem qw_344 : lw_tbl[344]? = some (Jvm.Cond.laysFinal "KindGrids$Regions" "KindGrids$Regions" "seen" "[I") := by decide +kernel
theorem qw_347 : lw_tbl[347]? = some (Jvm.Cond.classLink "KindGrids" (67 : Nat) "KindGrids$PlanText") := by decide +kernel
theorem qw_348 : lw_tbl[348]? = some (Jvm.Cond.instantiable "KindGrids$PlanText" (4 : Nat)) := by decide +kernel
theorem qw_349 : lw_tbl[349]? = some (Jvm.Cond.methodLinkNest "KindGrids" (69 : Nat) (⟨"KindGrids$PlanText", "<init>", "()V"⟩ : MethodName) "KindGrids") := by decide +kernel
theorem qw_350 : lw_tbl[350]? = some (Jvm.Cond.instanceMethod (⟨"KindGrids$PlanText", "<init>", "()V"⟩ : MethodName)) := by decide +kernel
theorem qw_351 : lw_tbl[351]? = some (Jvm.Cond.code (⟨"KindGrids$PlanText", "<init>", "()V"⟩ : MethodName) prog_5_method_1_code (1 : Nat) (Option.none : Option Jvm.ClassFile.FieldType)) := by decide +kernel
theorem qw_352 : lw_tbl[352]? = some (Jvm.Cond.methodLink "KindGrids$PlanText" (3 : Nat) (⟨"java/lang/Object", "<init>", "()V"⟩ : MethodName)) := by decide +kernel
theorem qw_353 : lw_tbl[353]? = some (Jvm.Cond.fieldLink "KindGrids$PlanText" (9 : Nat) "KindGrids$PlanText" "letters" "[C") := by decide +kernel
theorem qw_354 : lw_tbl[354]? = some (Jvm.Cond.fieldLink "KindGrids$PlanText" (15 : Nat) "KindGrids$PlanText" "length" "I") := by decide +kernel
theorem qw_355 : lw_tbl[355]? = some (Jvm.Cond.fieldLink "KindGrids" (266 : Nat) "KindGrids$PlanText" "length" "I") := by decide +kernel
theorem qw_356 : lw_tbl[356]? = some (Jvm.Cond.fieldLink "KindGrids$PlanText" (19 : Nat) "KindGrids$PlanText" "words" "[I") := by decide +kernel
theorem qw_357 : lw_tbl[357]? = some (Jvm.Cond.fieldLink "KindGrids$PlanText" (23 : Nat) "KindGrids$PlanText" "numbers" "[I") := by decide +kernel
theorem qw_358 : lw_tbl[358]? = some (Jvm.Cond.laysFinal "KindGrids$PlanText" "KindGrids$PlanText" "letters" "[C") := by decide +kernel
theorem qw_360 : lw_tbl[360]? = some (Jvm.Cond.lays "KindGrids$PlanText" "KindGrids$PlanText" "length" "I") := by decide +kernel
theorem qw_362 : lw_tbl[362]? = some (Jvm.Cond.laysFinal "KindGrids$PlanText" "KindGrids$PlanText" "words" "[I") := by decide +kernel
theorem qw_364 : lw_tbl[364]? = some (Jvm.Cond.laysFinal "KindGrids$PlanText" "KindGrids$PlanText" "numbers" "[I") := by decide +kernel
theorem qw_367 : lw_tbl[367]? = some (Jvm.Cond.arrayClass Jvm.ClassFile.FieldType.char) := by decide +kernel
theorem qw_368 : lw_tbl[368]? = some (Jvm.Cond.classLink "KindGrids" (74 : Nat) "KindGrids$Guesses") := by decide +kernel
theorem qw_369 : lw_tbl[369]? = some (Jvm.Cond.instantiable "KindGrids$Guesses" (4 : Nat)) := by decide +kernel
theorem qw_370 : lw_tbl[370]? = some (Jvm.Cond.methodLink "KindGrids" (76 : Nat) (⟨"KindGrids$Guesses", "<init>", "(LKindGrids$Notes;)V"⟩ : MethodName)) := by decide +kernel
theorem qw_371 : lw_tbl[371]? = some (Jvm.Cond.instanceMethod (⟨"KindGrids$Guesses", "<init>", "(LKindGrids$Notes;)V"⟩ : MethodName)) := by decide +kernel
theorem qw_372 : lw_tbl[372]? = some (Jvm.Cond.code (⟨"KindGrids$Guesses", "<init>", "(LKindGrids$Notes;)V"⟩ : MethodName) prog_3_method_1_code (2 : Nat) (Option.none : Option Jvm.ClassFile.FieldType)) := by decide +kernel
theorem qw_373 : lw_tbl[373]? = some (Jvm.Cond.methodLink "KindGrids$Guesses" (3 : Nat) (⟨"java/lang/Object", "<init>", "()V"⟩ : MethodName)) := by decide +kernel
theorem qw_374 : lw_tbl[374]? = some (Jvm.Cond.fieldLink "KindGrids$Guesses" (22 : Nat) "KindGrids$Guesses" "notes" "LKindGrids$Notes;") := by decide +kernel
theorem qw_375 : lw_tbl[375]? = some (Jvm.Cond.fieldLink "KindGrids$Guesses" (9 : Nat) "KindGrids$Guesses" "acts" "[I") := by decide +kernel
theorem qw_376 : lw_tbl[376]? = some (Jvm.Cond.fieldLink "KindGrids$Guesses" (15 : Nat) "KindGrids$Guesses" "taken" "[I") := by decide +kernel
theorem qw_377 : lw_tbl[377]? = some (Jvm.Cond.fieldLink "KindGrids$Guesses" (18 : Nat) "KindGrids$Guesses" "observed" "I") := by decide +kernel
theorem qw_378 : lw_tbl[378]? = some (Jvm.Cond.laysFinal "KindGrids$Guesses" "KindGrids$Guesses" "notes" "LKindGrids$Notes;") := by decide +kernel
theorem qw_380 : lw_tbl[380]? = some (Jvm.Cond.laysFinal "KindGrids$Guesses" "KindGrids$Guesses" "acts" "[I") := by decide +kernel
theorem qw_382 : lw_tbl[382]? = some (Jvm.Cond.laysFinal "KindGrids$Guesses" "KindGrids$Guesses" "taken" "[I") := by decide +kernel
theorem qw_384 : lw_tbl[384]? = some (Jvm.Cond.lays "KindGrids$Guesses" "KindGrids$Guesses" "observed" "I") := by decide +kernel
theorem qw_387 : lw_tbl[387]? = some (Jvm.Cond.fieldLink "KindGrids" (10 : Nat) "KindGrids" "store" "LKindGrids$Store;") := by decide +kernel
theorem qw_388 : lw_tbl[388]? = some (Jvm.Cond.fieldLink "KindGrids" (16 : Nat) "KindGrids" "undo" "LKindGrids$Store;") := by decide +kernel
theorem qw_389 : lw_tbl[389]? = some (Jvm.Cond.fieldLink "KindGrids" (19 : Nat) "KindGrids" "images" "[LKindGrids$Store;") := by decide +kernel
theorem qw_390 : lw_tbl[390]? = some (Jvm.Cond.fieldLink "KindGrids" (26 : Nat) "KindGrids" "notes" "LKindGrids$Notes;") := by decide +kernel
theorem qw_391 : lw_tbl[391]? = some (Jvm.Cond.fieldLink "KindGrids" (35 : Nat) "KindGrids" "rows" "LKindGrids$Rows;") := by decide +kernel
theorem qw_392 : lw_tbl[392]? = some (Jvm.Cond.fieldLink "KindGrids" (42 : Nat) "KindGrids" "wholes" "LKindGrids$Wholes;") := by decide +kernel
theorem qw_393 : lw_tbl[393]? = some (Jvm.Cond.fieldLink "KindGrids" (49 : Nat) "KindGrids" "sums" "LKindGrids$Sums;") := by decide +kernel
theorem qw_394 : lw_tbl[394]? = some (Jvm.Cond.fieldLink "KindGrids" (56 : Nat) "KindGrids" "searches" "LKindGrids$Searches;") := by decide +kernel
theorem qw_395 : lw_tbl[395]? = some (Jvm.Cond.fieldLink "KindGrids" (63 : Nat) "KindGrids" "regions" "LKindGrids$Regions;") := by decide +kernel
theorem qw_396 : lw_tbl[396]? = some (Jvm.Cond.fieldLink "KindGrids" (70 : Nat) "KindGrids" "text" "LKindGrids$PlanText;") := by decide +kernel
theorem qw_397 : lw_tbl[397]? = some (Jvm.Cond.fieldLink "KindGrids" (79 : Nat) "KindGrids" "guesses" "LKindGrids$Guesses;") := by decide +kernel
theorem qw_398 : lw_tbl[398]? = some (Jvm.Cond.fieldLink "KindGrids" (83 : Nat) "KindGrids" "refused" "[I") := by decide +kernel
theorem qw_399 : lw_tbl[399]? = some (Jvm.Cond.laysFinal "KindGrids" "KindGrids" "store" "LKindGrids$Store;") := by decide +kernel
theorem qw_401 : lw_tbl[401]? = some (Jvm.Cond.laysFinal "KindGrids" "KindGrids" "undo" "LKindGrids$Store;") := by decide +kernel
theorem qw_403 : lw_tbl[403]? = some (Jvm.Cond.laysFinal "KindGrids" "KindGrids" "images" "[LKindGrids$Store;") := by decide +kernel
theorem qw_405 : lw_tbl[405]? = some (Jvm.Cond.laysFinal "KindGrids" "KindGrids" "notes" "LKindGrids$Notes;") := by decide +kernel
theorem qw_407 : lw_tbl[407]? = some (Jvm.Cond.laysFinal "KindGrids" "KindGrids" "rows" "LKindGrids$Rows;") := by decide +kernel
theorem qw_409 : lw_tbl[409]? = some (Jvm.Cond.laysFinal "KindGrids" "KindGrids" "wholes" "LKindGrids$Wholes;") := by decide +kernel
theorem qw_411 : lw_tbl[411]? = some (Jvm.Cond.laysFinal "KindGrids" "KindGrids" "sums" "LKindGrids$Sums;") := by decide +kernel
theorem qw_413 : lw_tbl[413]? = some (Jvm.Cond.laysFinal "KindGrids" "KindGrids" "searches" "LKindGrids$Searches;") := by decide +kernel
theorem qw_415 : lw_tbl[415]? = some (Jvm.Cond.laysFinal "KindGrids" "KindGrids" "regions" "LKindGrids$Regions;") := by decide +kernel
theorem qw_417 : lw_tbl[417]? = some (Jvm.Cond.laysFinal "KindGrids" "KindGrids" "text" "LKindGrids$PlanText;") := by decide +kernel
theorem qw_419 : lw_tbl[419]? = some (Jvm.Cond.laysFinal "KindGrids" "KindGrids" "guesses" "LKindGrids$Guesses;") := by decide +kernel
theorem qw_421 : lw_tbl[421]? = some (Jvm.Cond.laysFinal "KindGrids" "KindGrids" "refused" "[I") := by decide +kernel
theorem qw_428 : lw_tbl[428]? = some (Jvm.Cond.methodLink "KindGrids" (87 : Nat) (⟨"KindGrids$Store", "newGrid", "(II)I"⟩ : MethodName)) := by decide +kernel
theorem qw_429 : lw_tbl[429]? = some (Jvm.Cond.instanceMethod (⟨"KindGrids$Store", "newGrid", "(II)I"⟩ : MethodName)) := by decide +kernel
theorem qw_430 : lw_tbl[430]? = some (Jvm.Cond.selects "KindGrids$Store" (⟨"KindGrids$Store", "newGrid", "(II)I"⟩ : MethodName) (⟨"KindGrids$Store", "newGrid", "(II)I"⟩ : MethodName)) := by decide +kernel
theorem qw_431 : lw_tbl[431]? = some (Jvm.Cond.code (⟨"KindGrids$Store", "newGrid", "(II)I"⟩ : MethodName) prog_11_method_14_code (3 : Nat) (Option.some Jvm.ClassFile.FieldType.int)) := by decide +kernel
theorem qw_432 : lw_tbl[432]? = some (Jvm.Cond.methodLinkNest "KindGrids$Store" (47 : Nat) (⟨"KindGrids", "isGrid", "(I)Z"⟩ : MethodName) "KindGrids") := by decide +kernel
theorem qw_433 : lw_tbl[433]? = some (Jvm.Cond.static (⟨"KindGrids", "isGrid", "(I)Z"⟩ : MethodName)) := by decide +kernel
theorem qw_434 : lw_tbl[434]? = some (Jvm.Cond.code (⟨"KindGrids", "isGrid", "(I)Z"⟩ : MethodName) prog_1_method_59_code (1 : Nat) (Option.some Jvm.ClassFile.FieldType.boolean)) := by decide +kernel
theorem qw_435 : lw_tbl[435]? = some (Jvm.Cond.methodLink "KindGrids$Store" (78 : Nat) (⟨"KindGrids$Store", "startGrid", "(I)V"⟩ : MethodName)) := by decide +kernel
theorem qw_436 : lw_tbl[436]? = some (Jvm.Cond.instanceMethod (⟨"KindGrids$Store", "startGrid", "(I)V"⟩ : MethodName)) := by decide +kernel
theorem qw_437 : lw_tbl[437]? = some (Jvm.Cond.selects "KindGrids$Store" (⟨"KindGrids$Store", "startGrid", "(I)V"⟩ : MethodName) (⟨"KindGrids$Store", "startGrid", "(I)V"⟩ : MethodName)) := by decide +kernel
theorem qw_438 : lw_tbl[438]? = some (Jvm.Cond.code (⟨"KindGrids$Store", "startGrid", "(I)V"⟩ : MethodName) prog_11_method_11_code (2 : Nat) (Option.none : Option Jvm.ClassFile.FieldType)) := by decide +kernel
theorem qw_439 : lw_tbl[439]? = some (Jvm.Cond.methodLink "KindGrids$Store" (81 : Nat) (⟨"KindGrids$Store", "finishGrid", "(I)I"⟩ : MethodName)) := by decide +kernel
theorem qw_440 : lw_tbl[440]? = some (Jvm.Cond.instanceMethod (⟨"KindGrids$Store", "finishGrid", "(I)I"⟩ : MethodName)) := by decide +kernel
theorem qw_441 : lw_tbl[441]? = some (Jvm.Cond.selects "KindGrids$Store" (⟨"KindGrids$Store", "finishGrid", "(I)I"⟩ : MethodName) (⟨"KindGrids$Store", "finishGrid", "(I)I"⟩ : MethodName)) := by decide +kernel
theorem qw_442 : lw_tbl[442]? = some (Jvm.Cond.code (⟨"KindGrids$Store", "finishGrid", "(I)I"⟩ : MethodName) prog_11_method_13_code (3 : Nat) (Option.some Jvm.ClassFile.FieldType.int)) := by decide +kernel
theorem qw_443 : lw_tbl[443]? = some (Jvm.Cond.methodLink "KindGrids" (91 : Nat) (⟨"KindGrids", "tally", "(I)I"⟩ : MethodName)) := by decide +kernel
theorem qw_445 : lw_tbl[445]? = some (Jvm.Cond.instanceMethod (⟨"KindGrids", "tally", "(I)I"⟩ : MethodName)) := by decide +kernel
theorem qw_446 : lw_tbl[446]? = some (Jvm.Cond.code (⟨"KindGrids", "tally", "(I)I"⟩ : MethodName) prog_1_method_56_code (2 : Nat) (Option.some Jvm.ClassFile.FieldType.int)) := by decide +kernel
theorem qw_451 : lw_tbl[451]? = some (Jvm.Cond.methodLink "KindGrids" (95 : Nat) (⟨"KindGrids$Store", "removeGrid", "(I)I"⟩ : MethodName)) := by decide +kernel
theorem qw_452 : lw_tbl[452]? = some (Jvm.Cond.instanceMethod (⟨"KindGrids$Store", "removeGrid", "(I)I"⟩ : MethodName)) := by decide +kernel
theorem qw_453 : lw_tbl[453]? = some (Jvm.Cond.selects "KindGrids$Store" (⟨"KindGrids$Store", "removeGrid", "(I)I"⟩ : MethodName) (⟨"KindGrids$Store", "removeGrid", "(I)I"⟩ : MethodName)) := by decide +kernel
theorem qw_454 : lw_tbl[454]? = some (Jvm.Cond.code (⟨"KindGrids$Store", "removeGrid", "(I)I"⟩ : MethodName) prog_11_method_15_code (4 : Nat) (Option.some Jvm.ClassFile.FieldType.int)) := by decide +kernel
theorem qw_455 : lw_tbl[455]? = some (Jvm.Cond.methodLink "KindGrids$Store" (51 : Nat) (⟨"KindGrids$Store", "gridFault", "(I)I"⟩ : MethodName)) := by decide +kernel
theorem qw_456 : lw_tbl[456]? = some (Jvm.Cond.instanceMethod (⟨"KindGrids$Store", "gridFault", "(I)I"⟩ : MethodName)) := by decide +kernel
theorem qw_457 : lw_tbl[457]? = some (Jvm.Cond.selects "KindGrids$Store" (⟨"KindGrids$Store", "gridFault", "(I)I"⟩ : MethodName) (⟨"KindGrids$Store", "gridFault", "(I)I"⟩ : MethodName)) := by decide +kernel
theorem qw_458 : lw_tbl[458]? = some (Jvm.Cond.code (⟨"KindGrids$Store", "gridFault", "(I)I"⟩ : MethodName) prog_11_method_5_code (2 : Nat) (Option.some Jvm.ClassFile.FieldType.int)) := by decide +kernel
theorem qw_463 : lw_tbl[463]? = some (Jvm.Cond.methodLink "KindGrids" (98 : Nat) (⟨"KindGrids$Store", "newRow", "(IIII)I"⟩ : MethodName)) := by decide +kernel
theorem qw_464 : lw_tbl[464]? = some (Jvm.Cond.instanceMethod (⟨"KindGrids$Store", "newRow", "(IIII)I"⟩ : MethodName)) := by decide +kernel
theorem qw_465 : lw_tbl[465]? = some (Jvm.Cond.selects "KindGrids$Store" (⟨"KindGrids$Store", "newRow", "(IIII)I"⟩ : MethodName) (⟨"KindGrids$Store", "newRow", "(IIII)I"⟩ : MethodName)) := by decide +kernel
theorem qw_466 : lw_tbl[466]? = some (Jvm.Cond.code (⟨"KindGrids$Store", "newRow", "(IIII)I"⟩ : MethodName) prog_11_method_16_code (6 : Nat) (Option.some Jvm.ClassFile.FieldType.int)) := by decide +kernel
theorem qw_467 : lw_tbl[467]? = some (Jvm.Cond.methodLinkNest "KindGrids$Store" (84 : Nat) (⟨"KindGrids", "isKind", "(I)Z"⟩ : MethodName) "KindGrids") := by decide +kernel
theorem qw_468 : lw_tbl[468]? = some (Jvm.Cond.static (⟨"KindGrids", "isKind", "(I)Z"⟩ : MethodName)) := by decide +kernel
theorem qw_469 : lw_tbl[469]? = some (Jvm.Cond.code (⟨"KindGrids", "isKind", "(I)Z"⟩ : MethodName) prog_1_method_60_code (1 : Nat) (Option.some Jvm.ClassFile.FieldType.boolean)) := by decide +kernel
theorem qw_470 : lw_tbl[470]? = some (Jvm.Cond.methodLink "KindGrids$Store" (55 : Nat) (⟨"KindGrids$Store", "placeFault", "(II)I"⟩ : MethodName)) := by decide +kernel
theorem qw_471 : lw_tbl[471]? = some (Jvm.Cond.instanceMethod (⟨"KindGrids$Store", "placeFault", "(II)I"⟩ : MethodName)) := by decide +kernel
theorem qw_472 : lw_tbl[472]? = some (Jvm.Cond.selects "KindGrids$Store" (⟨"KindGrids$Store", "placeFault", "(II)I"⟩ : MethodName) (⟨"KindGrids$Store", "placeFault", "(II)I"⟩ : MethodName)) := by decide +kernel
theorem qw_473 : lw_tbl[473]? = some (Jvm.Cond.code (⟨"KindGrids$Store", "placeFault", "(II)I"⟩ : MethodName) prog_11_method_6_code (4 : Nat) (Option.some Jvm.ClassFile.FieldType.int)) := by decide +kernel
theorem qw_474 : lw_tbl[474]? = some (Jvm.Cond.methodLink "KindGrids$Store" (43 : Nat) (⟨"KindGrids$Store", "hasPlace", "(II)Z"⟩ : MethodName)) := by decide +kernel
theorem qw_475 : lw_tbl[475]? = some (Jvm.Cond.instanceMethod (⟨"KindGrids$Store", "hasPlace", "(II)Z"⟩ : MethodName)) := by decide +kernel
theorem qw_476 : lw_tbl[476]? = some (Jvm.Cond.selects "KindGrids$Store" (⟨"KindGrids$Store", "hasPlace", "(II)Z"⟩ : MethodName) (⟨"KindGrids$Store", "hasPlace", "(II)Z"⟩ : MethodName)) := by decide +kernel
theorem qw_477 : lw_tbl[477]? = some (Jvm.Cond.code (⟨"KindGrids$Store", "hasPlace", "(II)Z"⟩ : MethodName) prog_11_method_3_code (3 : Nat) (Option.some Jvm.ClassFile.FieldType.boolean)) := by decide +kernel
theorem qw_478 : lw_tbl[478]? = some (Jvm.Cond.methodLink "KindGrids$Store" (70 : Nat) (⟨"KindGrids$Store", "freshRow", "(II)LKindGrids$Row;"⟩ : MethodName)) := by decide +kernel
theorem qw_479 : lw_tbl[479]? = some (Jvm.Cond.instanceMethod (⟨"KindGrids$Store", "freshRow", "(II)LKindGrids$Row;"⟩ : MethodName)) := by decide +kernel
theorem qw_480 : lw_tbl[480]? = some (Jvm.Cond.selects "KindGrids$Store" (⟨"KindGrids$Store", "freshRow", "(II)LKindGrids$Row;"⟩ : MethodName) (⟨"KindGrids$Store", "freshRow", "(II)LKindGrids$Row;"⟩ : MethodName)) := by decide +kernel
theorem qw_481 : lw_tbl[481]? = some (Jvm.Cond.code (⟨"KindGrids$Store", "freshRow", "(II)LKindGrids$Row;"⟩ : MethodName) prog_11_method_9_code (4 : Nat) (Option.some (Jvm.ClassFile.FieldType.object "KindGrids$Row"))) := by decide +kernel
theorem qw_482 : lw_tbl[482]? = some (Jvm.Cond.methodLink "KindGrids$Store" (59 : Nat) (⟨"KindGrids$Store", "firstHolder", "(I)I"⟩ : MethodName)) := by decide +kernel
theorem qw_483 : lw_tbl[483]? = some (Jvm.Cond.instanceMethod (⟨"KindGrids$Store", "firstHolder", "(I)I"⟩ : MethodName)) := by decide +kernel
theorem qw_484 : lw_tbl[484]? = some (Jvm.Cond.selects "KindGrids$Store" (⟨"KindGrids$Store", "firstHolder", "(I)I"⟩ : MethodName) (⟨"KindGrids$Store", "firstHolder", "(I)I"⟩ : MethodName)) := by decide +kernel
theorem qw_485 : lw_tbl[485]? = some (Jvm.Cond.code (⟨"KindGrids$Store", "firstHolder", "(I)I"⟩ : MethodName) prog_11_method_8_code (3 : Nat) (Option.some Jvm.ClassFile.FieldType.int)) := by decide +kernel
theorem qw_486 : lw_tbl[486]? = some (Jvm.Cond.methodLink "KindGrids$Store" (62 : Nat) (⟨"KindGrids$Row", "begin", "(II)V"⟩ : MethodName)) := by decide +kernel
theorem qw_487 : lw_tbl[487]? = some (Jvm.Cond.instanceMethod (⟨"KindGrids$Row", "begin", "(II)V"⟩ : MethodName)) := by decide +kernel
theorem qw_488 : lw_tbl[488]? = some (Jvm.Cond.selects "KindGrids$Row" (⟨"KindGrids$Row", "begin", "(II)V"⟩ : MethodName) (⟨"KindGrids$Row", "begin", "(II)V"⟩ : MethodName)) := by decide +kernel
theorem qw_489 : lw_tbl[489]? = some (Jvm.Cond.code (⟨"KindGrids$Row", "begin", "(II)V"⟩ : MethodName) prog_7_method_2_code (3 : Nat) (Option.none : Option Jvm.ClassFile.FieldType)) := by decide +kernel
theorem qw_490 : lw_tbl[490]? = some (Jvm.Cond.methodLink "KindGrids$Row" (33 : Nat) (⟨"java/util/Arrays", "fill", "([II)V"⟩ : MethodName)) := by decide +kernel
theorem qw_491 : lw_tbl[491]? = some (Jvm.Cond.methodLink "KindGrids$Row" (39 : Nat) (⟨"java/util/Arrays", "fill", "([JJ)V"⟩ : MethodName)) := by decide +kernel
theorem qw_492 : lw_tbl[492]? = some (Jvm.Cond.static (⟨"java/util/Arrays", "fill", "([JJ)V"⟩ : MethodName)) := by decide +kernel
theorem qw_493 : lw_tbl[493]? = some (Jvm.Cond.code (⟨"java/util/Arrays", "fill", "([JJ)V"⟩ : MethodName) prog_23_method_101_code (5 : Nat) (Option.none : Option Jvm.ClassFile.FieldType)) := by decide +kernel
theorem qw_494 : lw_tbl[494]? = some (Jvm.Cond.methodLink "KindGrids$Row" (42 : Nat) (⟨"java/util/Arrays", "fill", "([DD)V"⟩ : MethodName)) := by decide +kernel
theorem qw_495 : lw_tbl[495]? = some (Jvm.Cond.static (⟨"java/util/Arrays", "fill", "([DD)V"⟩ : MethodName)) := by decide +kernel
theorem qw_496 : lw_tbl[496]? = some (Jvm.Cond.code (⟨"java/util/Arrays", "fill", "([DD)V"⟩ : MethodName) prog_23_method_113_code (5 : Nat) (Option.none : Option Jvm.ClassFile.FieldType)) := by decide +kernel
theorem qw_497 : lw_tbl[497]? = some (Jvm.Cond.methodLink "KindGrids$Store" (74 : Nat) (⟨"KindGrids$Store", "place", "(IILKindGrids$Row;)V"⟩ : MethodName)) := by decide +kernel
theorem qw_498 : lw_tbl[498]? = some (Jvm.Cond.instanceMethod (⟨"KindGrids$Store", "place", "(IILKindGrids$Row;)V"⟩ : MethodName)) := by decide +kernel
theorem qw_499 : lw_tbl[499]? = some (Jvm.Cond.selects "KindGrids$Store" (⟨"KindGrids$Store", "place", "(IILKindGrids$Row;)V"⟩ : MethodName) (⟨"KindGrids$Store", "place", "(IILKindGrids$Row;)V"⟩ : MethodName)) := by decide +kernel
theorem qw_500 : lw_tbl[500]? = some (Jvm.Cond.code (⟨"KindGrids$Store", "place", "(IILKindGrids$Row;)V"⟩ : MethodName) prog_11_method_10_code (4 : Nat) (Option.none : Option Jvm.ClassFile.FieldType)) := by decide +kernel
theorem qw_505 : lw_tbl[505]? = some (Jvm.Cond.methodLink "KindGrids" (102 : Nat) (⟨"KindGrids$Store", "setThing", "(III)I"⟩ : MethodName)) := by decide +kernel
theorem qw_506 : lw_tbl[506]? = some (Jvm.Cond.instanceMethod (⟨"KindGrids$Store", "setThing", "(III)I"⟩ : MethodName)) := by decide +kernel
theorem qw_507 : lw_tbl[507]? = some (Jvm.Cond.selects "KindGrids$Store" (⟨"KindGrids$Store", "setThing", "(III)I"⟩ : MethodName) (⟨"KindGrids$Store", "setThing", "(III)I"⟩ : MethodName)) := by decide +kernel
theorem qw_508 : lw_tbl[508]? = some (Jvm.Cond.code (⟨"KindGrids$Store", "setThing", "(III)I"⟩ : MethodName) prog_11_method_17_code (5 : Nat) (Option.some Jvm.ClassFile.FieldType.int)) := by decide +kernel
theorem qw_513 : lw_tbl[513]? = some (Jvm.Cond.methodLink "KindGrids" (106 : Nat) (⟨"KindGrids$Store", "shareContent", "(IIII)I"⟩ : MethodName)) := by decide +kernel
theorem qw_514 : lw_tbl[514]? = some (Jvm.Cond.instanceMethod (⟨"KindGrids$Store", "shareContent", "(IIII)I"⟩ : MethodName)) := by decide +kernel
theorem qw_515 : lw_tbl[515]? = some (Jvm.Cond.selects "KindGrids$Store" (⟨"KindGrids$Store", "shareContent", "(IIII)I"⟩ : MethodName) (⟨"KindGrids$Store", "shareContent", "(IIII)I"⟩ : MethodName)) := by decide +kernel
theorem qw_516 : lw_tbl[516]? = some (Jvm.Cond.code (⟨"KindGrids$Store", "shareContent", "(IIII)I"⟩ : MethodName) prog_11_method_19_code (6 : Nat) (Option.some Jvm.ClassFile.FieldType.int)) := by decide +kernel
theorem qw_517 : lw_tbl[517]? = some (Jvm.Cond.methodLink "KindGrids$Store" (87 : Nat) (⟨"KindGrids$Store", "pairFault", "(IIII)I"⟩ : MethodName)) := by decide +kernel
theorem qw_518 : lw_tbl[518]? = some (Jvm.Cond.instanceMethod (⟨"KindGrids$Store", "pairFault", "(IIII)I"⟩ : MethodName)) := by decide +kernel
theorem qw_519 : lw_tbl[519]? = some (Jvm.Cond.selects "KindGrids$Store" (⟨"KindGrids$Store", "pairFault", "(IIII)I"⟩ : MethodName) (⟨"KindGrids$Store", "pairFault", "(IIII)I"⟩ : MethodName)) := by decide +kernel
theorem qw_520 : lw_tbl[520]? = some (Jvm.Cond.code (⟨"KindGrids$Store", "pairFault", "(IIII)I"⟩ : MethodName) prog_11_method_18_code (6 : Nat) (Option.some Jvm.ClassFile.FieldType.int)) := by decide +kernel
theorem qw_521 : lw_tbl[521]? = some (Jvm.Cond.methodLink "KindGrids$Store" (91 : Nat) (⟨"KindGrids$Store", "contentOf", "(II)I"⟩ : MethodName)) := by decide +kernel
theorem qw_522 : lw_tbl[522]? = some (Jvm.Cond.instanceMethod (⟨"KindGrids$Store", "contentOf", "(II)I"⟩ : MethodName)) := by decide +kernel
theorem qw_523 : lw_tbl[523]? = some (Jvm.Cond.selects "KindGrids$Store" (⟨"KindGrids$Store", "contentOf", "(II)I"⟩ : MethodName) (⟨"KindGrids$Store", "contentOf", "(II)I"⟩ : MethodName)) := by decide +kernel
theorem qw_524 : lw_tbl[524]? = some (Jvm.Cond.code (⟨"KindGrids$Store", "contentOf", "(II)I"⟩ : MethodName) prog_11_method_21_code (5 : Nat) (Option.some Jvm.ClassFile.FieldType.int)) := by decide +kernel
theorem qw_525 : lw_tbl[525]? = some (Jvm.Cond.methodLink "KindGrids$Store" (94 : Nat) (⟨"KindGrids$Store", "rowAt", "(II)LKindGrids$Row;"⟩ : MethodName)) := by decide +kernel
theorem qw_526 : lw_tbl[526]? = some (Jvm.Cond.instanceMethod (⟨"KindGrids$Store", "rowAt", "(II)LKindGrids$Row;"⟩ : MethodName)) := by decide +kernel
theorem qw_527 : lw_tbl[527]? = some (Jvm.Cond.selects "KindGrids$Store" (⟨"KindGrids$Store", "rowAt", "(II)LKindGrids$Row;"⟩ : MethodName) (⟨"KindGrids$Store", "rowAt", "(II)LKindGrids$Row;"⟩ : MethodName)) := by decide +kernel
theorem qw_528 : lw_tbl[528]? = some (Jvm.Cond.code (⟨"KindGrids$Store", "rowAt", "(II)LKindGrids$Row;"⟩ : MethodName) prog_11_method_4_code (4 : Nat) (Option.some (Jvm.ClassFile.FieldType.object "KindGrids$Row"))) := by decide +kernel
theorem qw_533 : lw_tbl[533]? = some (Jvm.Cond.methodLink "KindGrids" (109 : Nat) (⟨"KindGrids$Store", "exchange", "(IIII)I"⟩ : MethodName)) := by decide +kernel
theorem qw_534 : lw_tbl[534]? = some (Jvm.Cond.instanceMethod (⟨"KindGrids$Store", "exchange", "(IIII)I"⟩ : MethodName)) := by decide +kernel
theorem qw_535 : lw_tbl[535]? = some (Jvm.Cond.selects "KindGrids$Store" (⟨"KindGrids$Store", "exchange", "(IIII)I"⟩ : MethodName) (⟨"KindGrids$Store", "exchange", "(IIII)I"⟩ : MethodName)) := by decide +kernel
theorem qw_536 : lw_tbl[536]? = some (Jvm.Cond.code (⟨"KindGrids$Store", "exchange", "(IIII)I"⟩ : MethodName) prog_11_method_20_code (7 : Nat) (Option.some Jvm.ClassFile.FieldType.int)) := by decide +kernel
theorem qw_541 : lw_tbl[541]? = some (Jvm.Cond.methodLink "KindGrids" (112 : Nat) (⟨"KindGrids$Store", "contentOf", "(II)I"⟩ : MethodName)) := by decide +kernel
theorem qw_546 : lw_tbl[546]? = some (Jvm.Cond.methodLink "KindGrids" (115 : Nat) (⟨"KindGrids$Store", "holdSameRow", "(IIII)I"⟩ : MethodName)) := by decide +kernel
theorem qw_547 : lw_tbl[547]? = some (Jvm.Cond.instanceMethod (⟨"KindGrids$Store", "holdSameRow", "(IIII)I"⟩ : MethodName)) := by decide +kernel
theorem qw_548 : lw_tbl[548]? = some (Jvm.Cond.selects "KindGrids$Store" (⟨"KindGrids$Store", "holdSameRow", "(IIII)I"⟩ : MethodName) (⟨"KindGrids$Store", "holdSameRow", "(IIII)I"⟩ : MethodName)) := by decide +kernel
theorem qw_549 : lw_tbl[549]? = some (Jvm.Cond.code (⟨"KindGrids$Store", "holdSameRow", "(IIII)I"⟩ : MethodName) prog_11_method_22_code (7 : Nat) (Option.some Jvm.ClassFile.FieldType.int)) := by decide +kernel
theorem qw_550 : lw_tbl[550]? = some (Jvm.Cond.methodLink "KindGrids$Store" (100 : Nat) (⟨"KindGrids$Store", "rowFault", "(II)I"⟩ : MethodName)) := by decide +kernel
theorem qw_551 : lw_tbl[551]? = some (Jvm.Cond.instanceMethod (⟨"KindGrids$Store", "rowFault", "(II)I"⟩ : MethodName)) := by decide +kernel
theorem qw_552 : lw_tbl[552]? = some (Jvm.Cond.selects "KindGrids$Store" (⟨"KindGrids$Store", "rowFault", "(II)I"⟩ : MethodName) (⟨"KindGrids$Store", "rowFault", "(II)I"⟩ : MethodName)) := by decide +kernel
theorem qw_553 : lw_tbl[553]? = some (Jvm.Cond.code (⟨"KindGrids$Store", "rowFault", "(II)I"⟩ : MethodName) prog_11_method_7_code (4 : Nat) (Option.some Jvm.ClassFile.FieldType.int)) := by decide +kernel
theorem qw_558 : lw_tbl[558]? = some (Jvm.Cond.methodLink "KindGrids" (118 : Nat) (⟨"KindGrids$Store", "lengthOf", "(II)I"⟩ : MethodName)) := by decide +kernel
theorem qw_559 : lw_tbl[559]? = some (Jvm.Cond.instanceMethod (⟨"KindGrids$Store", "lengthOf", "(II)I"⟩ : MethodName)) := by decide +kernel
theorem qw_560 : lw_tbl[560]? = some (Jvm.Cond.selects "KindGrids$Store" (⟨"KindGrids$Store", "lengthOf", "(II)I"⟩ : MethodName) (⟨"KindGrids$Store", "lengthOf", "(II)I"⟩ : MethodName)) := by decide +kernel
theorem qw_561 : lw_tbl[561]? = some (Jvm.Cond.code (⟨"KindGrids$Store", "lengthOf", "(II)I"⟩ : MethodName) prog_11_method_23_code (4 : Nat) (Option.some Jvm.ClassFile.FieldType.int)) := by decide +kernel
theorem qw_566 : lw_tbl[566]? = some (Jvm.Cond.methodLink "KindGrids" (121 : Nat) (⟨"KindGrids$Rows", "readCell", "(IIII)I"⟩ : MethodName)) := by decide +kernel
theorem qw_567 : lw_tbl[567]? = some (Jvm.Cond.instanceMethod (⟨"KindGrids$Rows", "readCell", "(IIII)I"⟩ : MethodName)) := by decide +kernel
theorem qw_568 : lw_tbl[568]? = some (Jvm.Cond.selects "KindGrids$Rows" (⟨"KindGrids$Rows", "readCell", "(IIII)I"⟩ : MethodName) (⟨"KindGrids$Rows", "readCell", "(IIII)I"⟩ : MethodName)) := by decide +kernel
theorem qw_569 : lw_tbl[569]? = some (Jvm.Cond.code (⟨"KindGrids$Rows", "readCell", "(IIII)I"⟩ : MethodName) prog_8_method_2_code (6 : Nat) (Option.some Jvm.ClassFile.FieldType.int)) := by decide +kernel
theorem qw_570 : lw_tbl[570]? = some (Jvm.Cond.methodLinkNest "KindGrids$Rows" (31 : Nat) (⟨"KindGrids", "isGrid", "(I)Z"⟩ : MethodName) "KindGrids") := by decide +kernel
theorem qw_571 : lw_tbl[571]? = some (Jvm.Cond.methodLink "KindGrids$Rows" (35 : Nat) (⟨"KindGrids$Store", "rowAt", "(II)LKindGrids$Row;"⟩ : MethodName)) := by decide +kernel
theorem qw_572 : lw_tbl[572]? = some (Jvm.Cond.methodLink "KindGrids$Rows" (41 : Nat) (⟨"KindGrids$Store", "rowFault", "(II)I"⟩ : MethodName)) := by decide +kernel
theorem qw_573 : lw_tbl[573]? = some (Jvm.Cond.methodLink "KindGrids$Rows" (45 : Nat) (⟨"KindGrids$Row", "hasCell", "(I)Z"⟩ : MethodName)) := by decide +kernel
theorem qw_574 : lw_tbl[574]? = some (Jvm.Cond.instanceMethod (⟨"KindGrids$Row", "hasCell", "(I)Z"⟩ : MethodName)) := by decide +kernel
theorem qw_575 : lw_tbl[575]? = some (Jvm.Cond.selects "KindGrids$Row" (⟨"KindGrids$Row", "hasCell", "(I)Z"⟩ : MethodName) (⟨"KindGrids$Row", "hasCell", "(I)Z"⟩ : MethodName)) := by decide +kernel
theorem qw_576 : lw_tbl[576]? = some (Jvm.Cond.code (⟨"KindGrids$Row", "hasCell", "(I)Z"⟩ : MethodName) prog_7_method_4_code (2 : Nat) (Option.some Jvm.ClassFile.FieldType.boolean)) := by decide +kernel
theorem qw_577 : lw_tbl[577]? = some (Jvm.Cond.methodLinkNest "KindGrids$Rows" (52 : Nat) (⟨"KindGrids", "readsAs", "(II)Z"⟩ : MethodName) "KindGrids") := by decide +kernel
theorem qw_578 : lw_tbl[578]? = some (Jvm.Cond.static (⟨"KindGrids", "readsAs", "(II)Z"⟩ : MethodName)) := by decide +kernel
theorem qw_579 : lw_tbl[579]? = some (Jvm.Cond.code (⟨"KindGrids", "readsAs", "(II)Z"⟩ : MethodName) prog_1_method_68_code (2 : Nat) (Option.some Jvm.ClassFile.FieldType.boolean)) := by decide +kernel
theorem qw_580 : lw_tbl[580]? = some (Jvm.Cond.methodLink "KindGrids" (302 : Nat) (⟨"KindGrids", "isPlain", "(I)Z"⟩ : MethodName)) := by decide +kernel
theorem qw_581 : lw_tbl[581]? = some (Jvm.Cond.static (⟨"KindGrids", "isPlain", "(I)Z"⟩ : MethodName)) := by decide +kernel
theorem qw_582 : lw_tbl[582]? = some (Jvm.Cond.code (⟨"KindGrids", "isPlain", "(I)Z"⟩ : MethodName) prog_1_method_61_code (1 : Nat) (Option.some Jvm.ClassFile.FieldType.boolean)) := by decide +kernel
theorem qw_583 : lw_tbl[583]? = some (Jvm.Cond.methodLink "KindGrids" (305 : Nat) (⟨"KindGrids", "takes", "(II)Z"⟩ : MethodName)) := by decide +kernel
theorem qw_584 : lw_tbl[584]? = some (Jvm.Cond.static (⟨"KindGrids", "takes", "(II)Z"⟩ : MethodName)) := by decide +kernel
theorem qw_585 : lw_tbl[585]? = some (Jvm.Cond.code (⟨"KindGrids", "takes", "(II)Z"⟩ : MethodName) prog_1_method_67_code (2 : Nat) (Option.some Jvm.ClassFile.FieldType.boolean)) := by decide +kernel
theorem qw_586 : lw_tbl[586]? = some (Jvm.Cond.fieldLink "KindGrids" (299 : Nat) "KindGrids" "TAKEN" "[I") := by decide +kernel
theorem qw_588 : lw_tbl[588]? = some (Jvm.Cond.methodLink "KindGrids$Rows" (56 : Nat) (⟨"KindGrids$Row", "begin", "(II)V"⟩ : MethodName)) := by decide +kernel
theorem qw_589 : lw_tbl[589]? = some (Jvm.Cond.methodLink "KindGrids$Rows" (60 : Nat) (⟨"KindGrids$Row", "accept", "(ILKindGrids$Row;I)Z"⟩ : MethodName)) := by decide +kernel
theorem qw_590 : lw_tbl[590]? = some (Jvm.Cond.instanceMethod (⟨"KindGrids$Row", "accept", "(ILKindGrids$Row;I)Z"⟩ : MethodName)) := by decide +kernel
theorem qw_591 : lw_tbl[591]? = some (Jvm.Cond.selects "KindGrids$Row" (⟨"KindGrids$Row", "accept", "(ILKindGrids$Row;I)Z"⟩ : MethodName) (⟨"KindGrids$Row", "accept", "(ILKindGrids$Row;I)Z"⟩ : MethodName)) := by decide +kernel
theorem qw_592 : lw_tbl[592]? = some (Jvm.Cond.code (⟨"KindGrids$Row", "accept", "(ILKindGrids$Row;I)Z"⟩ : MethodName) prog_7_method_6_code (5 : Nat) (Option.some Jvm.ClassFile.FieldType.boolean)) := by decide +kernel
theorem qw_593 : lw_tbl[593]? = some (Jvm.Cond.methodLinkNest "KindGrids$Row" (64 : Nat) (⟨"KindGrids", "takes", "(II)Z"⟩ : MethodName) "KindGrids") := by decide +kernel
theorem qw_594 : lw_tbl[594]? = some (Jvm.Cond.methodLinkNest "KindGrids$Row" (68 : Nat) (⟨"KindGrids", "isPlain", "(I)Z"⟩ : MethodName) "KindGrids") := by decide +kernel
theorem qw_595 : lw_tbl[595]? = some (Jvm.Cond.methodLinkNest "KindGrids$Row" (72 : Nat) (⟨"KindGrids", "isReal", "(I)Z"⟩ : MethodName) "KindGrids") := by decide +kernel
theorem qw_596 : lw_tbl[596]? = some (Jvm.Cond.static (⟨"KindGrids", "isReal", "(I)Z"⟩ : MethodName)) := by decide +kernel
theorem qw_597 : lw_tbl[597]? = some (Jvm.Cond.code (⟨"KindGrids", "isReal", "(I)Z"⟩ : MethodName) prog_1_method_64_code (1 : Nat) (Option.some Jvm.ClassFile.FieldType.boolean)) := by decide +kernel
theorem qw_598 : lw_tbl[598]? = some (Jvm.Cond.methodLink "KindGrids$Row" (75 : Nat) (⟨"KindGrids$Row", "floatAt", "(I)F"⟩ : MethodName)) := by decide +kernel
theorem qw_599 : lw_tbl[599]? = some (Jvm.Cond.instanceMethod (⟨"KindGrids$Row", "floatAt", "(I)F"⟩ : MethodName)) := by decide +kernel
theorem qw_600 : lw_tbl[600]? = some (Jvm.Cond.selects "KindGrids$Row" (⟨"KindGrids$Row", "floatAt", "(I)F"⟩ : MethodName) (⟨"KindGrids$Row", "floatAt", "(I)F"⟩ : MethodName)) := by decide +kernel
theorem qw_601 : lw_tbl[601]? = some (Jvm.Cond.code (⟨"KindGrids$Row", "floatAt", "(I)F"⟩ : MethodName) prog_7_method_7_code (2 : Nat) (Option.some Jvm.ClassFile.FieldType.float)) := by decide +kernel
theorem qw_602 : lw_tbl[602]? = some (Jvm.Cond.methodLink "KindGrids$Row" (79 : Nat) (⟨"KindGrids$Row", "doubleAt", "(I)D"⟩ : MethodName)) := by decide +kernel
theorem qw_603 : lw_tbl[603]? = some (Jvm.Cond.instanceMethod (⟨"KindGrids$Row", "doubleAt", "(I)D"⟩ : MethodName)) := by decide +kernel
theorem qw_604 : lw_tbl[604]? = some (Jvm.Cond.selects "KindGrids$Row" (⟨"KindGrids$Row", "doubleAt", "(I)D"⟩ : MethodName) (⟨"KindGrids$Row", "doubleAt", "(I)D"⟩ : MethodName)) := by decide +kernel
theorem qw_605 : lw_tbl[605]? = some (Jvm.Cond.code (⟨"KindGrids$Row", "doubleAt", "(I)D"⟩ : MethodName) prog_7_method_8_code (2 : Nat) (Option.some Jvm.ClassFile.FieldType.double)) := by decide +kernel
theorem qw_606 : lw_tbl[606]? = some (Jvm.Cond.methodLink "KindGrids$Rows" (64 : Nat) (⟨"KindGrids$Row", "codeAt", "(I)J"⟩ : MethodName)) := by decide +kernel
theorem qw_607 : lw_tbl[607]? = some (Jvm.Cond.instanceMethod (⟨"KindGrids$Row", "codeAt", "(I)J"⟩ : MethodName)) := by decide +kernel
theorem qw_608 : lw_tbl[608]? = some (Jvm.Cond.selects "KindGrids$Row" (⟨"KindGrids$Row", "codeAt", "(I)J"⟩ : MethodName) (⟨"KindGrids$Row", "codeAt", "(I)J"⟩ : MethodName)) := by decide +kernel
theorem qw_609 : lw_tbl[609]? = some (Jvm.Cond.code (⟨"KindGrids$Row", "codeAt", "(I)J"⟩ : MethodName) prog_7_method_9_code (2 : Nat) (Option.some Jvm.ClassFile.FieldType.long)) := by decide +kernel
theorem qw_610 : lw_tbl[610]? = some (Jvm.Cond.methodLinkNest "KindGrids$Row" (83 : Nat) (⟨"KindGrids", "codeOfReal", "(D)J"⟩ : MethodName) "KindGrids") := by decide +kernel
theorem qw_611 : lw_tbl[611]? = some (Jvm.Cond.static (⟨"KindGrids", "codeOfReal", "(D)J"⟩ : MethodName)) := by decide +kernel
theorem qw_612 : lw_tbl[612]? = some (Jvm.Cond.code (⟨"KindGrids", "codeOfReal", "(D)J"⟩ : MethodName) prog_1_method_72_code (2 : Nat) (Option.some Jvm.ClassFile.FieldType.long)) := by decide +kernel
theorem qw_613 : lw_tbl[613]? = some (Jvm.Cond.constantDouble "KindGrids" (311 : Nat) (4620693217682128896 : UInt64)) := by decide +kernel
theorem qw_618 : lw_tbl[618]? = some (Jvm.Cond.methodLink "KindGrids" (124 : Nat) (⟨"KindGrids$Rows", "writeCell", "(IIIIJ)I"⟩ : MethodName)) := by decide +kernel
theorem qw_619 : lw_tbl[619]? = some (Jvm.Cond.instanceMethod (⟨"KindGrids$Rows", "writeCell", "(IIIIJ)I"⟩ : MethodName)) := by decide +kernel
theorem qw_620 : lw_tbl[620]? = some (Jvm.Cond.selects "KindGrids$Rows" (⟨"KindGrids$Rows", "writeCell", "(IIIIJ)I"⟩ : MethodName) (⟨"KindGrids$Rows", "writeCell", "(IIIIJ)I"⟩ : MethodName)) := by decide +kernel
theorem qw_621 : lw_tbl[621]? = some (Jvm.Cond.code (⟨"KindGrids$Rows", "writeCell", "(IIIIJ)I"⟩ : MethodName) prog_8_method_3_code (8 : Nat) (Option.some Jvm.ClassFile.FieldType.int)) := by decide +kernel
theorem qw_622 : lw_tbl[622]? = some (Jvm.Cond.methodLinkNest "KindGrids$Rows" (78 : Nat) (⟨"KindGrids", "isPlain", "(I)Z"⟩ : MethodName) "KindGrids") := by decide +kernel
theorem qw_623 : lw_tbl[623]? = some (Jvm.Cond.methodLink "KindGrids$Rows" (81 : Nat) (⟨"KindGrids$Rows", "putCell", "(IIIIJ)I"⟩ : MethodName)) := by decide +kernel
theorem qw_624 : lw_tbl[624]? = some (Jvm.Cond.instanceMethod (⟨"KindGrids$Rows", "putCell", "(IIIIJ)I"⟩ : MethodName)) := by decide +kernel
theorem qw_625 : lw_tbl[625]? = some (Jvm.Cond.selects "KindGrids$Rows" (⟨"KindGrids$Rows", "putCell", "(IIIIJ)I"⟩ : MethodName) (⟨"KindGrids$Rows", "putCell", "(IIIIJ)I"⟩ : MethodName)) := by decide +kernel
theorem qw_626 : lw_tbl[626]? = some (Jvm.Cond.code (⟨"KindGrids$Rows", "putCell", "(IIIIJ)I"⟩ : MethodName) prog_8_method_4_code (8 : Nat) (Option.some Jvm.ClassFile.FieldType.int)) := by decide +kernel
theorem qw_627 : lw_tbl[627]? = some (Jvm.Cond.methodLinkNest "KindGrids$Rows" (85 : Nat) (⟨"KindGrids", "isSort", "(I)Z"⟩ : MethodName) "KindGrids") := by decide +kernel
theorem qw_628 : lw_tbl[628]? = some (Jvm.Cond.static (⟨"KindGrids", "isSort", "(I)Z"⟩ : MethodName)) := by decide +kernel
theorem qw_629 : lw_tbl[629]? = some (Jvm.Cond.code (⟨"KindGrids", "isSort", "(I)Z"⟩ : MethodName) prog_1_method_62_code (1 : Nat) (Option.some Jvm.ClassFile.FieldType.boolean)) := by decide +kernel
theorem qw_630 : lw_tbl[630]? = some (Jvm.Cond.methodLink "KindGrids$Rows" (88 : Nat) (⟨"KindGrids$Row", "become", "(IJ)V"⟩ : MethodName)) := by decide +kernel
theorem qw_631 : lw_tbl[631]? = some (Jvm.Cond.instanceMethod (⟨"KindGrids$Row", "become", "(IJ)V"⟩ : MethodName)) := by decide +kernel
theorem qw_632 : lw_tbl[632]? = some (Jvm.Cond.selects "KindGrids$Row" (⟨"KindGrids$Row", "become", "(IJ)V"⟩ : MethodName) (⟨"KindGrids$Row", "become", "(IJ)V"⟩ : MethodName)) := by decide +kernel
theorem qw_633 : lw_tbl[633]? = some (Jvm.Cond.code (⟨"KindGrids$Row", "become", "(IJ)V"⟩ : MethodName) prog_7_method_5_code (4 : Nat) (Option.none : Option Jvm.ClassFile.FieldType)) := by decide +kernel
theorem qw_634 : lw_tbl[634]? = some (Jvm.Cond.methodLink "KindGrids$Row" (51 : Nat) (⟨"KindGrids$Row", "begin", "(II)V"⟩ : MethodName)) := by decide +kernel
theorem qw_635 : lw_tbl[635]? = some (Jvm.Cond.methodLinkNest "KindGrids$Row" (55 : Nat) (⟨"KindGrids", "narrowed", "(IJ)J"⟩ : MethodName) "KindGrids") := by decide +kernel
theorem qw_636 : lw_tbl[636]? = some (Jvm.Cond.static (⟨"KindGrids", "narrowed", "(IJ)J"⟩ : MethodName)) := by decide +kernel
theorem qw_637 : lw_tbl[637]? = some (Jvm.Cond.code (⟨"KindGrids", "narrowed", "(IJ)J"⟩ : MethodName) prog_1_method_71_code (3 : Nat) (Option.some Jvm.ClassFile.FieldType.long)) := by decide +kernel
theorem qw_638 : lw_tbl[638]? = some (Jvm.Cond.constantFloat "KindGrids$Row" (59 : Nat) (1090519040 : UInt32)) := by decide +kernel
theorem qw_639 : lw_tbl[639]? = some (Jvm.Cond.constantDouble "KindGrids$Row" (60 : Nat) (4620693217682128896 : UInt64)) := by decide +kernel
theorem qw_640 : lw_tbl[640]? = some (Jvm.Cond.constantLong "KindGrids$Row" (62 : Nat) (3 : Int64)) := by decide +kernel
theorem qw_645 : lw_tbl[645]? = some (Jvm.Cond.methodLink "KindGrids" (128 : Nat) (⟨"KindGrids$Rows", "putCell", "(IIIIJ)I"⟩ : MethodName)) := by decide +kernel
theorem qw_650 : lw_tbl[650]? = some (Jvm.Cond.methodLink "KindGrids" (131 : Nat) (⟨"KindGrids$Rows", "findValue", "(IIIJ)I"⟩ : MethodName)) := by decide +kernel
theorem qw_651 : lw_tbl[651]? = some (Jvm.Cond.instanceMethod (⟨"KindGrids$Rows", "findValue", "(IIIJ)I"⟩ : MethodName)) := by decide +kernel
theorem qw_652 : lw_tbl[652]? = some (Jvm.Cond.selects "KindGrids$Rows" (⟨"KindGrids$Rows", "findValue", "(IIIJ)I"⟩ : MethodName) (⟨"KindGrids$Rows", "findValue", "(IIIJ)I"⟩ : MethodName)) := by decide +kernel
theorem qw_653 : lw_tbl[653]? = some (Jvm.Cond.code (⟨"KindGrids$Rows", "findValue", "(IIIJ)I"⟩ : MethodName) prog_8_method_5_code (8 : Nat) (Option.some Jvm.ClassFile.FieldType.int)) := by decide +kernel
theorem qw_654 : lw_tbl[654]? = some (Jvm.Cond.methodLink "KindGrids$Rows" (95 : Nat) (⟨"KindGrids$Row", "matches", "(ILKindGrids$Row;I)Z"⟩ : MethodName)) := by decide +kernel
theorem qw_655 : lw_tbl[655]? = some (Jvm.Cond.instanceMethod (⟨"KindGrids$Row", "matches", "(ILKindGrids$Row;I)Z"⟩ : MethodName)) := by decide +kernel
theorem qw_656 : lw_tbl[656]? = some (Jvm.Cond.selects "KindGrids$Row" (⟨"KindGrids$Row", "matches", "(ILKindGrids$Row;I)Z"⟩ : MethodName) (⟨"KindGrids$Row", "matches", "(ILKindGrids$Row;I)Z"⟩ : MethodName)) := by decide +kernel
theorem qw_657 : lw_tbl[657]? = some (Jvm.Cond.code (⟨"KindGrids$Row", "matches", "(ILKindGrids$Row;I)Z"⟩ : MethodName) prog_7_method_10_code (6 : Nat) (Option.some Jvm.ClassFile.FieldType.boolean)) := by decide +kernel
theorem qw_658 : lw_tbl[658]? = some (Jvm.Cond.methodLinkNest "KindGrids$Row" (87 : Nat) (⟨"KindGrids", "isNumber", "(I)Z"⟩ : MethodName) "KindGrids") := by decide +kernel
theorem qw_659 : lw_tbl[659]? = some (Jvm.Cond.static (⟨"KindGrids", "isNumber", "(I)Z"⟩ : MethodName)) := by decide +kernel
theorem qw_660 : lw_tbl[660]? = some (Jvm.Cond.code (⟨"KindGrids", "isNumber", "(I)Z"⟩ : MethodName) prog_1_method_63_code (1 : Nat) (Option.some Jvm.ClassFile.FieldType.boolean)) := by decide +kernel
theorem qw_665 : lw_tbl[665]? = some (Jvm.Cond.methodLink "KindGrids" (135 : Nat) (⟨"KindGrids$Rows", "countMatches", "(IIII)I"⟩ : MethodName)) := by decide +kernel
theorem qw_666 : lw_tbl[666]? = some (Jvm.Cond.instanceMethod (⟨"KindGrids$Rows", "countMatches", "(IIII)I"⟩ : MethodName)) := by decide +kernel
theorem qw_667 : lw_tbl[667]? = some (Jvm.Cond.selects "KindGrids$Rows" (⟨"KindGrids$Rows", "countMatches", "(IIII)I"⟩ : MethodName) (⟨"KindGrids$Rows", "countMatches", "(IIII)I"⟩ : MethodName)) := by decide +kernel
theorem qw_668 : lw_tbl[668]? = some (Jvm.Cond.code (⟨"KindGrids$Rows", "countMatches", "(IIII)I"⟩ : MethodName) prog_8_method_6_code (9 : Nat) (Option.some Jvm.ClassFile.FieldType.int)) := by decide +kernel
theorem qw_673 : lw_tbl[673]? = some (Jvm.Cond.methodLink "KindGrids" (138 : Nat) (⟨"KindGrids$Rows", "cutOut", "(IIIII)I"⟩ : MethodName)) := by decide +kernel
theorem qw_674 : lw_tbl[674]? = some (Jvm.Cond.instanceMethod (⟨"KindGrids$Rows", "cutOut", "(IIIII)I"⟩ : MethodName)) := by decide +kernel
theorem qw_675 : lw_tbl[675]? = some (Jvm.Cond.selects "KindGrids$Rows" (⟨"KindGrids$Rows", "cutOut", "(IIIII)I"⟩ : MethodName) (⟨"KindGrids$Rows", "cutOut", "(IIIII)I"⟩ : MethodName)) := by decide +kernel
theorem qw_676 : lw_tbl[676]? = some (Jvm.Cond.code (⟨"KindGrids$Rows", "cutOut", "(IIIII)I"⟩ : MethodName) prog_8_method_7_code (8 : Nat) (Option.some Jvm.ClassFile.FieldType.int)) := by decide +kernel
theorem qw_677 : lw_tbl[677]? = some (Jvm.Cond.methodLink "KindGrids$Rows" (98 : Nat) (⟨"KindGrids$Store", "hasPlace", "(II)Z"⟩ : MethodName)) := by decide +kernel
theorem qw_678 : lw_tbl[678]? = some (Jvm.Cond.methodLink "KindGrids$Rows" (101 : Nat) (⟨"KindGrids$Store", "freshRow", "(II)LKindGrids$Row;"⟩ : MethodName)) := by decide +kernel
theorem qw_679 : lw_tbl[679]? = some (Jvm.Cond.methodLink "KindGrids$Rows" (104 : Nat) (⟨"KindGrids$Rows", "append", "(LKindGrids$Row;ILKindGrids$Row;II)V"⟩ : MethodName)) := by decide +kernel
theorem qw_680 : lw_tbl[680]? = some (Jvm.Cond.static (⟨"KindGrids$Rows", "append", "(LKindGrids$Row;ILKindGrids$Row;II)V"⟩ : MethodName)) := by decide +kernel
theorem qw_681 : lw_tbl[681]? = some (Jvm.Cond.code (⟨"KindGrids$Rows", "append", "(LKindGrids$Row;ILKindGrids$Row;II)V"⟩ : MethodName) prog_8_method_8_code (6 : Nat) (Option.none : Option Jvm.ClassFile.FieldType)) := by decide +kernel
theorem qw_682 : lw_tbl[682]? = some (Jvm.Cond.methodLink "KindGrids$Rows" (108 : Nat) (⟨"KindGrids$Store", "place", "(IILKindGrids$Row;)V"⟩ : MethodName)) := by decide +kernel
theorem qw_687 : lw_tbl[687]? = some (Jvm.Cond.methodLink "KindGrids" (142 : Nat) (⟨"KindGrids$Rows", "castRow", "(III)I"⟩ : MethodName)) := by decide +kernel
theorem qw_688 : lw_tbl[688]? = some (Jvm.Cond.instanceMethod (⟨"KindGrids$Rows", "castRow", "(III)I"⟩ : MethodName)) := by decide +kernel
theorem qw_689 : lw_tbl[689]? = some (Jvm.Cond.selects "KindGrids$Rows" (⟨"KindGrids$Rows", "castRow", "(III)I"⟩ : MethodName) (⟨"KindGrids$Rows", "castRow", "(III)I"⟩ : MethodName)) := by decide +kernel
theorem qw_690 : lw_tbl[690]? = some (Jvm.Cond.code (⟨"KindGrids$Rows", "castRow", "(III)I"⟩ : MethodName) prog_8_method_9_code (7 : Nat) (Option.some Jvm.ClassFile.FieldType.int)) := by decide +kernel
theorem qw_691 : lw_tbl[691]? = some (Jvm.Cond.methodLinkNest "KindGrids$Rows" (112 : Nat) (⟨"KindGrids", "isKind", "(I)Z"⟩ : MethodName) "KindGrids") := by decide +kernel
theorem qw_696 : lw_tbl[696]? = some (Jvm.Cond.methodLink "KindGrids" (145 : Nat) (⟨"KindGrids$Rows", "pourInto", "(IIII)I"⟩ : MethodName)) := by decide +kernel
theorem qw_697 : lw_tbl[697]? = some (Jvm.Cond.instanceMethod (⟨"KindGrids$Rows", "pourInto", "(IIII)I"⟩ : MethodName)) := by decide +kernel
theorem qw_698 : lw_tbl[698]? = some (Jvm.Cond.selects "KindGrids$Rows" (⟨"KindGrids$Rows", "pourInto", "(IIII)I"⟩ : MethodName) (⟨"KindGrids$Rows", "pourInto", "(IIII)I"⟩ : MethodName)) := by decide +kernel
theorem qw_699 : lw_tbl[699]? = some (Jvm.Cond.code (⟨"KindGrids$Rows", "pourInto", "(IIII)I"⟩ : MethodName) prog_8_method_10_code (9 : Nat) (Option.some Jvm.ClassFile.FieldType.int)) := by decide +kernel
theorem qw_704 : lw_tbl[704]? = some (Jvm.Cond.methodLink "KindGrids" (148 : Nat) (⟨"KindGrids$Rows", "joinRows", "(III)I"⟩ : MethodName)) := by decide +kernel
theorem qw_705 : lw_tbl[705]? = some (Jvm.Cond.instanceMethod (⟨"KindGrids$Rows", "joinRows", "(III)I"⟩ : MethodName)) := by decide +kernel
theorem qw_706 : lw_tbl[706]? = some (Jvm.Cond.selects "KindGrids$Rows" (⟨"KindGrids$Rows", "joinRows", "(III)I"⟩ : MethodName) (⟨"KindGrids$Rows", "joinRows", "(III)I"⟩ : MethodName)) := by decide +kernel
theorem qw_707 : lw_tbl[707]? = some (Jvm.Cond.code (⟨"KindGrids$Rows", "joinRows", "(III)I"⟩ : MethodName) prog_8_method_11_code (7 : Nat) (Option.some Jvm.ClassFile.FieldType.int)) := by decide +kernel
theorem qw_708 : lw_tbl[708]? = some (Jvm.Cond.methodLinkNest "KindGrids$Rows" (118 : Nat) (⟨"KindGrids", "leastKind", "(I)I"⟩ : MethodName) "KindGrids") := by decide +kernel
theorem qw_709 : lw_tbl[709]? = some (Jvm.Cond.static (⟨"KindGrids", "leastKind", "(I)I"⟩ : MethodName)) := by decide +kernel
theorem qw_710 : lw_tbl[710]? = some (Jvm.Cond.code (⟨"KindGrids", "leastKind", "(I)I"⟩ : MethodName) prog_1_method_70_code (2 : Nat) (Option.some Jvm.ClassFile.FieldType.int)) := by decide +kernel
theorem qw_715 : lw_tbl[715]? = some (Jvm.Cond.methodLink "KindGrids" (151 : Nat) (⟨"KindGrids$Rows", "reverse", "(II)I"⟩ : MethodName)) := by decide +kernel
theorem qw_716 : lw_tbl[716]? = some (Jvm.Cond.instanceMethod (⟨"KindGrids$Rows", "reverse", "(II)I"⟩ : MethodName)) := by decide +kernel
theorem qw_717 : lw_tbl[717]? = some (Jvm.Cond.selects "KindGrids$Rows" (⟨"KindGrids$Rows", "reverse", "(II)I"⟩ : MethodName) (⟨"KindGrids$Rows", "reverse", "(II)I"⟩ : MethodName)) := by decide +kernel
theorem qw_718 : lw_tbl[718]? = some (Jvm.Cond.code (⟨"KindGrids$Rows", "reverse", "(II)I"⟩ : MethodName) prog_8_method_12_code (5 : Nat) (Option.some Jvm.ClassFile.FieldType.int)) := by decide +kernel
theorem qw_719 : lw_tbl[719]? = some (Jvm.Cond.methodLink "KindGrids$Rows" (122 : Nat) (⟨"KindGrids$Row", "copyFrom", "(LKindGrids$Row;)V"⟩ : MethodName)) := by decide +kernel
theorem qw_720 : lw_tbl[720]? = some (Jvm.Cond.instanceMethod (⟨"KindGrids$Row", "copyFrom", "(LKindGrids$Row;)V"⟩ : MethodName)) := by decide +kernel
theorem qw_721 : lw_tbl[721]? = some (Jvm.Cond.selects "KindGrids$Row" (⟨"KindGrids$Row", "copyFrom", "(LKindGrids$Row;)V"⟩ : MethodName) (⟨"KindGrids$Row", "copyFrom", "(LKindGrids$Row;)V"⟩ : MethodName)) := by decide +kernel
theorem qw_722 : lw_tbl[722]? = some (Jvm.Cond.code (⟨"KindGrids$Row", "copyFrom", "(LKindGrids$Row;)V"⟩ : MethodName) prog_7_method_3_code (2 : Nat) (Option.none : Option Jvm.ClassFile.FieldType)) := by decide +kernel
theorem qw_723 : lw_tbl[723]? = some (Jvm.Cond.methodLink "KindGrids$Row" (45 : Nat) (⟨"java/lang/System", "arraycopy", "(Ljava/lang/Object;ILjava/lang/Object;II)V"⟩ : MethodName)) := by decide +kernel
theorem qw_724 : lw_tbl[724]? = some (Jvm.Cond.static (⟨"java/lang/System", "arraycopy", "(Ljava/lang/Object;ILjava/lang/Object;II)V"⟩ : MethodName)) := by decide +kernel
theorem qw_725 : lw_tbl[725]? = some (Jvm.Cond.native (⟨"java/lang/System", "arraycopy", "(Ljava/lang/Object;ILjava/lang/Object;II)V"⟩ : MethodName)) := by decide +kernel
theorem qw_730 : lw_tbl[730]? = some (Jvm.Cond.methodLink "KindGrids" (154 : Nat) (⟨"KindGrids$Rows", "rotate", "(III)I"⟩ : MethodName)) := by decide +kernel
theorem qw_731 : lw_tbl[731]? = some (Jvm.Cond.instanceMethod (⟨"KindGrids$Rows", "rotate", "(III)I"⟩ : MethodName)) := by decide +kernel
theorem qw_732 : lw_tbl[732]? = some (Jvm.Cond.selects "KindGrids$Rows" (⟨"KindGrids$Rows", "rotate", "(III)I"⟩ : MethodName) (⟨"KindGrids$Rows", "rotate", "(III)I"⟩ : MethodName)) := by decide +kernel
theorem qw_733 : lw_tbl[733]? = some (Jvm.Cond.code (⟨"KindGrids$Rows", "rotate", "(III)I"⟩ : MethodName) prog_8_method_13_code (6 : Nat) (Option.some Jvm.ClassFile.FieldType.int)) := by decide +kernel
theorem qw_734 : lw_tbl[734]? = some (Jvm.Cond.methodLink "KindGrids$Rows" (126 : Nat) (⟨"java/lang/Math", "floorMod", "(II)I"⟩ : MethodName)) := by decide +kernel
theorem qw_735 : lw_tbl[735]? = some (Jvm.Cond.static (⟨"java/lang/Math", "floorMod", "(II)I"⟩ : MethodName)) := by decide +kernel
theorem qw_736 : lw_tbl[736]? = some (Jvm.Cond.code (⟨"java/lang/Math", "floorMod", "(II)I"⟩ : MethodName) prog_18_method_50_code (3 : Nat) (Option.some Jvm.ClassFile.FieldType.int)) := by decide +kernel
theorem qw_741 : lw_tbl[741]? = some (Jvm.Cond.methodLink "KindGrids" (157 : Nat) (⟨"KindGrids$Rows", "sortRow", "(II)I"⟩ : MethodName)) := by decide +kernel
theorem qw_742 : lw_tbl[742]? = some (Jvm.Cond.instanceMethod (⟨"KindGrids$Rows", "sortRow", "(II)I"⟩ : MethodName)) := by decide +kernel
theorem qw_743 : lw_tbl[743]? = some (Jvm.Cond.selects "KindGrids$Rows" (⟨"KindGrids$Rows", "sortRow", "(II)I"⟩ : MethodName) (⟨"KindGrids$Rows", "sortRow", "(II)I"⟩ : MethodName)) := by decide +kernel
theorem qw_744 : lw_tbl[744]? = some (Jvm.Cond.code (⟨"KindGrids$Rows", "sortRow", "(II)I"⟩ : MethodName) prog_8_method_14_code (6 : Nat) (Option.some Jvm.ClassFile.FieldType.int)) := by decide +kernel
theorem qw_745 : lw_tbl[745]? = some (Jvm.Cond.methodLink "KindGrids$Rows" (131 : Nat) (⟨"KindGrids$Rows", "insert", "(LKindGrids$Row;I)V"⟩ : MethodName)) := by decide +kernel
theorem qw_746 : lw_tbl[746]? = some (Jvm.Cond.instanceMethod (⟨"KindGrids$Rows", "insert", "(LKindGrids$Row;I)V"⟩ : MethodName)) := by decide +kernel
theorem qw_747 : lw_tbl[747]? = some (Jvm.Cond.selects "KindGrids$Rows" (⟨"KindGrids$Rows", "insert", "(LKindGrids$Row;I)V"⟩ : MethodName) (⟨"KindGrids$Rows", "insert", "(LKindGrids$Row;I)V"⟩ : MethodName)) := by decide +kernel
theorem qw_748 : lw_tbl[748]? = some (Jvm.Cond.code (⟨"KindGrids$Rows", "insert", "(LKindGrids$Row;I)V"⟩ : MethodName) prog_8_method_15_code (4 : Nat) (Option.none : Option Jvm.ClassFile.FieldType)) := by decide +kernel
theorem qw_749 : lw_tbl[749]? = some (Jvm.Cond.methodLink "KindGrids$Rows" (135 : Nat) (⟨"KindGrids$Row", "exceeds", "(ILKindGrids$Row;I)Z"⟩ : MethodName)) := by decide +kernel
theorem qw_750 : lw_tbl[750]? = some (Jvm.Cond.instanceMethod (⟨"KindGrids$Row", "exceeds", "(ILKindGrids$Row;I)Z"⟩ : MethodName)) := by decide +kernel
theorem qw_751 : lw_tbl[751]? = some (Jvm.Cond.selects "KindGrids$Row" (⟨"KindGrids$Row", "exceeds", "(ILKindGrids$Row;I)Z"⟩ : MethodName) (⟨"KindGrids$Row", "exceeds", "(ILKindGrids$Row;I)Z"⟩ : MethodName)) := by decide +kernel
theorem qw_752 : lw_tbl[752]? = some (Jvm.Cond.code (⟨"KindGrids$Row", "exceeds", "(ILKindGrids$Row;I)Z"⟩ : MethodName) prog_7_method_11_code (4 : Nat) (Option.some Jvm.ClassFile.FieldType.boolean)) := by decide +kernel
theorem qw_757 : lw_tbl[757]? = some (Jvm.Cond.methodLink "KindGrids" (160 : Nat) (⟨"KindGrids$Rows", "increase", "(IIII)I"⟩ : MethodName)) := by decide +kernel
theorem qw_758 : lw_tbl[758]? = some (Jvm.Cond.instanceMethod (⟨"KindGrids$Rows", "increase", "(IIII)I"⟩ : MethodName)) := by decide +kernel
theorem qw_759 : lw_tbl[759]? = some (Jvm.Cond.selects "KindGrids$Rows" (⟨"KindGrids$Rows", "increase", "(IIII)I"⟩ : MethodName) (⟨"KindGrids$Rows", "increase", "(IIII)I"⟩ : MethodName)) := by decide +kernel
theorem qw_760 : lw_tbl[760]? = some (Jvm.Cond.code (⟨"KindGrids$Rows", "increase", "(IIII)I"⟩ : MethodName) prog_8_method_16_code (7 : Nat) (Option.some Jvm.ClassFile.FieldType.int)) := by decide +kernel
theorem qw_761 : lw_tbl[761]? = some (Jvm.Cond.methodLink "KindGrids$Rows" (142 : Nat) (⟨"KindGrids$Row", "floatAt", "(I)F"⟩ : MethodName)) := by decide +kernel
theorem qw_762 : lw_tbl[762]? = some (Jvm.Cond.methodLinkNest "KindGrids$Rows" (150 : Nat) (⟨"KindGrids", "narrowed", "(IJ)J"⟩ : MethodName) "KindGrids") := by decide +kernel
theorem qw_767 : lw_tbl[767]? = some (Jvm.Cond.methodLink "KindGrids" (163 : Nat) (⟨"KindGrids$Rows", "markGreater", "(IIIJI)I"⟩ : MethodName)) := by decide +kernel
theorem qw_768 : lw_tbl[768]? = some (Jvm.Cond.instanceMethod (⟨"KindGrids$Rows", "markGreater", "(IIIJI)I"⟩ : MethodName)) := by decide +kernel
theorem qw_769 : lw_tbl[769]? = some (Jvm.Cond.selects "KindGrids$Rows" (⟨"KindGrids$Rows", "markGreater", "(IIIJI)I"⟩ : MethodName) (⟨"KindGrids$Rows", "markGreater", "(IIIJI)I"⟩ : MethodName)) := by decide +kernel
theorem qw_770 : lw_tbl[770]? = some (Jvm.Cond.code (⟨"KindGrids$Rows", "markGreater", "(IIIJI)I"⟩ : MethodName) prog_8_method_17_code (11 : Nat) (Option.some Jvm.ClassFile.FieldType.int)) := by decide +kernel
theorem qw_771 : lw_tbl[771]? = some (Jvm.Cond.methodLink "KindGrids$Rows" (154 : Nat) (⟨"KindGrids$Row", "cellsReadAs", "(I)Z"⟩ : MethodName)) := by decide +kernel
theorem qw_772 : lw_tbl[772]? = some (Jvm.Cond.instanceMethod (⟨"KindGrids$Row", "cellsReadAs", "(I)Z"⟩ : MethodName)) := by decide +kernel
theorem qw_773 : lw_tbl[773]? = some (Jvm.Cond.selects "KindGrids$Row" (⟨"KindGrids$Row", "cellsReadAs", "(I)Z"⟩ : MethodName) (⟨"KindGrids$Row", "cellsReadAs", "(I)Z"⟩ : MethodName)) := by decide +kernel
theorem qw_774 : lw_tbl[774]? = some (Jvm.Cond.code (⟨"KindGrids$Row", "cellsReadAs", "(I)Z"⟩ : MethodName) prog_7_method_12_code (2 : Nat) (Option.some Jvm.ClassFile.FieldType.boolean)) := by decide +kernel
theorem qw_775 : lw_tbl[775]? = some (Jvm.Cond.methodLinkNest "KindGrids$Row" (90 : Nat) (⟨"KindGrids", "readsAs", "(II)Z"⟩ : MethodName) "KindGrids") := by decide +kernel
theorem qw_780 : lw_tbl[780]? = some (Jvm.Cond.methodLink "KindGrids" (167 : Nat) (⟨"KindGrids$Rows", "pickTrue", "(III)I"⟩ : MethodName)) := by decide +kernel
theorem qw_781 : lw_tbl[781]? = some (Jvm.Cond.instanceMethod (⟨"KindGrids$Rows", "pickTrue", "(III)I"⟩ : MethodName)) := by decide +kernel
theorem qw_782 : lw_tbl[782]? = some (Jvm.Cond.selects "KindGrids$Rows" (⟨"KindGrids$Rows", "pickTrue", "(III)I"⟩ : MethodName) (⟨"KindGrids$Rows", "pickTrue", "(III)I"⟩ : MethodName)) := by decide +kernel
theorem qw_783 : lw_tbl[783]? = some (Jvm.Cond.code (⟨"KindGrids$Rows", "pickTrue", "(III)I"⟩ : MethodName) prog_8_method_18_code (10 : Nat) (Option.some Jvm.ClassFile.FieldType.int)) := by decide +kernel
theorem qw_788 : lw_tbl[788]? = some (Jvm.Cond.methodLink "KindGrids" (170 : Nat) (⟨"KindGrids$Wholes", "flatten", "(III)I"⟩ : MethodName)) := by decide +kernel
theorem qw_789 : lw_tbl[789]? = some (Jvm.Cond.instanceMethod (⟨"KindGrids$Wholes", "flatten", "(III)I"⟩ : MethodName)) := by decide +kernel
theorem qw_790 : lw_tbl[790]? = some (Jvm.Cond.selects "KindGrids$Wholes" (⟨"KindGrids$Wholes", "flatten", "(III)I"⟩ : MethodName) (⟨"KindGrids$Wholes", "flatten", "(III)I"⟩ : MethodName)) := by decide +kernel
theorem qw_791 : lw_tbl[791]? = some (Jvm.Cond.code (⟨"KindGrids$Wholes", "flatten", "(III)I"⟩ : MethodName) prog_13_method_2_code (11 : Nat) (Option.some Jvm.ClassFile.FieldType.int)) := by decide +kernel
theorem qw_792 : lw_tbl[792]? = some (Jvm.Cond.methodLinkNest "KindGrids$Wholes" (19 : Nat) (⟨"KindGrids", "isGrid", "(I)Z"⟩ : MethodName) "KindGrids") := by decide +kernel
theorem qw_793 : lw_tbl[793]? = some (Jvm.Cond.methodLink "KindGrids$Wholes" (23 : Nat) (⟨"KindGrids$Store", "gridFault", "(I)I"⟩ : MethodName)) := by decide +kernel
theorem qw_794 : lw_tbl[794]? = some (Jvm.Cond.methodLink "KindGrids$Wholes" (29 : Nat) (⟨"KindGrids$Store", "placeFault", "(II)I"⟩ : MethodName)) := by decide +kernel
theorem qw_795 : lw_tbl[795]? = some (Jvm.Cond.methodLink "KindGrids$Wholes" (37 : Nat) (⟨"KindGrids$Store", "rowAt", "(II)LKindGrids$Row;"⟩ : MethodName)) := by decide +kernel
theorem qw_796 : lw_tbl[796]? = some (Jvm.Cond.methodLinkNest "KindGrids$Wholes" (50 : Nat) (⟨"KindGrids", "leastKind", "(I)I"⟩ : MethodName) "KindGrids") := by decide +kernel
theorem qw_797 : lw_tbl[797]? = some (Jvm.Cond.methodLink "KindGrids$Wholes" (53 : Nat) (⟨"KindGrids$Store", "freshRow", "(II)LKindGrids$Row;"⟩ : MethodName)) := by decide +kernel
theorem qw_798 : lw_tbl[798]? = some (Jvm.Cond.methodLink "KindGrids$Wholes" (56 : Nat) (⟨"KindGrids$Rows", "append", "(LKindGrids$Row;ILKindGrids$Row;II)V"⟩ : MethodName)) := by decide +kernel
theorem qw_799 : lw_tbl[799]? = some (Jvm.Cond.methodLink "KindGrids$Wholes" (62 : Nat) (⟨"KindGrids$Store", "place", "(IILKindGrids$Row;)V"⟩ : MethodName)) := by decide +kernel
theorem qw_804 : lw_tbl[804]? = some (Jvm.Cond.methodLink "KindGrids" (173 : Nat) (⟨"KindGrids$Wholes", "dealOut", "(IIII)I"⟩ : MethodName)) := by decide +kernel
theorem qw_805 : lw_tbl[805]? = some (Jvm.Cond.instanceMethod (⟨"KindGrids$Wholes", "dealOut", "(IIII)I"⟩ : MethodName)) := by decide +kernel
theorem qw_806 : lw_tbl[806]? = some (Jvm.Cond.selects "KindGrids$Wholes" (⟨"KindGrids$Wholes", "dealOut", "(IIII)I"⟩ : MethodName) (⟨"KindGrids$Wholes", "dealOut", "(IIII)I"⟩ : MethodName)) := by decide +kernel
theorem qw_807 : lw_tbl[807]? = some (Jvm.Cond.code (⟨"KindGrids$Wholes", "dealOut", "(IIII)I"⟩ : MethodName) prog_13_method_3_code (9 : Nat) (Option.some Jvm.ClassFile.FieldType.int)) := by decide +kernel
theorem qw_808 : lw_tbl[808]? = some (Jvm.Cond.methodLink "KindGrids$Wholes" (66 : Nat) (⟨"KindGrids$Store", "rowFault", "(II)I"⟩ : MethodName)) := by decide +kernel
theorem qw_809 : lw_tbl[809]? = some (Jvm.Cond.methodLink "KindGrids$Wholes" (69 : Nat) (⟨"KindGrids$Store", "startGrid", "(I)V"⟩ : MethodName)) := by decide +kernel
theorem qw_810 : lw_tbl[810]? = some (Jvm.Cond.methodLink "KindGrids$Wholes" (73 : Nat) (⟨"java/lang/Math", "min", "(II)I"⟩ : MethodName)) := by decide +kernel
theorem qw_811 : lw_tbl[811]? = some (Jvm.Cond.static (⟨"java/lang/Math", "min", "(II)I"⟩ : MethodName)) := by decide +kernel
theorem qw_812 : lw_tbl[812]? = some (Jvm.Cond.code (⟨"java/lang/Math", "min", "(II)I"⟩ : MethodName) prog_18_method_69_code (2 : Nat) (Option.some Jvm.ClassFile.FieldType.int)) := by decide +kernel
theorem qw_813 : lw_tbl[813]? = some (Jvm.Cond.methodLink "KindGrids$Wholes" (78 : Nat) (⟨"KindGrids$Store", "rowOfNewGrid", "(III)LKindGrids$Row;"⟩ : MethodName)) := by decide +kernel
theorem qw_814 : lw_tbl[814]? = some (Jvm.Cond.instanceMethod (⟨"KindGrids$Store", "rowOfNewGrid", "(III)LKindGrids$Row;"⟩ : MethodName)) := by decide +kernel
theorem qw_815 : lw_tbl[815]? = some (Jvm.Cond.selects "KindGrids$Store" (⟨"KindGrids$Store", "rowOfNewGrid", "(III)LKindGrids$Row;"⟩ : MethodName) (⟨"KindGrids$Store", "rowOfNewGrid", "(III)LKindGrids$Row;"⟩ : MethodName)) := by decide +kernel
theorem qw_816 : lw_tbl[816]? = some (Jvm.Cond.code (⟨"KindGrids$Store", "rowOfNewGrid", "(III)LKindGrids$Row;"⟩ : MethodName) prog_11_method_12_code (5 : Nat) (Option.some (Jvm.ClassFile.FieldType.object "KindGrids$Row"))) := by decide +kernel
theorem qw_817 : lw_tbl[817]? = some (Jvm.Cond.methodLink "KindGrids$Wholes" (82 : Nat) (⟨"KindGrids$Store", "finishGrid", "(I)I"⟩ : MethodName)) := by decide +kernel
theorem qw_822 : lw_tbl[822]? = some (Jvm.Cond.methodLink "KindGrids" (176 : Nat) (⟨"KindGrids$Wholes", "transpose", "(II)I"⟩ : MethodName)) := by decide +kernel
theorem qw_823 : lw_tbl[823]? = some (Jvm.Cond.instanceMethod (⟨"KindGrids$Wholes", "transpose", "(II)I"⟩ : MethodName)) := by decide +kernel
theorem qw_824 : lw_tbl[824]? = some (Jvm.Cond.selects "KindGrids$Wholes" (⟨"KindGrids$Wholes", "transpose", "(II)I"⟩ : MethodName) (⟨"KindGrids$Wholes", "transpose", "(II)I"⟩ : MethodName)) := by decide +kernel
theorem qw_825 : lw_tbl[825]? = some (Jvm.Cond.code (⟨"KindGrids$Wholes", "transpose", "(II)I"⟩ : MethodName) prog_13_method_4_code (6 : Nat) (Option.some Jvm.ClassFile.FieldType.int)) := by decide +kernel
theorem qw_826 : lw_tbl[826]? = some (Jvm.Cond.methodLink "KindGrids$Wholes" (85 : Nat) (⟨"KindGrids$Store", "longestRow", "(I)I"⟩ : MethodName)) := by decide +kernel
theorem qw_827 : lw_tbl[827]? = some (Jvm.Cond.instanceMethod (⟨"KindGrids$Store", "longestRow", "(I)I"⟩ : MethodName)) := by decide +kernel
theorem qw_828 : lw_tbl[828]? = some (Jvm.Cond.selects "KindGrids$Store" (⟨"KindGrids$Store", "longestRow", "(I)I"⟩ : MethodName) (⟨"KindGrids$Store", "longestRow", "(I)I"⟩ : MethodName)) := by decide +kernel
theorem qw_829 : lw_tbl[829]? = some (Jvm.Cond.code (⟨"KindGrids$Store", "longestRow", "(I)I"⟩ : MethodName) prog_11_method_25_code (4 : Nat) (Option.some Jvm.ClassFile.FieldType.int)) := by decide +kernel
theorem qw_830 : lw_tbl[830]? = some (Jvm.Cond.methodLink "KindGrids$Store" (106 : Nat) (⟨"KindGrids$Store", "cellsAt", "(II)I"⟩ : MethodName)) := by decide +kernel
theorem qw_831 : lw_tbl[831]? = some (Jvm.Cond.instanceMethod (⟨"KindGrids$Store", "cellsAt", "(II)I"⟩ : MethodName)) := by decide +kernel
theorem qw_832 : lw_tbl[832]? = some (Jvm.Cond.selects "KindGrids$Store" (⟨"KindGrids$Store", "cellsAt", "(II)I"⟩ : MethodName) (⟨"KindGrids$Store", "cellsAt", "(II)I"⟩ : MethodName)) := by decide +kernel
theorem qw_833 : lw_tbl[833]? = some (Jvm.Cond.code (⟨"KindGrids$Store", "cellsAt", "(II)I"⟩ : MethodName) prog_11_method_24_code (4 : Nat) (Option.some Jvm.ClassFile.FieldType.int)) := by decide +kernel
theorem qw_834 : lw_tbl[834]? = some (Jvm.Cond.methodLink "KindGrids$Store" (109 : Nat) (⟨"java/lang/Math", "max", "(II)I"⟩ : MethodName)) := by decide +kernel
theorem qw_835 : lw_tbl[835]? = some (Jvm.Cond.static (⟨"java/lang/Math", "max", "(II)I"⟩ : MethodName)) := by decide +kernel
theorem qw_836 : lw_tbl[836]? = some (Jvm.Cond.code (⟨"java/lang/Math", "max", "(II)I"⟩ : MethodName) prog_18_method_65_code (2 : Nat) (Option.some Jvm.ClassFile.FieldType.int)) := by decide +kernel
theorem qw_837 : lw_tbl[837]? = some (Jvm.Cond.methodLink "KindGrids$Wholes" (88 : Nat) (⟨"KindGrids$Wholes", "makeColumn", "(II)V"⟩ : MethodName)) := by decide +kernel
theorem qw_838 : lw_tbl[838]? = some (Jvm.Cond.instanceMethod (⟨"KindGrids$Wholes", "makeColumn", "(II)V"⟩ : MethodName)) := by decide +kernel
theorem qw_839 : lw_tbl[839]? = some (Jvm.Cond.selects "KindGrids$Wholes" (⟨"KindGrids$Wholes", "makeColumn", "(II)V"⟩ : MethodName) (⟨"KindGrids$Wholes", "makeColumn", "(II)V"⟩ : MethodName)) := by decide +kernel
theorem qw_840 : lw_tbl[840]? = some (Jvm.Cond.code (⟨"KindGrids$Wholes", "makeColumn", "(II)V"⟩ : MethodName) prog_13_method_5_code (9 : Nat) (Option.none : Option Jvm.ClassFile.FieldType)) := by decide +kernel
theorem qw_841 : lw_tbl[841]? = some (Jvm.Cond.methodLink "KindGrids$Wholes" (92 : Nat) (⟨"KindGrids$Row", "hasCell", "(I)Z"⟩ : MethodName)) := by decide +kernel
theorem qw_842 : lw_tbl[842]? = some (Jvm.Cond.methodLink "KindGrids$Wholes" (95 : Nat) (⟨"KindGrids$Row", "accept", "(ILKindGrids$Row;I)Z"⟩ : MethodName)) := by decide +kernel
theorem qw_847 : lw_tbl[847]? = some (Jvm.Cond.methodLink "KindGrids" (179 : Nat) (⟨"KindGrids$Wholes", "multiply", "(III)I"⟩ : MethodName)) := by decide +kernel
theorem qw_848 : lw_tbl[848]? = some (Jvm.Cond.instanceMethod (⟨"KindGrids$Wholes", "multiply", "(III)I"⟩ : MethodName)) := by decide +kernel
theorem qw_849 : lw_tbl[849]? = some (Jvm.Cond.selects "KindGrids$Wholes" (⟨"KindGrids$Wholes", "multiply", "(III)I"⟩ : MethodName) (⟨"KindGrids$Wholes", "multiply", "(III)I"⟩ : MethodName)) := by decide +kernel
theorem qw_850 : lw_tbl[850]? = some (Jvm.Cond.code (⟨"KindGrids$Wholes", "multiply", "(III)I"⟩ : MethodName) prog_13_method_6_code (8 : Nat) (Option.some Jvm.ClassFile.FieldType.int)) := by decide +kernel
theorem qw_851 : lw_tbl[851]? = some (Jvm.Cond.methodLink "KindGrids$Wholes" (99 : Nat) (⟨"KindGrids$Store", "firstUnreadable", "(II)I"⟩ : MethodName)) := by decide +kernel
theorem qw_852 : lw_tbl[852]? = some (Jvm.Cond.instanceMethod (⟨"KindGrids$Store", "firstUnreadable", "(II)I"⟩ : MethodName)) := by decide +kernel
theorem qw_853 : lw_tbl[853]? = some (Jvm.Cond.selects "KindGrids$Store" (⟨"KindGrids$Store", "firstUnreadable", "(II)I"⟩ : MethodName) (⟨"KindGrids$Store", "firstUnreadable", "(II)I"⟩ : MethodName)) := by decide +kernel
theorem qw_854 : lw_tbl[854]? = some (Jvm.Cond.code (⟨"KindGrids$Store", "firstUnreadable", "(II)I"⟩ : MethodName) prog_11_method_26_code (5 : Nat) (Option.some Jvm.ClassFile.FieldType.int)) := by decide +kernel
theorem qw_855 : lw_tbl[855]? = some (Jvm.Cond.methodLink "KindGrids$Store" (114 : Nat) (⟨"KindGrids$Row", "cellsReadAs", "(I)Z"⟩ : MethodName)) := by decide +kernel
theorem qw_856 : lw_tbl[856]? = some (Jvm.Cond.methodLink "KindGrids$Wholes" (107 : Nat) (⟨"KindGrids$Wholes", "addProducts", "(LKindGrids$Row;LKindGrids$Row;I)V"⟩ : MethodName)) := by decide +kernel
theorem qw_857 : lw_tbl[857]? = some (Jvm.Cond.instanceMethod (⟨"KindGrids$Wholes", "addProducts", "(LKindGrids$Row;LKindGrids$Row;I)V"⟩ : MethodName)) := by decide +kernel
theorem qw_858 : lw_tbl[858]? = some (Jvm.Cond.selects "KindGrids$Wholes" (⟨"KindGrids$Wholes", "addProducts", "(LKindGrids$Row;LKindGrids$Row;I)V"⟩ : MethodName) (⟨"KindGrids$Wholes", "addProducts", "(LKindGrids$Row;LKindGrids$Row;I)V"⟩ : MethodName)) := by decide +kernel
theorem qw_859 : lw_tbl[859]? = some (Jvm.Cond.code (⟨"KindGrids$Wholes", "addProducts", "(LKindGrids$Row;LKindGrids$Row;I)V"⟩ : MethodName) prog_13_method_7_code (7 : Nat) (Option.none : Option Jvm.ClassFile.FieldType)) := by decide +kernel
theorem qw_864 : lw_tbl[864]? = some (Jvm.Cond.methodLink "KindGrids" (182 : Nat) (⟨"KindGrids$Sums", "foldCells", "(IIIII)I"⟩ : MethodName)) := by decide +kernel
theorem qw_865 : lw_tbl[865]? = some (Jvm.Cond.instanceMethod (⟨"KindGrids$Sums", "foldCells", "(IIIII)I"⟩ : MethodName)) := by decide +kernel
theorem qw_866 : lw_tbl[866]? = some (Jvm.Cond.selects "KindGrids$Sums" (⟨"KindGrids$Sums", "foldCells", "(IIIII)I"⟩ : MethodName) (⟨"KindGrids$Sums", "foldCells", "(IIIII)I"⟩ : MethodName)) := by decide +kernel
theorem qw_867 : lw_tbl[867]? = some (Jvm.Cond.code (⟨"KindGrids$Sums", "foldCells", "(IIIII)I"⟩ : MethodName) prog_12_method_6_code (11 : Nat) (Option.some Jvm.ClassFile.FieldType.int)) := by decide +kernel
theorem qw_868 : lw_tbl[868]? = some (Jvm.Cond.methodLinkNest "KindGrids$Sums" (38 : Nat) (⟨"KindGrids", "isGrid", "(I)Z"⟩ : MethodName) "KindGrids") := by decide +kernel
theorem qw_869 : lw_tbl[869]? = some (Jvm.Cond.methodLink "KindGrids$Sums" (41 : Nat) (⟨"KindGrids$Sums", "isFoldable", "(IIII)Z"⟩ : MethodName)) := by decide +kernel
theorem qw_870 : lw_tbl[870]? = some (Jvm.Cond.static (⟨"KindGrids$Sums", "isFoldable", "(IIII)Z"⟩ : MethodName)) := by decide +kernel
theorem qw_871 : lw_tbl[871]? = some (Jvm.Cond.code (⟨"KindGrids$Sums", "isFoldable", "(IIII)Z"⟩ : MethodName) prog_12_method_3_code (5 : Nat) (Option.some Jvm.ClassFile.FieldType.boolean)) := by decide +kernel
theorem qw_872 : lw_tbl[872]? = some (Jvm.Cond.methodLink "KindGrids$Sums" (19 : Nat) (⟨"KindGrids$Sums", "isSummed", "(I)Z"⟩ : MethodName)) := by decide +kernel
theorem qw_873 : lw_tbl[873]? = some (Jvm.Cond.static (⟨"KindGrids$Sums", "isSummed", "(I)Z"⟩ : MethodName)) := by decide +kernel
theorem qw_874 : lw_tbl[874]? = some (Jvm.Cond.code (⟨"KindGrids$Sums", "isSummed", "(I)Z"⟩ : MethodName) prog_12_method_2_code (1 : Nat) (Option.some Jvm.ClassFile.FieldType.boolean)) := by decide +kernel
theorem qw_875 : lw_tbl[875]? = some (Jvm.Cond.methodLink "KindGrids$Sums" (45 : Nat) (⟨"KindGrids$Store", "placeFault", "(II)I"⟩ : MethodName)) := by decide +kernel
theorem qw_876 : lw_tbl[876]? = some (Jvm.Cond.methodLink "KindGrids$Sums" (51 : Nat) (⟨"KindGrids$Store", "gridFault", "(I)I"⟩ : MethodName)) := by decide +kernel
theorem qw_877 : lw_tbl[877]? = some (Jvm.Cond.methodLink "KindGrids$Sums" (55 : Nat) (⟨"KindGrids$Sums", "begin", "()V"⟩ : MethodName)) := by decide +kernel
theorem qw_878 : lw_tbl[878]? = some (Jvm.Cond.instanceMethod (⟨"KindGrids$Sums", "begin", "()V"⟩ : MethodName)) := by decide +kernel
theorem qw_879 : lw_tbl[879]? = some (Jvm.Cond.selects "KindGrids$Sums" (⟨"KindGrids$Sums", "begin", "()V"⟩ : MethodName) (⟨"KindGrids$Sums", "begin", "()V"⟩ : MethodName)) := by decide +kernel
theorem qw_880 : lw_tbl[880]? = some (Jvm.Cond.code (⟨"KindGrids$Sums", "begin", "()V"⟩ : MethodName) prog_12_method_5_code (1 : Nat) (Option.none : Option Jvm.ClassFile.FieldType)) := by decide +kernel
theorem qw_881 : lw_tbl[881]? = some (Jvm.Cond.methodLink "KindGrids$Sums" (62 : Nat) (⟨"KindGrids$Store", "cellsAt", "(II)I"⟩ : MethodName)) := by decide +kernel
theorem qw_882 : lw_tbl[882]? = some (Jvm.Cond.methodLink "KindGrids$Sums" (65 : Nat) (⟨"KindGrids$Sums", "isChosen", "(IIII)Z"⟩ : MethodName)) := by decide +kernel
theorem qw_883 : lw_tbl[883]? = some (Jvm.Cond.static (⟨"KindGrids$Sums", "isChosen", "(IIII)Z"⟩ : MethodName)) := by decide +kernel
theorem qw_884 : lw_tbl[884]? = some (Jvm.Cond.code (⟨"KindGrids$Sums", "isChosen", "(IIII)Z"⟩ : MethodName) prog_12_method_4_code (4 : Nat) (Option.some Jvm.ClassFile.FieldType.boolean)) := by decide +kernel
theorem qw_885 : lw_tbl[885]? = some (Jvm.Cond.methodLink "KindGrids$Sums" (68 : Nat) (⟨"KindGrids$Store", "rowAt", "(II)LKindGrids$Row;"⟩ : MethodName)) := by decide +kernel
theorem qw_886 : lw_tbl[886]? = some (Jvm.Cond.methodLink "KindGrids$Sums" (72 : Nat) (⟨"KindGrids$Sums", "take", "(LKindGrids$Row;III)Z"⟩ : MethodName)) := by decide +kernel
theorem qw_887 : lw_tbl[887]? = some (Jvm.Cond.instanceMethod (⟨"KindGrids$Sums", "take", "(LKindGrids$Row;III)Z"⟩ : MethodName)) := by decide +kernel
theorem qw_888 : lw_tbl[888]? = some (Jvm.Cond.selects "KindGrids$Sums" (⟨"KindGrids$Sums", "take", "(LKindGrids$Row;III)Z"⟩ : MethodName) (⟨"KindGrids$Sums", "take", "(LKindGrids$Row;III)Z"⟩ : MethodName)) := by decide +kernel
theorem qw_889 : lw_tbl[889]? = some (Jvm.Cond.code (⟨"KindGrids$Sums", "take", "(LKindGrids$Row;III)Z"⟩ : MethodName) prog_12_method_7_code (7 : Nat) (Option.some Jvm.ClassFile.FieldType.boolean)) := by decide +kernel
theorem qw_890 : lw_tbl[890]? = some (Jvm.Cond.methodLinkNest "KindGrids$Sums" (93 : Nat) (⟨"KindGrids", "readsAs", "(II)Z"⟩ : MethodName) "KindGrids") := by decide +kernel
theorem qw_891 : lw_tbl[891]? = some (Jvm.Cond.methodLink "KindGrids$Sums" (97 : Nat) (⟨"KindGrids$Row", "doubleAt", "(I)D"⟩ : MethodName)) := by decide +kernel
theorem qw_892 : lw_tbl[892]? = some (Jvm.Cond.methodLink "KindGrids$Sums" (101 : Nat) (⟨"KindGrids$Sums", "combineReals", "(IDD)D"⟩ : MethodName)) := by decide +kernel
theorem qw_893 : lw_tbl[893]? = some (Jvm.Cond.static (⟨"KindGrids$Sums", "combineReals", "(IDD)D"⟩ : MethodName)) := by decide +kernel
theorem qw_894 : lw_tbl[894]? = some (Jvm.Cond.code (⟨"KindGrids$Sums", "combineReals", "(IDD)D"⟩ : MethodName) prog_12_method_8_code (5 : Nat) (Option.some Jvm.ClassFile.FieldType.double)) := by decide +kernel
theorem qw_895 : lw_tbl[895]? = some (Jvm.Cond.methodLink "KindGrids$Sums" (108 : Nat) (⟨"KindGrids$Sums", "combineWholes", "(IJJ)J"⟩ : MethodName)) := by decide +kernel
theorem qw_896 : lw_tbl[896]? = some (Jvm.Cond.static (⟨"KindGrids$Sums", "combineWholes", "(IJJ)J"⟩ : MethodName)) := by decide +kernel
theorem qw_897 : lw_tbl[897]? = some (Jvm.Cond.code (⟨"KindGrids$Sums", "combineWholes", "(IJJ)J"⟩ : MethodName) prog_12_method_9_code (5 : Nat) (Option.some Jvm.ClassFile.FieldType.long)) := by decide +kernel
theorem qw_898 : lw_tbl[898]? = some (Jvm.Cond.methodLink "KindGrids$Sums" (116 : Nat) (⟨"java/lang/Math", "min", "(JJ)J"⟩ : MethodName)) := by decide +kernel
theorem qw_899 : lw_tbl[899]? = some (Jvm.Cond.static (⟨"java/lang/Math", "min", "(JJ)J"⟩ : MethodName)) := by decide +kernel
theorem qw_900 : lw_tbl[900]? = some (Jvm.Cond.code (⟨"java/lang/Math", "min", "(JJ)J"⟩ : MethodName) prog_18_method_70_code (4 : Nat) (Option.some Jvm.ClassFile.FieldType.long)) := by decide +kernel
theorem qw_901 : lw_tbl[901]? = some (Jvm.Cond.methodLink "KindGrids$Sums" (122 : Nat) (⟨"java/lang/Math", "max", "(JJ)J"⟩ : MethodName)) := by decide +kernel
theorem qw_902 : lw_tbl[902]? = some (Jvm.Cond.static (⟨"java/lang/Math", "max", "(JJ)J"⟩ : MethodName)) := by decide +kernel
theorem qw_903 : lw_tbl[903]? = some (Jvm.Cond.code (⟨"java/lang/Math", "max", "(JJ)J"⟩ : MethodName) prog_18_method_66_code (4 : Nat) (Option.some Jvm.ClassFile.FieldType.long)) := by decide +kernel
theorem qw_904 : lw_tbl[904]? = some (Jvm.Cond.methodLinkNest "KindGrids$Sums" (112 : Nat) (⟨"KindGrids", "narrowed", "(IJ)J"⟩ : MethodName) "KindGrids") := by decide +kernel
theorem qw_905 : lw_tbl[905]? = some (Jvm.Cond.methodLinkNest "KindGrids$Sums" (76 : Nat) (⟨"KindGrids", "codeOfReal", "(D)J"⟩ : MethodName) "KindGrids") := by decide +kernel
theorem qw_910 : lw_tbl[910]? = some (Jvm.Cond.methodLink "KindGrids" (185 : Nat) (⟨"KindGrids$Sums", "sumProducts", "(IIIII)I"⟩ : MethodName)) := by decide +kernel
theorem qw_911 : lw_tbl[911]? = some (Jvm.Cond.instanceMethod (⟨"KindGrids$Sums", "sumProducts", "(IIIII)I"⟩ : MethodName)) := by decide +kernel
theorem qw_912 : lw_tbl[912]? = some (Jvm.Cond.selects "KindGrids$Sums" (⟨"KindGrids$Sums", "sumProducts", "(IIIII)I"⟩ : MethodName) (⟨"KindGrids$Sums", "sumProducts", "(IIIII)I"⟩ : MethodName)) := by decide +kernel
theorem qw_913 : lw_tbl[913]? = some (Jvm.Cond.code (⟨"KindGrids$Sums", "sumProducts", "(IIIII)I"⟩ : MethodName) prog_12_method_10_code (10 : Nat) (Option.some Jvm.ClassFile.FieldType.int)) := by decide +kernel
theorem qw_914 : lw_tbl[914]? = some (Jvm.Cond.methodLink "KindGrids$Sums" (125 : Nat) (⟨"KindGrids$Store", "rowFault", "(II)I"⟩ : MethodName)) := by decide +kernel
theorem qw_915 : lw_tbl[915]? = some (Jvm.Cond.methodLink "KindGrids$Sums" (131 : Nat) (⟨"java/lang/Math", "min", "(II)I"⟩ : MethodName)) := by decide +kernel
theorem qw_920 : lw_tbl[920]? = some (Jvm.Cond.methodLink "KindGrids" (188 : Nat) (⟨"KindGrids$Searches", "bestTrail", "(I)I"⟩ : MethodName)) := by decide +kernel
theorem qw_921 : lw_tbl[921]? = some (Jvm.Cond.instanceMethod (⟨"KindGrids$Searches", "bestTrail", "(I)I"⟩ : MethodName)) := by decide +kernel
theorem qw_922 : lw_tbl[922]? = some (Jvm.Cond.selects "KindGrids$Searches" (⟨"KindGrids$Searches", "bestTrail", "(I)I"⟩ : MethodName) (⟨"KindGrids$Searches", "bestTrail", "(I)I"⟩ : MethodName)) := by decide +kernel
theorem qw_923 : lw_tbl[923]? = some (Jvm.Cond.code (⟨"KindGrids$Searches", "bestTrail", "(I)I"⟩ : MethodName) prog_9_method_2_code (7 : Nat) (Option.some Jvm.ClassFile.FieldType.int)) := by decide +kernel
theorem qw_924 : lw_tbl[924]? = some (Jvm.Cond.methodLink "KindGrids$Searches" (29 : Nat) (⟨"KindGrids$Store", "gridFault", "(I)I"⟩ : MethodName)) := by decide +kernel
theorem qw_925 : lw_tbl[925]? = some (Jvm.Cond.methodLink "KindGrids$Searches" (35 : Nat) (⟨"KindGrids$Store", "firstUnreadable", "(II)I"⟩ : MethodName)) := by decide +kernel
theorem qw_926 : lw_tbl[926]? = some (Jvm.Cond.methodLink "KindGrids$Searches" (39 : Nat) (⟨"KindGrids$Searches", "hasEmptyRow", "(I)Z"⟩ : MethodName)) := by decide +kernel
theorem qw_927 : lw_tbl[927]? = some (Jvm.Cond.instanceMethod (⟨"KindGrids$Searches", "hasEmptyRow", "(I)Z"⟩ : MethodName)) := by decide +kernel
theorem qw_928 : lw_tbl[928]? = some (Jvm.Cond.selects "KindGrids$Searches" (⟨"KindGrids$Searches", "hasEmptyRow", "(I)Z"⟩ : MethodName) (⟨"KindGrids$Searches", "hasEmptyRow", "(I)Z"⟩ : MethodName)) := by decide +kernel
theorem qw_929 : lw_tbl[929]? = some (Jvm.Cond.code (⟨"KindGrids$Searches", "hasEmptyRow", "(I)Z"⟩ : MethodName) prog_9_method_3_code (4 : Nat) (Option.some Jvm.ClassFile.FieldType.boolean)) := by decide +kernel
theorem qw_930 : lw_tbl[930]? = some (Jvm.Cond.methodLink "KindGrids$Searches" (47 : Nat) (⟨"KindGrids$Store", "rowAt", "(II)LKindGrids$Row;"⟩ : MethodName)) := by decide +kernel
theorem qw_931 : lw_tbl[931]? = some (Jvm.Cond.methodLink "KindGrids$Searches" (51 : Nat) (⟨"KindGrids$Searches", "extendPaths", "(LKindGrids$Row;ZI)V"⟩ : MethodName)) := by decide +kernel
theorem qw_932 : lw_tbl[932]? = some (Jvm.Cond.instanceMethod (⟨"KindGrids$Searches", "extendPaths", "(LKindGrids$Row;ZI)V"⟩ : MethodName)) := by decide +kernel
theorem qw_933 : lw_tbl[933]? = some (Jvm.Cond.selects "KindGrids$Searches" (⟨"KindGrids$Searches", "extendPaths", "(LKindGrids$Row;ZI)V"⟩ : MethodName) (⟨"KindGrids$Searches", "extendPaths", "(LKindGrids$Row;ZI)V"⟩ : MethodName)) := by decide +kernel
theorem qw_934 : lw_tbl[934]? = some (Jvm.Cond.code (⟨"KindGrids$Searches", "extendPaths", "(LKindGrids$Row;ZI)V"⟩ : MethodName) prog_9_method_4_code (7 : Nat) (Option.none : Option Jvm.ClassFile.FieldType)) := by decide +kernel
theorem qw_935 : lw_tbl[935]? = some (Jvm.Cond.methodLink "KindGrids$Searches" (65 : Nat) (⟨"java/lang/System", "arraycopy", "(Ljava/lang/Object;ILjava/lang/Object;II)V"⟩ : MethodName)) := by decide +kernel
theorem qw_936 : lw_tbl[936]? = some (Jvm.Cond.methodLink "KindGrids$Searches" (71 : Nat) (⟨"KindGrids$Searches", "bestNear", "(II)J"⟩ : MethodName)) := by decide +kernel
theorem qw_937 : lw_tbl[937]? = some (Jvm.Cond.instanceMethod (⟨"KindGrids$Searches", "bestNear", "(II)J"⟩ : MethodName)) := by decide +kernel
theorem qw_938 : lw_tbl[938]? = some (Jvm.Cond.selects "KindGrids$Searches" (⟨"KindGrids$Searches", "bestNear", "(II)J"⟩ : MethodName) (⟨"KindGrids$Searches", "bestNear", "(II)J"⟩ : MethodName)) := by decide +kernel
theorem qw_939 : lw_tbl[939]? = some (Jvm.Cond.code (⟨"KindGrids$Searches", "bestNear", "(II)J"⟩ : MethodName) prog_9_method_5_code (6 : Nat) (Option.some Jvm.ClassFile.FieldType.long)) := by decide +kernel
theorem qw_940 : lw_tbl[940]? = some (Jvm.Cond.constantLong "KindGrids$Searches" (75 : Nat) (-1152921504606846976 : Int64)) := by decide +kernel
theorem qw_941 : lw_tbl[941]? = some (Jvm.Cond.methodLink "KindGrids$Searches" (80 : Nat) (⟨"java/lang/Math", "max", "(II)I"⟩ : MethodName)) := by decide +kernel
theorem qw_942 : lw_tbl[942]? = some (Jvm.Cond.methodLink "KindGrids$Searches" (85 : Nat) (⟨"java/lang/Math", "max", "(JJ)J"⟩ : MethodName)) := by decide +kernel
theorem qw_943 : lw_tbl[943]? = some (Jvm.Cond.methodLink "KindGrids$Searches" (61 : Nat) (⟨"KindGrids$Searches", "reportTrail", "(I)V"⟩ : MethodName)) := by decide +kernel
theorem qw_944 : lw_tbl[944]? = some (Jvm.Cond.instanceMethod (⟨"KindGrids$Searches", "reportTrail", "(I)V"⟩ : MethodName)) := by decide +kernel
theorem qw_945 : lw_tbl[945]? = some (Jvm.Cond.selects "KindGrids$Searches" (⟨"KindGrids$Searches", "reportTrail", "(I)V"⟩ : MethodName) (⟨"KindGrids$Searches", "reportTrail", "(I)V"⟩ : MethodName)) := by decide +kernel
theorem qw_946 : lw_tbl[946]? = some (Jvm.Cond.code (⟨"KindGrids$Searches", "reportTrail", "(I)V"⟩ : MethodName) prog_9_method_6_code (3 : Nat) (Option.none : Option Jvm.ClassFile.FieldType)) := by decide +kernel
theorem qw_951 : lw_tbl[951]? = some (Jvm.Cond.methodLink "KindGrids" (191 : Nat) (⟨"KindGrids$Regions", "regionOf", "(III)I"⟩ : MethodName)) := by decide +kernel
theorem qw_952 : lw_tbl[952]? = some (Jvm.Cond.instanceMethod (⟨"KindGrids$Regions", "regionOf", "(III)I"⟩ : MethodName)) := by decide +kernel
theorem qw_953 : lw_tbl[953]? = some (Jvm.Cond.selects "KindGrids$Regions" (⟨"KindGrids$Regions", "regionOf", "(III)I"⟩ : MethodName) (⟨"KindGrids$Regions", "regionOf", "(III)I"⟩ : MethodName)) := by decide +kernel
theorem qw_954 : lw_tbl[954]? = some (Jvm.Cond.code (⟨"KindGrids$Regions", "regionOf", "(III)I"⟩ : MethodName) prog_6_method_2_code (7 : Nat) (Option.some Jvm.ClassFile.FieldType.int)) := by decide +kernel
theorem qw_955 : lw_tbl[955]? = some (Jvm.Cond.methodLink "KindGrids$Regions" (35 : Nat) (⟨"KindGrids$Store", "rowAt", "(II)LKindGrids$Row;"⟩ : MethodName)) := by decide +kernel
theorem qw_956 : lw_tbl[956]? = some (Jvm.Cond.methodLink "KindGrids$Regions" (41 : Nat) (⟨"KindGrids$Store", "rowFault", "(II)I"⟩ : MethodName)) := by decide +kernel
theorem qw_957 : lw_tbl[957]? = some (Jvm.Cond.methodLink "KindGrids$Regions" (45 : Nat) (⟨"KindGrids$Row", "hasCell", "(I)Z"⟩ : MethodName)) := by decide +kernel
theorem qw_958 : lw_tbl[958]? = some (Jvm.Cond.methodLink "KindGrids$Regions" (49 : Nat) (⟨"java/util/Arrays", "fill", "([II)V"⟩ : MethodName)) := by decide +kernel
theorem qw_959 : lw_tbl[959]? = some (Jvm.Cond.methodLink "KindGrids$Regions" (55 : Nat) (⟨"KindGrids$Regions", "spread", "(III)V"⟩ : MethodName)) := by decide +kernel
theorem qw_960 : lw_tbl[960]? = some (Jvm.Cond.instanceMethod (⟨"KindGrids$Regions", "spread", "(III)V"⟩ : MethodName)) := by decide +kernel
theorem qw_961 : lw_tbl[961]? = some (Jvm.Cond.selects "KindGrids$Regions" (⟨"KindGrids$Regions", "spread", "(III)V"⟩ : MethodName) (⟨"KindGrids$Regions", "spread", "(III)V"⟩ : MethodName)) := by decide +kernel
theorem qw_962 : lw_tbl[962]? = some (Jvm.Cond.code (⟨"KindGrids$Regions", "spread", "(III)V"⟩ : MethodName) prog_6_method_3_code (7 : Nat) (Option.none : Option Jvm.ClassFile.FieldType)) := by decide +kernel
theorem qw_963 : lw_tbl[963]? = some (Jvm.Cond.methodLink "KindGrids$Regions" (74 : Nat) (⟨"KindGrids$Regions", "reach", "(II)V"⟩ : MethodName)) := by decide +kernel
theorem qw_964 : lw_tbl[964]? = some (Jvm.Cond.instanceMethod (⟨"KindGrids$Regions", "reach", "(II)V"⟩ : MethodName)) := by decide +kernel
theorem qw_965 : lw_tbl[965]? = some (Jvm.Cond.selects "KindGrids$Regions" (⟨"KindGrids$Regions", "reach", "(II)V"⟩ : MethodName) (⟨"KindGrids$Regions", "reach", "(II)V"⟩ : MethodName)) := by decide +kernel
theorem qw_966 : lw_tbl[966]? = some (Jvm.Cond.code (⟨"KindGrids$Regions", "reach", "(II)V"⟩ : MethodName) prog_6_method_4_code (3 : Nat) (Option.none : Option Jvm.ClassFile.FieldType)) := by decide +kernel
theorem qw_967 : lw_tbl[967]? = some (Jvm.Cond.methodLink "KindGrids$Regions" (78 : Nat) (⟨"KindGrids$Regions", "tryStep", "(IIII)V"⟩ : MethodName)) := by decide +kernel
theorem qw_968 : lw_tbl[968]? = some (Jvm.Cond.instanceMethod (⟨"KindGrids$Regions", "tryStep", "(IIII)V"⟩ : MethodName)) := by decide +kernel
theorem qw_969 : lw_tbl[969]? = some (Jvm.Cond.selects "KindGrids$Regions" (⟨"KindGrids$Regions", "tryStep", "(IIII)V"⟩ : MethodName) (⟨"KindGrids$Regions", "tryStep", "(IIII)V"⟩ : MethodName)) := by decide +kernel
theorem qw_970 : lw_tbl[970]? = some (Jvm.Cond.code (⟨"KindGrids$Regions", "tryStep", "(IIII)V"⟩ : MethodName) prog_6_method_5_code (7 : Nat) (Option.none : Option Jvm.ClassFile.FieldType)) := by decide +kernel
theorem qw_971 : lw_tbl[971]? = some (Jvm.Cond.methodLink "KindGrids$Regions" (82 : Nat) (⟨"KindGrids$Row", "matches", "(ILKindGrids$Row;I)Z"⟩ : MethodName)) := by decide +kernel
theorem qw_972 : lw_tbl[972]? = some (Jvm.Cond.methodLink "KindGrids$Regions" (63 : Nat) (⟨"java/lang/Math", "min", "(II)I"⟩ : MethodName)) := by decide +kernel
theorem qw_977 : lw_tbl[977]? = some (Jvm.Cond.methodLink "KindGrids" (194 : Nat) (⟨"KindGrids$Regions", "countRegions", "(I)I"⟩ : MethodName)) := by decide +kernel
theorem qw_978 : lw_tbl[978]? = some (Jvm.Cond.instanceMethod (⟨"KindGrids$Regions", "countRegions", "(I)I"⟩ : MethodName)) := by decide +kernel
theorem qw_979 : lw_tbl[979]? = some (Jvm.Cond.selects "KindGrids$Regions" (⟨"KindGrids$Regions", "countRegions", "(I)I"⟩ : MethodName) (⟨"KindGrids$Regions", "countRegions", "(I)I"⟩ : MethodName)) := by decide +kernel
theorem qw_980 : lw_tbl[980]? = some (Jvm.Cond.code (⟨"KindGrids$Regions", "countRegions", "(I)I"⟩ : MethodName) prog_6_method_6_code (8 : Nat) (Option.some Jvm.ClassFile.FieldType.int)) := by decide +kernel
theorem qw_981 : lw_tbl[981]? = some (Jvm.Cond.methodLink "KindGrids$Regions" (86 : Nat) (⟨"KindGrids$Store", "gridFault", "(I)I"⟩ : MethodName)) := by decide +kernel
theorem qw_982 : lw_tbl[982]? = some (Jvm.Cond.methodLink "KindGrids$Regions" (93 : Nat) (⟨"KindGrids$Store", "cellsAt", "(II)I"⟩ : MethodName)) := by decide +kernel
theorem qw_983 : lw_tbl[983]? = some (Jvm.Cond.methodLink "KindGrids$Regions" (96 : Nat) (⟨"java/lang/Math", "max", "(II)I"⟩ : MethodName)) := by decide +kernel
theorem qw_988 : lw_tbl[988]? = some (Jvm.Cond.methodLink "KindGrids" (197 : Nat) (⟨"KindGrids$Regions", "paintRegion", "(IIIIJ)I"⟩ : MethodName)) := by decide +kernel
theorem qw_989 : lw_tbl[989]? = some (Jvm.Cond.instanceMethod (⟨"KindGrids$Regions", "paintRegion", "(IIIIJ)I"⟩ : MethodName)) := by decide +kernel
theorem qw_990 : lw_tbl[990]? = some (Jvm.Cond.selects "KindGrids$Regions" (⟨"KindGrids$Regions", "paintRegion", "(IIIIJ)I"⟩ : MethodName) (⟨"KindGrids$Regions", "paintRegion", "(IIIIJ)I"⟩ : MethodName)) := by decide +kernel
theorem qw_991 : lw_tbl[991]? = some (Jvm.Cond.code (⟨"KindGrids$Regions", "paintRegion", "(IIIIJ)I"⟩ : MethodName) prog_6_method_7_code (11 : Nat) (Option.some Jvm.ClassFile.FieldType.int)) := by decide +kernel
theorem qw_992 : lw_tbl[992]? = some (Jvm.Cond.methodLinkNest "KindGrids$Regions" (99 : Nat) (⟨"KindGrids", "isGrid", "(I)Z"⟩ : MethodName) "KindGrids") := by decide +kernel
theorem qw_993 : lw_tbl[993]? = some (Jvm.Cond.methodLinkNest "KindGrids$Regions" (102 : Nat) (⟨"KindGrids", "isSort", "(I)Z"⟩ : MethodName) "KindGrids") := by decide +kernel
theorem qw_994 : lw_tbl[994]? = some (Jvm.Cond.methodLink "KindGrids$Regions" (105 : Nat) (⟨"KindGrids$Row", "become", "(IJ)V"⟩ : MethodName)) := by decide +kernel
theorem qw_995 : lw_tbl[995]? = some (Jvm.Cond.methodLink "KindGrids$Regions" (109 : Nat) (⟨"KindGrids$Row", "accept", "(ILKindGrids$Row;I)Z"⟩ : MethodName)) := by decide +kernel
theorem qw_1000 : lw_tbl[1000]? = some (Jvm.Cond.methodLink "KindGrids" (200 : Nat) (⟨"KindGrids$Searches", "bestBlock", "(I)I"⟩ : MethodName)) := by decide +kernel
theorem qw_1001 : lw_tbl[1001]? = some (Jvm.Cond.instanceMethod (⟨"KindGrids$Searches", "bestBlock", "(I)I"⟩ : MethodName)) := by decide +kernel
theorem qw_1002 : lw_tbl[1002]? = some (Jvm.Cond.selects "KindGrids$Searches" (⟨"KindGrids$Searches", "bestBlock", "(I)I"⟩ : MethodName) (⟨"KindGrids$Searches", "bestBlock", "(I)I"⟩ : MethodName)) := by decide +kernel
theorem qw_1003 : lw_tbl[1003]? = some (Jvm.Cond.code (⟨"KindGrids$Searches", "bestBlock", "(I)I"⟩ : MethodName) prog_9_method_7_code (5 : Nat) (Option.some Jvm.ClassFile.FieldType.int)) := by decide +kernel
theorem qw_1004 : lw_tbl[1004]? = some (Jvm.Cond.methodLink "KindGrids$Searches" (100 : Nat) (⟨"KindGrids$Searches", "tryBlocks", "(III)V"⟩ : MethodName)) := by decide +kernel
theorem qw_1005 : lw_tbl[1005]? = some (Jvm.Cond.instanceMethod (⟨"KindGrids$Searches", "tryBlocks", "(III)V"⟩ : MethodName)) := by decide +kernel
theorem qw_1006 : lw_tbl[1006]? = some (Jvm.Cond.selects "KindGrids$Searches" (⟨"KindGrids$Searches", "tryBlocks", "(III)V"⟩ : MethodName) (⟨"KindGrids$Searches", "tryBlocks", "(III)V"⟩ : MethodName)) := by decide +kernel
theorem qw_1007 : lw_tbl[1007]? = some (Jvm.Cond.code (⟨"KindGrids$Searches", "tryBlocks", "(III)V"⟩ : MethodName) prog_9_method_8_code (10 : Nat) (Option.none : Option Jvm.ClassFile.FieldType)) := by decide +kernel
theorem qw_1008 : lw_tbl[1008]? = some (Jvm.Cond.methodLink "KindGrids$Searches" (107 : Nat) (⟨"java/util/Arrays", "fill", "([JJ)V"⟩ : MethodName)) := by decide +kernel
theorem qw_1009 : lw_tbl[1009]? = some (Jvm.Cond.methodLinkNest "KindGrids$Searches" (116 : Nat) (⟨"KindGrids", "readsAs", "(II)Z"⟩ : MethodName) "KindGrids") := by decide +kernel
theorem qw_1010 : lw_tbl[1010]? = some (Jvm.Cond.methodLink "KindGrids$Searches" (120 : Nat) (⟨"java/lang/Math", "min", "(II)I"⟩ : MethodName)) := by decide +kernel
theorem qw_1011 : lw_tbl[1011]? = some (Jvm.Cond.constant "KindGrids$Searches" (123 : Nat) (1000000 : Int32)) := by decide +kernel
theorem qw_1016 : lw_tbl[1016]? = some (Jvm.Cond.methodLink "KindGrids" (203 : Nat) (⟨"KindGrids$Searches", "findGrid", "(III)I"⟩ : MethodName)) := by decide +kernel
theorem qw_1017 : lw_tbl[1017]? = some (Jvm.Cond.instanceMethod (⟨"KindGrids$Searches", "findGrid", "(III)I"⟩ : MethodName)) := by decide +kernel
theorem qw_1018 : lw_tbl[1018]? = some (Jvm.Cond.selects "KindGrids$Searches" (⟨"KindGrids$Searches", "findGrid", "(III)I"⟩ : MethodName) (⟨"KindGrids$Searches", "findGrid", "(III)I"⟩ : MethodName)) := by decide +kernel
theorem qw_1019 : lw_tbl[1019]? = some (Jvm.Cond.code (⟨"KindGrids$Searches", "findGrid", "(III)I"⟩ : MethodName) prog_9_method_9_code (8 : Nat) (Option.some Jvm.ClassFile.FieldType.int)) := by decide +kernel
theorem qw_1020 : lw_tbl[1020]? = some (Jvm.Cond.methodLinkNest "KindGrids$Searches" (124 : Nat) (⟨"KindGrids", "isGrid", "(I)Z"⟩ : MethodName) "KindGrids") := by decide +kernel
theorem qw_1021 : lw_tbl[1021]? = some (Jvm.Cond.methodLink "KindGrids$Searches" (127 : Nat) (⟨"KindGrids$Searches", "occursAt", "(IIII)Z"⟩ : MethodName)) := by decide +kernel
theorem qw_1022 : lw_tbl[1022]? = some (Jvm.Cond.instanceMethod (⟨"KindGrids$Searches", "occursAt", "(IIII)Z"⟩ : MethodName)) := by decide +kernel
theorem qw_1023 : lw_tbl[1023]? = some (Jvm.Cond.selects "KindGrids$Searches" (⟨"KindGrids$Searches", "occursAt", "(IIII)Z"⟩ : MethodName) (⟨"KindGrids$Searches", "occursAt", "(IIII)Z"⟩ : MethodName)) := by decide +kernel
theorem qw_1024 : lw_tbl[1024]? = some (Jvm.Cond.code (⟨"KindGrids$Searches", "occursAt", "(IIII)Z"⟩ : MethodName) prog_9_method_10_code (7 : Nat) (Option.some Jvm.ClassFile.FieldType.boolean)) := by decide +kernel
theorem qw_1025 : lw_tbl[1025]? = some (Jvm.Cond.methodLink "KindGrids$Searches" (131 : Nat) (⟨"KindGrids$Searches", "rowOccurs", "(LKindGrids$Row;LKindGrids$Row;I)Z"⟩ : MethodName)) := by decide +kernel
theorem qw_1026 : lw_tbl[1026]? = some (Jvm.Cond.static (⟨"KindGrids$Searches", "rowOccurs", "(LKindGrids$Row;LKindGrids$Row;I)Z"⟩ : MethodName)) := by decide +kernel
theorem qw_1027 : lw_tbl[1027]? = some (Jvm.Cond.code (⟨"KindGrids$Searches", "rowOccurs", "(LKindGrids$Row;LKindGrids$Row;I)Z"⟩ : MethodName) prog_9_method_11_code (4 : Nat) (Option.some Jvm.ClassFile.FieldType.boolean)) := by decide +kernel
theorem qw_1028 : lw_tbl[1028]? = some (Jvm.Cond.methodLink "KindGrids$Searches" (135 : Nat) (⟨"KindGrids$Row", "hasCell", "(I)Z"⟩ : MethodName)) := by decide +kernel
theorem qw_1029 : lw_tbl[1029]? = some (Jvm.Cond.methodLink "KindGrids$Searches" (141 : Nat) (⟨"KindGrids$Row", "matches", "(ILKindGrids$Row;I)Z"⟩ : MethodName)) := by decide +kernel
theorem qw_1034 : lw_tbl[1034]? = some (Jvm.Cond.methodLink "KindGrids" (206 : Nat) (⟨"KindGrids$PlanText", "append", "(I)I"⟩ : MethodName)) := by decide +kernel
theorem qw_1035 : lw_tbl[1035]? = some (Jvm.Cond.instanceMethod (⟨"KindGrids$PlanText", "append", "(I)I"⟩ : MethodName)) := by decide +kernel
theorem qw_1036 : lw_tbl[1036]? = some (Jvm.Cond.selects "KindGrids$PlanText" (⟨"KindGrids$PlanText", "append", "(I)I"⟩ : MethodName) (⟨"KindGrids$PlanText", "append", "(I)I"⟩ : MethodName)) := by decide +kernel
theorem qw_1037 : lw_tbl[1037]? = some (Jvm.Cond.code (⟨"KindGrids$PlanText", "append", "(I)I"⟩ : MethodName) prog_5_method_2_code (2 : Nat) (Option.some Jvm.ClassFile.FieldType.int)) := by decide +kernel
theorem qw_1042 : lw_tbl[1042]? = some (Jvm.Cond.methodLink "KindGrids" (209 : Nat) (⟨"KindGrids$PlanText", "empty", "()I"⟩ : MethodName)) := by decide +kernel
theorem qw_1043 : lw_tbl[1043]? = some (Jvm.Cond.instanceMethod (⟨"KindGrids$PlanText", "empty", "()I"⟩ : MethodName)) := by decide +kernel
theorem qw_1044 : lw_tbl[1044]? = some (Jvm.Cond.selects "KindGrids$PlanText" (⟨"KindGrids$PlanText", "empty", "()I"⟩ : MethodName) (⟨"KindGrids$PlanText", "empty", "()I"⟩ : MethodName)) := by decide +kernel
theorem qw_1045 : lw_tbl[1045]? = some (Jvm.Cond.code (⟨"KindGrids$PlanText", "empty", "()I"⟩ : MethodName) prog_5_method_3_code (2 : Nat) (Option.some Jvm.ClassFile.FieldType.int)) := by decide +kernel
theorem qw_1050 : lw_tbl[1050]? = some (Jvm.Cond.methodLink "KindGrids" (213 : Nat) (⟨"KindGrids$PlanText", "parse", "()I"⟩ : MethodName)) := by decide +kernel
theorem qw_1051 : lw_tbl[1051]? = some (Jvm.Cond.instanceMethod (⟨"KindGrids$PlanText", "parse", "()I"⟩ : MethodName)) := by decide +kernel
theorem qw_1052 : lw_tbl[1052]? = some (Jvm.Cond.selects "KindGrids$PlanText" (⟨"KindGrids$PlanText", "parse", "()I"⟩ : MethodName) (⟨"KindGrids$PlanText", "parse", "()I"⟩ : MethodName)) := by decide +kernel
theorem qw_1053 : lw_tbl[1053]? = some (Jvm.Cond.code (⟨"KindGrids$PlanText", "parse", "()I"⟩ : MethodName) prog_5_method_6_code (6 : Nat) (Option.some Jvm.ClassFile.FieldType.int)) := by decide +kernel
theorem qw_1054 : lw_tbl[1054]? = some (Jvm.Cond.methodLink "KindGrids$PlanText" (30 : Nat) (⟨"KindGrids$PlanText", "endOfSpaces", "(I)I"⟩ : MethodName)) := by decide +kernel
theorem qw_1055 : lw_tbl[1055]? = some (Jvm.Cond.instanceMethod (⟨"KindGrids$PlanText", "endOfSpaces", "(I)I"⟩ : MethodName)) := by decide +kernel
theorem qw_1056 : lw_tbl[1056]? = some (Jvm.Cond.selects "KindGrids$PlanText" (⟨"KindGrids$PlanText", "endOfSpaces", "(I)I"⟩ : MethodName) (⟨"KindGrids$PlanText", "endOfSpaces", "(I)I"⟩ : MethodName)) := by decide +kernel
theorem qw_1057 : lw_tbl[1057]? = some (Jvm.Cond.code (⟨"KindGrids$PlanText", "endOfSpaces", "(I)I"⟩ : MethodName) prog_5_method_10_code (2 : Nat) (Option.some Jvm.ClassFile.FieldType.int)) := by decide +kernel
theorem qw_1058 : lw_tbl[1058]? = some (Jvm.Cond.methodLink "KindGrids$PlanText" (68 : Nat) (⟨"KindGrids$PlanText", "endOfRun", "(ICC)I"⟩ : MethodName)) := by decide +kernel
theorem qw_1059 : lw_tbl[1059]? = some (Jvm.Cond.instanceMethod (⟨"KindGrids$PlanText", "endOfRun", "(ICC)I"⟩ : MethodName)) := by decide +kernel
theorem qw_1060 : lw_tbl[1060]? = some (Jvm.Cond.selects "KindGrids$PlanText" (⟨"KindGrids$PlanText", "endOfRun", "(ICC)I"⟩ : MethodName) (⟨"KindGrids$PlanText", "endOfRun", "(ICC)I"⟩ : MethodName)) := by decide +kernel
theorem qw_1061 : lw_tbl[1061]? = some (Jvm.Cond.code (⟨"KindGrids$PlanText", "endOfRun", "(ICC)I"⟩ : MethodName) prog_5_method_13_code (5 : Nat) (Option.some Jvm.ClassFile.FieldType.int)) := by decide +kernel
theorem qw_1062 : lw_tbl[1062]? = some (Jvm.Cond.methodLink "KindGrids$PlanText" (34 : Nat) (⟨"KindGrids$PlanText", "wordAt", "(I)I"⟩ : MethodName)) := by decide +kernel
theorem qw_1063 : lw_tbl[1063]? = some (Jvm.Cond.instanceMethod (⟨"KindGrids$PlanText", "wordAt", "(I)I"⟩ : MethodName)) := by decide +kernel
theorem qw_1064 : lw_tbl[1064]? = some (Jvm.Cond.selects "KindGrids$PlanText" (⟨"KindGrids$PlanText", "wordAt", "(I)I"⟩ : MethodName) (⟨"KindGrids$PlanText", "wordAt", "(I)I"⟩ : MethodName)) := by decide +kernel
theorem qw_1065 : lw_tbl[1065]? = some (Jvm.Cond.code (⟨"KindGrids$PlanText", "wordAt", "(I)I"⟩ : MethodName) prog_5_method_7_code (4 : Nat) (Option.some Jvm.ClassFile.FieldType.int)) := by decide +kernel
theorem qw_1066 : lw_tbl[1066]? = some (Jvm.Cond.methodLink "KindGrids$PlanText" (37 : Nat) (⟨"KindGrids$PlanText", "endOfLetters", "(I)I"⟩ : MethodName)) := by decide +kernel
theorem qw_1067 : lw_tbl[1067]? = some (Jvm.Cond.instanceMethod (⟨"KindGrids$PlanText", "endOfLetters", "(I)I"⟩ : MethodName)) := by decide +kernel
theorem qw_1068 : lw_tbl[1068]? = some (Jvm.Cond.selects "KindGrids$PlanText" (⟨"KindGrids$PlanText", "endOfLetters", "(I)I"⟩ : MethodName) (⟨"KindGrids$PlanText", "endOfLetters", "(I)I"⟩ : MethodName)) := by decide +kernel
theorem qw_1069 : lw_tbl[1069]? = some (Jvm.Cond.code (⟨"KindGrids$PlanText", "endOfLetters", "(I)I"⟩ : MethodName) prog_5_method_11_code (2 : Nat) (Option.some Jvm.ClassFile.FieldType.int)) := by decide +kernel
theorem qw_1082 : lw_tbl[1082]? = some (Jvm.Cond.methodLink "KindGrids$PlanText" (60 : Nat) (⟨"KindGrids$PlanText", "standsAt", "(Ljava/lang/String;I)Z"⟩ : MethodName)) := by decide +kernel
theorem qw_1083 : lw_tbl[1083]? = some (Jvm.Cond.instanceMethod (⟨"KindGrids$PlanText", "standsAt", "(Ljava/lang/String;I)Z"⟩ : MethodName)) := by decide +kernel
theorem qw_1084 : lw_tbl[1084]? = some (Jvm.Cond.selects "KindGrids$PlanText" (⟨"KindGrids$PlanText", "standsAt", "(Ljava/lang/String;I)Z"⟩ : MethodName) (⟨"KindGrids$PlanText", "standsAt", "(Ljava/lang/String;I)Z"⟩ : MethodName)) := by decide +kernel
theorem qw_1085 : lw_tbl[1085]? = some (Jvm.Cond.code (⟨"KindGrids$PlanText", "standsAt", "(Ljava/lang/String;I)Z"⟩ : MethodName) prog_5_method_8_code (4 : Nat) (Option.some Jvm.ClassFile.FieldType.boolean)) := by decide +kernel
theorem qw_1124 : lw_tbl[1124]? = some (Jvm.Cond.methodLink "KindGrids$PlanText" (44 : Nat) (⟨"KindGrids$PlanText", "endOfDigits", "(I)I"⟩ : MethodName)) := by decide +kernel
theorem qw_1125 : lw_tbl[1125]? = some (Jvm.Cond.instanceMethod (⟨"KindGrids$PlanText", "endOfDigits", "(I)I"⟩ : MethodName)) := by decide +kernel
theorem qw_1126 : lw_tbl[1126]? = some (Jvm.Cond.selects "KindGrids$PlanText" (⟨"KindGrids$PlanText", "endOfDigits", "(I)I"⟩ : MethodName) (⟨"KindGrids$PlanText", "endOfDigits", "(I)I"⟩ : MethodName)) := by decide +kernel
theorem qw_1127 : lw_tbl[1127]? = some (Jvm.Cond.code (⟨"KindGrids$PlanText", "endOfDigits", "(I)I"⟩ : MethodName) prog_5_method_12_code (2 : Nat) (Option.some Jvm.ClassFile.FieldType.int)) := by decide +kernel
theorem qw_1128 : lw_tbl[1128]? = some (Jvm.Cond.methodLink "KindGrids$PlanText" (47 : Nat) (⟨"KindGrids$PlanText", "numberIn", "(II)I"⟩ : MethodName)) := by decide +kernel
theorem qw_1129 : lw_tbl[1129]? = some (Jvm.Cond.instanceMethod (⟨"KindGrids$PlanText", "numberIn", "(II)I"⟩ : MethodName)) := by decide +kernel
theorem qw_1130 : lw_tbl[1130]? = some (Jvm.Cond.selects "KindGrids$PlanText" (⟨"KindGrids$PlanText", "numberIn", "(II)I"⟩ : MethodName) (⟨"KindGrids$PlanText", "numberIn", "(II)I"⟩ : MethodName)) := by decide +kernel
theorem qw_1131 : lw_tbl[1131]? = some (Jvm.Cond.code (⟨"KindGrids$PlanText", "numberIn", "(II)I"⟩ : MethodName) prog_5_method_9_code (5 : Nat) (Option.some Jvm.ClassFile.FieldType.int)) := by decide +kernel
theorem qw_1132 : lw_tbl[1132]? = some (Jvm.Cond.methodLink "KindGrids" (216 : Nat) (⟨"KindGrids$Store", "copyFrom", "(LKindGrids$Store;)V"⟩ : MethodName)) := by decide +kernel
theorem qw_1133 : lw_tbl[1133]? = some (Jvm.Cond.instanceMethod (⟨"KindGrids$Store", "copyFrom", "(LKindGrids$Store;)V"⟩ : MethodName)) := by decide +kernel
theorem qw_1134 : lw_tbl[1134]? = some (Jvm.Cond.selects "KindGrids$Store" (⟨"KindGrids$Store", "copyFrom", "(LKindGrids$Store;)V"⟩ : MethodName) (⟨"KindGrids$Store", "copyFrom", "(LKindGrids$Store;)V"⟩ : MethodName)) := by decide +kernel
theorem qw_1135 : lw_tbl[1135]? = some (Jvm.Cond.code (⟨"KindGrids$Store", "copyFrom", "(LKindGrids$Store;)V"⟩ : MethodName) prog_11_method_2_code (3 : Nat) (Option.none : Option Jvm.ClassFile.FieldType)) := by decide +kernel
theorem qw_1136 : lw_tbl[1136]? = some (Jvm.Cond.methodLink "KindGrids$Store" (33 : Nat) (⟨"java/lang/System", "arraycopy", "(Ljava/lang/Object;ILjava/lang/Object;II)V"⟩ : MethodName)) := by decide +kernel
theorem qw_1137 : lw_tbl[1137]? = some (Jvm.Cond.methodLink "KindGrids$Store" (39 : Nat) (⟨"KindGrids$Row", "copyFrom", "(LKindGrids$Row;)V"⟩ : MethodName)) := by decide +kernel
theorem qw_1138 : lw_tbl[1138]? = some (Jvm.Cond.methodLink "KindGrids" (220 : Nat) (⟨"KindGrids", "carryOut", "(I)I"⟩ : MethodName)) := by decide +kernel
theorem qw_1140 : lw_tbl[1140]? = some (Jvm.Cond.instanceMethod (⟨"KindGrids", "carryOut", "(I)I"⟩ : MethodName)) := by decide +kernel
theorem qw_1141 : lw_tbl[1141]? = some (Jvm.Cond.code (⟨"KindGrids", "carryOut", "(I)I"⟩ : MethodName) prog_1_method_58_code (6 : Nat) (Option.some Jvm.ClassFile.FieldType.int)) := by decide +kernel
theorem qw_1142 : lw_tbl[1142]? = some (Jvm.Cond.methodLink "KindGrids" (282 : Nat) (⟨"KindGrids$PlanText", "numberOf", "(II)I"⟩ : MethodName)) := by decide +kernel
theorem qw_1143 : lw_tbl[1143]? = some (Jvm.Cond.instanceMethod (⟨"KindGrids$PlanText", "numberOf", "(II)I"⟩ : MethodName)) := by decide +kernel
theorem qw_1144 : lw_tbl[1144]? = some (Jvm.Cond.selects "KindGrids$PlanText" (⟨"KindGrids$PlanText", "numberOf", "(II)I"⟩ : MethodName) (⟨"KindGrids$PlanText", "numberOf", "(II)I"⟩ : MethodName)) := by decide +kernel
theorem qw_1145 : lw_tbl[1145]? = some (Jvm.Cond.code (⟨"KindGrids$PlanText", "numberOf", "(II)I"⟩ : MethodName) prog_5_method_5_code (3 : Nat) (Option.some Jvm.ClassFile.FieldType.int)) := by decide +kernel
theorem qw_1148 : lw_tbl[1148]? = some (Jvm.Cond.methodLink "KindGrids" (290 : Nat) (⟨"KindGrids$PlanText", "wordOf", "(I)LKindGrids$Step;"⟩ : MethodName)) := by decide +kernel
theorem qw_1149 : lw_tbl[1149]? = some (Jvm.Cond.instanceMethod (⟨"KindGrids$PlanText", "wordOf", "(I)LKindGrids$Step;"⟩ : MethodName)) := by decide +kernel
theorem qw_1150 : lw_tbl[1150]? = some (Jvm.Cond.selects "KindGrids$PlanText" (⟨"KindGrids$PlanText", "wordOf", "(I)LKindGrids$Step;"⟩ : MethodName) (⟨"KindGrids$PlanText", "wordOf", "(I)LKindGrids$Step;"⟩ : MethodName)) := by decide +kernel
theorem qw_1151 : lw_tbl[1151]? = some (Jvm.Cond.code (⟨"KindGrids$PlanText", "wordOf", "(I)LKindGrids$Step;"⟩ : MethodName) prog_5_method_4_code (2 : Nat) (Option.some (Jvm.ClassFile.FieldType.object "KindGrids$Step"))) := by decide +kernel
theorem qw_1162 : lw_tbl[1162]? = some (Jvm.Cond.methodLink "KindGrids" (227 : Nat) (⟨"KindGrids", "isKind", "(I)Z"⟩ : MethodName)) := by decide +kernel
theorem qw_1163 : lw_tbl[1163]? = some (Jvm.Cond.methodLink "KindGrids" (231 : Nat) (⟨"KindGrids", "leastKind", "(I)I"⟩ : MethodName)) := by decide +kernel
theorem qw_1168 : lw_tbl[1168]? = some (Jvm.Cond.methodLink "KindGrids" (234 : Nat) (⟨"KindGrids", "isAct", "(I)Z"⟩ : MethodName)) := by decide +kernel
theorem qw_1169 : lw_tbl[1169]? = some (Jvm.Cond.static (⟨"KindGrids", "isAct", "(I)Z"⟩ : MethodName)) := by decide +kernel
theorem qw_1170 : lw_tbl[1170]? = some (Jvm.Cond.code (⟨"KindGrids", "isAct", "(I)Z"⟩ : MethodName) prog_1_method_65_code (1 : Nat) (Option.some Jvm.ClassFile.FieldType.boolean)) := by decide +kernel
theorem qw_1171 : lw_tbl[1171]? = some (Jvm.Cond.methodLink "KindGrids" (237 : Nat) (⟨"KindGrids", "allows", "(II)Z"⟩ : MethodName)) := by decide +kernel
theorem qw_1172 : lw_tbl[1172]? = some (Jvm.Cond.static (⟨"KindGrids", "allows", "(II)Z"⟩ : MethodName)) := by decide +kernel
theorem qw_1173 : lw_tbl[1173]? = some (Jvm.Cond.code (⟨"KindGrids", "allows", "(II)Z"⟩ : MethodName) prog_1_method_69_code (2 : Nat) (Option.some Jvm.ClassFile.FieldType.boolean)) := by decide +kernel
theorem qw_1174 : lw_tbl[1174]? = some (Jvm.Cond.methodLink "KindGrids" (308 : Nat) (⟨"KindGrids", "readsAs", "(II)Z"⟩ : MethodName)) := by decide +kernel
theorem qw_1179 : lw_tbl[1179]? = some (Jvm.Cond.methodLink "KindGrids" (241 : Nat) (⟨"KindGrids$Guesses", "observe", "(II)I"⟩ : MethodName)) := by decide +kernel
theorem qw_1180 : lw_tbl[1180]? = some (Jvm.Cond.instanceMethod (⟨"KindGrids$Guesses", "observe", "(II)I"⟩ : MethodName)) := by decide +kernel
theorem qw_1181 : lw_tbl[1181]? = some (Jvm.Cond.selects "KindGrids$Guesses" (⟨"KindGrids$Guesses", "observe", "(II)I"⟩ : MethodName) (⟨"KindGrids$Guesses", "observe", "(II)I"⟩ : MethodName)) := by decide +kernel
theorem qw_1182 : lw_tbl[1182]? = some (Jvm.Cond.code (⟨"KindGrids$Guesses", "observe", "(II)I"⟩ : MethodName) prog_3_method_2_code (3 : Nat) (Option.some Jvm.ClassFile.FieldType.int)) := by decide +kernel
theorem qw_1183 : lw_tbl[1183]? = some (Jvm.Cond.methodLinkNest "KindGrids$Guesses" (26 : Nat) (⟨"KindGrids", "isAct", "(I)Z"⟩ : MethodName) "KindGrids") := by decide +kernel
theorem qw_1188 : lw_tbl[1188]? = some (Jvm.Cond.methodLink "KindGrids" (244 : Nat) (⟨"KindGrids$Guesses", "removeAll", "()I"⟩ : MethodName)) := by decide +kernel
theorem qw_1189 : lw_tbl[1189]? = some (Jvm.Cond.instanceMethod (⟨"KindGrids$Guesses", "removeAll", "()I"⟩ : MethodName)) := by decide +kernel
theorem qw_1190 : lw_tbl[1190]? = some (Jvm.Cond.selects "KindGrids$Guesses" (⟨"KindGrids$Guesses", "removeAll", "()I"⟩ : MethodName) (⟨"KindGrids$Guesses", "removeAll", "()I"⟩ : MethodName)) := by decide +kernel
theorem qw_1191 : lw_tbl[1191]? = some (Jvm.Cond.code (⟨"KindGrids$Guesses", "removeAll", "()I"⟩ : MethodName) prog_3_method_3_code (2 : Nat) (Option.some Jvm.ClassFile.FieldType.int)) := by decide +kernel
theorem qw_1196 : lw_tbl[1196]? = some (Jvm.Cond.methodLink "KindGrids" (247 : Nat) (⟨"KindGrids$Guesses", "possibleKinds", "()I"⟩ : MethodName)) := by decide +kernel
theorem qw_1197 : lw_tbl[1197]? = some (Jvm.Cond.instanceMethod (⟨"KindGrids$Guesses", "possibleKinds", "()I"⟩ : MethodName)) := by decide +kernel
theorem qw_1198 : lw_tbl[1198]? = some (Jvm.Cond.selects "KindGrids$Guesses" (⟨"KindGrids$Guesses", "possibleKinds", "()I"⟩ : MethodName) (⟨"KindGrids$Guesses", "possibleKinds", "()I"⟩ : MethodName)) := by decide +kernel
theorem qw_1199 : lw_tbl[1199]? = some (Jvm.Cond.code (⟨"KindGrids$Guesses", "possibleKinds", "()I"⟩ : MethodName) prog_3_method_4_code (3 : Nat) (Option.some Jvm.ClassFile.FieldType.int)) := by decide +kernel
theorem qw_1200 : lw_tbl[1200]? = some (Jvm.Cond.methodLink "KindGrids$Guesses" (30 : Nat) (⟨"KindGrids$Guesses", "isPossible", "(I)Z"⟩ : MethodName)) := by decide +kernel
theorem qw_1201 : lw_tbl[1201]? = some (Jvm.Cond.instanceMethod (⟨"KindGrids$Guesses", "isPossible", "(I)Z"⟩ : MethodName)) := by decide +kernel
theorem qw_1202 : lw_tbl[1202]? = some (Jvm.Cond.selects "KindGrids$Guesses" (⟨"KindGrids$Guesses", "isPossible", "(I)Z"⟩ : MethodName) (⟨"KindGrids$Guesses", "isPossible", "(I)Z"⟩ : MethodName)) := by decide +kernel
theorem qw_1203 : lw_tbl[1203]? = some (Jvm.Cond.code (⟨"KindGrids$Guesses", "isPossible", "(I)Z"⟩ : MethodName) prog_3_method_5_code (3 : Nat) (Option.some Jvm.ClassFile.FieldType.boolean)) := by decide +kernel
theorem qw_1204 : lw_tbl[1204]? = some (Jvm.Cond.methodLinkNest "KindGrids$Guesses" (33 : Nat) (⟨"KindGrids", "allows", "(II)Z"⟩ : MethodName) "KindGrids") := by decide +kernel
theorem qw_1209 : lw_tbl[1209]? = some (Jvm.Cond.methodLink "KindGrids" (250 : Nat) (⟨"KindGrids$Guesses", "bestAct", "()I"⟩ : MethodName)) := by decide +kernel
theorem qw_1210 : lw_tbl[1210]? = some (Jvm.Cond.instanceMethod (⟨"KindGrids$Guesses", "bestAct", "()I"⟩ : MethodName)) := by decide +kernel
theorem qw_1211 : lw_tbl[1211]? = some (Jvm.Cond.selects "KindGrids$Guesses" (⟨"KindGrids$Guesses", "bestAct", "()I"⟩ : MethodName) (⟨"KindGrids$Guesses", "bestAct", "()I"⟩ : MethodName)) := by decide +kernel
theorem qw_1212 : lw_tbl[1212]? = some (Jvm.Cond.code (⟨"KindGrids$Guesses", "bestAct", "()I"⟩ : MethodName) prog_3_method_6_code (8 : Nat) (Option.some Jvm.ClassFile.FieldType.int)) := by decide +kernel
theorem qw_1213 : lw_tbl[1213]? = some (Jvm.Cond.methodLink "KindGrids$Guesses" (37 : Nat) (⟨"KindGrids$Guesses", "possibleKinds", "()I"⟩ : MethodName)) := by decide +kernel
theorem qw_1214 : lw_tbl[1214]? = some (Jvm.Cond.methodLink "KindGrids$Guesses" (41 : Nat) (⟨"java/lang/Integer", "bitCount", "(I)I"⟩ : MethodName)) := by decide +kernel
theorem qw_1215 : lw_tbl[1215]? = some (Jvm.Cond.static (⟨"java/lang/Integer", "bitCount", "(I)I"⟩ : MethodName)) := by decide +kernel
theorem qw_1216 : lw_tbl[1216]? = some (Jvm.Cond.code (⟨"java/lang/Integer", "bitCount", "(I)I"⟩ : MethodName) prog_17_method_49_code (1 : Nat) (Option.some Jvm.ClassFile.FieldType.int)) := by decide +kernel
theorem qw_1217 : lw_tbl[1217]? = some (Jvm.Cond.constant "java/lang/Integer" (265 : Nat) (1431655765 : Int32)) := by decide +kernel
theorem qw_1218 : lw_tbl[1218]? = some (Jvm.Cond.constant "java/lang/Integer" (266 : Nat) (858993459 : Int32)) := by decide +kernel
theorem qw_1219 : lw_tbl[1219]? = some (Jvm.Cond.constant "java/lang/Integer" (267 : Nat) (252645135 : Int32)) := by decide +kernel
theorem qw_1220 : lw_tbl[1220]? = some (Jvm.Cond.methodLink "KindGrids$Guesses" (47 : Nat) (⟨"KindGrids$Guesses", "kindsAllowing", "(II)I"⟩ : MethodName)) := by decide +kernel
theorem qw_1221 : lw_tbl[1221]? = some (Jvm.Cond.static (⟨"KindGrids$Guesses", "kindsAllowing", "(II)I"⟩ : MethodName)) := by decide +kernel
theorem qw_1222 : lw_tbl[1222]? = some (Jvm.Cond.code (⟨"KindGrids$Guesses", "kindsAllowing", "(II)I"⟩ : MethodName) prog_3_method_7_code (4 : Nat) (Option.some Jvm.ClassFile.FieldType.int)) := by decide +kernel
theorem qw_1223 : lw_tbl[1223]? = some (Jvm.Cond.methodLink "KindGrids$Guesses" (51 : Nat) (⟨"java/lang/Math", "max", "(II)I"⟩ : MethodName)) := by decide +kernel
theorem qw_1228 : lw_tbl[1228]? = some (Jvm.Cond.methodLink "KindGrids" (253 : Nat) (⟨"KindGrids", "isImage", "(I)Z"⟩ : MethodName)) := by decide +kernel
theorem qw_1229 : lw_tbl[1229]? = some (Jvm.Cond.static (⟨"KindGrids", "isImage", "(I)Z"⟩ : MethodName)) := by decide +kernel
theorem qw_1230 : lw_tbl[1230]? = some (Jvm.Cond.code (⟨"KindGrids", "isImage", "(I)Z"⟩ : MethodName) prog_1_method_66_code (1 : Nat) (Option.some Jvm.ClassFile.FieldType.boolean)) := by decide +kernel
theorem qw_1231 : lw_tbl[1231]? = some (Jvm.Cond.methodLink "KindGrids" (256 : Nat) (⟨"KindGrids$Store", "presentGrids", "()I"⟩ : MethodName)) := by decide +kernel
theorem qw_1232 : lw_tbl[1232]? = some (Jvm.Cond.instanceMethod (⟨"KindGrids$Store", "presentGrids", "()I"⟩ : MethodName)) := by decide +kernel
theorem qw_1233 : lw_tbl[1233]? = some (Jvm.Cond.selects "KindGrids$Store" (⟨"KindGrids$Store", "presentGrids", "()I"⟩ : MethodName) (⟨"KindGrids$Store", "presentGrids", "()I"⟩ : MethodName)) := by decide +kernel
theorem qw_1234 : lw_tbl[1234]? = some (Jvm.Cond.code (⟨"KindGrids$Store", "presentGrids", "()I"⟩ : MethodName) prog_11_method_27_code (3 : Nat) (Option.some Jvm.ClassFile.FieldType.int)) := by decide +kernel
theorem qw_1259 : lw_tbl[1259]? = some (Jvm.Cond.methodLink "KindGrids" (269 : Nat) (⟨"KindGrids", "keptImages", "()I"⟩ : MethodName)) := by decide +kernel
theorem qw_1261 : lw_tbl[1261]? = some (Jvm.Cond.instanceMethod (⟨"KindGrids", "keptImages", "()I"⟩ : MethodName)) := by decide +kernel
theorem qw_1262 : lw_tbl[1262]? = some (Jvm.Cond.code (⟨"KindGrids", "keptImages", "()I"⟩ : MethodName) prog_1_method_57_code (3 : Nat) (Option.some Jvm.ClassFile.FieldType.int)) := by decide +kernel
theorem qw_1263 : lw_tbl[1263]? = some (Jvm.Cond.methodLink "KindGrids" (272 : Nat) (⟨"KindGrids$Store", "amountOf", "(I)I"⟩ : MethodName)) := by decide +kernel
theorem qw_1264 : lw_tbl[1264]? = some (Jvm.Cond.instanceMethod (⟨"KindGrids$Store", "amountOf", "(I)I"⟩ : MethodName)) := by decide +kernel
theorem qw_1265 : lw_tbl[1265]? = some (Jvm.Cond.selects "KindGrids$Store" (⟨"KindGrids$Store", "amountOf", "(I)I"⟩ : MethodName) (⟨"KindGrids$Store", "amountOf", "(I)I"⟩ : MethodName)) := by decide +kernel
theorem qw_1266 : lw_tbl[1266]? = some (Jvm.Cond.code (⟨"KindGrids$Store", "amountOf", "(I)I"⟩ : MethodName) prog_11_method_28_code (5 : Nat) (Option.some Jvm.ClassFile.FieldType.int)) := by decide +kernel
theorem qw_1267 : lw_tbl[1267]? = some (Jvm.Cond.methodLink "KindGrids$Store" (117 : Nat) (⟨"KindGrids$Store", "presentGrids", "()I"⟩ : MethodName)) := by decide +kernel
theorem qw_1268 : lw_tbl[1268]? = some (Jvm.Cond.methodLink "KindGrids$Store" (121 : Nat) (⟨"KindGrids$Store", "amountAt", "(III)I"⟩ : MethodName)) := by decide +kernel
theorem qw_1269 : lw_tbl[1269]? = some (Jvm.Cond.instanceMethod (⟨"KindGrids$Store", "amountAt", "(III)I"⟩ : MethodName)) := by decide +kernel
theorem qw_1270 : lw_tbl[1270]? = some (Jvm.Cond.selects "KindGrids$Store" (⟨"KindGrids$Store", "amountAt", "(III)I"⟩ : MethodName) (⟨"KindGrids$Store", "amountAt", "(III)I"⟩ : MethodName)) := by decide +kernel
theorem qw_1271 : lw_tbl[1271]? = some (Jvm.Cond.code (⟨"KindGrids$Store", "amountAt", "(III)I"⟩ : MethodName) prog_11_method_29_code (6 : Nat) (Option.some Jvm.ClassFile.FieldType.int)) := by decide +kernel
theorem qw_1272 : lw_tbl[1272]? = some (Jvm.Cond.methodLink "KindGrids$Store" (125 : Nat) (⟨"KindGrids$Store", "nullsOf", "(LKindGrids$Row;)I"⟩ : MethodName)) := by decide +kernel
theorem qw_1273 : lw_tbl[1273]? = some (Jvm.Cond.static (⟨"KindGrids$Store", "nullsOf", "(LKindGrids$Row;)I"⟩ : MethodName)) := by decide +kernel
theorem qw_1274 : lw_tbl[1274]? = some (Jvm.Cond.code (⟨"KindGrids$Store", "nullsOf", "(LKindGrids$Row;)I"⟩ : MethodName) prog_11_method_30_code (3 : Nat) (Option.some Jvm.ClassFile.FieldType.int)) := by decide +kernel
theorem qw_1279 : lw_tbl[1279]? = some (Jvm.Cond.methodLink "KindGrids" (275 : Nat) (⟨"KindGrids$Store", "rowsOfKind", "(I)I"⟩ : MethodName)) := by decide +kernel
theorem qw_1280 : lw_tbl[1280]? = some (Jvm.Cond.instanceMethod (⟨"KindGrids$Store", "rowsOfKind", "(I)I"⟩ : MethodName)) := by decide +kernel
theorem qw_1281 : lw_tbl[1281]? = some (Jvm.Cond.selects "KindGrids$Store" (⟨"KindGrids$Store", "rowsOfKind", "(I)I"⟩ : MethodName) (⟨"KindGrids$Store", "rowsOfKind", "(I)I"⟩ : MethodName)) := by decide +kernel
theorem qw_1282 : lw_tbl[1282]? = some (Jvm.Cond.code (⟨"KindGrids$Store", "rowsOfKind", "(I)I"⟩ : MethodName) prog_11_method_31_code (4 : Nat) (Option.some Jvm.ClassFile.FieldType.int)) := by decide +kernel
theorem qw_1287 : lw_tbl[1287]? = some (Jvm.Cond.methodLink "KindGrids" (278 : Nat) (⟨"KindGrids$Store", "checksum", "()J"⟩ : MethodName)) := by decide +kernel
theorem qw_1288 : lw_tbl[1288]? = some (Jvm.Cond.instanceMethod (⟨"KindGrids$Store", "checksum", "()J"⟩ : MethodName)) := by decide +kernel
theorem qw_1289 : lw_tbl[1289]? = some (Jvm.Cond.selects "KindGrids$Store" (⟨"KindGrids$Store", "checksum", "()J"⟩ : MethodName) (⟨"KindGrids$Store", "checksum", "()J"⟩ : MethodName)) := by decide +kernel
theorem qw_1290 : lw_tbl[1290]? = some (Jvm.Cond.code (⟨"KindGrids$Store", "checksum", "()J"⟩ : MethodName) prog_11_method_32_code (6 : Nat) (Option.some Jvm.ClassFile.FieldType.long)) := by decide +kernel
theorem qw_1291 : lw_tbl[1291]? = some (Jvm.Cond.constantLong "KindGrids$Store" (132 : Nat) (17 : Int64)) := by decide +kernel
theorem qw_1292 : lw_tbl[1292]? = some (Jvm.Cond.constantLong "KindGrids$Store" (134 : Nat) (31 : Int64)) := by decide +kernel
theorem qw_1293 : lw_tbl[1293]? = some (Jvm.Cond.methodLink "KindGrids$Store" (136 : Nat) (⟨"KindGrids$Store", "checksumOfRow", "(JLKindGrids$Row;)J"⟩ : MethodName)) := by decide +kernel
theorem qw_1294 : lw_tbl[1294]? = some (Jvm.Cond.instanceMethod (⟨"KindGrids$Store", "checksumOfRow", "(JLKindGrids$Row;)J"⟩ : MethodName)) := by decide +kernel
theorem qw_1295 : lw_tbl[1295]? = some (Jvm.Cond.selects "KindGrids$Store" (⟨"KindGrids$Store", "checksumOfRow", "(JLKindGrids$Row;)J"⟩ : MethodName) (⟨"KindGrids$Store", "checksumOfRow", "(JLKindGrids$Row;)J"⟩ : MethodName)) := by decide +kernel
theorem qw_1296 : lw_tbl[1296]? = some (Jvm.Cond.code (⟨"KindGrids$Store", "checksumOfRow", "(JLKindGrids$Row;)J"⟩ : MethodName) prog_11_method_33_code (8 : Nat) (Option.some Jvm.ClassFile.FieldType.long)) := by decide +kernel
theorem qw_1297 : lw_tbl[1297]? = some (Jvm.Cond.methodLink "KindGrids$Store" (140 : Nat) (⟨"KindGrids$Row", "codeAt", "(I)J"⟩ : MethodName)) := by decide +kernel
theorem qw_1299 : lw_tbl[1299]? = some (Jvm.Cond.instantiable "KindGridsModel" (46 : Nat)) := by decide +kernel
theorem qw_1303 : lw_tbl[1303]? = some (Jvm.Cond.methodLink "KindGridsModel" (1 : Nat) (⟨"java/lang/Object", "<init>", "()V"⟩ : MethodName)) := by decide +kernel
theorem qw_1304 : lw_tbl[1304]? = some (Jvm.Cond.fieldLink "KindGridsModel" (7 : Nat) "KindGridsModel" "refused" "[I") := by decide +kernel
theorem qw_1305 : lw_tbl[1305]? = some (Jvm.Cond.fieldLink "KindGridsModel" (116 : Nat) "KindGridsModel" "toldNow" "J") := by decide +kernel
theorem qw_1306 : lw_tbl[1306]? = some (Jvm.Cond.fieldLink "KindGridsModel" (13 : Nat) "KindGridsModel" "firstNow" "I") := by decide +kernel
theorem qw_1307 : lw_tbl[1307]? = some (Jvm.Cond.fieldLink "KindGridsModel" (389 : Nat) "KindGridsModel" "passedNow" "I") := by decide +kernel
theorem qw_1308 : lw_tbl[1308]? = some (Jvm.Cond.fieldLink "KindGridsModel" (17 : Nat) "KindGridsModel" "many" "[I") := by decide +kernel
theorem qw_1309 : lw_tbl[1309]? = some (Jvm.Cond.fieldLink "KindGridsModel" (20 : Nat) "KindGridsModel" "hold" "[I") := by decide +kernel
theorem qw_1310 : lw_tbl[1310]? = some (Jvm.Cond.fieldLink "KindGridsModel" (23 : Nat) "KindGridsModel" "kind" "[I") := by decide +kernel
theorem qw_1311 : lw_tbl[1311]? = some (Jvm.Cond.fieldLink "KindGridsModel" (26 : Nat) "KindGridsModel" "sizeOf" "[I") := by decide +kernel
theorem qw_1312 : lw_tbl[1312]? = some (Jvm.Cond.fieldLink "KindGridsModel" (29 : Nat) "KindGridsModel" "fresh" "[I") := by decide +kernel
theorem qw_1313 : lw_tbl[1313]? = some (Jvm.Cond.fieldLink "KindGridsModel" (32 : Nat) "KindGridsModel" "sort" "[I") := by decide +kernel
theorem qw_1314 : lw_tbl[1314]? = some (Jvm.Cond.fieldLink "KindGridsModel" (35 : Nat) "KindGridsModel" "num" "[J") := by decide +kernel
theorem qw_1315 : lw_tbl[1315]? = some (Jvm.Cond.fieldLink "KindGridsModel" (39 : Nat) "KindGridsModel" "real" "[D") := by decide +kernel
theorem qw_1316 : lw_tbl[1316]? = some (Jvm.Cond.fieldLink "KindGridsModel" (190 : Nat) "KindGridsModel" "vSort" "I") := by decide +kernel
theorem qw_1317 : lw_tbl[1317]? = some (Jvm.Cond.fieldLink "KindGridsModel" (197 : Nat) "KindGridsModel" "vNum" "J") := by decide +kernel
theorem qw_1318 : lw_tbl[1318]? = some (Jvm.Cond.fieldLink "KindGridsModel" (193 : Nat) "KindGridsModel" "vReal" "D") := by decide +kernel
theorem qw_1319 : lw_tbl[1319]? = some (Jvm.Cond.fieldLink "KindGridsModel" (43 : Nat) "KindGridsModel" "bySort" "[I") := by decide +kernel
theorem qw_1320 : lw_tbl[1320]? = some (Jvm.Cond.fieldLink "KindGridsModel" (46 : Nat) "KindGridsModel" "byNum" "[J") := by decide +kernel
theorem qw_1321 : lw_tbl[1321]? = some (Jvm.Cond.fieldLink "KindGridsModel" (49 : Nat) "KindGridsModel" "byReal" "[D") := by decide +kernel
theorem qw_1322 : lw_tbl[1322]? = some (Jvm.Cond.fieldLink "KindGridsModel" (52 : Nat) "KindGridsModel" "made" "[I") := by decide +kernel
theorem qw_1323 : lw_tbl[1323]? = some (Jvm.Cond.fieldLink "KindGridsModel" (373 : Nat) "KindGridsModel" "folded" "I") := by decide +kernel
theorem qw_1324 : lw_tbl[1324]? = some (Jvm.Cond.fieldLink "KindGridsModel" (370 : Nat) "KindGridsModel" "sumNow" "J") := by decide +kernel
theorem qw_1325 : lw_tbl[1325]? = some (Jvm.Cond.fieldLink "KindGridsModel" (376 : Nat) "KindGridsModel" "realNow" "D") := by decide +kernel
theorem qw_1326 : lw_tbl[1326]? = some (Jvm.Cond.fieldLink "KindGridsModel" (55 : Nat) "KindGridsModel" "best" "[J") := by decide +kernel
theorem qw_1327 : lw_tbl[1327]? = some (Jvm.Cond.fieldLink "KindGridsModel" (58 : Nat) "KindGridsModel" "goes" "[I") := by decide +kernel
theorem qw_1328 : lw_tbl[1328]? = some (Jvm.Cond.fieldLink "KindGridsModel" (61 : Nat) "KindGridsModel" "bestThen" "[J") := by decide +kernel
theorem qw_1329 : lw_tbl[1329]? = some (Jvm.Cond.fieldLink "KindGridsModel" (64 : Nat) "KindGridsModel" "goesThen" "[I") := by decide +kernel
theorem qw_1330 : lw_tbl[1330]? = some (Jvm.Cond.fieldLink "KindGridsModel" (67 : Nat) "KindGridsModel" "mark" "[I") := by decide +kernel
theorem qw_1331 : lw_tbl[1331]? = some (Jvm.Cond.fieldLink "KindGridsModel" (439 : Nat) "KindGridsModel" "blockSum" "J") := by decide +kernel
theorem qw_1332 : lw_tbl[1332]? = some (Jvm.Cond.fieldLink "KindGridsModel" (70 : Nat) "KindGridsModel" "image" "[I") := by decide +kernel
theorem qw_1333 : lw_tbl[1333]? = some (Jvm.Cond.fieldLink "KindGridsModel" (73 : Nat) "KindGridsModel" "keptMany" "[I") := by decide +kernel
theorem qw_1334 : lw_tbl[1334]? = some (Jvm.Cond.fieldLink "KindGridsModel" (76 : Nat) "KindGridsModel" "keptHold" "[I") := by decide +kernel
theorem qw_1335 : lw_tbl[1335]? = some (Jvm.Cond.fieldLink "KindGridsModel" (79 : Nat) "KindGridsModel" "keptKind" "[I") := by decide +kernel
theorem qw_1336 : lw_tbl[1336]? = some (Jvm.Cond.fieldLink "KindGridsModel" (82 : Nat) "KindGridsModel" "keptLong" "[I") := by decide +kernel
theorem qw_1337 : lw_tbl[1337]? = some (Jvm.Cond.fieldLink "KindGridsModel" (85 : Nat) "KindGridsModel" "keptSort" "[I") := by decide +kernel
theorem qw_1338 : lw_tbl[1338]? = some (Jvm.Cond.fieldLink "KindGridsModel" (88 : Nat) "KindGridsModel" "keptNum" "[J") := by decide +kernel
theorem qw_1339 : lw_tbl[1339]? = some (Jvm.Cond.fieldLink "KindGridsModel" (91 : Nat) "KindGridsModel" "keptReal" "[D") := by decide +kernel
theorem qw_1340 : lw_tbl[1340]? = some (Jvm.Cond.fieldLink "KindGridsModel" (94 : Nat) "KindGridsModel" "text" "[I") := by decide +kernel
theorem qw_1341 : lw_tbl[1341]? = some (Jvm.Cond.fieldLink "KindGridsModel" (466 : Nat) "KindGridsModel" "letters" "I") := by decide +kernel
theorem qw_1342 : lw_tbl[1342]? = some (Jvm.Cond.fieldLink "KindGridsModel" (469 : Nat) "KindGridsModel" "readAt" "I") := by decide +kernel
theorem qw_1343 : lw_tbl[1343]? = some (Jvm.Cond.fieldLink "KindGridsModel" (490 : Nat) "KindGridsModel" "readNumber" "I") := by decide +kernel
theorem qw_1344 : lw_tbl[1344]? = some (Jvm.Cond.fieldLink "KindGridsModel" (496 : Nat) "KindGridsModel" "steps" "I") := by decide +kernel
theorem qw_1345 : lw_tbl[1345]? = some (Jvm.Cond.fieldLink "KindGridsModel" (97 : Nat) "KindGridsModel" "deed" "[I") := by decide +kernel
theorem qw_1346 : lw_tbl[1346]? = some (Jvm.Cond.fieldLink "KindGridsModel" (100 : Nat) "KindGridsModel" "args" "[I") := by decide +kernel
theorem qw_1347 : lw_tbl[1347]? = some (Jvm.Cond.fieldLink "KindGridsModel" (531 : Nat) "KindGridsModel" "seen" "I") := by decide +kernel
theorem qw_1348 : lw_tbl[1348]? = some (Jvm.Cond.fieldLink "KindGridsModel" (103 : Nat) "KindGridsModel" "seenAct" "[I") := by decide +kernel
theorem qw_1349 : lw_tbl[1349]? = some (Jvm.Cond.fieldLink "KindGridsModel" (106 : Nat) "KindGridsModel" "seenTaken" "[I") := by decide +kernel
theorem qw_1350 : lw_tbl[1350]? = some (Jvm.Cond.laysFinal "KindGridsModel" "KindGridsModel" "refused" "[I") := by decide +kernel
theorem qw_1352 : lw_tbl[1352]? = some (Jvm.Cond.lays "KindGridsModel" "KindGridsModel" "toldNow" "J") := by decide +kernel
theorem qw_1354 : lw_tbl[1354]? = some (Jvm.Cond.lays "KindGridsModel" "KindGridsModel" "firstNow" "I") := by decide +kernel
theorem qw_1356 : lw_tbl[1356]? = some (Jvm.Cond.lays "KindGridsModel" "KindGridsModel" "passedNow" "I") := by decide +kernel
theorem qw_1358 : lw_tbl[1358]? = some (Jvm.Cond.laysFinal "KindGridsModel" "KindGridsModel" "many" "[I") := by decide +kernel
theorem qw_1360 : lw_tbl[1360]? = some (Jvm.Cond.laysFinal "KindGridsModel" "KindGridsModel" "hold" "[I") := by decide +kernel
theorem qw_1362 : lw_tbl[1362]? = some (Jvm.Cond.laysFinal "KindGridsModel" "KindGridsModel" "kind" "[I") := by decide +kernel
theorem qw_1364 : lw_tbl[1364]? = some (Jvm.Cond.laysFinal "KindGridsModel" "KindGridsModel" "sizeOf" "[I") := by decide +kernel
theorem qw_1366 : lw_tbl[1366]? = some (Jvm.Cond.laysFinal "KindGridsModel" "KindGridsModel" "fresh" "[I") := by decide +kernel
theorem qw_1368 : lw_tbl[1368]? = some (Jvm.Cond.laysFinal "KindGridsModel" "KindGridsModel" "sort" "[I") := by decide +kernel
theorem qw_1370 : lw_tbl[1370]? = some (Jvm.Cond.laysFinal "KindGridsModel" "KindGridsModel" "num" "[J") := by decide +kernel
theorem qw_1372 : lw_tbl[1372]? = some (Jvm.Cond.laysFinal "KindGridsModel" "KindGridsModel" "real" "[D") := by decide +kernel
theorem qw_1374 : lw_tbl[1374]? = some (Jvm.Cond.lays "KindGridsModel" "KindGridsModel" "vSort" "I") := by decide +kernel
theorem qw_1376 : lw_tbl[1376]? = some (Jvm.Cond.lays "KindGridsModel" "KindGridsModel" "vNum" "J") := by decide +kernel
theorem qw_1378 : lw_tbl[1378]? = some (Jvm.Cond.lays "KindGridsModel" "KindGridsModel" "vReal" "D") := by decide +kernel
theorem qw_1380 : lw_tbl[1380]? = some (Jvm.Cond.laysFinal "KindGridsModel" "KindGridsModel" "bySort" "[I") := by decide +kernel
theorem qw_1382 : lw_tbl[1382]? = some (Jvm.Cond.laysFinal "KindGridsModel" "KindGridsModel" "byNum" "[J") := by decide +kernel
theorem qw_1384 : lw_tbl[1384]? = some (Jvm.Cond.laysFinal "KindGridsModel" "KindGridsModel" "byReal" "[D") := by decide +kernel
theorem qw_1386 : lw_tbl[1386]? = some (Jvm.Cond.laysFinal "KindGridsModel" "KindGridsModel" "made" "[I") := by decide +kernel
theorem qw_1388 : lw_tbl[1388]? = some (Jvm.Cond.lays "KindGridsModel" "KindGridsModel" "folded" "I") := by decide +kernel
theorem qw_1390 : lw_tbl[1390]? = some (Jvm.Cond.lays "KindGridsModel" "KindGridsModel" "sumNow" "J") := by decide +kernel
theorem qw_1392 : lw_tbl[1392]? = some (Jvm.Cond.lays "KindGridsModel" "KindGridsModel" "realNow" "D") := by decide +kernel
theorem qw_1394 : lw_tbl[1394]? = some (Jvm.Cond.laysFinal "KindGridsModel" "KindGridsModel" "best" "[J") := by decide +kernel
theorem qw_1396 : lw_tbl[1396]? = some (Jvm.Cond.laysFinal "KindGridsModel" "KindGridsModel" "goes" "[I") := by decide +kernel
theorem qw_1398 : lw_tbl[1398]? = some (Jvm.Cond.laysFinal "KindGridsModel" "KindGridsModel" "bestThen" "[J") := by decide +kernel
theorem qw_1400 : lw_tbl[1400]? = some (Jvm.Cond.laysFinal "KindGridsModel" "KindGridsModel" "goesThen" "[I") := by decide +kernel
theorem qw_1402 : lw_tbl[1402]? = some (Jvm.Cond.laysFinal "KindGridsModel" "KindGridsModel" "mark" "[I") := by decide +kernel
theorem qw_1404 : lw_tbl[1404]? = some (Jvm.Cond.lays "KindGridsModel" "KindGridsModel" "blockSum" "J") := by decide +kernel
theorem qw_1406 : lw_tbl[1406]? = some (Jvm.Cond.laysFinal "KindGridsModel" "KindGridsModel" "image" "[I") := by decide +kernel
theorem qw_1408 : lw_tbl[1408]? = some (Jvm.Cond.laysFinal "KindGridsModel" "KindGridsModel" "keptMany" "[I") := by decide +kernel
theorem qw_1410 : lw_tbl[1410]? = some (Jvm.Cond.laysFinal "KindGridsModel" "KindGridsModel" "keptHold" "[I") := by decide +kernel
theorem qw_1412 : lw_tbl[1412]? = some (Jvm.Cond.laysFinal "KindGridsModel" "KindGridsModel" "keptKind" "[I") := by decide +kernel
theorem qw_1414 : lw_tbl[1414]? = some (Jvm.Cond.laysFinal "KindGridsModel" "KindGridsModel" "keptLong" "[I") := by decide +kernel
theorem qw_1416 : lw_tbl[1416]? = some (Jvm.Cond.laysFinal "KindGridsModel" "KindGridsModel" "keptSort" "[I") := by decide +kernel
theorem qw_1418 : lw_tbl[1418]? = some (Jvm.Cond.laysFinal "KindGridsModel" "KindGridsModel" "keptNum" "[J") := by decide +kernel
theorem qw_1420 : lw_tbl[1420]? = some (Jvm.Cond.laysFinal "KindGridsModel" "KindGridsModel" "keptReal" "[D") := by decide +kernel
theorem qw_1422 : lw_tbl[1422]? = some (Jvm.Cond.laysFinal "KindGridsModel" "KindGridsModel" "text" "[I") := by decide +kernel
theorem qw_1424 : lw_tbl[1424]? = some (Jvm.Cond.lays "KindGridsModel" "KindGridsModel" "letters" "I") := by decide +kernel
theorem qw_1426 : lw_tbl[1426]? = some (Jvm.Cond.lays "KindGridsModel" "KindGridsModel" "readAt" "I") := by decide +kernel
theorem qw_1428 : lw_tbl[1428]? = some (Jvm.Cond.lays "KindGridsModel" "KindGridsModel" "readNumber" "I") := by decide +kernel
theorem qw_1430 : lw_tbl[1430]? = some (Jvm.Cond.lays "KindGridsModel" "KindGridsModel" "steps" "I") := by decide +kernel
theorem qw_1432 : lw_tbl[1432]? = some (Jvm.Cond.laysFinal "KindGridsModel" "KindGridsModel" "deed" "[I") := by decide +kernel
theorem qw_1434 : lw_tbl[1434]? = some (Jvm.Cond.laysFinal "KindGridsModel" "KindGridsModel" "args" "[I") := by decide +kernel
theorem qw_1436 : lw_tbl[1436]? = some (Jvm.Cond.lays "KindGridsModel" "KindGridsModel" "seen" "I") := by decide +kernel
theorem qw_1438 : lw_tbl[1438]? = some (Jvm.Cond.laysFinal "KindGridsModel" "KindGridsModel" "seenAct" "[I") := by decide +kernel
theorem qw_1440 : lw_tbl[1440]? = some (Jvm.Cond.laysFinal "KindGridsModel" "KindGridsModel" "seenTaken" "[I") := by decide +kernel
theorem qw_1447 : lw_tbl[1447]? = some (Jvm.Cond.methodLink "KindGridsModel" (134 : Nat) (⟨"KindGridsModel", "isGrid", "(I)Z"⟩ : MethodName)) := by decide +kernel
theorem qw_1448 : lw_tbl[1448]? = some (Jvm.Cond.static (⟨"KindGridsModel", "isGrid", "(I)Z"⟩ : MethodName)) := by decide +kernel
theorem qw_1449 : lw_tbl[1449]? = some (Jvm.Cond.code (⟨"KindGridsModel", "isGrid", "(I)Z"⟩ : MethodName) prog_15_method_8_code (1 : Nat) (Option.some Jvm.ClassFile.FieldType.boolean)) := by decide +kernel
theorem qw_1450 : lw_tbl[1450]? = some (Jvm.Cond.methodLink "KindGridsModel" (109 : Nat) (⟨"KindGridsModel", "in", "(III)Z"⟩ : MethodName)) := by decide +kernel
theorem qw_1451 : lw_tbl[1451]? = some (Jvm.Cond.static (⟨"KindGridsModel", "in", "(III)Z"⟩ : MethodName)) := by decide +kernel
theorem qw_1452 : lw_tbl[1452]? = some (Jvm.Cond.code (⟨"KindGridsModel", "in", "(III)Z"⟩ : MethodName) prog_15_method_2_code (3 : Nat) (Option.some Jvm.ClassFile.FieldType.boolean)) := by decide +kernel
theorem qw_1453 : lw_tbl[1453]? = some (Jvm.Cond.methodLink "KindGridsModel" (137 : Nat) (⟨"KindGridsModel", "said", "(I)I"⟩ : MethodName)) := by decide +kernel
theorem qw_1455 : lw_tbl[1455]? = some (Jvm.Cond.instanceMethod (⟨"KindGridsModel", "said", "(I)I"⟩ : MethodName)) := by decide +kernel
theorem qw_1456 : lw_tbl[1456]? = some (Jvm.Cond.code (⟨"KindGridsModel", "said", "(I)I"⟩ : MethodName) prog_15_method_3_code (2 : Nat) (Option.some Jvm.ClassFile.FieldType.int)) := by decide +kernel
theorem qw_1457 : lw_tbl[1457]? = some (Jvm.Cond.methodLink "KindGridsModel" (113 : Nat) (⟨"KindGridsModel", "ends", "()V"⟩ : MethodName)) := by decide +kernel
theorem qw_1459 : lw_tbl[1459]? = some (Jvm.Cond.instanceMethod (⟨"KindGridsModel", "ends", "()V"⟩ : MethodName)) := by decide +kernel
theorem qw_1460 : lw_tbl[1460]? = some (Jvm.Cond.code (⟨"KindGridsModel", "ends", "()V"⟩ : MethodName) prog_15_method_5_code (2 : Nat) (Option.none : Option Jvm.ClassFile.FieldType)) := by decide +kernel
theorem qw_1461 : lw_tbl[1461]? = some (Jvm.Cond.methodLink "KindGridsModel" (141 : Nat) (⟨"KindGridsModel", "anew", "(II)V"⟩ : MethodName)) := by decide +kernel
theorem qw_1463 : lw_tbl[1463]? = some (Jvm.Cond.instanceMethod (⟨"KindGridsModel", "anew", "(II)V"⟩ : MethodName)) := by decide +kernel
theorem qw_1464 : lw_tbl[1464]? = some (Jvm.Cond.code (⟨"KindGridsModel", "anew", "(II)V"⟩ : MethodName) prog_15_method_20_code (4 : Nat) (Option.none : Option Jvm.ClassFile.FieldType)) := by decide +kernel
theorem qw_1465 : lw_tbl[1465]? = some (Jvm.Cond.methodLink "KindGridsModel" (145 : Nat) (⟨"KindGridsModel", "holdsNow", "(III)V"⟩ : MethodName)) := by decide +kernel
theorem qw_1467 : lw_tbl[1467]? = some (Jvm.Cond.instanceMethod (⟨"KindGridsModel", "holdsNow", "(III)V"⟩ : MethodName)) := by decide +kernel
theorem qw_1468 : lw_tbl[1468]? = some (Jvm.Cond.code (⟨"KindGridsModel", "holdsNow", "(III)V"⟩ : MethodName) prog_15_method_13_code (4 : Nat) (Option.none : Option Jvm.ClassFile.FieldType)) := by decide +kernel
theorem qw_1473 : lw_tbl[1473]? = some (Jvm.Cond.methodLink "KindGridsModel" (149 : Nat) (⟨"KindGridsModel", "dropDeed", "(I)I"⟩ : MethodName)) := by decide +kernel
theorem qw_1475 : lw_tbl[1475]? = some (Jvm.Cond.instanceMethod (⟨"KindGridsModel", "dropDeed", "(I)I"⟩ : MethodName)) := by decide +kernel
theorem qw_1476 : lw_tbl[1476]? = some (Jvm.Cond.code (⟨"KindGridsModel", "dropDeed", "(I)I"⟩ : MethodName) prog_15_method_21_code (3 : Nat) (Option.some Jvm.ClassFile.FieldType.int)) := by decide +kernel
theorem qw_1481 : lw_tbl[1481]? = some (Jvm.Cond.methodLink "KindGridsModel" (158 : Nat) (⟨"KindGridsModel", "rowDeed", "(IIII)I"⟩ : MethodName)) := by decide +kernel
theorem qw_1483 : lw_tbl[1483]? = some (Jvm.Cond.instanceMethod (⟨"KindGridsModel", "rowDeed", "(IIII)I"⟩ : MethodName)) := by decide +kernel
theorem qw_1484 : lw_tbl[1484]? = some (Jvm.Cond.code (⟨"KindGridsModel", "rowDeed", "(IIII)I"⟩ : MethodName) prog_15_method_23_code (6 : Nat) (Option.some Jvm.ClassFile.FieldType.int)) := by decide +kernel
theorem qw_1485 : lw_tbl[1485]? = some (Jvm.Cond.methodLink "KindGridsModel" (152 : Nat) (⟨"KindGridsModel", "isKind", "(I)Z"⟩ : MethodName)) := by decide +kernel
theorem qw_1486 : lw_tbl[1486]? = some (Jvm.Cond.static (⟨"KindGridsModel", "isKind", "(I)Z"⟩ : MethodName)) := by decide +kernel
theorem qw_1487 : lw_tbl[1487]? = some (Jvm.Cond.code (⟨"KindGridsModel", "isKind", "(I)Z"⟩ : MethodName) prog_15_method_9_code (1 : Nat) (Option.some Jvm.ClassFile.FieldType.boolean)) := by decide +kernel
theorem qw_1488 : lw_tbl[1488]? = some (Jvm.Cond.methodLink "KindGridsModel" (124 : Nat) (⟨"KindGridsModel", "placeFault", "(II)I"⟩ : MethodName)) := by decide +kernel
theorem qw_1490 : lw_tbl[1490]? = some (Jvm.Cond.instanceMethod (⟨"KindGridsModel", "placeFault", "(II)I"⟩ : MethodName)) := by decide +kernel
theorem qw_1491 : lw_tbl[1491]? = some (Jvm.Cond.code (⟨"KindGridsModel", "placeFault", "(II)I"⟩ : MethodName) prog_15_method_14_code (3 : Nat) (Option.some Jvm.ClassFile.FieldType.int)) := by decide +kernel
theorem qw_1492 : lw_tbl[1492]? = some (Jvm.Cond.methodLink "KindGridsModel" (155 : Nat) (⟨"KindGridsModel", "newRow", "(II)I"⟩ : MethodName)) := by decide +kernel
theorem qw_1494 : lw_tbl[1494]? = some (Jvm.Cond.instanceMethod (⟨"KindGridsModel", "newRow", "(II)I"⟩ : MethodName)) := by decide +kernel
theorem qw_1495 : lw_tbl[1495]? = some (Jvm.Cond.code (⟨"KindGridsModel", "newRow", "(II)I"⟩ : MethodName) prog_15_method_7_code (5 : Nat) (Option.some Jvm.ClassFile.FieldType.int)) := by decide +kernel
theorem qw_1496 : lw_tbl[1496]? = some (Jvm.Cond.methodLink "KindGridsModel" (120 : Nat) (⟨"KindGridsModel", "isHeld", "(I)Z"⟩ : MethodName)) := by decide +kernel
theorem qw_1498 : lw_tbl[1498]? = some (Jvm.Cond.instanceMethod (⟨"KindGridsModel", "isHeld", "(I)Z"⟩ : MethodName)) := by decide +kernel
theorem qw_1499 : lw_tbl[1499]? = some (Jvm.Cond.code (⟨"KindGridsModel", "isHeld", "(I)Z"⟩ : MethodName) prog_15_method_6_code (4 : Nat) (Option.some Jvm.ClassFile.FieldType.boolean)) := by decide +kernel
theorem qw_1504 : lw_tbl[1504]? = some (Jvm.Cond.methodLink "KindGridsModel" (162 : Nat) (⟨"KindGridsModel", "thingDeed", "(III)I"⟩ : MethodName)) := by decide +kernel
theorem qw_1506 : lw_tbl[1506]? = some (Jvm.Cond.instanceMethod (⟨"KindGridsModel", "thingDeed", "(III)I"⟩ : MethodName)) := by decide +kernel
theorem qw_1507 : lw_tbl[1507]? = some (Jvm.Cond.code (⟨"KindGridsModel", "thingDeed", "(III)I"⟩ : MethodName) prog_15_method_25_code (5 : Nat) (Option.some Jvm.ClassFile.FieldType.int)) := by decide +kernel
theorem qw_1512 : lw_tbl[1512]? = some (Jvm.Cond.methodLink "KindGridsModel" (172 : Nat) (⟨"KindGridsModel", "shareDeed", "(IIII)I"⟩ : MethodName)) := by decide +kernel
theorem qw_1514 : lw_tbl[1514]? = some (Jvm.Cond.instanceMethod (⟨"KindGridsModel", "shareDeed", "(IIII)I"⟩ : MethodName)) := by decide +kernel
theorem qw_1515 : lw_tbl[1515]? = some (Jvm.Cond.code (⟨"KindGridsModel", "shareDeed", "(IIII)I"⟩ : MethodName) prog_15_method_27_code (6 : Nat) (Option.some Jvm.ClassFile.FieldType.int)) := by decide +kernel
theorem qw_1516 : lw_tbl[1516]? = some (Jvm.Cond.methodLink "KindGridsModel" (166 : Nat) (⟨"KindGridsModel", "twoPlaces", "(IIII)I"⟩ : MethodName)) := by decide +kernel
theorem qw_1518 : lw_tbl[1518]? = some (Jvm.Cond.instanceMethod (⟨"KindGridsModel", "twoPlaces", "(IIII)I"⟩ : MethodName)) := by decide +kernel
theorem qw_1519 : lw_tbl[1519]? = some (Jvm.Cond.code (⟨"KindGridsModel", "twoPlaces", "(IIII)I"⟩ : MethodName) prog_15_method_17_code (6 : Nat) (Option.some Jvm.ClassFile.FieldType.int)) := by decide +kernel
theorem qw_1520 : lw_tbl[1520]? = some (Jvm.Cond.methodLink "KindGridsModel" (128 : Nat) (⟨"KindGridsModel", "held", "(II)I"⟩ : MethodName)) := by decide +kernel
theorem qw_1522 : lw_tbl[1522]? = some (Jvm.Cond.instanceMethod (⟨"KindGridsModel", "held", "(II)I"⟩ : MethodName)) := by decide +kernel
theorem qw_1523 : lw_tbl[1523]? = some (Jvm.Cond.code (⟨"KindGridsModel", "held", "(II)I"⟩ : MethodName) prog_15_method_12_code (3 : Nat) (Option.some Jvm.ClassFile.FieldType.int)) := by decide +kernel
theorem qw_1524 : lw_tbl[1524]? = some (Jvm.Cond.methodLink "KindGridsModel" (169 : Nat) (⟨"KindGridsModel", "holdsOf", "(II)I"⟩ : MethodName)) := by decide +kernel
theorem qw_1526 : lw_tbl[1526]? = some (Jvm.Cond.instanceMethod (⟨"KindGridsModel", "holdsOf", "(II)I"⟩ : MethodName)) := by decide +kernel
theorem qw_1527 : lw_tbl[1527]? = some (Jvm.Cond.code (⟨"KindGridsModel", "holdsOf", "(II)I"⟩ : MethodName) prog_15_method_18_code (4 : Nat) (Option.some Jvm.ClassFile.FieldType.int)) := by decide +kernel
theorem qw_1532 : lw_tbl[1532]? = some (Jvm.Cond.methodLink "KindGridsModel" (175 : Nat) (⟨"KindGridsModel", "swapDeed", "(IIII)I"⟩ : MethodName)) := by decide +kernel
theorem qw_1534 : lw_tbl[1534]? = some (Jvm.Cond.instanceMethod (⟨"KindGridsModel", "swapDeed", "(IIII)I"⟩ : MethodName)) := by decide +kernel
theorem qw_1535 : lw_tbl[1535]? = some (Jvm.Cond.code (⟨"KindGridsModel", "swapDeed", "(IIII)I"⟩ : MethodName) prog_15_method_29_code (7 : Nat) (Option.some Jvm.ClassFile.FieldType.int)) := by decide +kernel
theorem qw_1540 : lw_tbl[1540]? = some (Jvm.Cond.methodLink "KindGridsModel" (178 : Nat) (⟨"KindGridsModel", "holdsAnswer", "(II)I"⟩ : MethodName)) := by decide +kernel
theorem qw_1542 : lw_tbl[1542]? = some (Jvm.Cond.instanceMethod (⟨"KindGridsModel", "holdsAnswer", "(II)I"⟩ : MethodName)) := by decide +kernel
theorem qw_1543 : lw_tbl[1543]? = some (Jvm.Cond.code (⟨"KindGridsModel", "holdsAnswer", "(II)I"⟩ : MethodName) prog_15_method_31_code (4 : Nat) (Option.some Jvm.ClassFile.FieldType.int)) := by decide +kernel
theorem qw_1548 : lw_tbl[1548]? = some (Jvm.Cond.methodLink "KindGridsModel" (184 : Nat) (⟨"KindGridsModel", "sameAnswer", "(IIII)I"⟩ : MethodName)) := by decide +kernel
theorem qw_1550 : lw_tbl[1550]? = some (Jvm.Cond.instanceMethod (⟨"KindGridsModel", "sameAnswer", "(IIII)I"⟩ : MethodName)) := by decide +kernel
theorem qw_1551 : lw_tbl[1551]? = some (Jvm.Cond.code (⟨"KindGridsModel", "sameAnswer", "(IIII)I"⟩ : MethodName) prog_15_method_33_code (6 : Nat) (Option.some Jvm.ClassFile.FieldType.int)) := by decide +kernel
theorem qw_1552 : lw_tbl[1552]? = some (Jvm.Cond.methodLink "KindGridsModel" (181 : Nat) (⟨"KindGridsModel", "twoRows", "(IIII)I"⟩ : MethodName)) := by decide +kernel
theorem qw_1554 : lw_tbl[1554]? = some (Jvm.Cond.instanceMethod (⟨"KindGridsModel", "twoRows", "(IIII)I"⟩ : MethodName)) := by decide +kernel
theorem qw_1555 : lw_tbl[1555]? = some (Jvm.Cond.code (⟨"KindGridsModel", "twoRows", "(IIII)I"⟩ : MethodName) prog_15_method_16_code (6 : Nat) (Option.some Jvm.ClassFile.FieldType.int)) := by decide +kernel
theorem qw_1556 : lw_tbl[1556]? = some (Jvm.Cond.methodLink "KindGridsModel" (131 : Nat) (⟨"KindGridsModel", "rowFault", "(II)I"⟩ : MethodName)) := by decide +kernel
theorem qw_1558 : lw_tbl[1558]? = some (Jvm.Cond.instanceMethod (⟨"KindGridsModel", "rowFault", "(II)I"⟩ : MethodName)) := by decide +kernel
theorem qw_1559 : lw_tbl[1559]? = some (Jvm.Cond.code (⟨"KindGridsModel", "rowFault", "(II)I"⟩ : MethodName) prog_15_method_15_code (5 : Nat) (Option.some Jvm.ClassFile.FieldType.int)) := by decide +kernel
theorem qw_1564 : lw_tbl[1564]? = some (Jvm.Cond.methodLink "KindGridsModel" (187 : Nat) (⟨"KindGridsModel", "sizeAnswer", "(II)I"⟩ : MethodName)) := by decide +kernel
theorem qw_1566 : lw_tbl[1566]? = some (Jvm.Cond.instanceMethod (⟨"KindGridsModel", "sizeAnswer", "(II)I"⟩ : MethodName)) := by decide +kernel
theorem qw_1567 : lw_tbl[1567]? = some (Jvm.Cond.code (⟨"KindGridsModel", "sizeAnswer", "(II)I"⟩ : MethodName) prog_15_method_35_code (4 : Nat) (Option.some Jvm.ClassFile.FieldType.int)) := by decide +kernel
theorem qw_1572 : lw_tbl[1572]? = some (Jvm.Cond.methodLink "KindGridsModel" (247 : Nat) (⟨"KindGridsModel", "readAnswer", "(IIII)I"⟩ : MethodName)) := by decide +kernel
theorem qw_1574 : lw_tbl[1574]? = some (Jvm.Cond.instanceMethod (⟨"KindGridsModel", "readAnswer", "(IIII)I"⟩ : MethodName)) := by decide +kernel
theorem qw_1575 : lw_tbl[1575]? = some (Jvm.Cond.code (⟨"KindGridsModel", "readAnswer", "(IIII)I"⟩ : MethodName) prog_15_method_50_code (7 : Nat) (Option.some Jvm.ClassFile.FieldType.int)) := by decide +kernel
theorem qw_1576 : lw_tbl[1576]? = some (Jvm.Cond.methodLink "KindGridsModel" (230 : Nat) (⟨"KindGridsModel", "cellFault", "(III)I"⟩ : MethodName)) := by decide +kernel
theorem qw_1578 : lw_tbl[1578]? = some (Jvm.Cond.instanceMethod (⟨"KindGridsModel", "cellFault", "(III)I"⟩ : MethodName)) := by decide +kernel
theorem qw_1579 : lw_tbl[1579]? = some (Jvm.Cond.code (⟨"KindGridsModel", "cellFault", "(III)I"⟩ : MethodName) prog_15_method_49_code (5 : Nat) (Option.some Jvm.ClassFile.FieldType.int)) := by decide +kernel
theorem qw_1580 : lw_tbl[1580]? = some (Jvm.Cond.methodLink "KindGridsModel" (233 : Nat) (⟨"KindGridsModel", "isReadable", "(II)Z"⟩ : MethodName)) := by decide +kernel
theorem qw_1582 : lw_tbl[1582]? = some (Jvm.Cond.instanceMethod (⟨"KindGridsModel", "isReadable", "(II)Z"⟩ : MethodName)) := by decide +kernel
theorem qw_1583 : lw_tbl[1583]? = some (Jvm.Cond.code (⟨"KindGridsModel", "isReadable", "(II)Z"⟩ : MethodName) prog_15_method_44_code (3 : Nat) (Option.some Jvm.ClassFile.FieldType.boolean)) := by decide +kernel
theorem qw_1584 : lw_tbl[1584]? = some (Jvm.Cond.methodLink "KindGridsModel" (209 : Nat) (⟨"KindGridsModel", "isPlain", "(I)Z"⟩ : MethodName)) := by decide +kernel
theorem qw_1585 : lw_tbl[1585]? = some (Jvm.Cond.static (⟨"KindGridsModel", "isPlain", "(I)Z"⟩ : MethodName)) := by decide +kernel
theorem qw_1586 : lw_tbl[1586]? = some (Jvm.Cond.code (⟨"KindGridsModel", "isPlain", "(I)Z"⟩ : MethodName) prog_15_method_10_code (1 : Nat) (Option.some Jvm.ClassFile.FieldType.boolean)) := by decide +kernel
theorem qw_1587 : lw_tbl[1587]? = some (Jvm.Cond.methodLink "KindGridsModel" (205 : Nat) (⟨"KindGridsModel", "takes", "(II)Z"⟩ : MethodName)) := by decide +kernel
theorem qw_1588 : lw_tbl[1588]? = some (Jvm.Cond.static (⟨"KindGridsModel", "takes", "(II)Z"⟩ : MethodName)) := by decide +kernel
theorem qw_1589 : lw_tbl[1589]? = some (Jvm.Cond.code (⟨"KindGridsModel", "takes", "(II)Z"⟩ : MethodName) prog_15_method_38_code (2 : Nat) (Option.some Jvm.ClassFile.FieldType.boolean)) := by decide +kernel
theorem qw_1590 : lw_tbl[1590]? = some (Jvm.Cond.methodLink "KindGridsModel" (236 : Nat) (⟨"KindGridsModel", "loads", "(II)V"⟩ : MethodName)) := by decide +kernel
theorem qw_1592 : lw_tbl[1592]? = some (Jvm.Cond.instanceMethod (⟨"KindGridsModel", "loads", "(II)V"⟩ : MethodName)) := by decide +kernel
theorem qw_1593 : lw_tbl[1593]? = some (Jvm.Cond.code (⟨"KindGridsModel", "loads", "(II)V"⟩ : MethodName) prog_15_method_39_code (3 : Nat) (Option.none : Option Jvm.ClassFile.FieldType)) := by decide +kernel
theorem qw_1594 : lw_tbl[1594]? = some (Jvm.Cond.methodLink "KindGridsModel" (212 : Nat) (⟨"KindGridsModel", "widens", "(I)V"⟩ : MethodName)) := by decide +kernel
theorem qw_1596 : lw_tbl[1596]? = some (Jvm.Cond.instanceMethod (⟨"KindGridsModel", "widens", "(I)V"⟩ : MethodName)) := by decide +kernel
theorem qw_1597 : lw_tbl[1597]? = some (Jvm.Cond.code (⟨"KindGridsModel", "widens", "(I)V"⟩ : MethodName) prog_15_method_40_code (2 : Nat) (Option.none : Option Jvm.ClassFile.FieldType)) := by decide +kernel
theorem qw_1598 : lw_tbl[1598]? = some (Jvm.Cond.methodLink "KindGridsModel" (239 : Nat) (⟨"KindGridsModel", "toldOf", "()J"⟩ : MethodName)) := by decide +kernel
theorem qw_1600 : lw_tbl[1600]? = some (Jvm.Cond.instanceMethod (⟨"KindGridsModel", "toldOf", "()J"⟩ : MethodName)) := by decide +kernel
theorem qw_1601 : lw_tbl[1601]? = some (Jvm.Cond.code (⟨"KindGridsModel", "toldOf", "()J"⟩ : MethodName) prog_15_method_43_code (1 : Nat) (Option.some Jvm.ClassFile.FieldType.long)) := by decide +kernel
theorem qw_1602 : lw_tbl[1602]? = some (Jvm.Cond.constantDouble "KindGridsModel" (201 : Nat) (4620693217682128896 : UInt64)) := by decide +kernel
theorem qw_1603 : lw_tbl[1603]? = some (Jvm.Cond.methodLink "KindGridsModel" (243 : Nat) (⟨"KindGridsModel", "tells", "(JI)I"⟩ : MethodName)) := by decide +kernel
theorem qw_1605 : lw_tbl[1605]? = some (Jvm.Cond.instanceMethod (⟨"KindGridsModel", "tells", "(JI)I"⟩ : MethodName)) := by decide +kernel
theorem qw_1606 : lw_tbl[1606]? = some (Jvm.Cond.code (⟨"KindGridsModel", "tells", "(JI)I"⟩ : MethodName) prog_15_method_4_code (4 : Nat) (Option.some Jvm.ClassFile.FieldType.int)) := by decide +kernel
theorem qw_1611 : lw_tbl[1611]? = some (Jvm.Cond.methodLink "KindGridsModel" (257 : Nat) (⟨"KindGridsModel", "writeDeed", "(IIIIJ)I"⟩ : MethodName)) := by decide +kernel
theorem qw_1613 : lw_tbl[1613]? = some (Jvm.Cond.instanceMethod (⟨"KindGridsModel", "writeDeed", "(IIIIJ)I"⟩ : MethodName)) := by decide +kernel
theorem qw_1614 : lw_tbl[1614]? = some (Jvm.Cond.code (⟨"KindGridsModel", "writeDeed", "(IIIIJ)I"⟩ : MethodName) prog_15_method_52_code (9 : Nat) (Option.some Jvm.ClassFile.FieldType.int)) := by decide +kernel
theorem qw_1615 : lw_tbl[1615]? = some (Jvm.Cond.methodLink "KindGridsModel" (250 : Nat) (⟨"KindGridsModel", "makes", "(IJ)V"⟩ : MethodName)) := by decide +kernel
theorem qw_1617 : lw_tbl[1617]? = some (Jvm.Cond.instanceMethod (⟨"KindGridsModel", "makes", "(IJ)V"⟩ : MethodName)) := by decide +kernel
theorem qw_1618 : lw_tbl[1618]? = some (Jvm.Cond.code (⟨"KindGridsModel", "makes", "(IJ)V"⟩ : MethodName) prog_15_method_37_code (4 : Nat) (Option.none : Option Jvm.ClassFile.FieldType)) := by decide +kernel
theorem qw_1619 : lw_tbl[1619]? = some (Jvm.Cond.constantFloat "KindGridsModel" (200 : Nat) (1090519040 : UInt32)) := by decide +kernel
theorem qw_1620 : lw_tbl[1620]? = some (Jvm.Cond.constantLong "KindGridsModel" (203 : Nat) (3 : Int64)) := by decide +kernel
theorem qw_1621 : lw_tbl[1621]? = some (Jvm.Cond.methodLink "KindGridsModel" (254 : Nat) (⟨"KindGridsModel", "puts", "(II)Z"⟩ : MethodName)) := by decide +kernel
theorem qw_1623 : lw_tbl[1623]? = some (Jvm.Cond.instanceMethod (⟨"KindGridsModel", "puts", "(II)Z"⟩ : MethodName)) := by decide +kernel
theorem qw_1624 : lw_tbl[1624]? = some (Jvm.Cond.code (⟨"KindGridsModel", "puts", "(II)Z"⟩ : MethodName) prog_15_method_42_code (3 : Nat) (Option.some Jvm.ClassFile.FieldType.boolean)) := by decide +kernel
theorem qw_1625 : lw_tbl[1625]? = some (Jvm.Cond.methodLink "KindGridsModel" (216 : Nat) (⟨"KindGridsModel", "lays", "(II)V"⟩ : MethodName)) := by decide +kernel
theorem qw_1627 : lw_tbl[1627]? = some (Jvm.Cond.instanceMethod (⟨"KindGridsModel", "lays", "(II)V"⟩ : MethodName)) := by decide +kernel
theorem qw_1628 : lw_tbl[1628]? = some (Jvm.Cond.code (⟨"KindGridsModel", "lays", "(II)V"⟩ : MethodName) prog_15_method_41_code (3 : Nat) (Option.none : Option Jvm.ClassFile.FieldType)) := by decide +kernel
theorem qw_1633 : lw_tbl[1633]? = some (Jvm.Cond.methodLink "KindGridsModel" (264 : Nat) (⟨"KindGridsModel", "putDeed", "(IIIIJ)I"⟩ : MethodName)) := by decide +kernel
theorem qw_1635 : lw_tbl[1635]? = some (Jvm.Cond.instanceMethod (⟨"KindGridsModel", "putDeed", "(IIIIJ)I"⟩ : MethodName)) := by decide +kernel
theorem qw_1636 : lw_tbl[1636]? = some (Jvm.Cond.code (⟨"KindGridsModel", "putDeed", "(IIIIJ)I"⟩ : MethodName) prog_15_method_54_code (8 : Nat) (Option.some Jvm.ClassFile.FieldType.int)) := by decide +kernel
theorem qw_1637 : lw_tbl[1637]? = some (Jvm.Cond.methodLink "KindGridsModel" (261 : Nat) (⟨"KindGridsModel", "isSort", "(I)Z"⟩ : MethodName)) := by decide +kernel
theorem qw_1638 : lw_tbl[1638]? = some (Jvm.Cond.static (⟨"KindGridsModel", "isSort", "(I)Z"⟩ : MethodName)) := by decide +kernel
theorem qw_1639 : lw_tbl[1639]? = some (Jvm.Cond.code (⟨"KindGridsModel", "isSort", "(I)Z"⟩ : MethodName) prog_15_method_11_code (1 : Nat) (Option.some Jvm.ClassFile.FieldType.boolean)) := by decide +kernel
theorem qw_1644 : lw_tbl[1644]? = some (Jvm.Cond.methodLink "KindGridsModel" (267 : Nat) (⟨"KindGridsModel", "findAnswer", "(IIIJ)I"⟩ : MethodName)) := by decide +kernel
theorem qw_1646 : lw_tbl[1646]? = some (Jvm.Cond.instanceMethod (⟨"KindGridsModel", "findAnswer", "(IIIJ)I"⟩ : MethodName)) := by decide +kernel
theorem qw_1647 : lw_tbl[1647]? = some (Jvm.Cond.code (⟨"KindGridsModel", "findAnswer", "(IIIJ)I"⟩ : MethodName) prog_15_method_56_code (10 : Nat) (Option.some Jvm.ClassFile.FieldType.int)) := by decide +kernel
theorem qw_1648 : lw_tbl[1648]? = some (Jvm.Cond.methodLink "KindGridsModel" (226 : Nat) (⟨"KindGridsModel", "areLike", "(IJDIJD)Z"⟩ : MethodName)) := by decide +kernel
theorem qw_1649 : lw_tbl[1649]? = some (Jvm.Cond.static (⟨"KindGridsModel", "areLike", "(IJDIJD)Z"⟩ : MethodName)) := by decide +kernel
theorem qw_1650 : lw_tbl[1650]? = some (Jvm.Cond.code (⟨"KindGridsModel", "areLike", "(IJDIJD)Z"⟩ : MethodName) prog_15_method_47_code (10 : Nat) (Option.some Jvm.ClassFile.FieldType.boolean)) := by decide +kernel
theorem qw_1651 : lw_tbl[1651]? = some (Jvm.Cond.methodLink "KindGridsModel" (219 : Nat) (⟨"KindGridsModel", "isNumber", "(I)Z"⟩ : MethodName)) := by decide +kernel
theorem qw_1652 : lw_tbl[1652]? = some (Jvm.Cond.static (⟨"KindGridsModel", "isNumber", "(I)Z"⟩ : MethodName)) := by decide +kernel
theorem qw_1653 : lw_tbl[1653]? = some (Jvm.Cond.code (⟨"KindGridsModel", "isNumber", "(I)Z"⟩ : MethodName) prog_15_method_46_code (1 : Nat) (Option.some Jvm.ClassFile.FieldType.boolean)) := by decide +kernel
theorem qw_1654 : lw_tbl[1654]? = some (Jvm.Cond.methodLink "KindGridsModel" (222 : Nat) (⟨"KindGridsModel", "asDouble", "(IJD)D"⟩ : MethodName)) := by decide +kernel
theorem qw_1655 : lw_tbl[1655]? = some (Jvm.Cond.static (⟨"KindGridsModel", "asDouble", "(IJD)D"⟩ : MethodName)) := by decide +kernel
theorem qw_1656 : lw_tbl[1656]? = some (Jvm.Cond.code (⟨"KindGridsModel", "asDouble", "(IJD)D"⟩ : MethodName) prog_15_method_45_code (5 : Nat) (Option.some Jvm.ClassFile.FieldType.double)) := by decide +kernel
theorem qw_1661 : lw_tbl[1661]? = some (Jvm.Cond.methodLink "KindGridsModel" (277 : Nat) (⟨"KindGridsModel", "alikeAnswer", "(IIII)I"⟩ : MethodName)) := by decide +kernel
theorem qw_1663 : lw_tbl[1663]? = some (Jvm.Cond.instanceMethod (⟨"KindGridsModel", "alikeAnswer", "(IIII)I"⟩ : MethodName)) := by decide +kernel
theorem qw_1664 : lw_tbl[1664]? = some (Jvm.Cond.code (⟨"KindGridsModel", "alikeAnswer", "(IIII)I"⟩ : MethodName) prog_15_method_59_code (10 : Nat) (Option.some Jvm.ClassFile.FieldType.int)) := by decide +kernel
theorem qw_1665 : lw_tbl[1665]? = some (Jvm.Cond.methodLink "KindGridsModel" (271 : Nat) (⟨"KindGridsModel", "both", "(II)I"⟩ : MethodName)) := by decide +kernel
theorem qw_1667 : lw_tbl[1667]? = some (Jvm.Cond.instanceMethod (⟨"KindGridsModel", "both", "(II)I"⟩ : MethodName)) := by decide +kernel
theorem qw_1668 : lw_tbl[1668]? = some (Jvm.Cond.code (⟨"KindGridsModel", "both", "(II)I"⟩ : MethodName) prog_15_method_58_code (3 : Nat) (Option.some Jvm.ClassFile.FieldType.int)) := by decide +kernel
theorem qw_1669 : lw_tbl[1669]? = some (Jvm.Cond.methodLink "KindGridsModel" (274 : Nat) (⟨"KindGridsModel", "cellsLike", "(II)Z"⟩ : MethodName)) := by decide +kernel
theorem qw_1671 : lw_tbl[1671]? = some (Jvm.Cond.instanceMethod (⟨"KindGridsModel", "cellsLike", "(II)Z"⟩ : MethodName)) := by decide +kernel
theorem qw_1672 : lw_tbl[1672]? = some (Jvm.Cond.code (⟨"KindGridsModel", "cellsLike", "(II)Z"⟩ : MethodName) prog_15_method_48_code (3 : Nat) (Option.some Jvm.ClassFile.FieldType.boolean)) := by decide +kernel
theorem qw_1677 : lw_tbl[1677]? = some (Jvm.Cond.methodLink "KindGridsModel" (284 : Nat) (⟨"KindGridsModel", "cutDeed", "(IIIII)I"⟩ : MethodName)) := by decide +kernel
theorem qw_1679 : lw_tbl[1679]? = some (Jvm.Cond.instanceMethod (⟨"KindGridsModel", "cutDeed", "(IIIII)I"⟩ : MethodName)) := by decide +kernel
theorem qw_1680 : lw_tbl[1680]? = some (Jvm.Cond.code (⟨"KindGridsModel", "cutDeed", "(IIIII)I"⟩ : MethodName) prog_15_method_62_code (10 : Nat) (Option.some Jvm.ClassFile.FieldType.int)) := by decide +kernel
theorem qw_1681 : lw_tbl[1681]? = some (Jvm.Cond.methodLink "KindGridsModel" (280 : Nat) (⟨"KindGridsModel", "copies", "(IIII)V"⟩ : MethodName)) := by decide +kernel
theorem qw_1683 : lw_tbl[1683]? = some (Jvm.Cond.instanceMethod (⟨"KindGridsModel", "copies", "(IIII)V"⟩ : MethodName)) := by decide +kernel
theorem qw_1684 : lw_tbl[1684]? = some (Jvm.Cond.code (⟨"KindGridsModel", "copies", "(IIII)V"⟩ : MethodName) prog_15_method_61_code (5 : Nat) (Option.none : Option Jvm.ClassFile.FieldType)) := by decide +kernel
theorem qw_1689 : lw_tbl[1689]? = some (Jvm.Cond.methodLink "KindGridsModel" (288 : Nat) (⟨"KindGridsModel", "castDeed", "(III)I"⟩ : MethodName)) := by decide +kernel
theorem qw_1691 : lw_tbl[1691]? = some (Jvm.Cond.instanceMethod (⟨"KindGridsModel", "castDeed", "(III)I"⟩ : MethodName)) := by decide +kernel
theorem qw_1692 : lw_tbl[1692]? = some (Jvm.Cond.code (⟨"KindGridsModel", "castDeed", "(III)I"⟩ : MethodName) prog_15_method_64_code (8 : Nat) (Option.some Jvm.ClassFile.FieldType.int)) := by decide +kernel
theorem qw_1697 : lw_tbl[1697]? = some (Jvm.Cond.methodLink "KindGridsModel" (291 : Nat) (⟨"KindGridsModel", "pourDeed", "(IIII)I"⟩ : MethodName)) := by decide +kernel
theorem qw_1699 : lw_tbl[1699]? = some (Jvm.Cond.instanceMethod (⟨"KindGridsModel", "pourDeed", "(IIII)I"⟩ : MethodName)) := by decide +kernel
theorem qw_1700 : lw_tbl[1700]? = some (Jvm.Cond.code (⟨"KindGridsModel", "pourDeed", "(IIII)I"⟩ : MethodName) prog_15_method_66_code (10 : Nat) (Option.some Jvm.ClassFile.FieldType.int)) := by decide +kernel
theorem qw_1705 : lw_tbl[1705]? = some (Jvm.Cond.methodLink "KindGridsModel" (297 : Nat) (⟨"KindGridsModel", "joinDeed", "(III)I"⟩ : MethodName)) := by decide +kernel
theorem qw_1707 : lw_tbl[1707]? = some (Jvm.Cond.instanceMethod (⟨"KindGridsModel", "joinDeed", "(III)I"⟩ : MethodName)) := by decide +kernel
theorem qw_1708 : lw_tbl[1708]? = some (Jvm.Cond.code (⟨"KindGridsModel", "joinDeed", "(III)I"⟩ : MethodName) prog_15_method_69_code (10 : Nat) (Option.some Jvm.ClassFile.FieldType.int)) := by decide +kernel
theorem qw_1709 : lw_tbl[1709]? = some (Jvm.Cond.methodLink "KindGridsModel" (294 : Nat) (⟨"KindGridsModel", "leastKind", "(I)I"⟩ : MethodName)) := by decide +kernel
theorem qw_1710 : lw_tbl[1710]? = some (Jvm.Cond.static (⟨"KindGridsModel", "leastKind", "(I)I"⟩ : MethodName)) := by decide +kernel
theorem qw_1711 : lw_tbl[1711]? = some (Jvm.Cond.code (⟨"KindGridsModel", "leastKind", "(I)I"⟩ : MethodName) prog_15_method_68_code (4 : Nat) (Option.some Jvm.ClassFile.FieldType.int)) := by decide +kernel
theorem qw_1716 : lw_tbl[1716]? = some (Jvm.Cond.methodLink "KindGridsModel" (306 : Nat) (⟨"KindGridsModel", "flipDeed", "(II)I"⟩ : MethodName)) := by decide +kernel
theorem qw_1718 : lw_tbl[1718]? = some (Jvm.Cond.instanceMethod (⟨"KindGridsModel", "flipDeed", "(II)I"⟩ : MethodName)) := by decide +kernel
theorem qw_1719 : lw_tbl[1719]? = some (Jvm.Cond.code (⟨"KindGridsModel", "flipDeed", "(II)I"⟩ : MethodName) prog_15_method_73_code (6 : Nat) (Option.some Jvm.ClassFile.FieldType.int)) := by decide +kernel
theorem qw_1720 : lw_tbl[1720]? = some (Jvm.Cond.methodLink "KindGridsModel" (300 : Nat) (⟨"KindGridsModel", "laysBy", "(I)V"⟩ : MethodName)) := by decide +kernel
theorem qw_1722 : lw_tbl[1722]? = some (Jvm.Cond.instanceMethod (⟨"KindGridsModel", "laysBy", "(I)V"⟩ : MethodName)) := by decide +kernel
theorem qw_1723 : lw_tbl[1723]? = some (Jvm.Cond.code (⟨"KindGridsModel", "laysBy", "(I)V"⟩ : MethodName) prog_15_method_71_code (3 : Nat) (Option.none : Option Jvm.ClassFile.FieldType)) := by decide +kernel
theorem qw_1724 : lw_tbl[1724]? = some (Jvm.Cond.methodLink "KindGridsModel" (303 : Nat) (⟨"KindGridsModel", "fromBy", "(III)V"⟩ : MethodName)) := by decide +kernel
theorem qw_1726 : lw_tbl[1726]? = some (Jvm.Cond.instanceMethod (⟨"KindGridsModel", "fromBy", "(III)V"⟩ : MethodName)) := by decide +kernel
theorem qw_1727 : lw_tbl[1727]? = some (Jvm.Cond.code (⟨"KindGridsModel", "fromBy", "(III)V"⟩ : MethodName) prog_15_method_72_code (4 : Nat) (Option.none : Option Jvm.ClassFile.FieldType)) := by decide +kernel
theorem qw_1732 : lw_tbl[1732]? = some (Jvm.Cond.methodLink "KindGridsModel" (309 : Nat) (⟨"KindGridsModel", "rollDeed", "(III)I"⟩ : MethodName)) := by decide +kernel
theorem qw_1734 : lw_tbl[1734]? = some (Jvm.Cond.instanceMethod (⟨"KindGridsModel", "rollDeed", "(III)I"⟩ : MethodName)) := by decide +kernel
theorem qw_1735 : lw_tbl[1735]? = some (Jvm.Cond.code (⟨"KindGridsModel", "rollDeed", "(III)I"⟩ : MethodName) prog_15_method_75_code (8 : Nat) (Option.some Jvm.ClassFile.FieldType.int)) := by decide +kernel
theorem qw_1740 : lw_tbl[1740]? = some (Jvm.Cond.methodLink "KindGridsModel" (315 : Nat) (⟨"KindGridsModel", "orderDeed", "(II)I"⟩ : MethodName)) := by decide +kernel
theorem qw_1742 : lw_tbl[1742]? = some (Jvm.Cond.instanceMethod (⟨"KindGridsModel", "orderDeed", "(II)I"⟩ : MethodName)) := by decide +kernel
theorem qw_1743 : lw_tbl[1743]? = some (Jvm.Cond.code (⟨"KindGridsModel", "orderDeed", "(II)I"⟩ : MethodName) prog_15_method_78_code (9 : Nat) (Option.some Jvm.ClassFile.FieldType.int)) := by decide +kernel
theorem qw_1744 : lw_tbl[1744]? = some (Jvm.Cond.methodLink "KindGridsModel" (312 : Nat) (⟨"KindGridsModel", "isBehind", "(II)Z"⟩ : MethodName)) := by decide +kernel
theorem qw_1746 : lw_tbl[1746]? = some (Jvm.Cond.instanceMethod (⟨"KindGridsModel", "isBehind", "(II)Z"⟩ : MethodName)) := by decide +kernel
theorem qw_1747 : lw_tbl[1747]? = some (Jvm.Cond.code (⟨"KindGridsModel", "isBehind", "(II)Z"⟩ : MethodName) prog_15_method_77_code (3 : Nat) (Option.some Jvm.ClassFile.FieldType.boolean)) := by decide +kernel
theorem qw_1752 : lw_tbl[1752]? = some (Jvm.Cond.methodLink "KindGridsModel" (322 : Nat) (⟨"KindGridsModel", "addDeed", "(IIII)I"⟩ : MethodName)) := by decide +kernel
theorem qw_1754 : lw_tbl[1754]? = some (Jvm.Cond.instanceMethod (⟨"KindGridsModel", "addDeed", "(IIII)I"⟩ : MethodName)) := by decide +kernel
theorem qw_1755 : lw_tbl[1755]? = some (Jvm.Cond.code (⟨"KindGridsModel", "addDeed", "(IIII)I"⟩ : MethodName) prog_15_method_81_code (8 : Nat) (Option.some Jvm.ClassFile.FieldType.int)) := by decide +kernel
theorem qw_1756 : lw_tbl[1756]? = some (Jvm.Cond.methodLink "KindGridsModel" (318 : Nat) (⟨"KindGridsModel", "adds", "(IJD)V"⟩ : MethodName)) := by decide +kernel
theorem qw_1758 : lw_tbl[1758]? = some (Jvm.Cond.instanceMethod (⟨"KindGridsModel", "adds", "(IJD)V"⟩ : MethodName)) := by decide +kernel
theorem qw_1759 : lw_tbl[1759]? = some (Jvm.Cond.code (⟨"KindGridsModel", "adds", "(IJD)V"⟩ : MethodName) prog_15_method_80_code (6 : Nat) (Option.none : Option Jvm.ClassFile.FieldType)) := by decide +kernel
theorem qw_1764 : lw_tbl[1764]? = some (Jvm.Cond.methodLink "KindGridsModel" (329 : Nat) (⟨"KindGridsModel", "aboveDeed", "(IIIJI)I"⟩ : MethodName)) := by decide +kernel
theorem qw_1766 : lw_tbl[1766]? = some (Jvm.Cond.instanceMethod (⟨"KindGridsModel", "aboveDeed", "(IIIJI)I"⟩ : MethodName)) := by decide +kernel
theorem qw_1767 : lw_tbl[1767]? = some (Jvm.Cond.code (⟨"KindGridsModel", "aboveDeed", "(IIIJI)I"⟩ : MethodName) prog_15_method_84_code (13 : Nat) (Option.some Jvm.ClassFile.FieldType.int)) := by decide +kernel
theorem qw_1768 : lw_tbl[1768]? = some (Jvm.Cond.methodLink "KindGridsModel" (325 : Nat) (⟨"KindGridsModel", "isAbove", "(IIIJ)Z"⟩ : MethodName)) := by decide +kernel
theorem qw_1770 : lw_tbl[1770]? = some (Jvm.Cond.instanceMethod (⟨"KindGridsModel", "isAbove", "(IIIJ)Z"⟩ : MethodName)) := by decide +kernel
theorem qw_1771 : lw_tbl[1771]? = some (Jvm.Cond.code (⟨"KindGridsModel", "isAbove", "(IIIJ)Z"⟩ : MethodName) prog_15_method_83_code (10 : Nat) (Option.some Jvm.ClassFile.FieldType.boolean)) := by decide +kernel
theorem qw_1776 : lw_tbl[1776]? = some (Jvm.Cond.methodLink "KindGridsModel" (333 : Nat) (⟨"KindGridsModel", "pickDeed", "(III)I"⟩ : MethodName)) := by decide +kernel
theorem qw_1778 : lw_tbl[1778]? = some (Jvm.Cond.instanceMethod (⟨"KindGridsModel", "pickDeed", "(III)I"⟩ : MethodName)) := by decide +kernel
theorem qw_1779 : lw_tbl[1779]? = some (Jvm.Cond.code (⟨"KindGridsModel", "pickDeed", "(III)I"⟩ : MethodName) prog_15_method_86_code (11 : Nat) (Option.some Jvm.ClassFile.FieldType.int)) := by decide +kernel
theorem qw_1784 : lw_tbl[1784]? = some (Jvm.Cond.methodLink "KindGridsModel" (339 : Nat) (⟨"KindGridsModel", "flatDeed", "(III)I"⟩ : MethodName)) := by decide +kernel
theorem qw_1786 : lw_tbl[1786]? = some (Jvm.Cond.instanceMethod (⟨"KindGridsModel", "flatDeed", "(III)I"⟩ : MethodName)) := by decide +kernel
theorem qw_1787 : lw_tbl[1787]? = some (Jvm.Cond.code (⟨"KindGridsModel", "flatDeed", "(III)I"⟩ : MethodName) prog_15_method_89_code (11 : Nat) (Option.some Jvm.ClassFile.FieldType.int)) := by decide +kernel
theorem qw_1788 : lw_tbl[1788]? = some (Jvm.Cond.methodLink "KindGridsModel" (336 : Nat) (⟨"KindGridsModel", "isRow", "(II)Z"⟩ : MethodName)) := by decide +kernel
theorem qw_1790 : lw_tbl[1790]? = some (Jvm.Cond.instanceMethod (⟨"KindGridsModel", "isRow", "(II)Z"⟩ : MethodName)) := by decide +kernel
theorem qw_1791 : lw_tbl[1791]? = some (Jvm.Cond.code (⟨"KindGridsModel", "isRow", "(II)Z"⟩ : MethodName) prog_15_method_88_code (3 : Nat) (Option.some Jvm.ClassFile.FieldType.boolean)) := by decide +kernel
theorem qw_1796 : lw_tbl[1796]? = some (Jvm.Cond.methodLink "KindGridsModel" (345 : Nat) (⟨"KindGridsModel", "dealDeed", "(IIII)I"⟩ : MethodName)) := by decide +kernel
theorem qw_1798 : lw_tbl[1798]? = some (Jvm.Cond.instanceMethod (⟨"KindGridsModel", "dealDeed", "(IIII)I"⟩ : MethodName)) := by decide +kernel
theorem qw_1799 : lw_tbl[1799]? = some (Jvm.Cond.code (⟨"KindGridsModel", "dealDeed", "(IIII)I"⟩ : MethodName) prog_15_method_92_code (10 : Nat) (Option.some Jvm.ClassFile.FieldType.int)) := by decide +kernel
theorem qw_1800 : lw_tbl[1800]? = some (Jvm.Cond.methodLink "KindGridsModel" (342 : Nat) (⟨"KindGridsModel", "comes", "(II)I"⟩ : MethodName)) := by decide +kernel
theorem qw_1802 : lw_tbl[1802]? = some (Jvm.Cond.instanceMethod (⟨"KindGridsModel", "comes", "(II)I"⟩ : MethodName)) := by decide +kernel
theorem qw_1803 : lw_tbl[1803]? = some (Jvm.Cond.code (⟨"KindGridsModel", "comes", "(II)I"⟩ : MethodName) prog_15_method_91_code (4 : Nat) (Option.some Jvm.ClassFile.FieldType.int)) := by decide +kernel
theorem qw_1808 : lw_tbl[1808]? = some (Jvm.Cond.methodLink "KindGridsModel" (357 : Nat) (⟨"KindGridsModel", "turnDeed", "(II)I"⟩ : MethodName)) := by decide +kernel
theorem qw_1810 : lw_tbl[1810]? = some (Jvm.Cond.instanceMethod (⟨"KindGridsModel", "turnDeed", "(II)I"⟩ : MethodName)) := by decide +kernel
theorem qw_1811 : lw_tbl[1811]? = some (Jvm.Cond.code (⟨"KindGridsModel", "turnDeed", "(II)I"⟩ : MethodName) prog_15_method_97_code (5 : Nat) (Option.some Jvm.ClassFile.FieldType.int)) := by decide +kernel
theorem qw_1812 : lw_tbl[1812]? = some (Jvm.Cond.methodLink "KindGridsModel" (351 : Nat) (⟨"KindGridsModel", "longest", "(I)I"⟩ : MethodName)) := by decide +kernel
theorem qw_1814 : lw_tbl[1814]? = some (Jvm.Cond.instanceMethod (⟨"KindGridsModel", "longest", "(I)I"⟩ : MethodName)) := by decide +kernel
theorem qw_1815 : lw_tbl[1815]? = some (Jvm.Cond.code (⟨"KindGridsModel", "longest", "(I)I"⟩ : MethodName) prog_15_method_94_code (4 : Nat) (Option.some Jvm.ClassFile.FieldType.int)) := by decide +kernel
theorem qw_1816 : lw_tbl[1816]? = some (Jvm.Cond.methodLink "KindGridsModel" (354 : Nat) (⟨"KindGridsModel", "columnRow", "(II)I"⟩ : MethodName)) := by decide +kernel
theorem qw_1818 : lw_tbl[1818]? = some (Jvm.Cond.instanceMethod (⟨"KindGridsModel", "columnRow", "(II)I"⟩ : MethodName)) := by decide +kernel
theorem qw_1819 : lw_tbl[1819]? = some (Jvm.Cond.code (⟨"KindGridsModel", "columnRow", "(II)I"⟩ : MethodName) prog_15_method_96_code (8 : Nat) (Option.some Jvm.ClassFile.FieldType.int)) := by decide +kernel
theorem qw_1820 : lw_tbl[1820]? = some (Jvm.Cond.methodLink "KindGridsModel" (348 : Nat) (⟨"KindGridsModel", "hasCell", "(III)Z"⟩ : MethodName)) := by decide +kernel
theorem qw_1822 : lw_tbl[1822]? = some (Jvm.Cond.instanceMethod (⟨"KindGridsModel", "hasCell", "(III)Z"⟩ : MethodName)) := by decide +kernel
theorem qw_1823 : lw_tbl[1823]? = some (Jvm.Cond.code (⟨"KindGridsModel", "hasCell", "(III)Z"⟩ : MethodName) prog_15_method_95_code (4 : Nat) (Option.some Jvm.ClassFile.FieldType.boolean)) := by decide +kernel
theorem qw_1828 : lw_tbl[1828]? = some (Jvm.Cond.methodLink "KindGridsModel" (367 : Nat) (⟨"KindGridsModel", "timesDeed", "(III)I"⟩ : MethodName)) := by decide +kernel
theorem qw_1830 : lw_tbl[1830]? = some (Jvm.Cond.instanceMethod (⟨"KindGridsModel", "timesDeed", "(III)I"⟩ : MethodName)) := by decide +kernel
theorem qw_1831 : lw_tbl[1831]? = some (Jvm.Cond.code (⟨"KindGridsModel", "timesDeed", "(III)I"⟩ : MethodName) prog_15_method_101_code (10 : Nat) (Option.some Jvm.ClassFile.FieldType.int)) := by decide +kernel
theorem qw_1832 : lw_tbl[1832]? = some (Jvm.Cond.methodLink "KindGridsModel" (360 : Nat) (⟨"KindGridsModel", "firstUnlike", "(II)I"⟩ : MethodName)) := by decide +kernel
theorem qw_1834 : lw_tbl[1834]? = some (Jvm.Cond.instanceMethod (⟨"KindGridsModel", "firstUnlike", "(II)I"⟩ : MethodName)) := by decide +kernel
theorem qw_1835 : lw_tbl[1835]? = some (Jvm.Cond.code (⟨"KindGridsModel", "firstUnlike", "(II)I"⟩ : MethodName) prog_15_method_99_code (4 : Nat) (Option.some Jvm.ClassFile.FieldType.int)) := by decide +kernel
theorem qw_1836 : lw_tbl[1836]? = some (Jvm.Cond.methodLink "KindGridsModel" (363 : Nat) (⟨"KindGridsModel", "product", "(IIII)J"⟩ : MethodName)) := by decide +kernel
theorem qw_1838 : lw_tbl[1838]? = some (Jvm.Cond.instanceMethod (⟨"KindGridsModel", "product", "(IIII)J"⟩ : MethodName)) := by decide +kernel
theorem qw_1839 : lw_tbl[1839]? = some (Jvm.Cond.code (⟨"KindGridsModel", "product", "(IIII)J"⟩ : MethodName) prog_15_method_100_code (9 : Nat) (Option.some Jvm.ClassFile.FieldType.long)) := by decide +kernel
theorem qw_1844 : lw_tbl[1844]? = some (Jvm.Cond.methodLink "KindGridsModel" (400 : Nat) (⟨"KindGridsModel", "foldAnswer", "(IIIII)I"⟩ : MethodName)) := by decide +kernel
theorem qw_1846 : lw_tbl[1846]? = some (Jvm.Cond.instanceMethod (⟨"KindGridsModel", "foldAnswer", "(IIIII)I"⟩ : MethodName)) := by decide +kernel
theorem qw_1847 : lw_tbl[1847]? = some (Jvm.Cond.code (⟨"KindGridsModel", "foldAnswer", "(IIIII)I"⟩ : MethodName) prog_15_method_107_code (12 : Nat) (Option.some Jvm.ClassFile.FieldType.int)) := by decide +kernel
theorem qw_1848 : lw_tbl[1848]? = some (Jvm.Cond.methodLink "KindGridsModel" (379 : Nat) (⟨"KindGridsModel", "isAs", "(I)Z"⟩ : MethodName)) := by decide +kernel
theorem qw_1849 : lw_tbl[1849]? = some (Jvm.Cond.static (⟨"KindGridsModel", "isAs", "(I)Z"⟩ : MethodName)) := by decide +kernel
theorem qw_1850 : lw_tbl[1850]? = some (Jvm.Cond.code (⟨"KindGridsModel", "isAs", "(I)Z"⟩ : MethodName) prog_15_method_105_code (1 : Nat) (Option.some Jvm.ClassFile.FieldType.boolean)) := by decide +kernel
theorem qw_1851 : lw_tbl[1851]? = some (Jvm.Cond.methodLink "KindGridsModel" (382 : Nat) (⟨"KindGridsModel", "isOfWay", "(IIII)Z"⟩ : MethodName)) := by decide +kernel
theorem qw_1852 : lw_tbl[1852]? = some (Jvm.Cond.static (⟨"KindGridsModel", "isOfWay", "(IIII)Z"⟩ : MethodName)) := by decide +kernel
theorem qw_1853 : lw_tbl[1853]? = some (Jvm.Cond.code (⟨"KindGridsModel", "isOfWay", "(IIII)Z"⟩ : MethodName) prog_15_method_106_code (4 : Nat) (Option.some Jvm.ClassFile.FieldType.boolean)) := by decide +kernel
theorem qw_1854 : lw_tbl[1854]? = some (Jvm.Cond.methodLink "KindGridsModel" (386 : Nat) (⟨"KindGridsModel", "foldsCell", "(IIII)Z"⟩ : MethodName)) := by decide +kernel
theorem qw_1856 : lw_tbl[1856]? = some (Jvm.Cond.instanceMethod (⟨"KindGridsModel", "foldsCell", "(IIII)Z"⟩ : MethodName)) := by decide +kernel
theorem qw_1857 : lw_tbl[1857]? = some (Jvm.Cond.code (⟨"KindGridsModel", "foldsCell", "(IIII)Z"⟩ : MethodName) prog_15_method_108_code (5 : Nat) (Option.some Jvm.ClassFile.FieldType.boolean)) := by decide +kernel
theorem qw_1858 : lw_tbl[1858]? = some (Jvm.Cond.methodLink "KindGridsModel" (392 : Nat) (⟨"KindGridsModel", "foldsReal", "(ID)V"⟩ : MethodName)) := by decide +kernel
theorem qw_1860 : lw_tbl[1860]? = some (Jvm.Cond.instanceMethod (⟨"KindGridsModel", "foldsReal", "(ID)V"⟩ : MethodName)) := by decide +kernel
theorem qw_1861 : lw_tbl[1861]? = some (Jvm.Cond.code (⟨"KindGridsModel", "foldsReal", "(ID)V"⟩ : MethodName) prog_15_method_104_code (4 : Nat) (Option.none : Option Jvm.ClassFile.FieldType)) := by decide +kernel
theorem qw_1862 : lw_tbl[1862]? = some (Jvm.Cond.methodLink "KindGridsModel" (396 : Nat) (⟨"KindGridsModel", "foldsNumber", "(IIJ)V"⟩ : MethodName)) := by decide +kernel
theorem qw_1864 : lw_tbl[1864]? = some (Jvm.Cond.instanceMethod (⟨"KindGridsModel", "foldsNumber", "(IIJ)V"⟩ : MethodName)) := by decide +kernel
theorem qw_1865 : lw_tbl[1865]? = some (Jvm.Cond.code (⟨"KindGridsModel", "foldsNumber", "(IIJ)V"⟩ : MethodName) prog_15_method_103_code (5 : Nat) (Option.none : Option Jvm.ClassFile.FieldType)) := by decide +kernel
theorem qw_1870 : lw_tbl[1870]? = some (Jvm.Cond.methodLink "KindGridsModel" (403 : Nat) (⟨"KindGridsModel", "dotAnswer", "(IIIII)I"⟩ : MethodName)) := by decide +kernel
theorem qw_1872 : lw_tbl[1872]? = some (Jvm.Cond.instanceMethod (⟨"KindGridsModel", "dotAnswer", "(IIIII)I"⟩ : MethodName)) := by decide +kernel
theorem qw_1873 : lw_tbl[1873]? = some (Jvm.Cond.code (⟨"KindGridsModel", "dotAnswer", "(IIIII)I"⟩ : MethodName) prog_15_method_110_code (15 : Nat) (Option.some Jvm.ClassFile.FieldType.int)) := by decide +kernel
theorem qw_1878 : lw_tbl[1878]? = some (Jvm.Cond.methodLink "KindGridsModel" (410 : Nat) (⟨"KindGridsModel", "trailAnswer", "(I)I"⟩ : MethodName)) := by decide +kernel
theorem qw_1880 : lw_tbl[1880]? = some (Jvm.Cond.instanceMethod (⟨"KindGridsModel", "trailAnswer", "(I)I"⟩ : MethodName)) := by decide +kernel
theorem qw_1881 : lw_tbl[1881]? = some (Jvm.Cond.code (⟨"KindGridsModel", "trailAnswer", "(I)I"⟩ : MethodName) prog_15_method_113_code (5 : Nat) (Option.some Jvm.ClassFile.FieldType.int)) := by decide +kernel
theorem qw_1882 : lw_tbl[1882]? = some (Jvm.Cond.methodLink "KindGridsModel" (406 : Nat) (⟨"KindGridsModel", "trails", "(IZ)V"⟩ : MethodName)) := by decide +kernel
theorem qw_1884 : lw_tbl[1884]? = some (Jvm.Cond.instanceMethod (⟨"KindGridsModel", "trails", "(IZ)V"⟩ : MethodName)) := by decide +kernel
theorem qw_1885 : lw_tbl[1885]? = some (Jvm.Cond.code (⟨"KindGridsModel", "trails", "(IZ)V"⟩ : MethodName) prog_15_method_112_code (5 : Nat) (Option.none : Option Jvm.ClassFile.FieldType)) := by decide +kernel
theorem qw_1890 : lw_tbl[1890]? = some (Jvm.Cond.methodLink "KindGridsModel" (430 : Nat) (⟨"KindGridsModel", "patchAnswer", "(III)I"⟩ : MethodName)) := by decide +kernel
theorem qw_1892 : lw_tbl[1892]? = some (Jvm.Cond.instanceMethod (⟨"KindGridsModel", "patchAnswer", "(III)I"⟩ : MethodName)) := by decide +kernel
theorem qw_1893 : lw_tbl[1893]? = some (Jvm.Cond.code (⟨"KindGridsModel", "patchAnswer", "(III)I"⟩ : MethodName) prog_15_method_120_code (7 : Nat) (Option.some Jvm.ClassFile.FieldType.int)) := by decide +kernel
theorem qw_1894 : lw_tbl[1894]? = some (Jvm.Cond.methodLink "KindGridsModel" (422 : Nat) (⟨"KindGridsModel", "noMarks", "()V"⟩ : MethodName)) := by decide +kernel
theorem qw_1896 : lw_tbl[1896]? = some (Jvm.Cond.instanceMethod (⟨"KindGridsModel", "noMarks", "()V"⟩ : MethodName)) := by decide +kernel
theorem qw_1897 : lw_tbl[1897]? = some (Jvm.Cond.code (⟨"KindGridsModel", "noMarks", "()V"⟩ : MethodName) prog_15_method_119_code (2 : Nat) (Option.none : Option Jvm.ClassFile.FieldType)) := by decide +kernel
theorem qw_1898 : lw_tbl[1898]? = some (Jvm.Cond.methodLink "KindGridsModel" (425 : Nat) (⟨"KindGridsModel", "grows", "(III)I"⟩ : MethodName)) := by decide +kernel
theorem qw_1900 : lw_tbl[1900]? = some (Jvm.Cond.instanceMethod (⟨"KindGridsModel", "grows", "(III)I"⟩ : MethodName)) := by decide +kernel
theorem qw_1901 : lw_tbl[1901]? = some (Jvm.Cond.code (⟨"KindGridsModel", "grows", "(III)I"⟩ : MethodName) prog_15_method_118_code (7 : Nat) (Option.some Jvm.ClassFile.FieldType.int)) := by decide +kernel
theorem qw_1902 : lw_tbl[1902]? = some (Jvm.Cond.methodLink "KindGridsModel" (419 : Nat) (⟨"KindGridsModel", "isBeside", "(III)Z"⟩ : MethodName)) := by decide +kernel
theorem qw_1904 : lw_tbl[1904]? = some (Jvm.Cond.instanceMethod (⟨"KindGridsModel", "isBeside", "(III)Z"⟩ : MethodName)) := by decide +kernel
theorem qw_1905 : lw_tbl[1905]? = some (Jvm.Cond.code (⟨"KindGridsModel", "isBeside", "(III)Z"⟩ : MethodName) prog_15_method_117_code (6 : Nat) (Option.some Jvm.ClassFile.FieldType.boolean)) := by decide +kernel
theorem qw_1906 : lw_tbl[1906]? = some (Jvm.Cond.methodLink "KindGridsModel" (416 : Nat) (⟨"KindGridsModel", "joins", "(IIII)Z"⟩ : MethodName)) := by decide +kernel
theorem qw_1908 : lw_tbl[1908]? = some (Jvm.Cond.instanceMethod (⟨"KindGridsModel", "joins", "(IIII)Z"⟩ : MethodName)) := by decide +kernel
theorem qw_1909 : lw_tbl[1909]? = some (Jvm.Cond.code (⟨"KindGridsModel", "joins", "(IIII)Z"⟩ : MethodName) prog_15_method_116_code (5 : Nat) (Option.some Jvm.ClassFile.FieldType.boolean)) := by decide +kernel
theorem qw_1910 : lw_tbl[1910]? = some (Jvm.Cond.methodLink "KindGridsModel" (413 : Nat) (⟨"KindGridsModel", "cellAt", "(II)I"⟩ : MethodName)) := by decide +kernel
theorem qw_1912 : lw_tbl[1912]? = some (Jvm.Cond.instanceMethod (⟨"KindGridsModel", "cellAt", "(II)I"⟩ : MethodName)) := by decide +kernel
theorem qw_1913 : lw_tbl[1913]? = some (Jvm.Cond.code (⟨"KindGridsModel", "cellAt", "(II)I"⟩ : MethodName) prog_15_method_115_code (3 : Nat) (Option.some Jvm.ClassFile.FieldType.int)) := by decide +kernel
theorem qw_1914 : lw_tbl[1914]? = some (Jvm.Cond.constantLong "KindGridsModel" (428 : Nat) (100 : Int64)) := by decide +kernel
theorem qw_1919 : lw_tbl[1919]? = some (Jvm.Cond.methodLink "KindGridsModel" (433 : Nat) (⟨"KindGridsModel", "patchesAnswer", "(I)I"⟩ : MethodName)) := by decide +kernel
theorem qw_1921 : lw_tbl[1921]? = some (Jvm.Cond.instanceMethod (⟨"KindGridsModel", "patchesAnswer", "(I)I"⟩ : MethodName)) := by decide +kernel
theorem qw_1922 : lw_tbl[1922]? = some (Jvm.Cond.code (⟨"KindGridsModel", "patchesAnswer", "(I)I"⟩ : MethodName) prog_15_method_122_code (6 : Nat) (Option.some Jvm.ClassFile.FieldType.int)) := by decide +kernel
theorem qw_1927 : lw_tbl[1927]? = some (Jvm.Cond.methodLink "KindGridsModel" (436 : Nat) (⟨"KindGridsModel", "paintDeed", "(IIIIJ)I"⟩ : MethodName)) := by decide +kernel
theorem qw_1929 : lw_tbl[1929]? = some (Jvm.Cond.instanceMethod (⟨"KindGridsModel", "paintDeed", "(IIIIJ)I"⟩ : MethodName)) := by decide +kernel
theorem qw_1930 : lw_tbl[1930]? = some (Jvm.Cond.code (⟨"KindGridsModel", "paintDeed", "(IIIIJ)I"⟩ : MethodName) prog_15_method_124_code (10 : Nat) (Option.some Jvm.ClassFile.FieldType.int)) := by decide +kernel
theorem qw_1935 : lw_tbl[1935]? = some (Jvm.Cond.methodLink "KindGridsModel" (447 : Nat) (⟨"KindGridsModel", "blockAnswer", "(I)I"⟩ : MethodName)) := by decide +kernel
theorem qw_1937 : lw_tbl[1937]? = some (Jvm.Cond.instanceMethod (⟨"KindGridsModel", "blockAnswer", "(I)I"⟩ : MethodName)) := by decide +kernel
theorem qw_1938 : lw_tbl[1938]? = some (Jvm.Cond.code (⟨"KindGridsModel", "blockAnswer", "(I)I"⟩ : MethodName) prog_15_method_127_code (9 : Nat) (Option.some Jvm.ClassFile.FieldType.int)) := by decide +kernel
theorem qw_1939 : lw_tbl[1939]? = some (Jvm.Cond.methodLink "KindGridsModel" (442 : Nat) (⟨"KindGridsModel", "isBlock", "(IIIII)Z"⟩ : MethodName)) := by decide +kernel
theorem qw_1941 : lw_tbl[1941]? = some (Jvm.Cond.instanceMethod (⟨"KindGridsModel", "isBlock", "(IIIII)Z"⟩ : MethodName)) := by decide +kernel
theorem qw_1942 : lw_tbl[1942]? = some (Jvm.Cond.code (⟨"KindGridsModel", "isBlock", "(IIIII)Z"⟩ : MethodName) prog_15_method_126_code (8 : Nat) (Option.some Jvm.ClassFile.FieldType.boolean)) := by decide +kernel
theorem qw_1943 : lw_tbl[1943]? = some (Jvm.Cond.constant "KindGridsModel" (446 : Nat) (1000000 : Int32)) := by decide +kernel
theorem qw_1948 : lw_tbl[1948]? = some (Jvm.Cond.methodLink "KindGridsModel" (453 : Nat) (⟨"KindGridsModel", "liesAnswer", "(III)I"⟩ : MethodName)) := by decide +kernel
theorem qw_1950 : lw_tbl[1950]? = some (Jvm.Cond.instanceMethod (⟨"KindGridsModel", "liesAnswer", "(III)I"⟩ : MethodName)) := by decide +kernel
theorem qw_1951 : lw_tbl[1951]? = some (Jvm.Cond.code (⟨"KindGridsModel", "liesAnswer", "(III)I"⟩ : MethodName) prog_15_method_130_code (8 : Nat) (Option.some Jvm.ClassFile.FieldType.int)) := by decide +kernel
theorem qw_1952 : lw_tbl[1952]? = some (Jvm.Cond.methodLink "KindGridsModel" (450 : Nat) (⟨"KindGridsModel", "isLying", "(IIII)Z"⟩ : MethodName)) := by decide +kernel
theorem qw_1954 : lw_tbl[1954]? = some (Jvm.Cond.instanceMethod (⟨"KindGridsModel", "isLying", "(IIII)Z"⟩ : MethodName)) := by decide +kernel
theorem qw_1955 : lw_tbl[1955]? = some (Jvm.Cond.code (⟨"KindGridsModel", "isLying", "(IIII)Z"⟩ : MethodName) prog_15_method_129_code (9 : Nat) (Option.some Jvm.ClassFile.FieldType.boolean)) := by decide +kernel
theorem qw_1960 : lw_tbl[1960]? = some (Jvm.Cond.methodLink "KindGridsModel" (456 : Nat) (⟨"KindGridsModel", "keeps", "(I)V"⟩ : MethodName)) := by decide +kernel
theorem qw_1962 : lw_tbl[1962]? = some (Jvm.Cond.instanceMethod (⟨"KindGridsModel", "keeps", "(I)V"⟩ : MethodName)) := by decide +kernel
theorem qw_1963 : lw_tbl[1963]? = some (Jvm.Cond.code (⟨"KindGridsModel", "keeps", "(I)V"⟩ : MethodName) prog_15_method_132_code (3 : Nat) (Option.none : Option Jvm.ClassFile.FieldType)) := by decide +kernel
theorem qw_1964 : lw_tbl[1964]? = some (Jvm.Cond.methodLink "KindGridsModel" (459 : Nat) (⟨"KindGridsModel", "gridMany", "()I"⟩ : MethodName)) := by decide +kernel
theorem qw_1966 : lw_tbl[1966]? = some (Jvm.Cond.instanceMethod (⟨"KindGridsModel", "gridMany", "()I"⟩ : MethodName)) := by decide +kernel
theorem qw_1967 : lw_tbl[1967]? = some (Jvm.Cond.code (⟨"KindGridsModel", "gridMany", "()I"⟩ : MethodName) prog_15_method_134_code (3 : Nat) (Option.some Jvm.ClassFile.FieldType.int)) := by decide +kernel
theorem qw_1972 : lw_tbl[1972]? = some (Jvm.Cond.methodLink "KindGridsModel" (463 : Nat) (⟨"KindGridsModel", "comesBack", "(I)V"⟩ : MethodName)) := by decide +kernel
theorem qw_1974 : lw_tbl[1974]? = some (Jvm.Cond.instanceMethod (⟨"KindGridsModel", "comesBack", "(I)V"⟩ : MethodName)) := by decide +kernel
theorem qw_1975 : lw_tbl[1975]? = some (Jvm.Cond.code (⟨"KindGridsModel", "comesBack", "(I)V"⟩ : MethodName) prog_15_method_133_code (3 : Nat) (Option.none : Option Jvm.ClassFile.FieldType)) := by decide +kernel
theorem qw_1988 : lw_tbl[1988]? = some (Jvm.Cond.methodLink "KindGridsModel" (525 : Nat) (⟨"KindGridsModel", "planDeed", "()I"⟩ : MethodName)) := by decide +kernel
theorem qw_1990 : lw_tbl[1990]? = some (Jvm.Cond.instanceMethod (⟨"KindGridsModel", "planDeed", "()I"⟩ : MethodName)) := by decide +kernel
theorem qw_1991 : lw_tbl[1991]? = some (Jvm.Cond.code (⟨"KindGridsModel", "planDeed", "()I"⟩ : MethodName) prog_15_method_151_code (4 : Nat) (Option.some Jvm.ClassFile.FieldType.int)) := by decide +kernel
theorem qw_1992 : lw_tbl[1992]? = some (Jvm.Cond.methodLink "KindGridsModel" (518 : Nat) (⟨"KindGridsModel", "reads", "()Z"⟩ : MethodName)) := by decide +kernel
theorem qw_1994 : lw_tbl[1994]? = some (Jvm.Cond.instanceMethod (⟨"KindGridsModel", "reads", "()Z"⟩ : MethodName)) := by decide +kernel
theorem qw_1995 : lw_tbl[1995]? = some (Jvm.Cond.code (⟨"KindGridsModel", "reads", "()Z"⟩ : MethodName) prog_15_method_149_code (1 : Nat) (Option.some Jvm.ClassFile.FieldType.boolean)) := by decide +kernel
theorem qw_1996 : lw_tbl[1996]? = some (Jvm.Cond.methodLink "KindGridsModel" (508 : Nat) (⟨"KindGridsModel", "passesBlanks", "()V"⟩ : MethodName)) := by decide +kernel
theorem qw_1998 : lw_tbl[1998]? = some (Jvm.Cond.instanceMethod (⟨"KindGridsModel", "passesBlanks", "()V"⟩ : MethodName)) := by decide +kernel
theorem qw_1999 : lw_tbl[1999]? = some (Jvm.Cond.code (⟨"KindGridsModel", "passesBlanks", "()V"⟩ : MethodName) prog_15_method_141_code (1 : Nat) (Option.none : Option Jvm.ClassFile.FieldType)) := by decide +kernel
theorem qw_2000 : lw_tbl[2000]? = some (Jvm.Cond.methodLink "KindGridsModel" (515 : Nat) (⟨"KindGridsModel", "readsStep", "()Z"⟩ : MethodName)) := by decide +kernel
theorem qw_2002 : lw_tbl[2002]? = some (Jvm.Cond.instanceMethod (⟨"KindGridsModel", "readsStep", "()Z"⟩ : MethodName)) := by decide +kernel
theorem qw_2003 : lw_tbl[2003]? = some (Jvm.Cond.code (⟨"KindGridsModel", "readsStep", "()Z"⟩ : MethodName) prog_15_method_148_code (4 : Nat) (Option.some Jvm.ClassFile.FieldType.boolean)) := by decide +kernel
theorem qw_2004 : lw_tbl[2004]? = some (Jvm.Cond.methodLink "KindGridsModel" (472 : Nat) (⟨"KindGridsModel", "isLetter", "(I)Z"⟩ : MethodName)) := by decide +kernel
theorem qw_2006 : lw_tbl[2006]? = some (Jvm.Cond.instanceMethod (⟨"KindGridsModel", "isLetter", "(I)Z"⟩ : MethodName)) := by decide +kernel
theorem qw_2007 : lw_tbl[2007]? = some (Jvm.Cond.code (⟨"KindGridsModel", "isLetter", "(I)Z"⟩ : MethodName) prog_15_method_139_code (2 : Nat) (Option.some Jvm.ClassFile.FieldType.boolean)) := by decide +kernel
theorem qw_2008 : lw_tbl[2008]? = some (Jvm.Cond.methodLink "KindGridsModel" (499 : Nat) (⟨"KindGridsModel", "word", "()J"⟩ : MethodName)) := by decide +kernel
theorem qw_2010 : lw_tbl[2010]? = some (Jvm.Cond.instanceMethod (⟨"KindGridsModel", "word", "()J"⟩ : MethodName)) := by decide +kernel
theorem qw_2011 : lw_tbl[2011]? = some (Jvm.Cond.code (⟨"KindGridsModel", "word", "()J"⟩ : MethodName) prog_15_method_142_code (4 : Nat) (Option.some Jvm.ClassFile.FieldType.long)) := by decide +kernel
theorem qw_2012 : lw_tbl[2012]? = some (Jvm.Cond.constantLong "KindGridsModel" (475 : Nat) (32 : Int64)) := by decide +kernel
theorem qw_2013 : lw_tbl[2013]? = some (Jvm.Cond.constantLong "KindGridsModel" (477 : Nat) (-1 : Int64)) := by decide +kernel
theorem qw_2014 : lw_tbl[2014]? = some (Jvm.Cond.methodLink "KindGridsModel" (502 : Nat) (⟨"KindGridsModel", "deedOf", "(J)I"⟩ : MethodName)) := by decide +kernel
theorem qw_2015 : lw_tbl[2015]? = some (Jvm.Cond.static (⟨"KindGridsModel", "deedOf", "(J)I"⟩ : MethodName)) := by decide +kernel
theorem qw_2016 : lw_tbl[2016]? = some (Jvm.Cond.code (⟨"KindGridsModel", "deedOf", "(J)I"⟩ : MethodName) prog_15_method_144_code (2 : Nat) (Option.some Jvm.ClassFile.FieldType.int)) := by decide +kernel
theorem qw_2017 : lw_tbl[2017]? = some (Jvm.Cond.methodLink "KindGridsModel" (479 : Nat) (⟨"KindGridsModel", "packed", "(IIII)J"⟩ : MethodName)) := by decide +kernel
theorem qw_2018 : lw_tbl[2018]? = some (Jvm.Cond.static (⟨"KindGridsModel", "packed", "(IIII)J"⟩ : MethodName)) := by decide +kernel
theorem qw_2019 : lw_tbl[2019]? = some (Jvm.Cond.code (⟨"KindGridsModel", "packed", "(IIII)J"⟩ : MethodName) prog_15_method_143_code (4 : Nat) (Option.some Jvm.ClassFile.FieldType.long)) := by decide +kernel
theorem qw_2020 : lw_tbl[2020]? = some (Jvm.Cond.constantLong "KindGridsModel" (482 : Nat) (5 : Int64)) := by decide +kernel
theorem qw_2021 : lw_tbl[2021]? = some (Jvm.Cond.methodLink "KindGridsModel" (484 : Nat) (⟨"KindGridsModel", "laterDeed", "(J)I"⟩ : MethodName)) := by decide +kernel
theorem qw_2022 : lw_tbl[2022]? = some (Jvm.Cond.static (⟨"KindGridsModel", "laterDeed", "(J)I"⟩ : MethodName)) := by decide +kernel
theorem qw_2023 : lw_tbl[2023]? = some (Jvm.Cond.code (⟨"KindGridsModel", "laterDeed", "(J)I"⟩ : MethodName) prog_15_method_145_code (2 : Nat) (Option.some Jvm.ClassFile.FieldType.int)) := by decide +kernel
theorem qw_2024 : lw_tbl[2024]? = some (Jvm.Cond.constantLong "KindGridsModel" (488 : Nat) (18 : Int64)) := by decide +kernel
theorem qw_2025 : lw_tbl[2025]? = some (Jvm.Cond.methodLink "KindGridsModel" (505 : Nat) (⟨"KindGridsModel", "numbersOf", "(I)I"⟩ : MethodName)) := by decide +kernel
theorem qw_2026 : lw_tbl[2026]? = some (Jvm.Cond.static (⟨"KindGridsModel", "numbersOf", "(I)I"⟩ : MethodName)) := by decide +kernel
theorem qw_2027 : lw_tbl[2027]? = some (Jvm.Cond.code (⟨"KindGridsModel", "numbersOf", "(I)I"⟩ : MethodName) prog_15_method_146_code (1 : Nat) (Option.some Jvm.ClassFile.FieldType.int)) := by decide +kernel
theorem qw_2028 : lw_tbl[2028]? = some (Jvm.Cond.methodLink "KindGridsModel" (511 : Nat) (⟨"KindGridsModel", "readsNumber", "()Z"⟩ : MethodName)) := by decide +kernel
theorem qw_2030 : lw_tbl[2030]? = some (Jvm.Cond.instanceMethod (⟨"KindGridsModel", "readsNumber", "()Z"⟩ : MethodName)) := by decide +kernel
theorem qw_2031 : lw_tbl[2031]? = some (Jvm.Cond.code (⟨"KindGridsModel", "readsNumber", "()Z"⟩ : MethodName) prog_15_method_147_code (3 : Nat) (Option.some Jvm.ClassFile.FieldType.boolean)) := by decide +kernel
theorem qw_2032 : lw_tbl[2032]? = some (Jvm.Cond.methodLink "KindGridsModel" (493 : Nat) (⟨"KindGridsModel", "isFigure", "(I)Z"⟩ : MethodName)) := by decide +kernel
theorem qw_2034 : lw_tbl[2034]? = some (Jvm.Cond.instanceMethod (⟨"KindGridsModel", "isFigure", "(I)Z"⟩ : MethodName)) := by decide +kernel
theorem qw_2035 : lw_tbl[2035]? = some (Jvm.Cond.code (⟨"KindGridsModel", "isFigure", "(I)Z"⟩ : MethodName) prog_15_method_140_code (2 : Nat) (Option.some Jvm.ClassFile.FieldType.boolean)) := by decide +kernel
theorem qw_2036 : lw_tbl[2036]? = some (Jvm.Cond.methodLink "KindGridsModel" (521 : Nat) (⟨"KindGridsModel", "does", "(IIIIII)I"⟩ : MethodName)) := by decide +kernel
theorem qw_2038 : lw_tbl[2038]? = some (Jvm.Cond.instanceMethod (⟨"KindGridsModel", "does", "(IIIIII)I"⟩ : MethodName)) := by decide +kernel
theorem qw_2039 : lw_tbl[2039]? = some (Jvm.Cond.code (⟨"KindGridsModel", "does", "(IIIIII)I"⟩ : MethodName) prog_15_method_150_code (7 : Nat) (Option.some Jvm.ClassFile.FieldType.int)) := by decide +kernel
theorem qw_2048 : lw_tbl[2048]? = some (Jvm.Cond.methodLink "KindGridsModel" (528 : Nat) (⟨"KindGridsModel", "isTaken", "(II)Z"⟩ : MethodName)) := by decide +kernel
theorem qw_2049 : lw_tbl[2049]? = some (Jvm.Cond.static (⟨"KindGridsModel", "isTaken", "(II)Z"⟩ : MethodName)) := by decide +kernel
theorem qw_2050 : lw_tbl[2050]? = some (Jvm.Cond.code (⟨"KindGridsModel", "isTaken", "(II)Z"⟩ : MethodName) prog_15_method_154_code (2 : Nat) (Option.some Jvm.ClassFile.FieldType.boolean)) := by decide +kernel
theorem qw_2063 : lw_tbl[2063]? = some (Jvm.Cond.methodLink "KindGridsModel" (534 : Nat) (⟨"KindGridsModel", "leftSet", "()I"⟩ : MethodName)) := by decide +kernel
theorem qw_2065 : lw_tbl[2065]? = some (Jvm.Cond.instanceMethod (⟨"KindGridsModel", "leftSet", "()I"⟩ : MethodName)) := by decide +kernel
theorem qw_2066 : lw_tbl[2066]? = some (Jvm.Cond.code (⟨"KindGridsModel", "leftSet", "()I"⟩ : MethodName) prog_15_method_158_code (5 : Nat) (Option.some Jvm.ClassFile.FieldType.int)) := by decide +kernel
theorem qw_2091 : lw_tbl[2091]? = some (Jvm.Cond.methodLink "KindGridsModel" (543 : Nat) (⟨"KindGridsModel", "placesWith", "(II)I"⟩ : MethodName)) := by decide +kernel
theorem qw_2093 : lw_tbl[2093]? = some (Jvm.Cond.instanceMethod (⟨"KindGridsModel", "placesWith", "(II)I"⟩ : MethodName)) := by decide +kernel
theorem qw_2094 : lw_tbl[2094]? = some (Jvm.Cond.code (⟨"KindGridsModel", "placesWith", "(II)I"⟩ : MethodName) prog_15_method_166_code (6 : Nat) (Option.some Jvm.ClassFile.FieldType.int)) := by decide +kernel
theorem qw_2095 : lw_tbl[2095]? = some (Jvm.Cond.methodLink "KindGridsModel" (546 : Nat) (⟨"KindGridsModel", "ofRows", "(I)I"⟩ : MethodName)) := by decide +kernel
theorem qw_2097 : lw_tbl[2097]? = some (Jvm.Cond.instanceMethod (⟨"KindGridsModel", "ofRows", "(I)I"⟩ : MethodName)) := by decide +kernel
theorem qw_2098 : lw_tbl[2098]? = some (Jvm.Cond.code (⟨"KindGridsModel", "ofRows", "(I)I"⟩ : MethodName) prog_15_method_168_code (4 : Nat) (Option.some Jvm.ClassFile.FieldType.int)) := by decide +kernel
theorem qw_2099 : lw_tbl[2099]? = some (Jvm.Cond.methodLink "KindGridsModel" (537 : Nat) (⟨"KindGridsModel", "holder", "(I)I"⟩ : MethodName)) := by decide +kernel
theorem qw_2101 : lw_tbl[2101]? = some (Jvm.Cond.instanceMethod (⟨"KindGridsModel", "holder", "(I)I"⟩ : MethodName)) := by decide +kernel
theorem qw_2102 : lw_tbl[2102]? = some (Jvm.Cond.code (⟨"KindGridsModel", "holder", "(I)I"⟩ : MethodName) prog_15_method_165_code (3 : Nat) (Option.some Jvm.ClassFile.FieldType.int)) := by decide +kernel
theorem qw_2103 : lw_tbl[2103]? = some (Jvm.Cond.methodLink "KindGridsModel" (540 : Nat) (⟨"KindGridsModel", "nothings", "(I)I"⟩ : MethodName)) := by decide +kernel
theorem qw_2105 : lw_tbl[2105]? = some (Jvm.Cond.instanceMethod (⟨"KindGridsModel", "nothings", "(I)I"⟩ : MethodName)) := by decide +kernel
theorem qw_2106 : lw_tbl[2106]? = some (Jvm.Cond.code (⟨"KindGridsModel", "nothings", "(I)I"⟩ : MethodName) prog_15_method_167_code (4 : Nat) (Option.some Jvm.ClassFile.FieldType.int)) := by decide +kernel
theorem qw_2115 : lw_tbl[2115]? = some (Jvm.Cond.constantLong "KindGridsModel" (551 : Nat) (17 : Int64)) := by decide +kernel
theorem qw_2116 : lw_tbl[2116]? = some (Jvm.Cond.constantLong "KindGridsModel" (549 : Nat) (31 : Int64)) := by decide +kernel
theorem qw_2117 : lw_tbl[2117]? = some (Jvm.Cond.methodLink "KindGridsModel" (553 : Nat) (⟨"KindGridsModel", "rowDigest", "(JI)J"⟩ : MethodName)) := by decide +kernel
theorem qw_2119 : lw_tbl[2119]? = some (Jvm.Cond.instanceMethod (⟨"KindGridsModel", "rowDigest", "(JI)J"⟩ : MethodName)) := by decide +kernel
theorem qw_2120 : lw_tbl[2120]? = some (Jvm.Cond.code (⟨"KindGridsModel", "rowDigest", "(JI)J"⟩ : MethodName) prog_15_method_171_code (8 : Nat) (Option.some Jvm.ClassFile.FieldType.long)) := by decide +kernel
