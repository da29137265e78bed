/-! rows of the table, by number -/
abbrev eg_m0 : eg_T := (⟨"WeakScheme", "<init>", "(I)V"⟩, prog_1_method_1_code, 6, none, 0, 2, 2, 0, eg_p0)
set_option maxRecDepth 10000 in
theorem eg_tj0 : eg_tab[0]? = some eg_m0 := rfl
abbrev eg_m1 : eg_T := (⟨"java/lang/Object", "<init>", "()V"⟩, object_method_1_code, 1, none, 15, 2, 1, 15, eg_p1)
set_option maxRecDepth 10000 in
theorem eg_tj1 : eg_tab[1]? = some eg_m1 := rfl
abbrev eg_m2 : eg_T := (⟨"WeakScheme$Source", "<init>", "()V"⟩, prog_13_method_1_code, 3, none, 1, 2, 1, 1, eg_p2)
set_option maxRecDepth 10000 in
theorem eg_tj2 : eg_tab[2]? = some eg_m2 := rfl
abbrev eg_m3 : eg_T := (⟨"java/lang/String", "length", "()I"⟩, prog_18_method_54_code, 1, some .int, 16, 1, 1, 16, eg_p3)
set_option maxRecDepth 10000 in
theorem eg_tj3 : eg_tab[3]? = some eg_m3 := rfl
abbrev eg_m4 : eg_T := (⟨"java/lang/String", "coder", "()B"⟩, prog_18_method_152_code, 1, some .byte, 16, 1, 1, 16, eg_p4)
set_option maxRecDepth 10000 in
theorem eg_tj4 : eg_tab[4]? = some eg_m4 := rfl
abbrev eg_m5 : eg_T := (⟨"java/lang/String", "charAt", "(I)C"⟩, prog_18_method_56_code, 2, some .char, 16, 1, 2, 16, eg_p5)
set_option maxRecDepth 10000 in
theorem eg_tj5 : eg_tab[5]? = some eg_m5 := rfl
abbrev eg_m6 : eg_T := (⟨"java/lang/String", "isLatin1", "()Z"⟩, prog_18_method_154_code, 1, some .boolean, 16, 1, 1, 16, eg_p6)
set_option maxRecDepth 10000 in
theorem eg_tj6 : eg_tab[6]? = some eg_m6 := rfl
abbrev eg_m7 : eg_T := (⟨"java/lang/StringLatin1", "charAt", "([BI)C"⟩, prog_19_method_2_code, 2, some .char, 17, 0, 2, 17, eg_p7)
set_option maxRecDepth 10000 in
theorem eg_tj7 : eg_tab[7]? = some eg_m7 := rfl
abbrev eg_m8 : eg_T := (⟨"java/lang/String", "checkIndex", "(II)V"⟩, prog_18_method_155_code, 2, none, 16, 0, 2, 16, eg_p8)
set_option maxRecDepth 10000 in
theorem eg_tj8 : eg_tab[8]? = some eg_m8 := rfl
abbrev eg_m9 : eg_T := (⟨"jdk/internal/util/Preconditions", "checkIndex", "(IILjava/util/function/BiFunction;)I"⟩, prog_23_method_11_code, 3, some .int, 20, 0, 3, 20, eg_p9)
set_option maxRecDepth 10000 in
theorem eg_tj9 : eg_tab[9]? = some eg_m9 := rfl
abbrev eg_m10 : eg_T := (⟨"java/lang/StringUTF16", "charAt", "([BI)C"⟩, prog_20_method_83_code, 2, some .char, 18, 0, 2, 18, eg_p10)
set_option maxRecDepth 10000 in
theorem eg_tj10 : eg_tab[10]? = some eg_m10 := rfl
abbrev eg_m11 : eg_T := (⟨"java/lang/StringUTF16", "checkIndex", "(I[B)V"⟩, prog_20_method_91_code, 2, none, 18, 0, 2, 18, eg_p11)
set_option maxRecDepth 10000 in
theorem eg_tj11 : eg_tab[11]? = some eg_m11 := rfl
abbrev eg_m12 : eg_T := (⟨"java/lang/StringUTF16", "length", "([B)I"⟩, prog_20_method_6_code, 1, some .int, 18, 0, 1, 18, eg_p12)
set_option maxRecDepth 10000 in
theorem eg_tj12 : eg_tab[12]? = some eg_m12 := rfl
abbrev eg_m13 : eg_T := (⟨"java/lang/StringUTF16", "getChar", "([BI)C"⟩, prog_20_method_5_code, 2, some .char, 18, 0, 2, 18, eg_p13)
set_option maxRecDepth 10000 in
theorem eg_tj13 : eg_tab[13]? = some eg_m13 := rfl
abbrev eg_m14 : eg_T := (⟨"WeakScheme$Source", "know", "(Ljava/lang/String;II)V"⟩, prog_13_method_2_code, 5, none, 1, 1, 4, 1, eg_p14)
set_option maxRecDepth 10000 in
theorem eg_tj14 : eg_tab[14]? = some eg_m14 := rfl
abbrev eg_m15 : eg_T := (⟨"WeakScheme$Reader", "<init>", "(LWeakScheme$Source;)V"⟩, prog_11_method_1_code, 2, none, 2, 2, 2, 2, eg_p15)
set_option maxRecDepth 10000 in
theorem eg_tj15 : eg_tab[15]? = some eg_m15 := rfl
abbrev eg_m16 : eg_T := (⟨"WeakScheme$Shape", "<init>", "(LWeakScheme$Source;)V"⟩, prog_12_method_1_code, 2, none, 3, 2, 2, 3, eg_p16)
set_option maxRecDepth 10000 in
theorem eg_tj16 : eg_tab[16]? = some eg_m16 := rfl
abbrev eg_m17 : eg_T := (⟨"WeakScheme$Heap", "<init>", "(I)V"⟩, prog_5_method_1_code, 3, none, 4, 2, 2, 4, eg_p17)
set_option maxRecDepth 10000 in
theorem eg_tj17 : eg_tab[17]? = some eg_m17 := rfl
abbrev eg_m18 : eg_T := (⟨"WeakScheme$Finalizers", "<init>", "()V"⟩, prog_4_method_1_code, 1, none, 5, 2, 1, 5, eg_p18)
set_option maxRecDepth 10000 in
theorem eg_tj18 : eg_tab[18]? = some eg_m18 := rfl
abbrev eg_m19 : eg_T := (⟨"WeakScheme$Output", "<init>", "(LWeakScheme$Source;LWeakScheme$Heap;)V"⟩, prog_9_method_1_code, 3, none, 6, 2, 3, 6, eg_p19)
set_option maxRecDepth 10000 in
theorem eg_tj19 : eg_tab[19]? = some eg_m19 := rfl
abbrev eg_m20 : eg_T := (⟨"WeakScheme$Held", "<init>", "()V"⟩, prog_6_method_1_code, 1, none, 7, 2, 1, 7, eg_p20)
set_option maxRecDepth 10000 in
theorem eg_tj20 : eg_tab[20]? = some eg_m20 := rfl
abbrev eg_m21 : eg_T := (⟨"WeakScheme", "firstGlobals", "()[J"⟩, prog_1_method_7_code, 2, some (.array .long), 0, 0, 0, 0, eg_p21)
set_option maxRecDepth 10000 in
theorem eg_tj21 : eg_tab[21]? = some eg_m21 := rfl
abbrev eg_m22 : eg_T := (⟨"java/util/Arrays", "fill", "([JJ)V"⟩, prog_22_method_101_code, 5, none, 19, 0, 2, 19, eg_p22)
set_option maxRecDepth 10000 in
theorem eg_tj22 : eg_tab[22]? = some eg_m22 := rfl
abbrev eg_m23 : eg_T := (⟨"WeakScheme$Collector", "<init>", "(LWeakScheme$Source;LWeakScheme$Heap;LWeakScheme$Finalizers;LWeakScheme$Held;[J)V"⟩, prog_3_method_1_code, 6, none, 8, 2, 6, 8, eg_p23)
set_option maxRecDepth 10000 in
theorem eg_tj23 : eg_tab[23]? = some eg_m23 := rfl
abbrev eg_m24 : eg_T := (⟨"WeakScheme$Operations", "<init>", "(LWeakScheme$Source;LWeakScheme$Heap;LWeakScheme$Finalizers;LWeakScheme$Output;)V"⟩, prog_8_method_1_code, 5, none, 9, 2, 5, 9, eg_p24)
set_option maxRecDepth 10000 in
theorem eg_tj24 : eg_tab[24]? = some eg_m24 := rfl
abbrev eg_m25 : eg_T := (⟨"WeakScheme$Machine", "<init>", "(LWeakScheme$Source;LWeakScheme$Heap;LWeakScheme$Finalizers;LWeakScheme$Held;[JLWeakScheme$Operations;LWeakScheme$Collector;)V"⟩, prog_7_method_1_code, 8, none, 10, 2, 8, 10, eg_p25)
set_option maxRecDepth 10000 in
theorem eg_tj25 : eg_tab[25]? = some eg_m25 := rfl
abbrev eg_m26 : eg_T := (⟨"WeakScheme", "feed", "(IIIII)Z"⟩, prog_1_method_2_code, 6, some .boolean, 0, 1, 6, 0, eg_p26)
set_option maxRecDepth 10000 in
theorem eg_tj26 : eg_tab[26]? = some eg_m26 := rfl
abbrev eg_m27 : eg_T := (⟨"WeakScheme$Reader", "hasSpace", "()Z"⟩, prog_11_method_2_code, 1, some .boolean, 2, 1, 1, 2, eg_p27)
set_option maxRecDepth 10000 in
theorem eg_tj27 : eg_tab[27]? = some eg_m27 := rfl
abbrev eg_m28 : eg_T := (⟨"WeakScheme$Reader", "append", "(I)V"⟩, prog_11_method_3_code, 3, none, 2, 1, 2, 2, eg_p28)
set_option maxRecDepth 10000 in
theorem eg_tj28 : eg_tab[28]? = some eg_m28 := rfl
abbrev eg_m29 : eg_T := (⟨"WeakScheme", "run", "(II)I"⟩, prog_1_method_3_code, 4, some .int, 0, 1, 3, 0, eg_p29)
set_option maxRecDepth 10000 in
theorem eg_tj29 : eg_tab[29]? = some eg_m29 := rfl
abbrev eg_m30 : eg_T := (⟨"WeakScheme$Reader", "read", "(I)V"⟩, prog_11_method_4_code, 3, none, 2, 1, 2, 2, eg_p30)
set_option maxRecDepth 10000 in
theorem eg_tj30 : eg_tab[30]? = some eg_m30 := rfl
abbrev eg_m31 : eg_T := (⟨"java/lang/Math", "min", "(II)I"⟩, prog_17_method_69_code, 2, some .int, 14, 0, 2, 14, eg_p31)
set_option maxRecDepth 10000 in
theorem eg_tj31 : eg_tab[31]? = some eg_m31 := rfl
abbrev eg_m32 : eg_T := (⟨"WeakScheme$Reader", "readToken", "()V"⟩, prog_11_method_6_code, 2, none, 2, 1, 1, 2, eg_p32)
set_option maxRecDepth 10000 in
theorem eg_tj32 : eg_tab[32]? = some eg_m32 := rfl
abbrev eg_m33 : eg_T := (⟨"WeakScheme$Reader", "skipComment", "()V"⟩, prog_11_method_7_code, 1, none, 2, 1, 1, 2, eg_p33)
set_option maxRecDepth 10000 in
theorem eg_tj33 : eg_tab[33]? = some eg_m33 := rfl
abbrev eg_m34 : eg_T := (⟨"WeakScheme$Reader", "openList", "(Z)V"⟩, prog_11_method_8_code, 2, none, 2, 1, 2, 2, eg_p34)
set_option maxRecDepth 10000 in
theorem eg_tj34 : eg_tab[34]? = some eg_m34 := rfl
abbrev eg_m35 : eg_T := (⟨"WeakScheme$Reader", "fail", "(II)V"⟩, prog_11_method_5_code, 3, none, 2, 1, 3, 2, eg_p35)
set_option maxRecDepth 10000 in
theorem eg_tj35 : eg_tab[35]? = some eg_m35 := rfl
abbrev eg_m36 : eg_T := (⟨"WeakScheme$Reader", "add", "(JI)Z"⟩, prog_11_method_17_code, 5, some .boolean, 2, 1, 3, 2, eg_p36)
set_option maxRecDepth 10000 in
theorem eg_tj36 : eg_tab[36]? = some eg_m36 := rfl
abbrev eg_m37 : eg_T := (⟨"WeakScheme$Reader", "hasRoom", "()Z"⟩, prog_11_method_16_code, 1, some .boolean, 2, 1, 1, 2, eg_p37)
set_option maxRecDepth 10000 in
theorem eg_tj37 : eg_tab[37]? = some eg_m37 := rfl
abbrev eg_m38 : eg_T := (⟨"WeakScheme", "symbol", "(I)J"⟩, prog_1_method_9_code, 1, some .long, 0, 0, 1, 0, eg_p38)
set_option maxRecDepth 10000 in
theorem eg_tj38 : eg_tab[38]? = some eg_m38 := rfl
abbrev eg_m39 : eg_T := (⟨"WeakScheme$Reader", "closeList", "()V"⟩, prog_11_method_9_code, 1, none, 2, 1, 1, 2, eg_p39)
set_option maxRecDepth 10000 in
theorem eg_tj39 : eg_tab[39]? = some eg_m39 := rfl
abbrev eg_m40 : eg_T := (⟨"WeakScheme$Reader", "closeTicks", "()V"⟩, prog_11_method_10_code, 1, none, 2, 1, 1, 2, eg_p40)
set_option maxRecDepth 10000 in
theorem eg_tj40 : eg_tab[40]? = some eg_m40 := rfl
abbrev eg_m41 : eg_T := (⟨"WeakScheme$Reader", "readTruth", "()V"⟩, prog_11_method_11_code, 2, none, 2, 1, 1, 2, eg_p41)
set_option maxRecDepth 10000 in
theorem eg_tj41 : eg_tab[41]? = some eg_m41 := rfl
abbrev eg_m42 : eg_T := (⟨"WeakScheme$Reader", "isLetter", "(I)Z"⟩, prog_11_method_20_code, 3, some .boolean, 2, 1, 2, 2, eg_p42)
set_option maxRecDepth 10000 in
theorem eg_tj42 : eg_tab[42]? = some eg_m42 := rfl
abbrev eg_m43 : eg_T := (⟨"WeakScheme$Reader", "isDigit", "(I)Z"⟩, prog_11_method_19_code, 2, some .boolean, 2, 1, 2, 2, eg_p43)
set_option maxRecDepth 10000 in
theorem eg_tj43 : eg_tab[43]? = some eg_m43 := rfl
abbrev eg_m44 : eg_T := (⟨"WeakScheme", "truth", "(Z)J"⟩, prog_1_method_11_code, 1, some .long, 0, 0, 1, 0, eg_p44)
set_option maxRecDepth 10000 in
theorem eg_tj44 : eg_tab[44]? = some eg_m44 := rfl
abbrev eg_m45 : eg_T := (⟨"WeakScheme$Reader", "addAtom", "(JI)V"⟩, prog_11_method_15_code, 4, none, 2, 1, 3, 2, eg_p45)
set_option maxRecDepth 10000 in
theorem eg_tj45 : eg_tab[45]? = some eg_m45 := rfl
abbrev eg_m46 : eg_T := (⟨"WeakScheme$Reader", "readWord", "()V"⟩, prog_11_method_12_code, 3, none, 2, 1, 1, 2, eg_p46)
set_option maxRecDepth 10000 in
theorem eg_tj46 : eg_tab[46]? = some eg_m46 := rfl
abbrev eg_m47 : eg_T := (⟨"WeakScheme$Reader", "isDigits", "(II)Z"⟩, prog_11_method_18_code, 4, some .boolean, 2, 1, 3, 2, eg_p47)
set_option maxRecDepth 10000 in
theorem eg_tj47 : eg_tab[47]? = some eg_m47 := rfl
abbrev eg_m48 : eg_T := (⟨"WeakScheme$Reader", "readNumber", "(ZI)V"⟩, prog_11_method_13_code, 8, none, 2, 1, 3, 2, eg_p48)
set_option maxRecDepth 10000 in
theorem eg_tj48 : eg_tab[48]? = some eg_m48 := rfl
abbrev eg_m49 : eg_T := (⟨"WeakScheme", "number", "(I)J"⟩, prog_1_method_8_code, 1, some .long, 0, 0, 1, 0, eg_p49)
set_option maxRecDepth 10000 in
theorem eg_tj49 : eg_tab[49]? = some eg_m49 := rfl
abbrev eg_m50 : eg_T := (⟨"WeakScheme$Reader", "readName", "(I)V"⟩, prog_11_method_14_code, 3, none, 2, 1, 2, 2, eg_p50)
set_option maxRecDepth 10000 in
theorem eg_tj50 : eg_tab[50]? = some eg_m50 := rfl
abbrev eg_m51 : eg_T := (⟨"WeakScheme$Source", "find", "([BII)I"⟩, prog_13_method_3_code, 5, some .int, 1, 1, 4, 1, eg_p51)
set_option maxRecDepth 10000 in
theorem eg_tj51 : eg_tab[51]? = some eg_m51 := rfl
abbrev eg_m52 : eg_T := (⟨"WeakScheme$Source", "isSpelled", "(I[BI)Z"⟩, prog_13_method_4_code, 5, some .boolean, 1, 1, 4, 1, eg_p52)
set_option maxRecDepth 10000 in
theorem eg_tj52 : eg_tab[52]? = some eg_m52 := rfl
abbrev eg_m53 : eg_T := (⟨"WeakScheme$Source", "enter", "([BII)I"⟩, prog_13_method_5_code, 4, some .int, 1, 1, 4, 1, eg_p53)
set_option maxRecDepth 10000 in
theorem eg_tj53 : eg_tab[53]? = some eg_m53 := rfl
abbrev eg_m54 : eg_T := (⟨"WeakScheme$Shape", "firstFault", "(I[I)I"⟩, prog_12_method_2_code, 4, some .int, 3, 1, 3, 3, eg_p54)
set_option maxRecDepth 10000 in
theorem eg_tj54 : eg_tab[54]? = some eg_m54 := rfl
abbrev eg_m55 : eg_T := (⟨"java/util/Arrays", "fill", "([II)V"⟩, prog_22_method_103_code, 4, none, 19, 0, 2, 19, eg_p55)
set_option maxRecDepth 10000 in
theorem eg_tj55 : eg_tab[55]? = some eg_m55 := rfl
abbrev eg_m56 : eg_T := (⟨"WeakScheme$Shape", "isAsTold", "(I)Z"⟩, prog_12_method_3_code, 3, some .boolean, 3, 1, 2, 3, eg_p56)
set_option maxRecDepth 10000 in
theorem eg_tj56 : eg_tab[56]? = some eg_m56 := rfl
abbrev eg_m57 : eg_T := (⟨"WeakScheme$Shape", "isForm", "(I)Z"⟩, prog_12_method_4_code, 4, some .boolean, 3, 1, 2, 3, eg_p57)
set_option maxRecDepth 10000 in
theorem eg_tj57 : eg_tab[57]? = some eg_m57 := rfl
abbrev eg_m58 : eg_T := (⟨"WeakScheme$Source", "elements", "(I)I"⟩, prog_13_method_9_code, 4, some .int, 1, 1, 2, 1, eg_p58)
set_option maxRecDepth 10000 in
theorem eg_tj58 : eg_tab[58]? = some eg_m58 := rfl
abbrev eg_m59 : eg_T := (⟨"WeakScheme$Source", "form", "(I)I"⟩, prog_13_method_8_code, 2, some .int, 1, 1, 2, 1, eg_p59)
set_option maxRecDepth 10000 in
theorem eg_tj59 : eg_tab[59]? = some eg_m59 := rfl
abbrev eg_m60 : eg_T := (⟨"WeakScheme$Source", "isSpecial", "(I)Z"⟩, prog_13_method_7_code, 2, some .boolean, 1, 1, 2, 1, eg_p60)
set_option maxRecDepth 10000 in
theorem eg_tj60 : eg_tab[60]? = some eg_m60 := rfl
abbrev eg_m61 : eg_T := (⟨"WeakScheme$Shape", "tellExpressions", "(II)V"⟩, prog_12_method_6_code, 4, none, 3, 1, 3, 3, eg_p61)
set_option maxRecDepth 10000 in
theorem eg_tj61 : eg_tab[61]? = some eg_m61 := rfl
abbrev eg_m62 : eg_T := (⟨"WeakScheme$Shape", "tellSecond", "(II)V"⟩, prog_12_method_5_code, 3, none, 3, 1, 3, 3, eg_p62)
set_option maxRecDepth 10000 in
theorem eg_tj62 : eg_tab[62]? = some eg_m62 := rfl
abbrev eg_m63 : eg_T := (⟨"WeakScheme$Shape", "isFreeName", "(I)Z"⟩, prog_12_method_9_code, 2, some .boolean, 3, 1, 2, 3, eg_p63)
set_option maxRecDepth 10000 in
theorem eg_tj63 : eg_tab[63]? = some eg_m63 := rfl
abbrev eg_m64 : eg_T := (⟨"WeakScheme$Source", "isName", "(I)Z"⟩, prog_13_method_6_code, 2, some .boolean, 1, 1, 2, 1, eg_p64)
set_option maxRecDepth 10000 in
theorem eg_tj64 : eg_tab[64]? = some eg_m64 := rfl
abbrev eg_m65 : eg_T := (⟨"WeakScheme$Shape", "tellBrackets", "(II)V"⟩, prog_12_method_7_code, 4, none, 3, 1, 3, 3, eg_p65)
set_option maxRecDepth 10000 in
theorem eg_tj65 : eg_tab[65]? = some eg_m65 := rfl
abbrev eg_m66 : eg_T := (⟨"WeakScheme$Shape", "isNewName", "(I)Z"⟩, prog_12_method_10_code, 6, some .boolean, 3, 1, 2, 3, eg_p66)
set_option maxRecDepth 10000 in
theorem eg_tj66 : eg_tab[66]? = some eg_m66 := rfl
abbrev eg_m67 : eg_T := (⟨"WeakScheme$Source", "slot", "(IJ)I"⟩, prog_13_method_10_code, 6, some .int, 1, 1, 3, 1, eg_p67)
set_option maxRecDepth 10000 in
theorem eg_tj67 : eg_tab[67]? = some eg_m67 := rfl
abbrev eg_m68 : eg_T := (⟨"WeakScheme$Shape", "isBinding", "(I)Z"⟩, prog_12_method_8_code, 2, some .boolean, 3, 1, 2, 3, eg_p68)
set_option maxRecDepth 10000 in
theorem eg_tj68 : eg_tab[68]? = some eg_m68 := rfl
abbrev eg_m69 : eg_T := (⟨"WeakScheme$Machine", "execute", "(III)V"⟩, prog_7_method_2_code, 7, none, 10, 1, 4, 10, eg_p69)
set_option maxRecDepth 10000 in
theorem eg_tj69 : eg_tab[69]? = some eg_m69 := rfl
abbrev eg_m70 : eg_T := (⟨"WeakScheme$Machine", "prepare", "(I)V"⟩, prog_7_method_3_code, 2, none, 10, 1, 2, 10, eg_p70)
set_option maxRecDepth 10000 in
theorem eg_tj70 : eg_tab[70]? = some eg_m70 := rfl
abbrev eg_m71 : eg_T := (⟨"WeakScheme$Held", "clear", "()V"⟩, prog_6_method_2_code, 1, none, 7, 1, 1, 7, eg_p71)
set_option maxRecDepth 10000 in
theorem eg_tj71 : eg_tab[71]? = some eg_m71 := rfl
abbrev eg_m72 : eg_T := (⟨"WeakScheme$Machine", "isPrimitiveDue", "(I)Z"⟩, prog_7_method_25_code, 2, some .boolean, 10, 1, 2, 10, eg_p72)
set_option maxRecDepth 10000 in
theorem eg_tj72 : eg_tab[72]? = some eg_m72 := rfl
abbrev eg_m73 : eg_T := (⟨"WeakScheme$Held", "value", "(II)J"⟩, prog_6_method_5_code, 3, some .long, 7, 1, 3, 7, eg_p73)
set_option maxRecDepth 10000 in
theorem eg_tj73 : eg_tab[73]? = some eg_m73 := rfl
abbrev eg_m74 : eg_T := (⟨"WeakScheme$Machine", "operate", "(I)V"⟩, prog_7_method_26_code, 6, none, 10, 1, 2, 10, eg_p74)
set_option maxRecDepth 10000 in
theorem eg_tj74 : eg_tab[74]? = some eg_m74 := rfl
abbrev eg_m75 : eg_T := (⟨"WeakScheme$Operations", "isOfSort", "(JC)Z"⟩, prog_8_method_2_code, 4, some .boolean, 9, 1, 3, 9, eg_p75)
set_option maxRecDepth 10000 in
theorem eg_tj75 : eg_tab[75]? = some eg_m75 := rfl
abbrev eg_m76 : eg_T := (⟨"WeakScheme$Heap", "is", "(JI)Z"⟩, prog_5_method_5_code, 4, some .boolean, 4, 1, 3, 4, eg_p76)
set_option maxRecDepth 10000 in
theorem eg_tj76 : eg_tab[76]? = some eg_m76 := rfl
abbrev eg_m77 : eg_T := (⟨"WeakScheme$Operations", "namesOf", "(I)I"⟩, prog_8_method_3_code, 2, some .int, 9, 1, 2, 9, eg_p77)
set_option maxRecDepth 10000 in
theorem eg_tj77 : eg_tab[77]? = some eg_m77 := rfl
abbrev eg_m78 : eg_T := (⟨"WeakScheme$Heap", "get", "(II)J"⟩, prog_5_method_3_code, 3, some .long, 4, 1, 3, 4, eg_p78)
set_option maxRecDepth 10000 in
theorem eg_tj78 : eg_tab[78]? = some eg_m78 := rfl
abbrev eg_m79 : eg_T := (⟨"WeakScheme$Operations", "operate", "(LWeakScheme$Primitive;JJJ)J"⟩, prog_8_method_4_code, 9, some .long, 9, 1, 5, 9, eg_p79)
set_option maxRecDepth 10000 in
theorem eg_tj79 : eg_tab[79]? = some eg_m79 := rfl
abbrev eg_m80 : eg_T := (⟨"java/lang/Enum", "ordinal", "()I"⟩, prog_16_method_2_code, 1, some .int, 13, 1, 1, 21, eg_p80)
set_option maxRecDepth 10000 in
theorem eg_tj80 : eg_tab[80]? = some eg_m80 := rfl
abbrev eg_m81 : eg_T := (⟨"WeakScheme$Operations", "divide", "(LWeakScheme$Primitive;II)J"⟩, prog_8_method_5_code, 4, some .long, 9, 1, 4, 9, eg_p81)
set_option maxRecDepth 10000 in
theorem eg_tj81 : eg_tab[81]? = some eg_m81 := rfl
abbrev eg_m82 : eg_T := (⟨"WeakScheme$Heap", "identityOf", "(I)I"⟩, prog_5_method_7_code, 2, some .int, 4, 1, 2, 4, eg_p82)
set_option maxRecDepth 10000 in
theorem eg_tj82 : eg_tab[82]? = some eg_m82 := rfl
abbrev eg_m83 : eg_T := (⟨"WeakScheme$Output", "print", "(J)V"⟩, prog_9_method_3_code, 3, none, 6, 1, 2, 6, eg_p83)
set_option maxRecDepth 10000 in
theorem eg_tj83 : eg_tab[83]? = some eg_m83 := rfl
abbrev eg_m84 : eg_T := (⟨"WeakScheme$Output", "write", "(JI)V"⟩, prog_9_method_5_code, 8, none, 6, 1, 3, 6, eg_p84)
set_option maxRecDepth 10000 in
theorem eg_tj84 : eg_tab[84]? = some eg_m84 := rfl
abbrev eg_m85 : eg_T := (⟨"WeakScheme$Output", "add", "(I)V"⟩, prog_9_method_4_code, 2, none, 6, 1, 2, 6, eg_p85)
set_option maxRecDepth 10000 in
theorem eg_tj85 : eg_tab[85]? = some eg_m85 := rfl
abbrev eg_m86 : eg_T := (⟨"WeakScheme$Output", "writeWord", "(Ljava/lang/String;)V"⟩, prog_9_method_6_code, 3, none, 6, 1, 2, 6, eg_p86)
set_option maxRecDepth 10000 in
theorem eg_tj86 : eg_tab[86]? = some eg_m86 := rfl
abbrev eg_m87 : eg_T := (⟨"WeakScheme$Output", "writeNumber", "(I)V"⟩, prog_9_method_8_code, 5, none, 6, 1, 2, 6, eg_p87)
set_option maxRecDepth 10000 in
theorem eg_tj87 : eg_tab[87]? = some eg_m87 := rfl
abbrev eg_m88 : eg_T := (⟨"WeakScheme$Output", "writeName", "(I)V"⟩, prog_9_method_7_code, 3, none, 6, 1, 2, 6, eg_p88)
set_option maxRecDepth 10000 in
theorem eg_tj88 : eg_tab[88]? = some eg_m88 := rfl
abbrev eg_m89 : eg_T := (⟨"WeakScheme$Output", "wordFor", "(J)Ljava/lang/String;"⟩, prog_9_method_9_code, 3, some (.object "java/lang/String"), 6, 1, 2, 6, eg_p89)
set_option maxRecDepth 10000 in
theorem eg_tj89 : eg_tab[89]? = some eg_m89 := rfl
abbrev eg_m90 : eg_T := (⟨"WeakScheme$Finalizers", "register", "(JJ)Z"⟩, prog_4_method_2_code, 5, some .boolean, 5, 1, 3, 5, eg_p90)
set_option maxRecDepth 10000 in
theorem eg_tj90 : eg_tab[90]? = some eg_m90 := rfl
abbrev eg_m91 : eg_T := (⟨"WeakScheme$Operations", "operateOnObject", "(LWeakScheme$Primitive;JJJ)J"⟩, prog_8_method_6_code, 10, some .long, 9, 1, 5, 9, eg_p91)
set_option maxRecDepth 10000 in
theorem eg_tj91 : eg_tab[91]? = some eg_m91 := rfl
abbrev eg_m92 : eg_T := (⟨"WeakScheme$Operations", "makeTwo", "(IIJJ)J"⟩, prog_8_method_7_code, 8, some .long, 9, 1, 5, 9, eg_p92)
set_option maxRecDepth 10000 in
theorem eg_tj92 : eg_tab[92]? = some eg_m92 := rfl
abbrev eg_m93 : eg_T := (⟨"WeakScheme$Heap", "make", "(II)I"⟩, prog_5_method_2_code, 4, some .int, 4, 1, 3, 4, eg_p93)
set_option maxRecDepth 10000 in
theorem eg_tj93 : eg_tab[93]? = some eg_m93 := rfl
abbrev eg_m94 : eg_T := (⟨"WeakScheme$Heap", "put", "(IIJ)V"⟩, prog_5_method_4_code, 5, none, 4, 1, 4, 4, eg_p94)
set_option maxRecDepth 10000 in
theorem eg_tj94 : eg_tab[94]? = some eg_m94 := rfl
abbrev eg_m95 : eg_T := (⟨"WeakScheme", "object", "(I)J"⟩, prog_1_method_10_code, 1, some .long, 0, 0, 1, 0, eg_p95)
set_option maxRecDepth 10000 in
theorem eg_tj95 : eg_tab[95]? = some eg_m95 := rfl
abbrev eg_m96 : eg_T := (⟨"WeakScheme$Operations", "makeVector", "(IJ)J"⟩, prog_8_method_8_code, 6, some .long, 9, 1, 3, 9, eg_p96)
set_option maxRecDepth 10000 in
theorem eg_tj96 : eg_tab[96]? = some eg_m96 := rfl
abbrev eg_m97 : eg_T := (⟨"WeakScheme$Operations", "isPlace", "(II)Z"⟩, prog_8_method_9_code, 4, some .boolean, 9, 1, 3, 9, eg_p97)
set_option maxRecDepth 10000 in
theorem eg_tj97 : eg_tab[97]? = some eg_m97 := rfl
abbrev eg_m98 : eg_T := (⟨"WeakScheme$Heap", "elements", "(I)I"⟩, prog_5_method_6_code, 2, some .int, 4, 1, 2, 4, eg_p98)
set_option maxRecDepth 10000 in
theorem eg_tj98 : eg_tab[98]? = some eg_m98 := rfl
abbrev eg_m99 : eg_T := (⟨"WeakScheme$Operations", "makeWeak", "(J)J"⟩, prog_8_method_10_code, 4, some .long, 9, 1, 2, 9, eg_p99)
set_option maxRecDepth 10000 in
theorem eg_tj99 : eg_tab[99]? = some eg_m99 := rfl
abbrev eg_m100 : eg_T := (⟨"WeakScheme$Operations", "makeTable", "()J"⟩, prog_8_method_11_code, 2, some .long, 9, 1, 1, 9, eg_p100)
set_option maxRecDepth 10000 in
theorem eg_tj100 : eg_tab[100]? = some eg_m100 := rfl
abbrev eg_m101 : eg_T := (⟨"WeakScheme$Operations", "putInTable", "(IJJ)V"⟩, prog_8_method_13_code, 7, none, 9, 1, 4, 9, eg_p101)
set_option maxRecDepth 10000 in
theorem eg_tj101 : eg_tab[101]? = some eg_m101 := rfl
abbrev eg_m102 : eg_T := (⟨"WeakScheme$Operations", "findEntry", "(IJ)I"⟩, prog_8_method_12_code, 5, some .int, 9, 1, 3, 9, eg_p102)
set_option maxRecDepth 10000 in
theorem eg_tj102 : eg_tab[102]? = some eg_m102 := rfl
abbrev eg_m103 : eg_T := (⟨"WeakScheme$Machine", "endWith", "(J)V"⟩, prog_7_method_12_code, 3, none, 10, 1, 2, 10, eg_p103)
set_option maxRecDepth 10000 in
theorem eg_tj103 : eg_tab[103]? = some eg_m103 := rfl
abbrev eg_m104 : eg_T := (⟨"WeakScheme$Machine", "resume", "(I)V"⟩, prog_7_method_9_code, 3, none, 10, 1, 2, 10, eg_p104)
set_option maxRecDepth 10000 in
theorem eg_tj104 : eg_tab[104]? = some eg_m104 := rfl
abbrev eg_m105 : eg_T := (⟨"WeakScheme$Machine", "quote", "(I)V"⟩, prog_7_method_19_code, 4, none, 10, 1, 2, 10, eg_p105)
set_option maxRecDepth 10000 in
theorem eg_tj105 : eg_tab[105]? = some eg_m105 := rfl
abbrev eg_m106 : eg_T := (⟨"WeakScheme$Machine", "makeElement", "(II)V"⟩, prog_7_method_20_code, 4, none, 10, 1, 3, 10, eg_p106)
set_option maxRecDepth 10000 in
theorem eg_tj106 : eg_tab[106]? = some eg_m106 := rfl
abbrev eg_m107 : eg_T := (⟨"WeakScheme$Machine", "takeQuoted", "(II)J"⟩, prog_7_method_21_code, 5, some .long, 10, 1, 3, 10, eg_p107)
set_option maxRecDepth 10000 in
theorem eg_tj107 : eg_tab[107]? = some eg_m107 := rfl
abbrev eg_m108 : eg_T := (⟨"WeakScheme$Machine", "choose", "(I)V"⟩, prog_7_method_14_code, 5, none, 10, 1, 2, 10, eg_p108)
set_option maxRecDepth 10000 in
theorem eg_tj108 : eg_tab[108]? = some eg_m108 := rfl
abbrev eg_m109 : eg_T := (⟨"WeakScheme$Machine", "end", "()V"⟩, prog_7_method_11_code, 1, none, 10, 1, 1, 10, eg_p109)
set_option maxRecDepth 10000 in
theorem eg_tj109 : eg_tab[109]? = some eg_m109 := rfl
abbrev eg_m110 : eg_T := (⟨"WeakScheme$Machine", "evaluateIn", "(II)V"⟩, prog_7_method_10_code, 3, none, 10, 1, 3, 10, eg_p110)
set_option maxRecDepth 10000 in
theorem eg_tj110 : eg_tab[110]? = some eg_m110 := rfl
abbrev eg_m111 : eg_T := (⟨"WeakScheme$Machine", "evaluate", "(II)V"⟩, prog_7_method_6_code, 4, none, 10, 1, 3, 10, eg_p111)
set_option maxRecDepth 10000 in
theorem eg_tj111 : eg_tab[111]? = some eg_m111 := rfl
abbrev eg_m112 : eg_T := (⟨"WeakScheme$Machine", "aheadOfFirst", "(II)I"⟩, prog_7_method_7_code, 3, some .int, 10, 1, 3, 10, eg_p112)
set_option maxRecDepth 10000 in
theorem eg_tj112 : eg_tab[112]? = some eg_m112 := rfl
abbrev eg_m113 : eg_T := (⟨"WeakScheme$Machine", "begin", "(IIII)V"⟩, prog_7_method_5_code, 5, none, 10, 1, 5, 10, eg_p113)
set_option maxRecDepth 10000 in
theorem eg_tj113 : eg_tab[113]? = some eg_m113 := rfl
abbrev eg_m114 : eg_T := (⟨"WeakScheme$Held", "push", "(IIII)Z"⟩, prog_6_method_3_code, 5, some .boolean, 7, 1, 5, 7, eg_p114)
set_option maxRecDepth 10000 in
theorem eg_tj114 : eg_tab[114]? = some eg_m114 := rfl
abbrev eg_m115 : eg_T := (⟨"WeakScheme$Machine", "find", "(II)I"⟩, prog_7_method_8_code, 5, some .int, 10, 1, 3, 10, eg_p115)
set_option maxRecDepth 10000 in
theorem eg_tj115 : eg_tab[115]? = some eg_m115 := rfl
abbrev eg_m116 : eg_T := (⟨"WeakScheme$Machine", "assign", "(I)V"⟩, prog_7_method_15_code, 5, none, 10, 1, 2, 10, eg_p116)
set_option maxRecDepth 10000 in
theorem eg_tj116 : eg_tab[116]? = some eg_m116 := rfl
abbrev eg_m117 : eg_T := (⟨"WeakScheme$Machine", "makeProcedure", "(I)V"⟩, prog_7_method_18_code, 3, none, 10, 1, 2, 10, eg_p117)
set_option maxRecDepth 10000 in
theorem eg_tj117 : eg_tab[117]? = some eg_m117 := rfl
abbrev eg_m118 : eg_T := (⟨"WeakScheme$Machine", "gather", "(IIII)V"⟩, prog_7_method_22_code, 7, none, 10, 1, 5, 10, eg_p118)
set_option maxRecDepth 10000 in
theorem eg_tj118 : eg_tab[118]? = some eg_m118 := rfl
abbrev eg_m119 : eg_T := (⟨"WeakScheme$Held", "keep", "(IJ)V"⟩, prog_6_method_4_code, 4, none, 7, 1, 3, 7, eg_p119)
set_option maxRecDepth 10000 in
theorem eg_tj119 : eg_tab[119]? = some eg_m119 := rfl
abbrev eg_m120 : eg_T := (⟨"WeakScheme$Machine", "openScope", "(I)V"⟩, prog_7_method_23_code, 4, none, 10, 1, 2, 10, eg_p120)
set_option maxRecDepth 10000 in
theorem eg_tj120 : eg_tab[120]? = some eg_m120 := rfl
abbrev eg_m121 : eg_T := (⟨"WeakScheme$Machine", "makeFrame", "(IIII)I"⟩, prog_7_method_24_code, 8, some .int, 10, 1, 5, 10, eg_p121)
set_option maxRecDepth 10000 in
theorem eg_tj121 : eg_tab[121]? = some eg_m121 := rfl
abbrev eg_m122 : eg_T := (⟨"WeakScheme$Machine", "repeat", "(I)V"⟩, prog_7_method_16_code, 5, none, 10, 1, 2, 10, eg_p122)
set_option maxRecDepth 10000 in
theorem eg_tj122 : eg_tab[122]? = some eg_m122 := rfl
abbrev eg_m123 : eg_T := (⟨"WeakScheme$Machine", "connect", "(I)V"⟩, prog_7_method_17_code, 6, none, 10, 1, 2, 10, eg_p123)
set_option maxRecDepth 10000 in
theorem eg_tj123 : eg_tab[123]? = some eg_m123 := rfl
abbrev eg_m124 : eg_T := (⟨"WeakScheme$Machine", "call", "(I)V"⟩, prog_7_method_27_code, 4, none, 10, 1, 2, 10, eg_p124)
set_option maxRecDepth 10000 in
theorem eg_tj124 : eg_tab[124]? = some eg_m124 := rfl
abbrev eg_m125 : eg_T := (⟨"WeakScheme$Machine", "enter", "(I)V"⟩, prog_7_method_28_code, 5, none, 10, 1, 2, 10, eg_p125)
set_option maxRecDepth 10000 in
theorem eg_tj125 : eg_tab[125]? = some eg_m125 := rfl
abbrev eg_m126 : eg_T := (⟨"WeakScheme$Machine", "callFromQueue", "(I)V"⟩, prog_7_method_29_code, 2, none, 10, 1, 2, 10, eg_p126)
set_option maxRecDepth 10000 in
theorem eg_tj126 : eg_tab[126]? = some eg_m126 := rfl
abbrev eg_m127 : eg_T := (⟨"WeakScheme$Finalizers", "queuedProcedure", "(I)J"⟩, prog_4_method_5_code, 2, some .long, 5, 1, 2, 5, eg_p127)
set_option maxRecDepth 10000 in
theorem eg_tj127 : eg_tab[127]? = some eg_m127 := rfl
abbrev eg_m128 : eg_T := (⟨"WeakScheme$Finalizers", "queuedObject", "(I)J"⟩, prog_4_method_4_code, 2, some .long, 5, 1, 2, 5, eg_p128)
set_option maxRecDepth 10000 in
theorem eg_tj128 : eg_tab[128]? = some eg_m128 := rfl
abbrev eg_m129 : eg_T := (⟨"WeakScheme$Finalizers", "dropFirst", "()V"⟩, prog_4_method_6_code, 1, none, 5, 1, 1, 5, eg_p129)
set_option maxRecDepth 10000 in
theorem eg_tj129 : eg_tab[129]? = some eg_m129 := rfl
abbrev eg_m130 : eg_T := (⟨"WeakScheme$Machine", "proceed", "(I)V"⟩, prog_7_method_13_code, 3, none, 10, 1, 2, 10, eg_p130)
set_option maxRecDepth 10000 in
theorem eg_tj130 : eg_tab[130]? = some eg_m130 := rfl
abbrev eg_m131 : eg_T := (⟨"WeakScheme$Machine", "payForCollection", "()Z"⟩, prog_7_method_4_code, 1, some .boolean, 10, 1, 1, 10, eg_p131)
set_option maxRecDepth 10000 in
theorem eg_tj131 : eg_tab[131]? = some eg_m131 := rfl
abbrev eg_m132 : eg_T := (⟨"WeakScheme$Collector", "collect", "()V"⟩, prog_3_method_2_code, 2, none, 8, 1, 1, 8, eg_p132)
set_option maxRecDepth 10000 in
theorem eg_tj132 : eg_tab[132]? = some eg_m132 := rfl
abbrev eg_m133 : eg_T := (⟨"WeakScheme$Collector", "findLive", "()V"⟩, prog_3_method_3_code, 2, none, 8, 1, 1, 8, eg_p133)
set_option maxRecDepth 10000 in
theorem eg_tj133 : eg_tab[133]? = some eg_m133 := rfl
abbrev eg_m134 : eg_T := (⟨"java/util/Arrays", "fill", "([BB)V"⟩, prog_22_method_109_code, 4, none, 19, 0, 2, 19, eg_p134)
set_option maxRecDepth 10000 in
theorem eg_tj134 : eg_tab[134]? = some eg_m134 := rfl
abbrev eg_m135 : eg_T := (⟨"WeakScheme$Collector", "markHeld", "()V"⟩, prog_3_method_4_code, 3, none, 8, 1, 1, 8, eg_p135)
set_option maxRecDepth 10000 in
theorem eg_tj135 : eg_tab[135]? = some eg_m135 := rfl
abbrev eg_m136 : eg_T := (⟨"WeakScheme$Collector", "markHandle", "(I)V"⟩, prog_3_method_6_code, 2, none, 8, 1, 2, 8, eg_p136)
set_option maxRecDepth 10000 in
theorem eg_tj136 : eg_tab[136]? = some eg_m136 := rfl
abbrev eg_m137 : eg_T := (⟨"WeakScheme$Collector", "mark", "(J)V"⟩, prog_3_method_5_code, 3, none, 8, 1, 2, 8, eg_p137)
set_option maxRecDepth 10000 in
theorem eg_tj137 : eg_tab[137]? = some eg_m137 := rfl
abbrev eg_m138 : eg_T := (⟨"WeakScheme$Collector", "isLive", "(J)Z"⟩, prog_3_method_7_code, 3, some .boolean, 8, 1, 2, 8, eg_p138)
set_option maxRecDepth 10000 in
theorem eg_tj138 : eg_tab[138]? = some eg_m138 := rfl
abbrev eg_m139 : eg_T := (⟨"WeakScheme$Collector", "await", "(JI)V"⟩, prog_3_method_8_code, 4, none, 8, 1, 3, 8, eg_p139)
set_option maxRecDepth 10000 in
theorem eg_tj139 : eg_tab[139]? = some eg_m139 := rfl
abbrev eg_m140 : eg_T := (⟨"WeakScheme$Collector", "trace", "(I)V"⟩, prog_3_method_9_code, 2, none, 8, 1, 2, 8, eg_p140)
set_option maxRecDepth 10000 in
theorem eg_tj140 : eg_tab[140]? = some eg_m140 := rfl
abbrev eg_m141 : eg_T := (⟨"WeakScheme$Collector", "markCells", "(III)V"⟩, prog_3_method_10_code, 5, none, 8, 1, 4, 8, eg_p141)
set_option maxRecDepth 10000 in
theorem eg_tj141 : eg_tab[141]? = some eg_m141 := rfl
abbrev eg_m142 : eg_T := (⟨"WeakScheme$Collector", "traceTable", "(I)V"⟩, prog_3_method_11_code, 5, none, 8, 1, 2, 8, eg_p142)
set_option maxRecDepth 10000 in
theorem eg_tj142 : eg_tab[142]? = some eg_m142 := rfl
abbrev eg_m143 : eg_T := (⟨"WeakScheme$Collector", "wake", "(I)V"⟩, prog_3_method_12_code, 3, none, 8, 1, 2, 8, eg_p143)
set_option maxRecDepth 10000 in
theorem eg_tj143 : eg_tab[143]? = some eg_m143 := rfl
abbrev eg_m144 : eg_T := (⟨"WeakScheme$Collector", "clearDead", "()V"⟩, prog_3_method_13_code, 3, none, 8, 1, 1, 8, eg_p144)
set_option maxRecDepth 10000 in
theorem eg_tj144 : eg_tab[144]? = some eg_m144 := rfl
abbrev eg_m145 : eg_T := (⟨"WeakScheme$Collector", "dropEntries", "(I)V"⟩, prog_3_method_14_code, 6, none, 8, 1, 2, 8, eg_p145)
set_option maxRecDepth 10000 in
theorem eg_tj145 : eg_tab[145]? = some eg_m145 := rfl
abbrev eg_m146 : eg_T := (⟨"WeakScheme$Finalizers", "release", "([B)V"⟩, prog_4_method_3_code, 5, none, 5, 1, 2, 5, eg_p146)
set_option maxRecDepth 10000 in
theorem eg_tj146 : eg_tab[146]? = some eg_m146 := rfl
abbrev eg_m147 : eg_T := (⟨"WeakScheme$Heap", "keep", "([B)V"⟩, prog_5_method_8_code, 7, none, 4, 1, 2, 4, eg_p147)
set_option maxRecDepth 10000 in
theorem eg_tj147 : eg_tab[147]? = some eg_m147 := rfl
abbrev eg_m148 : eg_T := (⟨"WeakScheme", "place", "()I"⟩, prog_1_method_4_code, 1, some .int, 0, 1, 1, 0, eg_p148)
set_option maxRecDepth 10000 in
theorem eg_tj148 : eg_tab[148]? = some eg_m148 := rfl
abbrev eg_m149 : eg_T := (⟨"WeakScheme", "fetch", "()J"⟩, prog_1_method_5_code, 1, some .long, 0, 1, 1, 0, eg_p149)
set_option maxRecDepth 10000 in
theorem eg_tj149 : eg_tab[149]? = some eg_m149 := rfl
abbrev eg_m150 : eg_T := (⟨"WeakScheme$Output", "take", "()J"⟩, prog_9_method_2_code, 5, some .long, 6, 1, 1, 6, eg_p150)
set_option maxRecDepth 10000 in
theorem eg_tj150 : eg_tab[150]? = some eg_m150 := rfl
abbrev eg_m151 : eg_T := (⟨"WeakScheme", "count", "(I)I"⟩, prog_1_method_6_code, 2, some .int, 0, 1, 2, 0, eg_p151)
set_option maxRecDepth 10000 in
theorem eg_tj151 : eg_tab[151]? = some eg_m151 := rfl
abbrev eg_m152 : eg_T := (⟨"WeakSchemeLaw", "cell", "([II)I"⟩, method_2_code, 2, some .int, 12, 0, 2, 12, eg_p152)
set_option maxRecDepth 10000 in
theorem eg_tj152 : eg_tab[152]? = some eg_m152 := rfl
abbrev eg_m153 : eg_T := (⟨"WeakSchemeModel", "<init>", "(I)V"⟩, prog_15_method_1_code, 5, none, 11, 2, 2, 11, eg_p153)
set_option maxRecDepth 10000 in
theorem eg_tj153 : eg_tab[153]? = some eg_m153 := rfl
abbrev eg_m154 : eg_T := (⟨"WeakSchemeModel", "empty", "()V"⟩, prog_15_method_29_code, 2, none, 11, 1, 1, 11, eg_p154)
set_option maxRecDepth 10000 in
theorem eg_tj154 : eg_tab[154]? = some eg_m154 := rfl
abbrev eg_m155 : eg_T := (⟨"WeakSchemeModel", "feed", "(IIIII)Z"⟩, prog_15_method_3_code, 6, some .boolean, 11, 1, 6, 11, eg_p155)
set_option maxRecDepth 10000 in
theorem eg_tj155 : eg_tab[155]? = some eg_m155 := rfl
abbrev eg_m156 : eg_T := (⟨"WeakSchemeModel", "lay", "(I)V"⟩, prog_15_method_2_code, 3, none, 11, 1, 2, 11, eg_p156)
set_option maxRecDepth 10000 in
theorem eg_tj156 : eg_tab[156]? = some eg_m156 := rfl
abbrev eg_m157 : eg_T := (⟨"WeakSchemeModel", "run", "(II)I"⟩, prog_15_method_94_code, 4, some .int, 11, 1, 3, 11, eg_p157)
set_option maxRecDepth 10000 in
theorem eg_tj157 : eg_tab[157]? = some eg_m157 := rfl
abbrev eg_m158 : eg_T := (⟨"WeakSchemeModel", "read", "(I)I"⟩, prog_15_method_15_code, 3, some .int, 11, 1, 2, 11, eg_p158)
set_option maxRecDepth 10000 in
theorem eg_tj158 : eg_tab[158]? = some eg_m158 := rfl
abbrev eg_m159 : eg_T := (⟨"WeakSchemeModel", "item", "()I"⟩, prog_15_method_14_code, 2, some .int, 11, 1, 1, 11, eg_p159)
set_option maxRecDepth 10000 in
theorem eg_tj159 : eg_tab[159]? = some eg_m159 := rfl
abbrev eg_m160 : eg_T := (⟨"WeakSchemeModel", "isByte", "(I)Z"⟩, prog_15_method_13_code, 1, some .boolean, 11, 0, 1, 11, eg_p160)
set_option maxRecDepth 10000 in
theorem eg_tj160 : eg_tab[160]? = some eg_m160 := rfl
abbrev eg_m161 : eg_T := (⟨"WeakSchemeModel", "fail", "(II)I"⟩, prog_15_method_4_code, 3, some .int, 11, 1, 3, 11, eg_p161)
set_option maxRecDepth 10000 in
theorem eg_tj161 : eg_tab[161]? = some eg_m161 := rfl
abbrev eg_m162 : eg_T := (⟨"WeakSchemeModel", "openList", "(Z)I"⟩, prog_15_method_10_code, 3, some .int, 11, 1, 2, 11, eg_p162)
set_option maxRecDepth 10000 in
theorem eg_tj162 : eg_tab[162]? = some eg_m162 := rfl
abbrev eg_m163 : eg_T := (⟨"WeakSchemeModel", "add", "(III)I"⟩, prog_15_method_8_code, 6, some .int, 11, 1, 4, 11, eg_p163)
set_option maxRecDepth 10000 in
theorem eg_tj163 : eg_tab[163]? = some eg_m163 := rfl
abbrev eg_m164 : eg_T := (⟨"WeakSchemeModel", "sharp", "()I"⟩, prog_15_method_11_code, 4, some .int, 11, 1, 1, 11, eg_p164)
set_option maxRecDepth 10000 in
theorem eg_tj164 : eg_tab[164]? = some eg_m164 := rfl
abbrev eg_m165 : eg_T := (⟨"WeakSchemeModel", "peek", "()I"⟩, prog_15_method_6_code, 1, some .int, 11, 1, 1, 11, eg_p165)
set_option maxRecDepth 10000 in
theorem eg_tj165 : eg_tab[165]? = some eg_m165 := rfl
abbrev eg_m166 : eg_T := (⟨"WeakSchemeModel", "isLetter", "(I)Z"⟩, prog_15_method_5_code, 1, some .boolean, 11, 0, 1, 11, eg_p166)
set_option maxRecDepth 10000 in
theorem eg_tj166 : eg_tab[166]? = some eg_m166 := rfl
abbrev eg_m167 : eg_T := (⟨"WeakSchemeModel", "closeQuotes", "()V"⟩, prog_15_method_9_code, 1, none, 11, 1, 1, 11, eg_p167)
set_option maxRecDepth 10000 in
theorem eg_tj167 : eg_tab[167]? = some eg_m167 := rfl
abbrev eg_m168 : eg_T := (⟨"WeakSchemeModel", "word", "()I"⟩, prog_15_method_12_code, 9, some .int, 11, 1, 1, 11, eg_p168)
set_option maxRecDepth 10000 in
theorem eg_tj168 : eg_tab[168]? = some eg_m168 := rfl
abbrev eg_m169 : eg_T := (⟨"WeakSchemeModel", "nameOf", "(II)I"⟩, prog_15_method_7_code, 7, some .int, 11, 1, 3, 11, eg_p169)
set_option maxRecDepth 10000 in
theorem eg_tj169 : eg_tab[169]? = some eg_m169 := rfl
abbrev eg_m170 : eg_T := (⟨"WeakSchemeModel", "shapes", "()I"⟩, prog_15_method_28_code, 4, some .int, 11, 1, 1, 11, eg_p170)
set_option maxRecDepth 10000 in
theorem eg_tj170 : eg_tab[170]? = some eg_m170 := rfl
abbrev eg_m171 : eg_T := (⟨"WeakSchemeModel", "lookAt", "(IZ)I"⟩, prog_15_method_27_code, 8, some .int, 11, 1, 3, 11, eg_p171)
set_option maxRecDepth 10000 in
theorem eg_tj171 : eg_tab[171]? = some eg_m171 := rfl
abbrev eg_m172 : eg_T := (⟨"WeakSchemeModel", "isSpecial", "(I)Z"⟩, prog_15_method_17_code, 2, some .boolean, 11, 1, 2, 11, eg_p172)
set_option maxRecDepth 10000 in
theorem eg_tj172 : eg_tab[172]? = some eg_m172 := rfl
abbrev eg_m173 : eg_T := (⟨"WeakSchemeModel", "shape", "(I)I"⟩, prog_15_method_21_code, 2, some .int, 11, 1, 2, 11, eg_p173)
set_option maxRecDepth 10000 in
theorem eg_tj173 : eg_tab[173]? = some eg_m173 := rfl
abbrev eg_m174 : eg_T := (⟨"WeakSchemeModel", "isForm", "(IZ)Z"⟩, prog_15_method_20_code, 4, some .boolean, 11, 1, 3, 11, eg_p174)
set_option maxRecDepth 10000 in
theorem eg_tj174 : eg_tab[174]? = some eg_m174 := rfl
abbrev eg_m175 : eg_T := (⟨"WeakSchemeModel", "formOf", "(I)I"⟩, prog_15_method_18_code, 2, some .int, 11, 1, 2, 11, eg_p175)
set_option maxRecDepth 10000 in
theorem eg_tj175 : eg_tab[175]? = some eg_m175 := rfl
abbrev eg_m176 : eg_T := (⟨"WeakSchemeModel", "second", "(I)I"⟩, prog_15_method_19_code, 2, some .int, 11, 1, 2, 11, eg_p176)
set_option maxRecDepth 10000 in
theorem eg_tj176 : eg_tab[176]? = some eg_m176 := rfl
abbrev eg_m177 : eg_T := (⟨"WeakSchemeModel", "isName", "(I)Z"⟩, prog_15_method_16_code, 2, some .boolean, 11, 1, 2, 11, eg_p177)
set_option maxRecDepth 10000 in
theorem eg_tj177 : eg_tab[177]? = some eg_m177 := rfl
abbrev eg_m178 : eg_T := (⟨"WeakSchemeModel", "later", "(III)V"⟩, prog_15_method_23_code, 4, none, 11, 1, 4, 11, eg_p178)
set_option maxRecDepth 10000 in
theorem eg_tj178 : eg_tab[178]? = some eg_m178 := rfl
abbrev eg_m179 : eg_T := (⟨"WeakSchemeModel", "names", "(I)I"⟩, prog_15_method_25_code, 5, some .int, 11, 1, 2, 11, eg_p179)
set_option maxRecDepth 10000 in
theorem eg_tj179 : eg_tab[179]? = some eg_m179 := rfl
abbrev eg_m180 : eg_T := (⟨"WeakSchemeModel", "fresh", "(IIIZ)I"⟩, prog_15_method_22_code, 9, some .int, 11, 1, 5, 11, eg_p180)
set_option maxRecDepth 10000 in
theorem eg_tj180 : eg_tab[180]? = some eg_m180 := rfl
abbrev eg_m181 : eg_T := (⟨"WeakSchemeModel", "laterAll", "(II)V"⟩, prog_15_method_24_code, 4, none, 11, 1, 3, 11, eg_p181)
set_option maxRecDepth 10000 in
theorem eg_tj181 : eg_tab[181]? = some eg_m181 := rfl
abbrev eg_m182 : eg_T := (⟨"WeakSchemeModel", "binding", "(III)I"⟩, prog_15_method_26_code, 6, some .int, 11, 1, 4, 11, eg_p182)
set_option maxRecDepth 10000 in
theorem eg_tj182 : eg_tab[182]? = some eg_m182 := rfl
abbrev eg_m183 : eg_T := (⟨"WeakSchemeModel", "program", "()I"⟩, prog_15_method_93_code, 3, some .int, 11, 1, 1, 11, eg_p183)
set_option maxRecDepth 10000 in
theorem eg_tj183 : eg_tab[183]? = some eg_m183 := rfl
abbrev eg_m184 : eg_T := (⟨"WeakSchemeModel", "evaluate", "(IJ)I"⟩, prog_15_method_53_code, 6, some .int, 11, 1, 3, 11, eg_p184)
set_option maxRecDepth 10000 in
theorem eg_tj184 : eg_tab[184]? = some eg_m184 := rfl
abbrev eg_m185 : eg_T := (⟨"WeakSchemeModel", "fault", "(I)I"⟩, prog_15_method_47_code, 2, some .int, 11, 1, 2, 11, eg_p185)
set_option maxRecDepth 10000 in
theorem eg_tj185 : eg_tab[185]? = some eg_m185 := rfl
abbrev eg_m186 : eg_T := (⟨"WeakSchemeModel", "frameOf", "(JI)J"⟩, prog_15_method_52_code, 6, some .long, 11, 1, 3, 11, eg_p186)
set_option maxRecDepth 10000 in
theorem eg_tj186 : eg_tab[186]? = some eg_m186 := rfl
abbrev eg_m187 : eg_T := (⟨"WeakSchemeModel", "slot", "(J)I"⟩, prog_15_method_31_code, 2, some .int, 11, 0, 1, 11, eg_p187)
set_option maxRecDepth 10000 in
theorem eg_tj187 : eg_tab[187]? = some eg_m187 := rfl
abbrev eg_m188 : eg_T := (⟨"WeakSchemeModel", "nameIn", "(II)I"⟩, prog_15_method_51_code, 7, some .int, 11, 1, 3, 11, eg_p188)
set_option maxRecDepth 10000 in
theorem eg_tj188 : eg_tab[188]? = some eg_m188 := rfl
abbrev eg_m189 : eg_T := (⟨"WeakSchemeModel", "get", "(JI)J"⟩, prog_15_method_35_code, 4, some .long, 11, 1, 3, 11, eg_p189)
set_option maxRecDepth 10000 in
theorem eg_tj189 : eg_tab[189]? = some eg_m189 := rfl
abbrev eg_m190 : eg_T := (⟨"WeakSchemeModel", "cellAt", "(II)I"⟩, prog_15_method_34_code, 5, some .int, 11, 1, 3, 11, eg_p190)
set_option maxRecDepth 10000 in
theorem eg_tj190 : eg_tab[190]? = some eg_m190 := rfl
abbrev eg_m191 : eg_T := (⟨"WeakSchemeModel", "list", "(IJ)I"⟩, prog_15_method_54_code, 5, some .int, 11, 1, 3, 11, eg_p191)
set_option maxRecDepth 10000 in
theorem eg_tj191 : eg_tab[191]? = some eg_m191 := rfl
abbrev eg_m192 : eg_T := (⟨"WeakSchemeModel", "quote", "(IJ)I"⟩, prog_15_method_56_code, 5, some .int, 11, 1, 3, 11, eg_p192)
set_option maxRecDepth 10000 in
theorem eg_tj192 : eg_tab[192]? = some eg_m192 := rfl
abbrev eg_m193 : eg_T := (⟨"WeakSchemeModel", "build", "(I)I"⟩, prog_15_method_57_code, 8, some .int, 11, 1, 2, 11, eg_p193)
set_option maxRecDepth 10000 in
theorem eg_tj193 : eg_tab[193]? = some eg_m193 := rfl
abbrev eg_m194 : eg_T := (⟨"WeakSchemeModel", "atom", "(I)J"⟩, prog_15_method_58_code, 2, some .long, 11, 1, 2, 11, eg_p194)
set_option maxRecDepth 10000 in
theorem eg_tj194 : eg_tab[194]? = some eg_m194 := rfl
abbrev eg_m195 : eg_T := (⟨"WeakSchemeModel", "make", "(IIJ)J"⟩, prog_15_method_37_code, 9, some .long, 11, 1, 4, 11, eg_p195)
set_option maxRecDepth 10000 in
theorem eg_tj195 : eg_tab[195]? = some eg_m195 := rfl
abbrev eg_m196 : eg_T := (⟨"WeakSchemeModel", "cellsOf", "(II)I"⟩, prog_15_method_33_code, 2, some .int, 11, 0, 2, 11, eg_p196)
set_option maxRecDepth 10000 in
theorem eg_tj196 : eg_tab[196]? = some eg_m196 := rfl
abbrev eg_m197 : eg_T := (⟨"WeakSchemeModel", "collect", "()Z"⟩, prog_15_method_46_code, 4, some .boolean, 11, 1, 1, 11, eg_p197)
set_option maxRecDepth 10000 in
theorem eg_tj197 : eg_tab[197]? = some eg_m197 := rfl
abbrev eg_m198 : eg_T := (⟨"WeakSchemeModel", "reckon", "()V"⟩, prog_15_method_44_code, 2, none, 11, 1, 1, 11, eg_p198)
set_option maxRecDepth 10000 in
theorem eg_tj198 : eg_tab[198]? = some eg_m198 := rfl
abbrev eg_m199 : eg_T := (⟨"WeakSchemeModel", "mark", "(J)V"⟩, prog_15_method_40_code, 3, none, 11, 1, 2, 11, eg_p199)
set_option maxRecDepth 10000 in
theorem eg_tj199 : eg_tab[199]? = some eg_m199 := rfl
abbrev eg_m200 : eg_T := (⟨"WeakSchemeModel", "isLive", "(J)Z"⟩, prog_15_method_39_code, 3, some .boolean, 11, 1, 2, 11, eg_p200)
set_option maxRecDepth 10000 in
theorem eg_tj200 : eg_tab[200]? = some eg_m200 := rfl
abbrev eg_m201 : eg_T := (⟨"WeakSchemeModel", "isObject", "(J)Z"⟩, prog_15_method_30_code, 2, some .boolean, 11, 0, 1, 11, eg_p201)
set_option maxRecDepth 10000 in
theorem eg_tj201 : eg_tab[201]? = some eg_m201 := rfl
abbrev eg_m202 : eg_T := (⟨"WeakSchemeModel", "follow", "()V"⟩, prog_15_method_41_code, 4, none, 11, 1, 1, 11, eg_p202)
set_option maxRecDepth 10000 in
theorem eg_tj202 : eg_tab[202]? = some eg_m202 := rfl
abbrev eg_m203 : eg_T := (⟨"WeakSchemeModel", "keyed", "()Z"⟩, prog_15_method_42_code, 5, some .boolean, 11, 1, 1, 11, eg_p203)
set_option maxRecDepth 10000 in
theorem eg_tj203 : eg_tab[203]? = some eg_m203 := rfl
abbrev eg_m204 : eg_T := (⟨"WeakSchemeModel", "entries", "(J)Z"⟩, prog_15_method_43_code, 7, some .boolean, 11, 1, 2, 11, eg_p204)
set_option maxRecDepth 10000 in
theorem eg_tj204 : eg_tab[204]? = some eg_m204 := rfl
abbrev eg_m205 : eg_T := (⟨"WeakSchemeModel", "set", "(JIJ)V"⟩, prog_15_method_36_code, 6, none, 11, 1, 4, 11, eg_p205)
set_option maxRecDepth 10000 in
theorem eg_tj205 : eg_tab[205]? = some eg_m205 := rfl
abbrev eg_m206 : eg_T := (⟨"WeakSchemeModel", "thin", "(J)V"⟩, prog_15_method_45_code, 7, none, 11, 1, 2, 11, eg_p206)
set_option maxRecDepth 10000 in
theorem eg_tj206 : eg_tab[206]? = some eg_m206 := rfl
abbrev eg_m207 : eg_T := (⟨"WeakSchemeModel", "drop", "(I)V"⟩, prog_15_method_38_code, 4, none, 11, 1, 2, 11, eg_p207)
set_option maxRecDepth 10000 in
theorem eg_tj207 : eg_tab[207]? = some eg_m207 := rfl
abbrev eg_m208 : eg_T := (⟨"WeakSchemeModel", "second2", "(I)I"⟩, prog_15_method_55_code, 2, some .int, 11, 1, 2, 11, eg_p208)
set_option maxRecDepth 10000 in
theorem eg_tj208 : eg_tab[208]? = some eg_m208 := rfl
abbrev eg_m209 : eg_T := (⟨"WeakSchemeModel", "push", "(IIJI)V"⟩, prog_15_method_48_code, 6, none, 11, 1, 5, 11, eg_p209)
set_option maxRecDepth 10000 in
theorem eg_tj209 : eg_tab[209]? = some eg_m209 := rfl
abbrev eg_m210 : eg_T := (⟨"WeakSchemeModel", "finish", "(I)I"⟩, prog_15_method_92_code, 5, some .int, 11, 1, 2, 11, eg_p210)
set_option maxRecDepth 10000 in
theorem eg_tj210 : eg_tab[210]? = some eg_m210 := rfl
abbrev eg_m211 : eg_T := (⟨"WeakSchemeModel", "step", "(Z)I"⟩, prog_15_method_60_code, 4, some .int, 11, 1, 2, 11, eg_p211)
set_option maxRecDepth 10000 in
theorem eg_tj211 : eg_tab[211]? = some eg_m211 := rfl
abbrev eg_m212 : eg_T := (⟨"WeakSchemeModel", "stepIf", "()I"⟩, prog_15_method_61_code, 4, some .int, 11, 1, 1, 11, eg_p212)
set_option maxRecDepth 10000 in
theorem eg_tj212 : eg_tab[212]? = some eg_m212 := rfl
abbrev eg_m213 : eg_T := (⟨"WeakSchemeModel", "through", "(J)I"⟩, prog_15_method_59_code, 3, some .int, 11, 1, 2, 11, eg_p213)
set_option maxRecDepth 10000 in
theorem eg_tj213 : eg_tab[213]? = some eg_m213 := rfl
abbrev eg_m214 : eg_T := (⟨"WeakSchemeModel", "pop", "()V"⟩, prog_15_method_49_code, 1, none, 11, 1, 1, 11, eg_p214)
set_option maxRecDepth 10000 in
theorem eg_tj214 : eg_tab[214]? = some eg_m214 := rfl
abbrev eg_m215 : eg_T := (⟨"WeakSchemeModel", "stepSet", "(I)I"⟩, prog_15_method_63_code, 9, some .int, 11, 1, 2, 11, eg_p215)
set_option maxRecDepth 10000 in
theorem eg_tj215 : eg_tab[215]? = some eg_m215 := rfl
abbrev eg_m216 : eg_T := (⟨"WeakSchemeModel", "stepLet", "(IZ)I"⟩, prog_15_method_64_code, 8, some .int, 11, 1, 3, 11, eg_p216)
set_option maxRecDepth 10000 in
theorem eg_tj216 : eg_tab[216]? = some eg_m216 := rfl
abbrev eg_m217 : eg_T := (⟨"WeakSchemeModel", "hold", "(J)V"⟩, prog_15_method_50_code, 3, none, 11, 1, 2, 11, eg_p217)
set_option maxRecDepth 10000 in
theorem eg_tj217 : eg_tab[217]? = some eg_m217 := rfl
abbrev eg_m218 : eg_T := (⟨"WeakSchemeModel", "stepBody", "()I"⟩, prog_15_method_62_code, 3, some .int, 11, 1, 1, 11, eg_p218)
set_option maxRecDepth 10000 in
theorem eg_tj218 : eg_tab[218]? = some eg_m218 := rfl
abbrev eg_m219 : eg_T := (⟨"WeakSchemeModel", "stepWhile", "(I)I"⟩, prog_15_method_65_code, 4, some .int, 11, 1, 2, 11, eg_p219)
set_option maxRecDepth 10000 in
theorem eg_tj219 : eg_tab[219]? = some eg_m219 := rfl
abbrev eg_m220 : eg_T := (⟨"WeakSchemeModel", "stepAnd", "(Z)I"⟩, prog_15_method_66_code, 6, some .int, 11, 1, 2, 11, eg_p220)
set_option maxRecDepth 10000 in
theorem eg_tj220 : eg_tab[220]? = some eg_m220 := rfl
abbrev eg_m221 : eg_T := (⟨"WeakSchemeModel", "stepCall", "()I"⟩, prog_15_method_67_code, 2, some .int, 11, 1, 1, 11, eg_p221)
set_option maxRecDepth 10000 in
theorem eg_tj221 : eg_tab[221]? = some eg_m221 := rfl
abbrev eg_m222 : eg_T := (⟨"WeakSchemeModel", "apply", "(II)I"⟩, prog_15_method_68_code, 7, some .int, 11, 1, 3, 11, eg_p222)
set_option maxRecDepth 10000 in
theorem eg_tj222 : eg_tab[222]? = some eg_m222 := rfl
abbrev eg_m223 : eg_T := (⟨"WeakSchemeModel", "is", "(JI)Z"⟩, prog_15_method_32_code, 4, some .boolean, 11, 1, 3, 11, eg_p223)
set_option maxRecDepth 10000 in
theorem eg_tj223 : eg_tab[223]? = some eg_m223 := rfl
abbrev eg_m224 : eg_T := (⟨"WeakSchemeModel", "enter", "(JII)I"⟩, prog_15_method_69_code, 9, some .int, 11, 1, 4, 11, eg_p224)
set_option maxRecDepth 10000 in
theorem eg_tj224 : eg_tab[224]? = some eg_m224 := rfl
abbrev eg_m225 : eg_T := (⟨"WeakSchemeModel", "operands", "(I)I"⟩, prog_15_method_71_code, 1, some .int, 11, 0, 1, 11, eg_p225)
set_option maxRecDepth 10000 in
theorem eg_tj225 : eg_tab[225]? = some eg_m225 := rfl
abbrev eg_m226 : eg_T := (⟨"WeakSchemeModel", "primitive", "(II)I"⟩, prog_15_method_74_code, 3, some .int, 11, 1, 3, 11, eg_p226)
set_option maxRecDepth 10000 in
theorem eg_tj226 : eg_tab[226]? = some eg_m226 := rfl
abbrev eg_m227 : eg_T := (⟨"WeakSchemeModel", "arithmetic", "(IJJ)I"⟩, prog_15_method_75_code, 8, some .int, 11, 1, 4, 11, eg_p227)
set_option maxRecDepth 10000 in
theorem eg_tj227 : eg_tab[227]? = some eg_m227 := rfl
abbrev eg_m228 : eg_T := (⟨"WeakSchemeModel", "isNumber", "(J)Z"⟩, prog_15_method_72_code, 2, some .boolean, 11, 0, 1, 11, eg_p228)
set_option maxRecDepth 10000 in
theorem eg_tj228 : eg_tab[228]? = some eg_m228 := rfl
abbrev eg_m229 : eg_T := (⟨"WeakSchemeModel", "give", "(J)I"⟩, prog_15_method_73_code, 3, some .int, 11, 1, 2, 11, eg_p229)
set_option maxRecDepth 10000 in
theorem eg_tj229 : eg_tab[229]? = some eg_m229 := rfl
abbrev eg_m230 : eg_T := (⟨"WeakSchemeModel", "lists", "(II)I"⟩, prog_15_method_77_code, 7, some .int, 11, 1, 3, 11, eg_p230)
set_option maxRecDepth 10000 in
theorem eg_tj230 : eg_tab[230]? = some eg_m230 := rfl
abbrev eg_m231 : eg_T := (⟨"WeakSchemeModel", "made", "(J)I"⟩, prog_15_method_76_code, 3, some .int, 11, 1, 2, 11, eg_p231)
set_option maxRecDepth 10000 in
theorem eg_tj231 : eg_tab[231]? = some eg_m231 := rfl
abbrev eg_m232 : eg_T := (⟨"WeakSchemeModel", "vectors", "(II)I"⟩, prog_15_method_78_code, 7, some .int, 11, 1, 3, 11, eg_p232)
set_option maxRecDepth 10000 in
theorem eg_tj232 : eg_tab[232]? = some eg_m232 := rfl
abbrev eg_m233 : eg_T := (⟨"WeakSchemeModel", "weaks", "(II)I"⟩, prog_15_method_80_code, 7, some .int, 11, 1, 3, 11, eg_p233)
set_option maxRecDepth 10000 in
theorem eg_tj233 : eg_tab[233]? = some eg_m233 := rfl
abbrev eg_m234 : eg_T := (⟨"WeakSchemeModel", "finalize", "(JJ)I"⟩, prog_15_method_82_code, 5, some .int, 11, 1, 3, 11, eg_p234)
set_option maxRecDepth 10000 in
theorem eg_tj234 : eg_tab[234]? = some eg_m234 := rfl
abbrev eg_m235 : eg_T := (⟨"WeakSchemeModel", "tables", "(IJI)I"⟩, prog_15_method_81_code, 8, some .int, 11, 1, 4, 11, eg_p235)
set_option maxRecDepth 10000 in
theorem eg_tj235 : eg_tab[235]? = some eg_m235 := rfl
abbrev eg_m236 : eg_T := (⟨"WeakSchemeModel", "entryOf", "(JJ)J"⟩, prog_15_method_79_code, 7, some .long, 11, 1, 3, 11, eg_p236)
set_option maxRecDepth 10000 in
theorem eg_tj236 : eg_tab[236]? = some eg_m236 := rfl
abbrev eg_m237 : eg_T := (⟨"WeakSchemeModel", "others", "(II)I"⟩, prog_15_method_83_code, 5, some .int, 11, 1, 3, 11, eg_p237)
set_option maxRecDepth 10000 in
theorem eg_tj237 : eg_tab[237]? = some eg_m237 := rfl
abbrev eg_m238 : eg_T := (⟨"WeakSchemeModel", "print", "(J)V"⟩, prog_15_method_91_code, 10, none, 11, 1, 2, 11, eg_p238)
set_option maxRecDepth 10000 in
theorem eg_tj238 : eg_tab[238]? = some eg_m238 := rfl
abbrev eg_m239 : eg_T := (⟨"WeakSchemeModel", "writePart", "(J)Z"⟩, prog_15_method_90_code, 3, some .boolean, 11, 1, 2, 11, eg_p239)
set_option maxRecDepth 10000 in
theorem eg_tj239 : eg_tab[239]? = some eg_m239 := rfl
abbrev eg_m240 : eg_T := (⟨"WeakSchemeModel", "write", "(I)V"⟩, prog_15_method_84_code, 2, none, 11, 1, 2, 11, eg_p240)
set_option maxRecDepth 10000 in
theorem eg_tj240 : eg_tab[240]? = some eg_m240 := rfl
abbrev eg_m241 : eg_T := (⟨"WeakSchemeModel", "writeDots", "()V"⟩, prog_15_method_86_code, 2, none, 11, 1, 1, 11, eg_p241)
set_option maxRecDepth 10000 in
theorem eg_tj241 : eg_tab[241]? = some eg_m241 := rfl
abbrev eg_m242 : eg_T := (⟨"WeakSchemeModel", "writeAtom", "(J)V"⟩, prog_15_method_89_code, 4, none, 11, 1, 2, 11, eg_p242)
set_option maxRecDepth 10000 in
theorem eg_tj242 : eg_tab[242]? = some eg_m242 := rfl
abbrev eg_m243 : eg_T := (⟨"WeakSchemeModel", "writeNumber", "(I)V"⟩, prog_15_method_87_code, 6, none, 11, 1, 2, 11, eg_p243)
set_option maxRecDepth 10000 in
theorem eg_tj243 : eg_tab[243]? = some eg_m243 := rfl
abbrev eg_m244 : eg_T := (⟨"WeakSchemeModel", "writeName", "(I)V"⟩, prog_15_method_85_code, 3, none, 11, 1, 2, 11, eg_p244)
set_option maxRecDepth 10000 in
theorem eg_tj244 : eg_tab[244]? = some eg_m244 := rfl
abbrev eg_m245 : eg_T := (⟨"WeakSchemeModel", "writeSort", "(J)V"⟩, prog_15_method_88_code, 5, none, 11, 1, 2, 11, eg_p245)
set_option maxRecDepth 10000 in
theorem eg_tj245 : eg_tab[245]? = some eg_m245 := rfl
abbrev eg_m246 : eg_T := (⟨"WeakSchemeModel", "stepQueue", "()I"⟩, prog_15_method_70_code, 3, some .int, 11, 1, 1, 11, eg_p246)
set_option maxRecDepth 10000 in
theorem eg_tj246 : eg_tab[246]? = some eg_m246 := rfl
abbrev eg_m247 : eg_T := (⟨"WeakSchemeModel", "place", "()I"⟩, prog_15_method_95_code, 1, some .int, 11, 1, 1, 11, eg_p247)
set_option maxRecDepth 10000 in
theorem eg_tj247 : eg_tab[247]? = some eg_m247 := rfl
abbrev eg_m248 : eg_T := (⟨"WeakSchemeModel", "fetch", "()J"⟩, prog_15_method_96_code, 5, some .long, 11, 1, 1, 11, eg_p248)
set_option maxRecDepth 10000 in
theorem eg_tj248 : eg_tab[248]? = some eg_m248 := rfl
abbrev eg_m249 : eg_T := (⟨"WeakSchemeModel", "count", "(I)I"⟩, prog_15_method_97_code, 2, some .int, 11, 1, 2, 11, eg_p249)
set_option maxRecDepth 10000 in
theorem eg_tj249 : eg_tab[249]? = some eg_m249 := rfl
