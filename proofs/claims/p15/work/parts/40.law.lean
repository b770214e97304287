theorem chL_law_0 : (cL_law.data.toList.drop 0).take 16 = [187, 0, 7, 89, 183, 0, 9, 76, 187, 0, 10, 89, 183, 0, 12, 77] := by decide +kernel
theorem chL_law_1 : (cL_law.data.toList.drop 16).take 16 = [3, 62, 29, 42, 190, 16, 8, 100, 163, 6, 36, 42, 29, 46, 16, 31] := by decide +kernel
theorem chL_law_2 : (cL_law.data.toList.drop 32).take 16 = [126, 170, 0, 0, 0, 0, 6, 21, 0, 0, 0, 0, 0, 0, 0, 31] := by decide +kernel
theorem chL_law_11 : (cL_law.data.toList.drop 176).take 16 = [43, 42, 29, 4, 96, 46, 42, 29, 5, 96, 46, 42, 29, 6, 96, 46] := by decide +kernel
theorem chL_law_12 : (cL_law.data.toList.drop 192).take 16 = [42, 29, 7, 96, 46, 42, 29, 8, 96, 46, 182, 0, 13, 87, 44, 42] := by decide +kernel
theorem chL_law_13 : (cL_law.data.toList.drop 208).take 16 = [29, 4, 96, 46, 42, 29, 5, 96, 46, 42, 29, 6, 96, 46, 42, 29] := by decide +kernel
theorem chL_law_14 : (cL_law.data.toList.drop 224).take 16 = [7, 96, 46, 42, 29, 8, 96, 46, 182, 0, 17, 87, 167, 5, 74, 43] := by decide +kernel
theorem chL_law_15 : (cL_law.data.toList.drop 240).take 16 = [42, 29, 4, 96, 46, 182, 0, 18, 87, 44, 42, 29, 4, 96, 46, 182] := by decide +kernel
theorem chL_law_16 : (cL_law.data.toList.drop 256).take 16 = [0, 22, 87, 167, 5, 51, 43, 42, 29, 4, 96, 46, 42, 29, 5, 96] := by decide +kernel
theorem chL_law_17 : (cL_law.data.toList.drop 272).take 16 = [46, 182, 0, 23, 87, 44, 42, 29, 4, 96, 46, 42, 29, 5, 96, 46] := by decide +kernel
theorem chL_law_18 : (cL_law.data.toList.drop 288).take 16 = [182, 0, 27, 87, 167, 5, 18, 43, 42, 29, 4, 96, 46, 182, 0, 28] := by decide +kernel
theorem chL_law_19 : (cL_law.data.toList.drop 304).take 16 = [87, 44, 42, 29, 4, 96, 46, 182, 0, 31, 87, 167, 4, 251, 43, 42] := by decide +kernel
theorem chL_law_20 : (cL_law.data.toList.drop 320).take 16 = [29, 4, 96, 46, 42, 29, 5, 96, 46, 182, 0, 32, 87, 44, 42, 29] := by decide +kernel
theorem chL_law_21 : (cL_law.data.toList.drop 336).take 16 = [4, 96, 46, 42, 29, 5, 96, 46, 182, 0, 35, 87, 167, 4, 218, 43] := by decide +kernel
theorem chL_law_22 : (cL_law.data.toList.drop 352).take 16 = [42, 29, 4, 96, 46, 42, 29, 5, 96, 46, 42, 29, 6, 96, 46, 42] := by decide +kernel
theorem chL_law_23 : (cL_law.data.toList.drop 368).take 16 = [29, 7, 96, 46, 182, 0, 36, 87, 44, 42, 29, 4, 96, 46, 42, 29] := by decide +kernel
theorem chL_law_24 : (cL_law.data.toList.drop 384).take 16 = [5, 96, 46, 42, 29, 6, 96, 46, 42, 29, 7, 96, 46, 182, 0, 40] := by decide +kernel
theorem chL_law_25 : (cL_law.data.toList.drop 400).take 16 = [87, 167, 4, 165, 43, 42, 29, 4, 96, 46, 42, 29, 5, 96, 46, 182] := by decide +kernel
theorem chL_law_26 : (cL_law.data.toList.drop 416).take 16 = [0, 41, 87, 44, 42, 29, 4, 96, 46, 42, 29, 5, 96, 46, 182, 0] := by decide +kernel
theorem chL_law_27 : (cL_law.data.toList.drop 432).take 16 = [44, 87, 167, 4, 132, 43, 42, 29, 4, 96, 46, 42, 29, 5, 96, 46] := by decide +kernel
theorem chL_law_28 : (cL_law.data.toList.drop 448).take 16 = [42, 29, 6, 96, 46, 182, 0, 45, 87, 44, 42, 29, 4, 96, 46, 42] := by decide +kernel
theorem chL_law_29 : (cL_law.data.toList.drop 464).take 16 = [29, 5, 96, 46, 42, 29, 6, 96, 46, 182, 0, 49, 87, 167, 4, 89] := by decide +kernel
theorem chL_law_30 : (cL_law.data.toList.drop 480).take 16 = [43, 42, 29, 4, 96, 46, 42, 29, 5, 96, 46, 42, 29, 6, 96, 46] := by decide +kernel
theorem chL_law_31 : (cL_law.data.toList.drop 496).take 16 = [182, 0, 50, 87, 44, 42, 29, 4, 96, 46, 42, 29, 5, 96, 46, 42] := by decide +kernel
theorem chL_law_32 : (cL_law.data.toList.drop 512).take 16 = [29, 6, 96, 46, 182, 0, 53, 87, 167, 4, 46, 43, 42, 29, 4, 96] := by decide +kernel
theorem chL_law_33 : (cL_law.data.toList.drop 528).take 16 = [46, 42, 29, 5, 96, 46, 42, 29, 6, 96, 46, 42, 29, 7, 96, 46] := by decide +kernel
theorem chL_law_34 : (cL_law.data.toList.drop 544).take 16 = [42, 29, 8, 96, 46, 182, 0, 54, 87, 44, 42, 29, 4, 96, 46, 42] := by decide +kernel
theorem chL_law_35 : (cL_law.data.toList.drop 560).take 16 = [29, 5, 96, 46, 42, 29, 6, 96, 46, 42, 29, 7, 96, 46, 42, 29] := by decide +kernel
theorem chL_law_36 : (cL_law.data.toList.drop 576).take 16 = [8, 96, 46, 182, 0, 57, 87, 167, 3, 239, 43, 42, 29, 4, 96, 46] := by decide +kernel
theorem chL_law_37 : (cL_law.data.toList.drop 592).take 16 = [42, 29, 5, 96, 46, 42, 29, 6, 96, 46, 42, 29, 7, 96, 46, 42] := by decide +kernel
theorem chL_law_38 : (cL_law.data.toList.drop 608).take 16 = [29, 8, 96, 46, 42, 29, 16, 6, 96, 46, 42, 29, 16, 7, 96, 46] := by decide +kernel
theorem chL_law_39 : (cL_law.data.toList.drop 624).take 16 = [182, 0, 58, 87, 44, 42, 29, 4, 96, 46, 42, 29, 5, 96, 46, 42] := by decide +kernel
theorem chL_law_40 : (cL_law.data.toList.drop 640).take 16 = [29, 6, 96, 46, 42, 29, 7, 96, 46, 42, 29, 8, 96, 46, 42, 29] := by decide +kernel
theorem chL_law_41 : (cL_law.data.toList.drop 656).take 16 = [16, 6, 96, 46, 42, 29, 16, 7, 96, 46, 182, 0, 62, 87, 167, 3] := by decide +kernel
theorem chL_law_42 : (cL_law.data.toList.drop 672).take 16 = [152, 43, 42, 29, 4, 96, 46, 42, 29, 5, 96, 46, 182, 0, 63, 87] := by decide +kernel
theorem chL_law_43 : (cL_law.data.toList.drop 688).take 16 = [44, 42, 29, 4, 96, 46, 42, 29, 5, 96, 46, 182, 0, 66, 87, 167] := by decide +kernel
theorem chL_law_44 : (cL_law.data.toList.drop 704).take 16 = [3, 119, 43, 42, 29, 4, 96, 46, 182, 0, 67, 87, 44, 42, 29, 4] := by decide +kernel
theorem chL_law_45 : (cL_law.data.toList.drop 720).take 16 = [96, 46, 182, 0, 70, 87, 167, 3, 96, 43, 42, 29, 4, 96, 46, 42] := by decide +kernel
theorem chL_law_46 : (cL_law.data.toList.drop 736).take 16 = [29, 5, 96, 46, 182, 0, 71, 44, 42, 29, 4, 96, 46, 42, 29, 5] := by decide +kernel
theorem chL_law_47 : (cL_law.data.toList.drop 752).take 16 = [96, 46, 182, 0, 74, 159, 3, 65, 3, 172, 43, 42, 29, 4, 96, 46] := by decide +kernel
theorem chL_law_48 : (cL_law.data.toList.drop 768).take 16 = [42, 29, 5, 96, 46, 42, 29, 6, 96, 46, 182, 0, 75, 87, 44, 42] := by decide +kernel
theorem chL_law_49 : (cL_law.data.toList.drop 784).take 16 = [29, 4, 96, 46, 42, 29, 5, 96, 46, 42, 29, 6, 96, 46, 182, 0] := by decide +kernel
theorem chL_law_50 : (cL_law.data.toList.drop 800).take 16 = [78, 87, 167, 3, 20, 43, 42, 29, 4, 96, 46, 42, 29, 5, 96, 46] := by decide +kernel
theorem chL_law_51 : (cL_law.data.toList.drop 816).take 16 = [182, 0, 79, 87, 44, 42, 29, 4, 96, 46, 42, 29, 5, 96, 46, 182] := by decide +kernel
theorem chL_law_52 : (cL_law.data.toList.drop 832).take 16 = [0, 82, 87, 167, 2, 243, 43, 42, 29, 4, 96, 46, 42, 29, 5, 96] := by decide +kernel
theorem chL_law_53 : (cL_law.data.toList.drop 848).take 16 = [46, 42, 29, 6, 96, 46, 42, 29, 7, 96, 46, 42, 29, 8, 96, 46] := by decide +kernel
theorem chL_law_54 : (cL_law.data.toList.drop 864).take 16 = [182, 0, 83, 87, 44, 42, 29, 4, 96, 46, 42, 29, 5, 96, 46, 42] := by decide +kernel
theorem chL_law_55 : (cL_law.data.toList.drop 880).take 16 = [29, 6, 96, 46, 42, 29, 7, 96, 46, 42, 29, 8, 96, 46, 182, 0] := by decide +kernel
theorem chL_law_56 : (cL_law.data.toList.drop 896).take 16 = [86, 87, 167, 2, 180, 43, 42, 29, 4, 96, 46, 42, 29, 5, 96, 46] := by decide +kernel
theorem chL_law_57 : (cL_law.data.toList.drop 912).take 16 = [42, 29, 6, 96, 46, 153, 0, 7, 4, 167, 0, 4, 3, 182, 0, 87] := by decide +kernel
theorem chL_law_58 : (cL_law.data.toList.drop 928).take 16 = [87, 44, 42, 29, 4, 96, 46, 42, 29, 5, 96, 46, 42, 29, 6, 96] := by decide +kernel
theorem chL_law_59 : (cL_law.data.toList.drop 944).take 16 = [46, 153, 0, 7, 4, 167, 0, 4, 3, 182, 0, 91, 87, 167, 2, 121] := by decide +kernel
theorem chL_law_60 : (cL_law.data.toList.drop 960).take 16 = [43, 42, 29, 4, 96, 46, 42, 29, 5, 96, 46, 42, 29, 6, 96, 46] := by decide +kernel
theorem chL_law_61 : (cL_law.data.toList.drop 976).take 16 = [42, 29, 7, 96, 46, 42, 29, 8, 96, 46, 182, 0, 92, 87, 44, 42] := by decide +kernel
theorem chL_law_62 : (cL_law.data.toList.drop 992).take 16 = [29, 4, 96, 46, 42, 29, 5, 96, 46, 42, 29, 6, 96, 46, 42, 29] := by decide +kernel
theorem chL_law_63 : (cL_law.data.toList.drop 1008).take 16 = [7, 96, 46, 42, 29, 8, 96, 46, 182, 0, 95, 87, 167, 2, 58, 43] := by decide +kernel
theorem chL_law_64 : (cL_law.data.toList.drop 1024).take 16 = [42, 29, 4, 96, 46, 42, 29, 5, 96, 46, 153, 0, 7, 4, 167, 0] := by decide +kernel
theorem chL_law_65 : (cL_law.data.toList.drop 1040).take 16 = [4, 3, 182, 0, 96, 87, 44, 42, 29, 4, 96, 46, 42, 29, 5, 96] := by decide +kernel
theorem chL_law_66 : (cL_law.data.toList.drop 1056).take 16 = [46, 153, 0, 7, 4, 167, 0, 4, 3, 182, 0, 100, 87, 167, 2, 9] := by decide +kernel
theorem chL_law_67 : (cL_law.data.toList.drop 1072).take 16 = [43, 42, 29, 4, 96, 46, 42, 29, 5, 96, 46, 42, 29, 6, 96, 46] := by decide +kernel
theorem chL_law_68 : (cL_law.data.toList.drop 1088).take 16 = [182, 0, 101, 87, 44, 42, 29, 4, 96, 46, 42, 29, 5, 96, 46, 42] := by decide +kernel
theorem chL_law_69 : (cL_law.data.toList.drop 1104).take 16 = [29, 6, 96, 46, 182, 0, 104, 87, 167, 1, 222, 43, 42, 29, 4, 96] := by decide +kernel
theorem chL_law_70 : (cL_law.data.toList.drop 1120).take 16 = [46, 42, 29, 5, 96, 46, 182, 0, 105, 87, 44, 42, 29, 4, 96, 46] := by decide +kernel
theorem chL_law_71 : (cL_law.data.toList.drop 1136).take 16 = [42, 29, 5, 96, 46, 182, 0, 108, 87, 167, 1, 189, 43, 42, 29, 4] := by decide +kernel
theorem chL_law_72 : (cL_law.data.toList.drop 1152).take 16 = [96, 46, 42, 29, 5, 96, 46, 42, 29, 6, 96, 46, 153, 0, 7, 4] := by decide +kernel
theorem chL_law_73 : (cL_law.data.toList.drop 1168).take 16 = [167, 0, 4, 3, 182, 0, 109, 87, 44, 42, 29, 4, 96, 46, 42, 29] := by decide +kernel
theorem chL_law_74 : (cL_law.data.toList.drop 1184).take 16 = [5, 96, 46, 42, 29, 6, 96, 46, 153, 0, 7, 4, 167, 0, 4, 3] := by decide +kernel
theorem chL_law_75 : (cL_law.data.toList.drop 1200).take 16 = [182, 0, 112, 87, 167, 1, 130, 43, 42, 29, 4, 96, 46, 42, 29, 5] := by decide +kernel
theorem chL_law_76 : (cL_law.data.toList.drop 1216).take 16 = [96, 46, 182, 0, 113, 87, 44, 42, 29, 4, 96, 46, 42, 29, 5, 96] := by decide +kernel
theorem chL_law_77 : (cL_law.data.toList.drop 1232).take 16 = [46, 182, 0, 116, 87, 167, 1, 97, 43, 42, 29, 4, 96, 46, 42, 29] := by decide +kernel
theorem chL_law_78 : (cL_law.data.toList.drop 1248).take 16 = [5, 96, 46, 42, 29, 6, 96, 46, 42, 29, 7, 96, 46, 42, 29, 8] := by decide +kernel
theorem chL_law_79 : (cL_law.data.toList.drop 1264).take 16 = [96, 46, 182, 0, 117, 87, 44, 42, 29, 4, 96, 46, 42, 29, 5, 96] := by decide +kernel
theorem chL_law_80 : (cL_law.data.toList.drop 1280).take 16 = [46, 42, 29, 6, 96, 46, 42, 29, 7, 96, 46, 42, 29, 8, 96, 46] := by decide +kernel
theorem chL_law_81 : (cL_law.data.toList.drop 1296).take 16 = [182, 0, 120, 87, 167, 1, 34, 43, 42, 29, 4, 96, 46, 42, 29, 5] := by decide +kernel
theorem chL_law_82 : (cL_law.data.toList.drop 1312).take 16 = [96, 46, 42, 29, 6, 96, 46, 42, 29, 7, 96, 46, 42, 29, 8, 96] := by decide +kernel
theorem chL_law_83 : (cL_law.data.toList.drop 1328).take 16 = [46, 182, 0, 121, 87, 44, 42, 29, 4, 96, 46, 42, 29, 5, 96, 46] := by decide +kernel
theorem chL_law_84 : (cL_law.data.toList.drop 1344).take 16 = [42, 29, 6, 96, 46, 42, 29, 7, 96, 46, 42, 29, 8, 96, 46, 182] := by decide +kernel
theorem chL_law_85 : (cL_law.data.toList.drop 1360).take 16 = [0, 124, 87, 167, 0, 227, 43, 42, 29, 4, 96, 46, 42, 29, 5, 96] := by decide +kernel
theorem chL_law_86 : (cL_law.data.toList.drop 1376).take 16 = [46, 42, 29, 6, 96, 46, 42, 29, 7, 96, 46, 42, 29, 8, 96, 46] := by decide +kernel
theorem chL_law_87 : (cL_law.data.toList.drop 1392).take 16 = [182, 0, 125, 87, 44, 42, 29, 4, 96, 46, 42, 29, 5, 96, 46, 42] := by decide +kernel
theorem chL_law_88 : (cL_law.data.toList.drop 1408).take 16 = [29, 6, 96, 46, 42, 29, 7, 96, 46, 42, 29, 8, 96, 46, 182, 0] := by decide +kernel
theorem chL_law_89 : (cL_law.data.toList.drop 1424).take 16 = [128, 87, 167, 0, 164, 43, 42, 29, 4, 96, 46, 42, 29, 5, 96, 46] := by decide +kernel
theorem chL_law_90 : (cL_law.data.toList.drop 1440).take 16 = [42, 29, 6, 96, 46, 153, 0, 7, 4, 167, 0, 4, 3, 182, 0, 129] := by decide +kernel
theorem chL_law_91 : (cL_law.data.toList.drop 1456).take 16 = [87, 44, 42, 29, 4, 96, 46, 42, 29, 5, 96, 46, 42, 29, 6, 96] := by decide +kernel
theorem chL_law_92 : (cL_law.data.toList.drop 1472).take 16 = [46, 153, 0, 7, 4, 167, 0, 4, 3, 182, 0, 132, 87, 167, 0, 105] := by decide +kernel
theorem chL_law_93 : (cL_law.data.toList.drop 1488).take 16 = [43, 42, 29, 4, 96, 46, 42, 29, 5, 96, 46, 182, 0, 133, 87, 44] := by decide +kernel
theorem chL_law_94 : (cL_law.data.toList.drop 1504).take 16 = [42, 29, 4, 96, 46, 42, 29, 5, 96, 46, 182, 0, 136, 87, 167, 0] := by decide +kernel
theorem chL_law_95 : (cL_law.data.toList.drop 1520).take 16 = [72, 43, 42, 29, 4, 96, 46, 182, 0, 137, 87, 44, 42, 29, 4, 96] := by decide +kernel
theorem chL_law_96 : (cL_law.data.toList.drop 1536).take 16 = [46, 182, 0, 140, 87, 167, 0, 49, 43, 42, 29, 4, 96, 46, 182, 0] := by decide +kernel
theorem chL_law_97 : (cL_law.data.toList.drop 1552).take 16 = [141, 87, 44, 42, 29, 4, 96, 46, 182, 0, 145, 87, 167, 0, 26, 43] := by decide +kernel
theorem chL_law_98 : (cL_law.data.toList.drop 1568).take 16 = [42, 29, 4, 96, 46, 182, 0, 146, 87, 44, 42, 29, 4, 96, 46, 182] := by decide +kernel
theorem chL_law_99 : (cL_law.data.toList.drop 1584).take 16 = [0, 149, 87, 167, 0, 3, 132, 3, 8, 167, 249, 217, 4, 172] := by decide +kernel
theorem dL_law_0 : decode cL_law 0 = .ok (.new 7, 3) := oq_187 (byt chL_law_0 0 rfl) (byt chL_law_0 1 rfl) (byt chL_law_0 2 rfl) rfl
theorem dL_law_3 : decode cL_law 3 = .ok (.dup, 1) := oq_89 (byt chL_law_0 3 rfl)
theorem dL_law_4 : decode cL_law 4 = .ok (.invokespecial 9, 3) := oq_183 (byt chL_law_0 4 rfl) (byt chL_law_0 5 rfl) (byt chL_law_0 6 rfl) rfl
theorem dL_law_7 : decode cL_law 7 = .ok (.astore_n 1, 1) := oq_76 (byt chL_law_0 7 rfl)
theorem dL_law_8 : decode cL_law 8 = .ok (.new 10, 3) := oq_187 (byt chL_law_0 8 rfl) (byt chL_law_0 9 rfl) (byt chL_law_0 10 rfl) rfl
theorem dL_law_11 : decode cL_law 11 = .ok (.dup, 1) := oq_89 (byt chL_law_0 11 rfl)
theorem dL_law_12 : decode cL_law 12 = .ok (.invokespecial 12, 3) := oq_183 (byt chL_law_0 12 rfl) (byt chL_law_0 13 rfl) (byt chL_law_0 14 rfl) rfl
theorem dL_law_15 : decode cL_law 15 = .ok (.astore_n 2, 1) := oq_77 (byt chL_law_0 15 rfl)
theorem dL_law_16 : decode cL_law 16 = .ok (.iconst 0, 1) := oq_3 (byt chL_law_1 0 rfl)
theorem dL_law_17 : decode cL_law 17 = .ok (.istore_n 3, 1) := oq_62 (byt chL_law_1 1 rfl)
theorem dL_law_18 : decode cL_law 18 = .ok (.iload_n 3, 1) := oq_29 (byt chL_law_1 2 rfl)
theorem dL_law_19 : decode cL_law 19 = .ok (.aload_n 0, 1) := oq_42 (byt chL_law_1 3 rfl)
theorem dL_law_20 : decode cL_law 20 = .ok (.arraylength, 1) := oq_190 (byt chL_law_1 4 rfl)
theorem dL_law_21 : decode cL_law 21 = .ok (.bipush 8, 2) := oq_16 (byt chL_law_1 5 rfl) (byt chL_law_1 6 rfl) rfl
theorem dL_law_23 : decode cL_law 23 = .ok (.isub, 1) := oq_100 (byt chL_law_1 7 rfl)
theorem dL_law_24 : decode cL_law 24 = .ok (.if_icmp .gt 1572, 3) := oq_163 (byt chL_law_1 8 rfl) (byt chL_law_1 9 rfl) (byt chL_law_1 10 rfl) (by decide +kernel)
theorem dL_law_27 : decode cL_law 27 = .ok (.aload_n 0, 1) := oq_42 (byt chL_law_1 11 rfl)
theorem dL_law_28 : decode cL_law 28 = .ok (.iload_n 3, 1) := oq_29 (byt chL_law_1 12 rfl)
theorem dL_law_29 : decode cL_law 29 = .ok (.iaload, 1) := oq_46 (byt chL_law_1 13 rfl)
theorem dL_law_30 : decode cL_law 30 = .ok (.bipush 31, 2) := oq_16 (byt chL_law_1 14 rfl) (byt chL_law_1 15 rfl) rfl
theorem dL_law_32 : decode cL_law 32 = .ok (.iand, 1) := oq_126 (byt chL_law_2 0 rfl)
theorem dL_law_33 : decode cL_law 33 = .ok (.tableswitch 1557 0 31 #[143, 206, 229, 262, 285, 318, 371, 404, 447, 490, 553, 640, 673, 696, 729, 772, 805, 868, 927, 990, 1039, 1082, 1115, 1174, 1207, 1270, 1333, 1396, 1455, 1488, 1511, 1534], 143) := by decide +kernel
theorem dL_law_176 : decode cL_law 176 = .ok (.aload_n 1, 1) := oq_43 (byt chL_law_11 0 rfl)
theorem dL_law_177 : decode cL_law 177 = .ok (.aload_n 0, 1) := oq_42 (byt chL_law_11 1 rfl)
theorem dL_law_178 : decode cL_law 178 = .ok (.iload_n 3, 1) := oq_29 (byt chL_law_11 2 rfl)
theorem dL_law_179 : decode cL_law 179 = .ok (.iconst 1, 1) := oq_4 (byt chL_law_11 3 rfl)
theorem dL_law_180 : decode cL_law 180 = .ok (.iadd, 1) := oq_96 (byt chL_law_11 4 rfl)
theorem dL_law_181 : decode cL_law 181 = .ok (.iaload, 1) := oq_46 (byt chL_law_11 5 rfl)
theorem dL_law_182 : decode cL_law 182 = .ok (.aload_n 0, 1) := oq_42 (byt chL_law_11 6 rfl)
theorem dL_law_183 : decode cL_law 183 = .ok (.iload_n 3, 1) := oq_29 (byt chL_law_11 7 rfl)
theorem dL_law_184 : decode cL_law 184 = .ok (.iconst 2, 1) := oq_5 (byt chL_law_11 8 rfl)
theorem dL_law_185 : decode cL_law 185 = .ok (.iadd, 1) := oq_96 (byt chL_law_11 9 rfl)
theorem dL_law_186 : decode cL_law 186 = .ok (.iaload, 1) := oq_46 (byt chL_law_11 10 rfl)
theorem dL_law_187 : decode cL_law 187 = .ok (.aload_n 0, 1) := oq_42 (byt chL_law_11 11 rfl)
theorem dL_law_188 : decode cL_law 188 = .ok (.iload_n 3, 1) := oq_29 (byt chL_law_11 12 rfl)
theorem dL_law_189 : decode cL_law 189 = .ok (.iconst 3, 1) := oq_6 (byt chL_law_11 13 rfl)
theorem dL_law_190 : decode cL_law 190 = .ok (.iadd, 1) := oq_96 (byt chL_law_11 14 rfl)
theorem dL_law_191 : decode cL_law 191 = .ok (.iaload, 1) := oq_46 (byt chL_law_11 15 rfl)
theorem dL_law_192 : decode cL_law 192 = .ok (.aload_n 0, 1) := oq_42 (byt chL_law_12 0 rfl)
theorem dL_law_193 : decode cL_law 193 = .ok (.iload_n 3, 1) := oq_29 (byt chL_law_12 1 rfl)
theorem dL_law_194 : decode cL_law 194 = .ok (.iconst 4, 1) := oq_7 (byt chL_law_12 2 rfl)
theorem dL_law_195 : decode cL_law 195 = .ok (.iadd, 1) := oq_96 (byt chL_law_12 3 rfl)
theorem dL_law_196 : decode cL_law 196 = .ok (.iaload, 1) := oq_46 (byt chL_law_12 4 rfl)
theorem dL_law_197 : decode cL_law 197 = .ok (.aload_n 0, 1) := oq_42 (byt chL_law_12 5 rfl)
theorem dL_law_198 : decode cL_law 198 = .ok (.iload_n 3, 1) := oq_29 (byt chL_law_12 6 rfl)
theorem dL_law_199 : decode cL_law 199 = .ok (.iconst 5, 1) := oq_8 (byt chL_law_12 7 rfl)
theorem dL_law_200 : decode cL_law 200 = .ok (.iadd, 1) := oq_96 (byt chL_law_12 8 rfl)
theorem dL_law_201 : decode cL_law 201 = .ok (.iaload, 1) := oq_46 (byt chL_law_12 9 rfl)
theorem dL_law_202 : decode cL_law 202 = .ok (.invokevirtual 13, 3) := oq_182 (byt chL_law_12 10 rfl) (byt chL_law_12 11 rfl) (byt chL_law_12 12 rfl) rfl
theorem dL_law_205 : decode cL_law 205 = .ok (.pop, 1) := oq_87 (byt chL_law_12 13 rfl)
theorem dL_law_206 : decode cL_law 206 = .ok (.aload_n 2, 1) := oq_44 (byt chL_law_12 14 rfl)
theorem dL_law_207 : decode cL_law 207 = .ok (.aload_n 0, 1) := oq_42 (byt chL_law_12 15 rfl)
theorem dL_law_208 : decode cL_law 208 = .ok (.iload_n 3, 1) := oq_29 (byt chL_law_13 0 rfl)
theorem dL_law_209 : decode cL_law 209 = .ok (.iconst 1, 1) := oq_4 (byt chL_law_13 1 rfl)
theorem dL_law_210 : decode cL_law 210 = .ok (.iadd, 1) := oq_96 (byt chL_law_13 2 rfl)
theorem dL_law_211 : decode cL_law 211 = .ok (.iaload, 1) := oq_46 (byt chL_law_13 3 rfl)
theorem dL_law_212 : decode cL_law 212 = .ok (.aload_n 0, 1) := oq_42 (byt chL_law_13 4 rfl)
theorem dL_law_213 : decode cL_law 213 = .ok (.iload_n 3, 1) := oq_29 (byt chL_law_13 5 rfl)
theorem dL_law_214 : decode cL_law 214 = .ok (.iconst 2, 1) := oq_5 (byt chL_law_13 6 rfl)
theorem dL_law_215 : decode cL_law 215 = .ok (.iadd, 1) := oq_96 (byt chL_law_13 7 rfl)
theorem dL_law_216 : decode cL_law 216 = .ok (.iaload, 1) := oq_46 (byt chL_law_13 8 rfl)
theorem dL_law_217 : decode cL_law 217 = .ok (.aload_n 0, 1) := oq_42 (byt chL_law_13 9 rfl)
theorem dL_law_218 : decode cL_law 218 = .ok (.iload_n 3, 1) := oq_29 (byt chL_law_13 10 rfl)
theorem dL_law_219 : decode cL_law 219 = .ok (.iconst 3, 1) := oq_6 (byt chL_law_13 11 rfl)
theorem dL_law_220 : decode cL_law 220 = .ok (.iadd, 1) := oq_96 (byt chL_law_13 12 rfl)
theorem dL_law_221 : decode cL_law 221 = .ok (.iaload, 1) := oq_46 (byt chL_law_13 13 rfl)
theorem dL_law_222 : decode cL_law 222 = .ok (.aload_n 0, 1) := oq_42 (byt chL_law_13 14 rfl)
theorem dL_law_223 : decode cL_law 223 = .ok (.iload_n 3, 1) := oq_29 (byt chL_law_13 15 rfl)
theorem dL_law_224 : decode cL_law 224 = .ok (.iconst 4, 1) := oq_7 (byt chL_law_14 0 rfl)
theorem dL_law_225 : decode cL_law 225 = .ok (.iadd, 1) := oq_96 (byt chL_law_14 1 rfl)
theorem dL_law_226 : decode cL_law 226 = .ok (.iaload, 1) := oq_46 (byt chL_law_14 2 rfl)
theorem dL_law_227 : decode cL_law 227 = .ok (.aload_n 0, 1) := oq_42 (byt chL_law_14 3 rfl)
theorem dL_law_228 : decode cL_law 228 = .ok (.iload_n 3, 1) := oq_29 (byt chL_law_14 4 rfl)
theorem dL_law_229 : decode cL_law 229 = .ok (.iconst 5, 1) := oq_8 (byt chL_law_14 5 rfl)
theorem dL_law_230 : decode cL_law 230 = .ok (.iadd, 1) := oq_96 (byt chL_law_14 6 rfl)
theorem dL_law_231 : decode cL_law 231 = .ok (.iaload, 1) := oq_46 (byt chL_law_14 7 rfl)
theorem dL_law_232 : decode cL_law 232 = .ok (.invokevirtual 17, 3) := oq_182 (byt chL_law_14 8 rfl) (byt chL_law_14 9 rfl) (byt chL_law_14 10 rfl) rfl
theorem dL_law_235 : decode cL_law 235 = .ok (.pop, 1) := oq_87 (byt chL_law_14 11 rfl)
theorem dL_law_236 : decode cL_law 236 = .ok (.goto 1354, 3) := oq_167 (byt chL_law_14 12 rfl) (byt chL_law_14 13 rfl) (byt chL_law_14 14 rfl) (by decide +kernel)
theorem dL_law_239 : decode cL_law 239 = .ok (.aload_n 1, 1) := oq_43 (byt chL_law_14 15 rfl)
theorem dL_law_240 : decode cL_law 240 = .ok (.aload_n 0, 1) := oq_42 (byt chL_law_15 0 rfl)
theorem dL_law_241 : decode cL_law 241 = .ok (.iload_n 3, 1) := oq_29 (byt chL_law_15 1 rfl)
theorem dL_law_242 : decode cL_law 242 = .ok (.iconst 1, 1) := oq_4 (byt chL_law_15 2 rfl)
theorem dL_law_243 : decode cL_law 243 = .ok (.iadd, 1) := oq_96 (byt chL_law_15 3 rfl)
theorem dL_law_244 : decode cL_law 244 = .ok (.iaload, 1) := oq_46 (byt chL_law_15 4 rfl)
theorem dL_law_245 : decode cL_law 245 = .ok (.invokevirtual 18, 3) := oq_182 (byt chL_law_15 5 rfl) (byt chL_law_15 6 rfl) (byt chL_law_15 7 rfl) rfl
theorem dL_law_248 : decode cL_law 248 = .ok (.pop, 1) := oq_87 (byt chL_law_15 8 rfl)
theorem dL_law_249 : decode cL_law 249 = .ok (.aload_n 2, 1) := oq_44 (byt chL_law_15 9 rfl)
theorem dL_law_250 : decode cL_law 250 = .ok (.aload_n 0, 1) := oq_42 (byt chL_law_15 10 rfl)
theorem dL_law_251 : decode cL_law 251 = .ok (.iload_n 3, 1) := oq_29 (byt chL_law_15 11 rfl)
theorem dL_law_252 : decode cL_law 252 = .ok (.iconst 1, 1) := oq_4 (byt chL_law_15 12 rfl)
theorem dL_law_253 : decode cL_law 253 = .ok (.iadd, 1) := oq_96 (byt chL_law_15 13 rfl)
theorem dL_law_254 : decode cL_law 254 = .ok (.iaload, 1) := oq_46 (byt chL_law_15 14 rfl)
theorem dL_law_255 : decode cL_law 255 = .ok (.invokevirtual 22, 3) := oq_182 (byt chL_law_15 15 rfl) (byt chL_law_16 0 rfl) (byt chL_law_16 1 rfl) rfl
theorem dL_law_258 : decode cL_law 258 = .ok (.pop, 1) := oq_87 (byt chL_law_16 2 rfl)
theorem dL_law_259 : decode cL_law 259 = .ok (.goto 1331, 3) := oq_167 (byt chL_law_16 3 rfl) (byt chL_law_16 4 rfl) (byt chL_law_16 5 rfl) (by decide +kernel)
theorem dL_law_262 : decode cL_law 262 = .ok (.aload_n 1, 1) := oq_43 (byt chL_law_16 6 rfl)
theorem dL_law_263 : decode cL_law 263 = .ok (.aload_n 0, 1) := oq_42 (byt chL_law_16 7 rfl)
theorem dL_law_264 : decode cL_law 264 = .ok (.iload_n 3, 1) := oq_29 (byt chL_law_16 8 rfl)
theorem dL_law_265 : decode cL_law 265 = .ok (.iconst 1, 1) := oq_4 (byt chL_law_16 9 rfl)
theorem dL_law_266 : decode cL_law 266 = .ok (.iadd, 1) := oq_96 (byt chL_law_16 10 rfl)
theorem dL_law_267 : decode cL_law 267 = .ok (.iaload, 1) := oq_46 (byt chL_law_16 11 rfl)
theorem dL_law_268 : decode cL_law 268 = .ok (.aload_n 0, 1) := oq_42 (byt chL_law_16 12 rfl)
theorem dL_law_269 : decode cL_law 269 = .ok (.iload_n 3, 1) := oq_29 (byt chL_law_16 13 rfl)
theorem dL_law_270 : decode cL_law 270 = .ok (.iconst 2, 1) := oq_5 (byt chL_law_16 14 rfl)
theorem dL_law_271 : decode cL_law 271 = .ok (.iadd, 1) := oq_96 (byt chL_law_16 15 rfl)
theorem dL_law_272 : decode cL_law 272 = .ok (.iaload, 1) := oq_46 (byt chL_law_17 0 rfl)
theorem dL_law_273 : decode cL_law 273 = .ok (.invokevirtual 23, 3) := oq_182 (byt chL_law_17 1 rfl) (byt chL_law_17 2 rfl) (byt chL_law_17 3 rfl) rfl
theorem dL_law_276 : decode cL_law 276 = .ok (.pop, 1) := oq_87 (byt chL_law_17 4 rfl)
theorem dL_law_277 : decode cL_law 277 = .ok (.aload_n 2, 1) := oq_44 (byt chL_law_17 5 rfl)
theorem dL_law_278 : decode cL_law 278 = .ok (.aload_n 0, 1) := oq_42 (byt chL_law_17 6 rfl)
theorem dL_law_279 : decode cL_law 279 = .ok (.iload_n 3, 1) := oq_29 (byt chL_law_17 7 rfl)
theorem dL_law_280 : decode cL_law 280 = .ok (.iconst 1, 1) := oq_4 (byt chL_law_17 8 rfl)
theorem dL_law_281 : decode cL_law 281 = .ok (.iadd, 1) := oq_96 (byt chL_law_17 9 rfl)
theorem dL_law_282 : decode cL_law 282 = .ok (.iaload, 1) := oq_46 (byt chL_law_17 10 rfl)
theorem dL_law_283 : decode cL_law 283 = .ok (.aload_n 0, 1) := oq_42 (byt chL_law_17 11 rfl)
theorem dL_law_284 : decode cL_law 284 = .ok (.iload_n 3, 1) := oq_29 (byt chL_law_17 12 rfl)
theorem dL_law_285 : decode cL_law 285 = .ok (.iconst 2, 1) := oq_5 (byt chL_law_17 13 rfl)
theorem dL_law_286 : decode cL_law 286 = .ok (.iadd, 1) := oq_96 (byt chL_law_17 14 rfl)
theorem dL_law_287 : decode cL_law 287 = .ok (.iaload, 1) := oq_46 (byt chL_law_17 15 rfl)
theorem dL_law_288 : decode cL_law 288 = .ok (.invokevirtual 27, 3) := oq_182 (byt chL_law_18 0 rfl) (byt chL_law_18 1 rfl) (byt chL_law_18 2 rfl) rfl
theorem dL_law_291 : decode cL_law 291 = .ok (.pop, 1) := oq_87 (byt chL_law_18 3 rfl)
theorem dL_law_292 : decode cL_law 292 = .ok (.goto 1298, 3) := oq_167 (byt chL_law_18 4 rfl) (byt chL_law_18 5 rfl) (byt chL_law_18 6 rfl) (by decide +kernel)
theorem dL_law_295 : decode cL_law 295 = .ok (.aload_n 1, 1) := oq_43 (byt chL_law_18 7 rfl)
theorem dL_law_296 : decode cL_law 296 = .ok (.aload_n 0, 1) := oq_42 (byt chL_law_18 8 rfl)
theorem dL_law_297 : decode cL_law 297 = .ok (.iload_n 3, 1) := oq_29 (byt chL_law_18 9 rfl)
theorem dL_law_298 : decode cL_law 298 = .ok (.iconst 1, 1) := oq_4 (byt chL_law_18 10 rfl)
theorem dL_law_299 : decode cL_law 299 = .ok (.iadd, 1) := oq_96 (byt chL_law_18 11 rfl)
theorem dL_law_300 : decode cL_law 300 = .ok (.iaload, 1) := oq_46 (byt chL_law_18 12 rfl)
theorem dL_law_301 : decode cL_law 301 = .ok (.invokevirtual 28, 3) := oq_182 (byt chL_law_18 13 rfl) (byt chL_law_18 14 rfl) (byt chL_law_18 15 rfl) rfl
theorem dL_law_304 : decode cL_law 304 = .ok (.pop, 1) := oq_87 (byt chL_law_19 0 rfl)
theorem dL_law_305 : decode cL_law 305 = .ok (.aload_n 2, 1) := oq_44 (byt chL_law_19 1 rfl)
theorem dL_law_306 : decode cL_law 306 = .ok (.aload_n 0, 1) := oq_42 (byt chL_law_19 2 rfl)
theorem dL_law_307 : decode cL_law 307 = .ok (.iload_n 3, 1) := oq_29 (byt chL_law_19 3 rfl)
theorem dL_law_308 : decode cL_law 308 = .ok (.iconst 1, 1) := oq_4 (byt chL_law_19 4 rfl)
theorem dL_law_309 : decode cL_law 309 = .ok (.iadd, 1) := oq_96 (byt chL_law_19 5 rfl)
theorem dL_law_310 : decode cL_law 310 = .ok (.iaload, 1) := oq_46 (byt chL_law_19 6 rfl)
theorem dL_law_311 : decode cL_law 311 = .ok (.invokevirtual 31, 3) := oq_182 (byt chL_law_19 7 rfl) (byt chL_law_19 8 rfl) (byt chL_law_19 9 rfl) rfl
theorem dL_law_314 : decode cL_law 314 = .ok (.pop, 1) := oq_87 (byt chL_law_19 10 rfl)
theorem dL_law_315 : decode cL_law 315 = .ok (.goto 1275, 3) := oq_167 (byt chL_law_19 11 rfl) (byt chL_law_19 12 rfl) (byt chL_law_19 13 rfl) (by decide +kernel)
theorem dL_law_318 : decode cL_law 318 = .ok (.aload_n 1, 1) := oq_43 (byt chL_law_19 14 rfl)
theorem dL_law_319 : decode cL_law 319 = .ok (.aload_n 0, 1) := oq_42 (byt chL_law_19 15 rfl)
theorem dL_law_320 : decode cL_law 320 = .ok (.iload_n 3, 1) := oq_29 (byt chL_law_20 0 rfl)
theorem dL_law_321 : decode cL_law 321 = .ok (.iconst 1, 1) := oq_4 (byt chL_law_20 1 rfl)
theorem dL_law_322 : decode cL_law 322 = .ok (.iadd, 1) := oq_96 (byt chL_law_20 2 rfl)
theorem dL_law_323 : decode cL_law 323 = .ok (.iaload, 1) := oq_46 (byt chL_law_20 3 rfl)
theorem dL_law_324 : decode cL_law 324 = .ok (.aload_n 0, 1) := oq_42 (byt chL_law_20 4 rfl)
theorem dL_law_325 : decode cL_law 325 = .ok (.iload_n 3, 1) := oq_29 (byt chL_law_20 5 rfl)
theorem dL_law_326 : decode cL_law 326 = .ok (.iconst 2, 1) := oq_5 (byt chL_law_20 6 rfl)
theorem dL_law_327 : decode cL_law 327 = .ok (.iadd, 1) := oq_96 (byt chL_law_20 7 rfl)
theorem dL_law_328 : decode cL_law 328 = .ok (.iaload, 1) := oq_46 (byt chL_law_20 8 rfl)
theorem dL_law_329 : decode cL_law 329 = .ok (.invokevirtual 32, 3) := oq_182 (byt chL_law_20 9 rfl) (byt chL_law_20 10 rfl) (byt chL_law_20 11 rfl) rfl
theorem dL_law_332 : decode cL_law 332 = .ok (.pop, 1) := oq_87 (byt chL_law_20 12 rfl)
theorem dL_law_333 : decode cL_law 333 = .ok (.aload_n 2, 1) := oq_44 (byt chL_law_20 13 rfl)
theorem dL_law_334 : decode cL_law 334 = .ok (.aload_n 0, 1) := oq_42 (byt chL_law_20 14 rfl)
theorem dL_law_335 : decode cL_law 335 = .ok (.iload_n 3, 1) := oq_29 (byt chL_law_20 15 rfl)
theorem dL_law_336 : decode cL_law 336 = .ok (.iconst 1, 1) := oq_4 (byt chL_law_21 0 rfl)
theorem dL_law_337 : decode cL_law 337 = .ok (.iadd, 1) := oq_96 (byt chL_law_21 1 rfl)
theorem dL_law_338 : decode cL_law 338 = .ok (.iaload, 1) := oq_46 (byt chL_law_21 2 rfl)
theorem dL_law_339 : decode cL_law 339 = .ok (.aload_n 0, 1) := oq_42 (byt chL_law_21 3 rfl)
theorem dL_law_340 : decode cL_law 340 = .ok (.iload_n 3, 1) := oq_29 (byt chL_law_21 4 rfl)
theorem dL_law_341 : decode cL_law 341 = .ok (.iconst 2, 1) := oq_5 (byt chL_law_21 5 rfl)
theorem dL_law_342 : decode cL_law 342 = .ok (.iadd, 1) := oq_96 (byt chL_law_21 6 rfl)
theorem dL_law_343 : decode cL_law 343 = .ok (.iaload, 1) := oq_46 (byt chL_law_21 7 rfl)
theorem dL_law_344 : decode cL_law 344 = .ok (.invokevirtual 35, 3) := oq_182 (byt chL_law_21 8 rfl) (byt chL_law_21 9 rfl) (byt chL_law_21 10 rfl) rfl
theorem dL_law_347 : decode cL_law 347 = .ok (.pop, 1) := oq_87 (byt chL_law_21 11 rfl)
theorem dL_law_348 : decode cL_law 348 = .ok (.goto 1242, 3) := oq_167 (byt chL_law_21 12 rfl) (byt chL_law_21 13 rfl) (byt chL_law_21 14 rfl) (by decide +kernel)
theorem dL_law_351 : decode cL_law 351 = .ok (.aload_n 1, 1) := oq_43 (byt chL_law_21 15 rfl)
theorem dL_law_352 : decode cL_law 352 = .ok (.aload_n 0, 1) := oq_42 (byt chL_law_22 0 rfl)
theorem dL_law_353 : decode cL_law 353 = .ok (.iload_n 3, 1) := oq_29 (byt chL_law_22 1 rfl)
theorem dL_law_354 : decode cL_law 354 = .ok (.iconst 1, 1) := oq_4 (byt chL_law_22 2 rfl)
theorem dL_law_355 : decode cL_law 355 = .ok (.iadd, 1) := oq_96 (byt chL_law_22 3 rfl)
theorem dL_law_356 : decode cL_law 356 = .ok (.iaload, 1) := oq_46 (byt chL_law_22 4 rfl)
theorem dL_law_357 : decode cL_law 357 = .ok (.aload_n 0, 1) := oq_42 (byt chL_law_22 5 rfl)
theorem dL_law_358 : decode cL_law 358 = .ok (.iload_n 3, 1) := oq_29 (byt chL_law_22 6 rfl)
theorem dL_law_359 : decode cL_law 359 = .ok (.iconst 2, 1) := oq_5 (byt chL_law_22 7 rfl)
theorem dL_law_360 : decode cL_law 360 = .ok (.iadd, 1) := oq_96 (byt chL_law_22 8 rfl)
theorem dL_law_361 : decode cL_law 361 = .ok (.iaload, 1) := oq_46 (byt chL_law_22 9 rfl)
theorem dL_law_362 : decode cL_law 362 = .ok (.aload_n 0, 1) := oq_42 (byt chL_law_22 10 rfl)
theorem dL_law_363 : decode cL_law 363 = .ok (.iload_n 3, 1) := oq_29 (byt chL_law_22 11 rfl)
theorem dL_law_364 : decode cL_law 364 = .ok (.iconst 3, 1) := oq_6 (byt chL_law_22 12 rfl)
theorem dL_law_365 : decode cL_law 365 = .ok (.iadd, 1) := oq_96 (byt chL_law_22 13 rfl)
theorem dL_law_366 : decode cL_law 366 = .ok (.iaload, 1) := oq_46 (byt chL_law_22 14 rfl)
theorem dL_law_367 : decode cL_law 367 = .ok (.aload_n 0, 1) := oq_42 (byt chL_law_22 15 rfl)
theorem dL_law_368 : decode cL_law 368 = .ok (.iload_n 3, 1) := oq_29 (byt chL_law_23 0 rfl)
theorem dL_law_369 : decode cL_law 369 = .ok (.iconst 4, 1) := oq_7 (byt chL_law_23 1 rfl)
theorem dL_law_370 : decode cL_law 370 = .ok (.iadd, 1) := oq_96 (byt chL_law_23 2 rfl)
theorem dL_law_371 : decode cL_law 371 = .ok (.iaload, 1) := oq_46 (byt chL_law_23 3 rfl)
theorem dL_law_372 : decode cL_law 372 = .ok (.invokevirtual 36, 3) := oq_182 (byt chL_law_23 4 rfl) (byt chL_law_23 5 rfl) (byt chL_law_23 6 rfl) rfl
theorem dL_law_375 : decode cL_law 375 = .ok (.pop, 1) := oq_87 (byt chL_law_23 7 rfl)
theorem dL_law_376 : decode cL_law 376 = .ok (.aload_n 2, 1) := oq_44 (byt chL_law_23 8 rfl)
theorem dL_law_377 : decode cL_law 377 = .ok (.aload_n 0, 1) := oq_42 (byt chL_law_23 9 rfl)
theorem dL_law_378 : decode cL_law 378 = .ok (.iload_n 3, 1) := oq_29 (byt chL_law_23 10 rfl)
theorem dL_law_379 : decode cL_law 379 = .ok (.iconst 1, 1) := oq_4 (byt chL_law_23 11 rfl)
theorem dL_law_380 : decode cL_law 380 = .ok (.iadd, 1) := oq_96 (byt chL_law_23 12 rfl)
theorem dL_law_381 : decode cL_law 381 = .ok (.iaload, 1) := oq_46 (byt chL_law_23 13 rfl)
theorem dL_law_382 : decode cL_law 382 = .ok (.aload_n 0, 1) := oq_42 (byt chL_law_23 14 rfl)
theorem dL_law_383 : decode cL_law 383 = .ok (.iload_n 3, 1) := oq_29 (byt chL_law_23 15 rfl)
theorem dL_law_384 : decode cL_law 384 = .ok (.iconst 2, 1) := oq_5 (byt chL_law_24 0 rfl)
theorem dL_law_385 : decode cL_law 385 = .ok (.iadd, 1) := oq_96 (byt chL_law_24 1 rfl)
theorem dL_law_386 : decode cL_law 386 = .ok (.iaload, 1) := oq_46 (byt chL_law_24 2 rfl)
theorem dL_law_387 : decode cL_law 387 = .ok (.aload_n 0, 1) := oq_42 (byt chL_law_24 3 rfl)
theorem dL_law_388 : decode cL_law 388 = .ok (.iload_n 3, 1) := oq_29 (byt chL_law_24 4 rfl)
theorem dL_law_389 : decode cL_law 389 = .ok (.iconst 3, 1) := oq_6 (byt chL_law_24 5 rfl)
theorem dL_law_390 : decode cL_law 390 = .ok (.iadd, 1) := oq_96 (byt chL_law_24 6 rfl)
theorem dL_law_391 : decode cL_law 391 = .ok (.iaload, 1) := oq_46 (byt chL_law_24 7 rfl)
theorem dL_law_392 : decode cL_law 392 = .ok (.aload_n 0, 1) := oq_42 (byt chL_law_24 8 rfl)
theorem dL_law_393 : decode cL_law 393 = .ok (.iload_n 3, 1) := oq_29 (byt chL_law_24 9 rfl)
theorem dL_law_394 : decode cL_law 394 = .ok (.iconst 4, 1) := oq_7 (byt chL_law_24 10 rfl)
theorem dL_law_395 : decode cL_law 395 = .ok (.iadd, 1) := oq_96 (byt chL_law_24 11 rfl)
theorem dL_law_396 : decode cL_law 396 = .ok (.iaload, 1) := oq_46 (byt chL_law_24 12 rfl)
theorem dL_law_397 : decode cL_law 397 = .ok (.invokevirtual 40, 3) := oq_182 (byt chL_law_24 13 rfl) (byt chL_law_24 14 rfl) (byt chL_law_24 15 rfl) rfl
theorem dL_law_400 : decode cL_law 400 = .ok (.pop, 1) := oq_87 (byt chL_law_25 0 rfl)
theorem dL_law_401 : decode cL_law 401 = .ok (.goto 1189, 3) := oq_167 (byt chL_law_25 1 rfl) (byt chL_law_25 2 rfl) (byt chL_law_25 3 rfl) (by decide +kernel)
theorem dL_law_404 : decode cL_law 404 = .ok (.aload_n 1, 1) := oq_43 (byt chL_law_25 4 rfl)
theorem dL_law_405 : decode cL_law 405 = .ok (.aload_n 0, 1) := oq_42 (byt chL_law_25 5 rfl)
theorem dL_law_406 : decode cL_law 406 = .ok (.iload_n 3, 1) := oq_29 (byt chL_law_25 6 rfl)
theorem dL_law_407 : decode cL_law 407 = .ok (.iconst 1, 1) := oq_4 (byt chL_law_25 7 rfl)
theorem dL_law_408 : decode cL_law 408 = .ok (.iadd, 1) := oq_96 (byt chL_law_25 8 rfl)
theorem dL_law_409 : decode cL_law 409 = .ok (.iaload, 1) := oq_46 (byt chL_law_25 9 rfl)
theorem dL_law_410 : decode cL_law 410 = .ok (.aload_n 0, 1) := oq_42 (byt chL_law_25 10 rfl)
theorem dL_law_411 : decode cL_law 411 = .ok (.iload_n 3, 1) := oq_29 (byt chL_law_25 11 rfl)
theorem dL_law_412 : decode cL_law 412 = .ok (.iconst 2, 1) := oq_5 (byt chL_law_25 12 rfl)
theorem dL_law_413 : decode cL_law 413 = .ok (.iadd, 1) := oq_96 (byt chL_law_25 13 rfl)
theorem dL_law_414 : decode cL_law 414 = .ok (.iaload, 1) := oq_46 (byt chL_law_25 14 rfl)
theorem dL_law_415 : decode cL_law 415 = .ok (.invokevirtual 41, 3) := oq_182 (byt chL_law_25 15 rfl) (byt chL_law_26 0 rfl) (byt chL_law_26 1 rfl) rfl
theorem dL_law_418 : decode cL_law 418 = .ok (.pop, 1) := oq_87 (byt chL_law_26 2 rfl)
theorem dL_law_419 : decode cL_law 419 = .ok (.aload_n 2, 1) := oq_44 (byt chL_law_26 3 rfl)
theorem dL_law_420 : decode cL_law 420 = .ok (.aload_n 0, 1) := oq_42 (byt chL_law_26 4 rfl)
theorem dL_law_421 : decode cL_law 421 = .ok (.iload_n 3, 1) := oq_29 (byt chL_law_26 5 rfl)
theorem dL_law_422 : decode cL_law 422 = .ok (.iconst 1, 1) := oq_4 (byt chL_law_26 6 rfl)
theorem dL_law_423 : decode cL_law 423 = .ok (.iadd, 1) := oq_96 (byt chL_law_26 7 rfl)
theorem dL_law_424 : decode cL_law 424 = .ok (.iaload, 1) := oq_46 (byt chL_law_26 8 rfl)
theorem dL_law_425 : decode cL_law 425 = .ok (.aload_n 0, 1) := oq_42 (byt chL_law_26 9 rfl)
theorem dL_law_426 : decode cL_law 426 = .ok (.iload_n 3, 1) := oq_29 (byt chL_law_26 10 rfl)
theorem dL_law_427 : decode cL_law 427 = .ok (.iconst 2, 1) := oq_5 (byt chL_law_26 11 rfl)
theorem dL_law_428 : decode cL_law 428 = .ok (.iadd, 1) := oq_96 (byt chL_law_26 12 rfl)
theorem dL_law_429 : decode cL_law 429 = .ok (.iaload, 1) := oq_46 (byt chL_law_26 13 rfl)
theorem dL_law_430 : decode cL_law 430 = .ok (.invokevirtual 44, 3) := oq_182 (byt chL_law_26 14 rfl) (byt chL_law_26 15 rfl) (byt chL_law_27 0 rfl) rfl
theorem dL_law_433 : decode cL_law 433 = .ok (.pop, 1) := oq_87 (byt chL_law_27 1 rfl)
theorem dL_law_434 : decode cL_law 434 = .ok (.goto 1156, 3) := oq_167 (byt chL_law_27 2 rfl) (byt chL_law_27 3 rfl) (byt chL_law_27 4 rfl) (by decide +kernel)
theorem dL_law_437 : decode cL_law 437 = .ok (.aload_n 1, 1) := oq_43 (byt chL_law_27 5 rfl)
theorem dL_law_438 : decode cL_law 438 = .ok (.aload_n 0, 1) := oq_42 (byt chL_law_27 6 rfl)
theorem dL_law_439 : decode cL_law 439 = .ok (.iload_n 3, 1) := oq_29 (byt chL_law_27 7 rfl)
theorem dL_law_440 : decode cL_law 440 = .ok (.iconst 1, 1) := oq_4 (byt chL_law_27 8 rfl)
theorem dL_law_441 : decode cL_law 441 = .ok (.iadd, 1) := oq_96 (byt chL_law_27 9 rfl)
theorem dL_law_442 : decode cL_law 442 = .ok (.iaload, 1) := oq_46 (byt chL_law_27 10 rfl)
theorem dL_law_443 : decode cL_law 443 = .ok (.aload_n 0, 1) := oq_42 (byt chL_law_27 11 rfl)
theorem dL_law_444 : decode cL_law 444 = .ok (.iload_n 3, 1) := oq_29 (byt chL_law_27 12 rfl)
theorem dL_law_445 : decode cL_law 445 = .ok (.iconst 2, 1) := oq_5 (byt chL_law_27 13 rfl)
theorem dL_law_446 : decode cL_law 446 = .ok (.iadd, 1) := oq_96 (byt chL_law_27 14 rfl)
theorem dL_law_447 : decode cL_law 447 = .ok (.iaload, 1) := oq_46 (byt chL_law_27 15 rfl)
theorem dL_law_448 : decode cL_law 448 = .ok (.aload_n 0, 1) := oq_42 (byt chL_law_28 0 rfl)
theorem dL_law_449 : decode cL_law 449 = .ok (.iload_n 3, 1) := oq_29 (byt chL_law_28 1 rfl)
theorem dL_law_450 : decode cL_law 450 = .ok (.iconst 3, 1) := oq_6 (byt chL_law_28 2 rfl)
theorem dL_law_451 : decode cL_law 451 = .ok (.iadd, 1) := oq_96 (byt chL_law_28 3 rfl)
theorem dL_law_452 : decode cL_law 452 = .ok (.iaload, 1) := oq_46 (byt chL_law_28 4 rfl)
theorem dL_law_453 : decode cL_law 453 = .ok (.invokevirtual 45, 3) := oq_182 (byt chL_law_28 5 rfl) (byt chL_law_28 6 rfl) (byt chL_law_28 7 rfl) rfl
theorem dL_law_456 : decode cL_law 456 = .ok (.pop, 1) := oq_87 (byt chL_law_28 8 rfl)
theorem dL_law_457 : decode cL_law 457 = .ok (.aload_n 2, 1) := oq_44 (byt chL_law_28 9 rfl)
theorem dL_law_458 : decode cL_law 458 = .ok (.aload_n 0, 1) := oq_42 (byt chL_law_28 10 rfl)
theorem dL_law_459 : decode cL_law 459 = .ok (.iload_n 3, 1) := oq_29 (byt chL_law_28 11 rfl)
theorem dL_law_460 : decode cL_law 460 = .ok (.iconst 1, 1) := oq_4 (byt chL_law_28 12 rfl)
theorem dL_law_461 : decode cL_law 461 = .ok (.iadd, 1) := oq_96 (byt chL_law_28 13 rfl)
theorem dL_law_462 : decode cL_law 462 = .ok (.iaload, 1) := oq_46 (byt chL_law_28 14 rfl)
theorem dL_law_463 : decode cL_law 463 = .ok (.aload_n 0, 1) := oq_42 (byt chL_law_28 15 rfl)
theorem dL_law_464 : decode cL_law 464 = .ok (.iload_n 3, 1) := oq_29 (byt chL_law_29 0 rfl)
theorem dL_law_465 : decode cL_law 465 = .ok (.iconst 2, 1) := oq_5 (byt chL_law_29 1 rfl)
theorem dL_law_466 : decode cL_law 466 = .ok (.iadd, 1) := oq_96 (byt chL_law_29 2 rfl)
theorem dL_law_467 : decode cL_law 467 = .ok (.iaload, 1) := oq_46 (byt chL_law_29 3 rfl)
theorem dL_law_468 : decode cL_law 468 = .ok (.aload_n 0, 1) := oq_42 (byt chL_law_29 4 rfl)
theorem dL_law_469 : decode cL_law 469 = .ok (.iload_n 3, 1) := oq_29 (byt chL_law_29 5 rfl)
theorem dL_law_470 : decode cL_law 470 = .ok (.iconst 3, 1) := oq_6 (byt chL_law_29 6 rfl)
theorem dL_law_471 : decode cL_law 471 = .ok (.iadd, 1) := oq_96 (byt chL_law_29 7 rfl)
theorem dL_law_472 : decode cL_law 472 = .ok (.iaload, 1) := oq_46 (byt chL_law_29 8 rfl)
theorem dL_law_473 : decode cL_law 473 = .ok (.invokevirtual 49, 3) := oq_182 (byt chL_law_29 9 rfl) (byt chL_law_29 10 rfl) (byt chL_law_29 11 rfl) rfl
theorem dL_law_476 : decode cL_law 476 = .ok (.pop, 1) := oq_87 (byt chL_law_29 12 rfl)
theorem dL_law_477 : decode cL_law 477 = .ok (.goto 1113, 3) := oq_167 (byt chL_law_29 13 rfl) (byt chL_law_29 14 rfl) (byt chL_law_29 15 rfl) (by decide +kernel)
theorem dL_law_480 : decode cL_law 480 = .ok (.aload_n 1, 1) := oq_43 (byt chL_law_30 0 rfl)
theorem dL_law_481 : decode cL_law 481 = .ok (.aload_n 0, 1) := oq_42 (byt chL_law_30 1 rfl)
theorem dL_law_482 : decode cL_law 482 = .ok (.iload_n 3, 1) := oq_29 (byt chL_law_30 2 rfl)
theorem dL_law_483 : decode cL_law 483 = .ok (.iconst 1, 1) := oq_4 (byt chL_law_30 3 rfl)
theorem dL_law_484 : decode cL_law 484 = .ok (.iadd, 1) := oq_96 (byt chL_law_30 4 rfl)
theorem dL_law_485 : decode cL_law 485 = .ok (.iaload, 1) := oq_46 (byt chL_law_30 5 rfl)
theorem dL_law_486 : decode cL_law 486 = .ok (.aload_n 0, 1) := oq_42 (byt chL_law_30 6 rfl)
theorem dL_law_487 : decode cL_law 487 = .ok (.iload_n 3, 1) := oq_29 (byt chL_law_30 7 rfl)
theorem dL_law_488 : decode cL_law 488 = .ok (.iconst 2, 1) := oq_5 (byt chL_law_30 8 rfl)
theorem dL_law_489 : decode cL_law 489 = .ok (.iadd, 1) := oq_96 (byt chL_law_30 9 rfl)
theorem dL_law_490 : decode cL_law 490 = .ok (.iaload, 1) := oq_46 (byt chL_law_30 10 rfl)
theorem dL_law_491 : decode cL_law 491 = .ok (.aload_n 0, 1) := oq_42 (byt chL_law_30 11 rfl)
theorem dL_law_492 : decode cL_law 492 = .ok (.iload_n 3, 1) := oq_29 (byt chL_law_30 12 rfl)
theorem dL_law_493 : decode cL_law 493 = .ok (.iconst 3, 1) := oq_6 (byt chL_law_30 13 rfl)
theorem dL_law_494 : decode cL_law 494 = .ok (.iadd, 1) := oq_96 (byt chL_law_30 14 rfl)
theorem dL_law_495 : decode cL_law 495 = .ok (.iaload, 1) := oq_46 (byt chL_law_30 15 rfl)
theorem dL_law_496 : decode cL_law 496 = .ok (.invokevirtual 50, 3) := oq_182 (byt chL_law_31 0 rfl) (byt chL_law_31 1 rfl) (byt chL_law_31 2 rfl) rfl
theorem dL_law_499 : decode cL_law 499 = .ok (.pop, 1) := oq_87 (byt chL_law_31 3 rfl)
theorem dL_law_500 : decode cL_law 500 = .ok (.aload_n 2, 1) := oq_44 (byt chL_law_31 4 rfl)
theorem dL_law_501 : decode cL_law 501 = .ok (.aload_n 0, 1) := oq_42 (byt chL_law_31 5 rfl)
theorem dL_law_502 : decode cL_law 502 = .ok (.iload_n 3, 1) := oq_29 (byt chL_law_31 6 rfl)
theorem dL_law_503 : decode cL_law 503 = .ok (.iconst 1, 1) := oq_4 (byt chL_law_31 7 rfl)
theorem dL_law_504 : decode cL_law 504 = .ok (.iadd, 1) := oq_96 (byt chL_law_31 8 rfl)
theorem dL_law_505 : decode cL_law 505 = .ok (.iaload, 1) := oq_46 (byt chL_law_31 9 rfl)
theorem dL_law_506 : decode cL_law 506 = .ok (.aload_n 0, 1) := oq_42 (byt chL_law_31 10 rfl)
theorem dL_law_507 : decode cL_law 507 = .ok (.iload_n 3, 1) := oq_29 (byt chL_law_31 11 rfl)
theorem dL_law_508 : decode cL_law 508 = .ok (.iconst 2, 1) := oq_5 (byt chL_law_31 12 rfl)
theorem dL_law_509 : decode cL_law 509 = .ok (.iadd, 1) := oq_96 (byt chL_law_31 13 rfl)
theorem dL_law_510 : decode cL_law 510 = .ok (.iaload, 1) := oq_46 (byt chL_law_31 14 rfl)
theorem dL_law_511 : decode cL_law 511 = .ok (.aload_n 0, 1) := oq_42 (byt chL_law_31 15 rfl)
theorem dL_law_512 : decode cL_law 512 = .ok (.iload_n 3, 1) := oq_29 (byt chL_law_32 0 rfl)
theorem dL_law_513 : decode cL_law 513 = .ok (.iconst 3, 1) := oq_6 (byt chL_law_32 1 rfl)
theorem dL_law_514 : decode cL_law 514 = .ok (.iadd, 1) := oq_96 (byt chL_law_32 2 rfl)
theorem dL_law_515 : decode cL_law 515 = .ok (.iaload, 1) := oq_46 (byt chL_law_32 3 rfl)
theorem dL_law_516 : decode cL_law 516 = .ok (.invokevirtual 53, 3) := oq_182 (byt chL_law_32 4 rfl) (byt chL_law_32 5 rfl) (byt chL_law_32 6 rfl) rfl
theorem dL_law_519 : decode cL_law 519 = .ok (.pop, 1) := oq_87 (byt chL_law_32 7 rfl)
theorem dL_law_520 : decode cL_law 520 = .ok (.goto 1070, 3) := oq_167 (byt chL_law_32 8 rfl) (byt chL_law_32 9 rfl) (byt chL_law_32 10 rfl) (by decide +kernel)
theorem dL_law_523 : decode cL_law 523 = .ok (.aload_n 1, 1) := oq_43 (byt chL_law_32 11 rfl)
theorem dL_law_524 : decode cL_law 524 = .ok (.aload_n 0, 1) := oq_42 (byt chL_law_32 12 rfl)
theorem dL_law_525 : decode cL_law 525 = .ok (.iload_n 3, 1) := oq_29 (byt chL_law_32 13 rfl)
theorem dL_law_526 : decode cL_law 526 = .ok (.iconst 1, 1) := oq_4 (byt chL_law_32 14 rfl)
theorem dL_law_527 : decode cL_law 527 = .ok (.iadd, 1) := oq_96 (byt chL_law_32 15 rfl)
theorem dL_law_528 : decode cL_law 528 = .ok (.iaload, 1) := oq_46 (byt chL_law_33 0 rfl)
theorem dL_law_529 : decode cL_law 529 = .ok (.aload_n 0, 1) := oq_42 (byt chL_law_33 1 rfl)
theorem dL_law_530 : decode cL_law 530 = .ok (.iload_n 3, 1) := oq_29 (byt chL_law_33 2 rfl)
theorem dL_law_531 : decode cL_law 531 = .ok (.iconst 2, 1) := oq_5 (byt chL_law_33 3 rfl)
theorem dL_law_532 : decode cL_law 532 = .ok (.iadd, 1) := oq_96 (byt chL_law_33 4 rfl)
theorem dL_law_533 : decode cL_law 533 = .ok (.iaload, 1) := oq_46 (byt chL_law_33 5 rfl)
theorem dL_law_534 : decode cL_law 534 = .ok (.aload_n 0, 1) := oq_42 (byt chL_law_33 6 rfl)
theorem dL_law_535 : decode cL_law 535 = .ok (.iload_n 3, 1) := oq_29 (byt chL_law_33 7 rfl)
theorem dL_law_536 : decode cL_law 536 = .ok (.iconst 3, 1) := oq_6 (byt chL_law_33 8 rfl)
theorem dL_law_537 : decode cL_law 537 = .ok (.iadd, 1) := oq_96 (byt chL_law_33 9 rfl)
theorem dL_law_538 : decode cL_law 538 = .ok (.iaload, 1) := oq_46 (byt chL_law_33 10 rfl)
theorem dL_law_539 : decode cL_law 539 = .ok (.aload_n 0, 1) := oq_42 (byt chL_law_33 11 rfl)
theorem dL_law_540 : decode cL_law 540 = .ok (.iload_n 3, 1) := oq_29 (byt chL_law_33 12 rfl)
theorem dL_law_541 : decode cL_law 541 = .ok (.iconst 4, 1) := oq_7 (byt chL_law_33 13 rfl)
theorem dL_law_542 : decode cL_law 542 = .ok (.iadd, 1) := oq_96 (byt chL_law_33 14 rfl)
theorem dL_law_543 : decode cL_law 543 = .ok (.iaload, 1) := oq_46 (byt chL_law_33 15 rfl)
theorem dL_law_544 : decode cL_law 544 = .ok (.aload_n 0, 1) := oq_42 (byt chL_law_34 0 rfl)
theorem dL_law_545 : decode cL_law 545 = .ok (.iload_n 3, 1) := oq_29 (byt chL_law_34 1 rfl)
theorem dL_law_546 : decode cL_law 546 = .ok (.iconst 5, 1) := oq_8 (byt chL_law_34 2 rfl)
theorem dL_law_547 : decode cL_law 547 = .ok (.iadd, 1) := oq_96 (byt chL_law_34 3 rfl)
theorem dL_law_548 : decode cL_law 548 = .ok (.iaload, 1) := oq_46 (byt chL_law_34 4 rfl)
theorem dL_law_549 : decode cL_law 549 = .ok (.invokevirtual 54, 3) := oq_182 (byt chL_law_34 5 rfl) (byt chL_law_34 6 rfl) (byt chL_law_34 7 rfl) rfl
theorem dL_law_552 : decode cL_law 552 = .ok (.pop, 1) := oq_87 (byt chL_law_34 8 rfl)
theorem dL_law_553 : decode cL_law 553 = .ok (.aload_n 2, 1) := oq_44 (byt chL_law_34 9 rfl)
theorem dL_law_554 : decode cL_law 554 = .ok (.aload_n 0, 1) := oq_42 (byt chL_law_34 10 rfl)
theorem dL_law_555 : decode cL_law 555 = .ok (.iload_n 3, 1) := oq_29 (byt chL_law_34 11 rfl)
theorem dL_law_556 : decode cL_law 556 = .ok (.iconst 1, 1) := oq_4 (byt chL_law_34 12 rfl)
theorem dL_law_557 : decode cL_law 557 = .ok (.iadd, 1) := oq_96 (byt chL_law_34 13 rfl)
theorem dL_law_558 : decode cL_law 558 = .ok (.iaload, 1) := oq_46 (byt chL_law_34 14 rfl)
theorem dL_law_559 : decode cL_law 559 = .ok (.aload_n 0, 1) := oq_42 (byt chL_law_34 15 rfl)
theorem dL_law_560 : decode cL_law 560 = .ok (.iload_n 3, 1) := oq_29 (byt chL_law_35 0 rfl)
theorem dL_law_561 : decode cL_law 561 = .ok (.iconst 2, 1) := oq_5 (byt chL_law_35 1 rfl)
theorem dL_law_562 : decode cL_law 562 = .ok (.iadd, 1) := oq_96 (byt chL_law_35 2 rfl)
theorem dL_law_563 : decode cL_law 563 = .ok (.iaload, 1) := oq_46 (byt chL_law_35 3 rfl)
theorem dL_law_564 : decode cL_law 564 = .ok (.aload_n 0, 1) := oq_42 (byt chL_law_35 4 rfl)
theorem dL_law_565 : decode cL_law 565 = .ok (.iload_n 3, 1) := oq_29 (byt chL_law_35 5 rfl)
theorem dL_law_566 : decode cL_law 566 = .ok (.iconst 3, 1) := oq_6 (byt chL_law_35 6 rfl)
theorem dL_law_567 : decode cL_law 567 = .ok (.iadd, 1) := oq_96 (byt chL_law_35 7 rfl)
theorem dL_law_568 : decode cL_law 568 = .ok (.iaload, 1) := oq_46 (byt chL_law_35 8 rfl)
theorem dL_law_569 : decode cL_law 569 = .ok (.aload_n 0, 1) := oq_42 (byt chL_law_35 9 rfl)
theorem dL_law_570 : decode cL_law 570 = .ok (.iload_n 3, 1) := oq_29 (byt chL_law_35 10 rfl)
theorem dL_law_571 : decode cL_law 571 = .ok (.iconst 4, 1) := oq_7 (byt chL_law_35 11 rfl)
theorem dL_law_572 : decode cL_law 572 = .ok (.iadd, 1) := oq_96 (byt chL_law_35 12 rfl)
theorem dL_law_573 : decode cL_law 573 = .ok (.iaload, 1) := oq_46 (byt chL_law_35 13 rfl)
theorem dL_law_574 : decode cL_law 574 = .ok (.aload_n 0, 1) := oq_42 (byt chL_law_35 14 rfl)
theorem dL_law_575 : decode cL_law 575 = .ok (.iload_n 3, 1) := oq_29 (byt chL_law_35 15 rfl)
theorem dL_law_576 : decode cL_law 576 = .ok (.iconst 5, 1) := oq_8 (byt chL_law_36 0 rfl)
theorem dL_law_577 : decode cL_law 577 = .ok (.iadd, 1) := oq_96 (byt chL_law_36 1 rfl)
theorem dL_law_578 : decode cL_law 578 = .ok (.iaload, 1) := oq_46 (byt chL_law_36 2 rfl)
theorem dL_law_579 : decode cL_law 579 = .ok (.invokevirtual 57, 3) := oq_182 (byt chL_law_36 3 rfl) (byt chL_law_36 4 rfl) (byt chL_law_36 5 rfl) rfl
theorem dL_law_582 : decode cL_law 582 = .ok (.pop, 1) := oq_87 (byt chL_law_36 6 rfl)
theorem dL_law_583 : decode cL_law 583 = .ok (.goto 1007, 3) := oq_167 (byt chL_law_36 7 rfl) (byt chL_law_36 8 rfl) (byt chL_law_36 9 rfl) (by decide +kernel)
theorem dL_law_586 : decode cL_law 586 = .ok (.aload_n 1, 1) := oq_43 (byt chL_law_36 10 rfl)
theorem dL_law_587 : decode cL_law 587 = .ok (.aload_n 0, 1) := oq_42 (byt chL_law_36 11 rfl)
theorem dL_law_588 : decode cL_law 588 = .ok (.iload_n 3, 1) := oq_29 (byt chL_law_36 12 rfl)
theorem dL_law_589 : decode cL_law 589 = .ok (.iconst 1, 1) := oq_4 (byt chL_law_36 13 rfl)
theorem dL_law_590 : decode cL_law 590 = .ok (.iadd, 1) := oq_96 (byt chL_law_36 14 rfl)
theorem dL_law_591 : decode cL_law 591 = .ok (.iaload, 1) := oq_46 (byt chL_law_36 15 rfl)
theorem dL_law_592 : decode cL_law 592 = .ok (.aload_n 0, 1) := oq_42 (byt chL_law_37 0 rfl)
theorem dL_law_593 : decode cL_law 593 = .ok (.iload_n 3, 1) := oq_29 (byt chL_law_37 1 rfl)
theorem dL_law_594 : decode cL_law 594 = .ok (.iconst 2, 1) := oq_5 (byt chL_law_37 2 rfl)
theorem dL_law_595 : decode cL_law 595 = .ok (.iadd, 1) := oq_96 (byt chL_law_37 3 rfl)
theorem dL_law_596 : decode cL_law 596 = .ok (.iaload, 1) := oq_46 (byt chL_law_37 4 rfl)
theorem dL_law_597 : decode cL_law 597 = .ok (.aload_n 0, 1) := oq_42 (byt chL_law_37 5 rfl)
theorem dL_law_598 : decode cL_law 598 = .ok (.iload_n 3, 1) := oq_29 (byt chL_law_37 6 rfl)
theorem dL_law_599 : decode cL_law 599 = .ok (.iconst 3, 1) := oq_6 (byt chL_law_37 7 rfl)
theorem dL_law_600 : decode cL_law 600 = .ok (.iadd, 1) := oq_96 (byt chL_law_37 8 rfl)
theorem dL_law_601 : decode cL_law 601 = .ok (.iaload, 1) := oq_46 (byt chL_law_37 9 rfl)
theorem dL_law_602 : decode cL_law 602 = .ok (.aload_n 0, 1) := oq_42 (byt chL_law_37 10 rfl)
theorem dL_law_603 : decode cL_law 603 = .ok (.iload_n 3, 1) := oq_29 (byt chL_law_37 11 rfl)
theorem dL_law_604 : decode cL_law 604 = .ok (.iconst 4, 1) := oq_7 (byt chL_law_37 12 rfl)
theorem dL_law_605 : decode cL_law 605 = .ok (.iadd, 1) := oq_96 (byt chL_law_37 13 rfl)
theorem dL_law_606 : decode cL_law 606 = .ok (.iaload, 1) := oq_46 (byt chL_law_37 14 rfl)
theorem dL_law_607 : decode cL_law 607 = .ok (.aload_n 0, 1) := oq_42 (byt chL_law_37 15 rfl)
theorem dL_law_608 : decode cL_law 608 = .ok (.iload_n 3, 1) := oq_29 (byt chL_law_38 0 rfl)
theorem dL_law_609 : decode cL_law 609 = .ok (.iconst 5, 1) := oq_8 (byt chL_law_38 1 rfl)
theorem dL_law_610 : decode cL_law 610 = .ok (.iadd, 1) := oq_96 (byt chL_law_38 2 rfl)
theorem dL_law_611 : decode cL_law 611 = .ok (.iaload, 1) := oq_46 (byt chL_law_38 3 rfl)
theorem dL_law_612 : decode cL_law 612 = .ok (.aload_n 0, 1) := oq_42 (byt chL_law_38 4 rfl)
theorem dL_law_613 : decode cL_law 613 = .ok (.iload_n 3, 1) := oq_29 (byt chL_law_38 5 rfl)
theorem dL_law_614 : decode cL_law 614 = .ok (.bipush 6, 2) := oq_16 (byt chL_law_38 6 rfl) (byt chL_law_38 7 rfl) rfl
theorem dL_law_616 : decode cL_law 616 = .ok (.iadd, 1) := oq_96 (byt chL_law_38 8 rfl)
theorem dL_law_617 : decode cL_law 617 = .ok (.iaload, 1) := oq_46 (byt chL_law_38 9 rfl)
theorem dL_law_618 : decode cL_law 618 = .ok (.aload_n 0, 1) := oq_42 (byt chL_law_38 10 rfl)
theorem dL_law_619 : decode cL_law 619 = .ok (.iload_n 3, 1) := oq_29 (byt chL_law_38 11 rfl)
theorem dL_law_620 : decode cL_law 620 = .ok (.bipush 7, 2) := oq_16 (byt chL_law_38 12 rfl) (byt chL_law_38 13 rfl) rfl
theorem dL_law_622 : decode cL_law 622 = .ok (.iadd, 1) := oq_96 (byt chL_law_38 14 rfl)
theorem dL_law_623 : decode cL_law 623 = .ok (.iaload, 1) := oq_46 (byt chL_law_38 15 rfl)
theorem dL_law_624 : decode cL_law 624 = .ok (.invokevirtual 58, 3) := oq_182 (byt chL_law_39 0 rfl) (byt chL_law_39 1 rfl) (byt chL_law_39 2 rfl) rfl
theorem dL_law_627 : decode cL_law 627 = .ok (.pop, 1) := oq_87 (byt chL_law_39 3 rfl)
theorem dL_law_628 : decode cL_law 628 = .ok (.aload_n 2, 1) := oq_44 (byt chL_law_39 4 rfl)
theorem dL_law_629 : decode cL_law 629 = .ok (.aload_n 0, 1) := oq_42 (byt chL_law_39 5 rfl)
theorem dL_law_630 : decode cL_law 630 = .ok (.iload_n 3, 1) := oq_29 (byt chL_law_39 6 rfl)
theorem dL_law_631 : decode cL_law 631 = .ok (.iconst 1, 1) := oq_4 (byt chL_law_39 7 rfl)
theorem dL_law_632 : decode cL_law 632 = .ok (.iadd, 1) := oq_96 (byt chL_law_39 8 rfl)
theorem dL_law_633 : decode cL_law 633 = .ok (.iaload, 1) := oq_46 (byt chL_law_39 9 rfl)
theorem dL_law_634 : decode cL_law 634 = .ok (.aload_n 0, 1) := oq_42 (byt chL_law_39 10 rfl)
theorem dL_law_635 : decode cL_law 635 = .ok (.iload_n 3, 1) := oq_29 (byt chL_law_39 11 rfl)
theorem dL_law_636 : decode cL_law 636 = .ok (.iconst 2, 1) := oq_5 (byt chL_law_39 12 rfl)
theorem dL_law_637 : decode cL_law 637 = .ok (.iadd, 1) := oq_96 (byt chL_law_39 13 rfl)
theorem dL_law_638 : decode cL_law 638 = .ok (.iaload, 1) := oq_46 (byt chL_law_39 14 rfl)
theorem dL_law_639 : decode cL_law 639 = .ok (.aload_n 0, 1) := oq_42 (byt chL_law_39 15 rfl)
theorem dL_law_640 : decode cL_law 640 = .ok (.iload_n 3, 1) := oq_29 (byt chL_law_40 0 rfl)
theorem dL_law_641 : decode cL_law 641 = .ok (.iconst 3, 1) := oq_6 (byt chL_law_40 1 rfl)
theorem dL_law_642 : decode cL_law 642 = .ok (.iadd, 1) := oq_96 (byt chL_law_40 2 rfl)
theorem dL_law_643 : decode cL_law 643 = .ok (.iaload, 1) := oq_46 (byt chL_law_40 3 rfl)
theorem dL_law_644 : decode cL_law 644 = .ok (.aload_n 0, 1) := oq_42 (byt chL_law_40 4 rfl)
theorem dL_law_645 : decode cL_law 645 = .ok (.iload_n 3, 1) := oq_29 (byt chL_law_40 5 rfl)
theorem dL_law_646 : decode cL_law 646 = .ok (.iconst 4, 1) := oq_7 (byt chL_law_40 6 rfl)
theorem dL_law_647 : decode cL_law 647 = .ok (.iadd, 1) := oq_96 (byt chL_law_40 7 rfl)
theorem dL_law_648 : decode cL_law 648 = .ok (.iaload, 1) := oq_46 (byt chL_law_40 8 rfl)
theorem dL_law_649 : decode cL_law 649 = .ok (.aload_n 0, 1) := oq_42 (byt chL_law_40 9 rfl)
theorem dL_law_650 : decode cL_law 650 = .ok (.iload_n 3, 1) := oq_29 (byt chL_law_40 10 rfl)
theorem dL_law_651 : decode cL_law 651 = .ok (.iconst 5, 1) := oq_8 (byt chL_law_40 11 rfl)
theorem dL_law_652 : decode cL_law 652 = .ok (.iadd, 1) := oq_96 (byt chL_law_40 12 rfl)
theorem dL_law_653 : decode cL_law 653 = .ok (.iaload, 1) := oq_46 (byt chL_law_40 13 rfl)
theorem dL_law_654 : decode cL_law 654 = .ok (.aload_n 0, 1) := oq_42 (byt chL_law_40 14 rfl)
theorem dL_law_655 : decode cL_law 655 = .ok (.iload_n 3, 1) := oq_29 (byt chL_law_40 15 rfl)
theorem dL_law_656 : decode cL_law 656 = .ok (.bipush 6, 2) := oq_16 (byt chL_law_41 0 rfl) (byt chL_law_41 1 rfl) rfl
theorem dL_law_658 : decode cL_law 658 = .ok (.iadd, 1) := oq_96 (byt chL_law_41 2 rfl)
theorem dL_law_659 : decode cL_law 659 = .ok (.iaload, 1) := oq_46 (byt chL_law_41 3 rfl)
theorem dL_law_660 : decode cL_law 660 = .ok (.aload_n 0, 1) := oq_42 (byt chL_law_41 4 rfl)
theorem dL_law_661 : decode cL_law 661 = .ok (.iload_n 3, 1) := oq_29 (byt chL_law_41 5 rfl)
theorem dL_law_662 : decode cL_law 662 = .ok (.bipush 7, 2) := oq_16 (byt chL_law_41 6 rfl) (byt chL_law_41 7 rfl) rfl
theorem dL_law_664 : decode cL_law 664 = .ok (.iadd, 1) := oq_96 (byt chL_law_41 8 rfl)
theorem dL_law_665 : decode cL_law 665 = .ok (.iaload, 1) := oq_46 (byt chL_law_41 9 rfl)
theorem dL_law_666 : decode cL_law 666 = .ok (.invokevirtual 62, 3) := oq_182 (byt chL_law_41 10 rfl) (byt chL_law_41 11 rfl) (byt chL_law_41 12 rfl) rfl
theorem dL_law_669 : decode cL_law 669 = .ok (.pop, 1) := oq_87 (byt chL_law_41 13 rfl)
theorem dL_law_670 : decode cL_law 670 = .ok (.goto 920, 3) := oq_167 (byt chL_law_41 14 rfl) (byt chL_law_41 15 rfl) (byt chL_law_42 0 rfl) (by decide +kernel)
theorem dL_law_673 : decode cL_law 673 = .ok (.aload_n 1, 1) := oq_43 (byt chL_law_42 1 rfl)
theorem dL_law_674 : decode cL_law 674 = .ok (.aload_n 0, 1) := oq_42 (byt chL_law_42 2 rfl)
theorem dL_law_675 : decode cL_law 675 = .ok (.iload_n 3, 1) := oq_29 (byt chL_law_42 3 rfl)
theorem dL_law_676 : decode cL_law 676 = .ok (.iconst 1, 1) := oq_4 (byt chL_law_42 4 rfl)
theorem dL_law_677 : decode cL_law 677 = .ok (.iadd, 1) := oq_96 (byt chL_law_42 5 rfl)
theorem dL_law_678 : decode cL_law 678 = .ok (.iaload, 1) := oq_46 (byt chL_law_42 6 rfl)
theorem dL_law_679 : decode cL_law 679 = .ok (.aload_n 0, 1) := oq_42 (byt chL_law_42 7 rfl)
theorem dL_law_680 : decode cL_law 680 = .ok (.iload_n 3, 1) := oq_29 (byt chL_law_42 8 rfl)
theorem dL_law_681 : decode cL_law 681 = .ok (.iconst 2, 1) := oq_5 (byt chL_law_42 9 rfl)
theorem dL_law_682 : decode cL_law 682 = .ok (.iadd, 1) := oq_96 (byt chL_law_42 10 rfl)
theorem dL_law_683 : decode cL_law 683 = .ok (.iaload, 1) := oq_46 (byt chL_law_42 11 rfl)
theorem dL_law_684 : decode cL_law 684 = .ok (.invokevirtual 63, 3) := oq_182 (byt chL_law_42 12 rfl) (byt chL_law_42 13 rfl) (byt chL_law_42 14 rfl) rfl
theorem dL_law_687 : decode cL_law 687 = .ok (.pop, 1) := oq_87 (byt chL_law_42 15 rfl)
theorem dL_law_688 : decode cL_law 688 = .ok (.aload_n 2, 1) := oq_44 (byt chL_law_43 0 rfl)
theorem dL_law_689 : decode cL_law 689 = .ok (.aload_n 0, 1) := oq_42 (byt chL_law_43 1 rfl)
theorem dL_law_690 : decode cL_law 690 = .ok (.iload_n 3, 1) := oq_29 (byt chL_law_43 2 rfl)
theorem dL_law_691 : decode cL_law 691 = .ok (.iconst 1, 1) := oq_4 (byt chL_law_43 3 rfl)
theorem dL_law_692 : decode cL_law 692 = .ok (.iadd, 1) := oq_96 (byt chL_law_43 4 rfl)
theorem dL_law_693 : decode cL_law 693 = .ok (.iaload, 1) := oq_46 (byt chL_law_43 5 rfl)
theorem dL_law_694 : decode cL_law 694 = .ok (.aload_n 0, 1) := oq_42 (byt chL_law_43 6 rfl)
theorem dL_law_695 : decode cL_law 695 = .ok (.iload_n 3, 1) := oq_29 (byt chL_law_43 7 rfl)
theorem dL_law_696 : decode cL_law 696 = .ok (.iconst 2, 1) := oq_5 (byt chL_law_43 8 rfl)
theorem dL_law_697 : decode cL_law 697 = .ok (.iadd, 1) := oq_96 (byt chL_law_43 9 rfl)
theorem dL_law_698 : decode cL_law 698 = .ok (.iaload, 1) := oq_46 (byt chL_law_43 10 rfl)
theorem dL_law_699 : decode cL_law 699 = .ok (.invokevirtual 66, 3) := oq_182 (byt chL_law_43 11 rfl) (byt chL_law_43 12 rfl) (byt chL_law_43 13 rfl) rfl
theorem dL_law_702 : decode cL_law 702 = .ok (.pop, 1) := oq_87 (byt chL_law_43 14 rfl)
theorem dL_law_703 : decode cL_law 703 = .ok (.goto 887, 3) := oq_167 (byt chL_law_43 15 rfl) (byt chL_law_44 0 rfl) (byt chL_law_44 1 rfl) (by decide +kernel)
theorem dL_law_706 : decode cL_law 706 = .ok (.aload_n 1, 1) := oq_43 (byt chL_law_44 2 rfl)
theorem dL_law_707 : decode cL_law 707 = .ok (.aload_n 0, 1) := oq_42 (byt chL_law_44 3 rfl)
theorem dL_law_708 : decode cL_law 708 = .ok (.iload_n 3, 1) := oq_29 (byt chL_law_44 4 rfl)
theorem dL_law_709 : decode cL_law 709 = .ok (.iconst 1, 1) := oq_4 (byt chL_law_44 5 rfl)
theorem dL_law_710 : decode cL_law 710 = .ok (.iadd, 1) := oq_96 (byt chL_law_44 6 rfl)
theorem dL_law_711 : decode cL_law 711 = .ok (.iaload, 1) := oq_46 (byt chL_law_44 7 rfl)
theorem dL_law_712 : decode cL_law 712 = .ok (.invokevirtual 67, 3) := oq_182 (byt chL_law_44 8 rfl) (byt chL_law_44 9 rfl) (byt chL_law_44 10 rfl) rfl
theorem dL_law_715 : decode cL_law 715 = .ok (.pop, 1) := oq_87 (byt chL_law_44 11 rfl)
theorem dL_law_716 : decode cL_law 716 = .ok (.aload_n 2, 1) := oq_44 (byt chL_law_44 12 rfl)
theorem dL_law_717 : decode cL_law 717 = .ok (.aload_n 0, 1) := oq_42 (byt chL_law_44 13 rfl)
theorem dL_law_718 : decode cL_law 718 = .ok (.iload_n 3, 1) := oq_29 (byt chL_law_44 14 rfl)
theorem dL_law_719 : decode cL_law 719 = .ok (.iconst 1, 1) := oq_4 (byt chL_law_44 15 rfl)
theorem dL_law_720 : decode cL_law 720 = .ok (.iadd, 1) := oq_96 (byt chL_law_45 0 rfl)
theorem dL_law_721 : decode cL_law 721 = .ok (.iaload, 1) := oq_46 (byt chL_law_45 1 rfl)
theorem dL_law_722 : decode cL_law 722 = .ok (.invokevirtual 70, 3) := oq_182 (byt chL_law_45 2 rfl) (byt chL_law_45 3 rfl) (byt chL_law_45 4 rfl) rfl
theorem dL_law_725 : decode cL_law 725 = .ok (.pop, 1) := oq_87 (byt chL_law_45 5 rfl)
theorem dL_law_726 : decode cL_law 726 = .ok (.goto 864, 3) := oq_167 (byt chL_law_45 6 rfl) (byt chL_law_45 7 rfl) (byt chL_law_45 8 rfl) (by decide +kernel)
theorem dL_law_729 : decode cL_law 729 = .ok (.aload_n 1, 1) := oq_43 (byt chL_law_45 9 rfl)
theorem dL_law_730 : decode cL_law 730 = .ok (.aload_n 0, 1) := oq_42 (byt chL_law_45 10 rfl)
theorem dL_law_731 : decode cL_law 731 = .ok (.iload_n 3, 1) := oq_29 (byt chL_law_45 11 rfl)
theorem dL_law_732 : decode cL_law 732 = .ok (.iconst 1, 1) := oq_4 (byt chL_law_45 12 rfl)
theorem dL_law_733 : decode cL_law 733 = .ok (.iadd, 1) := oq_96 (byt chL_law_45 13 rfl)
theorem dL_law_734 : decode cL_law 734 = .ok (.iaload, 1) := oq_46 (byt chL_law_45 14 rfl)
theorem dL_law_735 : decode cL_law 735 = .ok (.aload_n 0, 1) := oq_42 (byt chL_law_45 15 rfl)
theorem dL_law_736 : decode cL_law 736 = .ok (.iload_n 3, 1) := oq_29 (byt chL_law_46 0 rfl)
theorem dL_law_737 : decode cL_law 737 = .ok (.iconst 2, 1) := oq_5 (byt chL_law_46 1 rfl)
theorem dL_law_738 : decode cL_law 738 = .ok (.iadd, 1) := oq_96 (byt chL_law_46 2 rfl)
theorem dL_law_739 : decode cL_law 739 = .ok (.iaload, 1) := oq_46 (byt chL_law_46 3 rfl)
theorem dL_law_740 : decode cL_law 740 = .ok (.invokevirtual 71, 3) := oq_182 (byt chL_law_46 4 rfl) (byt chL_law_46 5 rfl) (byt chL_law_46 6 rfl) rfl
theorem dL_law_743 : decode cL_law 743 = .ok (.aload_n 2, 1) := oq_44 (byt chL_law_46 7 rfl)
theorem dL_law_744 : decode cL_law 744 = .ok (.aload_n 0, 1) := oq_42 (byt chL_law_46 8 rfl)
theorem dL_law_745 : decode cL_law 745 = .ok (.iload_n 3, 1) := oq_29 (byt chL_law_46 9 rfl)
theorem dL_law_746 : decode cL_law 746 = .ok (.iconst 1, 1) := oq_4 (byt chL_law_46 10 rfl)
theorem dL_law_747 : decode cL_law 747 = .ok (.iadd, 1) := oq_96 (byt chL_law_46 11 rfl)
theorem dL_law_748 : decode cL_law 748 = .ok (.iaload, 1) := oq_46 (byt chL_law_46 12 rfl)
theorem dL_law_749 : decode cL_law 749 = .ok (.aload_n 0, 1) := oq_42 (byt chL_law_46 13 rfl)
theorem dL_law_750 : decode cL_law 750 = .ok (.iload_n 3, 1) := oq_29 (byt chL_law_46 14 rfl)
theorem dL_law_751 : decode cL_law 751 = .ok (.iconst 2, 1) := oq_5 (byt chL_law_46 15 rfl)
theorem dL_law_752 : decode cL_law 752 = .ok (.iadd, 1) := oq_96 (byt chL_law_47 0 rfl)
theorem dL_law_753 : decode cL_law 753 = .ok (.iaload, 1) := oq_46 (byt chL_law_47 1 rfl)
theorem dL_law_754 : decode cL_law 754 = .ok (.invokevirtual 74, 3) := oq_182 (byt chL_law_47 2 rfl) (byt chL_law_47 3 rfl) (byt chL_law_47 4 rfl) rfl
theorem dL_law_757 : decode cL_law 757 = .ok (.if_icmp .eq 833, 3) := oq_159 (byt chL_law_47 5 rfl) (byt chL_law_47 6 rfl) (byt chL_law_47 7 rfl) (by decide +kernel)
theorem dL_law_760 : decode cL_law 760 = .ok (.iconst 0, 1) := oq_3 (byt chL_law_47 8 rfl)
theorem dL_law_761 : decode cL_law 761 = .ok (.ireturn, 1) := oq_172 (byt chL_law_47 9 rfl)
theorem dL_law_762 : decode cL_law 762 = .ok (.aload_n 1, 1) := oq_43 (byt chL_law_47 10 rfl)
theorem dL_law_763 : decode cL_law 763 = .ok (.aload_n 0, 1) := oq_42 (byt chL_law_47 11 rfl)
theorem dL_law_764 : decode cL_law 764 = .ok (.iload_n 3, 1) := oq_29 (byt chL_law_47 12 rfl)
theorem dL_law_765 : decode cL_law 765 = .ok (.iconst 1, 1) := oq_4 (byt chL_law_47 13 rfl)
theorem dL_law_766 : decode cL_law 766 = .ok (.iadd, 1) := oq_96 (byt chL_law_47 14 rfl)
theorem dL_law_767 : decode cL_law 767 = .ok (.iaload, 1) := oq_46 (byt chL_law_47 15 rfl)
theorem dL_law_768 : decode cL_law 768 = .ok (.aload_n 0, 1) := oq_42 (byt chL_law_48 0 rfl)
theorem dL_law_769 : decode cL_law 769 = .ok (.iload_n 3, 1) := oq_29 (byt chL_law_48 1 rfl)
theorem dL_law_770 : decode cL_law 770 = .ok (.iconst 2, 1) := oq_5 (byt chL_law_48 2 rfl)
theorem dL_law_771 : decode cL_law 771 = .ok (.iadd, 1) := oq_96 (byt chL_law_48 3 rfl)
theorem dL_law_772 : decode cL_law 772 = .ok (.iaload, 1) := oq_46 (byt chL_law_48 4 rfl)
theorem dL_law_773 : decode cL_law 773 = .ok (.aload_n 0, 1) := oq_42 (byt chL_law_48 5 rfl)
theorem dL_law_774 : decode cL_law 774 = .ok (.iload_n 3, 1) := oq_29 (byt chL_law_48 6 rfl)
theorem dL_law_775 : decode cL_law 775 = .ok (.iconst 3, 1) := oq_6 (byt chL_law_48 7 rfl)
theorem dL_law_776 : decode cL_law 776 = .ok (.iadd, 1) := oq_96 (byt chL_law_48 8 rfl)
theorem dL_law_777 : decode cL_law 777 = .ok (.iaload, 1) := oq_46 (byt chL_law_48 9 rfl)
theorem dL_law_778 : decode cL_law 778 = .ok (.invokevirtual 75, 3) := oq_182 (byt chL_law_48 10 rfl) (byt chL_law_48 11 rfl) (byt chL_law_48 12 rfl) rfl
theorem dL_law_781 : decode cL_law 781 = .ok (.pop, 1) := oq_87 (byt chL_law_48 13 rfl)
theorem dL_law_782 : decode cL_law 782 = .ok (.aload_n 2, 1) := oq_44 (byt chL_law_48 14 rfl)
theorem dL_law_783 : decode cL_law 783 = .ok (.aload_n 0, 1) := oq_42 (byt chL_law_48 15 rfl)
theorem dL_law_784 : decode cL_law 784 = .ok (.iload_n 3, 1) := oq_29 (byt chL_law_49 0 rfl)
theorem dL_law_785 : decode cL_law 785 = .ok (.iconst 1, 1) := oq_4 (byt chL_law_49 1 rfl)
theorem dL_law_786 : decode cL_law 786 = .ok (.iadd, 1) := oq_96 (byt chL_law_49 2 rfl)
theorem dL_law_787 : decode cL_law 787 = .ok (.iaload, 1) := oq_46 (byt chL_law_49 3 rfl)
theorem dL_law_788 : decode cL_law 788 = .ok (.aload_n 0, 1) := oq_42 (byt chL_law_49 4 rfl)
theorem dL_law_789 : decode cL_law 789 = .ok (.iload_n 3, 1) := oq_29 (byt chL_law_49 5 rfl)
theorem dL_law_790 : decode cL_law 790 = .ok (.iconst 2, 1) := oq_5 (byt chL_law_49 6 rfl)
theorem dL_law_791 : decode cL_law 791 = .ok (.iadd, 1) := oq_96 (byt chL_law_49 7 rfl)
theorem dL_law_792 : decode cL_law 792 = .ok (.iaload, 1) := oq_46 (byt chL_law_49 8 rfl)
theorem dL_law_793 : decode cL_law 793 = .ok (.aload_n 0, 1) := oq_42 (byt chL_law_49 9 rfl)
theorem dL_law_794 : decode cL_law 794 = .ok (.iload_n 3, 1) := oq_29 (byt chL_law_49 10 rfl)
theorem dL_law_795 : decode cL_law 795 = .ok (.iconst 3, 1) := oq_6 (byt chL_law_49 11 rfl)
theorem dL_law_796 : decode cL_law 796 = .ok (.iadd, 1) := oq_96 (byt chL_law_49 12 rfl)
theorem dL_law_797 : decode cL_law 797 = .ok (.iaload, 1) := oq_46 (byt chL_law_49 13 rfl)
theorem dL_law_798 : decode cL_law 798 = .ok (.invokevirtual 78, 3) := oq_182 (byt chL_law_49 14 rfl) (byt chL_law_49 15 rfl) (byt chL_law_50 0 rfl) rfl
theorem dL_law_801 : decode cL_law 801 = .ok (.pop, 1) := oq_87 (byt chL_law_50 1 rfl)
theorem dL_law_802 : decode cL_law 802 = .ok (.goto 788, 3) := oq_167 (byt chL_law_50 2 rfl) (byt chL_law_50 3 rfl) (byt chL_law_50 4 rfl) (by decide +kernel)
theorem dL_law_805 : decode cL_law 805 = .ok (.aload_n 1, 1) := oq_43 (byt chL_law_50 5 rfl)
theorem dL_law_806 : decode cL_law 806 = .ok (.aload_n 0, 1) := oq_42 (byt chL_law_50 6 rfl)
theorem dL_law_807 : decode cL_law 807 = .ok (.iload_n 3, 1) := oq_29 (byt chL_law_50 7 rfl)
theorem dL_law_808 : decode cL_law 808 = .ok (.iconst 1, 1) := oq_4 (byt chL_law_50 8 rfl)
theorem dL_law_809 : decode cL_law 809 = .ok (.iadd, 1) := oq_96 (byt chL_law_50 9 rfl)
theorem dL_law_810 : decode cL_law 810 = .ok (.iaload, 1) := oq_46 (byt chL_law_50 10 rfl)
theorem dL_law_811 : decode cL_law 811 = .ok (.aload_n 0, 1) := oq_42 (byt chL_law_50 11 rfl)
theorem dL_law_812 : decode cL_law 812 = .ok (.iload_n 3, 1) := oq_29 (byt chL_law_50 12 rfl)
theorem dL_law_813 : decode cL_law 813 = .ok (.iconst 2, 1) := oq_5 (byt chL_law_50 13 rfl)
theorem dL_law_814 : decode cL_law 814 = .ok (.iadd, 1) := oq_96 (byt chL_law_50 14 rfl)
theorem dL_law_815 : decode cL_law 815 = .ok (.iaload, 1) := oq_46 (byt chL_law_50 15 rfl)
theorem dL_law_816 : decode cL_law 816 = .ok (.invokevirtual 79, 3) := oq_182 (byt chL_law_51 0 rfl) (byt chL_law_51 1 rfl) (byt chL_law_51 2 rfl) rfl
theorem dL_law_819 : decode cL_law 819 = .ok (.pop, 1) := oq_87 (byt chL_law_51 3 rfl)
theorem dL_law_820 : decode cL_law 820 = .ok (.aload_n 2, 1) := oq_44 (byt chL_law_51 4 rfl)
theorem dL_law_821 : decode cL_law 821 = .ok (.aload_n 0, 1) := oq_42 (byt chL_law_51 5 rfl)
theorem dL_law_822 : decode cL_law 822 = .ok (.iload_n 3, 1) := oq_29 (byt chL_law_51 6 rfl)
theorem dL_law_823 : decode cL_law 823 = .ok (.iconst 1, 1) := oq_4 (byt chL_law_51 7 rfl)
theorem dL_law_824 : decode cL_law 824 = .ok (.iadd, 1) := oq_96 (byt chL_law_51 8 rfl)
theorem dL_law_825 : decode cL_law 825 = .ok (.iaload, 1) := oq_46 (byt chL_law_51 9 rfl)
theorem dL_law_826 : decode cL_law 826 = .ok (.aload_n 0, 1) := oq_42 (byt chL_law_51 10 rfl)
theorem dL_law_827 : decode cL_law 827 = .ok (.iload_n 3, 1) := oq_29 (byt chL_law_51 11 rfl)
theorem dL_law_828 : decode cL_law 828 = .ok (.iconst 2, 1) := oq_5 (byt chL_law_51 12 rfl)
theorem dL_law_829 : decode cL_law 829 = .ok (.iadd, 1) := oq_96 (byt chL_law_51 13 rfl)
theorem dL_law_830 : decode cL_law 830 = .ok (.iaload, 1) := oq_46 (byt chL_law_51 14 rfl)
theorem dL_law_831 : decode cL_law 831 = .ok (.invokevirtual 82, 3) := oq_182 (byt chL_law_51 15 rfl) (byt chL_law_52 0 rfl) (byt chL_law_52 1 rfl) rfl
theorem dL_law_834 : decode cL_law 834 = .ok (.pop, 1) := oq_87 (byt chL_law_52 2 rfl)
theorem dL_law_835 : decode cL_law 835 = .ok (.goto 755, 3) := oq_167 (byt chL_law_52 3 rfl) (byt chL_law_52 4 rfl) (byt chL_law_52 5 rfl) (by decide +kernel)
theorem dL_law_838 : decode cL_law 838 = .ok (.aload_n 1, 1) := oq_43 (byt chL_law_52 6 rfl)
theorem dL_law_839 : decode cL_law 839 = .ok (.aload_n 0, 1) := oq_42 (byt chL_law_52 7 rfl)
theorem dL_law_840 : decode cL_law 840 = .ok (.iload_n 3, 1) := oq_29 (byt chL_law_52 8 rfl)
theorem dL_law_841 : decode cL_law 841 = .ok (.iconst 1, 1) := oq_4 (byt chL_law_52 9 rfl)
theorem dL_law_842 : decode cL_law 842 = .ok (.iadd, 1) := oq_96 (byt chL_law_52 10 rfl)
theorem dL_law_843 : decode cL_law 843 = .ok (.iaload, 1) := oq_46 (byt chL_law_52 11 rfl)
theorem dL_law_844 : decode cL_law 844 = .ok (.aload_n 0, 1) := oq_42 (byt chL_law_52 12 rfl)
theorem dL_law_845 : decode cL_law 845 = .ok (.iload_n 3, 1) := oq_29 (byt chL_law_52 13 rfl)
theorem dL_law_846 : decode cL_law 846 = .ok (.iconst 2, 1) := oq_5 (byt chL_law_52 14 rfl)
theorem dL_law_847 : decode cL_law 847 = .ok (.iadd, 1) := oq_96 (byt chL_law_52 15 rfl)
theorem dL_law_848 : decode cL_law 848 = .ok (.iaload, 1) := oq_46 (byt chL_law_53 0 rfl)
theorem dL_law_849 : decode cL_law 849 = .ok (.aload_n 0, 1) := oq_42 (byt chL_law_53 1 rfl)
theorem dL_law_850 : decode cL_law 850 = .ok (.iload_n 3, 1) := oq_29 (byt chL_law_53 2 rfl)
theorem dL_law_851 : decode cL_law 851 = .ok (.iconst 3, 1) := oq_6 (byt chL_law_53 3 rfl)
theorem dL_law_852 : decode cL_law 852 = .ok (.iadd, 1) := oq_96 (byt chL_law_53 4 rfl)
theorem dL_law_853 : decode cL_law 853 = .ok (.iaload, 1) := oq_46 (byt chL_law_53 5 rfl)
theorem dL_law_854 : decode cL_law 854 = .ok (.aload_n 0, 1) := oq_42 (byt chL_law_53 6 rfl)
theorem dL_law_855 : decode cL_law 855 = .ok (.iload_n 3, 1) := oq_29 (byt chL_law_53 7 rfl)
theorem dL_law_856 : decode cL_law 856 = .ok (.iconst 4, 1) := oq_7 (byt chL_law_53 8 rfl)
theorem dL_law_857 : decode cL_law 857 = .ok (.iadd, 1) := oq_96 (byt chL_law_53 9 rfl)
theorem dL_law_858 : decode cL_law 858 = .ok (.iaload, 1) := oq_46 (byt chL_law_53 10 rfl)
theorem dL_law_859 : decode cL_law 859 = .ok (.aload_n 0, 1) := oq_42 (byt chL_law_53 11 rfl)
theorem dL_law_860 : decode cL_law 860 = .ok (.iload_n 3, 1) := oq_29 (byt chL_law_53 12 rfl)
theorem dL_law_861 : decode cL_law 861 = .ok (.iconst 5, 1) := oq_8 (byt chL_law_53 13 rfl)
theorem dL_law_862 : decode cL_law 862 = .ok (.iadd, 1) := oq_96 (byt chL_law_53 14 rfl)
theorem dL_law_863 : decode cL_law 863 = .ok (.iaload, 1) := oq_46 (byt chL_law_53 15 rfl)
theorem dL_law_864 : decode cL_law 864 = .ok (.invokevirtual 83, 3) := oq_182 (byt chL_law_54 0 rfl) (byt chL_law_54 1 rfl) (byt chL_law_54 2 rfl) rfl
theorem dL_law_867 : decode cL_law 867 = .ok (.pop, 1) := oq_87 (byt chL_law_54 3 rfl)
theorem dL_law_868 : decode cL_law 868 = .ok (.aload_n 2, 1) := oq_44 (byt chL_law_54 4 rfl)
theorem dL_law_869 : decode cL_law 869 = .ok (.aload_n 0, 1) := oq_42 (byt chL_law_54 5 rfl)
theorem dL_law_870 : decode cL_law 870 = .ok (.iload_n 3, 1) := oq_29 (byt chL_law_54 6 rfl)
theorem dL_law_871 : decode cL_law 871 = .ok (.iconst 1, 1) := oq_4 (byt chL_law_54 7 rfl)
theorem dL_law_872 : decode cL_law 872 = .ok (.iadd, 1) := oq_96 (byt chL_law_54 8 rfl)
theorem dL_law_873 : decode cL_law 873 = .ok (.iaload, 1) := oq_46 (byt chL_law_54 9 rfl)
theorem dL_law_874 : decode cL_law 874 = .ok (.aload_n 0, 1) := oq_42 (byt chL_law_54 10 rfl)
theorem dL_law_875 : decode cL_law 875 = .ok (.iload_n 3, 1) := oq_29 (byt chL_law_54 11 rfl)
theorem dL_law_876 : decode cL_law 876 = .ok (.iconst 2, 1) := oq_5 (byt chL_law_54 12 rfl)
theorem dL_law_877 : decode cL_law 877 = .ok (.iadd, 1) := oq_96 (byt chL_law_54 13 rfl)
theorem dL_law_878 : decode cL_law 878 = .ok (.iaload, 1) := oq_46 (byt chL_law_54 14 rfl)
theorem dL_law_879 : decode cL_law 879 = .ok (.aload_n 0, 1) := oq_42 (byt chL_law_54 15 rfl)
theorem dL_law_880 : decode cL_law 880 = .ok (.iload_n 3, 1) := oq_29 (byt chL_law_55 0 rfl)
theorem dL_law_881 : decode cL_law 881 = .ok (.iconst 3, 1) := oq_6 (byt chL_law_55 1 rfl)
theorem dL_law_882 : decode cL_law 882 = .ok (.iadd, 1) := oq_96 (byt chL_law_55 2 rfl)
theorem dL_law_883 : decode cL_law 883 = .ok (.iaload, 1) := oq_46 (byt chL_law_55 3 rfl)
theorem dL_law_884 : decode cL_law 884 = .ok (.aload_n 0, 1) := oq_42 (byt chL_law_55 4 rfl)
theorem dL_law_885 : decode cL_law 885 = .ok (.iload_n 3, 1) := oq_29 (byt chL_law_55 5 rfl)
theorem dL_law_886 : decode cL_law 886 = .ok (.iconst 4, 1) := oq_7 (byt chL_law_55 6 rfl)
theorem dL_law_887 : decode cL_law 887 = .ok (.iadd, 1) := oq_96 (byt chL_law_55 7 rfl)
theorem dL_law_888 : decode cL_law 888 = .ok (.iaload, 1) := oq_46 (byt chL_law_55 8 rfl)
theorem dL_law_889 : decode cL_law 889 = .ok (.aload_n 0, 1) := oq_42 (byt chL_law_55 9 rfl)
theorem dL_law_890 : decode cL_law 890 = .ok (.iload_n 3, 1) := oq_29 (byt chL_law_55 10 rfl)
theorem dL_law_891 : decode cL_law 891 = .ok (.iconst 5, 1) := oq_8 (byt chL_law_55 11 rfl)
theorem dL_law_892 : decode cL_law 892 = .ok (.iadd, 1) := oq_96 (byt chL_law_55 12 rfl)
theorem dL_law_893 : decode cL_law 893 = .ok (.iaload, 1) := oq_46 (byt chL_law_55 13 rfl)
theorem dL_law_894 : decode cL_law 894 = .ok (.invokevirtual 86, 3) := oq_182 (byt chL_law_55 14 rfl) (byt chL_law_55 15 rfl) (byt chL_law_56 0 rfl) rfl
theorem dL_law_897 : decode cL_law 897 = .ok (.pop, 1) := oq_87 (byt chL_law_56 1 rfl)
theorem dL_law_898 : decode cL_law 898 = .ok (.goto 692, 3) := oq_167 (byt chL_law_56 2 rfl) (byt chL_law_56 3 rfl) (byt chL_law_56 4 rfl) (by decide +kernel)
theorem dL_law_901 : decode cL_law 901 = .ok (.aload_n 1, 1) := oq_43 (byt chL_law_56 5 rfl)
theorem dL_law_902 : decode cL_law 902 = .ok (.aload_n 0, 1) := oq_42 (byt chL_law_56 6 rfl)
theorem dL_law_903 : decode cL_law 903 = .ok (.iload_n 3, 1) := oq_29 (byt chL_law_56 7 rfl)
theorem dL_law_904 : decode cL_law 904 = .ok (.iconst 1, 1) := oq_4 (byt chL_law_56 8 rfl)
theorem dL_law_905 : decode cL_law 905 = .ok (.iadd, 1) := oq_96 (byt chL_law_56 9 rfl)
theorem dL_law_906 : decode cL_law 906 = .ok (.iaload, 1) := oq_46 (byt chL_law_56 10 rfl)
theorem dL_law_907 : decode cL_law 907 = .ok (.aload_n 0, 1) := oq_42 (byt chL_law_56 11 rfl)
theorem dL_law_908 : decode cL_law 908 = .ok (.iload_n 3, 1) := oq_29 (byt chL_law_56 12 rfl)
theorem dL_law_909 : decode cL_law 909 = .ok (.iconst 2, 1) := oq_5 (byt chL_law_56 13 rfl)
theorem dL_law_910 : decode cL_law 910 = .ok (.iadd, 1) := oq_96 (byt chL_law_56 14 rfl)
theorem dL_law_911 : decode cL_law 911 = .ok (.iaload, 1) := oq_46 (byt chL_law_56 15 rfl)
theorem dL_law_912 : decode cL_law 912 = .ok (.aload_n 0, 1) := oq_42 (byt chL_law_57 0 rfl)
theorem dL_law_913 : decode cL_law 913 = .ok (.iload_n 3, 1) := oq_29 (byt chL_law_57 1 rfl)
theorem dL_law_914 : decode cL_law 914 = .ok (.iconst 3, 1) := oq_6 (byt chL_law_57 2 rfl)
theorem dL_law_915 : decode cL_law 915 = .ok (.iadd, 1) := oq_96 (byt chL_law_57 3 rfl)
theorem dL_law_916 : decode cL_law 916 = .ok (.iaload, 1) := oq_46 (byt chL_law_57 4 rfl)
theorem dL_law_917 : decode cL_law 917 = .ok (.ifCond .eq 7, 3) := oq_153 (byt chL_law_57 5 rfl) (byt chL_law_57 6 rfl) (byt chL_law_57 7 rfl) (by decide +kernel)
theorem dL_law_920 : decode cL_law 920 = .ok (.iconst 1, 1) := oq_4 (byt chL_law_57 8 rfl)
theorem dL_law_921 : decode cL_law 921 = .ok (.goto 4, 3) := oq_167 (byt chL_law_57 9 rfl) (byt chL_law_57 10 rfl) (byt chL_law_57 11 rfl) (by decide +kernel)
theorem dL_law_924 : decode cL_law 924 = .ok (.iconst 0, 1) := oq_3 (byt chL_law_57 12 rfl)
theorem dL_law_925 : decode cL_law 925 = .ok (.invokevirtual 87, 3) := oq_182 (byt chL_law_57 13 rfl) (byt chL_law_57 14 rfl) (byt chL_law_57 15 rfl) rfl
theorem dL_law_928 : decode cL_law 928 = .ok (.pop, 1) := oq_87 (byt chL_law_58 0 rfl)
theorem dL_law_929 : decode cL_law 929 = .ok (.aload_n 2, 1) := oq_44 (byt chL_law_58 1 rfl)
theorem dL_law_930 : decode cL_law 930 = .ok (.aload_n 0, 1) := oq_42 (byt chL_law_58 2 rfl)
theorem dL_law_931 : decode cL_law 931 = .ok (.iload_n 3, 1) := oq_29 (byt chL_law_58 3 rfl)
theorem dL_law_932 : decode cL_law 932 = .ok (.iconst 1, 1) := oq_4 (byt chL_law_58 4 rfl)
theorem dL_law_933 : decode cL_law 933 = .ok (.iadd, 1) := oq_96 (byt chL_law_58 5 rfl)
theorem dL_law_934 : decode cL_law 934 = .ok (.iaload, 1) := oq_46 (byt chL_law_58 6 rfl)
theorem dL_law_935 : decode cL_law 935 = .ok (.aload_n 0, 1) := oq_42 (byt chL_law_58 7 rfl)
theorem dL_law_936 : decode cL_law 936 = .ok (.iload_n 3, 1) := oq_29 (byt chL_law_58 8 rfl)
theorem dL_law_937 : decode cL_law 937 = .ok (.iconst 2, 1) := oq_5 (byt chL_law_58 9 rfl)
theorem dL_law_938 : decode cL_law 938 = .ok (.iadd, 1) := oq_96 (byt chL_law_58 10 rfl)
theorem dL_law_939 : decode cL_law 939 = .ok (.iaload, 1) := oq_46 (byt chL_law_58 11 rfl)
theorem dL_law_940 : decode cL_law 940 = .ok (.aload_n 0, 1) := oq_42 (byt chL_law_58 12 rfl)
theorem dL_law_941 : decode cL_law 941 = .ok (.iload_n 3, 1) := oq_29 (byt chL_law_58 13 rfl)
theorem dL_law_942 : decode cL_law 942 = .ok (.iconst 3, 1) := oq_6 (byt chL_law_58 14 rfl)
theorem dL_law_943 : decode cL_law 943 = .ok (.iadd, 1) := oq_96 (byt chL_law_58 15 rfl)
theorem dL_law_944 : decode cL_law 944 = .ok (.iaload, 1) := oq_46 (byt chL_law_59 0 rfl)
theorem dL_law_945 : decode cL_law 945 = .ok (.ifCond .eq 7, 3) := oq_153 (byt chL_law_59 1 rfl) (byt chL_law_59 2 rfl) (byt chL_law_59 3 rfl) (by decide +kernel)
theorem dL_law_948 : decode cL_law 948 = .ok (.iconst 1, 1) := oq_4 (byt chL_law_59 4 rfl)
theorem dL_law_949 : decode cL_law 949 = .ok (.goto 4, 3) := oq_167 (byt chL_law_59 5 rfl) (byt chL_law_59 6 rfl) (byt chL_law_59 7 rfl) (by decide +kernel)
theorem dL_law_952 : decode cL_law 952 = .ok (.iconst 0, 1) := oq_3 (byt chL_law_59 8 rfl)
theorem dL_law_953 : decode cL_law 953 = .ok (.invokevirtual 91, 3) := oq_182 (byt chL_law_59 9 rfl) (byt chL_law_59 10 rfl) (byt chL_law_59 11 rfl) rfl
theorem dL_law_956 : decode cL_law 956 = .ok (.pop, 1) := oq_87 (byt chL_law_59 12 rfl)
theorem dL_law_957 : decode cL_law 957 = .ok (.goto 633, 3) := oq_167 (byt chL_law_59 13 rfl) (byt chL_law_59 14 rfl) (byt chL_law_59 15 rfl) (by decide +kernel)
theorem dL_law_960 : decode cL_law 960 = .ok (.aload_n 1, 1) := oq_43 (byt chL_law_60 0 rfl)
theorem dL_law_961 : decode cL_law 961 = .ok (.aload_n 0, 1) := oq_42 (byt chL_law_60 1 rfl)
theorem dL_law_962 : decode cL_law 962 = .ok (.iload_n 3, 1) := oq_29 (byt chL_law_60 2 rfl)
theorem dL_law_963 : decode cL_law 963 = .ok (.iconst 1, 1) := oq_4 (byt chL_law_60 3 rfl)
theorem dL_law_964 : decode cL_law 964 = .ok (.iadd, 1) := oq_96 (byt chL_law_60 4 rfl)
theorem dL_law_965 : decode cL_law 965 = .ok (.iaload, 1) := oq_46 (byt chL_law_60 5 rfl)
theorem dL_law_966 : decode cL_law 966 = .ok (.aload_n 0, 1) := oq_42 (byt chL_law_60 6 rfl)
theorem dL_law_967 : decode cL_law 967 = .ok (.iload_n 3, 1) := oq_29 (byt chL_law_60 7 rfl)
theorem dL_law_968 : decode cL_law 968 = .ok (.iconst 2, 1) := oq_5 (byt chL_law_60 8 rfl)
theorem dL_law_969 : decode cL_law 969 = .ok (.iadd, 1) := oq_96 (byt chL_law_60 9 rfl)
theorem dL_law_970 : decode cL_law 970 = .ok (.iaload, 1) := oq_46 (byt chL_law_60 10 rfl)
theorem dL_law_971 : decode cL_law 971 = .ok (.aload_n 0, 1) := oq_42 (byt chL_law_60 11 rfl)
theorem dL_law_972 : decode cL_law 972 = .ok (.iload_n 3, 1) := oq_29 (byt chL_law_60 12 rfl)
theorem dL_law_973 : decode cL_law 973 = .ok (.iconst 3, 1) := oq_6 (byt chL_law_60 13 rfl)
theorem dL_law_974 : decode cL_law 974 = .ok (.iadd, 1) := oq_96 (byt chL_law_60 14 rfl)
theorem dL_law_975 : decode cL_law 975 = .ok (.iaload, 1) := oq_46 (byt chL_law_60 15 rfl)
theorem dL_law_976 : decode cL_law 976 = .ok (.aload_n 0, 1) := oq_42 (byt chL_law_61 0 rfl)
theorem dL_law_977 : decode cL_law 977 = .ok (.iload_n 3, 1) := oq_29 (byt chL_law_61 1 rfl)
theorem dL_law_978 : decode cL_law 978 = .ok (.iconst 4, 1) := oq_7 (byt chL_law_61 2 rfl)
theorem dL_law_979 : decode cL_law 979 = .ok (.iadd, 1) := oq_96 (byt chL_law_61 3 rfl)
theorem dL_law_980 : decode cL_law 980 = .ok (.iaload, 1) := oq_46 (byt chL_law_61 4 rfl)
theorem dL_law_981 : decode cL_law 981 = .ok (.aload_n 0, 1) := oq_42 (byt chL_law_61 5 rfl)
theorem dL_law_982 : decode cL_law 982 = .ok (.iload_n 3, 1) := oq_29 (byt chL_law_61 6 rfl)
theorem dL_law_983 : decode cL_law 983 = .ok (.iconst 5, 1) := oq_8 (byt chL_law_61 7 rfl)
theorem dL_law_984 : decode cL_law 984 = .ok (.iadd, 1) := oq_96 (byt chL_law_61 8 rfl)
theorem dL_law_985 : decode cL_law 985 = .ok (.iaload, 1) := oq_46 (byt chL_law_61 9 rfl)
theorem dL_law_986 : decode cL_law 986 = .ok (.invokevirtual 92, 3) := oq_182 (byt chL_law_61 10 rfl) (byt chL_law_61 11 rfl) (byt chL_law_61 12 rfl) rfl
theorem dL_law_989 : decode cL_law 989 = .ok (.pop, 1) := oq_87 (byt chL_law_61 13 rfl)
theorem dL_law_990 : decode cL_law 990 = .ok (.aload_n 2, 1) := oq_44 (byt chL_law_61 14 rfl)
theorem dL_law_991 : decode cL_law 991 = .ok (.aload_n 0, 1) := oq_42 (byt chL_law_61 15 rfl)
theorem dL_law_992 : decode cL_law 992 = .ok (.iload_n 3, 1) := oq_29 (byt chL_law_62 0 rfl)
theorem dL_law_993 : decode cL_law 993 = .ok (.iconst 1, 1) := oq_4 (byt chL_law_62 1 rfl)
theorem dL_law_994 : decode cL_law 994 = .ok (.iadd, 1) := oq_96 (byt chL_law_62 2 rfl)
theorem dL_law_995 : decode cL_law 995 = .ok (.iaload, 1) := oq_46 (byt chL_law_62 3 rfl)
theorem dL_law_996 : decode cL_law 996 = .ok (.aload_n 0, 1) := oq_42 (byt chL_law_62 4 rfl)
theorem dL_law_997 : decode cL_law 997 = .ok (.iload_n 3, 1) := oq_29 (byt chL_law_62 5 rfl)
theorem dL_law_998 : decode cL_law 998 = .ok (.iconst 2, 1) := oq_5 (byt chL_law_62 6 rfl)
theorem dL_law_999 : decode cL_law 999 = .ok (.iadd, 1) := oq_96 (byt chL_law_62 7 rfl)
theorem dL_law_1000 : decode cL_law 1000 = .ok (.iaload, 1) := oq_46 (byt chL_law_62 8 rfl)
theorem dL_law_1001 : decode cL_law 1001 = .ok (.aload_n 0, 1) := oq_42 (byt chL_law_62 9 rfl)
theorem dL_law_1002 : decode cL_law 1002 = .ok (.iload_n 3, 1) := oq_29 (byt chL_law_62 10 rfl)
theorem dL_law_1003 : decode cL_law 1003 = .ok (.iconst 3, 1) := oq_6 (byt chL_law_62 11 rfl)
theorem dL_law_1004 : decode cL_law 1004 = .ok (.iadd, 1) := oq_96 (byt chL_law_62 12 rfl)
theorem dL_law_1005 : decode cL_law 1005 = .ok (.iaload, 1) := oq_46 (byt chL_law_62 13 rfl)
theorem dL_law_1006 : decode cL_law 1006 = .ok (.aload_n 0, 1) := oq_42 (byt chL_law_62 14 rfl)
theorem dL_law_1007 : decode cL_law 1007 = .ok (.iload_n 3, 1) := oq_29 (byt chL_law_62 15 rfl)
theorem dL_law_1008 : decode cL_law 1008 = .ok (.iconst 4, 1) := oq_7 (byt chL_law_63 0 rfl)
theorem dL_law_1009 : decode cL_law 1009 = .ok (.iadd, 1) := oq_96 (byt chL_law_63 1 rfl)
theorem dL_law_1010 : decode cL_law 1010 = .ok (.iaload, 1) := oq_46 (byt chL_law_63 2 rfl)
theorem dL_law_1011 : decode cL_law 1011 = .ok (.aload_n 0, 1) := oq_42 (byt chL_law_63 3 rfl)
theorem dL_law_1012 : decode cL_law 1012 = .ok (.iload_n 3, 1) := oq_29 (byt chL_law_63 4 rfl)
theorem dL_law_1013 : decode cL_law 1013 = .ok (.iconst 5, 1) := oq_8 (byt chL_law_63 5 rfl)
theorem dL_law_1014 : decode cL_law 1014 = .ok (.iadd, 1) := oq_96 (byt chL_law_63 6 rfl)
theorem dL_law_1015 : decode cL_law 1015 = .ok (.iaload, 1) := oq_46 (byt chL_law_63 7 rfl)
theorem dL_law_1016 : decode cL_law 1016 = .ok (.invokevirtual 95, 3) := oq_182 (byt chL_law_63 8 rfl) (byt chL_law_63 9 rfl) (byt chL_law_63 10 rfl) rfl
theorem dL_law_1019 : decode cL_law 1019 = .ok (.pop, 1) := oq_87 (byt chL_law_63 11 rfl)
theorem dL_law_1020 : decode cL_law 1020 = .ok (.goto 570, 3) := oq_167 (byt chL_law_63 12 rfl) (byt chL_law_63 13 rfl) (byt chL_law_63 14 rfl) (by decide +kernel)
theorem dL_law_1023 : decode cL_law 1023 = .ok (.aload_n 1, 1) := oq_43 (byt chL_law_63 15 rfl)
theorem dL_law_1024 : decode cL_law 1024 = .ok (.aload_n 0, 1) := oq_42 (byt chL_law_64 0 rfl)
theorem dL_law_1025 : decode cL_law 1025 = .ok (.iload_n 3, 1) := oq_29 (byt chL_law_64 1 rfl)
theorem dL_law_1026 : decode cL_law 1026 = .ok (.iconst 1, 1) := oq_4 (byt chL_law_64 2 rfl)
theorem dL_law_1027 : decode cL_law 1027 = .ok (.iadd, 1) := oq_96 (byt chL_law_64 3 rfl)
theorem dL_law_1028 : decode cL_law 1028 = .ok (.iaload, 1) := oq_46 (byt chL_law_64 4 rfl)
theorem dL_law_1029 : decode cL_law 1029 = .ok (.aload_n 0, 1) := oq_42 (byt chL_law_64 5 rfl)
theorem dL_law_1030 : decode cL_law 1030 = .ok (.iload_n 3, 1) := oq_29 (byt chL_law_64 6 rfl)
theorem dL_law_1031 : decode cL_law 1031 = .ok (.iconst 2, 1) := oq_5 (byt chL_law_64 7 rfl)
theorem dL_law_1032 : decode cL_law 1032 = .ok (.iadd, 1) := oq_96 (byt chL_law_64 8 rfl)
theorem dL_law_1033 : decode cL_law 1033 = .ok (.iaload, 1) := oq_46 (byt chL_law_64 9 rfl)
theorem dL_law_1034 : decode cL_law 1034 = .ok (.ifCond .eq 7, 3) := oq_153 (byt chL_law_64 10 rfl) (byt chL_law_64 11 rfl) (byt chL_law_64 12 rfl) (by decide +kernel)
theorem dL_law_1037 : decode cL_law 1037 = .ok (.iconst 1, 1) := oq_4 (byt chL_law_64 13 rfl)
theorem dL_law_1038 : decode cL_law 1038 = .ok (.goto 4, 3) := oq_167 (byt chL_law_64 14 rfl) (byt chL_law_64 15 rfl) (byt chL_law_65 0 rfl) (by decide +kernel)
theorem dL_law_1041 : decode cL_law 1041 = .ok (.iconst 0, 1) := oq_3 (byt chL_law_65 1 rfl)
theorem dL_law_1042 : decode cL_law 1042 = .ok (.invokevirtual 96, 3) := oq_182 (byt chL_law_65 2 rfl) (byt chL_law_65 3 rfl) (byt chL_law_65 4 rfl) rfl
theorem dL_law_1045 : decode cL_law 1045 = .ok (.pop, 1) := oq_87 (byt chL_law_65 5 rfl)
theorem dL_law_1046 : decode cL_law 1046 = .ok (.aload_n 2, 1) := oq_44 (byt chL_law_65 6 rfl)
theorem dL_law_1047 : decode cL_law 1047 = .ok (.aload_n 0, 1) := oq_42 (byt chL_law_65 7 rfl)
theorem dL_law_1048 : decode cL_law 1048 = .ok (.iload_n 3, 1) := oq_29 (byt chL_law_65 8 rfl)
theorem dL_law_1049 : decode cL_law 1049 = .ok (.iconst 1, 1) := oq_4 (byt chL_law_65 9 rfl)
theorem dL_law_1050 : decode cL_law 1050 = .ok (.iadd, 1) := oq_96 (byt chL_law_65 10 rfl)
theorem dL_law_1051 : decode cL_law 1051 = .ok (.iaload, 1) := oq_46 (byt chL_law_65 11 rfl)
theorem dL_law_1052 : decode cL_law 1052 = .ok (.aload_n 0, 1) := oq_42 (byt chL_law_65 12 rfl)
theorem dL_law_1053 : decode cL_law 1053 = .ok (.iload_n 3, 1) := oq_29 (byt chL_law_65 13 rfl)
theorem dL_law_1054 : decode cL_law 1054 = .ok (.iconst 2, 1) := oq_5 (byt chL_law_65 14 rfl)
theorem dL_law_1055 : decode cL_law 1055 = .ok (.iadd, 1) := oq_96 (byt chL_law_65 15 rfl)
theorem dL_law_1056 : decode cL_law 1056 = .ok (.iaload, 1) := oq_46 (byt chL_law_66 0 rfl)
theorem dL_law_1057 : decode cL_law 1057 = .ok (.ifCond .eq 7, 3) := oq_153 (byt chL_law_66 1 rfl) (byt chL_law_66 2 rfl) (byt chL_law_66 3 rfl) (by decide +kernel)
theorem dL_law_1060 : decode cL_law 1060 = .ok (.iconst 1, 1) := oq_4 (byt chL_law_66 4 rfl)
theorem dL_law_1061 : decode cL_law 1061 = .ok (.goto 4, 3) := oq_167 (byt chL_law_66 5 rfl) (byt chL_law_66 6 rfl) (byt chL_law_66 7 rfl) (by decide +kernel)
theorem dL_law_1064 : decode cL_law 1064 = .ok (.iconst 0, 1) := oq_3 (byt chL_law_66 8 rfl)
theorem dL_law_1065 : decode cL_law 1065 = .ok (.invokevirtual 100, 3) := oq_182 (byt chL_law_66 9 rfl) (byt chL_law_66 10 rfl) (byt chL_law_66 11 rfl) rfl
theorem dL_law_1068 : decode cL_law 1068 = .ok (.pop, 1) := oq_87 (byt chL_law_66 12 rfl)
theorem dL_law_1069 : decode cL_law 1069 = .ok (.goto 521, 3) := oq_167 (byt chL_law_66 13 rfl) (byt chL_law_66 14 rfl) (byt chL_law_66 15 rfl) (by decide +kernel)
theorem dL_law_1072 : decode cL_law 1072 = .ok (.aload_n 1, 1) := oq_43 (byt chL_law_67 0 rfl)
theorem dL_law_1073 : decode cL_law 1073 = .ok (.aload_n 0, 1) := oq_42 (byt chL_law_67 1 rfl)
theorem dL_law_1074 : decode cL_law 1074 = .ok (.iload_n 3, 1) := oq_29 (byt chL_law_67 2 rfl)
theorem dL_law_1075 : decode cL_law 1075 = .ok (.iconst 1, 1) := oq_4 (byt chL_law_67 3 rfl)
theorem dL_law_1076 : decode cL_law 1076 = .ok (.iadd, 1) := oq_96 (byt chL_law_67 4 rfl)
theorem dL_law_1077 : decode cL_law 1077 = .ok (.iaload, 1) := oq_46 (byt chL_law_67 5 rfl)
theorem dL_law_1078 : decode cL_law 1078 = .ok (.aload_n 0, 1) := oq_42 (byt chL_law_67 6 rfl)
theorem dL_law_1079 : decode cL_law 1079 = .ok (.iload_n 3, 1) := oq_29 (byt chL_law_67 7 rfl)
theorem dL_law_1080 : decode cL_law 1080 = .ok (.iconst 2, 1) := oq_5 (byt chL_law_67 8 rfl)
theorem dL_law_1081 : decode cL_law 1081 = .ok (.iadd, 1) := oq_96 (byt chL_law_67 9 rfl)
theorem dL_law_1082 : decode cL_law 1082 = .ok (.iaload, 1) := oq_46 (byt chL_law_67 10 rfl)
theorem dL_law_1083 : decode cL_law 1083 = .ok (.aload_n 0, 1) := oq_42 (byt chL_law_67 11 rfl)
theorem dL_law_1084 : decode cL_law 1084 = .ok (.iload_n 3, 1) := oq_29 (byt chL_law_67 12 rfl)
theorem dL_law_1085 : decode cL_law 1085 = .ok (.iconst 3, 1) := oq_6 (byt chL_law_67 13 rfl)
theorem dL_law_1086 : decode cL_law 1086 = .ok (.iadd, 1) := oq_96 (byt chL_law_67 14 rfl)
theorem dL_law_1087 : decode cL_law 1087 = .ok (.iaload, 1) := oq_46 (byt chL_law_67 15 rfl)
theorem dL_law_1088 : decode cL_law 1088 = .ok (.invokevirtual 101, 3) := oq_182 (byt chL_law_68 0 rfl) (byt chL_law_68 1 rfl) (byt chL_law_68 2 rfl) rfl
theorem dL_law_1091 : decode cL_law 1091 = .ok (.pop, 1) := oq_87 (byt chL_law_68 3 rfl)
theorem dL_law_1092 : decode cL_law 1092 = .ok (.aload_n 2, 1) := oq_44 (byt chL_law_68 4 rfl)
theorem dL_law_1093 : decode cL_law 1093 = .ok (.aload_n 0, 1) := oq_42 (byt chL_law_68 5 rfl)
theorem dL_law_1094 : decode cL_law 1094 = .ok (.iload_n 3, 1) := oq_29 (byt chL_law_68 6 rfl)
theorem dL_law_1095 : decode cL_law 1095 = .ok (.iconst 1, 1) := oq_4 (byt chL_law_68 7 rfl)
theorem dL_law_1096 : decode cL_law 1096 = .ok (.iadd, 1) := oq_96 (byt chL_law_68 8 rfl)
theorem dL_law_1097 : decode cL_law 1097 = .ok (.iaload, 1) := oq_46 (byt chL_law_68 9 rfl)
theorem dL_law_1098 : decode cL_law 1098 = .ok (.aload_n 0, 1) := oq_42 (byt chL_law_68 10 rfl)
theorem dL_law_1099 : decode cL_law 1099 = .ok (.iload_n 3, 1) := oq_29 (byt chL_law_68 11 rfl)
theorem dL_law_1100 : decode cL_law 1100 = .ok (.iconst 2, 1) := oq_5 (byt chL_law_68 12 rfl)
theorem dL_law_1101 : decode cL_law 1101 = .ok (.iadd, 1) := oq_96 (byt chL_law_68 13 rfl)
theorem dL_law_1102 : decode cL_law 1102 = .ok (.iaload, 1) := oq_46 (byt chL_law_68 14 rfl)
theorem dL_law_1103 : decode cL_law 1103 = .ok (.aload_n 0, 1) := oq_42 (byt chL_law_68 15 rfl)
theorem dL_law_1104 : decode cL_law 1104 = .ok (.iload_n 3, 1) := oq_29 (byt chL_law_69 0 rfl)
theorem dL_law_1105 : decode cL_law 1105 = .ok (.iconst 3, 1) := oq_6 (byt chL_law_69 1 rfl)
theorem dL_law_1106 : decode cL_law 1106 = .ok (.iadd, 1) := oq_96 (byt chL_law_69 2 rfl)
theorem dL_law_1107 : decode cL_law 1107 = .ok (.iaload, 1) := oq_46 (byt chL_law_69 3 rfl)
theorem dL_law_1108 : decode cL_law 1108 = .ok (.invokevirtual 104, 3) := oq_182 (byt chL_law_69 4 rfl) (byt chL_law_69 5 rfl) (byt chL_law_69 6 rfl) rfl
theorem dL_law_1111 : decode cL_law 1111 = .ok (.pop, 1) := oq_87 (byt chL_law_69 7 rfl)
theorem dL_law_1112 : decode cL_law 1112 = .ok (.goto 478, 3) := oq_167 (byt chL_law_69 8 rfl) (byt chL_law_69 9 rfl) (byt chL_law_69 10 rfl) (by decide +kernel)
theorem dL_law_1115 : decode cL_law 1115 = .ok (.aload_n 1, 1) := oq_43 (byt chL_law_69 11 rfl)
theorem dL_law_1116 : decode cL_law 1116 = .ok (.aload_n 0, 1) := oq_42 (byt chL_law_69 12 rfl)
theorem dL_law_1117 : decode cL_law 1117 = .ok (.iload_n 3, 1) := oq_29 (byt chL_law_69 13 rfl)
theorem dL_law_1118 : decode cL_law 1118 = .ok (.iconst 1, 1) := oq_4 (byt chL_law_69 14 rfl)
theorem dL_law_1119 : decode cL_law 1119 = .ok (.iadd, 1) := oq_96 (byt chL_law_69 15 rfl)
theorem dL_law_1120 : decode cL_law 1120 = .ok (.iaload, 1) := oq_46 (byt chL_law_70 0 rfl)
theorem dL_law_1121 : decode cL_law 1121 = .ok (.aload_n 0, 1) := oq_42 (byt chL_law_70 1 rfl)
theorem dL_law_1122 : decode cL_law 1122 = .ok (.iload_n 3, 1) := oq_29 (byt chL_law_70 2 rfl)
theorem dL_law_1123 : decode cL_law 1123 = .ok (.iconst 2, 1) := oq_5 (byt chL_law_70 3 rfl)
theorem dL_law_1124 : decode cL_law 1124 = .ok (.iadd, 1) := oq_96 (byt chL_law_70 4 rfl)
theorem dL_law_1125 : decode cL_law 1125 = .ok (.iaload, 1) := oq_46 (byt chL_law_70 5 rfl)
theorem dL_law_1126 : decode cL_law 1126 = .ok (.invokevirtual 105, 3) := oq_182 (byt chL_law_70 6 rfl) (byt chL_law_70 7 rfl) (byt chL_law_70 8 rfl) rfl
theorem dL_law_1129 : decode cL_law 1129 = .ok (.pop, 1) := oq_87 (byt chL_law_70 9 rfl)
theorem dL_law_1130 : decode cL_law 1130 = .ok (.aload_n 2, 1) := oq_44 (byt chL_law_70 10 rfl)
theorem dL_law_1131 : decode cL_law 1131 = .ok (.aload_n 0, 1) := oq_42 (byt chL_law_70 11 rfl)
theorem dL_law_1132 : decode cL_law 1132 = .ok (.iload_n 3, 1) := oq_29 (byt chL_law_70 12 rfl)
theorem dL_law_1133 : decode cL_law 1133 = .ok (.iconst 1, 1) := oq_4 (byt chL_law_70 13 rfl)
theorem dL_law_1134 : decode cL_law 1134 = .ok (.iadd, 1) := oq_96 (byt chL_law_70 14 rfl)
theorem dL_law_1135 : decode cL_law 1135 = .ok (.iaload, 1) := oq_46 (byt chL_law_70 15 rfl)
theorem dL_law_1136 : decode cL_law 1136 = .ok (.aload_n 0, 1) := oq_42 (byt chL_law_71 0 rfl)
theorem dL_law_1137 : decode cL_law 1137 = .ok (.iload_n 3, 1) := oq_29 (byt chL_law_71 1 rfl)
theorem dL_law_1138 : decode cL_law 1138 = .ok (.iconst 2, 1) := oq_5 (byt chL_law_71 2 rfl)
theorem dL_law_1139 : decode cL_law 1139 = .ok (.iadd, 1) := oq_96 (byt chL_law_71 3 rfl)
theorem dL_law_1140 : decode cL_law 1140 = .ok (.iaload, 1) := oq_46 (byt chL_law_71 4 rfl)
theorem dL_law_1141 : decode cL_law 1141 = .ok (.invokevirtual 108, 3) := oq_182 (byt chL_law_71 5 rfl) (byt chL_law_71 6 rfl) (byt chL_law_71 7 rfl) rfl
theorem dL_law_1144 : decode cL_law 1144 = .ok (.pop, 1) := oq_87 (byt chL_law_71 8 rfl)
theorem dL_law_1145 : decode cL_law 1145 = .ok (.goto 445, 3) := oq_167 (byt chL_law_71 9 rfl) (byt chL_law_71 10 rfl) (byt chL_law_71 11 rfl) (by decide +kernel)
theorem dL_law_1148 : decode cL_law 1148 = .ok (.aload_n 1, 1) := oq_43 (byt chL_law_71 12 rfl)
theorem dL_law_1149 : decode cL_law 1149 = .ok (.aload_n 0, 1) := oq_42 (byt chL_law_71 13 rfl)
theorem dL_law_1150 : decode cL_law 1150 = .ok (.iload_n 3, 1) := oq_29 (byt chL_law_71 14 rfl)
theorem dL_law_1151 : decode cL_law 1151 = .ok (.iconst 1, 1) := oq_4 (byt chL_law_71 15 rfl)
theorem dL_law_1152 : decode cL_law 1152 = .ok (.iadd, 1) := oq_96 (byt chL_law_72 0 rfl)
theorem dL_law_1153 : decode cL_law 1153 = .ok (.iaload, 1) := oq_46 (byt chL_law_72 1 rfl)
theorem dL_law_1154 : decode cL_law 1154 = .ok (.aload_n 0, 1) := oq_42 (byt chL_law_72 2 rfl)
theorem dL_law_1155 : decode cL_law 1155 = .ok (.iload_n 3, 1) := oq_29 (byt chL_law_72 3 rfl)
theorem dL_law_1156 : decode cL_law 1156 = .ok (.iconst 2, 1) := oq_5 (byt chL_law_72 4 rfl)
theorem dL_law_1157 : decode cL_law 1157 = .ok (.iadd, 1) := oq_96 (byt chL_law_72 5 rfl)
theorem dL_law_1158 : decode cL_law 1158 = .ok (.iaload, 1) := oq_46 (byt chL_law_72 6 rfl)
theorem dL_law_1159 : decode cL_law 1159 = .ok (.aload_n 0, 1) := oq_42 (byt chL_law_72 7 rfl)
theorem dL_law_1160 : decode cL_law 1160 = .ok (.iload_n 3, 1) := oq_29 (byt chL_law_72 8 rfl)
theorem dL_law_1161 : decode cL_law 1161 = .ok (.iconst 3, 1) := oq_6 (byt chL_law_72 9 rfl)
theorem dL_law_1162 : decode cL_law 1162 = .ok (.iadd, 1) := oq_96 (byt chL_law_72 10 rfl)
theorem dL_law_1163 : decode cL_law 1163 = .ok (.iaload, 1) := oq_46 (byt chL_law_72 11 rfl)
theorem dL_law_1164 : decode cL_law 1164 = .ok (.ifCond .eq 7, 3) := oq_153 (byt chL_law_72 12 rfl) (byt chL_law_72 13 rfl) (byt chL_law_72 14 rfl) (by decide +kernel)
theorem dL_law_1167 : decode cL_law 1167 = .ok (.iconst 1, 1) := oq_4 (byt chL_law_72 15 rfl)
theorem dL_law_1168 : decode cL_law 1168 = .ok (.goto 4, 3) := oq_167 (byt chL_law_73 0 rfl) (byt chL_law_73 1 rfl) (byt chL_law_73 2 rfl) (by decide +kernel)
theorem dL_law_1171 : decode cL_law 1171 = .ok (.iconst 0, 1) := oq_3 (byt chL_law_73 3 rfl)
theorem dL_law_1172 : decode cL_law 1172 = .ok (.invokevirtual 109, 3) := oq_182 (byt chL_law_73 4 rfl) (byt chL_law_73 5 rfl) (byt chL_law_73 6 rfl) rfl
theorem dL_law_1175 : decode cL_law 1175 = .ok (.pop, 1) := oq_87 (byt chL_law_73 7 rfl)
theorem dL_law_1176 : decode cL_law 1176 = .ok (.aload_n 2, 1) := oq_44 (byt chL_law_73 8 rfl)
theorem dL_law_1177 : decode cL_law 1177 = .ok (.aload_n 0, 1) := oq_42 (byt chL_law_73 9 rfl)
theorem dL_law_1178 : decode cL_law 1178 = .ok (.iload_n 3, 1) := oq_29 (byt chL_law_73 10 rfl)
theorem dL_law_1179 : decode cL_law 1179 = .ok (.iconst 1, 1) := oq_4 (byt chL_law_73 11 rfl)
theorem dL_law_1180 : decode cL_law 1180 = .ok (.iadd, 1) := oq_96 (byt chL_law_73 12 rfl)
theorem dL_law_1181 : decode cL_law 1181 = .ok (.iaload, 1) := oq_46 (byt chL_law_73 13 rfl)
theorem dL_law_1182 : decode cL_law 1182 = .ok (.aload_n 0, 1) := oq_42 (byt chL_law_73 14 rfl)
theorem dL_law_1183 : decode cL_law 1183 = .ok (.iload_n 3, 1) := oq_29 (byt chL_law_73 15 rfl)
theorem dL_law_1184 : decode cL_law 1184 = .ok (.iconst 2, 1) := oq_5 (byt chL_law_74 0 rfl)
theorem dL_law_1185 : decode cL_law 1185 = .ok (.iadd, 1) := oq_96 (byt chL_law_74 1 rfl)
theorem dL_law_1186 : decode cL_law 1186 = .ok (.iaload, 1) := oq_46 (byt chL_law_74 2 rfl)
theorem dL_law_1187 : decode cL_law 1187 = .ok (.aload_n 0, 1) := oq_42 (byt chL_law_74 3 rfl)
theorem dL_law_1188 : decode cL_law 1188 = .ok (.iload_n 3, 1) := oq_29 (byt chL_law_74 4 rfl)
theorem dL_law_1189 : decode cL_law 1189 = .ok (.iconst 3, 1) := oq_6 (byt chL_law_74 5 rfl)
theorem dL_law_1190 : decode cL_law 1190 = .ok (.iadd, 1) := oq_96 (byt chL_law_74 6 rfl)
theorem dL_law_1191 : decode cL_law 1191 = .ok (.iaload, 1) := oq_46 (byt chL_law_74 7 rfl)
theorem dL_law_1192 : decode cL_law 1192 = .ok (.ifCond .eq 7, 3) := oq_153 (byt chL_law_74 8 rfl) (byt chL_law_74 9 rfl) (byt chL_law_74 10 rfl) (by decide +kernel)
theorem dL_law_1195 : decode cL_law 1195 = .ok (.iconst 1, 1) := oq_4 (byt chL_law_74 11 rfl)
theorem dL_law_1196 : decode cL_law 1196 = .ok (.goto 4, 3) := oq_167 (byt chL_law_74 12 rfl) (byt chL_law_74 13 rfl) (byt chL_law_74 14 rfl) (by decide +kernel)
theorem dL_law_1199 : decode cL_law 1199 = .ok (.iconst 0, 1) := oq_3 (byt chL_law_74 15 rfl)
theorem dL_law_1200 : decode cL_law 1200 = .ok (.invokevirtual 112, 3) := oq_182 (byt chL_law_75 0 rfl) (byt chL_law_75 1 rfl) (byt chL_law_75 2 rfl) rfl
theorem dL_law_1203 : decode cL_law 1203 = .ok (.pop, 1) := oq_87 (byt chL_law_75 3 rfl)
theorem dL_law_1204 : decode cL_law 1204 = .ok (.goto 386, 3) := oq_167 (byt chL_law_75 4 rfl) (byt chL_law_75 5 rfl) (byt chL_law_75 6 rfl) (by decide +kernel)
theorem dL_law_1207 : decode cL_law 1207 = .ok (.aload_n 1, 1) := oq_43 (byt chL_law_75 7 rfl)
theorem dL_law_1208 : decode cL_law 1208 = .ok (.aload_n 0, 1) := oq_42 (byt chL_law_75 8 rfl)
theorem dL_law_1209 : decode cL_law 1209 = .ok (.iload_n 3, 1) := oq_29 (byt chL_law_75 9 rfl)
theorem dL_law_1210 : decode cL_law 1210 = .ok (.iconst 1, 1) := oq_4 (byt chL_law_75 10 rfl)
theorem dL_law_1211 : decode cL_law 1211 = .ok (.iadd, 1) := oq_96 (byt chL_law_75 11 rfl)
theorem dL_law_1212 : decode cL_law 1212 = .ok (.iaload, 1) := oq_46 (byt chL_law_75 12 rfl)
theorem dL_law_1213 : decode cL_law 1213 = .ok (.aload_n 0, 1) := oq_42 (byt chL_law_75 13 rfl)
theorem dL_law_1214 : decode cL_law 1214 = .ok (.iload_n 3, 1) := oq_29 (byt chL_law_75 14 rfl)
theorem dL_law_1215 : decode cL_law 1215 = .ok (.iconst 2, 1) := oq_5 (byt chL_law_75 15 rfl)
theorem dL_law_1216 : decode cL_law 1216 = .ok (.iadd, 1) := oq_96 (byt chL_law_76 0 rfl)
theorem dL_law_1217 : decode cL_law 1217 = .ok (.iaload, 1) := oq_46 (byt chL_law_76 1 rfl)
theorem dL_law_1218 : decode cL_law 1218 = .ok (.invokevirtual 113, 3) := oq_182 (byt chL_law_76 2 rfl) (byt chL_law_76 3 rfl) (byt chL_law_76 4 rfl) rfl
theorem dL_law_1221 : decode cL_law 1221 = .ok (.pop, 1) := oq_87 (byt chL_law_76 5 rfl)
theorem dL_law_1222 : decode cL_law 1222 = .ok (.aload_n 2, 1) := oq_44 (byt chL_law_76 6 rfl)
theorem dL_law_1223 : decode cL_law 1223 = .ok (.aload_n 0, 1) := oq_42 (byt chL_law_76 7 rfl)
theorem dL_law_1224 : decode cL_law 1224 = .ok (.iload_n 3, 1) := oq_29 (byt chL_law_76 8 rfl)
theorem dL_law_1225 : decode cL_law 1225 = .ok (.iconst 1, 1) := oq_4 (byt chL_law_76 9 rfl)
theorem dL_law_1226 : decode cL_law 1226 = .ok (.iadd, 1) := oq_96 (byt chL_law_76 10 rfl)
theorem dL_law_1227 : decode cL_law 1227 = .ok (.iaload, 1) := oq_46 (byt chL_law_76 11 rfl)
theorem dL_law_1228 : decode cL_law 1228 = .ok (.aload_n 0, 1) := oq_42 (byt chL_law_76 12 rfl)
theorem dL_law_1229 : decode cL_law 1229 = .ok (.iload_n 3, 1) := oq_29 (byt chL_law_76 13 rfl)
theorem dL_law_1230 : decode cL_law 1230 = .ok (.iconst 2, 1) := oq_5 (byt chL_law_76 14 rfl)
theorem dL_law_1231 : decode cL_law 1231 = .ok (.iadd, 1) := oq_96 (byt chL_law_76 15 rfl)
theorem dL_law_1232 : decode cL_law 1232 = .ok (.iaload, 1) := oq_46 (byt chL_law_77 0 rfl)
theorem dL_law_1233 : decode cL_law 1233 = .ok (.invokevirtual 116, 3) := oq_182 (byt chL_law_77 1 rfl) (byt chL_law_77 2 rfl) (byt chL_law_77 3 rfl) rfl
theorem dL_law_1236 : decode cL_law 1236 = .ok (.pop, 1) := oq_87 (byt chL_law_77 4 rfl)
theorem dL_law_1237 : decode cL_law 1237 = .ok (.goto 353, 3) := oq_167 (byt chL_law_77 5 rfl) (byt chL_law_77 6 rfl) (byt chL_law_77 7 rfl) (by decide +kernel)
theorem dL_law_1240 : decode cL_law 1240 = .ok (.aload_n 1, 1) := oq_43 (byt chL_law_77 8 rfl)
theorem dL_law_1241 : decode cL_law 1241 = .ok (.aload_n 0, 1) := oq_42 (byt chL_law_77 9 rfl)
theorem dL_law_1242 : decode cL_law 1242 = .ok (.iload_n 3, 1) := oq_29 (byt chL_law_77 10 rfl)
theorem dL_law_1243 : decode cL_law 1243 = .ok (.iconst 1, 1) := oq_4 (byt chL_law_77 11 rfl)
theorem dL_law_1244 : decode cL_law 1244 = .ok (.iadd, 1) := oq_96 (byt chL_law_77 12 rfl)
theorem dL_law_1245 : decode cL_law 1245 = .ok (.iaload, 1) := oq_46 (byt chL_law_77 13 rfl)
theorem dL_law_1246 : decode cL_law 1246 = .ok (.aload_n 0, 1) := oq_42 (byt chL_law_77 14 rfl)
theorem dL_law_1247 : decode cL_law 1247 = .ok (.iload_n 3, 1) := oq_29 (byt chL_law_77 15 rfl)
theorem dL_law_1248 : decode cL_law 1248 = .ok (.iconst 2, 1) := oq_5 (byt chL_law_78 0 rfl)
theorem dL_law_1249 : decode cL_law 1249 = .ok (.iadd, 1) := oq_96 (byt chL_law_78 1 rfl)
theorem dL_law_1250 : decode cL_law 1250 = .ok (.iaload, 1) := oq_46 (byt chL_law_78 2 rfl)
theorem dL_law_1251 : decode cL_law 1251 = .ok (.aload_n 0, 1) := oq_42 (byt chL_law_78 3 rfl)
theorem dL_law_1252 : decode cL_law 1252 = .ok (.iload_n 3, 1) := oq_29 (byt chL_law_78 4 rfl)
theorem dL_law_1253 : decode cL_law 1253 = .ok (.iconst 3, 1) := oq_6 (byt chL_law_78 5 rfl)
theorem dL_law_1254 : decode cL_law 1254 = .ok (.iadd, 1) := oq_96 (byt chL_law_78 6 rfl)
theorem dL_law_1255 : decode cL_law 1255 = .ok (.iaload, 1) := oq_46 (byt chL_law_78 7 rfl)
theorem dL_law_1256 : decode cL_law 1256 = .ok (.aload_n 0, 1) := oq_42 (byt chL_law_78 8 rfl)
theorem dL_law_1257 : decode cL_law 1257 = .ok (.iload_n 3, 1) := oq_29 (byt chL_law_78 9 rfl)
theorem dL_law_1258 : decode cL_law 1258 = .ok (.iconst 4, 1) := oq_7 (byt chL_law_78 10 rfl)
theorem dL_law_1259 : decode cL_law 1259 = .ok (.iadd, 1) := oq_96 (byt chL_law_78 11 rfl)
theorem dL_law_1260 : decode cL_law 1260 = .ok (.iaload, 1) := oq_46 (byt chL_law_78 12 rfl)
theorem dL_law_1261 : decode cL_law 1261 = .ok (.aload_n 0, 1) := oq_42 (byt chL_law_78 13 rfl)
theorem dL_law_1262 : decode cL_law 1262 = .ok (.iload_n 3, 1) := oq_29 (byt chL_law_78 14 rfl)
theorem dL_law_1263 : decode cL_law 1263 = .ok (.iconst 5, 1) := oq_8 (byt chL_law_78 15 rfl)
theorem dL_law_1264 : decode cL_law 1264 = .ok (.iadd, 1) := oq_96 (byt chL_law_79 0 rfl)
theorem dL_law_1265 : decode cL_law 1265 = .ok (.iaload, 1) := oq_46 (byt chL_law_79 1 rfl)
theorem dL_law_1266 : decode cL_law 1266 = .ok (.invokevirtual 117, 3) := oq_182 (byt chL_law_79 2 rfl) (byt chL_law_79 3 rfl) (byt chL_law_79 4 rfl) rfl
theorem dL_law_1269 : decode cL_law 1269 = .ok (.pop, 1) := oq_87 (byt chL_law_79 5 rfl)
theorem dL_law_1270 : decode cL_law 1270 = .ok (.aload_n 2, 1) := oq_44 (byt chL_law_79 6 rfl)
theorem dL_law_1271 : decode cL_law 1271 = .ok (.aload_n 0, 1) := oq_42 (byt chL_law_79 7 rfl)
theorem dL_law_1272 : decode cL_law 1272 = .ok (.iload_n 3, 1) := oq_29 (byt chL_law_79 8 rfl)
theorem dL_law_1273 : decode cL_law 1273 = .ok (.iconst 1, 1) := oq_4 (byt chL_law_79 9 rfl)
theorem dL_law_1274 : decode cL_law 1274 = .ok (.iadd, 1) := oq_96 (byt chL_law_79 10 rfl)
theorem dL_law_1275 : decode cL_law 1275 = .ok (.iaload, 1) := oq_46 (byt chL_law_79 11 rfl)
theorem dL_law_1276 : decode cL_law 1276 = .ok (.aload_n 0, 1) := oq_42 (byt chL_law_79 12 rfl)
theorem dL_law_1277 : decode cL_law 1277 = .ok (.iload_n 3, 1) := oq_29 (byt chL_law_79 13 rfl)
theorem dL_law_1278 : decode cL_law 1278 = .ok (.iconst 2, 1) := oq_5 (byt chL_law_79 14 rfl)
theorem dL_law_1279 : decode cL_law 1279 = .ok (.iadd, 1) := oq_96 (byt chL_law_79 15 rfl)
theorem dL_law_1280 : decode cL_law 1280 = .ok (.iaload, 1) := oq_46 (byt chL_law_80 0 rfl)
theorem dL_law_1281 : decode cL_law 1281 = .ok (.aload_n 0, 1) := oq_42 (byt chL_law_80 1 rfl)
theorem dL_law_1282 : decode cL_law 1282 = .ok (.iload_n 3, 1) := oq_29 (byt chL_law_80 2 rfl)
theorem dL_law_1283 : decode cL_law 1283 = .ok (.iconst 3, 1) := oq_6 (byt chL_law_80 3 rfl)
theorem dL_law_1284 : decode cL_law 1284 = .ok (.iadd, 1) := oq_96 (byt chL_law_80 4 rfl)
theorem dL_law_1285 : decode cL_law 1285 = .ok (.iaload, 1) := oq_46 (byt chL_law_80 5 rfl)
theorem dL_law_1286 : decode cL_law 1286 = .ok (.aload_n 0, 1) := oq_42 (byt chL_law_80 6 rfl)
theorem dL_law_1287 : decode cL_law 1287 = .ok (.iload_n 3, 1) := oq_29 (byt chL_law_80 7 rfl)
theorem dL_law_1288 : decode cL_law 1288 = .ok (.iconst 4, 1) := oq_7 (byt chL_law_80 8 rfl)
theorem dL_law_1289 : decode cL_law 1289 = .ok (.iadd, 1) := oq_96 (byt chL_law_80 9 rfl)
theorem dL_law_1290 : decode cL_law 1290 = .ok (.iaload, 1) := oq_46 (byt chL_law_80 10 rfl)
theorem dL_law_1291 : decode cL_law 1291 = .ok (.aload_n 0, 1) := oq_42 (byt chL_law_80 11 rfl)
theorem dL_law_1292 : decode cL_law 1292 = .ok (.iload_n 3, 1) := oq_29 (byt chL_law_80 12 rfl)
theorem dL_law_1293 : decode cL_law 1293 = .ok (.iconst 5, 1) := oq_8 (byt chL_law_80 13 rfl)
theorem dL_law_1294 : decode cL_law 1294 = .ok (.iadd, 1) := oq_96 (byt chL_law_80 14 rfl)
theorem dL_law_1295 : decode cL_law 1295 = .ok (.iaload, 1) := oq_46 (byt chL_law_80 15 rfl)
theorem dL_law_1296 : decode cL_law 1296 = .ok (.invokevirtual 120, 3) := oq_182 (byt chL_law_81 0 rfl) (byt chL_law_81 1 rfl) (byt chL_law_81 2 rfl) rfl
theorem dL_law_1299 : decode cL_law 1299 = .ok (.pop, 1) := oq_87 (byt chL_law_81 3 rfl)
theorem dL_law_1300 : decode cL_law 1300 = .ok (.goto 290, 3) := oq_167 (byt chL_law_81 4 rfl) (byt chL_law_81 5 rfl) (byt chL_law_81 6 rfl) (by decide +kernel)
theorem dL_law_1303 : decode cL_law 1303 = .ok (.aload_n 1, 1) := oq_43 (byt chL_law_81 7 rfl)
theorem dL_law_1304 : decode cL_law 1304 = .ok (.aload_n 0, 1) := oq_42 (byt chL_law_81 8 rfl)
theorem dL_law_1305 : decode cL_law 1305 = .ok (.iload_n 3, 1) := oq_29 (byt chL_law_81 9 rfl)
theorem dL_law_1306 : decode cL_law 1306 = .ok (.iconst 1, 1) := oq_4 (byt chL_law_81 10 rfl)
theorem dL_law_1307 : decode cL_law 1307 = .ok (.iadd, 1) := oq_96 (byt chL_law_81 11 rfl)
theorem dL_law_1308 : decode cL_law 1308 = .ok (.iaload, 1) := oq_46 (byt chL_law_81 12 rfl)
theorem dL_law_1309 : decode cL_law 1309 = .ok (.aload_n 0, 1) := oq_42 (byt chL_law_81 13 rfl)
theorem dL_law_1310 : decode cL_law 1310 = .ok (.iload_n 3, 1) := oq_29 (byt chL_law_81 14 rfl)
theorem dL_law_1311 : decode cL_law 1311 = .ok (.iconst 2, 1) := oq_5 (byt chL_law_81 15 rfl)
theorem dL_law_1312 : decode cL_law 1312 = .ok (.iadd, 1) := oq_96 (byt chL_law_82 0 rfl)
theorem dL_law_1313 : decode cL_law 1313 = .ok (.iaload, 1) := oq_46 (byt chL_law_82 1 rfl)
theorem dL_law_1314 : decode cL_law 1314 = .ok (.aload_n 0, 1) := oq_42 (byt chL_law_82 2 rfl)
theorem dL_law_1315 : decode cL_law 1315 = .ok (.iload_n 3, 1) := oq_29 (byt chL_law_82 3 rfl)
theorem dL_law_1316 : decode cL_law 1316 = .ok (.iconst 3, 1) := oq_6 (byt chL_law_82 4 rfl)
theorem dL_law_1317 : decode cL_law 1317 = .ok (.iadd, 1) := oq_96 (byt chL_law_82 5 rfl)
theorem dL_law_1318 : decode cL_law 1318 = .ok (.iaload, 1) := oq_46 (byt chL_law_82 6 rfl)
theorem dL_law_1319 : decode cL_law 1319 = .ok (.aload_n 0, 1) := oq_42 (byt chL_law_82 7 rfl)
theorem dL_law_1320 : decode cL_law 1320 = .ok (.iload_n 3, 1) := oq_29 (byt chL_law_82 8 rfl)
theorem dL_law_1321 : decode cL_law 1321 = .ok (.iconst 4, 1) := oq_7 (byt chL_law_82 9 rfl)
theorem dL_law_1322 : decode cL_law 1322 = .ok (.iadd, 1) := oq_96 (byt chL_law_82 10 rfl)
theorem dL_law_1323 : decode cL_law 1323 = .ok (.iaload, 1) := oq_46 (byt chL_law_82 11 rfl)
theorem dL_law_1324 : decode cL_law 1324 = .ok (.aload_n 0, 1) := oq_42 (byt chL_law_82 12 rfl)
theorem dL_law_1325 : decode cL_law 1325 = .ok (.iload_n 3, 1) := oq_29 (byt chL_law_82 13 rfl)
theorem dL_law_1326 : decode cL_law 1326 = .ok (.iconst 5, 1) := oq_8 (byt chL_law_82 14 rfl)
theorem dL_law_1327 : decode cL_law 1327 = .ok (.iadd, 1) := oq_96 (byt chL_law_82 15 rfl)
theorem dL_law_1328 : decode cL_law 1328 = .ok (.iaload, 1) := oq_46 (byt chL_law_83 0 rfl)
theorem dL_law_1329 : decode cL_law 1329 = .ok (.invokevirtual 121, 3) := oq_182 (byt chL_law_83 1 rfl) (byt chL_law_83 2 rfl) (byt chL_law_83 3 rfl) rfl
theorem dL_law_1332 : decode cL_law 1332 = .ok (.pop, 1) := oq_87 (byt chL_law_83 4 rfl)
theorem dL_law_1333 : decode cL_law 1333 = .ok (.aload_n 2, 1) := oq_44 (byt chL_law_83 5 rfl)
theorem dL_law_1334 : decode cL_law 1334 = .ok (.aload_n 0, 1) := oq_42 (byt chL_law_83 6 rfl)
theorem dL_law_1335 : decode cL_law 1335 = .ok (.iload_n 3, 1) := oq_29 (byt chL_law_83 7 rfl)
theorem dL_law_1336 : decode cL_law 1336 = .ok (.iconst 1, 1) := oq_4 (byt chL_law_83 8 rfl)
theorem dL_law_1337 : decode cL_law 1337 = .ok (.iadd, 1) := oq_96 (byt chL_law_83 9 rfl)
theorem dL_law_1338 : decode cL_law 1338 = .ok (.iaload, 1) := oq_46 (byt chL_law_83 10 rfl)
theorem dL_law_1339 : decode cL_law 1339 = .ok (.aload_n 0, 1) := oq_42 (byt chL_law_83 11 rfl)
theorem dL_law_1340 : decode cL_law 1340 = .ok (.iload_n 3, 1) := oq_29 (byt chL_law_83 12 rfl)
theorem dL_law_1341 : decode cL_law 1341 = .ok (.iconst 2, 1) := oq_5 (byt chL_law_83 13 rfl)
theorem dL_law_1342 : decode cL_law 1342 = .ok (.iadd, 1) := oq_96 (byt chL_law_83 14 rfl)
theorem dL_law_1343 : decode cL_law 1343 = .ok (.iaload, 1) := oq_46 (byt chL_law_83 15 rfl)
theorem dL_law_1344 : decode cL_law 1344 = .ok (.aload_n 0, 1) := oq_42 (byt chL_law_84 0 rfl)
theorem dL_law_1345 : decode cL_law 1345 = .ok (.iload_n 3, 1) := oq_29 (byt chL_law_84 1 rfl)
theorem dL_law_1346 : decode cL_law 1346 = .ok (.iconst 3, 1) := oq_6 (byt chL_law_84 2 rfl)
theorem dL_law_1347 : decode cL_law 1347 = .ok (.iadd, 1) := oq_96 (byt chL_law_84 3 rfl)
theorem dL_law_1348 : decode cL_law 1348 = .ok (.iaload, 1) := oq_46 (byt chL_law_84 4 rfl)
theorem dL_law_1349 : decode cL_law 1349 = .ok (.aload_n 0, 1) := oq_42 (byt chL_law_84 5 rfl)
theorem dL_law_1350 : decode cL_law 1350 = .ok (.iload_n 3, 1) := oq_29 (byt chL_law_84 6 rfl)
theorem dL_law_1351 : decode cL_law 1351 = .ok (.iconst 4, 1) := oq_7 (byt chL_law_84 7 rfl)
theorem dL_law_1352 : decode cL_law 1352 = .ok (.iadd, 1) := oq_96 (byt chL_law_84 8 rfl)
theorem dL_law_1353 : decode cL_law 1353 = .ok (.iaload, 1) := oq_46 (byt chL_law_84 9 rfl)
theorem dL_law_1354 : decode cL_law 1354 = .ok (.aload_n 0, 1) := oq_42 (byt chL_law_84 10 rfl)
theorem dL_law_1355 : decode cL_law 1355 = .ok (.iload_n 3, 1) := oq_29 (byt chL_law_84 11 rfl)
theorem dL_law_1356 : decode cL_law 1356 = .ok (.iconst 5, 1) := oq_8 (byt chL_law_84 12 rfl)
theorem dL_law_1357 : decode cL_law 1357 = .ok (.iadd, 1) := oq_96 (byt chL_law_84 13 rfl)
theorem dL_law_1358 : decode cL_law 1358 = .ok (.iaload, 1) := oq_46 (byt chL_law_84 14 rfl)
theorem dL_law_1359 : decode cL_law 1359 = .ok (.invokevirtual 124, 3) := oq_182 (byt chL_law_84 15 rfl) (byt chL_law_85 0 rfl) (byt chL_law_85 1 rfl) rfl
theorem dL_law_1362 : decode cL_law 1362 = .ok (.pop, 1) := oq_87 (byt chL_law_85 2 rfl)
theorem dL_law_1363 : decode cL_law 1363 = .ok (.goto 227, 3) := oq_167 (byt chL_law_85 3 rfl) (byt chL_law_85 4 rfl) (byt chL_law_85 5 rfl) (by decide +kernel)
theorem dL_law_1366 : decode cL_law 1366 = .ok (.aload_n 1, 1) := oq_43 (byt chL_law_85 6 rfl)
theorem dL_law_1367 : decode cL_law 1367 = .ok (.aload_n 0, 1) := oq_42 (byt chL_law_85 7 rfl)
theorem dL_law_1368 : decode cL_law 1368 = .ok (.iload_n 3, 1) := oq_29 (byt chL_law_85 8 rfl)
theorem dL_law_1369 : decode cL_law 1369 = .ok (.iconst 1, 1) := oq_4 (byt chL_law_85 9 rfl)
theorem dL_law_1370 : decode cL_law 1370 = .ok (.iadd, 1) := oq_96 (byt chL_law_85 10 rfl)
theorem dL_law_1371 : decode cL_law 1371 = .ok (.iaload, 1) := oq_46 (byt chL_law_85 11 rfl)
theorem dL_law_1372 : decode cL_law 1372 = .ok (.aload_n 0, 1) := oq_42 (byt chL_law_85 12 rfl)
theorem dL_law_1373 : decode cL_law 1373 = .ok (.iload_n 3, 1) := oq_29 (byt chL_law_85 13 rfl)
theorem dL_law_1374 : decode cL_law 1374 = .ok (.iconst 2, 1) := oq_5 (byt chL_law_85 14 rfl)
theorem dL_law_1375 : decode cL_law 1375 = .ok (.iadd, 1) := oq_96 (byt chL_law_85 15 rfl)
theorem dL_law_1376 : decode cL_law 1376 = .ok (.iaload, 1) := oq_46 (byt chL_law_86 0 rfl)
theorem dL_law_1377 : decode cL_law 1377 = .ok (.aload_n 0, 1) := oq_42 (byt chL_law_86 1 rfl)
theorem dL_law_1378 : decode cL_law 1378 = .ok (.iload_n 3, 1) := oq_29 (byt chL_law_86 2 rfl)
theorem dL_law_1379 : decode cL_law 1379 = .ok (.iconst 3, 1) := oq_6 (byt chL_law_86 3 rfl)
theorem dL_law_1380 : decode cL_law 1380 = .ok (.iadd, 1) := oq_96 (byt chL_law_86 4 rfl)
theorem dL_law_1381 : decode cL_law 1381 = .ok (.iaload, 1) := oq_46 (byt chL_law_86 5 rfl)
theorem dL_law_1382 : decode cL_law 1382 = .ok (.aload_n 0, 1) := oq_42 (byt chL_law_86 6 rfl)
theorem dL_law_1383 : decode cL_law 1383 = .ok (.iload_n 3, 1) := oq_29 (byt chL_law_86 7 rfl)
theorem dL_law_1384 : decode cL_law 1384 = .ok (.iconst 4, 1) := oq_7 (byt chL_law_86 8 rfl)
theorem dL_law_1385 : decode cL_law 1385 = .ok (.iadd, 1) := oq_96 (byt chL_law_86 9 rfl)
theorem dL_law_1386 : decode cL_law 1386 = .ok (.iaload, 1) := oq_46 (byt chL_law_86 10 rfl)
theorem dL_law_1387 : decode cL_law 1387 = .ok (.aload_n 0, 1) := oq_42 (byt chL_law_86 11 rfl)
theorem dL_law_1388 : decode cL_law 1388 = .ok (.iload_n 3, 1) := oq_29 (byt chL_law_86 12 rfl)
theorem dL_law_1389 : decode cL_law 1389 = .ok (.iconst 5, 1) := oq_8 (byt chL_law_86 13 rfl)
theorem dL_law_1390 : decode cL_law 1390 = .ok (.iadd, 1) := oq_96 (byt chL_law_86 14 rfl)
theorem dL_law_1391 : decode cL_law 1391 = .ok (.iaload, 1) := oq_46 (byt chL_law_86 15 rfl)
theorem dL_law_1392 : decode cL_law 1392 = .ok (.invokevirtual 125, 3) := oq_182 (byt chL_law_87 0 rfl) (byt chL_law_87 1 rfl) (byt chL_law_87 2 rfl) rfl
theorem dL_law_1395 : decode cL_law 1395 = .ok (.pop, 1) := oq_87 (byt chL_law_87 3 rfl)
theorem dL_law_1396 : decode cL_law 1396 = .ok (.aload_n 2, 1) := oq_44 (byt chL_law_87 4 rfl)
theorem dL_law_1397 : decode cL_law 1397 = .ok (.aload_n 0, 1) := oq_42 (byt chL_law_87 5 rfl)
theorem dL_law_1398 : decode cL_law 1398 = .ok (.iload_n 3, 1) := oq_29 (byt chL_law_87 6 rfl)
theorem dL_law_1399 : decode cL_law 1399 = .ok (.iconst 1, 1) := oq_4 (byt chL_law_87 7 rfl)
theorem dL_law_1400 : decode cL_law 1400 = .ok (.iadd, 1) := oq_96 (byt chL_law_87 8 rfl)
theorem dL_law_1401 : decode cL_law 1401 = .ok (.iaload, 1) := oq_46 (byt chL_law_87 9 rfl)
theorem dL_law_1402 : decode cL_law 1402 = .ok (.aload_n 0, 1) := oq_42 (byt chL_law_87 10 rfl)
theorem dL_law_1403 : decode cL_law 1403 = .ok (.iload_n 3, 1) := oq_29 (byt chL_law_87 11 rfl)
theorem dL_law_1404 : decode cL_law 1404 = .ok (.iconst 2, 1) := oq_5 (byt chL_law_87 12 rfl)
theorem dL_law_1405 : decode cL_law 1405 = .ok (.iadd, 1) := oq_96 (byt chL_law_87 13 rfl)
theorem dL_law_1406 : decode cL_law 1406 = .ok (.iaload, 1) := oq_46 (byt chL_law_87 14 rfl)
theorem dL_law_1407 : decode cL_law 1407 = .ok (.aload_n 0, 1) := oq_42 (byt chL_law_87 15 rfl)
theorem dL_law_1408 : decode cL_law 1408 = .ok (.iload_n 3, 1) := oq_29 (byt chL_law_88 0 rfl)
theorem dL_law_1409 : decode cL_law 1409 = .ok (.iconst 3, 1) := oq_6 (byt chL_law_88 1 rfl)
theorem dL_law_1410 : decode cL_law 1410 = .ok (.iadd, 1) := oq_96 (byt chL_law_88 2 rfl)
theorem dL_law_1411 : decode cL_law 1411 = .ok (.iaload, 1) := oq_46 (byt chL_law_88 3 rfl)
theorem dL_law_1412 : decode cL_law 1412 = .ok (.aload_n 0, 1) := oq_42 (byt chL_law_88 4 rfl)
theorem dL_law_1413 : decode cL_law 1413 = .ok (.iload_n 3, 1) := oq_29 (byt chL_law_88 5 rfl)
theorem dL_law_1414 : decode cL_law 1414 = .ok (.iconst 4, 1) := oq_7 (byt chL_law_88 6 rfl)
theorem dL_law_1415 : decode cL_law 1415 = .ok (.iadd, 1) := oq_96 (byt chL_law_88 7 rfl)
theorem dL_law_1416 : decode cL_law 1416 = .ok (.iaload, 1) := oq_46 (byt chL_law_88 8 rfl)
theorem dL_law_1417 : decode cL_law 1417 = .ok (.aload_n 0, 1) := oq_42 (byt chL_law_88 9 rfl)
theorem dL_law_1418 : decode cL_law 1418 = .ok (.iload_n 3, 1) := oq_29 (byt chL_law_88 10 rfl)
theorem dL_law_1419 : decode cL_law 1419 = .ok (.iconst 5, 1) := oq_8 (byt chL_law_88 11 rfl)
theorem dL_law_1420 : decode cL_law 1420 = .ok (.iadd, 1) := oq_96 (byt chL_law_88 12 rfl)
theorem dL_law_1421 : decode cL_law 1421 = .ok (.iaload, 1) := oq_46 (byt chL_law_88 13 rfl)
theorem dL_law_1422 : decode cL_law 1422 = .ok (.invokevirtual 128, 3) := oq_182 (byt chL_law_88 14 rfl) (byt chL_law_88 15 rfl) (byt chL_law_89 0 rfl) rfl
theorem dL_law_1425 : decode cL_law 1425 = .ok (.pop, 1) := oq_87 (byt chL_law_89 1 rfl)
theorem dL_law_1426 : decode cL_law 1426 = .ok (.goto 164, 3) := oq_167 (byt chL_law_89 2 rfl) (byt chL_law_89 3 rfl) (byt chL_law_89 4 rfl) (by decide +kernel)
theorem dL_law_1429 : decode cL_law 1429 = .ok (.aload_n 1, 1) := oq_43 (byt chL_law_89 5 rfl)
theorem dL_law_1430 : decode cL_law 1430 = .ok (.aload_n 0, 1) := oq_42 (byt chL_law_89 6 rfl)
theorem dL_law_1431 : decode cL_law 1431 = .ok (.iload_n 3, 1) := oq_29 (byt chL_law_89 7 rfl)
theorem dL_law_1432 : decode cL_law 1432 = .ok (.iconst 1, 1) := oq_4 (byt chL_law_89 8 rfl)
theorem dL_law_1433 : decode cL_law 1433 = .ok (.iadd, 1) := oq_96 (byt chL_law_89 9 rfl)
theorem dL_law_1434 : decode cL_law 1434 = .ok (.iaload, 1) := oq_46 (byt chL_law_89 10 rfl)
theorem dL_law_1435 : decode cL_law 1435 = .ok (.aload_n 0, 1) := oq_42 (byt chL_law_89 11 rfl)
theorem dL_law_1436 : decode cL_law 1436 = .ok (.iload_n 3, 1) := oq_29 (byt chL_law_89 12 rfl)
theorem dL_law_1437 : decode cL_law 1437 = .ok (.iconst 2, 1) := oq_5 (byt chL_law_89 13 rfl)
theorem dL_law_1438 : decode cL_law 1438 = .ok (.iadd, 1) := oq_96 (byt chL_law_89 14 rfl)
theorem dL_law_1439 : decode cL_law 1439 = .ok (.iaload, 1) := oq_46 (byt chL_law_89 15 rfl)
theorem dL_law_1440 : decode cL_law 1440 = .ok (.aload_n 0, 1) := oq_42 (byt chL_law_90 0 rfl)
theorem dL_law_1441 : decode cL_law 1441 = .ok (.iload_n 3, 1) := oq_29 (byt chL_law_90 1 rfl)
theorem dL_law_1442 : decode cL_law 1442 = .ok (.iconst 3, 1) := oq_6 (byt chL_law_90 2 rfl)
theorem dL_law_1443 : decode cL_law 1443 = .ok (.iadd, 1) := oq_96 (byt chL_law_90 3 rfl)
theorem dL_law_1444 : decode cL_law 1444 = .ok (.iaload, 1) := oq_46 (byt chL_law_90 4 rfl)
theorem dL_law_1445 : decode cL_law 1445 = .ok (.ifCond .eq 7, 3) := oq_153 (byt chL_law_90 5 rfl) (byt chL_law_90 6 rfl) (byt chL_law_90 7 rfl) (by decide +kernel)
theorem dL_law_1448 : decode cL_law 1448 = .ok (.iconst 1, 1) := oq_4 (byt chL_law_90 8 rfl)
theorem dL_law_1449 : decode cL_law 1449 = .ok (.goto 4, 3) := oq_167 (byt chL_law_90 9 rfl) (byt chL_law_90 10 rfl) (byt chL_law_90 11 rfl) (by decide +kernel)
theorem dL_law_1452 : decode cL_law 1452 = .ok (.iconst 0, 1) := oq_3 (byt chL_law_90 12 rfl)
theorem dL_law_1453 : decode cL_law 1453 = .ok (.invokevirtual 129, 3) := oq_182 (byt chL_law_90 13 rfl) (byt chL_law_90 14 rfl) (byt chL_law_90 15 rfl) rfl
theorem dL_law_1456 : decode cL_law 1456 = .ok (.pop, 1) := oq_87 (byt chL_law_91 0 rfl)
theorem dL_law_1457 : decode cL_law 1457 = .ok (.aload_n 2, 1) := oq_44 (byt chL_law_91 1 rfl)
theorem dL_law_1458 : decode cL_law 1458 = .ok (.aload_n 0, 1) := oq_42 (byt chL_law_91 2 rfl)
theorem dL_law_1459 : decode cL_law 1459 = .ok (.iload_n 3, 1) := oq_29 (byt chL_law_91 3 rfl)
theorem dL_law_1460 : decode cL_law 1460 = .ok (.iconst 1, 1) := oq_4 (byt chL_law_91 4 rfl)
theorem dL_law_1461 : decode cL_law 1461 = .ok (.iadd, 1) := oq_96 (byt chL_law_91 5 rfl)
theorem dL_law_1462 : decode cL_law 1462 = .ok (.iaload, 1) := oq_46 (byt chL_law_91 6 rfl)
theorem dL_law_1463 : decode cL_law 1463 = .ok (.aload_n 0, 1) := oq_42 (byt chL_law_91 7 rfl)
theorem dL_law_1464 : decode cL_law 1464 = .ok (.iload_n 3, 1) := oq_29 (byt chL_law_91 8 rfl)
theorem dL_law_1465 : decode cL_law 1465 = .ok (.iconst 2, 1) := oq_5 (byt chL_law_91 9 rfl)
theorem dL_law_1466 : decode cL_law 1466 = .ok (.iadd, 1) := oq_96 (byt chL_law_91 10 rfl)
theorem dL_law_1467 : decode cL_law 1467 = .ok (.iaload, 1) := oq_46 (byt chL_law_91 11 rfl)
theorem dL_law_1468 : decode cL_law 1468 = .ok (.aload_n 0, 1) := oq_42 (byt chL_law_91 12 rfl)
theorem dL_law_1469 : decode cL_law 1469 = .ok (.iload_n 3, 1) := oq_29 (byt chL_law_91 13 rfl)
theorem dL_law_1470 : decode cL_law 1470 = .ok (.iconst 3, 1) := oq_6 (byt chL_law_91 14 rfl)
theorem dL_law_1471 : decode cL_law 1471 = .ok (.iadd, 1) := oq_96 (byt chL_law_91 15 rfl)
theorem dL_law_1472 : decode cL_law 1472 = .ok (.iaload, 1) := oq_46 (byt chL_law_92 0 rfl)
theorem dL_law_1473 : decode cL_law 1473 = .ok (.ifCond .eq 7, 3) := oq_153 (byt chL_law_92 1 rfl) (byt chL_law_92 2 rfl) (byt chL_law_92 3 rfl) (by decide +kernel)
theorem dL_law_1476 : decode cL_law 1476 = .ok (.iconst 1, 1) := oq_4 (byt chL_law_92 4 rfl)
theorem dL_law_1477 : decode cL_law 1477 = .ok (.goto 4, 3) := oq_167 (byt chL_law_92 5 rfl) (byt chL_law_92 6 rfl) (byt chL_law_92 7 rfl) (by decide +kernel)
theorem dL_law_1480 : decode cL_law 1480 = .ok (.iconst 0, 1) := oq_3 (byt chL_law_92 8 rfl)
theorem dL_law_1481 : decode cL_law 1481 = .ok (.invokevirtual 132, 3) := oq_182 (byt chL_law_92 9 rfl) (byt chL_law_92 10 rfl) (byt chL_law_92 11 rfl) rfl
theorem dL_law_1484 : decode cL_law 1484 = .ok (.pop, 1) := oq_87 (byt chL_law_92 12 rfl)
theorem dL_law_1485 : decode cL_law 1485 = .ok (.goto 105, 3) := oq_167 (byt chL_law_92 13 rfl) (byt chL_law_92 14 rfl) (byt chL_law_92 15 rfl) (by decide +kernel)
theorem dL_law_1488 : decode cL_law 1488 = .ok (.aload_n 1, 1) := oq_43 (byt chL_law_93 0 rfl)
theorem dL_law_1489 : decode cL_law 1489 = .ok (.aload_n 0, 1) := oq_42 (byt chL_law_93 1 rfl)
theorem dL_law_1490 : decode cL_law 1490 = .ok (.iload_n 3, 1) := oq_29 (byt chL_law_93 2 rfl)
theorem dL_law_1491 : decode cL_law 1491 = .ok (.iconst 1, 1) := oq_4 (byt chL_law_93 3 rfl)
theorem dL_law_1492 : decode cL_law 1492 = .ok (.iadd, 1) := oq_96 (byt chL_law_93 4 rfl)
theorem dL_law_1493 : decode cL_law 1493 = .ok (.iaload, 1) := oq_46 (byt chL_law_93 5 rfl)
theorem dL_law_1494 : decode cL_law 1494 = .ok (.aload_n 0, 1) := oq_42 (byt chL_law_93 6 rfl)
theorem dL_law_1495 : decode cL_law 1495 = .ok (.iload_n 3, 1) := oq_29 (byt chL_law_93 7 rfl)
theorem dL_law_1496 : decode cL_law 1496 = .ok (.iconst 2, 1) := oq_5 (byt chL_law_93 8 rfl)
theorem dL_law_1497 : decode cL_law 1497 = .ok (.iadd, 1) := oq_96 (byt chL_law_93 9 rfl)
theorem dL_law_1498 : decode cL_law 1498 = .ok (.iaload, 1) := oq_46 (byt chL_law_93 10 rfl)
theorem dL_law_1499 : decode cL_law 1499 = .ok (.invokevirtual 133, 3) := oq_182 (byt chL_law_93 11 rfl) (byt chL_law_93 12 rfl) (byt chL_law_93 13 rfl) rfl
theorem dL_law_1502 : decode cL_law 1502 = .ok (.pop, 1) := oq_87 (byt chL_law_93 14 rfl)
theorem dL_law_1503 : decode cL_law 1503 = .ok (.aload_n 2, 1) := oq_44 (byt chL_law_93 15 rfl)
theorem dL_law_1504 : decode cL_law 1504 = .ok (.aload_n 0, 1) := oq_42 (byt chL_law_94 0 rfl)
theorem dL_law_1505 : decode cL_law 1505 = .ok (.iload_n 3, 1) := oq_29 (byt chL_law_94 1 rfl)
theorem dL_law_1506 : decode cL_law 1506 = .ok (.iconst 1, 1) := oq_4 (byt chL_law_94 2 rfl)
theorem dL_law_1507 : decode cL_law 1507 = .ok (.iadd, 1) := oq_96 (byt chL_law_94 3 rfl)
theorem dL_law_1508 : decode cL_law 1508 = .ok (.iaload, 1) := oq_46 (byt chL_law_94 4 rfl)
theorem dL_law_1509 : decode cL_law 1509 = .ok (.aload_n 0, 1) := oq_42 (byt chL_law_94 5 rfl)
theorem dL_law_1510 : decode cL_law 1510 = .ok (.iload_n 3, 1) := oq_29 (byt chL_law_94 6 rfl)
theorem dL_law_1511 : decode cL_law 1511 = .ok (.iconst 2, 1) := oq_5 (byt chL_law_94 7 rfl)
theorem dL_law_1512 : decode cL_law 1512 = .ok (.iadd, 1) := oq_96 (byt chL_law_94 8 rfl)
theorem dL_law_1513 : decode cL_law 1513 = .ok (.iaload, 1) := oq_46 (byt chL_law_94 9 rfl)
theorem dL_law_1514 : decode cL_law 1514 = .ok (.invokevirtual 136, 3) := oq_182 (byt chL_law_94 10 rfl) (byt chL_law_94 11 rfl) (byt chL_law_94 12 rfl) rfl
theorem dL_law_1517 : decode cL_law 1517 = .ok (.pop, 1) := oq_87 (byt chL_law_94 13 rfl)
theorem dL_law_1518 : decode cL_law 1518 = .ok (.goto 72, 3) := oq_167 (byt chL_law_94 14 rfl) (byt chL_law_94 15 rfl) (byt chL_law_95 0 rfl) (by decide +kernel)
theorem dL_law_1521 : decode cL_law 1521 = .ok (.aload_n 1, 1) := oq_43 (byt chL_law_95 1 rfl)
theorem dL_law_1522 : decode cL_law 1522 = .ok (.aload_n 0, 1) := oq_42 (byt chL_law_95 2 rfl)
theorem dL_law_1523 : decode cL_law 1523 = .ok (.iload_n 3, 1) := oq_29 (byt chL_law_95 3 rfl)
theorem dL_law_1524 : decode cL_law 1524 = .ok (.iconst 1, 1) := oq_4 (byt chL_law_95 4 rfl)
theorem dL_law_1525 : decode cL_law 1525 = .ok (.iadd, 1) := oq_96 (byt chL_law_95 5 rfl)
theorem dL_law_1526 : decode cL_law 1526 = .ok (.iaload, 1) := oq_46 (byt chL_law_95 6 rfl)
theorem dL_law_1527 : decode cL_law 1527 = .ok (.invokevirtual 137, 3) := oq_182 (byt chL_law_95 7 rfl) (byt chL_law_95 8 rfl) (byt chL_law_95 9 rfl) rfl
theorem dL_law_1530 : decode cL_law 1530 = .ok (.pop, 1) := oq_87 (byt chL_law_95 10 rfl)
theorem dL_law_1531 : decode cL_law 1531 = .ok (.aload_n 2, 1) := oq_44 (byt chL_law_95 11 rfl)
theorem dL_law_1532 : decode cL_law 1532 = .ok (.aload_n 0, 1) := oq_42 (byt chL_law_95 12 rfl)
theorem dL_law_1533 : decode cL_law 1533 = .ok (.iload_n 3, 1) := oq_29 (byt chL_law_95 13 rfl)
theorem dL_law_1534 : decode cL_law 1534 = .ok (.iconst 1, 1) := oq_4 (byt chL_law_95 14 rfl)
theorem dL_law_1535 : decode cL_law 1535 = .ok (.iadd, 1) := oq_96 (byt chL_law_95 15 rfl)
theorem dL_law_1536 : decode cL_law 1536 = .ok (.iaload, 1) := oq_46 (byt chL_law_96 0 rfl)
theorem dL_law_1537 : decode cL_law 1537 = .ok (.invokevirtual 140, 3) := oq_182 (byt chL_law_96 1 rfl) (byt chL_law_96 2 rfl) (byt chL_law_96 3 rfl) rfl
theorem dL_law_1540 : decode cL_law 1540 = .ok (.pop, 1) := oq_87 (byt chL_law_96 4 rfl)
theorem dL_law_1541 : decode cL_law 1541 = .ok (.goto 49, 3) := oq_167 (byt chL_law_96 5 rfl) (byt chL_law_96 6 rfl) (byt chL_law_96 7 rfl) (by decide +kernel)
theorem dL_law_1544 : decode cL_law 1544 = .ok (.aload_n 1, 1) := oq_43 (byt chL_law_96 8 rfl)
theorem dL_law_1545 : decode cL_law 1545 = .ok (.aload_n 0, 1) := oq_42 (byt chL_law_96 9 rfl)
theorem dL_law_1546 : decode cL_law 1546 = .ok (.iload_n 3, 1) := oq_29 (byt chL_law_96 10 rfl)
theorem dL_law_1547 : decode cL_law 1547 = .ok (.iconst 1, 1) := oq_4 (byt chL_law_96 11 rfl)
theorem dL_law_1548 : decode cL_law 1548 = .ok (.iadd, 1) := oq_96 (byt chL_law_96 12 rfl)
theorem dL_law_1549 : decode cL_law 1549 = .ok (.iaload, 1) := oq_46 (byt chL_law_96 13 rfl)
theorem dL_law_1550 : decode cL_law 1550 = .ok (.invokevirtual 141, 3) := oq_182 (byt chL_law_96 14 rfl) (byt chL_law_96 15 rfl) (byt chL_law_97 0 rfl) rfl
theorem dL_law_1553 : decode cL_law 1553 = .ok (.pop, 1) := oq_87 (byt chL_law_97 1 rfl)
theorem dL_law_1554 : decode cL_law 1554 = .ok (.aload_n 2, 1) := oq_44 (byt chL_law_97 2 rfl)
theorem dL_law_1555 : decode cL_law 1555 = .ok (.aload_n 0, 1) := oq_42 (byt chL_law_97 3 rfl)
theorem dL_law_1556 : decode cL_law 1556 = .ok (.iload_n 3, 1) := oq_29 (byt chL_law_97 4 rfl)
theorem dL_law_1557 : decode cL_law 1557 = .ok (.iconst 1, 1) := oq_4 (byt chL_law_97 5 rfl)
theorem dL_law_1558 : decode cL_law 1558 = .ok (.iadd, 1) := oq_96 (byt chL_law_97 6 rfl)
theorem dL_law_1559 : decode cL_law 1559 = .ok (.iaload, 1) := oq_46 (byt chL_law_97 7 rfl)
theorem dL_law_1560 : decode cL_law 1560 = .ok (.invokevirtual 145, 3) := oq_182 (byt chL_law_97 8 rfl) (byt chL_law_97 9 rfl) (byt chL_law_97 10 rfl) rfl
theorem dL_law_1563 : decode cL_law 1563 = .ok (.pop, 1) := oq_87 (byt chL_law_97 11 rfl)
theorem dL_law_1564 : decode cL_law 1564 = .ok (.goto 26, 3) := oq_167 (byt chL_law_97 12 rfl) (byt chL_law_97 13 rfl) (byt chL_law_97 14 rfl) (by decide +kernel)
theorem dL_law_1567 : decode cL_law 1567 = .ok (.aload_n 1, 1) := oq_43 (byt chL_law_97 15 rfl)
theorem dL_law_1568 : decode cL_law 1568 = .ok (.aload_n 0, 1) := oq_42 (byt chL_law_98 0 rfl)
theorem dL_law_1569 : decode cL_law 1569 = .ok (.iload_n 3, 1) := oq_29 (byt chL_law_98 1 rfl)
theorem dL_law_1570 : decode cL_law 1570 = .ok (.iconst 1, 1) := oq_4 (byt chL_law_98 2 rfl)
theorem dL_law_1571 : decode cL_law 1571 = .ok (.iadd, 1) := oq_96 (byt chL_law_98 3 rfl)
theorem dL_law_1572 : decode cL_law 1572 = .ok (.iaload, 1) := oq_46 (byt chL_law_98 4 rfl)
theorem dL_law_1573 : decode cL_law 1573 = .ok (.invokevirtual 146, 3) := oq_182 (byt chL_law_98 5 rfl) (byt chL_law_98 6 rfl) (byt chL_law_98 7 rfl) rfl
theorem dL_law_1576 : decode cL_law 1576 = .ok (.pop, 1) := oq_87 (byt chL_law_98 8 rfl)
theorem dL_law_1577 : decode cL_law 1577 = .ok (.aload_n 2, 1) := oq_44 (byt chL_law_98 9 rfl)
theorem dL_law_1578 : decode cL_law 1578 = .ok (.aload_n 0, 1) := oq_42 (byt chL_law_98 10 rfl)
theorem dL_law_1579 : decode cL_law 1579 = .ok (.iload_n 3, 1) := oq_29 (byt chL_law_98 11 rfl)
theorem dL_law_1580 : decode cL_law 1580 = .ok (.iconst 1, 1) := oq_4 (byt chL_law_98 12 rfl)
theorem dL_law_1581 : decode cL_law 1581 = .ok (.iadd, 1) := oq_96 (byt chL_law_98 13 rfl)
theorem dL_law_1582 : decode cL_law 1582 = .ok (.iaload, 1) := oq_46 (byt chL_law_98 14 rfl)
theorem dL_law_1583 : decode cL_law 1583 = .ok (.invokevirtual 149, 3) := oq_182 (byt chL_law_98 15 rfl) (byt chL_law_99 0 rfl) (byt chL_law_99 1 rfl) rfl
theorem dL_law_1586 : decode cL_law 1586 = .ok (.pop, 1) := oq_87 (byt chL_law_99 2 rfl)
theorem dL_law_1587 : decode cL_law 1587 = .ok (.goto 3, 3) := oq_167 (byt chL_law_99 3 rfl) (byt chL_law_99 4 rfl) (byt chL_law_99 5 rfl) (by decide +kernel)
theorem dL_law_1590 : decode cL_law 1590 = .ok (.iinc 3 8, 3) := oq_132 (byt chL_law_99 6 rfl) (byt chL_law_99 7 rfl) (byt chL_law_99 8 rfl) rfl
theorem dL_law_1593 : decode cL_law 1593 = .ok (.goto (-1575), 3) := oq_167 (byt chL_law_99 9 rfl) (byt chL_law_99 10 rfl) (byt chL_law_99 11 rfl) (by decide +kernel)
theorem dL_law_1596 : decode cL_law 1596 = .ok (.iconst 1, 1) := oq_4 (byt chL_law_99 12 rfl)
theorem dL_law_1597 : decode cL_law 1597 = .ok (.ireturn, 1) := oq_172 (byt chL_law_99 13 rfl)
def scrE (L : Int) (xs : Int → Int) : GG → Nat → State → Prop := fun G b s => va_T .int (G.2.2.2.1 50) L.toNat (fun j => .int (Int32.ofInt (xs j))) (AA b) s s.heap
abbrev mL (L : Int) (xs : Int → Int) : MI := (x, code, 4, ret, scrE L xs)
section RulesLaw
variable {ρ : Type} {d b0 b1 bc bs pc : Nat} {ls ls' : List (Option PV)} {st : List PV} {M : Mem} {dec : ρ → Option PV × Mem} {X A B : Option ρ} {L : Int} {xs : Int → Int}
theorem v_sld {i : Int} (hxs : ∀ j, r32 (xs j)) (h : 0 ≤ i ∧ i < L) (hd : decode code pc = .ok (.iaload, 1)) (kk : V (mL L xs) d b0 b1 bc bs (pc + 1) ls (pI (xs i) :: st) M dec X) : V (mL L xs) d b0 b1 bc bs pc ls (pI i :: pA (-52) :: st) M dec X :=
  v_step kk (fun hM hL hS => ⟨hM, hL, okS_cons.mpr ⟨hxs i, (okS_cons.mp (okS_cons.mp hS).2).2⟩⟩) (fun hM hL hS G b p l e s m args below meth c Q Cc H locs cells slots lsA D w => by
    have hi := (okS_cons.mp hS).1
    have w2 := w H locs cells slots lsA D
    simp only [List.map_cons, eV] at w2 ⊢
    rw [eR_k 50 (by decide)]
    exact va_ti Cc.1 Cc.2.1 Cc.2.2.2.2.2.2.2.2.2.2 D.2.2.1 (q_vp hi h.1 (by omega)) (by rw [q_clamp hi h.1, toNat_c h.1]) hd w2)
theorem v_slenL (h : 0 ≤ L ∧ L ≤ 4096) (hd : decode code pc = .ok (.arraylength, 1)) (kk : V (mL L xs) d b0 b1 bc bs (pc + 1) ls (pI L :: st) M dec X) : V (mL L xs) d b0 b1 bc bs pc ls (pA (-52) :: st) M dec X :=
  v_step kk (fun hM hL hS => ⟨hM, hL, okS_cons.mpr ⟨(show r32 L by unfold r32; omega), (okS_cons.mp hS).2⟩⟩) (fun hM hL hS G b p l e s m args below meth c Q Cc H locs cells slots lsA D w => by
    have w2 := w H locs cells slots lsA D
    simp only [List.map_cons, eV] at w2 ⊢
    rw [eR_k 50 (by decide)]
    refine va_tlen Cc.1 Cc.2.1 Cc.2.2.2.2.2.2.2.2.2.2 D.2.2.1 (v := Int32.ofInt L) ?_ hd w2
    apply Int32.toInt_inj.mp
    rw [Int32.toInt_ofNat_of_lt (by omega), q_in (by unfold r32; omega)]
    omega)
end RulesLaw
def fL_law (L : Int) (xs : Int → Int) (M : Mem) : Option (Int × Mem) :=
  bM (mnew M 9 6) fun M1 => if (0 : Int) ≤ (M.2.2.2 : Int) then (fX10_init M1 (M.2.2.2 : Int)).bind fun r4 => bM (mnew r4 10 51) fun M7 => if (0 : Int) ≤ (r4.2.2.2 : Int) then (fX11_init M7 (r4.2.2.2 : Int)).bind fun r10 => iterC (fun (rec13 : (Int × Mem) → Option (Int × Mem)) (s14 : Int × Mem) => if w32 (L - 8) < s14.1 then (some (1, s14.2)) else (if (0 : Int) ≤ s14.1 ∧ s14.1 < L then if bAnd (xs s14.1) 31 = 0 then (if (0 : Int) ≤ (w32 (s14.1 + 1)) ∧ (w32 (s14.1 + 1)) < L then if (0 : Int) ≤ (w32 (s14.1 + 2)) ∧ (w32 (s14.1 + 2)) < L then if (0 : Int) ≤ (w32 (s14.1 + 3)) ∧ (w32 (s14.1 + 3)) < L then if (0 : Int) ≤ (w32 (s14.1 + 4)) ∧ (w32 (s14.1 + 4)) < L then if (0 : Int) ≤ (w32 (s14.1 + 5)) ∧ (w32 (s14.1 + 5)) < L then if s14.2.2.1 (M.2.2.2 : Int) = 9 then (fX10_feed s14.2 (M.2.2.2 : Int) (xs (w32 (s14.1 + 1))) (xs (w32 (s14.1 + 2))) (xs (w32 (s14.1 + 3))) (xs (w32 (s14.1 + 4))) (xs (w32 (s14.1 + 5)))).bind fun r23 => if (0 : Int) ≤ (w32 (s14.1 + 1)) ∧ (w32 (s14.1 + 1)) < L then if (0 : Int) ≤ (w32 (s14.1 + 2)) ∧ (w32 (s14.1 + 2)) < L then if (0 : Int) ≤ (w32 (s14.1 + 3)) ∧ (w32 (s14.1 + 3)) < L then if (0 : Int) ≤ (w32 (s14.1 + 4)) ∧ (w32 (s14.1 + 4)) < L then if (0 : Int) ≤ (w32 (s14.1 + 5)) ∧ (w32 (s14.1 + 5)) < L then if r23.2.2.1 (r4.2.2.2 : Int) = 10 then (fX11_feed r23.2 (r4.2.2.2 : Int) (xs (w32 (s14.1 + 1))) (xs (w32 (s14.1 + 2))) (xs (w32 (s14.1 + 3))) (xs (w32 (s14.1 + 4))) (xs (w32 (s14.1 + 5)))).bind fun r31 => rec13 (w32 (s14.1 + 8), r31.2) else none else none else none else none else none else none else none else none else none else none else none else none) else if bAnd (xs s14.1) 31 = 1 then (if (0 : Int) ≤ (w32 (s14.1 + 1)) ∧ (w32 (s14.1 + 1)) < L then if s14.2.2.1 (M.2.2.2 : Int) = 9 then (fX10_end s14.2 (M.2.2.2 : Int) (xs (w32 (s14.1 + 1)))).bind fun r36 => if (0 : Int) ≤ (w32 (s14.1 + 1)) ∧ (w32 (s14.1 + 1)) < L then if r36.2.2.1 (r4.2.2.2 : Int) = 10 then (fX11_end r36.2 (r4.2.2.2 : Int) (xs (w32 (s14.1 + 1)))).bind fun r40 => rec13 (w32 (s14.1 + 8), r40.2) else none else none else none else none) else if bAnd (xs s14.1) 31 = 2 then (if (0 : Int) ≤ (w32 (s14.1 + 1)) ∧ (w32 (s14.1 + 1)) < L then if (0 : Int) ≤ (w32 (s14.1 + 2)) ∧ (w32 (s14.1 + 2)) < L then if s14.2.2.1 (M.2.2.2 : Int) = 9 then (fX10_text s14.2 (M.2.2.2 : Int) (xs (w32 (s14.1 + 1))) (xs (w32 (s14.1 + 2)))).bind fun r46 => if (0 : Int) ≤ (w32 (s14.1 + 1)) ∧ (w32 (s14.1 + 1)) < L then if (0 : Int) ≤ (w32 (s14.1 + 2)) ∧ (w32 (s14.1 + 2)) < L then if r46.2.2.1 (r4.2.2.2 : Int) = 10 then (fX11_text r46.2 (r4.2.2.2 : Int) (xs (w32 (s14.1 + 1))) (xs (w32 (s14.1 + 2)))).bind fun r51 => rec13 (w32 (s14.1 + 8), r51.2) else none else none else none else none else none else none) else if bAnd (xs s14.1) 31 = 3 then (if (0 : Int) ≤ (w32 (s14.1 + 1)) ∧ (w32 (s14.1 + 1)) < L then if s14.2.2.1 (M.2.2.2 : Int) = 9 then (fX10_fault s14.2 (M.2.2.2 : Int) (xs (w32 (s14.1 + 1)))).bind fun r56 => if (0 : Int) ≤ (w32 (s14.1 + 1)) ∧ (w32 (s14.1 + 1)) < L then if s14.2.2.1 (r4.2.2.2 : Int) = 10 then (fX11_fault s14.2 (r4.2.2.2 : Int) (xs (w32 (s14.1 + 1)))).bind fun r60 => rec13 (w32 (s14.1 + 8), r60.2) else none else none else none else none) else if bAnd (xs s14.1) 31 = 4 then (if (0 : Int) ≤ (w32 (s14.1 + 1)) ∧ (w32 (s14.1 + 1)) < L then if (0 : Int) ≤ (w32 (s14.1 + 2)) ∧ (w32 (s14.1 + 2)) < L then if s14.2.2.1 (M.2.2.2 : Int) = 9 then (fX10_town s14.2 (M.2.2.2 : Int) (xs (w32 (s14.1 + 1))) (xs (w32 (s14.1 + 2)))).bind fun r66 => if (0 : Int) ≤ (w32 (s14.1 + 1)) ∧ (w32 (s14.1 + 1)) < L then if (0 : Int) ≤ (w32 (s14.1 + 2)) ∧ (w32 (s14.1 + 2)) < L then if s14.2.2.1 (r4.2.2.2 : Int) = 10 then (fX11_town s14.2 (r4.2.2.2 : Int) (xs (w32 (s14.1 + 1))) (xs (w32 (s14.1 + 2)))).bind fun r71 => rec13 (w32 (s14.1 + 8), r71.2) else none else none else none else none else none else none) else if bAnd (xs s14.1) 31 = 5 then (if (0 : Int) ≤ (w32 (s14.1 + 1)) ∧ (w32 (s14.1 + 1)) < L then if (0 : Int) ≤ (w32 (s14.1 + 2)) ∧ (w32 (s14.1 + 2)) < L then if (0 : Int) ≤ (w32 (s14.1 + 3)) ∧ (w32 (s14.1 + 3)) < L then if (0 : Int) ≤ (w32 (s14.1 + 4)) ∧ (w32 (s14.1 + 4)) < L then if s14.2.2.1 (M.2.2.2 : Int) = 9 then (fX10_house s14.2 (M.2.2.2 : Int) (xs (w32 (s14.1 + 1))) (xs (w32 (s14.1 + 2))) (xs (w32 (s14.1 + 3))) (xs (w32 (s14.1 + 4)))).bind fun r79 => if (0 : Int) ≤ (w32 (s14.1 + 1)) ∧ (w32 (s14.1 + 1)) < L then if (0 : Int) ≤ (w32 (s14.1 + 2)) ∧ (w32 (s14.1 + 2)) < L then if (0 : Int) ≤ (w32 (s14.1 + 3)) ∧ (w32 (s14.1 + 3)) < L then if (0 : Int) ≤ (w32 (s14.1 + 4)) ∧ (w32 (s14.1 + 4)) < L then if s14.2.2.1 (r4.2.2.2 : Int) = 10 then (fX11_house s14.2 (r4.2.2.2 : Int) (xs (w32 (s14.1 + 1))) (xs (w32 (s14.1 + 2))) (xs (w32 (s14.1 + 3))) (xs (w32 (s14.1 + 4)))).bind fun r86 => rec13 (w32 (s14.1 + 8), r86.2) else none else none else none else none else none else none else none else none else none else none) else if bAnd (xs s14.1) 31 = 6 then (if (0 : Int) ≤ (w32 (s14.1 + 1)) ∧ (w32 (s14.1 + 1)) < L then if (0 : Int) ≤ (w32 (s14.1 + 2)) ∧ (w32 (s14.1 + 2)) < L then if s14.2.2.1 (M.2.2.2 : Int) = 9 then (fX10_law s14.2 (M.2.2.2 : Int) (xs (w32 (s14.1 + 1))) (xs (w32 (s14.1 + 2)))).bind fun r92 => if (0 : Int) ≤ (w32 (s14.1 + 1)) ∧ (w32 (s14.1 + 1)) < L then if (0 : Int) ≤ (w32 (s14.1 + 2)) ∧ (w32 (s14.1 + 2)) < L then if s14.2.2.1 (r4.2.2.2 : Int) = 10 then (fX11_law s14.2 (r4.2.2.2 : Int) (xs (w32 (s14.1 + 1))) (xs (w32 (s14.1 + 2)))).bind fun r97 => rec13 (w32 (s14.1 + 8), r97.2) else none else none else none else none else none else none) else if bAnd (xs s14.1) 31 = 7 then (if (0 : Int) ≤ (w32 (s14.1 + 1)) ∧ (w32 (s14.1 + 1)) < L then if (0 : Int) ≤ (w32 (s14.1 + 2)) ∧ (w32 (s14.1 + 2)) < L then if (0 : Int) ≤ (w32 (s14.1 + 3)) ∧ (w32 (s14.1 + 3)) < L then if s14.2.2.1 (M.2.2.2 : Int) = 9 then (fX10_deed s14.2 (M.2.2.2 : Int) (xs (w32 (s14.1 + 1))) (xs (w32 (s14.1 + 2))) (xs (w32 (s14.1 + 3)))).bind fun r104 => if (0 : Int) ≤ (w32 (s14.1 + 1)) ∧ (w32 (s14.1 + 1)) < L then if (0 : Int) ≤ (w32 (s14.1 + 2)) ∧ (w32 (s14.1 + 2)) < L then if (0 : Int) ≤ (w32 (s14.1 + 3)) ∧ (w32 (s14.1 + 3)) < L then if s14.2.2.1 (r4.2.2.2 : Int) = 10 then (fX11_deed s14.2 (r4.2.2.2 : Int) (xs (w32 (s14.1 + 1))) (xs (w32 (s14.1 + 2))) (xs (w32 (s14.1 + 3)))).bind fun r110 => rec13 (w32 (s14.1 + 8), r110.2) else none else none else none else none else none else none else none else none) else if bAnd (xs s14.1) 31 = 8 then (if (0 : Int) ≤ (w32 (s14.1 + 1)) ∧ (w32 (s14.1 + 1)) < L then if (0 : Int) ≤ (w32 (s14.1 + 2)) ∧ (w32 (s14.1 + 2)) < L then if (0 : Int) ≤ (w32 (s14.1 + 3)) ∧ (w32 (s14.1 + 3)) < L then if s14.2.2.1 (M.2.2.2 : Int) = 9 then (fX10_stop s14.2 (M.2.2.2 : Int) (xs (w32 (s14.1 + 1))) (xs (w32 (s14.1 + 2))) (xs (w32 (s14.1 + 3)))).bind fun r117 => if (0 : Int) ≤ (w32 (s14.1 + 1)) ∧ (w32 (s14.1 + 1)) < L then if (0 : Int) ≤ (w32 (s14.1 + 2)) ∧ (w32 (s14.1 + 2)) < L then if (0 : Int) ≤ (w32 (s14.1 + 3)) ∧ (w32 (s14.1 + 3)) < L then if r117.2.2.1 (r4.2.2.2 : Int) = 10 then (fX11_stop r117.2 (r4.2.2.2 : Int) (xs (w32 (s14.1 + 1))) (xs (w32 (s14.1 + 2))) (xs (w32 (s14.1 + 3)))).bind fun r123 => rec13 (w32 (s14.1 + 8), r123.2) else none else none else none else none else none else none else none else none) else if bAnd (xs s14.1) 31 = 9 then (if (0 : Int) ≤ (w32 (s14.1 + 1)) ∧ (w32 (s14.1 + 1)) < L then if (0 : Int) ≤ (w32 (s14.1 + 2)) ∧ (w32 (s14.1 + 2)) < L then if (0 : Int) ≤ (w32 (s14.1 + 3)) ∧ (w32 (s14.1 + 3)) < L then if (0 : Int) ≤ (w32 (s14.1 + 4)) ∧ (w32 (s14.1 + 4)) < L then if (0 : Int) ≤ (w32 (s14.1 + 5)) ∧ (w32 (s14.1 + 5)) < L then if s14.2.2.1 (M.2.2.2 : Int) = 9 then (fX10_state s14.2 (M.2.2.2 : Int) (xs (w32 (s14.1 + 1))) (xs (w32 (s14.1 + 2))) (xs (w32 (s14.1 + 3))) (xs (w32 (s14.1 + 4))) (xs (w32 (s14.1 + 5)))).bind fun r132 => if (0 : Int) ≤ (w32 (s14.1 + 1)) ∧ (w32 (s14.1 + 1)) < L then if (0 : Int) ≤ (w32 (s14.1 + 2)) ∧ (w32 (s14.1 + 2)) < L then if (0 : Int) ≤ (w32 (s14.1 + 3)) ∧ (w32 (s14.1 + 3)) < L then if (0 : Int) ≤ (w32 (s14.1 + 4)) ∧ (w32 (s14.1 + 4)) < L then if (0 : Int) ≤ (w32 (s14.1 + 5)) ∧ (w32 (s14.1 + 5)) < L then if r132.2.2.1 (r4.2.2.2 : Int) = 10 then (fX11_state r132.2 (r4.2.2.2 : Int) (xs (w32 (s14.1 + 1))) (xs (w32 (s14.1 + 2))) (xs (w32 (s14.1 + 3))) (xs (w32 (s14.1 + 4))) (xs (w32 (s14.1 + 5)))).bind fun r140 => rec13 (w32 (s14.1 + 8), r140.2) else none else none else none else none else none else none else none else none else none else none else none else none) else if bAnd (xs s14.1) 31 = 10 then (if (0 : Int) ≤ (w32 (s14.1 + 1)) ∧ (w32 (s14.1 + 1)) < L then if (0 : Int) ≤ (w32 (s14.1 + 2)) ∧ (w32 (s14.1 + 2)) < L then if (0 : Int) ≤ (w32 (s14.1 + 3)) ∧ (w32 (s14.1 + 3)) < L then if (0 : Int) ≤ (w32 (s14.1 + 4)) ∧ (w32 (s14.1 + 4)) < L then if (0 : Int) ≤ (w32 (s14.1 + 5)) ∧ (w32 (s14.1 + 5)) < L then if (0 : Int) ≤ (w32 (s14.1 + 6)) ∧ (w32 (s14.1 + 6)) < L then if (0 : Int) ≤ (w32 (s14.1 + 7)) ∧ (w32 (s14.1 + 7)) < L then if s14.2.2.1 (M.2.2.2 : Int) = 9 then (fX10_goods s14.2 (M.2.2.2 : Int) (xs (w32 (s14.1 + 1))) (xs (w32 (s14.1 + 2))) (xs (w32 (s14.1 + 3))) (xs (w32 (s14.1 + 4))) (xs (w32 (s14.1 + 5))) (xs (w32 (s14.1 + 6))) (xs (w32 (s14.1 + 7)))).bind fun r151 => if (0 : Int) ≤ (w32 (s14.1 + 1)) ∧ (w32 (s14.1 + 1)) < L then if (0 : Int) ≤ (w32 (s14.1 + 2)) ∧ (w32 (s14.1 + 2)) < L then if (0 : Int) ≤ (w32 (s14.1 + 3)) ∧ (w32 (s14.1 + 3)) < L then if (0 : Int) ≤ (w32 (s14.1 + 4)) ∧ (w32 (s14.1 + 4)) < L then if (0 : Int) ≤ (w32 (s14.1 + 5)) ∧ (w32 (s14.1 + 5)) < L then if (0 : Int) ≤ (w32 (s14.1 + 6)) ∧ (w32 (s14.1 + 6)) < L then if (0 : Int) ≤ (w32 (s14.1 + 7)) ∧ (w32 (s14.1 + 7)) < L then if r151.2.2.1 (r4.2.2.2 : Int) = 10 then (fX11_goods r151.2 (r4.2.2.2 : Int) (xs (w32 (s14.1 + 1))) (xs (w32 (s14.1 + 2))) (xs (w32 (s14.1 + 3))) (xs (w32 (s14.1 + 4))) (xs (w32 (s14.1 + 5))) (xs (w32 (s14.1 + 6))) (xs (w32 (s14.1 + 7)))).bind fun r161 => rec13 (w32 (s14.1 + 8), r161.2) else none else none else none else none else none else none else none else none else none else none else none else none else none else none else none else none) else if bAnd (xs s14.1) 31 = 11 then (if (0 : Int) ≤ (w32 (s14.1 + 1)) ∧ (w32 (s14.1 + 1)) < L then if (0 : Int) ≤ (w32 (s14.1 + 2)) ∧ (w32 (s14.1 + 2)) < L then if s14.2.2.1 (M.2.2.2 : Int) = 9 then (fX10_aid s14.2 (M.2.2.2 : Int) (xs (w32 (s14.1 + 1))) (xs (w32 (s14.1 + 2)))).bind fun r167 => if (0 : Int) ≤ (w32 (s14.1 + 1)) ∧ (w32 (s14.1 + 1)) < L then if (0 : Int) ≤ (w32 (s14.1 + 2)) ∧ (w32 (s14.1 + 2)) < L then if s14.2.2.1 (r4.2.2.2 : Int) = 10 then (fX11_aid s14.2 (r4.2.2.2 : Int) (xs (w32 (s14.1 + 1))) (xs (w32 (s14.1 + 2)))).bind fun r172 => rec13 (w32 (s14.1 + 8), r172.2) else none else none else none else none else none else none) else if bAnd (xs s14.1) 31 = 12 then (if (0 : Int) ≤ (w32 (s14.1 + 1)) ∧ (w32 (s14.1 + 1)) < L then if s14.2.2.1 (M.2.2.2 : Int) = 9 then (fX10_carry s14.2 (M.2.2.2 : Int) (xs (w32 (s14.1 + 1)))).bind fun r177 => if (0 : Int) ≤ (w32 (s14.1 + 1)) ∧ (w32 (s14.1 + 1)) < L then if r177.2.2.1 (r4.2.2.2 : Int) = 10 then (fX11_carry r177.2 (r4.2.2.2 : Int) (xs (w32 (s14.1 + 1)))).bind fun r181 => rec13 (w32 (s14.1 + 8), r181.2) else none else none else none else none) else if bAnd (xs s14.1) 31 = 13 then (if (0 : Int) ≤ (w32 (s14.1 + 1)) ∧ (w32 (s14.1 + 1)) < L then if (0 : Int) ≤ (w32 (s14.1 + 2)) ∧ (w32 (s14.1 + 2)) < L then if s14.2.2.1 (M.2.2.2 : Int) = 9 then (fX10_round s14.2 (M.2.2.2 : Int) (xs (w32 (s14.1 + 1))) (xs (w32 (s14.1 + 2)))).bind fun r187 => if (0 : Int) ≤ (w32 (s14.1 + 1)) ∧ (w32 (s14.1 + 1)) < L then if (0 : Int) ≤ (w32 (s14.1 + 2)) ∧ (w32 (s14.1 + 2)) < L then if s14.2.2.1 (r4.2.2.2 : Int) = 10 then (fX11_round s14.2 (r4.2.2.2 : Int) (xs (w32 (s14.1 + 1))) (xs (w32 (s14.1 + 2)))).bind fun r192 => if r187 = r192.1 then (rec13 (w32 (s14.1 + 8), r192.2)) else (some (0, r192.2)) else none else none else none else none else none else none) else if bAnd (xs s14.1) 31 = 14 then (if (0 : Int) ≤ (w32 (s14.1 + 1)) ∧ (w32 (s14.1 + 1)) < L then if (0 : Int) ≤ (w32 (s14.1 + 2)) ∧ (w32 (s14.1 + 2)) < L then if (0 : Int) ≤ (w32 (s14.1 + 3)) ∧ (w32 (s14.1 + 3)) < L then if s14.2.2.1 (M.2.2.2 : Int) = 9 then (fX10_meets s14.2 (M.2.2.2 : Int) (xs (w32 (s14.1 + 1))) (xs (w32 (s14.1 + 2))) (xs (w32 (s14.1 + 3)))).bind fun r200 => if (0 : Int) ≤ (w32 (s14.1 + 1)) ∧ (w32 (s14.1 + 1)) < L then if (0 : Int) ≤ (w32 (s14.1 + 2)) ∧ (w32 (s14.1 + 2)) < L then if (0 : Int) ≤ (w32 (s14.1 + 3)) ∧ (w32 (s14.1 + 3)) < L then if s14.2.2.1 (r4.2.2.2 : Int) = 10 then (fX11_meets s14.2 (r4.2.2.2 : Int) (xs (w32 (s14.1 + 1))) (xs (w32 (s14.1 + 2))) (xs (w32 (s14.1 + 3)))).bind fun r206 => rec13 (w32 (s14.1 + 8), r206.2) else none else none else none else none else none else none else none else none) else if bAnd (xs s14.1) 31 = 15 then (if (0 : Int) ≤ (w32 (s14.1 + 1)) ∧ (w32 (s14.1 + 1)) < L then if (0 : Int) ≤ (w32 (s14.1 + 2)) ∧ (w32 (s14.1 + 2)) < L then if s14.2.2.1 (M.2.2.2 : Int) = 9 then (fX10_sight s14.2 (M.2.2.2 : Int) (xs (w32 (s14.1 + 1))) (xs (w32 (s14.1 + 2)))).bind fun r212 => if (0 : Int) ≤ (w32 (s14.1 + 1)) ∧ (w32 (s14.1 + 1)) < L then if (0 : Int) ≤ (w32 (s14.1 + 2)) ∧ (w32 (s14.1 + 2)) < L then if s14.2.2.1 (r4.2.2.2 : Int) = 10 then (fX11_sight s14.2 (r4.2.2.2 : Int) (xs (w32 (s14.1 + 1))) (xs (w32 (s14.1 + 2)))).bind fun r217 => rec13 (w32 (s14.1 + 8), r217.2) else none else none else none else none else none else none) else if bAnd (xs s14.1) 31 = 16 then (if (0 : Int) ≤ (w32 (s14.1 + 1)) ∧ (w32 (s14.1 + 1)) < L then if (0 : Int) ≤ (w32 (s14.1 + 2)) ∧ (w32 (s14.1 + 2)) < L then if (0 : Int) ≤ (w32 (s14.1 + 3)) ∧ (w32 (s14.1 + 3)) < L then if (0 : Int) ≤ (w32 (s14.1 + 4)) ∧ (w32 (s14.1 + 4)) < L then if (0 : Int) ≤ (w32 (s14.1 + 5)) ∧ (w32 (s14.1 + 5)) < L then if s14.2.2.1 (M.2.2.2 : Int) = 9 then (fX10_hands s14.2 (M.2.2.2 : Int) (xs (w32 (s14.1 + 1))) (xs (w32 (s14.1 + 2))) (xs (w32 (s14.1 + 3))) (xs (w32 (s14.1 + 4))) (xs (w32 (s14.1 + 5)))).bind fun r226 => if (0 : Int) ≤ (w32 (s14.1 + 1)) ∧ (w32 (s14.1 + 1)) < L then if (0 : Int) ≤ (w32 (s14.1 + 2)) ∧ (w32 (s14.1 + 2)) < L then if (0 : Int) ≤ (w32 (s14.1 + 3)) ∧ (w32 (s14.1 + 3)) < L then if (0 : Int) ≤ (w32 (s14.1 + 4)) ∧ (w32 (s14.1 + 4)) < L then if (0 : Int) ≤ (w32 (s14.1 + 5)) ∧ (w32 (s14.1 + 5)) < L then if r226.2.2.1 (r4.2.2.2 : Int) = 10 then (fX11_hands r226.2 (r4.2.2.2 : Int) (xs (w32 (s14.1 + 1))) (xs (w32 (s14.1 + 2))) (xs (w32 (s14.1 + 3))) (xs (w32 (s14.1 + 4))) (xs (w32 (s14.1 + 5)))).bind fun r234 => rec13 (w32 (s14.1 + 8), r234.2) else none else none else none else none else none else none else none else none else none else none else none else none) else if bAnd (xs s14.1) 31 = 17 then (if (0 : Int) ≤ (w32 (s14.1 + 1)) ∧ (w32 (s14.1 + 1)) < L then if (0 : Int) ≤ (w32 (s14.1 + 2)) ∧ (w32 (s14.1 + 2)) < L then if (0 : Int) ≤ (w32 (s14.1 + 3)) ∧ (w32 (s14.1 + 3)) < L then jn (fun (t242 : Int) => if s14.2.2.1 (M.2.2.2 : Int) = 9 then (fX10_moved s14.2 (M.2.2.2 : Int) (xs (w32 (s14.1 + 1))) (xs (w32 (s14.1 + 2))) t242).bind fun r243 => if (0 : Int) ≤ (w32 (s14.1 + 1)) ∧ (w32 (s14.1 + 1)) < L then if (0 : Int) ≤ (w32 (s14.1 + 2)) ∧ (w32 (s14.1 + 2)) < L then if (0 : Int) ≤ (w32 (s14.1 + 3)) ∧ (w32 (s14.1 + 3)) < L then jn (fun (t250 : Int) => if s14.2.2.1 (r4.2.2.2 : Int) = 10 then (fX11_moved s14.2 (r4.2.2.2 : Int) (xs (w32 (s14.1 + 1))) (xs (w32 (s14.1 + 2))) t250).bind fun r251 => rec13 (w32 (s14.1 + 8), r251.2) else none) (fun (j249 : Int → Option (Int × Mem)) => if xs (w32 (s14.1 + 3)) = 0 then (j249 0) else (j249 1)) else none else none else none else none) (fun (j241 : Int → Option (Int × Mem)) => if xs (w32 (s14.1 + 3)) = 0 then (j241 0) else (j241 1)) else none else none else none) else if bAnd (xs s14.1) 31 = 18 then (if (0 : Int) ≤ (w32 (s14.1 + 1)) ∧ (w32 (s14.1 + 1)) < L then if (0 : Int) ≤ (w32 (s14.1 + 2)) ∧ (w32 (s14.1 + 2)) < L then if (0 : Int) ≤ (w32 (s14.1 + 3)) ∧ (w32 (s14.1 + 3)) < L then if (0 : Int) ≤ (w32 (s14.1 + 4)) ∧ (w32 (s14.1 + 4)) < L then if (0 : Int) ≤ (w32 (s14.1 + 5)) ∧ (w32 (s14.1 + 5)) < L then if s14.2.2.1 (M.2.2.2 : Int) = 9 then (fX10_quit s14.2 (M.2.2.2 : Int) (xs (w32 (s14.1 + 1))) (xs (w32 (s14.1 + 2))) (xs (w32 (s14.1 + 3))) (xs (w32 (s14.1 + 4))) (xs (w32 (s14.1 + 5)))).bind fun r262 => if (0 : Int) ≤ (w32 (s14.1 + 1)) ∧ (w32 (s14.1 + 1)) < L then if (0 : Int) ≤ (w32 (s14.1 + 2)) ∧ (w32 (s14.1 + 2)) < L then if (0 : Int) ≤ (w32 (s14.1 + 3)) ∧ (w32 (s14.1 + 3)) < L then if (0 : Int) ≤ (w32 (s14.1 + 4)) ∧ (w32 (s14.1 + 4)) < L then if (0 : Int) ≤ (w32 (s14.1 + 5)) ∧ (w32 (s14.1 + 5)) < L then if s14.2.2.1 (r4.2.2.2 : Int) = 10 then (fX11_quit s14.2 (r4.2.2.2 : Int) (xs (w32 (s14.1 + 1))) (xs (w32 (s14.1 + 2))) (xs (w32 (s14.1 + 3))) (xs (w32 (s14.1 + 4))) (xs (w32 (s14.1 + 5)))).bind fun r270 => rec13 (w32 (s14.1 + 8), r270.2) else none else none else none else none else none else none else none else none else none else none else none else none) else if bAnd (xs s14.1) 31 = 19 then (if (0 : Int) ≤ (w32 (s14.1 + 1)) ∧ (w32 (s14.1 + 1)) < L then if (0 : Int) ≤ (w32 (s14.1 + 2)) ∧ (w32 (s14.1 + 2)) < L then jn (fun (t277 : Int) => if s14.2.2.1 (M.2.2.2 : Int) = 9 then (fX10_alms s14.2 (M.2.2.2 : Int) (xs (w32 (s14.1 + 1))) t277).bind fun r278 => if (0 : Int) ≤ (w32 (s14.1 + 1)) ∧ (w32 (s14.1 + 1)) < L then if (0 : Int) ≤ (w32 (s14.1 + 2)) ∧ (w32 (s14.1 + 2)) < L then jn (fun (t284 : Int) => if s14.2.2.1 (r4.2.2.2 : Int) = 10 then (fX11_alms s14.2 (r4.2.2.2 : Int) (xs (w32 (s14.1 + 1))) t284).bind fun r285 => rec13 (w32 (s14.1 + 8), r285.2) else none) (fun (j283 : Int → Option (Int × Mem)) => if xs (w32 (s14.1 + 2)) = 0 then (j283 0) else (j283 1)) else none else none else none) (fun (j276 : Int → Option (Int × Mem)) => if xs (w32 (s14.1 + 2)) = 0 then (j276 0) else (j276 1)) else none else none) else if bAnd (xs s14.1) 31 = 20 then (if (0 : Int) ≤ (w32 (s14.1 + 1)) ∧ (w32 (s14.1 + 1)) < L then if (0 : Int) ≤ (w32 (s14.1 + 2)) ∧ (w32 (s14.1 + 2)) < L then if (0 : Int) ≤ (w32 (s14.1 + 3)) ∧ (w32 (s14.1 + 3)) < L then if s14.2.2.1 (M.2.2.2 : Int) = 9 then (fX10_prize s14.2 (M.2.2.2 : Int) (xs (w32 (s14.1 + 1))) (xs (w32 (s14.1 + 2))) (xs (w32 (s14.1 + 3)))).bind fun r294 => if (0 : Int) ≤ (w32 (s14.1 + 1)) ∧ (w32 (s14.1 + 1)) < L then if (0 : Int) ≤ (w32 (s14.1 + 2)) ∧ (w32 (s14.1 + 2)) < L then if (0 : Int) ≤ (w32 (s14.1 + 3)) ∧ (w32 (s14.1 + 3)) < L then if s14.2.2.1 (r4.2.2.2 : Int) = 10 then (fX11_prize s14.2 (r4.2.2.2 : Int) (xs (w32 (s14.1 + 1))) (xs (w32 (s14.1 + 2))) (xs (w32 (s14.1 + 3)))).bind fun r300 => rec13 (w32 (s14.1 + 8), r300.2) else none else none else none else none else none else none else none else none) else if bAnd (xs s14.1) 31 = 21 then (if (0 : Int) ≤ (w32 (s14.1 + 1)) ∧ (w32 (s14.1 + 1)) < L then if (0 : Int) ≤ (w32 (s14.1 + 2)) ∧ (w32 (s14.1 + 2)) < L then if s14.2.2.1 (M.2.2.2 : Int) = 9 then (fX10_rest s14.2 (M.2.2.2 : Int) (xs (w32 (s14.1 + 1))) (xs (w32 (s14.1 + 2)))).bind fun r306 => if (0 : Int) ≤ (w32 (s14.1 + 1)) ∧ (w32 (s14.1 + 1)) < L then if (0 : Int) ≤ (w32 (s14.1 + 2)) ∧ (w32 (s14.1 + 2)) < L then if s14.2.2.1 (r4.2.2.2 : Int) = 10 then (fX11_rest s14.2 (r4.2.2.2 : Int) (xs (w32 (s14.1 + 1))) (xs (w32 (s14.1 + 2)))).bind fun r311 => rec13 (w32 (s14.1 + 8), r311.2) else none else none else none else none else none else none) else if bAnd (xs s14.1) 31 = 22 then (if (0 : Int) ≤ (w32 (s14.1 + 1)) ∧ (w32 (s14.1 + 1)) < L then if (0 : Int) ≤ (w32 (s14.1 + 2)) ∧ (w32 (s14.1 + 2)) < L then if (0 : Int) ≤ (w32 (s14.1 + 3)) ∧ (w32 (s14.1 + 3)) < L then jn (fun (t319 : Int) => if s14.2.2.1 (M.2.2.2 : Int) = 9 then (fX10_share s14.2 (M.2.2.2 : Int) (xs (w32 (s14.1 + 1))) (xs (w32 (s14.1 + 2))) t319).bind fun r320 => if (0 : Int) ≤ (w32 (s14.1 + 1)) ∧ (w32 (s14.1 + 1)) < L then if (0 : Int) ≤ (w32 (s14.1 + 2)) ∧ (w32 (s14.1 + 2)) < L then if (0 : Int) ≤ (w32 (s14.1 + 3)) ∧ (w32 (s14.1 + 3)) < L then jn (fun (t327 : Int) => if s14.2.2.1 (r4.2.2.2 : Int) = 10 then (fX11_share s14.2 (r4.2.2.2 : Int) (xs (w32 (s14.1 + 1))) (xs (w32 (s14.1 + 2))) t327).bind fun r328 => rec13 (w32 (s14.1 + 8), r328.2) else none) (fun (j326 : Int → Option (Int × Mem)) => if xs (w32 (s14.1 + 3)) = 0 then (j326 0) else (j326 1)) else none else none else none else none) (fun (j318 : Int → Option (Int × Mem)) => if xs (w32 (s14.1 + 3)) = 0 then (j318 0) else (j318 1)) else none else none else none) else if bAnd (xs s14.1) 31 = 23 then (if (0 : Int) ≤ (w32 (s14.1 + 1)) ∧ (w32 (s14.1 + 1)) < L then if (0 : Int) ≤ (w32 (s14.1 + 2)) ∧ (w32 (s14.1 + 2)) < L then if s14.2.2.1 (M.2.2.2 : Int) = 9 then (fX10_even s14.2 (M.2.2.2 : Int) (xs (w32 (s14.1 + 1))) (xs (w32 (s14.1 + 2)))).bind fun r336 => if (0 : Int) ≤ (w32 (s14.1 + 1)) ∧ (w32 (s14.1 + 1)) < L then if (0 : Int) ≤ (w32 (s14.1 + 2)) ∧ (w32 (s14.1 + 2)) < L then if s14.2.2.1 (r4.2.2.2 : Int) = 10 then (fX11_even s14.2 (r4.2.2.2 : Int) (xs (w32 (s14.1 + 1))) (xs (w32 (s14.1 + 2)))).bind fun r341 => rec13 (w32 (s14.1 + 8), r341.2) else none else none else none else none else none else none) else if bAnd (xs s14.1) 31 = 24 then (if (0 : Int) ≤ (w32 (s14.1 + 1)) ∧ (w32 (s14.1 + 1)) < L then if (0 : Int) ≤ (w32 (s14.1 + 2)) ∧ (w32 (s14.1 + 2)) < L then if (0 : Int) ≤ (w32 (s14.1 + 3)) ∧ (w32 (s14.1 + 3)) < L then if (0 : Int) ≤ (w32 (s14.1 + 4)) ∧ (w32 (s14.1 + 4)) < L then if (0 : Int) ≤ (w32 (s14.1 + 5)) ∧ (w32 (s14.1 + 5)) < L then if s14.2.2.1 (M.2.2.2 : Int) = 9 then (fX10_drawn s14.2 (M.2.2.2 : Int) (xs (w32 (s14.1 + 1))) (xs (w32 (s14.1 + 2))) (xs (w32 (s14.1 + 3))) (xs (w32 (s14.1 + 4))) (xs (w32 (s14.1 + 5)))).bind fun r350 => if (0 : Int) ≤ (w32 (s14.1 + 1)) ∧ (w32 (s14.1 + 1)) < L then if (0 : Int) ≤ (w32 (s14.1 + 2)) ∧ (w32 (s14.1 + 2)) < L then if (0 : Int) ≤ (w32 (s14.1 + 3)) ∧ (w32 (s14.1 + 3)) < L then if (0 : Int) ≤ (w32 (s14.1 + 4)) ∧ (w32 (s14.1 + 4)) < L then if (0 : Int) ≤ (w32 (s14.1 + 5)) ∧ (w32 (s14.1 + 5)) < L then if r350.2.2.1 (r4.2.2.2 : Int) = 10 then (fX11_drawn r350.2 (r4.2.2.2 : Int) (xs (w32 (s14.1 + 1))) (xs (w32 (s14.1 + 2))) (xs (w32 (s14.1 + 3))) (xs (w32 (s14.1 + 4))) (xs (w32 (s14.1 + 5)))).bind fun r358 => rec13 (w32 (s14.1 + 8), r358.2) else none else none else none else none else none else none else none else none else none else none else none else none) else if bAnd (xs s14.1) 31 = 25 then (if (0 : Int) ≤ (w32 (s14.1 + 1)) ∧ (w32 (s14.1 + 1)) < L then if (0 : Int) ≤ (w32 (s14.1 + 2)) ∧ (w32 (s14.1 + 2)) < L then if (0 : Int) ≤ (w32 (s14.1 + 3)) ∧ (w32 (s14.1 + 3)) < L then if (0 : Int) ≤ (w32 (s14.1 + 4)) ∧ (w32 (s14.1 + 4)) < L then if (0 : Int) ≤ (w32 (s14.1 + 5)) ∧ (w32 (s14.1 + 5)) < L then if s14.2.2.1 (M.2.2.2 : Int) = 9 then (fX10_wealth s14.2 (M.2.2.2 : Int) (xs (w32 (s14.1 + 1))) (xs (w32 (s14.1 + 2))) (xs (w32 (s14.1 + 3))) (xs (w32 (s14.1 + 4))) (xs (w32 (s14.1 + 5)))).bind fun r367 => if (0 : Int) ≤ (w32 (s14.1 + 1)) ∧ (w32 (s14.1 + 1)) < L then if (0 : Int) ≤ (w32 (s14.1 + 2)) ∧ (w32 (s14.1 + 2)) < L then if (0 : Int) ≤ (w32 (s14.1 + 3)) ∧ (w32 (s14.1 + 3)) < L then if (0 : Int) ≤ (w32 (s14.1 + 4)) ∧ (w32 (s14.1 + 4)) < L then if (0 : Int) ≤ (w32 (s14.1 + 5)) ∧ (w32 (s14.1 + 5)) < L then if r367.2.2.1 (r4.2.2.2 : Int) = 10 then (fX11_wealth r367.2 (r4.2.2.2 : Int) (xs (w32 (s14.1 + 1))) (xs (w32 (s14.1 + 2))) (xs (w32 (s14.1 + 3))) (xs (w32 (s14.1 + 4))) (xs (w32 (s14.1 + 5)))).bind fun r375 => rec13 (w32 (s14.1 + 8), r375.2) else none else none else none else none else none else none else none else none else none else none else none else none) else if bAnd (xs s14.1) 31 = 26 then (if (0 : Int) ≤ (w32 (s14.1 + 1)) ∧ (w32 (s14.1 + 1)) < L then if (0 : Int) ≤ (w32 (s14.1 + 2)) ∧ (w32 (s14.1 + 2)) < L then if (0 : Int) ≤ (w32 (s14.1 + 3)) ∧ (w32 (s14.1 + 3)) < L then if (0 : Int) ≤ (w32 (s14.1 + 4)) ∧ (w32 (s14.1 + 4)) < L then if (0 : Int) ≤ (w32 (s14.1 + 5)) ∧ (w32 (s14.1 + 5)) < L then if s14.2.2.1 (M.2.2.2 : Int) = 9 then (fX10_haul s14.2 (M.2.2.2 : Int) (xs (w32 (s14.1 + 1))) (xs (w32 (s14.1 + 2))) (xs (w32 (s14.1 + 3))) (xs (w32 (s14.1 + 4))) (xs (w32 (s14.1 + 5)))).bind fun r384 => if (0 : Int) ≤ (w32 (s14.1 + 1)) ∧ (w32 (s14.1 + 1)) < L then if (0 : Int) ≤ (w32 (s14.1 + 2)) ∧ (w32 (s14.1 + 2)) < L then if (0 : Int) ≤ (w32 (s14.1 + 3)) ∧ (w32 (s14.1 + 3)) < L then if (0 : Int) ≤ (w32 (s14.1 + 4)) ∧ (w32 (s14.1 + 4)) < L then if (0 : Int) ≤ (w32 (s14.1 + 5)) ∧ (w32 (s14.1 + 5)) < L then if r384.2.2.1 (r4.2.2.2 : Int) = 10 then (fX11_haul r384.2 (r4.2.2.2 : Int) (xs (w32 (s14.1 + 1))) (xs (w32 (s14.1 + 2))) (xs (w32 (s14.1 + 3))) (xs (w32 (s14.1 + 4))) (xs (w32 (s14.1 + 5)))).bind fun r392 => rec13 (w32 (s14.1 + 8), r392.2) else none else none else none else none else none else none else none else none else none else none else none else none) else if bAnd (xs s14.1) 31 = 27 then (if (0 : Int) ≤ (w32 (s14.1 + 1)) ∧ (w32 (s14.1 + 1)) < L then if (0 : Int) ≤ (w32 (s14.1 + 2)) ∧ (w32 (s14.1 + 2)) < L then if (0 : Int) ≤ (w32 (s14.1 + 3)) ∧ (w32 (s14.1 + 3)) < L then jn (fun (t400 : Int) => if s14.2.2.1 (M.2.2.2 : Int) = 9 then (fX10_crew s14.2 (M.2.2.2 : Int) (xs (w32 (s14.1 + 1))) (xs (w32 (s14.1 + 2))) t400).bind fun r401 => if (0 : Int) ≤ (w32 (s14.1 + 1)) ∧ (w32 (s14.1 + 1)) < L then if (0 : Int) ≤ (w32 (s14.1 + 2)) ∧ (w32 (s14.1 + 2)) < L then if (0 : Int) ≤ (w32 (s14.1 + 3)) ∧ (w32 (s14.1 + 3)) < L then jn (fun (t408 : Int) => if s14.2.2.1 (r4.2.2.2 : Int) = 10 then (fX11_crew s14.2 (r4.2.2.2 : Int) (xs (w32 (s14.1 + 1))) (xs (w32 (s14.1 + 2))) t408).bind fun r409 => rec13 (w32 (s14.1 + 8), r409.2) else none) (fun (j407 : Int → Option (Int × Mem)) => if xs (w32 (s14.1 + 3)) = 0 then (j407 0) else (j407 1)) else none else none else none else none) (fun (j399 : Int → Option (Int × Mem)) => if xs (w32 (s14.1 + 3)) = 0 then (j399 0) else (j399 1)) else none else none else none) else if bAnd (xs s14.1) 31 = 28 then (if (0 : Int) ≤ (w32 (s14.1 + 1)) ∧ (w32 (s14.1 + 1)) < L then if (0 : Int) ≤ (w32 (s14.1 + 2)) ∧ (w32 (s14.1 + 2)) < L then if s14.2.2.1 (M.2.2.2 : Int) = 9 then (fX10_pairs s14.2 (M.2.2.2 : Int) (xs (w32 (s14.1 + 1))) (xs (w32 (s14.1 + 2)))).bind fun r417 => if (0 : Int) ≤ (w32 (s14.1 + 1)) ∧ (w32 (s14.1 + 1)) < L then if (0 : Int) ≤ (w32 (s14.1 + 2)) ∧ (w32 (s14.1 + 2)) < L then if s14.2.2.1 (r4.2.2.2 : Int) = 10 then (fX11_pairs s14.2 (r4.2.2.2 : Int) (xs (w32 (s14.1 + 1))) (xs (w32 (s14.1 + 2)))).bind fun r422 => rec13 (w32 (s14.1 + 8), r422.2) else none else none else none else none else none else none) else if bAnd (xs s14.1) 31 = 29 then (if (0 : Int) ≤ (w32 (s14.1 + 1)) ∧ (w32 (s14.1 + 1)) < L then if s14.2.2.1 (M.2.2.2 : Int) = 9 then (fX10_count s14.2 (M.2.2.2 : Int) (xs (w32 (s14.1 + 1)))).bind fun r427 => if (0 : Int) ≤ (w32 (s14.1 + 1)) ∧ (w32 (s14.1 + 1)) < L then if s14.2.2.1 (r4.2.2.2 : Int) = 10 then (fX11_count s14.2 (r4.2.2.2 : Int) (xs (w32 (s14.1 + 1)))).bind fun r431 => rec13 (w32 (s14.1 + 8), r431.2) else none else none else none else none) else if bAnd (xs s14.1) 31 = 30 then (if (0 : Int) ≤ (w32 (s14.1 + 1)) ∧ (w32 (s14.1 + 1)) < L then if s14.2.2.1 (M.2.2.2 : Int) = 9 then (fX10_image s14.2 (M.2.2.2 : Int) (xs (w32 (s14.1 + 1)))).bind fun r436 => if (0 : Int) ≤ (w32 (s14.1 + 1)) ∧ (w32 (s14.1 + 1)) < L then if r436.2.2.1 (r4.2.2.2 : Int) = 10 then (fX11_image r436.2 (r4.2.2.2 : Int) (xs (w32 (s14.1 + 1)))).bind fun r440 => rec13 (w32 (s14.1 + 8), r440.2) else none else none else none else none) else if bAnd (xs s14.1) 31 = 31 then (if (0 : Int) ≤ (w32 (s14.1 + 1)) ∧ (w32 (s14.1 + 1)) < L then if s14.2.2.1 (M.2.2.2 : Int) = 9 then (fX10_again s14.2 (M.2.2.2 : Int) (xs (w32 (s14.1 + 1)))).bind fun r445 => if (0 : Int) ≤ (w32 (s14.1 + 1)) ∧ (w32 (s14.1 + 1)) < L then if r445.2.2.1 (r4.2.2.2 : Int) = 10 then (fX11_again r445.2 (r4.2.2.2 : Int) (xs (w32 (s14.1 + 1)))).bind fun r449 => rec13 (w32 (s14.1 + 8), r449.2) else none else none else none else none) else rec13 (w32 (s14.1 + 8), s14.2) else none)) BIG (0, r10) else none else none
set_option maxRecDepth 100000 in
set_option maxHeartbeats 8000000 in
theorem vL_law (d : Nat) (hd : 27 ≤ d) (L : Int) (xs : Int → Int) (hL : 0 ≤ L ∧ L ≤ 4096) (hxs : ∀ j, r32 (xs j)) (M : Mem) : V (mL L xs) d 600000 7302249 600000 7302249 0 [some (pA (-52)), none, none, none] [] M dIM (fL_law L xs M) := by
  obtain ⟨d, rfl⟩ : ∃ k, d = k + 1 := ⟨d - 1, by omega⟩
  unfold fL_law
  refine v_new (N := 6) 9 rfl inX10 tw20 tw21 tw1 ftX10 dL_law_0 ?_
  refine v_bM (fun M1 e2 => ?_)
  have h3 : M1.2.1 (M.2.2.2 : Int) = 9 := by rw [e2]; exact mnew_k
  refine v_dup dL_law_3 (by intro z hz; cases hz) ?_
  refine v_if (fun h6 => ?_)
  refine v_cI (mi := mL L xs) (c0 := 84) (c1 := 2163) (As := []) (st := [pA (M.2.2.2 : Int)]) (kX10_init d (by omega) _ _) h6 okX10_init rfl rfl (Or.inl tw22) tw23 rfl (Nat.le_of_ble_eq_true rfl) dL_law_4 (fun r4 => [pA (M.2.2.2 : Int)]) (fun r4 => r4) (fun _ => rfl) (fun _ => rfl) (fun r4 h5 => ?_) rfl
  refine v_astore_n (ls' := [some (pA (-52)), some (pA (M.2.2.2 : Int)), none, none]) dL_law_7 (by first | decide | (show (_ : Nat) < 4; decide)) rfl ?_
  refine v_new (N := 51) 10 rfl inX11 tw1187 tw1188 tw11 ftX11 dL_law_8 ?_
  refine v_bM (fun M7 e8 => ?_)
  have h9 : M7.2.1 (r4.2.2.2 : Int) = 10 := by rw [e8]; exact mnew_k
  refine v_dup dL_law_11 (by intro z hz; cases hz) ?_
  refine v_if (fun h12 => ?_)
  refine v_cI (mi := mL L xs) (c0 := 26) (c1 := 5588) (As := []) (st := [pA (r4.2.2.2 : Int)]) (kX11_init d (by omega) _ _) h12 okX11_init rfl rfl (Or.inl tw1189) tw1190 rfl (Nat.le_of_ble_eq_true rfl) dL_law_12 (fun r10 => [pA (r4.2.2.2 : Int)]) (fun r10 => r10) (fun _ => rfl) (fun _ => rfl) (fun r10 h11 => ?_) rfl
  refine v_astore_n (ls' := [some (pA (-52)), some (pA (M.2.2.2 : Int)), some (pA (r4.2.2.2 : Int)), none]) dL_law_15 (by first | decide | (show (_ : Nat) < 4; decide)) rfl ?_
  refine v_iconst dL_law_16 (by decide) ?_
  refine v_istore_n (ls' := [some (pA (-52)), some (pA (M.2.2.2 : Int)), some (pA (r4.2.2.2 : Int)), some (pI 0)]) dL_law_17 (by first | decide | (show (_ : Nat) < 4; decide)) rfl ?_
  refine v_bw (bc' := 184680) (bs' := 5158728) (Nat.le_of_ble_eq_true rfl) (Nat.le_of_ble_eq_true rfl) ?_
  refine v_loopB (fun (s14 : Int × Mem) => [some (pA (-52)), some (pA (M.2.2.2 : Int)), some (pA (r4.2.2.2 : Int)), some (pI s14.1)]) (fun (s14 : Int × Mem) => s14.2) (fun (s14 : Int × Mem) => 45 * (4104 - s14.1).toNat) (fun (s14 : Int × Mem) => 1257 * (4104 - s14.1).toNat) (s0 := (0, r10)) rfl rfl ?_
  intro rec13 hrec13 s14
  refine v_pure (P := r32 s14.1) (fun _ hL _ => hL 3 _ rfl) (fun hri => ?_)
  refine v_iload_n dL_law_18 rfl ?_
  refine v_aload_n dL_law_19 rfl ?_
  refine v_slenL hL dL_law_20 ?_
  refine v_bipush dL_law_21 (by decide) ?_
  refine v_isub dL_law_23 ?_
  refine v_icmp_gt (tgt := 1596) dL_law_24 (by decide) (fun c15 => ?_) (fun c15 => ?_)
  · refine v_iconst dL_law_1596 (by decide) ?_
    exact v_breturn dL_law_1597 rfl (by first | decide | (show (_ : Nat) < 4; decide)) rfl
  · refine v_bw (bc' := 45 * (4104 - w32 (s14.1 + 8)).toNat + 45) (bs' := 1257 * (4104 - w32 (s14.1 + 8)).toNat + 1257) (by unfold r32 at hri; unfold w32 at *; omega) (by unfold r32 at hri; unfold w32 at *; omega) ?_
    refine v_aload_n dL_law_27 rfl ?_
    refine v_iload_n dL_law_28 rfl ?_
    refine v_if (fun h16 => ?_)
    refine v_sld hxs h16 dL_law_29 ?_
    refine v_bipush dL_law_30 (by decide) ?_
    refine v_iand dL_law_32 ?_
    refine v_ite (fun h17 => ?_) (fun h17 => ?_)
    · refine v_tabIn (off := 143) (tgt := 176) dL_law_33 h17 (by decide) ?_
      refine v_aload_n dL_law_176 rfl ?_
      refine v_aload_n dL_law_177 rfl ?_
      refine v_iload_n dL_law_178 rfl ?_
      refine v_iconst dL_law_179 (by decide) ?_
      refine v_iadd dL_law_180 ?_
      refine v_if (fun h18 => ?_)
      refine v_sld hxs h18 dL_law_181 ?_
      refine v_aload_n dL_law_182 rfl ?_
      refine v_iload_n dL_law_183 rfl ?_
      refine v_iconst dL_law_184 (by decide) ?_
      refine v_iadd dL_law_185 ?_
      refine v_if (fun h19 => ?_)
      refine v_sld hxs h19 dL_law_186 ?_
      refine v_aload_n dL_law_187 rfl ?_
      refine v_iload_n dL_law_188 rfl ?_
      refine v_iconst dL_law_189 (by decide) ?_
      refine v_iadd dL_law_190 ?_
      refine v_if (fun h20 => ?_)
      refine v_sld hxs h20 dL_law_191 ?_
      refine v_aload_n dL_law_192 rfl ?_
      refine v_iload_n dL_law_193 rfl ?_
      refine v_iconst dL_law_194 (by decide) ?_
      refine v_iadd dL_law_195 ?_
      refine v_if (fun h21 => ?_)
      refine v_sld hxs h21 dL_law_196 ?_
      refine v_aload_n dL_law_197 rfl ?_
      refine v_iload_n dL_law_198 rfl ?_
      refine v_iconst dL_law_199 (by decide) ?_
      refine v_iadd dL_law_200 ?_
      refine v_if (fun h22 => ?_)
      refine v_sld hxs h22 dL_law_201 ?_
      refine v_if (fun h25 => ?_)
      refine v_cV (mi := mL L xs) (c0 := 0) (c1 := 0) (As := [pI (xs (w32 (s14.1 + 1))), pI (xs (w32 (s14.1 + 2))), pI (xs (w32 (s14.1 + 3))), pI (xs (w32 (s14.1 + 4))), pI (xs (w32 (s14.1 + 5)))]) (st := []) (kX10_feed d (by omega) _ _ _ _ _ _ _) rfl h25 rfl okX10_feed (Or.inl tw440) tw441 tw442 rfl (Nat.le_of_ble_eq_true rfl) dL_law_202 (fun r23 => [pI r23.1]) (fun r23 => r23.2) (fun _ => rfl) (fun _ => rfl) (fun r23 h24 => ?_) rfl
      refine v_pop dL_law_205 (by intro z hz; cases hz) ?_
      refine v_aload_n dL_law_206 rfl ?_
      refine v_aload_n dL_law_207 rfl ?_
      refine v_iload_n dL_law_208 rfl ?_
      refine v_iconst dL_law_209 (by decide) ?_
      refine v_iadd dL_law_210 ?_
      refine v_if (fun h26 => ?_)
      refine v_sld hxs h26 dL_law_211 ?_
      refine v_aload_n dL_law_212 rfl ?_
      refine v_iload_n dL_law_213 rfl ?_
      refine v_iconst dL_law_214 (by decide) ?_
      refine v_iadd dL_law_215 ?_
      refine v_if (fun h27 => ?_)
      refine v_sld hxs h27 dL_law_216 ?_
      refine v_aload_n dL_law_217 rfl ?_
      refine v_iload_n dL_law_218 rfl ?_
      refine v_iconst dL_law_219 (by decide) ?_
      refine v_iadd dL_law_220 ?_
      refine v_if (fun h28 => ?_)
      refine v_sld hxs h28 dL_law_221 ?_
      refine v_aload_n dL_law_222 rfl ?_
      refine v_iload_n dL_law_223 rfl ?_
      refine v_iconst dL_law_224 (by decide) ?_
      refine v_iadd dL_law_225 ?_
      refine v_if (fun h29 => ?_)
      refine v_sld hxs h29 dL_law_226 ?_
      refine v_aload_n dL_law_227 rfl ?_
      refine v_iload_n dL_law_228 rfl ?_
      refine v_iconst dL_law_229 (by decide) ?_
      refine v_iadd dL_law_230 ?_
      refine v_if (fun h30 => ?_)
      refine v_sld hxs h30 dL_law_231 ?_
      refine v_if (fun h33 => ?_)
      refine v_cV (mi := mL L xs) (c0 := 0) (c1 := 0) (As := [pI (xs (w32 (s14.1 + 1))), pI (xs (w32 (s14.1 + 2))), pI (xs (w32 (s14.1 + 3))), pI (xs (w32 (s14.1 + 4))), pI (xs (w32 (s14.1 + 5)))]) (st := []) (kX11_feed d (by omega) _ _ _ _ _ _ _) rfl h33 rfl okX11_feed (Or.inl tw1348) tw1349 tw1350 rfl (Nat.le_of_ble_eq_true rfl) dL_law_232 (fun r31 => [pI r31.1]) (fun r31 => r31.2) (fun _ => rfl) (fun _ => rfl) (fun r31 h32 => ?_) rfl
      refine v_pop dL_law_235 (by intro z hz; cases hz) ?_
      refine v_goto (tgt := 1590) dL_law_236 (by decide) ?_
      refine v_iinc (ls' := [some (pA (-52)), some (pA (M.2.2.2 : Int)), some (pA (r4.2.2.2 : Int)), some (pI (w32 (s14.1 + 8)))]) dL_law_1590 (by first | decide | (show (_ : Nat) < 4; decide)) rfl rfl ?_
      refine v_goto (tgt := 18) dL_law_1593 (by decide) ?_
      exact v_bw (by first | omega | exact Nat.le_refl _) (by first | omega | exact Nat.le_refl _) (hrec13 (w32 (s14.1 + 8), r31.2))
    · refine v_ite (fun h34 => ?_) (fun h34 => ?_)
      · refine v_tabIn (off := 206) (tgt := 239) dL_law_33 h34 (by decide) ?_
        refine v_aload_n dL_law_239 rfl ?_
        refine v_aload_n dL_law_240 rfl ?_
        refine v_iload_n dL_law_241 rfl ?_
        refine v_iconst dL_law_242 (by decide) ?_
        refine v_iadd dL_law_243 ?_
        refine v_if (fun h35 => ?_)
        refine v_sld hxs h35 dL_law_244 ?_
        refine v_if (fun h38 => ?_)
        refine v_cV (mi := mL L xs) (c0 := 0) (c1 := 0) (As := [pI (xs (w32 (s14.1 + 1)))]) (st := []) (kX10_end d (by omega) _ _ _) rfl h38 rfl okX10_end (Or.inl tw448) tw449 tw450 rfl (Nat.le_of_ble_eq_true rfl) dL_law_245 (fun r36 => [pI r36.1]) (fun r36 => r36.2) (fun _ => rfl) (fun _ => rfl) (fun r36 h37 => ?_) rfl
        refine v_pop dL_law_248 (by intro z hz; cases hz) ?_
        refine v_aload_n dL_law_249 rfl ?_
        refine v_aload_n dL_law_250 rfl ?_
        refine v_iload_n dL_law_251 rfl ?_
        refine v_iconst dL_law_252 (by decide) ?_
        refine v_iadd dL_law_253 ?_
        refine v_if (fun h39 => ?_)
        refine v_sld hxs h39 dL_law_254 ?_
        refine v_if (fun h42 => ?_)
        refine v_cV (mi := mL L xs) (c0 := 0) (c1 := 0) (As := [pI (xs (w32 (s14.1 + 1)))]) (st := []) (kX11_end d (by omega) _ _ _) rfl h42 rfl okX11_end (Or.inl tw1356) tw1357 tw1358 rfl (Nat.le_of_ble_eq_true rfl) dL_law_255 (fun r40 => [pI r40.1]) (fun r40 => r40.2) (fun _ => rfl) (fun _ => rfl) (fun r40 h41 => ?_) rfl
        refine v_pop dL_law_258 (by intro z hz; cases hz) ?_
        refine v_goto (tgt := 1590) dL_law_259 (by decide) ?_
        refine v_iinc (ls' := [some (pA (-52)), some (pA (M.2.2.2 : Int)), some (pA (r4.2.2.2 : Int)), some (pI (w32 (s14.1 + 8)))]) dL_law_1590 (by first | decide | (show (_ : Nat) < 4; decide)) rfl rfl ?_
        refine v_goto (tgt := 18) dL_law_1593 (by decide) ?_
        exact v_bw (by first | omega | exact Nat.le_refl _) (by first | omega | exact Nat.le_refl _) (hrec13 (w32 (s14.1 + 8), r40.2))
      · refine v_ite (fun h43 => ?_) (fun h43 => ?_)
        · refine v_tabIn (off := 229) (tgt := 262) dL_law_33 h43 (by decide) ?_
          refine v_aload_n dL_law_262 rfl ?_
          refine v_aload_n dL_law_263 rfl ?_
          refine v_iload_n dL_law_264 rfl ?_
          refine v_iconst dL_law_265 (by decide) ?_
          refine v_iadd dL_law_266 ?_
          refine v_if (fun h44 => ?_)
          refine v_sld hxs h44 dL_law_267 ?_
          refine v_aload_n dL_law_268 rfl ?_
          refine v_iload_n dL_law_269 rfl ?_
          refine v_iconst dL_law_270 (by decide) ?_
          refine v_iadd dL_law_271 ?_
          refine v_if (fun h45 => ?_)
          refine v_sld hxs h45 dL_law_272 ?_
          refine v_if (fun h48 => ?_)
          refine v_cV (mi := mL L xs) (c0 := 0) (c1 := 0) (As := [pI (xs (w32 (s14.1 + 1))), pI (xs (w32 (s14.1 + 2)))]) (st := []) (kX10_text d (by omega) _ _ _ _) rfl h48 rfl okX10_text (Or.inl tw452) tw453 tw454 rfl (Nat.le_of_ble_eq_true rfl) dL_law_273 (fun r46 => [pI r46.1]) (fun r46 => r46.2) (fun _ => rfl) (fun _ => rfl) (fun r46 h47 => ?_) rfl
          refine v_pop dL_law_276 (by intro z hz; cases hz) ?_
          refine v_aload_n dL_law_277 rfl ?_
          refine v_aload_n dL_law_278 rfl ?_
          refine v_iload_n dL_law_279 rfl ?_
          refine v_iconst dL_law_280 (by decide) ?_
          refine v_iadd dL_law_281 ?_
          refine v_if (fun h49 => ?_)
          refine v_sld hxs h49 dL_law_282 ?_
          refine v_aload_n dL_law_283 rfl ?_
          refine v_iload_n dL_law_284 rfl ?_
          refine v_iconst dL_law_285 (by decide) ?_
          refine v_iadd dL_law_286 ?_
          refine v_if (fun h50 => ?_)
          refine v_sld hxs h50 dL_law_287 ?_
          refine v_if (fun h53 => ?_)
          refine v_cV (mi := mL L xs) (c0 := 0) (c1 := 0) (As := [pI (xs (w32 (s14.1 + 1))), pI (xs (w32 (s14.1 + 2)))]) (st := []) (kX11_text d (by omega) _ _ _ _) rfl h53 rfl okX11_text (Or.inl tw1363) tw1364 tw1365 rfl (Nat.le_of_ble_eq_true rfl) dL_law_288 (fun r51 => [pI r51.1]) (fun r51 => r51.2) (fun _ => rfl) (fun _ => rfl) (fun r51 h52 => ?_) rfl
          refine v_pop dL_law_291 (by intro z hz; cases hz) ?_
          refine v_goto (tgt := 1590) dL_law_292 (by decide) ?_
          refine v_iinc (ls' := [some (pA (-52)), some (pA (M.2.2.2 : Int)), some (pA (r4.2.2.2 : Int)), some (pI (w32 (s14.1 + 8)))]) dL_law_1590 (by first | decide | (show (_ : Nat) < 4; decide)) rfl rfl ?_
          refine v_goto (tgt := 18) dL_law_1593 (by decide) ?_
          exact v_bw (by first | omega | exact Nat.le_refl _) (by first | omega | exact Nat.le_refl _) (hrec13 (w32 (s14.1 + 8), r51.2))
        · refine v_ite (fun h54 => ?_) (fun h54 => ?_)
          · refine v_tabIn (off := 262) (tgt := 295) dL_law_33 h54 (by decide) ?_
            refine v_aload_n dL_law_295 rfl ?_
            refine v_aload_n dL_law_296 rfl ?_
            refine v_iload_n dL_law_297 rfl ?_
            refine v_iconst dL_law_298 (by decide) ?_
            refine v_iadd dL_law_299 ?_
            refine v_if (fun h55 => ?_)
            refine v_sld hxs h55 dL_law_300 ?_
            refine v_if (fun h58 => ?_)
            refine v_cV (mi := mL L xs) (c0 := 0) (c1 := 0) (As := [pI (xs (w32 (s14.1 + 1)))]) (st := []) (kX10_fault d (by omega) _ _ _) rfl h58 rfl okX10_fault (Or.inl tw672) tw673 tw674 rfl (Nat.le_of_ble_eq_true rfl) dL_law_301 (fun r56 => [pI r56]) (fun r56 => s14.2) (fun _ => rfl) (fun _ => rfl) (fun r56 h57 => ?_) rfl
            refine v_pop dL_law_304 (by intro z hz; cases hz) ?_
            refine v_aload_n dL_law_305 rfl ?_
            refine v_aload_n dL_law_306 rfl ?_
            refine v_iload_n dL_law_307 rfl ?_
            refine v_iconst dL_law_308 (by decide) ?_
            refine v_iadd dL_law_309 ?_
            refine v_if (fun h59 => ?_)
            refine v_sld hxs h59 dL_law_310 ?_
            refine v_if (fun h62 => ?_)
            refine v_cV (mi := mL L xs) (c0 := 0) (c1 := 0) (As := [pI (xs (w32 (s14.1 + 1)))]) (st := []) (kX11_fault d (by omega) _ _ _) rfl h62 rfl okX11_fault (Or.inl tw1492) tw1493 tw1494 rfl (Nat.le_of_ble_eq_true rfl) dL_law_311 (fun r60 => [pI r60.1]) (fun r60 => r60.2) (fun _ => rfl) (fun _ => rfl) (fun r60 h61 => ?_) rfl
            refine v_pop dL_law_314 (by intro z hz; cases hz) ?_
            refine v_goto (tgt := 1590) dL_law_315 (by decide) ?_
            refine v_iinc (ls' := [some (pA (-52)), some (pA (M.2.2.2 : Int)), some (pA (r4.2.2.2 : Int)), some (pI (w32 (s14.1 + 8)))]) dL_law_1590 (by first | decide | (show (_ : Nat) < 4; decide)) rfl rfl ?_
            refine v_goto (tgt := 18) dL_law_1593 (by decide) ?_
            exact v_bw (by first | omega | exact Nat.le_refl _) (by first | omega | exact Nat.le_refl _) (hrec13 (w32 (s14.1 + 8), r60.2))
          · refine v_ite (fun h63 => ?_) (fun h63 => ?_)
            · refine v_tabIn (off := 285) (tgt := 318) dL_law_33 h63 (by decide) ?_
              refine v_aload_n dL_law_318 rfl ?_
              refine v_aload_n dL_law_319 rfl ?_
              refine v_iload_n dL_law_320 rfl ?_
              refine v_iconst dL_law_321 (by decide) ?_
              refine v_iadd dL_law_322 ?_
              refine v_if (fun h64 => ?_)
              refine v_sld hxs h64 dL_law_323 ?_
              refine v_aload_n dL_law_324 rfl ?_
              refine v_iload_n dL_law_325 rfl ?_
              refine v_iconst dL_law_326 (by decide) ?_
              refine v_iadd dL_law_327 ?_
              refine v_if (fun h65 => ?_)
              refine v_sld hxs h65 dL_law_328 ?_
              refine v_if (fun h68 => ?_)
              refine v_cV (mi := mL L xs) (c0 := 0) (c1 := 0) (As := [pI (xs (w32 (s14.1 + 1))), pI (xs (w32 (s14.1 + 2)))]) (st := []) (kX10_town d (by omega) _ _ _ _) rfl h68 rfl okX10_town (Or.inl tw676) tw677 tw678 rfl (Nat.le_of_ble_eq_true rfl) dL_law_329 (fun r66 => [pI r66]) (fun r66 => s14.2) (fun _ => rfl) (fun _ => rfl) (fun r66 h67 => ?_) rfl
              refine v_pop dL_law_332 (by intro z hz; cases hz) ?_
              refine v_aload_n dL_law_333 rfl ?_
              refine v_aload_n dL_law_334 rfl ?_
              refine v_iload_n dL_law_335 rfl ?_
              refine v_iconst dL_law_336 (by decide) ?_
              refine v_iadd dL_law_337 ?_
              refine v_if (fun h69 => ?_)
              refine v_sld hxs h69 dL_law_338 ?_
              refine v_aload_n dL_law_339 rfl ?_
              refine v_iload_n dL_law_340 rfl ?_
              refine v_iconst dL_law_341 (by decide) ?_
              refine v_iadd dL_law_342 ?_
              refine v_if (fun h70 => ?_)
              refine v_sld hxs h70 dL_law_343 ?_
              refine v_if (fun h73 => ?_)
              refine v_cV (mi := mL L xs) (c0 := 0) (c1 := 0) (As := [pI (xs (w32 (s14.1 + 1))), pI (xs (w32 (s14.1 + 2)))]) (st := []) (kX11_town d (by omega) _ _ _ _) rfl h73 rfl okX11_town (Or.inl tw1496) tw1497 tw1498 rfl (Nat.le_of_ble_eq_true rfl) dL_law_344 (fun r71 => [pI r71.1]) (fun r71 => r71.2) (fun _ => rfl) (fun _ => rfl) (fun r71 h72 => ?_) rfl
              refine v_pop dL_law_347 (by intro z hz; cases hz) ?_
              refine v_goto (tgt := 1590) dL_law_348 (by decide) ?_
              refine v_iinc (ls' := [some (pA (-52)), some (pA (M.2.2.2 : Int)), some (pA (r4.2.2.2 : Int)), some (pI (w32 (s14.1 + 8)))]) dL_law_1590 (by first | decide | (show (_ : Nat) < 4; decide)) rfl rfl ?_
              refine v_goto (tgt := 18) dL_law_1593 (by decide) ?_
              exact v_bw (by first | omega | exact Nat.le_refl _) (by first | omega | exact Nat.le_refl _) (hrec13 (w32 (s14.1 + 8), r71.2))
            · refine v_ite (fun h74 => ?_) (fun h74 => ?_)
              · refine v_tabIn (off := 318) (tgt := 351) dL_law_33 h74 (by decide) ?_
                refine v_aload_n dL_law_351 rfl ?_
                refine v_aload_n dL_law_352 rfl ?_
                refine v_iload_n dL_law_353 rfl ?_
                refine v_iconst dL_law_354 (by decide) ?_
                refine v_iadd dL_law_355 ?_
                refine v_if (fun h75 => ?_)
                refine v_sld hxs h75 dL_law_356 ?_
                refine v_aload_n dL_law_357 rfl ?_
                refine v_iload_n dL_law_358 rfl ?_
                refine v_iconst dL_law_359 (by decide) ?_
                refine v_iadd dL_law_360 ?_
                refine v_if (fun h76 => ?_)
                refine v_sld hxs h76 dL_law_361 ?_
                refine v_aload_n dL_law_362 rfl ?_
                refine v_iload_n dL_law_363 rfl ?_
                refine v_iconst dL_law_364 (by decide) ?_
                refine v_iadd dL_law_365 ?_
                refine v_if (fun h77 => ?_)
                refine v_sld hxs h77 dL_law_366 ?_
                refine v_aload_n dL_law_367 rfl ?_
                refine v_iload_n dL_law_368 rfl ?_
                refine v_iconst dL_law_369 (by decide) ?_
                refine v_iadd dL_law_370 ?_
                refine v_if (fun h78 => ?_)
                refine v_sld hxs h78 dL_law_371 ?_
                refine v_if (fun h81 => ?_)
                refine v_cV (mi := mL L xs) (c0 := 0) (c1 := 0) (As := [pI (xs (w32 (s14.1 + 1))), pI (xs (w32 (s14.1 + 2))), pI (xs (w32 (s14.1 + 3))), pI (xs (w32 (s14.1 + 4)))]) (st := []) (kX10_house d (by omega) _ _ _ _ _ _) rfl h81 rfl okX10_house (Or.inl tw695) tw696 tw697 rfl (Nat.le_of_ble_eq_true rfl) dL_law_372 (fun r79 => [pI r79]) (fun r79 => s14.2) (fun _ => rfl) (fun _ => rfl) (fun r79 h80 => ?_) rfl
                refine v_pop dL_law_375 (by intro z hz; cases hz) ?_
                refine v_aload_n dL_law_376 rfl ?_
                refine v_aload_n dL_law_377 rfl ?_
                refine v_iload_n dL_law_378 rfl ?_
                refine v_iconst dL_law_379 (by decide) ?_
                refine v_iadd dL_law_380 ?_
                refine v_if (fun h82 => ?_)
                refine v_sld hxs h82 dL_law_381 ?_
                refine v_aload_n dL_law_382 rfl ?_
                refine v_iload_n dL_law_383 rfl ?_
                refine v_iconst dL_law_384 (by decide) ?_
                refine v_iadd dL_law_385 ?_
                refine v_if (fun h83 => ?_)
                refine v_sld hxs h83 dL_law_386 ?_
                refine v_aload_n dL_law_387 rfl ?_
                refine v_iload_n dL_law_388 rfl ?_
                refine v_iconst dL_law_389 (by decide) ?_
                refine v_iadd dL_law_390 ?_
                refine v_if (fun h84 => ?_)
                refine v_sld hxs h84 dL_law_391 ?_
                refine v_aload_n dL_law_392 rfl ?_
                refine v_iload_n dL_law_393 rfl ?_
                refine v_iconst dL_law_394 (by decide) ?_
                refine v_iadd dL_law_395 ?_
                refine v_if (fun h85 => ?_)
                refine v_sld hxs h85 dL_law_396 ?_
                refine v_if (fun h88 => ?_)
                refine v_cV (mi := mL L xs) (c0 := 0) (c1 := 0) (As := [pI (xs (w32 (s14.1 + 1))), pI (xs (w32 (s14.1 + 2))), pI (xs (w32 (s14.1 + 3))), pI (xs (w32 (s14.1 + 4)))]) (st := []) (kX11_house d (by omega) _ _ _ _ _ _) rfl h88 rfl okX11_house (Or.inl tw1519) tw1520 tw1521 rfl (Nat.le_of_ble_eq_true rfl) dL_law_397 (fun r86 => [pI r86.1]) (fun r86 => r86.2) (fun _ => rfl) (fun _ => rfl) (fun r86 h87 => ?_) rfl
                refine v_pop dL_law_400 (by intro z hz; cases hz) ?_
                refine v_goto (tgt := 1590) dL_law_401 (by decide) ?_
                refine v_iinc (ls' := [some (pA (-52)), some (pA (M.2.2.2 : Int)), some (pA (r4.2.2.2 : Int)), some (pI (w32 (s14.1 + 8)))]) dL_law_1590 (by first | decide | (show (_ : Nat) < 4; decide)) rfl rfl ?_
                refine v_goto (tgt := 18) dL_law_1593 (by decide) ?_
                exact v_bw (by first | omega | exact Nat.le_refl _) (by first | omega | exact Nat.le_refl _) (hrec13 (w32 (s14.1 + 8), r86.2))
              · refine v_ite (fun h89 => ?_) (fun h89 => ?_)
                · refine v_tabIn (off := 371) (tgt := 404) dL_law_33 h89 (by decide) ?_
                  refine v_aload_n dL_law_404 rfl ?_
                  refine v_aload_n dL_law_405 rfl ?_
                  refine v_iload_n dL_law_406 rfl ?_
                  refine v_iconst dL_law_407 (by decide) ?_
                  refine v_iadd dL_law_408 ?_
                  refine v_if (fun h90 => ?_)
                  refine v_sld hxs h90 dL_law_409 ?_
                  refine v_aload_n dL_law_410 rfl ?_
                  refine v_iload_n dL_law_411 rfl ?_
                  refine v_iconst dL_law_412 (by decide) ?_
                  refine v_iadd dL_law_413 ?_
                  refine v_if (fun h91 => ?_)
                  refine v_sld hxs h91 dL_law_414 ?_
                  refine v_if (fun h94 => ?_)
                  refine v_cV (mi := mL L xs) (c0 := 0) (c1 := 0) (As := [pI (xs (w32 (s14.1 + 1))), pI (xs (w32 (s14.1 + 2)))]) (st := []) (kX10_law d (by omega) _ _ _ _) rfl h94 rfl okX10_law (Or.inl tw710) tw711 tw712 rfl (Nat.le_of_ble_eq_true rfl) dL_law_415 (fun r92 => [pI r92]) (fun r92 => s14.2) (fun _ => rfl) (fun _ => rfl) (fun r92 h93 => ?_) rfl
                  refine v_pop dL_law_418 (by intro z hz; cases hz) ?_
                  refine v_aload_n dL_law_419 rfl ?_
                  refine v_aload_n dL_law_420 rfl ?_
                  refine v_iload_n dL_law_421 rfl ?_
                  refine v_iconst dL_law_422 (by decide) ?_
                  refine v_iadd dL_law_423 ?_
                  refine v_if (fun h95 => ?_)
                  refine v_sld hxs h95 dL_law_424 ?_
                  refine v_aload_n dL_law_425 rfl ?_
                  refine v_iload_n dL_law_426 rfl ?_
                  refine v_iconst dL_law_427 (by decide) ?_
                  refine v_iadd dL_law_428 ?_
                  refine v_if (fun h96 => ?_)
                  refine v_sld hxs h96 dL_law_429 ?_
                  refine v_if (fun h99 => ?_)
                  refine v_cV (mi := mL L xs) (c0 := 0) (c1 := 0) (As := [pI (xs (w32 (s14.1 + 1))), pI (xs (w32 (s14.1 + 2)))]) (st := []) (kX11_law d (by omega) _ _ _ _) rfl h99 rfl okX11_law (Or.inl tw1531) tw1532 tw1533 rfl (Nat.le_of_ble_eq_true rfl) dL_law_430 (fun r97 => [pI r97.1]) (fun r97 => r97.2) (fun _ => rfl) (fun _ => rfl) (fun r97 h98 => ?_) rfl
                  refine v_pop dL_law_433 (by intro z hz; cases hz) ?_
                  refine v_goto (tgt := 1590) dL_law_434 (by decide) ?_
                  refine v_iinc (ls' := [some (pA (-52)), some (pA (M.2.2.2 : Int)), some (pA (r4.2.2.2 : Int)), some (pI (w32 (s14.1 + 8)))]) dL_law_1590 (by first | decide | (show (_ : Nat) < 4; decide)) rfl rfl ?_
                  refine v_goto (tgt := 18) dL_law_1593 (by decide) ?_
                  exact v_bw (by first | omega | exact Nat.le_refl _) (by first | omega | exact Nat.le_refl _) (hrec13 (w32 (s14.1 + 8), r97.2))
                · refine v_ite (fun h100 => ?_) (fun h100 => ?_)
                  · refine v_tabIn (off := 404) (tgt := 437) dL_law_33 h100 (by decide) ?_
                    refine v_aload_n dL_law_437 rfl ?_
                    refine v_aload_n dL_law_438 rfl ?_
                    refine v_iload_n dL_law_439 rfl ?_
                    refine v_iconst dL_law_440 (by decide) ?_
                    refine v_iadd dL_law_441 ?_
                    refine v_if (fun h101 => ?_)
                    refine v_sld hxs h101 dL_law_442 ?_
                    refine v_aload_n dL_law_443 rfl ?_
                    refine v_iload_n dL_law_444 rfl ?_
                    refine v_iconst dL_law_445 (by decide) ?_
                    refine v_iadd dL_law_446 ?_
                    refine v_if (fun h102 => ?_)
                    refine v_sld hxs h102 dL_law_447 ?_
                    refine v_aload_n dL_law_448 rfl ?_
                    refine v_iload_n dL_law_449 rfl ?_
                    refine v_iconst dL_law_450 (by decide) ?_
                    refine v_iadd dL_law_451 ?_
                    refine v_if (fun h103 => ?_)
                    refine v_sld hxs h103 dL_law_452 ?_
                    refine v_if (fun h106 => ?_)
                    refine v_cV (mi := mL L xs) (c0 := 0) (c1 := 0) (As := [pI (xs (w32 (s14.1 + 1))), pI (xs (w32 (s14.1 + 2))), pI (xs (w32 (s14.1 + 3)))]) (st := []) (kX10_deed d (by omega) _ _ _ _ _) rfl h106 rfl okX10_deed (Or.inl tw722) tw723 tw724 rfl (Nat.le_of_ble_eq_true rfl) dL_law_453 (fun r104 => [pI r104]) (fun r104 => s14.2) (fun _ => rfl) (fun _ => rfl) (fun r104 h105 => ?_) rfl
                    refine v_pop dL_law_456 (by intro z hz; cases hz) ?_
                    refine v_aload_n dL_law_457 rfl ?_
                    refine v_aload_n dL_law_458 rfl ?_
                    refine v_iload_n dL_law_459 rfl ?_
                    refine v_iconst dL_law_460 (by decide) ?_
                    refine v_iadd dL_law_461 ?_
                    refine v_if (fun h107 => ?_)
                    refine v_sld hxs h107 dL_law_462 ?_
                    refine v_aload_n dL_law_463 rfl ?_
                    refine v_iload_n dL_law_464 rfl ?_
                    refine v_iconst dL_law_465 (by decide) ?_
                    refine v_iadd dL_law_466 ?_
                    refine v_if (fun h108 => ?_)
                    refine v_sld hxs h108 dL_law_467 ?_
                    refine v_aload_n dL_law_468 rfl ?_
                    refine v_iload_n dL_law_469 rfl ?_
                    refine v_iconst dL_law_470 (by decide) ?_
                    refine v_iadd dL_law_471 ?_
                    refine v_if (fun h109 => ?_)
                    refine v_sld hxs h109 dL_law_472 ?_
                    refine v_if (fun h112 => ?_)
                    refine v_cV (mi := mL L xs) (c0 := 0) (c1 := 0) (As := [pI (xs (w32 (s14.1 + 1))), pI (xs (w32 (s14.1 + 2))), pI (xs (w32 (s14.1 + 3)))]) (st := []) (kX11_deed d (by omega) _ _ _ _ _) rfl h112 rfl okX11_deed (Or.inl tw1550) tw1551 tw1552 rfl (Nat.le_of_ble_eq_true rfl) dL_law_473 (fun r110 => [pI r110.1]) (fun r110 => r110.2) (fun _ => rfl) (fun _ => rfl) (fun r110 h111 => ?_) rfl
                    refine v_pop dL_law_476 (by intro z hz; cases hz) ?_
                    refine v_goto (tgt := 1590) dL_law_477 (by decide) ?_
                    refine v_iinc (ls' := [some (pA (-52)), some (pA (M.2.2.2 : Int)), some (pA (r4.2.2.2 : Int)), some (pI (w32 (s14.1 + 8)))]) dL_law_1590 (by first | decide | (show (_ : Nat) < 4; decide)) rfl rfl ?_
                    refine v_goto (tgt := 18) dL_law_1593 (by decide) ?_
                    exact v_bw (by first | omega | exact Nat.le_refl _) (by first | omega | exact Nat.le_refl _) (hrec13 (w32 (s14.1 + 8), r110.2))
                  · refine v_ite (fun h113 => ?_) (fun h113 => ?_)
                    · refine v_tabIn (off := 447) (tgt := 480) dL_law_33 h113 (by decide) ?_
                      refine v_aload_n dL_law_480 rfl ?_
                      refine v_aload_n dL_law_481 rfl ?_
                      refine v_iload_n dL_law_482 rfl ?_
                      refine v_iconst dL_law_483 (by decide) ?_
                      refine v_iadd dL_law_484 ?_
                      refine v_if (fun h114 => ?_)
                      refine v_sld hxs h114 dL_law_485 ?_
                      refine v_aload_n dL_law_486 rfl ?_
                      refine v_iload_n dL_law_487 rfl ?_
                      refine v_iconst dL_law_488 (by decide) ?_
                      refine v_iadd dL_law_489 ?_
                      refine v_if (fun h115 => ?_)
                      refine v_sld hxs h115 dL_law_490 ?_
                      refine v_aload_n dL_law_491 rfl ?_
                      refine v_iload_n dL_law_492 rfl ?_
                      refine v_iconst dL_law_493 (by decide) ?_
                      refine v_iadd dL_law_494 ?_
                      refine v_if (fun h116 => ?_)
                      refine v_sld hxs h116 dL_law_495 ?_
                      refine v_if (fun h119 => ?_)
                      refine v_cV (mi := mL L xs) (c0 := 0) (c1 := 0) (As := [pI (xs (w32 (s14.1 + 1))), pI (xs (w32 (s14.1 + 2))), pI (xs (w32 (s14.1 + 3)))]) (st := []) (kX10_stop d (by omega) _ _ _ _ _) rfl h119 rfl okX10_stop (Or.inl tw730) tw731 tw732 rfl (Nat.le_of_ble_eq_true rfl) dL_law_496 (fun r117 => [pI r117.1]) (fun r117 => r117.2) (fun _ => rfl) (fun _ => rfl) (fun r117 h118 => ?_) rfl
                      refine v_pop dL_law_499 (by intro z hz; cases hz) ?_
                      refine v_aload_n dL_law_500 rfl ?_
                      refine v_aload_n dL_law_501 rfl ?_
                      refine v_iload_n dL_law_502 rfl ?_
                      refine v_iconst dL_law_503 (by decide) ?_
                      refine v_iadd dL_law_504 ?_
                      refine v_if (fun h120 => ?_)
                      refine v_sld hxs h120 dL_law_505 ?_
                      refine v_aload_n dL_law_506 rfl ?_
                      refine v_iload_n dL_law_507 rfl ?_
                      refine v_iconst dL_law_508 (by decide) ?_
                      refine v_iadd dL_law_509 ?_
                      refine v_if (fun h121 => ?_)
                      refine v_sld hxs h121 dL_law_510 ?_
                      refine v_aload_n dL_law_511 rfl ?_
                      refine v_iload_n dL_law_512 rfl ?_
                      refine v_iconst dL_law_513 (by decide) ?_
                      refine v_iadd dL_law_514 ?_
                      refine v_if (fun h122 => ?_)
                      refine v_sld hxs h122 dL_law_515 ?_
                      refine v_if (fun h125 => ?_)
                      refine v_cV (mi := mL L xs) (c0 := 0) (c1 := 0) (As := [pI (xs (w32 (s14.1 + 1))), pI (xs (w32 (s14.1 + 2))), pI (xs (w32 (s14.1 + 3)))]) (st := []) (kX11_stop d (by omega) _ _ _ _ _) rfl h125 rfl okX11_stop (Or.inl tw1566) tw1567 tw1568 rfl (Nat.le_of_ble_eq_true rfl) dL_law_516 (fun r123 => [pI r123.1]) (fun r123 => r123.2) (fun _ => rfl) (fun _ => rfl) (fun r123 h124 => ?_) rfl
                      refine v_pop dL_law_519 (by intro z hz; cases hz) ?_
                      refine v_goto (tgt := 1590) dL_law_520 (by decide) ?_
                      refine v_iinc (ls' := [some (pA (-52)), some (pA (M.2.2.2 : Int)), some (pA (r4.2.2.2 : Int)), some (pI (w32 (s14.1 + 8)))]) dL_law_1590 (by first | decide | (show (_ : Nat) < 4; decide)) rfl rfl ?_
                      refine v_goto (tgt := 18) dL_law_1593 (by decide) ?_
                      exact v_bw (by first | omega | exact Nat.le_refl _) (by first | omega | exact Nat.le_refl _) (hrec13 (w32 (s14.1 + 8), r123.2))
                    · refine v_ite (fun h126 => ?_) (fun h126 => ?_)
                      · refine v_tabIn (off := 490) (tgt := 523) dL_law_33 h126 (by decide) ?_
                        refine v_aload_n dL_law_523 rfl ?_
                        refine v_aload_n dL_law_524 rfl ?_
                        refine v_iload_n dL_law_525 rfl ?_
                        refine v_iconst dL_law_526 (by decide) ?_
                        refine v_iadd dL_law_527 ?_
                        refine v_if (fun h127 => ?_)
                        refine v_sld hxs h127 dL_law_528 ?_
                        refine v_aload_n dL_law_529 rfl ?_
                        refine v_iload_n dL_law_530 rfl ?_
                        refine v_iconst dL_law_531 (by decide) ?_
                        refine v_iadd dL_law_532 ?_
                        refine v_if (fun h128 => ?_)
                        refine v_sld hxs h128 dL_law_533 ?_
                        refine v_aload_n dL_law_534 rfl ?_
                        refine v_iload_n dL_law_535 rfl ?_
                        refine v_iconst dL_law_536 (by decide) ?_
                        refine v_iadd dL_law_537 ?_
                        refine v_if (fun h129 => ?_)
                        refine v_sld hxs h129 dL_law_538 ?_
                        refine v_aload_n dL_law_539 rfl ?_
                        refine v_iload_n dL_law_540 rfl ?_
                        refine v_iconst dL_law_541 (by decide) ?_
                        refine v_iadd dL_law_542 ?_
                        refine v_if (fun h130 => ?_)
                        refine v_sld hxs h130 dL_law_543 ?_
                        refine v_aload_n dL_law_544 rfl ?_
                        refine v_iload_n dL_law_545 rfl ?_
                        refine v_iconst dL_law_546 (by decide) ?_
                        refine v_iadd dL_law_547 ?_
                        refine v_if (fun h131 => ?_)
                        refine v_sld hxs h131 dL_law_548 ?_
                        refine v_if (fun h134 => ?_)
                        refine v_cV (mi := mL L xs) (c0 := 0) (c1 := 0) (As := [pI (xs (w32 (s14.1 + 1))), pI (xs (w32 (s14.1 + 2))), pI (xs (w32 (s14.1 + 3))), pI (xs (w32 (s14.1 + 4))), pI (xs (w32 (s14.1 + 5)))]) (st := []) (kX10_state d (by omega) _ _ _ _ _ _ _) rfl h134 rfl okX10_state (Or.inl tw797) tw798 tw799 rfl (Nat.le_of_ble_eq_true rfl) dL_law_549 (fun r132 => [pI r132.1]) (fun r132 => r132.2) (fun _ => rfl) (fun _ => rfl) (fun r132 h133 => ?_) rfl
                        refine v_pop dL_law_552 (by intro z hz; cases hz) ?_
                        refine v_aload_n dL_law_553 rfl ?_
                        refine v_aload_n dL_law_554 rfl ?_
                        refine v_iload_n dL_law_555 rfl ?_
                        refine v_iconst dL_law_556 (by decide) ?_
                        refine v_iadd dL_law_557 ?_
                        refine v_if (fun h135 => ?_)
                        refine v_sld hxs h135 dL_law_558 ?_
                        refine v_aload_n dL_law_559 rfl ?_
                        refine v_iload_n dL_law_560 rfl ?_
                        refine v_iconst dL_law_561 (by decide) ?_
                        refine v_iadd dL_law_562 ?_
                        refine v_if (fun h136 => ?_)
                        refine v_sld hxs h136 dL_law_563 ?_
                        refine v_aload_n dL_law_564 rfl ?_
                        refine v_iload_n dL_law_565 rfl ?_
                        refine v_iconst dL_law_566 (by decide) ?_
                        refine v_iadd dL_law_567 ?_
                        refine v_if (fun h137 => ?_)
                        refine v_sld hxs h137 dL_law_568 ?_
                        refine v_aload_n dL_law_569 rfl ?_
                        refine v_iload_n dL_law_570 rfl ?_
                        refine v_iconst dL_law_571 (by decide) ?_
                        refine v_iadd dL_law_572 ?_
                        refine v_if (fun h138 => ?_)
                        refine v_sld hxs h138 dL_law_573 ?_
                        refine v_aload_n dL_law_574 rfl ?_
                        refine v_iload_n dL_law_575 rfl ?_
                        refine v_iconst dL_law_576 (by decide) ?_
                        refine v_iadd dL_law_577 ?_
                        refine v_if (fun h139 => ?_)
                        refine v_sld hxs h139 dL_law_578 ?_
                        refine v_if (fun h142 => ?_)
                        refine v_cV (mi := mL L xs) (c0 := 0) (c1 := 0) (As := [pI (xs (w32 (s14.1 + 1))), pI (xs (w32 (s14.1 + 2))), pI (xs (w32 (s14.1 + 3))), pI (xs (w32 (s14.1 + 4))), pI (xs (w32 (s14.1 + 5)))]) (st := []) (kX11_state d (by omega) _ _ _ _ _ _ _) rfl h142 rfl okX11_state (Or.inl tw1617) tw1618 tw1619 rfl (Nat.le_of_ble_eq_true rfl) dL_law_579 (fun r140 => [pI r140.1]) (fun r140 => r140.2) (fun _ => rfl) (fun _ => rfl) (fun r140 h141 => ?_) rfl
                        refine v_pop dL_law_582 (by intro z hz; cases hz) ?_
                        refine v_goto (tgt := 1590) dL_law_583 (by decide) ?_
                        refine v_iinc (ls' := [some (pA (-52)), some (pA (M.2.2.2 : Int)), some (pA (r4.2.2.2 : Int)), some (pI (w32 (s14.1 + 8)))]) dL_law_1590 (by first | decide | (show (_ : Nat) < 4; decide)) rfl rfl ?_
                        refine v_goto (tgt := 18) dL_law_1593 (by decide) ?_
                        exact v_bw (by first | omega | exact Nat.le_refl _) (by first | omega | exact Nat.le_refl _) (hrec13 (w32 (s14.1 + 8), r140.2))
                      · refine v_ite (fun h143 => ?_) (fun h143 => ?_)
                        · refine v_tabIn (off := 553) (tgt := 586) dL_law_33 h143 (by decide) ?_
                          refine v_aload_n dL_law_586 rfl ?_
                          refine v_aload_n dL_law_587 rfl ?_
                          refine v_iload_n dL_law_588 rfl ?_
                          refine v_iconst dL_law_589 (by decide) ?_
                          refine v_iadd dL_law_590 ?_
                          refine v_if (fun h144 => ?_)
                          refine v_sld hxs h144 dL_law_591 ?_
                          refine v_aload_n dL_law_592 rfl ?_
                          refine v_iload_n dL_law_593 rfl ?_
                          refine v_iconst dL_law_594 (by decide) ?_
                          refine v_iadd dL_law_595 ?_
                          refine v_if (fun h145 => ?_)
                          refine v_sld hxs h145 dL_law_596 ?_
                          refine v_aload_n dL_law_597 rfl ?_
                          refine v_iload_n dL_law_598 rfl ?_
                          refine v_iconst dL_law_599 (by decide) ?_
                          refine v_iadd dL_law_600 ?_
                          refine v_if (fun h146 => ?_)
                          refine v_sld hxs h146 dL_law_601 ?_
                          refine v_aload_n dL_law_602 rfl ?_
                          refine v_iload_n dL_law_603 rfl ?_
                          refine v_iconst dL_law_604 (by decide) ?_
                          refine v_iadd dL_law_605 ?_
                          refine v_if (fun h147 => ?_)
                          refine v_sld hxs h147 dL_law_606 ?_
                          refine v_aload_n dL_law_607 rfl ?_
                          refine v_iload_n dL_law_608 rfl ?_
                          refine v_iconst dL_law_609 (by decide) ?_
                          refine v_iadd dL_law_610 ?_
                          refine v_if (fun h148 => ?_)
                          refine v_sld hxs h148 dL_law_611 ?_
                          refine v_aload_n dL_law_612 rfl ?_
                          refine v_iload_n dL_law_613 rfl ?_
                          refine v_bipush dL_law_614 (by decide) ?_
                          refine v_iadd dL_law_616 ?_
                          refine v_if (fun h149 => ?_)
                          refine v_sld hxs h149 dL_law_617 ?_
                          refine v_aload_n dL_law_618 rfl ?_
                          refine v_iload_n dL_law_619 rfl ?_
                          refine v_bipush dL_law_620 (by decide) ?_
                          refine v_iadd dL_law_622 ?_
                          refine v_if (fun h150 => ?_)
                          refine v_sld hxs h150 dL_law_623 ?_
                          refine v_if (fun h153 => ?_)
                          refine v_cV (mi := mL L xs) (c0 := 0) (c1 := 0) (As := [pI (xs (w32 (s14.1 + 1))), pI (xs (w32 (s14.1 + 2))), pI (xs (w32 (s14.1 + 3))), pI (xs (w32 (s14.1 + 4))), pI (xs (w32 (s14.1 + 5))), pI (xs (w32 (s14.1 + 6))), pI (xs (w32 (s14.1 + 7)))]) (st := []) (kX10_goods d (by omega) _ _ _ _ _ _ _ _ _) rfl h153 rfl okX10_goods (Or.inl tw845) tw846 tw847 rfl (Nat.le_of_ble_eq_true rfl) dL_law_624 (fun r151 => [pI r151.1]) (fun r151 => r151.2) (fun _ => rfl) (fun _ => rfl) (fun r151 h152 => ?_) rfl
                          refine v_pop dL_law_627 (by intro z hz; cases hz) ?_
                          refine v_aload_n dL_law_628 rfl ?_
                          refine v_aload_n dL_law_629 rfl ?_
                          refine v_iload_n dL_law_630 rfl ?_
                          refine v_iconst dL_law_631 (by decide) ?_
                          refine v_iadd dL_law_632 ?_
                          refine v_if (fun h154 => ?_)
                          refine v_sld hxs h154 dL_law_633 ?_
                          refine v_aload_n dL_law_634 rfl ?_
                          refine v_iload_n dL_law_635 rfl ?_
                          refine v_iconst dL_law_636 (by decide) ?_
                          refine v_iadd dL_law_637 ?_
                          refine v_if (fun h155 => ?_)
                          refine v_sld hxs h155 dL_law_638 ?_
                          refine v_aload_n dL_law_639 rfl ?_
                          refine v_iload_n dL_law_640 rfl ?_
                          refine v_iconst dL_law_641 (by decide) ?_
                          refine v_iadd dL_law_642 ?_
                          refine v_if (fun h156 => ?_)
                          refine v_sld hxs h156 dL_law_643 ?_
                          refine v_aload_n dL_law_644 rfl ?_
                          refine v_iload_n dL_law_645 rfl ?_
                          refine v_iconst dL_law_646 (by decide) ?_
                          refine v_iadd dL_law_647 ?_
                          refine v_if (fun h157 => ?_)
                          refine v_sld hxs h157 dL_law_648 ?_
                          refine v_aload_n dL_law_649 rfl ?_
                          refine v_iload_n dL_law_650 rfl ?_
                          refine v_iconst dL_law_651 (by decide) ?_
                          refine v_iadd dL_law_652 ?_
                          refine v_if (fun h158 => ?_)
                          refine v_sld hxs h158 dL_law_653 ?_
                          refine v_aload_n dL_law_654 rfl ?_
                          refine v_iload_n dL_law_655 rfl ?_
                          refine v_bipush dL_law_656 (by decide) ?_
                          refine v_iadd dL_law_658 ?_
                          refine v_if (fun h159 => ?_)
                          refine v_sld hxs h159 dL_law_659 ?_
                          refine v_aload_n dL_law_660 rfl ?_
                          refine v_iload_n dL_law_661 rfl ?_
                          refine v_bipush dL_law_662 (by decide) ?_
                          refine v_iadd dL_law_664 ?_
                          refine v_if (fun h160 => ?_)
                          refine v_sld hxs h160 dL_law_665 ?_
                          refine v_if (fun h163 => ?_)
                          refine v_cV (mi := mL L xs) (c0 := 0) (c1 := 0) (As := [pI (xs (w32 (s14.1 + 1))), pI (xs (w32 (s14.1 + 2))), pI (xs (w32 (s14.1 + 3))), pI (xs (w32 (s14.1 + 4))), pI (xs (w32 (s14.1 + 5))), pI (xs (w32 (s14.1 + 6))), pI (xs (w32 (s14.1 + 7)))]) (st := []) (kX11_goods d (by omega) _ _ _ _ _ _ _ _ _) rfl h163 rfl okX11_goods (Or.inl tw1649) tw1650 tw1651 rfl (Nat.le_of_ble_eq_true rfl) dL_law_666 (fun r161 => [pI r161.1]) (fun r161 => r161.2) (fun _ => rfl) (fun _ => rfl) (fun r161 h162 => ?_) rfl
                          refine v_pop dL_law_669 (by intro z hz; cases hz) ?_
                          refine v_goto (tgt := 1590) dL_law_670 (by decide) ?_
                          refine v_iinc (ls' := [some (pA (-52)), some (pA (M.2.2.2 : Int)), some (pA (r4.2.2.2 : Int)), some (pI (w32 (s14.1 + 8)))]) dL_law_1590 (by first | decide | (show (_ : Nat) < 4; decide)) rfl rfl ?_
                          refine v_goto (tgt := 18) dL_law_1593 (by decide) ?_
                          exact v_bw (by first | omega | exact Nat.le_refl _) (by first | omega | exact Nat.le_refl _) (hrec13 (w32 (s14.1 + 8), r161.2))
                        · refine v_ite (fun h164 => ?_) (fun h164 => ?_)
                          · refine v_tabIn (off := 640) (tgt := 673) dL_law_33 h164 (by decide) ?_
                            refine v_aload_n dL_law_673 rfl ?_
                            refine v_aload_n dL_law_674 rfl ?_
                            refine v_iload_n dL_law_675 rfl ?_
                            refine v_iconst dL_law_676 (by decide) ?_
                            refine v_iadd dL_law_677 ?_
                            refine v_if (fun h165 => ?_)
                            refine v_sld hxs h165 dL_law_678 ?_
                            refine v_aload_n dL_law_679 rfl ?_
                            refine v_iload_n dL_law_680 rfl ?_
                            refine v_iconst dL_law_681 (by decide) ?_
                            refine v_iadd dL_law_682 ?_
                            refine v_if (fun h166 => ?_)
                            refine v_sld hxs h166 dL_law_683 ?_
                            refine v_if (fun h169 => ?_)
                            refine v_cV (mi := mL L xs) (c0 := 0) (c1 := 0) (As := [pI (xs (w32 (s14.1 + 1))), pI (xs (w32 (s14.1 + 2)))]) (st := []) (kX10_aid d (by omega) _ _ _ _) rfl h169 rfl okX10_aid (Or.inl tw850) tw851 tw852 rfl (Nat.le_of_ble_eq_true rfl) dL_law_684 (fun r167 => [pI r167]) (fun r167 => s14.2) (fun _ => rfl) (fun _ => rfl) (fun r167 h168 => ?_) rfl
                            refine v_pop dL_law_687 (by intro z hz; cases hz) ?_
                            refine v_aload_n dL_law_688 rfl ?_
                            refine v_aload_n dL_law_689 rfl ?_
                            refine v_iload_n dL_law_690 rfl ?_
                            refine v_iconst dL_law_691 (by decide) ?_
                            refine v_iadd dL_law_692 ?_
                            refine v_if (fun h170 => ?_)
                            refine v_sld hxs h170 dL_law_693 ?_
                            refine v_aload_n dL_law_694 rfl ?_
                            refine v_iload_n dL_law_695 rfl ?_
                            refine v_iconst dL_law_696 (by decide) ?_
                            refine v_iadd dL_law_697 ?_
                            refine v_if (fun h171 => ?_)
                            refine v_sld hxs h171 dL_law_698 ?_
                            refine v_if (fun h174 => ?_)
                            refine v_cV (mi := mL L xs) (c0 := 0) (c1 := 0) (As := [pI (xs (w32 (s14.1 + 1))), pI (xs (w32 (s14.1 + 2)))]) (st := []) (kX11_aid d (by omega) _ _ _ _) rfl h174 rfl okX11_aid (Or.inl tw1653) tw1654 tw1655 rfl (Nat.le_of_ble_eq_true rfl) dL_law_699 (fun r172 => [pI r172.1]) (fun r172 => r172.2) (fun _ => rfl) (fun _ => rfl) (fun r172 h173 => ?_) rfl
                            refine v_pop dL_law_702 (by intro z hz; cases hz) ?_
                            refine v_goto (tgt := 1590) dL_law_703 (by decide) ?_
                            refine v_iinc (ls' := [some (pA (-52)), some (pA (M.2.2.2 : Int)), some (pA (r4.2.2.2 : Int)), some (pI (w32 (s14.1 + 8)))]) dL_law_1590 (by first | decide | (show (_ : Nat) < 4; decide)) rfl rfl ?_
                            refine v_goto (tgt := 18) dL_law_1593 (by decide) ?_
                            exact v_bw (by first | omega | exact Nat.le_refl _) (by first | omega | exact Nat.le_refl _) (hrec13 (w32 (s14.1 + 8), r172.2))
                          · refine v_ite (fun h175 => ?_) (fun h175 => ?_)
                            · refine v_tabIn (off := 673) (tgt := 706) dL_law_33 h175 (by decide) ?_
                              refine v_aload_n dL_law_706 rfl ?_
                              refine v_aload_n dL_law_707 rfl ?_
                              refine v_iload_n dL_law_708 rfl ?_
                              refine v_iconst dL_law_709 (by decide) ?_
                              refine v_iadd dL_law_710 ?_
                              refine v_if (fun h176 => ?_)
                              refine v_sld hxs h176 dL_law_711 ?_
                              refine v_if (fun h179 => ?_)
                              refine v_cV (mi := mL L xs) (c0 := 0) (c1 := 0) (As := [pI (xs (w32 (s14.1 + 1)))]) (st := []) (kX10_carry d (by omega) _ _ _) rfl h179 rfl okX10_carry (Or.inl tw886) tw887 tw888 rfl (Nat.le_of_ble_eq_true rfl) dL_law_712 (fun r177 => [pI r177.1]) (fun r177 => r177.2) (fun _ => rfl) (fun _ => rfl) (fun r177 h178 => ?_) rfl
                              refine v_pop dL_law_715 (by intro z hz; cases hz) ?_
                              refine v_aload_n dL_law_716 rfl ?_
                              refine v_aload_n dL_law_717 rfl ?_
                              refine v_iload_n dL_law_718 rfl ?_
                              refine v_iconst dL_law_719 (by decide) ?_
                              refine v_iadd dL_law_720 ?_
                              refine v_if (fun h180 => ?_)
                              refine v_sld hxs h180 dL_law_721 ?_
                              refine v_if (fun h183 => ?_)
                              refine v_cV (mi := mL L xs) (c0 := 0) (c1 := 0) (As := [pI (xs (w32 (s14.1 + 1)))]) (st := []) (kX11_carry d (by omega) _ _ _) rfl h183 rfl okX11_carry (Or.inl tw1672) tw1673 tw1674 rfl (Nat.le_of_ble_eq_true rfl) dL_law_722 (fun r181 => [pI r181.1]) (fun r181 => r181.2) (fun _ => rfl) (fun _ => rfl) (fun r181 h182 => ?_) rfl
                              refine v_pop dL_law_725 (by intro z hz; cases hz) ?_
                              refine v_goto (tgt := 1590) dL_law_726 (by decide) ?_
                              refine v_iinc (ls' := [some (pA (-52)), some (pA (M.2.2.2 : Int)), some (pA (r4.2.2.2 : Int)), some (pI (w32 (s14.1 + 8)))]) dL_law_1590 (by first | decide | (show (_ : Nat) < 4; decide)) rfl rfl ?_
                              refine v_goto (tgt := 18) dL_law_1593 (by decide) ?_
                              exact v_bw (by first | omega | exact Nat.le_refl _) (by first | omega | exact Nat.le_refl _) (hrec13 (w32 (s14.1 + 8), r181.2))
                            · refine v_ite (fun h184 => ?_) (fun h184 => ?_)
                              · refine v_tabIn (off := 696) (tgt := 729) dL_law_33 h184 (by decide) ?_
                                refine v_aload_n dL_law_729 rfl ?_
                                refine v_aload_n dL_law_730 rfl ?_
                                refine v_iload_n dL_law_731 rfl ?_
                                refine v_iconst dL_law_732 (by decide) ?_
                                refine v_iadd dL_law_733 ?_
                                refine v_if (fun h185 => ?_)
                                refine v_sld hxs h185 dL_law_734 ?_
                                refine v_aload_n dL_law_735 rfl ?_
                                refine v_iload_n dL_law_736 rfl ?_
                                refine v_iconst dL_law_737 (by decide) ?_
                                refine v_iadd dL_law_738 ?_
                                refine v_if (fun h186 => ?_)
                                refine v_sld hxs h186 dL_law_739 ?_
                                refine v_if (fun h189 => ?_)
                                refine v_cV (mi := mL L xs) (c0 := 0) (c1 := 0) (As := [pI (xs (w32 (s14.1 + 1))), pI (xs (w32 (s14.1 + 2)))]) (st := []) (kX10_round d (by omega) _ _ _ _) rfl h189 rfl okX10_round (Or.inl tw909) tw910 tw911 rfl (Nat.le_of_ble_eq_true rfl) dL_law_740 (fun r187 => [pI r187]) (fun r187 => s14.2) (fun _ => rfl) (fun _ => rfl) (fun r187 h188 => ?_) rfl
                                refine v_aload_n dL_law_743 rfl ?_
                                refine v_aload_n dL_law_744 rfl ?_
                                refine v_iload_n dL_law_745 rfl ?_
                                refine v_iconst dL_law_746 (by decide) ?_
                                refine v_iadd dL_law_747 ?_
                                refine v_if (fun h190 => ?_)
                                refine v_sld hxs h190 dL_law_748 ?_
                                refine v_aload_n dL_law_749 rfl ?_
                                refine v_iload_n dL_law_750 rfl ?_
                                refine v_iconst dL_law_751 (by decide) ?_
                                refine v_iadd dL_law_752 ?_
                                refine v_if (fun h191 => ?_)
                                refine v_sld hxs h191 dL_law_753 ?_
                                refine v_if (fun h194 => ?_)
                                refine v_cV (mi := mL L xs) (c0 := 0) (c1 := 0) (As := [pI (xs (w32 (s14.1 + 1))), pI (xs (w32 (s14.1 + 2)))]) (st := [pI r187]) (kX11_round d (by omega) _ _ _ _) rfl h194 rfl okX11_round (Or.inl tw1688) tw1689 tw1690 rfl (Nat.le_of_ble_eq_true rfl) dL_law_754 (fun r192 => [pI r192.1, pI r187]) (fun r192 => r192.2) (fun _ => rfl) (fun _ => rfl) (fun r192 h193 => ?_) rfl
                                refine v_icmp_eq (tgt := 1590) dL_law_757 (by decide) (fun c195 => ?_) (fun c195 => ?_)
                                · refine v_iinc (ls' := [some (pA (-52)), some (pA (M.2.2.2 : Int)), some (pA (r4.2.2.2 : Int)), some (pI (w32 (s14.1 + 8)))]) dL_law_1590 (by first | decide | (show (_ : Nat) < 4; decide)) rfl rfl ?_
                                  refine v_goto (tgt := 18) dL_law_1593 (by decide) ?_
                                  exact v_bw (by first | omega | exact Nat.le_refl _) (by first | omega | exact Nat.le_refl _) (hrec13 (w32 (s14.1 + 8), r192.2))
                                · refine v_iconst dL_law_760 (by decide) ?_
                                  exact v_breturn dL_law_761 rfl (by first | decide | (show (_ : Nat) < 4; decide)) rfl
                              · refine v_ite (fun h196 => ?_) (fun h196 => ?_)
                                · refine v_tabIn (off := 729) (tgt := 762) dL_law_33 h196 (by decide) ?_
                                  refine v_aload_n dL_law_762 rfl ?_
                                  refine v_aload_n dL_law_763 rfl ?_
                                  refine v_iload_n dL_law_764 rfl ?_
                                  refine v_iconst dL_law_765 (by decide) ?_
                                  refine v_iadd dL_law_766 ?_
                                  refine v_if (fun h197 => ?_)
                                  refine v_sld hxs h197 dL_law_767 ?_
                                  refine v_aload_n dL_law_768 rfl ?_
                                  refine v_iload_n dL_law_769 rfl ?_
                                  refine v_iconst dL_law_770 (by decide) ?_
                                  refine v_iadd dL_law_771 ?_
                                  refine v_if (fun h198 => ?_)
                                  refine v_sld hxs h198 dL_law_772 ?_
                                  refine v_aload_n dL_law_773 rfl ?_
                                  refine v_iload_n dL_law_774 rfl ?_
                                  refine v_iconst dL_law_775 (by decide) ?_
                                  refine v_iadd dL_law_776 ?_
                                  refine v_if (fun h199 => ?_)
                                  refine v_sld hxs h199 dL_law_777 ?_
                                  refine v_if (fun h202 => ?_)
                                  refine v_cV (mi := mL L xs) (c0 := 0) (c1 := 0) (As := [pI (xs (w32 (s14.1 + 1))), pI (xs (w32 (s14.1 + 2))), pI (xs (w32 (s14.1 + 3)))]) (st := []) (kX10_meets d (by omega) _ _ _ _ _) rfl h202 rfl okX10_meets (Or.inl tw925) tw926 tw927 rfl (Nat.le_of_ble_eq_true rfl) dL_law_778 (fun r200 => [pI r200]) (fun r200 => s14.2) (fun _ => rfl) (fun _ => rfl) (fun r200 h201 => ?_) rfl
                                  refine v_pop dL_law_781 (by intro z hz; cases hz) ?_
                                  refine v_aload_n dL_law_782 rfl ?_
                                  refine v_aload_n dL_law_783 rfl ?_
                                  refine v_iload_n dL_law_784 rfl ?_
                                  refine v_iconst dL_law_785 (by decide) ?_
                                  refine v_iadd dL_law_786 ?_
                                  refine v_if (fun h203 => ?_)
                                  refine v_sld hxs h203 dL_law_787 ?_
                                  refine v_aload_n dL_law_788 rfl ?_
                                  refine v_iload_n dL_law_789 rfl ?_
                                  refine v_iconst dL_law_790 (by decide) ?_
                                  refine v_iadd dL_law_791 ?_
                                  refine v_if (fun h204 => ?_)
                                  refine v_sld hxs h204 dL_law_792 ?_
                                  refine v_aload_n dL_law_793 rfl ?_
                                  refine v_iload_n dL_law_794 rfl ?_
                                  refine v_iconst dL_law_795 (by decide) ?_
                                  refine v_iadd dL_law_796 ?_
                                  refine v_if (fun h205 => ?_)
                                  refine v_sld hxs h205 dL_law_797 ?_
                                  refine v_if (fun h208 => ?_)
                                  refine v_cV (mi := mL L xs) (c0 := 0) (c1 := 0) (As := [pI (xs (w32 (s14.1 + 1))), pI (xs (w32 (s14.1 + 2))), pI (xs (w32 (s14.1 + 3)))]) (st := []) (kX11_meets d (by omega) _ _ _ _ _) rfl h208 rfl okX11_meets (Or.inl tw1699) tw1700 tw1701 rfl (Nat.le_of_ble_eq_true rfl) dL_law_798 (fun r206 => [pI r206.1]) (fun r206 => r206.2) (fun _ => rfl) (fun _ => rfl) (fun r206 h207 => ?_) rfl
                                  refine v_pop dL_law_801 (by intro z hz; cases hz) ?_
                                  refine v_goto (tgt := 1590) dL_law_802 (by decide) ?_
                                  refine v_iinc (ls' := [some (pA (-52)), some (pA (M.2.2.2 : Int)), some (pA (r4.2.2.2 : Int)), some (pI (w32 (s14.1 + 8)))]) dL_law_1590 (by first | decide | (show (_ : Nat) < 4; decide)) rfl rfl ?_
                                  refine v_goto (tgt := 18) dL_law_1593 (by decide) ?_
                                  exact v_bw (by first | omega | exact Nat.le_refl _) (by first | omega | exact Nat.le_refl _) (hrec13 (w32 (s14.1 + 8), r206.2))
                                · refine v_ite (fun h209 => ?_) (fun h209 => ?_)
                                  · refine v_tabIn (off := 772) (tgt := 805) dL_law_33 h209 (by decide) ?_
                                    refine v_aload_n dL_law_805 rfl ?_
                                    refine v_aload_n dL_law_806 rfl ?_
                                    refine v_iload_n dL_law_807 rfl ?_
                                    refine v_iconst dL_law_808 (by decide) ?_
                                    refine v_iadd dL_law_809 ?_
                                    refine v_if (fun h210 => ?_)
                                    refine v_sld hxs h210 dL_law_810 ?_
                                    refine v_aload_n dL_law_811 rfl ?_
                                    refine v_iload_n dL_law_812 rfl ?_
                                    refine v_iconst dL_law_813 (by decide) ?_
                                    refine v_iadd dL_law_814 ?_
                                    refine v_if (fun h211 => ?_)
                                    refine v_sld hxs h211 dL_law_815 ?_
                                    refine v_if (fun h214 => ?_)
                                    refine v_cV (mi := mL L xs) (c0 := 0) (c1 := 0) (As := [pI (xs (w32 (s14.1 + 1))), pI (xs (w32 (s14.1 + 2)))]) (st := []) (kX10_sight d (by omega) _ _ _ _) rfl h214 rfl okX10_sight (Or.inl tw933) tw934 tw935 rfl (Nat.le_of_ble_eq_true rfl) dL_law_816 (fun r212 => [pI r212]) (fun r212 => s14.2) (fun _ => rfl) (fun _ => rfl) (fun r212 h213 => ?_) rfl
                                    refine v_pop dL_law_819 (by intro z hz; cases hz) ?_
                                    refine v_aload_n dL_law_820 rfl ?_
                                    refine v_aload_n dL_law_821 rfl ?_
                                    refine v_iload_n dL_law_822 rfl ?_
                                    refine v_iconst dL_law_823 (by decide) ?_
                                    refine v_iadd dL_law_824 ?_
                                    refine v_if (fun h215 => ?_)
                                    refine v_sld hxs h215 dL_law_825 ?_
                                    refine v_aload_n dL_law_826 rfl ?_
                                    refine v_iload_n dL_law_827 rfl ?_
                                    refine v_iconst dL_law_828 (by decide) ?_
                                    refine v_iadd dL_law_829 ?_
                                    refine v_if (fun h216 => ?_)
                                    refine v_sld hxs h216 dL_law_830 ?_
                                    refine v_if (fun h219 => ?_)
                                    refine v_cV (mi := mL L xs) (c0 := 0) (c1 := 0) (As := [pI (xs (w32 (s14.1 + 1))), pI (xs (w32 (s14.1 + 2)))]) (st := []) (kX11_sight d (by omega) _ _ _ _) rfl h219 rfl okX11_sight (Or.inl tw1703) tw1704 tw1705 rfl (Nat.le_of_ble_eq_true rfl) dL_law_831 (fun r217 => [pI r217.1]) (fun r217 => r217.2) (fun _ => rfl) (fun _ => rfl) (fun r217 h218 => ?_) rfl
                                    refine v_pop dL_law_834 (by intro z hz; cases hz) ?_
                                    refine v_goto (tgt := 1590) dL_law_835 (by decide) ?_
                                    refine v_iinc (ls' := [some (pA (-52)), some (pA (M.2.2.2 : Int)), some (pA (r4.2.2.2 : Int)), some (pI (w32 (s14.1 + 8)))]) dL_law_1590 (by first | decide | (show (_ : Nat) < 4; decide)) rfl rfl ?_
                                    refine v_goto (tgt := 18) dL_law_1593 (by decide) ?_
                                    exact v_bw (by first | omega | exact Nat.le_refl _) (by first | omega | exact Nat.le_refl _) (hrec13 (w32 (s14.1 + 8), r217.2))
                                  · refine v_ite (fun h220 => ?_) (fun h220 => ?_)
                                    · refine v_tabIn (off := 805) (tgt := 838) dL_law_33 h220 (by decide) ?_
                                      refine v_aload_n dL_law_838 rfl ?_
                                      refine v_aload_n dL_law_839 rfl ?_
                                      refine v_iload_n dL_law_840 rfl ?_
                                      refine v_iconst dL_law_841 (by decide) ?_
                                      refine v_iadd dL_law_842 ?_
                                      refine v_if (fun h221 => ?_)
                                      refine v_sld hxs h221 dL_law_843 ?_
                                      refine v_aload_n dL_law_844 rfl ?_
                                      refine v_iload_n dL_law_845 rfl ?_
                                      refine v_iconst dL_law_846 (by decide) ?_
                                      refine v_iadd dL_law_847 ?_
                                      refine v_if (fun h222 => ?_)
                                      refine v_sld hxs h222 dL_law_848 ?_
                                      refine v_aload_n dL_law_849 rfl ?_
                                      refine v_iload_n dL_law_850 rfl ?_
                                      refine v_iconst dL_law_851 (by decide) ?_
                                      refine v_iadd dL_law_852 ?_
                                      refine v_if (fun h223 => ?_)
                                      refine v_sld hxs h223 dL_law_853 ?_
                                      refine v_aload_n dL_law_854 rfl ?_
                                      refine v_iload_n dL_law_855 rfl ?_
                                      refine v_iconst dL_law_856 (by decide) ?_
                                      refine v_iadd dL_law_857 ?_
                                      refine v_if (fun h224 => ?_)
                                      refine v_sld hxs h224 dL_law_858 ?_
                                      refine v_aload_n dL_law_859 rfl ?_
                                      refine v_iload_n dL_law_860 rfl ?_
                                      refine v_iconst dL_law_861 (by decide) ?_
                                      refine v_iadd dL_law_862 ?_
                                      refine v_if (fun h225 => ?_)
                                      refine v_sld hxs h225 dL_law_863 ?_
                                      refine v_if (fun h228 => ?_)
                                      refine v_cV (mi := mL L xs) (c0 := 0) (c1 := 0) (As := [pI (xs (w32 (s14.1 + 1))), pI (xs (w32 (s14.1 + 2))), pI (xs (w32 (s14.1 + 3))), pI (xs (w32 (s14.1 + 4))), pI (xs (w32 (s14.1 + 5)))]) (st := []) (kX10_hands d (by omega) _ _ _ _ _ _ _) rfl h228 rfl okX10_hands (Or.inl tw941) tw942 tw943 rfl (Nat.le_of_ble_eq_true rfl) dL_law_864 (fun r226 => [pI r226.1]) (fun r226 => r226.2) (fun _ => rfl) (fun _ => rfl) (fun r226 h227 => ?_) rfl
                                      refine v_pop dL_law_867 (by intro z hz; cases hz) ?_
                                      refine v_aload_n dL_law_868 rfl ?_
                                      refine v_aload_n dL_law_869 rfl ?_
                                      refine v_iload_n dL_law_870 rfl ?_
                                      refine v_iconst dL_law_871 (by decide) ?_
                                      refine v_iadd dL_law_872 ?_
                                      refine v_if (fun h229 => ?_)
                                      refine v_sld hxs h229 dL_law_873 ?_
                                      refine v_aload_n dL_law_874 rfl ?_
                                      refine v_iload_n dL_law_875 rfl ?_
                                      refine v_iconst dL_law_876 (by decide) ?_
                                      refine v_iadd dL_law_877 ?_
                                      refine v_if (fun h230 => ?_)
                                      refine v_sld hxs h230 dL_law_878 ?_
                                      refine v_aload_n dL_law_879 rfl ?_
                                      refine v_iload_n dL_law_880 rfl ?_
                                      refine v_iconst dL_law_881 (by decide) ?_
                                      refine v_iadd dL_law_882 ?_
                                      refine v_if (fun h231 => ?_)
                                      refine v_sld hxs h231 dL_law_883 ?_
                                      refine v_aload_n dL_law_884 rfl ?_
                                      refine v_iload_n dL_law_885 rfl ?_
                                      refine v_iconst dL_law_886 (by decide) ?_
                                      refine v_iadd dL_law_887 ?_
                                      refine v_if (fun h232 => ?_)
                                      refine v_sld hxs h232 dL_law_888 ?_
                                      refine v_aload_n dL_law_889 rfl ?_
                                      refine v_iload_n dL_law_890 rfl ?_
                                      refine v_iconst dL_law_891 (by decide) ?_
                                      refine v_iadd dL_law_892 ?_
                                      refine v_if (fun h233 => ?_)
                                      refine v_sld hxs h233 dL_law_893 ?_
                                      refine v_if (fun h236 => ?_)
                                      refine v_cV (mi := mL L xs) (c0 := 0) (c1 := 0) (As := [pI (xs (w32 (s14.1 + 1))), pI (xs (w32 (s14.1 + 2))), pI (xs (w32 (s14.1 + 3))), pI (xs (w32 (s14.1 + 4))), pI (xs (w32 (s14.1 + 5)))]) (st := []) (kX11_hands d (by omega) _ _ _ _ _ _ _) rfl h236 rfl okX11_hands (Or.inl tw1723) tw1724 tw1725 rfl (Nat.le_of_ble_eq_true rfl) dL_law_894 (fun r234 => [pI r234.1]) (fun r234 => r234.2) (fun _ => rfl) (fun _ => rfl) (fun r234 h235 => ?_) rfl
                                      refine v_pop dL_law_897 (by intro z hz; cases hz) ?_
                                      refine v_goto (tgt := 1590) dL_law_898 (by decide) ?_
                                      refine v_iinc (ls' := [some (pA (-52)), some (pA (M.2.2.2 : Int)), some (pA (r4.2.2.2 : Int)), some (pI (w32 (s14.1 + 8)))]) dL_law_1590 (by first | decide | (show (_ : Nat) < 4; decide)) rfl rfl ?_
                                      refine v_goto (tgt := 18) dL_law_1593 (by decide) ?_
                                      exact v_bw (by first | omega | exact Nat.le_refl _) (by first | omega | exact Nat.le_refl _) (hrec13 (w32 (s14.1 + 8), r234.2))
                                    · refine v_ite (fun h237 => ?_) (fun h237 => ?_)
                                      · refine v_tabIn (off := 868) (tgt := 901) dL_law_33 h237 (by decide) ?_
                                        refine v_aload_n dL_law_901 rfl ?_
                                        refine v_aload_n dL_law_902 rfl ?_
                                        refine v_iload_n dL_law_903 rfl ?_
                                        refine v_iconst dL_law_904 (by decide) ?_
                                        refine v_iadd dL_law_905 ?_
                                        refine v_if (fun h238 => ?_)
                                        refine v_sld hxs h238 dL_law_906 ?_
                                        refine v_aload_n dL_law_907 rfl ?_
                                        refine v_iload_n dL_law_908 rfl ?_
                                        refine v_iconst dL_law_909 (by decide) ?_
                                        refine v_iadd dL_law_910 ?_
                                        refine v_if (fun h239 => ?_)
                                        refine v_sld hxs h239 dL_law_911 ?_
                                        refine v_aload_n dL_law_912 rfl ?_
                                        refine v_iload_n dL_law_913 rfl ?_
                                        refine v_iconst dL_law_914 (by decide) ?_
                                        refine v_iadd dL_law_915 ?_
                                        refine v_if (fun h240 => ?_)
                                        refine v_sld hxs h240 dL_law_916 ?_
                                        refine v_join (fun (t242 : Int) => [some (pA (-52)), some (pA (M.2.2.2 : Int)), some (pA (r4.2.2.2 : Int)), some (pI s14.1)]) (fun (t242 : Int) => [pI t242, pI (xs (w32 (s14.1 + 2))), pI (xs (w32 (s14.1 + 1))), pA (M.2.2.2 : Int)]) (fun (t242 : Int) => s14.2) 925 (fun t242 => ?_) (fun j241 hj241 => ?_)
                                        · refine v_if (fun h245 => ?_)
                                          refine v_cV (mi := mL L xs) (c0 := 0) (c1 := 0) (As := [pI (xs (w32 (s14.1 + 1))), pI (xs (w32 (s14.1 + 2))), pI t242]) (st := []) (kX10_moved d (by omega) _ _ _ _ _) rfl h245 rfl okX10_moved (Or.inl tw967) tw968 tw969 rfl (Nat.le_of_ble_eq_true rfl) dL_law_925 (fun r243 => [pI r243]) (fun r243 => s14.2) (fun _ => rfl) (fun _ => rfl) (fun r243 h244 => ?_) rfl
                                          refine v_pop dL_law_928 (by intro z hz; cases hz) ?_
                                          refine v_aload_n dL_law_929 rfl ?_
                                          refine v_aload_n dL_law_930 rfl ?_
                                          refine v_iload_n dL_law_931 rfl ?_
                                          refine v_iconst dL_law_932 (by decide) ?_
                                          refine v_iadd dL_law_933 ?_
                                          refine v_if (fun h246 => ?_)
                                          refine v_sld hxs h246 dL_law_934 ?_
                                          refine v_aload_n dL_law_935 rfl ?_
                                          refine v_iload_n dL_law_936 rfl ?_
                                          refine v_iconst dL_law_937 (by decide) ?_
                                          refine v_iadd dL_law_938 ?_
                                          refine v_if (fun h247 => ?_)
                                          refine v_sld hxs h247 dL_law_939 ?_
                                          refine v_aload_n dL_law_940 rfl ?_
                                          refine v_iload_n dL_law_941 rfl ?_
                                          refine v_iconst dL_law_942 (by decide) ?_
                                          refine v_iadd dL_law_943 ?_
                                          refine v_if (fun h248 => ?_)
                                          refine v_sld hxs h248 dL_law_944 ?_
                                          refine v_join (fun (t250 : Int) => [some (pA (-52)), some (pA (M.2.2.2 : Int)), some (pA (r4.2.2.2 : Int)), some (pI s14.1)]) (fun (t250 : Int) => [pI t250, pI (xs (w32 (s14.1 + 2))), pI (xs (w32 (s14.1 + 1))), pA (r4.2.2.2 : Int)]) (fun (t250 : Int) => s14.2) 953 (fun t250 => ?_) (fun j249 hj249 => ?_)
                                          · refine v_if (fun h253 => ?_)
                                            refine v_cV (mi := mL L xs) (c0 := 0) (c1 := 0) (As := [pI (xs (w32 (s14.1 + 1))), pI (xs (w32 (s14.1 + 2))), pI t250]) (st := []) (kX11_moved d (by omega) _ _ _ _ _) rfl h253 rfl okX11_moved (Or.inl tw1734) tw1735 tw1736 rfl (Nat.le_of_ble_eq_true rfl) dL_law_953 (fun r251 => [pI r251.1]) (fun r251 => r251.2) (fun _ => rfl) (fun _ => rfl) (fun r251 h252 => ?_) rfl
                                            refine v_pop dL_law_956 (by intro z hz; cases hz) ?_
                                            refine v_goto (tgt := 1590) dL_law_957 (by decide) ?_
                                            refine v_iinc (ls' := [some (pA (-52)), some (pA (M.2.2.2 : Int)), some (pA (r4.2.2.2 : Int)), some (pI (w32 (s14.1 + 8)))]) dL_law_1590 (by first | decide | (show (_ : Nat) < 4; decide)) rfl rfl ?_
                                            refine v_goto (tgt := 18) dL_law_1593 (by decide) ?_
                                            exact v_bw (by first | omega | exact Nat.le_refl _) (by first | omega | exact Nat.le_refl _) (hrec13 (w32 (s14.1 + 8), r251.2))
                                          · refine v_if_eq (tgt := 952) dL_law_945 (by decide) (fun c254 => ?_) (fun c254 => ?_)
                                            · refine v_iconst dL_law_952 (by decide) ?_
                                              exact hj249 0
                                            · refine v_iconst dL_law_948 (by decide) ?_
                                              refine v_goto (tgt := 953) dL_law_949 (by decide) ?_
                                              exact hj249 1
                                        · refine v_if_eq (tgt := 924) dL_law_917 (by decide) (fun c255 => ?_) (fun c255 => ?_)
                                          · refine v_iconst dL_law_924 (by decide) ?_
                                            exact hj241 0
                                          · refine v_iconst dL_law_920 (by decide) ?_
                                            refine v_goto (tgt := 925) dL_law_921 (by decide) ?_
                                            exact hj241 1
                                      · refine v_ite (fun h256 => ?_) (fun h256 => ?_)
                                        · refine v_tabIn (off := 927) (tgt := 960) dL_law_33 h256 (by decide) ?_
                                          refine v_aload_n dL_law_960 rfl ?_
                                          refine v_aload_n dL_law_961 rfl ?_
                                          refine v_iload_n dL_law_962 rfl ?_
                                          refine v_iconst dL_law_963 (by decide) ?_
                                          refine v_iadd dL_law_964 ?_
                                          refine v_if (fun h257 => ?_)
                                          refine v_sld hxs h257 dL_law_965 ?_
                                          refine v_aload_n dL_law_966 rfl ?_
                                          refine v_iload_n dL_law_967 rfl ?_
                                          refine v_iconst dL_law_968 (by decide) ?_
                                          refine v_iadd dL_law_969 ?_
                                          refine v_if (fun h258 => ?_)
                                          refine v_sld hxs h258 dL_law_970 ?_
                                          refine v_aload_n dL_law_971 rfl ?_
                                          refine v_iload_n dL_law_972 rfl ?_
                                          refine v_iconst dL_law_973 (by decide) ?_
                                          refine v_iadd dL_law_974 ?_
                                          refine v_if (fun h259 => ?_)
                                          refine v_sld hxs h259 dL_law_975 ?_
                                          refine v_aload_n dL_law_976 rfl ?_
                                          refine v_iload_n dL_law_977 rfl ?_
                                          refine v_iconst dL_law_978 (by decide) ?_
                                          refine v_iadd dL_law_979 ?_
                                          refine v_if (fun h260 => ?_)
                                          refine v_sld hxs h260 dL_law_980 ?_
                                          refine v_aload_n dL_law_981 rfl ?_
                                          refine v_iload_n dL_law_982 rfl ?_
                                          refine v_iconst dL_law_983 (by decide) ?_
                                          refine v_iadd dL_law_984 ?_
                                          refine v_if (fun h261 => ?_)
                                          refine v_sld hxs h261 dL_law_985 ?_
                                          refine v_if (fun h264 => ?_)
                                          refine v_cV (mi := mL L xs) (c0 := 0) (c1 := 0) (As := [pI (xs (w32 (s14.1 + 1))), pI (xs (w32 (s14.1 + 2))), pI (xs (w32 (s14.1 + 3))), pI (xs (w32 (s14.1 + 4))), pI (xs (w32 (s14.1 + 5)))]) (st := []) (kX10_quit d (by omega) _ _ _ _ _ _ _) rfl h264 rfl okX10_quit (Or.inl tw985) tw986 tw987 rfl (Nat.le_of_ble_eq_true rfl) dL_law_986 (fun r262 => [pI r262]) (fun r262 => s14.2) (fun _ => rfl) (fun _ => rfl) (fun r262 h263 => ?_) rfl
                                          refine v_pop dL_law_989 (by intro z hz; cases hz) ?_
                                          refine v_aload_n dL_law_990 rfl ?_
                                          refine v_aload_n dL_law_991 rfl ?_
                                          refine v_iload_n dL_law_992 rfl ?_
                                          refine v_iconst dL_law_993 (by decide) ?_
                                          refine v_iadd dL_law_994 ?_
                                          refine v_if (fun h265 => ?_)
                                          refine v_sld hxs h265 dL_law_995 ?_
                                          refine v_aload_n dL_law_996 rfl ?_
                                          refine v_iload_n dL_law_997 rfl ?_
                                          refine v_iconst dL_law_998 (by decide) ?_
                                          refine v_iadd dL_law_999 ?_
                                          refine v_if (fun h266 => ?_)
                                          refine v_sld hxs h266 dL_law_1000 ?_
                                          refine v_aload_n dL_law_1001 rfl ?_
                                          refine v_iload_n dL_law_1002 rfl ?_
                                          refine v_iconst dL_law_1003 (by decide) ?_
                                          refine v_iadd dL_law_1004 ?_
                                          refine v_if (fun h267 => ?_)
                                          refine v_sld hxs h267 dL_law_1005 ?_
                                          refine v_aload_n dL_law_1006 rfl ?_
                                          refine v_iload_n dL_law_1007 rfl ?_
                                          refine v_iconst dL_law_1008 (by decide) ?_
                                          refine v_iadd dL_law_1009 ?_
                                          refine v_if (fun h268 => ?_)
                                          refine v_sld hxs h268 dL_law_1010 ?_
                                          refine v_aload_n dL_law_1011 rfl ?_
                                          refine v_iload_n dL_law_1012 rfl ?_
                                          refine v_iconst dL_law_1013 (by decide) ?_
                                          refine v_iadd dL_law_1014 ?_
                                          refine v_if (fun h269 => ?_)
                                          refine v_sld hxs h269 dL_law_1015 ?_
                                          refine v_if (fun h272 => ?_)
                                          refine v_cV (mi := mL L xs) (c0 := 0) (c1 := 0) (As := [pI (xs (w32 (s14.1 + 1))), pI (xs (w32 (s14.1 + 2))), pI (xs (w32 (s14.1 + 3))), pI (xs (w32 (s14.1 + 4))), pI (xs (w32 (s14.1 + 5)))]) (st := []) (kX11_quit d (by omega) _ _ _ _ _ _ _) rfl h272 rfl okX11_quit (Or.inl tw1742) tw1743 tw1744 rfl (Nat.le_of_ble_eq_true rfl) dL_law_1016 (fun r270 => [pI r270.1]) (fun r270 => r270.2) (fun _ => rfl) (fun _ => rfl) (fun r270 h271 => ?_) rfl
                                          refine v_pop dL_law_1019 (by intro z hz; cases hz) ?_
                                          refine v_goto (tgt := 1590) dL_law_1020 (by decide) ?_
                                          refine v_iinc (ls' := [some (pA (-52)), some (pA (M.2.2.2 : Int)), some (pA (r4.2.2.2 : Int)), some (pI (w32 (s14.1 + 8)))]) dL_law_1590 (by first | decide | (show (_ : Nat) < 4; decide)) rfl rfl ?_
                                          refine v_goto (tgt := 18) dL_law_1593 (by decide) ?_
                                          exact v_bw (by first | omega | exact Nat.le_refl _) (by first | omega | exact Nat.le_refl _) (hrec13 (w32 (s14.1 + 8), r270.2))
                                        · refine v_ite (fun h273 => ?_) (fun h273 => ?_)
                                          · refine v_tabIn (off := 990) (tgt := 1023) dL_law_33 h273 (by decide) ?_
                                            refine v_aload_n dL_law_1023 rfl ?_
                                            refine v_aload_n dL_law_1024 rfl ?_
                                            refine v_iload_n dL_law_1025 rfl ?_
                                            refine v_iconst dL_law_1026 (by decide) ?_
                                            refine v_iadd dL_law_1027 ?_
                                            refine v_if (fun h274 => ?_)
                                            refine v_sld hxs h274 dL_law_1028 ?_
                                            refine v_aload_n dL_law_1029 rfl ?_
                                            refine v_iload_n dL_law_1030 rfl ?_
                                            refine v_iconst dL_law_1031 (by decide) ?_
                                            refine v_iadd dL_law_1032 ?_
                                            refine v_if (fun h275 => ?_)
                                            refine v_sld hxs h275 dL_law_1033 ?_
                                            refine v_join (fun (t277 : Int) => [some (pA (-52)), some (pA (M.2.2.2 : Int)), some (pA (r4.2.2.2 : Int)), some (pI s14.1)]) (fun (t277 : Int) => [pI t277, pI (xs (w32 (s14.1 + 1))), pA (M.2.2.2 : Int)]) (fun (t277 : Int) => s14.2) 1042 (fun t277 => ?_) (fun j276 hj276 => ?_)
                                            · refine v_if (fun h280 => ?_)
                                              refine v_cV (mi := mL L xs) (c0 := 0) (c1 := 0) (As := [pI (xs (w32 (s14.1 + 1))), pI t277]) (st := []) (kX10_alms d (by omega) _ _ _ _) rfl h280 rfl okX10_alms (Or.inl tw1000) tw1001 tw1002 rfl (Nat.le_of_ble_eq_true rfl) dL_law_1042 (fun r278 => [pI r278]) (fun r278 => s14.2) (fun _ => rfl) (fun _ => rfl) (fun r278 h279 => ?_) rfl
                                              refine v_pop dL_law_1045 (by intro z hz; cases hz) ?_
                                              refine v_aload_n dL_law_1046 rfl ?_
                                              refine v_aload_n dL_law_1047 rfl ?_
                                              refine v_iload_n dL_law_1048 rfl ?_
                                              refine v_iconst dL_law_1049 (by decide) ?_
                                              refine v_iadd dL_law_1050 ?_
                                              refine v_if (fun h281 => ?_)
                                              refine v_sld hxs h281 dL_law_1051 ?_
                                              refine v_aload_n dL_law_1052 rfl ?_
                                              refine v_iload_n dL_law_1053 rfl ?_
                                              refine v_iconst dL_law_1054 (by decide) ?_
                                              refine v_iadd dL_law_1055 ?_
                                              refine v_if (fun h282 => ?_)
                                              refine v_sld hxs h282 dL_law_1056 ?_
                                              refine v_join (fun (t284 : Int) => [some (pA (-52)), some (pA (M.2.2.2 : Int)), some (pA (r4.2.2.2 : Int)), some (pI s14.1)]) (fun (t284 : Int) => [pI t284, pI (xs (w32 (s14.1 + 1))), pA (r4.2.2.2 : Int)]) (fun (t284 : Int) => s14.2) 1065 (fun t284 => ?_) (fun j283 hj283 => ?_)
                                              · refine v_if (fun h287 => ?_)
                                                refine v_cV (mi := mL L xs) (c0 := 0) (c1 := 0) (As := [pI (xs (w32 (s14.1 + 1))), pI t284]) (st := []) (kX11_alms d (by omega) _ _ _ _) rfl h287 rfl okX11_alms (Or.inl tw1754) tw1755 tw1756 rfl (Nat.le_of_ble_eq_true rfl) dL_law_1065 (fun r285 => [pI r285.1]) (fun r285 => r285.2) (fun _ => rfl) (fun _ => rfl) (fun r285 h286 => ?_) rfl
                                                refine v_pop dL_law_1068 (by intro z hz; cases hz) ?_
                                                refine v_goto (tgt := 1590) dL_law_1069 (by decide) ?_
                                                refine v_iinc (ls' := [some (pA (-52)), some (pA (M.2.2.2 : Int)), some (pA (r4.2.2.2 : Int)), some (pI (w32 (s14.1 + 8)))]) dL_law_1590 (by first | decide | (show (_ : Nat) < 4; decide)) rfl rfl ?_
                                                refine v_goto (tgt := 18) dL_law_1593 (by decide) ?_
                                                exact v_bw (by first | omega | exact Nat.le_refl _) (by first | omega | exact Nat.le_refl _) (hrec13 (w32 (s14.1 + 8), r285.2))
                                              · refine v_if_eq (tgt := 1064) dL_law_1057 (by decide) (fun c288 => ?_) (fun c288 => ?_)
                                                · refine v_iconst dL_law_1064 (by decide) ?_
                                                  exact hj283 0
                                                · refine v_iconst dL_law_1060 (by decide) ?_
                                                  refine v_goto (tgt := 1065) dL_law_1061 (by decide) ?_
                                                  exact hj283 1
                                            · refine v_if_eq (tgt := 1041) dL_law_1034 (by decide) (fun c289 => ?_) (fun c289 => ?_)
                                              · refine v_iconst dL_law_1041 (by decide) ?_
                                                exact hj276 0
                                              · refine v_iconst dL_law_1037 (by decide) ?_
                                                refine v_goto (tgt := 1042) dL_law_1038 (by decide) ?_
                                                exact hj276 1
                                          · refine v_ite (fun h290 => ?_) (fun h290 => ?_)
                                            · refine v_tabIn (off := 1039) (tgt := 1072) dL_law_33 h290 (by decide) ?_
                                              refine v_aload_n dL_law_1072 rfl ?_
                                              refine v_aload_n dL_law_1073 rfl ?_
                                              refine v_iload_n dL_law_1074 rfl ?_
                                              refine v_iconst dL_law_1075 (by decide) ?_
                                              refine v_iadd dL_law_1076 ?_
                                              refine v_if (fun h291 => ?_)
                                              refine v_sld hxs h291 dL_law_1077 ?_
                                              refine v_aload_n dL_law_1078 rfl ?_
                                              refine v_iload_n dL_law_1079 rfl ?_
                                              refine v_iconst dL_law_1080 (by decide) ?_
                                              refine v_iadd dL_law_1081 ?_
                                              refine v_if (fun h292 => ?_)
                                              refine v_sld hxs h292 dL_law_1082 ?_
                                              refine v_aload_n dL_law_1083 rfl ?_
                                              refine v_iload_n dL_law_1084 rfl ?_
                                              refine v_iconst dL_law_1085 (by decide) ?_
                                              refine v_iadd dL_law_1086 ?_
                                              refine v_if (fun h293 => ?_)
                                              refine v_sld hxs h293 dL_law_1087 ?_
                                              refine v_if (fun h296 => ?_)
                                              refine v_cV (mi := mL L xs) (c0 := 0) (c1 := 0) (As := [pI (xs (w32 (s14.1 + 1))), pI (xs (w32 (s14.1 + 2))), pI (xs (w32 (s14.1 + 3)))]) (st := []) (kX10_prize d (by omega) _ _ _ _ _) rfl h296 rfl okX10_prize (Or.inl tw1007) tw1008 tw1009 rfl (Nat.le_of_ble_eq_true rfl) dL_law_1088 (fun r294 => [pI r294]) (fun r294 => s14.2) (fun _ => rfl) (fun _ => rfl) (fun r294 h295 => ?_) rfl
                                              refine v_pop dL_law_1091 (by intro z hz; cases hz) ?_
                                              refine v_aload_n dL_law_1092 rfl ?_
                                              refine v_aload_n dL_law_1093 rfl ?_
                                              refine v_iload_n dL_law_1094 rfl ?_
                                              refine v_iconst dL_law_1095 (by decide) ?_
                                              refine v_iadd dL_law_1096 ?_
                                              refine v_if (fun h297 => ?_)
                                              refine v_sld hxs h297 dL_law_1097 ?_
                                              refine v_aload_n dL_law_1098 rfl ?_
                                              refine v_iload_n dL_law_1099 rfl ?_
                                              refine v_iconst dL_law_1100 (by decide) ?_
                                              refine v_iadd dL_law_1101 ?_
                                              refine v_if (fun h298 => ?_)
                                              refine v_sld hxs h298 dL_law_1102 ?_
                                              refine v_aload_n dL_law_1103 rfl ?_
                                              refine v_iload_n dL_law_1104 rfl ?_
                                              refine v_iconst dL_law_1105 (by decide) ?_
                                              refine v_iadd dL_law_1106 ?_
                                              refine v_if (fun h299 => ?_)
                                              refine v_sld hxs h299 dL_law_1107 ?_
                                              refine v_if (fun h302 => ?_)
                                              refine v_cV (mi := mL L xs) (c0 := 0) (c1 := 0) (As := [pI (xs (w32 (s14.1 + 1))), pI (xs (w32 (s14.1 + 2))), pI (xs (w32 (s14.1 + 3)))]) (st := []) (kX11_prize d (by omega) _ _ _ _ _) rfl h302 rfl okX11_prize (Or.inl tw1758) tw1759 tw1760 rfl (Nat.le_of_ble_eq_true rfl) dL_law_1108 (fun r300 => [pI r300.1]) (fun r300 => r300.2) (fun _ => rfl) (fun _ => rfl) (fun r300 h301 => ?_) rfl
                                              refine v_pop dL_law_1111 (by intro z hz; cases hz) ?_
                                              refine v_goto (tgt := 1590) dL_law_1112 (by decide) ?_
                                              refine v_iinc (ls' := [some (pA (-52)), some (pA (M.2.2.2 : Int)), some (pA (r4.2.2.2 : Int)), some (pI (w32 (s14.1 + 8)))]) dL_law_1590 (by first | decide | (show (_ : Nat) < 4; decide)) rfl rfl ?_
                                              refine v_goto (tgt := 18) dL_law_1593 (by decide) ?_
                                              exact v_bw (by first | omega | exact Nat.le_refl _) (by first | omega | exact Nat.le_refl _) (hrec13 (w32 (s14.1 + 8), r300.2))
                                            · refine v_ite (fun h303 => ?_) (fun h303 => ?_)
                                              · refine v_tabIn (off := 1082) (tgt := 1115) dL_law_33 h303 (by decide) ?_
                                                refine v_aload_n dL_law_1115 rfl ?_
                                                refine v_aload_n dL_law_1116 rfl ?_
                                                refine v_iload_n dL_law_1117 rfl ?_
                                                refine v_iconst dL_law_1118 (by decide) ?_
                                                refine v_iadd dL_law_1119 ?_
                                                refine v_if (fun h304 => ?_)
                                                refine v_sld hxs h304 dL_law_1120 ?_
                                                refine v_aload_n dL_law_1121 rfl ?_
                                                refine v_iload_n dL_law_1122 rfl ?_
                                                refine v_iconst dL_law_1123 (by decide) ?_
                                                refine v_iadd dL_law_1124 ?_
                                                refine v_if (fun h305 => ?_)
                                                refine v_sld hxs h305 dL_law_1125 ?_
                                                refine v_if (fun h308 => ?_)
                                                refine v_cV (mi := mL L xs) (c0 := 0) (c1 := 0) (As := [pI (xs (w32 (s14.1 + 1))), pI (xs (w32 (s14.1 + 2)))]) (st := []) (kX10_rest d (by omega) _ _ _ _) rfl h308 rfl okX10_rest (Or.inl tw1019) tw1020 tw1021 rfl (Nat.le_of_ble_eq_true rfl) dL_law_1126 (fun r306 => [pI r306]) (fun r306 => s14.2) (fun _ => rfl) (fun _ => rfl) (fun r306 h307 => ?_) rfl
                                                refine v_pop dL_law_1129 (by intro z hz; cases hz) ?_
                                                refine v_aload_n dL_law_1130 rfl ?_
                                                refine v_aload_n dL_law_1131 rfl ?_
                                                refine v_iload_n dL_law_1132 rfl ?_
                                                refine v_iconst dL_law_1133 (by decide) ?_
                                                refine v_iadd dL_law_1134 ?_
                                                refine v_if (fun h309 => ?_)
                                                refine v_sld hxs h309 dL_law_1135 ?_
                                                refine v_aload_n dL_law_1136 rfl ?_
                                                refine v_iload_n dL_law_1137 rfl ?_
                                                refine v_iconst dL_law_1138 (by decide) ?_
                                                refine v_iadd dL_law_1139 ?_
                                                refine v_if (fun h310 => ?_)
                                                refine v_sld hxs h310 dL_law_1140 ?_
                                                refine v_if (fun h313 => ?_)
                                                refine v_cV (mi := mL L xs) (c0 := 0) (c1 := 0) (As := [pI (xs (w32 (s14.1 + 1))), pI (xs (w32 (s14.1 + 2)))]) (st := []) (kX11_rest d (by omega) _ _ _ _) rfl h313 rfl okX11_rest (Or.inl tw1770) tw1771 tw1772 rfl (Nat.le_of_ble_eq_true rfl) dL_law_1141 (fun r311 => [pI r311.1]) (fun r311 => r311.2) (fun _ => rfl) (fun _ => rfl) (fun r311 h312 => ?_) rfl
                                                refine v_pop dL_law_1144 (by intro z hz; cases hz) ?_
                                                refine v_goto (tgt := 1590) dL_law_1145 (by decide) ?_
                                                refine v_iinc (ls' := [some (pA (-52)), some (pA (M.2.2.2 : Int)), some (pA (r4.2.2.2 : Int)), some (pI (w32 (s14.1 + 8)))]) dL_law_1590 (by first | decide | (show (_ : Nat) < 4; decide)) rfl rfl ?_
                                                refine v_goto (tgt := 18) dL_law_1593 (by decide) ?_
                                                exact v_bw (by first | omega | exact Nat.le_refl _) (by first | omega | exact Nat.le_refl _) (hrec13 (w32 (s14.1 + 8), r311.2))
                                              · refine v_ite (fun h314 => ?_) (fun h314 => ?_)
                                                · refine v_tabIn (off := 1115) (tgt := 1148) dL_law_33 h314 (by decide) ?_
                                                  refine v_aload_n dL_law_1148 rfl ?_
                                                  refine v_aload_n dL_law_1149 rfl ?_
                                                  refine v_iload_n dL_law_1150 rfl ?_
                                                  refine v_iconst dL_law_1151 (by decide) ?_
                                                  refine v_iadd dL_law_1152 ?_
                                                  refine v_if (fun h315 => ?_)
                                                  refine v_sld hxs h315 dL_law_1153 ?_
                                                  refine v_aload_n dL_law_1154 rfl ?_
                                                  refine v_iload_n dL_law_1155 rfl ?_
                                                  refine v_iconst dL_law_1156 (by decide) ?_
                                                  refine v_iadd dL_law_1157 ?_
                                                  refine v_if (fun h316 => ?_)
                                                  refine v_sld hxs h316 dL_law_1158 ?_
                                                  refine v_aload_n dL_law_1159 rfl ?_
                                                  refine v_iload_n dL_law_1160 rfl ?_
                                                  refine v_iconst dL_law_1161 (by decide) ?_
                                                  refine v_iadd dL_law_1162 ?_
                                                  refine v_if (fun h317 => ?_)
                                                  refine v_sld hxs h317 dL_law_1163 ?_
                                                  refine v_join (fun (t319 : Int) => [some (pA (-52)), some (pA (M.2.2.2 : Int)), some (pA (r4.2.2.2 : Int)), some (pI s14.1)]) (fun (t319 : Int) => [pI t319, pI (xs (w32 (s14.1 + 2))), pI (xs (w32 (s14.1 + 1))), pA (M.2.2.2 : Int)]) (fun (t319 : Int) => s14.2) 1172 (fun t319 => ?_) (fun j318 hj318 => ?_)
                                                  · refine v_if (fun h322 => ?_)
                                                    refine v_cV (mi := mL L xs) (c0 := 0) (c1 := 0) (As := [pI (xs (w32 (s14.1 + 1))), pI (xs (w32 (s14.1 + 2))), pI t319]) (st := []) (kX10_share d (by omega) _ _ _ _ _) rfl h322 rfl okX10_share (Or.inl tw1032) tw1033 tw1034 rfl (Nat.le_of_ble_eq_true rfl) dL_law_1172 (fun r320 => [pI r320]) (fun r320 => s14.2) (fun _ => rfl) (fun _ => rfl) (fun r320 h321 => ?_) rfl
                                                    refine v_pop dL_law_1175 (by intro z hz; cases hz) ?_
                                                    refine v_aload_n dL_law_1176 rfl ?_
                                                    refine v_aload_n dL_law_1177 rfl ?_
                                                    refine v_iload_n dL_law_1178 rfl ?_
                                                    refine v_iconst dL_law_1179 (by decide) ?_
                                                    refine v_iadd dL_law_1180 ?_
                                                    refine v_if (fun h323 => ?_)
                                                    refine v_sld hxs h323 dL_law_1181 ?_
                                                    refine v_aload_n dL_law_1182 rfl ?_
                                                    refine v_iload_n dL_law_1183 rfl ?_
                                                    refine v_iconst dL_law_1184 (by decide) ?_
                                                    refine v_iadd dL_law_1185 ?_
                                                    refine v_if (fun h324 => ?_)
                                                    refine v_sld hxs h324 dL_law_1186 ?_
                                                    refine v_aload_n dL_law_1187 rfl ?_
                                                    refine v_iload_n dL_law_1188 rfl ?_
                                                    refine v_iconst dL_law_1189 (by decide) ?_
                                                    refine v_iadd dL_law_1190 ?_
                                                    refine v_if (fun h325 => ?_)
                                                    refine v_sld hxs h325 dL_law_1191 ?_
                                                    refine v_join (fun (t327 : Int) => [some (pA (-52)), some (pA (M.2.2.2 : Int)), some (pA (r4.2.2.2 : Int)), some (pI s14.1)]) (fun (t327 : Int) => [pI t327, pI (xs (w32 (s14.1 + 2))), pI (xs (w32 (s14.1 + 1))), pA (r4.2.2.2 : Int)]) (fun (t327 : Int) => s14.2) 1200 (fun t327 => ?_) (fun j326 hj326 => ?_)
                                                    · refine v_if (fun h330 => ?_)
                                                      refine v_cV (mi := mL L xs) (c0 := 0) (c1 := 0) (As := [pI (xs (w32 (s14.1 + 1))), pI (xs (w32 (s14.1 + 2))), pI t327]) (st := []) (kX11_share d (by omega) _ _ _ _ _) rfl h330 rfl okX11_share (Or.inl tw1778) tw1779 tw1780 rfl (Nat.le_of_ble_eq_true rfl) dL_law_1200 (fun r328 => [pI r328.1]) (fun r328 => r328.2) (fun _ => rfl) (fun _ => rfl) (fun r328 h329 => ?_) rfl
                                                      refine v_pop dL_law_1203 (by intro z hz; cases hz) ?_
                                                      refine v_goto (tgt := 1590) dL_law_1204 (by decide) ?_
                                                      refine v_iinc (ls' := [some (pA (-52)), some (pA (M.2.2.2 : Int)), some (pA (r4.2.2.2 : Int)), some (pI (w32 (s14.1 + 8)))]) dL_law_1590 (by first | decide | (show (_ : Nat) < 4; decide)) rfl rfl ?_
                                                      refine v_goto (tgt := 18) dL_law_1593 (by decide) ?_
                                                      exact v_bw (by first | omega | exact Nat.le_refl _) (by first | omega | exact Nat.le_refl _) (hrec13 (w32 (s14.1 + 8), r328.2))
                                                    · refine v_if_eq (tgt := 1199) dL_law_1192 (by decide) (fun c331 => ?_) (fun c331 => ?_)
                                                      · refine v_iconst dL_law_1199 (by decide) ?_
                                                        exact hj326 0
                                                      · refine v_iconst dL_law_1195 (by decide) ?_
                                                        refine v_goto (tgt := 1200) dL_law_1196 (by decide) ?_
                                                        exact hj326 1
                                                  · refine v_if_eq (tgt := 1171) dL_law_1164 (by decide) (fun c332 => ?_) (fun c332 => ?_)
                                                    · refine v_iconst dL_law_1171 (by decide) ?_
                                                      exact hj318 0
                                                    · refine v_iconst dL_law_1167 (by decide) ?_
                                                      refine v_goto (tgt := 1172) dL_law_1168 (by decide) ?_
                                                      exact hj318 1
                                                · refine v_ite (fun h333 => ?_) (fun h333 => ?_)
                                                  · refine v_tabIn (off := 1174) (tgt := 1207) dL_law_33 h333 (by decide) ?_
                                                    refine v_aload_n dL_law_1207 rfl ?_
                                                    refine v_aload_n dL_law_1208 rfl ?_
                                                    refine v_iload_n dL_law_1209 rfl ?_
                                                    refine v_iconst dL_law_1210 (by decide) ?_
                                                    refine v_iadd dL_law_1211 ?_
                                                    refine v_if (fun h334 => ?_)
                                                    refine v_sld hxs h334 dL_law_1212 ?_
                                                    refine v_aload_n dL_law_1213 rfl ?_
                                                    refine v_iload_n dL_law_1214 rfl ?_
                                                    refine v_iconst dL_law_1215 (by decide) ?_
                                                    refine v_iadd dL_law_1216 ?_
                                                    refine v_if (fun h335 => ?_)
                                                    refine v_sld hxs h335 dL_law_1217 ?_
                                                    refine v_if (fun h338 => ?_)
                                                    refine v_cV (mi := mL L xs) (c0 := 0) (c1 := 0) (As := [pI (xs (w32 (s14.1 + 1))), pI (xs (w32 (s14.1 + 2)))]) (st := []) (kX10_even d (by omega) _ _ _ _) rfl h338 rfl okX10_even (Or.inl tw1041) tw1042 tw1043 rfl (Nat.le_of_ble_eq_true rfl) dL_law_1218 (fun r336 => [pI r336]) (fun r336 => s14.2) (fun _ => rfl) (fun _ => rfl) (fun r336 h337 => ?_) rfl
                                                    refine v_pop dL_law_1221 (by intro z hz; cases hz) ?_
                                                    refine v_aload_n dL_law_1222 rfl ?_
                                                    refine v_aload_n dL_law_1223 rfl ?_
                                                    refine v_iload_n dL_law_1224 rfl ?_
                                                    refine v_iconst dL_law_1225 (by decide) ?_
                                                    refine v_iadd dL_law_1226 ?_
                                                    refine v_if (fun h339 => ?_)
                                                    refine v_sld hxs h339 dL_law_1227 ?_
                                                    refine v_aload_n dL_law_1228 rfl ?_
                                                    refine v_iload_n dL_law_1229 rfl ?_
                                                    refine v_iconst dL_law_1230 (by decide) ?_
                                                    refine v_iadd dL_law_1231 ?_
                                                    refine v_if (fun h340 => ?_)
                                                    refine v_sld hxs h340 dL_law_1232 ?_
                                                    refine v_if (fun h343 => ?_)
                                                    refine v_cV (mi := mL L xs) (c0 := 0) (c1 := 0) (As := [pI (xs (w32 (s14.1 + 1))), pI (xs (w32 (s14.1 + 2)))]) (st := []) (kX11_even d (by omega) _ _ _ _) rfl h343 rfl okX11_even (Or.inl tw1785) tw1786 tw1787 rfl (Nat.le_of_ble_eq_true rfl) dL_law_1233 (fun r341 => [pI r341.1]) (fun r341 => r341.2) (fun _ => rfl) (fun _ => rfl) (fun r341 h342 => ?_) rfl
                                                    refine v_pop dL_law_1236 (by intro z hz; cases hz) ?_
                                                    refine v_goto (tgt := 1590) dL_law_1237 (by decide) ?_
                                                    refine v_iinc (ls' := [some (pA (-52)), some (pA (M.2.2.2 : Int)), some (pA (r4.2.2.2 : Int)), some (pI (w32 (s14.1 + 8)))]) dL_law_1590 (by first | decide | (show (_ : Nat) < 4; decide)) rfl rfl ?_
                                                    refine v_goto (tgt := 18) dL_law_1593 (by decide) ?_
                                                    exact v_bw (by first | omega | exact Nat.le_refl _) (by first | omega | exact Nat.le_refl _) (hrec13 (w32 (s14.1 + 8), r341.2))
                                                  · refine v_ite (fun h344 => ?_) (fun h344 => ?_)
                                                    · refine v_tabIn (off := 1207) (tgt := 1240) dL_law_33 h344 (by decide) ?_
                                                      refine v_aload_n dL_law_1240 rfl ?_
                                                      refine v_aload_n dL_law_1241 rfl ?_
                                                      refine v_iload_n dL_law_1242 rfl ?_
                                                      refine v_iconst dL_law_1243 (by decide) ?_
                                                      refine v_iadd dL_law_1244 ?_
                                                      refine v_if (fun h345 => ?_)
                                                      refine v_sld hxs h345 dL_law_1245 ?_
                                                      refine v_aload_n dL_law_1246 rfl ?_
                                                      refine v_iload_n dL_law_1247 rfl ?_
                                                      refine v_iconst dL_law_1248 (by decide) ?_
                                                      refine v_iadd dL_law_1249 ?_
                                                      refine v_if (fun h346 => ?_)
                                                      refine v_sld hxs h346 dL_law_1250 ?_
                                                      refine v_aload_n dL_law_1251 rfl ?_
                                                      refine v_iload_n dL_law_1252 rfl ?_
                                                      refine v_iconst dL_law_1253 (by decide) ?_
                                                      refine v_iadd dL_law_1254 ?_
                                                      refine v_if (fun h347 => ?_)
                                                      refine v_sld hxs h347 dL_law_1255 ?_
                                                      refine v_aload_n dL_law_1256 rfl ?_
                                                      refine v_iload_n dL_law_1257 rfl ?_
                                                      refine v_iconst dL_law_1258 (by decide) ?_
                                                      refine v_iadd dL_law_1259 ?_
                                                      refine v_if (fun h348 => ?_)
                                                      refine v_sld hxs h348 dL_law_1260 ?_
                                                      refine v_aload_n dL_law_1261 rfl ?_
                                                      refine v_iload_n dL_law_1262 rfl ?_
                                                      refine v_iconst dL_law_1263 (by decide) ?_
                                                      refine v_iadd dL_law_1264 ?_
                                                      refine v_if (fun h349 => ?_)
                                                      refine v_sld hxs h349 dL_law_1265 ?_
                                                      refine v_if (fun h352 => ?_)
                                                      refine v_cV (mi := mL L xs) (c0 := 0) (c1 := 0) (As := [pI (xs (w32 (s14.1 + 1))), pI (xs (w32 (s14.1 + 2))), pI (xs (w32 (s14.1 + 3))), pI (xs (w32 (s14.1 + 4))), pI (xs (w32 (s14.1 + 5)))]) (st := []) (kX10_drawn d (by omega) _ _ _ _ _ _ _) rfl h352 rfl okX10_drawn (Or.inl tw1050) tw1051 tw1052 rfl (Nat.le_of_ble_eq_true rfl) dL_law_1266 (fun r350 => [pI r350.1]) (fun r350 => r350.2) (fun _ => rfl) (fun _ => rfl) (fun r350 h351 => ?_) rfl
                                                      refine v_pop dL_law_1269 (by intro z hz; cases hz) ?_
                                                      refine v_aload_n dL_law_1270 rfl ?_
                                                      refine v_aload_n dL_law_1271 rfl ?_
                                                      refine v_iload_n dL_law_1272 rfl ?_
                                                      refine v_iconst dL_law_1273 (by decide) ?_
                                                      refine v_iadd dL_law_1274 ?_
                                                      refine v_if (fun h353 => ?_)
                                                      refine v_sld hxs h353 dL_law_1275 ?_
                                                      refine v_aload_n dL_law_1276 rfl ?_
                                                      refine v_iload_n dL_law_1277 rfl ?_
                                                      refine v_iconst dL_law_1278 (by decide) ?_
                                                      refine v_iadd dL_law_1279 ?_
                                                      refine v_if (fun h354 => ?_)
                                                      refine v_sld hxs h354 dL_law_1280 ?_
                                                      refine v_aload_n dL_law_1281 rfl ?_
                                                      refine v_iload_n dL_law_1282 rfl ?_
                                                      refine v_iconst dL_law_1283 (by decide) ?_
                                                      refine v_iadd dL_law_1284 ?_
                                                      refine v_if (fun h355 => ?_)
                                                      refine v_sld hxs h355 dL_law_1285 ?_
                                                      refine v_aload_n dL_law_1286 rfl ?_
                                                      refine v_iload_n dL_law_1287 rfl ?_
                                                      refine v_iconst dL_law_1288 (by decide) ?_
                                                      refine v_iadd dL_law_1289 ?_
                                                      refine v_if (fun h356 => ?_)
                                                      refine v_sld hxs h356 dL_law_1290 ?_
                                                      refine v_aload_n dL_law_1291 rfl ?_
                                                      refine v_iload_n dL_law_1292 rfl ?_
                                                      refine v_iconst dL_law_1293 (by decide) ?_
                                                      refine v_iadd dL_law_1294 ?_
                                                      refine v_if (fun h357 => ?_)
                                                      refine v_sld hxs h357 dL_law_1295 ?_
                                                      refine v_if (fun h360 => ?_)
                                                      refine v_cV (mi := mL L xs) (c0 := 0) (c1 := 0) (As := [pI (xs (w32 (s14.1 + 1))), pI (xs (w32 (s14.1 + 2))), pI (xs (w32 (s14.1 + 3))), pI (xs (w32 (s14.1 + 4))), pI (xs (w32 (s14.1 + 5)))]) (st := []) (kX11_drawn d (by omega) _ _ _ _ _ _ _) rfl h360 rfl okX11_drawn (Or.inl tw1789) tw1790 tw1791 rfl (Nat.le_of_ble_eq_true rfl) dL_law_1296 (fun r358 => [pI r358.1]) (fun r358 => r358.2) (fun _ => rfl) (fun _ => rfl) (fun r358 h359 => ?_) rfl
                                                      refine v_pop dL_law_1299 (by intro z hz; cases hz) ?_
                                                      refine v_goto (tgt := 1590) dL_law_1300 (by decide) ?_
                                                      refine v_iinc (ls' := [some (pA (-52)), some (pA (M.2.2.2 : Int)), some (pA (r4.2.2.2 : Int)), some (pI (w32 (s14.1 + 8)))]) dL_law_1590 (by first | decide | (show (_ : Nat) < 4; decide)) rfl rfl ?_
                                                      refine v_goto (tgt := 18) dL_law_1593 (by decide) ?_
                                                      exact v_bw (by first | omega | exact Nat.le_refl _) (by first | omega | exact Nat.le_refl _) (hrec13 (w32 (s14.1 + 8), r358.2))
                                                    · refine v_ite (fun h361 => ?_) (fun h361 => ?_)
                                                      · refine v_tabIn (off := 1270) (tgt := 1303) dL_law_33 h361 (by decide) ?_
                                                        refine v_aload_n dL_law_1303 rfl ?_
                                                        refine v_aload_n dL_law_1304 rfl ?_
                                                        refine v_iload_n dL_law_1305 rfl ?_
                                                        refine v_iconst dL_law_1306 (by decide) ?_
                                                        refine v_iadd dL_law_1307 ?_
                                                        refine v_if (fun h362 => ?_)
                                                        refine v_sld hxs h362 dL_law_1308 ?_
                                                        refine v_aload_n dL_law_1309 rfl ?_
                                                        refine v_iload_n dL_law_1310 rfl ?_
                                                        refine v_iconst dL_law_1311 (by decide) ?_
                                                        refine v_iadd dL_law_1312 ?_
                                                        refine v_if (fun h363 => ?_)
                                                        refine v_sld hxs h363 dL_law_1313 ?_
                                                        refine v_aload_n dL_law_1314 rfl ?_
                                                        refine v_iload_n dL_law_1315 rfl ?_
                                                        refine v_iconst dL_law_1316 (by decide) ?_
                                                        refine v_iadd dL_law_1317 ?_
                                                        refine v_if (fun h364 => ?_)
                                                        refine v_sld hxs h364 dL_law_1318 ?_
                                                        refine v_aload_n dL_law_1319 rfl ?_
                                                        refine v_iload_n dL_law_1320 rfl ?_
                                                        refine v_iconst dL_law_1321 (by decide) ?_
                                                        refine v_iadd dL_law_1322 ?_
                                                        refine v_if (fun h365 => ?_)
                                                        refine v_sld hxs h365 dL_law_1323 ?_
                                                        refine v_aload_n dL_law_1324 rfl ?_
                                                        refine v_iload_n dL_law_1325 rfl ?_
                                                        refine v_iconst dL_law_1326 (by decide) ?_
                                                        refine v_iadd dL_law_1327 ?_
                                                        refine v_if (fun h366 => ?_)
                                                        refine v_sld hxs h366 dL_law_1328 ?_
                                                        refine v_if (fun h369 => ?_)
                                                        refine v_cV (mi := mL L xs) (c0 := 0) (c1 := 0) (As := [pI (xs (w32 (s14.1 + 1))), pI (xs (w32 (s14.1 + 2))), pI (xs (w32 (s14.1 + 3))), pI (xs (w32 (s14.1 + 4))), pI (xs (w32 (s14.1 + 5)))]) (st := []) (kX10_wealth d (by omega) _ _ _ _ _ _ _) rfl h369 rfl okX10_wealth (Or.inl tw1071) tw1072 tw1073 rfl (Nat.le_of_ble_eq_true rfl) dL_law_1329 (fun r367 => [pI r367.1]) (fun r367 => r367.2) (fun _ => rfl) (fun _ => rfl) (fun r367 h368 => ?_) rfl
                                                        refine v_pop dL_law_1332 (by intro z hz; cases hz) ?_
                                                        refine v_aload_n dL_law_1333 rfl ?_
                                                        refine v_aload_n dL_law_1334 rfl ?_
                                                        refine v_iload_n dL_law_1335 rfl ?_
                                                        refine v_iconst dL_law_1336 (by decide) ?_
                                                        refine v_iadd dL_law_1337 ?_
                                                        refine v_if (fun h370 => ?_)
                                                        refine v_sld hxs h370 dL_law_1338 ?_
                                                        refine v_aload_n dL_law_1339 rfl ?_
                                                        refine v_iload_n dL_law_1340 rfl ?_
                                                        refine v_iconst dL_law_1341 (by decide) ?_
                                                        refine v_iadd dL_law_1342 ?_
                                                        refine v_if (fun h371 => ?_)
                                                        refine v_sld hxs h371 dL_law_1343 ?_
                                                        refine v_aload_n dL_law_1344 rfl ?_
                                                        refine v_iload_n dL_law_1345 rfl ?_
                                                        refine v_iconst dL_law_1346 (by decide) ?_
                                                        refine v_iadd dL_law_1347 ?_
                                                        refine v_if (fun h372 => ?_)
                                                        refine v_sld hxs h372 dL_law_1348 ?_
                                                        refine v_aload_n dL_law_1349 rfl ?_
                                                        refine v_iload_n dL_law_1350 rfl ?_
                                                        refine v_iconst dL_law_1351 (by decide) ?_
                                                        refine v_iadd dL_law_1352 ?_
                                                        refine v_if (fun h373 => ?_)
                                                        refine v_sld hxs h373 dL_law_1353 ?_
                                                        refine v_aload_n dL_law_1354 rfl ?_
                                                        refine v_iload_n dL_law_1355 rfl ?_
                                                        refine v_iconst dL_law_1356 (by decide) ?_
                                                        refine v_iadd dL_law_1357 ?_
                                                        refine v_if (fun h374 => ?_)
                                                        refine v_sld hxs h374 dL_law_1358 ?_
                                                        refine v_if (fun h377 => ?_)
                                                        refine v_cV (mi := mL L xs) (c0 := 0) (c1 := 0) (As := [pI (xs (w32 (s14.1 + 1))), pI (xs (w32 (s14.1 + 2))), pI (xs (w32 (s14.1 + 3))), pI (xs (w32 (s14.1 + 4))), pI (xs (w32 (s14.1 + 5)))]) (st := []) (kX11_wealth d (by omega) _ _ _ _ _ _ _) rfl h377 rfl okX11_wealth (Or.inl tw1806) tw1807 tw1808 rfl (Nat.le_of_ble_eq_true rfl) dL_law_1359 (fun r375 => [pI r375.1]) (fun r375 => r375.2) (fun _ => rfl) (fun _ => rfl) (fun r375 h376 => ?_) rfl
                                                        refine v_pop dL_law_1362 (by intro z hz; cases hz) ?_
                                                        refine v_goto (tgt := 1590) dL_law_1363 (by decide) ?_
                                                        refine v_iinc (ls' := [some (pA (-52)), some (pA (M.2.2.2 : Int)), some (pA (r4.2.2.2 : Int)), some (pI (w32 (s14.1 + 8)))]) dL_law_1590 (by first | decide | (show (_ : Nat) < 4; decide)) rfl rfl ?_
                                                        refine v_goto (tgt := 18) dL_law_1593 (by decide) ?_
                                                        exact v_bw (by first | omega | exact Nat.le_refl _) (by first | omega | exact Nat.le_refl _) (hrec13 (w32 (s14.1 + 8), r375.2))
                                                      · refine v_ite (fun h378 => ?_) (fun h378 => ?_)
                                                        · refine v_tabIn (off := 1333) (tgt := 1366) dL_law_33 h378 (by decide) ?_
                                                          refine v_aload_n dL_law_1366 rfl ?_
                                                          refine v_aload_n dL_law_1367 rfl ?_
                                                          refine v_iload_n dL_law_1368 rfl ?_
                                                          refine v_iconst dL_law_1369 (by decide) ?_
                                                          refine v_iadd dL_law_1370 ?_
                                                          refine v_if (fun h379 => ?_)
                                                          refine v_sld hxs h379 dL_law_1371 ?_
                                                          refine v_aload_n dL_law_1372 rfl ?_
                                                          refine v_iload_n dL_law_1373 rfl ?_
                                                          refine v_iconst dL_law_1374 (by decide) ?_
                                                          refine v_iadd dL_law_1375 ?_
                                                          refine v_if (fun h380 => ?_)
                                                          refine v_sld hxs h380 dL_law_1376 ?_
                                                          refine v_aload_n dL_law_1377 rfl ?_
                                                          refine v_iload_n dL_law_1378 rfl ?_
                                                          refine v_iconst dL_law_1379 (by decide) ?_
                                                          refine v_iadd dL_law_1380 ?_
                                                          refine v_if (fun h381 => ?_)
                                                          refine v_sld hxs h381 dL_law_1381 ?_
                                                          refine v_aload_n dL_law_1382 rfl ?_
                                                          refine v_iload_n dL_law_1383 rfl ?_
                                                          refine v_iconst dL_law_1384 (by decide) ?_
                                                          refine v_iadd dL_law_1385 ?_
                                                          refine v_if (fun h382 => ?_)
                                                          refine v_sld hxs h382 dL_law_1386 ?_
                                                          refine v_aload_n dL_law_1387 rfl ?_
                                                          refine v_iload_n dL_law_1388 rfl ?_
                                                          refine v_iconst dL_law_1389 (by decide) ?_
                                                          refine v_iadd dL_law_1390 ?_
                                                          refine v_if (fun h383 => ?_)
                                                          refine v_sld hxs h383 dL_law_1391 ?_
                                                          refine v_if (fun h386 => ?_)
                                                          refine v_cV (mi := mL L xs) (c0 := 0) (c1 := 0) (As := [pI (xs (w32 (s14.1 + 1))), pI (xs (w32 (s14.1 + 2))), pI (xs (w32 (s14.1 + 3))), pI (xs (w32 (s14.1 + 4))), pI (xs (w32 (s14.1 + 5)))]) (st := []) (kX10_haul d (by omega) _ _ _ _ _ _ _) rfl h386 rfl okX10_haul (Or.inl tw1119) tw1120 tw1121 rfl (Nat.le_of_ble_eq_true rfl) dL_law_1392 (fun r384 => [pI r384.1]) (fun r384 => r384.2) (fun _ => rfl) (fun _ => rfl) (fun r384 h385 => ?_) rfl
                                                          refine v_pop dL_law_1395 (by intro z hz; cases hz) ?_
                                                          refine v_aload_n dL_law_1396 rfl ?_
                                                          refine v_aload_n dL_law_1397 rfl ?_
                                                          refine v_iload_n dL_law_1398 rfl ?_
                                                          refine v_iconst dL_law_1399 (by decide) ?_
                                                          refine v_iadd dL_law_1400 ?_
                                                          refine v_if (fun h387 => ?_)
                                                          refine v_sld hxs h387 dL_law_1401 ?_
                                                          refine v_aload_n dL_law_1402 rfl ?_
                                                          refine v_iload_n dL_law_1403 rfl ?_
                                                          refine v_iconst dL_law_1404 (by decide) ?_
                                                          refine v_iadd dL_law_1405 ?_
                                                          refine v_if (fun h388 => ?_)
                                                          refine v_sld hxs h388 dL_law_1406 ?_
                                                          refine v_aload_n dL_law_1407 rfl ?_
                                                          refine v_iload_n dL_law_1408 rfl ?_
                                                          refine v_iconst dL_law_1409 (by decide) ?_
                                                          refine v_iadd dL_law_1410 ?_
                                                          refine v_if (fun h389 => ?_)
                                                          refine v_sld hxs h389 dL_law_1411 ?_
                                                          refine v_aload_n dL_law_1412 rfl ?_
                                                          refine v_iload_n dL_law_1413 rfl ?_
                                                          refine v_iconst dL_law_1414 (by decide) ?_
                                                          refine v_iadd dL_law_1415 ?_
                                                          refine v_if (fun h390 => ?_)
                                                          refine v_sld hxs h390 dL_law_1416 ?_
                                                          refine v_aload_n dL_law_1417 rfl ?_
                                                          refine v_iload_n dL_law_1418 rfl ?_
                                                          refine v_iconst dL_law_1419 (by decide) ?_
                                                          refine v_iadd dL_law_1420 ?_
                                                          refine v_if (fun h391 => ?_)
                                                          refine v_sld hxs h391 dL_law_1421 ?_
                                                          refine v_if (fun h394 => ?_)
                                                          refine v_cV (mi := mL L xs) (c0 := 0) (c1 := 0) (As := [pI (xs (w32 (s14.1 + 1))), pI (xs (w32 (s14.1 + 2))), pI (xs (w32 (s14.1 + 3))), pI (xs (w32 (s14.1 + 4))), pI (xs (w32 (s14.1 + 5)))]) (st := []) (kX11_haul d (by omega) _ _ _ _ _ _ _) rfl h394 rfl okX11_haul (Or.inl tw1842) tw1843 tw1844 rfl (Nat.le_of_ble_eq_true rfl) dL_law_1422 (fun r392 => [pI r392.1]) (fun r392 => r392.2) (fun _ => rfl) (fun _ => rfl) (fun r392 h393 => ?_) rfl
                                                          refine v_pop dL_law_1425 (by intro z hz; cases hz) ?_
                                                          refine v_goto (tgt := 1590) dL_law_1426 (by decide) ?_
                                                          refine v_iinc (ls' := [some (pA (-52)), some (pA (M.2.2.2 : Int)), some (pA (r4.2.2.2 : Int)), some (pI (w32 (s14.1 + 8)))]) dL_law_1590 (by first | decide | (show (_ : Nat) < 4; decide)) rfl rfl ?_
                                                          refine v_goto (tgt := 18) dL_law_1593 (by decide) ?_
                                                          exact v_bw (by first | omega | exact Nat.le_refl _) (by first | omega | exact Nat.le_refl _) (hrec13 (w32 (s14.1 + 8), r392.2))
                                                        · refine v_ite (fun h395 => ?_) (fun h395 => ?_)
                                                          · refine v_tabIn (off := 1396) (tgt := 1429) dL_law_33 h395 (by decide) ?_
                                                            refine v_aload_n dL_law_1429 rfl ?_
                                                            refine v_aload_n dL_law_1430 rfl ?_
                                                            refine v_iload_n dL_law_1431 rfl ?_
                                                            refine v_iconst dL_law_1432 (by decide) ?_
                                                            refine v_iadd dL_law_1433 ?_
                                                            refine v_if (fun h396 => ?_)
                                                            refine v_sld hxs h396 dL_law_1434 ?_
                                                            refine v_aload_n dL_law_1435 rfl ?_
                                                            refine v_iload_n dL_law_1436 rfl ?_
                                                            refine v_iconst dL_law_1437 (by decide) ?_
                                                            refine v_iadd dL_law_1438 ?_
                                                            refine v_if (fun h397 => ?_)
                                                            refine v_sld hxs h397 dL_law_1439 ?_
                                                            refine v_aload_n dL_law_1440 rfl ?_
                                                            refine v_iload_n dL_law_1441 rfl ?_
                                                            refine v_iconst dL_law_1442 (by decide) ?_
                                                            refine v_iadd dL_law_1443 ?_
                                                            refine v_if (fun h398 => ?_)
                                                            refine v_sld hxs h398 dL_law_1444 ?_
                                                            refine v_join (fun (t400 : Int) => [some (pA (-52)), some (pA (M.2.2.2 : Int)), some (pA (r4.2.2.2 : Int)), some (pI s14.1)]) (fun (t400 : Int) => [pI t400, pI (xs (w32 (s14.1 + 2))), pI (xs (w32 (s14.1 + 1))), pA (M.2.2.2 : Int)]) (fun (t400 : Int) => s14.2) 1453 (fun t400 => ?_) (fun j399 hj399 => ?_)
                                                            · refine v_if (fun h403 => ?_)
                                                              refine v_cV (mi := mL L xs) (c0 := 0) (c1 := 0) (As := [pI (xs (w32 (s14.1 + 1))), pI (xs (w32 (s14.1 + 2))), pI t400]) (st := []) (kX10_crew d (by omega) _ _ _ _ _) rfl h403 rfl okX10_crew (Or.inl tw1138) tw1139 tw1140 rfl (Nat.le_of_ble_eq_true rfl) dL_law_1453 (fun r401 => [pI r401]) (fun r401 => s14.2) (fun _ => rfl) (fun _ => rfl) (fun r401 h402 => ?_) rfl
                                                              refine v_pop dL_law_1456 (by intro z hz; cases hz) ?_
                                                              refine v_aload_n dL_law_1457 rfl ?_
                                                              refine v_aload_n dL_law_1458 rfl ?_
                                                              refine v_iload_n dL_law_1459 rfl ?_
                                                              refine v_iconst dL_law_1460 (by decide) ?_
                                                              refine v_iadd dL_law_1461 ?_
                                                              refine v_if (fun h404 => ?_)
                                                              refine v_sld hxs h404 dL_law_1462 ?_
                                                              refine v_aload_n dL_law_1463 rfl ?_
                                                              refine v_iload_n dL_law_1464 rfl ?_
                                                              refine v_iconst dL_law_1465 (by decide) ?_
                                                              refine v_iadd dL_law_1466 ?_
                                                              refine v_if (fun h405 => ?_)
                                                              refine v_sld hxs h405 dL_law_1467 ?_
                                                              refine v_aload_n dL_law_1468 rfl ?_
                                                              refine v_iload_n dL_law_1469 rfl ?_
                                                              refine v_iconst dL_law_1470 (by decide) ?_
                                                              refine v_iadd dL_law_1471 ?_
                                                              refine v_if (fun h406 => ?_)
                                                              refine v_sld hxs h406 dL_law_1472 ?_
                                                              refine v_join (fun (t408 : Int) => [some (pA (-52)), some (pA (M.2.2.2 : Int)), some (pA (r4.2.2.2 : Int)), some (pI s14.1)]) (fun (t408 : Int) => [pI t408, pI (xs (w32 (s14.1 + 2))), pI (xs (w32 (s14.1 + 1))), pA (r4.2.2.2 : Int)]) (fun (t408 : Int) => s14.2) 1481 (fun t408 => ?_) (fun j407 hj407 => ?_)
                                                              · refine v_if (fun h411 => ?_)
                                                                refine v_cV (mi := mL L xs) (c0 := 0) (c1 := 0) (As := [pI (xs (w32 (s14.1 + 1))), pI (xs (w32 (s14.1 + 2))), pI t408]) (st := []) (kX11_crew d (by omega) _ _ _ _ _) rfl h411 rfl okX11_crew (Or.inl tw1854) tw1855 tw1856 rfl (Nat.le_of_ble_eq_true rfl) dL_law_1481 (fun r409 => [pI r409.1]) (fun r409 => r409.2) (fun _ => rfl) (fun _ => rfl) (fun r409 h410 => ?_) rfl
                                                                refine v_pop dL_law_1484 (by intro z hz; cases hz) ?_
                                                                refine v_goto (tgt := 1590) dL_law_1485 (by decide) ?_
                                                                refine v_iinc (ls' := [some (pA (-52)), some (pA (M.2.2.2 : Int)), some (pA (r4.2.2.2 : Int)), some (pI (w32 (s14.1 + 8)))]) dL_law_1590 (by first | decide | (show (_ : Nat) < 4; decide)) rfl rfl ?_
                                                                refine v_goto (tgt := 18) dL_law_1593 (by decide) ?_
                                                                exact v_bw (by first | omega | exact Nat.le_refl _) (by first | omega | exact Nat.le_refl _) (hrec13 (w32 (s14.1 + 8), r409.2))
                                                              · refine v_if_eq (tgt := 1480) dL_law_1473 (by decide) (fun c412 => ?_) (fun c412 => ?_)
                                                                · refine v_iconst dL_law_1480 (by decide) ?_
                                                                  exact hj407 0
                                                                · refine v_iconst dL_law_1476 (by decide) ?_
                                                                  refine v_goto (tgt := 1481) dL_law_1477 (by decide) ?_
                                                                  exact hj407 1
                                                            · refine v_if_eq (tgt := 1452) dL_law_1445 (by decide) (fun c413 => ?_) (fun c413 => ?_)
                                                              · refine v_iconst dL_law_1452 (by decide) ?_
                                                                exact hj399 0
                                                              · refine v_iconst dL_law_1448 (by decide) ?_
                                                                refine v_goto (tgt := 1453) dL_law_1449 (by decide) ?_
                                                                exact hj399 1
                                                          · refine v_ite (fun h414 => ?_) (fun h414 => ?_)
                                                            · refine v_tabIn (off := 1455) (tgt := 1488) dL_law_33 h414 (by decide) ?_
                                                              refine v_aload_n dL_law_1488 rfl ?_
                                                              refine v_aload_n dL_law_1489 rfl ?_
                                                              refine v_iload_n dL_law_1490 rfl ?_
                                                              refine v_iconst dL_law_1491 (by decide) ?_
                                                              refine v_iadd dL_law_1492 ?_
                                                              refine v_if (fun h415 => ?_)
                                                              refine v_sld hxs h415 dL_law_1493 ?_
                                                              refine v_aload_n dL_law_1494 rfl ?_
                                                              refine v_iload_n dL_law_1495 rfl ?_
                                                              refine v_iconst dL_law_1496 (by decide) ?_
                                                              refine v_iadd dL_law_1497 ?_
                                                              refine v_if (fun h416 => ?_)
                                                              refine v_sld hxs h416 dL_law_1498 ?_
                                                              refine v_if (fun h419 => ?_)
                                                              refine v_cV (mi := mL L xs) (c0 := 0) (c1 := 0) (As := [pI (xs (w32 (s14.1 + 1))), pI (xs (w32 (s14.1 + 2)))]) (st := []) (kX10_pairs d (by omega) _ _ _ _) rfl h419 rfl okX10_pairs (Or.inl tw1157) tw1158 tw1159 rfl (Nat.le_of_ble_eq_true rfl) dL_law_1499 (fun r417 => [pI r417]) (fun r417 => s14.2) (fun _ => rfl) (fun _ => rfl) (fun r417 h418 => ?_) rfl
                                                              refine v_pop dL_law_1502 (by intro z hz; cases hz) ?_
                                                              refine v_aload_n dL_law_1503 rfl ?_
                                                              refine v_aload_n dL_law_1504 rfl ?_
                                                              refine v_iload_n dL_law_1505 rfl ?_
                                                              refine v_iconst dL_law_1506 (by decide) ?_
                                                              refine v_iadd dL_law_1507 ?_
                                                              refine v_if (fun h420 => ?_)
                                                              refine v_sld hxs h420 dL_law_1508 ?_
                                                              refine v_aload_n dL_law_1509 rfl ?_
                                                              refine v_iload_n dL_law_1510 rfl ?_
                                                              refine v_iconst dL_law_1511 (by decide) ?_
                                                              refine v_iadd dL_law_1512 ?_
                                                              refine v_if (fun h421 => ?_)
                                                              refine v_sld hxs h421 dL_law_1513 ?_
                                                              refine v_if (fun h424 => ?_)
                                                              refine v_cV (mi := mL L xs) (c0 := 0) (c1 := 0) (As := [pI (xs (w32 (s14.1 + 1))), pI (xs (w32 (s14.1 + 2)))]) (st := []) (kX11_pairs d (by omega) _ _ _ _) rfl h424 rfl okX11_pairs (Or.inl tw1866) tw1867 tw1868 rfl (Nat.le_of_ble_eq_true rfl) dL_law_1514 (fun r422 => [pI r422.1]) (fun r422 => r422.2) (fun _ => rfl) (fun _ => rfl) (fun r422 h423 => ?_) rfl
                                                              refine v_pop dL_law_1517 (by intro z hz; cases hz) ?_
                                                              refine v_goto (tgt := 1590) dL_law_1518 (by decide) ?_
                                                              refine v_iinc (ls' := [some (pA (-52)), some (pA (M.2.2.2 : Int)), some (pA (r4.2.2.2 : Int)), some (pI (w32 (s14.1 + 8)))]) dL_law_1590 (by first | decide | (show (_ : Nat) < 4; decide)) rfl rfl ?_
                                                              refine v_goto (tgt := 18) dL_law_1593 (by decide) ?_
                                                              exact v_bw (by first | omega | exact Nat.le_refl _) (by first | omega | exact Nat.le_refl _) (hrec13 (w32 (s14.1 + 8), r422.2))
                                                            · refine v_ite (fun h425 => ?_) (fun h425 => ?_)
                                                              · refine v_tabIn (off := 1488) (tgt := 1521) dL_law_33 h425 (by decide) ?_
                                                                refine v_aload_n dL_law_1521 rfl ?_
                                                                refine v_aload_n dL_law_1522 rfl ?_
                                                                refine v_iload_n dL_law_1523 rfl ?_
                                                                refine v_iconst dL_law_1524 (by decide) ?_
                                                                refine v_iadd dL_law_1525 ?_
                                                                refine v_if (fun h426 => ?_)
                                                                refine v_sld hxs h426 dL_law_1526 ?_
                                                                refine v_if (fun h429 => ?_)
                                                                refine v_cV (mi := mL L xs) (c0 := 0) (c1 := 0) (As := [pI (xs (w32 (s14.1 + 1)))]) (st := []) (kX10_count d (by omega) _ _ _) rfl h429 rfl okX10_count (Or.inl tw1169) tw1170 tw1171 rfl (Nat.le_of_ble_eq_true rfl) dL_law_1527 (fun r427 => [pI r427]) (fun r427 => s14.2) (fun _ => rfl) (fun _ => rfl) (fun r427 h428 => ?_) rfl
                                                                refine v_pop dL_law_1530 (by intro z hz; cases hz) ?_
                                                                refine v_aload_n dL_law_1531 rfl ?_
                                                                refine v_aload_n dL_law_1532 rfl ?_
                                                                refine v_iload_n dL_law_1533 rfl ?_
                                                                refine v_iconst dL_law_1534 (by decide) ?_
                                                                refine v_iadd dL_law_1535 ?_
                                                                refine v_if (fun h430 => ?_)
                                                                refine v_sld hxs h430 dL_law_1536 ?_
                                                                refine v_if (fun h433 => ?_)
                                                                refine v_cV (mi := mL L xs) (c0 := 0) (c1 := 0) (As := [pI (xs (w32 (s14.1 + 1)))]) (st := []) (kX11_count d (by omega) _ _ _) rfl h433 rfl okX11_count (Or.inl tw1874) tw1875 tw1876 rfl (Nat.le_of_ble_eq_true rfl) dL_law_1537 (fun r431 => [pI r431.1]) (fun r431 => r431.2) (fun _ => rfl) (fun _ => rfl) (fun r431 h432 => ?_) rfl
                                                                refine v_pop dL_law_1540 (by intro z hz; cases hz) ?_
                                                                refine v_goto (tgt := 1590) dL_law_1541 (by decide) ?_
                                                                refine v_iinc (ls' := [some (pA (-52)), some (pA (M.2.2.2 : Int)), some (pA (r4.2.2.2 : Int)), some (pI (w32 (s14.1 + 8)))]) dL_law_1590 (by first | decide | (show (_ : Nat) < 4; decide)) rfl rfl ?_
                                                                refine v_goto (tgt := 18) dL_law_1593 (by decide) ?_
                                                                exact v_bw (by first | omega | exact Nat.le_refl _) (by first | omega | exact Nat.le_refl _) (hrec13 (w32 (s14.1 + 8), r431.2))
                                                              · refine v_ite (fun h434 => ?_) (fun h434 => ?_)
                                                                · refine v_tabIn (off := 1511) (tgt := 1544) dL_law_33 h434 (by decide) ?_
                                                                  refine v_aload_n dL_law_1544 rfl ?_
                                                                  refine v_aload_n dL_law_1545 rfl ?_
                                                                  refine v_iload_n dL_law_1546 rfl ?_
                                                                  refine v_iconst dL_law_1547 (by decide) ?_
                                                                  refine v_iadd dL_law_1548 ?_
                                                                  refine v_if (fun h435 => ?_)
                                                                  refine v_sld hxs h435 dL_law_1549 ?_
                                                                  refine v_if (fun h438 => ?_)
                                                                  refine v_cV (mi := mL L xs) (c0 := 45) (c1 := 1257) (As := [pI (xs (w32 (s14.1 + 1)))]) (st := []) (kX10_image d (by omega) _ _ _) rfl h438 rfl okX10_image (Or.inl tw1173) tw1174 tw1175 rfl (Nat.le_of_ble_eq_true rfl) dL_law_1550 (fun r436 => [pI r436.1]) (fun r436 => r436.2) (fun _ => rfl) (fun _ => rfl) (fun r436 h437 => ?_) rfl
                                                                  refine v_pop dL_law_1553 (by intro z hz; cases hz) ?_
                                                                  refine v_aload_n dL_law_1554 rfl ?_
                                                                  refine v_aload_n dL_law_1555 rfl ?_
                                                                  refine v_iload_n dL_law_1556 rfl ?_
                                                                  refine v_iconst dL_law_1557 (by decide) ?_
                                                                  refine v_iadd dL_law_1558 ?_
                                                                  refine v_if (fun h439 => ?_)
                                                                  refine v_sld hxs h439 dL_law_1559 ?_
                                                                  refine v_if (fun h442 => ?_)
                                                                  refine v_cV (mi := mL L xs) (c0 := 0) (c1 := 0) (As := [pI (xs (w32 (s14.1 + 1)))]) (st := []) (kX11_image d (by omega) _ _ _) rfl h442 rfl okX11_image (Or.inl tw1878) tw1879 tw1880 rfl (Nat.le_of_ble_eq_true rfl) dL_law_1560 (fun r440 => [pI r440.1]) (fun r440 => r440.2) (fun _ => rfl) (fun _ => rfl) (fun r440 h441 => ?_) rfl
                                                                  refine v_pop dL_law_1563 (by intro z hz; cases hz) ?_
                                                                  refine v_goto (tgt := 1590) dL_law_1564 (by decide) ?_
                                                                  refine v_iinc (ls' := [some (pA (-52)), some (pA (M.2.2.2 : Int)), some (pA (r4.2.2.2 : Int)), some (pI (w32 (s14.1 + 8)))]) dL_law_1590 (by first | decide | (show (_ : Nat) < 4; decide)) rfl rfl ?_
                                                                  refine v_goto (tgt := 18) dL_law_1593 (by decide) ?_
                                                                  exact v_bw (by first | omega | exact Nat.le_refl _) (by first | omega | exact Nat.le_refl _) (hrec13 (w32 (s14.1 + 8), r440.2))
                                                                · refine v_ite (fun h443 => ?_) (fun h443 => ?_)
                                                                  · refine v_tabIn (off := 1534) (tgt := 1567) dL_law_33 h443 (by decide) ?_
                                                                    refine v_aload_n dL_law_1567 rfl ?_
                                                                    refine v_aload_n dL_law_1568 rfl ?_
                                                                    refine v_iload_n dL_law_1569 rfl ?_
                                                                    refine v_iconst dL_law_1570 (by decide) ?_
                                                                    refine v_iadd dL_law_1571 ?_
                                                                    refine v_if (fun h444 => ?_)
                                                                    refine v_sld hxs h444 dL_law_1572 ?_
                                                                    refine v_if (fun h447 => ?_)
                                                                    refine v_cV (mi := mL L xs) (c0 := 0) (c1 := 0) (As := [pI (xs (w32 (s14.1 + 1)))]) (st := []) (kX10_again d (by omega) _ _ _) rfl h447 rfl okX10_again (Or.inl tw1183) tw1184 tw1185 rfl (Nat.le_of_ble_eq_true rfl) dL_law_1573 (fun r445 => [pI r445.1]) (fun r445 => r445.2) (fun _ => rfl) (fun _ => rfl) (fun r445 h446 => ?_) rfl
                                                                    refine v_pop dL_law_1576 (by intro z hz; cases hz) ?_
                                                                    refine v_aload_n dL_law_1577 rfl ?_
                                                                    refine v_aload_n dL_law_1578 rfl ?_
                                                                    refine v_iload_n dL_law_1579 rfl ?_
                                                                    refine v_iconst dL_law_1580 (by decide) ?_
                                                                    refine v_iadd dL_law_1581 ?_
                                                                    refine v_if (fun h448 => ?_)
                                                                    refine v_sld hxs h448 dL_law_1582 ?_
                                                                    refine v_if (fun h451 => ?_)
                                                                    refine v_cV (mi := mL L xs) (c0 := 0) (c1 := 0) (As := [pI (xs (w32 (s14.1 + 1)))]) (st := []) (kX11_again d (by omega) _ _ _) rfl h451 rfl okX11_again (Or.inl tw1889) tw1890 tw1891 rfl (Nat.le_of_ble_eq_true rfl) dL_law_1583 (fun r449 => [pI r449.1]) (fun r449 => r449.2) (fun _ => rfl) (fun _ => rfl) (fun r449 h450 => ?_) rfl
                                                                    refine v_pop dL_law_1586 (by intro z hz; cases hz) ?_
                                                                    refine v_goto (tgt := 1590) dL_law_1587 (by decide) ?_
                                                                    refine v_iinc (ls' := [some (pA (-52)), some (pA (M.2.2.2 : Int)), some (pA (r4.2.2.2 : Int)), some (pI (w32 (s14.1 + 8)))]) dL_law_1590 (by first | decide | (show (_ : Nat) < 4; decide)) rfl rfl ?_
                                                                    refine v_goto (tgt := 18) dL_law_1593 (by decide) ?_
                                                                    exact v_bw (by first | omega | exact Nat.le_refl _) (by first | omega | exact Nat.le_refl _) (hrec13 (w32 (s14.1 + 8), r449.2))
                                                                  · refine v_tabOut (tgt := 1590) dL_law_33 (by omega) (by decide) ?_
                                                                    refine v_iinc (ls' := [some (pA (-52)), some (pA (M.2.2.2 : Int)), some (pA (r4.2.2.2 : Int)), some (pI (w32 (s14.1 + 8)))]) dL_law_1590 (by first | decide | (show (_ : Nat) < 4; decide)) rfl rfl ?_
                                                                    refine v_goto (tgt := 18) dL_law_1593 (by decide) ?_
                                                                    exact v_bw (by first | omega | exact Nat.le_refl _) (by first | omega | exact Nat.le_refl _) (hrec13 (w32 (s14.1 + 8), s14.2))
