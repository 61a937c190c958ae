theorem ckb2_0 : chkB 2 0 (blk 2 0) = true := by decide +kernel
theorem ckb2_50 : chkB 2 50 (blk 2 50) = true := by decide +kernel
theorem ckb2_66 : chkB 2 66 (blk 2 66) = true := by decide +kernel
theorem ckb2_71 : chkB 2 71 (blk 2 71) = true := by decide +kernel
theorem ckb2_103 : chkB 2 103 (blk 2 103) = true := by decide +kernel
theorem ckm2 : chkM 2 = true := by
  show List.all [0, 50, 66, 71, 103] (fun pc => chkB 2 pc (blk 2 pc)) = true
  simp only [List.all_cons, List.all_nil, ckb2_0, ckb2_50, ckb2_66, ckb2_71, ckb2_103, Bool.and_true]
theorem ckb4_0 : chkB 4 0 (blk 4 0) = true := by decide +kernel
theorem ckb4_21 : chkB 4 21 (blk 4 21) = true := by decide +kernel
theorem ckb4_71 : chkB 4 71 (blk 4 71) = true := by decide +kernel
theorem ckb4_75 : chkB 4 75 (blk 4 75) = true := by decide +kernel
theorem ckb4_76 : chkB 4 76 (blk 4 76) = true := by decide +kernel
theorem ckb4_106 : chkB 4 106 (blk 4 106) = true := by decide +kernel
theorem ckb4_122 : chkB 4 122 (blk 4 122) = true := by decide +kernel
theorem ckm4 : chkM 4 = true := by
  show List.all [0, 21, 71, 75, 76, 106, 122] (fun pc => chkB 4 pc (blk 4 pc)) = true
  simp only [List.all_cons, List.all_nil, ckb4_0, ckb4_21, ckb4_71, ckb4_75, ckb4_76, ckb4_106, ckb4_122, Bool.and_true]
theorem ckb14_0 : chkB 14 0 (blk 14 0) = true := by decide +kernel
theorem ckb14_135 : chkB 14 135 (blk 14 135) = true := by decide +kernel
theorem ckb14_137 : chkB 14 137 (blk 14 137) = true := by decide +kernel
theorem ckb14_140 : chkB 14 140 (blk 14 140) = true := by decide +kernel
theorem ckb14_208 : chkB 14 208 (blk 14 208) = true := by decide +kernel
theorem ckb14_214 : chkB 14 214 (blk 14 214) = true := by decide +kernel
theorem ckm14 : chkM 14 = true := by
  show List.all [0, 135, 137, 140, 208, 214] (fun pc => chkB 14 pc (blk 14 pc)) = true
  simp only [List.all_cons, List.all_nil, ckb14_0, ckb14_135, ckb14_137, ckb14_140, ckb14_208, ckb14_214, Bool.and_true]
theorem ckb33_0 : chkB 33 0 (blk 33 0) = true := by decide +kernel
theorem ckb33_74 : chkB 33 74 (blk 33 74) = true := by decide +kernel
theorem ckb33_78 : chkB 33 78 (blk 33 78) = true := by decide +kernel
theorem ckb33_79 : chkB 33 79 (blk 33 79) = true := by decide +kernel
theorem ckb33_80 : chkB 33 80 (blk 33 80) = true := by decide +kernel
theorem ckb33_112 : chkB 33 112 (blk 33 112) = true := by decide +kernel
theorem ckb33_113 : chkB 33 113 (blk 33 113) = true := by decide +kernel
theorem ckm33 : chkM 33 = true := by
  show List.all [0, 74, 78, 79, 80, 112, 113] (fun pc => chkB 33 pc (blk 33 pc)) = true
  simp only [List.all_cons, List.all_nil, ckb33_0, ckb33_74, ckb33_78, ckb33_79, ckb33_80, ckb33_112, ckb33_113, Bool.and_true]
theorem ckb42_0 : chkB 42 0 (blk 42 0) = true := by decide +kernel
theorem ckb42_5 : chkB 42 5 (blk 42 5) = true := by decide +kernel
theorem ckb42_108 : chkB 42 108 (blk 42 108) = true := by decide +kernel
theorem ckb42_117 : chkB 42 117 (blk 42 117) = true := by decide +kernel
theorem ckb42_118 : chkB 42 118 (blk 42 118) = true := by decide +kernel
theorem ckb42_127 : chkB 42 127 (blk 42 127) = true := by decide +kernel
theorem ckb42_128 : chkB 42 128 (blk 42 128) = true := by decide +kernel
theorem ckb42_140 : chkB 42 140 (blk 42 140) = true := by decide +kernel
theorem ckb42_141 : chkB 42 141 (blk 42 141) = true := by decide +kernel
theorem ckb42_152 : chkB 42 152 (blk 42 152) = true := by decide +kernel
theorem ckb42_153 : chkB 42 153 (blk 42 153) = true := by decide +kernel
theorem ckb42_164 : chkB 42 164 (blk 42 164) = true := by decide +kernel
theorem ckb42_165 : chkB 42 165 (blk 42 165) = true := by decide +kernel
theorem ckb42_166 : chkB 42 166 (blk 42 166) = true := by decide +kernel
theorem ckb42_172 : chkB 42 172 (blk 42 172) = true := by decide +kernel
theorem ckb42_180 : chkB 42 180 (blk 42 180) = true := by decide +kernel
theorem ckb42_181 : chkB 42 181 (blk 42 181) = true := by decide +kernel
theorem ckm42 : chkM 42 = true := by
  show List.all [0, 5, 108, 117, 118, 127, 128, 140, 141, 152, 153, 164, 165, 166, 172, 180, 181] (fun pc => chkB 42 pc (blk 42 pc)) = true
  simp only [List.all_cons, List.all_nil, ckb42_0, ckb42_5, ckb42_108, ckb42_117, ckb42_118, ckb42_127, ckb42_128, ckb42_140, ckb42_141, ckb42_152, ckb42_153, ckb42_164, ckb42_165, ckb42_166, ckb42_172, ckb42_180, ckb42_181, Bool.and_true]
theorem ckb44_0 : chkB 44 0 (blk 44 0) = true := by decide +kernel
theorem ckb44_4 : chkB 44 4 (blk 44 4) = true := by decide +kernel
theorem ckb44_57 : chkB 44 57 (blk 44 57) = true := by decide +kernel
theorem ckb44_59 : chkB 44 59 (blk 44 59) = true := by decide +kernel
theorem ckb44_65 : chkB 44 65 (blk 44 65) = true := by decide +kernel
theorem ckb44_75 : chkB 44 75 (blk 44 75) = true := by decide +kernel
theorem ckb44_116 : chkB 44 116 (blk 44 116) = true := by decide +kernel
theorem ckb44_122 : chkB 44 122 (blk 44 122) = true := by decide +kernel
theorem ckm44 : chkM 44 = true := by
  show List.all [0, 4, 57, 59, 65, 75, 116, 122] (fun pc => chkB 44 pc (blk 44 pc)) = true
  simp only [List.all_cons, List.all_nil, ckb44_0, ckb44_4, ckb44_57, ckb44_59, ckb44_65, ckb44_75, ckb44_116, ckb44_122, Bool.and_true]
theorem ckb53_0 : chkB 53 0 (blk 53 0) = true := by decide +kernel
theorem ckb53_10 : chkB 53 10 (blk 53 10) = true := by decide +kernel
theorem ckb53_38 : chkB 53 38 (blk 53 38) = true := by decide +kernel
theorem ckb53_40 : chkB 53 40 (blk 53 40) = true := by decide +kernel
theorem ckb53_52 : chkB 53 52 (blk 53 52) = true := by decide +kernel
theorem ckb53_85 : chkB 53 85 (blk 53 85) = true := by decide +kernel
theorem ckb53_99 : chkB 53 99 (blk 53 99) = true := by decide +kernel
theorem ckb53_123 : chkB 53 123 (blk 53 123) = true := by decide +kernel
theorem ckb53_129 : chkB 53 129 (blk 53 129) = true := by decide +kernel
theorem ckb53_135 : chkB 53 135 (blk 53 135) = true := by decide +kernel
theorem ckm53 : chkM 53 = true := by
  show List.all [0, 10, 38, 40, 52, 85, 99, 123, 129, 135] (fun pc => chkB 53 pc (blk 53 pc)) = true
  simp only [List.all_cons, List.all_nil, ckb53_0, ckb53_10, ckb53_38, ckb53_40, ckb53_52, ckb53_85, ckb53_99, ckb53_123, ckb53_129, ckb53_135, Bool.and_true]
theorem ckb66_0 : chkB 66 0 (blk 66 0) = true := by decide +kernel
theorem ckb66_25 : chkB 66 25 (blk 66 25) = true := by decide +kernel
theorem ckb66_49 : chkB 66 49 (blk 66 49) = true := by decide +kernel
theorem ckb66_60 : chkB 66 60 (blk 66 60) = true := by decide +kernel
theorem ckb66_85 : chkB 66 85 (blk 66 85) = true := by decide +kernel
theorem ckm66 : chkM 66 = true := by
  show List.all [0, 25, 49, 60, 85] (fun pc => chkB 66 pc (blk 66 pc)) = true
  simp only [List.all_cons, List.all_nil, ckb66_0, ckb66_25, ckb66_49, ckb66_60, ckb66_85, Bool.and_true]
theorem ckb111_0 : chkB 111 0 (blk 111 0) = true := by decide +kernel
theorem ckm111 : chkM 111 = true := by
  show List.all [0] (fun pc => chkB 111 pc (blk 111 pc)) = true
  simp only [List.all_cons, List.all_nil, ckb111_0, Bool.and_true]
theorem ckb117_0 : chkB 117 0 (blk 117 0) = true := by decide +kernel
theorem ckb117_7 : chkB 117 7 (blk 117 7) = true := by decide +kernel
theorem ckb117_64 : chkB 117 64 (blk 117 64) = true := by decide +kernel
theorem ckb117_66 : chkB 117 66 (blk 117 66) = true := by decide +kernel
theorem ckb117_113 : chkB 117 113 (blk 117 113) = true := by decide +kernel
theorem ckb117_119 : chkB 117 119 (blk 117 119) = true := by decide +kernel
theorem ckb117_137 : chkB 117 137 (blk 117 137) = true := by decide +kernel
theorem ckb117_144 : chkB 117 144 (blk 117 144) = true := by decide +kernel
theorem ckb117_146 : chkB 117 146 (blk 117 146) = true := by decide +kernel
theorem ckm117 : chkM 117 = true := by
  show List.all [0, 7, 64, 66, 113, 119, 137, 144, 146] (fun pc => chkB 117 pc (blk 117 pc)) = true
  simp only [List.all_cons, List.all_nil, ckb117_0, ckb117_7, ckb117_64, ckb117_66, ckb117_113, ckb117_119, ckb117_137, ckb117_144, ckb117_146, Bool.and_true]
theorem ckb126_0 : chkB 126 0 (blk 126 0) = true := by decide +kernel
theorem ckb126_23 : chkB 126 23 (blk 126 23) = true := by decide +kernel
theorem ckb126_25 : chkB 126 25 (blk 126 25) = true := by decide +kernel
theorem ckb126_37 : chkB 126 37 (blk 126 37) = true := by decide +kernel
theorem ckb126_53 : chkB 126 53 (blk 126 53) = true := by decide +kernel
theorem ckb126_67 : chkB 126 67 (blk 126 67) = true := by decide +kernel
theorem ckb126_75 : chkB 126 75 (blk 126 75) = true := by decide +kernel
theorem ckb126_139 : chkB 126 139 (blk 126 139) = true := by decide +kernel
theorem ckm126 : chkM 126 = true := by
  show List.all [0, 23, 25, 37, 53, 67, 75, 139] (fun pc => chkB 126 pc (blk 126 pc)) = true
  simp only [List.all_cons, List.all_nil, ckb126_0, ckb126_23, ckb126_25, ckb126_37, ckb126_53, ckb126_67, ckb126_75, ckb126_139, Bool.and_true]
theorem ckb127_0 : chkB 127 0 (blk 127 0) = true := by decide +kernel
theorem ckb127_11 : chkB 127 11 (blk 127 11) = true := by decide +kernel
theorem ckb127_24 : chkB 127 24 (blk 127 24) = true := by decide +kernel
theorem ckb127_36 : chkB 127 36 (blk 127 36) = true := by decide +kernel
theorem ckb127_100 : chkB 127 100 (blk 127 100) = true := by decide +kernel
theorem ckm127 : chkM 127 = true := by
  show List.all [0, 11, 24, 36, 100] (fun pc => chkB 127 pc (blk 127 pc)) = true
  simp only [List.all_cons, List.all_nil, ckb127_0, ckb127_11, ckb127_24, ckb127_36, ckb127_100, Bool.and_true]
theorem ckb128_0 : chkB 128 0 (blk 128 0) = true := by decide +kernel
theorem ckb128_9 : chkB 128 9 (blk 128 9) = true := by decide +kernel
theorem ckb128_24 : chkB 128 24 (blk 128 24) = true := by decide +kernel
theorem ckb128_29 : chkB 128 29 (blk 128 29) = true := by decide +kernel
theorem ckb128_66 : chkB 128 66 (blk 128 66) = true := by decide +kernel
theorem ckb128_72 : chkB 128 72 (blk 128 72) = true := by decide +kernel
theorem ckb128_76 : chkB 128 76 (blk 128 76) = true := by decide +kernel
theorem ckb128_121 : chkB 128 121 (blk 128 121) = true := by decide +kernel
theorem ckb128_127 : chkB 128 127 (blk 128 127) = true := by decide +kernel
theorem ckm128 : chkM 128 = true := by
  show List.all [0, 9, 24, 29, 66, 72, 76, 121, 127] (fun pc => chkB 128 pc (blk 128 pc)) = true
  simp only [List.all_cons, List.all_nil, ckb128_0, ckb128_9, ckb128_24, ckb128_29, ckb128_66, ckb128_72, ckb128_76, ckb128_121, ckb128_127, Bool.and_true]
theorem ckb129_0 : chkB 129 0 (blk 129 0) = true := by decide +kernel
theorem ckb129_9 : chkB 129 9 (blk 129 9) = true := by decide +kernel
theorem ckb129_37 : chkB 129 37 (blk 129 37) = true := by decide +kernel
theorem ckb129_40 : chkB 129 40 (blk 129 40) = true := by decide +kernel
theorem ckb129_46 : chkB 129 46 (blk 129 46) = true := by decide +kernel
theorem ckb129_89 : chkB 129 89 (blk 129 89) = true := by decide +kernel
theorem ckb129_95 : chkB 129 95 (blk 129 95) = true := by decide +kernel
theorem ckb129_101 : chkB 129 101 (blk 129 101) = true := by decide +kernel
theorem ckb129_145 : chkB 129 145 (blk 129 145) = true := by decide +kernel
theorem ckm129 : chkM 129 = true := by
  show List.all [0, 9, 37, 40, 46, 89, 95, 101, 145] (fun pc => chkB 129 pc (blk 129 pc)) = true
  simp only [List.all_cons, List.all_nil, ckb129_0, ckb129_9, ckb129_37, ckb129_40, ckb129_46, ckb129_89, ckb129_95, ckb129_101, ckb129_145, Bool.and_true]
theorem ckb133_0 : chkB 133 0 (blk 133 0) = true := by decide +kernel
theorem ckb133_66 : chkB 133 66 (blk 133 66) = true := by decide +kernel
theorem ckb133_82 : chkB 133 82 (blk 133 82) = true := by decide +kernel
theorem ckb133_98 : chkB 133 98 (blk 133 98) = true := by decide +kernel
theorem ckb133_114 : chkB 133 114 (blk 133 114) = true := by decide +kernel
theorem ckb133_118 : chkB 133 118 (blk 133 118) = true := by decide +kernel
theorem ckb133_119 : chkB 133 119 (blk 133 119) = true := by decide +kernel
theorem ckb133_142 : chkB 133 142 (blk 133 142) = true := by decide +kernel
theorem ckb133_146 : chkB 133 146 (blk 133 146) = true := by decide +kernel
theorem ckb133_147 : chkB 133 147 (blk 133 147) = true := by decide +kernel
theorem ckm133 : chkM 133 = true := by
  show List.all [0, 66, 82, 98, 114, 118, 119, 142, 146, 147] (fun pc => chkB 133 pc (blk 133 pc)) = true
  simp only [List.all_cons, List.all_nil, ckb133_0, ckb133_66, ckb133_82, ckb133_98, ckb133_114, ckb133_118, ckb133_119, ckb133_142, ckb133_146, ckb133_147, Bool.and_true]
theorem ckb135_0 : chkB 135 0 (blk 135 0) = true := by decide +kernel
theorem ckb135_16 : chkB 135 16 (blk 135 16) = true := by decide +kernel
theorem ckb135_17 : chkB 135 17 (blk 135 17) = true := by decide +kernel
theorem ckb135_21 : chkB 135 21 (blk 135 21) = true := by decide +kernel
theorem ckb135_145 : chkB 135 145 (blk 135 145) = true := by decide +kernel
theorem ckb135_146 : chkB 135 146 (blk 135 146) = true := by decide +kernel
theorem ckb135_157 : chkB 135 157 (blk 135 157) = true := by decide +kernel
theorem ckb135_158 : chkB 135 158 (blk 135 158) = true := by decide +kernel
theorem ckb135_165 : chkB 135 165 (blk 135 165) = true := by decide +kernel
theorem ckb135_213 : chkB 135 213 (blk 135 213) = true := by decide +kernel
theorem ckb135_217 : chkB 135 217 (blk 135 217) = true := by decide +kernel
theorem ckb135_218 : chkB 135 218 (blk 135 218) = true := by decide +kernel
theorem ckb135_225 : chkB 135 225 (blk 135 225) = true := by decide +kernel
theorem ckb135_231 : chkB 135 231 (blk 135 231) = true := by decide +kernel
theorem ckm135 : chkM 135 = true := by
  show List.all [0, 16, 17, 21, 145, 146, 157, 158, 165, 213, 217, 218, 225, 231] (fun pc => chkB 135 pc (blk 135 pc)) = true
  simp only [List.all_cons, List.all_nil, ckb135_0, ckb135_16, ckb135_17, ckb135_21, ckb135_145, ckb135_146, ckb135_157, ckb135_158, ckb135_165, ckb135_213, ckb135_217, ckb135_218, ckb135_225, ckb135_231, Bool.and_true]
theorem ckb143_0 : chkB 143 0 (blk 143 0) = true := by decide +kernel
theorem ckb143_6 : chkB 143 6 (blk 143 6) = true := by decide +kernel
theorem ckb143_152 : chkB 143 152 (blk 143 152) = true := by decide +kernel
theorem ckb143_164 : chkB 143 164 (blk 143 164) = true := by decide +kernel
theorem ckb143_165 : chkB 143 165 (blk 143 165) = true := by decide +kernel
theorem ckb143_177 : chkB 143 177 (blk 143 177) = true := by decide +kernel
theorem ckb143_178 : chkB 143 178 (blk 143 178) = true := by decide +kernel
theorem ckb143_185 : chkB 143 185 (blk 143 185) = true := by decide +kernel
theorem ckb143_186 : chkB 143 186 (blk 143 186) = true := by decide +kernel
theorem ckb143_211 : chkB 143 211 (blk 143 211) = true := by decide +kernel
theorem ckb143_218 : chkB 143 218 (blk 143 218) = true := by decide +kernel
theorem ckb143_227 : chkB 143 227 (blk 143 227) = true := by decide +kernel
theorem ckb143_231 : chkB 143 231 (blk 143 231) = true := by decide +kernel
theorem ckb143_233 : chkB 143 233 (blk 143 233) = true := by decide +kernel
theorem ckb143_241 : chkB 143 241 (blk 143 241) = true := by decide +kernel
theorem ckb143_250 : chkB 143 250 (blk 143 250) = true := by decide +kernel
theorem ckb143_251 : chkB 143 251 (blk 143 251) = true := by decide +kernel
theorem ckm143 : chkM 143 = true := by
  show List.all [0, 6, 152, 164, 165, 177, 178, 185, 186, 211, 218, 227, 231, 233, 241, 250, 251] (fun pc => chkB 143 pc (blk 143 pc)) = true
  simp only [List.all_cons, List.all_nil, ckb143_0, ckb143_6, ckb143_152, ckb143_164, ckb143_165, ckb143_177, ckb143_178, ckb143_185, ckb143_186, ckb143_211, ckb143_218, ckb143_227, ckb143_231, ckb143_233, ckb143_241, ckb143_250, ckb143_251, Bool.and_true]
theorem ckb148_0 : chkB 148 0 (blk 148 0) = true := by decide +kernel
theorem ckb148_9 : chkB 148 9 (blk 148 9) = true := by decide +kernel
theorem ckb148_24 : chkB 148 24 (blk 148 24) = true := by decide +kernel
theorem ckb148_36 : chkB 148 36 (blk 148 36) = true := by decide +kernel
theorem ckb148_48 : chkB 148 48 (blk 148 48) = true := by decide +kernel
theorem ckb148_59 : chkB 148 59 (blk 148 59) = true := by decide +kernel
theorem ckb148_108 : chkB 148 108 (blk 148 108) = true := by decide +kernel
theorem ckb148_114 : chkB 148 114 (blk 148 114) = true := by decide +kernel
theorem ckb148_120 : chkB 148 120 (blk 148 120) = true := by decide +kernel
theorem ckb148_128 : chkB 148 128 (blk 148 128) = true := by decide +kernel
theorem ckb148_138 : chkB 148 138 (blk 148 138) = true := by decide +kernel
theorem ckb148_143 : chkB 148 143 (blk 148 143) = true := by decide +kernel
theorem ckm148 : chkM 148 = true := by
  show List.all [0, 9, 24, 36, 48, 59, 108, 114, 120, 128, 138, 143] (fun pc => chkB 148 pc (blk 148 pc)) = true
  simp only [List.all_cons, List.all_nil, ckb148_0, ckb148_9, ckb148_24, ckb148_36, ckb148_48, ckb148_59, ckb148_108, ckb148_114, ckb148_120, ckb148_128, ckb148_138, ckb148_143, Bool.and_true]
theorem ckb150_0 : chkB 150 0 (blk 150 0) = true := by decide +kernel
theorem ckb150_14 : chkB 150 14 (blk 150 14) = true := by decide +kernel
theorem ckb150_16 : chkB 150 16 (blk 150 16) = true := by decide +kernel
theorem ckb150_30 : chkB 150 30 (blk 150 30) = true := by decide +kernel
theorem ckb150_94 : chkB 150 94 (blk 150 94) = true := by decide +kernel
theorem ckb150_99 : chkB 150 99 (blk 150 99) = true := by decide +kernel
theorem ckb150_100 : chkB 150 100 (blk 150 100) = true := by decide +kernel
theorem ckb150_135 : chkB 150 135 (blk 150 135) = true := by decide +kernel
theorem ckb150_139 : chkB 150 139 (blk 150 139) = true := by decide +kernel
theorem ckb150_140 : chkB 150 140 (blk 150 140) = true := by decide +kernel
theorem ckb150_148 : chkB 150 148 (blk 150 148) = true := by decide +kernel
theorem ckb150_156 : chkB 150 156 (blk 150 156) = true := by decide +kernel
theorem ckb150_165 : chkB 150 165 (blk 150 165) = true := by decide +kernel
theorem ckb150_220 : chkB 150 220 (blk 150 220) = true := by decide +kernel
theorem ckb150_221 : chkB 150 221 (blk 150 221) = true := by decide +kernel
theorem ckb150_226 : chkB 150 226 (blk 150 226) = true := by decide +kernel
theorem ckb150_237 : chkB 150 237 (blk 150 237) = true := by decide +kernel
theorem ckb150_288 : chkB 150 288 (blk 150 288) = true := by decide +kernel
theorem ckm150 : chkM 150 = true := by
  show List.all [0, 14, 16, 30, 94, 99, 100, 135, 139, 140, 148, 156, 165, 220, 221, 226, 237, 288] (fun pc => chkB 150 pc (blk 150 pc)) = true
  simp only [List.all_cons, List.all_nil, ckb150_0, ckb150_14, ckb150_16, ckb150_30, ckb150_94, ckb150_99, ckb150_100, ckb150_135, ckb150_139, ckb150_140, ckb150_148, ckb150_156, ckb150_165, ckb150_220, ckb150_221, ckb150_226, ckb150_237, ckb150_288, Bool.and_true]
theorem ckb151_0 : chkB 151 0 (blk 151 0) = true := by decide +kernel
theorem ckb151_17 : chkB 151 17 (blk 151 17) = true := by decide +kernel
theorem ckb151_21 : chkB 151 21 (blk 151 21) = true := by decide +kernel
theorem ckb151_28 : chkB 151 28 (blk 151 28) = true := by decide +kernel
theorem ckb151_54 : chkB 151 54 (blk 151 54) = true := by decide +kernel
theorem ckb151_62 : chkB 151 62 (blk 151 62) = true := by decide +kernel
theorem ckb151_89 : chkB 151 89 (blk 151 89) = true := by decide +kernel
theorem ckb151_90 : chkB 151 90 (blk 151 90) = true := by decide +kernel
theorem ckb151_102 : chkB 151 102 (blk 151 102) = true := by decide +kernel
theorem ckb151_107 : chkB 151 107 (blk 151 107) = true := by decide +kernel
theorem ckb151_108 : chkB 151 108 (blk 151 108) = true := by decide +kernel
theorem ckb151_115 : chkB 151 115 (blk 151 115) = true := by decide +kernel
theorem ckm151 : chkM 151 = true := by
  show List.all [0, 17, 21, 28, 54, 62, 89, 90, 102, 107, 108, 115] (fun pc => chkB 151 pc (blk 151 pc)) = true
  simp only [List.all_cons, List.all_nil, ckb151_0, ckb151_17, ckb151_21, ckb151_28, ckb151_54, ckb151_62, ckb151_89, ckb151_90, ckb151_102, ckb151_107, ckb151_108, ckb151_115, Bool.and_true]
theorem ckb153_0 : chkB 153 0 (blk 153 0) = true := by decide +kernel
theorem ckb153_9 : chkB 153 9 (blk 153 9) = true := by decide +kernel
theorem ckb153_10 : chkB 153 10 (blk 153 10) = true := by decide +kernel
theorem ckb153_15 : chkB 153 15 (blk 153 15) = true := by decide +kernel
theorem ckb153_76 : chkB 153 76 (blk 153 76) = true := by decide +kernel
theorem ckm153 : chkM 153 = true := by
  show List.all [0, 9, 10, 15, 76] (fun pc => chkB 153 pc (blk 153 pc)) = true
  simp only [List.all_cons, List.all_nil, ckb153_0, ckb153_9, ckb153_10, ckb153_15, ckb153_76, Bool.and_true]
theorem ckb154_0 : chkB 154 0 (blk 154 0) = true := by decide +kernel
theorem ckb154_67 : chkB 154 67 (blk 154 67) = true := by decide +kernel
theorem ckb154_68 : chkB 154 68 (blk 154 68) = true := by decide +kernel
theorem ckb154_115 : chkB 154 115 (blk 154 115) = true := by decide +kernel
theorem ckb154_117 : chkB 154 117 (blk 154 117) = true := by decide +kernel
theorem ckb154_132 : chkB 154 132 (blk 154 132) = true := by decide +kernel
theorem ckb154_137 : chkB 154 137 (blk 154 137) = true := by decide +kernel
theorem ckb154_140 : chkB 154 140 (blk 154 140) = true := by decide +kernel
theorem ckm154 : chkM 154 = true := by
  show List.all [0, 67, 68, 115, 117, 132, 137, 140] (fun pc => chkB 154 pc (blk 154 pc)) = true
  simp only [List.all_cons, List.all_nil, ckb154_0, ckb154_67, ckb154_68, ckb154_115, ckb154_117, ckb154_132, ckb154_137, ckb154_140, Bool.and_true]
theorem ckb156_0 : chkB 156 0 (blk 156 0) = true := by decide +kernel
theorem ckb156_36 : chkB 156 36 (blk 156 36) = true := by decide +kernel
theorem ckb156_77 : chkB 156 77 (blk 156 77) = true := by decide +kernel
theorem ckb156_83 : chkB 156 83 (blk 156 83) = true := by decide +kernel
theorem ckb156_248 : chkB 156 248 (blk 156 248) = true := by decide +kernel
theorem ckb156_249 : chkB 156 249 (blk 156 249) = true := by decide +kernel
theorem ckb156_257 : chkB 156 257 (blk 156 257) = true := by decide +kernel
theorem ckm156 : chkM 156 = true := by
  show List.all [0, 36, 77, 83, 248, 249, 257] (fun pc => chkB 156 pc (blk 156 pc)) = true
  simp only [List.all_cons, List.all_nil, ckb156_0, ckb156_36, ckb156_77, ckb156_83, ckb156_248, ckb156_249, ckb156_257, Bool.and_true]
theorem ckb157_0 : chkB 157 0 (blk 157 0) = true := by decide +kernel
theorem ckb157_33 : chkB 157 33 (blk 157 33) = true := by decide +kernel
theorem ckb157_35 : chkB 157 35 (blk 157 35) = true := by decide +kernel
theorem ckb157_57 : chkB 157 57 (blk 157 57) = true := by decide +kernel
theorem ckb157_117 : chkB 157 117 (blk 157 117) = true := by decide +kernel
theorem ckb157_121 : chkB 157 121 (blk 157 121) = true := by decide +kernel
theorem ckb157_122 : chkB 157 122 (blk 157 122) = true := by decide +kernel
theorem ckb157_148 : chkB 157 148 (blk 157 148) = true := by decide +kernel
theorem ckb157_152 : chkB 157 152 (blk 157 152) = true := by decide +kernel
theorem ckb157_171 : chkB 157 171 (blk 157 171) = true := by decide +kernel
theorem ckb157_172 : chkB 157 172 (blk 157 172) = true := by decide +kernel
theorem ckb157_180 : chkB 157 180 (blk 157 180) = true := by decide +kernel
theorem ckb157_233 : chkB 157 233 (blk 157 233) = true := by decide +kernel
theorem ckb157_234 : chkB 157 234 (blk 157 234) = true := by decide +kernel
theorem ckm157 : chkM 157 = true := by
  show List.all [0, 33, 35, 57, 117, 121, 122, 148, 152, 171, 172, 180, 233, 234] (fun pc => chkB 157 pc (blk 157 pc)) = true
  simp only [List.all_cons, List.all_nil, ckb157_0, ckb157_33, ckb157_35, ckb157_57, ckb157_117, ckb157_121, ckb157_122, ckb157_148, ckb157_152, ckb157_171, ckb157_172, ckb157_180, ckb157_233, ckb157_234, Bool.and_true]
theorem ckb158_0 : chkB 158 0 (blk 158 0) = true := by decide +kernel
theorem ckb158_11 : chkB 158 11 (blk 158 11) = true := by decide +kernel
theorem ckb158_15 : chkB 158 15 (blk 158 15) = true := by decide +kernel
theorem ckb158_16 : chkB 158 16 (blk 158 16) = true := by decide +kernel
theorem ckb158_28 : chkB 158 28 (blk 158 28) = true := by decide +kernel
theorem ckb158_29 : chkB 158 29 (blk 158 29) = true := by decide +kernel
theorem ckb158_42 : chkB 158 42 (blk 158 42) = true := by decide +kernel
theorem ckb158_43 : chkB 158 43 (blk 158 43) = true := by decide +kernel
theorem ckb158_128 : chkB 158 128 (blk 158 128) = true := by decide +kernel
theorem ckb158_129 : chkB 158 129 (blk 158 129) = true := by decide +kernel
theorem ckm158 : chkM 158 = true := by
  show List.all [0, 11, 15, 16, 28, 29, 42, 43, 128, 129] (fun pc => chkB 158 pc (blk 158 pc)) = true
  simp only [List.all_cons, List.all_nil, ckb158_0, ckb158_11, ckb158_15, ckb158_16, ckb158_28, ckb158_29, ckb158_42, ckb158_43, ckb158_128, ckb158_129, Bool.and_true]
theorem ckb163_0 : chkB 163 0 (blk 163 0) = true := by decide +kernel
theorem ckb163_9 : chkB 163 9 (blk 163 9) = true := by decide +kernel
theorem ckb163_17 : chkB 163 17 (blk 163 17) = true := by decide +kernel
theorem ckb163_43 : chkB 163 43 (blk 163 43) = true := by decide +kernel
theorem ckb163_47 : chkB 163 47 (blk 163 47) = true := by decide +kernel
theorem ckb163_48 : chkB 163 48 (blk 163 48) = true := by decide +kernel
theorem ckb163_59 : chkB 163 59 (blk 163 59) = true := by decide +kernel
theorem ckb163_77 : chkB 163 77 (blk 163 77) = true := by decide +kernel
theorem ckb163_88 : chkB 163 88 (blk 163 88) = true := by decide +kernel
theorem ckb163_89 : chkB 163 89 (blk 163 89) = true := by decide +kernel
theorem ckb163_100 : chkB 163 100 (blk 163 100) = true := by decide +kernel
theorem ckb163_102 : chkB 163 102 (blk 163 102) = true := by decide +kernel
theorem ckb163_110 : chkB 163 110 (blk 163 110) = true := by decide +kernel
theorem ckb163_193 : chkB 163 193 (blk 163 193) = true := by decide +kernel
theorem ckb163_195 : chkB 163 195 (blk 163 195) = true := by decide +kernel
theorem ckb163_203 : chkB 163 203 (blk 163 203) = true := by decide +kernel
theorem ckb163_224 : chkB 163 224 (blk 163 224) = true := by decide +kernel
theorem ckb163_228 : chkB 163 228 (blk 163 228) = true := by decide +kernel
theorem ckb163_229 : chkB 163 229 (blk 163 229) = true := by decide +kernel
theorem ckb163_253 : chkB 163 253 (blk 163 253) = true := by decide +kernel
theorem ckb163_254 : chkB 163 254 (blk 163 254) = true := by decide +kernel
theorem ckb163_282 : chkB 163 282 (blk 163 282) = true := by decide +kernel
theorem ckb163_284 : chkB 163 284 (blk 163 284) = true := by decide +kernel
theorem ckb163_291 : chkB 163 291 (blk 163 291) = true := by decide +kernel
theorem ckb163_297 : chkB 163 297 (blk 163 297) = true := by decide +kernel
theorem ckm163 : chkM 163 = true := by
  show List.all [0, 9, 17, 43, 47, 48, 59, 77, 88, 89, 100, 102, 110, 193, 195, 203, 224, 228, 229, 253, 254, 282, 284, 291, 297] (fun pc => chkB 163 pc (blk 163 pc)) = true
  simp only [List.all_cons, List.all_nil, ckb163_0, ckb163_9, ckb163_17, ckb163_43, ckb163_47, ckb163_48, ckb163_59, ckb163_77, ckb163_88, ckb163_89, ckb163_100, ckb163_102, ckb163_110, ckb163_193, ckb163_195, ckb163_203, ckb163_224, ckb163_228, ckb163_229, ckb163_253, ckb163_254, ckb163_282, ckb163_284, ckb163_291, ckb163_297, Bool.and_true]
theorem ckb164_0 : chkB 164 0 (blk 164 0) = true := by decide +kernel
theorem ckb164_9 : chkB 164 9 (blk 164 9) = true := by decide +kernel
theorem ckb164_24 : chkB 164 24 (blk 164 24) = true := by decide +kernel
theorem ckb164_35 : chkB 164 35 (blk 164 35) = true := by decide +kernel
theorem ckb164_40 : chkB 164 40 (blk 164 40) = true := by decide +kernel
theorem ckb164_68 : chkB 164 68 (blk 164 68) = true := by decide +kernel
theorem ckb164_69 : chkB 164 69 (blk 164 69) = true := by decide +kernel
theorem ckb164_76 : chkB 164 76 (blk 164 76) = true := by decide +kernel
theorem ckb164_77 : chkB 164 77 (blk 164 77) = true := by decide +kernel
theorem ckb164_85 : chkB 164 85 (blk 164 85) = true := by decide +kernel
theorem ckb164_148 : chkB 164 148 (blk 164 148) = true := by decide +kernel
theorem ckb164_157 : chkB 164 157 (blk 164 157) = true := by decide +kernel
theorem ckb164_169 : chkB 164 169 (blk 164 169) = true := by decide +kernel
theorem ckb164_170 : chkB 164 170 (blk 164 170) = true := by decide +kernel
theorem ckb164_171 : chkB 164 171 (blk 164 171) = true := by decide +kernel
theorem ckb164_177 : chkB 164 177 (blk 164 177) = true := by decide +kernel
theorem ckb164_196 : chkB 164 196 (blk 164 196) = true := by decide +kernel
theorem ckb164_199 : chkB 164 199 (blk 164 199) = true := by decide +kernel
theorem ckb164_213 : chkB 164 213 (blk 164 213) = true := by decide +kernel
theorem ckb164_227 : chkB 164 227 (blk 164 227) = true := by decide +kernel
theorem ckm164 : chkM 164 = true := by
  show List.all [0, 9, 24, 35, 40, 68, 69, 76, 77, 85, 148, 157, 169, 170, 171, 177, 196, 199, 213, 227] (fun pc => chkB 164 pc (blk 164 pc)) = true
  simp only [List.all_cons, List.all_nil, ckb164_0, ckb164_9, ckb164_24, ckb164_35, ckb164_40, ckb164_68, ckb164_69, ckb164_76, ckb164_77, ckb164_85, ckb164_148, ckb164_157, ckb164_169, ckb164_170, ckb164_171, ckb164_177, ckb164_196, ckb164_199, ckb164_213, ckb164_227, Bool.and_true]
theorem ckb165_0 : chkB 165 0 (blk 165 0) = true := by decide +kernel
theorem ckb165_33 : chkB 165 33 (blk 165 33) = true := by decide +kernel
theorem ckb165_61 : chkB 165 61 (blk 165 61) = true := by decide +kernel
theorem ckb165_112 : chkB 165 112 (blk 165 112) = true := by decide +kernel
theorem ckb165_113 : chkB 165 113 (blk 165 113) = true := by decide +kernel
theorem ckb165_120 : chkB 165 120 (blk 165 120) = true := by decide +kernel
theorem ckb165_152 : chkB 165 152 (blk 165 152) = true := by decide +kernel
theorem ckb165_155 : chkB 165 155 (blk 165 155) = true := by decide +kernel
theorem ckb165_189 : chkB 165 189 (blk 165 189) = true := by decide +kernel
theorem ckb165_190 : chkB 165 190 (blk 165 190) = true := by decide +kernel
theorem ckb165_197 : chkB 165 197 (blk 165 197) = true := by decide +kernel
theorem ckb165_203 : chkB 165 203 (blk 165 203) = true := by decide +kernel
theorem ckm165 : chkM 165 = true := by
  show List.all [0, 33, 61, 112, 113, 120, 152, 155, 189, 190, 197, 203] (fun pc => chkB 165 pc (blk 165 pc)) = true
  simp only [List.all_cons, List.all_nil, ckb165_0, ckb165_33, ckb165_61, ckb165_112, ckb165_113, ckb165_120, ckb165_152, ckb165_155, ckb165_189, ckb165_190, ckb165_197, ckb165_203, Bool.and_true]
theorem ckb173_0 : chkB 173 0 (blk 173 0) = true := by decide +kernel
theorem ckb173_9 : chkB 173 9 (blk 173 9) = true := by decide +kernel
theorem ckb173_20 : chkB 173 20 (blk 173 20) = true := by decide +kernel
theorem ckb173_41 : chkB 173 41 (blk 173 41) = true := by decide +kernel
theorem ckb173_52 : chkB 173 52 (blk 173 52) = true := by decide +kernel
theorem ckb173_86 : chkB 173 86 (blk 173 86) = true := by decide +kernel
theorem ckb173_87 : chkB 173 87 (blk 173 87) = true := by decide +kernel
theorem ckb173_96 : chkB 173 96 (blk 173 96) = true := by decide +kernel
theorem ckb173_119 : chkB 173 119 (blk 173 119) = true := by decide +kernel
theorem ckb173_120 : chkB 173 120 (blk 173 120) = true := by decide +kernel
theorem ckb173_127 : chkB 173 127 (blk 173 127) = true := by decide +kernel
theorem ckm173 : chkM 173 = true := by
  show List.all [0, 9, 20, 41, 52, 86, 87, 96, 119, 120, 127] (fun pc => chkB 173 pc (blk 173 pc)) = true
  simp only [List.all_cons, List.all_nil, ckb173_0, ckb173_9, ckb173_20, ckb173_41, ckb173_52, ckb173_86, ckb173_87, ckb173_96, ckb173_119, ckb173_120, ckb173_127, Bool.and_true]
theorem ckb174_0 : chkB 174 0 (blk 174 0) = true := by decide +kernel
theorem ckb174_12 : chkB 174 12 (blk 174 12) = true := by decide +kernel
theorem ckb174_23 : chkB 174 23 (blk 174 23) = true := by decide +kernel
theorem ckb174_36 : chkB 174 36 (blk 174 36) = true := by decide +kernel
theorem ckb174_52 : chkB 174 52 (blk 174 52) = true := by decide +kernel
theorem ckb174_86 : chkB 174 86 (blk 174 86) = true := by decide +kernel
theorem ckb174_87 : chkB 174 87 (blk 174 87) = true := by decide +kernel
theorem ckb174_96 : chkB 174 96 (blk 174 96) = true := by decide +kernel
theorem ckb174_106 : chkB 174 106 (blk 174 106) = true := by decide +kernel
theorem ckm174 : chkM 174 = true := by
  show List.all [0, 12, 23, 36, 52, 86, 87, 96, 106] (fun pc => chkB 174 pc (blk 174 pc)) = true
  simp only [List.all_cons, List.all_nil, ckb174_0, ckb174_12, ckb174_23, ckb174_36, ckb174_52, ckb174_86, ckb174_87, ckb174_96, ckb174_106, Bool.and_true]
theorem ckb175_0 : chkB 175 0 (blk 175 0) = true := by decide +kernel
theorem ckb175_3 : chkB 175 3 (blk 175 3) = true := by decide +kernel
theorem ckb175_35 : chkB 175 35 (blk 175 35) = true := by decide +kernel
theorem ckb175_427 : chkB 175 427 (blk 175 427) = true := by decide +kernel
theorem ckb175_428 : chkB 175 428 (blk 175 428) = true := by decide +kernel
theorem ckb175_483 : chkB 175 483 (blk 175 483) = true := by decide +kernel
theorem ckb175_484 : chkB 175 484 (blk 175 484) = true := by decide +kernel
theorem ckb175_489 : chkB 175 489 (blk 175 489) = true := by decide +kernel
theorem ckb175_652 : chkB 175 652 (blk 175 652) = true := by decide +kernel
theorem ckb175_653 : chkB 175 653 (blk 175 653) = true := by decide +kernel
theorem ckb175_661 : chkB 175 661 (blk 175 661) = true := by decide +kernel
theorem ckm175 : chkM 175 = true := by
  show List.all [0, 3, 35, 427, 428, 483, 484, 489, 652, 653, 661] (fun pc => chkB 175 pc (blk 175 pc)) = true
  simp only [List.all_cons, List.all_nil, ckb175_0, ckb175_3, ckb175_35, ckb175_427, ckb175_428, ckb175_483, ckb175_484, ckb175_489, ckb175_652, ckb175_653, ckb175_661, Bool.and_true]
theorem ckb179_0 : chkB 179 0 (blk 179 0) = true := by decide +kernel
theorem ckb179_14 : chkB 179 14 (blk 179 14) = true := by decide +kernel
theorem ckb179_16 : chkB 179 16 (blk 179 16) = true := by decide +kernel
theorem ckb179_32 : chkB 179 32 (blk 179 32) = true := by decide +kernel
theorem ckb179_35 : chkB 179 35 (blk 179 35) = true := by decide +kernel
theorem ckb179_40 : chkB 179 40 (blk 179 40) = true := by decide +kernel
theorem ckb179_97 : chkB 179 97 (blk 179 97) = true := by decide +kernel
theorem ckb179_98 : chkB 179 98 (blk 179 98) = true := by decide +kernel
theorem ckb179_106 : chkB 179 106 (blk 179 106) = true := by decide +kernel
theorem ckm179 : chkM 179 = true := by
  show List.all [0, 14, 16, 32, 35, 40, 97, 98, 106] (fun pc => chkB 179 pc (blk 179 pc)) = true
  simp only [List.all_cons, List.all_nil, ckb179_0, ckb179_14, ckb179_16, ckb179_32, ckb179_35, ckb179_40, ckb179_97, ckb179_98, ckb179_106, Bool.and_true]
theorem ckb181_0 : chkB 181 0 (blk 181 0) = true := by decide +kernel
theorem ckb181_12 : chkB 181 12 (blk 181 12) = true := by decide +kernel
theorem ckb181_21 : chkB 181 21 (blk 181 21) = true := by decide +kernel
theorem ckb181_67 : chkB 181 67 (blk 181 67) = true := by decide +kernel
theorem ckb181_69 : chkB 181 69 (blk 181 69) = true := by decide +kernel
theorem ckb181_96 : chkB 181 96 (blk 181 96) = true := by decide +kernel
theorem ckm181 : chkM 181 = true := by
  show List.all [0, 12, 21, 67, 69, 96] (fun pc => chkB 181 pc (blk 181 pc)) = true
  simp only [List.all_cons, List.all_nil, ckb181_0, ckb181_12, ckb181_21, ckb181_67, ckb181_69, ckb181_96, Bool.and_true]
theorem ckb182_0 : chkB 182 0 (blk 182 0) = true := by decide +kernel
theorem ckb182_12 : chkB 182 12 (blk 182 12) = true := by decide +kernel
theorem ckb182_24 : chkB 182 24 (blk 182 24) = true := by decide +kernel
theorem ckb182_26 : chkB 182 26 (blk 182 26) = true := by decide +kernel
theorem ckb182_72 : chkB 182 72 (blk 182 72) = true := by decide +kernel
theorem ckb182_74 : chkB 182 74 (blk 182 74) = true := by decide +kernel
theorem ckb182_101 : chkB 182 101 (blk 182 101) = true := by decide +kernel
theorem ckm182 : chkM 182 = true := by
  show List.all [0, 12, 24, 26, 72, 74, 101] (fun pc => chkB 182 pc (blk 182 pc)) = true
  simp only [List.all_cons, List.all_nil, ckb182_0, ckb182_12, ckb182_24, ckb182_26, ckb182_72, ckb182_74, ckb182_101, Bool.and_true]
