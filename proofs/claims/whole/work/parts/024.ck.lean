theorem ckb184_0 : chkB 184 0 (blk 184 0) = true := by decide +kernel
theorem ckb184_18 : chkB 184 18 (blk 184 18) = true := by decide +kernel
theorem ckb184_172 : chkB 184 172 (blk 184 172) = true := by decide +kernel
theorem ckb184_235 : chkB 184 235 (blk 184 235) = true := by decide +kernel
theorem ckb184_248 : chkB 184 248 (blk 184 248) = true := by decide +kernel
theorem ckb184_261 : chkB 184 261 (blk 184 261) = true := by decide +kernel
theorem ckb184_284 : chkB 184 284 (blk 184 284) = true := by decide +kernel
theorem ckb184_327 : chkB 184 327 (blk 184 327) = true := by decide +kernel
theorem ckb184_380 : chkB 184 380 (blk 184 380) = true := by decide +kernel
theorem ckb184_433 : chkB 184 433 (blk 184 433) = true := by decide +kernel
theorem ckb184_466 : chkB 184 466 (blk 184 466) = true := by decide +kernel
theorem ckb184_499 : chkB 184 499 (blk 184 499) = true := by decide +kernel
theorem ckb184_542 : chkB 184 542 (blk 184 542) = true := by decide +kernel
theorem ckb184_565 : chkB 184 565 (blk 184 565) = true := by decide +kernel
theorem ckb184_598 : chkB 184 598 (blk 184 598) = true := by decide +kernel
theorem ckb184_641 : chkB 184 641 (blk 184 641) = true := by decide +kernel
theorem ckb184_674 : chkB 184 674 (blk 184 674) = true := by decide +kernel
theorem ckb184_717 : chkB 184 717 (blk 184 717) = true := by decide +kernel
theorem ckb184_750 : chkB 184 750 (blk 184 750) = true := by decide +kernel
theorem ckb184_784 : chkB 184 784 (blk 184 784) = true := by decide +kernel
theorem ckb184_817 : chkB 184 817 (blk 184 817) = true := by decide +kernel
theorem ckb184_860 : chkB 184 860 (blk 184 860) = true := by decide +kernel
theorem ckb184_903 : chkB 184 903 (blk 184 903) = true := by decide +kernel
theorem ckb184_936 : chkB 184 936 (blk 184 936) = true := by decide +kernel
theorem ckb184_959 : chkB 184 959 (blk 184 959) = true := by decide +kernel
theorem ckb184_1002 : chkB 184 1002 (blk 184 1002) = true := by decide +kernel
theorem ckb184_1025 : chkB 184 1025 (blk 184 1025) = true := by decide +kernel
theorem ckb184_1068 : chkB 184 1068 (blk 184 1068) = true := by decide +kernel
theorem ckb184_1101 : chkB 184 1101 (blk 184 1101) = true := by decide +kernel
theorem ckb184_1134 : chkB 184 1134 (blk 184 1134) = true := by decide +kernel
theorem ckb184_1167 : chkB 184 1167 (blk 184 1167) = true := by decide +kernel
theorem ckb184_1190 : chkB 184 1190 (blk 184 1190) = true := by decide +kernel
theorem ckb184_1213 : chkB 184 1213 (blk 184 1213) = true := by decide +kernel
theorem ckb184_1236 : chkB 184 1236 (blk 184 1236) = true := by decide +kernel
theorem ckb184_1242 : chkB 184 1242 (blk 184 1242) = true := by decide +kernel
theorem ckm184 : chkM 184 = true := by
  show List.all [0, 18, 172, 235, 248, 261, 284, 327, 380, 433, 466, 499, 542, 565, 598, 641, 674, 717, 750, 784, 817, 860, 903, 936, 959, 1002, 1025, 1068, 1101, 1134, 1167, 1190, 1213, 1236, 1242] (fun pc => chkB 184 pc (blk 184 pc)) = true
  simp only [List.all_cons, List.all_nil, ckb184_0, ckb184_18, ckb184_172, ckb184_235, ckb184_248, ckb184_261, ckb184_284, ckb184_327, ckb184_380, ckb184_433, ckb184_466, ckb184_499, ckb184_542, ckb184_565, ckb184_598, ckb184_641, ckb184_674, ckb184_717, ckb184_750, ckb184_784, ckb184_817, ckb184_860, ckb184_903, ckb184_936, ckb184_959, ckb184_1002, ckb184_1025, ckb184_1068, ckb184_1101, ckb184_1134, ckb184_1167, ckb184_1190, ckb184_1213, ckb184_1236, ckb184_1242, Bool.and_true]
theorem ck_all : ∀ {k : Nat}, k < 189 → chkM k = true
  | 0, _ => ckm0
  | 1, _ => ckm1
  | 2, _ => ckm2
  | 3, _ => ckm3
  | 4, _ => ckm4
  | 5, _ => ckm5
  | 6, _ => ckm6
  | 7, _ => ckm7
  | 8, _ => ckm8
  | 9, _ => ckm9
  | 10, _ => ckm10
  | 11, _ => ckm11
  | 12, _ => ckm12
  | 13, _ => ckm13
  | 14, _ => ckm14
  | 15, _ => ckm15
  | 16, _ => ckm16
  | 17, _ => ckm17
  | 18, _ => ckm18
  | 19, _ => ckm19
  | 20, _ => ckm20
  | 21, _ => ckm21
  | 22, _ => ckm22
  | 23, _ => ckm23
  | 24, _ => ckm24
  | 25, _ => ckm25
  | 26, _ => ckm26
  | 27, _ => ckm27
  | 28, _ => ckm28
  | 29, _ => ckm29
  | 30, _ => ckm30
  | 31, _ => ckm31
  | 32, _ => ckm32
  | 33, _ => ckm33
  | 34, _ => ckm34
  | 35, _ => ckm35
  | 36, _ => ckm36
  | 37, _ => ckm37
  | 38, _ => ckm38
  | 39, _ => ckm39
  | 40, _ => ckm40
  | 41, _ => ckm41
  | 42, _ => ckm42
  | 43, _ => ckm43
  | 44, _ => ckm44
  | 45, _ => ckm45
  | 46, _ => ckm46
  | 47, _ => ckm47
  | 48, _ => ckm48
  | 49, _ => ckm49
  | 50, _ => ckm50
  | 51, _ => ckm51
  | 52, _ => ckm52
  | 53, _ => ckm53
  | 54, _ => ckm54
  | 55, _ => ckm55
  | 56, _ => ckm56
  | 57, _ => ckm57
  | 58, _ => ckm58
  | 59, _ => ckm59
  | 60, _ => ckm60
  | 61, _ => ckm61
  | 62, _ => ckm62
  | 63, _ => ckm63
  | 64, _ => ckm64
  | 65, _ => ckm65
  | 66, _ => ckm66
  | 67, _ => ckm67
  | 68, _ => ckm68
  | 69, _ => ckm69
  | 70, _ => ckm70
  | 71, _ => ckm71
  | 72, _ => ckm72
  | 73, _ => ckm73
  | 74, _ => ckm74
  | 75, _ => ckm75
  | 76, _ => ckm76
  | 77, _ => ckm77
  | 78, _ => ckm78
  | 79, _ => ckm79
  | 80, _ => ckm80
  | 81, _ => ckm81
  | 82, _ => ckm82
  | 83, _ => ckm83
  | 84, _ => ckm84
  | 85, _ => ckm85
  | 86, _ => ckm86
  | 87, _ => ckm87
  | 88, _ => ckm88
  | 89, _ => ckm89
  | 90, _ => ckm90
  | 91, _ => ckm91
  | 92, _ => ckm92
  | 93, _ => ckm93
  | 94, _ => ckm94
  | 95, _ => ckm95
  | 96, _ => ckm96
  | 97, _ => ckm97
  | 98, _ => ckm98
  | 99, _ => ckm99
  | 100, _ => ckm100
  | 101, _ => ckm101
  | 102, _ => ckm102
  | 103, _ => ckm103
  | 104, _ => ckm104
  | 105, _ => ckm105
  | 106, _ => ckm106
  | 107, _ => ckm107
  | 108, _ => ckm108
  | 109, _ => ckm109
  | 110, _ => ckm110
  | 111, _ => ckm111
  | 112, _ => ckm112
  | 113, _ => ckm113
  | 114, _ => ckm114
  | 115, _ => ckm115
  | 116, _ => ckm116
  | 117, _ => ckm117
  | 118, _ => ckm118
  | 119, _ => ckm119
  | 120, _ => ckm120
  | 121, _ => ckm121
  | 122, _ => ckm122
  | 123, _ => ckm123
  | 124, _ => ckm124
  | 125, _ => ckm125
  | 126, _ => ckm126
  | 127, _ => ckm127
  | 128, _ => ckm128
  | 129, _ => ckm129
  | 130, _ => ckm130
  | 131, _ => ckm131
  | 132, _ => ckm132
  | 133, _ => ckm133
  | 134, _ => ckm134
  | 135, _ => ckm135
  | 136, _ => ckm136
  | 137, _ => ckm137
  | 138, _ => ckm138
  | 139, _ => ckm139
  | 140, _ => ckm140
  | 141, _ => ckm141
  | 142, _ => ckm142
  | 143, _ => ckm143
  | 144, _ => ckm144
  | 145, _ => ckm145
  | 146, _ => ckm146
  | 147, _ => ckm147
  | 148, _ => ckm148
  | 149, _ => ckm149
  | 150, _ => ckm150
  | 151, _ => ckm151
  | 152, _ => ckm152
  | 153, _ => ckm153
  | 154, _ => ckm154
  | 155, _ => ckm155
  | 156, _ => ckm156
  | 157, _ => ckm157
  | 158, _ => ckm158
  | 159, _ => ckm159
  | 160, _ => ckm160
  | 161, _ => ckm161
  | 162, _ => ckm162
  | 163, _ => ckm163
  | 164, _ => ckm164
  | 165, _ => ckm165
  | 166, _ => ckm166
  | 167, _ => ckm167
  | 168, _ => ckm168
  | 169, _ => ckm169
  | 170, _ => ckm170
  | 171, _ => ckm171
  | 172, _ => ckm172
  | 173, _ => ckm173
  | 174, _ => ckm174
  | 175, _ => ckm175
  | 176, _ => ckm176
  | 177, _ => ckm177
  | 178, _ => ckm178
  | 179, _ => ckm179
  | 180, _ => ckm180
  | 181, _ => ckm181
  | 182, _ => ckm182
  | 183, _ => ckm183
  | 184, _ => ckm184
  | 185, _ => ckm185
  | 186, _ => ckm186
  | 187, _ => ckm187
  | 188, _ => ckm188
  | k + 189, h => absurd h (by omega)
