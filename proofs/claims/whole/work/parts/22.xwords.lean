abbrev rB (q : Nat → ClassId) (a n : Nat) (f : Nat → Int32) : Nat × va_E := (a, .inl (q 0, n, .inl f))
abbrev rI (q : Nat → ClassId) (a n : Nat) (f : Nat → Int32) : Nat × va_E := (a, .inl (q 1, n, .inl f))
abbrev rJ (q : Nat → ClassId) (a n : Nat) (f : Nat → Int64) : Nat × va_E := (a, .inl (q 2, n, .inr (.inl f)))
abbrev rO (q : Nat → ClassId) (k a n : Nat) (f : Nat → Option Nat) : Nat × va_E := (a, .inl (q k, n, .inr (.inr (.inr (.inr f)))))
abbrev oX0 (a : Nat) (f0 : Nat) (f1 : Nat) (f2 : Nat) (f3 : Nat) (f4 : Nat) (f5 : Nat) (f6 : Nat) (f7 : Int32) (f8 : Int32) (f9 : Int32) (f10 : Int32) (f11 : Int64) (f12 : Int32) (f13 : Int32) (f14 : Int32) (f15 : Int64) (f16 : Int32) (f17 : Int32) : Nat × va_E := (a, .inr (0, [.ref f0, .ref f1, .ref f2, .ref f3, .ref f4, .ref f5, .ref f6, .int f7, .int f8, .int f9, .int f10, .long f11, .int f12, .int f13, .int f14, .long f15, .int f16, .int f17]))
abbrev oX1 (a : Nat) (f0 : Nat) (f1 : Int32) (f2 : Int32) : Nat × va_E := (a, .inr (1, [.ref f0, .int f1, .int f2]))
abbrev oX2 (a : Nat) (f0 : Nat) (f1 : Nat) (f2 : Nat) (f3 : Nat) (f4 : Int32) (f5 : Int32) (f6 : Int64) (f7 : Int64) (f8 : Int32) (f9 : Int32) : Nat × va_E := (a, .inr (2, [.ref f0, .ref f1, .ref f2, .ref f3, .int f4, .int f5, .long f6, .long f7, .int f8, .int f9]))
abbrev oX3 (a : Nat) (f0 : Nat) (f1 : Int32) : Nat × va_E := (a, .inr (3, [.ref f0, .int f1]))
abbrev oX4 (a : Nat) (f0 : Int32) (f1 : Int32) (f2 : Int32) (f3 : Int32) (f4 : Int32) (f5 : Int32) (f6 : Int32) (f7 : Int64) (f8 : Int64) (f9 : Int64) (f10 : Int32) (f11 : Int64) : Nat × va_E := (a, .inr (4, [.int f0, .int f1, .int f2, .int f3, .int f4, .int f5, .int f6, .long f7, .long f8, .long f9, .int f10, .long f11]))
abbrev oX5 (a : Nat) (f0 : Int32) (f1 : Int32) (f2 : Int32) (f3 : Int64) (f4 : Int32) (f5 : Int64) (f6 : Int64) : Nat × va_E := (a, .inr (5, [.int f0, .int f1, .int f2, .long f3, .int f4, .long f5, .long f6]))
abbrev oX6 (a : Nat) (f0 : Nat) (f1 : Nat) (f2 : Nat) (f3 : Int32) : Nat × va_E := (a, .inr (6, [.ref f0, .ref f1, .ref f2, .int f3]))
abbrev oX8 (a : Nat) (f0 : Nat) (f1 : Nat) (f2 : Int32) (f3 : Int32) (f4 : Int32) (f5 : Int32) (f6 : Int32) (f7 : Int32) (f8 : Int32) : Nat × va_E := (a, .inr (7, [.ref f0, .ref f1, .int f2, .int f3, .int f4, .int f5, .int f6, .int f7, .int f8]))
abbrev oX9 (a : Nat) (f0 : Nat) (f1 : Int32) (f2 : Int32) (f3 : Int32) (f4 : Int64) : Nat × va_E := (a, .inr (8, [.ref f0, .int f1, .int f2, .int f3, .long f4]))
abbrev oX11 (a : Nat) (f0 : Nat) (f1 : Nat) (f2 : Nat) (f3 : Nat) (f4 : Nat) (f5 : Nat) (f6 : Nat) (f7 : Nat) (f8 : Nat) (f9 : Nat) (f10 : Nat) (f11 : Int32) (f12 : Int32) (f13 : Int32) (f14 : Int32) (f15 : Int32) (f16 : Int32) (f17 : Int32) (f18 : Int32) : Nat × va_E := (a, .inr (9, [.ref f0, .ref f1, .ref f2, .ref f3, .ref f4, .ref f5, .ref f6, .ref f7, .ref f8, .ref f9, .ref f10, .int f11, .int f12, .int f13, .int f14, .int f15, .int f16, .int f17, .int f18]))
set_option maxRecDepth 20000 in
theorem kw_0 : Cond.selects RX11 yX11_newAuthority yX11_newAuthority ∈ wg := wg_in0 0 rfl rfl
set_option maxRecDepth 20000 in
theorem kw_1 : Cond.selects RX11 yX11_authorityAt yX11_authorityAt ∈ wg := wg_in0 1 rfl rfl
set_option maxRecDepth 20000 in
theorem kw_2 : Cond.selects RX11 yX11_signerAt yX11_signerAt ∈ wg := wg_in0 2 rfl rfl
set_option maxRecDepth 20000 in
theorem kw_3 : Cond.selects RX11 yX11_statusFor yX11_statusFor ∈ wg := wg_in0 3 rfl rfl
set_option maxRecDepth 20000 in
theorem kw_4 : Cond.selects RX8 yX8_passLength yX8_passLength ∈ wg := wg_in0 4 rfl rfl
set_option maxRecDepth 20000 in
theorem kw_5 : Cond.selects RX8 yX8_number yX8_number ∈ wg := wg_in0 5 rfl rfl
set_option maxRecDepth 20000 in
theorem kw_6 : Cond.selects RX11 yX11_writeAnswer yX11_writeAnswer ∈ wg := wg_in0 6 rfl rfl
set_option maxRecDepth 20000 in
theorem kw_7 : Cond.selects RX11 yX11_writeTeller yX11_writeTeller ∈ wg := wg_in0 7 rfl rfl
set_option maxRecDepth 20000 in
theorem kw_8 : Cond.selects RX11 yX11_writeSingle yX11_writeSingle ∈ wg := wg_in0 8 rfl rfl
set_option maxRecDepth 20000 in
theorem kw_9 : Cond.selects RX11 yX11_writeState yX11_writeState ∈ wg := wg_in0 9 rfl rfl
set_option maxRecDepth 20000 in
theorem kw_10 : Cond.selects RX11 yX11_writeStatusAlone yX11_writeStatusAlone ∈ wg := wg_in0 10 rfl rfl
set_option maxRecDepth 20000 in
theorem kw_11 : Cond.selects RX0 yX0_readBodyTop yX0_readBodyTop ∈ wg := wg_in0 11 rfl rfl
set_option maxRecDepth 20000 in
theorem kw_12 : Cond.selects RX0 yX0_readTeller yX0_readTeller ∈ wg := wg_in0 12 rfl rfl
set_option maxRecDepth 20000 in
theorem kw_13 : Cond.selects RX0 yX0_readSingle yX0_readSingle ∈ wg := wg_in0 13 rfl rfl
set_option maxRecDepth 20000 in
theorem kw_14 : Cond.selects RX0 yX0_readState yX0_readState ∈ wg := wg_in0 14 rfl rfl
set_option maxRecDepth 20000 in
theorem kw_15 : Cond.selects RX0 yX0_readBodyRest yX0_readBodyRest ∈ wg := wg_in0 15 rfl rfl
set_option maxRecDepth 20000 in
theorem kw_16 : Cond.selects RX0 yX0_readCert yX0_readCert ∈ wg := wg_in0 16 rfl rfl
set_option maxRecDepth 20000 in
theorem kw_17 : Cond.selects RX11 yX11_verdictOnText yX11_verdictOnText ∈ wg := wg_in0 17 rfl rfl
set_option maxRecDepth 20000 in
theorem kw_18 : Cond.selects RX11 yX11_verdictOnCert yX11_verdictOnCert ∈ wg := wg_in0 18 rfl rfl
set_option maxRecDepth 20000 in
theorem kw_72 : Cond.initialized RX11 ∈ wg := wg_in1 1 rfl rfl
set_option maxRecDepth 20000 in
theorem kw_73 : Cond.initialized RX3 ∈ wg := wg_in1 2 rfl rfl
set_option maxRecDepth 20000 in
theorem kw_75 : Cond.initialized RX5 ∈ wg := wg_in1 4 rfl rfl
set_option maxRecDepth 20000 in
theorem kw_76 : Cond.initialized RX6 ∈ wg := wg_in1 5 rfl rfl
set_option maxRecDepth 20000 in
theorem kw_77 : Cond.initialized RX8 ∈ wg := wg_in1 6 rfl rfl
set_option maxRecDepth 20000 in
theorem kw_78 : Cond.initialized RX1 ∈ wg := wg_in1 7 rfl rfl
set_option maxRecDepth 20000 in
theorem kw_79 : Cond.initialized RX0 ∈ wg := wg_in1 8 rfl rfl
set_option maxRecDepth 20000 in
theorem kw_80 : Cond.initialized RX4 ∈ wg := wg_in1 9 rfl rfl
set_option maxRecDepth 20000 in
theorem kw_81 : Cond.initialized RX2 ∈ wg := wg_in1 10 rfl rfl
set_option maxRecDepth 20000 in
theorem kw_82 : Cond.initialized RX9 ∈ wg := wg_in1 11 rfl rfl
set_option maxRecDepth 20000 in
theorem kw_84 : Cond.initialized RX7 ∈ wg := wg_in1 13 rfl rfl
set_option maxRecDepth 20000 in
theorem kw_85 : Cond.initialized RX10 ∈ wg := wg_in1 14 rfl rfl
set_option maxRecDepth 20000 in
theorem kw_103 : Cond.fieldLink RX3 15 "StatusDesk$Bytes" "data" "[B" ∈ wg := wg_in1 32 rfl rfl
set_option maxRecDepth 20000 in
theorem kw_104 : Cond.fieldLink RX8 19 "StatusDesk$Bytes" "data" "[B" ∈ wg := wg_in1 33 rfl rfl
set_option maxRecDepth 20000 in
theorem kw_105 : Cond.fieldLink RX11 92 "StatusDesk$Bytes" "data" "[B" ∈ wg := wg_in1 34 rfl rfl
set_option maxRecDepth 20000 in
theorem kw_106 : Cond.fieldLink RX3 21 "StatusDesk$Bytes" "length" "I" ∈ wg := wg_in1 35 rfl rfl
set_option maxRecDepth 20000 in
theorem kw_107 : Cond.fieldLink RX8 26 "StatusDesk$Bytes" "length" "I" ∈ wg := wg_in1 36 rfl rfl
set_option maxRecDepth 20000 in
theorem kw_108 : Cond.fieldLink RX11 81 "StatusDesk$Bytes" "length" "I" ∈ wg := wg_in1 37 rfl rfl
set_option maxRecDepth 20000 in
theorem kw_109 : Cond.fieldLink RX2 47 "StatusDesk$Bytes" "length" "I" ∈ wg := wg_in1 38 rfl rfl
set_option maxRecDepth 20000 in
theorem kw_110 : Cond.fieldLink RX9 58 "StatusDesk$Bytes" "length" "I" ∈ wg := wg_in1 39 rfl rfl
set_option maxRecDepth 20000 in
theorem kw_111 : Cond.laysFinal RX3 "StatusDesk$Bytes" "data" "[B" ∈ wg := wg_in1 40 rfl rfl
set_option maxRecDepth 20000 in
theorem kw_113 : Cond.lays RX3 "StatusDesk$Bytes" "length" "I" ∈ wg := wg_in1 42 rfl rfl
set_option maxRecDepth 20000 in
theorem kw_128 : Cond.constantLong RX5 21 (-1) ∈ wg := wg_in1 57 rfl rfl
set_option maxRecDepth 20000 in
theorem kw_129 : Cond.fieldLink RX5 9 "StatusDesk$Find" "authority" "I" ∈ wg := wg_in1 58 rfl rfl
set_option maxRecDepth 20000 in
theorem kw_131 : Cond.fieldLink RX5 15 "StatusDesk$Find" "serial" "I" ∈ wg := wg_in1 60 rfl rfl
set_option maxRecDepth 20000 in
theorem kw_133 : Cond.fieldLink RX5 18 "StatusDesk$Find" "state" "I" ∈ wg := wg_in1 62 rfl rfl
set_option maxRecDepth 20000 in
theorem kw_134 : Cond.fieldLink RX11 254 "StatusDesk$Find" "state" "I" ∈ wg := wg_in1 63 rfl rfl
set_option maxRecDepth 20000 in
theorem kw_135 : Cond.fieldLink RX5 23 "StatusDesk$Find" "since" "J" ∈ wg := wg_in1 64 rfl rfl
set_option maxRecDepth 20000 in
theorem kw_136 : Cond.fieldLink RX11 257 "StatusDesk$Find" "since" "J" ∈ wg := wg_in1 65 rfl rfl
set_option maxRecDepth 20000 in
theorem kw_137 : Cond.fieldLink RX5 27 "StatusDesk$Find" "reason" "I" ∈ wg := wg_in1 66 rfl rfl
set_option maxRecDepth 20000 in
theorem kw_138 : Cond.fieldLink RX11 259 "StatusDesk$Find" "reason" "I" ∈ wg := wg_in1 67 rfl rfl
set_option maxRecDepth 20000 in
theorem kw_139 : Cond.fieldLink RX5 30 "StatusDesk$Find" "from" "J" ∈ wg := wg_in1 68 rfl rfl
set_option maxRecDepth 20000 in
theorem kw_140 : Cond.fieldLink RX11 262 "StatusDesk$Find" "from" "J" ∈ wg := wg_in1 69 rfl rfl
set_option maxRecDepth 20000 in
theorem kw_141 : Cond.fieldLink RX5 33 "StatusDesk$Find" "next" "J" ∈ wg := wg_in1 70 rfl rfl
set_option maxRecDepth 20000 in
theorem kw_142 : Cond.fieldLink RX11 265 "StatusDesk$Find" "next" "J" ∈ wg := wg_in1 71 rfl rfl
set_option maxRecDepth 20000 in
theorem kw_143 : Cond.lays RX5 "StatusDesk$Find" "authority" "I" ∈ wg := wg_in1 72 rfl rfl
set_option maxRecDepth 20000 in
theorem kw_145 : Cond.lays RX5 "StatusDesk$Find" "serial" "I" ∈ wg := wg_in1 74 rfl rfl
set_option maxRecDepth 20000 in
theorem kw_147 : Cond.lays RX5 "StatusDesk$Find" "state" "I" ∈ wg := wg_in1 76 rfl rfl
set_option maxRecDepth 20000 in
theorem kw_149 : Cond.lays RX5 "StatusDesk$Find" "since" "J" ∈ wg := wg_in1 78 rfl rfl
set_option maxRecDepth 20000 in
theorem kw_151 : Cond.lays RX5 "StatusDesk$Find" "reason" "I" ∈ wg := wg_in1 80 rfl rfl
set_option maxRecDepth 20000 in
theorem kw_153 : Cond.lays RX5 "StatusDesk$Find" "from" "J" ∈ wg := wg_in1 82 rfl rfl
set_option maxRecDepth 20000 in
theorem kw_155 : Cond.lays RX5 "StatusDesk$Find" "next" "J" ∈ wg := wg_in1 84 rfl rfl
set_option maxRecDepth 20000 in
theorem kw_164 : Cond.fieldLink RX6 9 "StatusDesk$Ids" "nameHashes" "[J" ∈ wg := wg_in1 93 rfl rfl
set_option maxRecDepth 20000 in
theorem kw_165 : Cond.fieldLink RX3 79 "StatusDesk$Ids" "nameHashes" "[J" ∈ wg := wg_in1 94 rfl rfl
set_option maxRecDepth 20000 in
theorem kw_166 : Cond.fieldLink RX6 15 "StatusDesk$Ids" "keyHashes" "[J" ∈ wg := wg_in1 95 rfl rfl
set_option maxRecDepth 20000 in
theorem kw_167 : Cond.fieldLink RX3 87 "StatusDesk$Ids" "keyHashes" "[J" ∈ wg := wg_in1 96 rfl rfl
set_option maxRecDepth 20000 in
theorem kw_168 : Cond.fieldLink RX6 18 "StatusDesk$Ids" "serials" "[I" ∈ wg := wg_in1 97 rfl rfl
set_option maxRecDepth 20000 in
theorem kw_169 : Cond.fieldLink RX3 90 "StatusDesk$Ids" "serials" "[I" ∈ wg := wg_in1 98 rfl rfl
set_option maxRecDepth 20000 in
theorem kw_170 : Cond.fieldLink RX11 381 "StatusDesk$Ids" "serials" "[I" ∈ wg := wg_in1 99 rfl rfl
set_option maxRecDepth 20000 in
theorem kw_171 : Cond.fieldLink RX6 22 "StatusDesk$Ids" "count" "I" ∈ wg := wg_in1 100 rfl rfl
set_option maxRecDepth 20000 in
theorem kw_172 : Cond.fieldLink RX1 18 "StatusDesk$Ids" "count" "I" ∈ wg := wg_in1 101 rfl rfl
set_option maxRecDepth 20000 in
theorem kw_173 : Cond.fieldLink RX0 42 "StatusDesk$Ids" "count" "I" ∈ wg := wg_in1 102 rfl rfl
set_option maxRecDepth 20000 in
theorem kw_174 : Cond.fieldLink RX5 42 "StatusDesk$Ids" "count" "I" ∈ wg := wg_in1 103 rfl rfl
set_option maxRecDepth 20000 in
theorem kw_175 : Cond.fieldLink RX11 169 "StatusDesk$Ids" "count" "I" ∈ wg := wg_in1 104 rfl rfl
set_option maxRecDepth 20000 in
theorem kw_176 : Cond.fieldLink RX3 74 "StatusDesk$Ids" "count" "I" ∈ wg := wg_in1 105 rfl rfl
set_option maxRecDepth 20000 in
theorem kw_177 : Cond.laysFinal RX6 "StatusDesk$Ids" "nameHashes" "[J" ∈ wg := wg_in1 106 rfl rfl
set_option maxRecDepth 20000 in
theorem kw_179 : Cond.laysFinal RX6 "StatusDesk$Ids" "keyHashes" "[J" ∈ wg := wg_in1 108 rfl rfl
set_option maxRecDepth 20000 in
theorem kw_181 : Cond.laysFinal RX6 "StatusDesk$Ids" "serials" "[I" ∈ wg := wg_in1 110 rfl rfl
set_option maxRecDepth 20000 in
theorem kw_183 : Cond.lays RX6 "StatusDesk$Ids" "count" "I" ∈ wg := wg_in1 112 rfl rfl
set_option maxRecDepth 20000 in
theorem kw_194 : Cond.fieldLink RX8 11 "StatusDesk$Scan" "outerEnds" "[I" ∈ wg := wg_in1 123 rfl rfl
set_option maxRecDepth 20000 in
theorem kw_195 : Cond.fieldLink RX8 15 "StatusDesk$Scan" "data" "[B" ∈ wg := wg_in1 124 rfl rfl
set_option maxRecDepth 20000 in
theorem kw_196 : Cond.fieldLink RX8 22 "StatusDesk$Scan" "depth" "I" ∈ wg := wg_in1 125 rfl rfl
set_option maxRecDepth 20000 in
theorem kw_197 : Cond.fieldLink RX8 35 "StatusDesk$Scan" "end" "I" ∈ wg := wg_in1 126 rfl rfl
set_option maxRecDepth 20000 in
theorem kw_198 : Cond.fieldLink RX4 15 "StatusDesk$Scan" "at" "I" ∈ wg := wg_in1 127 rfl rfl
set_option maxRecDepth 20000 in
theorem kw_199 : Cond.fieldLink RX8 38 "StatusDesk$Scan" "at" "I" ∈ wg := wg_in1 128 rfl rfl
set_option maxRecDepth 20000 in
theorem kw_200 : Cond.fieldLink RX0 98 "StatusDesk$Scan" "at" "I" ∈ wg := wg_in1 129 rfl rfl
set_option maxRecDepth 20000 in
theorem kw_201 : Cond.fieldLink RX8 41 "StatusDesk$Scan" "place" "I" ∈ wg := wg_in1 130 rfl rfl
set_option maxRecDepth 20000 in
theorem kw_202 : Cond.fieldLink RX8 44 "StatusDesk$Scan" "size" "I" ∈ wg := wg_in1 131 rfl rfl
set_option maxRecDepth 20000 in
theorem kw_203 : Cond.fieldLink RX4 40 "StatusDesk$Scan" "size" "I" ∈ wg := wg_in1 132 rfl rfl
set_option maxRecDepth 20000 in
theorem kw_204 : Cond.fieldLink RX1 49 "StatusDesk$Scan" "size" "I" ∈ wg := wg_in1 133 rfl rfl
set_option maxRecDepth 20000 in
theorem kw_205 : Cond.fieldLink RX0 117 "StatusDesk$Scan" "size" "I" ∈ wg := wg_in1 134 rfl rfl
set_option maxRecDepth 20000 in
theorem kw_206 : Cond.fieldLink RX8 47 "StatusDesk$Scan" "fault" "I" ∈ wg := wg_in1 135 rfl rfl
set_option maxRecDepth 20000 in
theorem kw_207 : Cond.fieldLink RX11 296 "StatusDesk$Scan" "fault" "I" ∈ wg := wg_in1 136 rfl rfl
set_option maxRecDepth 20000 in
theorem kw_208 : Cond.fieldLink RX8 50 "StatusDesk$Scan" "items" "I" ∈ wg := wg_in1 137 rfl rfl
set_option maxRecDepth 20000 in
theorem kw_209 : Cond.fieldLink RX11 299 "StatusDesk$Scan" "items" "I" ∈ wg := wg_in1 138 rfl rfl
set_option maxRecDepth 20000 in
theorem kw_210 : Cond.laysFinal RX8 "StatusDesk$Scan" "outerEnds" "[I" ∈ wg := wg_in1 139 rfl rfl
set_option maxRecDepth 20000 in
theorem kw_212 : Cond.lays RX8 "StatusDesk$Scan" "data" "[B" ∈ wg := wg_in1 141 rfl rfl
set_option maxRecDepth 20000 in
theorem kw_214 : Cond.lays RX8 "StatusDesk$Scan" "depth" "I" ∈ wg := wg_in1 143 rfl rfl
set_option maxRecDepth 20000 in
theorem kw_216 : Cond.lays RX8 "StatusDesk$Scan" "end" "I" ∈ wg := wg_in1 145 rfl rfl
set_option maxRecDepth 20000 in
theorem kw_218 : Cond.lays RX8 "StatusDesk$Scan" "at" "I" ∈ wg := wg_in1 147 rfl rfl
set_option maxRecDepth 20000 in
theorem kw_220 : Cond.lays RX8 "StatusDesk$Scan" "place" "I" ∈ wg := wg_in1 149 rfl rfl
set_option maxRecDepth 20000 in
theorem kw_222 : Cond.lays RX8 "StatusDesk$Scan" "size" "I" ∈ wg := wg_in1 151 rfl rfl
set_option maxRecDepth 20000 in
theorem kw_224 : Cond.lays RX8 "StatusDesk$Scan" "fault" "I" ∈ wg := wg_in1 153 rfl rfl
set_option maxRecDepth 20000 in
theorem kw_226 : Cond.lays RX8 "StatusDesk$Scan" "items" "I" ∈ wg := wg_in1 155 rfl rfl
set_option maxRecDepth 20000 in
theorem kw_237 : Cond.fieldLink RX1 12 "StatusDesk$AskText" "ids" "LStatusDesk$Ids;" ∈ wg := wg_in1 166 rfl rfl
set_option maxRecDepth 20000 in
theorem kw_238 : Cond.fieldLink RX11 332 "StatusDesk$AskText" "ids" "LStatusDesk$Ids;" ∈ wg := wg_in1 167 rfl rfl
set_option maxRecDepth 20000 in
theorem kw_239 : Cond.fieldLink RX1 46 "StatusDesk$AskText" "noncePlace" "I" ∈ wg := wg_in1 168 rfl rfl
set_option maxRecDepth 20000 in
theorem kw_240 : Cond.fieldLink RX11 355 "StatusDesk$AskText" "noncePlace" "I" ∈ wg := wg_in1 169 rfl rfl
set_option maxRecDepth 20000 in
theorem kw_241 : Cond.fieldLink RX1 22 "StatusDesk$AskText" "nonceSize" "I" ∈ wg := wg_in1 170 rfl rfl
set_option maxRecDepth 20000 in
theorem kw_242 : Cond.fieldLink RX11 352 "StatusDesk$AskText" "nonceSize" "I" ∈ wg := wg_in1 171 rfl rfl
set_option maxRecDepth 20000 in
theorem kw_243 : Cond.laysFinal RX1 "StatusDesk$AskText" "ids" "LStatusDesk$Ids;" ∈ wg := wg_in1 172 rfl rfl
set_option maxRecDepth 20000 in
theorem kw_245 : Cond.lays RX1 "StatusDesk$AskText" "noncePlace" "I" ∈ wg := wg_in1 174 rfl rfl
set_option maxRecDepth 20000 in
theorem kw_247 : Cond.lays RX1 "StatusDesk$AskText" "nonceSize" "I" ∈ wg := wg_in1 176 rfl rfl
set_option maxRecDepth 20000 in
theorem kw_264 : Cond.fieldLink RX4 19 "StatusDesk$CertText" "innerPlace" "I" ∈ wg := wg_in1 193 rfl rfl
set_option maxRecDepth 20000 in
theorem kw_265 : Cond.fieldLink RX11 420 "StatusDesk$CertText" "innerPlace" "I" ∈ wg := wg_in1 194 rfl rfl
set_option maxRecDepth 20000 in
theorem kw_266 : Cond.fieldLink RX4 80 "StatusDesk$CertText" "innerEnd" "I" ∈ wg := wg_in1 195 rfl rfl
set_option maxRecDepth 20000 in
theorem kw_267 : Cond.fieldLink RX11 423 "StatusDesk$CertText" "innerEnd" "I" ∈ wg := wg_in1 196 rfl rfl
set_option maxRecDepth 20000 in
theorem kw_268 : Cond.fieldLink RX4 30 "StatusDesk$CertText" "serial" "I" ∈ wg := wg_in1 197 rfl rfl
set_option maxRecDepth 20000 in
theorem kw_269 : Cond.fieldLink RX11 440 "StatusDesk$CertText" "serial" "I" ∈ wg := wg_in1 198 rfl rfl
set_option maxRecDepth 20000 in
theorem kw_270 : Cond.fieldLink RX4 37 "StatusDesk$CertText" "issuerPlace" "I" ∈ wg := wg_in1 199 rfl rfl
set_option maxRecDepth 20000 in
theorem kw_271 : Cond.fieldLink RX11 426 "StatusDesk$CertText" "issuerPlace" "I" ∈ wg := wg_in1 200 rfl rfl
set_option maxRecDepth 20000 in
theorem kw_272 : Cond.fieldLink RX4 43 "StatusDesk$CertText" "issuerSize" "I" ∈ wg := wg_in1 201 rfl rfl
set_option maxRecDepth 20000 in
theorem kw_273 : Cond.fieldLink RX11 429 "StatusDesk$CertText" "issuerSize" "I" ∈ wg := wg_in1 202 rfl rfl
set_option maxRecDepth 20000 in
theorem kw_274 : Cond.fieldLink RX4 46 "StatusDesk$CertText" "namePlace" "I" ∈ wg := wg_in1 203 rfl rfl
set_option maxRecDepth 20000 in
theorem kw_275 : Cond.fieldLink RX0 176 "StatusDesk$CertText" "namePlace" "I" ∈ wg := wg_in1 204 rfl rfl
set_option maxRecDepth 20000 in
theorem kw_276 : Cond.fieldLink RX4 49 "StatusDesk$CertText" "nameSize" "I" ∈ wg := wg_in1 205 rfl rfl
set_option maxRecDepth 20000 in
theorem kw_277 : Cond.fieldLink RX0 169 "StatusDesk$CertText" "nameSize" "I" ∈ wg := wg_in1 206 rfl rfl
set_option maxRecDepth 20000 in
theorem kw_278 : Cond.fieldLink RX4 56 "StatusDesk$CertText" "from" "J" ∈ wg := wg_in1 207 rfl rfl
set_option maxRecDepth 20000 in
theorem kw_279 : Cond.fieldLink RX11 436 "StatusDesk$CertText" "from" "J" ∈ wg := wg_in1 208 rfl rfl
set_option maxRecDepth 20000 in
theorem kw_280 : Cond.fieldLink RX4 60 "StatusDesk$CertText" "to" "J" ∈ wg := wg_in1 209 rfl rfl
set_option maxRecDepth 20000 in
theorem kw_281 : Cond.fieldLink RX11 437 "StatusDesk$CertText" "to" "J" ∈ wg := wg_in1 210 rfl rfl
set_option maxRecDepth 20000 in
theorem kw_282 : Cond.fieldLink RX4 69 "StatusDesk$CertText" "publicKey" "J" ∈ wg := wg_in1 211 rfl rfl
set_option maxRecDepth 20000 in
theorem kw_283 : Cond.fieldLink RX0 160 "StatusDesk$CertText" "publicKey" "J" ∈ wg := wg_in1 212 rfl rfl
set_option maxRecDepth 20000 in
theorem kw_284 : Cond.fieldLink RX11 398 "StatusDesk$CertText" "publicKey" "J" ∈ wg := wg_in1 213 rfl rfl
set_option maxRecDepth 20000 in
theorem kw_285 : Cond.fieldLink RX4 74 "StatusDesk$CertText" "flags" "I" ∈ wg := wg_in1 214 rfl rfl
set_option maxRecDepth 20000 in
theorem kw_286 : Cond.fieldLink RX11 433 "StatusDesk$CertText" "flags" "I" ∈ wg := wg_in1 215 rfl rfl
set_option maxRecDepth 20000 in
theorem kw_287 : Cond.fieldLink RX4 86 "StatusDesk$CertText" "signature" "J" ∈ wg := wg_in1 216 rfl rfl
set_option maxRecDepth 20000 in
theorem kw_288 : Cond.fieldLink RX11 432 "StatusDesk$CertText" "signature" "J" ∈ wg := wg_in1 217 rfl rfl
set_option maxRecDepth 20000 in
theorem kw_289 : Cond.lays RX4 "StatusDesk$CertText" "innerPlace" "I" ∈ wg := wg_in1 218 rfl rfl
set_option maxRecDepth 20000 in
theorem kw_291 : Cond.lays RX4 "StatusDesk$CertText" "innerEnd" "I" ∈ wg := wg_in1 220 rfl rfl
set_option maxRecDepth 20000 in
theorem kw_293 : Cond.lays RX4 "StatusDesk$CertText" "serial" "I" ∈ wg := wg_in1 222 rfl rfl
set_option maxRecDepth 20000 in
theorem kw_295 : Cond.lays RX4 "StatusDesk$CertText" "issuerPlace" "I" ∈ wg := wg_in1 224 rfl rfl
set_option maxRecDepth 20000 in
theorem kw_297 : Cond.lays RX4 "StatusDesk$CertText" "issuerSize" "I" ∈ wg := wg_in1 226 rfl rfl
set_option maxRecDepth 20000 in
theorem kw_299 : Cond.lays RX4 "StatusDesk$CertText" "namePlace" "I" ∈ wg := wg_in1 228 rfl rfl
set_option maxRecDepth 20000 in
theorem kw_301 : Cond.lays RX4 "StatusDesk$CertText" "nameSize" "I" ∈ wg := wg_in1 230 rfl rfl
set_option maxRecDepth 20000 in
theorem kw_303 : Cond.lays RX4 "StatusDesk$CertText" "from" "J" ∈ wg := wg_in1 232 rfl rfl
set_option maxRecDepth 20000 in
theorem kw_305 : Cond.lays RX4 "StatusDesk$CertText" "to" "J" ∈ wg := wg_in1 234 rfl rfl
set_option maxRecDepth 20000 in
theorem kw_307 : Cond.lays RX4 "StatusDesk$CertText" "publicKey" "J" ∈ wg := wg_in1 236 rfl rfl
set_option maxRecDepth 20000 in
theorem kw_309 : Cond.lays RX4 "StatusDesk$CertText" "flags" "I" ∈ wg := wg_in1 238 rfl rfl
set_option maxRecDepth 20000 in
theorem kw_311 : Cond.lays RX4 "StatusDesk$CertText" "signature" "J" ∈ wg := wg_in2 0 rfl rfl
set_option maxRecDepth 20000 in
theorem kw_314 : Cond.fieldLink RX0 12 "StatusDesk$AnswerText" "ids" "LStatusDesk$Ids;" ∈ wg := wg_in2 3 rfl rfl
set_option maxRecDepth 20000 in
theorem kw_315 : Cond.fieldLink RX5 36 "StatusDesk$AnswerText" "ids" "LStatusDesk$Ids;" ∈ wg := wg_in2 4 rfl rfl
set_option maxRecDepth 20000 in
theorem kw_316 : Cond.fieldLink RX11 228 "StatusDesk$AnswerText" "ids" "LStatusDesk$Ids;" ∈ wg := wg_in2 5 rfl rfl
set_option maxRecDepth 20000 in
theorem kw_317 : Cond.fieldLink RX0 18 "StatusDesk$AnswerText" "states" "[I" ∈ wg := wg_in2 6 rfl rfl
set_option maxRecDepth 20000 in
theorem kw_318 : Cond.fieldLink RX5 47 "StatusDesk$AnswerText" "states" "[I" ∈ wg := wg_in2 7 rfl rfl
set_option maxRecDepth 20000 in
theorem kw_319 : Cond.fieldLink RX0 22 "StatusDesk$AnswerText" "since" "[J" ∈ wg := wg_in2 8 rfl rfl
set_option maxRecDepth 20000 in
theorem kw_320 : Cond.fieldLink RX5 51 "StatusDesk$AnswerText" "since" "[J" ∈ wg := wg_in2 9 rfl rfl
set_option maxRecDepth 20000 in
theorem kw_321 : Cond.fieldLink RX0 26 "StatusDesk$AnswerText" "reasons" "[I" ∈ wg := wg_in2 10 rfl rfl
set_option maxRecDepth 20000 in
theorem kw_322 : Cond.fieldLink RX5 54 "StatusDesk$AnswerText" "reasons" "[I" ∈ wg := wg_in2 11 rfl rfl
set_option maxRecDepth 20000 in
theorem kw_323 : Cond.fieldLink RX0 29 "StatusDesk$AnswerText" "from" "[J" ∈ wg := wg_in2 12 rfl rfl
set_option maxRecDepth 20000 in
theorem kw_324 : Cond.fieldLink RX5 57 "StatusDesk$AnswerText" "from" "[J" ∈ wg := wg_in2 13 rfl rfl
set_option maxRecDepth 20000 in
theorem kw_325 : Cond.fieldLink RX0 32 "StatusDesk$AnswerText" "next" "[J" ∈ wg := wg_in2 14 rfl rfl
set_option maxRecDepth 20000 in
theorem kw_326 : Cond.fieldLink RX5 59 "StatusDesk$AnswerText" "next" "[J" ∈ wg := wg_in2 15 rfl rfl
set_option maxRecDepth 20000 in
theorem kw_327 : Cond.fieldLink RX0 38 "StatusDesk$AnswerText" "cert" "LStatusDesk$CertText;" ∈ wg := wg_in2 16 rfl rfl
set_option maxRecDepth 20000 in
theorem kw_328 : Cond.fieldLink RX11 285 "StatusDesk$AnswerText" "cert" "LStatusDesk$CertText;" ∈ wg := wg_in2 17 rfl rfl
set_option maxRecDepth 20000 in
theorem kw_329 : Cond.fieldLink RX0 63 "StatusDesk$AnswerText" "status" "I" ∈ wg := wg_in2 18 rfl rfl
set_option maxRecDepth 20000 in
theorem kw_330 : Cond.fieldLink RX11 388 "StatusDesk$AnswerText" "status" "I" ∈ wg := wg_in2 19 rfl rfl
set_option maxRecDepth 20000 in
theorem kw_331 : Cond.fieldLink RX0 49 "StatusDesk$AnswerText" "hasCert" "Z" ∈ wg := wg_in2 20 rfl rfl
set_option maxRecDepth 20000 in
theorem kw_332 : Cond.fieldLink RX11 414 "StatusDesk$AnswerText" "hasCert" "Z" ∈ wg := wg_in2 21 rfl rfl
set_option maxRecDepth 20000 in
theorem kw_333 : Cond.fieldLink RX0 101 "StatusDesk$AnswerText" "bodyPlace" "I" ∈ wg := wg_in2 22 rfl rfl
set_option maxRecDepth 20000 in
theorem kw_334 : Cond.fieldLink RX11 400 "StatusDesk$AnswerText" "bodyPlace" "I" ∈ wg := wg_in2 23 rfl rfl
set_option maxRecDepth 20000 in
theorem kw_335 : Cond.fieldLink RX0 120 "StatusDesk$AnswerText" "bodyEnd" "I" ∈ wg := wg_in2 24 rfl rfl
set_option maxRecDepth 20000 in
theorem kw_336 : Cond.fieldLink RX11 403 "StatusDesk$AnswerText" "bodyEnd" "I" ∈ wg := wg_in2 25 rfl rfl
set_option maxRecDepth 20000 in
theorem kw_337 : Cond.fieldLink RX0 85 "StatusDesk$AnswerText" "signature" "J" ∈ wg := wg_in2 26 rfl rfl
set_option maxRecDepth 20000 in
theorem kw_338 : Cond.fieldLink RX11 406 "StatusDesk$AnswerText" "signature" "J" ∈ wg := wg_in2 27 rfl rfl
set_option maxRecDepth 20000 in
theorem kw_339 : Cond.fieldLink RX0 129 "StatusDesk$AnswerText" "isByName" "Z" ∈ wg := wg_in2 28 rfl rfl
set_option maxRecDepth 20000 in
theorem kw_340 : Cond.fieldLink RX0 132 "StatusDesk$AnswerText" "tellerPlace" "I" ∈ wg := wg_in2 29 rfl rfl
set_option maxRecDepth 20000 in
theorem kw_341 : Cond.fieldLink RX0 135 "StatusDesk$AnswerText" "tellerSize" "I" ∈ wg := wg_in2 30 rfl rfl
set_option maxRecDepth 20000 in
theorem kw_342 : Cond.fieldLink RX0 141 "StatusDesk$AnswerText" "tellerHash" "J" ∈ wg := wg_in2 31 rfl rfl
set_option maxRecDepth 20000 in
theorem kw_343 : Cond.fieldLink RX0 114 "StatusDesk$AnswerText" "noncePlace" "I" ∈ wg := wg_in2 32 rfl rfl
set_option maxRecDepth 20000 in
theorem kw_344 : Cond.fieldLink RX11 412 "StatusDesk$AnswerText" "noncePlace" "I" ∈ wg := wg_in2 33 rfl rfl
set_option maxRecDepth 20000 in
theorem kw_345 : Cond.fieldLink RX0 46 "StatusDesk$AnswerText" "nonceSize" "I" ∈ wg := wg_in2 34 rfl rfl
set_option maxRecDepth 20000 in
theorem kw_346 : Cond.fieldLink RX11 413 "StatusDesk$AnswerText" "nonceSize" "I" ∈ wg := wg_in2 35 rfl rfl
set_option maxRecDepth 20000 in
theorem kw_347 : Cond.laysFinal RX0 "StatusDesk$AnswerText" "ids" "LStatusDesk$Ids;" ∈ wg := wg_in2 36 rfl rfl
set_option maxRecDepth 20000 in
theorem kw_349 : Cond.laysFinal RX0 "StatusDesk$AnswerText" "states" "[I" ∈ wg := wg_in2 38 rfl rfl
set_option maxRecDepth 20000 in
theorem kw_351 : Cond.laysFinal RX0 "StatusDesk$AnswerText" "since" "[J" ∈ wg := wg_in2 40 rfl rfl
set_option maxRecDepth 20000 in
theorem kw_353 : Cond.laysFinal RX0 "StatusDesk$AnswerText" "reasons" "[I" ∈ wg := wg_in2 42 rfl rfl
set_option maxRecDepth 20000 in
theorem kw_355 : Cond.laysFinal RX0 "StatusDesk$AnswerText" "from" "[J" ∈ wg := wg_in2 44 rfl rfl
set_option maxRecDepth 20000 in
theorem kw_357 : Cond.laysFinal RX0 "StatusDesk$AnswerText" "next" "[J" ∈ wg := wg_in2 46 rfl rfl
set_option maxRecDepth 20000 in
theorem kw_359 : Cond.laysFinal RX0 "StatusDesk$AnswerText" "cert" "LStatusDesk$CertText;" ∈ wg := wg_in2 48 rfl rfl
set_option maxRecDepth 20000 in
theorem kw_361 : Cond.lays RX0 "StatusDesk$AnswerText" "status" "I" ∈ wg := wg_in2 50 rfl rfl
set_option maxRecDepth 20000 in
theorem kw_363 : Cond.lays RX0 "StatusDesk$AnswerText" "hasCert" "Z" ∈ wg := wg_in2 52 rfl rfl
set_option maxRecDepth 20000 in
theorem kw_365 : Cond.lays RX0 "StatusDesk$AnswerText" "bodyPlace" "I" ∈ wg := wg_in2 54 rfl rfl
set_option maxRecDepth 20000 in
theorem kw_367 : Cond.lays RX0 "StatusDesk$AnswerText" "bodyEnd" "I" ∈ wg := wg_in2 56 rfl rfl
set_option maxRecDepth 20000 in
theorem kw_369 : Cond.lays RX0 "StatusDesk$AnswerText" "signature" "J" ∈ wg := wg_in2 58 rfl rfl
set_option maxRecDepth 20000 in
theorem kw_371 : Cond.lays RX0 "StatusDesk$AnswerText" "isByName" "Z" ∈ wg := wg_in2 60 rfl rfl
set_option maxRecDepth 20000 in
theorem kw_373 : Cond.lays RX0 "StatusDesk$AnswerText" "tellerPlace" "I" ∈ wg := wg_in2 62 rfl rfl
set_option maxRecDepth 20000 in
theorem kw_375 : Cond.lays RX0 "StatusDesk$AnswerText" "tellerSize" "I" ∈ wg := wg_in2 64 rfl rfl
set_option maxRecDepth 20000 in
theorem kw_377 : Cond.lays RX0 "StatusDesk$AnswerText" "tellerHash" "J" ∈ wg := wg_in2 66 rfl rfl
set_option maxRecDepth 20000 in
theorem kw_379 : Cond.lays RX0 "StatusDesk$AnswerText" "noncePlace" "I" ∈ wg := wg_in2 68 rfl rfl
set_option maxRecDepth 20000 in
theorem kw_381 : Cond.lays RX0 "StatusDesk$AnswerText" "nonceSize" "I" ∈ wg := wg_in2 70 rfl rfl
set_option maxRecDepth 20000 in
theorem kw_391 : Cond.fieldLink RX2 14 "StatusDesk$Authority" "name" "LStatusDesk$Bytes;" ∈ wg := wg_in2 80 rfl rfl
set_option maxRecDepth 20000 in
theorem kw_392 : Cond.fieldLink RX9 53 "StatusDesk$Authority" "name" "LStatusDesk$Bytes;" ∈ wg := wg_in2 81 rfl rfl
set_option maxRecDepth 20000 in
theorem kw_393 : Cond.fieldLink RX11 322 "StatusDesk$Authority" "name" "LStatusDesk$Bytes;" ∈ wg := wg_in2 82 rfl rfl
set_option maxRecDepth 20000 in
theorem kw_394 : Cond.fieldLink RX2 20 "StatusDesk$Authority" "serials" "[I" ∈ wg := wg_in2 83 rfl rfl
set_option maxRecDepth 20000 in
theorem kw_395 : Cond.fieldLink RX2 24 "StatusDesk$Authority" "since" "[J" ∈ wg := wg_in2 84 rfl rfl
set_option maxRecDepth 20000 in
theorem kw_396 : Cond.fieldLink RX11 125 "StatusDesk$Authority" "since" "[J" ∈ wg := wg_in2 85 rfl rfl
set_option maxRecDepth 20000 in
theorem kw_398 : Cond.fieldLink RX11 131 "StatusDesk$Authority" "reasons" "[I" ∈ wg := wg_in2 87 rfl rfl
set_option maxRecDepth 20000 in
theorem kw_399 : Cond.fieldLink RX2 35 "StatusDesk$Authority" "secret" "I" ∈ wg := wg_in2 88 rfl rfl
set_option maxRecDepth 20000 in
theorem kw_400 : Cond.fieldLink RX9 71 "StatusDesk$Authority" "secret" "I" ∈ wg := wg_in2 89 rfl rfl
set_option maxRecDepth 20000 in
theorem kw_401 : Cond.fieldLink RX11 358 "StatusDesk$Authority" "secret" "I" ∈ wg := wg_in2 90 rfl rfl
set_option maxRecDepth 20000 in
theorem kw_402 : Cond.fieldLink RX2 45 "StatusDesk$Authority" "publicKey" "I" ∈ wg := wg_in2 91 rfl rfl
set_option maxRecDepth 20000 in
theorem kw_403 : Cond.fieldLink RX11 314 "StatusDesk$Authority" "publicKey" "I" ∈ wg := wg_in2 92 rfl rfl
set_option maxRecDepth 20000 in
theorem kw_404 : Cond.fieldLink RX2 54 "StatusDesk$Authority" "nameHash" "J" ∈ wg := wg_in2 93 rfl rfl
set_option maxRecDepth 20000 in
theorem kw_405 : Cond.fieldLink RX11 172 "StatusDesk$Authority" "nameHash" "J" ∈ wg := wg_in2 94 rfl rfl
set_option maxRecDepth 20000 in
theorem kw_406 : Cond.fieldLink RX2 62 "StatusDesk$Authority" "keyHash" "J" ∈ wg := wg_in2 95 rfl rfl
set_option maxRecDepth 20000 in
theorem kw_407 : Cond.fieldLink RX11 176 "StatusDesk$Authority" "keyHash" "J" ∈ wg := wg_in2 96 rfl rfl
set_option maxRecDepth 20000 in
theorem kw_408 : Cond.fieldLink RX2 65 "StatusDesk$Authority" "issued" "I" ∈ wg := wg_in2 97 rfl rfl
set_option maxRecDepth 20000 in
theorem kw_409 : Cond.fieldLink RX11 113 "StatusDesk$Authority" "issued" "I" ∈ wg := wg_in2 98 rfl rfl
set_option maxRecDepth 20000 in
theorem kw_410 : Cond.fieldLink RX11 135 "StatusDesk$Authority" "takenBack" "I" ∈ wg := wg_in2 99 rfl rfl
set_option maxRecDepth 20000 in
theorem kw_411 : Cond.laysFinal RX2 "StatusDesk$Authority" "name" "LStatusDesk$Bytes;" ∈ wg := wg_in2 100 rfl rfl
set_option maxRecDepth 20000 in
theorem kw_413 : Cond.laysFinal RX2 "StatusDesk$Authority" "serials" "[I" ∈ wg := wg_in2 102 rfl rfl
set_option maxRecDepth 20000 in
theorem kw_415 : Cond.laysFinal RX2 "StatusDesk$Authority" "since" "[J" ∈ wg := wg_in2 104 rfl rfl
set_option maxRecDepth 20000 in
theorem kw_417 : Cond.laysFinal RX2 "StatusDesk$Authority" "reasons" "[I" ∈ wg := wg_in2 106 rfl rfl
set_option maxRecDepth 20000 in
theorem kw_419 : Cond.lays RX2 "StatusDesk$Authority" "secret" "I" ∈ wg := wg_in2 108 rfl rfl
set_option maxRecDepth 20000 in
theorem kw_421 : Cond.lays RX2 "StatusDesk$Authority" "publicKey" "I" ∈ wg := wg_in2 110 rfl rfl
set_option maxRecDepth 20000 in
theorem kw_423 : Cond.lays RX2 "StatusDesk$Authority" "nameHash" "J" ∈ wg := wg_in2 112 rfl rfl
set_option maxRecDepth 20000 in
theorem kw_425 : Cond.lays RX2 "StatusDesk$Authority" "keyHash" "J" ∈ wg := wg_in2 114 rfl rfl
set_option maxRecDepth 20000 in
theorem kw_427 : Cond.lays RX2 "StatusDesk$Authority" "issued" "I" ∈ wg := wg_in2 116 rfl rfl
set_option maxRecDepth 20000 in
theorem kw_429 : Cond.lays RX2 "StatusDesk$Authority" "takenBack" "I" ∈ wg := wg_in2 118 rfl rfl
set_option maxRecDepth 20000 in
theorem kw_439 : Cond.fieldLink RX9 14 "StatusDesk$Signer" "text" "LStatusDesk$Bytes;" ∈ wg := wg_in2 128 rfl rfl
set_option maxRecDepth 20000 in
theorem kw_440 : Cond.fieldLink RX11 162 "StatusDesk$Signer" "text" "LStatusDesk$Bytes;" ∈ wg := wg_in2 129 rfl rfl
set_option maxRecDepth 20000 in
theorem kw_441 : Cond.fieldLink RX9 20 "StatusDesk$Signer" "owner" "I" ∈ wg := wg_in2 130 rfl rfl
set_option maxRecDepth 20000 in
theorem kw_442 : Cond.fieldLink RX11 197 "StatusDesk$Signer" "owner" "I" ∈ wg := wg_in2 131 rfl rfl
set_option maxRecDepth 20000 in
theorem kw_443 : Cond.fieldLink RX9 24 "StatusDesk$Signer" "secret" "I" ∈ wg := wg_in2 132 rfl rfl
set_option maxRecDepth 20000 in
theorem kw_444 : Cond.fieldLink RX11 361 "StatusDesk$Signer" "secret" "I" ∈ wg := wg_in2 133 rfl rfl
set_option maxRecDepth 20000 in
theorem kw_445 : Cond.fieldLink RX9 33 "StatusDesk$Signer" "publicKey" "I" ∈ wg := wg_in2 134 rfl rfl
set_option maxRecDepth 20000 in
theorem kw_446 : Cond.fieldLink RX11 317 "StatusDesk$Signer" "publicKey" "I" ∈ wg := wg_in2 135 rfl rfl
set_option maxRecDepth 20000 in
theorem kw_447 : Cond.fieldLink RX9 39 "StatusDesk$Signer" "keyHash" "J" ∈ wg := wg_in2 136 rfl rfl
set_option maxRecDepth 20000 in
theorem kw_448 : Cond.fieldLink RX11 373 "StatusDesk$Signer" "keyHash" "J" ∈ wg := wg_in2 137 rfl rfl
set_option maxRecDepth 20000 in
theorem kw_449 : Cond.laysFinal RX9 "StatusDesk$Signer" "text" "LStatusDesk$Bytes;" ∈ wg := wg_in2 138 rfl rfl
set_option maxRecDepth 20000 in
theorem kw_451 : Cond.lays RX9 "StatusDesk$Signer" "owner" "I" ∈ wg := wg_in2 140 rfl rfl
set_option maxRecDepth 20000 in
theorem kw_453 : Cond.lays RX9 "StatusDesk$Signer" "secret" "I" ∈ wg := wg_in2 142 rfl rfl
set_option maxRecDepth 20000 in
theorem kw_455 : Cond.lays RX9 "StatusDesk$Signer" "publicKey" "I" ∈ wg := wg_in2 144 rfl rfl
set_option maxRecDepth 20000 in
theorem kw_457 : Cond.lays RX9 "StatusDesk$Signer" "keyHash" "J" ∈ wg := wg_in2 146 rfl rfl
set_option maxRecDepth 20000 in
theorem kw_460 : Cond.fieldLink RX11 14 "StatusDesk" "tape" "LStatusDesk$Bytes;" ∈ wg := wg_in2 149 rfl rfl
set_option maxRecDepth 20000 in
theorem kw_461 : Cond.fieldLink RX11 18 "StatusDesk" "out" "LStatusDesk$Bytes;" ∈ wg := wg_in2 150 rfl rfl
set_option maxRecDepth 20000 in
theorem kw_462 : Cond.fieldLink RX11 21 "StatusDesk" "ownNonce" "LStatusDesk$Bytes;" ∈ wg := wg_in2 151 rfl rfl
set_option maxRecDepth 20000 in
theorem kw_463 : Cond.fieldLink RX11 26 "StatusDesk" "authorities" "[LStatusDesk$Authority;" ∈ wg := wg_in2 152 rfl rfl
set_option maxRecDepth 20000 in
theorem kw_464 : Cond.fieldLink RX11 32 "StatusDesk" "signers" "[LStatusDesk$Signer;" ∈ wg := wg_in2 153 rfl rfl
set_option maxRecDepth 20000 in
theorem kw_466 : Cond.fieldLink RX11 43 "StatusDesk" "latest" "LStatusDesk$Find;" ∈ wg := wg_in2 155 rfl rfl
set_option maxRecDepth 20000 in
theorem kw_467 : Cond.fieldLink RX11 50 "StatusDesk" "wanted" "LStatusDesk$Ids;" ∈ wg := wg_in2 156 rfl rfl
set_option maxRecDepth 20000 in
theorem kw_468 : Cond.fieldLink RX11 57 "StatusDesk" "scan" "LStatusDesk$Scan;" ∈ wg := wg_in2 157 rfl rfl
set_option maxRecDepth 20000 in
theorem kw_469 : Cond.fieldLink RX11 64 "StatusDesk" "askText" "LStatusDesk$AskText;" ∈ wg := wg_in2 158 rfl rfl
set_option maxRecDepth 20000 in
theorem kw_470 : Cond.fieldLink RX11 71 "StatusDesk" "answerText" "LStatusDesk$AnswerText;" ∈ wg := wg_in2 159 rfl rfl
set_option maxRecDepth 20000 in
theorem kw_471 : Cond.fieldLink RX11 318 "StatusDesk" "authorityCount" "I" ∈ wg := wg_in2 160 rfl rfl
set_option maxRecDepth 20000 in
theorem kw_472 : Cond.fieldLink RX11 148 "StatusDesk" "signerCount" "I" ∈ wg := wg_in2 161 rfl rfl
set_option maxRecDepth 20000 in
theorem kw_473 : Cond.fieldLink RX11 270 "StatusDesk" "heldCount" "I" ∈ wg := wg_in2 162 rfl rfl
set_option maxRecDepth 20000 in
theorem kw_474 : Cond.fieldLink RX11 206 "StatusDesk" "rightAnswers" "I" ∈ wg := wg_in2 163 rfl rfl
set_option maxRecDepth 20000 in
theorem kw_475 : Cond.fieldLink RX11 213 "StatusDesk" "otherAnswers" "I" ∈ wg := wg_in2 164 rfl rfl
set_option maxRecDepth 20000 in
theorem kw_476 : Cond.fieldLink RX11 251 "StatusDesk" "looks" "I" ∈ wg := wg_in2 165 rfl rfl
set_option maxRecDepth 20000 in
theorem kw_477 : Cond.fieldLink RX11 75 "StatusDesk" "latestVerdict" "I" ∈ wg := wg_in2 166 rfl rfl
set_option maxRecDepth 20000 in
theorem kw_478 : Cond.fieldLink RX11 247 "StatusDesk" "findToHold" "Z" ∈ wg := wg_in2 167 rfl rfl
set_option maxRecDepth 20000 in
theorem kw_479 : Cond.laysFinal RX11 "StatusDesk" "tape" "LStatusDesk$Bytes;" ∈ wg := wg_in2 168 rfl rfl
set_option maxRecDepth 20000 in
theorem kw_481 : Cond.laysFinal RX11 "StatusDesk" "out" "LStatusDesk$Bytes;" ∈ wg := wg_in2 170 rfl rfl
set_option maxRecDepth 20000 in
theorem kw_483 : Cond.laysFinal RX11 "StatusDesk" "ownNonce" "LStatusDesk$Bytes;" ∈ wg := wg_in2 172 rfl rfl
set_option maxRecDepth 20000 in
theorem kw_485 : Cond.laysFinal RX11 "StatusDesk" "authorities" "[LStatusDesk$Authority;" ∈ wg := wg_in2 174 rfl rfl
set_option maxRecDepth 20000 in
theorem kw_487 : Cond.laysFinal RX11 "StatusDesk" "signers" "[LStatusDesk$Signer;" ∈ wg := wg_in2 176 rfl rfl
set_option maxRecDepth 20000 in
theorem kw_489 : Cond.laysFinal RX11 "StatusDesk" "shelf" "[LStatusDesk$Find;" ∈ wg := wg_in2 178 rfl rfl
set_option maxRecDepth 20000 in
theorem kw_491 : Cond.laysFinal RX11 "StatusDesk" "latest" "LStatusDesk$Find;" ∈ wg := wg_in2 180 rfl rfl
set_option maxRecDepth 20000 in
theorem kw_493 : Cond.laysFinal RX11 "StatusDesk" "wanted" "LStatusDesk$Ids;" ∈ wg := wg_in2 182 rfl rfl
set_option maxRecDepth 20000 in
theorem kw_495 : Cond.laysFinal RX11 "StatusDesk" "scan" "LStatusDesk$Scan;" ∈ wg := wg_in2 184 rfl rfl
set_option maxRecDepth 20000 in
theorem kw_497 : Cond.laysFinal RX11 "StatusDesk" "askText" "LStatusDesk$AskText;" ∈ wg := wg_in2 186 rfl rfl
set_option maxRecDepth 20000 in
theorem kw_499 : Cond.laysFinal RX11 "StatusDesk" "answerText" "LStatusDesk$AnswerText;" ∈ wg := wg_in2 188 rfl rfl
set_option maxRecDepth 20000 in
theorem kw_501 : Cond.lays RX11 "StatusDesk" "authorityCount" "I" ∈ wg := wg_in2 190 rfl rfl
set_option maxRecDepth 20000 in
theorem kw_503 : Cond.lays RX11 "StatusDesk" "signerCount" "I" ∈ wg := wg_in2 192 rfl rfl
set_option maxRecDepth 20000 in
theorem kw_505 : Cond.lays RX11 "StatusDesk" "heldCount" "I" ∈ wg := wg_in2 194 rfl rfl
set_option maxRecDepth 20000 in
theorem kw_507 : Cond.lays RX11 "StatusDesk" "rightAnswers" "I" ∈ wg := wg_in2 196 rfl rfl
set_option maxRecDepth 20000 in
theorem kw_509 : Cond.lays RX11 "StatusDesk" "otherAnswers" "I" ∈ wg := wg_in2 198 rfl rfl
set_option maxRecDepth 20000 in
theorem kw_511 : Cond.lays RX11 "StatusDesk" "looks" "I" ∈ wg := wg_in2 200 rfl rfl
set_option maxRecDepth 20000 in
theorem kw_513 : Cond.lays RX11 "StatusDesk" "latestVerdict" "I" ∈ wg := wg_in2 202 rfl rfl
set_option maxRecDepth 20000 in
theorem kw_515 : Cond.lays RX11 "StatusDesk" "findToHold" "Z" ∈ wg := wg_in2 204 rfl rfl
set_option maxRecDepth 20000 in
theorem kw_522 : Cond.methodLink RX11 84 yX3_addLowestFirst ∈ wg := wg_in2 211 rfl rfl
set_option maxRecDepth 20000 in
theorem kw_523 : Cond.instanceMethod yX3_addLowestFirst ∈ wg := wg_in2 212 rfl rfl
set_option maxRecDepth 20000 in
theorem kw_524 : Cond.selects RX3 yX3_addLowestFirst yX3_addLowestFirst ∈ wg := wg_in2 213 rfl rfl
set_option maxRecDepth 20000 in
theorem kw_525 : Cond.code yX3_addLowestFirst cX3_addLowestFirst 5 none ∈ wg := wg_in2 214 rfl rfl
set_option maxRecDepth 20000 in
theorem kw_526 : Cond.methodLink RX3 29 yX3_add ∈ wg := wg_in2 215 rfl rfl
set_option maxRecDepth 20000 in
theorem kw_527 : Cond.instanceMethod yX3_add ∈ wg := wg_in2 216 rfl rfl
set_option maxRecDepth 20000 in
theorem kw_528 : Cond.selects RX3 yX3_add yX3_add ∈ wg := wg_in2 217 rfl rfl
set_option maxRecDepth 20000 in
theorem kw_529 : Cond.code yX3_add cX3_add 2 none ∈ wg := wg_in2 218 rfl rfl
set_option maxRecDepth 20000 in
theorem kw_534 : Cond.methodLink RX11 88 yX3_copyOf ∈ wg := wg_in2 223 rfl rfl
set_option maxRecDepth 20000 in
theorem kw_535 : Cond.instanceMethod yX3_copyOf ∈ wg := wg_in2 224 rfl rfl
set_option maxRecDepth 20000 in
theorem kw_536 : Cond.selects RX3 yX3_copyOf yX3_copyOf ∈ wg := wg_in2 225 rfl rfl
set_option maxRecDepth 20000 in
theorem kw_537 : Cond.code yX3_copyOf cX3_copyOf 2 none ∈ wg := wg_in2 226 rfl rfl
set_option maxRecDepth 20000 in
theorem kw_538 : Cond.methodLink RX3 33 yX3_clear ∈ wg := wg_in2 227 rfl rfl
set_option maxRecDepth 20000 in
theorem kw_539 : Cond.instanceMethod yX3_clear ∈ wg := wg_in2 228 rfl rfl
set_option maxRecDepth 20000 in
theorem kw_540 : Cond.selects RX3 yX3_clear yX3_clear ∈ wg := wg_in2 229 rfl rfl
set_option maxRecDepth 20000 in
theorem kw_541 : Cond.code yX3_clear cX3_clear 1 none ∈ wg := wg_in2 230 rfl rfl
set_option maxRecDepth 20000 in
theorem kw_542 : Cond.methodLink RX3 36 yX3_addAll ∈ wg := wg_in2 231 rfl rfl
set_option maxRecDepth 20000 in
theorem kw_543 : Cond.instanceMethod yX3_addAll ∈ wg := wg_in2 232 rfl rfl
set_option maxRecDepth 20000 in
theorem kw_544 : Cond.selects RX3 yX3_addAll yX3_addAll ∈ wg := wg_in2 233 rfl rfl
set_option maxRecDepth 20000 in
theorem kw_545 : Cond.code yX3_addAll cX3_addAll 5 none ∈ wg := wg_in2 234 rfl rfl
set_option maxRecDepth 20000 in
theorem kw_546 : Cond.methodLink RX3 25 yX3_byteAt ∈ wg := wg_in2 235 rfl rfl
set_option maxRecDepth 20000 in
theorem kw_547 : Cond.instanceMethod yX3_byteAt ∈ wg := wg_in2 236 rfl rfl
set_option maxRecDepth 20000 in
theorem kw_548 : Cond.selects RX3 yX3_byteAt yX3_byteAt ∈ wg := wg_in2 237 rfl rfl
set_option maxRecDepth 20000 in
theorem kw_549 : Cond.code yX3_byteAt cX3_byteAt 2 (some .int) ∈ wg := wg_in2 238 rfl rfl
set_option maxRecDepth 20000 in
theorem kw_554 : Cond.methodLink RX11 96 yX3_byteAt ∈ wg := wg_in3 3 rfl rfl
set_option maxRecDepth 20000 in
theorem kw_571 : Cond.methodLink RX11 100 yX11_newAuthority ∈ wg := wg_in3 20 rfl rfl
set_option maxRecDepth 20000 in
theorem kw_573 : Cond.instanceMethod yX11_newAuthority ∈ wg := wg_in3 22 rfl rfl
set_option maxRecDepth 20000 in
theorem kw_574 : Cond.code yX11_newAuthority cX11_newAuthority 3 (some .int) ∈ wg := wg_in3 23 rfl rfl
set_option maxRecDepth 20000 in
theorem kw_575 : Cond.methodLink RX11 138 yX11_isName ∈ wg := wg_in3 24 rfl rfl
set_option maxRecDepth 20000 in
theorem kw_576 : Cond.static yX11_isName ∈ wg := wg_in3 25 rfl rfl
set_option maxRecDepth 20000 in
theorem kw_577 : Cond.code yX11_isName cX11_isName 1 (some .boolean) ∈ wg := wg_in3 26 rfl rfl
set_option maxRecDepth 20000 in
theorem kw_578 : Cond.methodLink RX11 142 yX7_isSecret ∈ wg := wg_in3 27 rfl rfl
set_option maxRecDepth 20000 in
theorem kw_579 : Cond.static yX7_isSecret ∈ wg := wg_in3 28 rfl rfl
set_option maxRecDepth 20000 in
theorem kw_580 : Cond.code yX7_isSecret cX7_isSecret 1 (some .boolean) ∈ wg := wg_in3 29 rfl rfl
set_option maxRecDepth 20000 in
theorem kw_581 : Cond.constantLong RX7 9 (1073741789) ∈ wg := wg_in3 30 rfl rfl
set_option maxRecDepth 20000 in
theorem kw_582 : Cond.methodLink RX11 325 yX3_isSame ∈ wg := wg_in3 31 rfl rfl
set_option maxRecDepth 20000 in
theorem kw_583 : Cond.instanceMethod yX3_isSame ∈ wg := wg_in3 32 rfl rfl
set_option maxRecDepth 20000 in
theorem kw_584 : Cond.selects RX3 yX3_isSame yX3_isSame ∈ wg := wg_in3 33 rfl rfl
set_option maxRecDepth 20000 in
theorem kw_585 : Cond.code yX3_isSame cX3_isSame 5 (some .boolean) ∈ wg := wg_in3 34 rfl rfl
set_option maxRecDepth 20000 in
theorem kw_586 : Cond.methodLink RX11 329 yX2_begin ∈ wg := wg_in3 35 rfl rfl
set_option maxRecDepth 20000 in
theorem kw_587 : Cond.instanceMethod yX2_begin ∈ wg := wg_in3 36 rfl rfl
set_option maxRecDepth 20000 in
theorem kw_588 : Cond.selects RX2 yX2_begin yX2_begin ∈ wg := wg_in3 37 rfl rfl
set_option maxRecDepth 20000 in
theorem kw_589 : Cond.code yX2_begin cX2_begin 3 none ∈ wg := wg_in3 38 rfl rfl
set_option maxRecDepth 20000 in
theorem kw_590 : Cond.methodLink RX2 31 yX3_copyOf ∈ wg := wg_in3 39 rfl rfl
set_option maxRecDepth 20000 in
theorem kw_591 : Cond.methodLink RX2 39 yX7_publicKey ∈ wg := wg_in3 40 rfl rfl
set_option maxRecDepth 20000 in
theorem kw_592 : Cond.static yX7_publicKey ∈ wg := wg_in3 41 rfl rfl
set_option maxRecDepth 20000 in
theorem kw_593 : Cond.code yX7_publicKey cX7_publicKey 1 (some .int) ∈ wg := wg_in3 42 rfl rfl
set_option maxRecDepth 20000 in
theorem kw_594 : Cond.constantLong RX7 11 (4) ∈ wg := wg_in3 43 rfl rfl
set_option maxRecDepth 20000 in
theorem kw_595 : Cond.methodLink RX7 13 yX7_power ∈ wg := wg_in3 44 rfl rfl
set_option maxRecDepth 20000 in
theorem kw_596 : Cond.static yX7_power ∈ wg := wg_in3 45 rfl rfl
set_option maxRecDepth 20000 in
theorem kw_597 : Cond.code yX7_power cX7_power 9 (some .long) ∈ wg := wg_in3 46 rfl rfl
set_option maxRecDepth 20000 in
theorem kw_598 : Cond.constantLong RX7 36 (2147483579) ∈ wg := wg_in3 47 rfl rfl
set_option maxRecDepth 20000 in
theorem kw_599 : Cond.methodLink RX2 50 yX3_digest ∈ wg := wg_in3 48 rfl rfl
set_option maxRecDepth 20000 in
theorem kw_600 : Cond.instanceMethod yX3_digest ∈ wg := wg_in3 49 rfl rfl
set_option maxRecDepth 20000 in
theorem kw_601 : Cond.selects RX3 yX3_digest yX3_digest ∈ wg := wg_in3 50 rfl rfl
set_option maxRecDepth 20000 in
theorem kw_602 : Cond.code yX3_digest cX3_digest 6 (some .long) ∈ wg := wg_in3 51 rfl rfl
set_option maxRecDepth 20000 in
theorem kw_603 : Cond.constantLong RX3 42 (7640891576956012809) ∈ wg := wg_in3 52 rfl rfl
set_option maxRecDepth 20000 in
theorem kw_604 : Cond.methodLink RX3 44 yX7_hashStep ∈ wg := wg_in3 53 rfl rfl
set_option maxRecDepth 20000 in
theorem kw_605 : Cond.static yX7_hashStep ∈ wg := wg_in3 54 rfl rfl
set_option maxRecDepth 20000 in
theorem kw_606 : Cond.code yX7_hashStep cX7_hashStep 5 (some .long) ∈ wg := wg_in3 55 rfl rfl
set_option maxRecDepth 20000 in
theorem kw_607 : Cond.constantLong RX7 17 (-7046029254386353131) ∈ wg := wg_in3 56 rfl rfl
set_option maxRecDepth 20000 in
theorem kw_608 : Cond.methodLink RX3 48 yX7_hashEnd ∈ wg := wg_in3 57 rfl rfl
set_option maxRecDepth 20000 in
theorem kw_609 : Cond.static yX7_hashEnd ∈ wg := wg_in3 58 rfl rfl
set_option maxRecDepth 20000 in
theorem kw_610 : Cond.code yX7_hashEnd cX7_hashEnd 4 (some .long) ∈ wg := wg_in3 59 rfl rfl
set_option maxRecDepth 20000 in
theorem kw_611 : Cond.constantLong RX7 19 (-4658895280553007687) ∈ wg := wg_in3 60 rfl rfl
set_option maxRecDepth 20000 in
theorem kw_612 : Cond.methodLink RX2 58 yX7_hashOf ∈ wg := wg_in3 61 rfl rfl
set_option maxRecDepth 20000 in
theorem kw_613 : Cond.static yX7_hashOf ∈ wg := wg_in3 62 rfl rfl
set_option maxRecDepth 20000 in
theorem kw_614 : Cond.code yX7_hashOf cX7_hashOf 2 (some .long) ∈ wg := wg_in3 63 rfl rfl
set_option maxRecDepth 20000 in
theorem kw_615 : Cond.constantLong RX7 25 (7640891576956012809) ∈ wg := wg_in3 64 rfl rfl
set_option maxRecDepth 20000 in
theorem kw_616 : Cond.methodLink RX7 27 yX7_hashLong ∈ wg := wg_in3 65 rfl rfl
set_option maxRecDepth 20000 in
theorem kw_617 : Cond.static yX7_hashLong ∈ wg := wg_in3 66 rfl rfl
set_option maxRecDepth 20000 in
theorem kw_618 : Cond.code yX7_hashLong cX7_hashLong 7 (some .long) ∈ wg := wg_in3 67 rfl rfl
set_option maxRecDepth 20000 in
theorem kw_619 : Cond.methodLink RX7 21 yX7_hashStep ∈ wg := wg_in3 68 rfl rfl
set_option maxRecDepth 20000 in
theorem kw_620 : Cond.methodLink RX7 30 yX7_hashEnd ∈ wg := wg_in3 69 rfl rfl
set_option maxRecDepth 20000 in
theorem kw_621 : Cond.methodLink RX11 103 yX3_clear ∈ wg := wg_in3 70 rfl rfl
set_option maxRecDepth 20000 in
theorem kw_626 : Cond.methodLink RX11 106 yX11_authorityAt ∈ wg := wg_in3 75 rfl rfl
set_option maxRecDepth 20000 in
theorem kw_628 : Cond.instanceMethod yX11_authorityAt ∈ wg := wg_in3 77 rfl rfl
set_option maxRecDepth 20000 in
theorem kw_629 : Cond.code yX11_authorityAt cX11_authorityAt 2 (some (.object "StatusDesk$Authority")) ∈ wg := wg_in3 78 rfl rfl
set_option maxRecDepth 20000 in
theorem kw_630 : Cond.methodLink RX11 110 yX2_placeOf ∈ wg := wg_in3 79 rfl rfl
set_option maxRecDepth 20000 in
theorem kw_631 : Cond.instanceMethod yX2_placeOf ∈ wg := wg_in3 80 rfl rfl
set_option maxRecDepth 20000 in
theorem kw_632 : Cond.selects RX2 yX2_placeOf yX2_placeOf ∈ wg := wg_in3 81 rfl rfl
set_option maxRecDepth 20000 in
theorem kw_633 : Cond.code yX2_placeOf cX2_placeOf 3 (some .int) ∈ wg := wg_in3 82 rfl rfl
set_option maxRecDepth 20000 in
theorem kw_634 : Cond.methodLink RX11 116 yX2_enlist ∈ wg := wg_in3 83 rfl rfl
set_option maxRecDepth 20000 in
theorem kw_635 : Cond.instanceMethod yX2_enlist ∈ wg := wg_in3 84 rfl rfl
set_option maxRecDepth 20000 in
theorem kw_636 : Cond.selects RX2 yX2_enlist yX2_enlist ∈ wg := wg_in3 85 rfl rfl
set_option maxRecDepth 20000 in
theorem kw_637 : Cond.code yX2_enlist cX2_enlist 2 none ∈ wg := wg_in3 86 rfl rfl
set_option maxRecDepth 20000 in
theorem kw_638 : Cond.methodLink RX2 68 yX2_placeOf ∈ wg := wg_in3 87 rfl rfl
set_option maxRecDepth 20000 in
theorem kw_639 : Cond.constantLong RX2 71 (-1) ∈ wg := wg_in3 88 rfl rfl
set_option maxRecDepth 20000 in
theorem kw_644 : Cond.methodLink RX11 119 yX10_fits ∈ wg := wg_in3 93 rfl rfl
set_option maxRecDepth 20000 in
theorem kw_645 : Cond.static yX10_fits ∈ wg := wg_in3 94 rfl rfl
set_option maxRecDepth 20000 in
theorem kw_646 : Cond.code yX10_fits cX10_fits 2 (some .boolean) ∈ wg := wg_in3 95 rfl rfl
set_option maxRecDepth 20000 in
theorem kw_647 : Cond.constantLong RX10 11 (3155759999) ∈ wg := wg_in3 96 rfl rfl
set_option maxRecDepth 20000 in
theorem kw_648 : Cond.constantLong RX11 129 (-1) ∈ wg := wg_in3 97 rfl rfl
set_option maxRecDepth 20000 in
theorem kw_657 : Cond.methodLink RX11 151 yX2_hasRoomFor ∈ wg := wg_in3 106 rfl rfl
set_option maxRecDepth 20000 in
theorem kw_658 : Cond.instanceMethod yX2_hasRoomFor ∈ wg := wg_in3 107 rfl rfl
set_option maxRecDepth 20000 in
theorem kw_659 : Cond.selects RX2 yX2_hasRoomFor yX2_hasRoomFor ∈ wg := wg_in3 108 rfl rfl
set_option maxRecDepth 20000 in
theorem kw_660 : Cond.code yX2_hasRoomFor cX2_hasRoomFor 2 (some .boolean) ∈ wg := wg_in3 109 rfl rfl
set_option maxRecDepth 20000 in
theorem kw_661 : Cond.methodLink RX11 154 yX9_begin ∈ wg := wg_in3 110 rfl rfl
set_option maxRecDepth 20000 in
theorem kw_662 : Cond.instanceMethod yX9_begin ∈ wg := wg_in3 111 rfl rfl
set_option maxRecDepth 20000 in
theorem kw_663 : Cond.selects RX9 yX9_begin yX9_begin ∈ wg := wg_in3 112 rfl rfl
set_option maxRecDepth 20000 in
theorem kw_664 : Cond.code yX9_begin cX9_begin 3 none ∈ wg := wg_in3 113 rfl rfl
set_option maxRecDepth 20000 in
theorem kw_665 : Cond.methodLink RX9 27 yX7_publicKey ∈ wg := wg_in3 114 rfl rfl
set_option maxRecDepth 20000 in
theorem kw_666 : Cond.methodLink RX9 35 yX7_hashOf ∈ wg := wg_in3 115 rfl rfl
set_option maxRecDepth 20000 in
theorem kw_667 : Cond.methodLink RX11 158 yX9_writeCert ∈ wg := wg_in3 116 rfl rfl
set_option maxRecDepth 20000 in
theorem kw_668 : Cond.instanceMethod yX9_writeCert ∈ wg := wg_in3 117 rfl rfl
set_option maxRecDepth 20000 in
theorem kw_669 : Cond.selects RX9 yX9_writeCert yX9_writeCert ∈ wg := wg_in3 118 rfl rfl
set_option maxRecDepth 20000 in
theorem kw_670 : Cond.code yX9_writeCert cX9_writeCert 11 none ∈ wg := wg_in3 119 rfl rfl
set_option maxRecDepth 20000 in
theorem kw_671 : Cond.methodLink RX9 43 yX3_clear ∈ wg := wg_in3 120 rfl rfl
set_option maxRecDepth 20000 in
theorem kw_672 : Cond.methodLink RX9 46 yX3_open ∈ wg := wg_in3 121 rfl rfl
set_option maxRecDepth 20000 in
theorem kw_673 : Cond.instanceMethod yX3_open ∈ wg := wg_in3 122 rfl rfl
set_option maxRecDepth 20000 in
theorem kw_674 : Cond.selects RX3 yX3_open yX3_open ∈ wg := wg_in3 123 rfl rfl
set_option maxRecDepth 20000 in
theorem kw_675 : Cond.code yX3_open cX3_open 3 (some .int) ∈ wg := wg_in3 124 rfl rfl
set_option maxRecDepth 20000 in
theorem kw_676 : Cond.methodLink RX9 49 yX3_addInteger ∈ wg := wg_in3 125 rfl rfl
set_option maxRecDepth 20000 in
theorem kw_677 : Cond.instanceMethod yX3_addInteger ∈ wg := wg_in3 126 rfl rfl
set_option maxRecDepth 20000 in
theorem kw_678 : Cond.selects RX3 yX3_addInteger yX3_addInteger ∈ wg := wg_in3 127 rfl rfl
set_option maxRecDepth 20000 in
theorem kw_679 : Cond.code yX3_addInteger cX3_addInteger 5 none ∈ wg := wg_in3 128 rfl rfl
set_option maxRecDepth 20000 in
theorem kw_680 : Cond.methodLink RX3 52 yX3_open ∈ wg := wg_in3 129 rfl rfl
set_option maxRecDepth 20000 in
theorem kw_681 : Cond.methodLink RX3 55 yX3_addHighestFirst ∈ wg := wg_in3 130 rfl rfl
set_option maxRecDepth 20000 in
theorem kw_682 : Cond.instanceMethod yX3_addHighestFirst ∈ wg := wg_in3 131 rfl rfl
set_option maxRecDepth 20000 in
theorem kw_683 : Cond.selects RX3 yX3_addHighestFirst yX3_addHighestFirst ∈ wg := wg_in3 132 rfl rfl
set_option maxRecDepth 20000 in
theorem kw_684 : Cond.code yX3_addHighestFirst cX3_addHighestFirst 5 none ∈ wg := wg_in3 133 rfl rfl
set_option maxRecDepth 20000 in
theorem kw_685 : Cond.methodLink RX3 59 yX3_close ∈ wg := wg_in3 134 rfl rfl
set_option maxRecDepth 20000 in
theorem kw_686 : Cond.instanceMethod yX3_close ∈ wg := wg_in3 135 rfl rfl
set_option maxRecDepth 20000 in
theorem kw_687 : Cond.selects RX3 yX3_close yX3_close ∈ wg := wg_in3 136 rfl rfl
set_option maxRecDepth 20000 in
theorem kw_688 : Cond.code yX3_close cX3_close 5 none ∈ wg := wg_in3 137 rfl rfl
set_option maxRecDepth 20000 in
theorem kw_689 : Cond.methodLink RX9 61 yX3_addBytes ∈ wg := wg_in3 138 rfl rfl
set_option maxRecDepth 20000 in
theorem kw_690 : Cond.instanceMethod yX3_addBytes ∈ wg := wg_in3 139 rfl rfl
set_option maxRecDepth 20000 in
theorem kw_691 : Cond.selects RX3 yX3_addBytes yX3_addBytes ∈ wg := wg_in3 140 rfl rfl
set_option maxRecDepth 20000 in
theorem kw_692 : Cond.code yX3_addBytes cX3_addBytes 5 none ∈ wg := wg_in3 141 rfl rfl
set_option maxRecDepth 20000 in
theorem kw_693 : Cond.methodLink RX9 65 yX3_addTime ∈ wg := wg_in3 142 rfl rfl
set_option maxRecDepth 20000 in
theorem kw_694 : Cond.instanceMethod yX3_addTime ∈ wg := wg_in3 143 rfl rfl
set_option maxRecDepth 20000 in
theorem kw_695 : Cond.selects RX3 yX3_addTime yX3_addTime ∈ wg := wg_in3 144 rfl rfl
set_option maxRecDepth 20000 in
theorem kw_696 : Cond.code yX3_addTime cX3_addTime 7 none ∈ wg := wg_in3 145 rfl rfl
set_option maxRecDepth 20000 in
theorem kw_697 : Cond.methodLink RX3 65 yX10_stamp ∈ wg := wg_in3 146 rfl rfl
set_option maxRecDepth 20000 in
theorem kw_698 : Cond.static yX10_stamp ∈ wg := wg_in3 147 rfl rfl
set_option maxRecDepth 20000 in
theorem kw_699 : Cond.code yX10_stamp cX10_stamp 15 (some .long) ∈ wg := wg_in3 148 rfl rfl
set_option maxRecDepth 20000 in
theorem kw_700 : Cond.constantLong RX10 13 (86400) ∈ wg := wg_in3 149 rfl rfl
set_option maxRecDepth 20000 in
theorem kw_701 : Cond.constantLong RX10 15 (1461) ∈ wg := wg_in3 150 rfl rfl
set_option maxRecDepth 20000 in
theorem kw_702 : Cond.constantLong RX10 17 (366) ∈ wg := wg_in3 151 rfl rfl
set_option maxRecDepth 20000 in
theorem kw_703 : Cond.constantLong RX10 19 (365) ∈ wg := wg_in3 152 rfl rfl
set_option maxRecDepth 20000 in
theorem kw_704 : Cond.fieldLink RX10 21 "StatusDesk$Times" "MONTH_DAYS" "[I" ∈ wg := wg_in3 153 rfl rfl
set_option maxRecDepth 20000 in
theorem kw_706 : Cond.constantLong RX10 25 (2000) ∈ wg := wg_in3 155 rfl rfl
set_option maxRecDepth 20000 in
theorem kw_707 : Cond.constantLong RX10 27 (4) ∈ wg := wg_in3 156 rfl rfl
set_option maxRecDepth 20000 in
theorem kw_708 : Cond.constantLong RX10 29 (10000) ∈ wg := wg_in3 157 rfl rfl
set_option maxRecDepth 20000 in
theorem kw_709 : Cond.constantLong RX10 31 (1000000) ∈ wg := wg_in3 158 rfl rfl
set_option maxRecDepth 20000 in
theorem kw_710 : Cond.constantLong RX10 33 (3600) ∈ wg := wg_in3 159 rfl rfl
set_option maxRecDepth 20000 in
theorem kw_711 : Cond.constantLong RX10 35 (60) ∈ wg := wg_in3 160 rfl rfl
set_option maxRecDepth 20000 in
theorem kw_712 : Cond.constantLong RX10 37 (100) ∈ wg := wg_in3 161 rfl rfl
set_option maxRecDepth 20000 in
theorem kw_713 : Cond.methodLink RX3 70 yX10_character ∈ wg := wg_in3 162 rfl rfl
set_option maxRecDepth 20000 in
theorem kw_714 : Cond.static yX10_character ∈ wg := wg_in3 163 rfl rfl
set_option maxRecDepth 20000 in
theorem kw_715 : Cond.code yX10_character cX10_character 6 (some .int) ∈ wg := wg_in3 164 rfl rfl
set_option maxRecDepth 20000 in
theorem kw_716 : Cond.constantLong RX10 39 (10000000000000) ∈ wg := wg_in3 165 rfl rfl
set_option maxRecDepth 20000 in
theorem kw_717 : Cond.constantLong RX10 41 (10) ∈ wg := wg_in3 166 rfl rfl
set_option maxRecDepth 20000 in
theorem kw_718 : Cond.constantLong RX10 43 (48) ∈ wg := wg_in3 167 rfl rfl
set_option maxRecDepth 20000 in
theorem kw_719 : Cond.methodLink RX9 68 yX3_close ∈ wg := wg_in3 168 rfl rfl
set_option maxRecDepth 20000 in
theorem kw_720 : Cond.methodLink RX9 72 yX3_digest ∈ wg := wg_in3 169 rfl rfl
set_option maxRecDepth 20000 in
theorem kw_721 : Cond.methodLink RX9 76 yX7_signature ∈ wg := wg_in3 170 rfl rfl
set_option maxRecDepth 20000 in
theorem kw_722 : Cond.static yX7_signature ∈ wg := wg_in3 171 rfl rfl
set_option maxRecDepth 20000 in
theorem kw_723 : Cond.code yX7_signature cX7_signature 9 (some .long) ∈ wg := wg_in3 172 rfl rfl
set_option maxRecDepth 20000 in
theorem kw_724 : Cond.methodLink RX7 38 yX7_hashOfBoth ∈ wg := wg_in3 173 rfl rfl
set_option maxRecDepth 20000 in
theorem kw_725 : Cond.static yX7_hashOfBoth ∈ wg := wg_in3 174 rfl rfl
set_option maxRecDepth 20000 in
theorem kw_726 : Cond.code yX7_hashOfBoth cX7_hashOfBoth 4 (some .long) ∈ wg := wg_in3 175 rfl rfl
set_option maxRecDepth 20000 in
theorem kw_727 : Cond.constantLong RX7 41 (1073741788) ∈ wg := wg_in3 176 rfl rfl
set_option maxRecDepth 20000 in
theorem kw_728 : Cond.methodLink RX7 43 yX7_remainder ∈ wg := wg_in3 177 rfl rfl
set_option maxRecDepth 20000 in
theorem kw_729 : Cond.static yX7_remainder ∈ wg := wg_in3 178 rfl rfl
set_option maxRecDepth 20000 in
theorem kw_730 : Cond.code yX7_remainder cX7_remainder 4 (some .long) ∈ wg := wg_in3 179 rfl rfl
set_option maxRecDepth 20000 in
theorem kw_731 : Cond.constantLong RX7 34 (2) ∈ wg := wg_in3 180 rfl rfl
set_option maxRecDepth 20000 in
theorem kw_732 : Cond.methodLink RX9 80 yX3_addSignature ∈ wg := wg_in3 181 rfl rfl
set_option maxRecDepth 20000 in
theorem kw_733 : Cond.instanceMethod yX3_addSignature ∈ wg := wg_in3 182 rfl rfl
set_option maxRecDepth 20000 in
theorem kw_734 : Cond.selects RX3 yX3_addSignature yX3_addSignature ∈ wg := wg_in3 183 rfl rfl
set_option maxRecDepth 20000 in
theorem kw_735 : Cond.code yX3_addSignature cX3_addSignature 4 none ∈ wg := wg_in3 184 rfl rfl
set_option maxRecDepth 20000 in
theorem kw_740 : Cond.methodLink RX11 165 yX11_signerAt ∈ wg := wg_in3 189 rfl rfl
set_option maxRecDepth 20000 in
theorem kw_742 : Cond.instanceMethod yX11_signerAt ∈ wg := wg_in3 191 rfl rfl
set_option maxRecDepth 20000 in
theorem kw_743 : Cond.code yX11_signerAt cX11_signerAt 2 (some (.object "StatusDesk$Signer")) ∈ wg := wg_in3 192 rfl rfl
set_option maxRecDepth 20000 in
theorem kw_748 : Cond.methodLink RX11 179 yX6_add ∈ wg := wg_in3 197 rfl rfl
set_option maxRecDepth 20000 in
theorem kw_749 : Cond.instanceMethod yX6_add ∈ wg := wg_in3 198 rfl rfl
set_option maxRecDepth 20000 in
theorem kw_750 : Cond.selects RX6 yX6_add yX6_add ∈ wg := wg_in3 199 rfl rfl
set_option maxRecDepth 20000 in
theorem kw_751 : Cond.code yX6_add cX6_add 6 none ∈ wg := wg_in3 200 rfl rfl
set_option maxRecDepth 20000 in
theorem kw_760 : Cond.methodLink RX11 183 yX3_open ∈ wg := wg_in3 209 rfl rfl
set_option maxRecDepth 20000 in
theorem kw_761 : Cond.methodLink RX11 186 yX3_addId ∈ wg := wg_in3 210 rfl rfl
set_option maxRecDepth 20000 in
theorem kw_762 : Cond.instanceMethod yX3_addId ∈ wg := wg_in3 211 rfl rfl
set_option maxRecDepth 20000 in
theorem kw_763 : Cond.selects RX3 yX3_addId yX3_addId ∈ wg := wg_in3 212 rfl rfl
set_option maxRecDepth 20000 in
theorem kw_764 : Cond.code yX3_addId cX3_addId 4 none ∈ wg := wg_in3 213 rfl rfl
set_option maxRecDepth 20000 in
theorem kw_765 : Cond.methodLink RX3 83 yX3_addHash ∈ wg := wg_in3 214 rfl rfl
set_option maxRecDepth 20000 in
theorem kw_766 : Cond.instanceMethod yX3_addHash ∈ wg := wg_in3 215 rfl rfl
set_option maxRecDepth 20000 in
theorem kw_767 : Cond.selects RX3 yX3_addHash yX3_addHash ∈ wg := wg_in3 216 rfl rfl
set_option maxRecDepth 20000 in
theorem kw_768 : Cond.code yX3_addHash cX3_addHash 4 none ∈ wg := wg_in3 217 rfl rfl
set_option maxRecDepth 20000 in
theorem kw_769 : Cond.methodLink RX3 94 yX3_addInteger ∈ wg := wg_in3 218 rfl rfl
set_option maxRecDepth 20000 in
theorem kw_770 : Cond.methodLink RX11 190 yX3_close ∈ wg := wg_in3 219 rfl rfl
set_option maxRecDepth 20000 in
theorem kw_771 : Cond.methodLink RX11 193 yX3_addTaggedBytes ∈ wg := wg_in3 220 rfl rfl
set_option maxRecDepth 20000 in
theorem kw_772 : Cond.instanceMethod yX3_addTaggedBytes ∈ wg := wg_in3 221 rfl rfl
set_option maxRecDepth 20000 in
theorem kw_773 : Cond.selects RX3 yX3_addTaggedBytes yX3_addTaggedBytes ∈ wg := wg_in3 222 rfl rfl
set_option maxRecDepth 20000 in
theorem kw_774 : Cond.code yX3_addTaggedBytes cX3_addTaggedBytes 6 none ∈ wg := wg_in3 223 rfl rfl
set_option maxRecDepth 20000 in
theorem kw_775 : Cond.methodLink RX3 62 yX3_addBytes ∈ wg := wg_in3 224 rfl rfl
set_option maxRecDepth 20000 in
theorem kw_780 : Cond.constantLong RX11 200 (3155759999) ∈ wg := wg_in3 229 rfl rfl
set_option maxRecDepth 20000 in
theorem kw_781 : Cond.methodLink RX11 202 yX11_statusFor ∈ wg := wg_in3 230 rfl rfl
set_option maxRecDepth 20000 in
theorem kw_783 : Cond.instanceMethod yX11_statusFor ∈ wg := wg_in3 232 rfl rfl
set_option maxRecDepth 20000 in
theorem kw_784 : Cond.code yX11_statusFor cX11_statusFor 3 (some .int) ∈ wg := wg_in3 233 rfl rfl
set_option maxRecDepth 20000 in
theorem kw_785 : Cond.methodLink RX11 222 yX8_begin ∈ wg := wg_in3 234 rfl rfl
set_option maxRecDepth 20000 in
theorem kw_786 : Cond.instanceMethod yX8_begin ∈ wg := wg_in3 235 rfl rfl
set_option maxRecDepth 20000 in
theorem kw_787 : Cond.selects RX8 yX8_begin yX8_begin ∈ wg := wg_in3 236 rfl rfl
set_option maxRecDepth 20000 in
theorem kw_788 : Cond.code yX8_begin cX8_begin 2 none ∈ wg := wg_in3 237 rfl rfl
set_option maxRecDepth 20000 in
theorem kw_792 : Cond.methodLink RX11 295 yX1_read ∈ wg := wg_in4 1 rfl rfl
set_option maxRecDepth 20000 in
theorem kw_793 : Cond.instanceMethod yX1_read ∈ wg := wg_in4 2 rfl rfl
set_option maxRecDepth 20000 in
theorem kw_794 : Cond.selects RX1 yX1_read yX1_read ∈ wg := wg_in4 3 rfl rfl
set_option maxRecDepth 20000 in
theorem kw_795 : Cond.code yX1_read cX1_read 3 none ∈ wg := wg_in4 4 rfl rfl
set_option maxRecDepth 20000 in
theorem kw_796 : Cond.methodLink RX1 25 yX8_open ∈ wg := wg_in4 5 rfl rfl
set_option maxRecDepth 20000 in
theorem kw_797 : Cond.instanceMethod yX8_open ∈ wg := wg_in4 6 rfl rfl
set_option maxRecDepth 20000 in
theorem kw_798 : Cond.selects RX8 yX8_open yX8_open ∈ wg := wg_in4 7 rfl rfl
set_option maxRecDepth 20000 in
theorem kw_799 : Cond.code yX8_open cX8_open 2 none ∈ wg := wg_in4 8 rfl rfl
set_option maxRecDepth 20000 in
theorem kw_800 : Cond.methodLink RX8 64 yX8_enter ∈ wg := wg_in4 9 rfl rfl
set_option maxRecDepth 20000 in
theorem kw_801 : Cond.instanceMethod yX8_enter ∈ wg := wg_in4 10 rfl rfl
set_option maxRecDepth 20000 in
theorem kw_802 : Cond.selects RX8 yX8_enter yX8_enter ∈ wg := wg_in4 11 rfl rfl
set_option maxRecDepth 20000 in
theorem kw_803 : Cond.code yX8_enter cX8_enter 4 (some .boolean) ∈ wg := wg_in4 12 rfl rfl
set_option maxRecDepth 20000 in
theorem kw_804 : Cond.methodLink RX8 53 yX8_sortAhead ∈ wg := wg_in4 13 rfl rfl
set_option maxRecDepth 20000 in
theorem kw_805 : Cond.instanceMethod yX8_sortAhead ∈ wg := wg_in4 14 rfl rfl
set_option maxRecDepth 20000 in
theorem kw_806 : Cond.selects RX8 yX8_sortAhead yX8_sortAhead ∈ wg := wg_in4 15 rfl rfl
set_option maxRecDepth 20000 in
theorem kw_807 : Cond.code yX8_sortAhead cX8_sortAhead 1 (some .int) ∈ wg := wg_in4 16 rfl rfl
set_option maxRecDepth 20000 in
theorem kw_808 : Cond.methodLink RX8 57 yX8_passLength ∈ wg := wg_in4 17 rfl rfl
set_option maxRecDepth 20000 in
theorem kw_810 : Cond.instanceMethod yX8_passLength ∈ wg := wg_in4 19 rfl rfl
set_option maxRecDepth 20000 in
theorem kw_811 : Cond.code yX8_passLength cX8_passLength 6 (some .boolean) ∈ wg := wg_in4 20 rfl rfl
set_option maxRecDepth 20000 in
theorem kw_812 : Cond.methodLink RX8 61 yX8_fail ∈ wg := wg_in4 21 rfl rfl
set_option maxRecDepth 20000 in
theorem kw_813 : Cond.instanceMethod yX8_fail ∈ wg := wg_in4 22 rfl rfl
set_option maxRecDepth 20000 in
theorem kw_814 : Cond.selects RX8 yX8_fail yX8_fail ∈ wg := wg_in4 23 rfl rfl
set_option maxRecDepth 20000 in
theorem kw_815 : Cond.code yX8_fail cX8_fail 1 none ∈ wg := wg_in4 24 rfl rfl
set_option maxRecDepth 20000 in
theorem kw_816 : Cond.methodLink RX1 31 yX8_hasMore ∈ wg := wg_in4 25 rfl rfl
set_option maxRecDepth 20000 in
theorem kw_817 : Cond.instanceMethod yX8_hasMore ∈ wg := wg_in4 26 rfl rfl
set_option maxRecDepth 20000 in
theorem kw_818 : Cond.selects RX8 yX8_hasMore yX8_hasMore ∈ wg := wg_in4 27 rfl rfl
set_option maxRecDepth 20000 in
theorem kw_819 : Cond.code yX8_hasMore cX8_hasMore 1 (some .boolean) ∈ wg := wg_in4 28 rfl rfl
set_option maxRecDepth 20000 in
theorem kw_820 : Cond.methodLink RX1 35 yX6_read ∈ wg := wg_in4 29 rfl rfl
set_option maxRecDepth 20000 in
theorem kw_821 : Cond.instanceMethod yX6_read ∈ wg := wg_in4 30 rfl rfl
set_option maxRecDepth 20000 in
theorem kw_822 : Cond.selects RX6 yX6_read yX6_read ∈ wg := wg_in4 31 rfl rfl
set_option maxRecDepth 20000 in
theorem kw_823 : Cond.code yX6_read cX6_read 7 none ∈ wg := wg_in4 32 rfl rfl
set_option maxRecDepth 20000 in
theorem kw_824 : Cond.methodLink RX6 26 yX8_open ∈ wg := wg_in4 33 rfl rfl
set_option maxRecDepth 20000 in
theorem kw_825 : Cond.methodLink RX6 32 yX8_readHash ∈ wg := wg_in4 34 rfl rfl
set_option maxRecDepth 20000 in
theorem kw_826 : Cond.instanceMethod yX8_readHash ∈ wg := wg_in4 35 rfl rfl
set_option maxRecDepth 20000 in
theorem kw_827 : Cond.selects RX8 yX8_readHash yX8_readHash ∈ wg := wg_in4 36 rfl rfl
set_option maxRecDepth 20000 in
theorem kw_828 : Cond.code yX8_readHash cX8_readHash 1 (some .long) ∈ wg := wg_in4 37 rfl rfl
set_option maxRecDepth 20000 in
theorem kw_829 : Cond.methodLink RX8 74 yX8_number ∈ wg := wg_in4 38 rfl rfl
set_option maxRecDepth 20000 in
theorem kw_831 : Cond.instanceMethod yX8_number ∈ wg := wg_in4 40 rfl rfl
set_option maxRecDepth 20000 in
theorem kw_832 : Cond.code yX8_number cX8_number 4 (some .long) ∈ wg := wg_in4 41 rfl rfl
set_option maxRecDepth 20000 in
theorem kw_833 : Cond.constantLong RX6 36 (2147483647) ∈ wg := wg_in4 42 rfl rfl
set_option maxRecDepth 20000 in
theorem kw_834 : Cond.methodLink RX6 38 yX8_readInteger ∈ wg := wg_in4 43 rfl rfl
set_option maxRecDepth 20000 in
theorem kw_835 : Cond.instanceMethod yX8_readInteger ∈ wg := wg_in4 44 rfl rfl
set_option maxRecDepth 20000 in
theorem kw_836 : Cond.selects RX8 yX8_readInteger yX8_readInteger ∈ wg := wg_in4 45 rfl rfl
set_option maxRecDepth 20000 in
theorem kw_837 : Cond.code yX8_readInteger cX8_readInteger 8 (some .long) ∈ wg := wg_in4 46 rfl rfl
set_option maxRecDepth 20000 in
theorem kw_838 : Cond.methodLink RX6 42 yX8_close ∈ wg := wg_in4 47 rfl rfl
set_option maxRecDepth 20000 in
theorem kw_839 : Cond.instanceMethod yX8_close ∈ wg := wg_in4 48 rfl rfl
set_option maxRecDepth 20000 in
theorem kw_840 : Cond.selects RX8 yX8_close yX8_close ∈ wg := wg_in4 49 rfl rfl
set_option maxRecDepth 20000 in
theorem kw_841 : Cond.code yX8_close cX8_close 1 none ∈ wg := wg_in4 50 rfl rfl
set_option maxRecDepth 20000 in
theorem kw_842 : Cond.methodLink RX8 68 yX8_endText ∈ wg := wg_in4 51 rfl rfl
set_option maxRecDepth 20000 in
theorem kw_843 : Cond.instanceMethod yX8_endText ∈ wg := wg_in4 52 rfl rfl
set_option maxRecDepth 20000 in
theorem kw_844 : Cond.selects RX8 yX8_endText yX8_endText ∈ wg := wg_in4 53 rfl rfl
set_option maxRecDepth 20000 in
theorem kw_845 : Cond.code yX8_endText cX8_endText 1 none ∈ wg := wg_in4 54 rfl rfl
set_option maxRecDepth 20000 in
theorem kw_846 : Cond.methodLink RX8 71 yX8_hasMore ∈ wg := wg_in4 55 rfl rfl
set_option maxRecDepth 20000 in
theorem kw_847 : Cond.methodLink RX6 45 yX6_add ∈ wg := wg_in4 56 rfl rfl
set_option maxRecDepth 20000 in
theorem kw_848 : Cond.methodLink RX1 39 yX8_close ∈ wg := wg_in4 57 rfl rfl
set_option maxRecDepth 20000 in
theorem kw_849 : Cond.methodLink RX1 42 yX8_readBytes ∈ wg := wg_in4 58 rfl rfl
set_option maxRecDepth 20000 in
theorem kw_850 : Cond.instanceMethod yX8_readBytes ∈ wg := wg_in4 59 rfl rfl
set_option maxRecDepth 20000 in
theorem kw_851 : Cond.selects RX8 yX8_readBytes yX8_readBytes ∈ wg := wg_in4 60 rfl rfl
set_option maxRecDepth 20000 in
theorem kw_852 : Cond.code yX8_readBytes cX8_readBytes 4 (some .int) ∈ wg := wg_in4 61 rfl rfl
set_option maxRecDepth 20000 in
theorem kw_853 : Cond.methodLink RX1 52 yX8_endText ∈ wg := wg_in4 62 rfl rfl
set_option maxRecDepth 20000 in
theorem kw_854 : Cond.methodLink RX11 333 yX6_isOf ∈ wg := wg_in4 63 rfl rfl
set_option maxRecDepth 20000 in
theorem kw_855 : Cond.instanceMethod yX6_isOf ∈ wg := wg_in4 64 rfl rfl
set_option maxRecDepth 20000 in
theorem kw_856 : Cond.selects RX6 yX6_isOf yX6_isOf ∈ wg := wg_in4 65 rfl rfl
set_option maxRecDepth 20000 in
theorem kw_857 : Cond.code yX6_isOf cX6_isOf 6 (some .boolean) ∈ wg := wg_in4 66 rfl rfl
set_option maxRecDepth 20000 in
theorem kw_858 : Cond.methodLink RX11 209 yX11_writeAnswer ∈ wg := wg_in4 67 rfl rfl
set_option maxRecDepth 20000 in
theorem kw_860 : Cond.instanceMethod yX11_writeAnswer ∈ wg := wg_in4 69 rfl rfl
set_option maxRecDepth 20000 in
theorem kw_861 : Cond.code yX11_writeAnswer cX11_writeAnswer 14 none ∈ wg := wg_in4 70 rfl rfl
set_option maxRecDepth 20000 in
theorem kw_862 : Cond.methodLink RX11 337 yX3_addCode ∈ wg := wg_in4 71 rfl rfl
set_option maxRecDepth 20000 in
theorem kw_863 : Cond.instanceMethod yX3_addCode ∈ wg := wg_in4 72 rfl rfl
set_option maxRecDepth 20000 in
theorem kw_864 : Cond.selects RX3 yX3_addCode yX3_addCode ∈ wg := wg_in4 73 rfl rfl
set_option maxRecDepth 20000 in
theorem kw_865 : Cond.code yX3_addCode cX3_addCode 3 none ∈ wg := wg_in4 74 rfl rfl
set_option maxRecDepth 20000 in
theorem kw_866 : Cond.methodLink RX11 340 yX11_writeTeller ∈ wg := wg_in4 75 rfl rfl
set_option maxRecDepth 20000 in
theorem kw_868 : Cond.instanceMethod yX11_writeTeller ∈ wg := wg_in4 77 rfl rfl
set_option maxRecDepth 20000 in
theorem kw_869 : Cond.code yX11_writeTeller cX11_writeTeller 4 none ∈ wg := wg_in4 78 rfl rfl
set_option maxRecDepth 20000 in
theorem kw_870 : Cond.methodLink RX11 374 yX3_addHash ∈ wg := wg_in4 79 rfl rfl
set_option maxRecDepth 20000 in
theorem kw_871 : Cond.methodLink RX11 344 yX3_addTime ∈ wg := wg_in4 80 rfl rfl
set_option maxRecDepth 20000 in
theorem kw_872 : Cond.methodLink RX11 348 yX11_writeSingle ∈ wg := wg_in4 81 rfl rfl
set_option maxRecDepth 20000 in
theorem kw_874 : Cond.instanceMethod yX11_writeSingle ∈ wg := wg_in4 83 rfl rfl
set_option maxRecDepth 20000 in
theorem kw_875 : Cond.code yX11_writeSingle cX11_writeSingle 9 none ∈ wg := wg_in4 84 rfl rfl
set_option maxRecDepth 20000 in
theorem kw_876 : Cond.methodLink RX11 377 yX11_writeState ∈ wg := wg_in4 85 rfl rfl
set_option maxRecDepth 20000 in
theorem kw_878 : Cond.instanceMethod yX11_writeState ∈ wg := wg_in4 87 rfl rfl
set_option maxRecDepth 20000 in
theorem kw_879 : Cond.code yX11_writeState cX11_writeState 8 none ∈ wg := wg_in4 88 rfl rfl
set_option maxRecDepth 20000 in
theorem kw_880 : Cond.methodLink RX11 384 yX2_isTakenBack ∈ wg := wg_in4 89 rfl rfl
set_option maxRecDepth 20000 in
theorem kw_881 : Cond.instanceMethod yX2_isTakenBack ∈ wg := wg_in4 90 rfl rfl
set_option maxRecDepth 20000 in
theorem kw_882 : Cond.selects RX2 yX2_isTakenBack yX2_isTakenBack ∈ wg := wg_in4 91 rfl rfl
set_option maxRecDepth 20000 in
theorem kw_883 : Cond.code yX2_isTakenBack cX2_isTakenBack 4 (some .boolean) ∈ wg := wg_in4 92 rfl rfl
set_option maxRecDepth 20000 in
theorem kw_884 : Cond.methodLink RX11 310 yX3_digest ∈ wg := wg_in4 93 rfl rfl
set_option maxRecDepth 20000 in
theorem kw_885 : Cond.methodLink RX11 362 yX7_signature ∈ wg := wg_in4 94 rfl rfl
set_option maxRecDepth 20000 in
theorem kw_886 : Cond.methodLink RX11 366 yX3_addSignature ∈ wg := wg_in4 95 rfl rfl
set_option maxRecDepth 20000 in
theorem kw_887 : Cond.methodLink RX11 369 yX3_addAll ∈ wg := wg_in4 96 rfl rfl
set_option maxRecDepth 20000 in
theorem kw_888 : Cond.methodLink RX11 216 yX11_writeStatusAlone ∈ wg := wg_in4 97 rfl rfl
set_option maxRecDepth 20000 in
theorem kw_890 : Cond.instanceMethod yX11_writeStatusAlone ∈ wg := wg_in4 99 rfl rfl
set_option maxRecDepth 20000 in
theorem kw_891 : Cond.code yX11_writeStatusAlone cX11_writeStatusAlone 3 none ∈ wg := wg_in4 100 rfl rfl
set_option maxRecDepth 20000 in
theorem kw_896 : Cond.methodLink RX11 219 yX11_isSpan ∈ wg := wg_in4 105 rfl rfl
set_option maxRecDepth 20000 in
theorem kw_897 : Cond.static yX11_isSpan ∈ wg := wg_in4 106 rfl rfl
set_option maxRecDepth 20000 in
theorem kw_898 : Cond.code yX11_isSpan cX11_isSpan 1 (some .boolean) ∈ wg := wg_in4 107 rfl rfl
set_option maxRecDepth 20000 in
theorem kw_899 : Cond.constant RX11 321 (1000000000) ∈ wg := wg_in4 108 rfl rfl
set_option maxRecDepth 20000 in
theorem kw_900 : Cond.methodLink RX11 224 yX0_read ∈ wg := wg_in4 109 rfl rfl
set_option maxRecDepth 20000 in
theorem kw_901 : Cond.instanceMethod yX0_read ∈ wg := wg_in4 110 rfl rfl
set_option maxRecDepth 20000 in
theorem kw_902 : Cond.selects RX0 yX0_read yX0_read ∈ wg := wg_in4 111 rfl rfl
set_option maxRecDepth 20000 in
theorem kw_903 : Cond.code yX0_read cX0_read 3 none ∈ wg := wg_in4 112 rfl rfl
set_option maxRecDepth 20000 in
theorem kw_904 : Cond.methodLink RX0 53 yX8_open ∈ wg := wg_in4 113 rfl rfl
set_option maxRecDepth 20000 in
theorem kw_905 : Cond.methodLink RX0 59 yX8_readCode ∈ wg := wg_in4 114 rfl rfl
set_option maxRecDepth 20000 in
theorem kw_906 : Cond.instanceMethod yX8_readCode ∈ wg := wg_in4 115 rfl rfl
set_option maxRecDepth 20000 in
theorem kw_907 : Cond.selects RX8 yX8_readCode yX8_readCode ∈ wg := wg_in4 116 rfl rfl
set_option maxRecDepth 20000 in
theorem kw_908 : Cond.code yX8_readCode cX8_readCode 2 (some .int) ∈ wg := wg_in4 117 rfl rfl
set_option maxRecDepth 20000 in
theorem kw_909 : Cond.methodLink RX0 66 yX0_readBodyTop ∈ wg := wg_in4 118 rfl rfl
set_option maxRecDepth 20000 in
theorem kw_911 : Cond.instanceMethod yX0_readBodyTop ∈ wg := wg_in4 120 rfl rfl
set_option maxRecDepth 20000 in
theorem kw_912 : Cond.code yX0_readBodyTop cX0_readBodyTop 2 none ∈ wg := wg_in4 121 rfl rfl
set_option maxRecDepth 20000 in
theorem kw_913 : Cond.methodLink RX0 104 yX0_readTeller ∈ wg := wg_in4 122 rfl rfl
set_option maxRecDepth 20000 in
theorem kw_915 : Cond.instanceMethod yX0_readTeller ∈ wg := wg_in4 124 rfl rfl
set_option maxRecDepth 20000 in
theorem kw_916 : Cond.code yX0_readTeller cX0_readTeller 2 none ∈ wg := wg_in4 125 rfl rfl
set_option maxRecDepth 20000 in
theorem kw_917 : Cond.methodLink RX0 126 yX8_sortAhead ∈ wg := wg_in4 126 rfl rfl
set_option maxRecDepth 20000 in
theorem kw_918 : Cond.methodLink RX0 110 yX8_readBytes ∈ wg := wg_in4 127 rfl rfl
set_option maxRecDepth 20000 in
theorem kw_919 : Cond.methodLink RX0 138 yX8_readHash ∈ wg := wg_in4 128 rfl rfl
set_option maxRecDepth 20000 in
theorem kw_920 : Cond.methodLink RX0 92 yX8_close ∈ wg := wg_in4 129 rfl rfl
set_option maxRecDepth 20000 in
theorem kw_921 : Cond.methodLink RX0 107 yX8_readTime ∈ wg := wg_in4 130 rfl rfl
set_option maxRecDepth 20000 in
theorem kw_922 : Cond.instanceMethod yX8_readTime ∈ wg := wg_in4 131 rfl rfl
set_option maxRecDepth 20000 in
theorem kw_923 : Cond.selects RX8 yX8_readTime yX8_readTime ∈ wg := wg_in4 132 rfl rfl
set_option maxRecDepth 20000 in
theorem kw_924 : Cond.code yX8_readTime cX8_readTime 6 (some .long) ∈ wg := wg_in4 133 rfl rfl
set_option maxRecDepth 20000 in
theorem kw_925 : Cond.constantLong RX8 80 (10) ∈ wg := wg_in4 134 rfl rfl
set_option maxRecDepth 20000 in
theorem kw_926 : Cond.methodLink RX8 82 yX10_seconds ∈ wg := wg_in4 135 rfl rfl
set_option maxRecDepth 20000 in
theorem kw_927 : Cond.static yX10_seconds ∈ wg := wg_in4 136 rfl rfl
set_option maxRecDepth 20000 in
theorem kw_928 : Cond.code yX10_seconds cX10_seconds 18 (some .long) ∈ wg := wg_in4 137 rfl rfl
set_option maxRecDepth 20000 in
theorem kw_929 : Cond.constantLong RX10 45 (10000000000) ∈ wg := wg_in4 138 rfl rfl
set_option maxRecDepth 20000 in
theorem kw_930 : Cond.constantLong RX10 47 (100000000) ∈ wg := wg_in4 139 rfl rfl
set_option maxRecDepth 20000 in
theorem kw_931 : Cond.constantLong RX10 49 (99) ∈ wg := wg_in4 140 rfl rfl
set_option maxRecDepth 20000 in
theorem kw_932 : Cond.constantLong RX10 51 (-1) ∈ wg := wg_in4 141 rfl rfl
set_option maxRecDepth 20000 in
theorem kw_933 : Cond.constantLong RX10 53 (23) ∈ wg := wg_in4 142 rfl rfl
set_option maxRecDepth 20000 in
theorem kw_934 : Cond.constantLong RX10 55 (59) ∈ wg := wg_in4 143 rfl rfl
set_option maxRecDepth 20000 in
theorem kw_935 : Cond.constantLong RX10 57 (3) ∈ wg := wg_in4 144 rfl rfl
set_option maxRecDepth 20000 in
theorem kw_936 : Cond.constantLong RX8 86 (-1) ∈ wg := wg_in4 145 rfl rfl
set_option maxRecDepth 20000 in
theorem kw_937 : Cond.methodLink RX0 70 yX8_hasMore ∈ wg := wg_in4 146 rfl rfl
set_option maxRecDepth 20000 in
theorem kw_938 : Cond.methodLink RX0 74 yX0_readSingle ∈ wg := wg_in4 147 rfl rfl
set_option maxRecDepth 20000 in
theorem kw_940 : Cond.instanceMethod yX0_readSingle ∈ wg := wg_in4 149 rfl rfl
set_option maxRecDepth 20000 in
theorem kw_941 : Cond.code yX0_readSingle cX0_readSingle 3 none ∈ wg := wg_in4 150 rfl rfl
set_option maxRecDepth 20000 in
theorem kw_942 : Cond.methodLink RX0 144 yX6_read ∈ wg := wg_in4 151 rfl rfl
set_option maxRecDepth 20000 in
theorem kw_943 : Cond.methodLink RX0 145 yX0_readState ∈ wg := wg_in4 152 rfl rfl
set_option maxRecDepth 20000 in
theorem kw_945 : Cond.instanceMethod yX0_readState ∈ wg := wg_in4 154 rfl rfl
set_option maxRecDepth 20000 in
theorem kw_946 : Cond.code yX0_readState cX0_readState 4 none ∈ wg := wg_in4 155 rfl rfl
set_option maxRecDepth 20000 in
theorem kw_947 : Cond.constantLong RX0 148 (-1) ∈ wg := wg_in4 156 rfl rfl
set_option maxRecDepth 20000 in
theorem kw_948 : Cond.methodLink RX0 150 yX8_enter ∈ wg := wg_in4 157 rfl rfl
set_option maxRecDepth 20000 in
theorem kw_949 : Cond.methodLink RX0 78 yX0_readBodyRest ∈ wg := wg_in4 158 rfl rfl
set_option maxRecDepth 20000 in
theorem kw_951 : Cond.instanceMethod yX0_readBodyRest ∈ wg := wg_in4 160 rfl rfl
set_option maxRecDepth 20000 in
theorem kw_952 : Cond.code yX0_readBodyRest cX0_readBodyRest 2 none ∈ wg := wg_in4 161 rfl rfl
set_option maxRecDepth 20000 in
theorem kw_953 : Cond.methodLink RX0 81 yX8_readSignature ∈ wg := wg_in4 162 rfl rfl
set_option maxRecDepth 20000 in
theorem kw_954 : Cond.instanceMethod yX8_readSignature ∈ wg := wg_in4 163 rfl rfl
set_option maxRecDepth 20000 in
theorem kw_955 : Cond.selects RX8 yX8_readSignature yX8_readSignature ∈ wg := wg_in4 164 rfl rfl
set_option maxRecDepth 20000 in
theorem kw_956 : Cond.code yX8_readSignature cX8_readSignature 1 (some .long) ∈ wg := wg_in4 165 rfl rfl
set_option maxRecDepth 20000 in
theorem kw_957 : Cond.methodLink RX0 89 yX0_readCert ∈ wg := wg_in4 166 rfl rfl
set_option maxRecDepth 20000 in
theorem kw_959 : Cond.instanceMethod yX0_readCert ∈ wg := wg_in4 168 rfl rfl
set_option maxRecDepth 20000 in
theorem kw_960 : Cond.code yX0_readCert cX0_readCert 2 none ∈ wg := wg_in4 169 rfl rfl
set_option maxRecDepth 20000 in
theorem kw_961 : Cond.methodLink RX0 123 yX4_read ∈ wg := wg_in4 170 rfl rfl
set_option maxRecDepth 20000 in
theorem kw_962 : Cond.instanceMethod yX4_read ∈ wg := wg_in4 171 rfl rfl
set_option maxRecDepth 20000 in
theorem kw_963 : Cond.selects RX4 yX4_read yX4_read ∈ wg := wg_in4 172 rfl rfl
set_option maxRecDepth 20000 in
theorem kw_964 : Cond.code yX4_read cX4_read 2 none ∈ wg := wg_in4 173 rfl rfl
set_option maxRecDepth 20000 in
theorem kw_965 : Cond.methodLink RX4 9 yX8_open ∈ wg := wg_in4 174 rfl rfl
set_option maxRecDepth 20000 in
theorem kw_966 : Cond.constantLong RX4 24 (2147483647) ∈ wg := wg_in4 175 rfl rfl
set_option maxRecDepth 20000 in
theorem kw_967 : Cond.methodLink RX4 26 yX8_readInteger ∈ wg := wg_in4 176 rfl rfl
set_option maxRecDepth 20000 in
theorem kw_968 : Cond.methodLink RX4 33 yX8_readBytes ∈ wg := wg_in4 177 rfl rfl
set_option maxRecDepth 20000 in
theorem kw_969 : Cond.methodLink RX4 52 yX8_readTime ∈ wg := wg_in4 178 rfl rfl
set_option maxRecDepth 20000 in
theorem kw_970 : Cond.constantLong RX4 63 (2) ∈ wg := wg_in4 179 rfl rfl
set_option maxRecDepth 20000 in
theorem kw_971 : Cond.constantLong RX4 67 (2147483578) ∈ wg := wg_in4 180 rfl rfl
set_option maxRecDepth 20000 in
theorem kw_972 : Cond.constantLong RX4 72 (3) ∈ wg := wg_in4 181 rfl rfl
set_option maxRecDepth 20000 in
theorem kw_973 : Cond.methodLink RX4 77 yX8_close ∈ wg := wg_in4 182 rfl rfl
set_option maxRecDepth 20000 in
theorem kw_974 : Cond.methodLink RX4 83 yX8_readSignature ∈ wg := wg_in4 183 rfl rfl
set_option maxRecDepth 20000 in
theorem kw_975 : Cond.methodLink RX0 95 yX8_endText ∈ wg := wg_in4 184 rfl rfl
set_option maxRecDepth 20000 in
theorem kw_976 : Cond.methodLink RX11 231 yX6_placeOf ∈ wg := wg_in4 185 rfl rfl
set_option maxRecDepth 20000 in
theorem kw_977 : Cond.instanceMethod yX6_placeOf ∈ wg := wg_in4 186 rfl rfl
set_option maxRecDepth 20000 in
theorem kw_978 : Cond.selects RX6 yX6_placeOf yX6_placeOf ∈ wg := wg_in4 187 rfl rfl
set_option maxRecDepth 20000 in
theorem kw_979 : Cond.code yX6_placeOf cX6_placeOf 7 (some .int) ∈ wg := wg_in4 188 rfl rfl
set_option maxRecDepth 20000 in
theorem kw_980 : Cond.methodLink RX6 49 yX6_isOf ∈ wg := wg_in4 189 rfl rfl
set_option maxRecDepth 20000 in
theorem kw_981 : Cond.methodLink RX11 234 yX11_verdictOnText ∈ wg := wg_in4 190 rfl rfl
set_option maxRecDepth 20000 in
theorem kw_983 : Cond.instanceMethod yX11_verdictOnText ∈ wg := wg_in4 192 rfl rfl
set_option maxRecDepth 20000 in
theorem kw_984 : Cond.code yX11_verdictOnText cX11_verdictOnText 11 (some .int) ∈ wg := wg_in4 193 rfl rfl
set_option maxRecDepth 20000 in
theorem kw_985 : Cond.methodLink RX11 391 yX0_isToldBy ∈ wg := wg_in4 194 rfl rfl
set_option maxRecDepth 20000 in
theorem kw_986 : Cond.instanceMethod yX0_isToldBy ∈ wg := wg_in4 195 rfl rfl
set_option maxRecDepth 20000 in
theorem kw_987 : Cond.selects RX0 yX0_isToldBy yX0_isToldBy ∈ wg := wg_in4 196 rfl rfl
set_option maxRecDepth 20000 in
theorem kw_988 : Cond.code yX0_isToldBy cX0_isToldBy 5 (some .boolean) ∈ wg := wg_in4 197 rfl rfl
set_option maxRecDepth 20000 in
theorem kw_989 : Cond.methodLink RX0 154 yX3_isSame ∈ wg := wg_in4 198 rfl rfl
set_option maxRecDepth 20000 in
theorem kw_990 : Cond.methodLink RX11 395 yX11_verdictOnCert ∈ wg := wg_in4 199 rfl rfl
set_option maxRecDepth 20000 in
theorem kw_992 : Cond.instanceMethod yX11_verdictOnCert ∈ wg := wg_in4 201 rfl rfl
set_option maxRecDepth 20000 in
theorem kw_993 : Cond.code yX11_verdictOnCert cX11_verdictOnCert 8 (some .int) ∈ wg := wg_in4 202 rfl rfl
set_option maxRecDepth 20000 in
theorem kw_994 : Cond.methodLink RX11 417 yX0_isToldByCert ∈ wg := wg_in4 203 rfl rfl
set_option maxRecDepth 20000 in
theorem kw_995 : Cond.instanceMethod yX0_isToldByCert ∈ wg := wg_in4 204 rfl rfl
set_option maxRecDepth 20000 in
theorem kw_996 : Cond.selects RX0 yX0_isToldByCert yX0_isToldByCert ∈ wg := wg_in4 205 rfl rfl
set_option maxRecDepth 20000 in
theorem kw_997 : Cond.code yX0_isToldByCert cX0_isToldByCert 4 (some .boolean) ∈ wg := wg_in4 206 rfl rfl
set_option maxRecDepth 20000 in
theorem kw_998 : Cond.methodLink RX0 163 yX7_hashOf ∈ wg := wg_in4 207 rfl rfl
set_option maxRecDepth 20000 in
theorem kw_999 : Cond.methodLink RX0 172 yX3_byteAt ∈ wg := wg_in4 208 rfl rfl
set_option maxRecDepth 20000 in
theorem kw_1000 : Cond.methodLink RX11 408 yX7_isRight ∈ wg := wg_in4 209 rfl rfl
set_option maxRecDepth 20000 in
theorem kw_1001 : Cond.static yX7_isRight ∈ wg := wg_in4 210 rfl rfl
set_option maxRecDepth 20000 in
theorem kw_1002 : Cond.code yX7_isRight cX7_isRight 12 (some .boolean) ∈ wg := wg_in4 211 rfl rfl
set_option maxRecDepth 20000 in
theorem kw_1003 : Cond.constantLong RX7 46 (4294967295) ∈ wg := wg_in4 212 rfl rfl
set_option maxRecDepth 20000 in
theorem kw_1004 : Cond.methodLink RX11 238 yX0_verdictOnSingle ∈ wg := wg_in4 213 rfl rfl
set_option maxRecDepth 20000 in
theorem kw_1005 : Cond.instanceMethod yX0_verdictOnSingle ∈ wg := wg_in4 214 rfl rfl
set_option maxRecDepth 20000 in
theorem kw_1006 : Cond.selects RX0 yX0_verdictOnSingle yX0_verdictOnSingle ∈ wg := wg_in4 215 rfl rfl
set_option maxRecDepth 20000 in
theorem kw_1007 : Cond.code yX0_verdictOnSingle cX0_verdictOnSingle 6 (some .int) ∈ wg := wg_in4 216 rfl rfl
set_option maxRecDepth 20000 in
theorem kw_1008 : Cond.methodLink RX11 242 yX5_begin ∈ wg := wg_in4 217 rfl rfl
set_option maxRecDepth 20000 in
theorem kw_1009 : Cond.instanceMethod yX5_begin ∈ wg := wg_in4 218 rfl rfl
set_option maxRecDepth 20000 in
theorem kw_1010 : Cond.selects RX5 yX5_begin yX5_begin ∈ wg := wg_in4 219 rfl rfl
set_option maxRecDepth 20000 in
theorem kw_1011 : Cond.code yX5_begin cX5_begin 3 none ∈ wg := wg_in4 220 rfl rfl
set_option maxRecDepth 20000 in
theorem kw_1012 : Cond.methodLink RX11 243 yX5_takeSingle ∈ wg := wg_in4 221 rfl rfl
set_option maxRecDepth 20000 in
theorem kw_1013 : Cond.instanceMethod yX5_takeSingle ∈ wg := wg_in4 222 rfl rfl
set_option maxRecDepth 20000 in
theorem kw_1014 : Cond.selects RX5 yX5_takeSingle yX5_takeSingle ∈ wg := wg_in4 223 rfl rfl
set_option maxRecDepth 20000 in
theorem kw_1015 : Cond.code yX5_takeSingle cX5_takeSingle 4 none ∈ wg := wg_in4 224 rfl rfl
set_option maxRecDepth 20000 in
theorem kw_1024 : Cond.constantLong RX11 268 (-2) ∈ wg := wg_in4 233 rfl rfl
set_option maxRecDepth 20000 in
theorem kw_1045 : Cond.methodLink RX11 289 yX4_read ∈ wg := wg_in5 14 rfl rfl
set_option maxRecDepth 20000 in
theorem kw_1046 : Cond.methodLink RX11 292 yX8_endText ∈ wg := wg_in5 15 rfl rfl
set_option maxRecDepth 20000 in
theorem kw_1051 : Cond.methodLink RX11 302 yX10_stamp ∈ wg := wg_in5 20 rfl rfl
set_option maxRecDepth 20000 in
theorem kw_1052 : Cond.methodLink RX11 306 yX10_character ∈ wg := wg_in5 21 rfl rfl
set_option maxRecDepth 20000 in
theorem mm_link_X8 : Cond.methodLink RX8 29 Lib.Math.min.name ∈ wg := wg_in3 238 rfl rfl
set_option maxRecDepth 20000 in
theorem mm_static : Cond.static Lib.Math.min.name ∈ wg := wg_in3 239 rfl rfl
set_option maxRecDepth 20000 in
theorem mm_init : Cond.initialized "java/lang/Math" ∈ wg := wg_in1 3 rfl rfl
set_option maxRecDepth 20000 in
theorem mm_code : Cond.code Lib.Math.min.name Lib.Math.min.code 2 (some .int) ∈ wg := wg_in4 0 (by decide +kernel) (by decide +kernel)
set_option maxRecDepth 20000 in
theorem iw_X0 : ∀ w ∈ wsX00, w ∈ wg := iw_of (fun k hk => match k, hk with
  | 0, _ => kw_347
  | 1, _ => kw_349
  | 2, _ => kw_351
  | 3, _ => kw_353
  | 4, _ => kw_355
  | 5, _ => kw_357
  | 6, _ => kw_359
  | 7, _ => kw_361
  | 8, _ => kw_363
  | 9, _ => kw_365
  | 10, _ => kw_367
  | 11, _ => kw_369
  | 12, _ => kw_371
  | 13, _ => kw_373
  | 14, _ => kw_375
  | 15, _ => kw_377
  | 16, _ => kw_379
  | 17, _ => kw_381
  | n + 18, h => absurd h (by omega))
set_option maxRecDepth 20000 in
theorem iw_X1 : ∀ w ∈ wsX10, w ∈ wg := iw_of (fun k hk => match k, hk with
  | 0, _ => kw_243
  | 1, _ => kw_245
  | 2, _ => kw_247
  | n + 3, h => absurd h (by omega))
set_option maxRecDepth 20000 in
theorem iw_X2 : ∀ w ∈ wsX20, w ∈ wg := iw_of (fun k hk => match k, hk with
  | 0, _ => kw_411
  | 1, _ => kw_413
  | 2, _ => kw_415
  | 3, _ => kw_417
  | 4, _ => kw_419
  | 5, _ => kw_421
  | 6, _ => kw_423
  | 7, _ => kw_425
  | 8, _ => kw_427
  | 9, _ => kw_429
  | n + 10, h => absurd h (by omega))
set_option maxRecDepth 20000 in
theorem iw_X3 : ∀ w ∈ wsX30, w ∈ wg := iw_of (fun k hk => match k, hk with
  | 0, _ => kw_111
  | 1, _ => kw_113
  | n + 2, h => absurd h (by omega))
set_option maxRecDepth 20000 in
theorem iw_X4 : ∀ w ∈ wsX40, w ∈ wg := iw_of (fun k hk => match k, hk with
  | 0, _ => kw_289
  | 1, _ => kw_291
  | 2, _ => kw_293
  | 3, _ => kw_295
  | 4, _ => kw_297
  | 5, _ => kw_299
  | 6, _ => kw_301
  | 7, _ => kw_303
  | 8, _ => kw_305
  | 9, _ => kw_307
  | 10, _ => kw_309
  | 11, _ => kw_311
  | n + 12, h => absurd h (by omega))
set_option maxRecDepth 20000 in
theorem iw_X5 : ∀ w ∈ wsX50, w ∈ wg := iw_of (fun k hk => match k, hk with
  | 0, _ => kw_143
  | 1, _ => kw_145
  | 2, _ => kw_147
  | 3, _ => kw_149
  | 4, _ => kw_151
  | 5, _ => kw_153
  | 6, _ => kw_155
  | n + 7, h => absurd h (by omega))
set_option maxRecDepth 20000 in
theorem iw_X6 : ∀ w ∈ wsX60, w ∈ wg := iw_of (fun k hk => match k, hk with
  | 0, _ => kw_177
  | 1, _ => kw_179
  | 2, _ => kw_181
  | 3, _ => kw_183
  | n + 4, h => absurd h (by omega))
set_option maxRecDepth 20000 in
theorem iw_X8 : ∀ w ∈ wsX80, w ∈ wg := iw_of (fun k hk => match k, hk with
  | 0, _ => kw_210
  | 1, _ => kw_212
  | 2, _ => kw_214
  | 3, _ => kw_216
  | 4, _ => kw_218
  | 5, _ => kw_220
  | 6, _ => kw_222
  | 7, _ => kw_224
  | 8, _ => kw_226
  | n + 9, h => absurd h (by omega))
set_option maxRecDepth 20000 in
theorem iw_X9 : ∀ w ∈ wsX90, w ∈ wg := iw_of (fun k hk => match k, hk with
  | 0, _ => kw_449
  | 1, _ => kw_451
  | 2, _ => kw_453
  | 3, _ => kw_455
  | 4, _ => kw_457
  | n + 5, h => absurd h (by omega))
set_option maxRecDepth 20000 in
theorem iw_X11 : ∀ w ∈ wsX110, w ∈ wg := iw_of (fun k hk => match k, hk with
  | 0, _ => kw_479
  | 1, _ => kw_481
  | 2, _ => kw_483
  | 3, _ => kw_485
  | 4, _ => kw_487
  | 5, _ => kw_489
  | 6, _ => kw_491
  | 7, _ => kw_493
  | 8, _ => kw_495
  | 9, _ => kw_497
  | 10, _ => kw_499
  | 11, _ => kw_501
  | 12, _ => kw_503
  | 13, _ => kw_505
  | 14, _ => kw_507
  | 15, _ => kw_509
  | 16, _ => kw_511
  | 17, _ => kw_513
  | 18, _ => kw_515
  | n + 19, h => absurd h (by omega))
theorem hd_X11_authorityAt : yX11_authorityAt.cls = RX11 ∧ yX11_authorityAt.cls ≠ "java/lang/invoke/MethodHandle" ∧ yX11_authorityAt.cls ≠ "java/lang/invoke/VarHandle" ∧ (parseMethodDescriptor yX11_authorityAt.desc).map (fun d => d.parameters.length) = some 1 := by decide +kernel
theorem hd_X11_signerAt : yX11_signerAt.cls = RX11 ∧ yX11_signerAt.cls ≠ "java/lang/invoke/MethodHandle" ∧ yX11_signerAt.cls ≠ "java/lang/invoke/VarHandle" ∧ (parseMethodDescriptor yX11_signerAt.desc).map (fun d => d.parameters.length) = some 1 := by decide +kernel
theorem hd_X8_fail : yX8_fail.cls = RX8 ∧ yX8_fail.cls ≠ "java/lang/invoke/MethodHandle" ∧ yX8_fail.cls ≠ "java/lang/invoke/VarHandle" ∧ (parseMethodDescriptor yX8_fail.desc).map (fun d => d.parameters.length) = some 0 := by decide +kernel
theorem hd_X8_hasMore : yX8_hasMore.cls = RX8 ∧ yX8_hasMore.cls ≠ "java/lang/invoke/MethodHandle" ∧ yX8_hasMore.cls ≠ "java/lang/invoke/VarHandle" ∧ (parseMethodDescriptor yX8_hasMore.desc).map (fun d => d.parameters.length) = some 0 := by decide +kernel
theorem hd_X8_endText : yX8_endText.cls = RX8 ∧ yX8_endText.cls ≠ "java/lang/invoke/MethodHandle" ∧ yX8_endText.cls ≠ "java/lang/invoke/VarHandle" ∧ (parseMethodDescriptor yX8_endText.desc).map (fun d => d.parameters.length) = some 0 := by decide +kernel
theorem hd_X8_close : yX8_close.cls = RX8 ∧ yX8_close.cls ≠ "java/lang/invoke/MethodHandle" ∧ yX8_close.cls ≠ "java/lang/invoke/VarHandle" ∧ (parseMethodDescriptor yX8_close.desc).map (fun d => d.parameters.length) = some 0 := by decide +kernel
theorem hd_X8_passLength : yX8_passLength.cls = RX8 ∧ yX8_passLength.cls ≠ "java/lang/invoke/MethodHandle" ∧ yX8_passLength.cls ≠ "java/lang/invoke/VarHandle" ∧ (parseMethodDescriptor yX8_passLength.desc).map (fun d => d.parameters.length) = some 0 := by decide +kernel
theorem hd_X8_sortAhead : yX8_sortAhead.cls = RX8 ∧ yX8_sortAhead.cls ≠ "java/lang/invoke/MethodHandle" ∧ yX8_sortAhead.cls ≠ "java/lang/invoke/VarHandle" ∧ (parseMethodDescriptor yX8_sortAhead.desc).map (fun d => d.parameters.length) = some 0 := by decide +kernel
theorem hd_X8_enter : yX8_enter.cls = RX8 ∧ yX8_enter.cls ≠ "java/lang/invoke/MethodHandle" ∧ yX8_enter.cls ≠ "java/lang/invoke/VarHandle" ∧ (parseMethodDescriptor yX8_enter.desc).map (fun d => d.parameters.length) = some 3 := by decide +kernel
theorem hd_X8_open : yX8_open.cls = RX8 ∧ yX8_open.cls ≠ "java/lang/invoke/MethodHandle" ∧ yX8_open.cls ≠ "java/lang/invoke/VarHandle" ∧ (parseMethodDescriptor yX8_open.desc).map (fun d => d.parameters.length) = some 1 := by decide +kernel
theorem hd_X8_readBytes : yX8_readBytes.cls = RX8 ∧ yX8_readBytes.cls ≠ "java/lang/invoke/MethodHandle" ∧ yX8_readBytes.cls ≠ "java/lang/invoke/VarHandle" ∧ (parseMethodDescriptor yX8_readBytes.desc).map (fun d => d.parameters.length) = some 2 := by decide +kernel
theorem hd_X0_readBodyRest : yX0_readBodyRest.cls = RX0 ∧ yX0_readBodyRest.cls ≠ "java/lang/invoke/MethodHandle" ∧ yX0_readBodyRest.cls ≠ "java/lang/invoke/VarHandle" ∧ (parseMethodDescriptor yX0_readBodyRest.desc).map (fun d => d.parameters.length) = some 1 := by decide +kernel
theorem hd_X8_number : yX8_number.cls = RX8 ∧ yX8_number.cls ≠ "java/lang/invoke/MethodHandle" ∧ yX8_number.cls ≠ "java/lang/invoke/VarHandle" ∧ (parseMethodDescriptor yX8_number.desc).map (fun d => d.parameters.length) = some 0 := by decide +kernel
theorem hd_X8_readHash : yX8_readHash.cls = RX8 ∧ yX8_readHash.cls ≠ "java/lang/invoke/MethodHandle" ∧ yX8_readHash.cls ≠ "java/lang/invoke/VarHandle" ∧ (parseMethodDescriptor yX8_readHash.desc).map (fun d => d.parameters.length) = some 0 := by decide +kernel
theorem hd_X0_readTeller : yX0_readTeller.cls = RX0 ∧ yX0_readTeller.cls ≠ "java/lang/invoke/MethodHandle" ∧ yX0_readTeller.cls ≠ "java/lang/invoke/VarHandle" ∧ (parseMethodDescriptor yX0_readTeller.desc).map (fun d => d.parameters.length) = some 1 := by decide +kernel
theorem hd_X10_seconds : yX10_seconds.cls ≠ "java/lang/invoke/MethodHandle" ∧ yX10_seconds.cls ≠ "java/lang/invoke/VarHandle" ∧ (parseMethodDescriptor yX10_seconds.desc).map (fun d => d.parameters.length) = some 1 := by decide +kernel
theorem hd_X8_readTime : yX8_readTime.cls = RX8 ∧ yX8_readTime.cls ≠ "java/lang/invoke/MethodHandle" ∧ yX8_readTime.cls ≠ "java/lang/invoke/VarHandle" ∧ (parseMethodDescriptor yX8_readTime.desc).map (fun d => d.parameters.length) = some 0 := by decide +kernel
theorem hd_X0_readBodyTop : yX0_readBodyTop.cls = RX0 ∧ yX0_readBodyTop.cls ≠ "java/lang/invoke/MethodHandle" ∧ yX0_readBodyTop.cls ≠ "java/lang/invoke/VarHandle" ∧ (parseMethodDescriptor yX0_readBodyTop.desc).map (fun d => d.parameters.length) = some 1 := by decide +kernel
theorem hd_X8_readInteger : yX8_readInteger.cls = RX8 ∧ yX8_readInteger.cls ≠ "java/lang/invoke/MethodHandle" ∧ yX8_readInteger.cls ≠ "java/lang/invoke/VarHandle" ∧ (parseMethodDescriptor yX8_readInteger.desc).map (fun d => d.parameters.length) = some 2 := by decide +kernel
theorem hd_X8_readSignature : yX8_readSignature.cls = RX8 ∧ yX8_readSignature.cls ≠ "java/lang/invoke/MethodHandle" ∧ yX8_readSignature.cls ≠ "java/lang/invoke/VarHandle" ∧ (parseMethodDescriptor yX8_readSignature.desc).map (fun d => d.parameters.length) = some 0 := by decide +kernel
theorem hd_X4_read : yX4_read.cls = RX4 ∧ yX4_read.cls ≠ "java/lang/invoke/MethodHandle" ∧ yX4_read.cls ≠ "java/lang/invoke/VarHandle" ∧ (parseMethodDescriptor yX4_read.desc).map (fun d => d.parameters.length) = some 1 := by decide +kernel
theorem hd_X0_readCert : yX0_readCert.cls = RX0 ∧ yX0_readCert.cls ≠ "java/lang/invoke/MethodHandle" ∧ yX0_readCert.cls ≠ "java/lang/invoke/VarHandle" ∧ (parseMethodDescriptor yX0_readCert.desc).map (fun d => d.parameters.length) = some 1 := by decide +kernel
theorem hd_X8_readCode : yX8_readCode.cls = RX8 ∧ yX8_readCode.cls ≠ "java/lang/invoke/MethodHandle" ∧ yX8_readCode.cls ≠ "java/lang/invoke/VarHandle" ∧ (parseMethodDescriptor yX8_readCode.desc).map (fun d => d.parameters.length) = some 0 := by decide +kernel
theorem hd_X0_readState : yX0_readState.cls = RX0 ∧ yX0_readState.cls ≠ "java/lang/invoke/MethodHandle" ∧ yX0_readState.cls ≠ "java/lang/invoke/VarHandle" ∧ (parseMethodDescriptor yX0_readState.desc).map (fun d => d.parameters.length) = some 2 := by decide +kernel
theorem hd_X6_add : yX6_add.cls = RX6 ∧ yX6_add.cls ≠ "java/lang/invoke/MethodHandle" ∧ yX6_add.cls ≠ "java/lang/invoke/VarHandle" ∧ (parseMethodDescriptor yX6_add.desc).map (fun d => d.parameters.length) = some 3 := by decide +kernel
theorem hd_X6_read : yX6_read.cls = RX6 ∧ yX6_read.cls ≠ "java/lang/invoke/MethodHandle" ∧ yX6_read.cls ≠ "java/lang/invoke/VarHandle" ∧ (parseMethodDescriptor yX6_read.desc).map (fun d => d.parameters.length) = some 1 := by decide +kernel
theorem hd_X0_readSingle : yX0_readSingle.cls = RX0 ∧ yX0_readSingle.cls ≠ "java/lang/invoke/MethodHandle" ∧ yX0_readSingle.cls ≠ "java/lang/invoke/VarHandle" ∧ (parseMethodDescriptor yX0_readSingle.desc).map (fun d => d.parameters.length) = some 2 := by decide +kernel
theorem hd_X0_read : yX0_read.cls = RX0 ∧ yX0_read.cls ≠ "java/lang/invoke/MethodHandle" ∧ yX0_read.cls ≠ "java/lang/invoke/VarHandle" ∧ (parseMethodDescriptor yX0_read.desc).map (fun d => d.parameters.length) = some 1 := by decide +kernel
theorem hd_X3_byteAt : yX3_byteAt.cls = RX3 ∧ yX3_byteAt.cls ≠ "java/lang/invoke/MethodHandle" ∧ yX3_byteAt.cls ≠ "java/lang/invoke/VarHandle" ∧ (parseMethodDescriptor yX3_byteAt.desc).map (fun d => d.parameters.length) = some 1 := by decide +kernel
theorem hd_X3_isSame : yX3_isSame.cls = RX3 ∧ yX3_isSame.cls ≠ "java/lang/invoke/MethodHandle" ∧ yX3_isSame.cls ≠ "java/lang/invoke/VarHandle" ∧ (parseMethodDescriptor yX3_isSame.desc).map (fun d => d.parameters.length) = some 3 := by decide +kernel
theorem hd_X0_isToldBy : yX0_isToldBy.cls = RX0 ∧ yX0_isToldBy.cls ≠ "java/lang/invoke/MethodHandle" ∧ yX0_isToldBy.cls ≠ "java/lang/invoke/VarHandle" ∧ (parseMethodDescriptor yX0_isToldBy.desc).map (fun d => d.parameters.length) = some 3 := by decide +kernel
theorem hd_X7_hashEnd : yX7_hashEnd.cls ≠ "java/lang/invoke/MethodHandle" ∧ yX7_hashEnd.cls ≠ "java/lang/invoke/VarHandle" ∧ (parseMethodDescriptor yX7_hashEnd.desc).map (fun d => d.parameters.length) = some 1 := by decide +kernel
theorem hd_X7_hashStep : yX7_hashStep.cls ≠ "java/lang/invoke/MethodHandle" ∧ yX7_hashStep.cls ≠ "java/lang/invoke/VarHandle" ∧ (parseMethodDescriptor yX7_hashStep.desc).map (fun d => d.parameters.length) = some 2 := by decide +kernel
theorem hd_X7_hashLong : yX7_hashLong.cls ≠ "java/lang/invoke/MethodHandle" ∧ yX7_hashLong.cls ≠ "java/lang/invoke/VarHandle" ∧ (parseMethodDescriptor yX7_hashLong.desc).map (fun d => d.parameters.length) = some 2 := by decide +kernel
theorem hd_X7_hashOf : yX7_hashOf.cls ≠ "java/lang/invoke/MethodHandle" ∧ yX7_hashOf.cls ≠ "java/lang/invoke/VarHandle" ∧ (parseMethodDescriptor yX7_hashOf.desc).map (fun d => d.parameters.length) = some 1 := by decide +kernel
theorem hd_X0_isToldByCert : yX0_isToldByCert.cls = RX0 ∧ yX0_isToldByCert.cls ≠ "java/lang/invoke/MethodHandle" ∧ yX0_isToldByCert.cls ≠ "java/lang/invoke/VarHandle" ∧ (parseMethodDescriptor yX0_isToldByCert.desc).map (fun d => d.parameters.length) = some 1 := by decide +kernel
theorem hd_X0_verdictOnSingle : yX0_verdictOnSingle.cls = RX0 ∧ yX0_verdictOnSingle.cls ≠ "java/lang/invoke/MethodHandle" ∧ yX0_verdictOnSingle.cls ≠ "java/lang/invoke/VarHandle" ∧ (parseMethodDescriptor yX0_verdictOnSingle.desc).map (fun d => d.parameters.length) = some 4 := by decide +kernel
theorem hd_X1_read : yX1_read.cls = RX1 ∧ yX1_read.cls ≠ "java/lang/invoke/MethodHandle" ∧ yX1_read.cls ≠ "java/lang/invoke/VarHandle" ∧ (parseMethodDescriptor yX1_read.desc).map (fun d => d.parameters.length) = some 1 := by decide +kernel
theorem hd_X3_add : yX3_add.cls = RX3 ∧ yX3_add.cls ≠ "java/lang/invoke/MethodHandle" ∧ yX3_add.cls ≠ "java/lang/invoke/VarHandle" ∧ (parseMethodDescriptor yX3_add.desc).map (fun d => d.parameters.length) = some 1 := by decide +kernel
theorem hd_X3_addAll : yX3_addAll.cls = RX3 ∧ yX3_addAll.cls ≠ "java/lang/invoke/MethodHandle" ∧ yX3_addAll.cls ≠ "java/lang/invoke/VarHandle" ∧ (parseMethodDescriptor yX3_addAll.desc).map (fun d => d.parameters.length) = some 3 := by decide +kernel
theorem hd_X3_clear : yX3_clear.cls = RX3 ∧ yX3_clear.cls ≠ "java/lang/invoke/MethodHandle" ∧ yX3_clear.cls ≠ "java/lang/invoke/VarHandle" ∧ (parseMethodDescriptor yX3_clear.desc).map (fun d => d.parameters.length) = some 0 := by decide +kernel
theorem hd_X3_copyOf : yX3_copyOf.cls = RX3 ∧ yX3_copyOf.cls ≠ "java/lang/invoke/MethodHandle" ∧ yX3_copyOf.cls ≠ "java/lang/invoke/VarHandle" ∧ (parseMethodDescriptor yX3_copyOf.desc).map (fun d => d.parameters.length) = some 1 := by decide +kernel
theorem hd_X3_digest : yX3_digest.cls = RX3 ∧ yX3_digest.cls ≠ "java/lang/invoke/MethodHandle" ∧ yX3_digest.cls ≠ "java/lang/invoke/VarHandle" ∧ (parseMethodDescriptor yX3_digest.desc).map (fun d => d.parameters.length) = some 2 := by decide +kernel
theorem hd_X7_power : yX7_power.cls ≠ "java/lang/invoke/MethodHandle" ∧ yX7_power.cls ≠ "java/lang/invoke/VarHandle" ∧ (parseMethodDescriptor yX7_power.desc).map (fun d => d.parameters.length) = some 2 := by decide +kernel
theorem hd_X7_publicKey : yX7_publicKey.cls ≠ "java/lang/invoke/MethodHandle" ∧ yX7_publicKey.cls ≠ "java/lang/invoke/VarHandle" ∧ (parseMethodDescriptor yX7_publicKey.desc).map (fun d => d.parameters.length) = some 1 := by decide +kernel
theorem hd_X2_begin : yX2_begin.cls = RX2 ∧ yX2_begin.cls ≠ "java/lang/invoke/MethodHandle" ∧ yX2_begin.cls ≠ "java/lang/invoke/VarHandle" ∧ (parseMethodDescriptor yX2_begin.desc).map (fun d => d.parameters.length) = some 2 := by decide +kernel
theorem hd_X2_placeOf : yX2_placeOf.cls = RX2 ∧ yX2_placeOf.cls ≠ "java/lang/invoke/MethodHandle" ∧ yX2_placeOf.cls ≠ "java/lang/invoke/VarHandle" ∧ (parseMethodDescriptor yX2_placeOf.desc).map (fun d => d.parameters.length) = some 1 := by decide +kernel
theorem hd_X2_hasRoomFor : yX2_hasRoomFor.cls = RX2 ∧ yX2_hasRoomFor.cls ≠ "java/lang/invoke/MethodHandle" ∧ yX2_hasRoomFor.cls ≠ "java/lang/invoke/VarHandle" ∧ (parseMethodDescriptor yX2_hasRoomFor.desc).map (fun d => d.parameters.length) = some 1 := by decide +kernel
theorem hd_X2_enlist : yX2_enlist.cls = RX2 ∧ yX2_enlist.cls ≠ "java/lang/invoke/MethodHandle" ∧ yX2_enlist.cls ≠ "java/lang/invoke/VarHandle" ∧ (parseMethodDescriptor yX2_enlist.desc).map (fun d => d.parameters.length) = some 1 := by decide +kernel
theorem hd_X2_isTakenBack : yX2_isTakenBack.cls = RX2 ∧ yX2_isTakenBack.cls ≠ "java/lang/invoke/MethodHandle" ∧ yX2_isTakenBack.cls ≠ "java/lang/invoke/VarHandle" ∧ (parseMethodDescriptor yX2_isTakenBack.desc).map (fun d => d.parameters.length) = some 2 := by decide +kernel
theorem hd_X3_addLowestFirst : yX3_addLowestFirst.cls = RX3 ∧ yX3_addLowestFirst.cls ≠ "java/lang/invoke/MethodHandle" ∧ yX3_addLowestFirst.cls ≠ "java/lang/invoke/VarHandle" ∧ (parseMethodDescriptor yX3_addLowestFirst.desc).map (fun d => d.parameters.length) = some 2 := by decide +kernel
theorem hd_X3_addHighestFirst : yX3_addHighestFirst.cls = RX3 ∧ yX3_addHighestFirst.cls ≠ "java/lang/invoke/MethodHandle" ∧ yX3_addHighestFirst.cls ≠ "java/lang/invoke/VarHandle" ∧ (parseMethodDescriptor yX3_addHighestFirst.desc).map (fun d => d.parameters.length) = some 2 := by decide +kernel
theorem hd_X3_open : yX3_open.cls = RX3 ∧ yX3_open.cls ≠ "java/lang/invoke/MethodHandle" ∧ yX3_open.cls ≠ "java/lang/invoke/VarHandle" ∧ (parseMethodDescriptor yX3_open.desc).map (fun d => d.parameters.length) = some 1 := by decide +kernel
theorem hd_X3_close : yX3_close.cls = RX3 ∧ yX3_close.cls ≠ "java/lang/invoke/MethodHandle" ∧ yX3_close.cls ≠ "java/lang/invoke/VarHandle" ∧ (parseMethodDescriptor yX3_close.desc).map (fun d => d.parameters.length) = some 1 := by decide +kernel
theorem hd_X3_addInteger : yX3_addInteger.cls = RX3 ∧ yX3_addInteger.cls ≠ "java/lang/invoke/MethodHandle" ∧ yX3_addInteger.cls ≠ "java/lang/invoke/VarHandle" ∧ (parseMethodDescriptor yX3_addInteger.desc).map (fun d => d.parameters.length) = some 1 := by decide +kernel
theorem hd_X3_addBytes : yX3_addBytes.cls = RX3 ∧ yX3_addBytes.cls ≠ "java/lang/invoke/MethodHandle" ∧ yX3_addBytes.cls ≠ "java/lang/invoke/VarHandle" ∧ (parseMethodDescriptor yX3_addBytes.desc).map (fun d => d.parameters.length) = some 3 := by decide +kernel
theorem hd_X3_addTaggedBytes : yX3_addTaggedBytes.cls = RX3 ∧ yX3_addTaggedBytes.cls ≠ "java/lang/invoke/MethodHandle" ∧ yX3_addTaggedBytes.cls ≠ "java/lang/invoke/VarHandle" ∧ (parseMethodDescriptor yX3_addTaggedBytes.desc).map (fun d => d.parameters.length) = some 4 := by decide +kernel
theorem hd_X3_addHash : yX3_addHash.cls = RX3 ∧ yX3_addHash.cls ≠ "java/lang/invoke/MethodHandle" ∧ yX3_addHash.cls ≠ "java/lang/invoke/VarHandle" ∧ (parseMethodDescriptor yX3_addHash.desc).map (fun d => d.parameters.length) = some 1 := by decide +kernel
theorem hd_X3_addCode : yX3_addCode.cls = RX3 ∧ yX3_addCode.cls ≠ "java/lang/invoke/MethodHandle" ∧ yX3_addCode.cls ≠ "java/lang/invoke/VarHandle" ∧ (parseMethodDescriptor yX3_addCode.desc).map (fun d => d.parameters.length) = some 1 := by decide +kernel
theorem hd_X10_character : yX10_character.cls ≠ "java/lang/invoke/MethodHandle" ∧ yX10_character.cls ≠ "java/lang/invoke/VarHandle" ∧ (parseMethodDescriptor yX10_character.desc).map (fun d => d.parameters.length) = some 2 := by decide +kernel
theorem hd_X10_stamp : yX10_stamp.cls ≠ "java/lang/invoke/MethodHandle" ∧ yX10_stamp.cls ≠ "java/lang/invoke/VarHandle" ∧ (parseMethodDescriptor yX10_stamp.desc).map (fun d => d.parameters.length) = some 1 := by decide +kernel
theorem hd_X3_addTime : yX3_addTime.cls = RX3 ∧ yX3_addTime.cls ≠ "java/lang/invoke/MethodHandle" ∧ yX3_addTime.cls ≠ "java/lang/invoke/VarHandle" ∧ (parseMethodDescriptor yX3_addTime.desc).map (fun d => d.parameters.length) = some 1 := by decide +kernel
theorem hd_X3_addSignature : yX3_addSignature.cls = RX3 ∧ yX3_addSignature.cls ≠ "java/lang/invoke/MethodHandle" ∧ yX3_addSignature.cls ≠ "java/lang/invoke/VarHandle" ∧ (parseMethodDescriptor yX3_addSignature.desc).map (fun d => d.parameters.length) = some 1 := by decide +kernel
theorem hd_X3_addId : yX3_addId.cls = RX3 ∧ yX3_addId.cls ≠ "java/lang/invoke/MethodHandle" ∧ yX3_addId.cls ≠ "java/lang/invoke/VarHandle" ∧ (parseMethodDescriptor yX3_addId.desc).map (fun d => d.parameters.length) = some 2 := by decide +kernel
theorem hd_X5_begin : yX5_begin.cls = RX5 ∧ yX5_begin.cls ≠ "java/lang/invoke/MethodHandle" ∧ yX5_begin.cls ≠ "java/lang/invoke/VarHandle" ∧ (parseMethodDescriptor yX5_begin.desc).map (fun d => d.parameters.length) = some 2 := by decide +kernel
theorem hd_X5_takeSingle : yX5_takeSingle.cls = RX5 ∧ yX5_takeSingle.cls ≠ "java/lang/invoke/MethodHandle" ∧ yX5_takeSingle.cls ≠ "java/lang/invoke/VarHandle" ∧ (parseMethodDescriptor yX5_takeSingle.desc).map (fun d => d.parameters.length) = some 3 := by decide +kernel
theorem hd_X5_copyOf : yX5_copyOf.cls = RX5 ∧ yX5_copyOf.cls ≠ "java/lang/invoke/MethodHandle" ∧ yX5_copyOf.cls ≠ "java/lang/invoke/VarHandle" ∧ (parseMethodDescriptor yX5_copyOf.desc).map (fun d => d.parameters.length) = some 1 := by decide +kernel
theorem hd_X6_isOf : yX6_isOf.cls = RX6 ∧ yX6_isOf.cls ≠ "java/lang/invoke/MethodHandle" ∧ yX6_isOf.cls ≠ "java/lang/invoke/VarHandle" ∧ (parseMethodDescriptor yX6_isOf.desc).map (fun d => d.parameters.length) = some 3 := by decide +kernel
theorem hd_X6_placeOf : yX6_placeOf.cls = RX6 ∧ yX6_placeOf.cls ≠ "java/lang/invoke/MethodHandle" ∧ yX6_placeOf.cls ≠ "java/lang/invoke/VarHandle" ∧ (parseMethodDescriptor yX6_placeOf.desc).map (fun d => d.parameters.length) = some 3 := by decide +kernel
theorem hd_X7_isSecret : yX7_isSecret.cls ≠ "java/lang/invoke/MethodHandle" ∧ yX7_isSecret.cls ≠ "java/lang/invoke/VarHandle" ∧ (parseMethodDescriptor yX7_isSecret.desc).map (fun d => d.parameters.length) = some 1 := by decide +kernel
theorem hd_X7_hashOfBoth : yX7_hashOfBoth.cls ≠ "java/lang/invoke/MethodHandle" ∧ yX7_hashOfBoth.cls ≠ "java/lang/invoke/VarHandle" ∧ (parseMethodDescriptor yX7_hashOfBoth.desc).map (fun d => d.parameters.length) = some 2 := by decide +kernel
theorem hd_X7_remainder : yX7_remainder.cls ≠ "java/lang/invoke/MethodHandle" ∧ yX7_remainder.cls ≠ "java/lang/invoke/VarHandle" ∧ (parseMethodDescriptor yX7_remainder.desc).map (fun d => d.parameters.length) = some 2 := by decide +kernel
theorem hd_X7_signature : yX7_signature.cls ≠ "java/lang/invoke/MethodHandle" ∧ yX7_signature.cls ≠ "java/lang/invoke/VarHandle" ∧ (parseMethodDescriptor yX7_signature.desc).map (fun d => d.parameters.length) = some 2 := by decide +kernel
theorem hd_X7_isRight : yX7_isRight.cls ≠ "java/lang/invoke/MethodHandle" ∧ yX7_isRight.cls ≠ "java/lang/invoke/VarHandle" ∧ (parseMethodDescriptor yX7_isRight.desc).map (fun d => d.parameters.length) = some 3 := by decide +kernel
theorem hd_X8_begin : yX8_begin.cls = RX8 ∧ yX8_begin.cls ≠ "java/lang/invoke/MethodHandle" ∧ yX8_begin.cls ≠ "java/lang/invoke/VarHandle" ∧ (parseMethodDescriptor yX8_begin.desc).map (fun d => d.parameters.length) = some 1 := by decide +kernel
theorem hd_X9_begin : yX9_begin.cls = RX9 ∧ yX9_begin.cls ≠ "java/lang/invoke/MethodHandle" ∧ yX9_begin.cls ≠ "java/lang/invoke/VarHandle" ∧ (parseMethodDescriptor yX9_begin.desc).map (fun d => d.parameters.length) = some 2 := by decide +kernel
theorem hd_X9_writeCert : yX9_writeCert.cls = RX9 ∧ yX9_writeCert.cls ≠ "java/lang/invoke/MethodHandle" ∧ yX9_writeCert.cls ≠ "java/lang/invoke/VarHandle" ∧ (parseMethodDescriptor yX9_writeCert.desc).map (fun d => d.parameters.length) = some 6 := by decide +kernel
theorem hd_X10_fits : yX10_fits.cls ≠ "java/lang/invoke/MethodHandle" ∧ yX10_fits.cls ≠ "java/lang/invoke/VarHandle" ∧ (parseMethodDescriptor yX10_fits.desc).map (fun d => d.parameters.length) = some 1 := by decide +kernel
theorem hd_X11_feed : yX11_feed.cls = RX11 ∧ yX11_feed.cls ≠ "java/lang/invoke/MethodHandle" ∧ yX11_feed.cls ≠ "java/lang/invoke/VarHandle" ∧ (parseMethodDescriptor yX11_feed.desc).map (fun d => d.parameters.length) = some 2 := by decide +kernel
theorem hd_X11_take : yX11_take.cls = RX11 ∧ yX11_take.cls ≠ "java/lang/invoke/MethodHandle" ∧ yX11_take.cls ≠ "java/lang/invoke/VarHandle" ∧ (parseMethodDescriptor yX11_take.desc).map (fun d => d.parameters.length) = some 0 := by decide +kernel
theorem hd_X11_spoil : yX11_spoil.cls = RX11 ∧ yX11_spoil.cls ≠ "java/lang/invoke/MethodHandle" ∧ yX11_spoil.cls ≠ "java/lang/invoke/VarHandle" ∧ (parseMethodDescriptor yX11_spoil.desc).map (fun d => d.parameters.length) = some 2 := by decide +kernel
theorem hd_X11_cut : yX11_cut.cls = RX11 ∧ yX11_cut.cls ≠ "java/lang/invoke/MethodHandle" ∧ yX11_cut.cls ≠ "java/lang/invoke/VarHandle" ∧ (parseMethodDescriptor yX11_cut.desc).map (fun d => d.parameters.length) = some 1 := by decide +kernel
theorem hd_X11_size : yX11_size.cls = RX11 ∧ yX11_size.cls ≠ "java/lang/invoke/MethodHandle" ∧ yX11_size.cls ≠ "java/lang/invoke/VarHandle" ∧ (parseMethodDescriptor yX11_size.desc).map (fun d => d.parameters.length) = some 0 := by decide +kernel
theorem hd_X11_out : yX11_out.cls = RX11 ∧ yX11_out.cls ≠ "java/lang/invoke/MethodHandle" ∧ yX11_out.cls ≠ "java/lang/invoke/VarHandle" ∧ (parseMethodDescriptor yX11_out.desc).map (fun d => d.parameters.length) = some 1 := by decide +kernel
theorem hd_X11_isName : yX11_isName.cls ≠ "java/lang/invoke/MethodHandle" ∧ yX11_isName.cls ≠ "java/lang/invoke/VarHandle" ∧ (parseMethodDescriptor yX11_isName.desc).map (fun d => d.parameters.length) = some 1 := by decide +kernel
theorem hd_X11_newAuthority : yX11_newAuthority.cls = RX11 ∧ yX11_newAuthority.cls ≠ "java/lang/invoke/MethodHandle" ∧ yX11_newAuthority.cls ≠ "java/lang/invoke/VarHandle" ∧ (parseMethodDescriptor yX11_newAuthority.desc).map (fun d => d.parameters.length) = some 1 := by decide +kernel
theorem hd_X11_authority : yX11_authority.cls = RX11 ∧ yX11_authority.cls ≠ "java/lang/invoke/MethodHandle" ∧ yX11_authority.cls ≠ "java/lang/invoke/VarHandle" ∧ (parseMethodDescriptor yX11_authority.desc).map (fun d => d.parameters.length) = some 1 := by decide +kernel
theorem hd_X11_issue : yX11_issue.cls = RX11 ∧ yX11_issue.cls ≠ "java/lang/invoke/MethodHandle" ∧ yX11_issue.cls ≠ "java/lang/invoke/VarHandle" ∧ (parseMethodDescriptor yX11_issue.desc).map (fun d => d.parameters.length) = some 2 := by decide +kernel
theorem hd_X11_takeBack : yX11_takeBack.cls = RX11 ∧ yX11_takeBack.cls ≠ "java/lang/invoke/MethodHandle" ∧ yX11_takeBack.cls ≠ "java/lang/invoke/VarHandle" ∧ (parseMethodDescriptor yX11_takeBack.desc).map (fun d => d.parameters.length) = some 4 := by decide +kernel
theorem hd_X11_lift : yX11_lift.cls = RX11 ∧ yX11_lift.cls ≠ "java/lang/invoke/MethodHandle" ∧ yX11_lift.cls ≠ "java/lang/invoke/VarHandle" ∧ (parseMethodDescriptor yX11_lift.desc).map (fun d => d.parameters.length) = some 2 := by decide +kernel
theorem hd_X11_signer : yX11_signer.cls = RX11 ∧ yX11_signer.cls ≠ "java/lang/invoke/MethodHandle" ∧ yX11_signer.cls ≠ "java/lang/invoke/VarHandle" ∧ (parseMethodDescriptor yX11_signer.desc).map (fun d => d.parameters.length) = some 6 := by decide +kernel
theorem hd_X11_cert : yX11_cert.cls = RX11 ∧ yX11_cert.cls ≠ "java/lang/invoke/MethodHandle" ∧ yX11_cert.cls ≠ "java/lang/invoke/VarHandle" ∧ (parseMethodDescriptor yX11_cert.desc).map (fun d => d.parameters.length) = some 1 := by decide +kernel
theorem hd_X11_want : yX11_want.cls = RX11 ∧ yX11_want.cls ≠ "java/lang/invoke/MethodHandle" ∧ yX11_want.cls ≠ "java/lang/invoke/VarHandle" ∧ (parseMethodDescriptor yX11_want.desc).map (fun d => d.parameters.length) = some 2 := by decide +kernel
theorem hd_X11_nonce : yX11_nonce.cls = RX11 ∧ yX11_nonce.cls ≠ "java/lang/invoke/MethodHandle" ∧ yX11_nonce.cls ≠ "java/lang/invoke/VarHandle" ∧ (parseMethodDescriptor yX11_nonce.desc).map (fun d => d.parameters.length) = some 2 := by decide +kernel
theorem hd_X11_ask : yX11_ask.cls = RX11 ∧ yX11_ask.cls ≠ "java/lang/invoke/MethodHandle" ∧ yX11_ask.cls ≠ "java/lang/invoke/VarHandle" ∧ (parseMethodDescriptor yX11_ask.desc).map (fun d => d.parameters.length) = some 0 := by decide +kernel
theorem hd_X11_statusFor : yX11_statusFor.cls = RX11 ∧ yX11_statusFor.cls ≠ "java/lang/invoke/MethodHandle" ∧ yX11_statusFor.cls ≠ "java/lang/invoke/VarHandle" ∧ (parseMethodDescriptor yX11_statusFor.desc).map (fun d => d.parameters.length) = some 1 := by decide +kernel
theorem hd_X11_writeState : yX11_writeState.cls = RX11 ∧ yX11_writeState.cls ≠ "java/lang/invoke/MethodHandle" ∧ yX11_writeState.cls ≠ "java/lang/invoke/VarHandle" ∧ (parseMethodDescriptor yX11_writeState.desc).map (fun d => d.parameters.length) = some 3 := by decide +kernel
theorem hd_X11_writeSingle : yX11_writeSingle.cls = RX11 ∧ yX11_writeSingle.cls ≠ "java/lang/invoke/MethodHandle" ∧ yX11_writeSingle.cls ≠ "java/lang/invoke/VarHandle" ∧ (parseMethodDescriptor yX11_writeSingle.desc).map (fun d => d.parameters.length) = some 4 := by decide +kernel
theorem hd_X11_writeTeller : yX11_writeTeller.cls = RX11 ∧ yX11_writeTeller.cls ≠ "java/lang/invoke/MethodHandle" ∧ yX11_writeTeller.cls ≠ "java/lang/invoke/VarHandle" ∧ (parseMethodDescriptor yX11_writeTeller.desc).map (fun d => d.parameters.length) = some 2 := by decide +kernel
theorem hd_X11_writeAnswer : yX11_writeAnswer.cls = RX11 ∧ yX11_writeAnswer.cls ≠ "java/lang/invoke/MethodHandle" ∧ yX11_writeAnswer.cls ≠ "java/lang/invoke/VarHandle" ∧ (parseMethodDescriptor yX11_writeAnswer.desc).map (fun d => d.parameters.length) = some 4 := by decide +kernel
theorem hd_X11_writeStatusAlone : yX11_writeStatusAlone.cls = RX11 ∧ yX11_writeStatusAlone.cls ≠ "java/lang/invoke/MethodHandle" ∧ yX11_writeStatusAlone.cls ≠ "java/lang/invoke/VarHandle" ∧ (parseMethodDescriptor yX11_writeStatusAlone.desc).map (fun d => d.parameters.length) = some 1 := by decide +kernel
theorem hd_X11_answer : yX11_answer.cls = RX11 ∧ yX11_answer.cls ≠ "java/lang/invoke/MethodHandle" ∧ yX11_answer.cls ≠ "java/lang/invoke/VarHandle" ∧ (parseMethodDescriptor yX11_answer.desc).map (fun d => d.parameters.length) = some 3 := by decide +kernel
theorem hd_X11_isSpan : yX11_isSpan.cls ≠ "java/lang/invoke/MethodHandle" ∧ yX11_isSpan.cls ≠ "java/lang/invoke/VarHandle" ∧ (parseMethodDescriptor yX11_isSpan.desc).map (fun d => d.parameters.length) = some 1 := by decide +kernel
theorem hd_X11_verdictOnCert : yX11_verdictOnCert.cls = RX11 ∧ yX11_verdictOnCert.cls ≠ "java/lang/invoke/MethodHandle" ∧ yX11_verdictOnCert.cls ≠ "java/lang/invoke/VarHandle" ∧ (parseMethodDescriptor yX11_verdictOnCert.desc).map (fun d => d.parameters.length) = some 2 := by decide +kernel
theorem hd_X11_verdictOnText : yX11_verdictOnText.cls = RX11 ∧ yX11_verdictOnText.cls ≠ "java/lang/invoke/MethodHandle" ∧ yX11_verdictOnText.cls ≠ "java/lang/invoke/VarHandle" ∧ (parseMethodDescriptor yX11_verdictOnText.desc).map (fun d => d.parameters.length) = some 2 := by decide +kernel
theorem hd_X11_look : yX11_look.cls = RX11 ∧ yX11_look.cls ≠ "java/lang/invoke/MethodHandle" ∧ yX11_look.cls ≠ "java/lang/invoke/VarHandle" ∧ (parseMethodDescriptor yX11_look.desc).map (fun d => d.parameters.length) = some 5 := by decide +kernel
theorem hd_X11_passes : yX11_passes.cls = RX11 ∧ yX11_passes.cls ≠ "java/lang/invoke/MethodHandle" ∧ yX11_passes.cls ≠ "java/lang/invoke/VarHandle" ∧ (parseMethodDescriptor yX11_passes.desc).map (fun d => d.parameters.length) = some 1 := by decide +kernel
theorem hd_X11_found : yX11_found.cls = RX11 ∧ yX11_found.cls ≠ "java/lang/invoke/MethodHandle" ∧ yX11_found.cls ≠ "java/lang/invoke/VarHandle" ∧ (parseMethodDescriptor yX11_found.desc).map (fun d => d.parameters.length) = some 1 := by decide +kernel
theorem hd_X11_check : yX11_check.cls = RX11 ∧ yX11_check.cls ≠ "java/lang/invoke/MethodHandle" ∧ yX11_check.cls ≠ "java/lang/invoke/VarHandle" ∧ (parseMethodDescriptor yX11_check.desc).map (fun d => d.parameters.length) = some 1 := by decide +kernel
theorem hd_X11_clock : yX11_clock.cls = RX11 ∧ yX11_clock.cls ≠ "java/lang/invoke/MethodHandle" ∧ yX11_clock.cls ≠ "java/lang/invoke/VarHandle" ∧ (parseMethodDescriptor yX11_clock.desc).map (fun d => d.parameters.length) = some 2 := by decide +kernel
theorem hd_X11_hash : yX11_hash.cls = RX11 ∧ yX11_hash.cls ≠ "java/lang/invoke/MethodHandle" ∧ yX11_hash.cls ≠ "java/lang/invoke/VarHandle" ∧ (parseMethodDescriptor yX11_hash.desc).map (fun d => d.parameters.length) = some 0 := by decide +kernel
theorem hd_X11_key : yX11_key.cls = RX11 ∧ yX11_key.cls ≠ "java/lang/invoke/MethodHandle" ∧ yX11_key.cls ≠ "java/lang/invoke/VarHandle" ∧ (parseMethodDescriptor yX11_key.desc).map (fun d => d.parameters.length) = some 2 := by decide +kernel
theorem hd_X11_told : yX11_told.cls = RX11 ∧ yX11_told.cls ≠ "java/lang/invoke/MethodHandle" ∧ yX11_told.cls ≠ "java/lang/invoke/VarHandle" ∧ (parseMethodDescriptor yX11_told.desc).map (fun d => d.parameters.length) = some 1 := by decide +kernel
