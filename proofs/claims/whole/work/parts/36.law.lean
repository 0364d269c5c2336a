set_option maxRecDepth 20000 in
theorem kw_518 : Cond.methodLink RL 15 yX11_feed ∈ wg := wg_in2 207 rfl rfl
set_option maxRecDepth 20000 in
theorem kw_519 : Cond.instanceMethod yX11_feed ∈ wg := wg_in2 208 rfl rfl
set_option maxRecDepth 20000 in
theorem kw_520 : Cond.selects RX11 yX11_feed yX11_feed ∈ wg := wg_in2 209 rfl rfl
set_option maxRecDepth 20000 in
theorem kw_521 : Cond.code yX11_feed cX11_feed 4 (some .int) ∈ wg := wg_in2 210 rfl rfl
set_option maxRecDepth 20000 in
theorem kw_530 : Cond.methodLink RL 20 yX11_take ∈ wg := wg_in2 219 rfl rfl
set_option maxRecDepth 20000 in
theorem kw_531 : Cond.instanceMethod yX11_take ∈ wg := wg_in2 220 rfl rfl
set_option maxRecDepth 20000 in
theorem kw_532 : Cond.selects RX11 yX11_take yX11_take ∈ wg := wg_in2 221 rfl rfl
set_option maxRecDepth 20000 in
theorem kw_533 : Cond.code yX11_take cX11_take 1 (some .int) ∈ wg := wg_in2 222 rfl rfl
set_option maxRecDepth 20000 in
theorem kw_550 : Cond.methodLink RL 25 yX11_spoil ∈ wg := wg_in2 239 rfl rfl
set_option maxRecDepth 20000 in
theorem kw_551 : Cond.instanceMethod yX11_spoil ∈ wg := wg_in3 0 rfl rfl
set_option maxRecDepth 20000 in
theorem kw_552 : Cond.selects RX11 yX11_spoil yX11_spoil ∈ wg := wg_in3 1 rfl rfl
set_option maxRecDepth 20000 in
theorem kw_553 : Cond.code yX11_spoil cX11_spoil 3 (some .int) ∈ wg := wg_in3 2 rfl rfl
set_option maxRecDepth 20000 in
theorem kw_555 : Cond.methodLink RL 30 yX11_cut ∈ wg := wg_in3 4 rfl rfl
set_option maxRecDepth 20000 in
theorem kw_556 : Cond.instanceMethod yX11_cut ∈ wg := wg_in3 5 rfl rfl
set_option maxRecDepth 20000 in
theorem kw_557 : Cond.selects RX11 yX11_cut yX11_cut ∈ wg := wg_in3 6 rfl rfl
set_option maxRecDepth 20000 in
theorem kw_558 : Cond.code yX11_cut cX11_cut 3 (some .int) ∈ wg := wg_in3 7 rfl rfl
set_option maxRecDepth 20000 in
theorem kw_559 : Cond.methodLink RL 35 yX11_size ∈ wg := wg_in3 8 rfl rfl
set_option maxRecDepth 20000 in
theorem kw_560 : Cond.instanceMethod yX11_size ∈ wg := wg_in3 9 rfl rfl
set_option maxRecDepth 20000 in
theorem kw_561 : Cond.selects RX11 yX11_size yX11_size ∈ wg := wg_in3 10 rfl rfl
set_option maxRecDepth 20000 in
theorem kw_562 : Cond.code yX11_size cX11_size 1 (some .int) ∈ wg := wg_in3 11 rfl rfl
set_option maxRecDepth 20000 in
theorem kw_563 : Cond.methodLink RL 39 yX11_out ∈ wg := wg_in3 12 rfl rfl
set_option maxRecDepth 20000 in
theorem kw_564 : Cond.instanceMethod yX11_out ∈ wg := wg_in3 13 rfl rfl
set_option maxRecDepth 20000 in
theorem kw_565 : Cond.selects RX11 yX11_out yX11_out ∈ wg := wg_in3 14 rfl rfl
set_option maxRecDepth 20000 in
theorem kw_566 : Cond.code yX11_out cX11_out 2 (some .int) ∈ wg := wg_in3 15 rfl rfl
set_option maxRecDepth 20000 in
theorem kw_567 : Cond.methodLink RL 43 yX11_authority ∈ wg := wg_in3 16 rfl rfl
set_option maxRecDepth 20000 in
theorem kw_568 : Cond.instanceMethod yX11_authority ∈ wg := wg_in3 17 rfl rfl
set_option maxRecDepth 20000 in
theorem kw_569 : Cond.selects RX11 yX11_authority yX11_authority ∈ wg := wg_in3 18 rfl rfl
set_option maxRecDepth 20000 in
theorem kw_570 : Cond.code yX11_authority cX11_authority 3 (some .int) ∈ wg := wg_in3 19 rfl rfl
set_option maxRecDepth 20000 in
theorem kw_622 : Cond.methodLink RL 47 yX11_issue ∈ wg := wg_in3 71 rfl rfl
set_option maxRecDepth 20000 in
theorem kw_623 : Cond.instanceMethod yX11_issue ∈ wg := wg_in3 72 rfl rfl
set_option maxRecDepth 20000 in
theorem kw_624 : Cond.selects RX11 yX11_issue yX11_issue ∈ wg := wg_in3 73 rfl rfl
set_option maxRecDepth 20000 in
theorem kw_625 : Cond.code yX11_issue cX11_issue 4 (some .int) ∈ wg := wg_in3 74 rfl rfl
set_option maxRecDepth 20000 in
theorem kw_640 : Cond.methodLink RL 51 yX11_takeBack ∈ wg := wg_in3 89 rfl rfl
set_option maxRecDepth 20000 in
theorem kw_641 : Cond.instanceMethod yX11_takeBack ∈ wg := wg_in3 90 rfl rfl
set_option maxRecDepth 20000 in
theorem kw_642 : Cond.selects RX11 yX11_takeBack yX11_takeBack ∈ wg := wg_in3 91 rfl rfl
set_option maxRecDepth 20000 in
theorem kw_643 : Cond.code yX11_takeBack cX11_takeBack 8 (some .int) ∈ wg := wg_in3 92 rfl rfl
set_option maxRecDepth 20000 in
theorem kw_649 : Cond.methodLink RL 56 yX11_lift ∈ wg := wg_in3 98 rfl rfl
set_option maxRecDepth 20000 in
theorem kw_650 : Cond.instanceMethod yX11_lift ∈ wg := wg_in3 99 rfl rfl
set_option maxRecDepth 20000 in
theorem kw_651 : Cond.selects RX11 yX11_lift yX11_lift ∈ wg := wg_in3 100 rfl rfl
set_option maxRecDepth 20000 in
theorem kw_652 : Cond.code yX11_lift cX11_lift 5 (some .boolean) ∈ wg := wg_in3 101 rfl rfl
set_option maxRecDepth 20000 in
theorem kw_653 : Cond.methodLink RL 61 yX11_signer ∈ wg := wg_in3 102 rfl rfl
set_option maxRecDepth 20000 in
theorem kw_654 : Cond.instanceMethod yX11_signer ∈ wg := wg_in3 103 rfl rfl
set_option maxRecDepth 20000 in
theorem kw_655 : Cond.selects RX11 yX11_signer yX11_signer ∈ wg := wg_in3 104 rfl rfl
set_option maxRecDepth 20000 in
theorem kw_656 : Cond.code yX11_signer cX11_signer 12 (some .int) ∈ wg := wg_in3 105 rfl rfl
set_option maxRecDepth 20000 in
theorem kw_736 : Cond.methodLink RL 66 yX11_cert ∈ wg := wg_in3 185 rfl rfl
set_option maxRecDepth 20000 in
theorem kw_737 : Cond.instanceMethod yX11_cert ∈ wg := wg_in3 186 rfl rfl
set_option maxRecDepth 20000 in
theorem kw_738 : Cond.selects RX11 yX11_cert yX11_cert ∈ wg := wg_in3 187 rfl rfl
set_option maxRecDepth 20000 in
theorem kw_739 : Cond.code yX11_cert cX11_cert 3 (some .int) ∈ wg := wg_in3 188 rfl rfl
set_option maxRecDepth 20000 in
theorem kw_744 : Cond.methodLink RL 70 yX11_want ∈ wg := wg_in3 193 rfl rfl
set_option maxRecDepth 20000 in
theorem kw_745 : Cond.instanceMethod yX11_want ∈ wg := wg_in3 194 rfl rfl
set_option maxRecDepth 20000 in
theorem kw_746 : Cond.selects RX11 yX11_want yX11_want ∈ wg := wg_in3 195 rfl rfl
set_option maxRecDepth 20000 in
theorem kw_747 : Cond.code yX11_want cX11_want 4 (some .int) ∈ wg := wg_in3 196 rfl rfl
set_option maxRecDepth 20000 in
theorem kw_752 : Cond.methodLink RL 74 yX11_nonce ∈ wg := wg_in3 201 rfl rfl
set_option maxRecDepth 20000 in
theorem kw_753 : Cond.instanceMethod yX11_nonce ∈ wg := wg_in3 202 rfl rfl
set_option maxRecDepth 20000 in
theorem kw_754 : Cond.selects RX11 yX11_nonce yX11_nonce ∈ wg := wg_in3 203 rfl rfl
set_option maxRecDepth 20000 in
theorem kw_755 : Cond.code yX11_nonce cX11_nonce 4 (some .int) ∈ wg := wg_in3 204 rfl rfl
set_option maxRecDepth 20000 in
theorem kw_756 : Cond.methodLink RL 78 yX11_ask ∈ wg := wg_in3 205 rfl rfl
set_option maxRecDepth 20000 in
theorem kw_757 : Cond.instanceMethod yX11_ask ∈ wg := wg_in3 206 rfl rfl
set_option maxRecDepth 20000 in
theorem kw_758 : Cond.selects RX11 yX11_ask yX11_ask ∈ wg := wg_in3 207 rfl rfl
set_option maxRecDepth 20000 in
theorem kw_759 : Cond.code yX11_ask cX11_ask 4 (some .int) ∈ wg := wg_in3 208 rfl rfl
set_option maxRecDepth 20000 in
theorem kw_776 : Cond.methodLink RL 82 yX11_answer ∈ wg := wg_in3 225 rfl rfl
set_option maxRecDepth 20000 in
theorem kw_777 : Cond.instanceMethod yX11_answer ∈ wg := wg_in3 226 rfl rfl
set_option maxRecDepth 20000 in
theorem kw_778 : Cond.selects RX11 yX11_answer yX11_answer ∈ wg := wg_in3 227 rfl rfl
set_option maxRecDepth 20000 in
theorem kw_779 : Cond.code yX11_answer cX11_answer 9 (some .int) ∈ wg := wg_in3 228 rfl rfl
set_option maxRecDepth 20000 in
theorem kw_892 : Cond.methodLink RL 87 yX11_look ∈ wg := wg_in4 101 rfl rfl
set_option maxRecDepth 20000 in
theorem kw_893 : Cond.instanceMethod yX11_look ∈ wg := wg_in4 102 rfl rfl
set_option maxRecDepth 20000 in
theorem kw_894 : Cond.selects RX11 yX11_look yX11_look ∈ wg := wg_in4 103 rfl rfl
set_option maxRecDepth 20000 in
theorem kw_895 : Cond.code yX11_look cX11_look 10 (some .int) ∈ wg := wg_in4 104 rfl rfl
set_option maxRecDepth 20000 in
theorem kw_1016 : Cond.methodLink RL 92 yX11_passes ∈ wg := wg_in4 225 rfl rfl
set_option maxRecDepth 20000 in
theorem kw_1017 : Cond.instanceMethod yX11_passes ∈ wg := wg_in4 226 rfl rfl
set_option maxRecDepth 20000 in
theorem kw_1018 : Cond.selects RX11 yX11_passes yX11_passes ∈ wg := wg_in4 227 rfl rfl
set_option maxRecDepth 20000 in
theorem kw_1019 : Cond.code yX11_passes cX11_passes 2 (some .boolean) ∈ wg := wg_in4 228 rfl rfl
set_option maxRecDepth 20000 in
theorem kw_1020 : Cond.methodLink RL 97 yX11_found ∈ wg := wg_in4 229 rfl rfl
set_option maxRecDepth 20000 in
theorem kw_1021 : Cond.instanceMethod yX11_found ∈ wg := wg_in4 230 rfl rfl
set_option maxRecDepth 20000 in
theorem kw_1022 : Cond.selects RX11 yX11_found yX11_found ∈ wg := wg_in4 231 rfl rfl
set_option maxRecDepth 20000 in
theorem kw_1023 : Cond.code yX11_found cX11_found 2 (some .long) ∈ wg := wg_in4 232 rfl rfl
set_option maxRecDepth 20000 in
theorem kw_1025 : Cond.methodLink RL 102 yX11_hold ∈ wg := wg_in4 234 rfl rfl
set_option maxRecDepth 20000 in
theorem kw_1026 : Cond.instanceMethod yX11_hold ∈ wg := wg_in4 235 rfl rfl
set_option maxRecDepth 20000 in
theorem kw_1027 : Cond.selects RX11 yX11_hold yX11_hold ∈ wg := wg_in4 236 rfl rfl
set_option maxRecDepth 20000 in
theorem kw_1028 : Cond.code yX11_hold cX11_hold 1 (some .int) ∈ wg := wg_in4 237 rfl rfl
set_option maxRecDepth 20000 in
theorem kw_1037 : Cond.methodLink RL 106 yX11_held ∈ wg := wg_in5 6 rfl rfl
set_option maxRecDepth 20000 in
theorem kw_1038 : Cond.instanceMethod yX11_held ∈ wg := wg_in5 7 rfl rfl
set_option maxRecDepth 20000 in
theorem kw_1039 : Cond.selects RX11 yX11_held yX11_held ∈ wg := wg_in5 8 rfl rfl
set_option maxRecDepth 20000 in
theorem kw_1040 : Cond.code yX11_held cX11_held 7 (some .int) ∈ wg := wg_in5 9 rfl rfl
set_option maxRecDepth 20000 in
theorem kw_1041 : Cond.methodLink RL 111 yX11_check ∈ wg := wg_in5 10 rfl rfl
set_option maxRecDepth 20000 in
theorem kw_1042 : Cond.instanceMethod yX11_check ∈ wg := wg_in5 11 rfl rfl
set_option maxRecDepth 20000 in
theorem kw_1043 : Cond.selects RX11 yX11_check yX11_check ∈ wg := wg_in5 12 rfl rfl
set_option maxRecDepth 20000 in
theorem kw_1044 : Cond.code yX11_check cX11_check 2 (some .int) ∈ wg := wg_in5 13 rfl rfl
set_option maxRecDepth 20000 in
theorem kw_1047 : Cond.methodLink RL 115 yX11_clock ∈ wg := wg_in5 16 rfl rfl
set_option maxRecDepth 20000 in
theorem kw_1048 : Cond.instanceMethod yX11_clock ∈ wg := wg_in5 17 rfl rfl
set_option maxRecDepth 20000 in
theorem kw_1049 : Cond.selects RX11 yX11_clock yX11_clock ∈ wg := wg_in5 18 rfl rfl
set_option maxRecDepth 20000 in
theorem kw_1050 : Cond.code yX11_clock cX11_clock 4 (some .int) ∈ wg := wg_in5 19 rfl rfl
set_option maxRecDepth 20000 in
theorem kw_1053 : Cond.methodLink RL 119 yX11_hash ∈ wg := wg_in5 22 rfl rfl
set_option maxRecDepth 20000 in
theorem kw_1054 : Cond.instanceMethod yX11_hash ∈ wg := wg_in5 23 rfl rfl
set_option maxRecDepth 20000 in
theorem kw_1055 : Cond.selects RX11 yX11_hash yX11_hash ∈ wg := wg_in5 24 rfl rfl
set_option maxRecDepth 20000 in
theorem kw_1056 : Cond.code yX11_hash cX11_hash 1 (some .long) ∈ wg := wg_in5 25 rfl rfl
set_option maxRecDepth 20000 in
theorem kw_1057 : Cond.methodLink RL 124 yX11_key ∈ wg := wg_in5 26 rfl rfl
set_option maxRecDepth 20000 in
theorem kw_1058 : Cond.instanceMethod yX11_key ∈ wg := wg_in5 27 rfl rfl
set_option maxRecDepth 20000 in
theorem kw_1059 : Cond.selects RX11 yX11_key yX11_key ∈ wg := wg_in5 28 rfl rfl
set_option maxRecDepth 20000 in
theorem kw_1060 : Cond.code yX11_key cX11_key 5 (some .int) ∈ wg := wg_in5 29 rfl rfl
set_option maxRecDepth 20000 in
theorem kw_1061 : Cond.methodLink RL 128 yX11_told ∈ wg := wg_in5 30 rfl rfl
set_option maxRecDepth 20000 in
theorem kw_1062 : Cond.instanceMethod yX11_told ∈ wg := wg_in5 31 rfl rfl
set_option maxRecDepth 20000 in
theorem kw_1063 : Cond.selects RX11 yX11_told yX11_told ∈ wg := wg_in5 32 rfl rfl
set_option maxRecDepth 20000 in
theorem kw_1064 : Cond.code yX11_told cX11_told 2 (some .int) ∈ wg := wg_in5 33 rfl rfl
set_option maxRecDepth 20000 in
theorem kw_1324 : Cond.methodLink RL 19 yX12_feed ∈ wg := wg_in6 53 rfl rfl
set_option maxRecDepth 20000 in
theorem kw_1325 : Cond.instanceMethod yX12_feed ∈ wg := wg_in6 54 rfl rfl
set_option maxRecDepth 20000 in
theorem kw_1326 : Cond.selects RX12 yX12_feed yX12_feed ∈ wg := wg_in6 55 rfl rfl
set_option maxRecDepth 20000 in
theorem kw_1327 : Cond.code yX12_feed cX12_feed 5 (some .int) ∈ wg := wg_in6 56 rfl rfl
set_option maxRecDepth 20000 in
theorem kw_1332 : Cond.methodLink RL 24 yX12_take ∈ wg := wg_in6 61 rfl rfl
set_option maxRecDepth 20000 in
theorem kw_1333 : Cond.instanceMethod yX12_take ∈ wg := wg_in6 62 rfl rfl
set_option maxRecDepth 20000 in
theorem kw_1334 : Cond.selects RX12 yX12_take yX12_take ∈ wg := wg_in6 63 rfl rfl
set_option maxRecDepth 20000 in
theorem kw_1335 : Cond.code yX12_take cX12_take 2 (some .int) ∈ wg := wg_in6 64 rfl rfl
set_option maxRecDepth 20000 in
theorem kw_1336 : Cond.methodLink RL 29 yX12_spoil ∈ wg := wg_in6 65 rfl rfl
set_option maxRecDepth 20000 in
theorem kw_1337 : Cond.instanceMethod yX12_spoil ∈ wg := wg_in6 66 rfl rfl
set_option maxRecDepth 20000 in
theorem kw_1338 : Cond.selects RX12 yX12_spoil yX12_spoil ∈ wg := wg_in6 67 rfl rfl
set_option maxRecDepth 20000 in
theorem kw_1339 : Cond.code yX12_spoil cX12_spoil 3 (some .int) ∈ wg := wg_in6 68 rfl rfl
set_option maxRecDepth 20000 in
theorem kw_1340 : Cond.methodLink RL 34 yX12_cut ∈ wg := wg_in6 69 rfl rfl
set_option maxRecDepth 20000 in
theorem kw_1341 : Cond.instanceMethod yX12_cut ∈ wg := wg_in6 70 rfl rfl
set_option maxRecDepth 20000 in
theorem kw_1342 : Cond.selects RX12 yX12_cut yX12_cut ∈ wg := wg_in6 71 rfl rfl
set_option maxRecDepth 20000 in
theorem kw_1343 : Cond.code yX12_cut cX12_cut 3 (some .int) ∈ wg := wg_in6 72 rfl rfl
set_option maxRecDepth 20000 in
theorem kw_1344 : Cond.methodLink RL 38 yX12_size ∈ wg := wg_in6 73 rfl rfl
set_option maxRecDepth 20000 in
theorem kw_1345 : Cond.instanceMethod yX12_size ∈ wg := wg_in6 74 rfl rfl
set_option maxRecDepth 20000 in
theorem kw_1346 : Cond.selects RX12 yX12_size yX12_size ∈ wg := wg_in6 75 rfl rfl
set_option maxRecDepth 20000 in
theorem kw_1347 : Cond.code yX12_size cX12_size 1 (some .int) ∈ wg := wg_in6 76 rfl rfl
set_option maxRecDepth 20000 in
theorem kw_1348 : Cond.methodLink RL 42 yX12_out ∈ wg := wg_in6 77 rfl rfl
set_option maxRecDepth 20000 in
theorem kw_1349 : Cond.instanceMethod yX12_out ∈ wg := wg_in6 78 rfl rfl
set_option maxRecDepth 20000 in
theorem kw_1350 : Cond.selects RX12 yX12_out yX12_out ∈ wg := wg_in6 79 rfl rfl
set_option maxRecDepth 20000 in
theorem kw_1351 : Cond.code yX12_out cX12_out 2 (some .int) ∈ wg := wg_in6 80 rfl rfl
set_option maxRecDepth 20000 in
theorem kw_1352 : Cond.methodLink RL 118 yX12_clock ∈ wg := wg_in6 81 rfl rfl
set_option maxRecDepth 20000 in
theorem kw_1353 : Cond.instanceMethod yX12_clock ∈ wg := wg_in6 82 rfl rfl
set_option maxRecDepth 20000 in
theorem kw_1354 : Cond.selects RX12 yX12_clock yX12_clock ∈ wg := wg_in6 83 rfl rfl
set_option maxRecDepth 20000 in
theorem kw_1355 : Cond.code yX12_clock cX12_clock 4 (some .int) ∈ wg := wg_in6 84 rfl rfl
set_option maxRecDepth 20000 in
theorem kw_1370 : Cond.methodLink RL 114 yX12_check ∈ wg := wg_in6 99 rfl rfl
set_option maxRecDepth 20000 in
theorem kw_1371 : Cond.instanceMethod yX12_check ∈ wg := wg_in6 100 rfl rfl
set_option maxRecDepth 20000 in
theorem kw_1372 : Cond.selects RX12 yX12_check yX12_check ∈ wg := wg_in6 101 rfl rfl
set_option maxRecDepth 20000 in
theorem kw_1373 : Cond.code yX12_check cX12_check 2 (some .int) ∈ wg := wg_in6 102 rfl rfl
set_option maxRecDepth 20000 in
theorem kw_1471 : Cond.methodLink RL 123 yX12_hash ∈ wg := wg_in6 200 rfl rfl
set_option maxRecDepth 20000 in
theorem kw_1472 : Cond.instanceMethod yX12_hash ∈ wg := wg_in6 201 rfl rfl
set_option maxRecDepth 20000 in
theorem kw_1473 : Cond.selects RX12 yX12_hash yX12_hash ∈ wg := wg_in6 202 rfl rfl
set_option maxRecDepth 20000 in
theorem kw_1474 : Cond.code yX12_hash cX12_hash 1 (some .long) ∈ wg := wg_in6 203 rfl rfl
set_option maxRecDepth 20000 in
theorem kw_1498 : Cond.methodLink RL 46 yX12_authority ∈ wg := wg_in6 227 rfl rfl
set_option maxRecDepth 20000 in
theorem kw_1499 : Cond.instanceMethod yX12_authority ∈ wg := wg_in6 228 rfl rfl
set_option maxRecDepth 20000 in
theorem kw_1500 : Cond.selects RX12 yX12_authority yX12_authority ∈ wg := wg_in6 229 rfl rfl
set_option maxRecDepth 20000 in
theorem kw_1501 : Cond.code yX12_authority cX12_authority 5 (some .int) ∈ wg := wg_in6 230 rfl rfl
set_option maxRecDepth 20000 in
theorem kw_1512 : Cond.methodLink RL 50 yX12_issue ∈ wg := wg_in7 1 rfl rfl
set_option maxRecDepth 20000 in
theorem kw_1513 : Cond.instanceMethod yX12_issue ∈ wg := wg_in7 2 rfl rfl
set_option maxRecDepth 20000 in
theorem kw_1514 : Cond.selects RX12 yX12_issue yX12_issue ∈ wg := wg_in7 3 rfl rfl
set_option maxRecDepth 20000 in
theorem kw_1515 : Cond.code yX12_issue cX12_issue 3 (some .int) ∈ wg := wg_in7 4 rfl rfl
set_option maxRecDepth 20000 in
theorem kw_1528 : Cond.methodLink RL 55 yX12_takeBack ∈ wg := wg_in7 17 rfl rfl
set_option maxRecDepth 20000 in
theorem kw_1529 : Cond.instanceMethod yX12_takeBack ∈ wg := wg_in7 18 rfl rfl
set_option maxRecDepth 20000 in
theorem kw_1530 : Cond.selects RX12 yX12_takeBack yX12_takeBack ∈ wg := wg_in7 19 rfl rfl
set_option maxRecDepth 20000 in
theorem kw_1531 : Cond.code yX12_takeBack cX12_takeBack 9 (some .int) ∈ wg := wg_in7 20 rfl rfl
set_option maxRecDepth 20000 in
theorem kw_1532 : Cond.methodLink RL 60 yX12_lift ∈ wg := wg_in7 21 rfl rfl
set_option maxRecDepth 20000 in
theorem kw_1533 : Cond.instanceMethod yX12_lift ∈ wg := wg_in7 22 rfl rfl
set_option maxRecDepth 20000 in
theorem kw_1534 : Cond.selects RX12 yX12_lift yX12_lift ∈ wg := wg_in7 23 rfl rfl
set_option maxRecDepth 20000 in
theorem kw_1535 : Cond.code yX12_lift cX12_lift 4 (some .boolean) ∈ wg := wg_in7 24 rfl rfl
set_option maxRecDepth 20000 in
theorem kw_1536 : Cond.methodLink RL 65 yX12_signer ∈ wg := wg_in7 25 rfl rfl
set_option maxRecDepth 20000 in
theorem kw_1537 : Cond.instanceMethod yX12_signer ∈ wg := wg_in7 26 rfl rfl
set_option maxRecDepth 20000 in
theorem kw_1538 : Cond.selects RX12 yX12_signer yX12_signer ∈ wg := wg_in7 27 rfl rfl
set_option maxRecDepth 20000 in
theorem kw_1539 : Cond.code yX12_signer cX12_signer 13 (some .int) ∈ wg := wg_in7 28 rfl rfl
set_option maxRecDepth 20000 in
theorem kw_1584 : Cond.methodLink RL 69 yX12_cert ∈ wg := wg_in7 73 rfl rfl
set_option maxRecDepth 20000 in
theorem kw_1585 : Cond.instanceMethod yX12_cert ∈ wg := wg_in7 74 rfl rfl
set_option maxRecDepth 20000 in
theorem kw_1586 : Cond.selects RX12 yX12_cert yX12_cert ∈ wg := wg_in7 75 rfl rfl
set_option maxRecDepth 20000 in
theorem kw_1587 : Cond.code yX12_cert cX12_cert 2 (some .int) ∈ wg := wg_in7 76 rfl rfl
set_option maxRecDepth 20000 in
theorem kw_1588 : Cond.methodLink RL 73 yX12_want ∈ wg := wg_in7 77 rfl rfl
set_option maxRecDepth 20000 in
theorem kw_1589 : Cond.instanceMethod yX12_want ∈ wg := wg_in7 78 rfl rfl
set_option maxRecDepth 20000 in
theorem kw_1590 : Cond.selects RX12 yX12_want yX12_want ∈ wg := wg_in7 79 rfl rfl
set_option maxRecDepth 20000 in
theorem kw_1591 : Cond.code yX12_want cX12_want 3 (some .int) ∈ wg := wg_in7 80 rfl rfl
set_option maxRecDepth 20000 in
theorem kw_1592 : Cond.methodLink RL 77 yX12_nonce ∈ wg := wg_in7 81 rfl rfl
set_option maxRecDepth 20000 in
theorem kw_1593 : Cond.instanceMethod yX12_nonce ∈ wg := wg_in7 82 rfl rfl
set_option maxRecDepth 20000 in
theorem kw_1594 : Cond.selects RX12 yX12_nonce yX12_nonce ∈ wg := wg_in7 83 rfl rfl
set_option maxRecDepth 20000 in
theorem kw_1595 : Cond.code yX12_nonce cX12_nonce 5 (some .int) ∈ wg := wg_in7 84 rfl rfl
set_option maxRecDepth 20000 in
theorem kw_1596 : Cond.methodLink RL 81 yX12_ask ∈ wg := wg_in7 85 rfl rfl
set_option maxRecDepth 20000 in
theorem kw_1597 : Cond.instanceMethod yX12_ask ∈ wg := wg_in7 86 rfl rfl
set_option maxRecDepth 20000 in
theorem kw_1598 : Cond.selects RX12 yX12_ask yX12_ask ∈ wg := wg_in7 87 rfl rfl
set_option maxRecDepth 20000 in
theorem kw_1599 : Cond.code yX12_ask cX12_ask 2 (some .int) ∈ wg := wg_in7 88 rfl rfl
set_option maxRecDepth 20000 in
theorem kw_1616 : Cond.methodLink RL 86 yX12_answer ∈ wg := wg_in7 105 rfl rfl
set_option maxRecDepth 20000 in
theorem kw_1617 : Cond.instanceMethod yX12_answer ∈ wg := wg_in7 106 rfl rfl
set_option maxRecDepth 20000 in
theorem kw_1618 : Cond.selects RX12 yX12_answer yX12_answer ∈ wg := wg_in7 107 rfl rfl
set_option maxRecDepth 20000 in
theorem kw_1619 : Cond.code yX12_answer cX12_answer 14 (some .int) ∈ wg := wg_in7 108 rfl rfl
set_option maxRecDepth 20000 in
theorem kw_1640 : Cond.methodLink RL 91 yX12_look ∈ wg := wg_in7 129 rfl rfl
set_option maxRecDepth 20000 in
theorem kw_1641 : Cond.instanceMethod yX12_look ∈ wg := wg_in7 130 rfl rfl
set_option maxRecDepth 20000 in
theorem kw_1642 : Cond.selects RX12 yX12_look yX12_look ∈ wg := wg_in7 131 rfl rfl
set_option maxRecDepth 20000 in
theorem kw_1643 : Cond.code yX12_look cX12_look 7 (some .int) ∈ wg := wg_in7 132 rfl rfl
set_option maxRecDepth 20000 in
theorem kw_1660 : Cond.methodLink RL 96 yX12_passes ∈ wg := wg_in7 149 rfl rfl
set_option maxRecDepth 20000 in
theorem kw_1661 : Cond.instanceMethod yX12_passes ∈ wg := wg_in7 150 rfl rfl
set_option maxRecDepth 20000 in
theorem kw_1662 : Cond.selects RX12 yX12_passes yX12_passes ∈ wg := wg_in7 151 rfl rfl
set_option maxRecDepth 20000 in
theorem kw_1663 : Cond.code yX12_passes cX12_passes 2 (some .boolean) ∈ wg := wg_in7 152 rfl rfl
set_option maxRecDepth 20000 in
theorem kw_1666 : Cond.methodLink RL 101 yX12_found ∈ wg := wg_in7 155 rfl rfl
set_option maxRecDepth 20000 in
theorem kw_1667 : Cond.instanceMethod yX12_found ∈ wg := wg_in7 156 rfl rfl
set_option maxRecDepth 20000 in
theorem kw_1668 : Cond.selects RX12 yX12_found yX12_found ∈ wg := wg_in7 157 rfl rfl
set_option maxRecDepth 20000 in
theorem kw_1669 : Cond.code yX12_found cX12_found 2 (some .long) ∈ wg := wg_in7 158 rfl rfl
set_option maxRecDepth 20000 in
theorem kw_1671 : Cond.methodLink RL 105 yX12_hold ∈ wg := wg_in7 160 rfl rfl
set_option maxRecDepth 20000 in
theorem kw_1672 : Cond.instanceMethod yX12_hold ∈ wg := wg_in7 161 rfl rfl
set_option maxRecDepth 20000 in
theorem kw_1673 : Cond.selects RX12 yX12_hold yX12_hold ∈ wg := wg_in7 162 rfl rfl
set_option maxRecDepth 20000 in
theorem kw_1674 : Cond.code yX12_hold cX12_hold 2 (some .int) ∈ wg := wg_in7 163 rfl rfl
set_option maxRecDepth 20000 in
theorem kw_1675 : Cond.methodLink RL 110 yX12_held ∈ wg := wg_in7 164 rfl rfl
set_option maxRecDepth 20000 in
theorem kw_1676 : Cond.instanceMethod yX12_held ∈ wg := wg_in7 165 rfl rfl
set_option maxRecDepth 20000 in
theorem kw_1677 : Cond.selects RX12 yX12_held yX12_held ∈ wg := wg_in7 166 rfl rfl
set_option maxRecDepth 20000 in
theorem kw_1678 : Cond.code yX12_held cX12_held 7 (some .int) ∈ wg := wg_in7 167 rfl rfl
set_option maxRecDepth 20000 in
theorem kw_1679 : Cond.methodLink RL 127 yX12_key ∈ wg := wg_in7 168 rfl rfl
set_option maxRecDepth 20000 in
theorem kw_1680 : Cond.instanceMethod yX12_key ∈ wg := wg_in7 169 rfl rfl
set_option maxRecDepth 20000 in
theorem kw_1681 : Cond.selects RX12 yX12_key yX12_key ∈ wg := wg_in7 170 rfl rfl
set_option maxRecDepth 20000 in
theorem kw_1682 : Cond.code yX12_key cX12_key 3 (some .int) ∈ wg := wg_in7 171 rfl rfl
set_option maxRecDepth 20000 in
theorem kw_1683 : Cond.methodLink RL 131 yX12_told ∈ wg := wg_in7 172 rfl rfl
set_option maxRecDepth 20000 in
theorem kw_1684 : Cond.instanceMethod yX12_told ∈ wg := wg_in7 173 rfl rfl
set_option maxRecDepth 20000 in
theorem kw_1685 : Cond.selects RX12 yX12_told yX12_told ∈ wg := wg_in7 174 rfl rfl
set_option maxRecDepth 20000 in
theorem kw_1686 : Cond.code yX12_told cX12_told 2 (some .int) ∈ wg := wg_in7 175 rfl rfl
set_option maxRecDepth 20000 in
theorem kw_1687 : Cond.constantLong RL 13 (4294967295) ∈ wg := wg_in7 176 rfl rfl
theorem hd_X11_hold : yX11_hold.cls = RX11 ∧ yX11_hold.cls ≠ "java/lang/invoke/MethodHandle" ∧ yX11_hold.cls ≠ "java/lang/invoke/VarHandle" ∧ (parseMethodDescriptor yX11_hold.desc).map (fun d => d.parameters.length) = some 0 := by decide +kernel
def op_feed (l : Launch) (D : va_G) (q : Nat → ClassId) (t x mm : Nat) (Inv : va_W → va_W → Prop) : Prop := ∀ (wx wm : va_W), Inv wx wm → ∀ (z0 : Int64) (z1 : Int32), ∃ (r : Int32) (wx1 wm1 : va_W), cu l yX11_feed (vs yX11_feed cX11_feed 4 (some .int)) ({ frames := 2, cells := 0, slots := 0, locals := 45 } : Room) D q t [.ref x, .long z0, .int z1] wx (qI D q r wx1) ∧ ct l yX12_feed (vs yX12_feed cX12_feed 5 (some .int)) ({ frames := 1, cells := 0, slots := 0, locals := 25 } : Room) D q [.ref mm, .long z0, .int z1] wm (qI D q r wm1) ∧ Inv wx1 wm1
def op_take (l : Launch) (D : va_G) (q : Nat → ClassId) (t x mm : Nat) (Inv : va_W → va_W → Prop) : Prop := ∀ (wx wm : va_W), Inv wx wm → ∃ (r : Int32) (wx1 wm1 : va_W), cu l yX11_take (vs yX11_take cX11_take 1 (some .int)) ({ frames := 3, cells := 0, slots := 0, locals := 66 } : Room) D q t [.ref x] wx (qI D q r wx1) ∧ ct l yX12_take (vs yX12_take cX12_take 2 (some .int)) ({ frames := 0, cells := 0, slots := 0, locals := 0 } : Room) D q [.ref mm] wm (qI D q r wm1) ∧ Inv wx1 wm1
def op_spoil (l : Launch) (D : va_G) (q : Nat → ClassId) (t x mm : Nat) (Inv : va_W → va_W → Prop) : Prop := ∀ (wx wm : va_W), Inv wx wm → ∀ (z0 : Int32) (z1 : Int32), ∃ (r : Int32) (wx1 wm1 : va_W), cu l yX11_spoil (vs yX11_spoil cX11_spoil 3 (some .int)) ({ frames := 1, cells := 0, slots := 0, locals := 21 } : Room) D q t [.ref x, .int z0, .int z1] wx (qI D q r wx1) ∧ ct l yX12_spoil (vs yX12_spoil cX12_spoil 3 (some .int)) ({ frames := 1, cells := 0, slots := 0, locals := 25 } : Room) D q [.ref mm, .int z0, .int z1] wm (qI D q r wm1) ∧ Inv wx1 wm1
def op_cut (l : Launch) (D : va_G) (q : Nat → ClassId) (t x mm : Nat) (Inv : va_W → va_W → Prop) : Prop := ∀ (wx wm : va_W), Inv wx wm → ∀ (z0 : Int32), ∃ (r : Int32) (wx1 wm1 : va_W), cu l yX11_cut (vs yX11_cut cX11_cut 3 (some .int)) ({ frames := 0, cells := 0, slots := 0, locals := 0 } : Room) D q t [.ref x, .int z0] wx (qI D q r wx1) ∧ ct l yX12_cut (vs yX12_cut cX12_cut 3 (some .int)) ({ frames := 1, cells := 0, slots := 0, locals := 25 } : Room) D q [.ref mm, .int z0] wm (qI D q r wm1) ∧ Inv wx1 wm1
def op_size (l : Launch) (D : va_G) (q : Nat → ClassId) (t x mm : Nat) (Inv : va_W → va_W → Prop) : Prop := ∀ (wx wm : va_W), Inv wx wm → ∃ (r : Int32) (wx1 wm1 : va_W), cu l yX11_size (vs yX11_size cX11_size 1 (some .int)) ({ frames := 0, cells := 0, slots := 0, locals := 0 } : Room) D q t [.ref x] wx (qI D q r wx1) ∧ ct l yX12_size (vs yX12_size cX12_size 1 (some .int)) ({ frames := 0, cells := 0, slots := 0, locals := 0 } : Room) D q [.ref mm] wm (qI D q r wm1) ∧ Inv wx1 wm1
def op_out (l : Launch) (D : va_G) (q : Nat → ClassId) (t x mm : Nat) (Inv : va_W → va_W → Prop) : Prop := ∀ (wx wm : va_W), Inv wx wm → ∀ (z0 : Int32), ∃ (r : Int32) (wx1 wm1 : va_W), cu l yX11_out (vs yX11_out cX11_out 2 (some .int)) ({ frames := 1, cells := 0, slots := 0, locals := 21 } : Room) D q t [.ref x, .int z0] wx (qI D q r wx1) ∧ ct l yX12_out (vs yX12_out cX12_out 2 (some .int)) ({ frames := 1, cells := 0, slots := 0, locals := 25 } : Room) D q [.ref mm, .int z0] wm (qI D q r wm1) ∧ Inv wx1 wm1
def op_authority (l : Launch) (D : va_G) (q : Nat → ClassId) (t x mm : Nat) (Inv : va_W → va_W → Prop) : Prop := ∀ (wx wm : va_W), Inv wx wm → ∀ (z0 : Int32), ∃ (r : Int32) (wx1 wm1 : va_W), cu l yX11_authority (vs yX11_authority cX11_authority 3 (some .int)) ({ frames := 5, cells := 0, slots := 0, locals := 115 } : Room) D q t [.ref x, .int z0] wx (qI D q r wx1) ∧ ct l yX12_authority (vs yX12_authority cX12_authority 5 (some .int)) ({ frames := 1, cells := 0, slots := 0, locals := 27 } : Room) D q [.ref mm, .int z0] wm (qI D q r wm1) ∧ Inv wx1 wm1
def op_issue (l : Launch) (D : va_G) (q : Nat → ClassId) (t x mm : Nat) (Inv : va_W → va_W → Prop) : Prop := ∀ (wx wm : va_W), Inv wx wm → ∀ (z0 : Int32) (z1 : Int32), ∃ (r : Int32) (wx1 wm1 : va_W), cu l yX11_issue (vs yX11_issue cX11_issue 4 (some .int)) ({ frames := 2, cells := 0, slots := 0, locals := 43 } : Room) D q t [.ref x, .int z0, .int z1] wx (qI D q r wx1) ∧ ct l yX12_issue (vs yX12_issue cX12_issue 3 (some .int)) ({ frames := 2, cells := 0, slots := 0, locals := 46 } : Room) D q [.ref mm, .int z0, .int z1] wm (qI D q r wm1) ∧ Inv wx1 wm1
def op_takeBack (l : Launch) (D : va_G) (q : Nat → ClassId) (t x mm : Nat) (Inv : va_W → va_W → Prop) : Prop := ∀ (wx wm : va_W), Inv wx wm → ∀ (z0 : Int32) (z1 : Int32) (z2 : Int64) (z3 : Int32), ∃ (r : Int32) (wx1 wm1 : va_W), cu l yX11_takeBack (vs yX11_takeBack cX11_takeBack 8 (some .int)) ({ frames := 1, cells := 0, slots := 0, locals := 22 } : Room) D q t [.ref x, .int z0, .int z1, .long z2, .int z3] wx (qI D q r wx1) ∧ ct l yX12_takeBack (vs yX12_takeBack cX12_takeBack 9 (some .int)) ({ frames := 2, cells := 0, slots := 0, locals := 46 } : Room) D q [.ref mm, .int z0, .int z1, .long z2, .int z3] wm (qI D q r wm1) ∧ Inv wx1 wm1
def op_lift (l : Launch) (D : va_G) (q : Nat → ClassId) (t x mm : Nat) (Inv : va_W → va_W → Prop) : Prop := ∀ (wx wm : va_W), Inv wx wm → ∀ (z0 : Int32) (z1 : Int32), ∃ (r : Int32) (wx1 wm1 : va_W), cu l yX11_lift (vs yX11_lift cX11_lift 5 (some .boolean)) ({ frames := 1, cells := 0, slots := 0, locals := 22 } : Room) D q t [.ref x, .int z0, .int z1] wx (qI D q r wx1) ∧ ct l yX12_lift (vs yX12_lift cX12_lift 4 (some .boolean)) ({ frames := 2, cells := 0, slots := 0, locals := 46 } : Room) D q [.ref mm, .int z0, .int z1] wm (qI D q r wm1) ∧ Inv wx1 wm1
def op_signer (l : Launch) (D : va_G) (q : Nat → ClassId) (t x mm : Nat) (Inv : va_W → va_W → Prop) : Prop := ∀ (wx wm : va_W), Inv wx wm → ∀ (z0 : Int32) (z1 : Int32) (z2 : Int32) (z3 : Int64) (z4 : Int64) (z5 : Int32), ∃ (r : Int32) (wx1 wm1 : va_W), cu l yX11_signer (vs yX11_signer cX11_signer 12 (some .int)) ({ frames := 5, cells := 0, slots := 0, locals := 131 } : Room) D q t [.ref x, .int z0, .int z1, .int z2, .long z3, .long z4, .int z5] wx (qI D q r wx1) ∧ ct l yX12_signer (vs yX12_signer cX12_signer 13 (some .int)) ({ frames := 5, cells := 0, slots := 0, locals := 123 } : Room) D q [.ref mm, .int z0, .int z1, .int z2, .long z3, .long z4, .int z5] wm (qI D q r wm1) ∧ Inv wx1 wm1
def op_cert (l : Launch) (D : va_G) (q : Nat → ClassId) (t x mm : Nat) (Inv : va_W → va_W → Prop) : Prop := ∀ (wx wm : va_W), Inv wx wm → ∀ (z0 : Int32), ∃ (r : Int32) (wx1 wm1 : va_W), cu l yX11_cert (vs yX11_cert cX11_cert 3 (some .int)) ({ frames := 3, cells := 0, slots := 0, locals := 66 } : Room) D q t [.ref x, .int z0] wx (qI D q r wx1) ∧ ct l yX12_cert (vs yX12_cert cX12_cert 2 (some .int)) ({ frames := 2, cells := 0, slots := 0, locals := 45 } : Room) D q [.ref mm, .int z0] wm (qI D q r wm1) ∧ Inv wx1 wm1
def op_want (l : Launch) (D : va_G) (q : Nat → ClassId) (t x mm : Nat) (Inv : va_W → va_W → Prop) : Prop := ∀ (wx wm : va_W), Inv wx wm → ∀ (z0 : Int32) (z1 : Int32), ∃ (r : Int32) (wx1 wm1 : va_W), cu l yX11_want (vs yX11_want cX11_want 4 (some .int)) ({ frames := 1, cells := 0, slots := 0, locals := 25 } : Room) D q t [.ref x, .int z0, .int z1] wx (qI D q r wx1) ∧ ct l yX12_want (vs yX12_want cX12_want 3 (some .int)) ({ frames := 2, cells := 0, slots := 0, locals := 46 } : Room) D q [.ref mm, .int z0, .int z1] wm (qI D q r wm1) ∧ Inv wx1 wm1
def op_nonce (l : Launch) (D : va_G) (q : Nat → ClassId) (t x mm : Nat) (Inv : va_W → va_W → Prop) : Prop := ∀ (wx wm : va_W), Inv wx wm → ∀ (z0 : Int64) (z1 : Int32), ∃ (r : Int32) (wx1 wm1 : va_W), cu l yX11_nonce (vs yX11_nonce cX11_nonce 4 (some .int)) ({ frames := 2, cells := 0, slots := 0, locals := 45 } : Room) D q t [.ref x, .long z0, .int z1] wx (qI D q r wx1) ∧ ct l yX12_nonce (vs yX12_nonce cX12_nonce 5 (some .int)) ({ frames := 1, cells := 0, slots := 0, locals := 25 } : Room) D q [.ref mm, .long z0, .int z1] wm (qI D q r wm1) ∧ Inv wx1 wm1
def op_ask (l : Launch) (D : va_G) (q : Nat → ClassId) (t x mm : Nat) (Inv : va_W → va_W → Prop) : Prop := ∀ (wx wm : va_W), Inv wx wm → ∃ (r : Int32) (wx1 wm1 : va_W), cu l yX11_ask (vs yX11_ask cX11_ask 4 (some .int)) ({ frames := 4, cells := 0, slots := 0, locals := 94 } : Room) D q t [.ref x] wx (qI D q r wx1) ∧ ct l yX12_ask (vs yX12_ask cX12_ask 2 (some .int)) ({ frames := 4, cells := 0, slots := 0, locals := 92 } : Room) D q [.ref mm] wm (qI D q r wm1) ∧ Inv wx1 wm1
def op_answer (l : Launch) (D : va_G) (q : Nat → ClassId) (t x mm : Nat) (Inv : va_W → va_W → Prop) : Prop := ∀ (wx wm : va_W), Inv wx wm → ∀ (z0 : Int32) (z1 : Int64) (z2 : Int64), ∃ (r : Int32) (wx1 wm1 : va_W), cu l yX11_answer (vs yX11_answer cX11_answer 9 (some .int)) ({ frames := 6, cells := 0, slots := 0, locals := 157 } : Room) D q t [.ref x, .int z0, .long z1, .long z2] wx (qI D q r wx1) ∧ ct l yX12_answer (vs yX12_answer cX12_answer 14 (some .int)) ({ frames := 9, cells := 0, slots := 0, locals := 207 } : Room) D q [.ref mm, .int z0, .long z1, .long z2] wm (qI D q r wm1) ∧ Inv wx1 wm1
def op_look (l : Launch) (D : va_G) (q : Nat → ClassId) (t x mm : Nat) (Inv : va_W → va_W → Prop) : Prop := ∀ (wx wm : va_W), Inv wx wm → ∀ (z0 : Int32) (z1 : Int32) (z2 : Int64) (z3 : Int32) (z4 : Int32), ∃ (r : Int32) (wx1 wm1 : va_W), cu l yX11_look (vs yX11_look cX11_look 10 (some .int)) ({ frames := 6, cells := 0, slots := 0, locals := 161 } : Room) D q t [.ref x, .int z0, .int z1, .long z2, .int z3, .int z4] wx (qI D q r wx1) ∧ ct l yX12_look (vs yX12_look cX12_look 7 (some .int)) ({ frames := 10, cells := 0, slots := 0, locals := 238 } : Room) D q [.ref mm, .int z0, .int z1, .long z2, .int z3, .int z4] wm (qI D q r wm1) ∧ Inv wx1 wm1
def op_passes (l : Launch) (D : va_G) (q : Nat → ClassId) (t x mm : Nat) (Inv : va_W → va_W → Prop) : Prop := ∀ (wx wm : va_W), Inv wx wm → ∀ (z0 : Int32), ∃ (r : Int32) (wx1 wm1 : va_W), cu l yX11_passes (vs yX11_passes cX11_passes 2 (some .boolean)) ({ frames := 0, cells := 0, slots := 0, locals := 0 } : Room) D q t [.ref x, .int z0] wx (qI D q r wx1) ∧ ct l yX12_passes (vs yX12_passes cX12_passes 2 (some .boolean)) ({ frames := 1, cells := 0, slots := 0, locals := 25 } : Room) D q [.ref mm, .int z0] wm (qI D q r wm1) ∧ Inv wx1 wm1
def op_found (l : Launch) (D : va_G) (q : Nat → ClassId) (t x mm : Nat) (Inv : va_W → va_W → Prop) : Prop := ∀ (wx wm : va_W), Inv wx wm → ∀ (z0 : Int32), ∃ (r : Int64) (wx1 wm1 : va_W), cu l yX11_found (vs yX11_found cX11_found 2 (some .long)) ({ frames := 0, cells := 0, slots := 0, locals := 0 } : Room) D q t [.ref x, .int z0] wx (qL D q r wx1) ∧ ct l yX12_found (vs yX12_found cX12_found 2 (some .long)) ({ frames := 1, cells := 0, slots := 0, locals := 25 } : Room) D q [.ref mm, .int z0] wm (qL D q r wm1) ∧ Inv wx1 wm1
def op_hold (l : Launch) (D : va_G) (q : Nat → ClassId) (t x mm : Nat) (Inv : va_W → va_W → Prop) : Prop := ∀ (wx wm : va_W), Inv wx wm → ∃ (r : Int32) (wx1 wm1 : va_W), cu l yX11_hold (vs yX11_hold cX11_hold 1 (some .int)) ({ frames := 1, cells := 0, slots := 0, locals := 22 } : Room) D q t [.ref x] wx (qI D q r wx1) ∧ ct l yX12_hold (vs yX12_hold cX12_hold 2 (some .int)) ({ frames := 0, cells := 0, slots := 0, locals := 0 } : Room) D q [.ref mm] wm (qI D q r wm1) ∧ Inv wx1 wm1
def op_held (l : Launch) (D : va_G) (q : Nat → ClassId) (t x mm : Nat) (Inv : va_W → va_W → Prop) : Prop := ∀ (wx wm : va_W), Inv wx wm → ∀ (z0 : Int32) (z1 : Int32) (z2 : Int64), ∃ (r : Int32) (wx1 wm1 : va_W), cu l yX11_held (vs yX11_held cX11_held 7 (some .int)) ({ frames := 1, cells := 0, slots := 0, locals := 32 } : Room) D q t [.ref x, .int z0, .int z1, .long z2] wx (qI D q r wx1) ∧ ct l yX12_held (vs yX12_held cX12_held 7 (some .int)) ({ frames := 2, cells := 0, slots := 0, locals := 46 } : Room) D q [.ref mm, .int z0, .int z1, .long z2] wm (qI D q r wm1) ∧ Inv wx1 wm1
def op_check (l : Launch) (D : va_G) (q : Nat → ClassId) (t x mm : Nat) (Inv : va_W → va_W → Prop) : Prop := ∀ (wx wm : va_W), Inv wx wm → ∀ (z0 : Int32), ∃ (r : Int32) (wx1 wm1 : va_W), cu l yX11_check (vs yX11_check cX11_check 2 (some .int)) ({ frames := 6, cells := 0, slots := 0, locals := 145 } : Room) D q t [.ref x, .int z0] wx (qI D q r wx1) ∧ ct l yX12_check (vs yX12_check cX12_check 2 (some .int)) ({ frames := 9, cells := 0, slots := 0, locals := 207 } : Room) D q [.ref mm, .int z0] wm (qI D q r wm1) ∧ Inv wx1 wm1
def op_clock (l : Launch) (D : va_G) (q : Nat → ClassId) (t x mm : Nat) (Inv : va_W → va_W → Prop) : Prop := ∀ (wx wm : va_W), Inv wx wm → ∀ (z0 : Int64) (z1 : Int32), ∃ (r : Int32) (wx1 wm1 : va_W), cu l yX11_clock (vs yX11_clock cX11_clock 4 (some .int)) ({ frames := 1, cells := 0, slots := 0, locals := 34 } : Room) D q t [.ref x, .long z0, .int z1] wx (qI D q r wx1) ∧ ct l yX12_clock (vs yX12_clock cX12_clock 4 (some .int)) ({ frames := 2, cells := 0, slots := 0, locals := 48 } : Room) D q [.ref mm, .long z0, .int z1] wm (qI D q r wm1) ∧ Inv wx1 wm1
def op_hash (l : Launch) (D : va_G) (q : Nat → ClassId) (t x mm : Nat) (Inv : va_W → va_W → Prop) : Prop := ∀ (wx wm : va_W), Inv wx wm → ∃ (r : Int64) (wx1 wm1 : va_W), cu l yX11_hash (vs yX11_hash cX11_hash 1 (some .long)) ({ frames := 2, cells := 0, slots := 0, locals := 49 } : Room) D q t [.ref x] wx (qL D q r wx1) ∧ ct l yX12_hash (vs yX12_hash cX12_hash 1 (some .long)) ({ frames := 3, cells := 0, slots := 0, locals := 68 } : Room) D q [.ref mm] wm (qL D q r wm1) ∧ Inv wx1 wm1
def op_key (l : Launch) (D : va_G) (q : Nat → ClassId) (t x mm : Nat) (Inv : va_W → va_W → Prop) : Prop := ∀ (wx wm : va_W), Inv wx wm → ∀ (z0 : Int32) (z1 : Int32), ∃ (r : Int32) (wx1 wm1 : va_W), cu l yX11_key (vs yX11_key cX11_key 5 (some .int)) ({ frames := 1, cells := 0, slots := 0, locals := 21 } : Room) D q t [.ref x, .int z0, .int z1] wx (qI D q r wx1) ∧ ct l yX12_key (vs yX12_key cX12_key 3 (some .int)) ({ frames := 2, cells := 0, slots := 0, locals := 46 } : Room) D q [.ref mm, .int z0, .int z1] wm (qI D q r wm1) ∧ Inv wx1 wm1
def op_told (l : Launch) (D : va_G) (q : Nat → ClassId) (t x mm : Nat) (Inv : va_W → va_W → Prop) : Prop := ∀ (wx wm : va_W), Inv wx wm → ∀ (z0 : Int32), ∃ (r : Int32) (wx1 wm1 : va_W), cu l yX11_told (vs yX11_told cX11_told 2 (some .int)) ({ frames := 0, cells := 0, slots := 0, locals := 0 } : Room) D q t [.ref x, .int z0] wx (qI D q r wx1) ∧ ct l yX12_told (vs yX12_told cX12_told 2 (some .int)) ({ frames := 0, cells := 0, slots := 0, locals := 0 } : Room) D q [.ref mm, .int z0] wm (qI D q r wm1) ∧ Inv wx1 wm1
theorem lw_cmp {L k : Nat} (hL : L < 2 ^ 29) (hk : k < 2 ^ 29) : nI L - 9 < nI k ↔ L < k + 9 := by
  rw [Int32.lt_iff_toInt_lt, show (9 : Int32) = nI 9 from rfl, pk_sub_toInt (by omega) (by decide), nI_toInt (by omega)]
  omega
theorem lw_ix {L k j : Nat} (hL : L < 2 ^ 29) (hk : k + 9 ≤ L) (hj : j < 9) : vp_in (nI k + nI j) L := by
  rw [nI_add]
  exact vp_in_nI (by omega) (by omega)
theorem lw_ix0 {L k : Nat} (hL : L < 2 ^ 29) (hk : k + 9 ≤ L) : vp_in (nI k) L := vp_in_nI (by omega) (by omega)
theorem lw_cy {D : va_G} {q : Nat → ClassId} {t : Nat} {p : Program} {s : State} {m : MethodId} {args : Array Value} {meth : Method} {c : Code} {A : Nat → Prop} (C : cy p s m args meth c code ret 4 R_law D q t A) : cy p s m args meth c code ret 4 RL D q t A := C
set_option maxHeartbeats 4000000 in
set_option maxRecDepth 100000 in
theorem law_loop {p : Program} {e : Env} {s : State} {m : MethodId} {below : List Frame} {meth : Method} {c : Code} (l : Launch) {b L : Nat} {xs : Nat → Int32} (hL : L ≤ 4608) (C0 : lw_At p s m meth c b L xs) {D : va_G} {q : Nat → ClassId} {t : Nat} (C1 : cy p s m #[Value.ref b] meth c code ret 4 RL D q t (fun r : Nat => s.heap.size ≤ r)) (x mm : Nat) (Inv : va_W → va_W → Prop) (hI0 : ∀ wx wm, Inv wx wm → (∃ fs, wx[0]? = some (x, .inr (9, fs))) ∧ ∃ fs, wm[0]? = some (mm, .inr (10, fs))) (o_feed : op_feed l D q t x mm Inv) (o_take : op_take l D q t x mm Inv) (o_spoil : op_spoil l D q t x mm Inv) (o_cut : op_cut l D q t x mm Inv) (o_size : op_size l D q t x mm Inv) (o_out : op_out l D q t x mm Inv) (o_authority : op_authority l D q t x mm Inv) (o_issue : op_issue l D q t x mm Inv) (o_takeBack : op_takeBack l D q t x mm Inv) (o_lift : op_lift l D q t x mm Inv) (o_signer : op_signer l D q t x mm Inv) (o_cert : op_cert l D q t x mm Inv) (o_want : op_want l D q t x mm Inv) (o_nonce : op_nonce l D q t x mm Inv) (o_ask : op_ask l D q t x mm Inv) (o_answer : op_answer l D q t x mm Inv) (o_look : op_look l D q t x mm Inv) (o_passes : op_passes l D q t x mm Inv) (o_found : op_found l D q t x mm Inv) (o_hold : op_hold l D q t x mm Inv) (o_held : op_held l D q t x mm Inv) (o_check : op_check l D q t x mm Inv) (o_clock : op_clock l D q t x mm Inv) (o_hash : op_hash l D q t x mm Inv) (o_key : op_key l D q t x mm Inv) (o_told : op_told l D q t x mm Inv) : ∀ (n k : Nat), L + 10 ≤ k + n → k ≤ L + 9 → ∀ (wx wm : va_W), Inv wx wm → ∀ (H : Heap) (locs : List Loc) (ls : Array Slot), va_P D vwCl (wx ++ wm) H → va_D (fun r : Nat => s.heap.size ≤ r) (wx ++ wm) → va_S (fun r : Nat => s.heap.size ≤ r) s.heap H locs → lv_has ls 4 [(0, .ref b), (1, .ref x), (2, .ref mm), (3, .int (nI k))] → W p l e room_1 s m #[Value.ref b] below meth c H locs 132 30000 (lw_Z below #[Value.ref b] s) (F0 m 18 ls []) := by
  obtain ⟨hx, hb, hr, hml, hown, hts0, hX, hbl, hlocks, hgv⟩ := id C0
  obtain ⟨⟨-, -, -, -, -, hts, -, hK, hA⟩, hG⟩ := id C1
  have hbA : ¬ (fun r : Nat => s.heap.size ≤ r) b := Nat.not_le.mpr hbl
  have hL9 : L < 2 ^ 29 := by omega
  intro n
  induction n with
  | zero =>
    intro k h1 h2
    exact absurd h1 (by omega)
  | succ n ih =>
    intro k hn hk wx wm hI H locs ls hP hD hS hl
    obtain ⟨⟨fsx, hfx⟩, fsm, hfm⟩ := hI0 wx wm hI
    have hk9 : k < 2 ^ 29 := by omega
    refine lv_iload_n hx hb dL_law_18 rfl (lv_at hl 3 rfl) ?_
    refine lv_aload_n hx hb dL_law_19 rfl (lv_at hl 0 rfl) ?_
    refine va_slen hx hb hX hbl hbA hS dL_law_20 ?_
    refine lv_bipush (v := (9 : Int32)) hx hb dL_law_21 (by decide) ?_
    refine lv_isub hx hb dL_law_23 ?_
    refine lv_icmp_gt (tgt := 1272) hx hb dL_law_24 (by decide) (fun c1 => ?_) (fun c1 => ?_)
    · refine lv_iconst (v := (1 : Int32)) hx hb dL_law_1272 (by decide) ?_
      refine va_forget (fun z hz => hS.2.2 z hz) ?_
      refine W.widen (k := 600000) (n := 7302250) (by decide) (by decide) ?_
      exact lw_ret hx hb hr hlocks dL_law_1273
    · have hlt : k + 9 ≤ L := by
        have h9 : ¬ L < k + 9 := fun h => c1 ((lw_cmp hL9 hk9).mpr h)
        omega
      refine lv_aload_n hx hb dL_law_27 rfl (lv_at hl 0 rfl) ?_
      refine lv_iload_n hx hb dL_law_28 rfl (lv_at hl 3 rfl) ?_
      refine va_sld hx hb hX hbl hbA hS (lw_ix0 hL9 hlt) dL_law_29 ?_
      refine lv_bipush (v := (31 : Int32)) hx hb dL_law_30 (by decide) ?_
      refine lv_iand hx hb dL_law_32 ?_
      refine lv_topi (fun v ev => ?_)
      have hc_0 : ∀ (H : Heap) (locs : List Loc) (ls : Array Slot), va_P D vwCl (wx ++ wm) H → va_D (fun r : Nat => s.heap.size ≤ r) (wx ++ wm) → va_S (fun r : Nat => s.heap.size ≤ r) s.heap H locs → lv_has ls 4 [(0, .ref b), (1, .ref x), (2, .ref mm), (3, .int (nI k))] → W p l e room_1 s m #[Value.ref b] below meth c H locs 132 30000 (lw_Z below #[Value.ref b] s) (F0 m 152 ls []) := by
        intro H locs ls hP hD hS hl
        refine lv_aload_n hx hb dL_law_152 rfl (lv_at hl 1 rfl) ?_
        refine lv_aload_n hx hb dL_law_153 rfl (lv_at hl 0 rfl) ?_
        refine lv_iload_n hx hb dL_law_154 rfl (lv_at hl 3 rfl) ?_
        refine lv_iconst (v := (1 : Int32)) hx hb dL_law_155 (by decide) ?_
        refine lv_iadd hx hb dL_law_156 ?_
        refine va_sld hx hb hX hbl hbA hS (lw_ix (j := 1) hL9 hlt (by decide)) dL_law_157 ?_
        refine lv_i2l hx hb dL_law_158 rfl ?_
        refine lv_bipush (v := (32 : Int32)) hx hb dL_law_159 (by decide) ?_
        refine lv_lshl hx hb dL_law_161 rfl ?_
        refine lv_aload_n hx hb dL_law_162 rfl (lv_at hl 0 rfl) ?_
        refine lv_iload_n hx hb dL_law_163 rfl (lv_at hl 3 rfl) ?_
        refine lv_iconst (v := (2 : Int32)) hx hb dL_law_164 (by decide) ?_
        refine lv_iadd hx hb dL_law_165 ?_
        refine va_sld hx hb hX hbl hbA hS (lw_ix (j := 2) hL9 hlt (by decide)) dL_law_166 ?_
        refine lv_i2l hx hb dL_law_167 rfl ?_
        refine lv_ldc2 (v := (4294967295 : Int64)) hx hb hown (hts _ kw_1687) dL_law_168 ?_
        refine lv_land hx hb dL_law_171 ?_
        refine lv_lor hx hb dL_law_172 ?_
        refine lv_aload_n hx hb dL_law_173 rfl (lv_at hl 0 rfl) ?_
        refine lv_iload_n hx hb dL_law_174 rfl (lv_at hl 3 rfl) ?_
        refine lv_iconst (v := (3 : Int32)) hx hb dL_law_175 (by decide) ?_
        refine lv_iadd hx hb dL_law_176 ?_
        refine va_sld hx hb hX hbl hbA hS (lw_ix (j := 3) hL9 hlt (by decide)) dL_law_177 ?_
        obtain ⟨r, wx1, wm1, hcx, hcm, hI1⟩ := o_feed wx wm hI ((((xs ((nI k) + (1 : Int32)).toNatClampNeg).toInt64) <<< ((32 : Int32).toInt64 &&& 63)) ||| (((xs ((nI k) + (2 : Int32)).toNatClampNeg).toInt64) &&& (4294967295 : Int64))) (xs ((nI k) + (3 : Int32)).toNatClampNeg)
        refine lf_i C1 hP hD hS (lx_run (As := [.long ((((xs ((nI k) + (1 : Int32)).toNatClampNeg).toInt64) <<< ((32 : Int32).toInt64 &&& 63)) ||| (((xs ((nI k) + (2 : Int32)).toNatClampNeg).toInt64) &&& (4294967295 : Int64))), .int (xs ((nI k) + (3 : Int32)).toNatClampNeg)]) (rest := []) (ci := 9) C1 hcx (cwV 2 hts (g_V kw_518 kw_519 kw_520 kw_72 kw_521) rfl rfl rfl hd_X11_feed ⟨Nat.le_of_ble_eq_true rfl, Nat.le_of_ble_eq_true rfl⟩) hP hD hS rfl hfx rfl rfl hl (Nat.le_of_ble_eq_true rfl) dL_law_178 ⟨Nat.le_of_ble_eq_true rfl, Nat.le_of_ble_eq_true rfl⟩) (fun H locs hP hD hS => ?_)
        refine lv_aload_n hx hb dL_law_181 rfl (lv_at hl 2 rfl) ?_
        refine lv_aload_n hx hb dL_law_182 rfl (lv_at hl 0 rfl) ?_
        refine lv_iload_n hx hb dL_law_183 rfl (lv_at hl 3 rfl) ?_
        refine lv_iconst (v := (1 : Int32)) hx hb dL_law_184 (by decide) ?_
        refine lv_iadd hx hb dL_law_185 ?_
        refine va_sld hx hb hX hbl hbA hS (lw_ix (j := 1) hL9 hlt (by decide)) dL_law_186 ?_
        refine lv_i2l hx hb dL_law_187 rfl ?_
        refine lv_bipush (v := (32 : Int32)) hx hb dL_law_188 (by decide) ?_
        refine lv_lshl hx hb dL_law_190 rfl ?_
        refine lv_aload_n hx hb dL_law_191 rfl (lv_at hl 0 rfl) ?_
        refine lv_iload_n hx hb dL_law_192 rfl (lv_at hl 3 rfl) ?_
        refine lv_iconst (v := (2 : Int32)) hx hb dL_law_193 (by decide) ?_
        refine lv_iadd hx hb dL_law_194 ?_
        refine va_sld hx hb hX hbl hbA hS (lw_ix (j := 2) hL9 hlt (by decide)) dL_law_195 ?_
        refine lv_i2l hx hb dL_law_196 rfl ?_
        refine lv_ldc2 (v := (4294967295 : Int64)) hx hb hown (hts _ kw_1687) dL_law_197 ?_
        refine lv_land hx hb dL_law_200 ?_
        refine lv_lor hx hb dL_law_201 ?_
        refine lv_aload_n hx hb dL_law_202 rfl (lv_at hl 0 rfl) ?_
        refine lv_iload_n hx hb dL_law_203 rfl (lv_at hl 3 rfl) ?_
        refine lv_iconst (v := (3 : Int32)) hx hb dL_law_204 (by decide) ?_
        refine lv_iadd hx hb dL_law_205 ?_
        refine va_sld hx hb hX hbl hbA hS (lw_ix (j := 3) hL9 hlt (by decide)) dL_law_206 ?_
        refine lf_i C1 hP hD hS (lm_run (As := [.long ((((xs ((nI k) + (1 : Int32)).toNatClampNeg).toInt64) <<< ((32 : Int32).toInt64 &&& 63)) ||| (((xs ((nI k) + (2 : Int32)).toNatClampNeg).toInt64) &&& (4294967295 : Int64))), .int (xs ((nI k) + (3 : Int32)).toNatClampNeg)]) (rest := [.int r]) (ci := 10) C1 hcm (cwV 2 hts (g_V kw_1324 kw_1325 kw_1326 kw_83 kw_1327) rfl rfl rfl hd_X12_feed ⟨Nat.le_of_ble_eq_true rfl, Nat.le_of_ble_eq_true rfl⟩) hP hD hS rfl hfm rfl rfl hl (Nat.le_of_ble_eq_true rfl) dL_law_207 ⟨Nat.le_of_ble_eq_true rfl, Nat.le_of_ble_eq_true rfl⟩) (fun H locs hP hD hS => ?_)
        refine lv_icmp_eq (tgt := 1266) hx hb dL_law_210 (by decide) (fun c9 => ?_) (fun c9 => absurd rfl c9)
        obtain ⟨k9, ek9⟩ : ∃ z : Int32, z = nI (k + 9) := ⟨_, rfl⟩
        refine lv_iinc (v := nI (k + 9)) (lv' := [(3, .int (nI (k + 9))), (0, .ref b), (1, .ref x), (2, .ref mm)]) hx hb dL_law_1266 hl (k := 3) rfl (by rw [show Int32.ofInt 9 = nI 9 from rfl, nI_add]) (by decide) rfl (fun ls hl => ?_)
        refine lv_goto (tgt := 18) hx hb dL_law_1269 (by decide) ?_
        exact ih (k + 9) (by omega) (by omega) wx1 wm1 hI1 H locs ls hP hD hS (lv_sub hl [1, 2, 3, 0] rfl)
      have hc_1 : ∀ (H : Heap) (locs : List Loc) (ls : Array Slot), va_P D vwCl (wx ++ wm) H → va_D (fun r : Nat => s.heap.size ≤ r) (wx ++ wm) → va_S (fun r : Nat => s.heap.size ≤ r) s.heap H locs → lv_has ls 4 [(0, .ref b), (1, .ref x), (2, .ref mm), (3, .int (nI k))] → W p l e room_1 s m #[Value.ref b] below meth c H locs 132 30000 (lw_Z below #[Value.ref b] s) (F0 m 215 ls []) := by
        intro H locs ls hP hD hS hl
        refine lv_aload_n hx hb dL_law_215 rfl (lv_at hl 1 rfl) ?_
        obtain ⟨r, wx1, wm1, hcx, hcm, hI1⟩ := o_take wx wm hI 
        refine lf_i C1 hP hD hS (lx_run (As := []) (rest := []) (ci := 9) C1 hcx (cwV 0 hts (g_V kw_530 kw_531 kw_532 kw_72 kw_533) rfl rfl rfl hd_X11_take ⟨Nat.le_of_ble_eq_true rfl, Nat.le_of_ble_eq_true rfl⟩) hP hD hS rfl hfx rfl rfl hl (Nat.le_of_ble_eq_true rfl) dL_law_216 ⟨Nat.le_of_ble_eq_true rfl, Nat.le_of_ble_eq_true rfl⟩) (fun H locs hP hD hS => ?_)
        refine lv_aload_n hx hb dL_law_219 rfl (lv_at hl 2 rfl) ?_
        refine lf_i C1 hP hD hS (lm_run (As := []) (rest := [.int r]) (ci := 10) C1 hcm (cwV 0 hts (g_V kw_1332 kw_1333 kw_1334 kw_83 kw_1335) rfl rfl rfl hd_X12_take ⟨Nat.le_of_ble_eq_true rfl, Nat.le_of_ble_eq_true rfl⟩) hP hD hS rfl hfm rfl rfl hl (Nat.le_of_ble_eq_true rfl) dL_law_220 ⟨Nat.le_of_ble_eq_true rfl, Nat.le_of_ble_eq_true rfl⟩) (fun H locs hP hD hS => ?_)
        refine lv_icmp_eq (tgt := 1266) hx hb dL_law_223 (by decide) (fun c9 => ?_) (fun c9 => absurd rfl c9)
        obtain ⟨k9, ek9⟩ : ∃ z : Int32, z = nI (k + 9) := ⟨_, rfl⟩
        refine lv_iinc (v := nI (k + 9)) (lv' := [(3, .int (nI (k + 9))), (0, .ref b), (1, .ref x), (2, .ref mm)]) hx hb dL_law_1266 hl (k := 3) rfl (by rw [show Int32.ofInt 9 = nI 9 from rfl, nI_add]) (by decide) rfl (fun ls hl => ?_)
        refine lv_goto (tgt := 18) hx hb dL_law_1269 (by decide) ?_
        exact ih (k + 9) (by omega) (by omega) wx1 wm1 hI1 H locs ls hP hD hS (lv_sub hl [1, 2, 3, 0] rfl)
      have hc_2 : ∀ (H : Heap) (locs : List Loc) (ls : Array Slot), va_P D vwCl (wx ++ wm) H → va_D (fun r : Nat => s.heap.size ≤ r) (wx ++ wm) → va_S (fun r : Nat => s.heap.size ≤ r) s.heap H locs → lv_has ls 4 [(0, .ref b), (1, .ref x), (2, .ref mm), (3, .int (nI k))] → W p l e room_1 s m #[Value.ref b] below meth c H locs 132 30000 (lw_Z below #[Value.ref b] s) (F0 m 228 ls []) := by
        intro H locs ls hP hD hS hl
        refine lv_aload_n hx hb dL_law_228 rfl (lv_at hl 1 rfl) ?_
        refine lv_aload_n hx hb dL_law_229 rfl (lv_at hl 0 rfl) ?_
        refine lv_iload_n hx hb dL_law_230 rfl (lv_at hl 3 rfl) ?_
        refine lv_iconst (v := (1 : Int32)) hx hb dL_law_231 (by decide) ?_
        refine lv_iadd hx hb dL_law_232 ?_
        refine va_sld hx hb hX hbl hbA hS (lw_ix (j := 1) hL9 hlt (by decide)) dL_law_233 ?_
        refine lv_aload_n hx hb dL_law_234 rfl (lv_at hl 0 rfl) ?_
        refine lv_iload_n hx hb dL_law_235 rfl (lv_at hl 3 rfl) ?_
        refine lv_iconst (v := (2 : Int32)) hx hb dL_law_236 (by decide) ?_
        refine lv_iadd hx hb dL_law_237 ?_
        refine va_sld hx hb hX hbl hbA hS (lw_ix (j := 2) hL9 hlt (by decide)) dL_law_238 ?_
        obtain ⟨r, wx1, wm1, hcx, hcm, hI1⟩ := o_spoil wx wm hI (xs ((nI k) + (1 : Int32)).toNatClampNeg) (xs ((nI k) + (2 : Int32)).toNatClampNeg)
        refine lf_i C1 hP hD hS (lx_run (As := [.int (xs ((nI k) + (1 : Int32)).toNatClampNeg), .int (xs ((nI k) + (2 : Int32)).toNatClampNeg)]) (rest := []) (ci := 9) C1 hcx (cwV 2 hts (g_V kw_550 kw_551 kw_552 kw_72 kw_553) rfl rfl rfl hd_X11_spoil ⟨Nat.le_of_ble_eq_true rfl, Nat.le_of_ble_eq_true rfl⟩) hP hD hS rfl hfx rfl rfl hl (Nat.le_of_ble_eq_true rfl) dL_law_239 ⟨Nat.le_of_ble_eq_true rfl, Nat.le_of_ble_eq_true rfl⟩) (fun H locs hP hD hS => ?_)
        refine lv_aload_n hx hb dL_law_242 rfl (lv_at hl 2 rfl) ?_
        refine lv_aload_n hx hb dL_law_243 rfl (lv_at hl 0 rfl) ?_
        refine lv_iload_n hx hb dL_law_244 rfl (lv_at hl 3 rfl) ?_
        refine lv_iconst (v := (1 : Int32)) hx hb dL_law_245 (by decide) ?_
        refine lv_iadd hx hb dL_law_246 ?_
        refine va_sld hx hb hX hbl hbA hS (lw_ix (j := 1) hL9 hlt (by decide)) dL_law_247 ?_
        refine lv_aload_n hx hb dL_law_248 rfl (lv_at hl 0 rfl) ?_
        refine lv_iload_n hx hb dL_law_249 rfl (lv_at hl 3 rfl) ?_
        refine lv_iconst (v := (2 : Int32)) hx hb dL_law_250 (by decide) ?_
        refine lv_iadd hx hb dL_law_251 ?_
        refine va_sld hx hb hX hbl hbA hS (lw_ix (j := 2) hL9 hlt (by decide)) dL_law_252 ?_
        refine lf_i C1 hP hD hS (lm_run (As := [.int (xs ((nI k) + (1 : Int32)).toNatClampNeg), .int (xs ((nI k) + (2 : Int32)).toNatClampNeg)]) (rest := [.int r]) (ci := 10) C1 hcm (cwV 2 hts (g_V kw_1336 kw_1337 kw_1338 kw_83 kw_1339) rfl rfl rfl hd_X12_spoil ⟨Nat.le_of_ble_eq_true rfl, Nat.le_of_ble_eq_true rfl⟩) hP hD hS rfl hfm rfl rfl hl (Nat.le_of_ble_eq_true rfl) dL_law_253 ⟨Nat.le_of_ble_eq_true rfl, Nat.le_of_ble_eq_true rfl⟩) (fun H locs hP hD hS => ?_)
        refine lv_icmp_eq (tgt := 1266) hx hb dL_law_256 (by decide) (fun c9 => ?_) (fun c9 => absurd rfl c9)
        obtain ⟨k9, ek9⟩ : ∃ z : Int32, z = nI (k + 9) := ⟨_, rfl⟩
        refine lv_iinc (v := nI (k + 9)) (lv' := [(3, .int (nI (k + 9))), (0, .ref b), (1, .ref x), (2, .ref mm)]) hx hb dL_law_1266 hl (k := 3) rfl (by rw [show Int32.ofInt 9 = nI 9 from rfl, nI_add]) (by decide) rfl (fun ls hl => ?_)
        refine lv_goto (tgt := 18) hx hb dL_law_1269 (by decide) ?_
        exact ih (k + 9) (by omega) (by omega) wx1 wm1 hI1 H locs ls hP hD hS (lv_sub hl [1, 2, 3, 0] rfl)
      have hc_3 : ∀ (H : Heap) (locs : List Loc) (ls : Array Slot), va_P D vwCl (wx ++ wm) H → va_D (fun r : Nat => s.heap.size ≤ r) (wx ++ wm) → va_S (fun r : Nat => s.heap.size ≤ r) s.heap H locs → lv_has ls 4 [(0, .ref b), (1, .ref x), (2, .ref mm), (3, .int (nI k))] → W p l e room_1 s m #[Value.ref b] below meth c H locs 132 30000 (lw_Z below #[Value.ref b] s) (F0 m 261 ls []) := by
        intro H locs ls hP hD hS hl
        refine lv_aload_n hx hb dL_law_261 rfl (lv_at hl 1 rfl) ?_
        refine lv_aload_n hx hb dL_law_262 rfl (lv_at hl 0 rfl) ?_
        refine lv_iload_n hx hb dL_law_263 rfl (lv_at hl 3 rfl) ?_
        refine lv_iconst (v := (1 : Int32)) hx hb dL_law_264 (by decide) ?_
        refine lv_iadd hx hb dL_law_265 ?_
        refine va_sld hx hb hX hbl hbA hS (lw_ix (j := 1) hL9 hlt (by decide)) dL_law_266 ?_
        obtain ⟨r, wx1, wm1, hcx, hcm, hI1⟩ := o_cut wx wm hI (xs ((nI k) + (1 : Int32)).toNatClampNeg)
        refine lf_i C1 hP hD hS (lx_run (As := [.int (xs ((nI k) + (1 : Int32)).toNatClampNeg)]) (rest := []) (ci := 9) C1 hcx (cwV 1 hts (g_V kw_555 kw_556 kw_557 kw_72 kw_558) rfl rfl rfl hd_X11_cut ⟨Nat.le_of_ble_eq_true rfl, Nat.le_of_ble_eq_true rfl⟩) hP hD hS rfl hfx rfl rfl hl (Nat.le_of_ble_eq_true rfl) dL_law_267 ⟨Nat.le_of_ble_eq_true rfl, Nat.le_of_ble_eq_true rfl⟩) (fun H locs hP hD hS => ?_)
        refine lv_aload_n hx hb dL_law_270 rfl (lv_at hl 2 rfl) ?_
        refine lv_aload_n hx hb dL_law_271 rfl (lv_at hl 0 rfl) ?_
        refine lv_iload_n hx hb dL_law_272 rfl (lv_at hl 3 rfl) ?_
        refine lv_iconst (v := (1 : Int32)) hx hb dL_law_273 (by decide) ?_
        refine lv_iadd hx hb dL_law_274 ?_
        refine va_sld hx hb hX hbl hbA hS (lw_ix (j := 1) hL9 hlt (by decide)) dL_law_275 ?_
        refine lf_i C1 hP hD hS (lm_run (As := [.int (xs ((nI k) + (1 : Int32)).toNatClampNeg)]) (rest := [.int r]) (ci := 10) C1 hcm (cwV 1 hts (g_V kw_1340 kw_1341 kw_1342 kw_83 kw_1343) rfl rfl rfl hd_X12_cut ⟨Nat.le_of_ble_eq_true rfl, Nat.le_of_ble_eq_true rfl⟩) hP hD hS rfl hfm rfl rfl hl (Nat.le_of_ble_eq_true rfl) dL_law_276 ⟨Nat.le_of_ble_eq_true rfl, Nat.le_of_ble_eq_true rfl⟩) (fun H locs hP hD hS => ?_)
        refine lv_icmp_eq (tgt := 1266) hx hb dL_law_279 (by decide) (fun c9 => ?_) (fun c9 => absurd rfl c9)
        obtain ⟨k9, ek9⟩ : ∃ z : Int32, z = nI (k + 9) := ⟨_, rfl⟩
        refine lv_iinc (v := nI (k + 9)) (lv' := [(3, .int (nI (k + 9))), (0, .ref b), (1, .ref x), (2, .ref mm)]) hx hb dL_law_1266 hl (k := 3) rfl (by rw [show Int32.ofInt 9 = nI 9 from rfl, nI_add]) (by decide) rfl (fun ls hl => ?_)
        refine lv_goto (tgt := 18) hx hb dL_law_1269 (by decide) ?_
        exact ih (k + 9) (by omega) (by omega) wx1 wm1 hI1 H locs ls hP hD hS (lv_sub hl [1, 2, 3, 0] rfl)
      have hc_4 : ∀ (H : Heap) (locs : List Loc) (ls : Array Slot), va_P D vwCl (wx ++ wm) H → va_D (fun r : Nat => s.heap.size ≤ r) (wx ++ wm) → va_S (fun r : Nat => s.heap.size ≤ r) s.heap H locs → lv_has ls 4 [(0, .ref b), (1, .ref x), (2, .ref mm), (3, .int (nI k))] → W p l e room_1 s m #[Value.ref b] below meth c H locs 132 30000 (lw_Z below #[Value.ref b] s) (F0 m 284 ls []) := by
        intro H locs ls hP hD hS hl
        refine lv_aload_n hx hb dL_law_284 rfl (lv_at hl 1 rfl) ?_
        obtain ⟨r, wx1, wm1, hcx, hcm, hI1⟩ := o_size wx wm hI 
        refine lf_i C1 hP hD hS (lx_run (As := []) (rest := []) (ci := 9) C1 hcx (cwV 0 hts (g_V kw_559 kw_560 kw_561 kw_72 kw_562) rfl rfl rfl hd_X11_size ⟨Nat.le_of_ble_eq_true rfl, Nat.le_of_ble_eq_true rfl⟩) hP hD hS rfl hfx rfl rfl hl (Nat.le_of_ble_eq_true rfl) dL_law_285 ⟨Nat.le_of_ble_eq_true rfl, Nat.le_of_ble_eq_true rfl⟩) (fun H locs hP hD hS => ?_)
        refine lv_aload_n hx hb dL_law_288 rfl (lv_at hl 2 rfl) ?_
        refine lf_i C1 hP hD hS (lm_run (As := []) (rest := [.int r]) (ci := 10) C1 hcm (cwV 0 hts (g_V kw_1344 kw_1345 kw_1346 kw_83 kw_1347) rfl rfl rfl hd_X12_size ⟨Nat.le_of_ble_eq_true rfl, Nat.le_of_ble_eq_true rfl⟩) hP hD hS rfl hfm rfl rfl hl (Nat.le_of_ble_eq_true rfl) dL_law_289 ⟨Nat.le_of_ble_eq_true rfl, Nat.le_of_ble_eq_true rfl⟩) (fun H locs hP hD hS => ?_)
        refine lv_icmp_eq (tgt := 1266) hx hb dL_law_292 (by decide) (fun c9 => ?_) (fun c9 => absurd rfl c9)
        obtain ⟨k9, ek9⟩ : ∃ z : Int32, z = nI (k + 9) := ⟨_, rfl⟩
        refine lv_iinc (v := nI (k + 9)) (lv' := [(3, .int (nI (k + 9))), (0, .ref b), (1, .ref x), (2, .ref mm)]) hx hb dL_law_1266 hl (k := 3) rfl (by rw [show Int32.ofInt 9 = nI 9 from rfl, nI_add]) (by decide) rfl (fun ls hl => ?_)
        refine lv_goto (tgt := 18) hx hb dL_law_1269 (by decide) ?_
        exact ih (k + 9) (by omega) (by omega) wx1 wm1 hI1 H locs ls hP hD hS (lv_sub hl [1, 2, 3, 0] rfl)
      have hc_5 : ∀ (H : Heap) (locs : List Loc) (ls : Array Slot), va_P D vwCl (wx ++ wm) H → va_D (fun r : Nat => s.heap.size ≤ r) (wx ++ wm) → va_S (fun r : Nat => s.heap.size ≤ r) s.heap H locs → lv_has ls 4 [(0, .ref b), (1, .ref x), (2, .ref mm), (3, .int (nI k))] → W p l e room_1 s m #[Value.ref b] below meth c H locs 132 30000 (lw_Z below #[Value.ref b] s) (F0 m 297 ls []) := by
        intro H locs ls hP hD hS hl
        refine lv_aload_n hx hb dL_law_297 rfl (lv_at hl 1 rfl) ?_
        refine lv_aload_n hx hb dL_law_298 rfl (lv_at hl 0 rfl) ?_
        refine lv_iload_n hx hb dL_law_299 rfl (lv_at hl 3 rfl) ?_
        refine lv_iconst (v := (1 : Int32)) hx hb dL_law_300 (by decide) ?_
        refine lv_iadd hx hb dL_law_301 ?_
        refine va_sld hx hb hX hbl hbA hS (lw_ix (j := 1) hL9 hlt (by decide)) dL_law_302 ?_
        obtain ⟨r, wx1, wm1, hcx, hcm, hI1⟩ := o_out wx wm hI (xs ((nI k) + (1 : Int32)).toNatClampNeg)
        refine lf_i C1 hP hD hS (lx_run (As := [.int (xs ((nI k) + (1 : Int32)).toNatClampNeg)]) (rest := []) (ci := 9) C1 hcx (cwV 1 hts (g_V kw_563 kw_564 kw_565 kw_72 kw_566) rfl rfl rfl hd_X11_out ⟨Nat.le_of_ble_eq_true rfl, Nat.le_of_ble_eq_true rfl⟩) hP hD hS rfl hfx rfl rfl hl (Nat.le_of_ble_eq_true rfl) dL_law_303 ⟨Nat.le_of_ble_eq_true rfl, Nat.le_of_ble_eq_true rfl⟩) (fun H locs hP hD hS => ?_)
        refine lv_aload_n hx hb dL_law_306 rfl (lv_at hl 2 rfl) ?_
        refine lv_aload_n hx hb dL_law_307 rfl (lv_at hl 0 rfl) ?_
        refine lv_iload_n hx hb dL_law_308 rfl (lv_at hl 3 rfl) ?_
        refine lv_iconst (v := (1 : Int32)) hx hb dL_law_309 (by decide) ?_
        refine lv_iadd hx hb dL_law_310 ?_
        refine va_sld hx hb hX hbl hbA hS (lw_ix (j := 1) hL9 hlt (by decide)) dL_law_311 ?_
        refine lf_i C1 hP hD hS (lm_run (As := [.int (xs ((nI k) + (1 : Int32)).toNatClampNeg)]) (rest := [.int r]) (ci := 10) C1 hcm (cwV 1 hts (g_V kw_1348 kw_1349 kw_1350 kw_83 kw_1351) rfl rfl rfl hd_X12_out ⟨Nat.le_of_ble_eq_true rfl, Nat.le_of_ble_eq_true rfl⟩) hP hD hS rfl hfm rfl rfl hl (Nat.le_of_ble_eq_true rfl) dL_law_312 ⟨Nat.le_of_ble_eq_true rfl, Nat.le_of_ble_eq_true rfl⟩) (fun H locs hP hD hS => ?_)
        refine lv_icmp_eq (tgt := 1266) hx hb dL_law_315 (by decide) (fun c9 => ?_) (fun c9 => absurd rfl c9)
        obtain ⟨k9, ek9⟩ : ∃ z : Int32, z = nI (k + 9) := ⟨_, rfl⟩
        refine lv_iinc (v := nI (k + 9)) (lv' := [(3, .int (nI (k + 9))), (0, .ref b), (1, .ref x), (2, .ref mm)]) hx hb dL_law_1266 hl (k := 3) rfl (by rw [show Int32.ofInt 9 = nI 9 from rfl, nI_add]) (by decide) rfl (fun ls hl => ?_)
        refine lv_goto (tgt := 18) hx hb dL_law_1269 (by decide) ?_
        exact ih (k + 9) (by omega) (by omega) wx1 wm1 hI1 H locs ls hP hD hS (lv_sub hl [1, 2, 3, 0] rfl)
      have hc_6 : ∀ (H : Heap) (locs : List Loc) (ls : Array Slot), va_P D vwCl (wx ++ wm) H → va_D (fun r : Nat => s.heap.size ≤ r) (wx ++ wm) → va_S (fun r : Nat => s.heap.size ≤ r) s.heap H locs → lv_has ls 4 [(0, .ref b), (1, .ref x), (2, .ref mm), (3, .int (nI k))] → W p l e room_1 s m #[Value.ref b] below meth c H locs 132 30000 (lw_Z below #[Value.ref b] s) (F0 m 320 ls []) := by
        intro H locs ls hP hD hS hl
        refine lv_aload_n hx hb dL_law_320 rfl (lv_at hl 1 rfl) ?_
        refine lv_aload_n hx hb dL_law_321 rfl (lv_at hl 0 rfl) ?_
        refine lv_iload_n hx hb dL_law_322 rfl (lv_at hl 3 rfl) ?_
        refine lv_iconst (v := (1 : Int32)) hx hb dL_law_323 (by decide) ?_
        refine lv_iadd hx hb dL_law_324 ?_
        refine va_sld hx hb hX hbl hbA hS (lw_ix (j := 1) hL9 hlt (by decide)) dL_law_325 ?_
        obtain ⟨r, wx1, wm1, hcx, hcm, hI1⟩ := o_authority wx wm hI (xs ((nI k) + (1 : Int32)).toNatClampNeg)
        refine lf_i C1 hP hD hS (lx_run (As := [.int (xs ((nI k) + (1 : Int32)).toNatClampNeg)]) (rest := []) (ci := 9) C1 hcx (cwV 1 hts (g_V kw_567 kw_568 kw_569 kw_72 kw_570) rfl rfl rfl hd_X11_authority ⟨Nat.le_of_ble_eq_true rfl, Nat.le_of_ble_eq_true rfl⟩) hP hD hS rfl hfx rfl rfl hl (Nat.le_of_ble_eq_true rfl) dL_law_326 ⟨Nat.le_of_ble_eq_true rfl, Nat.le_of_ble_eq_true rfl⟩) (fun H locs hP hD hS => ?_)
        refine lv_aload_n hx hb dL_law_329 rfl (lv_at hl 2 rfl) ?_
        refine lv_aload_n hx hb dL_law_330 rfl (lv_at hl 0 rfl) ?_
        refine lv_iload_n hx hb dL_law_331 rfl (lv_at hl 3 rfl) ?_
        refine lv_iconst (v := (1 : Int32)) hx hb dL_law_332 (by decide) ?_
        refine lv_iadd hx hb dL_law_333 ?_
        refine va_sld hx hb hX hbl hbA hS (lw_ix (j := 1) hL9 hlt (by decide)) dL_law_334 ?_
        refine lf_i C1 hP hD hS (lm_run (As := [.int (xs ((nI k) + (1 : Int32)).toNatClampNeg)]) (rest := [.int r]) (ci := 10) C1 hcm (cwV 1 hts (g_V kw_1498 kw_1499 kw_1500 kw_83 kw_1501) rfl rfl rfl hd_X12_authority ⟨Nat.le_of_ble_eq_true rfl, Nat.le_of_ble_eq_true rfl⟩) hP hD hS rfl hfm rfl rfl hl (Nat.le_of_ble_eq_true rfl) dL_law_335 ⟨Nat.le_of_ble_eq_true rfl, Nat.le_of_ble_eq_true rfl⟩) (fun H locs hP hD hS => ?_)
        refine lv_icmp_eq (tgt := 1266) hx hb dL_law_338 (by decide) (fun c9 => ?_) (fun c9 => absurd rfl c9)
        obtain ⟨k9, ek9⟩ : ∃ z : Int32, z = nI (k + 9) := ⟨_, rfl⟩
        refine lv_iinc (v := nI (k + 9)) (lv' := [(3, .int (nI (k + 9))), (0, .ref b), (1, .ref x), (2, .ref mm)]) hx hb dL_law_1266 hl (k := 3) rfl (by rw [show Int32.ofInt 9 = nI 9 from rfl, nI_add]) (by decide) rfl (fun ls hl => ?_)
        refine lv_goto (tgt := 18) hx hb dL_law_1269 (by decide) ?_
        exact ih (k + 9) (by omega) (by omega) wx1 wm1 hI1 H locs ls hP hD hS (lv_sub hl [1, 2, 3, 0] rfl)
      have hc_7 : ∀ (H : Heap) (locs : List Loc) (ls : Array Slot), va_P D vwCl (wx ++ wm) H → va_D (fun r : Nat => s.heap.size ≤ r) (wx ++ wm) → va_S (fun r : Nat => s.heap.size ≤ r) s.heap H locs → lv_has ls 4 [(0, .ref b), (1, .ref x), (2, .ref mm), (3, .int (nI k))] → W p l e room_1 s m #[Value.ref b] below meth c H locs 132 30000 (lw_Z below #[Value.ref b] s) (F0 m 343 ls []) := by
        intro H locs ls hP hD hS hl
        refine lv_aload_n hx hb dL_law_343 rfl (lv_at hl 1 rfl) ?_
        refine lv_aload_n hx hb dL_law_344 rfl (lv_at hl 0 rfl) ?_
        refine lv_iload_n hx hb dL_law_345 rfl (lv_at hl 3 rfl) ?_
        refine lv_iconst (v := (1 : Int32)) hx hb dL_law_346 (by decide) ?_
        refine lv_iadd hx hb dL_law_347 ?_
        refine va_sld hx hb hX hbl hbA hS (lw_ix (j := 1) hL9 hlt (by decide)) dL_law_348 ?_
        refine lv_aload_n hx hb dL_law_349 rfl (lv_at hl 0 rfl) ?_
        refine lv_iload_n hx hb dL_law_350 rfl (lv_at hl 3 rfl) ?_
        refine lv_iconst (v := (2 : Int32)) hx hb dL_law_351 (by decide) ?_
        refine lv_iadd hx hb dL_law_352 ?_
        refine va_sld hx hb hX hbl hbA hS (lw_ix (j := 2) hL9 hlt (by decide)) dL_law_353 ?_
        obtain ⟨r, wx1, wm1, hcx, hcm, hI1⟩ := o_issue wx wm hI (xs ((nI k) + (1 : Int32)).toNatClampNeg) (xs ((nI k) + (2 : Int32)).toNatClampNeg)
        refine lf_i C1 hP hD hS (lx_run (As := [.int (xs ((nI k) + (1 : Int32)).toNatClampNeg), .int (xs ((nI k) + (2 : Int32)).toNatClampNeg)]) (rest := []) (ci := 9) C1 hcx (cwV 2 hts (g_V kw_622 kw_623 kw_624 kw_72 kw_625) rfl rfl rfl hd_X11_issue ⟨Nat.le_of_ble_eq_true rfl, Nat.le_of_ble_eq_true rfl⟩) hP hD hS rfl hfx rfl rfl hl (Nat.le_of_ble_eq_true rfl) dL_law_354 ⟨Nat.le_of_ble_eq_true rfl, Nat.le_of_ble_eq_true rfl⟩) (fun H locs hP hD hS => ?_)
        refine lv_aload_n hx hb dL_law_357 rfl (lv_at hl 2 rfl) ?_
        refine lv_aload_n hx hb dL_law_358 rfl (lv_at hl 0 rfl) ?_
        refine lv_iload_n hx hb dL_law_359 rfl (lv_at hl 3 rfl) ?_
        refine lv_iconst (v := (1 : Int32)) hx hb dL_law_360 (by decide) ?_
        refine lv_iadd hx hb dL_law_361 ?_
        refine va_sld hx hb hX hbl hbA hS (lw_ix (j := 1) hL9 hlt (by decide)) dL_law_362 ?_
        refine lv_aload_n hx hb dL_law_363 rfl (lv_at hl 0 rfl) ?_
        refine lv_iload_n hx hb dL_law_364 rfl (lv_at hl 3 rfl) ?_
        refine lv_iconst (v := (2 : Int32)) hx hb dL_law_365 (by decide) ?_
        refine lv_iadd hx hb dL_law_366 ?_
        refine va_sld hx hb hX hbl hbA hS (lw_ix (j := 2) hL9 hlt (by decide)) dL_law_367 ?_
        refine lf_i C1 hP hD hS (lm_run (As := [.int (xs ((nI k) + (1 : Int32)).toNatClampNeg), .int (xs ((nI k) + (2 : Int32)).toNatClampNeg)]) (rest := [.int r]) (ci := 10) C1 hcm (cwV 2 hts (g_V kw_1512 kw_1513 kw_1514 kw_83 kw_1515) rfl rfl rfl hd_X12_issue ⟨Nat.le_of_ble_eq_true rfl, Nat.le_of_ble_eq_true rfl⟩) hP hD hS rfl hfm rfl rfl hl (Nat.le_of_ble_eq_true rfl) dL_law_368 ⟨Nat.le_of_ble_eq_true rfl, Nat.le_of_ble_eq_true rfl⟩) (fun H locs hP hD hS => ?_)
        refine lv_icmp_eq (tgt := 1266) hx hb dL_law_371 (by decide) (fun c9 => ?_) (fun c9 => absurd rfl c9)
        obtain ⟨k9, ek9⟩ : ∃ z : Int32, z = nI (k + 9) := ⟨_, rfl⟩
        refine lv_iinc (v := nI (k + 9)) (lv' := [(3, .int (nI (k + 9))), (0, .ref b), (1, .ref x), (2, .ref mm)]) hx hb dL_law_1266 hl (k := 3) rfl (by rw [show Int32.ofInt 9 = nI 9 from rfl, nI_add]) (by decide) rfl (fun ls hl => ?_)
        refine lv_goto (tgt := 18) hx hb dL_law_1269 (by decide) ?_
        exact ih (k + 9) (by omega) (by omega) wx1 wm1 hI1 H locs ls hP hD hS (lv_sub hl [1, 2, 3, 0] rfl)
      have hc_8 : ∀ (H : Heap) (locs : List Loc) (ls : Array Slot), va_P D vwCl (wx ++ wm) H → va_D (fun r : Nat => s.heap.size ≤ r) (wx ++ wm) → va_S (fun r : Nat => s.heap.size ≤ r) s.heap H locs → lv_has ls 4 [(0, .ref b), (1, .ref x), (2, .ref mm), (3, .int (nI k))] → W p l e room_1 s m #[Value.ref b] below meth c H locs 132 30000 (lw_Z below #[Value.ref b] s) (F0 m 376 ls []) := by
        intro H locs ls hP hD hS hl
        refine lv_aload_n hx hb dL_law_376 rfl (lv_at hl 1 rfl) ?_
        refine lv_aload_n hx hb dL_law_377 rfl (lv_at hl 0 rfl) ?_
        refine lv_iload_n hx hb dL_law_378 rfl (lv_at hl 3 rfl) ?_
        refine lv_iconst (v := (1 : Int32)) hx hb dL_law_379 (by decide) ?_
        refine lv_iadd hx hb dL_law_380 ?_
        refine va_sld hx hb hX hbl hbA hS (lw_ix (j := 1) hL9 hlt (by decide)) dL_law_381 ?_
        refine lv_aload_n hx hb dL_law_382 rfl (lv_at hl 0 rfl) ?_
        refine lv_iload_n hx hb dL_law_383 rfl (lv_at hl 3 rfl) ?_
        refine lv_iconst (v := (2 : Int32)) hx hb dL_law_384 (by decide) ?_
        refine lv_iadd hx hb dL_law_385 ?_
        refine va_sld hx hb hX hbl hbA hS (lw_ix (j := 2) hL9 hlt (by decide)) dL_law_386 ?_
        refine lv_aload_n hx hb dL_law_387 rfl (lv_at hl 0 rfl) ?_
        refine lv_iload_n hx hb dL_law_388 rfl (lv_at hl 3 rfl) ?_
        refine lv_iconst (v := (3 : Int32)) hx hb dL_law_389 (by decide) ?_
        refine lv_iadd hx hb dL_law_390 ?_
        refine va_sld hx hb hX hbl hbA hS (lw_ix (j := 3) hL9 hlt (by decide)) dL_law_391 ?_
        refine lv_i2l hx hb dL_law_392 rfl ?_
        refine lv_bipush (v := (32 : Int32)) hx hb dL_law_393 (by decide) ?_
        refine lv_lshl hx hb dL_law_395 rfl ?_
        refine lv_aload_n hx hb dL_law_396 rfl (lv_at hl 0 rfl) ?_
        refine lv_iload_n hx hb dL_law_397 rfl (lv_at hl 3 rfl) ?_
        refine lv_iconst (v := (4 : Int32)) hx hb dL_law_398 (by decide) ?_
        refine lv_iadd hx hb dL_law_399 ?_
        refine va_sld hx hb hX hbl hbA hS (lw_ix (j := 4) hL9 hlt (by decide)) dL_law_400 ?_
        refine lv_i2l hx hb dL_law_401 rfl ?_
        refine lv_ldc2 (v := (4294967295 : Int64)) hx hb hown (hts _ kw_1687) dL_law_402 ?_
        refine lv_land hx hb dL_law_405 ?_
        refine lv_lor hx hb dL_law_406 ?_
        refine lv_aload_n hx hb dL_law_407 rfl (lv_at hl 0 rfl) ?_
        refine lv_iload_n hx hb dL_law_408 rfl (lv_at hl 3 rfl) ?_
        refine lv_iconst (v := (5 : Int32)) hx hb dL_law_409 (by decide) ?_
        refine lv_iadd hx hb dL_law_410 ?_
        refine va_sld hx hb hX hbl hbA hS (lw_ix (j := 5) hL9 hlt (by decide)) dL_law_411 ?_
        obtain ⟨r, wx1, wm1, hcx, hcm, hI1⟩ := o_takeBack wx wm hI (xs ((nI k) + (1 : Int32)).toNatClampNeg) (xs ((nI k) + (2 : Int32)).toNatClampNeg) ((((xs ((nI k) + (3 : Int32)).toNatClampNeg).toInt64) <<< ((32 : Int32).toInt64 &&& 63)) ||| (((xs ((nI k) + (4 : Int32)).toNatClampNeg).toInt64) &&& (4294967295 : Int64))) (xs ((nI k) + (5 : Int32)).toNatClampNeg)
        refine lf_i C1 hP hD hS (lx_run (As := [.int (xs ((nI k) + (1 : Int32)).toNatClampNeg), .int (xs ((nI k) + (2 : Int32)).toNatClampNeg), .long ((((xs ((nI k) + (3 : Int32)).toNatClampNeg).toInt64) <<< ((32 : Int32).toInt64 &&& 63)) ||| (((xs ((nI k) + (4 : Int32)).toNatClampNeg).toInt64) &&& (4294967295 : Int64))), .int (xs ((nI k) + (5 : Int32)).toNatClampNeg)]) (rest := []) (ci := 9) C1 hcx (cwV 4 hts (g_V kw_640 kw_641 kw_642 kw_72 kw_643) rfl rfl rfl hd_X11_takeBack ⟨Nat.le_of_ble_eq_true rfl, Nat.le_of_ble_eq_true rfl⟩) hP hD hS rfl hfx rfl rfl hl (Nat.le_of_ble_eq_true rfl) dL_law_412 ⟨Nat.le_of_ble_eq_true rfl, Nat.le_of_ble_eq_true rfl⟩) (fun H locs hP hD hS => ?_)
        refine lv_aload_n hx hb dL_law_415 rfl (lv_at hl 2 rfl) ?_
        refine lv_aload_n hx hb dL_law_416 rfl (lv_at hl 0 rfl) ?_
        refine lv_iload_n hx hb dL_law_417 rfl (lv_at hl 3 rfl) ?_
        refine lv_iconst (v := (1 : Int32)) hx hb dL_law_418 (by decide) ?_
        refine lv_iadd hx hb dL_law_419 ?_
        refine va_sld hx hb hX hbl hbA hS (lw_ix (j := 1) hL9 hlt (by decide)) dL_law_420 ?_
        refine lv_aload_n hx hb dL_law_421 rfl (lv_at hl 0 rfl) ?_
        refine lv_iload_n hx hb dL_law_422 rfl (lv_at hl 3 rfl) ?_
        refine lv_iconst (v := (2 : Int32)) hx hb dL_law_423 (by decide) ?_
        refine lv_iadd hx hb dL_law_424 ?_
        refine va_sld hx hb hX hbl hbA hS (lw_ix (j := 2) hL9 hlt (by decide)) dL_law_425 ?_
        refine lv_aload_n hx hb dL_law_426 rfl (lv_at hl 0 rfl) ?_
        refine lv_iload_n hx hb dL_law_427 rfl (lv_at hl 3 rfl) ?_
        refine lv_iconst (v := (3 : Int32)) hx hb dL_law_428 (by decide) ?_
        refine lv_iadd hx hb dL_law_429 ?_
        refine va_sld hx hb hX hbl hbA hS (lw_ix (j := 3) hL9 hlt (by decide)) dL_law_430 ?_
        refine lv_i2l hx hb dL_law_431 rfl ?_
        refine lv_bipush (v := (32 : Int32)) hx hb dL_law_432 (by decide) ?_
        refine lv_lshl hx hb dL_law_434 rfl ?_
        refine lv_aload_n hx hb dL_law_435 rfl (lv_at hl 0 rfl) ?_
        refine lv_iload_n hx hb dL_law_436 rfl (lv_at hl 3 rfl) ?_
        refine lv_iconst (v := (4 : Int32)) hx hb dL_law_437 (by decide) ?_
        refine lv_iadd hx hb dL_law_438 ?_
        refine va_sld hx hb hX hbl hbA hS (lw_ix (j := 4) hL9 hlt (by decide)) dL_law_439 ?_
        refine lv_i2l hx hb dL_law_440 rfl ?_
        refine lv_ldc2 (v := (4294967295 : Int64)) hx hb hown (hts _ kw_1687) dL_law_441 ?_
        refine lv_land hx hb dL_law_444 ?_
        refine lv_lor hx hb dL_law_445 ?_
        refine lv_aload_n hx hb dL_law_446 rfl (lv_at hl 0 rfl) ?_
        refine lv_iload_n hx hb dL_law_447 rfl (lv_at hl 3 rfl) ?_
        refine lv_iconst (v := (5 : Int32)) hx hb dL_law_448 (by decide) ?_
        refine lv_iadd hx hb dL_law_449 ?_
        refine va_sld hx hb hX hbl hbA hS (lw_ix (j := 5) hL9 hlt (by decide)) dL_law_450 ?_
        refine lf_i C1 hP hD hS (lm_run (As := [.int (xs ((nI k) + (1 : Int32)).toNatClampNeg), .int (xs ((nI k) + (2 : Int32)).toNatClampNeg), .long ((((xs ((nI k) + (3 : Int32)).toNatClampNeg).toInt64) <<< ((32 : Int32).toInt64 &&& 63)) ||| (((xs ((nI k) + (4 : Int32)).toNatClampNeg).toInt64) &&& (4294967295 : Int64))), .int (xs ((nI k) + (5 : Int32)).toNatClampNeg)]) (rest := [.int r]) (ci := 10) C1 hcm (cwV 4 hts (g_V kw_1528 kw_1529 kw_1530 kw_83 kw_1531) rfl rfl rfl hd_X12_takeBack ⟨Nat.le_of_ble_eq_true rfl, Nat.le_of_ble_eq_true rfl⟩) hP hD hS rfl hfm rfl rfl hl (Nat.le_of_ble_eq_true rfl) dL_law_451 ⟨Nat.le_of_ble_eq_true rfl, Nat.le_of_ble_eq_true rfl⟩) (fun H locs hP hD hS => ?_)
        refine lv_icmp_eq (tgt := 1266) hx hb dL_law_454 (by decide) (fun c9 => ?_) (fun c9 => absurd rfl c9)
        obtain ⟨k9, ek9⟩ : ∃ z : Int32, z = nI (k + 9) := ⟨_, rfl⟩
        refine lv_iinc (v := nI (k + 9)) (lv' := [(3, .int (nI (k + 9))), (0, .ref b), (1, .ref x), (2, .ref mm)]) hx hb dL_law_1266 hl (k := 3) rfl (by rw [show Int32.ofInt 9 = nI 9 from rfl, nI_add]) (by decide) rfl (fun ls hl => ?_)
        refine lv_goto (tgt := 18) hx hb dL_law_1269 (by decide) ?_
        exact ih (k + 9) (by omega) (by omega) wx1 wm1 hI1 H locs ls hP hD hS (lv_sub hl [1, 2, 3, 0] rfl)
      have hc_9 : ∀ (H : Heap) (locs : List Loc) (ls : Array Slot), va_P D vwCl (wx ++ wm) H → va_D (fun r : Nat => s.heap.size ≤ r) (wx ++ wm) → va_S (fun r : Nat => s.heap.size ≤ r) s.heap H locs → lv_has ls 4 [(0, .ref b), (1, .ref x), (2, .ref mm), (3, .int (nI k))] → W p l e room_1 s m #[Value.ref b] below meth c H locs 132 30000 (lw_Z below #[Value.ref b] s) (F0 m 459 ls []) := by
        intro H locs ls hP hD hS hl
        refine lv_aload_n hx hb dL_law_459 rfl (lv_at hl 1 rfl) ?_
        refine lv_aload_n hx hb dL_law_460 rfl (lv_at hl 0 rfl) ?_
        refine lv_iload_n hx hb dL_law_461 rfl (lv_at hl 3 rfl) ?_
        refine lv_iconst (v := (1 : Int32)) hx hb dL_law_462 (by decide) ?_
        refine lv_iadd hx hb dL_law_463 ?_
        refine va_sld hx hb hX hbl hbA hS (lw_ix (j := 1) hL9 hlt (by decide)) dL_law_464 ?_
        refine lv_aload_n hx hb dL_law_465 rfl (lv_at hl 0 rfl) ?_
        refine lv_iload_n hx hb dL_law_466 rfl (lv_at hl 3 rfl) ?_
        refine lv_iconst (v := (2 : Int32)) hx hb dL_law_467 (by decide) ?_
        refine lv_iadd hx hb dL_law_468 ?_
        refine va_sld hx hb hX hbl hbA hS (lw_ix (j := 2) hL9 hlt (by decide)) dL_law_469 ?_
        obtain ⟨r, wx1, wm1, hcx, hcm, hI1⟩ := o_lift wx wm hI (xs ((nI k) + (1 : Int32)).toNatClampNeg) (xs ((nI k) + (2 : Int32)).toNatClampNeg)
        refine lf_i C1 hP hD hS (lx_run (As := [.int (xs ((nI k) + (1 : Int32)).toNatClampNeg), .int (xs ((nI k) + (2 : Int32)).toNatClampNeg)]) (rest := []) (ci := 9) C1 hcx (cwV 2 hts (g_V kw_649 kw_650 kw_651 kw_72 kw_652) rfl rfl rfl hd_X11_lift ⟨Nat.le_of_ble_eq_true rfl, Nat.le_of_ble_eq_true rfl⟩) hP hD hS rfl hfx rfl rfl hl (Nat.le_of_ble_eq_true rfl) dL_law_470 ⟨Nat.le_of_ble_eq_true rfl, Nat.le_of_ble_eq_true rfl⟩) (fun H locs hP hD hS => ?_)
        refine lv_aload_n hx hb dL_law_473 rfl (lv_at hl 2 rfl) ?_
        refine lv_aload_n hx hb dL_law_474 rfl (lv_at hl 0 rfl) ?_
        refine lv_iload_n hx hb dL_law_475 rfl (lv_at hl 3 rfl) ?_
        refine lv_iconst (v := (1 : Int32)) hx hb dL_law_476 (by decide) ?_
        refine lv_iadd hx hb dL_law_477 ?_
        refine va_sld hx hb hX hbl hbA hS (lw_ix (j := 1) hL9 hlt (by decide)) dL_law_478 ?_
        refine lv_aload_n hx hb dL_law_479 rfl (lv_at hl 0 rfl) ?_
        refine lv_iload_n hx hb dL_law_480 rfl (lv_at hl 3 rfl) ?_
        refine lv_iconst (v := (2 : Int32)) hx hb dL_law_481 (by decide) ?_
        refine lv_iadd hx hb dL_law_482 ?_
        refine va_sld hx hb hX hbl hbA hS (lw_ix (j := 2) hL9 hlt (by decide)) dL_law_483 ?_
        refine lf_i C1 hP hD hS (lm_run (As := [.int (xs ((nI k) + (1 : Int32)).toNatClampNeg), .int (xs ((nI k) + (2 : Int32)).toNatClampNeg)]) (rest := [.int r]) (ci := 10) C1 hcm (cwV 2 hts (g_V kw_1532 kw_1533 kw_1534 kw_83 kw_1535) rfl rfl rfl hd_X12_lift ⟨Nat.le_of_ble_eq_true rfl, Nat.le_of_ble_eq_true rfl⟩) hP hD hS rfl hfm rfl rfl hl (Nat.le_of_ble_eq_true rfl) dL_law_484 ⟨Nat.le_of_ble_eq_true rfl, Nat.le_of_ble_eq_true rfl⟩) (fun H locs hP hD hS => ?_)
        refine lv_icmp_eq (tgt := 1266) hx hb dL_law_487 (by decide) (fun c9 => ?_) (fun c9 => absurd rfl c9)
        obtain ⟨k9, ek9⟩ : ∃ z : Int32, z = nI (k + 9) := ⟨_, rfl⟩
        refine lv_iinc (v := nI (k + 9)) (lv' := [(3, .int (nI (k + 9))), (0, .ref b), (1, .ref x), (2, .ref mm)]) hx hb dL_law_1266 hl (k := 3) rfl (by rw [show Int32.ofInt 9 = nI 9 from rfl, nI_add]) (by decide) rfl (fun ls hl => ?_)
        refine lv_goto (tgt := 18) hx hb dL_law_1269 (by decide) ?_
        exact ih (k + 9) (by omega) (by omega) wx1 wm1 hI1 H locs ls hP hD hS (lv_sub hl [1, 2, 3, 0] rfl)
      have hc_10 : ∀ (H : Heap) (locs : List Loc) (ls : Array Slot), va_P D vwCl (wx ++ wm) H → va_D (fun r : Nat => s.heap.size ≤ r) (wx ++ wm) → va_S (fun r : Nat => s.heap.size ≤ r) s.heap H locs → lv_has ls 4 [(0, .ref b), (1, .ref x), (2, .ref mm), (3, .int (nI k))] → W p l e room_1 s m #[Value.ref b] below meth c H locs 132 30000 (lw_Z below #[Value.ref b] s) (F0 m 492 ls []) := by
        intro H locs ls hP hD hS hl
        refine lv_aload_n hx hb dL_law_492 rfl (lv_at hl 1 rfl) ?_
        refine lv_aload_n hx hb dL_law_493 rfl (lv_at hl 0 rfl) ?_
        refine lv_iload_n hx hb dL_law_494 rfl (lv_at hl 3 rfl) ?_
        refine lv_iconst (v := (1 : Int32)) hx hb dL_law_495 (by decide) ?_
        refine lv_iadd hx hb dL_law_496 ?_
        refine va_sld hx hb hX hbl hbA hS (lw_ix (j := 1) hL9 hlt (by decide)) dL_law_497 ?_
        refine lv_aload_n hx hb dL_law_498 rfl (lv_at hl 0 rfl) ?_
        refine lv_iload_n hx hb dL_law_499 rfl (lv_at hl 3 rfl) ?_
        refine lv_iconst (v := (2 : Int32)) hx hb dL_law_500 (by decide) ?_
        refine lv_iadd hx hb dL_law_501 ?_
        refine va_sld hx hb hX hbl hbA hS (lw_ix (j := 2) hL9 hlt (by decide)) dL_law_502 ?_
        refine lv_aload_n hx hb dL_law_503 rfl (lv_at hl 0 rfl) ?_
        refine lv_iload_n hx hb dL_law_504 rfl (lv_at hl 3 rfl) ?_
        refine lv_iconst (v := (3 : Int32)) hx hb dL_law_505 (by decide) ?_
        refine lv_iadd hx hb dL_law_506 ?_
        refine va_sld hx hb hX hbl hbA hS (lw_ix (j := 3) hL9 hlt (by decide)) dL_law_507 ?_
        refine lv_aload_n hx hb dL_law_508 rfl (lv_at hl 0 rfl) ?_
        refine lv_iload_n hx hb dL_law_509 rfl (lv_at hl 3 rfl) ?_
        refine lv_iconst (v := (4 : Int32)) hx hb dL_law_510 (by decide) ?_
        refine lv_iadd hx hb dL_law_511 ?_
        refine va_sld hx hb hX hbl hbA hS (lw_ix (j := 4) hL9 hlt (by decide)) dL_law_512 ?_
        refine lv_i2l hx hb dL_law_513 rfl ?_
        refine lv_bipush (v := (32 : Int32)) hx hb dL_law_514 (by decide) ?_
        refine lv_lshl hx hb dL_law_516 rfl ?_
        refine lv_aload_n hx hb dL_law_517 rfl (lv_at hl 0 rfl) ?_
        refine lv_iload_n hx hb dL_law_518 rfl (lv_at hl 3 rfl) ?_
        refine lv_iconst (v := (5 : Int32)) hx hb dL_law_519 (by decide) ?_
        refine lv_iadd hx hb dL_law_520 ?_
        refine va_sld hx hb hX hbl hbA hS (lw_ix (j := 5) hL9 hlt (by decide)) dL_law_521 ?_
        refine lv_i2l hx hb dL_law_522 rfl ?_
        refine lv_ldc2 (v := (4294967295 : Int64)) hx hb hown (hts _ kw_1687) dL_law_523 ?_
        refine lv_land hx hb dL_law_526 ?_
        refine lv_lor hx hb dL_law_527 ?_
        refine lv_aload_n hx hb dL_law_528 rfl (lv_at hl 0 rfl) ?_
        refine lv_iload_n hx hb dL_law_529 rfl (lv_at hl 3 rfl) ?_
        refine lv_bipush (v := (6 : Int32)) hx hb dL_law_530 (by decide) ?_
        refine lv_iadd hx hb dL_law_532 ?_
        refine va_sld hx hb hX hbl hbA hS (lw_ix (j := 6) hL9 hlt (by decide)) dL_law_533 ?_
        refine lv_i2l hx hb dL_law_534 rfl ?_
        refine lv_bipush (v := (32 : Int32)) hx hb dL_law_535 (by decide) ?_
        refine lv_lshl hx hb dL_law_537 rfl ?_
        refine lv_aload_n hx hb dL_law_538 rfl (lv_at hl 0 rfl) ?_
        refine lv_iload_n hx hb dL_law_539 rfl (lv_at hl 3 rfl) ?_
        refine lv_bipush (v := (7 : Int32)) hx hb dL_law_540 (by decide) ?_
        refine lv_iadd hx hb dL_law_542 ?_
        refine va_sld hx hb hX hbl hbA hS (lw_ix (j := 7) hL9 hlt (by decide)) dL_law_543 ?_
        refine lv_i2l hx hb dL_law_544 rfl ?_
        refine lv_ldc2 (v := (4294967295 : Int64)) hx hb hown (hts _ kw_1687) dL_law_545 ?_
        refine lv_land hx hb dL_law_548 ?_
        refine lv_lor hx hb dL_law_549 ?_
        refine lv_aload_n hx hb dL_law_550 rfl (lv_at hl 0 rfl) ?_
        refine lv_iload_n hx hb dL_law_551 rfl (lv_at hl 3 rfl) ?_
        refine lv_bipush (v := (8 : Int32)) hx hb dL_law_552 (by decide) ?_
        refine lv_iadd hx hb dL_law_554 ?_
        refine va_sld hx hb hX hbl hbA hS (lw_ix (j := 8) hL9 hlt (by decide)) dL_law_555 ?_
        obtain ⟨r, wx1, wm1, hcx, hcm, hI1⟩ := o_signer wx wm hI (xs ((nI k) + (1 : Int32)).toNatClampNeg) (xs ((nI k) + (2 : Int32)).toNatClampNeg) (xs ((nI k) + (3 : Int32)).toNatClampNeg) ((((xs ((nI k) + (4 : Int32)).toNatClampNeg).toInt64) <<< ((32 : Int32).toInt64 &&& 63)) ||| (((xs ((nI k) + (5 : Int32)).toNatClampNeg).toInt64) &&& (4294967295 : Int64))) ((((xs ((nI k) + (6 : Int32)).toNatClampNeg).toInt64) <<< ((32 : Int32).toInt64 &&& 63)) ||| (((xs ((nI k) + (7 : Int32)).toNatClampNeg).toInt64) &&& (4294967295 : Int64))) (xs ((nI k) + (8 : Int32)).toNatClampNeg)
        refine lf_i C1 hP hD hS (lx_run (As := [.int (xs ((nI k) + (1 : Int32)).toNatClampNeg), .int (xs ((nI k) + (2 : Int32)).toNatClampNeg), .int (xs ((nI k) + (3 : Int32)).toNatClampNeg), .long ((((xs ((nI k) + (4 : Int32)).toNatClampNeg).toInt64) <<< ((32 : Int32).toInt64 &&& 63)) ||| (((xs ((nI k) + (5 : Int32)).toNatClampNeg).toInt64) &&& (4294967295 : Int64))), .long ((((xs ((nI k) + (6 : Int32)).toNatClampNeg).toInt64) <<< ((32 : Int32).toInt64 &&& 63)) ||| (((xs ((nI k) + (7 : Int32)).toNatClampNeg).toInt64) &&& (4294967295 : Int64))), .int (xs ((nI k) + (8 : Int32)).toNatClampNeg)]) (rest := []) (ci := 9) C1 hcx (cwV 6 hts (g_V kw_653 kw_654 kw_655 kw_72 kw_656) rfl rfl rfl hd_X11_signer ⟨Nat.le_of_ble_eq_true rfl, Nat.le_of_ble_eq_true rfl⟩) hP hD hS rfl hfx rfl rfl hl (Nat.le_of_ble_eq_true rfl) dL_law_556 ⟨Nat.le_of_ble_eq_true rfl, Nat.le_of_ble_eq_true rfl⟩) (fun H locs hP hD hS => ?_)
        refine lv_aload_n hx hb dL_law_559 rfl (lv_at hl 2 rfl) ?_
        refine lv_aload_n hx hb dL_law_560 rfl (lv_at hl 0 rfl) ?_
        refine lv_iload_n hx hb dL_law_561 rfl (lv_at hl 3 rfl) ?_
        refine lv_iconst (v := (1 : Int32)) hx hb dL_law_562 (by decide) ?_
        refine lv_iadd hx hb dL_law_563 ?_
        refine va_sld hx hb hX hbl hbA hS (lw_ix (j := 1) hL9 hlt (by decide)) dL_law_564 ?_
        refine lv_aload_n hx hb dL_law_565 rfl (lv_at hl 0 rfl) ?_
        refine lv_iload_n hx hb dL_law_566 rfl (lv_at hl 3 rfl) ?_
        refine lv_iconst (v := (2 : Int32)) hx hb dL_law_567 (by decide) ?_
        refine lv_iadd hx hb dL_law_568 ?_
        refine va_sld hx hb hX hbl hbA hS (lw_ix (j := 2) hL9 hlt (by decide)) dL_law_569 ?_
        refine lv_aload_n hx hb dL_law_570 rfl (lv_at hl 0 rfl) ?_
        refine lv_iload_n hx hb dL_law_571 rfl (lv_at hl 3 rfl) ?_
        refine lv_iconst (v := (3 : Int32)) hx hb dL_law_572 (by decide) ?_
        refine lv_iadd hx hb dL_law_573 ?_
        refine va_sld hx hb hX hbl hbA hS (lw_ix (j := 3) hL9 hlt (by decide)) dL_law_574 ?_
        refine lv_aload_n hx hb dL_law_575 rfl (lv_at hl 0 rfl) ?_
        refine lv_iload_n hx hb dL_law_576 rfl (lv_at hl 3 rfl) ?_
        refine lv_iconst (v := (4 : Int32)) hx hb dL_law_577 (by decide) ?_
        refine lv_iadd hx hb dL_law_578 ?_
        refine va_sld hx hb hX hbl hbA hS (lw_ix (j := 4) hL9 hlt (by decide)) dL_law_579 ?_
        refine lv_i2l hx hb dL_law_580 rfl ?_
        refine lv_bipush (v := (32 : Int32)) hx hb dL_law_581 (by decide) ?_
        refine lv_lshl hx hb dL_law_583 rfl ?_
        refine lv_aload_n hx hb dL_law_584 rfl (lv_at hl 0 rfl) ?_
        refine lv_iload_n hx hb dL_law_585 rfl (lv_at hl 3 rfl) ?_
        refine lv_iconst (v := (5 : Int32)) hx hb dL_law_586 (by decide) ?_
        refine lv_iadd hx hb dL_law_587 ?_
        refine va_sld hx hb hX hbl hbA hS (lw_ix (j := 5) hL9 hlt (by decide)) dL_law_588 ?_
        refine lv_i2l hx hb dL_law_589 rfl ?_
        refine lv_ldc2 (v := (4294967295 : Int64)) hx hb hown (hts _ kw_1687) dL_law_590 ?_
        refine lv_land hx hb dL_law_593 ?_
        refine lv_lor hx hb dL_law_594 ?_
        refine lv_aload_n hx hb dL_law_595 rfl (lv_at hl 0 rfl) ?_
        refine lv_iload_n hx hb dL_law_596 rfl (lv_at hl 3 rfl) ?_
        refine lv_bipush (v := (6 : Int32)) hx hb dL_law_597 (by decide) ?_
        refine lv_iadd hx hb dL_law_599 ?_
        refine va_sld hx hb hX hbl hbA hS (lw_ix (j := 6) hL9 hlt (by decide)) dL_law_600 ?_
        refine lv_i2l hx hb dL_law_601 rfl ?_
        refine lv_bipush (v := (32 : Int32)) hx hb dL_law_602 (by decide) ?_
        refine lv_lshl hx hb dL_law_604 rfl ?_
        refine lv_aload_n hx hb dL_law_605 rfl (lv_at hl 0 rfl) ?_
        refine lv_iload_n hx hb dL_law_606 rfl (lv_at hl 3 rfl) ?_
        refine lv_bipush (v := (7 : Int32)) hx hb dL_law_607 (by decide) ?_
        refine lv_iadd hx hb dL_law_609 ?_
        refine va_sld hx hb hX hbl hbA hS (lw_ix (j := 7) hL9 hlt (by decide)) dL_law_610 ?_
        refine lv_i2l hx hb dL_law_611 rfl ?_
        refine lv_ldc2 (v := (4294967295 : Int64)) hx hb hown (hts _ kw_1687) dL_law_612 ?_
        refine lv_land hx hb dL_law_615 ?_
        refine lv_lor hx hb dL_law_616 ?_
        refine lv_aload_n hx hb dL_law_617 rfl (lv_at hl 0 rfl) ?_
        refine lv_iload_n hx hb dL_law_618 rfl (lv_at hl 3 rfl) ?_
        refine lv_bipush (v := (8 : Int32)) hx hb dL_law_619 (by decide) ?_
        refine lv_iadd hx hb dL_law_621 ?_
        refine va_sld hx hb hX hbl hbA hS (lw_ix (j := 8) hL9 hlt (by decide)) dL_law_622 ?_
        refine lf_i C1 hP hD hS (lm_run (As := [.int (xs ((nI k) + (1 : Int32)).toNatClampNeg), .int (xs ((nI k) + (2 : Int32)).toNatClampNeg), .int (xs ((nI k) + (3 : Int32)).toNatClampNeg), .long ((((xs ((nI k) + (4 : Int32)).toNatClampNeg).toInt64) <<< ((32 : Int32).toInt64 &&& 63)) ||| (((xs ((nI k) + (5 : Int32)).toNatClampNeg).toInt64) &&& (4294967295 : Int64))), .long ((((xs ((nI k) + (6 : Int32)).toNatClampNeg).toInt64) <<< ((32 : Int32).toInt64 &&& 63)) ||| (((xs ((nI k) + (7 : Int32)).toNatClampNeg).toInt64) &&& (4294967295 : Int64))), .int (xs ((nI k) + (8 : Int32)).toNatClampNeg)]) (rest := [.int r]) (ci := 10) C1 hcm (cwV 6 hts (g_V kw_1536 kw_1537 kw_1538 kw_83 kw_1539) rfl rfl rfl hd_X12_signer ⟨Nat.le_of_ble_eq_true rfl, Nat.le_of_ble_eq_true rfl⟩) hP hD hS rfl hfm rfl rfl hl (Nat.le_of_ble_eq_true rfl) dL_law_623 ⟨Nat.le_of_ble_eq_true rfl, Nat.le_of_ble_eq_true rfl⟩) (fun H locs hP hD hS => ?_)
        refine lv_icmp_eq (tgt := 1266) hx hb dL_law_626 (by decide) (fun c9 => ?_) (fun c9 => absurd rfl c9)
        obtain ⟨k9, ek9⟩ : ∃ z : Int32, z = nI (k + 9) := ⟨_, rfl⟩
        refine lv_iinc (v := nI (k + 9)) (lv' := [(3, .int (nI (k + 9))), (0, .ref b), (1, .ref x), (2, .ref mm)]) hx hb dL_law_1266 hl (k := 3) rfl (by rw [show Int32.ofInt 9 = nI 9 from rfl, nI_add]) (by decide) rfl (fun ls hl => ?_)
        refine lv_goto (tgt := 18) hx hb dL_law_1269 (by decide) ?_
        exact ih (k + 9) (by omega) (by omega) wx1 wm1 hI1 H locs ls hP hD hS (lv_sub hl [1, 2, 3, 0] rfl)
      have hc_11 : ∀ (H : Heap) (locs : List Loc) (ls : Array Slot), va_P D vwCl (wx ++ wm) H → va_D (fun r : Nat => s.heap.size ≤ r) (wx ++ wm) → va_S (fun r : Nat => s.heap.size ≤ r) s.heap H locs → lv_has ls 4 [(0, .ref b), (1, .ref x), (2, .ref mm), (3, .int (nI k))] → W p l e room_1 s m #[Value.ref b] below meth c H locs 132 30000 (lw_Z below #[Value.ref b] s) (F0 m 631 ls []) := by
        intro H locs ls hP hD hS hl
        refine lv_aload_n hx hb dL_law_631 rfl (lv_at hl 1 rfl) ?_
        refine lv_aload_n hx hb dL_law_632 rfl (lv_at hl 0 rfl) ?_
        refine lv_iload_n hx hb dL_law_633 rfl (lv_at hl 3 rfl) ?_
        refine lv_iconst (v := (1 : Int32)) hx hb dL_law_634 (by decide) ?_
        refine lv_iadd hx hb dL_law_635 ?_
        refine va_sld hx hb hX hbl hbA hS (lw_ix (j := 1) hL9 hlt (by decide)) dL_law_636 ?_
        obtain ⟨r, wx1, wm1, hcx, hcm, hI1⟩ := o_cert wx wm hI (xs ((nI k) + (1 : Int32)).toNatClampNeg)
        refine lf_i C1 hP hD hS (lx_run (As := [.int (xs ((nI k) + (1 : Int32)).toNatClampNeg)]) (rest := []) (ci := 9) C1 hcx (cwV 1 hts (g_V kw_736 kw_737 kw_738 kw_72 kw_739) rfl rfl rfl hd_X11_cert ⟨Nat.le_of_ble_eq_true rfl, Nat.le_of_ble_eq_true rfl⟩) hP hD hS rfl hfx rfl rfl hl (Nat.le_of_ble_eq_true rfl) dL_law_637 ⟨Nat.le_of_ble_eq_true rfl, Nat.le_of_ble_eq_true rfl⟩) (fun H locs hP hD hS => ?_)
        refine lv_aload_n hx hb dL_law_640 rfl (lv_at hl 2 rfl) ?_
        refine lv_aload_n hx hb dL_law_641 rfl (lv_at hl 0 rfl) ?_
        refine lv_iload_n hx hb dL_law_642 rfl (lv_at hl 3 rfl) ?_
        refine lv_iconst (v := (1 : Int32)) hx hb dL_law_643 (by decide) ?_
        refine lv_iadd hx hb dL_law_644 ?_
        refine va_sld hx hb hX hbl hbA hS (lw_ix (j := 1) hL9 hlt (by decide)) dL_law_645 ?_
        refine lf_i C1 hP hD hS (lm_run (As := [.int (xs ((nI k) + (1 : Int32)).toNatClampNeg)]) (rest := [.int r]) (ci := 10) C1 hcm (cwV 1 hts (g_V kw_1584 kw_1585 kw_1586 kw_83 kw_1587) rfl rfl rfl hd_X12_cert ⟨Nat.le_of_ble_eq_true rfl, Nat.le_of_ble_eq_true rfl⟩) hP hD hS rfl hfm rfl rfl hl (Nat.le_of_ble_eq_true rfl) dL_law_646 ⟨Nat.le_of_ble_eq_true rfl, Nat.le_of_ble_eq_true rfl⟩) (fun H locs hP hD hS => ?_)
        refine lv_icmp_eq (tgt := 1266) hx hb dL_law_649 (by decide) (fun c9 => ?_) (fun c9 => absurd rfl c9)
        obtain ⟨k9, ek9⟩ : ∃ z : Int32, z = nI (k + 9) := ⟨_, rfl⟩
        refine lv_iinc (v := nI (k + 9)) (lv' := [(3, .int (nI (k + 9))), (0, .ref b), (1, .ref x), (2, .ref mm)]) hx hb dL_law_1266 hl (k := 3) rfl (by rw [show Int32.ofInt 9 = nI 9 from rfl, nI_add]) (by decide) rfl (fun ls hl => ?_)
        refine lv_goto (tgt := 18) hx hb dL_law_1269 (by decide) ?_
        exact ih (k + 9) (by omega) (by omega) wx1 wm1 hI1 H locs ls hP hD hS (lv_sub hl [1, 2, 3, 0] rfl)
      have hc_12 : ∀ (H : Heap) (locs : List Loc) (ls : Array Slot), va_P D vwCl (wx ++ wm) H → va_D (fun r : Nat => s.heap.size ≤ r) (wx ++ wm) → va_S (fun r : Nat => s.heap.size ≤ r) s.heap H locs → lv_has ls 4 [(0, .ref b), (1, .ref x), (2, .ref mm), (3, .int (nI k))] → W p l e room_1 s m #[Value.ref b] below meth c H locs 132 30000 (lw_Z below #[Value.ref b] s) (F0 m 654 ls []) := by
        intro H locs ls hP hD hS hl
        refine lv_aload_n hx hb dL_law_654 rfl (lv_at hl 1 rfl) ?_
        refine lv_aload_n hx hb dL_law_655 rfl (lv_at hl 0 rfl) ?_
        refine lv_iload_n hx hb dL_law_656 rfl (lv_at hl 3 rfl) ?_
        refine lv_iconst (v := (1 : Int32)) hx hb dL_law_657 (by decide) ?_
        refine lv_iadd hx hb dL_law_658 ?_
        refine va_sld hx hb hX hbl hbA hS (lw_ix (j := 1) hL9 hlt (by decide)) dL_law_659 ?_
        refine lv_aload_n hx hb dL_law_660 rfl (lv_at hl 0 rfl) ?_
        refine lv_iload_n hx hb dL_law_661 rfl (lv_at hl 3 rfl) ?_
        refine lv_iconst (v := (2 : Int32)) hx hb dL_law_662 (by decide) ?_
        refine lv_iadd hx hb dL_law_663 ?_
        refine va_sld hx hb hX hbl hbA hS (lw_ix (j := 2) hL9 hlt (by decide)) dL_law_664 ?_
        obtain ⟨r, wx1, wm1, hcx, hcm, hI1⟩ := o_want wx wm hI (xs ((nI k) + (1 : Int32)).toNatClampNeg) (xs ((nI k) + (2 : Int32)).toNatClampNeg)
        refine lf_i C1 hP hD hS (lx_run (As := [.int (xs ((nI k) + (1 : Int32)).toNatClampNeg), .int (xs ((nI k) + (2 : Int32)).toNatClampNeg)]) (rest := []) (ci := 9) C1 hcx (cwV 2 hts (g_V kw_744 kw_745 kw_746 kw_72 kw_747) rfl rfl rfl hd_X11_want ⟨Nat.le_of_ble_eq_true rfl, Nat.le_of_ble_eq_true rfl⟩) hP hD hS rfl hfx rfl rfl hl (Nat.le_of_ble_eq_true rfl) dL_law_665 ⟨Nat.le_of_ble_eq_true rfl, Nat.le_of_ble_eq_true rfl⟩) (fun H locs hP hD hS => ?_)
        refine lv_aload_n hx hb dL_law_668 rfl (lv_at hl 2 rfl) ?_
        refine lv_aload_n hx hb dL_law_669 rfl (lv_at hl 0 rfl) ?_
        refine lv_iload_n hx hb dL_law_670 rfl (lv_at hl 3 rfl) ?_
        refine lv_iconst (v := (1 : Int32)) hx hb dL_law_671 (by decide) ?_
        refine lv_iadd hx hb dL_law_672 ?_
        refine va_sld hx hb hX hbl hbA hS (lw_ix (j := 1) hL9 hlt (by decide)) dL_law_673 ?_
        refine lv_aload_n hx hb dL_law_674 rfl (lv_at hl 0 rfl) ?_
        refine lv_iload_n hx hb dL_law_675 rfl (lv_at hl 3 rfl) ?_
        refine lv_iconst (v := (2 : Int32)) hx hb dL_law_676 (by decide) ?_
        refine lv_iadd hx hb dL_law_677 ?_
        refine va_sld hx hb hX hbl hbA hS (lw_ix (j := 2) hL9 hlt (by decide)) dL_law_678 ?_
        refine lf_i C1 hP hD hS (lm_run (As := [.int (xs ((nI k) + (1 : Int32)).toNatClampNeg), .int (xs ((nI k) + (2 : Int32)).toNatClampNeg)]) (rest := [.int r]) (ci := 10) C1 hcm (cwV 2 hts (g_V kw_1588 kw_1589 kw_1590 kw_83 kw_1591) rfl rfl rfl hd_X12_want ⟨Nat.le_of_ble_eq_true rfl, Nat.le_of_ble_eq_true rfl⟩) hP hD hS rfl hfm rfl rfl hl (Nat.le_of_ble_eq_true rfl) dL_law_679 ⟨Nat.le_of_ble_eq_true rfl, Nat.le_of_ble_eq_true rfl⟩) (fun H locs hP hD hS => ?_)
        refine lv_icmp_eq (tgt := 1266) hx hb dL_law_682 (by decide) (fun c9 => ?_) (fun c9 => absurd rfl c9)
        obtain ⟨k9, ek9⟩ : ∃ z : Int32, z = nI (k + 9) := ⟨_, rfl⟩
        refine lv_iinc (v := nI (k + 9)) (lv' := [(3, .int (nI (k + 9))), (0, .ref b), (1, .ref x), (2, .ref mm)]) hx hb dL_law_1266 hl (k := 3) rfl (by rw [show Int32.ofInt 9 = nI 9 from rfl, nI_add]) (by decide) rfl (fun ls hl => ?_)
        refine lv_goto (tgt := 18) hx hb dL_law_1269 (by decide) ?_
        exact ih (k + 9) (by omega) (by omega) wx1 wm1 hI1 H locs ls hP hD hS (lv_sub hl [1, 2, 3, 0] rfl)
      have hc_13 : ∀ (H : Heap) (locs : List Loc) (ls : Array Slot), va_P D vwCl (wx ++ wm) H → va_D (fun r : Nat => s.heap.size ≤ r) (wx ++ wm) → va_S (fun r : Nat => s.heap.size ≤ r) s.heap H locs → lv_has ls 4 [(0, .ref b), (1, .ref x), (2, .ref mm), (3, .int (nI k))] → W p l e room_1 s m #[Value.ref b] below meth c H locs 132 30000 (lw_Z below #[Value.ref b] s) (F0 m 687 ls []) := by
        intro H locs ls hP hD hS hl
        refine lv_aload_n hx hb dL_law_687 rfl (lv_at hl 1 rfl) ?_
        refine lv_aload_n hx hb dL_law_688 rfl (lv_at hl 0 rfl) ?_
        refine lv_iload_n hx hb dL_law_689 rfl (lv_at hl 3 rfl) ?_
        refine lv_iconst (v := (1 : Int32)) hx hb dL_law_690 (by decide) ?_
        refine lv_iadd hx hb dL_law_691 ?_
        refine va_sld hx hb hX hbl hbA hS (lw_ix (j := 1) hL9 hlt (by decide)) dL_law_692 ?_
        refine lv_i2l hx hb dL_law_693 rfl ?_
        refine lv_bipush (v := (32 : Int32)) hx hb dL_law_694 (by decide) ?_
        refine lv_lshl hx hb dL_law_696 rfl ?_
        refine lv_aload_n hx hb dL_law_697 rfl (lv_at hl 0 rfl) ?_
        refine lv_iload_n hx hb dL_law_698 rfl (lv_at hl 3 rfl) ?_
        refine lv_iconst (v := (2 : Int32)) hx hb dL_law_699 (by decide) ?_
        refine lv_iadd hx hb dL_law_700 ?_
        refine va_sld hx hb hX hbl hbA hS (lw_ix (j := 2) hL9 hlt (by decide)) dL_law_701 ?_
        refine lv_i2l hx hb dL_law_702 rfl ?_
        refine lv_ldc2 (v := (4294967295 : Int64)) hx hb hown (hts _ kw_1687) dL_law_703 ?_
        refine lv_land hx hb dL_law_706 ?_
        refine lv_lor hx hb dL_law_707 ?_
        refine lv_aload_n hx hb dL_law_708 rfl (lv_at hl 0 rfl) ?_
        refine lv_iload_n hx hb dL_law_709 rfl (lv_at hl 3 rfl) ?_
        refine lv_iconst (v := (3 : Int32)) hx hb dL_law_710 (by decide) ?_
        refine lv_iadd hx hb dL_law_711 ?_
        refine va_sld hx hb hX hbl hbA hS (lw_ix (j := 3) hL9 hlt (by decide)) dL_law_712 ?_
        obtain ⟨r, wx1, wm1, hcx, hcm, hI1⟩ := o_nonce wx wm hI ((((xs ((nI k) + (1 : Int32)).toNatClampNeg).toInt64) <<< ((32 : Int32).toInt64 &&& 63)) ||| (((xs ((nI k) + (2 : Int32)).toNatClampNeg).toInt64) &&& (4294967295 : Int64))) (xs ((nI k) + (3 : Int32)).toNatClampNeg)
        refine lf_i C1 hP hD hS (lx_run (As := [.long ((((xs ((nI k) + (1 : Int32)).toNatClampNeg).toInt64) <<< ((32 : Int32).toInt64 &&& 63)) ||| (((xs ((nI k) + (2 : Int32)).toNatClampNeg).toInt64) &&& (4294967295 : Int64))), .int (xs ((nI k) + (3 : Int32)).toNatClampNeg)]) (rest := []) (ci := 9) C1 hcx (cwV 2 hts (g_V kw_752 kw_753 kw_754 kw_72 kw_755) rfl rfl rfl hd_X11_nonce ⟨Nat.le_of_ble_eq_true rfl, Nat.le_of_ble_eq_true rfl⟩) hP hD hS rfl hfx rfl rfl hl (Nat.le_of_ble_eq_true rfl) dL_law_713 ⟨Nat.le_of_ble_eq_true rfl, Nat.le_of_ble_eq_true rfl⟩) (fun H locs hP hD hS => ?_)
        refine lv_aload_n hx hb dL_law_716 rfl (lv_at hl 2 rfl) ?_
        refine lv_aload_n hx hb dL_law_717 rfl (lv_at hl 0 rfl) ?_
        refine lv_iload_n hx hb dL_law_718 rfl (lv_at hl 3 rfl) ?_
        refine lv_iconst (v := (1 : Int32)) hx hb dL_law_719 (by decide) ?_
        refine lv_iadd hx hb dL_law_720 ?_
        refine va_sld hx hb hX hbl hbA hS (lw_ix (j := 1) hL9 hlt (by decide)) dL_law_721 ?_
        refine lv_i2l hx hb dL_law_722 rfl ?_
        refine lv_bipush (v := (32 : Int32)) hx hb dL_law_723 (by decide) ?_
        refine lv_lshl hx hb dL_law_725 rfl ?_
        refine lv_aload_n hx hb dL_law_726 rfl (lv_at hl 0 rfl) ?_
        refine lv_iload_n hx hb dL_law_727 rfl (lv_at hl 3 rfl) ?_
        refine lv_iconst (v := (2 : Int32)) hx hb dL_law_728 (by decide) ?_
        refine lv_iadd hx hb dL_law_729 ?_
        refine va_sld hx hb hX hbl hbA hS (lw_ix (j := 2) hL9 hlt (by decide)) dL_law_730 ?_
        refine lv_i2l hx hb dL_law_731 rfl ?_
        refine lv_ldc2 (v := (4294967295 : Int64)) hx hb hown (hts _ kw_1687) dL_law_732 ?_
        refine lv_land hx hb dL_law_735 ?_
        refine lv_lor hx hb dL_law_736 ?_
        refine lv_aload_n hx hb dL_law_737 rfl (lv_at hl 0 rfl) ?_
        refine lv_iload_n hx hb dL_law_738 rfl (lv_at hl 3 rfl) ?_
        refine lv_iconst (v := (3 : Int32)) hx hb dL_law_739 (by decide) ?_
        refine lv_iadd hx hb dL_law_740 ?_
        refine va_sld hx hb hX hbl hbA hS (lw_ix (j := 3) hL9 hlt (by decide)) dL_law_741 ?_
        refine lf_i C1 hP hD hS (lm_run (As := [.long ((((xs ((nI k) + (1 : Int32)).toNatClampNeg).toInt64) <<< ((32 : Int32).toInt64 &&& 63)) ||| (((xs ((nI k) + (2 : Int32)).toNatClampNeg).toInt64) &&& (4294967295 : Int64))), .int (xs ((nI k) + (3 : Int32)).toNatClampNeg)]) (rest := [.int r]) (ci := 10) C1 hcm (cwV 2 hts (g_V kw_1592 kw_1593 kw_1594 kw_83 kw_1595) rfl rfl rfl hd_X12_nonce ⟨Nat.le_of_ble_eq_true rfl, Nat.le_of_ble_eq_true rfl⟩) hP hD hS rfl hfm rfl rfl hl (Nat.le_of_ble_eq_true rfl) dL_law_742 ⟨Nat.le_of_ble_eq_true rfl, Nat.le_of_ble_eq_true rfl⟩) (fun H locs hP hD hS => ?_)
        refine lv_icmp_eq (tgt := 1266) hx hb dL_law_745 (by decide) (fun c9 => ?_) (fun c9 => absurd rfl c9)
        obtain ⟨k9, ek9⟩ : ∃ z : Int32, z = nI (k + 9) := ⟨_, rfl⟩
        refine lv_iinc (v := nI (k + 9)) (lv' := [(3, .int (nI (k + 9))), (0, .ref b), (1, .ref x), (2, .ref mm)]) hx hb dL_law_1266 hl (k := 3) rfl (by rw [show Int32.ofInt 9 = nI 9 from rfl, nI_add]) (by decide) rfl (fun ls hl => ?_)
        refine lv_goto (tgt := 18) hx hb dL_law_1269 (by decide) ?_
        exact ih (k + 9) (by omega) (by omega) wx1 wm1 hI1 H locs ls hP hD hS (lv_sub hl [1, 2, 3, 0] rfl)
      have hc_14 : ∀ (H : Heap) (locs : List Loc) (ls : Array Slot), va_P D vwCl (wx ++ wm) H → va_D (fun r : Nat => s.heap.size ≤ r) (wx ++ wm) → va_S (fun r : Nat => s.heap.size ≤ r) s.heap H locs → lv_has ls 4 [(0, .ref b), (1, .ref x), (2, .ref mm), (3, .int (nI k))] → W p l e room_1 s m #[Value.ref b] below meth c H locs 132 30000 (lw_Z below #[Value.ref b] s) (F0 m 750 ls []) := by
        intro H locs ls hP hD hS hl
        refine lv_aload_n hx hb dL_law_750 rfl (lv_at hl 1 rfl) ?_
        obtain ⟨r, wx1, wm1, hcx, hcm, hI1⟩ := o_ask wx wm hI 
        refine lf_i C1 hP hD hS (lx_run (As := []) (rest := []) (ci := 9) C1 hcx (cwV 0 hts (g_V kw_756 kw_757 kw_758 kw_72 kw_759) rfl rfl rfl hd_X11_ask ⟨Nat.le_of_ble_eq_true rfl, Nat.le_of_ble_eq_true rfl⟩) hP hD hS rfl hfx rfl rfl hl (Nat.le_of_ble_eq_true rfl) dL_law_751 ⟨Nat.le_of_ble_eq_true rfl, Nat.le_of_ble_eq_true rfl⟩) (fun H locs hP hD hS => ?_)
        refine lv_aload_n hx hb dL_law_754 rfl (lv_at hl 2 rfl) ?_
        refine lf_i C1 hP hD hS (lm_run (As := []) (rest := [.int r]) (ci := 10) C1 hcm (cwV 0 hts (g_V kw_1596 kw_1597 kw_1598 kw_83 kw_1599) rfl rfl rfl hd_X12_ask ⟨Nat.le_of_ble_eq_true rfl, Nat.le_of_ble_eq_true rfl⟩) hP hD hS rfl hfm rfl rfl hl (Nat.le_of_ble_eq_true rfl) dL_law_755 ⟨Nat.le_of_ble_eq_true rfl, Nat.le_of_ble_eq_true rfl⟩) (fun H locs hP hD hS => ?_)
        refine lv_icmp_eq (tgt := 1266) hx hb dL_law_758 (by decide) (fun c9 => ?_) (fun c9 => absurd rfl c9)
        obtain ⟨k9, ek9⟩ : ∃ z : Int32, z = nI (k + 9) := ⟨_, rfl⟩
        refine lv_iinc (v := nI (k + 9)) (lv' := [(3, .int (nI (k + 9))), (0, .ref b), (1, .ref x), (2, .ref mm)]) hx hb dL_law_1266 hl (k := 3) rfl (by rw [show Int32.ofInt 9 = nI 9 from rfl, nI_add]) (by decide) rfl (fun ls hl => ?_)
        refine lv_goto (tgt := 18) hx hb dL_law_1269 (by decide) ?_
        exact ih (k + 9) (by omega) (by omega) wx1 wm1 hI1 H locs ls hP hD hS (lv_sub hl [1, 2, 3, 0] rfl)
      have hc_15 : ∀ (H : Heap) (locs : List Loc) (ls : Array Slot), va_P D vwCl (wx ++ wm) H → va_D (fun r : Nat => s.heap.size ≤ r) (wx ++ wm) → va_S (fun r : Nat => s.heap.size ≤ r) s.heap H locs → lv_has ls 4 [(0, .ref b), (1, .ref x), (2, .ref mm), (3, .int (nI k))] → W p l e room_1 s m #[Value.ref b] below meth c H locs 132 30000 (lw_Z below #[Value.ref b] s) (F0 m 763 ls []) := by
        intro H locs ls hP hD hS hl
        refine lv_aload_n hx hb dL_law_763 rfl (lv_at hl 1 rfl) ?_
        refine lv_aload_n hx hb dL_law_764 rfl (lv_at hl 0 rfl) ?_
        refine lv_iload_n hx hb dL_law_765 rfl (lv_at hl 3 rfl) ?_
        refine lv_iconst (v := (1 : Int32)) hx hb dL_law_766 (by decide) ?_
        refine lv_iadd hx hb dL_law_767 ?_
        refine va_sld hx hb hX hbl hbA hS (lw_ix (j := 1) hL9 hlt (by decide)) dL_law_768 ?_
        refine lv_aload_n hx hb dL_law_769 rfl (lv_at hl 0 rfl) ?_
        refine lv_iload_n hx hb dL_law_770 rfl (lv_at hl 3 rfl) ?_
        refine lv_iconst (v := (2 : Int32)) hx hb dL_law_771 (by decide) ?_
        refine lv_iadd hx hb dL_law_772 ?_
        refine va_sld hx hb hX hbl hbA hS (lw_ix (j := 2) hL9 hlt (by decide)) dL_law_773 ?_
        refine lv_i2l hx hb dL_law_774 rfl ?_
        refine lv_bipush (v := (32 : Int32)) hx hb dL_law_775 (by decide) ?_
        refine lv_lshl hx hb dL_law_777 rfl ?_
        refine lv_aload_n hx hb dL_law_778 rfl (lv_at hl 0 rfl) ?_
        refine lv_iload_n hx hb dL_law_779 rfl (lv_at hl 3 rfl) ?_
        refine lv_iconst (v := (3 : Int32)) hx hb dL_law_780 (by decide) ?_
        refine lv_iadd hx hb dL_law_781 ?_
        refine va_sld hx hb hX hbl hbA hS (lw_ix (j := 3) hL9 hlt (by decide)) dL_law_782 ?_
        refine lv_i2l hx hb dL_law_783 rfl ?_
        refine lv_ldc2 (v := (4294967295 : Int64)) hx hb hown (hts _ kw_1687) dL_law_784 ?_
        refine lv_land hx hb dL_law_787 ?_
        refine lv_lor hx hb dL_law_788 ?_
        refine lv_aload_n hx hb dL_law_789 rfl (lv_at hl 0 rfl) ?_
        refine lv_iload_n hx hb dL_law_790 rfl (lv_at hl 3 rfl) ?_
        refine lv_iconst (v := (4 : Int32)) hx hb dL_law_791 (by decide) ?_
        refine lv_iadd hx hb dL_law_792 ?_
        refine va_sld hx hb hX hbl hbA hS (lw_ix (j := 4) hL9 hlt (by decide)) dL_law_793 ?_
        refine lv_i2l hx hb dL_law_794 rfl ?_
        refine lv_bipush (v := (32 : Int32)) hx hb dL_law_795 (by decide) ?_
        refine lv_lshl hx hb dL_law_797 rfl ?_
        refine lv_aload_n hx hb dL_law_798 rfl (lv_at hl 0 rfl) ?_
        refine lv_iload_n hx hb dL_law_799 rfl (lv_at hl 3 rfl) ?_
        refine lv_iconst (v := (5 : Int32)) hx hb dL_law_800 (by decide) ?_
        refine lv_iadd hx hb dL_law_801 ?_
        refine va_sld hx hb hX hbl hbA hS (lw_ix (j := 5) hL9 hlt (by decide)) dL_law_802 ?_
        refine lv_i2l hx hb dL_law_803 rfl ?_
        refine lv_ldc2 (v := (4294967295 : Int64)) hx hb hown (hts _ kw_1687) dL_law_804 ?_
        refine lv_land hx hb dL_law_807 ?_
        refine lv_lor hx hb dL_law_808 ?_
        obtain ⟨r, wx1, wm1, hcx, hcm, hI1⟩ := o_answer wx wm hI (xs ((nI k) + (1 : Int32)).toNatClampNeg) ((((xs ((nI k) + (2 : Int32)).toNatClampNeg).toInt64) <<< ((32 : Int32).toInt64 &&& 63)) ||| (((xs ((nI k) + (3 : Int32)).toNatClampNeg).toInt64) &&& (4294967295 : Int64))) ((((xs ((nI k) + (4 : Int32)).toNatClampNeg).toInt64) <<< ((32 : Int32).toInt64 &&& 63)) ||| (((xs ((nI k) + (5 : Int32)).toNatClampNeg).toInt64) &&& (4294967295 : Int64)))
        refine lf_i C1 hP hD hS (lx_run (As := [.int (xs ((nI k) + (1 : Int32)).toNatClampNeg), .long ((((xs ((nI k) + (2 : Int32)).toNatClampNeg).toInt64) <<< ((32 : Int32).toInt64 &&& 63)) ||| (((xs ((nI k) + (3 : Int32)).toNatClampNeg).toInt64) &&& (4294967295 : Int64))), .long ((((xs ((nI k) + (4 : Int32)).toNatClampNeg).toInt64) <<< ((32 : Int32).toInt64 &&& 63)) ||| (((xs ((nI k) + (5 : Int32)).toNatClampNeg).toInt64) &&& (4294967295 : Int64)))]) (rest := []) (ci := 9) C1 hcx (cwV 3 hts (g_V kw_776 kw_777 kw_778 kw_72 kw_779) rfl rfl rfl hd_X11_answer ⟨Nat.le_of_ble_eq_true rfl, Nat.le_of_ble_eq_true rfl⟩) hP hD hS rfl hfx rfl rfl hl (Nat.le_of_ble_eq_true rfl) dL_law_809 ⟨Nat.le_of_ble_eq_true rfl, Nat.le_of_ble_eq_true rfl⟩) (fun H locs hP hD hS => ?_)
        refine lv_aload_n hx hb dL_law_812 rfl (lv_at hl 2 rfl) ?_
        refine lv_aload_n hx hb dL_law_813 rfl (lv_at hl 0 rfl) ?_
        refine lv_iload_n hx hb dL_law_814 rfl (lv_at hl 3 rfl) ?_
        refine lv_iconst (v := (1 : Int32)) hx hb dL_law_815 (by decide) ?_
        refine lv_iadd hx hb dL_law_816 ?_
        refine va_sld hx hb hX hbl hbA hS (lw_ix (j := 1) hL9 hlt (by decide)) dL_law_817 ?_
        refine lv_aload_n hx hb dL_law_818 rfl (lv_at hl 0 rfl) ?_
        refine lv_iload_n hx hb dL_law_819 rfl (lv_at hl 3 rfl) ?_
        refine lv_iconst (v := (2 : Int32)) hx hb dL_law_820 (by decide) ?_
        refine lv_iadd hx hb dL_law_821 ?_
        refine va_sld hx hb hX hbl hbA hS (lw_ix (j := 2) hL9 hlt (by decide)) dL_law_822 ?_
        refine lv_i2l hx hb dL_law_823 rfl ?_
        refine lv_bipush (v := (32 : Int32)) hx hb dL_law_824 (by decide) ?_
        refine lv_lshl hx hb dL_law_826 rfl ?_
        refine lv_aload_n hx hb dL_law_827 rfl (lv_at hl 0 rfl) ?_
        refine lv_iload_n hx hb dL_law_828 rfl (lv_at hl 3 rfl) ?_
        refine lv_iconst (v := (3 : Int32)) hx hb dL_law_829 (by decide) ?_
        refine lv_iadd hx hb dL_law_830 ?_
        refine va_sld hx hb hX hbl hbA hS (lw_ix (j := 3) hL9 hlt (by decide)) dL_law_831 ?_
        refine lv_i2l hx hb dL_law_832 rfl ?_
        refine lv_ldc2 (v := (4294967295 : Int64)) hx hb hown (hts _ kw_1687) dL_law_833 ?_
        refine lv_land hx hb dL_law_836 ?_
        refine lv_lor hx hb dL_law_837 ?_
        refine lv_aload_n hx hb dL_law_838 rfl (lv_at hl 0 rfl) ?_
        refine lv_iload_n hx hb dL_law_839 rfl (lv_at hl 3 rfl) ?_
        refine lv_iconst (v := (4 : Int32)) hx hb dL_law_840 (by decide) ?_
        refine lv_iadd hx hb dL_law_841 ?_
        refine va_sld hx hb hX hbl hbA hS (lw_ix (j := 4) hL9 hlt (by decide)) dL_law_842 ?_
        refine lv_i2l hx hb dL_law_843 rfl ?_
        refine lv_bipush (v := (32 : Int32)) hx hb dL_law_844 (by decide) ?_
        refine lv_lshl hx hb dL_law_846 rfl ?_
        refine lv_aload_n hx hb dL_law_847 rfl (lv_at hl 0 rfl) ?_
        refine lv_iload_n hx hb dL_law_848 rfl (lv_at hl 3 rfl) ?_
        refine lv_iconst (v := (5 : Int32)) hx hb dL_law_849 (by decide) ?_
        refine lv_iadd hx hb dL_law_850 ?_
        refine va_sld hx hb hX hbl hbA hS (lw_ix (j := 5) hL9 hlt (by decide)) dL_law_851 ?_
        refine lv_i2l hx hb dL_law_852 rfl ?_
        refine lv_ldc2 (v := (4294967295 : Int64)) hx hb hown (hts _ kw_1687) dL_law_853 ?_
        refine lv_land hx hb dL_law_856 ?_
        refine lv_lor hx hb dL_law_857 ?_
        refine lf_i C1 hP hD hS (lm_run (As := [.int (xs ((nI k) + (1 : Int32)).toNatClampNeg), .long ((((xs ((nI k) + (2 : Int32)).toNatClampNeg).toInt64) <<< ((32 : Int32).toInt64 &&& 63)) ||| (((xs ((nI k) + (3 : Int32)).toNatClampNeg).toInt64) &&& (4294967295 : Int64))), .long ((((xs ((nI k) + (4 : Int32)).toNatClampNeg).toInt64) <<< ((32 : Int32).toInt64 &&& 63)) ||| (((xs ((nI k) + (5 : Int32)).toNatClampNeg).toInt64) &&& (4294967295 : Int64)))]) (rest := [.int r]) (ci := 10) C1 hcm (cwV 3 hts (g_V kw_1616 kw_1617 kw_1618 kw_83 kw_1619) rfl rfl rfl hd_X12_answer ⟨Nat.le_of_ble_eq_true rfl, Nat.le_of_ble_eq_true rfl⟩) hP hD hS rfl hfm rfl rfl hl (Nat.le_of_ble_eq_true rfl) dL_law_858 ⟨Nat.le_of_ble_eq_true rfl, Nat.le_of_ble_eq_true rfl⟩) (fun H locs hP hD hS => ?_)
        refine lv_icmp_eq (tgt := 1266) hx hb dL_law_861 (by decide) (fun c9 => ?_) (fun c9 => absurd rfl c9)
        obtain ⟨k9, ek9⟩ : ∃ z : Int32, z = nI (k + 9) := ⟨_, rfl⟩
        refine lv_iinc (v := nI (k + 9)) (lv' := [(3, .int (nI (k + 9))), (0, .ref b), (1, .ref x), (2, .ref mm)]) hx hb dL_law_1266 hl (k := 3) rfl (by rw [show Int32.ofInt 9 = nI 9 from rfl, nI_add]) (by decide) rfl (fun ls hl => ?_)
        refine lv_goto (tgt := 18) hx hb dL_law_1269 (by decide) ?_
        exact ih (k + 9) (by omega) (by omega) wx1 wm1 hI1 H locs ls hP hD hS (lv_sub hl [1, 2, 3, 0] rfl)
      have hc_16 : ∀ (H : Heap) (locs : List Loc) (ls : Array Slot), va_P D vwCl (wx ++ wm) H → va_D (fun r : Nat => s.heap.size ≤ r) (wx ++ wm) → va_S (fun r : Nat => s.heap.size ≤ r) s.heap H locs → lv_has ls 4 [(0, .ref b), (1, .ref x), (2, .ref mm), (3, .int (nI k))] → W p l e room_1 s m #[Value.ref b] below meth c H locs 132 30000 (lw_Z below #[Value.ref b] s) (F0 m 866 ls []) := by
        intro H locs ls hP hD hS hl
        refine lv_aload_n hx hb dL_law_866 rfl (lv_at hl 1 rfl) ?_
        refine lv_aload_n hx hb dL_law_867 rfl (lv_at hl 0 rfl) ?_
        refine lv_iload_n hx hb dL_law_868 rfl (lv_at hl 3 rfl) ?_
        refine lv_iconst (v := (1 : Int32)) hx hb dL_law_869 (by decide) ?_
        refine lv_iadd hx hb dL_law_870 ?_
        refine va_sld hx hb hX hbl hbA hS (lw_ix (j := 1) hL9 hlt (by decide)) dL_law_871 ?_
        refine lv_aload_n hx hb dL_law_872 rfl (lv_at hl 0 rfl) ?_
        refine lv_iload_n hx hb dL_law_873 rfl (lv_at hl 3 rfl) ?_
        refine lv_iconst (v := (2 : Int32)) hx hb dL_law_874 (by decide) ?_
        refine lv_iadd hx hb dL_law_875 ?_
        refine va_sld hx hb hX hbl hbA hS (lw_ix (j := 2) hL9 hlt (by decide)) dL_law_876 ?_
        refine lv_aload_n hx hb dL_law_877 rfl (lv_at hl 0 rfl) ?_
        refine lv_iload_n hx hb dL_law_878 rfl (lv_at hl 3 rfl) ?_
        refine lv_iconst (v := (3 : Int32)) hx hb dL_law_879 (by decide) ?_
        refine lv_iadd hx hb dL_law_880 ?_
        refine va_sld hx hb hX hbl hbA hS (lw_ix (j := 3) hL9 hlt (by decide)) dL_law_881 ?_
        refine lv_i2l hx hb dL_law_882 rfl ?_
        refine lv_bipush (v := (32 : Int32)) hx hb dL_law_883 (by decide) ?_
        refine lv_lshl hx hb dL_law_885 rfl ?_
        refine lv_aload_n hx hb dL_law_886 rfl (lv_at hl 0 rfl) ?_
        refine lv_iload_n hx hb dL_law_887 rfl (lv_at hl 3 rfl) ?_
        refine lv_iconst (v := (4 : Int32)) hx hb dL_law_888 (by decide) ?_
        refine lv_iadd hx hb dL_law_889 ?_
        refine va_sld hx hb hX hbl hbA hS (lw_ix (j := 4) hL9 hlt (by decide)) dL_law_890 ?_
        refine lv_i2l hx hb dL_law_891 rfl ?_
        refine lv_ldc2 (v := (4294967295 : Int64)) hx hb hown (hts _ kw_1687) dL_law_892 ?_
        refine lv_land hx hb dL_law_895 ?_
        refine lv_lor hx hb dL_law_896 ?_
        refine lv_aload_n hx hb dL_law_897 rfl (lv_at hl 0 rfl) ?_
        refine lv_iload_n hx hb dL_law_898 rfl (lv_at hl 3 rfl) ?_
        refine lv_iconst (v := (5 : Int32)) hx hb dL_law_899 (by decide) ?_
        refine lv_iadd hx hb dL_law_900 ?_
        refine va_sld hx hb hX hbl hbA hS (lw_ix (j := 5) hL9 hlt (by decide)) dL_law_901 ?_
        refine lv_aload_n hx hb dL_law_902 rfl (lv_at hl 0 rfl) ?_
        refine lv_iload_n hx hb dL_law_903 rfl (lv_at hl 3 rfl) ?_
        refine lv_bipush (v := (6 : Int32)) hx hb dL_law_904 (by decide) ?_
        refine lv_iadd hx hb dL_law_906 ?_
        refine va_sld hx hb hX hbl hbA hS (lw_ix (j := 6) hL9 hlt (by decide)) dL_law_907 ?_
        obtain ⟨r, wx1, wm1, hcx, hcm, hI1⟩ := o_look wx wm hI (xs ((nI k) + (1 : Int32)).toNatClampNeg) (xs ((nI k) + (2 : Int32)).toNatClampNeg) ((((xs ((nI k) + (3 : Int32)).toNatClampNeg).toInt64) <<< ((32 : Int32).toInt64 &&& 63)) ||| (((xs ((nI k) + (4 : Int32)).toNatClampNeg).toInt64) &&& (4294967295 : Int64))) (xs ((nI k) + (5 : Int32)).toNatClampNeg) (xs ((nI k) + (6 : Int32)).toNatClampNeg)
        refine lf_i C1 hP hD hS (lx_run (As := [.int (xs ((nI k) + (1 : Int32)).toNatClampNeg), .int (xs ((nI k) + (2 : Int32)).toNatClampNeg), .long ((((xs ((nI k) + (3 : Int32)).toNatClampNeg).toInt64) <<< ((32 : Int32).toInt64 &&& 63)) ||| (((xs ((nI k) + (4 : Int32)).toNatClampNeg).toInt64) &&& (4294967295 : Int64))), .int (xs ((nI k) + (5 : Int32)).toNatClampNeg), .int (xs ((nI k) + (6 : Int32)).toNatClampNeg)]) (rest := []) (ci := 9) C1 hcx (cwV 5 hts (g_V kw_892 kw_893 kw_894 kw_72 kw_895) rfl rfl rfl hd_X11_look ⟨Nat.le_of_ble_eq_true rfl, Nat.le_of_ble_eq_true rfl⟩) hP hD hS rfl hfx rfl rfl hl (Nat.le_of_ble_eq_true rfl) dL_law_908 ⟨Nat.le_of_ble_eq_true rfl, Nat.le_of_ble_eq_true rfl⟩) (fun H locs hP hD hS => ?_)
        refine lv_aload_n hx hb dL_law_911 rfl (lv_at hl 2 rfl) ?_
        refine lv_aload_n hx hb dL_law_912 rfl (lv_at hl 0 rfl) ?_
        refine lv_iload_n hx hb dL_law_913 rfl (lv_at hl 3 rfl) ?_
        refine lv_iconst (v := (1 : Int32)) hx hb dL_law_914 (by decide) ?_
        refine lv_iadd hx hb dL_law_915 ?_
        refine va_sld hx hb hX hbl hbA hS (lw_ix (j := 1) hL9 hlt (by decide)) dL_law_916 ?_
        refine lv_aload_n hx hb dL_law_917 rfl (lv_at hl 0 rfl) ?_
        refine lv_iload_n hx hb dL_law_918 rfl (lv_at hl 3 rfl) ?_
        refine lv_iconst (v := (2 : Int32)) hx hb dL_law_919 (by decide) ?_
        refine lv_iadd hx hb dL_law_920 ?_
        refine va_sld hx hb hX hbl hbA hS (lw_ix (j := 2) hL9 hlt (by decide)) dL_law_921 ?_
        refine lv_aload_n hx hb dL_law_922 rfl (lv_at hl 0 rfl) ?_
        refine lv_iload_n hx hb dL_law_923 rfl (lv_at hl 3 rfl) ?_
        refine lv_iconst (v := (3 : Int32)) hx hb dL_law_924 (by decide) ?_
        refine lv_iadd hx hb dL_law_925 ?_
        refine va_sld hx hb hX hbl hbA hS (lw_ix (j := 3) hL9 hlt (by decide)) dL_law_926 ?_
        refine lv_i2l hx hb dL_law_927 rfl ?_
        refine lv_bipush (v := (32 : Int32)) hx hb dL_law_928 (by decide) ?_
        refine lv_lshl hx hb dL_law_930 rfl ?_
        refine lv_aload_n hx hb dL_law_931 rfl (lv_at hl 0 rfl) ?_
        refine lv_iload_n hx hb dL_law_932 rfl (lv_at hl 3 rfl) ?_
        refine lv_iconst (v := (4 : Int32)) hx hb dL_law_933 (by decide) ?_
        refine lv_iadd hx hb dL_law_934 ?_
        refine va_sld hx hb hX hbl hbA hS (lw_ix (j := 4) hL9 hlt (by decide)) dL_law_935 ?_
        refine lv_i2l hx hb dL_law_936 rfl ?_
        refine lv_ldc2 (v := (4294967295 : Int64)) hx hb hown (hts _ kw_1687) dL_law_937 ?_
        refine lv_land hx hb dL_law_940 ?_
        refine lv_lor hx hb dL_law_941 ?_
        refine lv_aload_n hx hb dL_law_942 rfl (lv_at hl 0 rfl) ?_
        refine lv_iload_n hx hb dL_law_943 rfl (lv_at hl 3 rfl) ?_
        refine lv_iconst (v := (5 : Int32)) hx hb dL_law_944 (by decide) ?_
        refine lv_iadd hx hb dL_law_945 ?_
        refine va_sld hx hb hX hbl hbA hS (lw_ix (j := 5) hL9 hlt (by decide)) dL_law_946 ?_
        refine lv_aload_n hx hb dL_law_947 rfl (lv_at hl 0 rfl) ?_
        refine lv_iload_n hx hb dL_law_948 rfl (lv_at hl 3 rfl) ?_
        refine lv_bipush (v := (6 : Int32)) hx hb dL_law_949 (by decide) ?_
        refine lv_iadd hx hb dL_law_951 ?_
        refine va_sld hx hb hX hbl hbA hS (lw_ix (j := 6) hL9 hlt (by decide)) dL_law_952 ?_
        refine lf_i C1 hP hD hS (lm_run (As := [.int (xs ((nI k) + (1 : Int32)).toNatClampNeg), .int (xs ((nI k) + (2 : Int32)).toNatClampNeg), .long ((((xs ((nI k) + (3 : Int32)).toNatClampNeg).toInt64) <<< ((32 : Int32).toInt64 &&& 63)) ||| (((xs ((nI k) + (4 : Int32)).toNatClampNeg).toInt64) &&& (4294967295 : Int64))), .int (xs ((nI k) + (5 : Int32)).toNatClampNeg), .int (xs ((nI k) + (6 : Int32)).toNatClampNeg)]) (rest := [.int r]) (ci := 10) C1 hcm (cwV 5 hts (g_V kw_1640 kw_1641 kw_1642 kw_83 kw_1643) rfl rfl rfl hd_X12_look ⟨Nat.le_of_ble_eq_true rfl, Nat.le_of_ble_eq_true rfl⟩) hP hD hS rfl hfm rfl rfl hl (Nat.le_of_ble_eq_true rfl) dL_law_953 ⟨Nat.le_of_ble_eq_true rfl, Nat.le_of_ble_eq_true rfl⟩) (fun H locs hP hD hS => ?_)
        refine lv_icmp_eq (tgt := 1266) hx hb dL_law_956 (by decide) (fun c9 => ?_) (fun c9 => absurd rfl c9)
        obtain ⟨k9, ek9⟩ : ∃ z : Int32, z = nI (k + 9) := ⟨_, rfl⟩
        refine lv_iinc (v := nI (k + 9)) (lv' := [(3, .int (nI (k + 9))), (0, .ref b), (1, .ref x), (2, .ref mm)]) hx hb dL_law_1266 hl (k := 3) rfl (by rw [show Int32.ofInt 9 = nI 9 from rfl, nI_add]) (by decide) rfl (fun ls hl => ?_)
        refine lv_goto (tgt := 18) hx hb dL_law_1269 (by decide) ?_
        exact ih (k + 9) (by omega) (by omega) wx1 wm1 hI1 H locs ls hP hD hS (lv_sub hl [1, 2, 3, 0] rfl)
      have hc_17 : ∀ (H : Heap) (locs : List Loc) (ls : Array Slot), va_P D vwCl (wx ++ wm) H → va_D (fun r : Nat => s.heap.size ≤ r) (wx ++ wm) → va_S (fun r : Nat => s.heap.size ≤ r) s.heap H locs → lv_has ls 4 [(0, .ref b), (1, .ref x), (2, .ref mm), (3, .int (nI k))] → W p l e room_1 s m #[Value.ref b] below meth c H locs 132 30000 (lw_Z below #[Value.ref b] s) (F0 m 961 ls []) := by
        intro H locs ls hP hD hS hl
        refine lv_aload_n hx hb dL_law_961 rfl (lv_at hl 1 rfl) ?_
        refine lv_aload_n hx hb dL_law_962 rfl (lv_at hl 0 rfl) ?_
        refine lv_iload_n hx hb dL_law_963 rfl (lv_at hl 3 rfl) ?_
        refine lv_iconst (v := (1 : Int32)) hx hb dL_law_964 (by decide) ?_
        refine lv_iadd hx hb dL_law_965 ?_
        refine va_sld hx hb hX hbl hbA hS (lw_ix (j := 1) hL9 hlt (by decide)) dL_law_966 ?_
        refine lv_if_eq (tgt := 974) hx hb dL_law_967 (by decide) (fun c8 => ?_) (fun c8 => ?_)
        · refine lv_iconst (v := (0 : Int32)) hx hb dL_law_974 (by decide) ?_
          obtain ⟨r, wx1, wm1, hcx, hcm, hI1⟩ := o_passes wx wm hI (0 : Int32)
          refine lf_i C1 hP hD hS (lx_run (As := [.int (0 : Int32)]) (rest := []) (ci := 9) C1 hcx (cwV 1 hts (g_V kw_1016 kw_1017 kw_1018 kw_72 kw_1019) rfl rfl rfl hd_X11_passes ⟨Nat.le_of_ble_eq_true rfl, Nat.le_of_ble_eq_true rfl⟩) hP hD hS rfl hfx rfl rfl hl (Nat.le_of_ble_eq_true rfl) dL_law_975 ⟨Nat.le_of_ble_eq_true rfl, Nat.le_of_ble_eq_true rfl⟩) (fun H locs hP hD hS => ?_)
          refine lv_aload_n hx hb dL_law_978 rfl (lv_at hl 2 rfl) ?_
          refine lv_aload_n hx hb dL_law_979 rfl (lv_at hl 0 rfl) ?_
          refine lv_iload_n hx hb dL_law_980 rfl (lv_at hl 3 rfl) ?_
          refine lv_iconst (v := (1 : Int32)) hx hb dL_law_981 (by decide) ?_
          refine lv_iadd hx hb dL_law_982 ?_
          refine va_sld hx hb hX hbl hbA hS (lw_ix (j := 1) hL9 hlt (by decide)) dL_law_983 ?_
          refine lv_if_eq (tgt := 991) hx hb dL_law_984 (by decide) (fun c9 => ?_) (fun c9 => absurd c8 c9)
          refine lv_iconst (v := (0 : Int32)) hx hb dL_law_991 (by decide) ?_
          refine lf_i C1 hP hD hS (lm_run (As := [.int (0 : Int32)]) (rest := [.int r]) (ci := 10) C1 hcm (cwV 1 hts (g_V kw_1660 kw_1661 kw_1662 kw_83 kw_1663) rfl rfl rfl hd_X12_passes ⟨Nat.le_of_ble_eq_true rfl, Nat.le_of_ble_eq_true rfl⟩) hP hD hS rfl hfm rfl rfl hl (Nat.le_of_ble_eq_true rfl) dL_law_992 ⟨Nat.le_of_ble_eq_true rfl, Nat.le_of_ble_eq_true rfl⟩) (fun H locs hP hD hS => ?_)
          refine lv_icmp_eq (tgt := 1266) hx hb dL_law_995 (by decide) (fun c9 => ?_) (fun c9 => absurd rfl c9)
          obtain ⟨k9, ek9⟩ : ∃ z : Int32, z = nI (k + 9) := ⟨_, rfl⟩
          refine lv_iinc (v := nI (k + 9)) (lv' := [(3, .int (nI (k + 9))), (0, .ref b), (1, .ref x), (2, .ref mm)]) hx hb dL_law_1266 hl (k := 3) rfl (by rw [show Int32.ofInt 9 = nI 9 from rfl, nI_add]) (by decide) rfl (fun ls hl => ?_)
          refine lv_goto (tgt := 18) hx hb dL_law_1269 (by decide) ?_
          exact ih (k + 9) (by omega) (by omega) wx1 wm1 hI1 H locs ls hP hD hS (lv_sub hl [1, 2, 3, 0] rfl)
        · refine lv_iconst (v := (1 : Int32)) hx hb dL_law_970 (by decide) ?_
          refine lv_goto (tgt := 975) hx hb dL_law_971 (by decide) ?_
          obtain ⟨r, wx1, wm1, hcx, hcm, hI1⟩ := o_passes wx wm hI (1 : Int32)
          refine lf_i C1 hP hD hS (lx_run (As := [.int (1 : Int32)]) (rest := []) (ci := 9) C1 hcx (cwV 1 hts (g_V kw_1016 kw_1017 kw_1018 kw_72 kw_1019) rfl rfl rfl hd_X11_passes ⟨Nat.le_of_ble_eq_true rfl, Nat.le_of_ble_eq_true rfl⟩) hP hD hS rfl hfx rfl rfl hl (Nat.le_of_ble_eq_true rfl) dL_law_975 ⟨Nat.le_of_ble_eq_true rfl, Nat.le_of_ble_eq_true rfl⟩) (fun H locs hP hD hS => ?_)
          refine lv_aload_n hx hb dL_law_978 rfl (lv_at hl 2 rfl) ?_
          refine lv_aload_n hx hb dL_law_979 rfl (lv_at hl 0 rfl) ?_
          refine lv_iload_n hx hb dL_law_980 rfl (lv_at hl 3 rfl) ?_
          refine lv_iconst (v := (1 : Int32)) hx hb dL_law_981 (by decide) ?_
          refine lv_iadd hx hb dL_law_982 ?_
          refine va_sld hx hb hX hbl hbA hS (lw_ix (j := 1) hL9 hlt (by decide)) dL_law_983 ?_
          refine lv_if_eq (tgt := 991) hx hb dL_law_984 (by decide) (fun c9 => absurd c9 c8) (fun c9 => ?_)
          refine lv_iconst (v := (1 : Int32)) hx hb dL_law_987 (by decide) ?_
          refine lv_goto (tgt := 992) hx hb dL_law_988 (by decide) ?_
          refine lf_i C1 hP hD hS (lm_run (As := [.int (1 : Int32)]) (rest := [.int r]) (ci := 10) C1 hcm (cwV 1 hts (g_V kw_1660 kw_1661 kw_1662 kw_83 kw_1663) rfl rfl rfl hd_X12_passes ⟨Nat.le_of_ble_eq_true rfl, Nat.le_of_ble_eq_true rfl⟩) hP hD hS rfl hfm rfl rfl hl (Nat.le_of_ble_eq_true rfl) dL_law_992 ⟨Nat.le_of_ble_eq_true rfl, Nat.le_of_ble_eq_true rfl⟩) (fun H locs hP hD hS => ?_)
          refine lv_icmp_eq (tgt := 1266) hx hb dL_law_995 (by decide) (fun c9 => ?_) (fun c9 => absurd rfl c9)
          obtain ⟨k9, ek9⟩ : ∃ z : Int32, z = nI (k + 9) := ⟨_, rfl⟩
          refine lv_iinc (v := nI (k + 9)) (lv' := [(3, .int (nI (k + 9))), (0, .ref b), (1, .ref x), (2, .ref mm)]) hx hb dL_law_1266 hl (k := 3) rfl (by rw [show Int32.ofInt 9 = nI 9 from rfl, nI_add]) (by decide) rfl (fun ls hl => ?_)
          refine lv_goto (tgt := 18) hx hb dL_law_1269 (by decide) ?_
          exact ih (k + 9) (by omega) (by omega) wx1 wm1 hI1 H locs ls hP hD hS (lv_sub hl [1, 2, 3, 0] rfl)
      have hc_18 : ∀ (H : Heap) (locs : List Loc) (ls : Array Slot), va_P D vwCl (wx ++ wm) H → va_D (fun r : Nat => s.heap.size ≤ r) (wx ++ wm) → va_S (fun r : Nat => s.heap.size ≤ r) s.heap H locs → lv_has ls 4 [(0, .ref b), (1, .ref x), (2, .ref mm), (3, .int (nI k))] → W p l e room_1 s m #[Value.ref b] below meth c H locs 132 30000 (lw_Z below #[Value.ref b] s) (F0 m 1000 ls []) := by
        intro H locs ls hP hD hS hl
        refine lv_aload_n hx hb dL_law_1000 rfl (lv_at hl 1 rfl) ?_
        refine lv_aload_n hx hb dL_law_1001 rfl (lv_at hl 0 rfl) ?_
        refine lv_iload_n hx hb dL_law_1002 rfl (lv_at hl 3 rfl) ?_
        refine lv_iconst (v := (1 : Int32)) hx hb dL_law_1003 (by decide) ?_
        refine lv_iadd hx hb dL_law_1004 ?_
        refine va_sld hx hb hX hbl hbA hS (lw_ix (j := 1) hL9 hlt (by decide)) dL_law_1005 ?_
        obtain ⟨r, wx1, wm1, hcx, hcm, hI1⟩ := o_found wx wm hI (xs ((nI k) + (1 : Int32)).toNatClampNeg)
        refine lf_l C1 hP hD hS (lx_run (As := [.int (xs ((nI k) + (1 : Int32)).toNatClampNeg)]) (rest := []) (ci := 9) C1 hcx (cwV 1 hts (g_V kw_1020 kw_1021 kw_1022 kw_72 kw_1023) rfl rfl rfl hd_X11_found ⟨Nat.le_of_ble_eq_true rfl, Nat.le_of_ble_eq_true rfl⟩) hP hD hS rfl hfx rfl rfl hl (Nat.le_of_ble_eq_true rfl) dL_law_1006 ⟨Nat.le_of_ble_eq_true rfl, Nat.le_of_ble_eq_true rfl⟩) (fun H locs hP hD hS => ?_)
        refine lv_aload_n hx hb dL_law_1009 rfl (lv_at hl 2 rfl) ?_
        refine lv_aload_n hx hb dL_law_1010 rfl (lv_at hl 0 rfl) ?_
        refine lv_iload_n hx hb dL_law_1011 rfl (lv_at hl 3 rfl) ?_
        refine lv_iconst (v := (1 : Int32)) hx hb dL_law_1012 (by decide) ?_
        refine lv_iadd hx hb dL_law_1013 ?_
        refine va_sld hx hb hX hbl hbA hS (lw_ix (j := 1) hL9 hlt (by decide)) dL_law_1014 ?_
        refine lf_l C1 hP hD hS (lm_run (As := [.int (xs ((nI k) + (1 : Int32)).toNatClampNeg)]) (rest := [.long r]) (ci := 10) C1 hcm (cwV 1 hts (g_V kw_1666 kw_1667 kw_1668 kw_83 kw_1669) rfl rfl rfl hd_X12_found ⟨Nat.le_of_ble_eq_true rfl, Nat.le_of_ble_eq_true rfl⟩) hP hD hS rfl hfm rfl rfl hl (Nat.le_of_ble_eq_true rfl) dL_law_1015 ⟨Nat.le_of_ble_eq_true rfl, Nat.le_of_ble_eq_true rfl⟩) (fun H locs hP hD hS => ?_)
        refine W.lcmp hx hb dL_law_1018 ?_
        refine lv_if_eq (tgt := 1266) hx hb dL_law_1019 (by decide) (fun c9 => ?_) (fun c9 => absurd ((lg_cmp_eq _ _).mpr rfl) c9)
        obtain ⟨k9, ek9⟩ : ∃ z : Int32, z = nI (k + 9) := ⟨_, rfl⟩
        refine lv_iinc (v := nI (k + 9)) (lv' := [(3, .int (nI (k + 9))), (0, .ref b), (1, .ref x), (2, .ref mm)]) hx hb dL_law_1266 hl (k := 3) rfl (by rw [show Int32.ofInt 9 = nI 9 from rfl, nI_add]) (by decide) rfl (fun ls hl => ?_)
        refine lv_goto (tgt := 18) hx hb dL_law_1269 (by decide) ?_
        exact ih (k + 9) (by omega) (by omega) wx1 wm1 hI1 H locs ls hP hD hS (lv_sub hl [1, 2, 3, 0] rfl)
      have hc_19 : ∀ (H : Heap) (locs : List Loc) (ls : Array Slot), va_P D vwCl (wx ++ wm) H → va_D (fun r : Nat => s.heap.size ≤ r) (wx ++ wm) → va_S (fun r : Nat => s.heap.size ≤ r) s.heap H locs → lv_has ls 4 [(0, .ref b), (1, .ref x), (2, .ref mm), (3, .int (nI k))] → W p l e room_1 s m #[Value.ref b] below meth c H locs 132 30000 (lw_Z below #[Value.ref b] s) (F0 m 1024 ls []) := by
        intro H locs ls hP hD hS hl
        refine lv_aload_n hx hb dL_law_1024 rfl (lv_at hl 1 rfl) ?_
        obtain ⟨r, wx1, wm1, hcx, hcm, hI1⟩ := o_hold wx wm hI 
        refine lf_i C1 hP hD hS (lx_run (As := []) (rest := []) (ci := 9) C1 hcx (cwV 0 hts (g_V kw_1025 kw_1026 kw_1027 kw_72 kw_1028) rfl rfl rfl hd_X11_hold ⟨Nat.le_of_ble_eq_true rfl, Nat.le_of_ble_eq_true rfl⟩) hP hD hS rfl hfx rfl rfl hl (Nat.le_of_ble_eq_true rfl) dL_law_1025 ⟨Nat.le_of_ble_eq_true rfl, Nat.le_of_ble_eq_true rfl⟩) (fun H locs hP hD hS => ?_)
        refine lv_aload_n hx hb dL_law_1028 rfl (lv_at hl 2 rfl) ?_
        refine lf_i C1 hP hD hS (lm_run (As := []) (rest := [.int r]) (ci := 10) C1 hcm (cwV 0 hts (g_V kw_1671 kw_1672 kw_1673 kw_83 kw_1674) rfl rfl rfl hd_X12_hold ⟨Nat.le_of_ble_eq_true rfl, Nat.le_of_ble_eq_true rfl⟩) hP hD hS rfl hfm rfl rfl hl (Nat.le_of_ble_eq_true rfl) dL_law_1029 ⟨Nat.le_of_ble_eq_true rfl, Nat.le_of_ble_eq_true rfl⟩) (fun H locs hP hD hS => ?_)
        refine lv_icmp_eq (tgt := 1266) hx hb dL_law_1032 (by decide) (fun c9 => ?_) (fun c9 => absurd rfl c9)
        obtain ⟨k9, ek9⟩ : ∃ z : Int32, z = nI (k + 9) := ⟨_, rfl⟩
        refine lv_iinc (v := nI (k + 9)) (lv' := [(3, .int (nI (k + 9))), (0, .ref b), (1, .ref x), (2, .ref mm)]) hx hb dL_law_1266 hl (k := 3) rfl (by rw [show Int32.ofInt 9 = nI 9 from rfl, nI_add]) (by decide) rfl (fun ls hl => ?_)
        refine lv_goto (tgt := 18) hx hb dL_law_1269 (by decide) ?_
        exact ih (k + 9) (by omega) (by omega) wx1 wm1 hI1 H locs ls hP hD hS (lv_sub hl [1, 2, 3, 0] rfl)
      have hc_20 : ∀ (H : Heap) (locs : List Loc) (ls : Array Slot), va_P D vwCl (wx ++ wm) H → va_D (fun r : Nat => s.heap.size ≤ r) (wx ++ wm) → va_S (fun r : Nat => s.heap.size ≤ r) s.heap H locs → lv_has ls 4 [(0, .ref b), (1, .ref x), (2, .ref mm), (3, .int (nI k))] → W p l e room_1 s m #[Value.ref b] below meth c H locs 132 30000 (lw_Z below #[Value.ref b] s) (F0 m 1037 ls []) := by
        intro H locs ls hP hD hS hl
        refine lv_aload_n hx hb dL_law_1037 rfl (lv_at hl 1 rfl) ?_
        refine lv_aload_n hx hb dL_law_1038 rfl (lv_at hl 0 rfl) ?_
        refine lv_iload_n hx hb dL_law_1039 rfl (lv_at hl 3 rfl) ?_
        refine lv_iconst (v := (1 : Int32)) hx hb dL_law_1040 (by decide) ?_
        refine lv_iadd hx hb dL_law_1041 ?_
        refine va_sld hx hb hX hbl hbA hS (lw_ix (j := 1) hL9 hlt (by decide)) dL_law_1042 ?_
        refine lv_aload_n hx hb dL_law_1043 rfl (lv_at hl 0 rfl) ?_
        refine lv_iload_n hx hb dL_law_1044 rfl (lv_at hl 3 rfl) ?_
        refine lv_iconst (v := (2 : Int32)) hx hb dL_law_1045 (by decide) ?_
        refine lv_iadd hx hb dL_law_1046 ?_
        refine va_sld hx hb hX hbl hbA hS (lw_ix (j := 2) hL9 hlt (by decide)) dL_law_1047 ?_
        refine lv_aload_n hx hb dL_law_1048 rfl (lv_at hl 0 rfl) ?_
        refine lv_iload_n hx hb dL_law_1049 rfl (lv_at hl 3 rfl) ?_
        refine lv_iconst (v := (3 : Int32)) hx hb dL_law_1050 (by decide) ?_
        refine lv_iadd hx hb dL_law_1051 ?_
        refine va_sld hx hb hX hbl hbA hS (lw_ix (j := 3) hL9 hlt (by decide)) dL_law_1052 ?_
        refine lv_i2l hx hb dL_law_1053 rfl ?_
        refine lv_bipush (v := (32 : Int32)) hx hb dL_law_1054 (by decide) ?_
        refine lv_lshl hx hb dL_law_1056 rfl ?_
        refine lv_aload_n hx hb dL_law_1057 rfl (lv_at hl 0 rfl) ?_
        refine lv_iload_n hx hb dL_law_1058 rfl (lv_at hl 3 rfl) ?_
        refine lv_iconst (v := (4 : Int32)) hx hb dL_law_1059 (by decide) ?_
        refine lv_iadd hx hb dL_law_1060 ?_
        refine va_sld hx hb hX hbl hbA hS (lw_ix (j := 4) hL9 hlt (by decide)) dL_law_1061 ?_
        refine lv_i2l hx hb dL_law_1062 rfl ?_
        refine lv_ldc2 (v := (4294967295 : Int64)) hx hb hown (hts _ kw_1687) dL_law_1063 ?_
        refine lv_land hx hb dL_law_1066 ?_
        refine lv_lor hx hb dL_law_1067 ?_
        obtain ⟨r, wx1, wm1, hcx, hcm, hI1⟩ := o_held wx wm hI (xs ((nI k) + (1 : Int32)).toNatClampNeg) (xs ((nI k) + (2 : Int32)).toNatClampNeg) ((((xs ((nI k) + (3 : Int32)).toNatClampNeg).toInt64) <<< ((32 : Int32).toInt64 &&& 63)) ||| (((xs ((nI k) + (4 : Int32)).toNatClampNeg).toInt64) &&& (4294967295 : Int64)))
        refine lf_i C1 hP hD hS (lx_run (As := [.int (xs ((nI k) + (1 : Int32)).toNatClampNeg), .int (xs ((nI k) + (2 : Int32)).toNatClampNeg), .long ((((xs ((nI k) + (3 : Int32)).toNatClampNeg).toInt64) <<< ((32 : Int32).toInt64 &&& 63)) ||| (((xs ((nI k) + (4 : Int32)).toNatClampNeg).toInt64) &&& (4294967295 : Int64)))]) (rest := []) (ci := 9) C1 hcx (cwV 3 hts (g_V kw_1037 kw_1038 kw_1039 kw_72 kw_1040) rfl rfl rfl hd_X11_held ⟨Nat.le_of_ble_eq_true rfl, Nat.le_of_ble_eq_true rfl⟩) hP hD hS rfl hfx rfl rfl hl (Nat.le_of_ble_eq_true rfl) dL_law_1068 ⟨Nat.le_of_ble_eq_true rfl, Nat.le_of_ble_eq_true rfl⟩) (fun H locs hP hD hS => ?_)
        refine lv_aload_n hx hb dL_law_1071 rfl (lv_at hl 2 rfl) ?_
        refine lv_aload_n hx hb dL_law_1072 rfl (lv_at hl 0 rfl) ?_
        refine lv_iload_n hx hb dL_law_1073 rfl (lv_at hl 3 rfl) ?_
        refine lv_iconst (v := (1 : Int32)) hx hb dL_law_1074 (by decide) ?_
        refine lv_iadd hx hb dL_law_1075 ?_
        refine va_sld hx hb hX hbl hbA hS (lw_ix (j := 1) hL9 hlt (by decide)) dL_law_1076 ?_
        refine lv_aload_n hx hb dL_law_1077 rfl (lv_at hl 0 rfl) ?_
        refine lv_iload_n hx hb dL_law_1078 rfl (lv_at hl 3 rfl) ?_
        refine lv_iconst (v := (2 : Int32)) hx hb dL_law_1079 (by decide) ?_
        refine lv_iadd hx hb dL_law_1080 ?_
        refine va_sld hx hb hX hbl hbA hS (lw_ix (j := 2) hL9 hlt (by decide)) dL_law_1081 ?_
        refine lv_aload_n hx hb dL_law_1082 rfl (lv_at hl 0 rfl) ?_
        refine lv_iload_n hx hb dL_law_1083 rfl (lv_at hl 3 rfl) ?_
        refine lv_iconst (v := (3 : Int32)) hx hb dL_law_1084 (by decide) ?_
        refine lv_iadd hx hb dL_law_1085 ?_
        refine va_sld hx hb hX hbl hbA hS (lw_ix (j := 3) hL9 hlt (by decide)) dL_law_1086 ?_
        refine lv_i2l hx hb dL_law_1087 rfl ?_
        refine lv_bipush (v := (32 : Int32)) hx hb dL_law_1088 (by decide) ?_
        refine lv_lshl hx hb dL_law_1090 rfl ?_
        refine lv_aload_n hx hb dL_law_1091 rfl (lv_at hl 0 rfl) ?_
        refine lv_iload_n hx hb dL_law_1092 rfl (lv_at hl 3 rfl) ?_
        refine lv_iconst (v := (4 : Int32)) hx hb dL_law_1093 (by decide) ?_
        refine lv_iadd hx hb dL_law_1094 ?_
        refine va_sld hx hb hX hbl hbA hS (lw_ix (j := 4) hL9 hlt (by decide)) dL_law_1095 ?_
        refine lv_i2l hx hb dL_law_1096 rfl ?_
        refine lv_ldc2 (v := (4294967295 : Int64)) hx hb hown (hts _ kw_1687) dL_law_1097 ?_
        refine lv_land hx hb dL_law_1100 ?_
        refine lv_lor hx hb dL_law_1101 ?_
        refine lf_i C1 hP hD hS (lm_run (As := [.int (xs ((nI k) + (1 : Int32)).toNatClampNeg), .int (xs ((nI k) + (2 : Int32)).toNatClampNeg), .long ((((xs ((nI k) + (3 : Int32)).toNatClampNeg).toInt64) <<< ((32 : Int32).toInt64 &&& 63)) ||| (((xs ((nI k) + (4 : Int32)).toNatClampNeg).toInt64) &&& (4294967295 : Int64)))]) (rest := [.int r]) (ci := 10) C1 hcm (cwV 3 hts (g_V kw_1675 kw_1676 kw_1677 kw_83 kw_1678) rfl rfl rfl hd_X12_held ⟨Nat.le_of_ble_eq_true rfl, Nat.le_of_ble_eq_true rfl⟩) hP hD hS rfl hfm rfl rfl hl (Nat.le_of_ble_eq_true rfl) dL_law_1102 ⟨Nat.le_of_ble_eq_true rfl, Nat.le_of_ble_eq_true rfl⟩) (fun H locs hP hD hS => ?_)
        refine lv_icmp_eq (tgt := 1266) hx hb dL_law_1105 (by decide) (fun c9 => ?_) (fun c9 => absurd rfl c9)
        obtain ⟨k9, ek9⟩ : ∃ z : Int32, z = nI (k + 9) := ⟨_, rfl⟩
        refine lv_iinc (v := nI (k + 9)) (lv' := [(3, .int (nI (k + 9))), (0, .ref b), (1, .ref x), (2, .ref mm)]) hx hb dL_law_1266 hl (k := 3) rfl (by rw [show Int32.ofInt 9 = nI 9 from rfl, nI_add]) (by decide) rfl (fun ls hl => ?_)
        refine lv_goto (tgt := 18) hx hb dL_law_1269 (by decide) ?_
        exact ih (k + 9) (by omega) (by omega) wx1 wm1 hI1 H locs ls hP hD hS (lv_sub hl [1, 2, 3, 0] rfl)
      have hc_21 : ∀ (H : Heap) (locs : List Loc) (ls : Array Slot), va_P D vwCl (wx ++ wm) H → va_D (fun r : Nat => s.heap.size ≤ r) (wx ++ wm) → va_S (fun r : Nat => s.heap.size ≤ r) s.heap H locs → lv_has ls 4 [(0, .ref b), (1, .ref x), (2, .ref mm), (3, .int (nI k))] → W p l e room_1 s m #[Value.ref b] below meth c H locs 132 30000 (lw_Z below #[Value.ref b] s) (F0 m 1110 ls []) := by
        intro H locs ls hP hD hS hl
        refine lv_aload_n hx hb dL_law_1110 rfl (lv_at hl 1 rfl) ?_
        refine lv_aload_n hx hb dL_law_1111 rfl (lv_at hl 0 rfl) ?_
        refine lv_iload_n hx hb dL_law_1112 rfl (lv_at hl 3 rfl) ?_
        refine lv_iconst (v := (1 : Int32)) hx hb dL_law_1113 (by decide) ?_
        refine lv_iadd hx hb dL_law_1114 ?_
        refine va_sld hx hb hX hbl hbA hS (lw_ix (j := 1) hL9 hlt (by decide)) dL_law_1115 ?_
        obtain ⟨r, wx1, wm1, hcx, hcm, hI1⟩ := o_check wx wm hI (xs ((nI k) + (1 : Int32)).toNatClampNeg)
        refine lf_i C1 hP hD hS (lx_run (As := [.int (xs ((nI k) + (1 : Int32)).toNatClampNeg)]) (rest := []) (ci := 9) C1 hcx (cwV 1 hts (g_V kw_1041 kw_1042 kw_1043 kw_72 kw_1044) rfl rfl rfl hd_X11_check ⟨Nat.le_of_ble_eq_true rfl, Nat.le_of_ble_eq_true rfl⟩) hP hD hS rfl hfx rfl rfl hl (Nat.le_of_ble_eq_true rfl) dL_law_1116 ⟨Nat.le_of_ble_eq_true rfl, Nat.le_of_ble_eq_true rfl⟩) (fun H locs hP hD hS => ?_)
        refine lv_aload_n hx hb dL_law_1119 rfl (lv_at hl 2 rfl) ?_
        refine lv_aload_n hx hb dL_law_1120 rfl (lv_at hl 0 rfl) ?_
        refine lv_iload_n hx hb dL_law_1121 rfl (lv_at hl 3 rfl) ?_
        refine lv_iconst (v := (1 : Int32)) hx hb dL_law_1122 (by decide) ?_
        refine lv_iadd hx hb dL_law_1123 ?_
        refine va_sld hx hb hX hbl hbA hS (lw_ix (j := 1) hL9 hlt (by decide)) dL_law_1124 ?_
        refine lf_i C1 hP hD hS (lm_run (As := [.int (xs ((nI k) + (1 : Int32)).toNatClampNeg)]) (rest := [.int r]) (ci := 10) C1 hcm (cwV 1 hts (g_V kw_1370 kw_1371 kw_1372 kw_83 kw_1373) rfl rfl rfl hd_X12_check ⟨Nat.le_of_ble_eq_true rfl, Nat.le_of_ble_eq_true rfl⟩) hP hD hS rfl hfm rfl rfl hl (Nat.le_of_ble_eq_true rfl) dL_law_1125 ⟨Nat.le_of_ble_eq_true rfl, Nat.le_of_ble_eq_true rfl⟩) (fun H locs hP hD hS => ?_)
        refine lv_icmp_eq (tgt := 1266) hx hb dL_law_1128 (by decide) (fun c9 => ?_) (fun c9 => absurd rfl c9)
        obtain ⟨k9, ek9⟩ : ∃ z : Int32, z = nI (k + 9) := ⟨_, rfl⟩
        refine lv_iinc (v := nI (k + 9)) (lv' := [(3, .int (nI (k + 9))), (0, .ref b), (1, .ref x), (2, .ref mm)]) hx hb dL_law_1266 hl (k := 3) rfl (by rw [show Int32.ofInt 9 = nI 9 from rfl, nI_add]) (by decide) rfl (fun ls hl => ?_)
        refine lv_goto (tgt := 18) hx hb dL_law_1269 (by decide) ?_
        exact ih (k + 9) (by omega) (by omega) wx1 wm1 hI1 H locs ls hP hD hS (lv_sub hl [1, 2, 3, 0] rfl)
      have hc_22 : ∀ (H : Heap) (locs : List Loc) (ls : Array Slot), va_P D vwCl (wx ++ wm) H → va_D (fun r : Nat => s.heap.size ≤ r) (wx ++ wm) → va_S (fun r : Nat => s.heap.size ≤ r) s.heap H locs → lv_has ls 4 [(0, .ref b), (1, .ref x), (2, .ref mm), (3, .int (nI k))] → W p l e room_1 s m #[Value.ref b] below meth c H locs 132 30000 (lw_Z below #[Value.ref b] s) (F0 m 1133 ls []) := by
        intro H locs ls hP hD hS hl
        refine lv_aload_n hx hb dL_law_1133 rfl (lv_at hl 1 rfl) ?_
        refine lv_aload_n hx hb dL_law_1134 rfl (lv_at hl 0 rfl) ?_
        refine lv_iload_n hx hb dL_law_1135 rfl (lv_at hl 3 rfl) ?_
        refine lv_iconst (v := (1 : Int32)) hx hb dL_law_1136 (by decide) ?_
        refine lv_iadd hx hb dL_law_1137 ?_
        refine va_sld hx hb hX hbl hbA hS (lw_ix (j := 1) hL9 hlt (by decide)) dL_law_1138 ?_
        refine lv_i2l hx hb dL_law_1139 rfl ?_
        refine lv_bipush (v := (32 : Int32)) hx hb dL_law_1140 (by decide) ?_
        refine lv_lshl hx hb dL_law_1142 rfl ?_
        refine lv_aload_n hx hb dL_law_1143 rfl (lv_at hl 0 rfl) ?_
        refine lv_iload_n hx hb dL_law_1144 rfl (lv_at hl 3 rfl) ?_
        refine lv_iconst (v := (2 : Int32)) hx hb dL_law_1145 (by decide) ?_
        refine lv_iadd hx hb dL_law_1146 ?_
        refine va_sld hx hb hX hbl hbA hS (lw_ix (j := 2) hL9 hlt (by decide)) dL_law_1147 ?_
        refine lv_i2l hx hb dL_law_1148 rfl ?_
        refine lv_ldc2 (v := (4294967295 : Int64)) hx hb hown (hts _ kw_1687) dL_law_1149 ?_
        refine lv_land hx hb dL_law_1152 ?_
        refine lv_lor hx hb dL_law_1153 ?_
        refine lv_aload_n hx hb dL_law_1154 rfl (lv_at hl 0 rfl) ?_
        refine lv_iload_n hx hb dL_law_1155 rfl (lv_at hl 3 rfl) ?_
        refine lv_iconst (v := (3 : Int32)) hx hb dL_law_1156 (by decide) ?_
        refine lv_iadd hx hb dL_law_1157 ?_
        refine va_sld hx hb hX hbl hbA hS (lw_ix (j := 3) hL9 hlt (by decide)) dL_law_1158 ?_
        obtain ⟨r, wx1, wm1, hcx, hcm, hI1⟩ := o_clock wx wm hI ((((xs ((nI k) + (1 : Int32)).toNatClampNeg).toInt64) <<< ((32 : Int32).toInt64 &&& 63)) ||| (((xs ((nI k) + (2 : Int32)).toNatClampNeg).toInt64) &&& (4294967295 : Int64))) (xs ((nI k) + (3 : Int32)).toNatClampNeg)
        refine lf_i C1 hP hD hS (lx_run (As := [.long ((((xs ((nI k) + (1 : Int32)).toNatClampNeg).toInt64) <<< ((32 : Int32).toInt64 &&& 63)) ||| (((xs ((nI k) + (2 : Int32)).toNatClampNeg).toInt64) &&& (4294967295 : Int64))), .int (xs ((nI k) + (3 : Int32)).toNatClampNeg)]) (rest := []) (ci := 9) C1 hcx (cwV 2 hts (g_V kw_1047 kw_1048 kw_1049 kw_72 kw_1050) rfl rfl rfl hd_X11_clock ⟨Nat.le_of_ble_eq_true rfl, Nat.le_of_ble_eq_true rfl⟩) hP hD hS rfl hfx rfl rfl hl (Nat.le_of_ble_eq_true rfl) dL_law_1159 ⟨Nat.le_of_ble_eq_true rfl, Nat.le_of_ble_eq_true rfl⟩) (fun H locs hP hD hS => ?_)
        refine lv_aload_n hx hb dL_law_1162 rfl (lv_at hl 2 rfl) ?_
        refine lv_aload_n hx hb dL_law_1163 rfl (lv_at hl 0 rfl) ?_
        refine lv_iload_n hx hb dL_law_1164 rfl (lv_at hl 3 rfl) ?_
        refine lv_iconst (v := (1 : Int32)) hx hb dL_law_1165 (by decide) ?_
        refine lv_iadd hx hb dL_law_1166 ?_
        refine va_sld hx hb hX hbl hbA hS (lw_ix (j := 1) hL9 hlt (by decide)) dL_law_1167 ?_
        refine lv_i2l hx hb dL_law_1168 rfl ?_
        refine lv_bipush (v := (32 : Int32)) hx hb dL_law_1169 (by decide) ?_
        refine lv_lshl hx hb dL_law_1171 rfl ?_
        refine lv_aload_n hx hb dL_law_1172 rfl (lv_at hl 0 rfl) ?_
        refine lv_iload_n hx hb dL_law_1173 rfl (lv_at hl 3 rfl) ?_
        refine lv_iconst (v := (2 : Int32)) hx hb dL_law_1174 (by decide) ?_
        refine lv_iadd hx hb dL_law_1175 ?_
        refine va_sld hx hb hX hbl hbA hS (lw_ix (j := 2) hL9 hlt (by decide)) dL_law_1176 ?_
        refine lv_i2l hx hb dL_law_1177 rfl ?_
        refine lv_ldc2 (v := (4294967295 : Int64)) hx hb hown (hts _ kw_1687) dL_law_1178 ?_
        refine lv_land hx hb dL_law_1181 ?_
        refine lv_lor hx hb dL_law_1182 ?_
        refine lv_aload_n hx hb dL_law_1183 rfl (lv_at hl 0 rfl) ?_
        refine lv_iload_n hx hb dL_law_1184 rfl (lv_at hl 3 rfl) ?_
        refine lv_iconst (v := (3 : Int32)) hx hb dL_law_1185 (by decide) ?_
        refine lv_iadd hx hb dL_law_1186 ?_
        refine va_sld hx hb hX hbl hbA hS (lw_ix (j := 3) hL9 hlt (by decide)) dL_law_1187 ?_
        refine lf_i C1 hP hD hS (lm_run (As := [.long ((((xs ((nI k) + (1 : Int32)).toNatClampNeg).toInt64) <<< ((32 : Int32).toInt64 &&& 63)) ||| (((xs ((nI k) + (2 : Int32)).toNatClampNeg).toInt64) &&& (4294967295 : Int64))), .int (xs ((nI k) + (3 : Int32)).toNatClampNeg)]) (rest := [.int r]) (ci := 10) C1 hcm (cwV 2 hts (g_V kw_1352 kw_1353 kw_1354 kw_83 kw_1355) rfl rfl rfl hd_X12_clock ⟨Nat.le_of_ble_eq_true rfl, Nat.le_of_ble_eq_true rfl⟩) hP hD hS rfl hfm rfl rfl hl (Nat.le_of_ble_eq_true rfl) dL_law_1188 ⟨Nat.le_of_ble_eq_true rfl, Nat.le_of_ble_eq_true rfl⟩) (fun H locs hP hD hS => ?_)
        refine lv_icmp_eq (tgt := 1266) hx hb dL_law_1191 (by decide) (fun c9 => ?_) (fun c9 => absurd rfl c9)
        obtain ⟨k9, ek9⟩ : ∃ z : Int32, z = nI (k + 9) := ⟨_, rfl⟩
        refine lv_iinc (v := nI (k + 9)) (lv' := [(3, .int (nI (k + 9))), (0, .ref b), (1, .ref x), (2, .ref mm)]) hx hb dL_law_1266 hl (k := 3) rfl (by rw [show Int32.ofInt 9 = nI 9 from rfl, nI_add]) (by decide) rfl (fun ls hl => ?_)
        refine lv_goto (tgt := 18) hx hb dL_law_1269 (by decide) ?_
        exact ih (k + 9) (by omega) (by omega) wx1 wm1 hI1 H locs ls hP hD hS (lv_sub hl [1, 2, 3, 0] rfl)
      have hc_23 : ∀ (H : Heap) (locs : List Loc) (ls : Array Slot), va_P D vwCl (wx ++ wm) H → va_D (fun r : Nat => s.heap.size ≤ r) (wx ++ wm) → va_S (fun r : Nat => s.heap.size ≤ r) s.heap H locs → lv_has ls 4 [(0, .ref b), (1, .ref x), (2, .ref mm), (3, .int (nI k))] → W p l e room_1 s m #[Value.ref b] below meth c H locs 132 30000 (lw_Z below #[Value.ref b] s) (F0 m 1196 ls []) := by
        intro H locs ls hP hD hS hl
        refine lv_aload_n hx hb dL_law_1196 rfl (lv_at hl 1 rfl) ?_
        obtain ⟨r, wx1, wm1, hcx, hcm, hI1⟩ := o_hash wx wm hI 
        refine lf_l C1 hP hD hS (lx_run (As := []) (rest := []) (ci := 9) C1 hcx (cwV 0 hts (g_V kw_1053 kw_1054 kw_1055 kw_72 kw_1056) rfl rfl rfl hd_X11_hash ⟨Nat.le_of_ble_eq_true rfl, Nat.le_of_ble_eq_true rfl⟩) hP hD hS rfl hfx rfl rfl hl (Nat.le_of_ble_eq_true rfl) dL_law_1197 ⟨Nat.le_of_ble_eq_true rfl, Nat.le_of_ble_eq_true rfl⟩) (fun H locs hP hD hS => ?_)
        refine lv_aload_n hx hb dL_law_1200 rfl (lv_at hl 2 rfl) ?_
        refine lf_l C1 hP hD hS (lm_run (As := []) (rest := [.long r]) (ci := 10) C1 hcm (cwV 0 hts (g_V kw_1471 kw_1472 kw_1473 kw_83 kw_1474) rfl rfl rfl hd_X12_hash ⟨Nat.le_of_ble_eq_true rfl, Nat.le_of_ble_eq_true rfl⟩) hP hD hS rfl hfm rfl rfl hl (Nat.le_of_ble_eq_true rfl) dL_law_1201 ⟨Nat.le_of_ble_eq_true rfl, Nat.le_of_ble_eq_true rfl⟩) (fun H locs hP hD hS => ?_)
        refine W.lcmp hx hb dL_law_1204 ?_
        refine lv_if_eq (tgt := 1266) hx hb dL_law_1205 (by decide) (fun c9 => ?_) (fun c9 => absurd ((lg_cmp_eq _ _).mpr rfl) c9)
        obtain ⟨k9, ek9⟩ : ∃ z : Int32, z = nI (k + 9) := ⟨_, rfl⟩
        refine lv_iinc (v := nI (k + 9)) (lv' := [(3, .int (nI (k + 9))), (0, .ref b), (1, .ref x), (2, .ref mm)]) hx hb dL_law_1266 hl (k := 3) rfl (by rw [show Int32.ofInt 9 = nI 9 from rfl, nI_add]) (by decide) rfl (fun ls hl => ?_)
        refine lv_goto (tgt := 18) hx hb dL_law_1269 (by decide) ?_
        exact ih (k + 9) (by omega) (by omega) wx1 wm1 hI1 H locs ls hP hD hS (lv_sub hl [1, 2, 3, 0] rfl)
      have hc_24 : ∀ (H : Heap) (locs : List Loc) (ls : Array Slot), va_P D vwCl (wx ++ wm) H → va_D (fun r : Nat => s.heap.size ≤ r) (wx ++ wm) → va_S (fun r : Nat => s.heap.size ≤ r) s.heap H locs → lv_has ls 4 [(0, .ref b), (1, .ref x), (2, .ref mm), (3, .int (nI k))] → W p l e room_1 s m #[Value.ref b] below meth c H locs 132 30000 (lw_Z below #[Value.ref b] s) (F0 m 1210 ls []) := by
        intro H locs ls hP hD hS hl
        refine lv_aload_n hx hb dL_law_1210 rfl (lv_at hl 1 rfl) ?_
        refine lv_aload_n hx hb dL_law_1211 rfl (lv_at hl 0 rfl) ?_
        refine lv_iload_n hx hb dL_law_1212 rfl (lv_at hl 3 rfl) ?_
        refine lv_iconst (v := (1 : Int32)) hx hb dL_law_1213 (by decide) ?_
        refine lv_iadd hx hb dL_law_1214 ?_
        refine va_sld hx hb hX hbl hbA hS (lw_ix (j := 1) hL9 hlt (by decide)) dL_law_1215 ?_
        refine lv_aload_n hx hb dL_law_1216 rfl (lv_at hl 0 rfl) ?_
        refine lv_iload_n hx hb dL_law_1217 rfl (lv_at hl 3 rfl) ?_
        refine lv_iconst (v := (2 : Int32)) hx hb dL_law_1218 (by decide) ?_
        refine lv_iadd hx hb dL_law_1219 ?_
        refine va_sld hx hb hX hbl hbA hS (lw_ix (j := 2) hL9 hlt (by decide)) dL_law_1220 ?_
        obtain ⟨r, wx1, wm1, hcx, hcm, hI1⟩ := o_key wx wm hI (xs ((nI k) + (1 : Int32)).toNatClampNeg) (xs ((nI k) + (2 : Int32)).toNatClampNeg)
        refine lf_i C1 hP hD hS (lx_run (As := [.int (xs ((nI k) + (1 : Int32)).toNatClampNeg), .int (xs ((nI k) + (2 : Int32)).toNatClampNeg)]) (rest := []) (ci := 9) C1 hcx (cwV 2 hts (g_V kw_1057 kw_1058 kw_1059 kw_72 kw_1060) rfl rfl rfl hd_X11_key ⟨Nat.le_of_ble_eq_true rfl, Nat.le_of_ble_eq_true rfl⟩) hP hD hS rfl hfx rfl rfl hl (Nat.le_of_ble_eq_true rfl) dL_law_1221 ⟨Nat.le_of_ble_eq_true rfl, Nat.le_of_ble_eq_true rfl⟩) (fun H locs hP hD hS => ?_)
        refine lv_aload_n hx hb dL_law_1224 rfl (lv_at hl 2 rfl) ?_
        refine lv_aload_n hx hb dL_law_1225 rfl (lv_at hl 0 rfl) ?_
        refine lv_iload_n hx hb dL_law_1226 rfl (lv_at hl 3 rfl) ?_
        refine lv_iconst (v := (1 : Int32)) hx hb dL_law_1227 (by decide) ?_
        refine lv_iadd hx hb dL_law_1228 ?_
        refine va_sld hx hb hX hbl hbA hS (lw_ix (j := 1) hL9 hlt (by decide)) dL_law_1229 ?_
        refine lv_aload_n hx hb dL_law_1230 rfl (lv_at hl 0 rfl) ?_
        refine lv_iload_n hx hb dL_law_1231 rfl (lv_at hl 3 rfl) ?_
        refine lv_iconst (v := (2 : Int32)) hx hb dL_law_1232 (by decide) ?_
        refine lv_iadd hx hb dL_law_1233 ?_
        refine va_sld hx hb hX hbl hbA hS (lw_ix (j := 2) hL9 hlt (by decide)) dL_law_1234 ?_
        refine lf_i C1 hP hD hS (lm_run (As := [.int (xs ((nI k) + (1 : Int32)).toNatClampNeg), .int (xs ((nI k) + (2 : Int32)).toNatClampNeg)]) (rest := [.int r]) (ci := 10) C1 hcm (cwV 2 hts (g_V kw_1679 kw_1680 kw_1681 kw_83 kw_1682) rfl rfl rfl hd_X12_key ⟨Nat.le_of_ble_eq_true rfl, Nat.le_of_ble_eq_true rfl⟩) hP hD hS rfl hfm rfl rfl hl (Nat.le_of_ble_eq_true rfl) dL_law_1235 ⟨Nat.le_of_ble_eq_true rfl, Nat.le_of_ble_eq_true rfl⟩) (fun H locs hP hD hS => ?_)
        refine lv_icmp_eq (tgt := 1266) hx hb dL_law_1238 (by decide) (fun c9 => ?_) (fun c9 => absurd rfl c9)
        obtain ⟨k9, ek9⟩ : ∃ z : Int32, z = nI (k + 9) := ⟨_, rfl⟩
        refine lv_iinc (v := nI (k + 9)) (lv' := [(3, .int (nI (k + 9))), (0, .ref b), (1, .ref x), (2, .ref mm)]) hx hb dL_law_1266 hl (k := 3) rfl (by rw [show Int32.ofInt 9 = nI 9 from rfl, nI_add]) (by decide) rfl (fun ls hl => ?_)
        refine lv_goto (tgt := 18) hx hb dL_law_1269 (by decide) ?_
        exact ih (k + 9) (by omega) (by omega) wx1 wm1 hI1 H locs ls hP hD hS (lv_sub hl [1, 2, 3, 0] rfl)
      have hc_25 : ∀ (H : Heap) (locs : List Loc) (ls : Array Slot), va_P D vwCl (wx ++ wm) H → va_D (fun r : Nat => s.heap.size ≤ r) (wx ++ wm) → va_S (fun r : Nat => s.heap.size ≤ r) s.heap H locs → lv_has ls 4 [(0, .ref b), (1, .ref x), (2, .ref mm), (3, .int (nI k))] → W p l e room_1 s m #[Value.ref b] below meth c H locs 132 30000 (lw_Z below #[Value.ref b] s) (F0 m 1243 ls []) := by
        intro H locs ls hP hD hS hl
        refine lv_aload_n hx hb dL_law_1243 rfl (lv_at hl 1 rfl) ?_
        refine lv_aload_n hx hb dL_law_1244 rfl (lv_at hl 0 rfl) ?_
        refine lv_iload_n hx hb dL_law_1245 rfl (lv_at hl 3 rfl) ?_
        refine lv_iconst (v := (1 : Int32)) hx hb dL_law_1246 (by decide) ?_
        refine lv_iadd hx hb dL_law_1247 ?_
        refine va_sld hx hb hX hbl hbA hS (lw_ix (j := 1) hL9 hlt (by decide)) dL_law_1248 ?_
        obtain ⟨r, wx1, wm1, hcx, hcm, hI1⟩ := o_told wx wm hI (xs ((nI k) + (1 : Int32)).toNatClampNeg)
        refine lf_i C1 hP hD hS (lx_run (As := [.int (xs ((nI k) + (1 : Int32)).toNatClampNeg)]) (rest := []) (ci := 9) C1 hcx (cwV 1 hts (g_V kw_1061 kw_1062 kw_1063 kw_72 kw_1064) rfl rfl rfl hd_X11_told ⟨Nat.le_of_ble_eq_true rfl, Nat.le_of_ble_eq_true rfl⟩) hP hD hS rfl hfx rfl rfl hl (Nat.le_of_ble_eq_true rfl) dL_law_1249 ⟨Nat.le_of_ble_eq_true rfl, Nat.le_of_ble_eq_true rfl⟩) (fun H locs hP hD hS => ?_)
        refine lv_aload_n hx hb dL_law_1252 rfl (lv_at hl 2 rfl) ?_
        refine lv_aload_n hx hb dL_law_1253 rfl (lv_at hl 0 rfl) ?_
        refine lv_iload_n hx hb dL_law_1254 rfl (lv_at hl 3 rfl) ?_
        refine lv_iconst (v := (1 : Int32)) hx hb dL_law_1255 (by decide) ?_
        refine lv_iadd hx hb dL_law_1256 ?_
        refine va_sld hx hb hX hbl hbA hS (lw_ix (j := 1) hL9 hlt (by decide)) dL_law_1257 ?_
        refine lf_i C1 hP hD hS (lm_run (As := [.int (xs ((nI k) + (1 : Int32)).toNatClampNeg)]) (rest := [.int r]) (ci := 10) C1 hcm (cwV 1 hts (g_V kw_1683 kw_1684 kw_1685 kw_83 kw_1686) rfl rfl rfl hd_X12_told ⟨Nat.le_of_ble_eq_true rfl, Nat.le_of_ble_eq_true rfl⟩) hP hD hS rfl hfm rfl rfl hl (Nat.le_of_ble_eq_true rfl) dL_law_1258 ⟨Nat.le_of_ble_eq_true rfl, Nat.le_of_ble_eq_true rfl⟩) (fun H locs hP hD hS => ?_)
        refine lv_icmp_eq (tgt := 1266) hx hb dL_law_1261 (by decide) (fun c9 => ?_) (fun c9 => absurd rfl c9)
        obtain ⟨k9, ek9⟩ : ∃ z : Int32, z = nI (k + 9) := ⟨_, rfl⟩
        refine lv_iinc (v := nI (k + 9)) (lv' := [(3, .int (nI (k + 9))), (0, .ref b), (1, .ref x), (2, .ref mm)]) hx hb dL_law_1266 hl (k := 3) rfl (by rw [show Int32.ofInt 9 = nI 9 from rfl, nI_add]) (by decide) rfl (fun ls hl => ?_)
        refine lv_goto (tgt := 18) hx hb dL_law_1269 (by decide) ?_
        exact ih (k + 9) (by omega) (by omega) wx1 wm1 hI1 H locs ls hP hD hS (lv_sub hl [1, 2, 3, 0] rfl)
      by_cases c_0 : v = (0 : Int32)
      · refine lv_tableIn (off := 119) (tgt := 152) hx hb dL_law_33 (by rw [c_0]; decide) (by rw [c_0]; decide) (by rw [c_0]; rfl) (by decide) ?_
        exact hc_0 H locs ls hP hD hS hl
      · by_cases c_1 : v = (1 : Int32)
        · refine lv_tableIn (off := 182) (tgt := 215) hx hb dL_law_33 (by rw [c_1]; decide) (by rw [c_1]; decide) (by rw [c_1]; rfl) (by decide) ?_
          exact hc_1 H locs ls hP hD hS hl
        · by_cases c_2 : v = (2 : Int32)
          · refine lv_tableIn (off := 195) (tgt := 228) hx hb dL_law_33 (by rw [c_2]; decide) (by rw [c_2]; decide) (by rw [c_2]; rfl) (by decide) ?_
            exact hc_2 H locs ls hP hD hS hl
          · by_cases c_3 : v = (3 : Int32)
            · refine lv_tableIn (off := 228) (tgt := 261) hx hb dL_law_33 (by rw [c_3]; decide) (by rw [c_3]; decide) (by rw [c_3]; rfl) (by decide) ?_
              exact hc_3 H locs ls hP hD hS hl
            · by_cases c_4 : v = (4 : Int32)
              · refine lv_tableIn (off := 251) (tgt := 284) hx hb dL_law_33 (by rw [c_4]; decide) (by rw [c_4]; decide) (by rw [c_4]; rfl) (by decide) ?_
                exact hc_4 H locs ls hP hD hS hl
              · by_cases c_5 : v = (5 : Int32)
                · refine lv_tableIn (off := 264) (tgt := 297) hx hb dL_law_33 (by rw [c_5]; decide) (by rw [c_5]; decide) (by rw [c_5]; rfl) (by decide) ?_
                  exact hc_5 H locs ls hP hD hS hl
                · by_cases c_6 : v = (6 : Int32)
                  · refine lv_tableIn (off := 287) (tgt := 320) hx hb dL_law_33 (by rw [c_6]; decide) (by rw [c_6]; decide) (by rw [c_6]; rfl) (by decide) ?_
                    exact hc_6 H locs ls hP hD hS hl
                  · by_cases c_7 : v = (7 : Int32)
                    · refine lv_tableIn (off := 310) (tgt := 343) hx hb dL_law_33 (by rw [c_7]; decide) (by rw [c_7]; decide) (by rw [c_7]; rfl) (by decide) ?_
                      exact hc_7 H locs ls hP hD hS hl
                    · by_cases c_8 : v = (8 : Int32)
                      · refine lv_tableIn (off := 343) (tgt := 376) hx hb dL_law_33 (by rw [c_8]; decide) (by rw [c_8]; decide) (by rw [c_8]; rfl) (by decide) ?_
                        exact hc_8 H locs ls hP hD hS hl
                      · by_cases c_9 : v = (9 : Int32)
                        · refine lv_tableIn (off := 426) (tgt := 459) hx hb dL_law_33 (by rw [c_9]; decide) (by rw [c_9]; decide) (by rw [c_9]; rfl) (by decide) ?_
                          exact hc_9 H locs ls hP hD hS hl
                        · by_cases c_10 : v = (10 : Int32)
                          · refine lv_tableIn (off := 459) (tgt := 492) hx hb dL_law_33 (by rw [c_10]; decide) (by rw [c_10]; decide) (by rw [c_10]; rfl) (by decide) ?_
                            exact hc_10 H locs ls hP hD hS hl
                          · by_cases c_11 : v = (11 : Int32)
                            · refine lv_tableIn (off := 598) (tgt := 631) hx hb dL_law_33 (by rw [c_11]; decide) (by rw [c_11]; decide) (by rw [c_11]; rfl) (by decide) ?_
                              exact hc_11 H locs ls hP hD hS hl
                            · by_cases c_12 : v = (12 : Int32)
                              · refine lv_tableIn (off := 621) (tgt := 654) hx hb dL_law_33 (by rw [c_12]; decide) (by rw [c_12]; decide) (by rw [c_12]; rfl) (by decide) ?_
                                exact hc_12 H locs ls hP hD hS hl
                              · by_cases c_13 : v = (13 : Int32)
                                · refine lv_tableIn (off := 654) (tgt := 687) hx hb dL_law_33 (by rw [c_13]; decide) (by rw [c_13]; decide) (by rw [c_13]; rfl) (by decide) ?_
                                  exact hc_13 H locs ls hP hD hS hl
                                · by_cases c_14 : v = (14 : Int32)
                                  · refine lv_tableIn (off := 717) (tgt := 750) hx hb dL_law_33 (by rw [c_14]; decide) (by rw [c_14]; decide) (by rw [c_14]; rfl) (by decide) ?_
                                    exact hc_14 H locs ls hP hD hS hl
                                  · by_cases c_15 : v = (15 : Int32)
                                    · refine lv_tableIn (off := 730) (tgt := 763) hx hb dL_law_33 (by rw [c_15]; decide) (by rw [c_15]; decide) (by rw [c_15]; rfl) (by decide) ?_
                                      exact hc_15 H locs ls hP hD hS hl
                                    · by_cases c_16 : v = (16 : Int32)
                                      · refine lv_tableIn (off := 833) (tgt := 866) hx hb dL_law_33 (by rw [c_16]; decide) (by rw [c_16]; decide) (by rw [c_16]; rfl) (by decide) ?_
                                        exact hc_16 H locs ls hP hD hS hl
                                      · by_cases c_17 : v = (17 : Int32)
                                        · refine lv_tableIn (off := 928) (tgt := 961) hx hb dL_law_33 (by rw [c_17]; decide) (by rw [c_17]; decide) (by rw [c_17]; rfl) (by decide) ?_
                                          exact hc_17 H locs ls hP hD hS hl
                                        · by_cases c_18 : v = (18 : Int32)
                                          · refine lv_tableIn (off := 967) (tgt := 1000) hx hb dL_law_33 (by rw [c_18]; decide) (by rw [c_18]; decide) (by rw [c_18]; rfl) (by decide) ?_
                                            exact hc_18 H locs ls hP hD hS hl
                                          · by_cases c_19 : v = (19 : Int32)
                                            · refine lv_tableIn (off := 991) (tgt := 1024) hx hb dL_law_33 (by rw [c_19]; decide) (by rw [c_19]; decide) (by rw [c_19]; rfl) (by decide) ?_
                                              exact hc_19 H locs ls hP hD hS hl
                                            · by_cases c_20 : v = (20 : Int32)
                                              · refine lv_tableIn (off := 1004) (tgt := 1037) hx hb dL_law_33 (by rw [c_20]; decide) (by rw [c_20]; decide) (by rw [c_20]; rfl) (by decide) ?_
                                                exact hc_20 H locs ls hP hD hS hl
                                              · by_cases c_21 : v = (21 : Int32)
                                                · refine lv_tableIn (off := 1077) (tgt := 1110) hx hb dL_law_33 (by rw [c_21]; decide) (by rw [c_21]; decide) (by rw [c_21]; rfl) (by decide) ?_
                                                  exact hc_21 H locs ls hP hD hS hl
                                                · by_cases c_22 : v = (22 : Int32)
                                                  · refine lv_tableIn (off := 1100) (tgt := 1133) hx hb dL_law_33 (by rw [c_22]; decide) (by rw [c_22]; decide) (by rw [c_22]; rfl) (by decide) ?_
                                                    exact hc_22 H locs ls hP hD hS hl
                                                  · by_cases c_23 : v = (23 : Int32)
                                                    · refine lv_tableIn (off := 1163) (tgt := 1196) hx hb dL_law_33 (by rw [c_23]; decide) (by rw [c_23]; decide) (by rw [c_23]; rfl) (by decide) ?_
                                                      exact hc_23 H locs ls hP hD hS hl
                                                    · by_cases c_24 : v = (24 : Int32)
                                                      · refine lv_tableIn (off := 1177) (tgt := 1210) hx hb dL_law_33 (by rw [c_24]; decide) (by rw [c_24]; decide) (by rw [c_24]; rfl) (by decide) ?_
                                                        exact hc_24 H locs ls hP hD hS hl
                                                      · by_cases c_25 : v = (25 : Int32)
                                                        · refine lv_tableIn (off := 1210) (tgt := 1243) hx hb dL_law_33 (by rw [c_25]; decide) (by rw [c_25]; decide) (by rw [c_25]; rfl) (by decide) ?_
                                                          exact hc_25 H locs ls hP hD hS hl
                                                        · refine lv_tableOut (tgt := 1266) hx hb dL_law_33 (by
                                                            rcases Int.lt_or_le v.toInt 0 with h | h
                                                            · exact Or.inl h
                                                            · right
                                                              have e0 : v.toInt ≠ 0 := fun h => c_0 (Int32.toInt_inj.mp (by rw [h]; rfl))
                                                              have e1 : v.toInt ≠ 1 := fun h => c_1 (Int32.toInt_inj.mp (by rw [h]; rfl))
                                                              have e2 : v.toInt ≠ 2 := fun h => c_2 (Int32.toInt_inj.mp (by rw [h]; rfl))
                                                              have e3 : v.toInt ≠ 3 := fun h => c_3 (Int32.toInt_inj.mp (by rw [h]; rfl))
                                                              have e4 : v.toInt ≠ 4 := fun h => c_4 (Int32.toInt_inj.mp (by rw [h]; rfl))
                                                              have e5 : v.toInt ≠ 5 := fun h => c_5 (Int32.toInt_inj.mp (by rw [h]; rfl))
                                                              have e6 : v.toInt ≠ 6 := fun h => c_6 (Int32.toInt_inj.mp (by rw [h]; rfl))
                                                              have e7 : v.toInt ≠ 7 := fun h => c_7 (Int32.toInt_inj.mp (by rw [h]; rfl))
                                                              have e8 : v.toInt ≠ 8 := fun h => c_8 (Int32.toInt_inj.mp (by rw [h]; rfl))
                                                              have e9 : v.toInt ≠ 9 := fun h => c_9 (Int32.toInt_inj.mp (by rw [h]; rfl))
                                                              have e10 : v.toInt ≠ 10 := fun h => c_10 (Int32.toInt_inj.mp (by rw [h]; rfl))
                                                              have e11 : v.toInt ≠ 11 := fun h => c_11 (Int32.toInt_inj.mp (by rw [h]; rfl))
                                                              have e12 : v.toInt ≠ 12 := fun h => c_12 (Int32.toInt_inj.mp (by rw [h]; rfl))
                                                              have e13 : v.toInt ≠ 13 := fun h => c_13 (Int32.toInt_inj.mp (by rw [h]; rfl))
                                                              have e14 : v.toInt ≠ 14 := fun h => c_14 (Int32.toInt_inj.mp (by rw [h]; rfl))
                                                              have e15 : v.toInt ≠ 15 := fun h => c_15 (Int32.toInt_inj.mp (by rw [h]; rfl))
                                                              have e16 : v.toInt ≠ 16 := fun h => c_16 (Int32.toInt_inj.mp (by rw [h]; rfl))
                                                              have e17 : v.toInt ≠ 17 := fun h => c_17 (Int32.toInt_inj.mp (by rw [h]; rfl))
                                                              have e18 : v.toInt ≠ 18 := fun h => c_18 (Int32.toInt_inj.mp (by rw [h]; rfl))
                                                              have e19 : v.toInt ≠ 19 := fun h => c_19 (Int32.toInt_inj.mp (by rw [h]; rfl))
                                                              have e20 : v.toInt ≠ 20 := fun h => c_20 (Int32.toInt_inj.mp (by rw [h]; rfl))
                                                              have e21 : v.toInt ≠ 21 := fun h => c_21 (Int32.toInt_inj.mp (by rw [h]; rfl))
                                                              have e22 : v.toInt ≠ 22 := fun h => c_22 (Int32.toInt_inj.mp (by rw [h]; rfl))
                                                              have e23 : v.toInt ≠ 23 := fun h => c_23 (Int32.toInt_inj.mp (by rw [h]; rfl))
                                                              have e24 : v.toInt ≠ 24 := fun h => c_24 (Int32.toInt_inj.mp (by rw [h]; rfl))
                                                              have e25 : v.toInt ≠ 25 := fun h => c_25 (Int32.toInt_inj.mp (by rw [h]; rfl))
                                                              omega) (by decide) ?_
                                                          obtain ⟨k9, ek9⟩ : ∃ z : Int32, z = nI (k + 9) := ⟨_, rfl⟩
                                                          refine lv_iinc (v := nI (k + 9)) (lv' := [(3, .int (nI (k + 9))), (0, .ref b), (1, .ref x), (2, .ref mm)]) hx hb dL_law_1266 hl (k := 3) rfl (by rw [show Int32.ofInt 9 = nI 9 from rfl, nI_add]) (by decide) rfl (fun ls hl => ?_)
                                                          refine lv_goto (tgt := 18) hx hb dL_law_1269 (by decide) ?_
                                                          exact ih (k + 9) (by omega) (by omega) wx wm hI H locs ls hP hD hS (lv_sub hl [1, 2, 3, 0] rfl)
