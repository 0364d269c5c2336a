/-- the cells of the reference: its object at a 0, its arrays behind -/
def mw (q : Nat → ClassId) (a : Nat → Nat) (r_tape : (Nat → Int32)) (x_taped : Int32) (r_out : (Nat → Int32)) (x_outs : Int32) (x_authorities : Int32) (r_names : (Nat → Int32)) (r_nameSizes : (Nat → Int32)) (r_secrets : (Nat → Int64)) (r_keys : (Nat → Int64)) (r_issued : (Nat → Int32)) (r_serials : (Nat → Int32)) (r_since : (Nat → Int64)) (r_reasons : (Nat → Int32)) (x_signers : Int32) (r_signerOf : (Nat → Int32)) (r_signerSecrets : (Nat → Int64)) (r_signerKeys : (Nat → Int64)) (r_certs : (Nat → Int32)) (r_certSizes : (Nat → Int32)) (x_wanted : Int32) (r_wantedOf : (Nat → Int32)) (r_wantedSerials : (Nat → Int32)) (r_nonce : (Nat → Int32)) (x_nonceSize : Int32) (x_answersFine : Int32) (x_answersElse : Int32) (x_looks : Int32) (x_hashed : Int64) (x_signedC : Int64) (x_signedZ : Int64) (r_shown : (Nat → Int32)) (r_draft : (Nat → Int32)) (x_drafted : Int32) (x_at : Int32) (x_items : Int32) (x_fault : Int32) (x_start : Int32) (x_sort : Int32) (x_from : Int32) (x_to : Int32) (x_number : Int64) (x_signatureAt : Int32) (x_innerFrom : Int32) (x_innerTo : Int32) (x_certSignature : Int32) (x_issuerFrom : Int32) (x_issuerTo : Int32) (x_holderFrom : Int32) (x_holderTo : Int32) (x_certSerial : Int64) (x_certFrom : Int64) (x_certTo : Int64) (x_certKey : Int64) (x_certFlags : Int32) (x_ids : Int32) (r_idNames : (Nat → Int32)) (r_idKeys : (Nat → Int32)) (r_idSerials : (Nat → Int64)) (x_nonceFrom : Int32) (x_nonceTo : Int32) (x_status : Int32) (x_tellerSort : Int32) (x_tellerFrom : Int32) (x_tellerTo : Int32) (x_bodyFrom : Int32) (x_bodyTo : Int32) (x_bodySignature : Int32) (x_hasCert : Int32) (r_states : (Nat → Int32)) (r_whens : (Nat → Int64)) (r_whys : (Nat → Int32)) (r_fresh : (Nat → Int64)) (r_laters : (Nat → Int64)) (x_verdict : Int32) (r_find : (Nat → Int64)) (x_hasFind : Int32) (x_mayHold : Int32) (x_findOf : Int32) (x_findSerial : Int32) (x_helds : Int32) (r_heldOf : (Nat → Int32)) (r_heldSerial : (Nat → Int32)) (r_heldState : (Nat → Int32)) (r_heldTill : (Nat → Int64)) : va_W :=
  [(a 0, .inr (10, [.ref (a 1), .int x_taped, .ref (a 2), .int x_outs, .int x_authorities, .ref (a 3), .ref (a 4), .ref (a 5), .ref (a 6), .ref (a 7), .ref (a 8), .ref (a 9), .ref (a 10), .int x_signers, .ref (a 11), .ref (a 12), .ref (a 13), .ref (a 14), .ref (a 15), .int x_wanted, .ref (a 16), .ref (a 17), .ref (a 18), .int x_nonceSize, .int x_answersFine, .int x_answersElse, .int x_looks, .long x_hashed, .long x_signedC, .long x_signedZ, .ref (a 19), .ref (a 20), .int x_drafted, .int x_at, .int x_items, .int x_fault, .int x_start, .int x_sort, .int x_from, .int x_to, .long x_number, .int x_signatureAt, .int x_innerFrom, .int x_innerTo, .int x_certSignature, .int x_issuerFrom, .int x_issuerTo, .int x_holderFrom, .int x_holderTo, .long x_certSerial, .long x_certFrom, .long x_certTo, .long x_certKey, .int x_certFlags, .int x_ids, .ref (a 21), .ref (a 22), .ref (a 23), .int x_nonceFrom, .int x_nonceTo, .int x_status, .int x_tellerSort, .int x_tellerFrom, .int x_tellerTo, .int x_bodyFrom, .int x_bodyTo, .int x_bodySignature, .int x_hasCert, .ref (a 24), .ref (a 25), .ref (a 26), .ref (a 27), .ref (a 28), .int x_verdict, .ref (a 29), .int x_hasFind, .int x_mayHold, .int x_findOf, .int x_findSerial, .int x_helds, .ref (a 30), .ref (a 31), .ref (a 32), .ref (a 33)])), (a 1, .inl (q 0, 1500, .inl r_tape)), (a 2, .inl (q 0, 4000, .inl r_out)), (a 3, .inl (q 0, 64, .inl r_names)), (a 4, .inl (q 1, 4, .inl r_nameSizes)), (a 5, .inl (q 2, 4, .inr (.inl r_secrets))), (a 6, .inl (q 2, 4, .inr (.inl r_keys))), (a 7, .inl (q 1, 4, .inl r_issued)), (a 8, .inl (q 1, 128, .inl r_serials)), (a 9, .inl (q 2, 128, .inr (.inl r_since))), (a 10, .inl (q 1, 128, .inl r_reasons)), (a 11, .inl (q 1, 8, .inl r_signerOf)), (a 12, .inl (q 2, 8, .inr (.inl r_signerSecrets))), (a 13, .inl (q 2, 8, .inr (.inl r_signerKeys))), (a 14, .inl (q 0, 2400, .inl r_certs)), (a 15, .inl (q 1, 8, .inl r_certSizes)), (a 16, .inl (q 1, 8, .inl r_wantedOf)), (a 17, .inl (q 1, 8, .inl r_wantedSerials)), (a 18, .inl (q 0, 8, .inl r_nonce)), (a 19, .inl (q 1, 6, .inl r_shown)), (a 20, .inl (q 0, 4000, .inl r_draft)), (a 21, .inl (q 1, 8, .inl r_idNames)), (a 22, .inl (q 1, 8, .inl r_idKeys)), (a 23, .inl (q 2, 8, .inr (.inl r_idSerials))), (a 24, .inl (q 1, 8, .inl r_states)), (a 25, .inl (q 2, 8, .inr (.inl r_whens))), (a 26, .inl (q 1, 8, .inl r_whys)), (a 27, .inl (q 2, 8, .inr (.inl r_fresh))), (a 28, .inl (q 2, 8, .inr (.inl r_laters))), (a 29, .inl (q 2, 5, .inr (.inl r_find))), (a 30, .inl (q 1, 16, .inl r_heldOf)), (a 31, .inl (q 1, 16, .inl r_heldSerial)), (a 32, .inl (q 1, 16, .inl r_heldState)), (a 33, .inl (q 2, 16, .inr (.inl r_heldTill)))]
set_option maxRecDepth 20000 in
theorem kw_20 : Cond.selects RX12 yX12_show yX12_show ∈ wg := wg_in0 20 rfl rfl
set_option maxRecDepth 20000 in
theorem kw_21 : Cond.selects RX12 yX12_character yX12_character ∈ wg := wg_in0 21 rfl rfl
set_option maxRecDepth 20000 in
theorem kw_22 : Cond.selects RX12 yX12_reads yX12_reads ∈ wg := wg_in0 22 rfl rfl
set_option maxRecDepth 20000 in
theorem kw_23 : Cond.selects RX12 yX12_readCert yX12_readCert ∈ wg := wg_in0 23 rfl rfl
set_option maxRecDepth 20000 in
theorem kw_24 : Cond.selects RX12 yX12_of yX12_of ∈ wg := wg_in0 24 rfl rfl
set_option maxRecDepth 20000 in
theorem kw_25 : Cond.selects RX12 yX12_item yX12_item ∈ wg := wg_in0 25 rfl rfl
set_option maxRecDepth 20000 in
theorem kw_26 : Cond.selects RX12 yX12_wrong yX12_wrong ∈ wg := wg_in0 26 rfl rfl
set_option maxRecDepth 20000 in
theorem kw_27 : Cond.selects RX12 yX12_integer yX12_integer ∈ wg := wg_in0 27 rfl rfl
set_option maxRecDepth 20000 in
theorem kw_28 : Cond.selects RX12 yX12_bytes yX12_bytes ∈ wg := wg_in0 28 rfl rfl
set_option maxRecDepth 20000 in
theorem kw_29 : Cond.selects RX12 yX12_time yX12_time ∈ wg := wg_in0 29 rfl rfl
set_option maxRecDepth 20000 in
theorem kw_30 : Cond.selects RX12 yX12_ends yX12_ends ∈ wg := wg_in0 30 rfl rfl
set_option maxRecDepth 20000 in
theorem kw_31 : Cond.selects RX12 yX12_signature yX12_signature ∈ wg := wg_in0 31 rfl rfl
set_option maxRecDepth 20000 in
theorem kw_32 : Cond.selects RX12 yX12_readAsk yX12_readAsk ∈ wg := wg_in0 32 rfl rfl
set_option maxRecDepth 20000 in
theorem kw_33 : Cond.selects RX12 yX12_readId yX12_readId ∈ wg := wg_in0 33 rfl rfl
set_option maxRecDepth 20000 in
theorem kw_34 : Cond.selects RX12 yX12_readNonce yX12_readNonce ∈ wg := wg_in0 34 rfl rfl
set_option maxRecDepth 20000 in
theorem kw_35 : Cond.selects RX12 yX12_readAnswer yX12_readAnswer ∈ wg := wg_in0 35 rfl rfl
set_option maxRecDepth 20000 in
theorem kw_36 : Cond.selects RX12 yX12_code yX12_code ∈ wg := wg_in0 36 rfl rfl
set_option maxRecDepth 20000 in
theorem kw_37 : Cond.selects RX12 yX12_readBody yX12_readBody ∈ wg := wg_in0 37 rfl rfl
set_option maxRecDepth 20000 in
theorem kw_38 : Cond.selects RX12 yX12_readTeller yX12_readTeller ∈ wg := wg_in0 38 rfl rfl
set_option maxRecDepth 20000 in
theorem kw_39 : Cond.selects RX12 yX12_readSingle yX12_readSingle ∈ wg := wg_in0 39 rfl rfl
set_option maxRecDepth 20000 in
theorem kw_40 : Cond.selects RX12 yX12_readState yX12_readState ∈ wg := wg_in0 40 rfl rfl
set_option maxRecDepth 20000 in
theorem kw_41 : Cond.selects RX12 yX12_hashOf yX12_hashOf ∈ wg := wg_in0 41 rfl rfl
set_option maxRecDepth 20000 in
theorem kw_42 : Cond.selects RX12 yX12_beginHash yX12_beginHash ∈ wg := wg_in0 42 rfl rfl
set_option maxRecDepth 20000 in
theorem kw_43 : Cond.selects RX12 yX12_hashRow yX12_hashRow ∈ wg := wg_in0 43 rfl rfl
set_option maxRecDepth 20000 in
theorem kw_44 : Cond.selects RX12 yX12_hashByte yX12_hashByte ∈ wg := wg_in0 44 rfl rfl
set_option maxRecDepth 20000 in
theorem kw_45 : Cond.selects RX12 yX12_endHash yX12_endHash ∈ wg := wg_in0 45 rfl rfl
set_option maxRecDepth 20000 in
theorem kw_46 : Cond.selects RX12 yX12_isAuthority yX12_isAuthority ∈ wg := wg_in0 46 rfl rfl
set_option maxRecDepth 20000 in
theorem kw_47 : Cond.selects RX12 yX12_find yX12_find ∈ wg := wg_in0 47 rfl rfl
set_option maxRecDepth 20000 in
theorem kw_48 : Cond.selects RX12 yX12_enter yX12_enter ∈ wg := wg_in0 48 rfl rfl
set_option maxRecDepth 20000 in
theorem kw_49 : Cond.selects RX12 yX12_layInteger yX12_layInteger ∈ wg := wg_in0 49 rfl rfl
set_option maxRecDepth 20000 in
theorem kw_50 : Cond.selects RX12 yX12_lay yX12_lay ∈ wg := wg_in0 50 rfl rfl
set_option maxRecDepth 20000 in
theorem kw_51 : Cond.selects RX12 yX12_wrap yX12_wrap ∈ wg := wg_in0 51 rfl rfl
set_option maxRecDepth 20000 in
theorem kw_52 : Cond.selects RX12 yX12_layRow yX12_layRow ∈ wg := wg_in0 52 rfl rfl
set_option maxRecDepth 20000 in
theorem kw_53 : Cond.selects RX12 yX12_layTime yX12_layTime ∈ wg := wg_in0 53 rfl rfl
set_option maxRecDepth 20000 in
theorem kw_54 : Cond.selects RX12 yX12_laySignature yX12_laySignature ∈ wg := wg_in0 54 rfl rfl
set_option maxRecDepth 20000 in
theorem kw_55 : Cond.selects RX12 yX12_sign yX12_sign ∈ wg := wg_in0 55 rfl rfl
set_option maxRecDepth 20000 in
theorem kw_56 : Cond.selects RX12 yX12_hashOfTwo yX12_hashOfTwo ∈ wg := wg_in0 56 rfl rfl
set_option maxRecDepth 20000 in
theorem kw_57 : Cond.selects RX12 yX12_hashLong yX12_hashLong ∈ wg := wg_in0 57 rfl rfl
set_option maxRecDepth 20000 in
theorem kw_58 : Cond.selects RX12 yX12_tellDraft yX12_tellDraft ∈ wg := wg_in0 58 rfl rfl
set_option maxRecDepth 20000 in
theorem kw_59 : Cond.selects RX12 yX12_layId yX12_layId ∈ wg := wg_in0 59 rfl rfl
set_option maxRecDepth 20000 in
theorem kw_60 : Cond.selects RX12 yX12_layHash yX12_layHash ∈ wg := wg_in0 60 rfl rfl
set_option maxRecDepth 20000 in
theorem kw_61 : Cond.selects RX12 yX12_layLong yX12_layLong ∈ wg := wg_in0 61 rfl rfl
set_option maxRecDepth 20000 in
theorem kw_62 : Cond.selects RX12 yX12_hashOfKey yX12_hashOfKey ∈ wg := wg_in0 62 rfl rfl
set_option maxRecDepth 20000 in
theorem kw_63 : Cond.selects RX12 yX12_tellStatus yX12_tellStatus ∈ wg := wg_in0 63 rfl rfl
set_option maxRecDepth 20000 in
theorem kw_64 : Cond.selects RX12 yX12_layCode yX12_layCode ∈ wg := wg_in0 64 rfl rfl
set_option maxRecDepth 20000 in
theorem kw_65 : Cond.selects RX12 yX12_isOf yX12_isOf ∈ wg := wg_in0 65 rfl rfl
set_option maxRecDepth 20000 in
theorem kw_66 : Cond.selects RX12 yX12_isHash yX12_isHash ∈ wg := wg_in0 66 rfl rfl
set_option maxRecDepth 20000 in
theorem kw_67 : Cond.selects RX12 yX12_laySingle yX12_laySingle ∈ wg := wg_in0 67 rfl rfl
set_option maxRecDepth 20000 in
theorem kw_68 : Cond.selects RX12 yX12_verdictOf yX12_verdictOf ∈ wg := wg_in0 68 rfl rfl
set_option maxRecDepth 20000 in
theorem kw_69 : Cond.selects RX12 yX12_isToldBy yX12_isToldBy ∈ wg := wg_in0 69 rfl rfl
set_option maxRecDepth 20000 in
theorem kw_70 : Cond.selects RX12 yX12_isRight yX12_isRight ∈ wg := wg_in0 70 rfl rfl
set_option maxRecDepth 20000 in
theorem kw_83 : Cond.initialized RX12 ∈ wg := wg_in1 12 rfl rfl
set_option maxRecDepth 20000 in
theorem kw_1071 : Cond.fieldLink RX12 7 "StatusDeskModel" "tape" "[B" ∈ wg := wg_in5 40 rfl rfl
set_option maxRecDepth 20000 in
theorem kw_1072 : Cond.fieldLink RX12 121 "StatusDeskModel" "taped" "I" ∈ wg := wg_in5 41 rfl rfl
set_option maxRecDepth 20000 in
theorem kw_1073 : Cond.fieldLink RX12 13 "StatusDeskModel" "out" "[B" ∈ wg := wg_in5 42 rfl rfl
set_option maxRecDepth 20000 in
theorem kw_1074 : Cond.fieldLink RX12 124 "StatusDeskModel" "outs" "I" ∈ wg := wg_in5 43 rfl rfl
set_option maxRecDepth 20000 in
theorem kw_1075 : Cond.fieldLink RX12 427 "StatusDeskModel" "authorities" "I" ∈ wg := wg_in5 44 rfl rfl
set_option maxRecDepth 20000 in
theorem kw_1076 : Cond.fieldLink RX12 16 "StatusDeskModel" "names" "[B" ∈ wg := wg_in5 45 rfl rfl
set_option maxRecDepth 20000 in
theorem kw_1077 : Cond.fieldLink RX12 19 "StatusDeskModel" "nameSizes" "[I" ∈ wg := wg_in5 46 rfl rfl
set_option maxRecDepth 20000 in
theorem kw_1078 : Cond.fieldLink RX12 23 "StatusDeskModel" "secrets" "[J" ∈ wg := wg_in5 47 rfl rfl
set_option maxRecDepth 20000 in
theorem kw_1079 : Cond.fieldLink RX12 27 "StatusDeskModel" "keys" "[J" ∈ wg := wg_in5 48 rfl rfl
set_option maxRecDepth 20000 in
theorem kw_1080 : Cond.fieldLink RX12 30 "StatusDeskModel" "issued" "[I" ∈ wg := wg_in5 49 rfl rfl
set_option maxRecDepth 20000 in
theorem kw_1081 : Cond.fieldLink RX12 33 "StatusDeskModel" "serials" "[I" ∈ wg := wg_in5 50 rfl rfl
set_option maxRecDepth 20000 in
theorem kw_1082 : Cond.fieldLink RX12 36 "StatusDeskModel" "since" "[J" ∈ wg := wg_in5 51 rfl rfl
set_option maxRecDepth 20000 in
theorem kw_1083 : Cond.fieldLink RX12 39 "StatusDeskModel" "reasons" "[I" ∈ wg := wg_in5 52 rfl rfl
set_option maxRecDepth 20000 in
theorem kw_1084 : Cond.fieldLink RX12 445 "StatusDeskModel" "signers" "I" ∈ wg := wg_in5 53 rfl rfl
set_option maxRecDepth 20000 in
theorem kw_1085 : Cond.fieldLink RX12 42 "StatusDeskModel" "signerOf" "[I" ∈ wg := wg_in5 54 rfl rfl
set_option maxRecDepth 20000 in
theorem kw_1086 : Cond.fieldLink RX12 45 "StatusDeskModel" "signerSecrets" "[J" ∈ wg := wg_in5 55 rfl rfl
set_option maxRecDepth 20000 in
theorem kw_1087 : Cond.fieldLink RX12 48 "StatusDeskModel" "signerKeys" "[J" ∈ wg := wg_in5 56 rfl rfl
set_option maxRecDepth 20000 in
theorem kw_1088 : Cond.fieldLink RX12 51 "StatusDeskModel" "certs" "[B" ∈ wg := wg_in5 57 rfl rfl
set_option maxRecDepth 20000 in
theorem kw_1089 : Cond.fieldLink RX12 54 "StatusDeskModel" "certSizes" "[I" ∈ wg := wg_in5 58 rfl rfl
set_option maxRecDepth 20000 in
theorem kw_1090 : Cond.fieldLink RX12 462 "StatusDeskModel" "wanted" "I" ∈ wg := wg_in5 59 rfl rfl
set_option maxRecDepth 20000 in
theorem kw_1091 : Cond.fieldLink RX12 57 "StatusDeskModel" "wantedOf" "[I" ∈ wg := wg_in5 60 rfl rfl
set_option maxRecDepth 20000 in
theorem kw_1092 : Cond.fieldLink RX12 60 "StatusDeskModel" "wantedSerials" "[I" ∈ wg := wg_in5 61 rfl rfl
set_option maxRecDepth 20000 in
theorem kw_1093 : Cond.fieldLink RX12 63 "StatusDeskModel" "nonce" "[B" ∈ wg := wg_in5 62 rfl rfl
set_option maxRecDepth 20000 in
theorem kw_1094 : Cond.fieldLink RX12 465 "StatusDeskModel" "nonceSize" "I" ∈ wg := wg_in5 63 rfl rfl
set_option maxRecDepth 20000 in
theorem kw_1095 : Cond.fieldLink RX12 492 "StatusDeskModel" "answersFine" "I" ∈ wg := wg_in5 64 rfl rfl
set_option maxRecDepth 20000 in
theorem kw_1096 : Cond.fieldLink RX12 479 "StatusDeskModel" "answersElse" "I" ∈ wg := wg_in5 65 rfl rfl
set_option maxRecDepth 20000 in
theorem kw_1097 : Cond.fieldLink RX12 521 "StatusDeskModel" "looks" "I" ∈ wg := wg_in5 66 rfl rfl
set_option maxRecDepth 20000 in
theorem kw_1098 : Cond.fieldLink RX12 129 "StatusDeskModel" "hashed" "J" ∈ wg := wg_in5 67 rfl rfl
set_option maxRecDepth 20000 in
theorem kw_1099 : Cond.fieldLink RX12 180 "StatusDeskModel" "signedC" "J" ∈ wg := wg_in5 68 rfl rfl
set_option maxRecDepth 20000 in
theorem kw_1100 : Cond.fieldLink RX12 183 "StatusDeskModel" "signedZ" "J" ∈ wg := wg_in5 69 rfl rfl
set_option maxRecDepth 20000 in
theorem kw_1101 : Cond.fieldLink RX12 66 "StatusDeskModel" "shown" "[I" ∈ wg := wg_in5 70 rfl rfl
set_option maxRecDepth 20000 in
theorem kw_1102 : Cond.fieldLink RX12 69 "StatusDeskModel" "draft" "[B" ∈ wg := wg_in5 71 rfl rfl
set_option maxRecDepth 20000 in
theorem kw_1103 : Cond.fieldLink RX12 229 "StatusDeskModel" "drafted" "I" ∈ wg := wg_in5 72 rfl rfl
set_option maxRecDepth 20000 in
theorem kw_1104 : Cond.fieldLink RX12 259 "StatusDeskModel" "at" "I" ∈ wg := wg_in5 73 rfl rfl
set_option maxRecDepth 20000 in
theorem kw_1105 : Cond.fieldLink RX12 279 "StatusDeskModel" "items" "I" ∈ wg := wg_in5 74 rfl rfl
set_option maxRecDepth 20000 in
theorem kw_1106 : Cond.fieldLink RX12 256 "StatusDeskModel" "fault" "I" ∈ wg := wg_in5 75 rfl rfl
set_option maxRecDepth 20000 in
theorem kw_1107 : Cond.fieldLink RX12 262 "StatusDeskModel" "start" "I" ∈ wg := wg_in5 76 rfl rfl
set_option maxRecDepth 20000 in
theorem kw_1108 : Cond.fieldLink RX12 269 "StatusDeskModel" "sort" "I" ∈ wg := wg_in5 77 rfl rfl
set_option maxRecDepth 20000 in
theorem kw_1109 : Cond.fieldLink RX12 273 "StatusDeskModel" "from" "I" ∈ wg := wg_in5 78 rfl rfl
set_option maxRecDepth 20000 in
theorem kw_1110 : Cond.fieldLink RX12 276 "StatusDeskModel" "to" "I" ∈ wg := wg_in5 79 rfl rfl
set_option maxRecDepth 20000 in
theorem kw_1111 : Cond.fieldLink RX12 289 "StatusDeskModel" "number" "J" ∈ wg := wg_in5 80 rfl rfl
set_option maxRecDepth 20000 in
theorem kw_1112 : Cond.fieldLink RX12 297 "StatusDeskModel" "signatureAt" "I" ∈ wg := wg_in5 81 rfl rfl
set_option maxRecDepth 20000 in
theorem kw_1113 : Cond.fieldLink RX12 300 "StatusDeskModel" "innerFrom" "I" ∈ wg := wg_in5 82 rfl rfl
set_option maxRecDepth 20000 in
theorem kw_1114 : Cond.fieldLink RX12 303 "StatusDeskModel" "innerTo" "I" ∈ wg := wg_in5 83 rfl rfl
set_option maxRecDepth 20000 in
theorem kw_1115 : Cond.fieldLink RX12 356 "StatusDeskModel" "certSignature" "I" ∈ wg := wg_in5 84 rfl rfl
set_option maxRecDepth 20000 in
theorem kw_1116 : Cond.fieldLink RX12 319 "StatusDeskModel" "issuerFrom" "I" ∈ wg := wg_in5 85 rfl rfl
set_option maxRecDepth 20000 in
theorem kw_1117 : Cond.fieldLink RX12 322 "StatusDeskModel" "issuerTo" "I" ∈ wg := wg_in5 86 rfl rfl
set_option maxRecDepth 20000 in
theorem kw_1118 : Cond.fieldLink RX12 325 "StatusDeskModel" "holderFrom" "I" ∈ wg := wg_in5 87 rfl rfl
set_option maxRecDepth 20000 in
theorem kw_1119 : Cond.fieldLink RX12 328 "StatusDeskModel" "holderTo" "I" ∈ wg := wg_in5 88 rfl rfl
set_option maxRecDepth 20000 in
theorem kw_1120 : Cond.fieldLink RX12 312 "StatusDeskModel" "certSerial" "J" ∈ wg := wg_in5 89 rfl rfl
set_option maxRecDepth 20000 in
theorem kw_1121 : Cond.fieldLink RX12 334 "StatusDeskModel" "certFrom" "J" ∈ wg := wg_in5 90 rfl rfl
set_option maxRecDepth 20000 in
theorem kw_1122 : Cond.fieldLink RX12 337 "StatusDeskModel" "certTo" "J" ∈ wg := wg_in5 91 rfl rfl
set_option maxRecDepth 20000 in
theorem kw_1123 : Cond.fieldLink RX12 342 "StatusDeskModel" "certKey" "J" ∈ wg := wg_in5 92 rfl rfl
set_option maxRecDepth 20000 in
theorem kw_1124 : Cond.fieldLink RX12 347 "StatusDeskModel" "certFlags" "I" ∈ wg := wg_in5 93 rfl rfl
set_option maxRecDepth 20000 in
theorem kw_1125 : Cond.fieldLink RX12 359 "StatusDeskModel" "ids" "I" ∈ wg := wg_in5 94 rfl rfl
set_option maxRecDepth 20000 in
theorem kw_1126 : Cond.fieldLink RX12 72 "StatusDeskModel" "idNames" "[I" ∈ wg := wg_in5 95 rfl rfl
set_option maxRecDepth 20000 in
theorem kw_1127 : Cond.fieldLink RX12 75 "StatusDeskModel" "idKeys" "[I" ∈ wg := wg_in5 96 rfl rfl
set_option maxRecDepth 20000 in
theorem kw_1128 : Cond.fieldLink RX12 78 "StatusDeskModel" "idSerials" "[J" ∈ wg := wg_in5 97 rfl rfl
set_option maxRecDepth 20000 in
theorem kw_1129 : Cond.fieldLink RX12 362 "StatusDeskModel" "nonceFrom" "I" ∈ wg := wg_in5 98 rfl rfl
set_option maxRecDepth 20000 in
theorem kw_1130 : Cond.fieldLink RX12 365 "StatusDeskModel" "nonceTo" "I" ∈ wg := wg_in5 99 rfl rfl
set_option maxRecDepth 20000 in
theorem kw_1131 : Cond.fieldLink RX12 405 "StatusDeskModel" "status" "I" ∈ wg := wg_in5 100 rfl rfl
set_option maxRecDepth 20000 in
theorem kw_1132 : Cond.fieldLink RX12 380 "StatusDeskModel" "tellerSort" "I" ∈ wg := wg_in5 101 rfl rfl
set_option maxRecDepth 20000 in
theorem kw_1133 : Cond.fieldLink RX12 383 "StatusDeskModel" "tellerFrom" "I" ∈ wg := wg_in5 102 rfl rfl
set_option maxRecDepth 20000 in
theorem kw_1134 : Cond.fieldLink RX12 386 "StatusDeskModel" "tellerTo" "I" ∈ wg := wg_in5 103 rfl rfl
set_option maxRecDepth 20000 in
theorem kw_1135 : Cond.fieldLink RX12 389 "StatusDeskModel" "bodyFrom" "I" ∈ wg := wg_in5 104 rfl rfl
set_option maxRecDepth 20000 in
theorem kw_1136 : Cond.fieldLink RX12 392 "StatusDeskModel" "bodyTo" "I" ∈ wg := wg_in5 105 rfl rfl
set_option maxRecDepth 20000 in
theorem kw_1137 : Cond.fieldLink RX12 411 "StatusDeskModel" "bodySignature" "I" ∈ wg := wg_in5 106 rfl rfl
set_option maxRecDepth 20000 in
theorem kw_1138 : Cond.fieldLink RX12 401 "StatusDeskModel" "hasCert" "Z" ∈ wg := wg_in5 107 rfl rfl
set_option maxRecDepth 20000 in
theorem kw_1139 : Cond.fieldLink RX12 81 "StatusDeskModel" "states" "[I" ∈ wg := wg_in5 108 rfl rfl
set_option maxRecDepth 20000 in
theorem kw_1140 : Cond.fieldLink RX12 84 "StatusDeskModel" "whens" "[J" ∈ wg := wg_in5 109 rfl rfl
set_option maxRecDepth 20000 in
theorem kw_1141 : Cond.fieldLink RX12 87 "StatusDeskModel" "whys" "[I" ∈ wg := wg_in5 110 rfl rfl
set_option maxRecDepth 20000 in
theorem kw_1142 : Cond.fieldLink RX12 90 "StatusDeskModel" "fresh" "[J" ∈ wg := wg_in5 111 rfl rfl
set_option maxRecDepth 20000 in
theorem kw_1143 : Cond.fieldLink RX12 93 "StatusDeskModel" "laters" "[J" ∈ wg := wg_in5 112 rfl rfl
set_option maxRecDepth 20000 in
theorem kw_1144 : Cond.fieldLink RX12 96 "StatusDeskModel" "verdict" "I" ∈ wg := wg_in5 113 rfl rfl
set_option maxRecDepth 20000 in
theorem kw_1145 : Cond.fieldLink RX12 100 "StatusDeskModel" "find" "[J" ∈ wg := wg_in5 114 rfl rfl
set_option maxRecDepth 20000 in
theorem kw_1146 : Cond.fieldLink RX12 503 "StatusDeskModel" "hasFind" "Z" ∈ wg := wg_in5 115 rfl rfl
set_option maxRecDepth 20000 in
theorem kw_1147 : Cond.fieldLink RX12 506 "StatusDeskModel" "mayHold" "Z" ∈ wg := wg_in5 116 rfl rfl
set_option maxRecDepth 20000 in
theorem kw_1148 : Cond.fieldLink RX12 509 "StatusDeskModel" "findOf" "I" ∈ wg := wg_in5 117 rfl rfl
set_option maxRecDepth 20000 in
theorem kw_1149 : Cond.fieldLink RX12 512 "StatusDeskModel" "findSerial" "I" ∈ wg := wg_in5 118 rfl rfl
set_option maxRecDepth 20000 in
theorem kw_1150 : Cond.fieldLink RX12 530 "StatusDeskModel" "helds" "I" ∈ wg := wg_in5 119 rfl rfl
set_option maxRecDepth 20000 in
theorem kw_1151 : Cond.fieldLink RX12 103 "StatusDeskModel" "heldOf" "[I" ∈ wg := wg_in5 120 rfl rfl
set_option maxRecDepth 20000 in
theorem kw_1152 : Cond.fieldLink RX12 106 "StatusDeskModel" "heldSerial" "[I" ∈ wg := wg_in5 121 rfl rfl
set_option maxRecDepth 20000 in
theorem kw_1153 : Cond.fieldLink RX12 109 "StatusDeskModel" "heldState" "[I" ∈ wg := wg_in5 122 rfl rfl
set_option maxRecDepth 20000 in
theorem kw_1154 : Cond.fieldLink RX12 112 "StatusDeskModel" "heldTill" "[J" ∈ wg := wg_in5 123 rfl rfl
set_option maxRecDepth 20000 in
theorem kw_1155 : Cond.laysFinal RX12 "StatusDeskModel" "tape" "[B" ∈ wg := wg_in5 124 rfl rfl
set_option maxRecDepth 20000 in
theorem kw_1157 : Cond.lays RX12 "StatusDeskModel" "taped" "I" ∈ wg := wg_in5 126 rfl rfl
set_option maxRecDepth 20000 in
theorem kw_1159 : Cond.laysFinal RX12 "StatusDeskModel" "out" "[B" ∈ wg := wg_in5 128 rfl rfl
set_option maxRecDepth 20000 in
theorem kw_1161 : Cond.lays RX12 "StatusDeskModel" "outs" "I" ∈ wg := wg_in5 130 rfl rfl
set_option maxRecDepth 20000 in
theorem kw_1163 : Cond.lays RX12 "StatusDeskModel" "authorities" "I" ∈ wg := wg_in5 132 rfl rfl
set_option maxRecDepth 20000 in
theorem kw_1165 : Cond.laysFinal RX12 "StatusDeskModel" "names" "[B" ∈ wg := wg_in5 134 rfl rfl
set_option maxRecDepth 20000 in
theorem kw_1167 : Cond.laysFinal RX12 "StatusDeskModel" "nameSizes" "[I" ∈ wg := wg_in5 136 rfl rfl
set_option maxRecDepth 20000 in
theorem kw_1169 : Cond.laysFinal RX12 "StatusDeskModel" "secrets" "[J" ∈ wg := wg_in5 138 rfl rfl
set_option maxRecDepth 20000 in
theorem kw_1171 : Cond.laysFinal RX12 "StatusDeskModel" "keys" "[J" ∈ wg := wg_in5 140 rfl rfl
set_option maxRecDepth 20000 in
theorem kw_1173 : Cond.laysFinal RX12 "StatusDeskModel" "issued" "[I" ∈ wg := wg_in5 142 rfl rfl
set_option maxRecDepth 20000 in
theorem kw_1175 : Cond.laysFinal RX12 "StatusDeskModel" "serials" "[I" ∈ wg := wg_in5 144 rfl rfl
set_option maxRecDepth 20000 in
theorem kw_1177 : Cond.laysFinal RX12 "StatusDeskModel" "since" "[J" ∈ wg := wg_in5 146 rfl rfl
set_option maxRecDepth 20000 in
theorem kw_1179 : Cond.laysFinal RX12 "StatusDeskModel" "reasons" "[I" ∈ wg := wg_in5 148 rfl rfl
set_option maxRecDepth 20000 in
theorem kw_1181 : Cond.lays RX12 "StatusDeskModel" "signers" "I" ∈ wg := wg_in5 150 rfl rfl
set_option maxRecDepth 20000 in
theorem kw_1183 : Cond.laysFinal RX12 "StatusDeskModel" "signerOf" "[I" ∈ wg := wg_in5 152 rfl rfl
set_option maxRecDepth 20000 in
theorem kw_1185 : Cond.laysFinal RX12 "StatusDeskModel" "signerSecrets" "[J" ∈ wg := wg_in5 154 rfl rfl
set_option maxRecDepth 20000 in
theorem kw_1187 : Cond.laysFinal RX12 "StatusDeskModel" "signerKeys" "[J" ∈ wg := wg_in5 156 rfl rfl
set_option maxRecDepth 20000 in
theorem kw_1189 : Cond.laysFinal RX12 "StatusDeskModel" "certs" "[B" ∈ wg := wg_in5 158 rfl rfl
set_option maxRecDepth 20000 in
theorem kw_1191 : Cond.laysFinal RX12 "StatusDeskModel" "certSizes" "[I" ∈ wg := wg_in5 160 rfl rfl
set_option maxRecDepth 20000 in
theorem kw_1193 : Cond.lays RX12 "StatusDeskModel" "wanted" "I" ∈ wg := wg_in5 162 rfl rfl
set_option maxRecDepth 20000 in
theorem kw_1195 : Cond.laysFinal RX12 "StatusDeskModel" "wantedOf" "[I" ∈ wg := wg_in5 164 rfl rfl
set_option maxRecDepth 20000 in
theorem kw_1197 : Cond.laysFinal RX12 "StatusDeskModel" "wantedSerials" "[I" ∈ wg := wg_in5 166 rfl rfl
set_option maxRecDepth 20000 in
theorem kw_1199 : Cond.laysFinal RX12 "StatusDeskModel" "nonce" "[B" ∈ wg := wg_in5 168 rfl rfl
set_option maxRecDepth 20000 in
theorem kw_1201 : Cond.lays RX12 "StatusDeskModel" "nonceSize" "I" ∈ wg := wg_in5 170 rfl rfl
set_option maxRecDepth 20000 in
theorem kw_1203 : Cond.lays RX12 "StatusDeskModel" "answersFine" "I" ∈ wg := wg_in5 172 rfl rfl
set_option maxRecDepth 20000 in
theorem kw_1205 : Cond.lays RX12 "StatusDeskModel" "answersElse" "I" ∈ wg := wg_in5 174 rfl rfl
set_option maxRecDepth 20000 in
theorem kw_1207 : Cond.lays RX12 "StatusDeskModel" "looks" "I" ∈ wg := wg_in5 176 rfl rfl
set_option maxRecDepth 20000 in
theorem kw_1209 : Cond.lays RX12 "StatusDeskModel" "hashed" "J" ∈ wg := wg_in5 178 rfl rfl
set_option maxRecDepth 20000 in
theorem kw_1211 : Cond.lays RX12 "StatusDeskModel" "signedC" "J" ∈ wg := wg_in5 180 rfl rfl
set_option maxRecDepth 20000 in
theorem kw_1213 : Cond.lays RX12 "StatusDeskModel" "signedZ" "J" ∈ wg := wg_in5 182 rfl rfl
set_option maxRecDepth 20000 in
theorem kw_1215 : Cond.laysFinal RX12 "StatusDeskModel" "shown" "[I" ∈ wg := wg_in5 184 rfl rfl
set_option maxRecDepth 20000 in
theorem kw_1217 : Cond.laysFinal RX12 "StatusDeskModel" "draft" "[B" ∈ wg := wg_in5 186 rfl rfl
set_option maxRecDepth 20000 in
theorem kw_1219 : Cond.lays RX12 "StatusDeskModel" "drafted" "I" ∈ wg := wg_in5 188 rfl rfl
set_option maxRecDepth 20000 in
theorem kw_1221 : Cond.lays RX12 "StatusDeskModel" "at" "I" ∈ wg := wg_in5 190 rfl rfl
set_option maxRecDepth 20000 in
theorem kw_1223 : Cond.lays RX12 "StatusDeskModel" "items" "I" ∈ wg := wg_in5 192 rfl rfl
set_option maxRecDepth 20000 in
theorem kw_1225 : Cond.lays RX12 "StatusDeskModel" "fault" "I" ∈ wg := wg_in5 194 rfl rfl
set_option maxRecDepth 20000 in
theorem kw_1227 : Cond.lays RX12 "StatusDeskModel" "start" "I" ∈ wg := wg_in5 196 rfl rfl
set_option maxRecDepth 20000 in
theorem kw_1229 : Cond.lays RX12 "StatusDeskModel" "sort" "I" ∈ wg := wg_in5 198 rfl rfl
set_option maxRecDepth 20000 in
theorem kw_1231 : Cond.lays RX12 "StatusDeskModel" "from" "I" ∈ wg := wg_in5 200 rfl rfl
set_option maxRecDepth 20000 in
theorem kw_1233 : Cond.lays RX12 "StatusDeskModel" "to" "I" ∈ wg := wg_in5 202 rfl rfl
set_option maxRecDepth 20000 in
theorem kw_1235 : Cond.lays RX12 "StatusDeskModel" "number" "J" ∈ wg := wg_in5 204 rfl rfl
set_option maxRecDepth 20000 in
theorem kw_1237 : Cond.lays RX12 "StatusDeskModel" "signatureAt" "I" ∈ wg := wg_in5 206 rfl rfl
set_option maxRecDepth 20000 in
theorem kw_1239 : Cond.lays RX12 "StatusDeskModel" "innerFrom" "I" ∈ wg := wg_in5 208 rfl rfl
set_option maxRecDepth 20000 in
theorem kw_1241 : Cond.lays RX12 "StatusDeskModel" "innerTo" "I" ∈ wg := wg_in5 210 rfl rfl
set_option maxRecDepth 20000 in
theorem kw_1243 : Cond.lays RX12 "StatusDeskModel" "certSignature" "I" ∈ wg := wg_in5 212 rfl rfl
set_option maxRecDepth 20000 in
theorem kw_1245 : Cond.lays RX12 "StatusDeskModel" "issuerFrom" "I" ∈ wg := wg_in5 214 rfl rfl
set_option maxRecDepth 20000 in
theorem kw_1247 : Cond.lays RX12 "StatusDeskModel" "issuerTo" "I" ∈ wg := wg_in5 216 rfl rfl
set_option maxRecDepth 20000 in
theorem kw_1249 : Cond.lays RX12 "StatusDeskModel" "holderFrom" "I" ∈ wg := wg_in5 218 rfl rfl
set_option maxRecDepth 20000 in
theorem kw_1251 : Cond.lays RX12 "StatusDeskModel" "holderTo" "I" ∈ wg := wg_in5 220 rfl rfl
set_option maxRecDepth 20000 in
theorem kw_1253 : Cond.lays RX12 "StatusDeskModel" "certSerial" "J" ∈ wg := wg_in5 222 rfl rfl
set_option maxRecDepth 20000 in
theorem kw_1255 : Cond.lays RX12 "StatusDeskModel" "certFrom" "J" ∈ wg := wg_in5 224 rfl rfl
set_option maxRecDepth 20000 in
theorem kw_1257 : Cond.lays RX12 "StatusDeskModel" "certTo" "J" ∈ wg := wg_in5 226 rfl rfl
set_option maxRecDepth 20000 in
theorem kw_1259 : Cond.lays RX12 "StatusDeskModel" "certKey" "J" ∈ wg := wg_in5 228 rfl rfl
set_option maxRecDepth 20000 in
theorem kw_1261 : Cond.lays RX12 "StatusDeskModel" "certFlags" "I" ∈ wg := wg_in5 230 rfl rfl
set_option maxRecDepth 20000 in
theorem kw_1263 : Cond.lays RX12 "StatusDeskModel" "ids" "I" ∈ wg := wg_in5 232 rfl rfl
set_option maxRecDepth 20000 in
theorem kw_1265 : Cond.laysFinal RX12 "StatusDeskModel" "idNames" "[I" ∈ wg := wg_in5 234 rfl rfl
set_option maxRecDepth 20000 in
theorem kw_1267 : Cond.laysFinal RX12 "StatusDeskModel" "idKeys" "[I" ∈ wg := wg_in5 236 rfl rfl
set_option maxRecDepth 20000 in
theorem kw_1269 : Cond.laysFinal RX12 "StatusDeskModel" "idSerials" "[J" ∈ wg := wg_in5 238 rfl rfl
set_option maxRecDepth 20000 in
theorem kw_1271 : Cond.lays RX12 "StatusDeskModel" "nonceFrom" "I" ∈ wg := wg_in6 0 rfl rfl
set_option maxRecDepth 20000 in
theorem kw_1273 : Cond.lays RX12 "StatusDeskModel" "nonceTo" "I" ∈ wg := wg_in6 2 rfl rfl
set_option maxRecDepth 20000 in
theorem kw_1275 : Cond.lays RX12 "StatusDeskModel" "status" "I" ∈ wg := wg_in6 4 rfl rfl
set_option maxRecDepth 20000 in
theorem kw_1277 : Cond.lays RX12 "StatusDeskModel" "tellerSort" "I" ∈ wg := wg_in6 6 rfl rfl
set_option maxRecDepth 20000 in
theorem kw_1279 : Cond.lays RX12 "StatusDeskModel" "tellerFrom" "I" ∈ wg := wg_in6 8 rfl rfl
set_option maxRecDepth 20000 in
theorem kw_1281 : Cond.lays RX12 "StatusDeskModel" "tellerTo" "I" ∈ wg := wg_in6 10 rfl rfl
set_option maxRecDepth 20000 in
theorem kw_1283 : Cond.lays RX12 "StatusDeskModel" "bodyFrom" "I" ∈ wg := wg_in6 12 rfl rfl
set_option maxRecDepth 20000 in
theorem kw_1285 : Cond.lays RX12 "StatusDeskModel" "bodyTo" "I" ∈ wg := wg_in6 14 rfl rfl
set_option maxRecDepth 20000 in
theorem kw_1287 : Cond.lays RX12 "StatusDeskModel" "bodySignature" "I" ∈ wg := wg_in6 16 rfl rfl
set_option maxRecDepth 20000 in
theorem kw_1289 : Cond.lays RX12 "StatusDeskModel" "hasCert" "Z" ∈ wg := wg_in6 18 rfl rfl
set_option maxRecDepth 20000 in
theorem kw_1291 : Cond.laysFinal RX12 "StatusDeskModel" "states" "[I" ∈ wg := wg_in6 20 rfl rfl
set_option maxRecDepth 20000 in
theorem kw_1293 : Cond.laysFinal RX12 "StatusDeskModel" "whens" "[J" ∈ wg := wg_in6 22 rfl rfl
set_option maxRecDepth 20000 in
theorem kw_1295 : Cond.laysFinal RX12 "StatusDeskModel" "whys" "[I" ∈ wg := wg_in6 24 rfl rfl
set_option maxRecDepth 20000 in
theorem kw_1297 : Cond.laysFinal RX12 "StatusDeskModel" "fresh" "[J" ∈ wg := wg_in6 26 rfl rfl
set_option maxRecDepth 20000 in
theorem kw_1299 : Cond.laysFinal RX12 "StatusDeskModel" "laters" "[J" ∈ wg := wg_in6 28 rfl rfl
set_option maxRecDepth 20000 in
theorem kw_1301 : Cond.lays RX12 "StatusDeskModel" "verdict" "I" ∈ wg := wg_in6 30 rfl rfl
set_option maxRecDepth 20000 in
theorem kw_1303 : Cond.laysFinal RX12 "StatusDeskModel" "find" "[J" ∈ wg := wg_in6 32 rfl rfl
set_option maxRecDepth 20000 in
theorem kw_1305 : Cond.lays RX12 "StatusDeskModel" "hasFind" "Z" ∈ wg := wg_in6 34 rfl rfl
set_option maxRecDepth 20000 in
theorem kw_1307 : Cond.lays RX12 "StatusDeskModel" "mayHold" "Z" ∈ wg := wg_in6 36 rfl rfl
set_option maxRecDepth 20000 in
theorem kw_1309 : Cond.lays RX12 "StatusDeskModel" "findOf" "I" ∈ wg := wg_in6 38 rfl rfl
set_option maxRecDepth 20000 in
theorem kw_1311 : Cond.lays RX12 "StatusDeskModel" "findSerial" "I" ∈ wg := wg_in6 40 rfl rfl
set_option maxRecDepth 20000 in
theorem kw_1313 : Cond.lays RX12 "StatusDeskModel" "helds" "I" ∈ wg := wg_in6 42 rfl rfl
set_option maxRecDepth 20000 in
theorem kw_1315 : Cond.laysFinal RX12 "StatusDeskModel" "heldOf" "[I" ∈ wg := wg_in6 44 rfl rfl
set_option maxRecDepth 20000 in
theorem kw_1317 : Cond.laysFinal RX12 "StatusDeskModel" "heldSerial" "[I" ∈ wg := wg_in6 46 rfl rfl
set_option maxRecDepth 20000 in
theorem kw_1319 : Cond.laysFinal RX12 "StatusDeskModel" "heldState" "[I" ∈ wg := wg_in6 48 rfl rfl
set_option maxRecDepth 20000 in
theorem kw_1321 : Cond.laysFinal RX12 "StatusDeskModel" "heldTill" "[J" ∈ wg := wg_in6 50 rfl rfl
set_option maxRecDepth 20000 in
theorem kw_1328 : Cond.constantLong RX12 115 (8) ∈ wg := wg_in6 57 rfl rfl
set_option maxRecDepth 20000 in
theorem kw_1329 : Cond.methodLink RX12 117 yX12_within ∈ wg := wg_in6 58 rfl rfl
set_option maxRecDepth 20000 in
theorem kw_1330 : Cond.static yX12_within ∈ wg := wg_in6 59 rfl rfl
set_option maxRecDepth 20000 in
theorem kw_1331 : Cond.code yX12_within cX12_within 6 (some .boolean) ∈ wg := wg_in6 60 rfl rfl
set_option maxRecDepth 20000 in
theorem kw_1356 : Cond.constantLong RX12 198 (3155759999) ∈ wg := wg_in6 85 rfl rfl
set_option maxRecDepth 20000 in
theorem kw_1357 : Cond.constantLong RX12 200 (14) ∈ wg := wg_in6 86 rfl rfl
set_option maxRecDepth 20000 in
theorem kw_1358 : Cond.methodLink RX12 202 yX12_show ∈ wg := wg_in6 87 rfl rfl
set_option maxRecDepth 20000 in
theorem kw_1360 : Cond.instanceMethod yX12_show ∈ wg := wg_in6 89 rfl rfl
set_option maxRecDepth 20000 in
theorem kw_1361 : Cond.code yX12_show cX12_show 7 none ∈ wg := wg_in6 90 rfl rfl
set_option maxRecDepth 20000 in
theorem kw_1362 : Cond.constantLong RX12 192 (86400) ∈ wg := wg_in6 91 rfl rfl
set_option maxRecDepth 20000 in
theorem kw_1363 : Cond.methodLink RX12 194 yX12_daysOf ∈ wg := wg_in6 92 rfl rfl
set_option maxRecDepth 20000 in
theorem kw_1364 : Cond.static yX12_daysOf ∈ wg := wg_in6 93 rfl rfl
set_option maxRecDepth 20000 in
theorem kw_1365 : Cond.code yX12_daysOf cX12_daysOf 3 (some .int) ∈ wg := wg_in6 94 rfl rfl
set_option maxRecDepth 20000 in
theorem kw_1366 : Cond.methodLink RX12 205 yX12_character ∈ wg := wg_in6 95 rfl rfl
set_option maxRecDepth 20000 in
theorem kw_1368 : Cond.instanceMethod yX12_character ∈ wg := wg_in6 97 rfl rfl
set_option maxRecDepth 20000 in
theorem kw_1369 : Cond.code yX12_character cX12_character 3 (some .int) ∈ wg := wg_in6 98 rfl rfl
set_option maxRecDepth 20000 in
theorem kw_1374 : Cond.constantLong RX12 156 (2) ∈ wg := wg_in6 103 rfl rfl
set_option maxRecDepth 20000 in
theorem kw_1375 : Cond.methodLink RX12 424 yX12_reads ∈ wg := wg_in6 104 rfl rfl
set_option maxRecDepth 20000 in
theorem kw_1377 : Cond.instanceMethod yX12_reads ∈ wg := wg_in6 106 rfl rfl
set_option maxRecDepth 20000 in
theorem kw_1378 : Cond.code yX12_reads cX12_reads 2 (some .boolean) ∈ wg := wg_in6 107 rfl rfl
set_option maxRecDepth 20000 in
theorem kw_1379 : Cond.methodLink RX12 414 yX12_readCert ∈ wg := wg_in6 108 rfl rfl
set_option maxRecDepth 20000 in
theorem kw_1381 : Cond.instanceMethod yX12_readCert ∈ wg := wg_in6 110 rfl rfl
set_option maxRecDepth 20000 in
theorem kw_1382 : Cond.code yX12_readCert cX12_readCert 3 (some .boolean) ∈ wg := wg_in6 111 rfl rfl
set_option maxRecDepth 20000 in
theorem kw_1383 : Cond.methodLink RX12 285 yX12_of ∈ wg := wg_in6 112 rfl rfl
set_option maxRecDepth 20000 in
theorem kw_1385 : Cond.instanceMethod yX12_of ∈ wg := wg_in6 114 rfl rfl
set_option maxRecDepth 20000 in
theorem kw_1386 : Cond.code yX12_of cX12_of 3 (some .boolean) ∈ wg := wg_in6 115 rfl rfl
set_option maxRecDepth 20000 in
theorem kw_1387 : Cond.methodLink RX12 282 yX12_item ∈ wg := wg_in6 116 rfl rfl
set_option maxRecDepth 20000 in
theorem kw_1389 : Cond.instanceMethod yX12_item ∈ wg := wg_in6 118 rfl rfl
set_option maxRecDepth 20000 in
theorem kw_1390 : Cond.code yX12_item cX12_item 4 (some .boolean) ∈ wg := wg_in6 119 rfl rfl
set_option maxRecDepth 20000 in
theorem kw_1391 : Cond.methodLink RX12 265 yX12_wrong ∈ wg := wg_in6 120 rfl rfl
set_option maxRecDepth 20000 in
theorem kw_1393 : Cond.instanceMethod yX12_wrong ∈ wg := wg_in6 122 rfl rfl
set_option maxRecDepth 20000 in
theorem kw_1394 : Cond.code yX12_wrong cX12_wrong 2 (some .boolean) ∈ wg := wg_in6 123 rfl rfl
set_option maxRecDepth 20000 in
theorem kw_1395 : Cond.constant RX12 272 (100000) ∈ wg := wg_in6 124 rfl rfl
set_option maxRecDepth 20000 in
theorem kw_1396 : Cond.constantLong RX12 306 (2147483647) ∈ wg := wg_in6 125 rfl rfl
set_option maxRecDepth 20000 in
theorem kw_1397 : Cond.methodLink RX12 308 yX12_integer ∈ wg := wg_in6 126 rfl rfl
set_option maxRecDepth 20000 in
theorem kw_1399 : Cond.instanceMethod yX12_integer ∈ wg := wg_in6 128 rfl rfl
set_option maxRecDepth 20000 in
theorem kw_1400 : Cond.code yX12_integer cX12_integer 8 (some .boolean) ∈ wg := wg_in6 129 rfl rfl
set_option maxRecDepth 20000 in
theorem kw_1401 : Cond.constantLong RX12 186 (255) ∈ wg := wg_in6 130 rfl rfl
set_option maxRecDepth 20000 in
theorem kw_1402 : Cond.methodLink RX12 315 yX12_bytes ∈ wg := wg_in6 131 rfl rfl
set_option maxRecDepth 20000 in
theorem kw_1404 : Cond.instanceMethod yX12_bytes ∈ wg := wg_in6 133 rfl rfl
set_option maxRecDepth 20000 in
theorem kw_1405 : Cond.code yX12_bytes cX12_bytes 4 (some .boolean) ∈ wg := wg_in6 134 rfl rfl
set_option maxRecDepth 20000 in
theorem kw_1406 : Cond.methodLink RX12 331 yX12_time ∈ wg := wg_in6 135 rfl rfl
set_option maxRecDepth 20000 in
theorem kw_1408 : Cond.instanceMethod yX12_time ∈ wg := wg_in6 137 rfl rfl
set_option maxRecDepth 20000 in
theorem kw_1409 : Cond.code yX12_time cX12_time 2 (some .boolean) ∈ wg := wg_in6 138 rfl rfl
set_option maxRecDepth 20000 in
theorem kw_1410 : Cond.methodLink RX12 294 yX12_timeOf ∈ wg := wg_in6 139 rfl rfl
set_option maxRecDepth 20000 in
theorem kw_1411 : Cond.static yX12_timeOf ∈ wg := wg_in6 140 rfl rfl
set_option maxRecDepth 20000 in
theorem kw_1412 : Cond.code yX12_timeOf cX12_timeOf 8 (some .long) ∈ wg := wg_in6 141 rfl rfl
set_option maxRecDepth 20000 in
theorem kw_1413 : Cond.constantLong RX12 209 (48) ∈ wg := wg_in6 142 rfl rfl
set_option maxRecDepth 20000 in
theorem kw_1414 : Cond.constantLong RX12 211 (57) ∈ wg := wg_in6 143 rfl rfl
set_option maxRecDepth 20000 in
theorem kw_1415 : Cond.constantLong RX12 213 (-1) ∈ wg := wg_in6 144 rfl rfl
set_option maxRecDepth 20000 in
theorem kw_1416 : Cond.methodLink RX12 215 yX12_two ∈ wg := wg_in6 145 rfl rfl
set_option maxRecDepth 20000 in
theorem kw_1417 : Cond.static yX12_two ∈ wg := wg_in6 146 rfl rfl
set_option maxRecDepth 20000 in
theorem kw_1418 : Cond.code yX12_two cX12_two 2 (some .int) ∈ wg := wg_in6 147 rfl rfl
set_option maxRecDepth 20000 in
theorem kw_1419 : Cond.constantLong RX12 219 (12) ∈ wg := wg_in6 148 rfl rfl
set_option maxRecDepth 20000 in
theorem kw_1420 : Cond.constantLong RX12 221 (366) ∈ wg := wg_in6 149 rfl rfl
set_option maxRecDepth 20000 in
theorem kw_1421 : Cond.constantLong RX12 223 (365) ∈ wg := wg_in6 150 rfl rfl
set_option maxRecDepth 20000 in
theorem kw_1422 : Cond.constantLong RX12 225 (3600) ∈ wg := wg_in6 151 rfl rfl
set_option maxRecDepth 20000 in
theorem kw_1423 : Cond.constantLong RX12 227 (60) ∈ wg := wg_in6 152 rfl rfl
set_option maxRecDepth 20000 in
theorem kw_1424 : Cond.constantLong RX12 340 (2147483578) ∈ wg := wg_in6 153 rfl rfl
set_option maxRecDepth 20000 in
theorem kw_1425 : Cond.constantLong RX12 345 (3) ∈ wg := wg_in6 154 rfl rfl
set_option maxRecDepth 20000 in
theorem kw_1426 : Cond.methodLink RX12 350 yX12_ends ∈ wg := wg_in6 155 rfl rfl
set_option maxRecDepth 20000 in
theorem kw_1428 : Cond.instanceMethod yX12_ends ∈ wg := wg_in6 157 rfl rfl
set_option maxRecDepth 20000 in
theorem kw_1429 : Cond.code yX12_ends cX12_ends 2 (some .boolean) ∈ wg := wg_in6 158 rfl rfl
set_option maxRecDepth 20000 in
theorem kw_1430 : Cond.methodLink RX12 353 yX12_signature ∈ wg := wg_in6 159 rfl rfl
set_option maxRecDepth 20000 in
theorem kw_1432 : Cond.instanceMethod yX12_signature ∈ wg := wg_in6 161 rfl rfl
set_option maxRecDepth 20000 in
theorem kw_1433 : Cond.code yX12_signature cX12_signature 2 (some .boolean) ∈ wg := wg_in6 162 rfl rfl
set_option maxRecDepth 20000 in
theorem kw_1434 : Cond.methodLink RX12 417 yX12_readAsk ∈ wg := wg_in6 163 rfl rfl
set_option maxRecDepth 20000 in
theorem kw_1436 : Cond.instanceMethod yX12_readAsk ∈ wg := wg_in6 165 rfl rfl
set_option maxRecDepth 20000 in
theorem kw_1437 : Cond.code yX12_readAsk cX12_readAsk 4 (some .boolean) ∈ wg := wg_in6 166 rfl rfl
set_option maxRecDepth 20000 in
theorem kw_1438 : Cond.methodLink RX12 368 yX12_readId ∈ wg := wg_in6 167 rfl rfl
set_option maxRecDepth 20000 in
theorem kw_1440 : Cond.instanceMethod yX12_readId ∈ wg := wg_in6 169 rfl rfl
set_option maxRecDepth 20000 in
theorem kw_1441 : Cond.code yX12_readId cX12_readId 3 (some .boolean) ∈ wg := wg_in6 170 rfl rfl
set_option maxRecDepth 20000 in
theorem kw_1442 : Cond.methodLink RX12 371 yX12_readNonce ∈ wg := wg_in6 171 rfl rfl
set_option maxRecDepth 20000 in
theorem kw_1444 : Cond.instanceMethod yX12_readNonce ∈ wg := wg_in6 173 rfl rfl
set_option maxRecDepth 20000 in
theorem kw_1445 : Cond.code yX12_readNonce cX12_readNonce 4 (some .boolean) ∈ wg := wg_in6 174 rfl rfl
set_option maxRecDepth 20000 in
theorem kw_1446 : Cond.methodLink RX12 421 yX12_readAnswer ∈ wg := wg_in6 175 rfl rfl
set_option maxRecDepth 20000 in
theorem kw_1448 : Cond.instanceMethod yX12_readAnswer ∈ wg := wg_in6 177 rfl rfl
set_option maxRecDepth 20000 in
theorem kw_1449 : Cond.code yX12_readAnswer cX12_readAnswer 5 (some .boolean) ∈ wg := wg_in6 178 rfl rfl
set_option maxRecDepth 20000 in
theorem kw_1450 : Cond.methodLink RX12 374 yX12_code ∈ wg := wg_in6 179 rfl rfl
set_option maxRecDepth 20000 in
theorem kw_1452 : Cond.instanceMethod yX12_code ∈ wg := wg_in6 181 rfl rfl
set_option maxRecDepth 20000 in
theorem kw_1453 : Cond.code yX12_code cX12_code 2 (some .boolean) ∈ wg := wg_in6 182 rfl rfl
set_option maxRecDepth 20000 in
theorem kw_1454 : Cond.constantLong RX12 292 (10) ∈ wg := wg_in6 183 rfl rfl
set_option maxRecDepth 20000 in
theorem kw_1455 : Cond.methodLink RX12 408 yX12_readBody ∈ wg := wg_in6 184 rfl rfl
set_option maxRecDepth 20000 in
theorem kw_1457 : Cond.instanceMethod yX12_readBody ∈ wg := wg_in6 186 rfl rfl
set_option maxRecDepth 20000 in
theorem kw_1458 : Cond.code yX12_readBody cX12_readBody 4 (some .boolean) ∈ wg := wg_in6 187 rfl rfl
set_option maxRecDepth 20000 in
theorem kw_1459 : Cond.methodLink RX12 395 yX12_readTeller ∈ wg := wg_in6 188 rfl rfl
set_option maxRecDepth 20000 in
theorem kw_1461 : Cond.instanceMethod yX12_readTeller ∈ wg := wg_in6 190 rfl rfl
set_option maxRecDepth 20000 in
theorem kw_1462 : Cond.code yX12_readTeller cX12_readTeller 3 (some .boolean) ∈ wg := wg_in6 191 rfl rfl
set_option maxRecDepth 20000 in
theorem kw_1463 : Cond.methodLink RX12 398 yX12_readSingle ∈ wg := wg_in6 192 rfl rfl
set_option maxRecDepth 20000 in
theorem kw_1465 : Cond.instanceMethod yX12_readSingle ∈ wg := wg_in6 194 rfl rfl
set_option maxRecDepth 20000 in
theorem kw_1466 : Cond.code yX12_readSingle cX12_readSingle 5 (some .boolean) ∈ wg := wg_in6 195 rfl rfl
set_option maxRecDepth 20000 in
theorem kw_1467 : Cond.methodLink RX12 377 yX12_readState ∈ wg := wg_in6 196 rfl rfl
set_option maxRecDepth 20000 in
theorem kw_1469 : Cond.instanceMethod yX12_readState ∈ wg := wg_in6 198 rfl rfl
set_option maxRecDepth 20000 in
theorem kw_1470 : Cond.code yX12_readState cX12_readState 4 (some .boolean) ∈ wg := wg_in6 199 rfl rfl
set_option maxRecDepth 20000 in
theorem kw_1475 : Cond.methodLink RX12 160 yX12_hashOf ∈ wg := wg_in6 204 rfl rfl
set_option maxRecDepth 20000 in
theorem kw_1477 : Cond.instanceMethod yX12_hashOf ∈ wg := wg_in6 206 rfl rfl
set_option maxRecDepth 20000 in
theorem kw_1478 : Cond.code yX12_hashOf cX12_hashOf 4 (some .long) ∈ wg := wg_in6 207 rfl rfl
set_option maxRecDepth 20000 in
theorem kw_1479 : Cond.methodLink RX12 141 yX12_beginHash ∈ wg := wg_in6 208 rfl rfl
set_option maxRecDepth 20000 in
theorem kw_1481 : Cond.instanceMethod yX12_beginHash ∈ wg := wg_in6 210 rfl rfl
set_option maxRecDepth 20000 in
theorem kw_1482 : Cond.code yX12_beginHash cX12_beginHash 1 none ∈ wg := wg_in6 211 rfl rfl
set_option maxRecDepth 20000 in
theorem kw_1483 : Cond.constantLong RX12 127 (7640891576956012809) ∈ wg := wg_in6 212 rfl rfl
set_option maxRecDepth 20000 in
theorem kw_1484 : Cond.methodLink RX12 144 yX12_hashRow ∈ wg := wg_in6 213 rfl rfl
set_option maxRecDepth 20000 in
theorem kw_1486 : Cond.instanceMethod yX12_hashRow ∈ wg := wg_in6 215 rfl rfl
set_option maxRecDepth 20000 in
theorem kw_1487 : Cond.code yX12_hashRow cX12_hashRow 5 none ∈ wg := wg_in6 216 rfl rfl
set_option maxRecDepth 20000 in
theorem kw_1488 : Cond.methodLink RX12 135 yX12_hashByte ∈ wg := wg_in6 217 rfl rfl
set_option maxRecDepth 20000 in
theorem kw_1490 : Cond.instanceMethod yX12_hashByte ∈ wg := wg_in6 219 rfl rfl
set_option maxRecDepth 20000 in
theorem kw_1491 : Cond.code yX12_hashByte cX12_hashByte 2 none ∈ wg := wg_in6 220 rfl rfl
set_option maxRecDepth 20000 in
theorem kw_1492 : Cond.constantLong RX12 133 (-7046029254386353131) ∈ wg := wg_in6 221 rfl rfl
set_option maxRecDepth 20000 in
theorem kw_1493 : Cond.methodLink RX12 148 yX12_endHash ∈ wg := wg_in6 222 rfl rfl
set_option maxRecDepth 20000 in
theorem kw_1495 : Cond.instanceMethod yX12_endHash ∈ wg := wg_in6 224 rfl rfl
set_option maxRecDepth 20000 in
theorem kw_1496 : Cond.code yX12_endHash cX12_endHash 3 (some .long) ∈ wg := wg_in6 225 rfl rfl
set_option maxRecDepth 20000 in
theorem kw_1497 : Cond.constantLong RX12 139 (-4658895280553007687) ∈ wg := wg_in6 226 rfl rfl
set_option maxRecDepth 20000 in
theorem kw_1502 : Cond.constantLong RX12 430 (16) ∈ wg := wg_in6 231 rfl rfl
set_option maxRecDepth 20000 in
theorem kw_1503 : Cond.constantLong RX12 168 (1073741788) ∈ wg := wg_in6 232 rfl rfl
set_option maxRecDepth 20000 in
theorem kw_1504 : Cond.methodLink RX12 432 yX12_isSame ∈ wg := wg_in6 233 rfl rfl
set_option maxRecDepth 20000 in
theorem kw_1505 : Cond.static yX12_isSame ∈ wg := wg_in6 234 rfl rfl
set_option maxRecDepth 20000 in
theorem kw_1506 : Cond.code yX12_isSame cX12_isSame 8 (some .boolean) ∈ wg := wg_in6 235 rfl rfl
set_option maxRecDepth 20000 in
theorem kw_1507 : Cond.constantLong RX12 173 (4) ∈ wg := wg_in6 236 rfl rfl
set_option maxRecDepth 20000 in
theorem kw_1508 : Cond.methodLink RX12 175 yX12_power ∈ wg := wg_in6 237 rfl rfl
set_option maxRecDepth 20000 in
theorem kw_1509 : Cond.static yX12_power ∈ wg := wg_in6 238 rfl rfl
set_option maxRecDepth 20000 in
theorem kw_1510 : Cond.code yX12_power cX12_power 7 (some .long) ∈ wg := wg_in6 239 rfl rfl
set_option maxRecDepth 20000 in
theorem kw_1511 : Cond.constantLong RX12 158 (2147483579) ∈ wg := wg_in7 0 rfl rfl
set_option maxRecDepth 20000 in
theorem kw_1516 : Cond.methodLink RX12 436 yX12_isAuthority ∈ wg := wg_in7 5 rfl rfl
set_option maxRecDepth 20000 in
theorem kw_1518 : Cond.instanceMethod yX12_isAuthority ∈ wg := wg_in7 7 rfl rfl
set_option maxRecDepth 20000 in
theorem kw_1519 : Cond.code yX12_isAuthority cX12_isAuthority 2 (some .boolean) ∈ wg := wg_in7 8 rfl rfl
set_option maxRecDepth 20000 in
theorem kw_1520 : Cond.methodLink RX12 439 yX12_find ∈ wg := wg_in7 9 rfl rfl
set_option maxRecDepth 20000 in
theorem kw_1522 : Cond.instanceMethod yX12_find ∈ wg := wg_in7 11 rfl rfl
set_option maxRecDepth 20000 in
theorem kw_1523 : Cond.code yX12_find cX12_find 6 (some .int) ∈ wg := wg_in7 12 rfl rfl
set_option maxRecDepth 20000 in
theorem kw_1524 : Cond.methodLink RX12 442 yX12_enter ∈ wg := wg_in7 13 rfl rfl
set_option maxRecDepth 20000 in
theorem kw_1526 : Cond.instanceMethod yX12_enter ∈ wg := wg_in7 15 rfl rfl
set_option maxRecDepth 20000 in
theorem kw_1527 : Cond.code yX12_enter cX12_enter 4 none ∈ wg := wg_in7 16 rfl rfl
set_option maxRecDepth 20000 in
theorem kw_1540 : Cond.methodLink RX12 253 yX12_layInteger ∈ wg := wg_in7 29 rfl rfl
set_option maxRecDepth 20000 in
theorem kw_1542 : Cond.instanceMethod yX12_layInteger ∈ wg := wg_in7 31 rfl rfl
set_option maxRecDepth 20000 in
theorem kw_1543 : Cond.code yX12_layInteger cX12_layInteger 6 none ∈ wg := wg_in7 32 rfl rfl
set_option maxRecDepth 20000 in
theorem kw_1544 : Cond.methodLink RX12 232 yX12_lay ∈ wg := wg_in7 33 rfl rfl
set_option maxRecDepth 20000 in
theorem kw_1546 : Cond.instanceMethod yX12_lay ∈ wg := wg_in7 35 rfl rfl
set_option maxRecDepth 20000 in
theorem kw_1547 : Cond.code yX12_lay cX12_lay 2 none ∈ wg := wg_in7 36 rfl rfl
set_option maxRecDepth 20000 in
theorem kw_1548 : Cond.methodLink RX12 235 yX12_wrap ∈ wg := wg_in7 37 rfl rfl
set_option maxRecDepth 20000 in
theorem kw_1550 : Cond.instanceMethod yX12_wrap ∈ wg := wg_in7 39 rfl rfl
set_option maxRecDepth 20000 in
theorem kw_1551 : Cond.code yX12_wrap cX12_wrap 6 none ∈ wg := wg_in7 40 rfl rfl
set_option maxRecDepth 20000 in
theorem kw_1552 : Cond.methodLink RX12 448 yX12_layRow ∈ wg := wg_in7 41 rfl rfl
set_option maxRecDepth 20000 in
theorem kw_1554 : Cond.instanceMethod yX12_layRow ∈ wg := wg_in7 43 rfl rfl
set_option maxRecDepth 20000 in
theorem kw_1555 : Cond.code yX12_layRow cX12_layRow 5 none ∈ wg := wg_in7 44 rfl rfl
set_option maxRecDepth 20000 in
theorem kw_1556 : Cond.methodLink RX12 451 yX12_layTime ∈ wg := wg_in7 45 rfl rfl
set_option maxRecDepth 20000 in
theorem kw_1558 : Cond.instanceMethod yX12_layTime ∈ wg := wg_in7 47 rfl rfl
set_option maxRecDepth 20000 in
theorem kw_1559 : Cond.code yX12_layTime cX12_layTime 5 none ∈ wg := wg_in7 48 rfl rfl
set_option maxRecDepth 20000 in
theorem kw_1560 : Cond.methodLink RX12 454 yX12_laySignature ∈ wg := wg_in7 49 rfl rfl
set_option maxRecDepth 20000 in
theorem kw_1562 : Cond.instanceMethod yX12_laySignature ∈ wg := wg_in7 51 rfl rfl
set_option maxRecDepth 20000 in
theorem kw_1563 : Cond.code yX12_laySignature cX12_laySignature 7 none ∈ wg := wg_in7 52 rfl rfl
set_option maxRecDepth 20000 in
theorem kw_1564 : Cond.methodLink RX12 242 yX12_sign ∈ wg := wg_in7 53 rfl rfl
set_option maxRecDepth 20000 in
theorem kw_1566 : Cond.instanceMethod yX12_sign ∈ wg := wg_in7 55 rfl rfl
set_option maxRecDepth 20000 in
theorem kw_1567 : Cond.code yX12_sign cX12_sign 10 none ∈ wg := wg_in7 56 rfl rfl
set_option maxRecDepth 20000 in
theorem kw_1568 : Cond.methodLink RX12 164 yX12_hashOfTwo ∈ wg := wg_in7 57 rfl rfl
set_option maxRecDepth 20000 in
theorem kw_1570 : Cond.instanceMethod yX12_hashOfTwo ∈ wg := wg_in7 59 rfl rfl
set_option maxRecDepth 20000 in
theorem kw_1571 : Cond.code yX12_hashOfTwo cX12_hashOfTwo 5 (some .long) ∈ wg := wg_in7 60 rfl rfl
set_option maxRecDepth 20000 in
theorem kw_1572 : Cond.methodLink RX12 152 yX12_hashLong ∈ wg := wg_in7 61 rfl rfl
set_option maxRecDepth 20000 in
theorem kw_1574 : Cond.instanceMethod yX12_hashLong ∈ wg := wg_in7 63 rfl rfl
set_option maxRecDepth 20000 in
theorem kw_1575 : Cond.code yX12_hashLong cX12_hashLong 4 none ∈ wg := wg_in7 64 rfl rfl
set_option maxRecDepth 20000 in
theorem kw_1576 : Cond.methodLink RX12 170 yX12_rest ∈ wg := wg_in7 65 rfl rfl
set_option maxRecDepth 20000 in
theorem kw_1577 : Cond.static yX12_rest ∈ wg := wg_in7 66 rfl rfl
set_option maxRecDepth 20000 in
theorem kw_1578 : Cond.code yX12_rest cX12_rest 4 (some .long) ∈ wg := wg_in7 67 rfl rfl
set_option maxRecDepth 20000 in
theorem kw_1579 : Cond.constantLong RX12 178 (1073741789) ∈ wg := wg_in7 68 rfl rfl
set_option maxRecDepth 20000 in
theorem kw_1580 : Cond.methodLink RX12 458 yX12_tellDraft ∈ wg := wg_in7 69 rfl rfl
set_option maxRecDepth 20000 in
theorem kw_1582 : Cond.instanceMethod yX12_tellDraft ∈ wg := wg_in7 71 rfl rfl
set_option maxRecDepth 20000 in
theorem kw_1583 : Cond.code yX12_tellDraft cX12_tellDraft 2 (some .int) ∈ wg := wg_in7 72 rfl rfl
set_option maxRecDepth 20000 in
theorem kw_1600 : Cond.methodLink RX12 468 yX12_layId ∈ wg := wg_in7 89 rfl rfl
set_option maxRecDepth 20000 in
theorem kw_1602 : Cond.instanceMethod yX12_layId ∈ wg := wg_in7 91 rfl rfl
set_option maxRecDepth 20000 in
theorem kw_1603 : Cond.code yX12_layId cX12_layId 5 none ∈ wg := wg_in7 92 rfl rfl
set_option maxRecDepth 20000 in
theorem kw_1604 : Cond.methodLink RX12 246 yX12_layHash ∈ wg := wg_in7 93 rfl rfl
set_option maxRecDepth 20000 in
theorem kw_1606 : Cond.instanceMethod yX12_layHash ∈ wg := wg_in7 95 rfl rfl
set_option maxRecDepth 20000 in
theorem kw_1607 : Cond.code yX12_layHash cX12_layHash 4 none ∈ wg := wg_in7 96 rfl rfl
set_option maxRecDepth 20000 in
theorem kw_1608 : Cond.methodLink RX12 239 yX12_layLong ∈ wg := wg_in7 97 rfl rfl
set_option maxRecDepth 20000 in
theorem kw_1610 : Cond.instanceMethod yX12_layLong ∈ wg := wg_in7 99 rfl rfl
set_option maxRecDepth 20000 in
theorem kw_1611 : Cond.code yX12_layLong cX12_layLong 4 none ∈ wg := wg_in7 100 rfl rfl
set_option maxRecDepth 20000 in
theorem kw_1612 : Cond.methodLink RX12 249 yX12_hashOfKey ∈ wg := wg_in7 101 rfl rfl
set_option maxRecDepth 20000 in
theorem kw_1614 : Cond.instanceMethod yX12_hashOfKey ∈ wg := wg_in7 103 rfl rfl
set_option maxRecDepth 20000 in
theorem kw_1615 : Cond.code yX12_hashOfKey cX12_hashOfKey 3 (some .long) ∈ wg := wg_in7 104 rfl rfl
set_option maxRecDepth 20000 in
theorem kw_1620 : Cond.methodLink RX12 485 yX12_tellStatus ∈ wg := wg_in7 109 rfl rfl
set_option maxRecDepth 20000 in
theorem kw_1622 : Cond.instanceMethod yX12_tellStatus ∈ wg := wg_in7 111 rfl rfl
set_option maxRecDepth 20000 in
theorem kw_1623 : Cond.code yX12_tellStatus cX12_tellStatus 3 (some .int) ∈ wg := wg_in7 112 rfl rfl
set_option maxRecDepth 20000 in
theorem kw_1624 : Cond.methodLink RX12 476 yX12_layCode ∈ wg := wg_in7 113 rfl rfl
set_option maxRecDepth 20000 in
theorem kw_1626 : Cond.instanceMethod yX12_layCode ∈ wg := wg_in7 115 rfl rfl
set_option maxRecDepth 20000 in
theorem kw_1627 : Cond.code yX12_layCode cX12_layCode 3 none ∈ wg := wg_in7 116 rfl rfl
set_option maxRecDepth 20000 in
theorem kw_1628 : Cond.methodLink RX12 482 yX12_isOf ∈ wg := wg_in7 117 rfl rfl
set_option maxRecDepth 20000 in
theorem kw_1630 : Cond.instanceMethod yX12_isOf ∈ wg := wg_in7 119 rfl rfl
set_option maxRecDepth 20000 in
theorem kw_1631 : Cond.code yX12_isOf cX12_isOf 3 (some .boolean) ∈ wg := wg_in7 120 rfl rfl
set_option maxRecDepth 20000 in
theorem kw_1632 : Cond.methodLink RX12 472 yX12_isHash ∈ wg := wg_in7 121 rfl rfl
set_option maxRecDepth 20000 in
theorem kw_1634 : Cond.instanceMethod yX12_isHash ∈ wg := wg_in7 123 rfl rfl
set_option maxRecDepth 20000 in
theorem kw_1635 : Cond.code yX12_isHash cX12_isHash 6 (some .boolean) ∈ wg := wg_in7 124 rfl rfl
set_option maxRecDepth 20000 in
theorem kw_1636 : Cond.methodLink RX12 488 yX12_laySingle ∈ wg := wg_in7 125 rfl rfl
set_option maxRecDepth 20000 in
theorem kw_1638 : Cond.instanceMethod yX12_laySingle ∈ wg := wg_in7 127 rfl rfl
set_option maxRecDepth 20000 in
theorem kw_1639 : Cond.code yX12_laySingle cX12_laySingle 10 none ∈ wg := wg_in7 128 rfl rfl
set_option maxRecDepth 20000 in
theorem kw_1644 : Cond.constantLong RX12 515 (1000000000) ∈ wg := wg_in7 133 rfl rfl
set_option maxRecDepth 20000 in
theorem kw_1645 : Cond.methodLink RX12 517 yX12_verdictOf ∈ wg := wg_in7 134 rfl rfl
set_option maxRecDepth 20000 in
theorem kw_1647 : Cond.instanceMethod yX12_verdictOf ∈ wg := wg_in7 136 rfl rfl
set_option maxRecDepth 20000 in
theorem kw_1648 : Cond.code yX12_verdictOf cX12_verdictOf 12 (some .int) ∈ wg := wg_in7 137 rfl rfl
set_option maxRecDepth 20000 in
theorem kw_1649 : Cond.methodLink RX12 495 yX12_isToldBy ∈ wg := wg_in7 138 rfl rfl
set_option maxRecDepth 20000 in
theorem kw_1651 : Cond.instanceMethod yX12_isToldBy ∈ wg := wg_in7 140 rfl rfl
set_option maxRecDepth 20000 in
theorem kw_1652 : Cond.code yX12_isToldBy cX12_isToldBy 6 (some .boolean) ∈ wg := wg_in7 141 rfl rfl
set_option maxRecDepth 20000 in
theorem kw_1653 : Cond.methodLink RX12 499 yX12_isRight ∈ wg := wg_in7 142 rfl rfl
set_option maxRecDepth 20000 in
theorem kw_1655 : Cond.instanceMethod yX12_isRight ∈ wg := wg_in7 144 rfl rfl
set_option maxRecDepth 20000 in
theorem kw_1656 : Cond.code yX12_isRight cX12_isRight 15 (some .boolean) ∈ wg := wg_in7 145 rfl rfl
set_option maxRecDepth 20000 in
theorem kw_1657 : Cond.methodLink RX12 188 yX12_four ∈ wg := wg_in7 146 rfl rfl
set_option maxRecDepth 20000 in
theorem kw_1658 : Cond.static yX12_four ∈ wg := wg_in7 147 rfl rfl
set_option maxRecDepth 20000 in
theorem kw_1659 : Cond.code yX12_four cX12_four 2 (some .long) ∈ wg := wg_in7 148 rfl rfl
set_option maxRecDepth 20000 in
theorem kw_1664 : Cond.constantLong RX12 524 (24) ∈ wg := wg_in7 153 rfl rfl
set_option maxRecDepth 20000 in
theorem kw_1665 : Cond.constantLong RX12 526 (28) ∈ wg := wg_in7 154 rfl rfl
set_option maxRecDepth 20000 in
theorem kw_1670 : Cond.constantLong RX12 528 (-2) ∈ wg := wg_in7 159 rfl rfl
set_option maxRecDepth 20000 in
theorem iw_X12 : ∀ w ∈ wsX120, w ∈ wg := iw_of (fun k hk => match k, hk with
  | 0, _ => kw_1155
  | 1, _ => kw_1157
  | 2, _ => kw_1159
  | 3, _ => kw_1161
  | 4, _ => kw_1163
  | 5, _ => kw_1165
  | 6, _ => kw_1167
  | 7, _ => kw_1169
  | 8, _ => kw_1171
  | 9, _ => kw_1173
  | 10, _ => kw_1175
  | 11, _ => kw_1177
  | 12, _ => kw_1179
  | 13, _ => kw_1181
  | 14, _ => kw_1183
  | 15, _ => kw_1185
  | 16, _ => kw_1187
  | 17, _ => kw_1189
  | 18, _ => kw_1191
  | 19, _ => kw_1193
  | 20, _ => kw_1195
  | 21, _ => kw_1197
  | 22, _ => kw_1199
  | 23, _ => kw_1201
  | 24, _ => kw_1203
  | 25, _ => kw_1205
  | 26, _ => kw_1207
  | 27, _ => kw_1209
  | 28, _ => kw_1211
  | 29, _ => kw_1213
  | 30, _ => kw_1215
  | 31, _ => kw_1217
  | 32, _ => kw_1219
  | 33, _ => kw_1221
  | 34, _ => kw_1223
  | 35, _ => kw_1225
  | 36, _ => kw_1227
  | 37, _ => kw_1229
  | 38, _ => kw_1231
  | 39, _ => kw_1233
  | 40, _ => kw_1235
  | 41, _ => kw_1237
  | 42, _ => kw_1239
  | 43, _ => kw_1241
  | 44, _ => kw_1243
  | 45, _ => kw_1245
  | 46, _ => kw_1247
  | 47, _ => kw_1249
  | 48, _ => kw_1251
  | 49, _ => kw_1253
  | 50, _ => kw_1255
  | 51, _ => kw_1257
  | 52, _ => kw_1259
  | 53, _ => kw_1261
  | 54, _ => kw_1263
  | 55, _ => kw_1265
  | 56, _ => kw_1267
  | 57, _ => kw_1269
  | 58, _ => kw_1271
  | 59, _ => kw_1273
  | 60, _ => kw_1275
  | 61, _ => kw_1277
  | 62, _ => kw_1279
  | 63, _ => kw_1281
  | 64, _ => kw_1283
  | 65, _ => kw_1285
  | 66, _ => kw_1287
  | 67, _ => kw_1289
  | 68, _ => kw_1291
  | 69, _ => kw_1293
  | 70, _ => kw_1295
  | 71, _ => kw_1297
  | 72, _ => kw_1299
  | 73, _ => kw_1301
  | 74, _ => kw_1303
  | 75, _ => kw_1305
  | 76, _ => kw_1307
  | 77, _ => kw_1309
  | 78, _ => kw_1311
  | 79, _ => kw_1313
  | 80, _ => kw_1315
  | 81, _ => kw_1317
  | 82, _ => kw_1319
  | 83, _ => kw_1321
  | n + 84, h => absurd h (by omega))
theorem hd_X12_within : yX12_within.cls ≠ "java/lang/invoke/MethodHandle" ∧ yX12_within.cls ≠ "java/lang/invoke/VarHandle" ∧ (parseMethodDescriptor yX12_within.desc).map (fun d => d.parameters.length) = some 3 := by decide +kernel
theorem hd_X12_feed : yX12_feed.cls = RX12 ∧ yX12_feed.cls ≠ "java/lang/invoke/MethodHandle" ∧ yX12_feed.cls ≠ "java/lang/invoke/VarHandle" ∧ (parseMethodDescriptor yX12_feed.desc).map (fun d => d.parameters.length) = some 2 := by decide +kernel
theorem hd_X12_take : yX12_take.cls = RX12 ∧ yX12_take.cls ≠ "java/lang/invoke/MethodHandle" ∧ yX12_take.cls ≠ "java/lang/invoke/VarHandle" ∧ (parseMethodDescriptor yX12_take.desc).map (fun d => d.parameters.length) = some 0 := by decide +kernel
theorem hd_X12_spoil : yX12_spoil.cls = RX12 ∧ yX12_spoil.cls ≠ "java/lang/invoke/MethodHandle" ∧ yX12_spoil.cls ≠ "java/lang/invoke/VarHandle" ∧ (parseMethodDescriptor yX12_spoil.desc).map (fun d => d.parameters.length) = some 2 := by decide +kernel
theorem hd_X12_cut : yX12_cut.cls = RX12 ∧ yX12_cut.cls ≠ "java/lang/invoke/MethodHandle" ∧ yX12_cut.cls ≠ "java/lang/invoke/VarHandle" ∧ (parseMethodDescriptor yX12_cut.desc).map (fun d => d.parameters.length) = some 1 := by decide +kernel
theorem hd_X12_size : yX12_size.cls = RX12 ∧ yX12_size.cls ≠ "java/lang/invoke/MethodHandle" ∧ yX12_size.cls ≠ "java/lang/invoke/VarHandle" ∧ (parseMethodDescriptor yX12_size.desc).map (fun d => d.parameters.length) = some 0 := by decide +kernel
theorem hd_X12_out : yX12_out.cls = RX12 ∧ yX12_out.cls ≠ "java/lang/invoke/MethodHandle" ∧ yX12_out.cls ≠ "java/lang/invoke/VarHandle" ∧ (parseMethodDescriptor yX12_out.desc).map (fun d => d.parameters.length) = some 1 := by decide +kernel
theorem hd_X12_beginHash : yX12_beginHash.cls = RX12 ∧ yX12_beginHash.cls ≠ "java/lang/invoke/MethodHandle" ∧ yX12_beginHash.cls ≠ "java/lang/invoke/VarHandle" ∧ (parseMethodDescriptor yX12_beginHash.desc).map (fun d => d.parameters.length) = some 0 := by decide +kernel
theorem hd_X12_hashByte : yX12_hashByte.cls = RX12 ∧ yX12_hashByte.cls ≠ "java/lang/invoke/MethodHandle" ∧ yX12_hashByte.cls ≠ "java/lang/invoke/VarHandle" ∧ (parseMethodDescriptor yX12_hashByte.desc).map (fun d => d.parameters.length) = some 1 := by decide +kernel
theorem hd_X12_hashLong : yX12_hashLong.cls = RX12 ∧ yX12_hashLong.cls ≠ "java/lang/invoke/MethodHandle" ∧ yX12_hashLong.cls ≠ "java/lang/invoke/VarHandle" ∧ (parseMethodDescriptor yX12_hashLong.desc).map (fun d => d.parameters.length) = some 1 := by decide +kernel
theorem hd_X12_endHash : yX12_endHash.cls = RX12 ∧ yX12_endHash.cls ≠ "java/lang/invoke/MethodHandle" ∧ yX12_endHash.cls ≠ "java/lang/invoke/VarHandle" ∧ (parseMethodDescriptor yX12_endHash.desc).map (fun d => d.parameters.length) = some 0 := by decide +kernel
theorem hd_X12_hashOfTwo : yX12_hashOfTwo.cls = RX12 ∧ yX12_hashOfTwo.cls ≠ "java/lang/invoke/MethodHandle" ∧ yX12_hashOfTwo.cls ≠ "java/lang/invoke/VarHandle" ∧ (parseMethodDescriptor yX12_hashOfTwo.desc).map (fun d => d.parameters.length) = some 2 := by decide +kernel
theorem hd_X12_hashOfKey : yX12_hashOfKey.cls = RX12 ∧ yX12_hashOfKey.cls ≠ "java/lang/invoke/MethodHandle" ∧ yX12_hashOfKey.cls ≠ "java/lang/invoke/VarHandle" ∧ (parseMethodDescriptor yX12_hashOfKey.desc).map (fun d => d.parameters.length) = some 1 := by decide +kernel
theorem hd_X12_rest : yX12_rest.cls ≠ "java/lang/invoke/MethodHandle" ∧ yX12_rest.cls ≠ "java/lang/invoke/VarHandle" ∧ (parseMethodDescriptor yX12_rest.desc).map (fun d => d.parameters.length) = some 2 := by decide +kernel
theorem hd_X12_power : yX12_power.cls ≠ "java/lang/invoke/MethodHandle" ∧ yX12_power.cls ≠ "java/lang/invoke/VarHandle" ∧ (parseMethodDescriptor yX12_power.desc).map (fun d => d.parameters.length) = some 2 := by decide +kernel
theorem hd_X12_daysOf : yX12_daysOf.cls ≠ "java/lang/invoke/MethodHandle" ∧ yX12_daysOf.cls ≠ "java/lang/invoke/VarHandle" ∧ (parseMethodDescriptor yX12_daysOf.desc).map (fun d => d.parameters.length) = some 2 := by decide +kernel
theorem hd_X12_show : yX12_show.cls = RX12 ∧ yX12_show.cls ≠ "java/lang/invoke/MethodHandle" ∧ yX12_show.cls ≠ "java/lang/invoke/VarHandle" ∧ (parseMethodDescriptor yX12_show.desc).map (fun d => d.parameters.length) = some 1 := by decide +kernel
theorem hd_X12_character : yX12_character.cls = RX12 ∧ yX12_character.cls ≠ "java/lang/invoke/MethodHandle" ∧ yX12_character.cls ≠ "java/lang/invoke/VarHandle" ∧ (parseMethodDescriptor yX12_character.desc).map (fun d => d.parameters.length) = some 1 := by decide +kernel
theorem hd_X12_clock : yX12_clock.cls = RX12 ∧ yX12_clock.cls ≠ "java/lang/invoke/MethodHandle" ∧ yX12_clock.cls ≠ "java/lang/invoke/VarHandle" ∧ (parseMethodDescriptor yX12_clock.desc).map (fun d => d.parameters.length) = some 2 := by decide +kernel
theorem hd_X12_lay : yX12_lay.cls = RX12 ∧ yX12_lay.cls ≠ "java/lang/invoke/MethodHandle" ∧ yX12_lay.cls ≠ "java/lang/invoke/VarHandle" ∧ (parseMethodDescriptor yX12_lay.desc).map (fun d => d.parameters.length) = some 1 := by decide +kernel
theorem hd_X12_layLong : yX12_layLong.cls = RX12 ∧ yX12_layLong.cls ≠ "java/lang/invoke/MethodHandle" ∧ yX12_layLong.cls ≠ "java/lang/invoke/VarHandle" ∧ (parseMethodDescriptor yX12_layLong.desc).map (fun d => d.parameters.length) = some 1 := by decide +kernel
theorem hd_X12_wrap : yX12_wrap.cls = RX12 ∧ yX12_wrap.cls ≠ "java/lang/invoke/MethodHandle" ∧ yX12_wrap.cls ≠ "java/lang/invoke/VarHandle" ∧ (parseMethodDescriptor yX12_wrap.desc).map (fun d => d.parameters.length) = some 2 := by decide +kernel
theorem hd_X12_layInteger : yX12_layInteger.cls = RX12 ∧ yX12_layInteger.cls ≠ "java/lang/invoke/MethodHandle" ∧ yX12_layInteger.cls ≠ "java/lang/invoke/VarHandle" ∧ (parseMethodDescriptor yX12_layInteger.desc).map (fun d => d.parameters.length) = some 1 := by decide +kernel
theorem hd_X12_layTime : yX12_layTime.cls = RX12 ∧ yX12_layTime.cls ≠ "java/lang/invoke/MethodHandle" ∧ yX12_layTime.cls ≠ "java/lang/invoke/VarHandle" ∧ (parseMethodDescriptor yX12_layTime.desc).map (fun d => d.parameters.length) = some 1 := by decide +kernel
theorem hd_X12_layCode : yX12_layCode.cls = RX12 ∧ yX12_layCode.cls ≠ "java/lang/invoke/MethodHandle" ∧ yX12_layCode.cls ≠ "java/lang/invoke/VarHandle" ∧ (parseMethodDescriptor yX12_layCode.desc).map (fun d => d.parameters.length) = some 1 := by decide +kernel
theorem hd_X12_layHash : yX12_layHash.cls = RX12 ∧ yX12_layHash.cls ≠ "java/lang/invoke/MethodHandle" ∧ yX12_layHash.cls ≠ "java/lang/invoke/VarHandle" ∧ (parseMethodDescriptor yX12_layHash.desc).map (fun d => d.parameters.length) = some 1 := by decide +kernel
theorem hd_X12_hashRow : yX12_hashRow.cls = RX12 ∧ yX12_hashRow.cls ≠ "java/lang/invoke/MethodHandle" ∧ yX12_hashRow.cls ≠ "java/lang/invoke/VarHandle" ∧ (parseMethodDescriptor yX12_hashRow.desc).map (fun d => d.parameters.length) = some 3 := by decide +kernel
theorem hd_X12_hashOf : yX12_hashOf.cls = RX12 ∧ yX12_hashOf.cls ≠ "java/lang/invoke/MethodHandle" ∧ yX12_hashOf.cls ≠ "java/lang/invoke/VarHandle" ∧ (parseMethodDescriptor yX12_hashOf.desc).map (fun d => d.parameters.length) = some 3 := by decide +kernel
theorem hd_X12_sign : yX12_sign.cls = RX12 ∧ yX12_sign.cls ≠ "java/lang/invoke/MethodHandle" ∧ yX12_sign.cls ≠ "java/lang/invoke/VarHandle" ∧ (parseMethodDescriptor yX12_sign.desc).map (fun d => d.parameters.length) = some 4 := by decide +kernel
theorem hd_X12_laySignature : yX12_laySignature.cls = RX12 ∧ yX12_laySignature.cls ≠ "java/lang/invoke/MethodHandle" ∧ yX12_laySignature.cls ≠ "java/lang/invoke/VarHandle" ∧ (parseMethodDescriptor yX12_laySignature.desc).map (fun d => d.parameters.length) = some 3 := by decide +kernel
theorem hd_X12_layId : yX12_layId.cls = RX12 ∧ yX12_layId.cls ≠ "java/lang/invoke/MethodHandle" ∧ yX12_layId.cls ≠ "java/lang/invoke/VarHandle" ∧ (parseMethodDescriptor yX12_layId.desc).map (fun d => d.parameters.length) = some 2 := by decide +kernel
theorem hd_X12_tellDraft : yX12_tellDraft.cls = RX12 ∧ yX12_tellDraft.cls ≠ "java/lang/invoke/MethodHandle" ∧ yX12_tellDraft.cls ≠ "java/lang/invoke/VarHandle" ∧ (parseMethodDescriptor yX12_tellDraft.desc).map (fun d => d.parameters.length) = some 0 := by decide +kernel
theorem hd_X12_wrong : yX12_wrong.cls = RX12 ∧ yX12_wrong.cls ≠ "java/lang/invoke/MethodHandle" ∧ yX12_wrong.cls ≠ "java/lang/invoke/VarHandle" ∧ (parseMethodDescriptor yX12_wrong.desc).map (fun d => d.parameters.length) = some 1 := by decide +kernel
theorem hd_X12_item : yX12_item.cls = RX12 ∧ yX12_item.cls ≠ "java/lang/invoke/MethodHandle" ∧ yX12_item.cls ≠ "java/lang/invoke/VarHandle" ∧ (parseMethodDescriptor yX12_item.desc).map (fun d => d.parameters.length) = some 1 := by decide +kernel
theorem hd_X12_of : yX12_of.cls = RX12 ∧ yX12_of.cls ≠ "java/lang/invoke/MethodHandle" ∧ yX12_of.cls ≠ "java/lang/invoke/VarHandle" ∧ (parseMethodDescriptor yX12_of.desc).map (fun d => d.parameters.length) = some 2 := by decide +kernel
theorem hd_X12_bytes : yX12_bytes.cls = RX12 ∧ yX12_bytes.cls ≠ "java/lang/invoke/MethodHandle" ∧ yX12_bytes.cls ≠ "java/lang/invoke/VarHandle" ∧ (parseMethodDescriptor yX12_bytes.desc).map (fun d => d.parameters.length) = some 3 := by decide +kernel
theorem hd_X12_integer : yX12_integer.cls = RX12 ∧ yX12_integer.cls ≠ "java/lang/invoke/MethodHandle" ∧ yX12_integer.cls ≠ "java/lang/invoke/VarHandle" ∧ (parseMethodDescriptor yX12_integer.desc).map (fun d => d.parameters.length) = some 3 := by decide +kernel
theorem hd_X12_code : yX12_code.cls = RX12 ∧ yX12_code.cls ≠ "java/lang/invoke/MethodHandle" ∧ yX12_code.cls ≠ "java/lang/invoke/VarHandle" ∧ (parseMethodDescriptor yX12_code.desc).map (fun d => d.parameters.length) = some 1 := by decide +kernel
theorem hd_X12_two : yX12_two.cls ≠ "java/lang/invoke/MethodHandle" ∧ yX12_two.cls ≠ "java/lang/invoke/VarHandle" ∧ (parseMethodDescriptor yX12_two.desc).map (fun d => d.parameters.length) = some 2 := by decide +kernel
theorem hd_X12_timeOf : yX12_timeOf.cls ≠ "java/lang/invoke/MethodHandle" ∧ yX12_timeOf.cls ≠ "java/lang/invoke/VarHandle" ∧ (parseMethodDescriptor yX12_timeOf.desc).map (fun d => d.parameters.length) = some 2 := by decide +kernel
theorem hd_X12_time : yX12_time.cls = RX12 ∧ yX12_time.cls ≠ "java/lang/invoke/MethodHandle" ∧ yX12_time.cls ≠ "java/lang/invoke/VarHandle" ∧ (parseMethodDescriptor yX12_time.desc).map (fun d => d.parameters.length) = some 1 := by decide +kernel
theorem hd_X12_signature : yX12_signature.cls = RX12 ∧ yX12_signature.cls ≠ "java/lang/invoke/MethodHandle" ∧ yX12_signature.cls ≠ "java/lang/invoke/VarHandle" ∧ (parseMethodDescriptor yX12_signature.desc).map (fun d => d.parameters.length) = some 1 := by decide +kernel
theorem hd_X12_ends : yX12_ends.cls = RX12 ∧ yX12_ends.cls ≠ "java/lang/invoke/MethodHandle" ∧ yX12_ends.cls ≠ "java/lang/invoke/VarHandle" ∧ (parseMethodDescriptor yX12_ends.desc).map (fun d => d.parameters.length) = some 1 := by decide +kernel
theorem hd_X12_readCert : yX12_readCert.cls = RX12 ∧ yX12_readCert.cls ≠ "java/lang/invoke/MethodHandle" ∧ yX12_readCert.cls ≠ "java/lang/invoke/VarHandle" ∧ (parseMethodDescriptor yX12_readCert.desc).map (fun d => d.parameters.length) = some 1 := by decide +kernel
theorem hd_X12_readId : yX12_readId.cls = RX12 ∧ yX12_readId.cls ≠ "java/lang/invoke/MethodHandle" ∧ yX12_readId.cls ≠ "java/lang/invoke/VarHandle" ∧ (parseMethodDescriptor yX12_readId.desc).map (fun d => d.parameters.length) = some 1 := by decide +kernel
theorem hd_X12_readNonce : yX12_readNonce.cls = RX12 ∧ yX12_readNonce.cls ≠ "java/lang/invoke/MethodHandle" ∧ yX12_readNonce.cls ≠ "java/lang/invoke/VarHandle" ∧ (parseMethodDescriptor yX12_readNonce.desc).map (fun d => d.parameters.length) = some 2 := by decide +kernel
theorem hd_X12_readAsk : yX12_readAsk.cls = RX12 ∧ yX12_readAsk.cls ≠ "java/lang/invoke/MethodHandle" ∧ yX12_readAsk.cls ≠ "java/lang/invoke/VarHandle" ∧ (parseMethodDescriptor yX12_readAsk.desc).map (fun d => d.parameters.length) = some 0 := by decide +kernel
theorem hd_X12_readState : yX12_readState.cls = RX12 ∧ yX12_readState.cls ≠ "java/lang/invoke/MethodHandle" ∧ yX12_readState.cls ≠ "java/lang/invoke/VarHandle" ∧ (parseMethodDescriptor yX12_readState.desc).map (fun d => d.parameters.length) = some 2 := by decide +kernel
theorem hd_X12_readSingle : yX12_readSingle.cls = RX12 ∧ yX12_readSingle.cls ≠ "java/lang/invoke/MethodHandle" ∧ yX12_readSingle.cls ≠ "java/lang/invoke/VarHandle" ∧ (parseMethodDescriptor yX12_readSingle.desc).map (fun d => d.parameters.length) = some 1 := by decide +kernel
theorem hd_X12_readTeller : yX12_readTeller.cls = RX12 ∧ yX12_readTeller.cls ≠ "java/lang/invoke/MethodHandle" ∧ yX12_readTeller.cls ≠ "java/lang/invoke/VarHandle" ∧ (parseMethodDescriptor yX12_readTeller.desc).map (fun d => d.parameters.length) = some 1 := by decide +kernel
theorem hd_X12_readBody : yX12_readBody.cls = RX12 ∧ yX12_readBody.cls ≠ "java/lang/invoke/MethodHandle" ∧ yX12_readBody.cls ≠ "java/lang/invoke/VarHandle" ∧ (parseMethodDescriptor yX12_readBody.desc).map (fun d => d.parameters.length) = some 1 := by decide +kernel
theorem hd_X12_readAnswer : yX12_readAnswer.cls = RX12 ∧ yX12_readAnswer.cls ≠ "java/lang/invoke/MethodHandle" ∧ yX12_readAnswer.cls ≠ "java/lang/invoke/VarHandle" ∧ (parseMethodDescriptor yX12_readAnswer.desc).map (fun d => d.parameters.length) = some 0 := by decide +kernel
theorem hd_X12_reads : yX12_reads.cls = RX12 ∧ yX12_reads.cls ≠ "java/lang/invoke/MethodHandle" ∧ yX12_reads.cls ≠ "java/lang/invoke/VarHandle" ∧ (parseMethodDescriptor yX12_reads.desc).map (fun d => d.parameters.length) = some 1 := by decide +kernel
theorem hd_X12_check : yX12_check.cls = RX12 ∧ yX12_check.cls ≠ "java/lang/invoke/MethodHandle" ∧ yX12_check.cls ≠ "java/lang/invoke/VarHandle" ∧ (parseMethodDescriptor yX12_check.desc).map (fun d => d.parameters.length) = some 1 := by decide +kernel
theorem hd_X12_hash : yX12_hash.cls = RX12 ∧ yX12_hash.cls ≠ "java/lang/invoke/MethodHandle" ∧ yX12_hash.cls ≠ "java/lang/invoke/VarHandle" ∧ (parseMethodDescriptor yX12_hash.desc).map (fun d => d.parameters.length) = some 0 := by decide +kernel
theorem hd_X12_isAuthority : yX12_isAuthority.cls = RX12 ∧ yX12_isAuthority.cls ≠ "java/lang/invoke/MethodHandle" ∧ yX12_isAuthority.cls ≠ "java/lang/invoke/VarHandle" ∧ (parseMethodDescriptor yX12_isAuthority.desc).map (fun d => d.parameters.length) = some 1 := by decide +kernel
theorem hd_X12_isSame : yX12_isSame.cls ≠ "java/lang/invoke/MethodHandle" ∧ yX12_isSame.cls ≠ "java/lang/invoke/VarHandle" ∧ (parseMethodDescriptor yX12_isSame.desc).map (fun d => d.parameters.length) = some 6 := by decide +kernel
theorem hd_X12_authority : yX12_authority.cls = RX12 ∧ yX12_authority.cls ≠ "java/lang/invoke/MethodHandle" ∧ yX12_authority.cls ≠ "java/lang/invoke/VarHandle" ∧ (parseMethodDescriptor yX12_authority.desc).map (fun d => d.parameters.length) = some 1 := by decide +kernel
theorem hd_X12_find : yX12_find.cls = RX12 ∧ yX12_find.cls ≠ "java/lang/invoke/MethodHandle" ∧ yX12_find.cls ≠ "java/lang/invoke/VarHandle" ∧ (parseMethodDescriptor yX12_find.desc).map (fun d => d.parameters.length) = some 2 := by decide +kernel
theorem hd_X12_enter : yX12_enter.cls = RX12 ∧ yX12_enter.cls ≠ "java/lang/invoke/MethodHandle" ∧ yX12_enter.cls ≠ "java/lang/invoke/VarHandle" ∧ (parseMethodDescriptor yX12_enter.desc).map (fun d => d.parameters.length) = some 2 := by decide +kernel
theorem hd_X12_issue : yX12_issue.cls = RX12 ∧ yX12_issue.cls ≠ "java/lang/invoke/MethodHandle" ∧ yX12_issue.cls ≠ "java/lang/invoke/VarHandle" ∧ (parseMethodDescriptor yX12_issue.desc).map (fun d => d.parameters.length) = some 2 := by decide +kernel
theorem hd_X12_takeBack : yX12_takeBack.cls = RX12 ∧ yX12_takeBack.cls ≠ "java/lang/invoke/MethodHandle" ∧ yX12_takeBack.cls ≠ "java/lang/invoke/VarHandle" ∧ (parseMethodDescriptor yX12_takeBack.desc).map (fun d => d.parameters.length) = some 4 := by decide +kernel
theorem hd_X12_lift : yX12_lift.cls = RX12 ∧ yX12_lift.cls ≠ "java/lang/invoke/MethodHandle" ∧ yX12_lift.cls ≠ "java/lang/invoke/VarHandle" ∧ (parseMethodDescriptor yX12_lift.desc).map (fun d => d.parameters.length) = some 2 := by decide +kernel
theorem hd_X12_layRow : yX12_layRow.cls = RX12 ∧ yX12_layRow.cls ≠ "java/lang/invoke/MethodHandle" ∧ yX12_layRow.cls ≠ "java/lang/invoke/VarHandle" ∧ (parseMethodDescriptor yX12_layRow.desc).map (fun d => d.parameters.length) = some 3 := by decide +kernel
theorem hd_X12_signer : yX12_signer.cls = RX12 ∧ yX12_signer.cls ≠ "java/lang/invoke/MethodHandle" ∧ yX12_signer.cls ≠ "java/lang/invoke/VarHandle" ∧ (parseMethodDescriptor yX12_signer.desc).map (fun d => d.parameters.length) = some 6 := by decide +kernel
theorem hd_X12_cert : yX12_cert.cls = RX12 ∧ yX12_cert.cls ≠ "java/lang/invoke/MethodHandle" ∧ yX12_cert.cls ≠ "java/lang/invoke/VarHandle" ∧ (parseMethodDescriptor yX12_cert.desc).map (fun d => d.parameters.length) = some 1 := by decide +kernel
theorem hd_X12_want : yX12_want.cls = RX12 ∧ yX12_want.cls ≠ "java/lang/invoke/MethodHandle" ∧ yX12_want.cls ≠ "java/lang/invoke/VarHandle" ∧ (parseMethodDescriptor yX12_want.desc).map (fun d => d.parameters.length) = some 2 := by decide +kernel
theorem hd_X12_nonce : yX12_nonce.cls = RX12 ∧ yX12_nonce.cls ≠ "java/lang/invoke/MethodHandle" ∧ yX12_nonce.cls ≠ "java/lang/invoke/VarHandle" ∧ (parseMethodDescriptor yX12_nonce.desc).map (fun d => d.parameters.length) = some 2 := by decide +kernel
theorem hd_X12_ask : yX12_ask.cls = RX12 ∧ yX12_ask.cls ≠ "java/lang/invoke/MethodHandle" ∧ yX12_ask.cls ≠ "java/lang/invoke/VarHandle" ∧ (parseMethodDescriptor yX12_ask.desc).map (fun d => d.parameters.length) = some 0 := by decide +kernel
theorem hd_X12_isHash : yX12_isHash.cls = RX12 ∧ yX12_isHash.cls ≠ "java/lang/invoke/MethodHandle" ∧ yX12_isHash.cls ≠ "java/lang/invoke/VarHandle" ∧ (parseMethodDescriptor yX12_isHash.desc).map (fun d => d.parameters.length) = some 2 := by decide +kernel
theorem hd_X12_isOf : yX12_isOf.cls = RX12 ∧ yX12_isOf.cls ≠ "java/lang/invoke/MethodHandle" ∧ yX12_isOf.cls ≠ "java/lang/invoke/VarHandle" ∧ (parseMethodDescriptor yX12_isOf.desc).map (fun d => d.parameters.length) = some 2 := by decide +kernel
theorem hd_X12_tellStatus : yX12_tellStatus.cls = RX12 ∧ yX12_tellStatus.cls ≠ "java/lang/invoke/MethodHandle" ∧ yX12_tellStatus.cls ≠ "java/lang/invoke/VarHandle" ∧ (parseMethodDescriptor yX12_tellStatus.desc).map (fun d => d.parameters.length) = some 1 := by decide +kernel
theorem hd_X12_laySingle : yX12_laySingle.cls = RX12 ∧ yX12_laySingle.cls ≠ "java/lang/invoke/MethodHandle" ∧ yX12_laySingle.cls ≠ "java/lang/invoke/VarHandle" ∧ (parseMethodDescriptor yX12_laySingle.desc).map (fun d => d.parameters.length) = some 4 := by decide +kernel
theorem hd_X12_answer : yX12_answer.cls = RX12 ∧ yX12_answer.cls ≠ "java/lang/invoke/MethodHandle" ∧ yX12_answer.cls ≠ "java/lang/invoke/VarHandle" ∧ (parseMethodDescriptor yX12_answer.desc).map (fun d => d.parameters.length) = some 3 := by decide +kernel
theorem hd_X12_four : yX12_four.cls ≠ "java/lang/invoke/MethodHandle" ∧ yX12_four.cls ≠ "java/lang/invoke/VarHandle" ∧ (parseMethodDescriptor yX12_four.desc).map (fun d => d.parameters.length) = some 2 := by decide +kernel
theorem hd_X12_isRight : yX12_isRight.cls = RX12 ∧ yX12_isRight.cls ≠ "java/lang/invoke/MethodHandle" ∧ yX12_isRight.cls ≠ "java/lang/invoke/VarHandle" ∧ (parseMethodDescriptor yX12_isRight.desc).map (fun d => d.parameters.length) = some 5 := by decide +kernel
theorem hd_X12_isToldBy : yX12_isToldBy.cls = RX12 ∧ yX12_isToldBy.cls ≠ "java/lang/invoke/MethodHandle" ∧ yX12_isToldBy.cls ≠ "java/lang/invoke/VarHandle" ∧ (parseMethodDescriptor yX12_isToldBy.desc).map (fun d => d.parameters.length) = some 4 := by decide +kernel
theorem hd_X12_verdictOf : yX12_verdictOf.cls = RX12 ∧ yX12_verdictOf.cls ≠ "java/lang/invoke/MethodHandle" ∧ yX12_verdictOf.cls ≠ "java/lang/invoke/VarHandle" ∧ (parseMethodDescriptor yX12_verdictOf.desc).map (fun d => d.parameters.length) = some 5 := by decide +kernel
theorem hd_X12_look : yX12_look.cls = RX12 ∧ yX12_look.cls ≠ "java/lang/invoke/MethodHandle" ∧ yX12_look.cls ≠ "java/lang/invoke/VarHandle" ∧ (parseMethodDescriptor yX12_look.desc).map (fun d => d.parameters.length) = some 5 := by decide +kernel
theorem hd_X12_passes : yX12_passes.cls = RX12 ∧ yX12_passes.cls ≠ "java/lang/invoke/MethodHandle" ∧ yX12_passes.cls ≠ "java/lang/invoke/VarHandle" ∧ (parseMethodDescriptor yX12_passes.desc).map (fun d => d.parameters.length) = some 1 := by decide +kernel
theorem hd_X12_found : yX12_found.cls = RX12 ∧ yX12_found.cls ≠ "java/lang/invoke/MethodHandle" ∧ yX12_found.cls ≠ "java/lang/invoke/VarHandle" ∧ (parseMethodDescriptor yX12_found.desc).map (fun d => d.parameters.length) = some 1 := by decide +kernel
theorem hd_X12_hold : yX12_hold.cls = RX12 ∧ yX12_hold.cls ≠ "java/lang/invoke/MethodHandle" ∧ yX12_hold.cls ≠ "java/lang/invoke/VarHandle" ∧ (parseMethodDescriptor yX12_hold.desc).map (fun d => d.parameters.length) = some 0 := by decide +kernel
theorem hd_X12_held : yX12_held.cls = RX12 ∧ yX12_held.cls ≠ "java/lang/invoke/MethodHandle" ∧ yX12_held.cls ≠ "java/lang/invoke/VarHandle" ∧ (parseMethodDescriptor yX12_held.desc).map (fun d => d.parameters.length) = some 3 := by decide +kernel
theorem hd_X12_key : yX12_key.cls = RX12 ∧ yX12_key.cls ≠ "java/lang/invoke/MethodHandle" ∧ yX12_key.cls ≠ "java/lang/invoke/VarHandle" ∧ (parseMethodDescriptor yX12_key.desc).map (fun d => d.parameters.length) = some 2 := by decide +kernel
theorem hd_X12_told : yX12_told.cls = RX12 ∧ yX12_told.cls ≠ "java/lang/invoke/MethodHandle" ∧ yX12_told.cls ≠ "java/lang/invoke/VarHandle" ∧ (parseMethodDescriptor yX12_told.desc).map (fun d => d.parameters.length) = some 1 := by decide +kernel
