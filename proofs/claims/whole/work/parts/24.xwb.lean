set_option maxHeartbeats 4000000 in
set_option maxRecDepth 100000 in
theorem w_an_read_88 {l : Launch} {p : Program} {e : Env} {s : State} {m : MethodId} {args : Array Value} {below : List Frame} {meth : Method} {c : Code} {A : Nat → Prop} {D : va_G} {q : Nat → ClassId} {t : Nat} (C0 : cy p s m args meth c cX0_read none 3 RX0 D q t A) (a_o : Nat) (a_o_cert : Nat) (a_o_from : Nat) (a_o_ids : Nat) (a_o_next : Nat) (a_o_reasons : Nat) (a_o_since : Nat) (a_o_states : Nat) (a_o_ids_keyHashes : Nat) (a_o_ids_nameHashes : Nat) (a_o_ids_serials : Nat) (a_p0 : Nat) (a_p0_data : Nat) (n_p0_data : Nat) (a_p0_outerEnds : Nat)  (x_o_status : Int32) (x_o_hasCert : Int32) (x_o_bodyPlace : Int32) (x_o_bodyEnd : Int32) (x_o_signature : Int64) (x_o_isByName : Int32) (x_o_tellerPlace : Int32) (x_o_tellerSize : Int32) (x_o_tellerHash : Int64) (x_o_noncePlace : Int32) (x_o_nonceSize : Int32) (x_o_cert_innerPlace : Int32) (x_o_cert_innerEnd : Int32) (x_o_cert_serial : Int32) (x_o_cert_issuerPlace : Int32) (x_o_cert_issuerSize : Int32) (x_o_cert_namePlace : Int32) (x_o_cert_nameSize : Int32) (x_o_cert_from : Int64) (x_o_cert_to : Int64) (x_o_cert_publicKey : Int64) (x_o_cert_flags : Int32) (x_o_cert_signature : Int64) (r_o_from : (Nat → Int64)) (x_o_ids_count : Int32) (r_o_next : (Nat → Int64)) (r_o_reasons : (Nat → Int32)) (r_o_since : (Nat → Int64)) (r_o_states : (Nat → Int32)) (r_o_ids_keyHashes : (Nat → Int64)) (r_o_ids_nameHashes : (Nat → Int64)) (r_o_ids_serials : (Nat → Int32)) (x_p0_depth : Int32) (x_p0_end : Int32) (x_p0_at : Int32) (x_p0_place : Int32) (x_p0_size : Int32) (x_p0_fault : Int32) (x_p0_items : Int32) (r_p0_data : (Nat → Int32)) (r_p0_outerEnds : (Nat → Int32))  (y : Int32 × Int32 × Int32 × Int64 × Int32 × Int32 × Int32 × Int32 × Int32 × Int32 × Int64 × Int32 × Int64 × Int64 × (Nat → Int64) × Int32 × Int32 × (Nat → Int64) × (Nat → Int64) × (Nat → Int32) × Int32 × (Nat → Int64) × Int32 × Int32 × (Nat → Int32) × Int64 × (Nat → Int64) × (Nat → Int32) × Int32 × Int64 × Int32 × Int32 × Int32 × Int32 × Int32 × Int32 × Int32 × (Nat → Int32) × Int32 × Int32) (hF : j_an_read_88 x_o_bodyEnd x_o_bodyPlace x_o_cert_flags x_o_cert_from x_o_cert_innerEnd x_o_cert_innerPlace x_o_cert_issuerPlace x_o_cert_issuerSize x_o_cert_namePlace x_o_cert_nameSize x_o_cert_publicKey x_o_cert_serial x_o_cert_signature x_o_cert_to r_o_from x_o_hasCert x_o_ids_count r_o_ids_keyHashes r_o_ids_nameHashes r_o_ids_serials x_o_isByName r_o_next x_o_noncePlace x_o_nonceSize r_o_reasons x_o_signature r_o_since r_o_states x_o_status x_o_tellerHash x_o_tellerPlace x_o_tellerSize x_p0_at r_p0_data x_p0_depth x_p0_end x_p0_fault x_p0_items r_p0_outerEnds x_p0_place x_p0_size n_p0_data = some y) : ∀ (H : Heap) (locs : List Loc) (ls : Array Slot), va_P D vwCl [oX0 a_o a_o_ids a_o_states a_o_since a_o_reasons a_o_from a_o_next a_o_cert x_o_status x_o_hasCert x_o_bodyPlace x_o_bodyEnd x_o_signature x_o_isByName x_o_tellerPlace x_o_tellerSize x_o_tellerHash x_o_noncePlace x_o_nonceSize, oX4 a_o_cert x_o_cert_innerPlace x_o_cert_innerEnd x_o_cert_serial x_o_cert_issuerPlace x_o_cert_issuerSize x_o_cert_namePlace x_o_cert_nameSize x_o_cert_from x_o_cert_to x_o_cert_publicKey x_o_cert_flags x_o_cert_signature, rJ q a_o_from 8 r_o_from, oX6 a_o_ids a_o_ids_nameHashes a_o_ids_keyHashes a_o_ids_serials x_o_ids_count, rJ q a_o_next 8 r_o_next, rI q a_o_reasons 8 r_o_reasons, rJ q a_o_since 8 r_o_since, rI q a_o_states 8 r_o_states, rJ q a_o_ids_keyHashes 8 r_o_ids_keyHashes, rJ q a_o_ids_nameHashes 8 r_o_ids_nameHashes, rI q a_o_ids_serials 8 r_o_ids_serials, oX8 a_p0 a_p0_outerEnds a_p0_data x_p0_depth x_p0_end x_p0_at x_p0_place x_p0_size x_p0_fault x_p0_items, rB q a_p0_data n_p0_data r_p0_data, rI q a_p0_outerEnds 12 r_p0_outerEnds] H → va_D A [oX0 a_o a_o_ids a_o_states a_o_since a_o_reasons a_o_from a_o_next a_o_cert x_o_status x_o_hasCert x_o_bodyPlace x_o_bodyEnd x_o_signature x_o_isByName x_o_tellerPlace x_o_tellerSize x_o_tellerHash x_o_noncePlace x_o_nonceSize, oX4 a_o_cert x_o_cert_innerPlace x_o_cert_innerEnd x_o_cert_serial x_o_cert_issuerPlace x_o_cert_issuerSize x_o_cert_namePlace x_o_cert_nameSize x_o_cert_from x_o_cert_to x_o_cert_publicKey x_o_cert_flags x_o_cert_signature, rJ q a_o_from 8 r_o_from, oX6 a_o_ids a_o_ids_nameHashes a_o_ids_keyHashes a_o_ids_serials x_o_ids_count, rJ q a_o_next 8 r_o_next, rI q a_o_reasons 8 r_o_reasons, rJ q a_o_since 8 r_o_since, rI q a_o_states 8 r_o_states, rJ q a_o_ids_keyHashes 8 r_o_ids_keyHashes, rJ q a_o_ids_nameHashes 8 r_o_ids_nameHashes, rI q a_o_ids_serials 8 r_o_ids_serials, oX8 a_p0 a_p0_outerEnds a_p0_data x_p0_depth x_p0_end x_p0_at x_p0_place x_p0_size x_p0_fault x_p0_items, rB q a_p0_data n_p0_data r_p0_data, rI q a_p0_outerEnds 12 r_p0_outerEnds] → va_S A s.heap H locs → lv_has ls 3 [(0, .ref a_o), (1, .ref a_p0)] → W p l e ({ frames := 5, cells := 0, slots := 0, locals := 123 }) s m args below meth c H locs 0 0 (MQ below (qV D q [oX0 a_o a_o_ids a_o_states a_o_since a_o_reasons a_o_from a_o_next a_o_cert y.2.2.2.2.2.2.2.2.2.2.2.2.2.2.2.2.2.2.2.2.2.2.2.2.2.2.2.2.1 y.2.2.2.2.2.2.2.2.2.2.2.2.2.2.2.1 y.2.1 y.1 y.2.2.2.2.2.2.2.2.2.2.2.2.2.2.2.2.2.2.2.2.2.2.2.2.2.1 y.2.2.2.2.2.2.2.2.2.2.2.2.2.2.2.2.2.2.2.2.1 y.2.2.2.2.2.2.2.2.2.2.2.2.2.2.2.2.2.2.2.2.2.2.2.2.2.2.2.2.2.2.1 y.2.2.2.2.2.2.2.2.2.2.2.2.2.2.2.2.2.2.2.2.2.2.2.2.2.2.2.2.2.2.2.1 y.2.2.2.2.2.2.2.2.2.2.2.2.2.2.2.2.2.2.2.2.2.2.2.2.2.2.2.2.2.1 y.2.2.2.2.2.2.2.2.2.2.2.2.2.2.2.2.2.2.2.2.2.2.1 y.2.2.2.2.2.2.2.2.2.2.2.2.2.2.2.2.2.2.2.2.2.2.2.1, oX4 a_o_cert y.2.2.2.2.2.1 y.2.2.2.2.1 y.2.2.2.2.2.2.2.2.2.2.2.1 y.2.2.2.2.2.2.1 y.2.2.2.2.2.2.2.1 y.2.2.2.2.2.2.2.2.1 y.2.2.2.2.2.2.2.2.2.1 y.2.2.2.1 y.2.2.2.2.2.2.2.2.2.2.2.2.2.1 y.2.2.2.2.2.2.2.2.2.2.1 y.2.2.1 y.2.2.2.2.2.2.2.2.2.2.2.2.1, rJ q a_o_from 8 y.2.2.2.2.2.2.2.2.2.2.2.2.2.2.1, oX6 a_o_ids a_o_ids_nameHashes a_o_ids_keyHashes a_o_ids_serials y.2.2.2.2.2.2.2.2.2.2.2.2.2.2.2.2.1, rJ q a_o_next 8 y.2.2.2.2.2.2.2.2.2.2.2.2.2.2.2.2.2.2.2.2.2.1, rI q a_o_reasons 8 y.2.2.2.2.2.2.2.2.2.2.2.2.2.2.2.2.2.2.2.2.2.2.2.2.1, rJ q a_o_since 8 y.2.2.2.2.2.2.2.2.2.2.2.2.2.2.2.2.2.2.2.2.2.2.2.2.2.2.1, rI q a_o_states 8 y.2.2.2.2.2.2.2.2.2.2.2.2.2.2.2.2.2.2.2.2.2.2.2.2.2.2.2.1, rJ q a_o_ids_keyHashes 8 y.2.2.2.2.2.2.2.2.2.2.2.2.2.2.2.2.2.1, rJ q a_o_ids_nameHashes 8 y.2.2.2.2.2.2.2.2.2.2.2.2.2.2.2.2.2.2.1, rI q a_o_ids_serials 8 y.2.2.2.2.2.2.2.2.2.2.2.2.2.2.2.2.2.2.2.1, oX8 a_p0 a_p0_outerEnds a_p0_data y.2.2.2.2.2.2.2.2.2.2.2.2.2.2.2.2.2.2.2.2.2.2.2.2.2.2.2.2.2.2.2.2.2.1 y.2.2.2.2.2.2.2.2.2.2.2.2.2.2.2.2.2.2.2.2.2.2.2.2.2.2.2.2.2.2.2.2.2.2.1 y.2.2.2.2.2.2.2.2.2.2.2.2.2.2.2.2.2.2.2.2.2.2.2.2.2.2.2.2.2.2.2.2.1 y.2.2.2.2.2.2.2.2.2.2.2.2.2.2.2.2.2.2.2.2.2.2.2.2.2.2.2.2.2.2.2.2.2.2.2.2.2.2.1 y.2.2.2.2.2.2.2.2.2.2.2.2.2.2.2.2.2.2.2.2.2.2.2.2.2.2.2.2.2.2.2.2.2.2.2.2.2.2.2 y.2.2.2.2.2.2.2.2.2.2.2.2.2.2.2.2.2.2.2.2.2.2.2.2.2.2.2.2.2.2.2.2.2.2.2.1 y.2.2.2.2.2.2.2.2.2.2.2.2.2.2.2.2.2.2.2.2.2.2.2.2.2.2.2.2.2.2.2.2.2.2.2.2.1, rB q a_p0_data n_p0_data r_p0_data, rI q a_p0_outerEnds 12 y.2.2.2.2.2.2.2.2.2.2.2.2.2.2.2.2.2.2.2.2.2.2.2.2.2.2.2.2.2.2.2.2.2.2.2.2.2.1] A) args s 0 0 A) (F0 m 88 ls []) := by
  obtain ⟨⟨hx, hb, hr, hml, hown, hts, hlocks, hK, hA⟩, hG⟩ := id C0
  intro H locs ls hP hD hS hl
  unfold j_an_read_88 at hF
  refine lv_aload_n hx hb dX0_read_88 rfl (lv_at hl 0 rfl) ?_
  refine lv_aload_n hx hb dX0_read_89 rfl (lv_at hl 1 rfl) ?_
  obtain ⟨y_18, hy_18, hF⟩ := cal_d hF
  refine cf_v C0.1 hP hD hS [0, 11, 12, 13] [1, 2, 3, 4, 5, 6, 7, 8, 9, 10] [10, 0, 1, 2, 3, 4, 5, 6, 7, 8, 9, 11, 12, 13] (wr := [oX4 a_o_cert x_o_cert_innerPlace x_o_cert_innerEnd x_o_cert_serial x_o_cert_issuerPlace x_o_cert_issuerSize x_o_cert_namePlace x_o_cert_nameSize x_o_cert_from x_o_cert_to x_o_cert_publicKey x_o_cert_flags x_o_cert_signature, rJ q a_o_from 8 r_o_from, oX6 a_o_ids a_o_ids_nameHashes a_o_ids_keyHashes a_o_ids_serials x_o_ids_count, rJ q a_o_next 8 r_o_next, rI q a_o_reasons 8 r_o_reasons, rJ q a_o_since 8 r_o_since, rI q a_o_states 8 r_o_states, rJ q a_o_ids_keyHashes 8 r_o_ids_keyHashes, rJ q a_o_ids_nameHashes 8 r_o_ids_nameHashes, rI q a_o_ids_serials 8 r_o_ids_serials]) (w' := [oX0 a_o a_o_ids a_o_states a_o_since a_o_reasons a_o_from a_o_next a_o_cert x_o_status x_o_hasCert x_o_bodyPlace y_18.1 x_o_signature x_o_isByName x_o_tellerPlace x_o_tellerSize x_o_tellerHash y_18.2.1 y_18.2.2.1, oX4 a_o_cert x_o_cert_innerPlace x_o_cert_innerEnd x_o_cert_serial x_o_cert_issuerPlace x_o_cert_issuerSize x_o_cert_namePlace x_o_cert_nameSize x_o_cert_from x_o_cert_to x_o_cert_publicKey x_o_cert_flags x_o_cert_signature, rJ q a_o_from 8 r_o_from, oX6 a_o_ids a_o_ids_nameHashes a_o_ids_keyHashes a_o_ids_serials x_o_ids_count, rJ q a_o_next 8 r_o_next, rI q a_o_reasons 8 r_o_reasons, rJ q a_o_since 8 r_o_since, rI q a_o_states 8 r_o_states, rJ q a_o_ids_keyHashes 8 r_o_ids_keyHashes, rJ q a_o_ids_nameHashes 8 r_o_ids_nameHashes, rI q a_o_ids_serials 8 r_o_ids_serials, oX8 a_p0 a_p0_outerEnds a_p0_data y_18.2.2.2.2.1 y_18.2.2.2.2.2.1 y_18.2.2.2.1 y_18.2.2.2.2.2.2.2.2.2.1 y_18.2.2.2.2.2.2.2.2.2.2 y_18.2.2.2.2.2.2.1 y_18.2.2.2.2.2.2.2.1, rB q a_p0_data n_p0_data r_p0_data, rI q a_p0_outerEnds 12 y_18.2.2.2.2.2.2.2.2.1]) rfl rfl rfl (by decide) rfl rfl (sn_V (As := [.ref a_p0]) (rest := []) (ci := 0) (q0 := 0) C0 (c_an_readBodyRest l D q t a_o a_o_ids a_o_states a_o_since a_o_reasons a_o_from a_o_next a_o_cert x_o_status x_o_hasCert x_o_bodyPlace x_o_bodyEnd x_o_signature x_o_isByName x_o_tellerPlace x_o_tellerSize x_o_tellerHash x_o_noncePlace x_o_nonceSize a_p0 x_p0_depth x_p0_end x_p0_at x_p0_place x_p0_size x_p0_fault x_p0_items a_p0_data n_p0_data r_p0_data a_p0_outerEnds r_p0_outerEnds  y_18 hy_18) (cwV 1 hts (g_V kw_949 kw_951 kw_15 kw_79 kw_952) rfl rfl rfl hd_X0_readBodyRest ⟨Nat.le_of_ble_eq_true rfl, Nat.le_of_ble_eq_true rfl⟩) hP hD hS [0, 11, 12, 13] rfl rfl rfl rfl rfl rfl hl (Nat.le_of_ble_eq_true rfl) dX0_read_90) (fun H locs hP hD hS => ?_)
  refine lv_aload_n hx hb dX0_read_93 rfl (lv_at hl 0 rfl) ?_
  refine lv_aload_n hx hb dX0_read_94 rfl (lv_at hl 1 rfl) ?_
  obtain ⟨y_19, hy_19, hF⟩ := cal_d hF
  refine cf_l C0.1 hP hD hS [11, 12] [0, 1, 2, 3, 4, 5, 6, 7, 8, 9, 10, 13] [0, 1, 2, 3, 4, 5, 6, 7, 8, 9, 10, 12, 13, 11] (wr := [oX0 a_o a_o_ids a_o_states a_o_since a_o_reasons a_o_from a_o_next a_o_cert x_o_status x_o_hasCert x_o_bodyPlace y_18.1 x_o_signature x_o_isByName x_o_tellerPlace x_o_tellerSize x_o_tellerHash y_18.2.1 y_18.2.2.1, oX4 a_o_cert x_o_cert_innerPlace x_o_cert_innerEnd x_o_cert_serial x_o_cert_issuerPlace x_o_cert_issuerSize x_o_cert_namePlace x_o_cert_nameSize x_o_cert_from x_o_cert_to x_o_cert_publicKey x_o_cert_flags x_o_cert_signature, rJ q a_o_from 8 r_o_from, oX6 a_o_ids a_o_ids_nameHashes a_o_ids_keyHashes a_o_ids_serials x_o_ids_count, rJ q a_o_next 8 r_o_next, rI q a_o_reasons 8 r_o_reasons, rJ q a_o_since 8 r_o_since, rI q a_o_states 8 r_o_states, rJ q a_o_ids_keyHashes 8 r_o_ids_keyHashes, rJ q a_o_ids_nameHashes 8 r_o_ids_nameHashes, rI q a_o_ids_serials 8 r_o_ids_serials, rI q a_p0_outerEnds 12 y_18.2.2.2.2.2.2.2.2.1]) (w' := [oX0 a_o a_o_ids a_o_states a_o_since a_o_reasons a_o_from a_o_next a_o_cert x_o_status x_o_hasCert x_o_bodyPlace y_18.1 x_o_signature x_o_isByName x_o_tellerPlace x_o_tellerSize x_o_tellerHash y_18.2.1 y_18.2.2.1, oX4 a_o_cert x_o_cert_innerPlace x_o_cert_innerEnd x_o_cert_serial x_o_cert_issuerPlace x_o_cert_issuerSize x_o_cert_namePlace x_o_cert_nameSize x_o_cert_from x_o_cert_to x_o_cert_publicKey x_o_cert_flags x_o_cert_signature, rJ q a_o_from 8 r_o_from, oX6 a_o_ids a_o_ids_nameHashes a_o_ids_keyHashes a_o_ids_serials x_o_ids_count, rJ q a_o_next 8 r_o_next, rI q a_o_reasons 8 r_o_reasons, rJ q a_o_since 8 r_o_since, rI q a_o_states 8 r_o_states, rJ q a_o_ids_keyHashes 8 r_o_ids_keyHashes, rJ q a_o_ids_nameHashes 8 r_o_ids_nameHashes, rI q a_o_ids_serials 8 r_o_ids_serials, oX8 a_p0 a_p0_outerEnds a_p0_data y_18.2.2.2.2.1 y_18.2.2.2.2.2.1 y_19.2.1 y_19.2.2.2.2.1 y_19.2.2.2.2.2 y_19.2.2.1 y_19.2.2.2.1, rB q a_p0_data n_p0_data r_p0_data, rI q a_p0_outerEnds 12 y_18.2.2.2.2.2.2.2.2.1]) rfl rfl rfl (by decide) rfl rfl (sn_V (As := []) (rest := [.ref a_o]) (ci := 7) (q0 := 11) C0 (c_sc_readSignature l D q t a_p0 a_p0_outerEnds y_18.2.2.2.2.1 y_18.2.2.2.2.2.1 y_18.2.2.2.1 y_18.2.2.2.2.2.2.2.2.2.1 y_18.2.2.2.2.2.2.2.2.2.2 y_18.2.2.2.2.2.2.1 y_18.2.2.2.2.2.2.2.1 a_p0_data n_p0_data r_p0_data  y_19 hy_19) (cwV 0 hts (g_V kw_953 kw_954 kw_955 kw_77 kw_956) rfl rfl rfl hd_X8_readSignature ⟨Nat.le_of_ble_eq_true rfl, Nat.le_of_ble_eq_true rfl⟩) hP hD hS [11, 12] rfl rfl rfl rfl rfl rfl hl (Nat.le_of_ble_eq_true rfl) dX0_read_95) (fun H locs hP hD hS => ?_)
  refine lv_topl (fun x_o_signature_20 e_x_o_signature_20 => ?_)
  replace hF := bnd_d hF e_x_o_signature_20
  refine va_put (D := D) (ci := 0) (v := .long x_o_signature_20) (ty := .long) (C := RX0) (T := TX0) (N := 18) hx hb hts iw_X0 tyX0 tyX0_ok nmX0 hown hK hP hD hS 0 rfl rfl 11 (by decide) (hts _ kw_337) (fun _ h9 => h9) rfl (by decide +kernel) rfl rfl (Nat.le_of_ble_eq_true rfl) dX0_read_98 (fun H locs hP hD hS => ?_)
  have hP : va_P D vwCl ([oX0 a_o a_o_ids a_o_states a_o_since a_o_reasons a_o_from a_o_next a_o_cert x_o_status x_o_hasCert x_o_bodyPlace y_18.1 x_o_signature_20 x_o_isByName x_o_tellerPlace x_o_tellerSize x_o_tellerHash y_18.2.1 y_18.2.2.1, oX4 a_o_cert x_o_cert_innerPlace x_o_cert_innerEnd x_o_cert_serial x_o_cert_issuerPlace x_o_cert_issuerSize x_o_cert_namePlace x_o_cert_nameSize x_o_cert_from x_o_cert_to x_o_cert_publicKey x_o_cert_flags x_o_cert_signature, rJ q a_o_from 8 r_o_from, oX6 a_o_ids a_o_ids_nameHashes a_o_ids_keyHashes a_o_ids_serials x_o_ids_count, rJ q a_o_next 8 r_o_next, rI q a_o_reasons 8 r_o_reasons, rJ q a_o_since 8 r_o_since, rI q a_o_states 8 r_o_states, rJ q a_o_ids_keyHashes 8 r_o_ids_keyHashes, rJ q a_o_ids_nameHashes 8 r_o_ids_nameHashes, rI q a_o_ids_serials 8 r_o_ids_serials, oX8 a_p0 a_p0_outerEnds a_p0_data y_18.2.2.2.2.1 y_18.2.2.2.2.2.1 y_19.2.1 y_19.2.2.2.2.1 y_19.2.2.2.2.2 y_19.2.2.1 y_19.2.2.2.1, rB q a_p0_data n_p0_data r_p0_data, rI q a_p0_outerEnds 12 y_18.2.2.2.2.2.2.2.2.1]) H := hP
  have hD : va_D A ([oX0 a_o a_o_ids a_o_states a_o_since a_o_reasons a_o_from a_o_next a_o_cert x_o_status x_o_hasCert x_o_bodyPlace y_18.1 x_o_signature_20 x_o_isByName x_o_tellerPlace x_o_tellerSize x_o_tellerHash y_18.2.1 y_18.2.2.1, oX4 a_o_cert x_o_cert_innerPlace x_o_cert_innerEnd x_o_cert_serial x_o_cert_issuerPlace x_o_cert_issuerSize x_o_cert_namePlace x_o_cert_nameSize x_o_cert_from x_o_cert_to x_o_cert_publicKey x_o_cert_flags x_o_cert_signature, rJ q a_o_from 8 r_o_from, oX6 a_o_ids a_o_ids_nameHashes a_o_ids_keyHashes a_o_ids_serials x_o_ids_count, rJ q a_o_next 8 r_o_next, rI q a_o_reasons 8 r_o_reasons, rJ q a_o_since 8 r_o_since, rI q a_o_states 8 r_o_states, rJ q a_o_ids_keyHashes 8 r_o_ids_keyHashes, rJ q a_o_ids_nameHashes 8 r_o_ids_nameHashes, rI q a_o_ids_serials 8 r_o_ids_serials, oX8 a_p0 a_p0_outerEnds a_p0_data y_18.2.2.2.2.1 y_18.2.2.2.2.2.1 y_19.2.1 y_19.2.2.2.2.1 y_19.2.2.2.2.2 y_19.2.2.1 y_19.2.2.2.1, rB q a_p0_data n_p0_data r_p0_data, rI q a_p0_outerEnds 12 y_18.2.2.2.2.2.2.2.2.1]) := hD
  refine lv_aload_n hx hb dX0_read_101 rfl (lv_at hl 0 rfl) ?_
  refine lv_aload_n hx hb dX0_read_102 rfl (lv_at hl 1 rfl) ?_
  obtain ⟨y_21, hy_21, hF⟩ := cal_d hF
  refine cf_v C0.1 hP hD hS [0, 1, 11, 12, 13] [2, 3, 4, 5, 6, 7, 8, 9, 10] [9, 10, 0, 1, 2, 3, 4, 5, 6, 7, 8, 11, 12, 13] (wr := [rJ q a_o_from 8 r_o_from, oX6 a_o_ids a_o_ids_nameHashes a_o_ids_keyHashes a_o_ids_serials x_o_ids_count, rJ q a_o_next 8 r_o_next, rI q a_o_reasons 8 r_o_reasons, rJ q a_o_since 8 r_o_since, rI q a_o_states 8 r_o_states, rJ q a_o_ids_keyHashes 8 r_o_ids_keyHashes, rJ q a_o_ids_nameHashes 8 r_o_ids_nameHashes, rI q a_o_ids_serials 8 r_o_ids_serials]) (w' := [oX0 a_o a_o_ids a_o_states a_o_since a_o_reasons a_o_from a_o_next a_o_cert x_o_status y_21.2.2.2.2.2.2.2.2.2.2.2.2.1 x_o_bodyPlace y_18.1 x_o_signature_20 x_o_isByName x_o_tellerPlace x_o_tellerSize x_o_tellerHash y_18.2.1 y_18.2.2.1, oX4 a_o_cert y_21.2.2.2.1 y_21.2.2.1 y_21.2.2.2.2.2.2.2.2.2.1 y_21.2.2.2.2.1 y_21.2.2.2.2.2.1 y_21.2.2.2.2.2.2.1 y_21.2.2.2.2.2.2.2.1 y_21.2.1 y_21.2.2.2.2.2.2.2.2.2.2.2.1 y_21.2.2.2.2.2.2.2.2.1 y_21.1 y_21.2.2.2.2.2.2.2.2.2.2.1, rJ q a_o_from 8 r_o_from, oX6 a_o_ids a_o_ids_nameHashes a_o_ids_keyHashes a_o_ids_serials x_o_ids_count, rJ q a_o_next 8 r_o_next, rI q a_o_reasons 8 r_o_reasons, rJ q a_o_since 8 r_o_since, rI q a_o_states 8 r_o_states, rJ q a_o_ids_keyHashes 8 r_o_ids_keyHashes, rJ q a_o_ids_nameHashes 8 r_o_ids_nameHashes, rI q a_o_ids_serials 8 r_o_ids_serials, oX8 a_p0 a_p0_outerEnds a_p0_data y_21.2.2.2.2.2.2.2.2.2.2.2.2.2.2.1 y_21.2.2.2.2.2.2.2.2.2.2.2.2.2.2.2.1 y_21.2.2.2.2.2.2.2.2.2.2.2.2.2.1 y_21.2.2.2.2.2.2.2.2.2.2.2.2.2.2.2.2.2.2.2.1 y_21.2.2.2.2.2.2.2.2.2.2.2.2.2.2.2.2.2.2.2.2 y_21.2.2.2.2.2.2.2.2.2.2.2.2.2.2.2.2.1 y_21.2.2.2.2.2.2.2.2.2.2.2.2.2.2.2.2.2.1, rB q a_p0_data n_p0_data r_p0_data, rI q a_p0_outerEnds 12 y_21.2.2.2.2.2.2.2.2.2.2.2.2.2.2.2.2.2.2.1]) rfl rfl rfl (by decide) rfl rfl (sn_V (As := [.ref a_p0]) (rest := []) (ci := 0) (q0 := 0) C0 (c_an_readCert l D q t a_o a_o_ids a_o_states a_o_since a_o_reasons a_o_from a_o_next x_o_status x_o_hasCert x_o_bodyPlace y_18.1 x_o_signature_20 x_o_isByName x_o_tellerPlace x_o_tellerSize x_o_tellerHash y_18.2.1 y_18.2.2.1 a_o_cert x_o_cert_innerPlace x_o_cert_innerEnd x_o_cert_serial x_o_cert_issuerPlace x_o_cert_issuerSize x_o_cert_namePlace x_o_cert_nameSize x_o_cert_from x_o_cert_to x_o_cert_publicKey x_o_cert_flags x_o_cert_signature a_p0 y_18.2.2.2.2.1 y_18.2.2.2.2.2.1 y_19.2.1 y_19.2.2.2.2.1 y_19.2.2.2.2.2 y_19.2.2.1 y_19.2.2.2.1 a_p0_data n_p0_data r_p0_data a_p0_outerEnds y_18.2.2.2.2.2.2.2.2.1  y_21 hy_21) (cwV 1 hts (g_V kw_957 kw_959 kw_16 kw_79 kw_960) rfl rfl rfl hd_X0_readCert ⟨Nat.le_of_ble_eq_true rfl, Nat.le_of_ble_eq_true rfl⟩) hP hD hS [0, 1, 11, 12, 13] rfl rfl rfl rfl rfl rfl hl (Nat.le_of_ble_eq_true rfl) dX0_read_103) (fun H locs hP hD hS => ?_)
  refine lv_aload_n hx hb dX0_read_106 rfl (lv_at hl 1 rfl) ?_
  obtain ⟨y_22, hy_22, hF⟩ := cal_d hF
  refine cf_v C0.1 hP hD hS [11, 13] [0, 1, 2, 3, 4, 5, 6, 7, 8, 9, 10, 12] [0, 1, 2, 3, 4, 5, 6, 7, 8, 9, 10, 12, 11, 13] (wr := [oX0 a_o a_o_ids a_o_states a_o_since a_o_reasons a_o_from a_o_next a_o_cert x_o_status y_21.2.2.2.2.2.2.2.2.2.2.2.2.1 x_o_bodyPlace y_18.1 x_o_signature_20 x_o_isByName x_o_tellerPlace x_o_tellerSize x_o_tellerHash y_18.2.1 y_18.2.2.1, oX4 a_o_cert y_21.2.2.2.1 y_21.2.2.1 y_21.2.2.2.2.2.2.2.2.2.1 y_21.2.2.2.2.1 y_21.2.2.2.2.2.1 y_21.2.2.2.2.2.2.1 y_21.2.2.2.2.2.2.2.1 y_21.2.1 y_21.2.2.2.2.2.2.2.2.2.2.2.1 y_21.2.2.2.2.2.2.2.2.1 y_21.1 y_21.2.2.2.2.2.2.2.2.2.2.1, rJ q a_o_from 8 r_o_from, oX6 a_o_ids a_o_ids_nameHashes a_o_ids_keyHashes a_o_ids_serials x_o_ids_count, rJ q a_o_next 8 r_o_next, rI q a_o_reasons 8 r_o_reasons, rJ q a_o_since 8 r_o_since, rI q a_o_states 8 r_o_states, rJ q a_o_ids_keyHashes 8 r_o_ids_keyHashes, rJ q a_o_ids_nameHashes 8 r_o_ids_nameHashes, rI q a_o_ids_serials 8 r_o_ids_serials, rB q a_p0_data n_p0_data r_p0_data]) (w' := [oX0 a_o a_o_ids a_o_states a_o_since a_o_reasons a_o_from a_o_next a_o_cert x_o_status y_21.2.2.2.2.2.2.2.2.2.2.2.2.1 x_o_bodyPlace y_18.1 x_o_signature_20 x_o_isByName x_o_tellerPlace x_o_tellerSize x_o_tellerHash y_18.2.1 y_18.2.2.1, oX4 a_o_cert y_21.2.2.2.1 y_21.2.2.1 y_21.2.2.2.2.2.2.2.2.2.1 y_21.2.2.2.2.1 y_21.2.2.2.2.2.1 y_21.2.2.2.2.2.2.1 y_21.2.2.2.2.2.2.2.1 y_21.2.1 y_21.2.2.2.2.2.2.2.2.2.2.2.1 y_21.2.2.2.2.2.2.2.2.1 y_21.1 y_21.2.2.2.2.2.2.2.2.2.2.1, rJ q a_o_from 8 r_o_from, oX6 a_o_ids a_o_ids_nameHashes a_o_ids_keyHashes a_o_ids_serials x_o_ids_count, rJ q a_o_next 8 r_o_next, rI q a_o_reasons 8 r_o_reasons, rJ q a_o_since 8 r_o_since, rI q a_o_states 8 r_o_states, rJ q a_o_ids_keyHashes 8 r_o_ids_keyHashes, rJ q a_o_ids_nameHashes 8 r_o_ids_nameHashes, rI q a_o_ids_serials 8 r_o_ids_serials, oX8 a_p0 a_p0_outerEnds a_p0_data y_22.1 y_22.2.1 y_21.2.2.2.2.2.2.2.2.2.2.2.2.2.1 y_22.2.2.2.1 y_22.2.2.2.2 y_22.2.2.1 y_21.2.2.2.2.2.2.2.2.2.2.2.2.2.2.2.2.2.1, rB q a_p0_data n_p0_data r_p0_data, rI q a_p0_outerEnds 12 y_21.2.2.2.2.2.2.2.2.2.2.2.2.2.2.2.2.2.2.1]) rfl rfl rfl (by decide) rfl rfl (sn_V (As := []) (rest := []) (ci := 7) (q0 := 11) C0 (c_sc_close l D q t a_p0 a_p0_data y_21.2.2.2.2.2.2.2.2.2.2.2.2.2.2.1 y_21.2.2.2.2.2.2.2.2.2.2.2.2.2.2.2.1 y_21.2.2.2.2.2.2.2.2.2.2.2.2.2.1 y_21.2.2.2.2.2.2.2.2.2.2.2.2.2.2.2.2.2.2.2.1 y_21.2.2.2.2.2.2.2.2.2.2.2.2.2.2.2.2.2.2.2.2 y_21.2.2.2.2.2.2.2.2.2.2.2.2.2.2.2.2.1 y_21.2.2.2.2.2.2.2.2.2.2.2.2.2.2.2.2.2.1 a_p0_outerEnds y_21.2.2.2.2.2.2.2.2.2.2.2.2.2.2.2.2.2.2.1  y_22 hy_22) (cwV 0 hts (g_V kw_920 kw_839 kw_840 kw_77 kw_841) rfl rfl rfl hd_X8_close ⟨Nat.le_of_ble_eq_true rfl, Nat.le_of_ble_eq_true rfl⟩) hP hD hS [11, 13] rfl rfl rfl rfl rfl rfl hl (Nat.le_of_ble_eq_true rfl) dX0_read_107) (fun H locs hP hD hS => ?_)
  refine lv_aload_n hx hb dX0_read_110 rfl (lv_at hl 1 rfl) ?_
  obtain ⟨y_23, hy_23, hF⟩ := cal_d hF
  refine cf_v C0.1 hP hD hS [11, 13] [0, 1, 2, 3, 4, 5, 6, 7, 8, 9, 10, 12] [0, 1, 2, 3, 4, 5, 6, 7, 8, 9, 10, 12, 11, 13] (wr := [oX0 a_o a_o_ids a_o_states a_o_since a_o_reasons a_o_from a_o_next a_o_cert x_o_status y_21.2.2.2.2.2.2.2.2.2.2.2.2.1 x_o_bodyPlace y_18.1 x_o_signature_20 x_o_isByName x_o_tellerPlace x_o_tellerSize x_o_tellerHash y_18.2.1 y_18.2.2.1, oX4 a_o_cert y_21.2.2.2.1 y_21.2.2.1 y_21.2.2.2.2.2.2.2.2.2.1 y_21.2.2.2.2.1 y_21.2.2.2.2.2.1 y_21.2.2.2.2.2.2.1 y_21.2.2.2.2.2.2.2.1 y_21.2.1 y_21.2.2.2.2.2.2.2.2.2.2.2.1 y_21.2.2.2.2.2.2.2.2.1 y_21.1 y_21.2.2.2.2.2.2.2.2.2.2.1, rJ q a_o_from 8 r_o_from, oX6 a_o_ids a_o_ids_nameHashes a_o_ids_keyHashes a_o_ids_serials x_o_ids_count, rJ q a_o_next 8 r_o_next, rI q a_o_reasons 8 r_o_reasons, rJ q a_o_since 8 r_o_since, rI q a_o_states 8 r_o_states, rJ q a_o_ids_keyHashes 8 r_o_ids_keyHashes, rJ q a_o_ids_nameHashes 8 r_o_ids_nameHashes, rI q a_o_ids_serials 8 r_o_ids_serials, rB q a_p0_data n_p0_data r_p0_data]) (w' := [oX0 a_o a_o_ids a_o_states a_o_since a_o_reasons a_o_from a_o_next a_o_cert x_o_status y_21.2.2.2.2.2.2.2.2.2.2.2.2.1 x_o_bodyPlace y_18.1 x_o_signature_20 x_o_isByName x_o_tellerPlace x_o_tellerSize x_o_tellerHash y_18.2.1 y_18.2.2.1, oX4 a_o_cert y_21.2.2.2.1 y_21.2.2.1 y_21.2.2.2.2.2.2.2.2.2.1 y_21.2.2.2.2.1 y_21.2.2.2.2.2.1 y_21.2.2.2.2.2.2.1 y_21.2.2.2.2.2.2.2.1 y_21.2.1 y_21.2.2.2.2.2.2.2.2.2.2.2.1 y_21.2.2.2.2.2.2.2.2.1 y_21.1 y_21.2.2.2.2.2.2.2.2.2.2.1, rJ q a_o_from 8 r_o_from, oX6 a_o_ids a_o_ids_nameHashes a_o_ids_keyHashes a_o_ids_serials x_o_ids_count, rJ q a_o_next 8 r_o_next, rI q a_o_reasons 8 r_o_reasons, rJ q a_o_since 8 r_o_since, rI q a_o_states 8 r_o_states, rJ q a_o_ids_keyHashes 8 r_o_ids_keyHashes, rJ q a_o_ids_nameHashes 8 r_o_ids_nameHashes, rI q a_o_ids_serials 8 r_o_ids_serials, oX8 a_p0 a_p0_outerEnds a_p0_data y_23.1 y_23.2.1 y_21.2.2.2.2.2.2.2.2.2.2.2.2.2.1 y_23.2.2.2.1 y_23.2.2.2.2 y_23.2.2.1 y_21.2.2.2.2.2.2.2.2.2.2.2.2.2.2.2.2.2.1, rB q a_p0_data n_p0_data r_p0_data, rI q a_p0_outerEnds 12 y_21.2.2.2.2.2.2.2.2.2.2.2.2.2.2.2.2.2.2.1]) rfl rfl rfl (by decide) rfl rfl (sn_V (As := []) (rest := []) (ci := 7) (q0 := 11) C0 (c_sc_close l D q t a_p0 a_p0_data y_22.1 y_22.2.1 y_21.2.2.2.2.2.2.2.2.2.2.2.2.2.1 y_22.2.2.2.1 y_22.2.2.2.2 y_22.2.2.1 y_21.2.2.2.2.2.2.2.2.2.2.2.2.2.2.2.2.2.1 a_p0_outerEnds y_21.2.2.2.2.2.2.2.2.2.2.2.2.2.2.2.2.2.2.1  y_23 hy_23) (cwV 0 hts (g_V kw_920 kw_839 kw_840 kw_77 kw_841) rfl rfl rfl hd_X8_close ⟨Nat.le_of_ble_eq_true rfl, Nat.le_of_ble_eq_true rfl⟩) hP hD hS [11, 13] rfl rfl rfl rfl rfl rfl hl (Nat.le_of_ble_eq_true rfl) dX0_read_111) (fun H locs hP hD hS => ?_)
  refine lv_aload_n hx hb dX0_read_114 rfl (lv_at hl 1 rfl) ?_
  obtain ⟨y_24, hy_24, hF⟩ := cal_d hF
  refine cf_v C0.1 hP hD hS [11, 13] [0, 1, 2, 3, 4, 5, 6, 7, 8, 9, 10, 12] [0, 1, 2, 3, 4, 5, 6, 7, 8, 9, 10, 12, 11, 13] (wr := [oX0 a_o a_o_ids a_o_states a_o_since a_o_reasons a_o_from a_o_next a_o_cert x_o_status y_21.2.2.2.2.2.2.2.2.2.2.2.2.1 x_o_bodyPlace y_18.1 x_o_signature_20 x_o_isByName x_o_tellerPlace x_o_tellerSize x_o_tellerHash y_18.2.1 y_18.2.2.1, oX4 a_o_cert y_21.2.2.2.1 y_21.2.2.1 y_21.2.2.2.2.2.2.2.2.2.1 y_21.2.2.2.2.1 y_21.2.2.2.2.2.1 y_21.2.2.2.2.2.2.1 y_21.2.2.2.2.2.2.2.1 y_21.2.1 y_21.2.2.2.2.2.2.2.2.2.2.2.1 y_21.2.2.2.2.2.2.2.2.1 y_21.1 y_21.2.2.2.2.2.2.2.2.2.2.1, rJ q a_o_from 8 r_o_from, oX6 a_o_ids a_o_ids_nameHashes a_o_ids_keyHashes a_o_ids_serials x_o_ids_count, rJ q a_o_next 8 r_o_next, rI q a_o_reasons 8 r_o_reasons, rJ q a_o_since 8 r_o_since, rI q a_o_states 8 r_o_states, rJ q a_o_ids_keyHashes 8 r_o_ids_keyHashes, rJ q a_o_ids_nameHashes 8 r_o_ids_nameHashes, rI q a_o_ids_serials 8 r_o_ids_serials, rB q a_p0_data n_p0_data r_p0_data]) (w' := [oX0 a_o a_o_ids a_o_states a_o_since a_o_reasons a_o_from a_o_next a_o_cert x_o_status y_21.2.2.2.2.2.2.2.2.2.2.2.2.1 x_o_bodyPlace y_18.1 x_o_signature_20 x_o_isByName x_o_tellerPlace x_o_tellerSize x_o_tellerHash y_18.2.1 y_18.2.2.1, oX4 a_o_cert y_21.2.2.2.1 y_21.2.2.1 y_21.2.2.2.2.2.2.2.2.2.1 y_21.2.2.2.2.1 y_21.2.2.2.2.2.1 y_21.2.2.2.2.2.2.1 y_21.2.2.2.2.2.2.2.1 y_21.2.1 y_21.2.2.2.2.2.2.2.2.2.2.2.1 y_21.2.2.2.2.2.2.2.2.1 y_21.1 y_21.2.2.2.2.2.2.2.2.2.2.1, rJ q a_o_from 8 r_o_from, oX6 a_o_ids a_o_ids_nameHashes a_o_ids_keyHashes a_o_ids_serials x_o_ids_count, rJ q a_o_next 8 r_o_next, rI q a_o_reasons 8 r_o_reasons, rJ q a_o_since 8 r_o_since, rI q a_o_states 8 r_o_states, rJ q a_o_ids_keyHashes 8 r_o_ids_keyHashes, rJ q a_o_ids_nameHashes 8 r_o_ids_nameHashes, rI q a_o_ids_serials 8 r_o_ids_serials, oX8 a_p0 a_p0_outerEnds a_p0_data y_24.1 y_24.2.1 y_21.2.2.2.2.2.2.2.2.2.2.2.2.2.1 y_24.2.2.2.1 y_24.2.2.2.2 y_24.2.2.1 y_21.2.2.2.2.2.2.2.2.2.2.2.2.2.2.2.2.2.1, rB q a_p0_data n_p0_data r_p0_data, rI q a_p0_outerEnds 12 y_21.2.2.2.2.2.2.2.2.2.2.2.2.2.2.2.2.2.2.1]) rfl rfl rfl (by decide) rfl rfl (sn_V (As := []) (rest := []) (ci := 7) (q0 := 11) C0 (c_sc_close l D q t a_p0 a_p0_data y_23.1 y_23.2.1 y_21.2.2.2.2.2.2.2.2.2.2.2.2.2.1 y_23.2.2.2.1 y_23.2.2.2.2 y_23.2.2.1 y_21.2.2.2.2.2.2.2.2.2.2.2.2.2.2.2.2.2.1 a_p0_outerEnds y_21.2.2.2.2.2.2.2.2.2.2.2.2.2.2.2.2.2.2.1  y_24 hy_24) (cwV 0 hts (g_V kw_920 kw_839 kw_840 kw_77 kw_841) rfl rfl rfl hd_X8_close ⟨Nat.le_of_ble_eq_true rfl, Nat.le_of_ble_eq_true rfl⟩) hP hD hS [11, 13] rfl rfl rfl rfl rfl rfl hl (Nat.le_of_ble_eq_true rfl) dX0_read_115) (fun H locs hP hD hS => ?_)
  refine lv_aload_n hx hb dX0_read_118 rfl (lv_at hl 1 rfl) ?_
  obtain ⟨y_25, hy_25, hF⟩ := cal_d hF
  refine cf_v C0.1 hP hD hS [11] [0, 1, 2, 3, 4, 5, 6, 7, 8, 9, 10, 12, 13] [0, 1, 2, 3, 4, 5, 6, 7, 8, 9, 10, 13, 11, 12] (wr := [oX0 a_o a_o_ids a_o_states a_o_since a_o_reasons a_o_from a_o_next a_o_cert x_o_status y_21.2.2.2.2.2.2.2.2.2.2.2.2.1 x_o_bodyPlace y_18.1 x_o_signature_20 x_o_isByName x_o_tellerPlace x_o_tellerSize x_o_tellerHash y_18.2.1 y_18.2.2.1, oX4 a_o_cert y_21.2.2.2.1 y_21.2.2.1 y_21.2.2.2.2.2.2.2.2.2.1 y_21.2.2.2.2.1 y_21.2.2.2.2.2.1 y_21.2.2.2.2.2.2.1 y_21.2.2.2.2.2.2.2.1 y_21.2.1 y_21.2.2.2.2.2.2.2.2.2.2.2.1 y_21.2.2.2.2.2.2.2.2.1 y_21.1 y_21.2.2.2.2.2.2.2.2.2.2.1, rJ q a_o_from 8 r_o_from, oX6 a_o_ids a_o_ids_nameHashes a_o_ids_keyHashes a_o_ids_serials x_o_ids_count, rJ q a_o_next 8 r_o_next, rI q a_o_reasons 8 r_o_reasons, rJ q a_o_since 8 r_o_since, rI q a_o_states 8 r_o_states, rJ q a_o_ids_keyHashes 8 r_o_ids_keyHashes, rJ q a_o_ids_nameHashes 8 r_o_ids_nameHashes, rI q a_o_ids_serials 8 r_o_ids_serials, rB q a_p0_data n_p0_data r_p0_data, rI q a_p0_outerEnds 12 y_21.2.2.2.2.2.2.2.2.2.2.2.2.2.2.2.2.2.2.1]) (w' := [oX0 a_o a_o_ids a_o_states a_o_since a_o_reasons a_o_from a_o_next a_o_cert x_o_status y_21.2.2.2.2.2.2.2.2.2.2.2.2.1 x_o_bodyPlace y_18.1 x_o_signature_20 x_o_isByName x_o_tellerPlace x_o_tellerSize x_o_tellerHash y_18.2.1 y_18.2.2.1, oX4 a_o_cert y_21.2.2.2.1 y_21.2.2.1 y_21.2.2.2.2.2.2.2.2.2.1 y_21.2.2.2.2.1 y_21.2.2.2.2.2.1 y_21.2.2.2.2.2.2.1 y_21.2.2.2.2.2.2.2.1 y_21.2.1 y_21.2.2.2.2.2.2.2.2.2.2.2.1 y_21.2.2.2.2.2.2.2.2.1 y_21.1 y_21.2.2.2.2.2.2.2.2.2.2.1, rJ q a_o_from 8 r_o_from, oX6 a_o_ids a_o_ids_nameHashes a_o_ids_keyHashes a_o_ids_serials x_o_ids_count, rJ q a_o_next 8 r_o_next, rI q a_o_reasons 8 r_o_reasons, rJ q a_o_since 8 r_o_since, rI q a_o_states 8 r_o_states, rJ q a_o_ids_keyHashes 8 r_o_ids_keyHashes, rJ q a_o_ids_nameHashes 8 r_o_ids_nameHashes, rI q a_o_ids_serials 8 r_o_ids_serials, oX8 a_p0 a_p0_outerEnds a_p0_data y_24.1 y_24.2.1 y_21.2.2.2.2.2.2.2.2.2.2.2.2.2.1 y_25.2.1 y_25.2.2 y_25.1 y_21.2.2.2.2.2.2.2.2.2.2.2.2.2.2.2.2.2.1, rB q a_p0_data n_p0_data r_p0_data, rI q a_p0_outerEnds 12 y_21.2.2.2.2.2.2.2.2.2.2.2.2.2.2.2.2.2.2.1]) rfl rfl rfl (by decide) rfl rfl (sn_V (As := []) (rest := []) (ci := 7) (q0 := 11) C0 (c_sc_endText l D q t a_p0 a_p0_outerEnds a_p0_data y_24.1 y_24.2.1 y_21.2.2.2.2.2.2.2.2.2.2.2.2.2.1 y_24.2.2.2.1 y_24.2.2.2.2 y_24.2.2.1 y_21.2.2.2.2.2.2.2.2.2.2.2.2.2.2.2.2.2.1  y_25 hy_25) (cwV 0 hts (g_V kw_975 kw_843 kw_844 kw_77 kw_845) rfl rfl rfl hd_X8_endText ⟨Nat.le_of_ble_eq_true rfl, Nat.le_of_ble_eq_true rfl⟩) hP hD hS [11] rfl rfl rfl rfl rfl rfl hl (Nat.le_of_ble_eq_true rfl) dX0_read_119) (fun H locs hP hD hS => ?_)
  have hy9 := (Option.some.inj hF).symm
  subst hy9
  exact rt_v C0.1 hP hD hS dX0_read_122
set_option maxHeartbeats 4000000 in
set_option maxRecDepth 100000 in
theorem w_an_read_59 {l : Launch} {p : Program} {e : Env} {s : State} {m : MethodId} {args : Array Value} {below : List Frame} {meth : Method} {c : Code} {A : Nat → Prop} {D : va_G} {q : Nat → ClassId} {t : Nat} (C0 : cy p s m args meth c cX0_read none 3 RX0 D q t A) (a_o : Nat) (a_o_cert : Nat) (a_o_from : Nat) (a_o_ids : Nat) (a_o_next : Nat) (a_o_reasons : Nat) (a_o_since : Nat) (a_o_states : Nat) (a_o_ids_keyHashes : Nat) (a_o_ids_nameHashes : Nat) (a_o_ids_serials : Nat) (a_p0 : Nat) (a_p0_data : Nat) (n_p0_data : Nat) (a_p0_outerEnds : Nat)  : ∀ (n : Nat) (x_o_status : Int32) (x_o_hasCert : Int32) (x_o_bodyPlace : Int32) (x_o_bodyEnd : Int32) (x_o_signature : Int64) (x_o_isByName : Int32) (x_o_tellerPlace : Int32) (x_o_tellerSize : Int32) (x_o_tellerHash : Int64) (x_o_noncePlace : Int32) (x_o_nonceSize : Int32) (x_o_cert_innerPlace : Int32) (x_o_cert_innerEnd : Int32) (x_o_cert_serial : Int32) (x_o_cert_issuerPlace : Int32) (x_o_cert_issuerSize : Int32) (x_o_cert_namePlace : Int32) (x_o_cert_nameSize : Int32) (x_o_cert_from : Int64) (x_o_cert_to : Int64) (x_o_cert_publicKey : Int64) (x_o_cert_flags : Int32) (x_o_cert_signature : Int64) (r_o_from : (Nat → Int64)) (x_o_ids_count : Int32) (r_o_next : (Nat → Int64)) (r_o_reasons : (Nat → Int32)) (r_o_since : (Nat → Int64)) (r_o_states : (Nat → Int32)) (r_o_ids_keyHashes : (Nat → Int64)) (r_o_ids_nameHashes : (Nat → Int64)) (r_o_ids_serials : (Nat → Int32)) (x_p0_depth : Int32) (x_p0_end : Int32) (x_p0_at : Int32) (x_p0_place : Int32) (x_p0_size : Int32) (x_p0_fault : Int32) (x_p0_items : Int32) (r_p0_data : (Nat → Int32)) (r_p0_outerEnds : (Nat → Int32)) (v_2 : Int32) (y : Int32 × Int32 × Int32 × Int64 × Int32 × Int32 × Int32 × Int32 × Int32 × Int32 × Int64 × Int32 × Int64 × Int64 × (Nat → Int64) × Int32 × Int32 × (Nat → Int64) × (Nat → Int64) × (Nat → Int32) × Int32 × (Nat → Int64) × Int32 × Int32 × (Nat → Int32) × Int64 × (Nat → Int64) × (Nat → Int32) × Int32 × Int64 × Int32 × Int32 × Int32 × Int32 × Int32 × Int32 × Int32 × (Nat → Int32) × Int32 × Int32) (hF : j_an_read_59 n x_o_bodyEnd x_o_bodyPlace x_o_cert_flags x_o_cert_from x_o_cert_innerEnd x_o_cert_innerPlace x_o_cert_issuerPlace x_o_cert_issuerSize x_o_cert_namePlace x_o_cert_nameSize x_o_cert_publicKey x_o_cert_serial x_o_cert_signature x_o_cert_to r_o_from x_o_hasCert x_o_ids_count r_o_ids_keyHashes r_o_ids_nameHashes r_o_ids_serials x_o_isByName r_o_next x_o_noncePlace x_o_nonceSize r_o_reasons x_o_signature r_o_since r_o_states x_o_status x_o_tellerHash x_o_tellerPlace x_o_tellerSize x_p0_at r_p0_data x_p0_depth x_p0_end x_p0_fault x_p0_items r_p0_outerEnds x_p0_place x_p0_size n_p0_data v_2 = some y), ∀ (H : Heap) (locs : List Loc) (ls : Array Slot), va_P D vwCl [oX0 a_o a_o_ids a_o_states a_o_since a_o_reasons a_o_from a_o_next a_o_cert x_o_status x_o_hasCert x_o_bodyPlace x_o_bodyEnd x_o_signature x_o_isByName x_o_tellerPlace x_o_tellerSize x_o_tellerHash x_o_noncePlace x_o_nonceSize, oX4 a_o_cert x_o_cert_innerPlace x_o_cert_innerEnd x_o_cert_serial x_o_cert_issuerPlace x_o_cert_issuerSize x_o_cert_namePlace x_o_cert_nameSize x_o_cert_from x_o_cert_to x_o_cert_publicKey x_o_cert_flags x_o_cert_signature, rJ q a_o_from 8 r_o_from, oX6 a_o_ids a_o_ids_nameHashes a_o_ids_keyHashes a_o_ids_serials x_o_ids_count, rJ q a_o_next 8 r_o_next, rI q a_o_reasons 8 r_o_reasons, rJ q a_o_since 8 r_o_since, rI q a_o_states 8 r_o_states, rJ q a_o_ids_keyHashes 8 r_o_ids_keyHashes, rJ q a_o_ids_nameHashes 8 r_o_ids_nameHashes, rI q a_o_ids_serials 8 r_o_ids_serials, oX8 a_p0 a_p0_outerEnds a_p0_data x_p0_depth x_p0_end x_p0_at x_p0_place x_p0_size x_p0_fault x_p0_items, rB q a_p0_data n_p0_data r_p0_data, rI q a_p0_outerEnds 12 r_p0_outerEnds] H → va_D A [oX0 a_o a_o_ids a_o_states a_o_since a_o_reasons a_o_from a_o_next a_o_cert x_o_status x_o_hasCert x_o_bodyPlace x_o_bodyEnd x_o_signature x_o_isByName x_o_tellerPlace x_o_tellerSize x_o_tellerHash x_o_noncePlace x_o_nonceSize, oX4 a_o_cert x_o_cert_innerPlace x_o_cert_innerEnd x_o_cert_serial x_o_cert_issuerPlace x_o_cert_issuerSize x_o_cert_namePlace x_o_cert_nameSize x_o_cert_from x_o_cert_to x_o_cert_publicKey x_o_cert_flags x_o_cert_signature, rJ q a_o_from 8 r_o_from, oX6 a_o_ids a_o_ids_nameHashes a_o_ids_keyHashes a_o_ids_serials x_o_ids_count, rJ q a_o_next 8 r_o_next, rI q a_o_reasons 8 r_o_reasons, rJ q a_o_since 8 r_o_since, rI q a_o_states 8 r_o_states, rJ q a_o_ids_keyHashes 8 r_o_ids_keyHashes, rJ q a_o_ids_nameHashes 8 r_o_ids_nameHashes, rI q a_o_ids_serials 8 r_o_ids_serials, oX8 a_p0 a_p0_outerEnds a_p0_data x_p0_depth x_p0_end x_p0_at x_p0_place x_p0_size x_p0_fault x_p0_items, rB q a_p0_data n_p0_data r_p0_data, rI q a_p0_outerEnds 12 r_p0_outerEnds] → va_S A s.heap H locs → lv_has ls 3 [(0, .ref a_o), (1, .ref a_p0), (2, .int v_2)] → W p l e ({ frames := 5, cells := 0, slots := 0, locals := 123 }) s m args below meth c H locs 0 0 (MQ below (qV D q [oX0 a_o a_o_ids a_o_states a_o_since a_o_reasons a_o_from a_o_next a_o_cert y.2.2.2.2.2.2.2.2.2.2.2.2.2.2.2.2.2.2.2.2.2.2.2.2.2.2.2.2.1 y.2.2.2.2.2.2.2.2.2.2.2.2.2.2.2.1 y.2.1 y.1 y.2.2.2.2.2.2.2.2.2.2.2.2.2.2.2.2.2.2.2.2.2.2.2.2.2.1 y.2.2.2.2.2.2.2.2.2.2.2.2.2.2.2.2.2.2.2.2.1 y.2.2.2.2.2.2.2.2.2.2.2.2.2.2.2.2.2.2.2.2.2.2.2.2.2.2.2.2.2.2.1 y.2.2.2.2.2.2.2.2.2.2.2.2.2.2.2.2.2.2.2.2.2.2.2.2.2.2.2.2.2.2.2.1 y.2.2.2.2.2.2.2.2.2.2.2.2.2.2.2.2.2.2.2.2.2.2.2.2.2.2.2.2.2.1 y.2.2.2.2.2.2.2.2.2.2.2.2.2.2.2.2.2.2.2.2.2.2.1 y.2.2.2.2.2.2.2.2.2.2.2.2.2.2.2.2.2.2.2.2.2.2.2.1, oX4 a_o_cert y.2.2.2.2.2.1 y.2.2.2.2.1 y.2.2.2.2.2.2.2.2.2.2.2.1 y.2.2.2.2.2.2.1 y.2.2.2.2.2.2.2.1 y.2.2.2.2.2.2.2.2.1 y.2.2.2.2.2.2.2.2.2.1 y.2.2.2.1 y.2.2.2.2.2.2.2.2.2.2.2.2.2.1 y.2.2.2.2.2.2.2.2.2.2.1 y.2.2.1 y.2.2.2.2.2.2.2.2.2.2.2.2.1, rJ q a_o_from 8 y.2.2.2.2.2.2.2.2.2.2.2.2.2.2.1, oX6 a_o_ids a_o_ids_nameHashes a_o_ids_keyHashes a_o_ids_serials y.2.2.2.2.2.2.2.2.2.2.2.2.2.2.2.2.1, rJ q a_o_next 8 y.2.2.2.2.2.2.2.2.2.2.2.2.2.2.2.2.2.2.2.2.2.1, rI q a_o_reasons 8 y.2.2.2.2.2.2.2.2.2.2.2.2.2.2.2.2.2.2.2.2.2.2.2.2.1, rJ q a_o_since 8 y.2.2.2.2.2.2.2.2.2.2.2.2.2.2.2.2.2.2.2.2.2.2.2.2.2.2.1, rI q a_o_states 8 y.2.2.2.2.2.2.2.2.2.2.2.2.2.2.2.2.2.2.2.2.2.2.2.2.2.2.2.1, rJ q a_o_ids_keyHashes 8 y.2.2.2.2.2.2.2.2.2.2.2.2.2.2.2.2.2.1, rJ q a_o_ids_nameHashes 8 y.2.2.2.2.2.2.2.2.2.2.2.2.2.2.2.2.2.2.1, rI q a_o_ids_serials 8 y.2.2.2.2.2.2.2.2.2.2.2.2.2.2.2.2.2.2.2.1, oX8 a_p0 a_p0_outerEnds a_p0_data y.2.2.2.2.2.2.2.2.2.2.2.2.2.2.2.2.2.2.2.2.2.2.2.2.2.2.2.2.2.2.2.2.2.1 y.2.2.2.2.2.2.2.2.2.2.2.2.2.2.2.2.2.2.2.2.2.2.2.2.2.2.2.2.2.2.2.2.2.2.1 y.2.2.2.2.2.2.2.2.2.2.2.2.2.2.2.2.2.2.2.2.2.2.2.2.2.2.2.2.2.2.2.2.1 y.2.2.2.2.2.2.2.2.2.2.2.2.2.2.2.2.2.2.2.2.2.2.2.2.2.2.2.2.2.2.2.2.2.2.2.2.2.2.1 y.2.2.2.2.2.2.2.2.2.2.2.2.2.2.2.2.2.2.2.2.2.2.2.2.2.2.2.2.2.2.2.2.2.2.2.2.2.2.2 y.2.2.2.2.2.2.2.2.2.2.2.2.2.2.2.2.2.2.2.2.2.2.2.2.2.2.2.2.2.2.2.2.2.2.2.1 y.2.2.2.2.2.2.2.2.2.2.2.2.2.2.2.2.2.2.2.2.2.2.2.2.2.2.2.2.2.2.2.2.2.2.2.2.1, rB q a_p0_data n_p0_data r_p0_data, rI q a_p0_outerEnds 12 y.2.2.2.2.2.2.2.2.2.2.2.2.2.2.2.2.2.2.2.2.2.2.2.2.2.2.2.2.2.2.2.2.2.2.2.2.2.1] A) args s 0 0 A) (F0 m 59 ls []) := by
  obtain ⟨⟨hx, hb, hr, hml, hown, hts, hlocks, hK, hA⟩, hG⟩ := id C0
  intro n
  induction n with
  | zero =>
    intro x_o_status x_o_hasCert x_o_bodyPlace x_o_bodyEnd x_o_signature x_o_isByName x_o_tellerPlace x_o_tellerSize x_o_tellerHash x_o_noncePlace x_o_nonceSize x_o_cert_innerPlace x_o_cert_innerEnd x_o_cert_serial x_o_cert_issuerPlace x_o_cert_issuerSize x_o_cert_namePlace x_o_cert_nameSize x_o_cert_from x_o_cert_to x_o_cert_publicKey x_o_cert_flags x_o_cert_signature r_o_from x_o_ids_count r_o_next r_o_reasons r_o_since r_o_states r_o_ids_keyHashes r_o_ids_nameHashes r_o_ids_serials x_p0_depth x_p0_end x_p0_at x_p0_place x_p0_size x_p0_fault x_p0_items r_p0_data r_p0_outerEnds v_2 y hF
    exact absurd (show (none : Option (Int32 × Int32 × Int32 × Int64 × Int32 × Int32 × Int32 × Int32 × Int32 × Int32 × Int64 × Int32 × Int64 × Int64 × (Nat → Int64) × Int32 × Int32 × (Nat → Int64) × (Nat → Int64) × (Nat → Int32) × Int32 × (Nat → Int64) × Int32 × Int32 × (Nat → Int32) × Int64 × (Nat → Int64) × (Nat → Int32) × Int32 × Int64 × Int32 × Int32 × Int32 × Int32 × Int32 × Int32 × Int32 × (Nat → Int32) × Int32 × Int32)) = some y from hF) (fun h => by cases h)
  | succ n ih =>
    intro x_o_status x_o_hasCert x_o_bodyPlace x_o_bodyEnd x_o_signature x_o_isByName x_o_tellerPlace x_o_tellerSize x_o_tellerHash x_o_noncePlace x_o_nonceSize x_o_cert_innerPlace x_o_cert_innerEnd x_o_cert_serial x_o_cert_issuerPlace x_o_cert_issuerSize x_o_cert_namePlace x_o_cert_nameSize x_o_cert_from x_o_cert_to x_o_cert_publicKey x_o_cert_flags x_o_cert_signature r_o_from x_o_ids_count r_o_next r_o_reasons r_o_since r_o_states r_o_ids_keyHashes r_o_ids_nameHashes r_o_ids_serials x_p0_depth x_p0_end x_p0_at x_p0_place x_p0_size x_p0_fault x_p0_items r_p0_data r_p0_outerEnds v_2 y hF H locs ls hP hD hS hl
    rw [j_an_read_59] at hF
    refine lv_iload_n hx hb dX0_read_59 rfl (lv_at hl 2 rfl) ?_
    refine lv_bipush (v := (8 : Int32)) hx hb dX0_read_60 (by decide) ?_
    refine lv_icmp_ge (tgt := 88) hx hb dX0_read_62 (by decide) (fun c_10 => ?_) (fun c_10 => ?_)
    · replace hF := ite_t hF c_10
      exact w_an_read_88 C0 a_o a_o_cert a_o_from a_o_ids a_o_next a_o_reasons a_o_since a_o_states a_o_ids_keyHashes a_o_ids_nameHashes a_o_ids_serials a_p0 a_p0_data n_p0_data a_p0_outerEnds x_o_status x_o_hasCert x_o_bodyPlace x_o_bodyEnd x_o_signature x_o_isByName x_o_tellerPlace x_o_tellerSize x_o_tellerHash x_o_noncePlace x_o_nonceSize x_o_cert_innerPlace x_o_cert_innerEnd x_o_cert_serial x_o_cert_issuerPlace x_o_cert_issuerSize x_o_cert_namePlace x_o_cert_nameSize x_o_cert_from x_o_cert_to x_o_cert_publicKey x_o_cert_flags x_o_cert_signature r_o_from x_o_ids_count r_o_next r_o_reasons r_o_since r_o_states r_o_ids_keyHashes r_o_ids_nameHashes r_o_ids_serials x_p0_depth x_p0_end x_p0_at x_p0_place x_p0_size x_p0_fault x_p0_items r_p0_data r_p0_outerEnds y hF H locs ls hP hD hS (lv_sub hl [0, 1] rfl)
    · replace hF := ite_f hF c_10
      refine lv_iload_n hx hb dX0_read_65 rfl (lv_at hl 2 rfl) ?_
      refine lv_if_eq (tgt := 76) hx hb dX0_read_66 (by decide) (fun c_11 => ?_) (fun c_11 => ?_)
      · replace hF := ite_t hF c_11
        refine lv_aload_n hx hb dX0_read_76 rfl (lv_at hl 0 rfl) ?_
        refine lv_aload_n hx hb dX0_read_77 rfl (lv_at hl 1 rfl) ?_
        refine lv_iload_n hx hb dX0_read_78 rfl (lv_at hl 2 rfl) ?_
        obtain ⟨y_12, hy_12, hF⟩ := cal_d hF
        refine cf_v C0.1 hP hD hS [0, 2, 3, 4, 5, 6, 7, 8, 9, 10, 11, 12, 13] [1] [1, 0, 2, 3, 4, 5, 6, 7, 8, 9, 10, 11, 12, 13] (wr := [oX4 a_o_cert x_o_cert_innerPlace x_o_cert_innerEnd x_o_cert_serial x_o_cert_issuerPlace x_o_cert_issuerSize x_o_cert_namePlace x_o_cert_nameSize x_o_cert_from x_o_cert_to x_o_cert_publicKey x_o_cert_flags x_o_cert_signature]) (w' := [oX0 a_o a_o_ids a_o_states a_o_since a_o_reasons a_o_from a_o_next a_o_cert x_o_status x_o_hasCert x_o_bodyPlace x_o_bodyEnd x_o_signature x_o_isByName x_o_tellerPlace x_o_tellerSize x_o_tellerHash x_o_noncePlace x_o_nonceSize, oX4 a_o_cert x_o_cert_innerPlace x_o_cert_innerEnd x_o_cert_serial x_o_cert_issuerPlace x_o_cert_issuerSize x_o_cert_namePlace x_o_cert_nameSize x_o_cert_from x_o_cert_to x_o_cert_publicKey x_o_cert_flags x_o_cert_signature, rJ q a_o_from 8 y_12.1, oX6 a_o_ids a_o_ids_nameHashes a_o_ids_keyHashes a_o_ids_serials y_12.2.1, rJ q a_o_next 8 y_12.2.2.2.2.2.1, rI q a_o_reasons 8 y_12.2.2.2.2.2.2.1, rJ q a_o_since 8 y_12.2.2.2.2.2.2.2.1, rI q a_o_states 8 y_12.2.2.2.2.2.2.2.2.1, rJ q a_o_ids_keyHashes 8 y_12.2.2.1, rJ q a_o_ids_nameHashes 8 y_12.2.2.2.1, rI q a_o_ids_serials 8 y_12.2.2.2.2.1, oX8 a_p0 a_p0_outerEnds a_p0_data y_12.2.2.2.2.2.2.2.2.2.2.1 y_12.2.2.2.2.2.2.2.2.2.2.2.1 y_12.2.2.2.2.2.2.2.2.2.1 y_12.2.2.2.2.2.2.2.2.2.2.2.2.2.2.2.1 y_12.2.2.2.2.2.2.2.2.2.2.2.2.2.2.2.2 y_12.2.2.2.2.2.2.2.2.2.2.2.2.1 y_12.2.2.2.2.2.2.2.2.2.2.2.2.2.1, rB q a_p0_data n_p0_data r_p0_data, rI q a_p0_outerEnds 12 y_12.2.2.2.2.2.2.2.2.2.2.2.2.2.2.1]) rfl rfl rfl (by decide) rfl rfl (sn_V (As := [.ref a_p0, .int v_2]) (rest := []) (ci := 0) (q0 := 0) C0 (c_an_readSingle l D q t a_o a_o_cert x_o_status x_o_hasCert x_o_bodyPlace x_o_bodyEnd x_o_signature x_o_isByName x_o_tellerPlace x_o_tellerSize x_o_tellerHash x_o_noncePlace x_o_nonceSize a_o_from r_o_from a_o_ids x_o_ids_count a_o_next r_o_next a_o_reasons r_o_reasons a_o_since r_o_since a_o_states r_o_states a_o_ids_keyHashes r_o_ids_keyHashes a_o_ids_nameHashes r_o_ids_nameHashes a_o_ids_serials r_o_ids_serials a_p0 x_p0_depth x_p0_end x_p0_at x_p0_place x_p0_size x_p0_fault x_p0_items a_p0_data n_p0_data r_p0_data a_p0_outerEnds r_p0_outerEnds v_2 y_12 hy_12) (cwV 2 hts (g_V kw_938 kw_940 kw_13 kw_79 kw_941) rfl rfl rfl hd_X0_readSingle ⟨Nat.le_of_ble_eq_true rfl, Nat.le_of_ble_eq_true rfl⟩) hP hD hS [0, 2, 3, 4, 5, 6, 7, 8, 9, 10, 11, 12, 13] rfl rfl rfl rfl rfl rfl hl (Nat.le_of_ble_eq_true rfl) dX0_read_79) (fun H locs hP hD hS => ?_)
        obtain ⟨v2_13, e_v2_13⟩ : ∃ z : Int32, z = v_2 + (1 : Int32) := ⟨_, rfl⟩
        replace hF := bnd_d hF e_v2_13
        refine lv_iinc (v := v2_13) (lv' := [(2, .int v2_13), (0, .ref a_o), (1, .ref a_p0)]) hx hb dX0_read_82 hl (k := 2) rfl (by rw [e_v2_13]; rfl) (by decide) rfl (fun ls hl => ?_)
        refine lv_goto (tgt := 59) hx hb dX0_read_85 (by decide) ?_
        exact ih x_o_status x_o_hasCert x_o_bodyPlace x_o_bodyEnd x_o_signature x_o_isByName x_o_tellerPlace x_o_tellerSize x_o_tellerHash x_o_noncePlace x_o_nonceSize x_o_cert_innerPlace x_o_cert_innerEnd x_o_cert_serial x_o_cert_issuerPlace x_o_cert_issuerSize x_o_cert_namePlace x_o_cert_nameSize x_o_cert_from x_o_cert_to x_o_cert_publicKey x_o_cert_flags x_o_cert_signature y_12.1 y_12.2.1 y_12.2.2.2.2.2.1 y_12.2.2.2.2.2.2.1 y_12.2.2.2.2.2.2.2.1 y_12.2.2.2.2.2.2.2.2.1 y_12.2.2.1 y_12.2.2.2.1 y_12.2.2.2.2.1 y_12.2.2.2.2.2.2.2.2.2.2.1 y_12.2.2.2.2.2.2.2.2.2.2.2.1 y_12.2.2.2.2.2.2.2.2.2.1 y_12.2.2.2.2.2.2.2.2.2.2.2.2.2.2.2.1 y_12.2.2.2.2.2.2.2.2.2.2.2.2.2.2.2.2 y_12.2.2.2.2.2.2.2.2.2.2.2.2.1 y_12.2.2.2.2.2.2.2.2.2.2.2.2.2.1 r_p0_data y_12.2.2.2.2.2.2.2.2.2.2.2.2.2.2.1 v2_13 y hF H locs ls hP hD hS (lv_sub hl [1, 2, 0] rfl)
      · replace hF := ite_f hF c_11
        refine lv_aload_n hx hb dX0_read_69 rfl (lv_at hl 1 rfl) ?_
        obtain ⟨y_14, hy_14, hF⟩ := cal_d hF
        refine cf_i C0.1 hP hD hS [11] [0, 1, 2, 3, 4, 5, 6, 7, 8, 9, 10, 12, 13] [0, 1, 2, 3, 4, 5, 6, 7, 8, 9, 10, 13, 11, 12] (wr := [oX0 a_o a_o_ids a_o_states a_o_since a_o_reasons a_o_from a_o_next a_o_cert x_o_status x_o_hasCert x_o_bodyPlace x_o_bodyEnd x_o_signature x_o_isByName x_o_tellerPlace x_o_tellerSize x_o_tellerHash x_o_noncePlace x_o_nonceSize, oX4 a_o_cert x_o_cert_innerPlace x_o_cert_innerEnd x_o_cert_serial x_o_cert_issuerPlace x_o_cert_issuerSize x_o_cert_namePlace x_o_cert_nameSize x_o_cert_from x_o_cert_to x_o_cert_publicKey x_o_cert_flags x_o_cert_signature, rJ q a_o_from 8 r_o_from, oX6 a_o_ids a_o_ids_nameHashes a_o_ids_keyHashes a_o_ids_serials x_o_ids_count, rJ q a_o_next 8 r_o_next, rI q a_o_reasons 8 r_o_reasons, rJ q a_o_since 8 r_o_since, rI q a_o_states 8 r_o_states, rJ q a_o_ids_keyHashes 8 r_o_ids_keyHashes, rJ q a_o_ids_nameHashes 8 r_o_ids_nameHashes, rI q a_o_ids_serials 8 r_o_ids_serials, rB q a_p0_data n_p0_data r_p0_data, rI q a_p0_outerEnds 12 r_p0_outerEnds]) (w' := [oX0 a_o a_o_ids a_o_states a_o_since a_o_reasons a_o_from a_o_next a_o_cert x_o_status x_o_hasCert x_o_bodyPlace x_o_bodyEnd x_o_signature x_o_isByName x_o_tellerPlace x_o_tellerSize x_o_tellerHash x_o_noncePlace x_o_nonceSize, oX4 a_o_cert x_o_cert_innerPlace x_o_cert_innerEnd x_o_cert_serial x_o_cert_issuerPlace x_o_cert_issuerSize x_o_cert_namePlace x_o_cert_nameSize x_o_cert_from x_o_cert_to x_o_cert_publicKey x_o_cert_flags x_o_cert_signature, rJ q a_o_from 8 r_o_from, oX6 a_o_ids a_o_ids_nameHashes a_o_ids_keyHashes a_o_ids_serials x_o_ids_count, rJ q a_o_next 8 r_o_next, rI q a_o_reasons 8 r_o_reasons, rJ q a_o_since 8 r_o_since, rI q a_o_states 8 r_o_states, rJ q a_o_ids_keyHashes 8 r_o_ids_keyHashes, rJ q a_o_ids_nameHashes 8 r_o_ids_nameHashes, rI q a_o_ids_serials 8 r_o_ids_serials, oX8 a_p0 a_p0_outerEnds a_p0_data x_p0_depth x_p0_end x_p0_at x_p0_place x_p0_size x_p0_fault x_p0_items, rB q a_p0_data n_p0_data r_p0_data, rI q a_p0_outerEnds 12 r_p0_outerEnds]) rfl rfl rfl (by decide) rfl rfl (sn_V (As := []) (rest := []) (ci := 7) (q0 := 11) C0 (c_sc_hasMore l D q t a_p0 a_p0_outerEnds a_p0_data x_p0_depth x_p0_end x_p0_at x_p0_place x_p0_size x_p0_fault x_p0_items  y_14 hy_14) (cwV 0 hts (g_V kw_937 kw_817 kw_818 kw_77 kw_819) rfl rfl rfl hd_X8_hasMore ⟨Nat.le_of_ble_eq_true rfl, Nat.le_of_ble_eq_true rfl⟩) hP hD hS [11] rfl rfl rfl rfl rfl rfl hl (Nat.le_of_ble_eq_true rfl) dX0_read_70) (fun H locs hP hD hS => ?_)
        refine lv_if_eq (tgt := 88) hx hb dX0_read_73 (by decide) (fun c_15 => ?_) (fun c_15 => ?_)
        · replace hF := ite_t hF c_15
          exact w_an_read_88 C0 a_o a_o_cert a_o_from a_o_ids a_o_next a_o_reasons a_o_since a_o_states a_o_ids_keyHashes a_o_ids_nameHashes a_o_ids_serials a_p0 a_p0_data n_p0_data a_p0_outerEnds x_o_status x_o_hasCert x_o_bodyPlace x_o_bodyEnd x_o_signature x_o_isByName x_o_tellerPlace x_o_tellerSize x_o_tellerHash x_o_noncePlace x_o_nonceSize x_o_cert_innerPlace x_o_cert_innerEnd x_o_cert_serial x_o_cert_issuerPlace x_o_cert_issuerSize x_o_cert_namePlace x_o_cert_nameSize x_o_cert_from x_o_cert_to x_o_cert_publicKey x_o_cert_flags x_o_cert_signature r_o_from x_o_ids_count r_o_next r_o_reasons r_o_since r_o_states r_o_ids_keyHashes r_o_ids_nameHashes r_o_ids_serials x_p0_depth x_p0_end x_p0_at x_p0_place x_p0_size x_p0_fault x_p0_items r_p0_data r_p0_outerEnds y hF H locs ls hP hD hS (lv_sub hl [0, 1] rfl)
        · replace hF := ite_f hF c_15
          refine lv_aload_n hx hb dX0_read_76 rfl (lv_at hl 0 rfl) ?_
          refine lv_aload_n hx hb dX0_read_77 rfl (lv_at hl 1 rfl) ?_
          refine lv_iload_n hx hb dX0_read_78 rfl (lv_at hl 2 rfl) ?_
          obtain ⟨y_16, hy_16, hF⟩ := cal_d hF
          refine cf_v C0.1 hP hD hS [0, 2, 3, 4, 5, 6, 7, 8, 9, 10, 11, 12, 13] [1] [1, 0, 2, 3, 4, 5, 6, 7, 8, 9, 10, 11, 12, 13] (wr := [oX4 a_o_cert x_o_cert_innerPlace x_o_cert_innerEnd x_o_cert_serial x_o_cert_issuerPlace x_o_cert_issuerSize x_o_cert_namePlace x_o_cert_nameSize x_o_cert_from x_o_cert_to x_o_cert_publicKey x_o_cert_flags x_o_cert_signature]) (w' := [oX0 a_o a_o_ids a_o_states a_o_since a_o_reasons a_o_from a_o_next a_o_cert x_o_status x_o_hasCert x_o_bodyPlace x_o_bodyEnd x_o_signature x_o_isByName x_o_tellerPlace x_o_tellerSize x_o_tellerHash x_o_noncePlace x_o_nonceSize, oX4 a_o_cert x_o_cert_innerPlace x_o_cert_innerEnd x_o_cert_serial x_o_cert_issuerPlace x_o_cert_issuerSize x_o_cert_namePlace x_o_cert_nameSize x_o_cert_from x_o_cert_to x_o_cert_publicKey x_o_cert_flags x_o_cert_signature, rJ q a_o_from 8 y_16.1, oX6 a_o_ids a_o_ids_nameHashes a_o_ids_keyHashes a_o_ids_serials y_16.2.1, rJ q a_o_next 8 y_16.2.2.2.2.2.1, rI q a_o_reasons 8 y_16.2.2.2.2.2.2.1, rJ q a_o_since 8 y_16.2.2.2.2.2.2.2.1, rI q a_o_states 8 y_16.2.2.2.2.2.2.2.2.1, rJ q a_o_ids_keyHashes 8 y_16.2.2.1, rJ q a_o_ids_nameHashes 8 y_16.2.2.2.1, rI q a_o_ids_serials 8 y_16.2.2.2.2.1, oX8 a_p0 a_p0_outerEnds a_p0_data y_16.2.2.2.2.2.2.2.2.2.2.1 y_16.2.2.2.2.2.2.2.2.2.2.2.1 y_16.2.2.2.2.2.2.2.2.2.1 y_16.2.2.2.2.2.2.2.2.2.2.2.2.2.2.2.1 y_16.2.2.2.2.2.2.2.2.2.2.2.2.2.2.2.2 y_16.2.2.2.2.2.2.2.2.2.2.2.2.1 y_16.2.2.2.2.2.2.2.2.2.2.2.2.2.1, rB q a_p0_data n_p0_data r_p0_data, rI q a_p0_outerEnds 12 y_16.2.2.2.2.2.2.2.2.2.2.2.2.2.2.1]) rfl rfl rfl (by decide) rfl rfl (sn_V (As := [.ref a_p0, .int v_2]) (rest := []) (ci := 0) (q0 := 0) C0 (c_an_readSingle l D q t a_o a_o_cert x_o_status x_o_hasCert x_o_bodyPlace x_o_bodyEnd x_o_signature x_o_isByName x_o_tellerPlace x_o_tellerSize x_o_tellerHash x_o_noncePlace x_o_nonceSize a_o_from r_o_from a_o_ids x_o_ids_count a_o_next r_o_next a_o_reasons r_o_reasons a_o_since r_o_since a_o_states r_o_states a_o_ids_keyHashes r_o_ids_keyHashes a_o_ids_nameHashes r_o_ids_nameHashes a_o_ids_serials r_o_ids_serials a_p0 x_p0_depth x_p0_end x_p0_at x_p0_place x_p0_size x_p0_fault x_p0_items a_p0_data n_p0_data r_p0_data a_p0_outerEnds r_p0_outerEnds v_2 y_16 hy_16) (cwV 2 hts (g_V kw_938 kw_940 kw_13 kw_79 kw_941) rfl rfl rfl hd_X0_readSingle ⟨Nat.le_of_ble_eq_true rfl, Nat.le_of_ble_eq_true rfl⟩) hP hD hS [0, 2, 3, 4, 5, 6, 7, 8, 9, 10, 11, 12, 13] rfl rfl rfl rfl rfl rfl hl (Nat.le_of_ble_eq_true rfl) dX0_read_79) (fun H locs hP hD hS => ?_)
          obtain ⟨v2_17, e_v2_17⟩ : ∃ z : Int32, z = v_2 + (1 : Int32) := ⟨_, rfl⟩
          replace hF := bnd_d hF e_v2_17
          refine lv_iinc (v := v2_17) (lv' := [(2, .int v2_17), (0, .ref a_o), (1, .ref a_p0)]) hx hb dX0_read_82 hl (k := 2) rfl (by rw [e_v2_17]; rfl) (by decide) rfl (fun ls hl => ?_)
          refine lv_goto (tgt := 59) hx hb dX0_read_85 (by decide) ?_
          exact ih x_o_status x_o_hasCert x_o_bodyPlace x_o_bodyEnd x_o_signature x_o_isByName x_o_tellerPlace x_o_tellerSize x_o_tellerHash x_o_noncePlace x_o_nonceSize x_o_cert_innerPlace x_o_cert_innerEnd x_o_cert_serial x_o_cert_issuerPlace x_o_cert_issuerSize x_o_cert_namePlace x_o_cert_nameSize x_o_cert_from x_o_cert_to x_o_cert_publicKey x_o_cert_flags x_o_cert_signature y_16.1 y_16.2.1 y_16.2.2.2.2.2.1 y_16.2.2.2.2.2.2.1 y_16.2.2.2.2.2.2.2.1 y_16.2.2.2.2.2.2.2.2.1 y_16.2.2.1 y_16.2.2.2.1 y_16.2.2.2.2.1 y_16.2.2.2.2.2.2.2.2.2.2.1 y_16.2.2.2.2.2.2.2.2.2.2.2.1 y_16.2.2.2.2.2.2.2.2.2.1 y_16.2.2.2.2.2.2.2.2.2.2.2.2.2.2.2.1 y_16.2.2.2.2.2.2.2.2.2.2.2.2.2.2.2.2 y_16.2.2.2.2.2.2.2.2.2.2.2.2.1 y_16.2.2.2.2.2.2.2.2.2.2.2.2.2.1 r_p0_data y_16.2.2.2.2.2.2.2.2.2.2.2.2.2.2.1 v2_17 y hF H locs ls hP hD hS (lv_sub hl [1, 2, 0] rfl)
set_option maxHeartbeats 4000000 in
set_option maxRecDepth 100000 in
theorem c_an_read (l : Launch) (D : va_G) (q : Nat → ClassId) (t : Nat) (a_o : Nat) (x_o_status : Int32) (x_o_hasCert : Int32) (x_o_bodyPlace : Int32) (x_o_bodyEnd : Int32) (x_o_signature : Int64) (x_o_isByName : Int32) (x_o_tellerPlace : Int32) (x_o_tellerSize : Int32) (x_o_tellerHash : Int64) (x_o_noncePlace : Int32) (x_o_nonceSize : Int32) (a_o_cert : Nat) (x_o_cert_innerPlace : Int32) (x_o_cert_innerEnd : Int32) (x_o_cert_serial : Int32) (x_o_cert_issuerPlace : Int32) (x_o_cert_issuerSize : Int32) (x_o_cert_namePlace : Int32) (x_o_cert_nameSize : Int32) (x_o_cert_from : Int64) (x_o_cert_to : Int64) (x_o_cert_publicKey : Int64) (x_o_cert_flags : Int32) (x_o_cert_signature : Int64) (a_o_from : Nat) (r_o_from : (Nat → Int64)) (a_o_ids : Nat) (x_o_ids_count : Int32) (a_o_next : Nat) (r_o_next : (Nat → Int64)) (a_o_reasons : Nat) (r_o_reasons : (Nat → Int32)) (a_o_since : Nat) (r_o_since : (Nat → Int64)) (a_o_states : Nat) (r_o_states : (Nat → Int32)) (a_o_ids_keyHashes : Nat) (r_o_ids_keyHashes : (Nat → Int64)) (a_o_ids_nameHashes : Nat) (r_o_ids_nameHashes : (Nat → Int64)) (a_o_ids_serials : Nat) (r_o_ids_serials : (Nat → Int32)) (a_p0 : Nat) (x_p0_depth : Int32) (x_p0_end : Int32) (x_p0_at : Int32) (x_p0_place : Int32) (x_p0_size : Int32) (x_p0_fault : Int32) (x_p0_items : Int32) (a_p0_data : Nat) (n_p0_data : Nat) (r_p0_data : (Nat → Int32)) (a_p0_outerEnds : Nat) (r_p0_outerEnds : (Nat → Int32))  (y : Int32 × Int32 × Int32 × Int64 × Int32 × Int32 × Int32 × Int32 × Int32 × Int32 × Int64 × Int32 × Int64 × Int64 × (Nat → Int64) × Int32 × Int32 × (Nat → Int64) × (Nat → Int64) × (Nat → Int32) × Int32 × (Nat → Int64) × Int32 × Int32 × (Nat → Int32) × Int64 × (Nat → Int64) × (Nat → Int32) × Int32 × Int64 × Int32 × Int32 × Int32 × Int32 × Int32 × Int32 × Int32 × (Nat → Int32) × Int32 × Int32) (hF : f_an_read x_o_bodyEnd x_o_bodyPlace x_o_cert_flags x_o_cert_from x_o_cert_innerEnd x_o_cert_innerPlace x_o_cert_issuerPlace x_o_cert_issuerSize x_o_cert_namePlace x_o_cert_nameSize x_o_cert_publicKey x_o_cert_serial x_o_cert_signature x_o_cert_to r_o_from x_o_hasCert x_o_ids_count r_o_ids_keyHashes r_o_ids_nameHashes r_o_ids_serials x_o_isByName r_o_next x_o_noncePlace x_o_nonceSize r_o_reasons x_o_signature r_o_since r_o_states x_o_status x_o_tellerHash x_o_tellerPlace x_o_tellerSize x_p0_at r_p0_data x_p0_depth x_p0_end x_p0_fault x_p0_items r_p0_outerEnds x_p0_place x_p0_size n_p0_data = some y)  : cu l yX0_read (vs yX0_read cX0_read 3 none) ({ frames := 5, cells := 0, slots := 0, locals := 123 }) D q t [.ref a_o, .ref a_p0] [oX0 a_o a_o_ids a_o_states a_o_since a_o_reasons a_o_from a_o_next a_o_cert x_o_status x_o_hasCert x_o_bodyPlace x_o_bodyEnd x_o_signature x_o_isByName x_o_tellerPlace x_o_tellerSize x_o_tellerHash x_o_noncePlace x_o_nonceSize, oX4 a_o_cert x_o_cert_innerPlace x_o_cert_innerEnd x_o_cert_serial x_o_cert_issuerPlace x_o_cert_issuerSize x_o_cert_namePlace x_o_cert_nameSize x_o_cert_from x_o_cert_to x_o_cert_publicKey x_o_cert_flags x_o_cert_signature, rJ q a_o_from 8 r_o_from, oX6 a_o_ids a_o_ids_nameHashes a_o_ids_keyHashes a_o_ids_serials x_o_ids_count, rJ q a_o_next 8 r_o_next, rI q a_o_reasons 8 r_o_reasons, rJ q a_o_since 8 r_o_since, rI q a_o_states 8 r_o_states, rJ q a_o_ids_keyHashes 8 r_o_ids_keyHashes, rJ q a_o_ids_nameHashes 8 r_o_ids_nameHashes, rI q a_o_ids_serials 8 r_o_ids_serials, oX8 a_p0 a_p0_outerEnds a_p0_data x_p0_depth x_p0_end x_p0_at x_p0_place x_p0_size x_p0_fault x_p0_items, rB q a_p0_data n_p0_data r_p0_data, rI q a_p0_outerEnds 12 r_p0_outerEnds] (qV D q [oX0 a_o a_o_ids a_o_states a_o_since a_o_reasons a_o_from a_o_next a_o_cert y.2.2.2.2.2.2.2.2.2.2.2.2.2.2.2.2.2.2.2.2.2.2.2.2.2.2.2.2.1 y.2.2.2.2.2.2.2.2.2.2.2.2.2.2.2.1 y.2.1 y.1 y.2.2.2.2.2.2.2.2.2.2.2.2.2.2.2.2.2.2.2.2.2.2.2.2.2.1 y.2.2.2.2.2.2.2.2.2.2.2.2.2.2.2.2.2.2.2.2.1 y.2.2.2.2.2.2.2.2.2.2.2.2.2.2.2.2.2.2.2.2.2.2.2.2.2.2.2.2.2.2.1 y.2.2.2.2.2.2.2.2.2.2.2.2.2.2.2.2.2.2.2.2.2.2.2.2.2.2.2.2.2.2.2.1 y.2.2.2.2.2.2.2.2.2.2.2.2.2.2.2.2.2.2.2.2.2.2.2.2.2.2.2.2.2.1 y.2.2.2.2.2.2.2.2.2.2.2.2.2.2.2.2.2.2.2.2.2.2.1 y.2.2.2.2.2.2.2.2.2.2.2.2.2.2.2.2.2.2.2.2.2.2.2.1, oX4 a_o_cert y.2.2.2.2.2.1 y.2.2.2.2.1 y.2.2.2.2.2.2.2.2.2.2.2.1 y.2.2.2.2.2.2.1 y.2.2.2.2.2.2.2.1 y.2.2.2.2.2.2.2.2.1 y.2.2.2.2.2.2.2.2.2.1 y.2.2.2.1 y.2.2.2.2.2.2.2.2.2.2.2.2.2.1 y.2.2.2.2.2.2.2.2.2.2.1 y.2.2.1 y.2.2.2.2.2.2.2.2.2.2.2.2.1, rJ q a_o_from 8 y.2.2.2.2.2.2.2.2.2.2.2.2.2.2.1, oX6 a_o_ids a_o_ids_nameHashes a_o_ids_keyHashes a_o_ids_serials y.2.2.2.2.2.2.2.2.2.2.2.2.2.2.2.2.1, rJ q a_o_next 8 y.2.2.2.2.2.2.2.2.2.2.2.2.2.2.2.2.2.2.2.2.2.1, rI q a_o_reasons 8 y.2.2.2.2.2.2.2.2.2.2.2.2.2.2.2.2.2.2.2.2.2.2.2.2.1, rJ q a_o_since 8 y.2.2.2.2.2.2.2.2.2.2.2.2.2.2.2.2.2.2.2.2.2.2.2.2.2.2.1, rI q a_o_states 8 y.2.2.2.2.2.2.2.2.2.2.2.2.2.2.2.2.2.2.2.2.2.2.2.2.2.2.2.1, rJ q a_o_ids_keyHashes 8 y.2.2.2.2.2.2.2.2.2.2.2.2.2.2.2.2.2.1, rJ q a_o_ids_nameHashes 8 y.2.2.2.2.2.2.2.2.2.2.2.2.2.2.2.2.2.2.1, rI q a_o_ids_serials 8 y.2.2.2.2.2.2.2.2.2.2.2.2.2.2.2.2.2.2.2.1, oX8 a_p0 a_p0_outerEnds a_p0_data y.2.2.2.2.2.2.2.2.2.2.2.2.2.2.2.2.2.2.2.2.2.2.2.2.2.2.2.2.2.2.2.2.2.1 y.2.2.2.2.2.2.2.2.2.2.2.2.2.2.2.2.2.2.2.2.2.2.2.2.2.2.2.2.2.2.2.2.2.2.1 y.2.2.2.2.2.2.2.2.2.2.2.2.2.2.2.2.2.2.2.2.2.2.2.2.2.2.2.2.2.2.2.2.1 y.2.2.2.2.2.2.2.2.2.2.2.2.2.2.2.2.2.2.2.2.2.2.2.2.2.2.2.2.2.2.2.2.2.2.2.2.2.2.1 y.2.2.2.2.2.2.2.2.2.2.2.2.2.2.2.2.2.2.2.2.2.2.2.2.2.2.2.2.2.2.2.2.2.2.2.2.2.2.2 y.2.2.2.2.2.2.2.2.2.2.2.2.2.2.2.2.2.2.2.2.2.2.2.2.2.2.2.2.2.2.2.2.2.2.2.1 y.2.2.2.2.2.2.2.2.2.2.2.2.2.2.2.2.2.2.2.2.2.2.2.2.2.2.2.2.2.2.2.2.2.2.2.2.1, rB q a_p0_data n_p0_data r_p0_data, rI q a_p0_outerEnds 12 y.2.2.2.2.2.2.2.2.2.2.2.2.2.2.2.2.2.2.2.2.2.2.2.2.2.2.2.2.2.2.2.2.2.2.2.2.2.1]) := by
  refine cu_of (cc := cX0_read) (nL := 3) (ret := none) (by decide) (Nat.le_of_ble_eq_true rfl) (fun {p e s m args below meth c A} C0 H locs ls hP hD hS hl => ?_)
  have C0 : cy p s m args meth c cX0_read none 3 RX0 D q t A := C0
  obtain ⟨⟨hx, hb, hr, hml, hown, hts, hlocks, hK, hA⟩, hG⟩ := id C0
  have hl : lv_has ls 3 [(0, .ref a_o), (1, .ref a_p0)] := hl
  unfold f_an_read at hF
  refine lv_aload_n hx hb dX0_read_0 rfl (lv_at hl 0 rfl) ?_
  refine va_get (D := D) (ci := 0) (v := .ref a_o_ids) (C := RX0) (T := TX0) (N := 18) hx hb hts iw_X0 hown hK hP 0 rfl rfl 0 (by decide) (hts _ kw_314) (fun _ h9 => h9) rfl dX0_read_1 ?_
  refine lv_iconst (v := (0 : Int32)) hx hb dX0_read_4 (by decide) ?_
  refine va_put (D := D) (ci := 6) (v := .int (0 : Int32)) (ty := .int) (C := RX6) (T := TX6) (N := 4) hx hb hts iw_X6 tyX6 tyX6_ok nmX6 hown hK hP hD hS 3 rfl rfl 3 (by decide) (hts _ kw_173) (fun _ h9 => h9) rfl (by decide +kernel) rfl rfl (Nat.le_of_ble_eq_true rfl) dX0_read_5 (fun H locs hP hD hS => ?_)
  have hP : va_P D vwCl ([oX0 a_o a_o_ids a_o_states a_o_since a_o_reasons a_o_from a_o_next a_o_cert x_o_status x_o_hasCert x_o_bodyPlace x_o_bodyEnd x_o_signature x_o_isByName x_o_tellerPlace x_o_tellerSize x_o_tellerHash x_o_noncePlace x_o_nonceSize, oX4 a_o_cert x_o_cert_innerPlace x_o_cert_innerEnd x_o_cert_serial x_o_cert_issuerPlace x_o_cert_issuerSize x_o_cert_namePlace x_o_cert_nameSize x_o_cert_from x_o_cert_to x_o_cert_publicKey x_o_cert_flags x_o_cert_signature, rJ q a_o_from 8 r_o_from, oX6 a_o_ids a_o_ids_nameHashes a_o_ids_keyHashes a_o_ids_serials (0 : Int32), rJ q a_o_next 8 r_o_next, rI q a_o_reasons 8 r_o_reasons, rJ q a_o_since 8 r_o_since, rI q a_o_states 8 r_o_states, rJ q a_o_ids_keyHashes 8 r_o_ids_keyHashes, rJ q a_o_ids_nameHashes 8 r_o_ids_nameHashes, rI q a_o_ids_serials 8 r_o_ids_serials, oX8 a_p0 a_p0_outerEnds a_p0_data x_p0_depth x_p0_end x_p0_at x_p0_place x_p0_size x_p0_fault x_p0_items, rB q a_p0_data n_p0_data r_p0_data, rI q a_p0_outerEnds 12 r_p0_outerEnds]) H := hP
  have hD : va_D A ([oX0 a_o a_o_ids a_o_states a_o_since a_o_reasons a_o_from a_o_next a_o_cert x_o_status x_o_hasCert x_o_bodyPlace x_o_bodyEnd x_o_signature x_o_isByName x_o_tellerPlace x_o_tellerSize x_o_tellerHash x_o_noncePlace x_o_nonceSize, oX4 a_o_cert x_o_cert_innerPlace x_o_cert_innerEnd x_o_cert_serial x_o_cert_issuerPlace x_o_cert_issuerSize x_o_cert_namePlace x_o_cert_nameSize x_o_cert_from x_o_cert_to x_o_cert_publicKey x_o_cert_flags x_o_cert_signature, rJ q a_o_from 8 r_o_from, oX6 a_o_ids a_o_ids_nameHashes a_o_ids_keyHashes a_o_ids_serials (0 : Int32), rJ q a_o_next 8 r_o_next, rI q a_o_reasons 8 r_o_reasons, rJ q a_o_since 8 r_o_since, rI q a_o_states 8 r_o_states, rJ q a_o_ids_keyHashes 8 r_o_ids_keyHashes, rJ q a_o_ids_nameHashes 8 r_o_ids_nameHashes, rI q a_o_ids_serials 8 r_o_ids_serials, oX8 a_p0 a_p0_outerEnds a_p0_data x_p0_depth x_p0_end x_p0_at x_p0_place x_p0_size x_p0_fault x_p0_items, rB q a_p0_data n_p0_data r_p0_data, rI q a_p0_outerEnds 12 r_p0_outerEnds]) := hD
  refine lv_aload_n hx hb dX0_read_8 rfl (lv_at hl 0 rfl) ?_
  refine lv_iconst (v := (0 : Int32)) hx hb dX0_read_9 (by decide) ?_
  refine va_put (D := D) (ci := 0) (v := .int (0 : Int32)) (ty := .int) (C := RX0) (T := TX0) (N := 18) hx hb hts iw_X0 tyX0 tyX0_ok nmX0 hown hK hP hD hS 0 rfl rfl 17 (by decide) (hts _ kw_345) (fun _ h9 => h9) rfl (by decide +kernel) rfl rfl (Nat.le_of_ble_eq_true rfl) dX0_read_10 (fun H locs hP hD hS => ?_)
  have hP : va_P D vwCl ([oX0 a_o a_o_ids a_o_states a_o_since a_o_reasons a_o_from a_o_next a_o_cert x_o_status x_o_hasCert x_o_bodyPlace x_o_bodyEnd x_o_signature x_o_isByName x_o_tellerPlace x_o_tellerSize x_o_tellerHash x_o_noncePlace (0 : Int32), oX4 a_o_cert x_o_cert_innerPlace x_o_cert_innerEnd x_o_cert_serial x_o_cert_issuerPlace x_o_cert_issuerSize x_o_cert_namePlace x_o_cert_nameSize x_o_cert_from x_o_cert_to x_o_cert_publicKey x_o_cert_flags x_o_cert_signature, rJ q a_o_from 8 r_o_from, oX6 a_o_ids a_o_ids_nameHashes a_o_ids_keyHashes a_o_ids_serials (0 : Int32), rJ q a_o_next 8 r_o_next, rI q a_o_reasons 8 r_o_reasons, rJ q a_o_since 8 r_o_since, rI q a_o_states 8 r_o_states, rJ q a_o_ids_keyHashes 8 r_o_ids_keyHashes, rJ q a_o_ids_nameHashes 8 r_o_ids_nameHashes, rI q a_o_ids_serials 8 r_o_ids_serials, oX8 a_p0 a_p0_outerEnds a_p0_data x_p0_depth x_p0_end x_p0_at x_p0_place x_p0_size x_p0_fault x_p0_items, rB q a_p0_data n_p0_data r_p0_data, rI q a_p0_outerEnds 12 r_p0_outerEnds]) H := hP
  have hD : va_D A ([oX0 a_o a_o_ids a_o_states a_o_since a_o_reasons a_o_from a_o_next a_o_cert x_o_status x_o_hasCert x_o_bodyPlace x_o_bodyEnd x_o_signature x_o_isByName x_o_tellerPlace x_o_tellerSize x_o_tellerHash x_o_noncePlace (0 : Int32), oX4 a_o_cert x_o_cert_innerPlace x_o_cert_innerEnd x_o_cert_serial x_o_cert_issuerPlace x_o_cert_issuerSize x_o_cert_namePlace x_o_cert_nameSize x_o_cert_from x_o_cert_to x_o_cert_publicKey x_o_cert_flags x_o_cert_signature, rJ q a_o_from 8 r_o_from, oX6 a_o_ids a_o_ids_nameHashes a_o_ids_keyHashes a_o_ids_serials (0 : Int32), rJ q a_o_next 8 r_o_next, rI q a_o_reasons 8 r_o_reasons, rJ q a_o_since 8 r_o_since, rI q a_o_states 8 r_o_states, rJ q a_o_ids_keyHashes 8 r_o_ids_keyHashes, rJ q a_o_ids_nameHashes 8 r_o_ids_nameHashes, rI q a_o_ids_serials 8 r_o_ids_serials, oX8 a_p0 a_p0_outerEnds a_p0_data x_p0_depth x_p0_end x_p0_at x_p0_place x_p0_size x_p0_fault x_p0_items, rB q a_p0_data n_p0_data r_p0_data, rI q a_p0_outerEnds 12 r_p0_outerEnds]) := hD
  refine lv_aload_n hx hb dX0_read_13 rfl (lv_at hl 0 rfl) ?_
  refine lv_iconst (v := (0 : Int32)) hx hb dX0_read_14 (by decide) ?_
  refine va_put (D := D) (ci := 0) (v := .int (0 : Int32)) (ty := .boolean) (C := RX0) (T := TX0) (N := 18) hx hb hts iw_X0 tyX0 tyX0_ok nmX0 hown hK hP hD hS 0 rfl rfl 8 (by decide) (hts _ kw_331) (fun _ h9 => h9) rfl (by decide +kernel) rfl rfl (Nat.le_of_ble_eq_true rfl) dX0_read_15 (fun H locs hP hD hS => ?_)
  have hP : va_P D vwCl ([oX0 a_o a_o_ids a_o_states a_o_since a_o_reasons a_o_from a_o_next a_o_cert x_o_status (0 : Int32) x_o_bodyPlace x_o_bodyEnd x_o_signature x_o_isByName x_o_tellerPlace x_o_tellerSize x_o_tellerHash x_o_noncePlace (0 : Int32), oX4 a_o_cert x_o_cert_innerPlace x_o_cert_innerEnd x_o_cert_serial x_o_cert_issuerPlace x_o_cert_issuerSize x_o_cert_namePlace x_o_cert_nameSize x_o_cert_from x_o_cert_to x_o_cert_publicKey x_o_cert_flags x_o_cert_signature, rJ q a_o_from 8 r_o_from, oX6 a_o_ids a_o_ids_nameHashes a_o_ids_keyHashes a_o_ids_serials (0 : Int32), rJ q a_o_next 8 r_o_next, rI q a_o_reasons 8 r_o_reasons, rJ q a_o_since 8 r_o_since, rI q a_o_states 8 r_o_states, rJ q a_o_ids_keyHashes 8 r_o_ids_keyHashes, rJ q a_o_ids_nameHashes 8 r_o_ids_nameHashes, rI q a_o_ids_serials 8 r_o_ids_serials, oX8 a_p0 a_p0_outerEnds a_p0_data x_p0_depth x_p0_end x_p0_at x_p0_place x_p0_size x_p0_fault x_p0_items, rB q a_p0_data n_p0_data r_p0_data, rI q a_p0_outerEnds 12 r_p0_outerEnds]) H := hP
  have hD : va_D A ([oX0 a_o a_o_ids a_o_states a_o_since a_o_reasons a_o_from a_o_next a_o_cert x_o_status (0 : Int32) x_o_bodyPlace x_o_bodyEnd x_o_signature x_o_isByName x_o_tellerPlace x_o_tellerSize x_o_tellerHash x_o_noncePlace (0 : Int32), oX4 a_o_cert x_o_cert_innerPlace x_o_cert_innerEnd x_o_cert_serial x_o_cert_issuerPlace x_o_cert_issuerSize x_o_cert_namePlace x_o_cert_nameSize x_o_cert_from x_o_cert_to x_o_cert_publicKey x_o_cert_flags x_o_cert_signature, rJ q a_o_from 8 r_o_from, oX6 a_o_ids a_o_ids_nameHashes a_o_ids_keyHashes a_o_ids_serials (0 : Int32), rJ q a_o_next 8 r_o_next, rI q a_o_reasons 8 r_o_reasons, rJ q a_o_since 8 r_o_since, rI q a_o_states 8 r_o_states, rJ q a_o_ids_keyHashes 8 r_o_ids_keyHashes, rJ q a_o_ids_nameHashes 8 r_o_ids_nameHashes, rI q a_o_ids_serials 8 r_o_ids_serials, oX8 a_p0 a_p0_outerEnds a_p0_data x_p0_depth x_p0_end x_p0_at x_p0_place x_p0_size x_p0_fault x_p0_items, rB q a_p0_data n_p0_data r_p0_data, rI q a_p0_outerEnds 12 r_p0_outerEnds]) := hD
  refine lv_aload_n hx hb dX0_read_18 rfl (lv_at hl 1 rfl) ?_
  refine lv_bipush (v := (48 : Int32)) hx hb dX0_read_19 (by decide) ?_
  obtain ⟨y_1, hy_1, hF⟩ := cal_d hF
  refine cf_v C0.1 hP hD hS [11, 12, 13] [0, 1, 2, 3, 4, 5, 6, 7, 8, 9, 10] [0, 1, 2, 3, 4, 5, 6, 7, 8, 9, 10, 11, 12, 13] (wr := [oX0 a_o a_o_ids a_o_states a_o_since a_o_reasons a_o_from a_o_next a_o_cert x_o_status (0 : Int32) x_o_bodyPlace x_o_bodyEnd x_o_signature x_o_isByName x_o_tellerPlace x_o_tellerSize x_o_tellerHash x_o_noncePlace (0 : Int32), oX4 a_o_cert x_o_cert_innerPlace x_o_cert_innerEnd x_o_cert_serial x_o_cert_issuerPlace x_o_cert_issuerSize x_o_cert_namePlace x_o_cert_nameSize x_o_cert_from x_o_cert_to x_o_cert_publicKey x_o_cert_flags x_o_cert_signature, rJ q a_o_from 8 r_o_from, oX6 a_o_ids a_o_ids_nameHashes a_o_ids_keyHashes a_o_ids_serials (0 : Int32), rJ q a_o_next 8 r_o_next, rI q a_o_reasons 8 r_o_reasons, rJ q a_o_since 8 r_o_since, rI q a_o_states 8 r_o_states, rJ q a_o_ids_keyHashes 8 r_o_ids_keyHashes, rJ q a_o_ids_nameHashes 8 r_o_ids_nameHashes, rI q a_o_ids_serials 8 r_o_ids_serials]) (w' := [oX0 a_o a_o_ids a_o_states a_o_since a_o_reasons a_o_from a_o_next a_o_cert x_o_status (0 : Int32) x_o_bodyPlace x_o_bodyEnd x_o_signature x_o_isByName x_o_tellerPlace x_o_tellerSize x_o_tellerHash x_o_noncePlace (0 : Int32), oX4 a_o_cert x_o_cert_innerPlace x_o_cert_innerEnd x_o_cert_serial x_o_cert_issuerPlace x_o_cert_issuerSize x_o_cert_namePlace x_o_cert_nameSize x_o_cert_from x_o_cert_to x_o_cert_publicKey x_o_cert_flags x_o_cert_signature, rJ q a_o_from 8 r_o_from, oX6 a_o_ids a_o_ids_nameHashes a_o_ids_keyHashes a_o_ids_serials (0 : Int32), rJ q a_o_next 8 r_o_next, rI q a_o_reasons 8 r_o_reasons, rJ q a_o_since 8 r_o_since, rI q a_o_states 8 r_o_states, rJ q a_o_ids_keyHashes 8 r_o_ids_keyHashes, rJ q a_o_ids_nameHashes 8 r_o_ids_nameHashes, rI q a_o_ids_serials 8 r_o_ids_serials, oX8 a_p0 a_p0_outerEnds a_p0_data y_1.2.1 y_1.2.2.1 y_1.1 y_1.2.2.2.2.2.2.1 y_1.2.2.2.2.2.2.2 y_1.2.2.2.1 y_1.2.2.2.2.1, rB q a_p0_data n_p0_data r_p0_data, rI q a_p0_outerEnds 12 y_1.2.2.2.2.2.1]) rfl rfl rfl (by decide) rfl rfl (sn_V (As := [.int (48 : Int32)]) (rest := []) (ci := 7) (q0 := 11) C0 (c_sc_open l D q t a_p0 x_p0_depth x_p0_end x_p0_at x_p0_place x_p0_size x_p0_fault x_p0_items a_p0_data n_p0_data r_p0_data a_p0_outerEnds r_p0_outerEnds (48 : Int32) y_1 hy_1) (cwV 1 hts (g_V kw_904 kw_797 kw_798 kw_77 kw_799) rfl rfl rfl hd_X8_open ⟨Nat.le_of_ble_eq_true rfl, Nat.le_of_ble_eq_true rfl⟩) hP hD hS [11, 12, 13] rfl rfl rfl rfl rfl rfl hl (Nat.le_of_ble_eq_true rfl) dX0_read_21) (fun H locs hP hD hS => ?_)
  refine lv_aload_n hx hb dX0_read_24 rfl (lv_at hl 0 rfl) ?_
  refine lv_aload_n hx hb dX0_read_25 rfl (lv_at hl 1 rfl) ?_
  obtain ⟨y_2, hy_2, hF⟩ := cal_d hF
  refine cf_i C0.1 hP hD hS [11, 12] [0, 1, 2, 3, 4, 5, 6, 7, 8, 9, 10, 13] [0, 1, 2, 3, 4, 5, 6, 7, 8, 9, 10, 12, 13, 11] (wr := [oX0 a_o a_o_ids a_o_states a_o_since a_o_reasons a_o_from a_o_next a_o_cert x_o_status (0 : Int32) x_o_bodyPlace x_o_bodyEnd x_o_signature x_o_isByName x_o_tellerPlace x_o_tellerSize x_o_tellerHash x_o_noncePlace (0 : Int32), oX4 a_o_cert x_o_cert_innerPlace x_o_cert_innerEnd x_o_cert_serial x_o_cert_issuerPlace x_o_cert_issuerSize x_o_cert_namePlace x_o_cert_nameSize x_o_cert_from x_o_cert_to x_o_cert_publicKey x_o_cert_flags x_o_cert_signature, rJ q a_o_from 8 r_o_from, oX6 a_o_ids a_o_ids_nameHashes a_o_ids_keyHashes a_o_ids_serials (0 : Int32), rJ q a_o_next 8 r_o_next, rI q a_o_reasons 8 r_o_reasons, rJ q a_o_since 8 r_o_since, rI q a_o_states 8 r_o_states, rJ q a_o_ids_keyHashes 8 r_o_ids_keyHashes, rJ q a_o_ids_nameHashes 8 r_o_ids_nameHashes, rI q a_o_ids_serials 8 r_o_ids_serials, rI q a_p0_outerEnds 12 y_1.2.2.2.2.2.1]) (w' := [oX0 a_o a_o_ids a_o_states a_o_since a_o_reasons a_o_from a_o_next a_o_cert x_o_status (0 : Int32) x_o_bodyPlace x_o_bodyEnd x_o_signature x_o_isByName x_o_tellerPlace x_o_tellerSize x_o_tellerHash x_o_noncePlace (0 : Int32), oX4 a_o_cert x_o_cert_innerPlace x_o_cert_innerEnd x_o_cert_serial x_o_cert_issuerPlace x_o_cert_issuerSize x_o_cert_namePlace x_o_cert_nameSize x_o_cert_from x_o_cert_to x_o_cert_publicKey x_o_cert_flags x_o_cert_signature, rJ q a_o_from 8 r_o_from, oX6 a_o_ids a_o_ids_nameHashes a_o_ids_keyHashes a_o_ids_serials (0 : Int32), rJ q a_o_next 8 r_o_next, rI q a_o_reasons 8 r_o_reasons, rJ q a_o_since 8 r_o_since, rI q a_o_states 8 r_o_states, rJ q a_o_ids_keyHashes 8 r_o_ids_keyHashes, rJ q a_o_ids_nameHashes 8 r_o_ids_nameHashes, rI q a_o_ids_serials 8 r_o_ids_serials, oX8 a_p0 a_p0_outerEnds a_p0_data y_1.2.1 y_1.2.2.1 y_2.2.1 y_2.2.2.2.2.1 y_2.2.2.2.2.2 y_2.2.2.1 y_2.2.2.2.1, rB q a_p0_data n_p0_data r_p0_data, rI q a_p0_outerEnds 12 y_1.2.2.2.2.2.1]) rfl rfl rfl (by decide) rfl rfl (sn_V (As := []) (rest := [.ref a_o]) (ci := 7) (q0 := 11) C0 (c_sc_readCode l D q t a_p0 a_p0_outerEnds y_1.2.1 y_1.2.2.1 y_1.1 y_1.2.2.2.2.2.2.1 y_1.2.2.2.2.2.2.2 y_1.2.2.2.1 y_1.2.2.2.2.1 a_p0_data n_p0_data r_p0_data  y_2 hy_2) (cwV 0 hts (g_V kw_905 kw_906 kw_907 kw_77 kw_908) rfl rfl rfl hd_X8_readCode ⟨Nat.le_of_ble_eq_true rfl, Nat.le_of_ble_eq_true rfl⟩) hP hD hS [11, 12] rfl rfl rfl rfl rfl rfl hl (Nat.le_of_ble_eq_true rfl) dX0_read_26) (fun H locs hP hD hS => ?_)
  refine lv_topi (fun x_o_status_3 e_x_o_status_3 => ?_)
  replace hF := bnd_d hF e_x_o_status_3
  refine va_put (D := D) (ci := 0) (v := .int x_o_status_3) (ty := .int) (C := RX0) (T := TX0) (N := 18) hx hb hts iw_X0 tyX0 tyX0_ok nmX0 hown hK hP hD hS 0 rfl rfl 7 (by decide) (hts _ kw_329) (fun _ h9 => h9) rfl (by decide +kernel) rfl rfl (Nat.le_of_ble_eq_true rfl) dX0_read_29 (fun H locs hP hD hS => ?_)
  have hP : va_P D vwCl ([oX0 a_o a_o_ids a_o_states a_o_since a_o_reasons a_o_from a_o_next a_o_cert x_o_status_3 (0 : Int32) x_o_bodyPlace x_o_bodyEnd x_o_signature x_o_isByName x_o_tellerPlace x_o_tellerSize x_o_tellerHash x_o_noncePlace (0 : Int32), oX4 a_o_cert x_o_cert_innerPlace x_o_cert_innerEnd x_o_cert_serial x_o_cert_issuerPlace x_o_cert_issuerSize x_o_cert_namePlace x_o_cert_nameSize x_o_cert_from x_o_cert_to x_o_cert_publicKey x_o_cert_flags x_o_cert_signature, rJ q a_o_from 8 r_o_from, oX6 a_o_ids a_o_ids_nameHashes a_o_ids_keyHashes a_o_ids_serials (0 : Int32), rJ q a_o_next 8 r_o_next, rI q a_o_reasons 8 r_o_reasons, rJ q a_o_since 8 r_o_since, rI q a_o_states 8 r_o_states, rJ q a_o_ids_keyHashes 8 r_o_ids_keyHashes, rJ q a_o_ids_nameHashes 8 r_o_ids_nameHashes, rI q a_o_ids_serials 8 r_o_ids_serials, oX8 a_p0 a_p0_outerEnds a_p0_data y_1.2.1 y_1.2.2.1 y_2.2.1 y_2.2.2.2.2.1 y_2.2.2.2.2.2 y_2.2.2.1 y_2.2.2.2.1, rB q a_p0_data n_p0_data r_p0_data, rI q a_p0_outerEnds 12 y_1.2.2.2.2.2.1]) H := hP
  have hD : va_D A ([oX0 a_o a_o_ids a_o_states a_o_since a_o_reasons a_o_from a_o_next a_o_cert x_o_status_3 (0 : Int32) x_o_bodyPlace x_o_bodyEnd x_o_signature x_o_isByName x_o_tellerPlace x_o_tellerSize x_o_tellerHash x_o_noncePlace (0 : Int32), oX4 a_o_cert x_o_cert_innerPlace x_o_cert_innerEnd x_o_cert_serial x_o_cert_issuerPlace x_o_cert_issuerSize x_o_cert_namePlace x_o_cert_nameSize x_o_cert_from x_o_cert_to x_o_cert_publicKey x_o_cert_flags x_o_cert_signature, rJ q a_o_from 8 r_o_from, oX6 a_o_ids a_o_ids_nameHashes a_o_ids_keyHashes a_o_ids_serials (0 : Int32), rJ q a_o_next 8 r_o_next, rI q a_o_reasons 8 r_o_reasons, rJ q a_o_since 8 r_o_since, rI q a_o_states 8 r_o_states, rJ q a_o_ids_keyHashes 8 r_o_ids_keyHashes, rJ q a_o_ids_nameHashes 8 r_o_ids_nameHashes, rI q a_o_ids_serials 8 r_o_ids_serials, oX8 a_p0 a_p0_outerEnds a_p0_data y_1.2.1 y_1.2.2.1 y_2.2.1 y_2.2.2.2.2.1 y_2.2.2.2.2.2 y_2.2.2.1 y_2.2.2.2.1, rB q a_p0_data n_p0_data r_p0_data, rI q a_p0_outerEnds 12 y_1.2.2.2.2.2.1]) := hD
  refine lv_aload_n hx hb dX0_read_32 rfl (lv_at hl 0 rfl) ?_
  refine va_get (D := D) (ci := 0) (v := .int x_o_status_3) (C := RX0) (T := TX0) (N := 18) hx hb hts iw_X0 hown hK hP 0 rfl rfl 7 (by decide) (hts _ kw_329) (fun _ h9 => h9) rfl dX0_read_33 ?_
  refine lv_if_ne (tgt := 114) hx hb dX0_read_36 (by decide) (fun c_4 => ?_) (fun c_4 => ?_)
  · replace hF := ite_f hF c_4
    refine lv_aload_n hx hb dX0_read_114 rfl (lv_at hl 1 rfl) ?_
    obtain ⟨y_5, hy_5, hF⟩ := cal_d hF
    refine cf_v C0.1 hP hD hS [11, 13] [0, 1, 2, 3, 4, 5, 6, 7, 8, 9, 10, 12] [0, 1, 2, 3, 4, 5, 6, 7, 8, 9, 10, 12, 11, 13] (wr := [oX0 a_o a_o_ids a_o_states a_o_since a_o_reasons a_o_from a_o_next a_o_cert x_o_status_3 (0 : Int32) x_o_bodyPlace x_o_bodyEnd x_o_signature x_o_isByName x_o_tellerPlace x_o_tellerSize x_o_tellerHash x_o_noncePlace (0 : Int32), oX4 a_o_cert x_o_cert_innerPlace x_o_cert_innerEnd x_o_cert_serial x_o_cert_issuerPlace x_o_cert_issuerSize x_o_cert_namePlace x_o_cert_nameSize x_o_cert_from x_o_cert_to x_o_cert_publicKey x_o_cert_flags x_o_cert_signature, rJ q a_o_from 8 r_o_from, oX6 a_o_ids a_o_ids_nameHashes a_o_ids_keyHashes a_o_ids_serials (0 : Int32), rJ q a_o_next 8 r_o_next, rI q a_o_reasons 8 r_o_reasons, rJ q a_o_since 8 r_o_since, rI q a_o_states 8 r_o_states, rJ q a_o_ids_keyHashes 8 r_o_ids_keyHashes, rJ q a_o_ids_nameHashes 8 r_o_ids_nameHashes, rI q a_o_ids_serials 8 r_o_ids_serials, rB q a_p0_data n_p0_data r_p0_data]) (w' := [oX0 a_o a_o_ids a_o_states a_o_since a_o_reasons a_o_from a_o_next a_o_cert x_o_status_3 (0 : Int32) x_o_bodyPlace x_o_bodyEnd x_o_signature x_o_isByName x_o_tellerPlace x_o_tellerSize x_o_tellerHash x_o_noncePlace (0 : Int32), oX4 a_o_cert x_o_cert_innerPlace x_o_cert_innerEnd x_o_cert_serial x_o_cert_issuerPlace x_o_cert_issuerSize x_o_cert_namePlace x_o_cert_nameSize x_o_cert_from x_o_cert_to x_o_cert_publicKey x_o_cert_flags x_o_cert_signature, rJ q a_o_from 8 r_o_from, oX6 a_o_ids a_o_ids_nameHashes a_o_ids_keyHashes a_o_ids_serials (0 : Int32), rJ q a_o_next 8 r_o_next, rI q a_o_reasons 8 r_o_reasons, rJ q a_o_since 8 r_o_since, rI q a_o_states 8 r_o_states, rJ q a_o_ids_keyHashes 8 r_o_ids_keyHashes, rJ q a_o_ids_nameHashes 8 r_o_ids_nameHashes, rI q a_o_ids_serials 8 r_o_ids_serials, oX8 a_p0 a_p0_outerEnds a_p0_data y_5.1 y_5.2.1 y_2.2.1 y_5.2.2.2.1 y_5.2.2.2.2 y_5.2.2.1 y_2.2.2.2.1, rB q a_p0_data n_p0_data r_p0_data, rI q a_p0_outerEnds 12 y_1.2.2.2.2.2.1]) rfl rfl rfl (by decide) rfl rfl (sn_V (As := []) (rest := []) (ci := 7) (q0 := 11) C0 (c_sc_close l D q t a_p0 a_p0_data y_1.2.1 y_1.2.2.1 y_2.2.1 y_2.2.2.2.2.1 y_2.2.2.2.2.2 y_2.2.2.1 y_2.2.2.2.1 a_p0_outerEnds y_1.2.2.2.2.2.1  y_5 hy_5) (cwV 0 hts (g_V kw_920 kw_839 kw_840 kw_77 kw_841) rfl rfl rfl hd_X8_close ⟨Nat.le_of_ble_eq_true rfl, Nat.le_of_ble_eq_true rfl⟩) hP hD hS [11, 13] rfl rfl rfl rfl rfl rfl hl (Nat.le_of_ble_eq_true rfl) dX0_read_115) (fun H locs hP hD hS => ?_)
    refine lv_aload_n hx hb dX0_read_118 rfl (lv_at hl 1 rfl) ?_
    obtain ⟨y_6, hy_6, hF⟩ := cal_d hF
    refine cf_v C0.1 hP hD hS [11] [0, 1, 2, 3, 4, 5, 6, 7, 8, 9, 10, 12, 13] [0, 1, 2, 3, 4, 5, 6, 7, 8, 9, 10, 13, 11, 12] (wr := [oX0 a_o a_o_ids a_o_states a_o_since a_o_reasons a_o_from a_o_next a_o_cert x_o_status_3 (0 : Int32) x_o_bodyPlace x_o_bodyEnd x_o_signature x_o_isByName x_o_tellerPlace x_o_tellerSize x_o_tellerHash x_o_noncePlace (0 : Int32), oX4 a_o_cert x_o_cert_innerPlace x_o_cert_innerEnd x_o_cert_serial x_o_cert_issuerPlace x_o_cert_issuerSize x_o_cert_namePlace x_o_cert_nameSize x_o_cert_from x_o_cert_to x_o_cert_publicKey x_o_cert_flags x_o_cert_signature, rJ q a_o_from 8 r_o_from, oX6 a_o_ids a_o_ids_nameHashes a_o_ids_keyHashes a_o_ids_serials (0 : Int32), rJ q a_o_next 8 r_o_next, rI q a_o_reasons 8 r_o_reasons, rJ q a_o_since 8 r_o_since, rI q a_o_states 8 r_o_states, rJ q a_o_ids_keyHashes 8 r_o_ids_keyHashes, rJ q a_o_ids_nameHashes 8 r_o_ids_nameHashes, rI q a_o_ids_serials 8 r_o_ids_serials, rB q a_p0_data n_p0_data r_p0_data, rI q a_p0_outerEnds 12 y_1.2.2.2.2.2.1]) (w' := [oX0 a_o a_o_ids a_o_states a_o_since a_o_reasons a_o_from a_o_next a_o_cert x_o_status_3 (0 : Int32) x_o_bodyPlace x_o_bodyEnd x_o_signature x_o_isByName x_o_tellerPlace x_o_tellerSize x_o_tellerHash x_o_noncePlace (0 : Int32), oX4 a_o_cert x_o_cert_innerPlace x_o_cert_innerEnd x_o_cert_serial x_o_cert_issuerPlace x_o_cert_issuerSize x_o_cert_namePlace x_o_cert_nameSize x_o_cert_from x_o_cert_to x_o_cert_publicKey x_o_cert_flags x_o_cert_signature, rJ q a_o_from 8 r_o_from, oX6 a_o_ids a_o_ids_nameHashes a_o_ids_keyHashes a_o_ids_serials (0 : Int32), rJ q a_o_next 8 r_o_next, rI q a_o_reasons 8 r_o_reasons, rJ q a_o_since 8 r_o_since, rI q a_o_states 8 r_o_states, rJ q a_o_ids_keyHashes 8 r_o_ids_keyHashes, rJ q a_o_ids_nameHashes 8 r_o_ids_nameHashes, rI q a_o_ids_serials 8 r_o_ids_serials, oX8 a_p0 a_p0_outerEnds a_p0_data y_5.1 y_5.2.1 y_2.2.1 y_6.2.1 y_6.2.2 y_6.1 y_2.2.2.2.1, rB q a_p0_data n_p0_data r_p0_data, rI q a_p0_outerEnds 12 y_1.2.2.2.2.2.1]) rfl rfl rfl (by decide) rfl rfl (sn_V (As := []) (rest := []) (ci := 7) (q0 := 11) C0 (c_sc_endText l D q t a_p0 a_p0_outerEnds a_p0_data y_5.1 y_5.2.1 y_2.2.1 y_5.2.2.2.1 y_5.2.2.2.2 y_5.2.2.1 y_2.2.2.2.1  y_6 hy_6) (cwV 0 hts (g_V kw_975 kw_843 kw_844 kw_77 kw_845) rfl rfl rfl hd_X8_endText ⟨Nat.le_of_ble_eq_true rfl, Nat.le_of_ble_eq_true rfl⟩) hP hD hS [11] rfl rfl rfl rfl rfl rfl hl (Nat.le_of_ble_eq_true rfl) dX0_read_119) (fun H locs hP hD hS => ?_)
    have hy9 := (Option.some.inj hF).symm
    subst hy9
    exact rt_v C0.1 hP hD hS dX0_read_122
  · replace hF := ite_t hF c_4
    refine lv_aload_n hx hb dX0_read_39 rfl (lv_at hl 1 rfl) ?_
    refine lv_sipush (v := (160 : Int32)) hx hb dX0_read_40 (by decide) ?_
    obtain ⟨y_7, hy_7, hF⟩ := cal_d hF
    refine cf_v C0.1 hP hD hS [11, 12, 13] [0, 1, 2, 3, 4, 5, 6, 7, 8, 9, 10] [0, 1, 2, 3, 4, 5, 6, 7, 8, 9, 10, 11, 12, 13] (wr := [oX0 a_o a_o_ids a_o_states a_o_since a_o_reasons a_o_from a_o_next a_o_cert x_o_status_3 (0 : Int32) x_o_bodyPlace x_o_bodyEnd x_o_signature x_o_isByName x_o_tellerPlace x_o_tellerSize x_o_tellerHash x_o_noncePlace (0 : Int32), oX4 a_o_cert x_o_cert_innerPlace x_o_cert_innerEnd x_o_cert_serial x_o_cert_issuerPlace x_o_cert_issuerSize x_o_cert_namePlace x_o_cert_nameSize x_o_cert_from x_o_cert_to x_o_cert_publicKey x_o_cert_flags x_o_cert_signature, rJ q a_o_from 8 r_o_from, oX6 a_o_ids a_o_ids_nameHashes a_o_ids_keyHashes a_o_ids_serials (0 : Int32), rJ q a_o_next 8 r_o_next, rI q a_o_reasons 8 r_o_reasons, rJ q a_o_since 8 r_o_since, rI q a_o_states 8 r_o_states, rJ q a_o_ids_keyHashes 8 r_o_ids_keyHashes, rJ q a_o_ids_nameHashes 8 r_o_ids_nameHashes, rI q a_o_ids_serials 8 r_o_ids_serials]) (w' := [oX0 a_o a_o_ids a_o_states a_o_since a_o_reasons a_o_from a_o_next a_o_cert x_o_status_3 (0 : Int32) x_o_bodyPlace x_o_bodyEnd x_o_signature x_o_isByName x_o_tellerPlace x_o_tellerSize x_o_tellerHash x_o_noncePlace (0 : Int32), oX4 a_o_cert x_o_cert_innerPlace x_o_cert_innerEnd x_o_cert_serial x_o_cert_issuerPlace x_o_cert_issuerSize x_o_cert_namePlace x_o_cert_nameSize x_o_cert_from x_o_cert_to x_o_cert_publicKey x_o_cert_flags x_o_cert_signature, rJ q a_o_from 8 r_o_from, oX6 a_o_ids a_o_ids_nameHashes a_o_ids_keyHashes a_o_ids_serials (0 : Int32), rJ q a_o_next 8 r_o_next, rI q a_o_reasons 8 r_o_reasons, rJ q a_o_since 8 r_o_since, rI q a_o_states 8 r_o_states, rJ q a_o_ids_keyHashes 8 r_o_ids_keyHashes, rJ q a_o_ids_nameHashes 8 r_o_ids_nameHashes, rI q a_o_ids_serials 8 r_o_ids_serials, oX8 a_p0 a_p0_outerEnds a_p0_data y_7.2.1 y_7.2.2.1 y_7.1 y_7.2.2.2.2.2.2.1 y_7.2.2.2.2.2.2.2 y_7.2.2.2.1 y_7.2.2.2.2.1, rB q a_p0_data n_p0_data r_p0_data, rI q a_p0_outerEnds 12 y_7.2.2.2.2.2.1]) rfl rfl rfl (by decide) rfl rfl (sn_V (As := [.int (160 : Int32)]) (rest := []) (ci := 7) (q0 := 11) C0 (c_sc_open l D q t a_p0 y_1.2.1 y_1.2.2.1 y_2.2.1 y_2.2.2.2.2.1 y_2.2.2.2.2.2 y_2.2.2.1 y_2.2.2.2.1 a_p0_data n_p0_data r_p0_data a_p0_outerEnds y_1.2.2.2.2.2.1 (160 : Int32) y_7 hy_7) (cwV 1 hts (g_V kw_904 kw_797 kw_798 kw_77 kw_799) rfl rfl rfl hd_X8_open ⟨Nat.le_of_ble_eq_true rfl, Nat.le_of_ble_eq_true rfl⟩) hP hD hS [11, 12, 13] rfl rfl rfl rfl rfl rfl hl (Nat.le_of_ble_eq_true rfl) dX0_read_43) (fun H locs hP hD hS => ?_)
    refine lv_aload_n hx hb dX0_read_46 rfl (lv_at hl 1 rfl) ?_
    refine lv_bipush (v := (48 : Int32)) hx hb dX0_read_47 (by decide) ?_
    obtain ⟨y_8, hy_8, hF⟩ := cal_d hF
    refine cf_v C0.1 hP hD hS [11, 12, 13] [0, 1, 2, 3, 4, 5, 6, 7, 8, 9, 10] [0, 1, 2, 3, 4, 5, 6, 7, 8, 9, 10, 11, 12, 13] (wr := [oX0 a_o a_o_ids a_o_states a_o_since a_o_reasons a_o_from a_o_next a_o_cert x_o_status_3 (0 : Int32) x_o_bodyPlace x_o_bodyEnd x_o_signature x_o_isByName x_o_tellerPlace x_o_tellerSize x_o_tellerHash x_o_noncePlace (0 : Int32), oX4 a_o_cert x_o_cert_innerPlace x_o_cert_innerEnd x_o_cert_serial x_o_cert_issuerPlace x_o_cert_issuerSize x_o_cert_namePlace x_o_cert_nameSize x_o_cert_from x_o_cert_to x_o_cert_publicKey x_o_cert_flags x_o_cert_signature, rJ q a_o_from 8 r_o_from, oX6 a_o_ids a_o_ids_nameHashes a_o_ids_keyHashes a_o_ids_serials (0 : Int32), rJ q a_o_next 8 r_o_next, rI q a_o_reasons 8 r_o_reasons, rJ q a_o_since 8 r_o_since, rI q a_o_states 8 r_o_states, rJ q a_o_ids_keyHashes 8 r_o_ids_keyHashes, rJ q a_o_ids_nameHashes 8 r_o_ids_nameHashes, rI q a_o_ids_serials 8 r_o_ids_serials]) (w' := [oX0 a_o a_o_ids a_o_states a_o_since a_o_reasons a_o_from a_o_next a_o_cert x_o_status_3 (0 : Int32) x_o_bodyPlace x_o_bodyEnd x_o_signature x_o_isByName x_o_tellerPlace x_o_tellerSize x_o_tellerHash x_o_noncePlace (0 : Int32), oX4 a_o_cert x_o_cert_innerPlace x_o_cert_innerEnd x_o_cert_serial x_o_cert_issuerPlace x_o_cert_issuerSize x_o_cert_namePlace x_o_cert_nameSize x_o_cert_from x_o_cert_to x_o_cert_publicKey x_o_cert_flags x_o_cert_signature, rJ q a_o_from 8 r_o_from, oX6 a_o_ids a_o_ids_nameHashes a_o_ids_keyHashes a_o_ids_serials (0 : Int32), rJ q a_o_next 8 r_o_next, rI q a_o_reasons 8 r_o_reasons, rJ q a_o_since 8 r_o_since, rI q a_o_states 8 r_o_states, rJ q a_o_ids_keyHashes 8 r_o_ids_keyHashes, rJ q a_o_ids_nameHashes 8 r_o_ids_nameHashes, rI q a_o_ids_serials 8 r_o_ids_serials, oX8 a_p0 a_p0_outerEnds a_p0_data y_8.2.1 y_8.2.2.1 y_8.1 y_8.2.2.2.2.2.2.1 y_8.2.2.2.2.2.2.2 y_8.2.2.2.1 y_8.2.2.2.2.1, rB q a_p0_data n_p0_data r_p0_data, rI q a_p0_outerEnds 12 y_8.2.2.2.2.2.1]) rfl rfl rfl (by decide) rfl rfl (sn_V (As := [.int (48 : Int32)]) (rest := []) (ci := 7) (q0 := 11) C0 (c_sc_open l D q t a_p0 y_7.2.1 y_7.2.2.1 y_7.1 y_7.2.2.2.2.2.2.1 y_7.2.2.2.2.2.2.2 y_7.2.2.2.1 y_7.2.2.2.2.1 a_p0_data n_p0_data r_p0_data a_p0_outerEnds y_7.2.2.2.2.2.1 (48 : Int32) y_8 hy_8) (cwV 1 hts (g_V kw_904 kw_797 kw_798 kw_77 kw_799) rfl rfl rfl hd_X8_open ⟨Nat.le_of_ble_eq_true rfl, Nat.le_of_ble_eq_true rfl⟩) hP hD hS [11, 12, 13] rfl rfl rfl rfl rfl rfl hl (Nat.le_of_ble_eq_true rfl) dX0_read_49) (fun H locs hP hD hS => ?_)
    refine lv_aload_n hx hb dX0_read_52 rfl (lv_at hl 0 rfl) ?_
    refine lv_aload_n hx hb dX0_read_53 rfl (lv_at hl 1 rfl) ?_
    obtain ⟨y_9, hy_9, hF⟩ := cal_d hF
    refine cf_v C0.1 hP hD hS [0, 11, 12, 13] [1, 2, 3, 4, 5, 6, 7, 8, 9, 10] [10, 0, 1, 2, 3, 4, 5, 6, 7, 8, 9, 11, 12, 13] (wr := [oX4 a_o_cert x_o_cert_innerPlace x_o_cert_innerEnd x_o_cert_serial x_o_cert_issuerPlace x_o_cert_issuerSize x_o_cert_namePlace x_o_cert_nameSize x_o_cert_from x_o_cert_to x_o_cert_publicKey x_o_cert_flags x_o_cert_signature, rJ q a_o_from 8 r_o_from, oX6 a_o_ids a_o_ids_nameHashes a_o_ids_keyHashes a_o_ids_serials (0 : Int32), rJ q a_o_next 8 r_o_next, rI q a_o_reasons 8 r_o_reasons, rJ q a_o_since 8 r_o_since, rI q a_o_states 8 r_o_states, rJ q a_o_ids_keyHashes 8 r_o_ids_keyHashes, rJ q a_o_ids_nameHashes 8 r_o_ids_nameHashes, rI q a_o_ids_serials 8 r_o_ids_serials]) (w' := [oX0 a_o a_o_ids a_o_states a_o_since a_o_reasons a_o_from a_o_next a_o_cert x_o_status_3 (0 : Int32) y_9.1 x_o_bodyEnd x_o_signature y_9.2.1 y_9.2.2.2.1 y_9.2.2.2.2.1 y_9.2.2.1 x_o_noncePlace (0 : Int32), oX4 a_o_cert x_o_cert_innerPlace x_o_cert_innerEnd x_o_cert_serial x_o_cert_issuerPlace x_o_cert_issuerSize x_o_cert_namePlace x_o_cert_nameSize x_o_cert_from x_o_cert_to x_o_cert_publicKey x_o_cert_flags x_o_cert_signature, rJ q a_o_from 8 r_o_from, oX6 a_o_ids a_o_ids_nameHashes a_o_ids_keyHashes a_o_ids_serials (0 : Int32), rJ q a_o_next 8 r_o_next, rI q a_o_reasons 8 r_o_reasons, rJ q a_o_since 8 r_o_since, rI q a_o_states 8 r_o_states, rJ q a_o_ids_keyHashes 8 r_o_ids_keyHashes, rJ q a_o_ids_nameHashes 8 r_o_ids_nameHashes, rI q a_o_ids_serials 8 r_o_ids_serials, oX8 a_p0 a_p0_outerEnds a_p0_data y_9.2.2.2.2.2.2.1 y_9.2.2.2.2.2.2.2.1 y_9.2.2.2.2.2.1 y_9.2.2.2.2.2.2.2.2.2.2.2.1 y_9.2.2.2.2.2.2.2.2.2.2.2.2 y_9.2.2.2.2.2.2.2.2.1 y_9.2.2.2.2.2.2.2.2.2.1, rB q a_p0_data n_p0_data r_p0_data, rI q a_p0_outerEnds 12 y_9.2.2.2.2.2.2.2.2.2.2.1]) rfl rfl rfl (by decide) rfl rfl (sn_V (As := [.ref a_p0]) (rest := []) (ci := 0) (q0 := 0) C0 (c_an_readBodyTop l D q t a_o a_o_ids a_o_states a_o_since a_o_reasons a_o_from a_o_next a_o_cert x_o_status_3 (0 : Int32) x_o_bodyPlace x_o_bodyEnd x_o_signature x_o_isByName x_o_tellerPlace x_o_tellerSize x_o_tellerHash x_o_noncePlace (0 : Int32) a_p0 y_8.2.1 y_8.2.2.1 y_8.1 y_8.2.2.2.2.2.2.1 y_8.2.2.2.2.2.2.2 y_8.2.2.2.1 y_8.2.2.2.2.1 a_p0_data n_p0_data r_p0_data a_p0_outerEnds y_8.2.2.2.2.2.1  y_9 hy_9) (cwV 1 hts (g_V kw_909 kw_911 kw_11 kw_79 kw_912) rfl rfl rfl hd_X0_readBodyTop ⟨Nat.le_of_ble_eq_true rfl, Nat.le_of_ble_eq_true rfl⟩) hP hD hS [0, 11, 12, 13] rfl rfl rfl rfl rfl rfl hl (Nat.le_of_ble_eq_true rfl) dX0_read_54) (fun H locs hP hD hS => ?_)
    refine lv_iconst (v := (0 : Int32)) hx hb dX0_read_57 (by decide) ?_
    refine lv_istore_n (lv' := [(2, .int (0 : Int32)), (0, .ref a_o), (1, .ref a_p0)]) hx hb dX0_read_58 rfl hl (by decide) rfl (fun ls hl => ?_)
    exact w_an_read_59 C0 a_o a_o_cert a_o_from a_o_ids a_o_next a_o_reasons a_o_since a_o_states a_o_ids_keyHashes a_o_ids_nameHashes a_o_ids_serials a_p0 a_p0_data n_p0_data a_p0_outerEnds FU x_o_status_3 (0 : Int32) y_9.1 x_o_bodyEnd x_o_signature y_9.2.1 y_9.2.2.2.1 y_9.2.2.2.2.1 y_9.2.2.1 x_o_noncePlace (0 : Int32) x_o_cert_innerPlace x_o_cert_innerEnd x_o_cert_serial x_o_cert_issuerPlace x_o_cert_issuerSize x_o_cert_namePlace x_o_cert_nameSize x_o_cert_from x_o_cert_to x_o_cert_publicKey x_o_cert_flags x_o_cert_signature r_o_from (0 : Int32) r_o_next r_o_reasons r_o_since r_o_states r_o_ids_keyHashes r_o_ids_nameHashes r_o_ids_serials y_9.2.2.2.2.2.2.1 y_9.2.2.2.2.2.2.2.1 y_9.2.2.2.2.2.1 y_9.2.2.2.2.2.2.2.2.2.2.2.1 y_9.2.2.2.2.2.2.2.2.2.2.2.2 y_9.2.2.2.2.2.2.2.2.1 y_9.2.2.2.2.2.2.2.2.2.1 r_p0_data y_9.2.2.2.2.2.2.2.2.2.2.1 (0 : Int32) y hF H locs ls hP hD hS (lv_sub hl [1, 2, 0] rfl)
set_option maxHeartbeats 4000000 in
set_option maxRecDepth 100000 in
theorem c_by_byteAt (l : Launch) (D : va_G) (q : Nat → ClassId) (t : Nat) (a_o : Nat) (x_o_length : Int32) (a_o_data : Nat) (n_o_data : Nat) (r_o_data : (Nat → Int32)) (p_0 : Int32) (y : Int32) (hF : f_by_byteAt r_o_data x_o_length n_o_data p_0 = some y)  : cu l yX3_byteAt (vs yX3_byteAt cX3_byteAt 2 (some .int)) ({ frames := 0, cells := 0, slots := 0, locals := 0 }) D q t [.ref a_o, .int p_0] [oX3 a_o a_o_data x_o_length, rB q a_o_data n_o_data r_o_data] (qI D q y [oX3 a_o a_o_data x_o_length, rB q a_o_data n_o_data r_o_data]) := by
  refine cu_of (cc := cX3_byteAt) (nL := 2) (ret := (some .int)) (by decide) (Nat.le_of_ble_eq_true rfl) (fun {p e s m args below meth c A} C0 H locs ls hP hD hS hl => ?_)
  have C0 : cy p s m args meth c cX3_byteAt (some .int) 2 RX3 D q t A := C0
  obtain ⟨⟨hx, hb, hr, hml, hown, hts, hlocks, hK, hA⟩, hG⟩ := id C0
  have hl : lv_has ls 2 [(0, .ref a_o), (1, .int p_0)] := hl
  unfold f_by_byteAt at hF
  refine lv_iload_n hx hb dX3_byteAt_0 rfl (lv_at hl 1 rfl) ?_
  refine lv_if_lt (tgt := 25) hx hb dX3_byteAt_1 (by decide) (fun c_1 => ?_) (fun c_1 => ?_)
  · replace hF := ite_t hF c_1
    refine lv_iconst (v := (-1 : Int32)) hx hb dX3_byteAt_25 (by decide) ?_
    have hy9 := (Option.some.inj hF).symm
    subst hy9
    exact rt_i C0.1 hP hD hS dX3_byteAt_26
  · replace hF := ite_f hF c_1
    refine lv_iload_n hx hb dX3_byteAt_4 rfl (lv_at hl 1 rfl) ?_
    refine lv_aload_n hx hb dX3_byteAt_5 rfl (lv_at hl 0 rfl) ?_
    refine va_get (D := D) (ci := 3) (v := .int x_o_length) (C := RX3) (T := TX3) (N := 2) hx hb hts iw_X3 hown hK hP 0 rfl rfl 1 (by decide) (hts _ kw_106) (fun _ h9 => h9) rfl dX3_byteAt_6 ?_
    refine lv_icmp_ge (tgt := 25) hx hb dX3_byteAt_9 (by decide) (fun c_2 => ?_) (fun c_2 => ?_)
    · replace hF := ite_t hF c_2
      refine lv_iconst (v := (-1 : Int32)) hx hb dX3_byteAt_25 (by decide) ?_
      have hy9 := (Option.some.inj hF).symm
      subst hy9
      exact rt_i C0.1 hP hD hS dX3_byteAt_26
    · replace hF := ite_f hF c_2
      refine lv_aload_n hx hb dX3_byteAt_12 rfl (lv_at hl 0 rfl) ?_
      refine va_get (D := D) (ci := 3) (v := .ref a_o_data) (C := RX3) (T := TX3) (N := 2) hx hb hts iw_X3 hown hK hP 0 rfl rfl 0 (by decide) (hts _ kw_103) (fun _ h9 => h9) rfl dX3_byteAt_13 ?_
      refine lv_iload_n hx hb dX3_byteAt_16 rfl (lv_at hl 1 rfl) ?_
      obtain ⟨z_3, hF⟩ := chk_d hF
      refine va_bald hx hb hK hP 1 0 rfl rfl z_3 dX3_byteAt_17 ?_
      refine lv_sipush (v := (255 : Int32)) hx hb dX3_byteAt_18 (by decide) ?_
      refine lv_iand hx hb dX3_byteAt_21 ?_
      refine lv_goto (tgt := 26) hx hb dX3_byteAt_22 (by decide) ?_
      have hy9 := (Option.some.inj hF).symm
      subst hy9
      exact rt_i C0.1 hP hD hS dX3_byteAt_26
set_option maxHeartbeats 4000000 in
set_option maxRecDepth 100000 in
theorem w_by_isSame_13 {l : Launch} {p : Program} {e : Env} {s : State} {m : MethodId} {args : Array Value} {below : List Frame} {meth : Method} {c : Code} {A : Nat → Prop} {D : va_G} {q : Nat → ClassId} {t : Nat} (C0 : cy p s m args meth c cX3_isSame (some .boolean) 5 RX3 D q t A) (a_o : Nat) (a_o_data : Nat) (n_o_data : Nat) (a_p0 : Nat) (a_p0_data : Nat) (n_p0_data : Nat)  : ∀ (n : Nat) (x_o_length : Int32) (r_o_data : (Nat → Int32)) (x_p0_length : Int32) (r_p0_data : (Nat → Int32)) (v_2 : Int32) (v_4 : Int32) (y : Int32) (hF : j_by_isSame_13 n r_o_data x_o_length r_p0_data x_p0_length n_o_data n_p0_data v_2 v_4 = some y), ∀ (H : Heap) (locs : List Loc) (ls : Array Slot), va_P D vwCl [oX3 a_o a_o_data x_o_length, rB q a_o_data n_o_data r_o_data, oX3 a_p0 a_p0_data x_p0_length, rB q a_p0_data n_p0_data r_p0_data] H → va_D A [oX3 a_o a_o_data x_o_length, rB q a_o_data n_o_data r_o_data, oX3 a_p0 a_p0_data x_p0_length, rB q a_p0_data n_p0_data r_p0_data] → va_S A s.heap H locs → lv_has ls 5 [(0, .ref a_o), (1, .ref a_p0), (2, .int v_2), (4, .int v_4)] → W p l e ({ frames := 1, cells := 0, slots := 0, locals := 21 }) s m args below meth c H locs 0 0 (MQ below (qI D q y [oX3 a_o a_o_data x_o_length, rB q a_o_data n_o_data r_o_data, oX3 a_p0 a_p0_data x_p0_length, rB q a_p0_data n_p0_data r_p0_data] A) args s 0 0 A) (F0 m 13 ls []) := by
  obtain ⟨⟨hx, hb, hr, hml, hown, hts, hlocks, hK, hA⟩, hG⟩ := id C0
  intro n
  induction n with
  | zero =>
    intro x_o_length r_o_data x_p0_length r_p0_data v_2 v_4 y hF
    exact absurd (show (none : Option (Int32)) = some y from hF) (fun h => by cases h)
  | succ n ih =>
    intro x_o_length r_o_data x_p0_length r_p0_data v_2 v_4 y hF H locs ls hP hD hS hl
    rw [j_by_isSame_13] at hF
    refine lv_iload hx hb dX3_isSame_13 (lv_at hl 3 rfl) ?_
    refine lv_aload_n hx hb dX3_isSame_15 rfl (lv_at hl 0 rfl) ?_
    refine va_get (D := D) (ci := 3) (v := .int x_o_length) (C := RX3) (T := TX3) (N := 2) hx hb hts iw_X3 hown hK hP 0 rfl rfl 1 (by decide) (hts _ kw_106) (fun _ h9 => h9) rfl dX3_isSame_16 ?_
    refine lv_icmp_ge (tgt := 47) hx hb dX3_isSame_19 (by decide) (fun c_2 => ?_) (fun c_2 => ?_)
    · replace hF := ite_t hF c_2
      refine lv_iconst (v := (1 : Int32)) hx hb dX3_isSame_47 (by decide) ?_
      have hy9 := (Option.some.inj hF).symm
      subst hy9
      exact rt_z (v := (1 : Int32)) C0.1 rfl hP hD hS dX3_isSame_48
    · replace hF := ite_f hF c_2
      refine lv_aload_n hx hb dX3_isSame_22 rfl (lv_at hl 0 rfl) ?_
      refine lv_iload hx hb dX3_isSame_23 (lv_at hl 3 rfl) ?_
      obtain ⟨y_3, hy_3, hF⟩ := cal_d hF
      refine cf_i C0.1 hP hD hS [0, 1] [2, 3] [2, 3, 0, 1] (wr := [oX3 a_p0 a_p0_data x_p0_length, rB q a_p0_data n_p0_data r_p0_data]) (w' := [oX3 a_o a_o_data x_o_length, rB q a_o_data n_o_data r_o_data, oX3 a_p0 a_p0_data x_p0_length, rB q a_p0_data n_p0_data r_p0_data]) rfl rfl rfl (by decide) rfl rfl (sn_V (As := [.int v_4]) (rest := []) (ci := 3) (q0 := 0) C0 (c_by_byteAt l D q t a_o x_o_length a_o_data n_o_data r_o_data v_4 y_3 hy_3) (cwV 1 hts (g_V kw_546 kw_547 kw_548 kw_73 kw_549) rfl rfl rfl hd_X3_byteAt ⟨Nat.le_of_ble_eq_true rfl, Nat.le_of_ble_eq_true rfl⟩) hP hD hS [0, 1] rfl rfl rfl rfl rfl rfl hl (Nat.le_of_ble_eq_true rfl) dX3_isSame_25) (fun H locs hP hD hS => ?_)
      refine lv_aload_n hx hb dX3_isSame_28 rfl (lv_at hl 1 rfl) ?_
      refine lv_iload_n hx hb dX3_isSame_29 rfl (lv_at hl 2 rfl) ?_
      refine lv_iload hx hb dX3_isSame_30 (lv_at hl 3 rfl) ?_
      refine lv_iadd hx hb dX3_isSame_32 ?_
      obtain ⟨y_4, hy_4, hF⟩ := cal_d hF
      refine cf_i C0.1 hP hD hS [2, 3] [0, 1] [0, 1, 2, 3] (wr := [oX3 a_o a_o_data x_o_length, rB q a_o_data n_o_data r_o_data]) (w' := [oX3 a_o a_o_data x_o_length, rB q a_o_data n_o_data r_o_data, oX3 a_p0 a_p0_data x_p0_length, rB q a_p0_data n_p0_data r_p0_data]) rfl rfl rfl (by decide) rfl rfl (sn_V (As := [.int (v_2 + v_4)]) (rest := [.int y_3]) (ci := 3) (q0 := 2) C0 (c_by_byteAt l D q t a_p0 x_p0_length a_p0_data n_p0_data r_p0_data (v_2 + v_4) y_4 hy_4) (cwV 1 hts (g_V kw_546 kw_547 kw_548 kw_73 kw_549) rfl rfl rfl hd_X3_byteAt ⟨Nat.le_of_ble_eq_true rfl, Nat.le_of_ble_eq_true rfl⟩) hP hD hS [2, 3] rfl rfl rfl rfl rfl rfl hl (Nat.le_of_ble_eq_true rfl) dX3_isSame_33) (fun H locs hP hD hS => ?_)
      refine lv_icmp_eq (tgt := 41) hx hb dX3_isSame_36 (by decide) (fun c_5 => ?_) (fun c_5 => ?_)
      · replace hF := ite_t hF c_5
        obtain ⟨v4_6, e_v4_6⟩ : ∃ z : Int32, z = v_4 + (1 : Int32) := ⟨_, rfl⟩
        replace hF := bnd_d hF e_v4_6
        refine lv_iinc (v := v4_6) (lv' := [(4, .int v4_6), (0, .ref a_o), (1, .ref a_p0), (2, .int v_2)]) hx hb dX3_isSame_41 hl (k := 3) rfl (by rw [e_v4_6]; rfl) (by decide) rfl (fun ls hl => ?_)
        refine lv_goto (tgt := 13) hx hb dX3_isSame_44 (by decide) ?_
        exact ih x_o_length r_o_data x_p0_length r_p0_data v_2 v4_6 y hF H locs ls hP hD hS (lv_sub hl [1, 2, 3, 0] rfl)
      · replace hF := ite_f hF c_5
        refine lv_iconst (v := (0 : Int32)) hx hb dX3_isSame_39 (by decide) ?_
        have hy9 := (Option.some.inj hF).symm
        subst hy9
        exact rt_z (v := (0 : Int32)) C0.1 rfl hP hD hS dX3_isSame_40
set_option maxHeartbeats 4000000 in
set_option maxRecDepth 100000 in
theorem c_by_isSame (l : Launch) (D : va_G) (q : Nat → ClassId) (t : Nat) (a_o : Nat) (x_o_length : Int32) (a_o_data : Nat) (n_o_data : Nat) (r_o_data : (Nat → Int32)) (a_p0 : Nat) (x_p0_length : Int32) (a_p0_data : Nat) (n_p0_data : Nat) (r_p0_data : (Nat → Int32)) (p_1 : Int32) (p_2 : Int32) (y : Int32) (hF : f_by_isSame r_o_data x_o_length r_p0_data x_p0_length n_o_data n_p0_data p_1 p_2 = some y)  : cu l yX3_isSame (vs yX3_isSame cX3_isSame 5 (some .boolean)) ({ frames := 1, cells := 0, slots := 0, locals := 21 }) D q t [.ref a_o, .ref a_p0, .int p_1, .int p_2] [oX3 a_o a_o_data x_o_length, rB q a_o_data n_o_data r_o_data, oX3 a_p0 a_p0_data x_p0_length, rB q a_p0_data n_p0_data r_p0_data] (qI D q y [oX3 a_o a_o_data x_o_length, rB q a_o_data n_o_data r_o_data, oX3 a_p0 a_p0_data x_p0_length, rB q a_p0_data n_p0_data r_p0_data]) := by
  refine cu_of (cc := cX3_isSame) (nL := 5) (ret := (some .boolean)) (by decide) (Nat.le_of_ble_eq_true rfl) (fun {p e s m args below meth c A} C0 H locs ls hP hD hS hl => ?_)
  have C0 : cy p s m args meth c cX3_isSame (some .boolean) 5 RX3 D q t A := C0
  obtain ⟨⟨hx, hb, hr, hml, hown, hts, hlocks, hK, hA⟩, hG⟩ := id C0
  have hl : lv_has ls 5 [(0, .ref a_o), (1, .ref a_p0), (2, .int p_1), (3, .int p_2)] := hl
  unfold f_by_isSame at hF
  refine lv_iload_n hx hb dX3_isSame_0 rfl (lv_at hl 3 rfl) ?_
  refine lv_aload_n hx hb dX3_isSame_1 rfl (lv_at hl 0 rfl) ?_
  refine va_get (D := D) (ci := 3) (v := .int x_o_length) (C := RX3) (T := TX3) (N := 2) hx hb hts iw_X3 hown hK hP 0 rfl rfl 1 (by decide) (hts _ kw_106) (fun _ h9 => h9) rfl dX3_isSame_2 ?_
  refine lv_icmp_eq (tgt := 10) hx hb dX3_isSame_5 (by decide) (fun c_1 => ?_) (fun c_1 => ?_)
  · replace hF := ite_t hF c_1
    refine lv_iconst (v := (0 : Int32)) hx hb dX3_isSame_10 (by decide) ?_
    refine lv_istore (lv' := [(4, .int (0 : Int32)), (0, .ref a_o), (1, .ref a_p0), (2, .int p_1), (3, .int p_2)]) hx hb dX3_isSame_11 hl (by decide) rfl (fun ls hl => ?_)
    exact w_by_isSame_13 C0 a_o a_o_data n_o_data a_p0 a_p0_data n_p0_data FU x_o_length r_o_data x_p0_length r_p0_data p_1 (0 : Int32) y hF H locs ls hP hD hS (lv_sub hl [1, 2, 3, 0] rfl)
  · replace hF := ite_f hF c_1
    refine lv_iconst (v := (0 : Int32)) hx hb dX3_isSame_8 (by decide) ?_
    have hy9 := (Option.some.inj hF).symm
    subst hy9
    exact rt_z (v := (0 : Int32)) C0.1 rfl hP hD hS dX3_isSame_9
set_option maxHeartbeats 4000000 in
set_option maxRecDepth 100000 in
theorem c_an_isToldBy (l : Launch) (D : va_G) (q : Nat → ClassId) (t : Nat) (a_o : Nat) (a_o_ids : Nat) (a_o_states : Nat) (a_o_since : Nat) (a_o_reasons : Nat) (a_o_from : Nat) (a_o_next : Nat) (a_o_cert : Nat) (x_o_status : Int32) (x_o_hasCert : Int32) (x_o_bodyPlace : Int32) (x_o_bodyEnd : Int32) (x_o_signature : Int64) (x_o_isByName : Int32) (x_o_tellerPlace : Int32) (x_o_tellerSize : Int32) (x_o_tellerHash : Int64) (x_o_noncePlace : Int32) (x_o_nonceSize : Int32) (a_p0 : Nat) (x_p0_length : Int32) (a_p0_data : Nat) (n_p0_data : Nat) (r_p0_data : (Nat → Int32)) (a_p1 : Nat) (x_p1_length : Int32) (a_p1_data : Nat) (n_p1_data : Nat) (r_p1_data : (Nat → Int32)) (p_2 : Int64) (y : Int32) (hF : f_an_isToldBy x_o_isByName x_o_tellerHash x_o_tellerPlace x_o_tellerSize r_p0_data x_p0_length r_p1_data x_p1_length n_p0_data n_p1_data p_2 = some y)  : cu l yX0_isToldBy (vs yX0_isToldBy cX0_isToldBy 5 (some .boolean)) ({ frames := 2, cells := 0, slots := 0, locals := 45 }) D q t [.ref a_o, .ref a_p0, .ref a_p1, .long p_2] [oX0 a_o a_o_ids a_o_states a_o_since a_o_reasons a_o_from a_o_next a_o_cert x_o_status x_o_hasCert x_o_bodyPlace x_o_bodyEnd x_o_signature x_o_isByName x_o_tellerPlace x_o_tellerSize x_o_tellerHash x_o_noncePlace x_o_nonceSize, oX3 a_p0 a_p0_data x_p0_length, rB q a_p0_data n_p0_data r_p0_data, oX3 a_p1 a_p1_data x_p1_length, rB q a_p1_data n_p1_data r_p1_data] (qI D q y [oX0 a_o a_o_ids a_o_states a_o_since a_o_reasons a_o_from a_o_next a_o_cert x_o_status x_o_hasCert x_o_bodyPlace x_o_bodyEnd x_o_signature x_o_isByName x_o_tellerPlace x_o_tellerSize x_o_tellerHash x_o_noncePlace x_o_nonceSize, oX3 a_p0 a_p0_data x_p0_length, rB q a_p0_data n_p0_data r_p0_data, oX3 a_p1 a_p1_data x_p1_length, rB q a_p1_data n_p1_data r_p1_data]) := by
  refine cu_of (cc := cX0_isToldBy) (nL := 5) (ret := (some .boolean)) (by decide) (Nat.le_of_ble_eq_true rfl) (fun {p e s m args below meth c A} C0 H locs ls hP hD hS hl => ?_)
  have C0 : cy p s m args meth c cX0_isToldBy (some .boolean) 5 RX0 D q t A := C0
  obtain ⟨⟨hx, hb, hr, hml, hown, hts, hlocks, hK, hA⟩, hG⟩ := id C0
  have hl : lv_has ls 5 [(0, .ref a_o), (1, .ref a_p0), (2, .ref a_p1), (3, .long p_2)] := hl
  unfold f_an_isToldBy at hF
  refine lv_aload_n hx hb dX0_isToldBy_0 rfl (lv_at hl 0 rfl) ?_
  refine va_get (D := D) (ci := 0) (v := .int x_o_isByName) (C := RX0) (T := TX0) (N := 18) hx hb hts iw_X0 hown hK hP 0 rfl rfl 12 (by decide) (hts _ kw_339) (fun _ h9 => h9) rfl dX0_isToldBy_1 ?_
  refine lv_if_eq (tgt := 23) hx hb dX0_isToldBy_4 (by decide) (fun c_1 => ?_) (fun c_1 => ?_)
  · replace hF := ite_t hF c_1
    refine lv_aload_n hx hb dX0_isToldBy_23 rfl (lv_at hl 0 rfl) ?_
    refine va_get (D := D) (ci := 0) (v := .long x_o_tellerHash) (C := RX0) (T := TX0) (N := 18) hx hb hts iw_X0 hown hK hP 0 rfl rfl 15 (by decide) (hts _ kw_342) (fun _ h9 => h9) rfl dX0_isToldBy_24 ?_
    refine lv_lload_n hx hb dX0_isToldBy_27 rfl (lv_at hl 3 rfl) ?_
    refine W.lcmp hx hb dX0_isToldBy_28 ?_
    refine lv_if_ne (tgt := 36) hx hb dX0_isToldBy_29 (by decide) (fun c_2 => ?_) (fun c_2 => ?_)
    · replace hF := ite_f hF (fun h => c_2 ((lg_cmp_eq _ _).mpr h))
      refine lv_iconst (v := (0 : Int32)) hx hb dX0_isToldBy_36 (by decide) ?_
      have hy9 := (Option.some.inj hF).symm
      subst hy9
      exact rt_z (v := (0 : Int32)) C0.1 rfl hP hD hS dX0_isToldBy_37
    · replace hF := ite_t hF ((lg_cmp_eq _ _).mp c_2)
      refine lv_iconst (v := (1 : Int32)) hx hb dX0_isToldBy_32 (by decide) ?_
      refine lv_goto (tgt := 37) hx hb dX0_isToldBy_33 (by decide) ?_
      have hy9 := (Option.some.inj hF).symm
      subst hy9
      exact rt_z (v := (1 : Int32)) C0.1 rfl hP hD hS dX0_isToldBy_37
  · replace hF := ite_f hF c_1
    refine lv_aload_n hx hb dX0_isToldBy_7 rfl (lv_at hl 2 rfl) ?_
    refine lv_aload_n hx hb dX0_isToldBy_8 rfl (lv_at hl 1 rfl) ?_
    refine lv_aload_n hx hb dX0_isToldBy_9 rfl (lv_at hl 0 rfl) ?_
    refine va_get (D := D) (ci := 0) (v := .int x_o_tellerPlace) (C := RX0) (T := TX0) (N := 18) hx hb hts iw_X0 hown hK hP 0 rfl rfl 13 (by decide) (hts _ kw_340) (fun _ h9 => h9) rfl dX0_isToldBy_10 ?_
    refine lv_aload_n hx hb dX0_isToldBy_13 rfl (lv_at hl 0 rfl) ?_
    refine va_get (D := D) (ci := 0) (v := .int x_o_tellerSize) (C := RX0) (T := TX0) (N := 18) hx hb hts iw_X0 hown hK hP 0 rfl rfl 14 (by decide) (hts _ kw_341) (fun _ h9 => h9) rfl dX0_isToldBy_14 ?_
    obtain ⟨y_3, hy_3, hF⟩ := cal_d hF
    refine cf_i C0.1 hP hD hS [3, 4, 1, 2] [0] [0, 3, 4, 1, 2] (wr := [oX0 a_o a_o_ids a_o_states a_o_since a_o_reasons a_o_from a_o_next a_o_cert x_o_status x_o_hasCert x_o_bodyPlace x_o_bodyEnd x_o_signature x_o_isByName x_o_tellerPlace x_o_tellerSize x_o_tellerHash x_o_noncePlace x_o_nonceSize]) (w' := [oX0 a_o a_o_ids a_o_states a_o_since a_o_reasons a_o_from a_o_next a_o_cert x_o_status x_o_hasCert x_o_bodyPlace x_o_bodyEnd x_o_signature x_o_isByName x_o_tellerPlace x_o_tellerSize x_o_tellerHash x_o_noncePlace x_o_nonceSize, oX3 a_p0 a_p0_data x_p0_length, rB q a_p0_data n_p0_data r_p0_data, oX3 a_p1 a_p1_data x_p1_length, rB q a_p1_data n_p1_data r_p1_data]) rfl rfl rfl (by decide) rfl rfl (sn_V (As := [.ref a_p0, .int x_o_tellerPlace, .int x_o_tellerSize]) (rest := []) (ci := 3) (q0 := 3) C0 (c_by_isSame l D q t a_p1 x_p1_length a_p1_data n_p1_data r_p1_data a_p0 x_p0_length a_p0_data n_p0_data r_p0_data x_o_tellerPlace x_o_tellerSize y_3 hy_3) (cwV 3 hts (g_V kw_989 kw_583 kw_584 kw_73 kw_585) rfl rfl rfl hd_X3_isSame ⟨Nat.le_of_ble_eq_true rfl, Nat.le_of_ble_eq_true rfl⟩) hP hD hS [3, 4, 1, 2] rfl rfl rfl rfl rfl rfl hl (Nat.le_of_ble_eq_true rfl) dX0_isToldBy_17) (fun H locs hP hD hS => ?_)
    refine lv_goto (tgt := 37) hx hb dX0_isToldBy_20 (by decide) ?_
    obtain ⟨z_4, hF⟩ := chk_d hF
    have hy9 := (Option.some.inj hF).symm
    subst hy9
    exact rt_z C0.1 z_4 hP hD hS dX0_isToldBy_37
set_option maxHeartbeats 4000000 in
set_option maxRecDepth 100000 in
theorem c_nu_hashEnd (l : Launch) (D : va_G) (q : Nat → ClassId) (t : Nat)  (p_0 : Int64) (y : Int64) (hF : f_nu_hashEnd p_0 = some y)  : cu l yX7_hashEnd (vs yX7_hashEnd cX7_hashEnd 4 (some .long)) ({ frames := 0, cells := 0, slots := 0, locals := 0 }) D q t [.long p_0] [] (qL D q y []) := by
  refine cu_of (cc := cX7_hashEnd) (nL := 4) (ret := (some .long)) (by decide) (Nat.le_of_ble_eq_true rfl) (fun {p e s m args below meth c A} C0 H locs ls hP hD hS hl => ?_)
  have C0 : cy p s m args meth c cX7_hashEnd (some .long) 4 RX7 D q t A := C0
  obtain ⟨⟨hx, hb, hr, hml, hown, hts, hlocks, hK, hA⟩, hG⟩ := id C0
  have hl : lv_has ls 4 [(0, .long p_0)] := hl
  unfold f_nu_hashEnd at hF
  refine lv_lload_n hx hb dX7_hashEnd_0 rfl (lv_at hl 0 rfl) ?_
  refine lv_ldc2 (v := (-4658895280553007687 : Int64)) hx hb hown (hts _ kw_611) dX7_hashEnd_1 ?_
  refine lv_lmul hx hb dX7_hashEnd_4 ?_
  refine lv_topl (fun v2_1 e_v2_1 => ?_)
  replace hF := bnd_d hF e_v2_1
  refine lv_lstore_n (lv' := [(2, .long v2_1), (0, .long p_0)]) hx hb dX7_hashEnd_5 rfl hl (by decide) rfl (fun ls hl => ?_)
  refine lv_lload_n hx hb dX7_hashEnd_6 rfl (lv_at hl 0 rfl) ?_
  refine lv_lload_n hx hb dX7_hashEnd_7 rfl (lv_at hl 0 rfl) ?_
  refine lv_bipush (v := (32 : Int32)) hx hb dX7_hashEnd_8 (by decide) ?_
  refine lv_lushr hx hb dX7_hashEnd_10 rfl ?_
  refine lv_lxor hx hb dX7_hashEnd_11 ?_
  have hy9 := (Option.some.inj hF).symm
  subst hy9
  exact rt_l C0.1 hP hD hS dX7_hashEnd_12
set_option maxHeartbeats 4000000 in
set_option maxRecDepth 100000 in
theorem c_nu_hashStep (l : Launch) (D : va_G) (q : Nat → ClassId) (t : Nat)  (p_0 : Int64) (p_1 : Int32) (y : Int64) (hF : f_nu_hashStep p_0 p_1 = some y)  : cu l yX7_hashStep (vs yX7_hashStep cX7_hashStep 5 (some .long)) ({ frames := 0, cells := 0, slots := 0, locals := 0 }) D q t [.long p_0, .int p_1] [] (qL D q y []) := by
  refine cu_of (cc := cX7_hashStep) (nL := 5) (ret := (some .long)) (by decide) (Nat.le_of_ble_eq_true rfl) (fun {p e s m args below meth c A} C0 H locs ls hP hD hS hl => ?_)
  have C0 : cy p s m args meth c cX7_hashStep (some .long) 5 RX7 D q t A := C0
  obtain ⟨⟨hx, hb, hr, hml, hown, hts, hlocks, hK, hA⟩, hG⟩ := id C0
  have hl : lv_has ls 5 [(0, .long p_0), (2, .int p_1)] := hl
  unfold f_nu_hashStep at hF
  refine lv_lload_n hx hb dX7_hashStep_0 rfl (lv_at hl 0 rfl) ?_
  refine lv_iload_n hx hb dX7_hashStep_1 rfl (lv_at hl 1 rfl) ?_
  refine lv_sipush (v := (255 : Int32)) hx hb dX7_hashStep_2 (by decide) ?_
  refine lv_iand hx hb dX7_hashStep_5 ?_
  refine lv_i2l hx hb dX7_hashStep_6 rfl ?_
  refine lv_lxor hx hb dX7_hashStep_7 ?_
  refine lv_ldc2 (v := (-7046029254386353131 : Int64)) hx hb hown (hts _ kw_607) dX7_hashStep_8 ?_
  refine lv_lmul hx hb dX7_hashStep_11 ?_
  refine lv_topl (fun v3_1 e_v3_1 => ?_)
  replace hF := bnd_d hF e_v3_1
  refine lv_lstore_n (lv' := [(3, .long v3_1), (0, .long p_0), (2, .int p_1)]) hx hb dX7_hashStep_12 rfl hl (by decide) rfl (fun ls hl => ?_)
  refine lv_lload_n hx hb dX7_hashStep_13 rfl (lv_at hl 0 rfl) ?_
  refine lv_lload_n hx hb dX7_hashStep_14 rfl (lv_at hl 0 rfl) ?_
  refine lv_bipush (v := (29 : Int32)) hx hb dX7_hashStep_15 (by decide) ?_
  refine lv_lushr hx hb dX7_hashStep_17 rfl ?_
  refine lv_lxor hx hb dX7_hashStep_18 ?_
  have hy9 := (Option.some.inj hF).symm
  subst hy9
  exact rt_l C0.1 hP hD hS dX7_hashStep_19
set_option maxHeartbeats 4000000 in
set_option maxRecDepth 100000 in
theorem w_nu_hashLong_7 {l : Launch} {p : Program} {e : Env} {s : State} {m : MethodId} {args : Array Value} {below : List Frame} {meth : Method} {c : Code} {A : Nat → Prop} {D : va_G} {q : Nat → ClassId} {t : Nat} (C0 : cy p s m args meth c cX7_hashLong (some .long) 7 RX7 D q t A)   : ∀ (n : Nat)  (v_2 : Int64) (v_4 : Int64) (v_6 : Int32) (y : Int64) (hF : j_nu_hashLong_7 n v_2 v_4 v_6 = some y), ∀ (H : Heap) (locs : List Loc) (ls : Array Slot), va_P D vwCl [] H → va_D A [] → va_S A s.heap H locs → lv_has ls 7 [(2, .long v_2), (4, .long v_4), (6, .int v_6)] → W p l e ({ frames := 1, cells := 0, slots := 0, locals := 24 }) s m args below meth c H locs 0 0 (MQ below (qL D q y [] A) args s 0 0 A) (F0 m 7 ls []) := by
  obtain ⟨⟨hx, hb, hr, hml, hown, hts, hlocks, hK, hA⟩, hG⟩ := id C0
  intro n
  induction n with
  | zero =>
    intro  v_2 v_4 v_6 y hF
    exact absurd (show (none : Option (Int64)) = some y from hF) (fun h => by cases h)
  | succ n ih =>
    intro  v_2 v_4 v_6 y hF H locs ls hP hD hS hl
    rw [j_nu_hashLong_7] at hF
    refine lv_iload hx hb dX7_hashLong_7 (lv_at hl 2 rfl) ?_
    refine lv_if_lt (tgt := 30) hx hb dX7_hashLong_9 (by decide) (fun c_1 => ?_) (fun c_1 => ?_)
    · replace hF := ite_t hF c_1
      refine lv_lload hx hb dX7_hashLong_30 (lv_at hl 1 rfl) ?_
      have hy9 := (Option.some.inj hF).symm
      subst hy9
      exact rt_l C0.1 hP hD hS dX7_hashLong_32
    · replace hF := ite_f hF c_1
      refine lv_lload hx hb dX7_hashLong_12 (lv_at hl 1 rfl) ?_
      refine lv_lload_n hx hb dX7_hashLong_14 rfl (lv_at hl 0 rfl) ?_
      refine lv_iload hx hb dX7_hashLong_15 (lv_at hl 2 rfl) ?_
      refine lv_lushr hx hb dX7_hashLong_17 rfl ?_
      refine lv_l2i hx hb dX7_hashLong_18 rfl ?_
      obtain ⟨y_2, hy_2, hF⟩ := cal_d hF
      refine cf_l C0.1 hP hD hS [] [] [] (wr := []) (w' := []) rfl rfl rfl (by decide) rfl rfl (sn_S (As := [.long v_4, .int (((v_2.toUInt64 >>> (v_6.toInt64.toUInt64 &&& Int64.toUInt64 63)).toInt64).toInt32)]) (rest := []) C0 (c_nu_hashStep l D q t  v_4 (((v_2.toUInt64 >>> (v_6.toInt64.toUInt64 &&& Int64.toUInt64 63)).toInt64).toInt32) y_2 hy_2) (va_cwS 2 hts (g_S kw_619 kw_605 kw_84 kw_606) rfl rfl rfl hd_X7_hashStep ⟨Nat.le_of_ble_eq_true rfl, Nat.le_of_ble_eq_true rfl⟩) hP hD hS [] rfl rfl rfl hl (Nat.le_of_ble_eq_true rfl) dX7_hashLong_19) (fun H locs hP hD hS => ?_)
      refine lv_lstore (lv' := [(4, .long y_2), (2, .long v_2), (6, .int v_6)]) hx hb dX7_hashLong_22 hl (by decide) rfl (fun ls hl => ?_)
      obtain ⟨v6_3, e_v6_3⟩ : ∃ z : Int32, z = v_6 + (-8 : Int32) := ⟨_, rfl⟩
      replace hF := bnd_d hF e_v6_3
      refine lv_iinc (v := v6_3) (lv' := [(6, .int v6_3), (4, .long y_2), (2, .long v_2)]) hx hb dX7_hashLong_24 hl (k := 2) rfl (by rw [e_v6_3]; rfl) (by decide) rfl (fun ls hl => ?_)
      refine lv_goto (tgt := 7) hx hb dX7_hashLong_27 (by decide) ?_
      exact ih v_2 y_2 v6_3 y hF H locs ls hP hD hS (lv_sub hl [2, 1, 0] rfl)
set_option maxHeartbeats 4000000 in
set_option maxRecDepth 100000 in
theorem c_nu_hashLong (l : Launch) (D : va_G) (q : Nat → ClassId) (t : Nat)  (p_0 : Int64) (p_1 : Int64) (y : Int64) (hF : f_nu_hashLong p_0 p_1 = some y)  : cu l yX7_hashLong (vs yX7_hashLong cX7_hashLong 7 (some .long)) ({ frames := 1, cells := 0, slots := 0, locals := 24 }) D q t [.long p_0, .long p_1] [] (qL D q y []) := by
  refine cu_of (cc := cX7_hashLong) (nL := 7) (ret := (some .long)) (by decide) (Nat.le_of_ble_eq_true rfl) (fun {p e s m args below meth c A} C0 H locs ls hP hD hS hl => ?_)
  have C0 : cy p s m args meth c cX7_hashLong (some .long) 7 RX7 D q t A := C0
  obtain ⟨⟨hx, hb, hr, hml, hown, hts, hlocks, hK, hA⟩, hG⟩ := id C0
  have hl : lv_has ls 7 [(0, .long p_0), (2, .long p_1)] := hl
  unfold f_nu_hashLong at hF
  refine lv_lload_n hx hb dX7_hashLong_0 rfl (lv_at hl 0 rfl) ?_
  refine lv_lstore (lv' := [(4, .long p_0), (0, .long p_0), (2, .long p_1)]) hx hb dX7_hashLong_1 hl (by decide) rfl (fun ls hl => ?_)
  refine lv_bipush (v := (56 : Int32)) hx hb dX7_hashLong_3 (by decide) ?_
  refine lv_istore (lv' := [(6, .int (56 : Int32)), (4, .long p_0), (0, .long p_0), (2, .long p_1)]) hx hb dX7_hashLong_5 hl (by decide) rfl (fun ls hl => ?_)
  exact w_nu_hashLong_7 C0  FU p_1 p_0 (56 : Int32) y hF H locs ls hP hD hS (lv_sub hl [3, 1, 0] rfl)
set_option maxHeartbeats 4000000 in
set_option maxRecDepth 100000 in
theorem c_nu_hashOf (l : Launch) (D : va_G) (q : Nat → ClassId) (t : Nat)  (p_0 : Int64) (y : Int64) (hF : f_nu_hashOf p_0 = some y)  : cu l yX7_hashOf (vs yX7_hashOf cX7_hashOf 2 (some .long)) ({ frames := 2, cells := 0, slots := 0, locals := 50 }) D q t [.long p_0] [] (qL D q y []) := by
  refine cu_of (cc := cX7_hashOf) (nL := 2) (ret := (some .long)) (by decide) (Nat.le_of_ble_eq_true rfl) (fun {p e s m args below meth c A} C0 H locs ls hP hD hS hl => ?_)
  have C0 : cy p s m args meth c cX7_hashOf (some .long) 2 RX7 D q t A := C0
  obtain ⟨⟨hx, hb, hr, hml, hown, hts, hlocks, hK, hA⟩, hG⟩ := id C0
  have hl : lv_has ls 2 [(0, .long p_0)] := hl
  unfold f_nu_hashOf at hF
  refine lv_ldc2 (v := (7640891576956012809 : Int64)) hx hb hown (hts _ kw_615) dX7_hashOf_0 ?_
  refine lv_lload_n hx hb dX7_hashOf_3 rfl (lv_at hl 0 rfl) ?_
  obtain ⟨y_1, hy_1, hF⟩ := cal_d hF
  refine cf_l C0.1 hP hD hS [] [] [] (wr := []) (w' := []) rfl rfl rfl (by decide) rfl rfl (sn_S (As := [.long (7640891576956012809 : Int64), .long p_0]) (rest := []) C0 (c_nu_hashLong l D q t  (7640891576956012809 : Int64) p_0 y_1 hy_1) (va_cwS 2 hts (g_S kw_616 kw_617 kw_84 kw_618) rfl rfl rfl hd_X7_hashLong ⟨Nat.le_of_ble_eq_true rfl, Nat.le_of_ble_eq_true rfl⟩) hP hD hS [] rfl rfl rfl hl (Nat.le_of_ble_eq_true rfl) dX7_hashOf_4) (fun H locs hP hD hS => ?_)
  obtain ⟨y_2, hy_2, hF⟩ := cal_d hF
  refine cf_l C0.1 hP hD hS [] [] [] (wr := []) (w' := []) rfl rfl rfl (by decide) rfl rfl (sn_S (As := [.long y_1]) (rest := []) C0 (c_nu_hashEnd l D q t  y_1 y_2 hy_2) (va_cwS 1 hts (g_S kw_620 kw_609 kw_84 kw_610) rfl rfl rfl hd_X7_hashEnd ⟨Nat.le_of_ble_eq_true rfl, Nat.le_of_ble_eq_true rfl⟩) hP hD hS [] rfl rfl rfl hl (Nat.le_of_ble_eq_true rfl) dX7_hashOf_7) (fun H locs hP hD hS => ?_)
  have hy9 := (Option.some.inj hF).symm
  subst hy9
  exact rt_l C0.1 hP hD hS dX7_hashOf_10
set_option maxHeartbeats 4000000 in
set_option maxRecDepth 100000 in
theorem w_an_isToldByCert_53 {l : Launch} {p : Program} {e : Env} {s : State} {m : MethodId} {args : Array Value} {below : List Frame} {meth : Method} {c : Code} {A : Nat → Prop} {D : va_G} {q : Nat → ClassId} {t : Nat} (C0 : cy p s m args meth c cX0_isToldByCert (some .boolean) 4 RX0 D q t A) (a_o : Nat) (a_o_ids : Nat) (a_o_states : Nat) (a_o_since : Nat) (a_o_reasons : Nat) (a_o_from : Nat) (a_o_next : Nat) (a_o_cert : Nat) (a_p0 : Nat) (a_p0_data : Nat) (n_p0_data : Nat)  : ∀ (n : Nat) (x_o_status : Int32) (x_o_hasCert : Int32) (x_o_bodyPlace : Int32) (x_o_bodyEnd : Int32) (x_o_signature : Int64) (x_o_isByName : Int32) (x_o_tellerPlace : Int32) (x_o_tellerSize : Int32) (x_o_tellerHash : Int64) (x_o_noncePlace : Int32) (x_o_nonceSize : Int32) (x_o_cert_innerPlace : Int32) (x_o_cert_innerEnd : Int32) (x_o_cert_serial : Int32) (x_o_cert_issuerPlace : Int32) (x_o_cert_issuerSize : Int32) (x_o_cert_namePlace : Int32) (x_o_cert_nameSize : Int32) (x_o_cert_from : Int64) (x_o_cert_to : Int64) (x_o_cert_publicKey : Int64) (x_o_cert_flags : Int32) (x_o_cert_signature : Int64) (x_p0_length : Int32) (r_p0_data : (Nat → Int32)) (v_2 : Int32) (v_3 : Int32) (y : Int32) (hF : j_an_isToldByCert_53 n x_o_cert_namePlace x_o_cert_nameSize x_o_cert_publicKey x_o_isByName x_o_tellerHash x_o_tellerPlace x_o_tellerSize r_p0_data x_p0_length n_p0_data v_2 v_3 = some y), ∀ (H : Heap) (locs : List Loc) (ls : Array Slot), va_P D vwCl [oX0 a_o a_o_ids a_o_states a_o_since a_o_reasons a_o_from a_o_next a_o_cert x_o_status x_o_hasCert x_o_bodyPlace x_o_bodyEnd x_o_signature x_o_isByName x_o_tellerPlace x_o_tellerSize x_o_tellerHash x_o_noncePlace x_o_nonceSize, oX4 a_o_cert x_o_cert_innerPlace x_o_cert_innerEnd x_o_cert_serial x_o_cert_issuerPlace x_o_cert_issuerSize x_o_cert_namePlace x_o_cert_nameSize x_o_cert_from x_o_cert_to x_o_cert_publicKey x_o_cert_flags x_o_cert_signature, oX3 a_p0 a_p0_data x_p0_length, rB q a_p0_data n_p0_data r_p0_data] H → va_D A [oX0 a_o a_o_ids a_o_states a_o_since a_o_reasons a_o_from a_o_next a_o_cert x_o_status x_o_hasCert x_o_bodyPlace x_o_bodyEnd x_o_signature x_o_isByName x_o_tellerPlace x_o_tellerSize x_o_tellerHash x_o_noncePlace x_o_nonceSize, oX4 a_o_cert x_o_cert_innerPlace x_o_cert_innerEnd x_o_cert_serial x_o_cert_issuerPlace x_o_cert_issuerSize x_o_cert_namePlace x_o_cert_nameSize x_o_cert_from x_o_cert_to x_o_cert_publicKey x_o_cert_flags x_o_cert_signature, oX3 a_p0 a_p0_data x_p0_length, rB q a_p0_data n_p0_data r_p0_data] → va_S A s.heap H locs → lv_has ls 4 [(0, .ref a_o), (1, .ref a_p0), (2, .int v_2), (3, .int v_3)] → W p l e ({ frames := 3, cells := 0, slots := 0, locals := 71 }) s m args below meth c H locs 0 0 (MQ below (qI D q y [oX0 a_o a_o_ids a_o_states a_o_since a_o_reasons a_o_from a_o_next a_o_cert x_o_status x_o_hasCert x_o_bodyPlace x_o_bodyEnd x_o_signature x_o_isByName x_o_tellerPlace x_o_tellerSize x_o_tellerHash x_o_noncePlace x_o_nonceSize, oX4 a_o_cert x_o_cert_innerPlace x_o_cert_innerEnd x_o_cert_serial x_o_cert_issuerPlace x_o_cert_issuerSize x_o_cert_namePlace x_o_cert_nameSize x_o_cert_from x_o_cert_to x_o_cert_publicKey x_o_cert_flags x_o_cert_signature, oX3 a_p0 a_p0_data x_p0_length, rB q a_p0_data n_p0_data r_p0_data] A) args s 0 0 A) (F0 m 53 ls []) := by
  obtain ⟨⟨hx, hb, hr, hml, hown, hts, hlocks, hK, hA⟩, hG⟩ := id C0
  intro n
  induction n with
  | zero =>
    intro x_o_status x_o_hasCert x_o_bodyPlace x_o_bodyEnd x_o_signature x_o_isByName x_o_tellerPlace x_o_tellerSize x_o_tellerHash x_o_noncePlace x_o_nonceSize x_o_cert_innerPlace x_o_cert_innerEnd x_o_cert_serial x_o_cert_issuerPlace x_o_cert_issuerSize x_o_cert_namePlace x_o_cert_nameSize x_o_cert_from x_o_cert_to x_o_cert_publicKey x_o_cert_flags x_o_cert_signature x_p0_length r_p0_data v_2 v_3 y hF
    exact absurd (show (none : Option (Int32)) = some y from hF) (fun h => by cases h)
  | succ n ih =>
    intro x_o_status x_o_hasCert x_o_bodyPlace x_o_bodyEnd x_o_signature x_o_isByName x_o_tellerPlace x_o_tellerSize x_o_tellerHash x_o_noncePlace x_o_nonceSize x_o_cert_innerPlace x_o_cert_innerEnd x_o_cert_serial x_o_cert_issuerPlace x_o_cert_issuerSize x_o_cert_namePlace x_o_cert_nameSize x_o_cert_from x_o_cert_to x_o_cert_publicKey x_o_cert_flags x_o_cert_signature x_p0_length r_p0_data v_2 v_3 y hF H locs ls hP hD hS hl
    rw [j_an_isToldByCert_53] at hF
    refine lv_iload_n hx hb dX0_isToldByCert_53 rfl (lv_at hl 2 rfl) ?_
    refine lv_if_eq (tgt := 103) hx hb dX0_isToldByCert_54 (by decide) (fun c_5 => ?_) (fun c_5 => ?_)
    · replace hF := ite_t hF c_5
      refine lv_iload_n hx hb dX0_isToldByCert_103 rfl (lv_at hl 2 rfl) ?_
      obtain ⟨z_6, hF⟩ := chk_d hF
      have hy9 := (Option.some.inj hF).symm
      subst hy9
      exact rt_z C0.1 z_6 hP hD hS dX0_isToldByCert_104
    · replace hF := ite_f hF c_5
      refine lv_iload_n hx hb dX0_isToldByCert_57 rfl (lv_at hl 3 rfl) ?_
      refine lv_aload_n hx hb dX0_isToldByCert_58 rfl (lv_at hl 0 rfl) ?_
      refine va_get (D := D) (ci := 0) (v := .int x_o_tellerSize) (C := RX0) (T := TX0) (N := 18) hx hb hts iw_X0 hown hK hP 0 rfl rfl 14 (by decide) (hts _ kw_341) (fun _ h9 => h9) rfl dX0_isToldByCert_59 ?_
      refine lv_icmp_ge (tgt := 103) hx hb dX0_isToldByCert_62 (by decide) (fun c_7 => ?_) (fun c_7 => ?_)
      · replace hF := ite_t hF c_7
        refine lv_iload_n hx hb dX0_isToldByCert_103 rfl (lv_at hl 2 rfl) ?_
        obtain ⟨z_8, hF⟩ := chk_d hF
        have hy9 := (Option.some.inj hF).symm
        subst hy9
        exact rt_z C0.1 z_8 hP hD hS dX0_isToldByCert_104
      · replace hF := ite_f hF c_7
        refine lv_aload_n hx hb dX0_isToldByCert_65 rfl (lv_at hl 1 rfl) ?_
        refine lv_aload_n hx hb dX0_isToldByCert_66 rfl (lv_at hl 0 rfl) ?_
        refine va_get (D := D) (ci := 0) (v := .int x_o_tellerPlace) (C := RX0) (T := TX0) (N := 18) hx hb hts iw_X0 hown hK hP 0 rfl rfl 13 (by decide) (hts _ kw_340) (fun _ h9 => h9) rfl dX0_isToldByCert_67 ?_
        refine lv_iload_n hx hb dX0_isToldByCert_70 rfl (lv_at hl 3 rfl) ?_
        refine lv_iadd hx hb dX0_isToldByCert_71 ?_
        obtain ⟨y_9, hy_9, hF⟩ := cal_d hF
        refine cf_i C0.1 hP hD hS [2, 3] [0, 1] [0, 1, 2, 3] (wr := [oX0 a_o a_o_ids a_o_states a_o_since a_o_reasons a_o_from a_o_next a_o_cert x_o_status x_o_hasCert x_o_bodyPlace x_o_bodyEnd x_o_signature x_o_isByName x_o_tellerPlace x_o_tellerSize x_o_tellerHash x_o_noncePlace x_o_nonceSize, oX4 a_o_cert x_o_cert_innerPlace x_o_cert_innerEnd x_o_cert_serial x_o_cert_issuerPlace x_o_cert_issuerSize x_o_cert_namePlace x_o_cert_nameSize x_o_cert_from x_o_cert_to x_o_cert_publicKey x_o_cert_flags x_o_cert_signature]) (w' := [oX0 a_o a_o_ids a_o_states a_o_since a_o_reasons a_o_from a_o_next a_o_cert x_o_status x_o_hasCert x_o_bodyPlace x_o_bodyEnd x_o_signature x_o_isByName x_o_tellerPlace x_o_tellerSize x_o_tellerHash x_o_noncePlace x_o_nonceSize, oX4 a_o_cert x_o_cert_innerPlace x_o_cert_innerEnd x_o_cert_serial x_o_cert_issuerPlace x_o_cert_issuerSize x_o_cert_namePlace x_o_cert_nameSize x_o_cert_from x_o_cert_to x_o_cert_publicKey x_o_cert_flags x_o_cert_signature, oX3 a_p0 a_p0_data x_p0_length, rB q a_p0_data n_p0_data r_p0_data]) rfl rfl rfl (by decide) rfl rfl (sn_V (As := [.int (x_o_tellerPlace + v_3)]) (rest := []) (ci := 3) (q0 := 2) C0 (c_by_byteAt l D q t a_p0 x_p0_length a_p0_data n_p0_data r_p0_data (x_o_tellerPlace + v_3) y_9 hy_9) (cwV 1 hts (g_V kw_999 kw_547 kw_548 kw_73 kw_549) rfl rfl rfl hd_X3_byteAt ⟨Nat.le_of_ble_eq_true rfl, Nat.le_of_ble_eq_true rfl⟩) hP hD hS [2, 3] rfl rfl rfl rfl rfl rfl hl (Nat.le_of_ble_eq_true rfl) dX0_isToldByCert_72) (fun H locs hP hD hS => ?_)
        refine lv_aload_n hx hb dX0_isToldByCert_75 rfl (lv_at hl 1 rfl) ?_
        refine lv_aload_n hx hb dX0_isToldByCert_76 rfl (lv_at hl 0 rfl) ?_
        refine va_get (D := D) (ci := 0) (v := .ref a_o_cert) (C := RX0) (T := TX0) (N := 18) hx hb hts iw_X0 hown hK hP 0 rfl rfl 6 (by decide) (hts _ kw_327) (fun _ h9 => h9) rfl dX0_isToldByCert_77 ?_
        refine va_get (D := D) (ci := 4) (v := .int x_o_cert_namePlace) (C := RX4) (T := TX4) (N := 12) hx hb hts iw_X4 hown hK hP 1 rfl rfl 5 (by decide) (hts _ kw_275) (fun _ h9 => h9) rfl dX0_isToldByCert_80 ?_
        refine lv_iload_n hx hb dX0_isToldByCert_83 rfl (lv_at hl 3 rfl) ?_
        refine lv_iadd hx hb dX0_isToldByCert_84 ?_
        obtain ⟨y_10, hy_10, hF⟩ := cal_d hF
        refine cf_i C0.1 hP hD hS [2, 3] [0, 1] [0, 1, 2, 3] (wr := [oX0 a_o a_o_ids a_o_states a_o_since a_o_reasons a_o_from a_o_next a_o_cert x_o_status x_o_hasCert x_o_bodyPlace x_o_bodyEnd x_o_signature x_o_isByName x_o_tellerPlace x_o_tellerSize x_o_tellerHash x_o_noncePlace x_o_nonceSize, oX4 a_o_cert x_o_cert_innerPlace x_o_cert_innerEnd x_o_cert_serial x_o_cert_issuerPlace x_o_cert_issuerSize x_o_cert_namePlace x_o_cert_nameSize x_o_cert_from x_o_cert_to x_o_cert_publicKey x_o_cert_flags x_o_cert_signature]) (w' := [oX0 a_o a_o_ids a_o_states a_o_since a_o_reasons a_o_from a_o_next a_o_cert x_o_status x_o_hasCert x_o_bodyPlace x_o_bodyEnd x_o_signature x_o_isByName x_o_tellerPlace x_o_tellerSize x_o_tellerHash x_o_noncePlace x_o_nonceSize, oX4 a_o_cert x_o_cert_innerPlace x_o_cert_innerEnd x_o_cert_serial x_o_cert_issuerPlace x_o_cert_issuerSize x_o_cert_namePlace x_o_cert_nameSize x_o_cert_from x_o_cert_to x_o_cert_publicKey x_o_cert_flags x_o_cert_signature, oX3 a_p0 a_p0_data x_p0_length, rB q a_p0_data n_p0_data r_p0_data]) rfl rfl rfl (by decide) rfl rfl (sn_V (As := [.int (x_o_cert_namePlace + v_3)]) (rest := [.int y_9]) (ci := 3) (q0 := 2) C0 (c_by_byteAt l D q t a_p0 x_p0_length a_p0_data n_p0_data r_p0_data (x_o_cert_namePlace + v_3) y_10 hy_10) (cwV 1 hts (g_V kw_999 kw_547 kw_548 kw_73 kw_549) rfl rfl rfl hd_X3_byteAt ⟨Nat.le_of_ble_eq_true rfl, Nat.le_of_ble_eq_true rfl⟩) hP hD hS [2, 3] rfl rfl rfl rfl rfl rfl hl (Nat.le_of_ble_eq_true rfl) dX0_isToldByCert_85) (fun H locs hP hD hS => ?_)
        refine lv_icmp_ne (tgt := 95) hx hb dX0_isToldByCert_88 (by decide) (fun c_11 => ?_) (fun c_11 => ?_)
        · replace hF := ite_f hF c_11
          refine lv_iconst (v := (0 : Int32)) hx hb dX0_isToldByCert_95 (by decide) ?_
          refine lv_istore_n (lv' := [(2, .int (0 : Int32)), (0, .ref a_o), (1, .ref a_p0), (3, .int v_3)]) hx hb dX0_isToldByCert_96 rfl hl (by decide) rfl (fun ls hl => ?_)
          obtain ⟨v3_12, e_v3_12⟩ : ∃ z : Int32, z = v_3 + (1 : Int32) := ⟨_, rfl⟩
          replace hF := bnd_d hF e_v3_12
          refine lv_iinc (v := v3_12) (lv' := [(3, .int v3_12), (2, .int (0 : Int32)), (0, .ref a_o), (1, .ref a_p0)]) hx hb dX0_isToldByCert_97 hl (k := 3) rfl (by rw [e_v3_12]; rfl) (by decide) rfl (fun ls hl => ?_)
          refine lv_goto (tgt := 53) hx hb dX0_isToldByCert_100 (by decide) ?_
          exact ih x_o_status x_o_hasCert x_o_bodyPlace x_o_bodyEnd x_o_signature x_o_isByName x_o_tellerPlace x_o_tellerSize x_o_tellerHash x_o_noncePlace x_o_nonceSize x_o_cert_innerPlace x_o_cert_innerEnd x_o_cert_serial x_o_cert_issuerPlace x_o_cert_issuerSize x_o_cert_namePlace x_o_cert_nameSize x_o_cert_from x_o_cert_to x_o_cert_publicKey x_o_cert_flags x_o_cert_signature x_p0_length r_p0_data (0 : Int32) v3_12 y hF H locs ls hP hD hS (lv_sub hl [2, 3, 1, 0] rfl)
        · replace hF := ite_t hF c_11
          refine lv_iconst (v := (1 : Int32)) hx hb dX0_isToldByCert_91 (by decide) ?_
          refine lv_goto (tgt := 96) hx hb dX0_isToldByCert_92 (by decide) ?_
          refine lv_istore_n (lv' := [(2, .int (1 : Int32)), (0, .ref a_o), (1, .ref a_p0), (3, .int v_3)]) hx hb dX0_isToldByCert_96 rfl hl (by decide) rfl (fun ls hl => ?_)
          obtain ⟨v3_13, e_v3_13⟩ : ∃ z : Int32, z = v_3 + (1 : Int32) := ⟨_, rfl⟩
          replace hF := bnd_d hF e_v3_13
          refine lv_iinc (v := v3_13) (lv' := [(3, .int v3_13), (2, .int (1 : Int32)), (0, .ref a_o), (1, .ref a_p0)]) hx hb dX0_isToldByCert_97 hl (k := 3) rfl (by rw [e_v3_13]; rfl) (by decide) rfl (fun ls hl => ?_)
          refine lv_goto (tgt := 53) hx hb dX0_isToldByCert_100 (by decide) ?_
          exact ih x_o_status x_o_hasCert x_o_bodyPlace x_o_bodyEnd x_o_signature x_o_isByName x_o_tellerPlace x_o_tellerSize x_o_tellerHash x_o_noncePlace x_o_nonceSize x_o_cert_innerPlace x_o_cert_innerEnd x_o_cert_serial x_o_cert_issuerPlace x_o_cert_issuerSize x_o_cert_namePlace x_o_cert_nameSize x_o_cert_from x_o_cert_to x_o_cert_publicKey x_o_cert_flags x_o_cert_signature x_p0_length r_p0_data (1 : Int32) v3_13 y hF H locs ls hP hD hS (lv_sub hl [2, 3, 1, 0] rfl)
set_option maxHeartbeats 4000000 in
set_option maxRecDepth 100000 in
theorem c_an_isToldByCert (l : Launch) (D : va_G) (q : Nat → ClassId) (t : Nat) (a_o : Nat) (a_o_ids : Nat) (a_o_states : Nat) (a_o_since : Nat) (a_o_reasons : Nat) (a_o_from : Nat) (a_o_next : Nat) (x_o_status : Int32) (x_o_hasCert : Int32) (x_o_bodyPlace : Int32) (x_o_bodyEnd : Int32) (x_o_signature : Int64) (x_o_isByName : Int32) (x_o_tellerPlace : Int32) (x_o_tellerSize : Int32) (x_o_tellerHash : Int64) (x_o_noncePlace : Int32) (x_o_nonceSize : Int32) (a_o_cert : Nat) (x_o_cert_innerPlace : Int32) (x_o_cert_innerEnd : Int32) (x_o_cert_serial : Int32) (x_o_cert_issuerPlace : Int32) (x_o_cert_issuerSize : Int32) (x_o_cert_namePlace : Int32) (x_o_cert_nameSize : Int32) (x_o_cert_from : Int64) (x_o_cert_to : Int64) (x_o_cert_publicKey : Int64) (x_o_cert_flags : Int32) (x_o_cert_signature : Int64) (a_p0 : Nat) (x_p0_length : Int32) (a_p0_data : Nat) (n_p0_data : Nat) (r_p0_data : (Nat → Int32))  (y : Int32) (hF : f_an_isToldByCert x_o_cert_namePlace x_o_cert_nameSize x_o_cert_publicKey x_o_isByName x_o_tellerHash x_o_tellerPlace x_o_tellerSize r_p0_data x_p0_length n_p0_data = some y)  : cu l yX0_isToldByCert (vs yX0_isToldByCert cX0_isToldByCert 4 (some .boolean)) ({ frames := 3, cells := 0, slots := 0, locals := 71 }) D q t [.ref a_o, .ref a_p0] [oX0 a_o a_o_ids a_o_states a_o_since a_o_reasons a_o_from a_o_next a_o_cert x_o_status x_o_hasCert x_o_bodyPlace x_o_bodyEnd x_o_signature x_o_isByName x_o_tellerPlace x_o_tellerSize x_o_tellerHash x_o_noncePlace x_o_nonceSize, oX4 a_o_cert x_o_cert_innerPlace x_o_cert_innerEnd x_o_cert_serial x_o_cert_issuerPlace x_o_cert_issuerSize x_o_cert_namePlace x_o_cert_nameSize x_o_cert_from x_o_cert_to x_o_cert_publicKey x_o_cert_flags x_o_cert_signature, oX3 a_p0 a_p0_data x_p0_length, rB q a_p0_data n_p0_data r_p0_data] (qI D q y [oX0 a_o a_o_ids a_o_states a_o_since a_o_reasons a_o_from a_o_next a_o_cert x_o_status x_o_hasCert x_o_bodyPlace x_o_bodyEnd x_o_signature x_o_isByName x_o_tellerPlace x_o_tellerSize x_o_tellerHash x_o_noncePlace x_o_nonceSize, oX4 a_o_cert x_o_cert_innerPlace x_o_cert_innerEnd x_o_cert_serial x_o_cert_issuerPlace x_o_cert_issuerSize x_o_cert_namePlace x_o_cert_nameSize x_o_cert_from x_o_cert_to x_o_cert_publicKey x_o_cert_flags x_o_cert_signature, oX3 a_p0 a_p0_data x_p0_length, rB q a_p0_data n_p0_data r_p0_data]) := by
  refine cu_of (cc := cX0_isToldByCert) (nL := 4) (ret := (some .boolean)) (by decide) (Nat.le_of_ble_eq_true rfl) (fun {p e s m args below meth c A} C0 H locs ls hP hD hS hl => ?_)
  have C0 : cy p s m args meth c cX0_isToldByCert (some .boolean) 4 RX0 D q t A := C0
  obtain ⟨⟨hx, hb, hr, hml, hown, hts, hlocks, hK, hA⟩, hG⟩ := id C0
  have hl : lv_has ls 4 [(0, .ref a_o), (1, .ref a_p0)] := hl
  unfold f_an_isToldByCert at hF
  refine lv_aload_n hx hb dX0_isToldByCert_0 rfl (lv_at hl 0 rfl) ?_
  refine va_get (D := D) (ci := 0) (v := .int x_o_isByName) (C := RX0) (T := TX0) (N := 18) hx hb hts iw_X0 hown hK hP 0 rfl rfl 12 (by decide) (hts _ kw_339) (fun _ h9 => h9) rfl dX0_isToldByCert_1 ?_
  refine lv_if_ne (tgt := 31) hx hb dX0_isToldByCert_4 (by decide) (fun c_1 => ?_) (fun c_1 => ?_)
  · replace hF := ite_f hF c_1
    refine lv_aload_n hx hb dX0_isToldByCert_31 rfl (lv_at hl 0 rfl) ?_
    refine va_get (D := D) (ci := 0) (v := .int x_o_tellerSize) (C := RX0) (T := TX0) (N := 18) hx hb hts iw_X0 hown hK hP 0 rfl rfl 14 (by decide) (hts _ kw_341) (fun _ h9 => h9) rfl dX0_isToldByCert_32 ?_
    refine lv_aload_n hx hb dX0_isToldByCert_35 rfl (lv_at hl 0 rfl) ?_
    refine va_get (D := D) (ci := 0) (v := .ref a_o_cert) (C := RX0) (T := TX0) (N := 18) hx hb hts iw_X0 hown hK hP 0 rfl rfl 6 (by decide) (hts _ kw_327) (fun _ h9 => h9) rfl dX0_isToldByCert_36 ?_
    refine va_get (D := D) (ci := 4) (v := .int x_o_cert_nameSize) (C := RX4) (T := TX4) (N := 12) hx hb hts iw_X4 hown hK hP 1 rfl rfl 6 (by decide) (hts _ kw_277) (fun _ h9 => h9) rfl dX0_isToldByCert_39 ?_
    refine lv_icmp_ne (tgt := 49) hx hb dX0_isToldByCert_42 (by decide) (fun c_2 => ?_) (fun c_2 => ?_)
    · replace hF := ite_f hF c_2
      refine lv_iconst (v := (0 : Int32)) hx hb dX0_isToldByCert_49 (by decide) ?_
      refine lv_istore_n (lv' := [(2, .int (0 : Int32)), (0, .ref a_o), (1, .ref a_p0)]) hx hb dX0_isToldByCert_50 rfl hl (by decide) rfl (fun ls hl => ?_)
      refine lv_iconst (v := (0 : Int32)) hx hb dX0_isToldByCert_51 (by decide) ?_
      refine lv_istore_n (lv' := [(3, .int (0 : Int32)), (2, .int (0 : Int32)), (0, .ref a_o), (1, .ref a_p0)]) hx hb dX0_isToldByCert_52 rfl hl (by decide) rfl (fun ls hl => ?_)
      exact w_an_isToldByCert_53 C0 a_o a_o_ids a_o_states a_o_since a_o_reasons a_o_from a_o_next a_o_cert a_p0 a_p0_data n_p0_data FU x_o_status x_o_hasCert x_o_bodyPlace x_o_bodyEnd x_o_signature x_o_isByName x_o_tellerPlace x_o_tellerSize x_o_tellerHash x_o_noncePlace x_o_nonceSize x_o_cert_innerPlace x_o_cert_innerEnd x_o_cert_serial x_o_cert_issuerPlace x_o_cert_issuerSize x_o_cert_namePlace x_o_cert_nameSize x_o_cert_from x_o_cert_to x_o_cert_publicKey x_o_cert_flags x_o_cert_signature x_p0_length r_p0_data (0 : Int32) (0 : Int32) y hF H locs ls hP hD hS (lv_sub hl [2, 3, 1, 0] rfl)
    · replace hF := ite_t hF c_2
      refine lv_iconst (v := (1 : Int32)) hx hb dX0_isToldByCert_45 (by decide) ?_
      refine lv_goto (tgt := 50) hx hb dX0_isToldByCert_46 (by decide) ?_
      refine lv_istore_n (lv' := [(2, .int (1 : Int32)), (0, .ref a_o), (1, .ref a_p0)]) hx hb dX0_isToldByCert_50 rfl hl (by decide) rfl (fun ls hl => ?_)
      refine lv_iconst (v := (0 : Int32)) hx hb dX0_isToldByCert_51 (by decide) ?_
      refine lv_istore_n (lv' := [(3, .int (0 : Int32)), (2, .int (1 : Int32)), (0, .ref a_o), (1, .ref a_p0)]) hx hb dX0_isToldByCert_52 rfl hl (by decide) rfl (fun ls hl => ?_)
      exact w_an_isToldByCert_53 C0 a_o a_o_ids a_o_states a_o_since a_o_reasons a_o_from a_o_next a_o_cert a_p0 a_p0_data n_p0_data FU x_o_status x_o_hasCert x_o_bodyPlace x_o_bodyEnd x_o_signature x_o_isByName x_o_tellerPlace x_o_tellerSize x_o_tellerHash x_o_noncePlace x_o_nonceSize x_o_cert_innerPlace x_o_cert_innerEnd x_o_cert_serial x_o_cert_issuerPlace x_o_cert_issuerSize x_o_cert_namePlace x_o_cert_nameSize x_o_cert_from x_o_cert_to x_o_cert_publicKey x_o_cert_flags x_o_cert_signature x_p0_length r_p0_data (1 : Int32) (0 : Int32) y hF H locs ls hP hD hS (lv_sub hl [2, 3, 1, 0] rfl)
  · replace hF := ite_t hF c_1
    refine lv_aload_n hx hb dX0_isToldByCert_7 rfl (lv_at hl 0 rfl) ?_
    refine va_get (D := D) (ci := 0) (v := .long x_o_tellerHash) (C := RX0) (T := TX0) (N := 18) hx hb hts iw_X0 hown hK hP 0 rfl rfl 15 (by decide) (hts _ kw_342) (fun _ h9 => h9) rfl dX0_isToldByCert_8 ?_
    refine lv_aload_n hx hb dX0_isToldByCert_11 rfl (lv_at hl 0 rfl) ?_
    refine va_get (D := D) (ci := 0) (v := .ref a_o_cert) (C := RX0) (T := TX0) (N := 18) hx hb hts iw_X0 hown hK hP 0 rfl rfl 6 (by decide) (hts _ kw_327) (fun _ h9 => h9) rfl dX0_isToldByCert_12 ?_
    refine va_get (D := D) (ci := 4) (v := .long x_o_cert_publicKey) (C := RX4) (T := TX4) (N := 12) hx hb hts iw_X4 hown hK hP 1 rfl rfl 9 (by decide) (hts _ kw_283) (fun _ h9 => h9) rfl dX0_isToldByCert_15 ?_
    obtain ⟨y_3, hy_3, hF⟩ := cal_d hF
    refine cf_l C0.1 hP hD hS [] [0, 1, 2, 3] [0, 1, 2, 3] (wr := [oX0 a_o a_o_ids a_o_states a_o_since a_o_reasons a_o_from a_o_next a_o_cert x_o_status x_o_hasCert x_o_bodyPlace x_o_bodyEnd x_o_signature x_o_isByName x_o_tellerPlace x_o_tellerSize x_o_tellerHash x_o_noncePlace x_o_nonceSize, oX4 a_o_cert x_o_cert_innerPlace x_o_cert_innerEnd x_o_cert_serial x_o_cert_issuerPlace x_o_cert_issuerSize x_o_cert_namePlace x_o_cert_nameSize x_o_cert_from x_o_cert_to x_o_cert_publicKey x_o_cert_flags x_o_cert_signature, oX3 a_p0 a_p0_data x_p0_length, rB q a_p0_data n_p0_data r_p0_data]) (w' := [oX0 a_o a_o_ids a_o_states a_o_since a_o_reasons a_o_from a_o_next a_o_cert x_o_status x_o_hasCert x_o_bodyPlace x_o_bodyEnd x_o_signature x_o_isByName x_o_tellerPlace x_o_tellerSize x_o_tellerHash x_o_noncePlace x_o_nonceSize, oX4 a_o_cert x_o_cert_innerPlace x_o_cert_innerEnd x_o_cert_serial x_o_cert_issuerPlace x_o_cert_issuerSize x_o_cert_namePlace x_o_cert_nameSize x_o_cert_from x_o_cert_to x_o_cert_publicKey x_o_cert_flags x_o_cert_signature, oX3 a_p0 a_p0_data x_p0_length, rB q a_p0_data n_p0_data r_p0_data]) rfl rfl rfl (by decide) rfl rfl (sn_S (As := [.long x_o_cert_publicKey]) (rest := [.long x_o_tellerHash]) C0 (c_nu_hashOf l D q t  x_o_cert_publicKey y_3 hy_3) (va_cwS 1 hts (g_S kw_998 kw_613 kw_84 kw_614) rfl rfl rfl hd_X7_hashOf ⟨Nat.le_of_ble_eq_true rfl, Nat.le_of_ble_eq_true rfl⟩) hP hD hS [] rfl rfl rfl hl (Nat.le_of_ble_eq_true rfl) dX0_isToldByCert_18) (fun H locs hP hD hS => ?_)
    refine W.lcmp hx hb dX0_isToldByCert_21 ?_
    refine lv_if_ne (tgt := 29) hx hb dX0_isToldByCert_22 (by decide) (fun c_4 => ?_) (fun c_4 => ?_)
    · replace hF := ite_f hF (fun h => c_4 ((lg_cmp_eq _ _).mpr h))
      refine lv_iconst (v := (0 : Int32)) hx hb dX0_isToldByCert_29 (by decide) ?_
      have hy9 := (Option.some.inj hF).symm
      subst hy9
      exact rt_z (v := (0 : Int32)) C0.1 rfl hP hD hS dX0_isToldByCert_30
    · replace hF := ite_t hF ((lg_cmp_eq _ _).mp c_4)
      refine lv_iconst (v := (1 : Int32)) hx hb dX0_isToldByCert_25 (by decide) ?_
      refine lv_goto (tgt := 30) hx hb dX0_isToldByCert_26 (by decide) ?_
      have hy9 := (Option.some.inj hF).symm
      subst hy9
      exact rt_z (v := (1 : Int32)) C0.1 rfl hP hD hS dX0_isToldByCert_30
set_option maxHeartbeats 4000000 in
set_option maxRecDepth 100000 in
theorem c_an_verdictOnSingle (l : Launch) (D : va_G) (q : Nat → ClassId) (t : Nat) (a_o : Nat) (a_o_since : Nat) (a_o_reasons : Nat) (a_o_cert : Nat) (x_o_status : Int32) (x_o_hasCert : Int32) (x_o_bodyPlace : Int32) (x_o_bodyEnd : Int32) (x_o_signature : Int64) (x_o_isByName : Int32) (x_o_tellerPlace : Int32) (x_o_tellerSize : Int32) (x_o_tellerHash : Int64) (x_o_noncePlace : Int32) (x_o_nonceSize : Int32) (a_o_from : Nat) (r_o_from : (Nat → Int64)) (a_o_ids : Nat) (a_o_ids_nameHashes : Nat) (a_o_ids_keyHashes : Nat) (a_o_ids_serials : Nat) (x_o_ids_count : Int32) (a_o_next : Nat) (r_o_next : (Nat → Int64)) (a_o_states : Nat) (r_o_states : (Nat → Int32)) (p_0 : Int32) (p_1 : Int64) (p_2 : Int32) (p_3 : Int32) (y : Int32) (hF : f_an_verdictOnSingle r_o_from x_o_ids_count r_o_next r_o_states p_0 p_1 p_2 p_3 = some y)  : cu l yX0_verdictOnSingle (vs yX0_verdictOnSingle cX0_verdictOnSingle 6 (some .int)) ({ frames := 0, cells := 0, slots := 0, locals := 0 }) D q t [.ref a_o, .int p_0, .long p_1, .int p_2, .int p_3] [oX0 a_o a_o_ids a_o_states a_o_since a_o_reasons a_o_from a_o_next a_o_cert x_o_status x_o_hasCert x_o_bodyPlace x_o_bodyEnd x_o_signature x_o_isByName x_o_tellerPlace x_o_tellerSize x_o_tellerHash x_o_noncePlace x_o_nonceSize, rJ q a_o_from 8 r_o_from, oX6 a_o_ids a_o_ids_nameHashes a_o_ids_keyHashes a_o_ids_serials x_o_ids_count, rJ q a_o_next 8 r_o_next, rI q a_o_states 8 r_o_states] (qI D q y [oX0 a_o a_o_ids a_o_states a_o_since a_o_reasons a_o_from a_o_next a_o_cert x_o_status x_o_hasCert x_o_bodyPlace x_o_bodyEnd x_o_signature x_o_isByName x_o_tellerPlace x_o_tellerSize x_o_tellerHash x_o_noncePlace x_o_nonceSize, rJ q a_o_from 8 r_o_from, oX6 a_o_ids a_o_ids_nameHashes a_o_ids_keyHashes a_o_ids_serials x_o_ids_count, rJ q a_o_next 8 r_o_next, rI q a_o_states 8 r_o_states]) := by
  refine cu_of (cc := cX0_verdictOnSingle) (nL := 6) (ret := (some .int)) (by decide) (Nat.le_of_ble_eq_true rfl) (fun {p e s m args below meth c A} C0 H locs ls hP hD hS hl => ?_)
  have C0 : cy p s m args meth c cX0_verdictOnSingle (some .int) 6 RX0 D q t A := C0
  obtain ⟨⟨hx, hb, hr, hml, hown, hts, hlocks, hK, hA⟩, hG⟩ := id C0
  have hl : lv_has ls 6 [(0, .ref a_o), (1, .int p_0), (2, .long p_1), (4, .int p_2), (5, .int p_3)] := hl
  unfold f_an_verdictOnSingle at hF
  refine lv_iload_n hx hb dX0_verdictOnSingle_0 rfl (lv_at hl 1 rfl) ?_
  refine lv_if_lt (tgt := 15) hx hb dX0_verdictOnSingle_1 (by decide) (fun c_1 => ?_) (fun c_1 => ?_)
  · replace hF := ite_t hF c_1
    refine lv_bipush (v := (30 : Int32)) hx hb dX0_verdictOnSingle_15 (by decide) ?_
    have hy9 := (Option.some.inj hF).symm
    subst hy9
    exact rt_i C0.1 hP hD hS dX0_verdictOnSingle_17
  · replace hF := ite_f hF c_1
    refine lv_iload_n hx hb dX0_verdictOnSingle_4 rfl (lv_at hl 1 rfl) ?_
    refine lv_aload_n hx hb dX0_verdictOnSingle_5 rfl (lv_at hl 0 rfl) ?_
    refine va_get (D := D) (ci := 0) (v := .ref a_o_ids) (C := RX0) (T := TX0) (N := 18) hx hb hts iw_X0 hown hK hP 0 rfl rfl 0 (by decide) (hts _ kw_314) (fun _ h9 => h9) rfl dX0_verdictOnSingle_6 ?_
    refine va_get (D := D) (ci := 6) (v := .int x_o_ids_count) (C := RX6) (T := TX6) (N := 4) hx hb hts iw_X6 hown hK hP 2 rfl rfl 3 (by decide) (hts _ kw_173) (fun _ h9 => h9) rfl dX0_verdictOnSingle_9 ?_
    refine lv_icmp_lt (tgt := 18) hx hb dX0_verdictOnSingle_12 (by decide) (fun c_2 => ?_) (fun c_2 => ?_)
    · replace hF := ite_t hF c_2
      refine lv_aload_n hx hb dX0_verdictOnSingle_18 rfl (lv_at hl 0 rfl) ?_
      refine va_get (D := D) (ci := 0) (v := .ref a_o_from) (C := RX0) (T := TX0) (N := 18) hx hb hts iw_X0 hown hK hP 0 rfl rfl 4 (by decide) (hts _ kw_323) (fun _ h9 => h9) rfl dX0_verdictOnSingle_19 ?_
      refine lv_iload_n hx hb dX0_verdictOnSingle_22 rfl (lv_at hl 1 rfl) ?_
      obtain ⟨z_3, hF⟩ := chk_d hF
      refine va_lald hx hb hK hP 1 2 rfl rfl z_3 dX0_verdictOnSingle_23 ?_
      refine lv_lload_n hx hb dX0_verdictOnSingle_24 rfl (lv_at hl 2 rfl) ?_
      refine lv_iload hx hb dX0_verdictOnSingle_25 (lv_at hl 3 rfl) ?_
      refine lv_i2l hx hb dX0_verdictOnSingle_27 rfl ?_
      refine lv_ladd hx hb dX0_verdictOnSingle_28 ?_
      refine W.lcmp hx hb dX0_verdictOnSingle_29 ?_
      refine lv_if_le (tgt := 36) hx hb dX0_verdictOnSingle_30 (by decide) (fun c_4 => ?_) (fun c_4 => ?_)
      · replace hF := ite_t hF ((lg_cmp_le _ _).mp c_4)
        refine lv_aload_n hx hb dX0_verdictOnSingle_36 rfl (lv_at hl 0 rfl) ?_
        refine va_get (D := D) (ci := 0) (v := .ref a_o_next) (C := RX0) (T := TX0) (N := 18) hx hb hts iw_X0 hown hK hP 0 rfl rfl 5 (by decide) (hts _ kw_325) (fun _ h9 => h9) rfl dX0_verdictOnSingle_37 ?_
        refine lv_iload_n hx hb dX0_verdictOnSingle_40 rfl (lv_at hl 1 rfl) ?_
        obtain ⟨z_5, hF⟩ := chk_d hF
        refine va_lald hx hb hK hP 3 2 rfl rfl z_5 dX0_verdictOnSingle_41 ?_
        refine lv_ldc2 (v := (-1 : Int64)) hx hb hown (hts _ kw_947) dX0_verdictOnSingle_42 ?_
        refine W.lcmp hx hb dX0_verdictOnSingle_45 ?_
        refine lv_if_ne (tgt := 76) hx hb dX0_verdictOnSingle_46 (by decide) (fun c_6 => ?_) (fun c_6 => ?_)
        · replace hF := ite_f hF (fun h => c_6 ((lg_cmp_eq _ _).mpr h))
          refine lv_aload_n hx hb dX0_verdictOnSingle_76 rfl (lv_at hl 0 rfl) ?_
          refine va_get (D := D) (ci := 0) (v := .ref a_o_next) (C := RX0) (T := TX0) (N := 18) hx hb hts iw_X0 hown hK hP 0 rfl rfl 5 (by decide) (hts _ kw_325) (fun _ h9 => h9) rfl dX0_verdictOnSingle_77 ?_
          refine lv_iload_n hx hb dX0_verdictOnSingle_80 rfl (lv_at hl 1 rfl) ?_
          refine va_lald hx hb hK hP 3 2 rfl rfl z_5 dX0_verdictOnSingle_81 ?_
          refine lv_lload_n hx hb dX0_verdictOnSingle_82 rfl (lv_at hl 2 rfl) ?_
          refine lv_iload hx hb dX0_verdictOnSingle_83 (lv_at hl 3 rfl) ?_
          refine lv_i2l hx hb dX0_verdictOnSingle_85 rfl ?_
          refine lv_lsub hx hb dX0_verdictOnSingle_86 ?_
          refine W.lcmp hx hb dX0_verdictOnSingle_87 ?_
          refine lv_if_lt (tgt := 107) hx hb dX0_verdictOnSingle_88 (by decide) (fun c_7 => ?_) (fun c_7 => ?_)
          · replace hF := ite_t hF ((lg_cmp_lt _ _).mp c_7)
            refine lv_bipush (v := (32 : Int32)) hx hb dX0_verdictOnSingle_107 (by decide) ?_
            refine lv_goto (tgt := 118) hx hb dX0_verdictOnSingle_109 (by decide) ?_
            have hy9 := (Option.some.inj hF).symm
            subst hy9
            exact rt_i C0.1 hP hD hS dX0_verdictOnSingle_118
          · replace hF := ite_f hF (fun h => c_7 ((lg_cmp_lt _ _).mpr h))
            refine lv_aload_n hx hb dX0_verdictOnSingle_91 rfl (lv_at hl 0 rfl) ?_
            refine va_get (D := D) (ci := 0) (v := .ref a_o_next) (C := RX0) (T := TX0) (N := 18) hx hb hts iw_X0 hown hK hP 0 rfl rfl 5 (by decide) (hts _ kw_325) (fun _ h9 => h9) rfl dX0_verdictOnSingle_92 ?_
            refine lv_iload_n hx hb dX0_verdictOnSingle_95 rfl (lv_at hl 1 rfl) ?_
            refine va_lald hx hb hK hP 3 2 rfl rfl z_5 dX0_verdictOnSingle_96 ?_
            refine lv_aload_n hx hb dX0_verdictOnSingle_97 rfl (lv_at hl 0 rfl) ?_
            refine va_get (D := D) (ci := 0) (v := .ref a_o_from) (C := RX0) (T := TX0) (N := 18) hx hb hts iw_X0 hown hK hP 0 rfl rfl 4 (by decide) (hts _ kw_323) (fun _ h9 => h9) rfl dX0_verdictOnSingle_98 ?_
            refine lv_iload_n hx hb dX0_verdictOnSingle_101 rfl (lv_at hl 1 rfl) ?_
            refine va_lald hx hb hK hP 1 2 rfl rfl z_3 dX0_verdictOnSingle_102 ?_
            refine W.lcmp hx hb dX0_verdictOnSingle_103 ?_
            refine lv_if_ge (tgt := 112) hx hb dX0_verdictOnSingle_104 (by decide) (fun c_8 => ?_) (fun c_8 => ?_)
            · replace hF := ite_t hF ((lg_cmp_ge _ _).mp c_8)
              refine lv_aload_n hx hb dX0_verdictOnSingle_112 rfl (lv_at hl 0 rfl) ?_
              refine va_get (D := D) (ci := 0) (v := .ref a_o_states) (C := RX0) (T := TX0) (N := 18) hx hb hts iw_X0 hown hK hP 0 rfl rfl 1 (by decide) (hts _ kw_317) (fun _ h9 => h9) rfl dX0_verdictOnSingle_113 ?_
              refine lv_iload_n hx hb dX0_verdictOnSingle_116 rfl (lv_at hl 1 rfl) ?_
              obtain ⟨z_9, hF⟩ := chk_d hF
              refine va_iald hx hb hK hP 4 1 rfl rfl z_9 dX0_verdictOnSingle_117 ?_
              have hy9 := (Option.some.inj hF).symm
              subst hy9
              exact rt_i C0.1 hP hD hS dX0_verdictOnSingle_118
            · replace hF := ite_f hF (fun h => c_8 ((lg_cmp_ge _ _).mpr h))
              refine lv_bipush (v := (32 : Int32)) hx hb dX0_verdictOnSingle_107 (by decide) ?_
              refine lv_goto (tgt := 118) hx hb dX0_verdictOnSingle_109 (by decide) ?_
              have hy9 := (Option.some.inj hF).symm
              subst hy9
              exact rt_i C0.1 hP hD hS dX0_verdictOnSingle_118
        · replace hF := ite_t hF ((lg_cmp_eq _ _).mp c_6)
          refine lv_aload_n hx hb dX0_verdictOnSingle_49 rfl (lv_at hl 0 rfl) ?_
          refine va_get (D := D) (ci := 0) (v := .ref a_o_from) (C := RX0) (T := TX0) (N := 18) hx hb hts iw_X0 hown hK hP 0 rfl rfl 4 (by decide) (hts _ kw_323) (fun _ h9 => h9) rfl dX0_verdictOnSingle_50 ?_
          refine lv_iload_n hx hb dX0_verdictOnSingle_53 rfl (lv_at hl 1 rfl) ?_
          refine va_lald hx hb hK hP 1 2 rfl rfl z_3 dX0_verdictOnSingle_54 ?_
          refine lv_lload_n hx hb dX0_verdictOnSingle_55 rfl (lv_at hl 2 rfl) ?_
          refine lv_iload hx hb dX0_verdictOnSingle_56 (lv_at hl 4 rfl) ?_
          refine lv_i2l hx hb dX0_verdictOnSingle_58 rfl ?_
          refine lv_lsub hx hb dX0_verdictOnSingle_59 ?_
          refine W.lcmp hx hb dX0_verdictOnSingle_60 ?_
          refine lv_if_ge (tgt := 69) hx hb dX0_verdictOnSingle_61 (by decide) (fun c_10 => ?_) (fun c_10 => ?_)
          · replace hF := ite_t hF ((lg_cmp_ge _ _).mp c_10)
            refine lv_aload_n hx hb dX0_verdictOnSingle_69 rfl (lv_at hl 0 rfl) ?_
            refine va_get (D := D) (ci := 0) (v := .ref a_o_states) (C := RX0) (T := TX0) (N := 18) hx hb hts iw_X0 hown hK hP 0 rfl rfl 1 (by decide) (hts _ kw_317) (fun _ h9 => h9) rfl dX0_verdictOnSingle_70 ?_
            refine lv_iload_n hx hb dX0_verdictOnSingle_73 rfl (lv_at hl 1 rfl) ?_
            obtain ⟨z_11, hF⟩ := chk_d hF
            refine va_iald hx hb hK hP 4 1 rfl rfl z_11 dX0_verdictOnSingle_74 ?_
            have hy9 := (Option.some.inj hF).symm
            subst hy9
            exact rt_i C0.1 hP hD hS dX0_verdictOnSingle_75
          · replace hF := ite_f hF (fun h => c_10 ((lg_cmp_ge _ _).mpr h))
            refine lv_bipush (v := (33 : Int32)) hx hb dX0_verdictOnSingle_64 (by decide) ?_
            refine lv_goto (tgt := 75) hx hb dX0_verdictOnSingle_66 (by decide) ?_
            have hy9 := (Option.some.inj hF).symm
            subst hy9
            exact rt_i C0.1 hP hD hS dX0_verdictOnSingle_75
      · replace hF := ite_f hF (fun h => c_4 ((lg_cmp_le _ _).mpr h))
        refine lv_bipush (v := (31 : Int32)) hx hb dX0_verdictOnSingle_33 (by decide) ?_
        have hy9 := (Option.some.inj hF).symm
        subst hy9
        exact rt_i C0.1 hP hD hS dX0_verdictOnSingle_35
    · replace hF := ite_f hF c_2
      refine lv_bipush (v := (30 : Int32)) hx hb dX0_verdictOnSingle_15 (by decide) ?_
      have hy9 := (Option.some.inj hF).symm
      subst hy9
      exact rt_i C0.1 hP hD hS dX0_verdictOnSingle_17
set_option maxHeartbeats 4000000 in
set_option maxRecDepth 100000 in
theorem w_ak_read_58 {l : Launch} {p : Program} {e : Env} {s : State} {m : MethodId} {args : Array Value} {below : List Frame} {meth : Method} {c : Code} {A : Nat → Prop} {D : va_G} {q : Nat → ClassId} {t : Nat} (C0 : cy p s m args meth c cX1_read none 3 RX1 D q t A) (a_o : Nat) (a_o_ids : Nat) (a_o_ids_keyHashes : Nat) (a_o_ids_nameHashes : Nat) (a_o_ids_serials : Nat) (a_p0 : Nat) (a_p0_data : Nat) (n_p0_data : Nat) (a_p0_outerEnds : Nat)  (x_o_noncePlace : Int32) (x_o_nonceSize : Int32) (x_o_ids_count : Int32) (r_o_ids_keyHashes : (Nat → Int64)) (r_o_ids_nameHashes : (Nat → Int64)) (r_o_ids_serials : (Nat → Int32)) (x_p0_depth : Int32) (x_p0_end : Int32) (x_p0_at : Int32) (x_p0_place : Int32) (x_p0_size : Int32) (x_p0_fault : Int32) (x_p0_items : Int32) (r_p0_data : (Nat → Int32)) (r_p0_outerEnds : (Nat → Int32))  (y : Int32 × (Nat → Int64) × (Nat → Int64) × (Nat → Int32) × Int32 × Int32 × Int32 × Int32 × Int32 × Int32 × Int32 × (Nat → Int32) × Int32 × Int32) (hF : j_ak_read_58 x_o_ids_count r_o_ids_keyHashes r_o_ids_nameHashes r_o_ids_serials x_o_noncePlace x_o_nonceSize x_p0_at r_p0_data x_p0_depth x_p0_end x_p0_fault x_p0_items r_p0_outerEnds x_p0_place x_p0_size n_p0_data = some y) : ∀ (H : Heap) (locs : List Loc) (ls : Array Slot), va_P D vwCl [oX1 a_o a_o_ids x_o_noncePlace x_o_nonceSize, oX6 a_o_ids a_o_ids_nameHashes a_o_ids_keyHashes a_o_ids_serials x_o_ids_count, rJ q a_o_ids_keyHashes 8 r_o_ids_keyHashes, rJ q a_o_ids_nameHashes 8 r_o_ids_nameHashes, rI q a_o_ids_serials 8 r_o_ids_serials, oX8 a_p0 a_p0_outerEnds a_p0_data x_p0_depth x_p0_end x_p0_at x_p0_place x_p0_size x_p0_fault x_p0_items, rB q a_p0_data n_p0_data r_p0_data, rI q a_p0_outerEnds 12 r_p0_outerEnds] H → va_D A [oX1 a_o a_o_ids x_o_noncePlace x_o_nonceSize, oX6 a_o_ids a_o_ids_nameHashes a_o_ids_keyHashes a_o_ids_serials x_o_ids_count, rJ q a_o_ids_keyHashes 8 r_o_ids_keyHashes, rJ q a_o_ids_nameHashes 8 r_o_ids_nameHashes, rI q a_o_ids_serials 8 r_o_ids_serials, oX8 a_p0 a_p0_outerEnds a_p0_data x_p0_depth x_p0_end x_p0_at x_p0_place x_p0_size x_p0_fault x_p0_items, rB q a_p0_data n_p0_data r_p0_data, rI q a_p0_outerEnds 12 r_p0_outerEnds] → va_S A s.heap H locs → lv_has ls 3 [(0, .ref a_o), (1, .ref a_p0)] → W p l e ({ frames := 4, cells := 0, slots := 0, locals := 101 }) s m args below meth c H locs 0 0 (MQ below (qV D q [oX1 a_o a_o_ids y.2.2.2.2.1 y.2.2.2.2.2.1, oX6 a_o_ids a_o_ids_nameHashes a_o_ids_keyHashes a_o_ids_serials y.1, rJ q a_o_ids_keyHashes 8 y.2.1, rJ q a_o_ids_nameHashes 8 y.2.2.1, rI q a_o_ids_serials 8 y.2.2.2.1, oX8 a_p0 a_p0_outerEnds a_p0_data y.2.2.2.2.2.2.2.1 y.2.2.2.2.2.2.2.2.1 y.2.2.2.2.2.2.1 y.2.2.2.2.2.2.2.2.2.2.2.2.1 y.2.2.2.2.2.2.2.2.2.2.2.2.2 y.2.2.2.2.2.2.2.2.2.1 y.2.2.2.2.2.2.2.2.2.2.1, rB q a_p0_data n_p0_data r_p0_data, rI q a_p0_outerEnds 12 y.2.2.2.2.2.2.2.2.2.2.2.1] A) args s 0 0 A) (F0 m 58 ls []) := by
  obtain ⟨⟨hx, hb, hr, hml, hown, hts, hlocks, hK, hA⟩, hG⟩ := id C0
  intro H locs ls hP hD hS hl
  unfold j_ak_read_58 at hF
  refine lv_aload_n hx hb dX1_read_58 rfl (lv_at hl 1 rfl) ?_
  obtain ⟨y_11, hy_11, hF⟩ := cal_d hF
  refine cf_v C0.1 hP hD hS [5, 7] [0, 1, 2, 3, 4, 6] [0, 1, 2, 3, 4, 6, 5, 7] (wr := [oX1 a_o a_o_ids x_o_noncePlace x_o_nonceSize, oX6 a_o_ids a_o_ids_nameHashes a_o_ids_keyHashes a_o_ids_serials x_o_ids_count, rJ q a_o_ids_keyHashes 8 r_o_ids_keyHashes, rJ q a_o_ids_nameHashes 8 r_o_ids_nameHashes, rI q a_o_ids_serials 8 r_o_ids_serials, rB q a_p0_data n_p0_data r_p0_data]) (w' := [oX1 a_o a_o_ids x_o_noncePlace x_o_nonceSize, oX6 a_o_ids a_o_ids_nameHashes a_o_ids_keyHashes a_o_ids_serials x_o_ids_count, rJ q a_o_ids_keyHashes 8 r_o_ids_keyHashes, rJ q a_o_ids_nameHashes 8 r_o_ids_nameHashes, rI q a_o_ids_serials 8 r_o_ids_serials, oX8 a_p0 a_p0_outerEnds a_p0_data y_11.1 y_11.2.1 x_p0_at y_11.2.2.2.1 y_11.2.2.2.2 y_11.2.2.1 x_p0_items, rB q a_p0_data n_p0_data r_p0_data, rI q a_p0_outerEnds 12 r_p0_outerEnds]) rfl rfl rfl (by decide) rfl rfl (sn_V (As := []) (rest := []) (ci := 7) (q0 := 5) C0 (c_sc_close l D q t a_p0 a_p0_data x_p0_depth x_p0_end x_p0_at x_p0_place x_p0_size x_p0_fault x_p0_items a_p0_outerEnds r_p0_outerEnds  y_11 hy_11) (cwV 0 hts (g_V kw_848 kw_839 kw_840 kw_77 kw_841) rfl rfl rfl hd_X8_close ⟨Nat.le_of_ble_eq_true rfl, Nat.le_of_ble_eq_true rfl⟩) hP hD hS [5, 7] rfl rfl rfl rfl rfl rfl hl (Nat.le_of_ble_eq_true rfl) dX1_read_59) (fun H locs hP hD hS => ?_)
  refine lv_aload_n hx hb dX1_read_62 rfl (lv_at hl 1 rfl) ?_
  obtain ⟨y_12, hy_12, hF⟩ := cal_d hF
  refine cf_i C0.1 hP hD hS [5] [0, 1, 2, 3, 4, 6, 7] [0, 1, 2, 3, 4, 7, 5, 6] (wr := [oX1 a_o a_o_ids x_o_noncePlace x_o_nonceSize, oX6 a_o_ids a_o_ids_nameHashes a_o_ids_keyHashes a_o_ids_serials x_o_ids_count, rJ q a_o_ids_keyHashes 8 r_o_ids_keyHashes, rJ q a_o_ids_nameHashes 8 r_o_ids_nameHashes, rI q a_o_ids_serials 8 r_o_ids_serials, rB q a_p0_data n_p0_data r_p0_data, rI q a_p0_outerEnds 12 r_p0_outerEnds]) (w' := [oX1 a_o a_o_ids x_o_noncePlace x_o_nonceSize, oX6 a_o_ids a_o_ids_nameHashes a_o_ids_keyHashes a_o_ids_serials x_o_ids_count, rJ q a_o_ids_keyHashes 8 r_o_ids_keyHashes, rJ q a_o_ids_nameHashes 8 r_o_ids_nameHashes, rI q a_o_ids_serials 8 r_o_ids_serials, oX8 a_p0 a_p0_outerEnds a_p0_data y_11.1 y_11.2.1 x_p0_at y_11.2.2.2.1 y_11.2.2.2.2 y_11.2.2.1 x_p0_items, rB q a_p0_data n_p0_data r_p0_data, rI q a_p0_outerEnds 12 r_p0_outerEnds]) rfl rfl rfl (by decide) rfl rfl (sn_V (As := []) (rest := []) (ci := 7) (q0 := 5) C0 (c_sc_hasMore l D q t a_p0 a_p0_outerEnds a_p0_data y_11.1 y_11.2.1 x_p0_at y_11.2.2.2.1 y_11.2.2.2.2 y_11.2.2.1 x_p0_items  y_12 hy_12) (cwV 0 hts (g_V kw_816 kw_817 kw_818 kw_77 kw_819) rfl rfl rfl hd_X8_hasMore ⟨Nat.le_of_ble_eq_true rfl, Nat.le_of_ble_eq_true rfl⟩) hP hD hS [5] rfl rfl rfl rfl rfl rfl hl (Nat.le_of_ble_eq_true rfl) dX1_read_63) (fun H locs hP hD hS => ?_)
  refine lv_if_eq (tgt := 99) hx hb dX1_read_66 (by decide) (fun c_13 => ?_) (fun c_13 => ?_)
  · replace hF := ite_t hF c_13
    refine lv_aload_n hx hb dX1_read_99 rfl (lv_at hl 1 rfl) ?_
    obtain ⟨y_14, hy_14, hF⟩ := cal_d hF
    refine cf_v C0.1 hP hD hS [5, 7] [0, 1, 2, 3, 4, 6] [0, 1, 2, 3, 4, 6, 5, 7] (wr := [oX1 a_o a_o_ids x_o_noncePlace x_o_nonceSize, oX6 a_o_ids a_o_ids_nameHashes a_o_ids_keyHashes a_o_ids_serials x_o_ids_count, rJ q a_o_ids_keyHashes 8 r_o_ids_keyHashes, rJ q a_o_ids_nameHashes 8 r_o_ids_nameHashes, rI q a_o_ids_serials 8 r_o_ids_serials, rB q a_p0_data n_p0_data r_p0_data]) (w' := [oX1 a_o a_o_ids x_o_noncePlace x_o_nonceSize, oX6 a_o_ids a_o_ids_nameHashes a_o_ids_keyHashes a_o_ids_serials x_o_ids_count, rJ q a_o_ids_keyHashes 8 r_o_ids_keyHashes, rJ q a_o_ids_nameHashes 8 r_o_ids_nameHashes, rI q a_o_ids_serials 8 r_o_ids_serials, oX8 a_p0 a_p0_outerEnds a_p0_data y_14.1 y_14.2.1 x_p0_at y_14.2.2.2.1 y_14.2.2.2.2 y_14.2.2.1 x_p0_items, rB q a_p0_data n_p0_data r_p0_data, rI q a_p0_outerEnds 12 r_p0_outerEnds]) rfl rfl rfl (by decide) rfl rfl (sn_V (As := []) (rest := []) (ci := 7) (q0 := 5) C0 (c_sc_close l D q t a_p0 a_p0_data y_11.1 y_11.2.1 x_p0_at y_11.2.2.2.1 y_11.2.2.2.2 y_11.2.2.1 x_p0_items a_p0_outerEnds r_p0_outerEnds  y_14 hy_14) (cwV 0 hts (g_V kw_848 kw_839 kw_840 kw_77 kw_841) rfl rfl rfl hd_X8_close ⟨Nat.le_of_ble_eq_true rfl, Nat.le_of_ble_eq_true rfl⟩) hP hD hS [5, 7] rfl rfl rfl rfl rfl rfl hl (Nat.le_of_ble_eq_true rfl) dX1_read_100) (fun H locs hP hD hS => ?_)
    refine lv_aload_n hx hb dX1_read_103 rfl (lv_at hl 1 rfl) ?_
    obtain ⟨y_15, hy_15, hF⟩ := cal_d hF
    refine cf_v C0.1 hP hD hS [5] [0, 1, 2, 3, 4, 6, 7] [0, 1, 2, 3, 4, 7, 5, 6] (wr := [oX1 a_o a_o_ids x_o_noncePlace x_o_nonceSize, oX6 a_o_ids a_o_ids_nameHashes a_o_ids_keyHashes a_o_ids_serials x_o_ids_count, rJ q a_o_ids_keyHashes 8 r_o_ids_keyHashes, rJ q a_o_ids_nameHashes 8 r_o_ids_nameHashes, rI q a_o_ids_serials 8 r_o_ids_serials, rB q a_p0_data n_p0_data r_p0_data, rI q a_p0_outerEnds 12 r_p0_outerEnds]) (w' := [oX1 a_o a_o_ids x_o_noncePlace x_o_nonceSize, oX6 a_o_ids a_o_ids_nameHashes a_o_ids_keyHashes a_o_ids_serials x_o_ids_count, rJ q a_o_ids_keyHashes 8 r_o_ids_keyHashes, rJ q a_o_ids_nameHashes 8 r_o_ids_nameHashes, rI q a_o_ids_serials 8 r_o_ids_serials, oX8 a_p0 a_p0_outerEnds a_p0_data y_14.1 y_14.2.1 x_p0_at y_15.2.1 y_15.2.2 y_15.1 x_p0_items, rB q a_p0_data n_p0_data r_p0_data, rI q a_p0_outerEnds 12 r_p0_outerEnds]) rfl rfl rfl (by decide) rfl rfl (sn_V (As := []) (rest := []) (ci := 7) (q0 := 5) C0 (c_sc_endText l D q t a_p0 a_p0_outerEnds a_p0_data y_14.1 y_14.2.1 x_p0_at y_14.2.2.2.1 y_14.2.2.2.2 y_14.2.2.1 x_p0_items  y_15 hy_15) (cwV 0 hts (g_V kw_853 kw_843 kw_844 kw_77 kw_845) rfl rfl rfl hd_X8_endText ⟨Nat.le_of_ble_eq_true rfl, Nat.le_of_ble_eq_true rfl⟩) hP hD hS [5] rfl rfl rfl rfl rfl rfl hl (Nat.le_of_ble_eq_true rfl) dX1_read_104) (fun H locs hP hD hS => ?_)
    have hy9 := (Option.some.inj hF).symm
    subst hy9
    exact rt_v C0.1 hP hD hS dX1_read_107
  · replace hF := ite_f hF c_13
    refine lv_aload_n hx hb dX1_read_69 rfl (lv_at hl 1 rfl) ?_
    refine lv_sipush (v := (162 : Int32)) hx hb dX1_read_70 (by decide) ?_
    obtain ⟨y_16, hy_16, hF⟩ := cal_d hF
    refine cf_v C0.1 hP hD hS [5, 6, 7] [0, 1, 2, 3, 4] [0, 1, 2, 3, 4, 5, 6, 7] (wr := [oX1 a_o a_o_ids x_o_noncePlace x_o_nonceSize, oX6 a_o_ids a_o_ids_nameHashes a_o_ids_keyHashes a_o_ids_serials x_o_ids_count, rJ q a_o_ids_keyHashes 8 r_o_ids_keyHashes, rJ q a_o_ids_nameHashes 8 r_o_ids_nameHashes, rI q a_o_ids_serials 8 r_o_ids_serials]) (w' := [oX1 a_o a_o_ids x_o_noncePlace x_o_nonceSize, oX6 a_o_ids a_o_ids_nameHashes a_o_ids_keyHashes a_o_ids_serials x_o_ids_count, rJ q a_o_ids_keyHashes 8 r_o_ids_keyHashes, rJ q a_o_ids_nameHashes 8 r_o_ids_nameHashes, rI q a_o_ids_serials 8 r_o_ids_serials, oX8 a_p0 a_p0_outerEnds a_p0_data y_16.2.1 y_16.2.2.1 y_16.1 y_16.2.2.2.2.2.2.1 y_16.2.2.2.2.2.2.2 y_16.2.2.2.1 y_16.2.2.2.2.1, rB q a_p0_data n_p0_data r_p0_data, rI q a_p0_outerEnds 12 y_16.2.2.2.2.2.1]) rfl rfl rfl (by decide) rfl rfl (sn_V (As := [.int (162 : Int32)]) (rest := []) (ci := 7) (q0 := 5) C0 (c_sc_open l D q t a_p0 y_11.1 y_11.2.1 x_p0_at y_11.2.2.2.1 y_11.2.2.2.2 y_11.2.2.1 x_p0_items a_p0_data n_p0_data r_p0_data a_p0_outerEnds r_p0_outerEnds (162 : Int32) y_16 hy_16) (cwV 1 hts (g_V kw_796 kw_797 kw_798 kw_77 kw_799) rfl rfl rfl hd_X8_open ⟨Nat.le_of_ble_eq_true rfl, Nat.le_of_ble_eq_true rfl⟩) hP hD hS [5, 6, 7] rfl rfl rfl rfl rfl rfl hl (Nat.le_of_ble_eq_true rfl) dX1_read_73) (fun H locs hP hD hS => ?_)
    refine lv_aload_n hx hb dX1_read_76 rfl (lv_at hl 0 rfl) ?_
    refine lv_aload_n hx hb dX1_read_77 rfl (lv_at hl 1 rfl) ?_
    refine lv_iconst (v := (1 : Int32)) hx hb dX1_read_78 (by decide) ?_
    refine lv_bipush (v := (16 : Int32)) hx hb dX1_read_79 (by decide) ?_
    obtain ⟨y_17, hy_17, hF⟩ := cal_d hF
    refine cf_i C0.1 hP hD hS [5, 6] [0, 1, 2, 3, 4, 7] [0, 1, 2, 3, 4, 6, 7, 5] (wr := [oX1 a_o a_o_ids x_o_noncePlace x_o_nonceSize, oX6 a_o_ids a_o_ids_nameHashes a_o_ids_keyHashes a_o_ids_serials x_o_ids_count, rJ q a_o_ids_keyHashes 8 r_o_ids_keyHashes, rJ q a_o_ids_nameHashes 8 r_o_ids_nameHashes, rI q a_o_ids_serials 8 r_o_ids_serials, rI q a_p0_outerEnds 12 y_16.2.2.2.2.2.1]) (w' := [oX1 a_o a_o_ids x_o_noncePlace x_o_nonceSize, oX6 a_o_ids a_o_ids_nameHashes a_o_ids_keyHashes a_o_ids_serials x_o_ids_count, rJ q a_o_ids_keyHashes 8 r_o_ids_keyHashes, rJ q a_o_ids_nameHashes 8 r_o_ids_nameHashes, rI q a_o_ids_serials 8 r_o_ids_serials, oX8 a_p0 a_p0_outerEnds a_p0_data y_16.2.1 y_16.2.2.1 y_17.2.1 y_17.2.2.2.2.1 y_17.2.2.2.2.2 y_17.2.2.1 y_17.2.2.2.1, rB q a_p0_data n_p0_data r_p0_data, rI q a_p0_outerEnds 12 y_16.2.2.2.2.2.1]) rfl rfl rfl (by decide) rfl rfl (sn_V (As := [.int (1 : Int32), .int (16 : Int32)]) (rest := [.ref a_o]) (ci := 7) (q0 := 5) C0 (c_sc_readBytes l D q t a_p0 a_p0_outerEnds y_16.2.1 y_16.2.2.1 y_16.1 y_16.2.2.2.2.2.2.1 y_16.2.2.2.2.2.2.2 y_16.2.2.2.1 y_16.2.2.2.2.1 a_p0_data n_p0_data r_p0_data (1 : Int32) (16 : Int32) y_17 hy_17) (cwV 2 hts (g_V kw_849 kw_850 kw_851 kw_77 kw_852) rfl rfl rfl hd_X8_readBytes ⟨Nat.le_of_ble_eq_true rfl, Nat.le_of_ble_eq_true rfl⟩) hP hD hS [5, 6] rfl rfl rfl rfl rfl rfl hl (Nat.le_of_ble_eq_true rfl) dX1_read_81) (fun H locs hP hD hS => ?_)
    refine lv_topi (fun x_o_noncePlace_18 e_x_o_noncePlace_18 => ?_)
    replace hF := bnd_d hF e_x_o_noncePlace_18
    refine va_put (D := D) (ci := 1) (v := .int x_o_noncePlace_18) (ty := .int) (C := RX1) (T := TX1) (N := 3) hx hb hts iw_X1 tyX1 tyX1_ok nmX1 hown hK hP hD hS 0 rfl rfl 1 (by decide) (hts _ kw_239) (fun _ h9 => h9) rfl (by decide +kernel) rfl rfl (Nat.le_of_ble_eq_true rfl) dX1_read_84 (fun H locs hP hD hS => ?_)
    have hP : va_P D vwCl ([oX1 a_o a_o_ids x_o_noncePlace_18 x_o_nonceSize, oX6 a_o_ids a_o_ids_nameHashes a_o_ids_keyHashes a_o_ids_serials x_o_ids_count, rJ q a_o_ids_keyHashes 8 r_o_ids_keyHashes, rJ q a_o_ids_nameHashes 8 r_o_ids_nameHashes, rI q a_o_ids_serials 8 r_o_ids_serials, oX8 a_p0 a_p0_outerEnds a_p0_data y_16.2.1 y_16.2.2.1 y_17.2.1 y_17.2.2.2.2.1 y_17.2.2.2.2.2 y_17.2.2.1 y_17.2.2.2.1, rB q a_p0_data n_p0_data r_p0_data, rI q a_p0_outerEnds 12 y_16.2.2.2.2.2.1]) H := hP
    have hD : va_D A ([oX1 a_o a_o_ids x_o_noncePlace_18 x_o_nonceSize, oX6 a_o_ids a_o_ids_nameHashes a_o_ids_keyHashes a_o_ids_serials x_o_ids_count, rJ q a_o_ids_keyHashes 8 r_o_ids_keyHashes, rJ q a_o_ids_nameHashes 8 r_o_ids_nameHashes, rI q a_o_ids_serials 8 r_o_ids_serials, oX8 a_p0 a_p0_outerEnds a_p0_data y_16.2.1 y_16.2.2.1 y_17.2.1 y_17.2.2.2.2.1 y_17.2.2.2.2.2 y_17.2.2.1 y_17.2.2.2.1, rB q a_p0_data n_p0_data r_p0_data, rI q a_p0_outerEnds 12 y_16.2.2.2.2.2.1]) := hD
    refine lv_aload_n hx hb dX1_read_87 rfl (lv_at hl 0 rfl) ?_
    refine lv_aload_n hx hb dX1_read_88 rfl (lv_at hl 1 rfl) ?_
    refine va_get (D := D) (ci := 7) (v := .int y_17.2.2.2.2.2) (C := RX8) (T := TX8) (N := 9) hx hb hts iw_X8 hown hK hP 5 rfl rfl 6 (by decide) (hts _ kw_204) (fun _ h9 => h9) rfl dX1_read_89 ?_
    refine lv_topi (fun x_o_nonceSize_19 e_x_o_nonceSize_19 => ?_)
    replace hF := bnd_d hF e_x_o_nonceSize_19
    refine va_put (D := D) (ci := 1) (v := .int x_o_nonceSize_19) (ty := .int) (C := RX1) (T := TX1) (N := 3) hx hb hts iw_X1 tyX1 tyX1_ok nmX1 hown hK hP hD hS 0 rfl rfl 2 (by decide) (hts _ kw_241) (fun _ h9 => h9) rfl (by decide +kernel) rfl rfl (Nat.le_of_ble_eq_true rfl) dX1_read_92 (fun H locs hP hD hS => ?_)
    have hP : va_P D vwCl ([oX1 a_o a_o_ids x_o_noncePlace_18 x_o_nonceSize_19, oX6 a_o_ids a_o_ids_nameHashes a_o_ids_keyHashes a_o_ids_serials x_o_ids_count, rJ q a_o_ids_keyHashes 8 r_o_ids_keyHashes, rJ q a_o_ids_nameHashes 8 r_o_ids_nameHashes, rI q a_o_ids_serials 8 r_o_ids_serials, oX8 a_p0 a_p0_outerEnds a_p0_data y_16.2.1 y_16.2.2.1 y_17.2.1 y_17.2.2.2.2.1 y_17.2.2.2.2.2 y_17.2.2.1 y_17.2.2.2.1, rB q a_p0_data n_p0_data r_p0_data, rI q a_p0_outerEnds 12 y_16.2.2.2.2.2.1]) H := hP
    have hD : va_D A ([oX1 a_o a_o_ids x_o_noncePlace_18 x_o_nonceSize_19, oX6 a_o_ids a_o_ids_nameHashes a_o_ids_keyHashes a_o_ids_serials x_o_ids_count, rJ q a_o_ids_keyHashes 8 r_o_ids_keyHashes, rJ q a_o_ids_nameHashes 8 r_o_ids_nameHashes, rI q a_o_ids_serials 8 r_o_ids_serials, oX8 a_p0 a_p0_outerEnds a_p0_data y_16.2.1 y_16.2.2.1 y_17.2.1 y_17.2.2.2.2.1 y_17.2.2.2.2.2 y_17.2.2.1 y_17.2.2.2.1, rB q a_p0_data n_p0_data r_p0_data, rI q a_p0_outerEnds 12 y_16.2.2.2.2.2.1]) := hD
    refine lv_aload_n hx hb dX1_read_95 rfl (lv_at hl 1 rfl) ?_
    obtain ⟨y_20, hy_20, hF⟩ := cal_d hF
    refine cf_v C0.1 hP hD hS [5, 7] [0, 1, 2, 3, 4, 6] [0, 1, 2, 3, 4, 6, 5, 7] (wr := [oX1 a_o a_o_ids x_o_noncePlace_18 x_o_nonceSize_19, oX6 a_o_ids a_o_ids_nameHashes a_o_ids_keyHashes a_o_ids_serials x_o_ids_count, rJ q a_o_ids_keyHashes 8 r_o_ids_keyHashes, rJ q a_o_ids_nameHashes 8 r_o_ids_nameHashes, rI q a_o_ids_serials 8 r_o_ids_serials, rB q a_p0_data n_p0_data r_p0_data]) (w' := [oX1 a_o a_o_ids x_o_noncePlace_18 x_o_nonceSize_19, oX6 a_o_ids a_o_ids_nameHashes a_o_ids_keyHashes a_o_ids_serials x_o_ids_count, rJ q a_o_ids_keyHashes 8 r_o_ids_keyHashes, rJ q a_o_ids_nameHashes 8 r_o_ids_nameHashes, rI q a_o_ids_serials 8 r_o_ids_serials, oX8 a_p0 a_p0_outerEnds a_p0_data y_20.1 y_20.2.1 y_17.2.1 y_20.2.2.2.1 y_20.2.2.2.2 y_20.2.2.1 y_17.2.2.2.1, rB q a_p0_data n_p0_data r_p0_data, rI q a_p0_outerEnds 12 y_16.2.2.2.2.2.1]) rfl rfl rfl (by decide) rfl rfl (sn_V (As := []) (rest := []) (ci := 7) (q0 := 5) C0 (c_sc_close l D q t a_p0 a_p0_data y_16.2.1 y_16.2.2.1 y_17.2.1 y_17.2.2.2.2.1 y_17.2.2.2.2.2 y_17.2.2.1 y_17.2.2.2.1 a_p0_outerEnds y_16.2.2.2.2.2.1  y_20 hy_20) (cwV 0 hts (g_V kw_848 kw_839 kw_840 kw_77 kw_841) rfl rfl rfl hd_X8_close ⟨Nat.le_of_ble_eq_true rfl, Nat.le_of_ble_eq_true rfl⟩) hP hD hS [5, 7] rfl rfl rfl rfl rfl rfl hl (Nat.le_of_ble_eq_true rfl) dX1_read_96) (fun H locs hP hD hS => ?_)
    refine lv_aload_n hx hb dX1_read_99 rfl (lv_at hl 1 rfl) ?_
    obtain ⟨y_21, hy_21, hF⟩ := cal_d hF
    refine cf_v C0.1 hP hD hS [5, 7] [0, 1, 2, 3, 4, 6] [0, 1, 2, 3, 4, 6, 5, 7] (wr := [oX1 a_o a_o_ids x_o_noncePlace_18 x_o_nonceSize_19, oX6 a_o_ids a_o_ids_nameHashes a_o_ids_keyHashes a_o_ids_serials x_o_ids_count, rJ q a_o_ids_keyHashes 8 r_o_ids_keyHashes, rJ q a_o_ids_nameHashes 8 r_o_ids_nameHashes, rI q a_o_ids_serials 8 r_o_ids_serials, rB q a_p0_data n_p0_data r_p0_data]) (w' := [oX1 a_o a_o_ids x_o_noncePlace_18 x_o_nonceSize_19, oX6 a_o_ids a_o_ids_nameHashes a_o_ids_keyHashes a_o_ids_serials x_o_ids_count, rJ q a_o_ids_keyHashes 8 r_o_ids_keyHashes, rJ q a_o_ids_nameHashes 8 r_o_ids_nameHashes, rI q a_o_ids_serials 8 r_o_ids_serials, oX8 a_p0 a_p0_outerEnds a_p0_data y_21.1 y_21.2.1 y_17.2.1 y_21.2.2.2.1 y_21.2.2.2.2 y_21.2.2.1 y_17.2.2.2.1, rB q a_p0_data n_p0_data r_p0_data, rI q a_p0_outerEnds 12 y_16.2.2.2.2.2.1]) rfl rfl rfl (by decide) rfl rfl (sn_V (As := []) (rest := []) (ci := 7) (q0 := 5) C0 (c_sc_close l D q t a_p0 a_p0_data y_20.1 y_20.2.1 y_17.2.1 y_20.2.2.2.1 y_20.2.2.2.2 y_20.2.2.1 y_17.2.2.2.1 a_p0_outerEnds y_16.2.2.2.2.2.1  y_21 hy_21) (cwV 0 hts (g_V kw_848 kw_839 kw_840 kw_77 kw_841) rfl rfl rfl hd_X8_close ⟨Nat.le_of_ble_eq_true rfl, Nat.le_of_ble_eq_true rfl⟩) hP hD hS [5, 7] rfl rfl rfl rfl rfl rfl hl (Nat.le_of_ble_eq_true rfl) dX1_read_100) (fun H locs hP hD hS => ?_)
    refine lv_aload_n hx hb dX1_read_103 rfl (lv_at hl 1 rfl) ?_
    obtain ⟨y_22, hy_22, hF⟩ := cal_d hF
    refine cf_v C0.1 hP hD hS [5] [0, 1, 2, 3, 4, 6, 7] [0, 1, 2, 3, 4, 7, 5, 6] (wr := [oX1 a_o a_o_ids x_o_noncePlace_18 x_o_nonceSize_19, oX6 a_o_ids a_o_ids_nameHashes a_o_ids_keyHashes a_o_ids_serials x_o_ids_count, rJ q a_o_ids_keyHashes 8 r_o_ids_keyHashes, rJ q a_o_ids_nameHashes 8 r_o_ids_nameHashes, rI q a_o_ids_serials 8 r_o_ids_serials, rB q a_p0_data n_p0_data r_p0_data, rI q a_p0_outerEnds 12 y_16.2.2.2.2.2.1]) (w' := [oX1 a_o a_o_ids x_o_noncePlace_18 x_o_nonceSize_19, oX6 a_o_ids a_o_ids_nameHashes a_o_ids_keyHashes a_o_ids_serials x_o_ids_count, rJ q a_o_ids_keyHashes 8 r_o_ids_keyHashes, rJ q a_o_ids_nameHashes 8 r_o_ids_nameHashes, rI q a_o_ids_serials 8 r_o_ids_serials, oX8 a_p0 a_p0_outerEnds a_p0_data y_21.1 y_21.2.1 y_17.2.1 y_22.2.1 y_22.2.2 y_22.1 y_17.2.2.2.1, rB q a_p0_data n_p0_data r_p0_data, rI q a_p0_outerEnds 12 y_16.2.2.2.2.2.1]) rfl rfl rfl (by decide) rfl rfl (sn_V (As := []) (rest := []) (ci := 7) (q0 := 5) C0 (c_sc_endText l D q t a_p0 a_p0_outerEnds a_p0_data y_21.1 y_21.2.1 y_17.2.1 y_21.2.2.2.1 y_21.2.2.2.2 y_21.2.2.1 y_17.2.2.2.1  y_22 hy_22) (cwV 0 hts (g_V kw_853 kw_843 kw_844 kw_77 kw_845) rfl rfl rfl hd_X8_endText ⟨Nat.le_of_ble_eq_true rfl, Nat.le_of_ble_eq_true rfl⟩) hP hD hS [5] rfl rfl rfl rfl rfl rfl hl (Nat.le_of_ble_eq_true rfl) dX1_read_104) (fun H locs hP hD hS => ?_)
    have hy9 := (Option.some.inj hF).symm
    subst hy9
    exact rt_v C0.1 hP hD hS dX1_read_107
set_option maxHeartbeats 4000000 in
set_option maxRecDepth 100000 in
theorem w_ak_read_27 {l : Launch} {p : Program} {e : Env} {s : State} {m : MethodId} {args : Array Value} {below : List Frame} {meth : Method} {c : Code} {A : Nat → Prop} {D : va_G} {q : Nat → ClassId} {t : Nat} (C0 : cy p s m args meth c cX1_read none 3 RX1 D q t A) (a_o : Nat) (a_o_ids : Nat) (a_o_ids_keyHashes : Nat) (a_o_ids_nameHashes : Nat) (a_o_ids_serials : Nat) (a_p0 : Nat) (a_p0_data : Nat) (n_p0_data : Nat) (a_p0_outerEnds : Nat)  : ∀ (n : Nat) (x_o_noncePlace : Int32) (x_o_nonceSize : Int32) (x_o_ids_count : Int32) (r_o_ids_keyHashes : (Nat → Int64)) (r_o_ids_nameHashes : (Nat → Int64)) (r_o_ids_serials : (Nat → Int32)) (x_p0_depth : Int32) (x_p0_end : Int32) (x_p0_at : Int32) (x_p0_place : Int32) (x_p0_size : Int32) (x_p0_fault : Int32) (x_p0_items : Int32) (r_p0_data : (Nat → Int32)) (r_p0_outerEnds : (Nat → Int32)) (v_2 : Int32) (y : Int32 × (Nat → Int64) × (Nat → Int64) × (Nat → Int32) × Int32 × Int32 × Int32 × Int32 × Int32 × Int32 × Int32 × (Nat → Int32) × Int32 × Int32) (hF : j_ak_read_27 n x_o_ids_count r_o_ids_keyHashes r_o_ids_nameHashes r_o_ids_serials x_o_noncePlace x_o_nonceSize x_p0_at r_p0_data x_p0_depth x_p0_end x_p0_fault x_p0_items r_p0_outerEnds x_p0_place x_p0_size n_p0_data v_2 = some y), ∀ (H : Heap) (locs : List Loc) (ls : Array Slot), va_P D vwCl [oX1 a_o a_o_ids x_o_noncePlace x_o_nonceSize, oX6 a_o_ids a_o_ids_nameHashes a_o_ids_keyHashes a_o_ids_serials x_o_ids_count, rJ q a_o_ids_keyHashes 8 r_o_ids_keyHashes, rJ q a_o_ids_nameHashes 8 r_o_ids_nameHashes, rI q a_o_ids_serials 8 r_o_ids_serials, oX8 a_p0 a_p0_outerEnds a_p0_data x_p0_depth x_p0_end x_p0_at x_p0_place x_p0_size x_p0_fault x_p0_items, rB q a_p0_data n_p0_data r_p0_data, rI q a_p0_outerEnds 12 r_p0_outerEnds] H → va_D A [oX1 a_o a_o_ids x_o_noncePlace x_o_nonceSize, oX6 a_o_ids a_o_ids_nameHashes a_o_ids_keyHashes a_o_ids_serials x_o_ids_count, rJ q a_o_ids_keyHashes 8 r_o_ids_keyHashes, rJ q a_o_ids_nameHashes 8 r_o_ids_nameHashes, rI q a_o_ids_serials 8 r_o_ids_serials, oX8 a_p0 a_p0_outerEnds a_p0_data x_p0_depth x_p0_end x_p0_at x_p0_place x_p0_size x_p0_fault x_p0_items, rB q a_p0_data n_p0_data r_p0_data, rI q a_p0_outerEnds 12 r_p0_outerEnds] → va_S A s.heap H locs → lv_has ls 3 [(0, .ref a_o), (1, .ref a_p0), (2, .int v_2)] → W p l e ({ frames := 4, cells := 0, slots := 0, locals := 101 }) s m args below meth c H locs 0 0 (MQ below (qV D q [oX1 a_o a_o_ids y.2.2.2.2.1 y.2.2.2.2.2.1, oX6 a_o_ids a_o_ids_nameHashes a_o_ids_keyHashes a_o_ids_serials y.1, rJ q a_o_ids_keyHashes 8 y.2.1, rJ q a_o_ids_nameHashes 8 y.2.2.1, rI q a_o_ids_serials 8 y.2.2.2.1, oX8 a_p0 a_p0_outerEnds a_p0_data y.2.2.2.2.2.2.2.1 y.2.2.2.2.2.2.2.2.1 y.2.2.2.2.2.2.1 y.2.2.2.2.2.2.2.2.2.2.2.2.1 y.2.2.2.2.2.2.2.2.2.2.2.2.2 y.2.2.2.2.2.2.2.2.2.1 y.2.2.2.2.2.2.2.2.2.2.1, rB q a_p0_data n_p0_data r_p0_data, rI q a_p0_outerEnds 12 y.2.2.2.2.2.2.2.2.2.2.2.1] A) args s 0 0 A) (F0 m 27 ls []) := by
  obtain ⟨⟨hx, hb, hr, hml, hown, hts, hlocks, hK, hA⟩, hG⟩ := id C0
  intro n
  induction n with
  | zero =>
    intro x_o_noncePlace x_o_nonceSize x_o_ids_count r_o_ids_keyHashes r_o_ids_nameHashes r_o_ids_serials x_p0_depth x_p0_end x_p0_at x_p0_place x_p0_size x_p0_fault x_p0_items r_p0_data r_p0_outerEnds v_2 y hF
    exact absurd (show (none : Option (Int32 × (Nat → Int64) × (Nat → Int64) × (Nat → Int32) × Int32 × Int32 × Int32 × Int32 × Int32 × Int32 × Int32 × (Nat → Int32) × Int32 × Int32)) = some y from hF) (fun h => by cases h)
  | succ n ih =>
    intro x_o_noncePlace x_o_nonceSize x_o_ids_count r_o_ids_keyHashes r_o_ids_nameHashes r_o_ids_serials x_p0_depth x_p0_end x_p0_at x_p0_place x_p0_size x_p0_fault x_p0_items r_p0_data r_p0_outerEnds v_2 y hF H locs ls hP hD hS hl
    rw [j_ak_read_27] at hF
    refine lv_iload_n hx hb dX1_read_27 rfl (lv_at hl 2 rfl) ?_
    refine lv_bipush (v := (8 : Int32)) hx hb dX1_read_28 (by decide) ?_
    refine lv_icmp_ge (tgt := 58) hx hb dX1_read_30 (by decide) (fun c_3 => ?_) (fun c_3 => ?_)
    · replace hF := ite_t hF c_3
      exact w_ak_read_58 C0 a_o a_o_ids a_o_ids_keyHashes a_o_ids_nameHashes a_o_ids_serials a_p0 a_p0_data n_p0_data a_p0_outerEnds x_o_noncePlace x_o_nonceSize x_o_ids_count r_o_ids_keyHashes r_o_ids_nameHashes r_o_ids_serials x_p0_depth x_p0_end x_p0_at x_p0_place x_p0_size x_p0_fault x_p0_items r_p0_data r_p0_outerEnds y hF H locs ls hP hD hS (lv_sub hl [0, 1] rfl)
    · replace hF := ite_f hF c_3
      refine lv_iload_n hx hb dX1_read_33 rfl (lv_at hl 2 rfl) ?_
      refine lv_if_eq (tgt := 44) hx hb dX1_read_34 (by decide) (fun c_4 => ?_) (fun c_4 => ?_)
      · replace hF := ite_t hF c_4
        refine lv_aload_n hx hb dX1_read_44 rfl (lv_at hl 0 rfl) ?_
        refine va_get (D := D) (ci := 1) (v := .ref a_o_ids) (C := RX1) (T := TX1) (N := 3) hx hb hts iw_X1 hown hK hP 0 rfl rfl 0 (by decide) (hts _ kw_237) (fun _ h9 => h9) rfl dX1_read_45 ?_
        refine lv_aload_n hx hb dX1_read_48 rfl (lv_at hl 1 rfl) ?_
        obtain ⟨y_5, hy_5, hF⟩ := cal_d hF
        refine cf_v C0.1 hP hD hS [1, 2, 3, 4, 5, 6, 7] [0] [0, 1, 2, 3, 4, 5, 6, 7] (wr := [oX1 a_o a_o_ids x_o_noncePlace x_o_nonceSize]) (w' := [oX1 a_o a_o_ids x_o_noncePlace x_o_nonceSize, oX6 a_o_ids a_o_ids_nameHashes a_o_ids_keyHashes a_o_ids_serials y_5.1, rJ q a_o_ids_keyHashes 8 y_5.2.1, rJ q a_o_ids_nameHashes 8 y_5.2.2.1, rI q a_o_ids_serials 8 y_5.2.2.2.1, oX8 a_p0 a_p0_outerEnds a_p0_data y_5.2.2.2.2.2.1 y_5.2.2.2.2.2.2.1 y_5.2.2.2.2.1 y_5.2.2.2.2.2.2.2.2.2.2.1 y_5.2.2.2.2.2.2.2.2.2.2.2 y_5.2.2.2.2.2.2.2.1 y_5.2.2.2.2.2.2.2.2.1, rB q a_p0_data n_p0_data r_p0_data, rI q a_p0_outerEnds 12 y_5.2.2.2.2.2.2.2.2.2.1]) rfl rfl rfl (by decide) rfl rfl (sn_V (As := [.ref a_p0]) (rest := []) (ci := 6) (q0 := 1) C0 (c_id_read l D q t a_o_ids x_o_ids_count a_o_ids_keyHashes r_o_ids_keyHashes a_o_ids_nameHashes r_o_ids_nameHashes a_o_ids_serials r_o_ids_serials a_p0 x_p0_depth x_p0_end x_p0_at x_p0_place x_p0_size x_p0_fault x_p0_items a_p0_data n_p0_data r_p0_data a_p0_outerEnds r_p0_outerEnds  y_5 hy_5) (cwV 1 hts (g_V kw_820 kw_821 kw_822 kw_76 kw_823) rfl rfl rfl hd_X6_read ⟨Nat.le_of_ble_eq_true rfl, Nat.le_of_ble_eq_true rfl⟩) hP hD hS [1, 2, 3, 4, 5, 6, 7] rfl rfl rfl rfl rfl rfl hl (Nat.le_of_ble_eq_true rfl) dX1_read_49) (fun H locs hP hD hS => ?_)
        obtain ⟨v2_6, e_v2_6⟩ : ∃ z : Int32, z = v_2 + (1 : Int32) := ⟨_, rfl⟩
        replace hF := bnd_d hF e_v2_6
        refine lv_iinc (v := v2_6) (lv' := [(2, .int v2_6), (0, .ref a_o), (1, .ref a_p0)]) hx hb dX1_read_52 hl (k := 2) rfl (by rw [e_v2_6]; rfl) (by decide) rfl (fun ls hl => ?_)
        refine lv_goto (tgt := 27) hx hb dX1_read_55 (by decide) ?_
        exact ih x_o_noncePlace x_o_nonceSize y_5.1 y_5.2.1 y_5.2.2.1 y_5.2.2.2.1 y_5.2.2.2.2.2.1 y_5.2.2.2.2.2.2.1 y_5.2.2.2.2.1 y_5.2.2.2.2.2.2.2.2.2.2.1 y_5.2.2.2.2.2.2.2.2.2.2.2 y_5.2.2.2.2.2.2.2.1 y_5.2.2.2.2.2.2.2.2.1 r_p0_data y_5.2.2.2.2.2.2.2.2.2.1 v2_6 y hF H locs ls hP hD hS (lv_sub hl [1, 2, 0] rfl)
      · replace hF := ite_f hF c_4
        refine lv_aload_n hx hb dX1_read_37 rfl (lv_at hl 1 rfl) ?_
        obtain ⟨y_7, hy_7, hF⟩ := cal_d hF
        refine cf_i C0.1 hP hD hS [5] [0, 1, 2, 3, 4, 6, 7] [0, 1, 2, 3, 4, 7, 5, 6] (wr := [oX1 a_o a_o_ids x_o_noncePlace x_o_nonceSize, oX6 a_o_ids a_o_ids_nameHashes a_o_ids_keyHashes a_o_ids_serials x_o_ids_count, rJ q a_o_ids_keyHashes 8 r_o_ids_keyHashes, rJ q a_o_ids_nameHashes 8 r_o_ids_nameHashes, rI q a_o_ids_serials 8 r_o_ids_serials, rB q a_p0_data n_p0_data r_p0_data, rI q a_p0_outerEnds 12 r_p0_outerEnds]) (w' := [oX1 a_o a_o_ids x_o_noncePlace x_o_nonceSize, oX6 a_o_ids a_o_ids_nameHashes a_o_ids_keyHashes a_o_ids_serials x_o_ids_count, rJ q a_o_ids_keyHashes 8 r_o_ids_keyHashes, rJ q a_o_ids_nameHashes 8 r_o_ids_nameHashes, rI q a_o_ids_serials 8 r_o_ids_serials, oX8 a_p0 a_p0_outerEnds a_p0_data x_p0_depth x_p0_end x_p0_at x_p0_place x_p0_size x_p0_fault x_p0_items, rB q a_p0_data n_p0_data r_p0_data, rI q a_p0_outerEnds 12 r_p0_outerEnds]) rfl rfl rfl (by decide) rfl rfl (sn_V (As := []) (rest := []) (ci := 7) (q0 := 5) C0 (c_sc_hasMore l D q t a_p0 a_p0_outerEnds a_p0_data x_p0_depth x_p0_end x_p0_at x_p0_place x_p0_size x_p0_fault x_p0_items  y_7 hy_7) (cwV 0 hts (g_V kw_816 kw_817 kw_818 kw_77 kw_819) rfl rfl rfl hd_X8_hasMore ⟨Nat.le_of_ble_eq_true rfl, Nat.le_of_ble_eq_true rfl⟩) hP hD hS [5] rfl rfl rfl rfl rfl rfl hl (Nat.le_of_ble_eq_true rfl) dX1_read_38) (fun H locs hP hD hS => ?_)
        refine lv_if_eq (tgt := 58) hx hb dX1_read_41 (by decide) (fun c_8 => ?_) (fun c_8 => ?_)
        · replace hF := ite_t hF c_8
          exact w_ak_read_58 C0 a_o a_o_ids a_o_ids_keyHashes a_o_ids_nameHashes a_o_ids_serials a_p0 a_p0_data n_p0_data a_p0_outerEnds x_o_noncePlace x_o_nonceSize x_o_ids_count r_o_ids_keyHashes r_o_ids_nameHashes r_o_ids_serials x_p0_depth x_p0_end x_p0_at x_p0_place x_p0_size x_p0_fault x_p0_items r_p0_data r_p0_outerEnds y hF H locs ls hP hD hS (lv_sub hl [0, 1] rfl)
        · replace hF := ite_f hF c_8
          refine lv_aload_n hx hb dX1_read_44 rfl (lv_at hl 0 rfl) ?_
          refine va_get (D := D) (ci := 1) (v := .ref a_o_ids) (C := RX1) (T := TX1) (N := 3) hx hb hts iw_X1 hown hK hP 0 rfl rfl 0 (by decide) (hts _ kw_237) (fun _ h9 => h9) rfl dX1_read_45 ?_
          refine lv_aload_n hx hb dX1_read_48 rfl (lv_at hl 1 rfl) ?_
          obtain ⟨y_9, hy_9, hF⟩ := cal_d hF
          refine cf_v C0.1 hP hD hS [1, 2, 3, 4, 5, 6, 7] [0] [0, 1, 2, 3, 4, 5, 6, 7] (wr := [oX1 a_o a_o_ids x_o_noncePlace x_o_nonceSize]) (w' := [oX1 a_o a_o_ids x_o_noncePlace x_o_nonceSize, oX6 a_o_ids a_o_ids_nameHashes a_o_ids_keyHashes a_o_ids_serials y_9.1, rJ q a_o_ids_keyHashes 8 y_9.2.1, rJ q a_o_ids_nameHashes 8 y_9.2.2.1, rI q a_o_ids_serials 8 y_9.2.2.2.1, oX8 a_p0 a_p0_outerEnds a_p0_data y_9.2.2.2.2.2.1 y_9.2.2.2.2.2.2.1 y_9.2.2.2.2.1 y_9.2.2.2.2.2.2.2.2.2.2.1 y_9.2.2.2.2.2.2.2.2.2.2.2 y_9.2.2.2.2.2.2.2.1 y_9.2.2.2.2.2.2.2.2.1, rB q a_p0_data n_p0_data r_p0_data, rI q a_p0_outerEnds 12 y_9.2.2.2.2.2.2.2.2.2.1]) rfl rfl rfl (by decide) rfl rfl (sn_V (As := [.ref a_p0]) (rest := []) (ci := 6) (q0 := 1) C0 (c_id_read l D q t a_o_ids x_o_ids_count a_o_ids_keyHashes r_o_ids_keyHashes a_o_ids_nameHashes r_o_ids_nameHashes a_o_ids_serials r_o_ids_serials a_p0 x_p0_depth x_p0_end x_p0_at x_p0_place x_p0_size x_p0_fault x_p0_items a_p0_data n_p0_data r_p0_data a_p0_outerEnds r_p0_outerEnds  y_9 hy_9) (cwV 1 hts (g_V kw_820 kw_821 kw_822 kw_76 kw_823) rfl rfl rfl hd_X6_read ⟨Nat.le_of_ble_eq_true rfl, Nat.le_of_ble_eq_true rfl⟩) hP hD hS [1, 2, 3, 4, 5, 6, 7] rfl rfl rfl rfl rfl rfl hl (Nat.le_of_ble_eq_true rfl) dX1_read_49) (fun H locs hP hD hS => ?_)
          obtain ⟨v2_10, e_v2_10⟩ : ∃ z : Int32, z = v_2 + (1 : Int32) := ⟨_, rfl⟩
          replace hF := bnd_d hF e_v2_10
          refine lv_iinc (v := v2_10) (lv' := [(2, .int v2_10), (0, .ref a_o), (1, .ref a_p0)]) hx hb dX1_read_52 hl (k := 2) rfl (by rw [e_v2_10]; rfl) (by decide) rfl (fun ls hl => ?_)
          refine lv_goto (tgt := 27) hx hb dX1_read_55 (by decide) ?_
          exact ih x_o_noncePlace x_o_nonceSize y_9.1 y_9.2.1 y_9.2.2.1 y_9.2.2.2.1 y_9.2.2.2.2.2.1 y_9.2.2.2.2.2.2.1 y_9.2.2.2.2.1 y_9.2.2.2.2.2.2.2.2.2.2.1 y_9.2.2.2.2.2.2.2.2.2.2.2 y_9.2.2.2.2.2.2.2.1 y_9.2.2.2.2.2.2.2.2.1 r_p0_data y_9.2.2.2.2.2.2.2.2.2.1 v2_10 y hF H locs ls hP hD hS (lv_sub hl [1, 2, 0] rfl)
set_option maxHeartbeats 4000000 in
set_option maxRecDepth 100000 in
theorem c_ak_read (l : Launch) (D : va_G) (q : Nat → ClassId) (t : Nat) (a_o : Nat) (x_o_noncePlace : Int32) (x_o_nonceSize : Int32) (a_o_ids : Nat) (x_o_ids_count : Int32) (a_o_ids_keyHashes : Nat) (r_o_ids_keyHashes : (Nat → Int64)) (a_o_ids_nameHashes : Nat) (r_o_ids_nameHashes : (Nat → Int64)) (a_o_ids_serials : Nat) (r_o_ids_serials : (Nat → Int32)) (a_p0 : Nat) (x_p0_depth : Int32) (x_p0_end : Int32) (x_p0_at : Int32) (x_p0_place : Int32) (x_p0_size : Int32) (x_p0_fault : Int32) (x_p0_items : Int32) (a_p0_data : Nat) (n_p0_data : Nat) (r_p0_data : (Nat → Int32)) (a_p0_outerEnds : Nat) (r_p0_outerEnds : (Nat → Int32))  (y : Int32 × (Nat → Int64) × (Nat → Int64) × (Nat → Int32) × Int32 × Int32 × Int32 × Int32 × Int32 × Int32 × Int32 × (Nat → Int32) × Int32 × Int32) (hF : f_ak_read x_o_ids_count r_o_ids_keyHashes r_o_ids_nameHashes r_o_ids_serials x_o_noncePlace x_o_nonceSize x_p0_at r_p0_data x_p0_depth x_p0_end x_p0_fault x_p0_items r_p0_outerEnds x_p0_place x_p0_size n_p0_data = some y)  : cu l yX1_read (vs yX1_read cX1_read 3 none) ({ frames := 4, cells := 0, slots := 0, locals := 101 }) D q t [.ref a_o, .ref a_p0] [oX1 a_o a_o_ids x_o_noncePlace x_o_nonceSize, oX6 a_o_ids a_o_ids_nameHashes a_o_ids_keyHashes a_o_ids_serials x_o_ids_count, rJ q a_o_ids_keyHashes 8 r_o_ids_keyHashes, rJ q a_o_ids_nameHashes 8 r_o_ids_nameHashes, rI q a_o_ids_serials 8 r_o_ids_serials, oX8 a_p0 a_p0_outerEnds a_p0_data x_p0_depth x_p0_end x_p0_at x_p0_place x_p0_size x_p0_fault x_p0_items, rB q a_p0_data n_p0_data r_p0_data, rI q a_p0_outerEnds 12 r_p0_outerEnds] (qV D q [oX1 a_o a_o_ids y.2.2.2.2.1 y.2.2.2.2.2.1, oX6 a_o_ids a_o_ids_nameHashes a_o_ids_keyHashes a_o_ids_serials y.1, rJ q a_o_ids_keyHashes 8 y.2.1, rJ q a_o_ids_nameHashes 8 y.2.2.1, rI q a_o_ids_serials 8 y.2.2.2.1, oX8 a_p0 a_p0_outerEnds a_p0_data y.2.2.2.2.2.2.2.1 y.2.2.2.2.2.2.2.2.1 y.2.2.2.2.2.2.1 y.2.2.2.2.2.2.2.2.2.2.2.2.1 y.2.2.2.2.2.2.2.2.2.2.2.2.2 y.2.2.2.2.2.2.2.2.2.1 y.2.2.2.2.2.2.2.2.2.2.1, rB q a_p0_data n_p0_data r_p0_data, rI q a_p0_outerEnds 12 y.2.2.2.2.2.2.2.2.2.2.2.1]) := by
  refine cu_of (cc := cX1_read) (nL := 3) (ret := none) (by decide) (Nat.le_of_ble_eq_true rfl) (fun {p e s m args below meth c A} C0 H locs ls hP hD hS hl => ?_)
  have C0 : cy p s m args meth c cX1_read none 3 RX1 D q t A := C0
  obtain ⟨⟨hx, hb, hr, hml, hown, hts, hlocks, hK, hA⟩, hG⟩ := id C0
  have hl : lv_has ls 3 [(0, .ref a_o), (1, .ref a_p0)] := hl
  unfold f_ak_read at hF
  refine lv_aload_n hx hb dX1_read_0 rfl (lv_at hl 0 rfl) ?_
  refine va_get (D := D) (ci := 1) (v := .ref a_o_ids) (C := RX1) (T := TX1) (N := 3) hx hb hts iw_X1 hown hK hP 0 rfl rfl 0 (by decide) (hts _ kw_237) (fun _ h9 => h9) rfl dX1_read_1 ?_
  refine lv_iconst (v := (0 : Int32)) hx hb dX1_read_4 (by decide) ?_
  refine va_put (D := D) (ci := 6) (v := .int (0 : Int32)) (ty := .int) (C := RX6) (T := TX6) (N := 4) hx hb hts iw_X6 tyX6 tyX6_ok nmX6 hown hK hP hD hS 1 rfl rfl 3 (by decide) (hts _ kw_172) (fun _ h9 => h9) rfl (by decide +kernel) rfl rfl (Nat.le_of_ble_eq_true rfl) dX1_read_5 (fun H locs hP hD hS => ?_)
  have hP : va_P D vwCl ([oX1 a_o a_o_ids x_o_noncePlace x_o_nonceSize, oX6 a_o_ids a_o_ids_nameHashes a_o_ids_keyHashes a_o_ids_serials (0 : Int32), rJ q a_o_ids_keyHashes 8 r_o_ids_keyHashes, rJ q a_o_ids_nameHashes 8 r_o_ids_nameHashes, rI q a_o_ids_serials 8 r_o_ids_serials, oX8 a_p0 a_p0_outerEnds a_p0_data x_p0_depth x_p0_end x_p0_at x_p0_place x_p0_size x_p0_fault x_p0_items, rB q a_p0_data n_p0_data r_p0_data, rI q a_p0_outerEnds 12 r_p0_outerEnds]) H := hP
  have hD : va_D A ([oX1 a_o a_o_ids x_o_noncePlace x_o_nonceSize, oX6 a_o_ids a_o_ids_nameHashes a_o_ids_keyHashes a_o_ids_serials (0 : Int32), rJ q a_o_ids_keyHashes 8 r_o_ids_keyHashes, rJ q a_o_ids_nameHashes 8 r_o_ids_nameHashes, rI q a_o_ids_serials 8 r_o_ids_serials, oX8 a_p0 a_p0_outerEnds a_p0_data x_p0_depth x_p0_end x_p0_at x_p0_place x_p0_size x_p0_fault x_p0_items, rB q a_p0_data n_p0_data r_p0_data, rI q a_p0_outerEnds 12 r_p0_outerEnds]) := hD
  refine lv_aload_n hx hb dX1_read_8 rfl (lv_at hl 0 rfl) ?_
  refine lv_iconst (v := (0 : Int32)) hx hb dX1_read_9 (by decide) ?_
  refine va_put (D := D) (ci := 1) (v := .int (0 : Int32)) (ty := .int) (C := RX1) (T := TX1) (N := 3) hx hb hts iw_X1 tyX1 tyX1_ok nmX1 hown hK hP hD hS 0 rfl rfl 2 (by decide) (hts _ kw_241) (fun _ h9 => h9) rfl (by decide +kernel) rfl rfl (Nat.le_of_ble_eq_true rfl) dX1_read_10 (fun H locs hP hD hS => ?_)
  have hP : va_P D vwCl ([oX1 a_o a_o_ids x_o_noncePlace (0 : Int32), oX6 a_o_ids a_o_ids_nameHashes a_o_ids_keyHashes a_o_ids_serials (0 : Int32), rJ q a_o_ids_keyHashes 8 r_o_ids_keyHashes, rJ q a_o_ids_nameHashes 8 r_o_ids_nameHashes, rI q a_o_ids_serials 8 r_o_ids_serials, oX8 a_p0 a_p0_outerEnds a_p0_data x_p0_depth x_p0_end x_p0_at x_p0_place x_p0_size x_p0_fault x_p0_items, rB q a_p0_data n_p0_data r_p0_data, rI q a_p0_outerEnds 12 r_p0_outerEnds]) H := hP
  have hD : va_D A ([oX1 a_o a_o_ids x_o_noncePlace (0 : Int32), oX6 a_o_ids a_o_ids_nameHashes a_o_ids_keyHashes a_o_ids_serials (0 : Int32), rJ q a_o_ids_keyHashes 8 r_o_ids_keyHashes, rJ q a_o_ids_nameHashes 8 r_o_ids_nameHashes, rI q a_o_ids_serials 8 r_o_ids_serials, oX8 a_p0 a_p0_outerEnds a_p0_data x_p0_depth x_p0_end x_p0_at x_p0_place x_p0_size x_p0_fault x_p0_items, rB q a_p0_data n_p0_data r_p0_data, rI q a_p0_outerEnds 12 r_p0_outerEnds]) := hD
  refine lv_aload_n hx hb dX1_read_13 rfl (lv_at hl 1 rfl) ?_
  refine lv_bipush (v := (48 : Int32)) hx hb dX1_read_14 (by decide) ?_
  obtain ⟨y_1, hy_1, hF⟩ := cal_d hF
  refine cf_v C0.1 hP hD hS [5, 6, 7] [0, 1, 2, 3, 4] [0, 1, 2, 3, 4, 5, 6, 7] (wr := [oX1 a_o a_o_ids x_o_noncePlace (0 : Int32), oX6 a_o_ids a_o_ids_nameHashes a_o_ids_keyHashes a_o_ids_serials (0 : Int32), rJ q a_o_ids_keyHashes 8 r_o_ids_keyHashes, rJ q a_o_ids_nameHashes 8 r_o_ids_nameHashes, rI q a_o_ids_serials 8 r_o_ids_serials]) (w' := [oX1 a_o a_o_ids x_o_noncePlace (0 : Int32), oX6 a_o_ids a_o_ids_nameHashes a_o_ids_keyHashes a_o_ids_serials (0 : Int32), rJ q a_o_ids_keyHashes 8 r_o_ids_keyHashes, rJ q a_o_ids_nameHashes 8 r_o_ids_nameHashes, rI q a_o_ids_serials 8 r_o_ids_serials, oX8 a_p0 a_p0_outerEnds a_p0_data y_1.2.1 y_1.2.2.1 y_1.1 y_1.2.2.2.2.2.2.1 y_1.2.2.2.2.2.2.2 y_1.2.2.2.1 y_1.2.2.2.2.1, rB q a_p0_data n_p0_data r_p0_data, rI q a_p0_outerEnds 12 y_1.2.2.2.2.2.1]) rfl rfl rfl (by decide) rfl rfl (sn_V (As := [.int (48 : Int32)]) (rest := []) (ci := 7) (q0 := 5) C0 (c_sc_open l D q t a_p0 x_p0_depth x_p0_end x_p0_at x_p0_place x_p0_size x_p0_fault x_p0_items a_p0_data n_p0_data r_p0_data a_p0_outerEnds r_p0_outerEnds (48 : Int32) y_1 hy_1) (cwV 1 hts (g_V kw_796 kw_797 kw_798 kw_77 kw_799) rfl rfl rfl hd_X8_open ⟨Nat.le_of_ble_eq_true rfl, Nat.le_of_ble_eq_true rfl⟩) hP hD hS [5, 6, 7] rfl rfl rfl rfl rfl rfl hl (Nat.le_of_ble_eq_true rfl) dX1_read_16) (fun H locs hP hD hS => ?_)
  refine lv_aload_n hx hb dX1_read_19 rfl (lv_at hl 1 rfl) ?_
  refine lv_bipush (v := (48 : Int32)) hx hb dX1_read_20 (by decide) ?_
  obtain ⟨y_2, hy_2, hF⟩ := cal_d hF
  refine cf_v C0.1 hP hD hS [5, 6, 7] [0, 1, 2, 3, 4] [0, 1, 2, 3, 4, 5, 6, 7] (wr := [oX1 a_o a_o_ids x_o_noncePlace (0 : Int32), oX6 a_o_ids a_o_ids_nameHashes a_o_ids_keyHashes a_o_ids_serials (0 : Int32), rJ q a_o_ids_keyHashes 8 r_o_ids_keyHashes, rJ q a_o_ids_nameHashes 8 r_o_ids_nameHashes, rI q a_o_ids_serials 8 r_o_ids_serials]) (w' := [oX1 a_o a_o_ids x_o_noncePlace (0 : Int32), oX6 a_o_ids a_o_ids_nameHashes a_o_ids_keyHashes a_o_ids_serials (0 : Int32), rJ q a_o_ids_keyHashes 8 r_o_ids_keyHashes, rJ q a_o_ids_nameHashes 8 r_o_ids_nameHashes, rI q a_o_ids_serials 8 r_o_ids_serials, oX8 a_p0 a_p0_outerEnds a_p0_data y_2.2.1 y_2.2.2.1 y_2.1 y_2.2.2.2.2.2.2.1 y_2.2.2.2.2.2.2.2 y_2.2.2.2.1 y_2.2.2.2.2.1, rB q a_p0_data n_p0_data r_p0_data, rI q a_p0_outerEnds 12 y_2.2.2.2.2.2.1]) rfl rfl rfl (by decide) rfl rfl (sn_V (As := [.int (48 : Int32)]) (rest := []) (ci := 7) (q0 := 5) C0 (c_sc_open l D q t a_p0 y_1.2.1 y_1.2.2.1 y_1.1 y_1.2.2.2.2.2.2.1 y_1.2.2.2.2.2.2.2 y_1.2.2.2.1 y_1.2.2.2.2.1 a_p0_data n_p0_data r_p0_data a_p0_outerEnds y_1.2.2.2.2.2.1 (48 : Int32) y_2 hy_2) (cwV 1 hts (g_V kw_796 kw_797 kw_798 kw_77 kw_799) rfl rfl rfl hd_X8_open ⟨Nat.le_of_ble_eq_true rfl, Nat.le_of_ble_eq_true rfl⟩) hP hD hS [5, 6, 7] rfl rfl rfl rfl rfl rfl hl (Nat.le_of_ble_eq_true rfl) dX1_read_22) (fun H locs hP hD hS => ?_)
  refine lv_iconst (v := (0 : Int32)) hx hb dX1_read_25 (by decide) ?_
  refine lv_istore_n (lv' := [(2, .int (0 : Int32)), (0, .ref a_o), (1, .ref a_p0)]) hx hb dX1_read_26 rfl hl (by decide) rfl (fun ls hl => ?_)
  exact w_ak_read_27 C0 a_o a_o_ids a_o_ids_keyHashes a_o_ids_nameHashes a_o_ids_serials a_p0 a_p0_data n_p0_data a_p0_outerEnds FU x_o_noncePlace (0 : Int32) (0 : Int32) r_o_ids_keyHashes r_o_ids_nameHashes r_o_ids_serials y_2.2.1 y_2.2.2.1 y_2.1 y_2.2.2.2.2.2.2.1 y_2.2.2.2.2.2.2.2 y_2.2.2.2.1 y_2.2.2.2.2.1 r_p0_data y_2.2.2.2.2.2.1 (0 : Int32) y hF H locs ls hP hD hS (lv_sub hl [1, 2, 0] rfl)
set_option maxHeartbeats 4000000 in
set_option maxRecDepth 100000 in
theorem c_by_add (l : Launch) (D : va_G) (q : Nat → ClassId) (t : Nat) (a_o : Nat) (x_o_length : Int32) (a_o_data : Nat) (n_o_data : Nat) (r_o_data : (Nat → Int32)) (p_0 : Int32) (y : (Nat → Int32) × Int32) (hF : f_by_add r_o_data x_o_length n_o_data p_0 = some y)  : cu l yX3_add (vs yX3_add cX3_add 2 none) ({ frames := 0, cells := 0, slots := 0, locals := 0 }) D q t [.ref a_o, .int p_0] [oX3 a_o a_o_data x_o_length, rB q a_o_data n_o_data r_o_data] (qV D q [oX3 a_o a_o_data y.2, rB q a_o_data n_o_data y.1]) := by
  refine cu_of (cc := cX3_add) (nL := 2) (ret := none) (by decide) (Nat.le_of_ble_eq_true rfl) (fun {p e s m args below meth c A} C0 H locs ls hP hD hS hl => ?_)
  have C0 : cy p s m args meth c cX3_add none 2 RX3 D q t A := C0
  obtain ⟨⟨hx, hb, hr, hml, hown, hts, hlocks, hK, hA⟩, hG⟩ := id C0
  have hl : lv_has ls 2 [(0, .ref a_o), (1, .int p_0)] := hl
  unfold f_by_add at hF
  refine lv_aload_n hx hb dX3_add_0 rfl (lv_at hl 0 rfl) ?_
  refine va_get (D := D) (ci := 3) (v := .int x_o_length) (C := RX3) (T := TX3) (N := 2) hx hb hts iw_X3 hown hK hP 0 rfl rfl 1 (by decide) (hts _ kw_106) (fun _ h9 => h9) rfl dX3_add_1 ?_
  refine lv_aload_n hx hb dX3_add_4 rfl (lv_at hl 0 rfl) ?_
  refine va_get (D := D) (ci := 3) (v := .ref a_o_data) (C := RX3) (T := TX3) (N := 2) hx hb hts iw_X3 hown hK hP 0 rfl rfl 0 (by decide) (hts _ kw_103) (fun _ h9 => h9) rfl dX3_add_5 ?_
  refine va_alen (v := Int32.ofNat n_o_data) hx hb hK hP 1 0 rfl rfl rfl dX3_add_8 ?_
  refine lv_icmp_ge (tgt := 33) hx hb dX3_add_9 (by decide) (fun c_1 => ?_) (fun c_1 => ?_)
  · replace hF := ite_t hF c_1
    have hy9 := (Option.some.inj hF).symm
    subst hy9
    exact rt_v C0.1 hP hD hS dX3_add_33
  · replace hF := ite_f hF c_1
    refine lv_aload_n hx hb dX3_add_12 rfl (lv_at hl 0 rfl) ?_
    refine va_get (D := D) (ci := 3) (v := .ref a_o_data) (C := RX3) (T := TX3) (N := 2) hx hb hts iw_X3 hown hK hP 0 rfl rfl 0 (by decide) (hts _ kw_103) (fun _ h9 => h9) rfl dX3_add_13 ?_
    refine lv_aload_n hx hb dX3_add_16 rfl (lv_at hl 0 rfl) ?_
    refine va_get (D := D) (ci := 3) (v := .int x_o_length) (C := RX3) (T := TX3) (N := 2) hx hb hts iw_X3 hown hK hP 0 rfl rfl 1 (by decide) (hts _ kw_106) (fun _ h9 => h9) rfl dX3_add_17 ?_
    refine lv_iload_n hx hb dX3_add_20 rfl (lv_at hl 1 rfl) ?_
    refine lv_i2b hx hb dX3_add_21 rfl ?_
    obtain ⟨z_2, hF⟩ := chk_d hF
    refine va_bast hx hb hK hP hD hS 1 0 rfl rfl z_2 dX3_add_22 (fun H locs hP hD hS => ?_)
    obtain ⟨r_o_data_3, e_r_o_data_3⟩ : ∃ z : (Nat → Int32), z = upd r_o_data x_o_length.toNatClampNeg (vp_nar .byte p_0.toInt8.toInt32) := ⟨_, rfl⟩
    replace hF := bnd_d hF e_r_o_data_3
    have hP : va_P D vwCl ([oX3 a_o a_o_data x_o_length, rB q a_o_data n_o_data r_o_data_3]) H := by rw [e_r_o_data_3]; exact hP
    have hD : va_D A ([oX3 a_o a_o_data x_o_length, rB q a_o_data n_o_data r_o_data_3]) := by rw [e_r_o_data_3]; exact hD
    refine lv_aload_n hx hb dX3_add_23 rfl (lv_at hl 0 rfl) ?_
    refine lv_dup hx hb dX3_add_24 rfl ?_
    refine va_get (D := D) (ci := 3) (v := .int x_o_length) (C := RX3) (T := TX3) (N := 2) hx hb hts iw_X3 hown hK hP 0 rfl rfl 1 (by decide) (hts _ kw_106) (fun _ h9 => h9) rfl dX3_add_25 ?_
    refine lv_iconst (v := (1 : Int32)) hx hb dX3_add_28 (by decide) ?_
    refine lv_iadd hx hb dX3_add_29 ?_
    refine lv_topi (fun x_o_length_4 e_x_o_length_4 => ?_)
    replace hF := bnd_d hF e_x_o_length_4
    refine va_put (D := D) (ci := 3) (v := .int x_o_length_4) (ty := .int) (C := RX3) (T := TX3) (N := 2) hx hb hts iw_X3 tyX3 tyX3_ok nmX3 hown hK hP hD hS 0 rfl rfl 1 (by decide) (hts _ kw_106) (fun _ h9 => h9) rfl (by decide +kernel) rfl rfl (Nat.le_of_ble_eq_true rfl) dX3_add_30 (fun H locs hP hD hS => ?_)
    have hP : va_P D vwCl ([oX3 a_o a_o_data x_o_length_4, rB q a_o_data n_o_data r_o_data_3]) H := hP
    have hD : va_D A ([oX3 a_o a_o_data x_o_length_4, rB q a_o_data n_o_data r_o_data_3]) := hD
    have hy9 := (Option.some.inj hF).symm
    subst hy9
    exact rt_v C0.1 hP hD hS dX3_add_33
set_option maxHeartbeats 4000000 in
set_option maxRecDepth 100000 in
theorem w_by_addAll_3 {l : Launch} {p : Program} {e : Env} {s : State} {m : MethodId} {args : Array Value} {below : List Frame} {meth : Method} {c : Code} {A : Nat → Prop} {D : va_G} {q : Nat → ClassId} {t : Nat} (C0 : cy p s m args meth c cX3_addAll none 5 RX3 D q t A) (a_o : Nat) (a_o_data : Nat) (n_o_data : Nat) (a_p0 : Nat) (a_p0_data : Nat) (n_p0_data : Nat)  : ∀ (n : Nat) (x_o_length : Int32) (r_o_data : (Nat → Int32)) (x_p0_length : Int32) (r_p0_data : (Nat → Int32)) (v_2 : Int32) (v_3 : Int32) (v_4 : Int32) (y : (Nat → Int32) × Int32) (hF : j_by_addAll_3 n r_o_data x_o_length r_p0_data x_p0_length n_o_data n_p0_data v_2 v_3 v_4 = some y), ∀ (H : Heap) (locs : List Loc) (ls : Array Slot), va_P D vwCl [oX3 a_o a_o_data x_o_length, rB q a_o_data n_o_data r_o_data, oX3 a_p0 a_p0_data x_p0_length, rB q a_p0_data n_p0_data r_p0_data] H → va_D A [oX3 a_o a_o_data x_o_length, rB q a_o_data n_o_data r_o_data, oX3 a_p0 a_p0_data x_p0_length, rB q a_p0_data n_p0_data r_p0_data] → va_S A s.heap H locs → lv_has ls 5 [(0, .ref a_o), (1, .ref a_p0), (2, .int v_2), (3, .int v_3), (4, .int v_4)] → W p l e ({ frames := 1, cells := 0, slots := 0, locals := 21 }) s m args below meth c H locs 0 0 (MQ below (qV D q [oX3 a_o a_o_data y.2, rB q a_o_data n_o_data y.1, oX3 a_p0 a_p0_data x_p0_length, rB q a_p0_data n_p0_data r_p0_data] A) args s 0 0 A) (F0 m 3 ls []) := by
  obtain ⟨⟨hx, hb, hr, hml, hown, hts, hlocks, hK, hA⟩, hG⟩ := id C0
  intro n
  induction n with
  | zero =>
    intro x_o_length r_o_data x_p0_length r_p0_data v_2 v_3 v_4 y hF
    exact absurd (show (none : Option ((Nat → Int32) × Int32)) = some y from hF) (fun h => by cases h)
  | succ n ih =>
    intro x_o_length r_o_data x_p0_length r_p0_data v_2 v_3 v_4 y hF H locs ls hP hD hS hl
    rw [j_by_addAll_3] at hF
    refine lv_iload hx hb dX3_addAll_3 (lv_at hl 4 rfl) ?_
    refine lv_iload_n hx hb dX3_addAll_5 rfl (lv_at hl 3 rfl) ?_
    refine lv_icmp_ge (tgt := 27) hx hb dX3_addAll_6 (by decide) (fun c_1 => ?_) (fun c_1 => ?_)
    · replace hF := ite_t hF c_1
      have hy9 := (Option.some.inj hF).symm
      subst hy9
      exact rt_v C0.1 hP hD hS dX3_addAll_27
    · replace hF := ite_f hF c_1
      refine lv_aload_n hx hb dX3_addAll_9 rfl (lv_at hl 0 rfl) ?_
      refine lv_aload_n hx hb dX3_addAll_10 rfl (lv_at hl 1 rfl) ?_
      refine lv_iload_n hx hb dX3_addAll_11 rfl (lv_at hl 2 rfl) ?_
      refine lv_iload hx hb dX3_addAll_12 (lv_at hl 4 rfl) ?_
      refine lv_iadd hx hb dX3_addAll_14 ?_
      obtain ⟨y_2, hy_2, hF⟩ := cal_d hF
      refine cf_i C0.1 hP hD hS [2, 3] [0, 1] [0, 1, 2, 3] (wr := [oX3 a_o a_o_data x_o_length, rB q a_o_data n_o_data r_o_data]) (w' := [oX3 a_o a_o_data x_o_length, rB q a_o_data n_o_data r_o_data, oX3 a_p0 a_p0_data x_p0_length, rB q a_p0_data n_p0_data r_p0_data]) rfl rfl rfl (by decide) rfl rfl (sn_V (As := [.int (v_2 + v_4)]) (rest := [.ref a_o]) (ci := 3) (q0 := 2) C0 (c_by_byteAt l D q t a_p0 x_p0_length a_p0_data n_p0_data r_p0_data (v_2 + v_4) y_2 hy_2) (cwV 1 hts (g_V kw_546 kw_547 kw_548 kw_73 kw_549) rfl rfl rfl hd_X3_byteAt ⟨Nat.le_of_ble_eq_true rfl, Nat.le_of_ble_eq_true rfl⟩) hP hD hS [2, 3] rfl rfl rfl rfl rfl rfl hl (Nat.le_of_ble_eq_true rfl) dX3_addAll_15) (fun H locs hP hD hS => ?_)
      obtain ⟨y_3, hy_3, hF⟩ := cal_d hF
      refine cf_v C0.1 hP hD hS [0, 1] [2, 3] [2, 3, 0, 1] (wr := [oX3 a_p0 a_p0_data x_p0_length, rB q a_p0_data n_p0_data r_p0_data]) (w' := [oX3 a_o a_o_data y_3.2, rB q a_o_data n_o_data y_3.1, oX3 a_p0 a_p0_data x_p0_length, rB q a_p0_data n_p0_data r_p0_data]) rfl rfl rfl (by decide) rfl rfl (sn_V (As := [.int y_2]) (rest := []) (ci := 3) (q0 := 0) C0 (c_by_add l D q t a_o x_o_length a_o_data n_o_data r_o_data y_2 y_3 hy_3) (cwV 1 hts (g_V kw_526 kw_527 kw_528 kw_73 kw_529) rfl rfl rfl hd_X3_add ⟨Nat.le_of_ble_eq_true rfl, Nat.le_of_ble_eq_true rfl⟩) hP hD hS [0, 1] rfl rfl rfl rfl rfl rfl hl (Nat.le_of_ble_eq_true rfl) dX3_addAll_18) (fun H locs hP hD hS => ?_)
      obtain ⟨v4_4, e_v4_4⟩ : ∃ z : Int32, z = v_4 + (1 : Int32) := ⟨_, rfl⟩
      replace hF := bnd_d hF e_v4_4
      refine lv_iinc (v := v4_4) (lv' := [(4, .int v4_4), (0, .ref a_o), (1, .ref a_p0), (2, .int v_2), (3, .int v_3)]) hx hb dX3_addAll_21 hl (k := 4) rfl (by rw [e_v4_4]; rfl) (by decide) rfl (fun ls hl => ?_)
      refine lv_goto (tgt := 3) hx hb dX3_addAll_24 (by decide) ?_
      exact ih y_3.2 y_3.1 x_p0_length r_p0_data v_2 v_3 v4_4 y hF H locs ls hP hD hS (lv_sub hl [1, 2, 3, 4, 0] rfl)
set_option maxHeartbeats 4000000 in
set_option maxRecDepth 100000 in
theorem c_by_addAll (l : Launch) (D : va_G) (q : Nat → ClassId) (t : Nat) (a_o : Nat) (x_o_length : Int32) (a_o_data : Nat) (n_o_data : Nat) (r_o_data : (Nat → Int32)) (a_p0 : Nat) (x_p0_length : Int32) (a_p0_data : Nat) (n_p0_data : Nat) (r_p0_data : (Nat → Int32)) (p_1 : Int32) (p_2 : Int32) (y : (Nat → Int32) × Int32) (hF : f_by_addAll r_o_data x_o_length r_p0_data x_p0_length n_o_data n_p0_data p_1 p_2 = some y)  : cu l yX3_addAll (vs yX3_addAll cX3_addAll 5 none) ({ frames := 1, cells := 0, slots := 0, locals := 21 }) D q t [.ref a_o, .ref a_p0, .int p_1, .int p_2] [oX3 a_o a_o_data x_o_length, rB q a_o_data n_o_data r_o_data, oX3 a_p0 a_p0_data x_p0_length, rB q a_p0_data n_p0_data r_p0_data] (qV D q [oX3 a_o a_o_data y.2, rB q a_o_data n_o_data y.1, oX3 a_p0 a_p0_data x_p0_length, rB q a_p0_data n_p0_data r_p0_data]) := by
  refine cu_of (cc := cX3_addAll) (nL := 5) (ret := none) (by decide) (Nat.le_of_ble_eq_true rfl) (fun {p e s m args below meth c A} C0 H locs ls hP hD hS hl => ?_)
  have C0 : cy p s m args meth c cX3_addAll none 5 RX3 D q t A := C0
  obtain ⟨⟨hx, hb, hr, hml, hown, hts, hlocks, hK, hA⟩, hG⟩ := id C0
  have hl : lv_has ls 5 [(0, .ref a_o), (1, .ref a_p0), (2, .int p_1), (3, .int p_2)] := hl
  unfold f_by_addAll at hF
  refine lv_iconst (v := (0 : Int32)) hx hb dX3_addAll_0 (by decide) ?_
  refine lv_istore (lv' := [(4, .int (0 : Int32)), (0, .ref a_o), (1, .ref a_p0), (2, .int p_1), (3, .int p_2)]) hx hb dX3_addAll_1 hl (by decide) rfl (fun ls hl => ?_)
  exact w_by_addAll_3 C0 a_o a_o_data n_o_data a_p0 a_p0_data n_p0_data FU x_o_length r_o_data x_p0_length r_p0_data p_1 p_2 (0 : Int32) y hF H locs ls hP hD hS (lv_sub hl [1, 2, 3, 4, 0] rfl)
set_option maxHeartbeats 4000000 in
set_option maxRecDepth 100000 in
theorem c_by_clear (l : Launch) (D : va_G) (q : Nat → ClassId) (t : Nat) (a_o : Nat) (a_o_data : Nat) (x_o_length : Int32)  (y : Int32) (hF : f_by_clear x_o_length = some y)  : cu l yX3_clear (vs yX3_clear cX3_clear 1 none) ({ frames := 0, cells := 0, slots := 0, locals := 0 }) D q t [.ref a_o] [oX3 a_o a_o_data x_o_length] (qV D q [oX3 a_o a_o_data y]) := by
  refine cu_of (cc := cX3_clear) (nL := 1) (ret := none) (by decide) (Nat.le_of_ble_eq_true rfl) (fun {p e s m args below meth c A} C0 H locs ls hP hD hS hl => ?_)
  have C0 : cy p s m args meth c cX3_clear none 1 RX3 D q t A := C0
  obtain ⟨⟨hx, hb, hr, hml, hown, hts, hlocks, hK, hA⟩, hG⟩ := id C0
  have hl : lv_has ls 1 [(0, .ref a_o)] := hl
  unfold f_by_clear at hF
  refine lv_aload_n hx hb dX3_clear_0 rfl (lv_at hl 0 rfl) ?_
  refine lv_iconst (v := (0 : Int32)) hx hb dX3_clear_1 (by decide) ?_
  refine va_put (D := D) (ci := 3) (v := .int (0 : Int32)) (ty := .int) (C := RX3) (T := TX3) (N := 2) hx hb hts iw_X3 tyX3 tyX3_ok nmX3 hown hK hP hD hS 0 rfl rfl 1 (by decide) (hts _ kw_106) (fun _ h9 => h9) rfl (by decide +kernel) rfl rfl (Nat.le_of_ble_eq_true rfl) dX3_clear_2 (fun H locs hP hD hS => ?_)
  have hP : va_P D vwCl ([oX3 a_o a_o_data (0 : Int32)]) H := hP
  have hD : va_D A ([oX3 a_o a_o_data (0 : Int32)]) := hD
  have hy9 := (Option.some.inj hF).symm
  subst hy9
  exact rt_v C0.1 hP hD hS dX3_clear_5
set_option maxHeartbeats 4000000 in
set_option maxRecDepth 100000 in
theorem c_by_copyOf (l : Launch) (D : va_G) (q : Nat → ClassId) (t : Nat) (a_o : Nat) (x_o_length : Int32) (a_o_data : Nat) (n_o_data : Nat) (r_o_data : (Nat → Int32)) (a_p0 : Nat) (x_p0_length : Int32) (a_p0_data : Nat) (n_p0_data : Nat) (r_p0_data : (Nat → Int32))  (y : (Nat → Int32) × Int32) (hF : f_by_copyOf r_o_data x_o_length r_p0_data x_p0_length n_o_data n_p0_data = some y)  : cu l yX3_copyOf (vs yX3_copyOf cX3_copyOf 2 none) ({ frames := 2, cells := 0, slots := 0, locals := 45 }) D q t [.ref a_o, .ref a_p0] [oX3 a_o a_o_data x_o_length, rB q a_o_data n_o_data r_o_data, oX3 a_p0 a_p0_data x_p0_length, rB q a_p0_data n_p0_data r_p0_data] (qV D q [oX3 a_o a_o_data y.2, rB q a_o_data n_o_data y.1, oX3 a_p0 a_p0_data x_p0_length, rB q a_p0_data n_p0_data r_p0_data]) := by
  refine cu_of (cc := cX3_copyOf) (nL := 2) (ret := none) (by decide) (Nat.le_of_ble_eq_true rfl) (fun {p e s m args below meth c A} C0 H locs ls hP hD hS hl => ?_)
  have C0 : cy p s m args meth c cX3_copyOf none 2 RX3 D q t A := C0
  obtain ⟨⟨hx, hb, hr, hml, hown, hts, hlocks, hK, hA⟩, hG⟩ := id C0
  have hl : lv_has ls 2 [(0, .ref a_o), (1, .ref a_p0)] := hl
  unfold f_by_copyOf at hF
  refine lv_aload_n hx hb dX3_copyOf_0 rfl (lv_at hl 0 rfl) ?_
  obtain ⟨y_1, hy_1, hF⟩ := cal_d hF
  refine cf_v C0.1 hP hD hS [0] [1, 2, 3] [3, 0, 1, 2] (wr := [rB q a_o_data n_o_data r_o_data, oX3 a_p0 a_p0_data x_p0_length, rB q a_p0_data n_p0_data r_p0_data]) (w' := [oX3 a_o a_o_data y_1, rB q a_o_data n_o_data r_o_data, oX3 a_p0 a_p0_data x_p0_length, rB q a_p0_data n_p0_data r_p0_data]) rfl rfl rfl (by decide) rfl rfl (sn_V (As := []) (rest := []) (ci := 3) (q0 := 0) C0 (c_by_clear l D q t a_o a_o_data x_o_length  y_1 hy_1) (cwV 0 hts (g_V kw_538 kw_539 kw_540 kw_73 kw_541) rfl rfl rfl hd_X3_clear ⟨Nat.le_of_ble_eq_true rfl, Nat.le_of_ble_eq_true rfl⟩) hP hD hS [0] rfl rfl rfl rfl rfl rfl hl (Nat.le_of_ble_eq_true rfl) dX3_copyOf_1) (fun H locs hP hD hS => ?_)
  refine lv_aload_n hx hb dX3_copyOf_4 rfl (lv_at hl 0 rfl) ?_
  refine lv_aload_n hx hb dX3_copyOf_5 rfl (lv_at hl 1 rfl) ?_
  refine lv_iconst (v := (0 : Int32)) hx hb dX3_copyOf_6 (by decide) ?_
  refine lv_aload_n hx hb dX3_copyOf_7 rfl (lv_at hl 1 rfl) ?_
  refine va_get (D := D) (ci := 3) (v := .int x_p0_length) (C := RX3) (T := TX3) (N := 2) hx hb hts iw_X3 hown hK hP 2 rfl rfl 1 (by decide) (hts _ kw_106) (fun _ h9 => h9) rfl dX3_copyOf_8 ?_
  obtain ⟨y_2, hy_2, hF⟩ := cal_d hF
  refine cf_v C0.1 hP hD hS [0, 1, 2, 3] [] [0, 1, 2, 3] (wr := []) (w' := [oX3 a_o a_o_data y_2.2, rB q a_o_data n_o_data y_2.1, oX3 a_p0 a_p0_data x_p0_length, rB q a_p0_data n_p0_data r_p0_data]) rfl rfl rfl (by decide) rfl rfl (sn_V (As := [.ref a_p0, .int (0 : Int32), .int x_p0_length]) (rest := []) (ci := 3) (q0 := 0) C0 (c_by_addAll l D q t a_o y_1 a_o_data n_o_data r_o_data a_p0 x_p0_length a_p0_data n_p0_data r_p0_data (0 : Int32) x_p0_length y_2 hy_2) (cwV 3 hts (g_V kw_542 kw_543 kw_544 kw_73 kw_545) rfl rfl rfl hd_X3_addAll ⟨Nat.le_of_ble_eq_true rfl, Nat.le_of_ble_eq_true rfl⟩) hP hD hS [0, 1, 2, 3] rfl rfl rfl rfl rfl rfl hl (Nat.le_of_ble_eq_true rfl) dX3_copyOf_11) (fun H locs hP hD hS => ?_)
  have hy9 := (Option.some.inj hF).symm
  subst hy9
  exact rt_v C0.1 hP hD hS dX3_copyOf_14
set_option maxHeartbeats 4000000 in
set_option maxRecDepth 100000 in
theorem w_by_digest_7 {l : Launch} {p : Program} {e : Env} {s : State} {m : MethodId} {args : Array Value} {below : List Frame} {meth : Method} {c : Code} {A : Nat → Prop} {D : va_G} {q : Nat → ClassId} {t : Nat} (C0 : cy p s m args meth c cX3_digest (some .long) 6 RX3 D q t A) (a_o : Nat) (a_o_data : Nat) (n_o_data : Nat)  : ∀ (n : Nat) (x_o_length : Int32) (r_o_data : (Nat → Int32)) (v_2 : Int32) (v_3 : Int64) (v_5 : Int32) (y : Int64) (hF : j_by_digest_7 n r_o_data x_o_length n_o_data v_2 v_3 v_5 = some y), ∀ (H : Heap) (locs : List Loc) (ls : Array Slot), va_P D vwCl [oX3 a_o a_o_data x_o_length, rB q a_o_data n_o_data r_o_data] H → va_D A [oX3 a_o a_o_data x_o_length, rB q a_o_data n_o_data r_o_data] → va_S A s.heap H locs → lv_has ls 6 [(0, .ref a_o), (2, .int v_2), (3, .long v_3), (5, .int v_5)] → W p l e ({ frames := 1, cells := 0, slots := 0, locals := 24 }) s m args below meth c H locs 0 0 (MQ below (qL D q y [oX3 a_o a_o_data x_o_length, rB q a_o_data n_o_data r_o_data] A) args s 0 0 A) (F0 m 7 ls []) := by
  obtain ⟨⟨hx, hb, hr, hml, hown, hts, hlocks, hK, hA⟩, hG⟩ := id C0
  intro n
  induction n with
  | zero =>
    intro x_o_length r_o_data v_2 v_3 v_5 y hF
    exact absurd (show (none : Option (Int64)) = some y from hF) (fun h => by cases h)
  | succ n ih =>
    intro x_o_length r_o_data v_2 v_3 v_5 y hF H locs ls hP hD hS hl
    rw [j_by_digest_7] at hF
    refine lv_iload hx hb dX3_digest_7 (lv_at hl 3 rfl) ?_
    refine lv_iload_n hx hb dX3_digest_9 rfl (lv_at hl 1 rfl) ?_
    refine lv_icmp_ge (tgt := 30) hx hb dX3_digest_10 (by decide) (fun c_1 => ?_) (fun c_1 => ?_)
    · replace hF := ite_t hF c_1
      refine lv_lload_n hx hb dX3_digest_30 rfl (lv_at hl 2 rfl) ?_
      obtain ⟨y_2, hy_2, hF⟩ := cal_d hF
      refine cf_l C0.1 hP hD hS [] [0, 1] [0, 1] (wr := [oX3 a_o a_o_data x_o_length, rB q a_o_data n_o_data r_o_data]) (w' := [oX3 a_o a_o_data x_o_length, rB q a_o_data n_o_data r_o_data]) rfl rfl rfl (by decide) rfl rfl (sn_S (As := [.long v_3]) (rest := []) C0 (c_nu_hashEnd l D q t  v_3 y_2 hy_2) (va_cwS 1 hts (g_S kw_608 kw_609 kw_84 kw_610) rfl rfl rfl hd_X7_hashEnd ⟨Nat.le_of_ble_eq_true rfl, Nat.le_of_ble_eq_true rfl⟩) hP hD hS [] rfl rfl rfl hl (Nat.le_of_ble_eq_true rfl) dX3_digest_31) (fun H locs hP hD hS => ?_)
      have hy9 := (Option.some.inj hF).symm
      subst hy9
      exact rt_l C0.1 hP hD hS dX3_digest_34
    · replace hF := ite_f hF c_1
      refine lv_lload_n hx hb dX3_digest_13 rfl (lv_at hl 2 rfl) ?_
      refine lv_aload_n hx hb dX3_digest_14 rfl (lv_at hl 0 rfl) ?_
      refine lv_iload hx hb dX3_digest_15 (lv_at hl 3 rfl) ?_
      obtain ⟨y_3, hy_3, hF⟩ := cal_d hF
      refine cf_i C0.1 hP hD hS [0, 1] [] [0, 1] (wr := []) (w' := [oX3 a_o a_o_data x_o_length, rB q a_o_data n_o_data r_o_data]) rfl rfl rfl (by decide) rfl rfl (sn_V (As := [.int v_5]) (rest := [.long v_3]) (ci := 3) (q0 := 0) C0 (c_by_byteAt l D q t a_o x_o_length a_o_data n_o_data r_o_data v_5 y_3 hy_3) (cwV 1 hts (g_V kw_546 kw_547 kw_548 kw_73 kw_549) rfl rfl rfl hd_X3_byteAt ⟨Nat.le_of_ble_eq_true rfl, Nat.le_of_ble_eq_true rfl⟩) hP hD hS [0, 1] rfl rfl rfl rfl rfl rfl hl (Nat.le_of_ble_eq_true rfl) dX3_digest_17) (fun H locs hP hD hS => ?_)
      obtain ⟨y_4, hy_4, hF⟩ := cal_d hF
      refine cf_l C0.1 hP hD hS [] [0, 1] [0, 1] (wr := [oX3 a_o a_o_data x_o_length, rB q a_o_data n_o_data r_o_data]) (w' := [oX3 a_o a_o_data x_o_length, rB q a_o_data n_o_data r_o_data]) rfl rfl rfl (by decide) rfl rfl (sn_S (As := [.long v_3, .int y_3]) (rest := []) C0 (c_nu_hashStep l D q t  v_3 y_3 y_4 hy_4) (va_cwS 2 hts (g_S kw_604 kw_605 kw_84 kw_606) rfl rfl rfl hd_X7_hashStep ⟨Nat.le_of_ble_eq_true rfl, Nat.le_of_ble_eq_true rfl⟩) hP hD hS [] rfl rfl rfl hl (Nat.le_of_ble_eq_true rfl) dX3_digest_20) (fun H locs hP hD hS => ?_)
      refine lv_lstore_n (lv' := [(3, .long y_4), (0, .ref a_o), (2, .int v_2), (5, .int v_5)]) hx hb dX3_digest_23 rfl hl (by decide) rfl (fun ls hl => ?_)
      obtain ⟨v5_5, e_v5_5⟩ : ∃ z : Int32, z = v_5 + (1 : Int32) := ⟨_, rfl⟩
      replace hF := bnd_d hF e_v5_5
      refine lv_iinc (v := v5_5) (lv' := [(5, .int v5_5), (3, .long y_4), (0, .ref a_o), (2, .int v_2)]) hx hb dX3_digest_24 hl (k := 3) rfl (by rw [e_v5_5]; rfl) (by decide) rfl (fun ls hl => ?_)
      refine lv_goto (tgt := 7) hx hb dX3_digest_27 (by decide) ?_
      exact ih x_o_length r_o_data v_2 y_4 v5_5 y hF H locs ls hP hD hS (lv_sub hl [2, 3, 1, 0] rfl)
set_option maxHeartbeats 4000000 in
set_option maxRecDepth 100000 in
theorem c_by_digest (l : Launch) (D : va_G) (q : Nat → ClassId) (t : Nat) (a_o : Nat) (x_o_length : Int32) (a_o_data : Nat) (n_o_data : Nat) (r_o_data : (Nat → Int32)) (p_0 : Int32) (p_1 : Int32) (y : Int64) (hF : f_by_digest r_o_data x_o_length n_o_data p_0 p_1 = some y)  : cu l yX3_digest (vs yX3_digest cX3_digest 6 (some .long)) ({ frames := 1, cells := 0, slots := 0, locals := 24 }) D q t [.ref a_o, .int p_0, .int p_1] [oX3 a_o a_o_data x_o_length, rB q a_o_data n_o_data r_o_data] (qL D q y [oX3 a_o a_o_data x_o_length, rB q a_o_data n_o_data r_o_data]) := by
  refine cu_of (cc := cX3_digest) (nL := 6) (ret := (some .long)) (by decide) (Nat.le_of_ble_eq_true rfl) (fun {p e s m args below meth c A} C0 H locs ls hP hD hS hl => ?_)
  have C0 : cy p s m args meth c cX3_digest (some .long) 6 RX3 D q t A := C0
  obtain ⟨⟨hx, hb, hr, hml, hown, hts, hlocks, hK, hA⟩, hG⟩ := id C0
  have hl : lv_has ls 6 [(0, .ref a_o), (1, .int p_0), (2, .int p_1)] := hl
  unfold f_by_digest at hF
  refine lv_ldc2 (v := (7640891576956012809 : Int64)) hx hb hown (hts _ kw_603) dX3_digest_0 ?_
  refine lv_lstore_n (lv' := [(3, .long (7640891576956012809 : Int64)), (0, .ref a_o), (1, .int p_0), (2, .int p_1)]) hx hb dX3_digest_3 rfl hl (by decide) rfl (fun ls hl => ?_)
  refine lv_iload_n hx hb dX3_digest_4 rfl (lv_at hl 2 rfl) ?_
  refine lv_istore (lv' := [(5, .int p_0), (3, .long (7640891576956012809 : Int64)), (0, .ref a_o), (1, .int p_0), (2, .int p_1)]) hx hb dX3_digest_5 hl (by decide) rfl (fun ls hl => ?_)
  exact w_by_digest_7 C0 a_o a_o_data n_o_data FU x_o_length r_o_data p_1 (7640891576956012809 : Int64) p_0 y hF H locs ls hP hD hS (lv_sub hl [2, 4, 1, 0] rfl)
set_option maxHeartbeats 4000000 in
set_option maxRecDepth 100000 in
theorem w_nu_power_13 {l : Launch} {p : Program} {e : Env} {s : State} {m : MethodId} {args : Array Value} {below : List Frame} {meth : Method} {c : Code} {A : Nat → Prop} {D : va_G} {q : Nat → ClassId} {t : Nat} (C0 : cy p s m args meth c cX7_power (some .long) 9 RX7 D q t A)   : ∀ (n : Nat)  (v_2 : Int64) (v_4 : Int64) (v_6 : Int64) (v_8 : Int32) (y : Int64) (hF : j_nu_power_13 n v_2 v_4 v_6 v_8 = some y), ∀ (H : Heap) (locs : List Loc) (ls : Array Slot), va_P D vwCl [] H → va_D A [] → va_S A s.heap H locs → lv_has ls 9 [(2, .long v_2), (4, .long v_4), (6, .long v_6), (8, .int v_8)] → W p l e ({ frames := 0, cells := 0, slots := 0, locals := 0 }) s m args below meth c H locs 0 0 (MQ below (qL D q y [] A) args s 0 0 A) (F0 m 13 ls []) := by
  obtain ⟨⟨hx, hb, hr, hml, hown, hts, hlocks, hK, hA⟩, hG⟩ := id C0
  intro n
  induction n with
  | zero =>
    intro  v_2 v_4 v_6 v_8 y hF
    exact absurd (show (none : Option (Int64)) = some y from hF) (fun h => by cases h)
  | succ n ih =>
    intro  v_2 v_4 v_6 v_8 y hF H locs ls hP hD hS hl
    rw [j_nu_power_13] at hF
    refine lv_iload hx hb dX7_power_13 (lv_at hl 3 rfl) ?_
    refine lv_bipush (v := (31 : Int32)) hx hb dX7_power_15 (by decide) ?_
    refine lv_icmp_ge (tgt := 59) hx hb dX7_power_17 (by decide) (fun c_2 => ?_) (fun c_2 => ?_)
    · replace hF := ite_t hF c_2
      refine lv_lload hx hb dX7_power_59 (lv_at hl 1 rfl) ?_
      have hy9 := (Option.some.inj hF).symm
      subst hy9
      exact rt_l C0.1 hP hD hS dX7_power_61
    · replace hF := ite_f hF c_2
      refine lv_lload_n hx hb dX7_power_20 rfl (lv_at hl 0 rfl) ?_
      refine lv_iload hx hb dX7_power_21 (lv_at hl 3 rfl) ?_
      refine lv_lushr hx hb dX7_power_23 rfl ?_
      refine lv_lconst (v := (1 : Int64)) hx hb dX7_power_24 (by decide) ?_
      refine lv_land hx hb dX7_power_25 ?_
      refine lv_lconst (v := (1 : Int64)) hx hb dX7_power_26 (by decide) ?_
      refine W.lcmp hx hb dX7_power_27 ?_
      refine lv_if_ne (tgt := 42) hx hb dX7_power_28 (by decide) (fun c_3 => ?_) (fun c_3 => ?_)
      · replace hF := ite_f hF (fun h => c_3 ((lg_cmp_eq _ _).mpr h))
        refine lv_lload hx hb dX7_power_42 (lv_at hl 2 rfl) ?_
        refine lv_lload hx hb dX7_power_44 (lv_at hl 2 rfl) ?_
        refine lv_lmul hx hb dX7_power_46 ?_
        refine lv_ldc2 (v := (2147483579 : Int64)) hx hb hown (hts _ kw_598) dX7_power_47 ?_
        refine lv_lrem hx hb dX7_power_50 (by decide) ?_
        refine lv_topl (fun v6_4 e_v6_4 => ?_)
        replace hF := bnd_d hF e_v6_4
        refine lv_lstore (lv' := [(6, .long v6_4), (2, .long v_2), (4, .long v_4), (8, .int v_8)]) hx hb dX7_power_51 hl (by decide) rfl (fun ls hl => ?_)
        obtain ⟨v8_5, e_v8_5⟩ : ∃ z : Int32, z = v_8 + (1 : Int32) := ⟨_, rfl⟩
        replace hF := bnd_d hF e_v8_5
        refine lv_iinc (v := v8_5) (lv' := [(8, .int v8_5), (6, .long v6_4), (2, .long v_2), (4, .long v_4)]) hx hb dX7_power_53 hl (k := 3) rfl (by rw [e_v8_5]; rfl) (by decide) rfl (fun ls hl => ?_)
        refine lv_goto (tgt := 13) hx hb dX7_power_56 (by decide) ?_
        exact ih v_2 v_4 v6_4 v8_5 y hF H locs ls hP hD hS (lv_sub hl [2, 3, 1, 0] rfl)
      · replace hF := ite_t hF ((lg_cmp_eq _ _).mp c_3)
        refine lv_lload hx hb dX7_power_31 (lv_at hl 1 rfl) ?_
        refine lv_lload hx hb dX7_power_33 (lv_at hl 2 rfl) ?_
        refine lv_lmul hx hb dX7_power_35 ?_
        refine lv_ldc2 (v := (2147483579 : Int64)) hx hb hown (hts _ kw_598) dX7_power_36 ?_
        refine lv_lrem hx hb dX7_power_39 (by decide) ?_
        refine lv_topl (fun v4_6 e_v4_6 => ?_)
        replace hF := bnd_d hF e_v4_6
        refine lv_lstore (lv' := [(4, .long v4_6), (2, .long v_2), (6, .long v_6), (8, .int v_8)]) hx hb dX7_power_40 hl (by decide) rfl (fun ls hl => ?_)
        refine lv_lload hx hb dX7_power_42 (lv_at hl 2 rfl) ?_
        refine lv_lload hx hb dX7_power_44 (lv_at hl 2 rfl) ?_
        refine lv_lmul hx hb dX7_power_46 ?_
        refine lv_ldc2 (v := (2147483579 : Int64)) hx hb hown (hts _ kw_598) dX7_power_47 ?_
        refine lv_lrem hx hb dX7_power_50 (by decide) ?_
        refine lv_topl (fun v6_7 e_v6_7 => ?_)
        replace hF := bnd_d hF e_v6_7
        refine lv_lstore (lv' := [(6, .long v6_7), (4, .long v4_6), (2, .long v_2), (8, .int v_8)]) hx hb dX7_power_51 hl (by decide) rfl (fun ls hl => ?_)
        obtain ⟨v8_8, e_v8_8⟩ : ∃ z : Int32, z = v_8 + (1 : Int32) := ⟨_, rfl⟩
        replace hF := bnd_d hF e_v8_8
        refine lv_iinc (v := v8_8) (lv' := [(8, .int v8_8), (6, .long v6_7), (4, .long v4_6), (2, .long v_2)]) hx hb dX7_power_53 hl (k := 3) rfl (by rw [e_v8_8]; rfl) (by decide) rfl (fun ls hl => ?_)
        refine lv_goto (tgt := 13) hx hb dX7_power_56 (by decide) ?_
        exact ih v_2 v4_6 v6_7 v8_8 y hF H locs ls hP hD hS (lv_sub hl [3, 2, 1, 0] rfl)
set_option maxHeartbeats 4000000 in
set_option maxRecDepth 100000 in
theorem c_nu_power (l : Launch) (D : va_G) (q : Nat → ClassId) (t : Nat)  (p_0 : Int64) (p_1 : Int64) (y : Int64) (hF : f_nu_power p_0 p_1 = some y)  : cu l yX7_power (vs yX7_power cX7_power 9 (some .long)) ({ frames := 0, cells := 0, slots := 0, locals := 0 }) D q t [.long p_0, .long p_1] [] (qL D q y []) := by
  refine cu_of (cc := cX7_power) (nL := 9) (ret := (some .long)) (by decide) (Nat.le_of_ble_eq_true rfl) (fun {p e s m args below meth c A} C0 H locs ls hP hD hS hl => ?_)
  have C0 : cy p s m args meth c cX7_power (some .long) 9 RX7 D q t A := C0
  obtain ⟨⟨hx, hb, hr, hml, hown, hts, hlocks, hK, hA⟩, hG⟩ := id C0
  have hl : lv_has ls 9 [(0, .long p_0), (2, .long p_1)] := hl
  unfold f_nu_power at hF
  refine lv_lconst (v := (1 : Int64)) hx hb dX7_power_0 (by decide) ?_
  refine lv_lstore (lv' := [(4, .long (1 : Int64)), (0, .long p_0), (2, .long p_1)]) hx hb dX7_power_1 hl (by decide) rfl (fun ls hl => ?_)
  refine lv_lload_n hx hb dX7_power_3 rfl (lv_at hl 1 rfl) ?_
  refine lv_ldc2 (v := (2147483579 : Int64)) hx hb hown (hts _ kw_598) dX7_power_4 ?_
  refine lv_lrem hx hb dX7_power_7 (by decide) ?_
  refine lv_topl (fun v6_1 e_v6_1 => ?_)
  replace hF := bnd_d hF e_v6_1
  refine lv_lstore (lv' := [(6, .long v6_1), (4, .long (1 : Int64)), (0, .long p_0), (2, .long p_1)]) hx hb dX7_power_8 hl (by decide) rfl (fun ls hl => ?_)
  refine lv_iconst (v := (0 : Int32)) hx hb dX7_power_10 (by decide) ?_
  refine lv_istore (lv' := [(8, .int (0 : Int32)), (6, .long v6_1), (4, .long (1 : Int64)), (0, .long p_0), (2, .long p_1)]) hx hb dX7_power_11 hl (by decide) rfl (fun ls hl => ?_)
  exact w_nu_power_13 C0  FU p_1 (1 : Int64) v6_1 (0 : Int32) y hF H locs ls hP hD hS (lv_sub hl [4, 2, 1, 0] rfl)
set_option maxHeartbeats 4000000 in
set_option maxRecDepth 100000 in
theorem c_nu_publicKey (l : Launch) (D : va_G) (q : Nat → ClassId) (t : Nat)  (p_0 : Int32) (y : Int32) (hF : f_nu_publicKey p_0 = some y)  : cu l yX7_publicKey (vs yX7_publicKey cX7_publicKey 1 (some .int)) ({ frames := 1, cells := 0, slots := 0, locals := 28 }) D q t [.int p_0] [] (qI D q y []) := by
  refine cu_of (cc := cX7_publicKey) (nL := 1) (ret := (some .int)) (by decide) (Nat.le_of_ble_eq_true rfl) (fun {p e s m args below meth c A} C0 H locs ls hP hD hS hl => ?_)
  have C0 : cy p s m args meth c cX7_publicKey (some .int) 1 RX7 D q t A := C0
  obtain ⟨⟨hx, hb, hr, hml, hown, hts, hlocks, hK, hA⟩, hG⟩ := id C0
  have hl : lv_has ls 1 [(0, .int p_0)] := hl
  unfold f_nu_publicKey at hF
  refine lv_ldc2 (v := (4 : Int64)) hx hb hown (hts _ kw_594) dX7_publicKey_0 ?_
  refine lv_iload_n hx hb dX7_publicKey_3 rfl (lv_at hl 0 rfl) ?_
  refine lv_i2l hx hb dX7_publicKey_4 rfl ?_
  obtain ⟨y_1, hy_1, hF⟩ := cal_d hF
  refine cf_l C0.1 hP hD hS [] [] [] (wr := []) (w' := []) rfl rfl rfl (by decide) rfl rfl (sn_S (As := [.long (4 : Int64), .long p_0.toInt64]) (rest := []) C0 (c_nu_power l D q t  (4 : Int64) p_0.toInt64 y_1 hy_1) (va_cwS 2 hts (g_S kw_595 kw_596 kw_84 kw_597) rfl rfl rfl hd_X7_power ⟨Nat.le_of_ble_eq_true rfl, Nat.le_of_ble_eq_true rfl⟩) hP hD hS [] rfl rfl rfl hl (Nat.le_of_ble_eq_true rfl) dX7_publicKey_5) (fun H locs hP hD hS => ?_)
  refine lv_l2i hx hb dX7_publicKey_8 rfl ?_
  have hy9 := (Option.some.inj hF).symm
  subst hy9
  exact rt_i C0.1 hP hD hS dX7_publicKey_9
set_option maxHeartbeats 4000000 in
set_option maxRecDepth 100000 in
theorem c_au_begin (l : Launch) (D : va_G) (q : Nat → ClassId) (t : Nat) (a_o : Nat) (a_o_serials : Nat) (a_o_since : Nat) (a_o_reasons : Nat) (x_o_secret : Int32) (x_o_publicKey : Int32) (x_o_nameHash : Int64) (x_o_keyHash : Int64) (x_o_issued : Int32) (x_o_takenBack : Int32) (a_o_name : Nat) (x_o_name_length : Int32) (a_o_name_data : Nat) (r_o_name_data : (Nat → Int32)) (a_p0 : Nat) (x_p0_length : Int32) (a_p0_data : Nat) (n_p0_data : Nat) (r_p0_data : (Nat → Int32)) (p_1 : Int32) (y : Int64 × (Nat → Int32) × Int32 × Int64 × Int32 × Int32) (hF : f_au_begin x_o_keyHash r_o_name_data x_o_name_length x_o_nameHash x_o_publicKey x_o_secret r_p0_data x_p0_length n_p0_data p_1 = some y)  : cu l yX2_begin (vs yX2_begin cX2_begin 3 none) ({ frames := 3, cells := 0, slots := 0, locals := 71 }) D q t [.ref a_o, .ref a_p0, .int p_1] [oX2 a_o a_o_name a_o_serials a_o_since a_o_reasons x_o_secret x_o_publicKey x_o_nameHash x_o_keyHash x_o_issued x_o_takenBack, oX3 a_o_name a_o_name_data x_o_name_length, rB q a_o_name_data 16 r_o_name_data, oX3 a_p0 a_p0_data x_p0_length, rB q a_p0_data n_p0_data r_p0_data] (qV D q [oX2 a_o a_o_name a_o_serials a_o_since a_o_reasons y.2.2.2.2.2 y.2.2.2.2.1 y.2.2.2.1 y.1 x_o_issued x_o_takenBack, oX3 a_o_name a_o_name_data y.2.2.1, rB q a_o_name_data 16 y.2.1, oX3 a_p0 a_p0_data x_p0_length, rB q a_p0_data n_p0_data r_p0_data]) := by
  refine cu_of (cc := cX2_begin) (nL := 3) (ret := none) (by decide) (Nat.le_of_ble_eq_true rfl) (fun {p e s m args below meth c A} C0 H locs ls hP hD hS hl => ?_)
  have C0 : cy p s m args meth c cX2_begin none 3 RX2 D q t A := C0
  obtain ⟨⟨hx, hb, hr, hml, hown, hts, hlocks, hK, hA⟩, hG⟩ := id C0
  have hl : lv_has ls 3 [(0, .ref a_o), (1, .ref a_p0), (2, .int p_1)] := hl
  unfold f_au_begin at hF
  refine lv_aload_n hx hb dX2_begin_0 rfl (lv_at hl 0 rfl) ?_
  refine va_get (D := D) (ci := 2) (v := .ref a_o_name) (C := RX2) (T := TX2) (N := 10) hx hb hts iw_X2 hown hK hP 0 rfl rfl 0 (by decide) (hts _ kw_391) (fun _ h9 => h9) rfl dX2_begin_1 ?_
  refine lv_aload_n hx hb dX2_begin_4 rfl (lv_at hl 1 rfl) ?_
  obtain ⟨y_1, hy_1, hF⟩ := cal_d hF
  refine cf_v C0.1 hP hD hS [1, 2, 3, 4] [0] [0, 1, 2, 3, 4] (wr := [oX2 a_o a_o_name a_o_serials a_o_since a_o_reasons x_o_secret x_o_publicKey x_o_nameHash x_o_keyHash x_o_issued x_o_takenBack]) (w' := [oX2 a_o a_o_name a_o_serials a_o_since a_o_reasons x_o_secret x_o_publicKey x_o_nameHash x_o_keyHash x_o_issued x_o_takenBack, oX3 a_o_name a_o_name_data y_1.2, rB q a_o_name_data 16 y_1.1, oX3 a_p0 a_p0_data x_p0_length, rB q a_p0_data n_p0_data r_p0_data]) rfl rfl rfl (by decide) rfl rfl (sn_V (As := [.ref a_p0]) (rest := []) (ci := 3) (q0 := 1) C0 (c_by_copyOf l D q t a_o_name x_o_name_length a_o_name_data 16 r_o_name_data a_p0 x_p0_length a_p0_data n_p0_data r_p0_data  y_1 hy_1) (cwV 1 hts (g_V kw_590 kw_535 kw_536 kw_73 kw_537) rfl rfl rfl hd_X3_copyOf ⟨Nat.le_of_ble_eq_true rfl, Nat.le_of_ble_eq_true rfl⟩) hP hD hS [1, 2, 3, 4] rfl rfl rfl rfl rfl rfl hl (Nat.le_of_ble_eq_true rfl) dX2_begin_5) (fun H locs hP hD hS => ?_)
  refine lv_aload_n hx hb dX2_begin_8 rfl (lv_at hl 0 rfl) ?_
  refine lv_iload_n hx hb dX2_begin_9 rfl (lv_at hl 2 rfl) ?_
  refine va_put (D := D) (ci := 2) (v := .int p_1) (ty := .int) (C := RX2) (T := TX2) (N := 10) hx hb hts iw_X2 tyX2 tyX2_ok nmX2 hown hK hP hD hS 0 rfl rfl 4 (by decide) (hts _ kw_399) (fun _ h9 => h9) rfl (by decide +kernel) rfl rfl (Nat.le_of_ble_eq_true rfl) dX2_begin_10 (fun H locs hP hD hS => ?_)
  have hP : va_P D vwCl ([oX2 a_o a_o_name a_o_serials a_o_since a_o_reasons p_1 x_o_publicKey x_o_nameHash x_o_keyHash x_o_issued x_o_takenBack, oX3 a_o_name a_o_name_data y_1.2, rB q a_o_name_data 16 y_1.1, oX3 a_p0 a_p0_data x_p0_length, rB q a_p0_data n_p0_data r_p0_data]) H := hP
  have hD : va_D A ([oX2 a_o a_o_name a_o_serials a_o_since a_o_reasons p_1 x_o_publicKey x_o_nameHash x_o_keyHash x_o_issued x_o_takenBack, oX3 a_o_name a_o_name_data y_1.2, rB q a_o_name_data 16 y_1.1, oX3 a_p0 a_p0_data x_p0_length, rB q a_p0_data n_p0_data r_p0_data]) := hD
  refine lv_aload_n hx hb dX2_begin_13 rfl (lv_at hl 0 rfl) ?_
  refine lv_iload_n hx hb dX2_begin_14 rfl (lv_at hl 2 rfl) ?_
  obtain ⟨y_2, hy_2, hF⟩ := cal_d hF
  refine cf_i C0.1 hP hD hS [] [0, 1, 2, 3, 4] [0, 1, 2, 3, 4] (wr := [oX2 a_o a_o_name a_o_serials a_o_since a_o_reasons p_1 x_o_publicKey x_o_nameHash x_o_keyHash x_o_issued x_o_takenBack, oX3 a_o_name a_o_name_data y_1.2, rB q a_o_name_data 16 y_1.1, oX3 a_p0 a_p0_data x_p0_length, rB q a_p0_data n_p0_data r_p0_data]) (w' := [oX2 a_o a_o_name a_o_serials a_o_since a_o_reasons p_1 x_o_publicKey x_o_nameHash x_o_keyHash x_o_issued x_o_takenBack, oX3 a_o_name a_o_name_data y_1.2, rB q a_o_name_data 16 y_1.1, oX3 a_p0 a_p0_data x_p0_length, rB q a_p0_data n_p0_data r_p0_data]) rfl rfl rfl (by decide) rfl rfl (sn_S (As := [.int p_1]) (rest := [.ref a_o]) C0 (c_nu_publicKey l D q t  p_1 y_2 hy_2) (va_cwS 1 hts (g_S kw_591 kw_592 kw_84 kw_593) rfl rfl rfl hd_X7_publicKey ⟨Nat.le_of_ble_eq_true rfl, Nat.le_of_ble_eq_true rfl⟩) hP hD hS [] rfl rfl rfl hl (Nat.le_of_ble_eq_true rfl) dX2_begin_15) (fun H locs hP hD hS => ?_)
  refine va_put (D := D) (ci := 2) (v := .int y_2) (ty := .int) (C := RX2) (T := TX2) (N := 10) hx hb hts iw_X2 tyX2 tyX2_ok nmX2 hown hK hP hD hS 0 rfl rfl 5 (by decide) (hts _ kw_402) (fun _ h9 => h9) rfl (by decide +kernel) rfl rfl (Nat.le_of_ble_eq_true rfl) dX2_begin_18 (fun H locs hP hD hS => ?_)
  have hP : va_P D vwCl ([oX2 a_o a_o_name a_o_serials a_o_since a_o_reasons p_1 y_2 x_o_nameHash x_o_keyHash x_o_issued x_o_takenBack, oX3 a_o_name a_o_name_data y_1.2, rB q a_o_name_data 16 y_1.1, oX3 a_p0 a_p0_data x_p0_length, rB q a_p0_data n_p0_data r_p0_data]) H := hP
  have hD : va_D A ([oX2 a_o a_o_name a_o_serials a_o_since a_o_reasons p_1 y_2 x_o_nameHash x_o_keyHash x_o_issued x_o_takenBack, oX3 a_o_name a_o_name_data y_1.2, rB q a_o_name_data 16 y_1.1, oX3 a_p0 a_p0_data x_p0_length, rB q a_p0_data n_p0_data r_p0_data]) := hD
  refine lv_aload_n hx hb dX2_begin_21 rfl (lv_at hl 0 rfl) ?_
  refine lv_aload_n hx hb dX2_begin_22 rfl (lv_at hl 0 rfl) ?_
  refine va_get (D := D) (ci := 2) (v := .ref a_o_name) (C := RX2) (T := TX2) (N := 10) hx hb hts iw_X2 hown hK hP 0 rfl rfl 0 (by decide) (hts _ kw_391) (fun _ h9 => h9) rfl dX2_begin_23 ?_
  refine lv_iconst (v := (0 : Int32)) hx hb dX2_begin_26 (by decide) ?_
  refine lv_aload_n hx hb dX2_begin_27 rfl (lv_at hl 0 rfl) ?_
  refine va_get (D := D) (ci := 2) (v := .ref a_o_name) (C := RX2) (T := TX2) (N := 10) hx hb hts iw_X2 hown hK hP 0 rfl rfl 0 (by decide) (hts _ kw_391) (fun _ h9 => h9) rfl dX2_begin_28 ?_
  refine va_get (D := D) (ci := 3) (v := .int y_1.2) (C := RX3) (T := TX3) (N := 2) hx hb hts iw_X3 hown hK hP 1 rfl rfl 1 (by decide) (hts _ kw_109) (fun _ h9 => h9) rfl dX2_begin_31 ?_
  obtain ⟨y_3, hy_3, hF⟩ := cal_d hF
  refine cf_l C0.1 hP hD hS [1, 2] [0, 3, 4] [0, 3, 4, 1, 2] (wr := [oX2 a_o a_o_name a_o_serials a_o_since a_o_reasons p_1 y_2 x_o_nameHash x_o_keyHash x_o_issued x_o_takenBack, oX3 a_p0 a_p0_data x_p0_length, rB q a_p0_data n_p0_data r_p0_data]) (w' := [oX2 a_o a_o_name a_o_serials a_o_since a_o_reasons p_1 y_2 x_o_nameHash x_o_keyHash x_o_issued x_o_takenBack, oX3 a_o_name a_o_name_data y_1.2, rB q a_o_name_data 16 y_1.1, oX3 a_p0 a_p0_data x_p0_length, rB q a_p0_data n_p0_data r_p0_data]) rfl rfl rfl (by decide) rfl rfl (sn_V (As := [.int (0 : Int32), .int y_1.2]) (rest := [.ref a_o]) (ci := 3) (q0 := 1) C0 (c_by_digest l D q t a_o_name y_1.2 a_o_name_data 16 y_1.1 (0 : Int32) y_1.2 y_3 hy_3) (cwV 2 hts (g_V kw_599 kw_600 kw_601 kw_73 kw_602) rfl rfl rfl hd_X3_digest ⟨Nat.le_of_ble_eq_true rfl, Nat.le_of_ble_eq_true rfl⟩) hP hD hS [1, 2] rfl rfl rfl rfl rfl rfl hl (Nat.le_of_ble_eq_true rfl) dX2_begin_34) (fun H locs hP hD hS => ?_)
  refine va_put (D := D) (ci := 2) (v := .long y_3) (ty := .long) (C := RX2) (T := TX2) (N := 10) hx hb hts iw_X2 tyX2 tyX2_ok nmX2 hown hK hP hD hS 0 rfl rfl 6 (by decide) (hts _ kw_404) (fun _ h9 => h9) rfl (by decide +kernel) rfl rfl (Nat.le_of_ble_eq_true rfl) dX2_begin_37 (fun H locs hP hD hS => ?_)
  have hP : va_P D vwCl ([oX2 a_o a_o_name a_o_serials a_o_since a_o_reasons p_1 y_2 y_3 x_o_keyHash x_o_issued x_o_takenBack, oX3 a_o_name a_o_name_data y_1.2, rB q a_o_name_data 16 y_1.1, oX3 a_p0 a_p0_data x_p0_length, rB q a_p0_data n_p0_data r_p0_data]) H := hP
  have hD : va_D A ([oX2 a_o a_o_name a_o_serials a_o_since a_o_reasons p_1 y_2 y_3 x_o_keyHash x_o_issued x_o_takenBack, oX3 a_o_name a_o_name_data y_1.2, rB q a_o_name_data 16 y_1.1, oX3 a_p0 a_p0_data x_p0_length, rB q a_p0_data n_p0_data r_p0_data]) := hD
  refine lv_aload_n hx hb dX2_begin_40 rfl (lv_at hl 0 rfl) ?_
  refine lv_aload_n hx hb dX2_begin_41 rfl (lv_at hl 0 rfl) ?_
  refine va_get (D := D) (ci := 2) (v := .int y_2) (C := RX2) (T := TX2) (N := 10) hx hb hts iw_X2 hown hK hP 0 rfl rfl 5 (by decide) (hts _ kw_402) (fun _ h9 => h9) rfl dX2_begin_42 ?_
  refine lv_i2l hx hb dX2_begin_45 rfl ?_
  obtain ⟨y_4, hy_4, hF⟩ := cal_d hF
  refine cf_l C0.1 hP hD hS [] [0, 1, 2, 3, 4] [0, 1, 2, 3, 4] (wr := [oX2 a_o a_o_name a_o_serials a_o_since a_o_reasons p_1 y_2 y_3 x_o_keyHash x_o_issued x_o_takenBack, oX3 a_o_name a_o_name_data y_1.2, rB q a_o_name_data 16 y_1.1, oX3 a_p0 a_p0_data x_p0_length, rB q a_p0_data n_p0_data r_p0_data]) (w' := [oX2 a_o a_o_name a_o_serials a_o_since a_o_reasons p_1 y_2 y_3 x_o_keyHash x_o_issued x_o_takenBack, oX3 a_o_name a_o_name_data y_1.2, rB q a_o_name_data 16 y_1.1, oX3 a_p0 a_p0_data x_p0_length, rB q a_p0_data n_p0_data r_p0_data]) rfl rfl rfl (by decide) rfl rfl (sn_S (As := [.long y_2.toInt64]) (rest := [.ref a_o]) C0 (c_nu_hashOf l D q t  y_2.toInt64 y_4 hy_4) (va_cwS 1 hts (g_S kw_612 kw_613 kw_84 kw_614) rfl rfl rfl hd_X7_hashOf ⟨Nat.le_of_ble_eq_true rfl, Nat.le_of_ble_eq_true rfl⟩) hP hD hS [] rfl rfl rfl hl (Nat.le_of_ble_eq_true rfl) dX2_begin_46) (fun H locs hP hD hS => ?_)
  refine va_put (D := D) (ci := 2) (v := .long y_4) (ty := .long) (C := RX2) (T := TX2) (N := 10) hx hb hts iw_X2 tyX2 tyX2_ok nmX2 hown hK hP hD hS 0 rfl rfl 7 (by decide) (hts _ kw_406) (fun _ h9 => h9) rfl (by decide +kernel) rfl rfl (Nat.le_of_ble_eq_true rfl) dX2_begin_49 (fun H locs hP hD hS => ?_)
  have hP : va_P D vwCl ([oX2 a_o a_o_name a_o_serials a_o_since a_o_reasons p_1 y_2 y_3 y_4 x_o_issued x_o_takenBack, oX3 a_o_name a_o_name_data y_1.2, rB q a_o_name_data 16 y_1.1, oX3 a_p0 a_p0_data x_p0_length, rB q a_p0_data n_p0_data r_p0_data]) H := hP
  have hD : va_D A ([oX2 a_o a_o_name a_o_serials a_o_since a_o_reasons p_1 y_2 y_3 y_4 x_o_issued x_o_takenBack, oX3 a_o_name a_o_name_data y_1.2, rB q a_o_name_data 16 y_1.1, oX3 a_p0 a_p0_data x_p0_length, rB q a_p0_data n_p0_data r_p0_data]) := hD
  have hy9 := (Option.some.inj hF).symm
  subst hy9
  exact rt_v C0.1 hP hD hS dX2_begin_52
set_option maxHeartbeats 4000000 in
set_option maxRecDepth 100000 in
theorem w_au_placeOf_2 {l : Launch} {p : Program} {e : Env} {s : State} {m : MethodId} {args : Array Value} {below : List Frame} {meth : Method} {c : Code} {A : Nat → Prop} {D : va_G} {q : Nat → ClassId} {t : Nat} (C0 : cy p s m args meth c cX2_placeOf (some .int) 3 RX2 D q t A) (a_o : Nat) (a_o_name : Nat) (a_o_since : Nat) (a_o_reasons : Nat) (a_o_serials : Nat)  : ∀ (n : Nat) (x_o_secret : Int32) (x_o_publicKey : Int32) (x_o_nameHash : Int64) (x_o_keyHash : Int64) (x_o_issued : Int32) (x_o_takenBack : Int32) (r_o_serials : (Nat → Int32)) (v_1 : Int32) (v_2 : Int32) (y : Int32) (hF : j_au_placeOf_2 n x_o_issued r_o_serials v_1 v_2 = some y), ∀ (H : Heap) (locs : List Loc) (ls : Array Slot), va_P D vwCl [oX2 a_o a_o_name a_o_serials a_o_since a_o_reasons x_o_secret x_o_publicKey x_o_nameHash x_o_keyHash x_o_issued x_o_takenBack, rI q a_o_serials 32 r_o_serials] H → va_D A [oX2 a_o a_o_name a_o_serials a_o_since a_o_reasons x_o_secret x_o_publicKey x_o_nameHash x_o_keyHash x_o_issued x_o_takenBack, rI q a_o_serials 32 r_o_serials] → va_S A s.heap H locs → lv_has ls 3 [(0, .ref a_o), (1, .int v_1), (2, .int v_2)] → W p l e ({ frames := 0, cells := 0, slots := 0, locals := 0 }) s m args below meth c H locs 0 0 (MQ below (qI D q y [oX2 a_o a_o_name a_o_serials a_o_since a_o_reasons x_o_secret x_o_publicKey x_o_nameHash x_o_keyHash x_o_issued x_o_takenBack, rI q a_o_serials 32 r_o_serials] A) args s 0 0 A) (F0 m 2 ls []) := by
  obtain ⟨⟨hx, hb, hr, hml, hown, hts, hlocks, hK, hA⟩, hG⟩ := id C0
  intro n
  induction n with
  | zero =>
    intro x_o_secret x_o_publicKey x_o_nameHash x_o_keyHash x_o_issued x_o_takenBack r_o_serials v_1 v_2 y hF
    exact absurd (show (none : Option (Int32)) = some y from hF) (fun h => by cases h)
  | succ n ih =>
    intro x_o_secret x_o_publicKey x_o_nameHash x_o_keyHash x_o_issued x_o_takenBack r_o_serials v_1 v_2 y hF H locs ls hP hD hS hl
    rw [j_au_placeOf_2] at hF
    refine lv_iload_n hx hb dX2_placeOf_2 rfl (lv_at hl 2 rfl) ?_
    refine lv_aload_n hx hb dX2_placeOf_3 rfl (lv_at hl 0 rfl) ?_
    refine va_get (D := D) (ci := 2) (v := .int x_o_issued) (C := RX2) (T := TX2) (N := 10) hx hb hts iw_X2 hown hK hP 0 rfl rfl 8 (by decide) (hts _ kw_408) (fun _ h9 => h9) rfl dX2_placeOf_4 ?_
    refine lv_icmp_ge (tgt := 28) hx hb dX2_placeOf_7 (by decide) (fun c_1 => ?_) (fun c_1 => ?_)
    · replace hF := ite_t hF c_1
      refine lv_iconst (v := (-1 : Int32)) hx hb dX2_placeOf_28 (by decide) ?_
      have hy9 := (Option.some.inj hF).symm
      subst hy9
      exact rt_i C0.1 hP hD hS dX2_placeOf_29
    · replace hF := ite_f hF c_1
      refine lv_aload_n hx hb dX2_placeOf_10 rfl (lv_at hl 0 rfl) ?_
      refine va_get (D := D) (ci := 2) (v := .ref a_o_serials) (C := RX2) (T := TX2) (N := 10) hx hb hts iw_X2 hown hK hP 0 rfl rfl 1 (by decide) (hts _ kw_394) (fun _ h9 => h9) rfl dX2_placeOf_11 ?_
      refine lv_iload_n hx hb dX2_placeOf_14 rfl (lv_at hl 2 rfl) ?_
      obtain ⟨z_2, hF⟩ := chk_d hF
      refine va_iald hx hb hK hP 1 1 rfl rfl z_2 dX2_placeOf_15 ?_
      refine lv_iload_n hx hb dX2_placeOf_16 rfl (lv_at hl 1 rfl) ?_
      refine lv_icmp_ne (tgt := 22) hx hb dX2_placeOf_17 (by decide) (fun c_3 => ?_) (fun c_3 => ?_)
      · replace hF := ite_f hF c_3
        obtain ⟨v2_4, e_v2_4⟩ : ∃ z : Int32, z = v_2 + (1 : Int32) := ⟨_, rfl⟩
        replace hF := bnd_d hF e_v2_4
        refine lv_iinc (v := v2_4) (lv' := [(2, .int v2_4), (0, .ref a_o), (1, .int v_1)]) hx hb dX2_placeOf_22 hl (k := 2) rfl (by rw [e_v2_4]; rfl) (by decide) rfl (fun ls hl => ?_)
        refine lv_goto (tgt := 2) hx hb dX2_placeOf_25 (by decide) ?_
        exact ih x_o_secret x_o_publicKey x_o_nameHash x_o_keyHash x_o_issued x_o_takenBack r_o_serials v_1 v2_4 y hF H locs ls hP hD hS (lv_sub hl [1, 2, 0] rfl)
      · replace hF := ite_t hF c_3
        refine lv_iload_n hx hb dX2_placeOf_20 rfl (lv_at hl 2 rfl) ?_
        have hy9 := (Option.some.inj hF).symm
        subst hy9
        exact rt_i C0.1 hP hD hS dX2_placeOf_21
set_option maxHeartbeats 4000000 in
set_option maxRecDepth 100000 in
theorem c_au_placeOf (l : Launch) (D : va_G) (q : Nat → ClassId) (t : Nat) (a_o : Nat) (a_o_name : Nat) (a_o_since : Nat) (a_o_reasons : Nat) (x_o_secret : Int32) (x_o_publicKey : Int32) (x_o_nameHash : Int64) (x_o_keyHash : Int64) (x_o_issued : Int32) (x_o_takenBack : Int32) (a_o_serials : Nat) (r_o_serials : (Nat → Int32)) (p_0 : Int32) (y : Int32) (hF : f_au_placeOf x_o_issued r_o_serials p_0 = some y)  : cu l yX2_placeOf (vs yX2_placeOf cX2_placeOf 3 (some .int)) ({ frames := 0, cells := 0, slots := 0, locals := 0 }) D q t [.ref a_o, .int p_0] [oX2 a_o a_o_name a_o_serials a_o_since a_o_reasons x_o_secret x_o_publicKey x_o_nameHash x_o_keyHash x_o_issued x_o_takenBack, rI q a_o_serials 32 r_o_serials] (qI D q y [oX2 a_o a_o_name a_o_serials a_o_since a_o_reasons x_o_secret x_o_publicKey x_o_nameHash x_o_keyHash x_o_issued x_o_takenBack, rI q a_o_serials 32 r_o_serials]) := by
  refine cu_of (cc := cX2_placeOf) (nL := 3) (ret := (some .int)) (by decide) (Nat.le_of_ble_eq_true rfl) (fun {p e s m args below meth c A} C0 H locs ls hP hD hS hl => ?_)
  have C0 : cy p s m args meth c cX2_placeOf (some .int) 3 RX2 D q t A := C0
  obtain ⟨⟨hx, hb, hr, hml, hown, hts, hlocks, hK, hA⟩, hG⟩ := id C0
  have hl : lv_has ls 3 [(0, .ref a_o), (1, .int p_0)] := hl
  unfold f_au_placeOf at hF
  refine lv_iconst (v := (0 : Int32)) hx hb dX2_placeOf_0 (by decide) ?_
  refine lv_istore_n (lv' := [(2, .int (0 : Int32)), (0, .ref a_o), (1, .int p_0)]) hx hb dX2_placeOf_1 rfl hl (by decide) rfl (fun ls hl => ?_)
  exact w_au_placeOf_2 C0 a_o a_o_name a_o_since a_o_reasons a_o_serials FU x_o_secret x_o_publicKey x_o_nameHash x_o_keyHash x_o_issued x_o_takenBack r_o_serials p_0 (0 : Int32) y hF H locs ls hP hD hS (lv_sub hl [1, 2, 0] rfl)
set_option maxHeartbeats 4000000 in
set_option maxRecDepth 100000 in
theorem c_au_hasRoomFor (l : Launch) (D : va_G) (q : Nat → ClassId) (t : Nat) (a_o : Nat) (a_o_name : Nat) (a_o_since : Nat) (a_o_reasons : Nat) (x_o_secret : Int32) (x_o_publicKey : Int32) (x_o_nameHash : Int64) (x_o_keyHash : Int64) (x_o_issued : Int32) (x_o_takenBack : Int32) (a_o_serials : Nat) (r_o_serials : (Nat → Int32)) (p_0 : Int32) (y : Int32) (hF : f_au_hasRoomFor x_o_issued r_o_serials p_0 = some y)  : cu l yX2_hasRoomFor (vs yX2_hasRoomFor cX2_hasRoomFor 2 (some .boolean)) ({ frames := 1, cells := 0, slots := 0, locals := 22 }) D q t [.ref a_o, .int p_0] [oX2 a_o a_o_name a_o_serials a_o_since a_o_reasons x_o_secret x_o_publicKey x_o_nameHash x_o_keyHash x_o_issued x_o_takenBack, rI q a_o_serials 32 r_o_serials] (qI D q y [oX2 a_o a_o_name a_o_serials a_o_since a_o_reasons x_o_secret x_o_publicKey x_o_nameHash x_o_keyHash x_o_issued x_o_takenBack, rI q a_o_serials 32 r_o_serials]) := by
  refine cu_of (cc := cX2_hasRoomFor) (nL := 2) (ret := (some .boolean)) (by decide) (Nat.le_of_ble_eq_true rfl) (fun {p e s m args below meth c A} C0 H locs ls hP hD hS hl => ?_)
  have C0 : cy p s m args meth c cX2_hasRoomFor (some .boolean) 2 RX2 D q t A := C0
  obtain ⟨⟨hx, hb, hr, hml, hown, hts, hlocks, hK, hA⟩, hG⟩ := id C0
  have hl : lv_has ls 2 [(0, .ref a_o), (1, .int p_0)] := hl
  unfold f_au_hasRoomFor at hF
  refine lv_aload_n hx hb dX2_hasRoomFor_0 rfl (lv_at hl 0 rfl) ?_
  refine va_get (D := D) (ci := 2) (v := .int x_o_issued) (C := RX2) (T := TX2) (N := 10) hx hb hts iw_X2 hown hK hP 0 rfl rfl 8 (by decide) (hts _ kw_408) (fun _ h9 => h9) rfl dX2_hasRoomFor_1 ?_
  refine lv_bipush (v := (32 : Int32)) hx hb dX2_hasRoomFor_4 (by decide) ?_
  refine lv_icmp_lt (tgt := 18) hx hb dX2_hasRoomFor_6 (by decide) (fun c_1 => ?_) (fun c_1 => ?_)
  · replace hF := ite_t hF c_1
    refine lv_iconst (v := (1 : Int32)) hx hb dX2_hasRoomFor_18 (by decide) ?_
    refine lv_goto (tgt := 23) hx hb dX2_hasRoomFor_19 (by decide) ?_
    have hy9 := (Option.some.inj hF).symm
    subst hy9
    exact rt_z (v := (1 : Int32)) C0.1 rfl hP hD hS dX2_hasRoomFor_23
  · replace hF := ite_f hF c_1
    refine lv_aload_n hx hb dX2_hasRoomFor_9 rfl (lv_at hl 0 rfl) ?_
    refine lv_iload_n hx hb dX2_hasRoomFor_10 rfl (lv_at hl 1 rfl) ?_
    obtain ⟨y_2, hy_2, hF⟩ := cal_d hF
    refine cf_i C0.1 hP hD hS [0, 1] [] [0, 1] (wr := []) (w' := [oX2 a_o a_o_name a_o_serials a_o_since a_o_reasons x_o_secret x_o_publicKey x_o_nameHash x_o_keyHash x_o_issued x_o_takenBack, rI q a_o_serials 32 r_o_serials]) rfl rfl rfl (by decide) rfl rfl (sn_V (As := [.int p_0]) (rest := []) (ci := 2) (q0 := 0) C0 (c_au_placeOf l D q t a_o a_o_name a_o_since a_o_reasons x_o_secret x_o_publicKey x_o_nameHash x_o_keyHash x_o_issued x_o_takenBack a_o_serials r_o_serials p_0 y_2 hy_2) (cwV 1 hts (g_V kw_638 kw_631 kw_632 kw_81 kw_633) rfl rfl rfl hd_X2_placeOf ⟨Nat.le_of_ble_eq_true rfl, Nat.le_of_ble_eq_true rfl⟩) hP hD hS [0, 1] rfl rfl rfl rfl rfl rfl hl (Nat.le_of_ble_eq_true rfl) dX2_hasRoomFor_11) (fun H locs hP hD hS => ?_)
    refine lv_iconst (v := (-1 : Int32)) hx hb dX2_hasRoomFor_14 (by decide) ?_
    refine lv_icmp_eq (tgt := 22) hx hb dX2_hasRoomFor_15 (by decide) (fun c_3 => ?_) (fun c_3 => ?_)
    · replace hF := ite_t hF c_3
      refine lv_iconst (v := (0 : Int32)) hx hb dX2_hasRoomFor_22 (by decide) ?_
      have hy9 := (Option.some.inj hF).symm
      subst hy9
      exact rt_z (v := (0 : Int32)) C0.1 rfl hP hD hS dX2_hasRoomFor_23
    · replace hF := ite_f hF c_3
      refine lv_iconst (v := (1 : Int32)) hx hb dX2_hasRoomFor_18 (by decide) ?_
      refine lv_goto (tgt := 23) hx hb dX2_hasRoomFor_19 (by decide) ?_
      have hy9 := (Option.some.inj hF).symm
      subst hy9
      exact rt_z (v := (1 : Int32)) C0.1 rfl hP hD hS dX2_hasRoomFor_23
set_option maxHeartbeats 4000000 in
set_option maxRecDepth 100000 in
theorem c_au_enlist (l : Launch) (D : va_G) (q : Nat → ClassId) (t : Nat) (a_o : Nat) (a_o_name : Nat) (a_o_reasons : Nat) (x_o_secret : Int32) (x_o_publicKey : Int32) (x_o_nameHash : Int64) (x_o_keyHash : Int64) (x_o_issued : Int32) (x_o_takenBack : Int32) (a_o_serials : Nat) (r_o_serials : (Nat → Int32)) (a_o_since : Nat) (r_o_since : (Nat → Int64)) (p_0 : Int32) (y : Int32 × (Nat → Int32) × (Nat → Int64)) (hF : f_au_enlist x_o_issued r_o_serials r_o_since p_0 = some y)  : cu l yX2_enlist (vs yX2_enlist cX2_enlist 2 none) ({ frames := 1, cells := 0, slots := 0, locals := 22 }) D q t [.ref a_o, .int p_0] [oX2 a_o a_o_name a_o_serials a_o_since a_o_reasons x_o_secret x_o_publicKey x_o_nameHash x_o_keyHash x_o_issued x_o_takenBack, rI q a_o_serials 32 r_o_serials, rJ q a_o_since 32 r_o_since] (qV D q [oX2 a_o a_o_name a_o_serials a_o_since a_o_reasons x_o_secret x_o_publicKey x_o_nameHash x_o_keyHash y.1 x_o_takenBack, rI q a_o_serials 32 y.2.1, rJ q a_o_since 32 y.2.2]) := by
  refine cu_of (cc := cX2_enlist) (nL := 2) (ret := none) (by decide) (Nat.le_of_ble_eq_true rfl) (fun {p e s m args below meth c A} C0 H locs ls hP hD hS hl => ?_)
  have C0 : cy p s m args meth c cX2_enlist none 2 RX2 D q t A := C0
  obtain ⟨⟨hx, hb, hr, hml, hown, hts, hlocks, hK, hA⟩, hG⟩ := id C0
  have hl : lv_has ls 2 [(0, .ref a_o), (1, .int p_0)] := hl
  unfold f_au_enlist at hF
  refine lv_aload_n hx hb dX2_enlist_0 rfl (lv_at hl 0 rfl) ?_
  refine va_get (D := D) (ci := 2) (v := .int x_o_issued) (C := RX2) (T := TX2) (N := 10) hx hb hts iw_X2 hown hK hP 0 rfl rfl 8 (by decide) (hts _ kw_408) (fun _ h9 => h9) rfl dX2_enlist_1 ?_
  refine lv_bipush (v := (32 : Int32)) hx hb dX2_enlist_4 (by decide) ?_
  refine lv_icmp_ge (tgt := 50) hx hb dX2_enlist_6 (by decide) (fun c_1 => ?_) (fun c_1 => ?_)
  · replace hF := ite_t hF c_1
    have hy9 := (Option.some.inj hF).symm
    subst hy9
    exact rt_v C0.1 hP hD hS dX2_enlist_50
  · replace hF := ite_f hF c_1
    refine lv_aload_n hx hb dX2_enlist_9 rfl (lv_at hl 0 rfl) ?_
    refine lv_iload_n hx hb dX2_enlist_10 rfl (lv_at hl 1 rfl) ?_
    obtain ⟨y_2, hy_2, hF⟩ := cal_d hF
    refine cf_i C0.1 hP hD hS [0, 1] [2] [1, 2, 0] (wr := [rJ q a_o_since 32 r_o_since]) (w' := [oX2 a_o a_o_name a_o_serials a_o_since a_o_reasons x_o_secret x_o_publicKey x_o_nameHash x_o_keyHash x_o_issued x_o_takenBack, rI q a_o_serials 32 r_o_serials, rJ q a_o_since 32 r_o_since]) rfl rfl rfl (by decide) rfl rfl (sn_V (As := [.int p_0]) (rest := []) (ci := 2) (q0 := 0) C0 (c_au_placeOf l D q t a_o a_o_name a_o_since a_o_reasons x_o_secret x_o_publicKey x_o_nameHash x_o_keyHash x_o_issued x_o_takenBack a_o_serials r_o_serials p_0 y_2 hy_2) (cwV 1 hts (g_V kw_638 kw_631 kw_632 kw_81 kw_633) rfl rfl rfl hd_X2_placeOf ⟨Nat.le_of_ble_eq_true rfl, Nat.le_of_ble_eq_true rfl⟩) hP hD hS [0, 1] rfl rfl rfl rfl rfl rfl hl (Nat.le_of_ble_eq_true rfl) dX2_enlist_11) (fun H locs hP hD hS => ?_)
    refine lv_iconst (v := (-1 : Int32)) hx hb dX2_enlist_14 (by decide) ?_
    refine lv_icmp_ne (tgt := 50) hx hb dX2_enlist_15 (by decide) (fun c_3 => ?_) (fun c_3 => ?_)
    · replace hF := ite_f hF c_3
      have hy9 := (Option.some.inj hF).symm
      subst hy9
      exact rt_v C0.1 hP hD hS dX2_enlist_50
    · replace hF := ite_t hF c_3
      refine lv_aload_n hx hb dX2_enlist_18 rfl (lv_at hl 0 rfl) ?_
      refine va_get (D := D) (ci := 2) (v := .ref a_o_serials) (C := RX2) (T := TX2) (N := 10) hx hb hts iw_X2 hown hK hP 0 rfl rfl 1 (by decide) (hts _ kw_394) (fun _ h9 => h9) rfl dX2_enlist_19 ?_
      refine lv_aload_n hx hb dX2_enlist_22 rfl (lv_at hl 0 rfl) ?_
      refine va_get (D := D) (ci := 2) (v := .int x_o_issued) (C := RX2) (T := TX2) (N := 10) hx hb hts iw_X2 hown hK hP 0 rfl rfl 8 (by decide) (hts _ kw_408) (fun _ h9 => h9) rfl dX2_enlist_23 ?_
      refine lv_iload_n hx hb dX2_enlist_26 rfl (lv_at hl 1 rfl) ?_
      obtain ⟨z_4, hF⟩ := chk_d hF
      refine va_iast hx hb hK hP hD hS 1 1 rfl rfl z_4 dX2_enlist_27 (fun H locs hP hD hS => ?_)
      obtain ⟨r_o_serials_5, e_r_o_serials_5⟩ : ∃ z : (Nat → Int32), z = upd r_o_serials x_o_issued.toNatClampNeg p_0 := ⟨_, rfl⟩
      replace hF := bnd_d hF e_r_o_serials_5
      have hP : va_P D vwCl ([oX2 a_o a_o_name a_o_serials a_o_since a_o_reasons x_o_secret x_o_publicKey x_o_nameHash x_o_keyHash x_o_issued x_o_takenBack, rI q a_o_serials 32 r_o_serials_5, rJ q a_o_since 32 r_o_since]) H := by rw [e_r_o_serials_5]; exact hP
      have hD : va_D A ([oX2 a_o a_o_name a_o_serials a_o_since a_o_reasons x_o_secret x_o_publicKey x_o_nameHash x_o_keyHash x_o_issued x_o_takenBack, rI q a_o_serials 32 r_o_serials_5, rJ q a_o_since 32 r_o_since]) := by rw [e_r_o_serials_5]; exact hD
      refine lv_aload_n hx hb dX2_enlist_28 rfl (lv_at hl 0 rfl) ?_
      refine va_get (D := D) (ci := 2) (v := .ref a_o_since) (C := RX2) (T := TX2) (N := 10) hx hb hts iw_X2 hown hK hP 0 rfl rfl 2 (by decide) (hts _ kw_395) (fun _ h9 => h9) rfl dX2_enlist_29 ?_
      refine lv_aload_n hx hb dX2_enlist_32 rfl (lv_at hl 0 rfl) ?_
      refine va_get (D := D) (ci := 2) (v := .int x_o_issued) (C := RX2) (T := TX2) (N := 10) hx hb hts iw_X2 hown hK hP 0 rfl rfl 8 (by decide) (hts _ kw_408) (fun _ h9 => h9) rfl dX2_enlist_33 ?_
      refine lv_ldc2 (v := (-1 : Int64)) hx hb hown (hts _ kw_639) dX2_enlist_36 ?_
      obtain ⟨z_6, hF⟩ := chk_d hF
      refine va_last hx hb hK hP hD hS 2 2 rfl rfl z_6 dX2_enlist_39 (fun H locs hP hD hS => ?_)
      obtain ⟨r_o_since_7, e_r_o_since_7⟩ : ∃ z : (Nat → Int64), z = vp_updL r_o_since x_o_issued.toNatClampNeg (-1 : Int64) := ⟨_, rfl⟩
      replace hF := bnd_d hF e_r_o_since_7
      have hP : va_P D vwCl ([oX2 a_o a_o_name a_o_serials a_o_since a_o_reasons x_o_secret x_o_publicKey x_o_nameHash x_o_keyHash x_o_issued x_o_takenBack, rI q a_o_serials 32 r_o_serials_5, rJ q a_o_since 32 r_o_since_7]) H := by rw [e_r_o_since_7]; exact hP
      have hD : va_D A ([oX2 a_o a_o_name a_o_serials a_o_since a_o_reasons x_o_secret x_o_publicKey x_o_nameHash x_o_keyHash x_o_issued x_o_takenBack, rI q a_o_serials 32 r_o_serials_5, rJ q a_o_since 32 r_o_since_7]) := by rw [e_r_o_since_7]; exact hD
      refine lv_aload_n hx hb dX2_enlist_40 rfl (lv_at hl 0 rfl) ?_
      refine lv_dup hx hb dX2_enlist_41 rfl ?_
      refine va_get (D := D) (ci := 2) (v := .int x_o_issued) (C := RX2) (T := TX2) (N := 10) hx hb hts iw_X2 hown hK hP 0 rfl rfl 8 (by decide) (hts _ kw_408) (fun _ h9 => h9) rfl dX2_enlist_42 ?_
      refine lv_iconst (v := (1 : Int32)) hx hb dX2_enlist_45 (by decide) ?_
      refine lv_iadd hx hb dX2_enlist_46 ?_
      refine lv_topi (fun x_o_issued_8 e_x_o_issued_8 => ?_)
      replace hF := bnd_d hF e_x_o_issued_8
      refine va_put (D := D) (ci := 2) (v := .int x_o_issued_8) (ty := .int) (C := RX2) (T := TX2) (N := 10) hx hb hts iw_X2 tyX2 tyX2_ok nmX2 hown hK hP hD hS 0 rfl rfl 8 (by decide) (hts _ kw_408) (fun _ h9 => h9) rfl (by decide +kernel) rfl rfl (Nat.le_of_ble_eq_true rfl) dX2_enlist_47 (fun H locs hP hD hS => ?_)
      have hP : va_P D vwCl ([oX2 a_o a_o_name a_o_serials a_o_since a_o_reasons x_o_secret x_o_publicKey x_o_nameHash x_o_keyHash x_o_issued_8 x_o_takenBack, rI q a_o_serials 32 r_o_serials_5, rJ q a_o_since 32 r_o_since_7]) H := hP
      have hD : va_D A ([oX2 a_o a_o_name a_o_serials a_o_since a_o_reasons x_o_secret x_o_publicKey x_o_nameHash x_o_keyHash x_o_issued_8 x_o_takenBack, rI q a_o_serials 32 r_o_serials_5, rJ q a_o_since 32 r_o_since_7]) := hD
      have hy9 := (Option.some.inj hF).symm
      subst hy9
      exact rt_v C0.1 hP hD hS dX2_enlist_50
set_option maxHeartbeats 4000000 in
set_option maxRecDepth 100000 in
theorem c_au_isTakenBack (l : Launch) (D : va_G) (q : Nat → ClassId) (t : Nat) (a_o : Nat) (a_o_name : Nat) (a_o_serials : Nat) (a_o_reasons : Nat) (x_o_secret : Int32) (x_o_publicKey : Int32) (x_o_nameHash : Int64) (x_o_keyHash : Int64) (x_o_issued : Int32) (x_o_takenBack : Int32) (a_o_since : Nat) (r_o_since : (Nat → Int64)) (p_0 : Int32) (p_1 : Int64) (y : Int32) (hF : f_au_isTakenBack x_o_issued r_o_since p_0 p_1 = some y)  : cu l yX2_isTakenBack (vs yX2_isTakenBack cX2_isTakenBack 4 (some .boolean)) ({ frames := 0, cells := 0, slots := 0, locals := 0 }) D q t [.ref a_o, .int p_0, .long p_1] [oX2 a_o a_o_name a_o_serials a_o_since a_o_reasons x_o_secret x_o_publicKey x_o_nameHash x_o_keyHash x_o_issued x_o_takenBack, rJ q a_o_since 32 r_o_since] (qI D q y [oX2 a_o a_o_name a_o_serials a_o_since a_o_reasons x_o_secret x_o_publicKey x_o_nameHash x_o_keyHash x_o_issued x_o_takenBack, rJ q a_o_since 32 r_o_since]) := by
  refine cu_of (cc := cX2_isTakenBack) (nL := 4) (ret := (some .boolean)) (by decide) (Nat.le_of_ble_eq_true rfl) (fun {p e s m args below meth c A} C0 H locs ls hP hD hS hl => ?_)
  have C0 : cy p s m args meth c cX2_isTakenBack (some .boolean) 4 RX2 D q t A := C0
  obtain ⟨⟨hx, hb, hr, hml, hown, hts, hlocks, hK, hA⟩, hG⟩ := id C0
  have hl : lv_has ls 4 [(0, .ref a_o), (1, .int p_0), (2, .long p_1)] := hl
  unfold f_au_isTakenBack at hF
  refine lv_iload_n hx hb dX2_isTakenBack_0 rfl (lv_at hl 1 rfl) ?_
  refine lv_if_lt (tgt := 40) hx hb dX2_isTakenBack_1 (by decide) (fun c_1 => ?_) (fun c_1 => ?_)
  · replace hF := ite_t hF c_1
    refine lv_iconst (v := (0 : Int32)) hx hb dX2_isTakenBack_40 (by decide) ?_
    have hy9 := (Option.some.inj hF).symm
    subst hy9
    exact rt_z (v := (0 : Int32)) C0.1 rfl hP hD hS dX2_isTakenBack_41
  · replace hF := ite_f hF c_1
    refine lv_iload_n hx hb dX2_isTakenBack_4 rfl (lv_at hl 1 rfl) ?_
    refine lv_aload_n hx hb dX2_isTakenBack_5 rfl (lv_at hl 0 rfl) ?_
    refine va_get (D := D) (ci := 2) (v := .int x_o_issued) (C := RX2) (T := TX2) (N := 10) hx hb hts iw_X2 hown hK hP 0 rfl rfl 8 (by decide) (hts _ kw_408) (fun _ h9 => h9) rfl dX2_isTakenBack_6 ?_
    refine lv_icmp_ge (tgt := 40) hx hb dX2_isTakenBack_9 (by decide) (fun c_2 => ?_) (fun c_2 => ?_)
    · replace hF := ite_t hF c_2
      refine lv_iconst (v := (0 : Int32)) hx hb dX2_isTakenBack_40 (by decide) ?_
      have hy9 := (Option.some.inj hF).symm
      subst hy9
      exact rt_z (v := (0 : Int32)) C0.1 rfl hP hD hS dX2_isTakenBack_41
    · replace hF := ite_f hF c_2
      refine lv_aload_n hx hb dX2_isTakenBack_12 rfl (lv_at hl 0 rfl) ?_
      refine va_get (D := D) (ci := 2) (v := .ref a_o_since) (C := RX2) (T := TX2) (N := 10) hx hb hts iw_X2 hown hK hP 0 rfl rfl 2 (by decide) (hts _ kw_395) (fun _ h9 => h9) rfl dX2_isTakenBack_13 ?_
      refine lv_iload_n hx hb dX2_isTakenBack_16 rfl (lv_at hl 1 rfl) ?_
      obtain ⟨z_3, hF⟩ := chk_d hF
      refine va_lald hx hb hK hP 1 2 rfl rfl z_3 dX2_isTakenBack_17 ?_
      refine lv_ldc2 (v := (-1 : Int64)) hx hb hown (hts _ kw_639) dX2_isTakenBack_18 ?_
      refine W.lcmp hx hb dX2_isTakenBack_21 ?_
      refine lv_if_eq (tgt := 40) hx hb dX2_isTakenBack_22 (by decide) (fun c_4 => ?_) (fun c_4 => ?_)
      · replace hF := ite_t hF ((lg_cmp_eq _ _).mp c_4)
        refine lv_iconst (v := (0 : Int32)) hx hb dX2_isTakenBack_40 (by decide) ?_
        have hy9 := (Option.some.inj hF).symm
        subst hy9
        exact rt_z (v := (0 : Int32)) C0.1 rfl hP hD hS dX2_isTakenBack_41
      · replace hF := ite_f hF (fun h => c_4 ((lg_cmp_eq _ _).mpr h))
        refine lv_aload_n hx hb dX2_isTakenBack_25 rfl (lv_at hl 0 rfl) ?_
        refine va_get (D := D) (ci := 2) (v := .ref a_o_since) (C := RX2) (T := TX2) (N := 10) hx hb hts iw_X2 hown hK hP 0 rfl rfl 2 (by decide) (hts _ kw_395) (fun _ h9 => h9) rfl dX2_isTakenBack_26 ?_
        refine lv_iload_n hx hb dX2_isTakenBack_29 rfl (lv_at hl 1 rfl) ?_
        refine va_lald hx hb hK hP 1 2 rfl rfl z_3 dX2_isTakenBack_30 ?_
        refine lv_lload_n hx hb dX2_isTakenBack_31 rfl (lv_at hl 2 rfl) ?_
        refine W.lcmp hx hb dX2_isTakenBack_32 ?_
        refine lv_if_gt (tgt := 40) hx hb dX2_isTakenBack_33 (by decide) (fun c_5 => ?_) (fun c_5 => ?_)
        · replace hF := ite_t hF ((lg_cmp_gt _ _).mp c_5)
          refine lv_iconst (v := (0 : Int32)) hx hb dX2_isTakenBack_40 (by decide) ?_
          have hy9 := (Option.some.inj hF).symm
          subst hy9
          exact rt_z (v := (0 : Int32)) C0.1 rfl hP hD hS dX2_isTakenBack_41
        · replace hF := ite_f hF (fun h => c_5 ((lg_cmp_gt _ _).mpr h))
          refine lv_iconst (v := (1 : Int32)) hx hb dX2_isTakenBack_36 (by decide) ?_
          refine lv_goto (tgt := 41) hx hb dX2_isTakenBack_37 (by decide) ?_
          have hy9 := (Option.some.inj hF).symm
          subst hy9
          exact rt_z (v := (1 : Int32)) C0.1 rfl hP hD hS dX2_isTakenBack_41
set_option maxHeartbeats 4000000 in
set_option maxRecDepth 100000 in
theorem w_by_addLowestFirst_3 {l : Launch} {p : Program} {e : Env} {s : State} {m : MethodId} {args : Array Value} {below : List Frame} {meth : Method} {c : Code} {A : Nat → Prop} {D : va_G} {q : Nat → ClassId} {t : Nat} (C0 : cy p s m args meth c cX3_addLowestFirst none 5 RX3 D q t A) (a_o : Nat) (a_o_data : Nat) (n_o_data : Nat)  : ∀ (n : Nat) (x_o_length : Int32) (r_o_data : (Nat → Int32)) (v_1 : Int64) (v_3 : Int32) (v_4 : Int32) (y : (Nat → Int32) × Int32) (hF : j_by_addLowestFirst_3 n r_o_data x_o_length n_o_data v_1 v_3 v_4 = some y), ∀ (H : Heap) (locs : List Loc) (ls : Array Slot), va_P D vwCl [oX3 a_o a_o_data x_o_length, rB q a_o_data n_o_data r_o_data] H → va_D A [oX3 a_o a_o_data x_o_length, rB q a_o_data n_o_data r_o_data] → va_S A s.heap H locs → lv_has ls 5 [(0, .ref a_o), (1, .long v_1), (3, .int v_3), (4, .int v_4)] → W p l e ({ frames := 1, cells := 0, slots := 0, locals := 21 }) s m args below meth c H locs 0 0 (MQ below (qV D q [oX3 a_o a_o_data y.2, rB q a_o_data n_o_data y.1] A) args s 0 0 A) (F0 m 3 ls []) := by
  obtain ⟨⟨hx, hb, hr, hml, hown, hts, hlocks, hK, hA⟩, hG⟩ := id C0
  intro n
  induction n with
  | zero =>
    intro x_o_length r_o_data v_1 v_3 v_4 y hF
    exact absurd (show (none : Option ((Nat → Int32) × Int32)) = some y from hF) (fun h => by cases h)
  | succ n ih =>
    intro x_o_length r_o_data v_1 v_3 v_4 y hF H locs ls hP hD hS hl
    rw [j_by_addLowestFirst_3] at hF
    refine lv_iload hx hb dX3_addLowestFirst_3 (lv_at hl 3 rfl) ?_
    refine lv_iload_n hx hb dX3_addLowestFirst_5 rfl (lv_at hl 2 rfl) ?_
    refine lv_icmp_ge (tgt := 27) hx hb dX3_addLowestFirst_6 (by decide) (fun c_1 => ?_) (fun c_1 => ?_)
    · replace hF := ite_t hF c_1
      have hy9 := (Option.some.inj hF).symm
      subst hy9
      exact rt_v C0.1 hP hD hS dX3_addLowestFirst_27
    · replace hF := ite_f hF c_1
      refine lv_aload_n hx hb dX3_addLowestFirst_9 rfl (lv_at hl 0 rfl) ?_
      refine lv_lload_n hx hb dX3_addLowestFirst_10 rfl (lv_at hl 1 rfl) ?_
      refine lv_bipush (v := (8 : Int32)) hx hb dX3_addLowestFirst_11 (by decide) ?_
      refine lv_iload hx hb dX3_addLowestFirst_13 (lv_at hl 3 rfl) ?_
      refine lv_imul hx hb dX3_addLowestFirst_15 ?_
      refine lv_lushr hx hb dX3_addLowestFirst_16 rfl ?_
      refine lv_l2i hx hb dX3_addLowestFirst_17 rfl ?_
      obtain ⟨y_2, hy_2, hF⟩ := cal_d hF
      refine cf_v C0.1 hP hD hS [0, 1] [] [0, 1] (wr := []) (w' := [oX3 a_o a_o_data y_2.2, rB q a_o_data n_o_data y_2.1]) rfl rfl rfl (by decide) rfl rfl (sn_V (As := [.int (((v_1.toUInt64 >>> (((8 : Int32) * v_4).toInt64.toUInt64 &&& Int64.toUInt64 63)).toInt64).toInt32)]) (rest := []) (ci := 3) (q0 := 0) C0 (c_by_add l D q t a_o x_o_length a_o_data n_o_data r_o_data (((v_1.toUInt64 >>> (((8 : Int32) * v_4).toInt64.toUInt64 &&& Int64.toUInt64 63)).toInt64).toInt32) y_2 hy_2) (cwV 1 hts (g_V kw_526 kw_527 kw_528 kw_73 kw_529) rfl rfl rfl hd_X3_add ⟨Nat.le_of_ble_eq_true rfl, Nat.le_of_ble_eq_true rfl⟩) hP hD hS [0, 1] rfl rfl rfl rfl rfl rfl hl (Nat.le_of_ble_eq_true rfl) dX3_addLowestFirst_18) (fun H locs hP hD hS => ?_)
      obtain ⟨v4_3, e_v4_3⟩ : ∃ z : Int32, z = v_4 + (1 : Int32) := ⟨_, rfl⟩
      replace hF := bnd_d hF e_v4_3
      refine lv_iinc (v := v4_3) (lv' := [(4, .int v4_3), (0, .ref a_o), (1, .long v_1), (3, .int v_3)]) hx hb dX3_addLowestFirst_21 hl (k := 3) rfl (by rw [e_v4_3]; rfl) (by decide) rfl (fun ls hl => ?_)
      refine lv_goto (tgt := 3) hx hb dX3_addLowestFirst_24 (by decide) ?_
      exact ih y_2.2 y_2.1 v_1 v_3 v4_3 y hF H locs ls hP hD hS (lv_sub hl [1, 2, 3, 0] rfl)
set_option maxHeartbeats 4000000 in
set_option maxRecDepth 100000 in
theorem c_by_addLowestFirst (l : Launch) (D : va_G) (q : Nat → ClassId) (t : Nat) (a_o : Nat) (x_o_length : Int32) (a_o_data : Nat) (n_o_data : Nat) (r_o_data : (Nat → Int32)) (p_0 : Int64) (p_1 : Int32) (y : (Nat → Int32) × Int32) (hF : f_by_addLowestFirst r_o_data x_o_length n_o_data p_0 p_1 = some y)  : cu l yX3_addLowestFirst (vs yX3_addLowestFirst cX3_addLowestFirst 5 none) ({ frames := 1, cells := 0, slots := 0, locals := 21 }) D q t [.ref a_o, .long p_0, .int p_1] [oX3 a_o a_o_data x_o_length, rB q a_o_data n_o_data r_o_data] (qV D q [oX3 a_o a_o_data y.2, rB q a_o_data n_o_data y.1]) := by
  refine cu_of (cc := cX3_addLowestFirst) (nL := 5) (ret := none) (by decide) (Nat.le_of_ble_eq_true rfl) (fun {p e s m args below meth c A} C0 H locs ls hP hD hS hl => ?_)
  have C0 : cy p s m args meth c cX3_addLowestFirst none 5 RX3 D q t A := C0
  obtain ⟨⟨hx, hb, hr, hml, hown, hts, hlocks, hK, hA⟩, hG⟩ := id C0
  have hl : lv_has ls 5 [(0, .ref a_o), (1, .long p_0), (3, .int p_1)] := hl
  unfold f_by_addLowestFirst at hF
  refine lv_iconst (v := (0 : Int32)) hx hb dX3_addLowestFirst_0 (by decide) ?_
  refine lv_istore (lv' := [(4, .int (0 : Int32)), (0, .ref a_o), (1, .long p_0), (3, .int p_1)]) hx hb dX3_addLowestFirst_1 hl (by decide) rfl (fun ls hl => ?_)
  exact w_by_addLowestFirst_3 C0 a_o a_o_data n_o_data FU x_o_length r_o_data p_0 p_1 (0 : Int32) y hF H locs ls hP hD hS (lv_sub hl [1, 2, 3, 0] rfl)
set_option maxHeartbeats 4000000 in
set_option maxRecDepth 100000 in
theorem w_by_addHighestFirst_5 {l : Launch} {p : Program} {e : Env} {s : State} {m : MethodId} {args : Array Value} {below : List Frame} {meth : Method} {c : Code} {A : Nat → Prop} {D : va_G} {q : Nat → ClassId} {t : Nat} (C0 : cy p s m args meth c cX3_addHighestFirst none 5 RX3 D q t A) (a_o : Nat) (a_o_data : Nat) (n_o_data : Nat)  : ∀ (n : Nat) (x_o_length : Int32) (r_o_data : (Nat → Int32)) (v_1 : Int64) (v_4 : Int32) (y : (Nat → Int32) × Int32) (hF : j_by_addHighestFirst_5 n r_o_data x_o_length n_o_data v_1 v_4 = some y), ∀ (H : Heap) (locs : List Loc) (ls : Array Slot), va_P D vwCl [oX3 a_o a_o_data x_o_length, rB q a_o_data n_o_data r_o_data] H → va_D A [oX3 a_o a_o_data x_o_length, rB q a_o_data n_o_data r_o_data] → va_S A s.heap H locs → lv_has ls 5 [(0, .ref a_o), (1, .long v_1), (4, .int v_4)] → W p l e ({ frames := 1, cells := 0, slots := 0, locals := 21 }) s m args below meth c H locs 0 0 (MQ below (qV D q [oX3 a_o a_o_data y.2, rB q a_o_data n_o_data y.1] A) args s 0 0 A) (F0 m 5 ls []) := by
  obtain ⟨⟨hx, hb, hr, hml, hown, hts, hlocks, hK, hA⟩, hG⟩ := id C0
  intro n
  induction n with
  | zero =>
    intro x_o_length r_o_data v_1 v_4 y hF
    exact absurd (show (none : Option ((Nat → Int32) × Int32)) = some y from hF) (fun h => by cases h)
  | succ n ih =>
    intro x_o_length r_o_data v_1 v_4 y hF H locs ls hP hD hS hl
    rw [j_by_addHighestFirst_5] at hF
    refine lv_iload hx hb dX3_addHighestFirst_5 (lv_at hl 2 rfl) ?_
    refine lv_if_lt (tgt := 28) hx hb dX3_addHighestFirst_7 (by decide) (fun c_2 => ?_) (fun c_2 => ?_)
    · replace hF := ite_t hF c_2
      have hy9 := (Option.some.inj hF).symm
      subst hy9
      exact rt_v C0.1 hP hD hS dX3_addHighestFirst_28
    · replace hF := ite_f hF c_2
      refine lv_aload_n hx hb dX3_addHighestFirst_10 rfl (lv_at hl 0 rfl) ?_
      refine lv_lload_n hx hb dX3_addHighestFirst_11 rfl (lv_at hl 1 rfl) ?_
      refine lv_bipush (v := (8 : Int32)) hx hb dX3_addHighestFirst_12 (by decide) ?_
      refine lv_iload hx hb dX3_addHighestFirst_14 (lv_at hl 2 rfl) ?_
      refine lv_imul hx hb dX3_addHighestFirst_16 ?_
      refine lv_lushr hx hb dX3_addHighestFirst_17 rfl ?_
      refine lv_l2i hx hb dX3_addHighestFirst_18 rfl ?_
      obtain ⟨y_3, hy_3, hF⟩ := cal_d hF
      refine cf_v C0.1 hP hD hS [0, 1] [] [0, 1] (wr := []) (w' := [oX3 a_o a_o_data y_3.2, rB q a_o_data n_o_data y_3.1]) rfl rfl rfl (by decide) rfl rfl (sn_V (As := [.int (((v_1.toUInt64 >>> (((8 : Int32) * v_4).toInt64.toUInt64 &&& Int64.toUInt64 63)).toInt64).toInt32)]) (rest := []) (ci := 3) (q0 := 0) C0 (c_by_add l D q t a_o x_o_length a_o_data n_o_data r_o_data (((v_1.toUInt64 >>> (((8 : Int32) * v_4).toInt64.toUInt64 &&& Int64.toUInt64 63)).toInt64).toInt32) y_3 hy_3) (cwV 1 hts (g_V kw_526 kw_527 kw_528 kw_73 kw_529) rfl rfl rfl hd_X3_add ⟨Nat.le_of_ble_eq_true rfl, Nat.le_of_ble_eq_true rfl⟩) hP hD hS [0, 1] rfl rfl rfl rfl rfl rfl hl (Nat.le_of_ble_eq_true rfl) dX3_addHighestFirst_19) (fun H locs hP hD hS => ?_)
      obtain ⟨v4_4, e_v4_4⟩ : ∃ z : Int32, z = v_4 + (-1 : Int32) := ⟨_, rfl⟩
      replace hF := bnd_d hF e_v4_4
      refine lv_iinc (v := v4_4) (lv' := [(4, .int v4_4), (0, .ref a_o), (1, .long v_1)]) hx hb dX3_addHighestFirst_22 hl (k := 2) rfl (by rw [e_v4_4]; rfl) (by decide) rfl (fun ls hl => ?_)
      refine lv_goto (tgt := 5) hx hb dX3_addHighestFirst_25 (by decide) ?_
      exact ih y_3.2 y_3.1 v_1 v4_4 y hF H locs ls hP hD hS (lv_sub hl [1, 2, 0] rfl)
set_option maxHeartbeats 4000000 in
set_option maxRecDepth 100000 in
theorem c_by_addHighestFirst (l : Launch) (D : va_G) (q : Nat → ClassId) (t : Nat) (a_o : Nat) (x_o_length : Int32) (a_o_data : Nat) (n_o_data : Nat) (r_o_data : (Nat → Int32)) (p_0 : Int64) (p_1 : Int32) (y : (Nat → Int32) × Int32) (hF : f_by_addHighestFirst r_o_data x_o_length n_o_data p_0 p_1 = some y)  : cu l yX3_addHighestFirst (vs yX3_addHighestFirst cX3_addHighestFirst 5 none) ({ frames := 1, cells := 0, slots := 0, locals := 21 }) D q t [.ref a_o, .long p_0, .int p_1] [oX3 a_o a_o_data x_o_length, rB q a_o_data n_o_data r_o_data] (qV D q [oX3 a_o a_o_data y.2, rB q a_o_data n_o_data y.1]) := by
  refine cu_of (cc := cX3_addHighestFirst) (nL := 5) (ret := none) (by decide) (Nat.le_of_ble_eq_true rfl) (fun {p e s m args below meth c A} C0 H locs ls hP hD hS hl => ?_)
  have C0 : cy p s m args meth c cX3_addHighestFirst none 5 RX3 D q t A := C0
  obtain ⟨⟨hx, hb, hr, hml, hown, hts, hlocks, hK, hA⟩, hG⟩ := id C0
  have hl : lv_has ls 5 [(0, .ref a_o), (1, .long p_0), (3, .int p_1)] := hl
  unfold f_by_addHighestFirst at hF
  refine lv_iload_n hx hb dX3_addHighestFirst_0 rfl (lv_at hl 2 rfl) ?_
  refine lv_iconst (v := (1 : Int32)) hx hb dX3_addHighestFirst_1 (by decide) ?_
  refine lv_isub hx hb dX3_addHighestFirst_2 ?_
  refine lv_topi (fun v4_1 e_v4_1 => ?_)
  replace hF := bnd_d hF e_v4_1
  refine lv_istore (lv' := [(4, .int v4_1), (0, .ref a_o), (1, .long p_0), (3, .int p_1)]) hx hb dX3_addHighestFirst_3 hl (by decide) rfl (fun ls hl => ?_)
  exact w_by_addHighestFirst_5 C0 a_o a_o_data n_o_data FU x_o_length r_o_data p_0 v4_1 y hF H locs ls hP hD hS (lv_sub hl [1, 2, 0] rfl)
set_option maxHeartbeats 4000000 in
set_option maxRecDepth 100000 in
theorem c_by_open (l : Launch) (D : va_G) (q : Nat → ClassId) (t : Nat) (a_o : Nat) (x_o_length : Int32) (a_o_data : Nat) (n_o_data : Nat) (r_o_data : (Nat → Int32)) (p_0 : Int32) (y : Int32 × (Nat → Int32) × Int32) (hF : f_by_open r_o_data x_o_length n_o_data p_0 = some y)  : cu l yX3_open (vs yX3_open cX3_open 3 (some .int)) ({ frames := 1, cells := 0, slots := 0, locals := 21 }) D q t [.ref a_o, .int p_0] [oX3 a_o a_o_data x_o_length, rB q a_o_data n_o_data r_o_data] (qI D q y.1 [oX3 a_o a_o_data y.2.2, rB q a_o_data n_o_data y.2.1]) := by
  refine cu_of (cc := cX3_open) (nL := 3) (ret := (some .int)) (by decide) (Nat.le_of_ble_eq_true rfl) (fun {p e s m args below meth c A} C0 H locs ls hP hD hS hl => ?_)
  have C0 : cy p s m args meth c cX3_open (some .int) 3 RX3 D q t A := C0
  obtain ⟨⟨hx, hb, hr, hml, hown, hts, hlocks, hK, hA⟩, hG⟩ := id C0
  have hl : lv_has ls 3 [(0, .ref a_o), (1, .int p_0)] := hl
  unfold f_by_open at hF
  refine lv_aload_n hx hb dX3_open_0 rfl (lv_at hl 0 rfl) ?_
  refine va_get (D := D) (ci := 3) (v := .int x_o_length) (C := RX3) (T := TX3) (N := 2) hx hb hts iw_X3 hown hK hP 0 rfl rfl 1 (by decide) (hts _ kw_106) (fun _ h9 => h9) rfl dX3_open_1 ?_
  refine lv_istore_n (lv' := [(2, .int x_o_length), (0, .ref a_o), (1, .int p_0)]) hx hb dX3_open_4 rfl hl (by decide) rfl (fun ls hl => ?_)
  refine lv_aload_n hx hb dX3_open_5 rfl (lv_at hl 1 rfl) ?_
  refine lv_iload_n hx hb dX3_open_6 rfl (lv_at hl 2 rfl) ?_
  obtain ⟨y_1, hy_1, hF⟩ := cal_d hF
  refine cf_v C0.1 hP hD hS [0, 1] [] [0, 1] (wr := []) (w' := [oX3 a_o a_o_data y_1.2, rB q a_o_data n_o_data y_1.1]) rfl rfl rfl (by decide) rfl rfl (sn_V (As := [.int p_0]) (rest := []) (ci := 3) (q0 := 0) C0 (c_by_add l D q t a_o x_o_length a_o_data n_o_data r_o_data p_0 y_1 hy_1) (cwV 1 hts (g_V kw_526 kw_527 kw_528 kw_73 kw_529) rfl rfl rfl hd_X3_add ⟨Nat.le_of_ble_eq_true rfl, Nat.le_of_ble_eq_true rfl⟩) hP hD hS [0, 1] rfl rfl rfl rfl rfl rfl hl (Nat.le_of_ble_eq_true rfl) dX3_open_7) (fun H locs hP hD hS => ?_)
  refine lv_iload_n hx hb dX3_open_10 rfl (lv_at hl 0 rfl) ?_
  have hy9 := (Option.some.inj hF).symm
  subst hy9
  exact rt_i C0.1 hP hD hS dX3_open_11
set_option maxHeartbeats 4000000 in
set_option maxRecDepth 100000 in
theorem w_by_close_120 {l : Launch} {p : Program} {e : Env} {s : State} {m : MethodId} {args : Array Value} {below : List Frame} {meth : Method} {c : Code} {A : Nat → Prop} {D : va_G} {q : Nat → ClassId} {t : Nat} (C0 : cy p s m args meth c cX3_close none 5 RX3 D q t A) (a_o : Nat) (a_o_data : Nat) (n_o_data : Nat)  (x_o_length : Int32) (r_o_data : (Nat → Int32)) (v_1 : Int32) (v_2 : Int32) (v_3 : Int32) (y : (Nat → Int32) × Int32) (hF : j_by_close_120 r_o_data x_o_length n_o_data v_1 v_2 v_3 = some y) : ∀ (H : Heap) (locs : List Loc) (ls : Array Slot), va_P D vwCl [oX3 a_o a_o_data x_o_length, rB q a_o_data n_o_data r_o_data] H → va_D A [oX3 a_o a_o_data x_o_length, rB q a_o_data n_o_data r_o_data] → va_S A s.heap H locs → lv_has ls 5 [(0, .ref a_o), (1, .int v_1), (2, .int v_2), (3, .int v_3)] → W p l e ({ frames := 0, cells := 0, slots := 0, locals := 0 }) s m args below meth c H locs 0 0 (MQ below (qV D q [oX3 a_o a_o_data y.2, rB q a_o_data n_o_data y.1] A) args s 0 0 A) (F0 m 120 ls []) := by
  obtain ⟨⟨hx, hb, hr, hml, hown, hts, hlocks, hK, hA⟩, hG⟩ := id C0
  intro H locs ls hP hD hS hl
  unfold j_by_close_120 at hF
  refine lv_iload_n hx hb dX3_close_120 rfl (lv_at hl 3 rfl) ?_
  refine lv_iconst (v := (2 : Int32)) hx hb dX3_close_121 (by decide) ?_
  refine lv_icmp_le (tgt := 138) hx hb dX3_close_122 (by decide) (fun c_17 => ?_) (fun c_17 => ?_)
  · replace hF := ite_t hF c_17
    refine lv_aload_n hx hb dX3_close_138 rfl (lv_at hl 0 rfl) ?_
    refine va_get (D := D) (ci := 3) (v := .ref a_o_data) (C := RX3) (T := TX3) (N := 2) hx hb hts iw_X3 hown hK hP 0 rfl rfl 0 (by decide) (hts _ kw_103) (fun _ h9 => h9) rfl dX3_close_139 ?_
    refine lv_iload_n hx hb dX3_close_142 rfl (lv_at hl 1 rfl) ?_
    refine lv_iload_n hx hb dX3_close_143 rfl (lv_at hl 3 rfl) ?_
    refine lv_iadd hx hb dX3_close_144 ?_
    refine lv_iload_n hx hb dX3_close_145 rfl (lv_at hl 2 rfl) ?_
    refine lv_i2b hx hb dX3_close_146 rfl ?_
    obtain ⟨z_18, hF⟩ := chk_d hF
    refine va_bast hx hb hK hP hD hS 1 0 rfl rfl z_18 dX3_close_147 (fun H locs hP hD hS => ?_)
    obtain ⟨r_o_data_19, e_r_o_data_19⟩ : ∃ z : (Nat → Int32), z = upd r_o_data (v_1 + v_3).toNatClampNeg (vp_nar .byte v_2.toInt8.toInt32) := ⟨_, rfl⟩
    replace hF := bnd_d hF e_r_o_data_19
    have hP : va_P D vwCl ([oX3 a_o a_o_data x_o_length, rB q a_o_data n_o_data r_o_data_19]) H := by rw [e_r_o_data_19]; exact hP
    have hD : va_D A ([oX3 a_o a_o_data x_o_length, rB q a_o_data n_o_data r_o_data_19]) := by rw [e_r_o_data_19]; exact hD
    have hy9 := (Option.some.inj hF).symm
    subst hy9
    exact rt_v C0.1 hP hD hS dX3_close_148
  · replace hF := ite_f hF c_17
    refine lv_aload_n hx hb dX3_close_125 rfl (lv_at hl 0 rfl) ?_
    refine va_get (D := D) (ci := 3) (v := .ref a_o_data) (C := RX3) (T := TX3) (N := 2) hx hb hts iw_X3 hown hK hP 0 rfl rfl 0 (by decide) (hts _ kw_103) (fun _ h9 => h9) rfl dX3_close_126 ?_
    refine lv_iload_n hx hb dX3_close_129 rfl (lv_at hl 1 rfl) ?_
    refine lv_iconst (v := (2 : Int32)) hx hb dX3_close_130 (by decide) ?_
    refine lv_iadd hx hb dX3_close_131 ?_
    refine lv_iload_n hx hb dX3_close_132 rfl (lv_at hl 2 rfl) ?_
    refine lv_bipush (v := (8 : Int32)) hx hb dX3_close_133 (by decide) ?_
    refine lv_ishr hx hb dX3_close_135 ?_
    refine lv_i2b hx hb dX3_close_136 rfl ?_
    obtain ⟨z_20, hF⟩ := chk_d hF
    refine va_bast hx hb hK hP hD hS 1 0 rfl rfl z_20 dX3_close_137 (fun H locs hP hD hS => ?_)
    obtain ⟨r_o_data_21, e_r_o_data_21⟩ : ∃ z : (Nat → Int32), z = upd r_o_data (v_1 + (2 : Int32)).toNatClampNeg (vp_nar .byte ((v_2 >>> ((8 : Int32) &&& 31)).toInt8.toInt32)) := ⟨_, rfl⟩
    replace hF := bnd_d hF e_r_o_data_21
    have hP : va_P D vwCl ([oX3 a_o a_o_data x_o_length, rB q a_o_data n_o_data r_o_data_21]) H := by rw [e_r_o_data_21]; exact hP
    have hD : va_D A ([oX3 a_o a_o_data x_o_length, rB q a_o_data n_o_data r_o_data_21]) := by rw [e_r_o_data_21]; exact hD
    refine lv_aload_n hx hb dX3_close_138 rfl (lv_at hl 0 rfl) ?_
    refine va_get (D := D) (ci := 3) (v := .ref a_o_data) (C := RX3) (T := TX3) (N := 2) hx hb hts iw_X3 hown hK hP 0 rfl rfl 0 (by decide) (hts _ kw_103) (fun _ h9 => h9) rfl dX3_close_139 ?_
    refine lv_iload_n hx hb dX3_close_142 rfl (lv_at hl 1 rfl) ?_
    refine lv_iload_n hx hb dX3_close_143 rfl (lv_at hl 3 rfl) ?_
    refine lv_iadd hx hb dX3_close_144 ?_
    refine lv_iload_n hx hb dX3_close_145 rfl (lv_at hl 2 rfl) ?_
    refine lv_i2b hx hb dX3_close_146 rfl ?_
    obtain ⟨z_22, hF⟩ := chk_d hF
    refine va_bast hx hb hK hP hD hS 1 0 rfl rfl z_22 dX3_close_147 (fun H locs hP hD hS => ?_)
    obtain ⟨r_o_data_23, e_r_o_data_23⟩ : ∃ z : (Nat → Int32), z = upd r_o_data_21 (v_1 + v_3).toNatClampNeg (vp_nar .byte v_2.toInt8.toInt32) := ⟨_, rfl⟩
    replace hF := bnd_d hF e_r_o_data_23
    have hP : va_P D vwCl ([oX3 a_o a_o_data x_o_length, rB q a_o_data n_o_data r_o_data_23]) H := by rw [e_r_o_data_23]; exact hP
    have hD : va_D A ([oX3 a_o a_o_data x_o_length, rB q a_o_data n_o_data r_o_data_23]) := by rw [e_r_o_data_23]; exact hD
    have hy9 := (Option.some.inj hF).symm
    subst hy9
    exact rt_v C0.1 hP hD hS dX3_close_148
set_option maxHeartbeats 4000000 in
set_option maxRecDepth 100000 in
theorem w_by_close_64 {l : Launch} {p : Program} {e : Env} {s : State} {m : MethodId} {args : Array Value} {below : List Frame} {meth : Method} {c : Code} {A : Nat → Prop} {D : va_G} {q : Nat → ClassId} {t : Nat} (C0 : cy p s m args meth c cX3_close none 5 RX3 D q t A) (a_o : Nat) (a_o_data : Nat) (n_o_data : Nat)  : ∀ (n : Nat) (x_o_length : Int32) (r_o_data : (Nat → Int32)) (v_1 : Int32) (v_2 : Int32) (v_3 : Int32) (v_4 : Int32) (y : (Nat → Int32) × Int32) (hF : j_by_close_64 n r_o_data x_o_length n_o_data v_1 v_2 v_3 v_4 = some y), ∀ (H : Heap) (locs : List Loc) (ls : Array Slot), va_P D vwCl [oX3 a_o a_o_data x_o_length, rB q a_o_data n_o_data r_o_data] H → va_D A [oX3 a_o a_o_data x_o_length, rB q a_o_data n_o_data r_o_data] → va_S A s.heap H locs → lv_has ls 5 [(0, .ref a_o), (1, .int v_1), (2, .int v_2), (3, .int v_3), (4, .int v_4)] → W p l e ({ frames := 0, cells := 0, slots := 0, locals := 0 }) s m args below meth c H locs 0 0 (MQ below (qV D q [oX3 a_o a_o_data y.2, rB q a_o_data n_o_data y.1] A) args s 0 0 A) (F0 m 64 ls []) := by
  obtain ⟨⟨hx, hb, hr, hml, hown, hts, hlocks, hK, hA⟩, hG⟩ := id C0
  intro n
  induction n with
  | zero =>
    intro x_o_length r_o_data v_1 v_2 v_3 v_4 y hF
    exact absurd (show (none : Option ((Nat → Int32) × Int32)) = some y from hF) (fun h => by cases h)
  | succ n ih =>
    intro x_o_length r_o_data v_1 v_2 v_3 v_4 y hF H locs ls hP hD hS hl
    rw [j_by_close_64] at hF
    refine lv_iload hx hb dX3_close_64 (lv_at hl 4 rfl) ?_
    refine lv_iload_n hx hb dX3_close_66 rfl (lv_at hl 1 rfl) ?_
    refine lv_icmp_le (tgt := 92) hx hb dX3_close_67 (by decide) (fun c_8 => ?_) (fun c_8 => ?_)
    · replace hF := ite_t hF c_8
      refine lv_aload_n hx hb dX3_close_92 rfl (lv_at hl 0 rfl) ?_
      refine lv_dup hx hb dX3_close_93 rfl ?_
      refine va_get (D := D) (ci := 3) (v := .int x_o_length) (C := RX3) (T := TX3) (N := 2) hx hb hts iw_X3 hown hK hP 0 rfl rfl 1 (by decide) (hts _ kw_106) (fun _ h9 => h9) rfl dX3_close_94 ?_
      refine lv_iload_n hx hb dX3_close_97 rfl (lv_at hl 3 rfl) ?_
      refine lv_iadd hx hb dX3_close_98 ?_
      refine lv_topi (fun x_o_length_9 e_x_o_length_9 => ?_)
      replace hF := bnd_d hF e_x_o_length_9
      refine va_put (D := D) (ci := 3) (v := .int x_o_length_9) (ty := .int) (C := RX3) (T := TX3) (N := 2) hx hb hts iw_X3 tyX3 tyX3_ok nmX3 hown hK hP hD hS 0 rfl rfl 1 (by decide) (hts _ kw_106) (fun _ h9 => h9) rfl (by decide +kernel) rfl rfl (Nat.le_of_ble_eq_true rfl) dX3_close_99 (fun H locs hP hD hS => ?_)
      have hP : va_P D vwCl ([oX3 a_o a_o_data x_o_length_9, rB q a_o_data n_o_data r_o_data]) H := hP
      have hD : va_D A ([oX3 a_o a_o_data x_o_length_9, rB q a_o_data n_o_data r_o_data]) := hD
      refine lv_iload_n hx hb dX3_close_102 rfl (lv_at hl 3 rfl) ?_
      refine lv_iconst (v := (1 : Int32)) hx hb dX3_close_103 (by decide) ?_
      refine lv_icmp_le (tgt := 120) hx hb dX3_close_104 (by decide) (fun c_10 => ?_) (fun c_10 => ?_)
      · replace hF := ite_t hF c_10
        exact w_by_close_120 C0 a_o a_o_data n_o_data x_o_length_9 r_o_data v_1 v_2 v_3 y hF H locs ls hP hD hS (lv_sub hl [0, 1, 2, 3] rfl)
      · replace hF := ite_f hF c_10
        refine lv_aload_n hx hb dX3_close_107 rfl (lv_at hl 0 rfl) ?_
        refine va_get (D := D) (ci := 3) (v := .ref a_o_data) (C := RX3) (T := TX3) (N := 2) hx hb hts iw_X3 hown hK hP 0 rfl rfl 0 (by decide) (hts _ kw_103) (fun _ h9 => h9) rfl dX3_close_108 ?_
        refine lv_iload_n hx hb dX3_close_111 rfl (lv_at hl 1 rfl) ?_
        refine lv_iconst (v := (1 : Int32)) hx hb dX3_close_112 (by decide) ?_
        refine lv_iadd hx hb dX3_close_113 ?_
        refine lv_bipush (v := (127 : Int32)) hx hb dX3_close_114 (by decide) ?_
        refine lv_iload_n hx hb dX3_close_116 rfl (lv_at hl 3 rfl) ?_
        refine lv_iadd hx hb dX3_close_117 ?_
        refine lv_i2b hx hb dX3_close_118 rfl ?_
        obtain ⟨z_11, hF⟩ := chk_d hF
        refine va_bast hx hb hK hP hD hS 1 0 rfl rfl z_11 dX3_close_119 (fun H locs hP hD hS => ?_)
        obtain ⟨r_o_data_12, e_r_o_data_12⟩ : ∃ z : (Nat → Int32), z = upd r_o_data (v_1 + (1 : Int32)).toNatClampNeg (vp_nar .byte (((127 : Int32) + v_3).toInt8.toInt32)) := ⟨_, rfl⟩
        replace hF := bnd_d hF e_r_o_data_12
        have hP : va_P D vwCl ([oX3 a_o a_o_data x_o_length_9, rB q a_o_data n_o_data r_o_data_12]) H := by rw [e_r_o_data_12]; exact hP
        have hD : va_D A ([oX3 a_o a_o_data x_o_length_9, rB q a_o_data n_o_data r_o_data_12]) := by rw [e_r_o_data_12]; exact hD
        exact w_by_close_120 C0 a_o a_o_data n_o_data x_o_length_9 r_o_data_12 v_1 v_2 v_3 y hF H locs ls hP hD hS (lv_sub hl [0, 1, 2, 3] rfl)
    · replace hF := ite_f hF c_8
      refine lv_aload_n hx hb dX3_close_70 rfl (lv_at hl 0 rfl) ?_
      refine va_get (D := D) (ci := 3) (v := .ref a_o_data) (C := RX3) (T := TX3) (N := 2) hx hb hts iw_X3 hown hK hP 0 rfl rfl 0 (by decide) (hts _ kw_103) (fun _ h9 => h9) rfl dX3_close_71 ?_
      refine lv_iload hx hb dX3_close_74 (lv_at hl 4 rfl) ?_
      refine lv_iload_n hx hb dX3_close_76 rfl (lv_at hl 3 rfl) ?_
      refine lv_iadd hx hb dX3_close_77 ?_
      refine lv_aload_n hx hb dX3_close_78 rfl (lv_at hl 0 rfl) ?_
      refine va_get (D := D) (ci := 3) (v := .ref a_o_data) (C := RX3) (T := TX3) (N := 2) hx hb hts iw_X3 hown hK hP 0 rfl rfl 0 (by decide) (hts _ kw_103) (fun _ h9 => h9) rfl dX3_close_79 ?_
      refine lv_iload hx hb dX3_close_82 (lv_at hl 4 rfl) ?_
      obtain ⟨z_13, hF⟩ := chk_d hF
      refine va_bald hx hb hK hP 1 0 rfl rfl z_13 dX3_close_84 ?_
      obtain ⟨z_14, hF⟩ := chk_d hF
      refine va_bast hx hb hK hP hD hS 1 0 rfl rfl z_14 dX3_close_85 (fun H locs hP hD hS => ?_)
      obtain ⟨r_o_data_15, e_r_o_data_15⟩ : ∃ z : (Nat → Int32), z = upd r_o_data (v_4 + v_3).toNatClampNeg (vp_nar .byte (r_o_data v_4.toNatClampNeg)) := ⟨_, rfl⟩
      replace hF := bnd_d hF e_r_o_data_15
      have hP : va_P D vwCl ([oX3 a_o a_o_data x_o_length, rB q a_o_data n_o_data r_o_data_15]) H := by rw [e_r_o_data_15]; exact hP
      have hD : va_D A ([oX3 a_o a_o_data x_o_length, rB q a_o_data n_o_data r_o_data_15]) := by rw [e_r_o_data_15]; exact hD
      obtain ⟨v4_16, e_v4_16⟩ : ∃ z : Int32, z = v_4 + (-1 : Int32) := ⟨_, rfl⟩
      replace hF := bnd_d hF e_v4_16
      refine lv_iinc (v := v4_16) (lv' := [(4, .int v4_16), (0, .ref a_o), (1, .int v_1), (2, .int v_2), (3, .int v_3)]) hx hb dX3_close_86 hl (k := 4) rfl (by rw [e_v4_16]; rfl) (by decide) rfl (fun ls hl => ?_)
      refine lv_goto (tgt := 64) hx hb dX3_close_89 (by decide) ?_
      exact ih x_o_length r_o_data_15 v_1 v_2 v_3 v4_16 y hF H locs ls hP hD hS (lv_sub hl [1, 2, 3, 4, 0] rfl)
set_option maxHeartbeats 4000000 in
set_option maxRecDepth 100000 in
theorem w_by_close_32 {l : Launch} {p : Program} {e : Env} {s : State} {m : MethodId} {args : Array Value} {below : List Frame} {meth : Method} {c : Code} {A : Nat → Prop} {D : va_G} {q : Nat → ClassId} {t : Nat} (C0 : cy p s m args meth c cX3_close none 5 RX3 D q t A) (a_o : Nat) (a_o_data : Nat) (n_o_data : Nat)  (x_o_length : Int32) (r_o_data : (Nat → Int32)) (v_1 : Int32) (v_2 : Int32) (s_0 : Int32) (y : (Nat → Int32) × Int32) (hF : j_by_close_32 r_o_data x_o_length n_o_data v_1 v_2 s_0 = some y) : ∀ (H : Heap) (locs : List Loc) (ls : Array Slot), va_P D vwCl [oX3 a_o a_o_data x_o_length, rB q a_o_data n_o_data r_o_data] H → va_D A [oX3 a_o a_o_data x_o_length, rB q a_o_data n_o_data r_o_data] → va_S A s.heap H locs → lv_has ls 5 [(0, .ref a_o), (1, .int v_1), (2, .int v_2)] → W p l e ({ frames := 0, cells := 0, slots := 0, locals := 0 }) s m args below meth c H locs 0 0 (MQ below (qV D q [oX3 a_o a_o_data y.2, rB q a_o_data n_o_data y.1] A) args s 0 0 A) (F0 m 32 ls [.int s_0]) := by
  obtain ⟨⟨hx, hb, hr, hml, hown, hts, hlocks, hK, hA⟩, hG⟩ := id C0
  intro H locs ls hP hD hS hl
  unfold j_by_close_32 at hF
  refine lv_istore_n (lv' := [(3, .int s_0), (0, .ref a_o), (1, .int v_1), (2, .int v_2)]) hx hb dX3_close_32 rfl hl (by decide) rfl (fun ls hl => ?_)
  refine lv_iload_n hx hb dX3_close_33 rfl (lv_at hl 2 rfl) ?_
  refine lv_if_lt (tgt := 55) hx hb dX3_close_34 (by decide) (fun c_4 => ?_) (fun c_4 => ?_)
  · replace hF := ite_t hF c_4
    have hy9 := (Option.some.inj hF).symm
    subst hy9
    exact rt_v C0.1 hP hD hS dX3_close_55
  · replace hF := ite_f hF c_4
    refine lv_iload_n hx hb dX3_close_37 rfl (lv_at hl 3 rfl) ?_
    refine lv_if_lt (tgt := 55) hx hb dX3_close_38 (by decide) (fun c_5 => ?_) (fun c_5 => ?_)
    · replace hF := ite_t hF c_5
      have hy9 := (Option.some.inj hF).symm
      subst hy9
      exact rt_v C0.1 hP hD hS dX3_close_55
    · replace hF := ite_f hF c_5
      refine lv_aload_n hx hb dX3_close_41 rfl (lv_at hl 1 rfl) ?_
      refine va_get (D := D) (ci := 3) (v := .int x_o_length) (C := RX3) (T := TX3) (N := 2) hx hb hts iw_X3 hown hK hP 0 rfl rfl 1 (by decide) (hts _ kw_106) (fun _ h9 => h9) rfl dX3_close_42 ?_
      refine lv_iload_n hx hb dX3_close_45 rfl (lv_at hl 0 rfl) ?_
      refine lv_iadd hx hb dX3_close_46 ?_
      refine lv_aload_n hx hb dX3_close_47 rfl (lv_at hl 1 rfl) ?_
      refine va_get (D := D) (ci := 3) (v := .ref a_o_data) (C := RX3) (T := TX3) (N := 2) hx hb hts iw_X3 hown hK hP 0 rfl rfl 0 (by decide) (hts _ kw_103) (fun _ h9 => h9) rfl dX3_close_48 ?_
      refine va_alen (v := Int32.ofNat n_o_data) hx hb hK hP 1 0 rfl rfl rfl dX3_close_51 ?_
      refine lv_icmp_le (tgt := 56) hx hb dX3_close_52 (by decide) (fun c_6 => ?_) (fun c_6 => ?_)
      · replace hF := ite_t hF c_6
        refine lv_aload_n hx hb dX3_close_56 rfl (lv_at hl 1 rfl) ?_
        refine va_get (D := D) (ci := 3) (v := .int x_o_length) (C := RX3) (T := TX3) (N := 2) hx hb hts iw_X3 hown hK hP 0 rfl rfl 1 (by decide) (hts _ kw_106) (fun _ h9 => h9) rfl dX3_close_57 ?_
        refine lv_iconst (v := (1 : Int32)) hx hb dX3_close_60 (by decide) ?_
        refine lv_isub hx hb dX3_close_61 ?_
        refine lv_topi (fun v4_7 e_v4_7 => ?_)
        replace hF := bnd_d hF e_v4_7
        refine lv_istore (lv' := [(4, .int v4_7), (3, .int s_0), (0, .ref a_o), (1, .int v_1), (2, .int v_2)]) hx hb dX3_close_62 hl (by decide) rfl (fun ls hl => ?_)
        exact w_by_close_64 C0 a_o a_o_data n_o_data FU x_o_length r_o_data v_1 v_2 s_0 v4_7 y hF H locs ls hP hD hS (lv_sub hl [2, 3, 4, 1, 0] rfl)
      · replace hF := ite_f hF c_6
        have hy9 := (Option.some.inj hF).symm
        subst hy9
        exact rt_v C0.1 hP hD hS dX3_close_55
set_option maxHeartbeats 4000000 in
set_option maxRecDepth 100000 in
theorem c_by_close (l : Launch) (D : va_G) (q : Nat → ClassId) (t : Nat) (a_o : Nat) (x_o_length : Int32) (a_o_data : Nat) (n_o_data : Nat) (r_o_data : (Nat → Int32)) (p_0 : Int32) (y : (Nat → Int32) × Int32) (hF : f_by_close r_o_data x_o_length n_o_data p_0 = some y)  : cu l yX3_close (vs yX3_close cX3_close 5 none) ({ frames := 0, cells := 0, slots := 0, locals := 0 }) D q t [.ref a_o, .int p_0] [oX3 a_o a_o_data x_o_length, rB q a_o_data n_o_data r_o_data] (qV D q [oX3 a_o a_o_data y.2, rB q a_o_data n_o_data y.1]) := by
  refine cu_of (cc := cX3_close) (nL := 5) (ret := none) (by decide) (Nat.le_of_ble_eq_true rfl) (fun {p e s m args below meth c A} C0 H locs ls hP hD hS hl => ?_)
  have C0 : cy p s m args meth c cX3_close none 5 RX3 D q t A := C0
  obtain ⟨⟨hx, hb, hr, hml, hown, hts, hlocks, hK, hA⟩, hG⟩ := id C0
  have hl : lv_has ls 5 [(0, .ref a_o), (1, .int p_0)] := hl
  unfold f_by_close at hF
  refine lv_aload_n hx hb dX3_close_0 rfl (lv_at hl 0 rfl) ?_
  refine va_get (D := D) (ci := 3) (v := .int x_o_length) (C := RX3) (T := TX3) (N := 2) hx hb hts iw_X3 hown hK hP 0 rfl rfl 1 (by decide) (hts _ kw_106) (fun _ h9 => h9) rfl dX3_close_1 ?_
  refine lv_iload_n hx hb dX3_close_4 rfl (lv_at hl 1 rfl) ?_
  refine lv_isub hx hb dX3_close_5 ?_
  refine lv_iconst (v := (1 : Int32)) hx hb dX3_close_6 (by decide) ?_
  refine lv_isub hx hb dX3_close_7 ?_
  refine lv_topi (fun v2_1 e_v2_1 => ?_)
  replace hF := bnd_d hF e_v2_1
  refine lv_istore_n (lv' := [(2, .int v2_1), (0, .ref a_o), (1, .int p_0)]) hx hb dX3_close_8 rfl hl (by decide) rfl (fun ls hl => ?_)
  refine lv_iload_n hx hb dX3_close_9 rfl (lv_at hl 0 rfl) ?_
  refine lv_sipush (v := (128 : Int32)) hx hb dX3_close_10 (by decide) ?_
  refine lv_icmp_ge (tgt := 20) hx hb dX3_close_13 (by decide) (fun c_2 => ?_) (fun c_2 => ?_)
  · replace hF := ite_t hF c_2
    refine lv_iload_n hx hb dX3_close_20 rfl (lv_at hl 0 rfl) ?_
    refine lv_sipush (v := (256 : Int32)) hx hb dX3_close_21 (by decide) ?_
    refine lv_icmp_ge (tgt := 31) hx hb dX3_close_24 (by decide) (fun c_3 => ?_) (fun c_3 => ?_)
    · replace hF := ite_t hF c_3
      refine lv_iconst (v := (3 : Int32)) hx hb dX3_close_31 (by decide) ?_
      exact w_by_close_32 C0 a_o a_o_data n_o_data x_o_length r_o_data p_0 v2_1 (3 : Int32) y hF H locs ls hP hD hS (lv_sub hl [1, 2, 0] rfl)
    · replace hF := ite_f hF c_3
      refine lv_iconst (v := (2 : Int32)) hx hb dX3_close_27 (by decide) ?_
      refine lv_goto (tgt := 32) hx hb dX3_close_28 (by decide) ?_
      exact w_by_close_32 C0 a_o a_o_data n_o_data x_o_length r_o_data p_0 v2_1 (2 : Int32) y hF H locs ls hP hD hS (lv_sub hl [1, 2, 0] rfl)
  · replace hF := ite_f hF c_2
    refine lv_iconst (v := (1 : Int32)) hx hb dX3_close_16 (by decide) ?_
    refine lv_goto (tgt := 32) hx hb dX3_close_17 (by decide) ?_
    exact w_by_close_32 C0 a_o a_o_data n_o_data x_o_length r_o_data p_0 v2_1 (1 : Int32) y hF H locs ls hP hD hS (lv_sub hl [1, 2, 0] rfl)
set_option maxHeartbeats 4000000 in
set_option maxRecDepth 100000 in
theorem w_by_addInteger_2 {l : Launch} {p : Program} {e : Env} {s : State} {m : MethodId} {args : Array Value} {below : List Frame} {meth : Method} {c : Code} {A : Nat → Prop} {D : va_G} {q : Nat → ClassId} {t : Nat} (C0 : cy p s m args meth c cX3_addInteger none 5 RX3 D q t A) (a_o : Nat) (a_o_data : Nat) (n_o_data : Nat)  : ∀ (n : Nat) (x_o_length : Int32) (r_o_data : (Nat → Int32)) (v_1 : Int64) (v_3 : Int32) (y : (Nat → Int32) × Int32) (hF : j_by_addInteger_2 n r_o_data x_o_length n_o_data v_1 v_3 = some y), ∀ (H : Heap) (locs : List Loc) (ls : Array Slot), va_P D vwCl [oX3 a_o a_o_data x_o_length, rB q a_o_data n_o_data r_o_data] H → va_D A [oX3 a_o a_o_data x_o_length, rB q a_o_data n_o_data r_o_data] → va_S A s.heap H locs → lv_has ls 5 [(0, .ref a_o), (1, .long v_1), (3, .int v_3)] → W p l e ({ frames := 2, cells := 0, slots := 0, locals := 45 }) s m args below meth c H locs 0 0 (MQ below (qV D q [oX3 a_o a_o_data y.2, rB q a_o_data n_o_data y.1] A) args s 0 0 A) (F0 m 2 ls []) := by
  obtain ⟨⟨hx, hb, hr, hml, hown, hts, hlocks, hK, hA⟩, hG⟩ := id C0
  intro n
  induction n with
  | zero =>
    intro x_o_length r_o_data v_1 v_3 y hF
    exact absurd (show (none : Option ((Nat → Int32) × Int32)) = some y from hF) (fun h => by cases h)
  | succ n ih =>
    intro x_o_length r_o_data v_1 v_3 y hF H locs ls hP hD hS hl
    rw [j_by_addInteger_2] at hF
    refine lv_iload_n hx hb dX3_addInteger_2 rfl (lv_at hl 2 rfl) ?_
    refine lv_bipush (v := (8 : Int32)) hx hb dX3_addInteger_3 (by decide) ?_
    refine lv_icmp_ge (tgt := 27) hx hb dX3_addInteger_5 (by decide) (fun c_1 => ?_) (fun c_1 => ?_)
    · replace hF := ite_t hF c_1
      refine lv_aload_n hx hb dX3_addInteger_27 rfl (lv_at hl 0 rfl) ?_
      refine lv_iconst (v := (2 : Int32)) hx hb dX3_addInteger_28 (by decide) ?_
      obtain ⟨y_2, hy_2, hF⟩ := cal_d hF
      refine cf_i C0.1 hP hD hS [0, 1] [] [0, 1] (wr := []) (w' := [oX3 a_o a_o_data y_2.2.2, rB q a_o_data n_o_data y_2.2.1]) rfl rfl rfl (by decide) rfl rfl (sn_V (As := [.int (2 : Int32)]) (rest := []) (ci := 3) (q0 := 0) C0 (c_by_open l D q t a_o x_o_length a_o_data n_o_data r_o_data (2 : Int32) y_2 hy_2) (cwV 1 hts (g_V kw_680 kw_673 kw_674 kw_73 kw_675) rfl rfl rfl hd_X3_open ⟨Nat.le_of_ble_eq_true rfl, Nat.le_of_ble_eq_true rfl⟩) hP hD hS [0, 1] rfl rfl rfl rfl rfl rfl hl (Nat.le_of_ble_eq_true rfl) dX3_addInteger_29) (fun H locs hP hD hS => ?_)
      refine lv_topi (fun v4_3 e_v4_3 => ?_)
      replace hF := bnd_d hF e_v4_3
      refine lv_istore (lv' := [(4, .int v4_3), (0, .ref a_o), (1, .long v_1), (3, .int v_3)]) hx hb dX3_addInteger_32 hl (by decide) rfl (fun ls hl => ?_)
      refine lv_aload_n hx hb dX3_addInteger_34 rfl (lv_at hl 1 rfl) ?_
      refine lv_lload_n hx hb dX3_addInteger_35 rfl (lv_at hl 2 rfl) ?_
      refine lv_iload_n hx hb dX3_addInteger_36 rfl (lv_at hl 3 rfl) ?_
      obtain ⟨y_4, hy_4, hF⟩ := cal_d hF
      refine cf_v C0.1 hP hD hS [0, 1] [] [0, 1] (wr := []) (w' := [oX3 a_o a_o_data y_4.2, rB q a_o_data n_o_data y_4.1]) rfl rfl rfl (by decide) rfl rfl (sn_V (As := [.long v_1, .int v_3]) (rest := []) (ci := 3) (q0 := 0) C0 (c_by_addHighestFirst l D q t a_o y_2.2.2 a_o_data n_o_data y_2.2.1 v_1 v_3 y_4 hy_4) (cwV 2 hts (g_V kw_681 kw_682 kw_683 kw_73 kw_684) rfl rfl rfl hd_X3_addHighestFirst ⟨Nat.le_of_ble_eq_true rfl, Nat.le_of_ble_eq_true rfl⟩) hP hD hS [0, 1] rfl rfl rfl rfl rfl rfl hl (Nat.le_of_ble_eq_true rfl) dX3_addInteger_37) (fun H locs hP hD hS => ?_)
      refine lv_aload_n hx hb dX3_addInteger_40 rfl (lv_at hl 1 rfl) ?_
      refine lv_iload hx hb dX3_addInteger_41 (lv_at hl 0 rfl) ?_
      obtain ⟨y_5, hy_5, hF⟩ := cal_d hF
      refine cf_v C0.1 hP hD hS [0, 1] [] [0, 1] (wr := []) (w' := [oX3 a_o a_o_data y_5.2, rB q a_o_data n_o_data y_5.1]) rfl rfl rfl (by decide) rfl rfl (sn_V (As := [.int v4_3]) (rest := []) (ci := 3) (q0 := 0) C0 (c_by_close l D q t a_o y_4.2 a_o_data n_o_data y_4.1 v4_3 y_5 hy_5) (cwV 1 hts (g_V kw_685 kw_686 kw_687 kw_73 kw_688) rfl rfl rfl hd_X3_close ⟨Nat.le_of_ble_eq_true rfl, Nat.le_of_ble_eq_true rfl⟩) hP hD hS [0, 1] rfl rfl rfl rfl rfl rfl hl (Nat.le_of_ble_eq_true rfl) dX3_addInteger_43) (fun H locs hP hD hS => ?_)
      have hy9 := (Option.some.inj hF).symm
      subst hy9
      exact rt_v C0.1 hP hD hS dX3_addInteger_46
    · replace hF := ite_f hF c_1
      refine lv_lload_n hx hb dX3_addInteger_8 rfl (lv_at hl 1 rfl) ?_
      refine lv_bipush (v := (8 : Int32)) hx hb dX3_addInteger_9 (by decide) ?_
      refine lv_iload_n hx hb dX3_addInteger_11 rfl (lv_at hl 2 rfl) ?_
      refine lv_imul hx hb dX3_addInteger_12 ?_
      refine lv_iconst (v := (1 : Int32)) hx hb dX3_addInteger_13 (by decide) ?_
      refine lv_isub hx hb dX3_addInteger_14 ?_
      refine lv_lshr hx hb dX3_addInteger_15 rfl ?_
      refine lv_lconst (v := (0 : Int64)) hx hb dX3_addInteger_16 (by decide) ?_
      refine W.lcmp hx hb dX3_addInteger_17 ?_
      refine lv_if_eq (tgt := 27) hx hb dX3_addInteger_18 (by decide) (fun c_6 => ?_) (fun c_6 => ?_)
      · replace hF := ite_t hF ((lg_cmp_eq _ _).mp c_6)
        refine lv_aload_n hx hb dX3_addInteger_27 rfl (lv_at hl 0 rfl) ?_
        refine lv_iconst (v := (2 : Int32)) hx hb dX3_addInteger_28 (by decide) ?_
        obtain ⟨y_7, hy_7, hF⟩ := cal_d hF
        refine cf_i C0.1 hP hD hS [0, 1] [] [0, 1] (wr := []) (w' := [oX3 a_o a_o_data y_7.2.2, rB q a_o_data n_o_data y_7.2.1]) rfl rfl rfl (by decide) rfl rfl (sn_V (As := [.int (2 : Int32)]) (rest := []) (ci := 3) (q0 := 0) C0 (c_by_open l D q t a_o x_o_length a_o_data n_o_data r_o_data (2 : Int32) y_7 hy_7) (cwV 1 hts (g_V kw_680 kw_673 kw_674 kw_73 kw_675) rfl rfl rfl hd_X3_open ⟨Nat.le_of_ble_eq_true rfl, Nat.le_of_ble_eq_true rfl⟩) hP hD hS [0, 1] rfl rfl rfl rfl rfl rfl hl (Nat.le_of_ble_eq_true rfl) dX3_addInteger_29) (fun H locs hP hD hS => ?_)
        refine lv_topi (fun v4_8 e_v4_8 => ?_)
        replace hF := bnd_d hF e_v4_8
        refine lv_istore (lv' := [(4, .int v4_8), (0, .ref a_o), (1, .long v_1), (3, .int v_3)]) hx hb dX3_addInteger_32 hl (by decide) rfl (fun ls hl => ?_)
        refine lv_aload_n hx hb dX3_addInteger_34 rfl (lv_at hl 1 rfl) ?_
        refine lv_lload_n hx hb dX3_addInteger_35 rfl (lv_at hl 2 rfl) ?_
        refine lv_iload_n hx hb dX3_addInteger_36 rfl (lv_at hl 3 rfl) ?_
        obtain ⟨y_9, hy_9, hF⟩ := cal_d hF
        refine cf_v C0.1 hP hD hS [0, 1] [] [0, 1] (wr := []) (w' := [oX3 a_o a_o_data y_9.2, rB q a_o_data n_o_data y_9.1]) rfl rfl rfl (by decide) rfl rfl (sn_V (As := [.long v_1, .int v_3]) (rest := []) (ci := 3) (q0 := 0) C0 (c_by_addHighestFirst l D q t a_o y_7.2.2 a_o_data n_o_data y_7.2.1 v_1 v_3 y_9 hy_9) (cwV 2 hts (g_V kw_681 kw_682 kw_683 kw_73 kw_684) rfl rfl rfl hd_X3_addHighestFirst ⟨Nat.le_of_ble_eq_true rfl, Nat.le_of_ble_eq_true rfl⟩) hP hD hS [0, 1] rfl rfl rfl rfl rfl rfl hl (Nat.le_of_ble_eq_true rfl) dX3_addInteger_37) (fun H locs hP hD hS => ?_)
        refine lv_aload_n hx hb dX3_addInteger_40 rfl (lv_at hl 1 rfl) ?_
        refine lv_iload hx hb dX3_addInteger_41 (lv_at hl 0 rfl) ?_
        obtain ⟨y_10, hy_10, hF⟩ := cal_d hF
        refine cf_v C0.1 hP hD hS [0, 1] [] [0, 1] (wr := []) (w' := [oX3 a_o a_o_data y_10.2, rB q a_o_data n_o_data y_10.1]) rfl rfl rfl (by decide) rfl rfl (sn_V (As := [.int v4_8]) (rest := []) (ci := 3) (q0 := 0) C0 (c_by_close l D q t a_o y_9.2 a_o_data n_o_data y_9.1 v4_8 y_10 hy_10) (cwV 1 hts (g_V kw_685 kw_686 kw_687 kw_73 kw_688) rfl rfl rfl hd_X3_close ⟨Nat.le_of_ble_eq_true rfl, Nat.le_of_ble_eq_true rfl⟩) hP hD hS [0, 1] rfl rfl rfl rfl rfl rfl hl (Nat.le_of_ble_eq_true rfl) dX3_addInteger_43) (fun H locs hP hD hS => ?_)
        have hy9 := (Option.some.inj hF).symm
        subst hy9
        exact rt_v C0.1 hP hD hS dX3_addInteger_46
      · replace hF := ite_f hF (fun h => c_6 ((lg_cmp_eq _ _).mpr h))
        obtain ⟨v3_11, e_v3_11⟩ : ∃ z : Int32, z = v_3 + (1 : Int32) := ⟨_, rfl⟩
        replace hF := bnd_d hF e_v3_11
        refine lv_iinc (v := v3_11) (lv' := [(3, .int v3_11), (0, .ref a_o), (1, .long v_1)]) hx hb dX3_addInteger_21 hl (k := 2) rfl (by rw [e_v3_11]; rfl) (by decide) rfl (fun ls hl => ?_)
        refine lv_goto (tgt := 2) hx hb dX3_addInteger_24 (by decide) ?_
        exact ih x_o_length r_o_data v_1 v3_11 y hF H locs ls hP hD hS (lv_sub hl [1, 2, 0] rfl)
set_option maxHeartbeats 4000000 in
set_option maxRecDepth 100000 in
theorem c_by_addInteger (l : Launch) (D : va_G) (q : Nat → ClassId) (t : Nat) (a_o : Nat) (x_o_length : Int32) (a_o_data : Nat) (n_o_data : Nat) (r_o_data : (Nat → Int32)) (p_0 : Int64) (y : (Nat → Int32) × Int32) (hF : f_by_addInteger r_o_data x_o_length n_o_data p_0 = some y)  : cu l yX3_addInteger (vs yX3_addInteger cX3_addInteger 5 none) ({ frames := 2, cells := 0, slots := 0, locals := 45 }) D q t [.ref a_o, .long p_0] [oX3 a_o a_o_data x_o_length, rB q a_o_data n_o_data r_o_data] (qV D q [oX3 a_o a_o_data y.2, rB q a_o_data n_o_data y.1]) := by
  refine cu_of (cc := cX3_addInteger) (nL := 5) (ret := none) (by decide) (Nat.le_of_ble_eq_true rfl) (fun {p e s m args below meth c A} C0 H locs ls hP hD hS hl => ?_)
  have C0 : cy p s m args meth c cX3_addInteger none 5 RX3 D q t A := C0
  obtain ⟨⟨hx, hb, hr, hml, hown, hts, hlocks, hK, hA⟩, hG⟩ := id C0
  have hl : lv_has ls 5 [(0, .ref a_o), (1, .long p_0)] := hl
  unfold f_by_addInteger at hF
  refine lv_iconst (v := (1 : Int32)) hx hb dX3_addInteger_0 (by decide) ?_
  refine lv_istore_n (lv' := [(3, .int (1 : Int32)), (0, .ref a_o), (1, .long p_0)]) hx hb dX3_addInteger_1 rfl hl (by decide) rfl (fun ls hl => ?_)
  exact w_by_addInteger_2 C0 a_o a_o_data n_o_data FU x_o_length r_o_data p_0 (1 : Int32) y hF H locs ls hP hD hS (lv_sub hl [1, 2, 0] rfl)
set_option maxHeartbeats 4000000 in
set_option maxRecDepth 100000 in
theorem c_by_addBytes (l : Launch) (D : va_G) (q : Nat → ClassId) (t : Nat) (a_o : Nat) (x_o_length : Int32) (a_o_data : Nat) (n_o_data : Nat) (r_o_data : (Nat → Int32)) (a_p0 : Nat) (x_p0_length : Int32) (a_p0_data : Nat) (n_p0_data : Nat) (r_p0_data : (Nat → Int32)) (p_1 : Int32) (p_2 : Int32) (y : (Nat → Int32) × Int32) (hF : f_by_addBytes r_o_data x_o_length r_p0_data x_p0_length n_o_data n_p0_data p_1 p_2 = some y)  : cu l yX3_addBytes (vs yX3_addBytes cX3_addBytes 5 none) ({ frames := 2, cells := 0, slots := 0, locals := 45 }) D q t [.ref a_o, .ref a_p0, .int p_1, .int p_2] [oX3 a_o a_o_data x_o_length, rB q a_o_data n_o_data r_o_data, oX3 a_p0 a_p0_data x_p0_length, rB q a_p0_data n_p0_data r_p0_data] (qV D q [oX3 a_o a_o_data y.2, rB q a_o_data n_o_data y.1, oX3 a_p0 a_p0_data x_p0_length, rB q a_p0_data n_p0_data r_p0_data]) := by
  refine cu_of (cc := cX3_addBytes) (nL := 5) (ret := none) (by decide) (Nat.le_of_ble_eq_true rfl) (fun {p e s m args below meth c A} C0 H locs ls hP hD hS hl => ?_)
  have C0 : cy p s m args meth c cX3_addBytes none 5 RX3 D q t A := C0
  obtain ⟨⟨hx, hb, hr, hml, hown, hts, hlocks, hK, hA⟩, hG⟩ := id C0
  have hl : lv_has ls 5 [(0, .ref a_o), (1, .ref a_p0), (2, .int p_1), (3, .int p_2)] := hl
  unfold f_by_addBytes at hF
  refine lv_aload_n hx hb dX3_addBytes_0 rfl (lv_at hl 0 rfl) ?_
  refine lv_iconst (v := (4 : Int32)) hx hb dX3_addBytes_1 (by decide) ?_
  obtain ⟨y_1, hy_1, hF⟩ := cal_d hF
  refine cf_i C0.1 hP hD hS [0, 1] [2, 3] [2, 3, 0, 1] (wr := [oX3 a_p0 a_p0_data x_p0_length, rB q a_p0_data n_p0_data r_p0_data]) (w' := [oX3 a_o a_o_data y_1.2.2, rB q a_o_data n_o_data y_1.2.1, oX3 a_p0 a_p0_data x_p0_length, rB q a_p0_data n_p0_data r_p0_data]) rfl rfl rfl (by decide) rfl rfl (sn_V (As := [.int (4 : Int32)]) (rest := []) (ci := 3) (q0 := 0) C0 (c_by_open l D q t a_o x_o_length a_o_data n_o_data r_o_data (4 : Int32) y_1 hy_1) (cwV 1 hts (g_V kw_680 kw_673 kw_674 kw_73 kw_675) rfl rfl rfl hd_X3_open ⟨Nat.le_of_ble_eq_true rfl, Nat.le_of_ble_eq_true rfl⟩) hP hD hS [0, 1] rfl rfl rfl rfl rfl rfl hl (Nat.le_of_ble_eq_true rfl) dX3_addBytes_2) (fun H locs hP hD hS => ?_)
  refine lv_topi (fun v4_2 e_v4_2 => ?_)
  replace hF := bnd_d hF e_v4_2
  refine lv_istore (lv' := [(4, .int v4_2), (0, .ref a_o), (1, .ref a_p0), (2, .int p_1), (3, .int p_2)]) hx hb dX3_addBytes_5 hl (by decide) rfl (fun ls hl => ?_)
  refine lv_aload_n hx hb dX3_addBytes_7 rfl (lv_at hl 1 rfl) ?_
  refine lv_aload_n hx hb dX3_addBytes_8 rfl (lv_at hl 2 rfl) ?_
  refine lv_iload_n hx hb dX3_addBytes_9 rfl (lv_at hl 3 rfl) ?_
  refine lv_iload_n hx hb dX3_addBytes_10 rfl (lv_at hl 4 rfl) ?_
  obtain ⟨y_3, hy_3, hF⟩ := cal_d hF
  refine cf_v C0.1 hP hD hS [0, 1, 2, 3] [] [0, 1, 2, 3] (wr := []) (w' := [oX3 a_o a_o_data y_3.2, rB q a_o_data n_o_data y_3.1, oX3 a_p0 a_p0_data x_p0_length, rB q a_p0_data n_p0_data r_p0_data]) rfl rfl rfl (by decide) rfl rfl (sn_V (As := [.ref a_p0, .int p_1, .int p_2]) (rest := []) (ci := 3) (q0 := 0) C0 (c_by_addAll l D q t a_o y_1.2.2 a_o_data n_o_data y_1.2.1 a_p0 x_p0_length a_p0_data n_p0_data r_p0_data p_1 p_2 y_3 hy_3) (cwV 3 hts (g_V kw_542 kw_543 kw_544 kw_73 kw_545) rfl rfl rfl hd_X3_addAll ⟨Nat.le_of_ble_eq_true rfl, Nat.le_of_ble_eq_true rfl⟩) hP hD hS [0, 1, 2, 3] rfl rfl rfl rfl rfl rfl hl (Nat.le_of_ble_eq_true rfl) dX3_addBytes_11) (fun H locs hP hD hS => ?_)
  refine lv_aload_n hx hb dX3_addBytes_14 rfl (lv_at hl 1 rfl) ?_
  refine lv_iload hx hb dX3_addBytes_15 (lv_at hl 0 rfl) ?_
  obtain ⟨y_4, hy_4, hF⟩ := cal_d hF
  refine cf_v C0.1 hP hD hS [0, 1] [2, 3] [2, 3, 0, 1] (wr := [oX3 a_p0 a_p0_data x_p0_length, rB q a_p0_data n_p0_data r_p0_data]) (w' := [oX3 a_o a_o_data y_4.2, rB q a_o_data n_o_data y_4.1, oX3 a_p0 a_p0_data x_p0_length, rB q a_p0_data n_p0_data r_p0_data]) rfl rfl rfl (by decide) rfl rfl (sn_V (As := [.int v4_2]) (rest := []) (ci := 3) (q0 := 0) C0 (c_by_close l D q t a_o y_3.2 a_o_data n_o_data y_3.1 v4_2 y_4 hy_4) (cwV 1 hts (g_V kw_685 kw_686 kw_687 kw_73 kw_688) rfl rfl rfl hd_X3_close ⟨Nat.le_of_ble_eq_true rfl, Nat.le_of_ble_eq_true rfl⟩) hP hD hS [0, 1] rfl rfl rfl rfl rfl rfl hl (Nat.le_of_ble_eq_true rfl) dX3_addBytes_17) (fun H locs hP hD hS => ?_)
  have hy9 := (Option.some.inj hF).symm
  subst hy9
  exact rt_v C0.1 hP hD hS dX3_addBytes_20
set_option maxHeartbeats 4000000 in
set_option maxRecDepth 100000 in
theorem c_by_addTaggedBytes (l : Launch) (D : va_G) (q : Nat → ClassId) (t : Nat) (a_o : Nat) (x_o_length : Int32) (a_o_data : Nat) (n_o_data : Nat) (r_o_data : (Nat → Int32)) (a_p1 : Nat) (x_p1_length : Int32) (a_p1_data : Nat) (n_p1_data : Nat) (r_p1_data : (Nat → Int32)) (p_0 : Int32) (p_2 : Int32) (p_3 : Int32) (y : (Nat → Int32) × Int32) (hF : f_by_addTaggedBytes r_o_data x_o_length r_p1_data x_p1_length n_o_data n_p1_data p_0 p_2 p_3 = some y)  : cu l yX3_addTaggedBytes (vs yX3_addTaggedBytes cX3_addTaggedBytes 6 none) ({ frames := 3, cells := 0, slots := 0, locals := 69 }) D q t [.ref a_o, .int p_0, .ref a_p1, .int p_2, .int p_3] [oX3 a_o a_o_data x_o_length, rB q a_o_data n_o_data r_o_data, oX3 a_p1 a_p1_data x_p1_length, rB q a_p1_data n_p1_data r_p1_data] (qV D q [oX3 a_o a_o_data y.2, rB q a_o_data n_o_data y.1, oX3 a_p1 a_p1_data x_p1_length, rB q a_p1_data n_p1_data r_p1_data]) := by
  refine cu_of (cc := cX3_addTaggedBytes) (nL := 6) (ret := none) (by decide) (Nat.le_of_ble_eq_true rfl) (fun {p e s m args below meth c A} C0 H locs ls hP hD hS hl => ?_)
  have C0 : cy p s m args meth c cX3_addTaggedBytes none 6 RX3 D q t A := C0
  obtain ⟨⟨hx, hb, hr, hml, hown, hts, hlocks, hK, hA⟩, hG⟩ := id C0
  have hl : lv_has ls 6 [(0, .ref a_o), (1, .int p_0), (2, .ref a_p1), (3, .int p_2), (4, .int p_3)] := hl
  unfold f_by_addTaggedBytes at hF
  refine lv_aload_n hx hb dX3_addTaggedBytes_0 rfl (lv_at hl 0 rfl) ?_
  refine lv_sipush (v := (160 : Int32)) hx hb dX3_addTaggedBytes_1 (by decide) ?_
  refine lv_iload_n hx hb dX3_addTaggedBytes_4 rfl (lv_at hl 1 rfl) ?_
  refine lv_iadd hx hb dX3_addTaggedBytes_5 ?_
  obtain ⟨y_1, hy_1, hF⟩ := cal_d hF
  refine cf_i C0.1 hP hD hS [0, 1] [2, 3] [2, 3, 0, 1] (wr := [oX3 a_p1 a_p1_data x_p1_length, rB q a_p1_data n_p1_data r_p1_data]) (w' := [oX3 a_o a_o_data y_1.2.2, rB q a_o_data n_o_data y_1.2.1, oX3 a_p1 a_p1_data x_p1_length, rB q a_p1_data n_p1_data r_p1_data]) rfl rfl rfl (by decide) rfl rfl (sn_V (As := [.int ((160 : Int32) + p_0)]) (rest := []) (ci := 3) (q0 := 0) C0 (c_by_open l D q t a_o x_o_length a_o_data n_o_data r_o_data ((160 : Int32) + p_0) y_1 hy_1) (cwV 1 hts (g_V kw_680 kw_673 kw_674 kw_73 kw_675) rfl rfl rfl hd_X3_open ⟨Nat.le_of_ble_eq_true rfl, Nat.le_of_ble_eq_true rfl⟩) hP hD hS [0, 1] rfl rfl rfl rfl rfl rfl hl (Nat.le_of_ble_eq_true rfl) dX3_addTaggedBytes_6) (fun H locs hP hD hS => ?_)
  refine lv_topi (fun v5_2 e_v5_2 => ?_)
  replace hF := bnd_d hF e_v5_2
  refine lv_istore (lv' := [(5, .int v5_2), (0, .ref a_o), (1, .int p_0), (2, .ref a_p1), (3, .int p_2), (4, .int p_3)]) hx hb dX3_addTaggedBytes_9 hl (by decide) rfl (fun ls hl => ?_)
  refine lv_aload_n hx hb dX3_addTaggedBytes_11 rfl (lv_at hl 1 rfl) ?_
  refine lv_aload_n hx hb dX3_addTaggedBytes_12 rfl (lv_at hl 3 rfl) ?_
  refine lv_iload_n hx hb dX3_addTaggedBytes_13 rfl (lv_at hl 4 rfl) ?_
  refine lv_iload hx hb dX3_addTaggedBytes_14 (lv_at hl 5 rfl) ?_
  obtain ⟨y_3, hy_3, hF⟩ := cal_d hF
  refine cf_v C0.1 hP hD hS [0, 1, 2, 3] [] [0, 1, 2, 3] (wr := []) (w' := [oX3 a_o a_o_data y_3.2, rB q a_o_data n_o_data y_3.1, oX3 a_p1 a_p1_data x_p1_length, rB q a_p1_data n_p1_data r_p1_data]) rfl rfl rfl (by decide) rfl rfl (sn_V (As := [.ref a_p1, .int p_2, .int p_3]) (rest := []) (ci := 3) (q0 := 0) C0 (c_by_addBytes l D q t a_o y_1.2.2 a_o_data n_o_data y_1.2.1 a_p1 x_p1_length a_p1_data n_p1_data r_p1_data p_2 p_3 y_3 hy_3) (cwV 3 hts (g_V kw_775 kw_690 kw_691 kw_73 kw_692) rfl rfl rfl hd_X3_addBytes ⟨Nat.le_of_ble_eq_true rfl, Nat.le_of_ble_eq_true rfl⟩) hP hD hS [0, 1, 2, 3] rfl rfl rfl rfl rfl rfl hl (Nat.le_of_ble_eq_true rfl) dX3_addTaggedBytes_16) (fun H locs hP hD hS => ?_)
  refine lv_aload_n hx hb dX3_addTaggedBytes_19 rfl (lv_at hl 1 rfl) ?_
  refine lv_iload hx hb dX3_addTaggedBytes_20 (lv_at hl 0 rfl) ?_
  obtain ⟨y_4, hy_4, hF⟩ := cal_d hF
  refine cf_v C0.1 hP hD hS [0, 1] [2, 3] [2, 3, 0, 1] (wr := [oX3 a_p1 a_p1_data x_p1_length, rB q a_p1_data n_p1_data r_p1_data]) (w' := [oX3 a_o a_o_data y_4.2, rB q a_o_data n_o_data y_4.1, oX3 a_p1 a_p1_data x_p1_length, rB q a_p1_data n_p1_data r_p1_data]) rfl rfl rfl (by decide) rfl rfl (sn_V (As := [.int v5_2]) (rest := []) (ci := 3) (q0 := 0) C0 (c_by_close l D q t a_o y_3.2 a_o_data n_o_data y_3.1 v5_2 y_4 hy_4) (cwV 1 hts (g_V kw_685 kw_686 kw_687 kw_73 kw_688) rfl rfl rfl hd_X3_close ⟨Nat.le_of_ble_eq_true rfl, Nat.le_of_ble_eq_true rfl⟩) hP hD hS [0, 1] rfl rfl rfl rfl rfl rfl hl (Nat.le_of_ble_eq_true rfl) dX3_addTaggedBytes_22) (fun H locs hP hD hS => ?_)
  have hy9 := (Option.some.inj hF).symm
  subst hy9
  exact rt_v C0.1 hP hD hS dX3_addTaggedBytes_25
set_option maxHeartbeats 4000000 in
set_option maxRecDepth 100000 in
theorem c_by_addHash (l : Launch) (D : va_G) (q : Nat → ClassId) (t : Nat) (a_o : Nat) (x_o_length : Int32) (a_o_data : Nat) (n_o_data : Nat) (r_o_data : (Nat → Int32)) (p_0 : Int64) (y : (Nat → Int32) × Int32) (hF : f_by_addHash r_o_data x_o_length n_o_data p_0 = some y)  : cu l yX3_addHash (vs yX3_addHash cX3_addHash 4 none) ({ frames := 2, cells := 0, slots := 0, locals := 45 }) D q t [.ref a_o, .long p_0] [oX3 a_o a_o_data x_o_length, rB q a_o_data n_o_data r_o_data] (qV D q [oX3 a_o a_o_data y.2, rB q a_o_data n_o_data y.1]) := by
  refine cu_of (cc := cX3_addHash) (nL := 4) (ret := none) (by decide) (Nat.le_of_ble_eq_true rfl) (fun {p e s m args below meth c A} C0 H locs ls hP hD hS hl => ?_)
  have C0 : cy p s m args meth c cX3_addHash none 4 RX3 D q t A := C0
  obtain ⟨⟨hx, hb, hr, hml, hown, hts, hlocks, hK, hA⟩, hG⟩ := id C0
  have hl : lv_has ls 4 [(0, .ref a_o), (1, .long p_0)] := hl
  unfold f_by_addHash at hF
  refine lv_aload_n hx hb dX3_addHash_0 rfl (lv_at hl 0 rfl) ?_
  refine lv_iconst (v := (4 : Int32)) hx hb dX3_addHash_1 (by decide) ?_
  obtain ⟨y_1, hy_1, hF⟩ := cal_d hF
  refine cf_i C0.1 hP hD hS [0, 1] [] [0, 1] (wr := []) (w' := [oX3 a_o a_o_data y_1.2.2, rB q a_o_data n_o_data y_1.2.1]) rfl rfl rfl (by decide) rfl rfl (sn_V (As := [.int (4 : Int32)]) (rest := []) (ci := 3) (q0 := 0) C0 (c_by_open l D q t a_o x_o_length a_o_data n_o_data r_o_data (4 : Int32) y_1 hy_1) (cwV 1 hts (g_V kw_680 kw_673 kw_674 kw_73 kw_675) rfl rfl rfl hd_X3_open ⟨Nat.le_of_ble_eq_true rfl, Nat.le_of_ble_eq_true rfl⟩) hP hD hS [0, 1] rfl rfl rfl rfl rfl rfl hl (Nat.le_of_ble_eq_true rfl) dX3_addHash_2) (fun H locs hP hD hS => ?_)
  refine lv_topi (fun v3_2 e_v3_2 => ?_)
  replace hF := bnd_d hF e_v3_2
  refine lv_istore_n (lv' := [(3, .int v3_2), (0, .ref a_o), (1, .long p_0)]) hx hb dX3_addHash_5 rfl hl (by decide) rfl (fun ls hl => ?_)
  refine lv_aload_n hx hb dX3_addHash_6 rfl (lv_at hl 1 rfl) ?_
  refine lv_lload_n hx hb dX3_addHash_7 rfl (lv_at hl 2 rfl) ?_
  refine lv_bipush (v := (8 : Int32)) hx hb dX3_addHash_8 (by decide) ?_
  obtain ⟨y_3, hy_3, hF⟩ := cal_d hF
  refine cf_v C0.1 hP hD hS [0, 1] [] [0, 1] (wr := []) (w' := [oX3 a_o a_o_data y_3.2, rB q a_o_data n_o_data y_3.1]) rfl rfl rfl (by decide) rfl rfl (sn_V (As := [.long p_0, .int (8 : Int32)]) (rest := []) (ci := 3) (q0 := 0) C0 (c_by_addHighestFirst l D q t a_o y_1.2.2 a_o_data n_o_data y_1.2.1 p_0 (8 : Int32) y_3 hy_3) (cwV 2 hts (g_V kw_681 kw_682 kw_683 kw_73 kw_684) rfl rfl rfl hd_X3_addHighestFirst ⟨Nat.le_of_ble_eq_true rfl, Nat.le_of_ble_eq_true rfl⟩) hP hD hS [0, 1] rfl rfl rfl rfl rfl rfl hl (Nat.le_of_ble_eq_true rfl) dX3_addHash_10) (fun H locs hP hD hS => ?_)
  refine lv_aload_n hx hb dX3_addHash_13 rfl (lv_at hl 1 rfl) ?_
  refine lv_iload_n hx hb dX3_addHash_14 rfl (lv_at hl 0 rfl) ?_
  obtain ⟨y_4, hy_4, hF⟩ := cal_d hF
  refine cf_v C0.1 hP hD hS [0, 1] [] [0, 1] (wr := []) (w' := [oX3 a_o a_o_data y_4.2, rB q a_o_data n_o_data y_4.1]) rfl rfl rfl (by decide) rfl rfl (sn_V (As := [.int v3_2]) (rest := []) (ci := 3) (q0 := 0) C0 (c_by_close l D q t a_o y_3.2 a_o_data n_o_data y_3.1 v3_2 y_4 hy_4) (cwV 1 hts (g_V kw_685 kw_686 kw_687 kw_73 kw_688) rfl rfl rfl hd_X3_close ⟨Nat.le_of_ble_eq_true rfl, Nat.le_of_ble_eq_true rfl⟩) hP hD hS [0, 1] rfl rfl rfl rfl rfl rfl hl (Nat.le_of_ble_eq_true rfl) dX3_addHash_15) (fun H locs hP hD hS => ?_)
  have hy9 := (Option.some.inj hF).symm
  subst hy9
  exact rt_v C0.1 hP hD hS dX3_addHash_18
set_option maxHeartbeats 4000000 in
set_option maxRecDepth 100000 in
theorem c_by_addCode (l : Launch) (D : va_G) (q : Nat → ClassId) (t : Nat) (a_o : Nat) (x_o_length : Int32) (a_o_data : Nat) (n_o_data : Nat) (r_o_data : (Nat → Int32)) (p_0 : Int32) (y : (Nat → Int32) × Int32) (hF : f_by_addCode r_o_data x_o_length n_o_data p_0 = some y)  : cu l yX3_addCode (vs yX3_addCode cX3_addCode 3 none) ({ frames := 2, cells := 0, slots := 0, locals := 43 }) D q t [.ref a_o, .int p_0] [oX3 a_o a_o_data x_o_length, rB q a_o_data n_o_data r_o_data] (qV D q [oX3 a_o a_o_data y.2, rB q a_o_data n_o_data y.1]) := by
  refine cu_of (cc := cX3_addCode) (nL := 3) (ret := none) (by decide) (Nat.le_of_ble_eq_true rfl) (fun {p e s m args below meth c A} C0 H locs ls hP hD hS hl => ?_)
  have C0 : cy p s m args meth c cX3_addCode none 3 RX3 D q t A := C0
  obtain ⟨⟨hx, hb, hr, hml, hown, hts, hlocks, hK, hA⟩, hG⟩ := id C0
  have hl : lv_has ls 3 [(0, .ref a_o), (1, .int p_0)] := hl
  unfold f_by_addCode at hF
  refine lv_aload_n hx hb dX3_addCode_0 rfl (lv_at hl 0 rfl) ?_
  refine lv_bipush (v := (10 : Int32)) hx hb dX3_addCode_1 (by decide) ?_
  obtain ⟨y_1, hy_1, hF⟩ := cal_d hF
  refine cf_i C0.1 hP hD hS [0, 1] [] [0, 1] (wr := []) (w' := [oX3 a_o a_o_data y_1.2.2, rB q a_o_data n_o_data y_1.2.1]) rfl rfl rfl (by decide) rfl rfl (sn_V (As := [.int (10 : Int32)]) (rest := []) (ci := 3) (q0 := 0) C0 (c_by_open l D q t a_o x_o_length a_o_data n_o_data r_o_data (10 : Int32) y_1 hy_1) (cwV 1 hts (g_V kw_680 kw_673 kw_674 kw_73 kw_675) rfl rfl rfl hd_X3_open ⟨Nat.le_of_ble_eq_true rfl, Nat.le_of_ble_eq_true rfl⟩) hP hD hS [0, 1] rfl rfl rfl rfl rfl rfl hl (Nat.le_of_ble_eq_true rfl) dX3_addCode_3) (fun H locs hP hD hS => ?_)
  refine lv_topi (fun v2_2 e_v2_2 => ?_)
  replace hF := bnd_d hF e_v2_2
  refine lv_istore_n (lv' := [(2, .int v2_2), (0, .ref a_o), (1, .int p_0)]) hx hb dX3_addCode_6 rfl hl (by decide) rfl (fun ls hl => ?_)
  refine lv_aload_n hx hb dX3_addCode_7 rfl (lv_at hl 1 rfl) ?_
  refine lv_iload_n hx hb dX3_addCode_8 rfl (lv_at hl 2 rfl) ?_
  obtain ⟨y_3, hy_3, hF⟩ := cal_d hF
  refine cf_v C0.1 hP hD hS [0, 1] [] [0, 1] (wr := []) (w' := [oX3 a_o a_o_data y_3.2, rB q a_o_data n_o_data y_3.1]) rfl rfl rfl (by decide) rfl rfl (sn_V (As := [.int p_0]) (rest := []) (ci := 3) (q0 := 0) C0 (c_by_add l D q t a_o y_1.2.2 a_o_data n_o_data y_1.2.1 p_0 y_3 hy_3) (cwV 1 hts (g_V kw_526 kw_527 kw_528 kw_73 kw_529) rfl rfl rfl hd_X3_add ⟨Nat.le_of_ble_eq_true rfl, Nat.le_of_ble_eq_true rfl⟩) hP hD hS [0, 1] rfl rfl rfl rfl rfl rfl hl (Nat.le_of_ble_eq_true rfl) dX3_addCode_9) (fun H locs hP hD hS => ?_)
  refine lv_aload_n hx hb dX3_addCode_12 rfl (lv_at hl 1 rfl) ?_
  refine lv_iload_n hx hb dX3_addCode_13 rfl (lv_at hl 0 rfl) ?_
  obtain ⟨y_4, hy_4, hF⟩ := cal_d hF
  refine cf_v C0.1 hP hD hS [0, 1] [] [0, 1] (wr := []) (w' := [oX3 a_o a_o_data y_4.2, rB q a_o_data n_o_data y_4.1]) rfl rfl rfl (by decide) rfl rfl (sn_V (As := [.int v2_2]) (rest := []) (ci := 3) (q0 := 0) C0 (c_by_close l D q t a_o y_3.2 a_o_data n_o_data y_3.1 v2_2 y_4 hy_4) (cwV 1 hts (g_V kw_685 kw_686 kw_687 kw_73 kw_688) rfl rfl rfl hd_X3_close ⟨Nat.le_of_ble_eq_true rfl, Nat.le_of_ble_eq_true rfl⟩) hP hD hS [0, 1] rfl rfl rfl rfl rfl rfl hl (Nat.le_of_ble_eq_true rfl) dX3_addCode_14) (fun H locs hP hD hS => ?_)
  have hy9 := (Option.some.inj hF).symm
  subst hy9
  exact rt_v C0.1 hP hD hS dX3_addCode_17
set_option maxHeartbeats 4000000 in
set_option maxRecDepth 100000 in
theorem w_ti_character_32 {l : Launch} {p : Program} {e : Env} {s : State} {m : MethodId} {args : Array Value} {below : List Frame} {meth : Method} {c : Code} {A : Nat → Prop} {D : va_G} {q : Nat → ClassId} {t : Nat} (C0 : cy p s m args meth c cX10_character (some .int) 6 RX10 D q t A)    (v_0 : Int64) (v_3 : Int64) (y : Int32) (hF : j_ti_character_32 v_0 v_3 = some y) : ∀ (H : Heap) (locs : List Loc) (ls : Array Slot), va_P D vwCl [] H → va_D A [] → va_S A s.heap H locs → lv_has ls 6 [(0, .long v_0), (3, .long v_3)] → W p l e ({ frames := 0, cells := 0, slots := 0, locals := 0 }) s m args below meth c H locs 0 0 (MQ below (qI D q y [] A) args s 0 0 A) (F0 m 32 ls []) := by
  obtain ⟨⟨hx, hb, hr, hml, hown, hts, hlocks, hK, hA⟩, hG⟩ := id C0
  intro H locs ls hP hD hS hl
  unfold j_ti_character_32 at hF
  refine lv_lload_n hx hb dX10_character_32 rfl (lv_at hl 1 rfl) ?_
  refine lv_lconst (v := (0 : Int64)) hx hb dX10_character_33 (by decide) ?_
  refine W.lcmp hx hb dX10_character_34 ?_
  refine lv_if_ne (tgt := 43) hx hb dX10_character_35 (by decide) (fun c_5 => ?_) (fun c_5 => ?_)
  · replace hF := ite_f hF (fun h => c_5 ((lg_cmp_eq _ _).mpr h))
    refine lv_ldc2 (v := (48 : Int64)) hx hb hown (hts _ kw_718) dX10_character_43 ?_
    refine lv_lload_n hx hb dX10_character_46 rfl (lv_at hl 0 rfl) ?_
    refine lv_lload_n hx hb dX10_character_47 rfl (lv_at hl 1 rfl) ?_
    obtain ⟨z_6, hF⟩ := chk_d hF
    refine lv_ldiv hx hb dX10_character_48 z_6 ?_
    refine lv_ldc2 (v := (10 : Int64)) hx hb hown (hts _ kw_717) dX10_character_49 ?_
    refine lv_lrem hx hb dX10_character_52 (by decide) ?_
    refine lv_ladd hx hb dX10_character_53 ?_
    refine lv_l2i hx hb dX10_character_54 rfl ?_
    have hy9 := (Option.some.inj hF).symm
    subst hy9
    exact rt_i C0.1 hP hD hS dX10_character_55
  · replace hF := ite_t hF ((lg_cmp_eq _ _).mp c_5)
    refine lv_bipush (v := (90 : Int32)) hx hb dX10_character_38 (by decide) ?_
    refine lv_goto (tgt := 55) hx hb dX10_character_40 (by decide) ?_
    have hy9 := (Option.some.inj hF).symm
    subst hy9
    exact rt_i C0.1 hP hD hS dX10_character_55
set_option maxHeartbeats 4000000 in
set_option maxRecDepth 100000 in
theorem w_ti_character_7 {l : Launch} {p : Program} {e : Env} {s : State} {m : MethodId} {args : Array Value} {below : List Frame} {meth : Method} {c : Code} {A : Nat → Prop} {D : va_G} {q : Nat → ClassId} {t : Nat} (C0 : cy p s m args meth c cX10_character (some .int) 6 RX10 D q t A)   : ∀ (n : Nat)  (v_0 : Int64) (v_2 : Int32) (v_3 : Int64) (v_5 : Int32) (y : Int32) (hF : j_ti_character_7 n v_0 v_2 v_3 v_5 = some y), ∀ (H : Heap) (locs : List Loc) (ls : Array Slot), va_P D vwCl [] H → va_D A [] → va_S A s.heap H locs → lv_has ls 6 [(0, .long v_0), (2, .int v_2), (3, .long v_3), (5, .int v_5)] → W p l e ({ frames := 0, cells := 0, slots := 0, locals := 0 }) s m args below meth c H locs 0 0 (MQ below (qI D q y [] A) args s 0 0 A) (F0 m 7 ls []) := by
  obtain ⟨⟨hx, hb, hr, hml, hown, hts, hlocks, hK, hA⟩, hG⟩ := id C0
  intro n
  induction n with
  | zero =>
    intro  v_0 v_2 v_3 v_5 y hF
    exact absurd (show (none : Option (Int32)) = some y from hF) (fun h => by cases h)
  | succ n ih =>
    intro  v_0 v_2 v_3 v_5 y hF H locs ls hP hD hS hl
    rw [j_ti_character_7] at hF
    refine lv_iload hx hb dX10_character_7 (lv_at hl 3 rfl) ?_
    refine lv_iload_n hx hb dX10_character_9 rfl (lv_at hl 1 rfl) ?_
    refine lv_icmp_ge (tgt := 32) hx hb dX10_character_10 (by decide) (fun c_1 => ?_) (fun c_1 => ?_)
    · replace hF := ite_t hF c_1
      exact w_ti_character_32 C0  v_0 v_3 y hF H locs ls hP hD hS (lv_sub hl [0, 2] rfl)
    · replace hF := ite_f hF c_1
      refine lv_iload hx hb dX10_character_13 (lv_at hl 3 rfl) ?_
      refine lv_bipush (v := (15 : Int32)) hx hb dX10_character_15 (by decide) ?_
      refine lv_icmp_ge (tgt := 32) hx hb dX10_character_17 (by decide) (fun c_2 => ?_) (fun c_2 => ?_)
      · replace hF := ite_t hF c_2
        exact w_ti_character_32 C0  v_0 v_3 y hF H locs ls hP hD hS (lv_sub hl [0, 2] rfl)
      · replace hF := ite_f hF c_2
        refine lv_lload_n hx hb dX10_character_20 rfl (lv_at hl 2 rfl) ?_
        refine lv_ldc2 (v := (10 : Int64)) hx hb hown (hts _ kw_717) dX10_character_21 ?_
        refine lv_ldiv hx hb dX10_character_24 (by decide) ?_
        refine lv_topl (fun v3_3 e_v3_3 => ?_)
        replace hF := bnd_d hF e_v3_3
        refine lv_lstore_n (lv' := [(3, .long v3_3), (0, .long v_0), (2, .int v_2), (5, .int v_5)]) hx hb dX10_character_25 rfl hl (by decide) rfl (fun ls hl => ?_)
        obtain ⟨v5_4, e_v5_4⟩ : ∃ z : Int32, z = v_5 + (1 : Int32) := ⟨_, rfl⟩
        replace hF := bnd_d hF e_v5_4
        refine lv_iinc (v := v5_4) (lv' := [(5, .int v5_4), (3, .long v3_3), (0, .long v_0), (2, .int v_2)]) hx hb dX10_character_26 hl (k := 3) rfl (by rw [e_v5_4]; rfl) (by decide) rfl (fun ls hl => ?_)
        refine lv_goto (tgt := 7) hx hb dX10_character_29 (by decide) ?_
        exact ih v_0 v_2 v3_3 v5_4 y hF H locs ls hP hD hS (lv_sub hl [2, 3, 1, 0] rfl)
set_option maxHeartbeats 4000000 in
set_option maxRecDepth 100000 in
theorem c_ti_character (l : Launch) (D : va_G) (q : Nat → ClassId) (t : Nat)  (p_0 : Int64) (p_1 : Int32) (y : Int32) (hF : f_ti_character p_0 p_1 = some y)  : cu l yX10_character (vs yX10_character cX10_character 6 (some .int)) ({ frames := 0, cells := 0, slots := 0, locals := 0 }) D q t [.long p_0, .int p_1] [] (qI D q y []) := by
  refine cu_of (cc := cX10_character) (nL := 6) (ret := (some .int)) (by decide) (Nat.le_of_ble_eq_true rfl) (fun {p e s m args below meth c A} C0 H locs ls hP hD hS hl => ?_)
  have C0 : cy p s m args meth c cX10_character (some .int) 6 RX10 D q t A := C0
  obtain ⟨⟨hx, hb, hr, hml, hown, hts, hlocks, hK, hA⟩, hG⟩ := id C0
  have hl : lv_has ls 6 [(0, .long p_0), (2, .int p_1)] := hl
  unfold f_ti_character at hF
  refine lv_ldc2 (v := (10000000000000 : Int64)) hx hb hown (hts _ kw_716) dX10_character_0 ?_
  refine lv_lstore_n (lv' := [(3, .long (10000000000000 : Int64)), (0, .long p_0), (2, .int p_1)]) hx hb dX10_character_3 rfl hl (by decide) rfl (fun ls hl => ?_)
  refine lv_iconst (v := (0 : Int32)) hx hb dX10_character_4 (by decide) ?_
  refine lv_istore (lv' := [(5, .int (0 : Int32)), (3, .long (10000000000000 : Int64)), (0, .long p_0), (2, .int p_1)]) hx hb dX10_character_5 hl (by decide) rfl (fun ls hl => ?_)
  exact w_ti_character_7 C0  FU p_0 p_1 (10000000000000 : Int64) (0 : Int32) y hF H locs ls hP hD hS (lv_sub hl [2, 3, 1, 0] rfl)
set_option maxHeartbeats 4000000 in
set_option maxRecDepth 100000 in
theorem w_ti_stamp_64 {l : Launch} {p : Program} {e : Env} {s : State} {m : MethodId} {args : Array Value} {below : List Frame} {meth : Method} {c : Code} {A : Nat → Prop} {D : va_G} {q : Nat → ClassId} {t : Nat} (C0 : cy p s m args meth c cX10_stamp (some .long) 15 RX10 D q t A)   : ∀ (n : Nat)  (v_0 : Int64) (v_2 : Int64) (v_6 : Int64) (v_8 : Int64) (v_10 : Int32) (v_11 : Int32) (y : Int64) (hF : j_ti_stamp_64 n v_0 v_2 v_6 v_8 v_10 v_11 = some y), ∀ (H : Heap) (locs : List Loc) (ls : Array Slot), va_P D vwCl [] H → va_D A [] → va_S A s.heap H locs → lv_has ls 15 [(0, .long v_0), (2, .long v_2), (6, .long v_6), (8, .long v_8), (10, .int v_10), (11, .int v_11)] → W p l e ({ frames := 0, cells := 0, slots := 0, locals := 0 }) s m args below meth c H locs 0 0 (MQ below (qL D q y [] A) args s 0 0 A) (F0 m 64 ls []) := by
  obtain ⟨⟨hx, hb, hr, hml, hown, hts, hlocks, hK, hA⟩, hG⟩ := id C0
  intro n
  induction n with
  | zero =>
    intro  v_0 v_2 v_6 v_8 v_10 v_11 y hF
    exact absurd (show (none : Option (Int64)) = some y from hF) (fun h => by cases h)
  | succ n ih =>
    intro  v_0 v_2 v_6 v_8 v_10 v_11 y hF H locs ls hP hD hS hl
    rw [j_ti_stamp_64] at hF
    refine lv_iload hx hb dX10_stamp_64 (lv_at hl 5 rfl) ?_
    refine lv_bipush (v := (11 : Int32)) hx hb dX10_stamp_66 (by decide) ?_
    refine lv_icmp_ge (tgt := 131) hx hb dX10_stamp_68 (by decide) (fun c_6 => ?_) (fun c_6 => ?_)
    · replace hF := ite_t hF c_6
      refine lv_ldc2 (v := (2000 : Int64)) hx hb hown (hts _ kw_706) dX10_stamp_131 ?_
      refine lv_lload_n hx hb dX10_stamp_134 rfl (lv_at hl 1 rfl) ?_
      refine lv_ldc2 (v := (1461 : Int64)) hx hb hown (hts _ kw_701) dX10_stamp_135 ?_
      refine lv_ldiv hx hb dX10_stamp_138 (by decide) ?_
      refine lv_ldc2 (v := (4 : Int64)) hx hb hown (hts _ kw_707) dX10_stamp_139 ?_
      refine lv_lmul hx hb dX10_stamp_142 ?_
      refine lv_ladd hx hb dX10_stamp_143 ?_
      refine lv_lload hx hb dX10_stamp_144 (lv_at hl 2 rfl) ?_
      refine lv_ladd hx hb dX10_stamp_146 ?_
      refine lv_ldc2 (v := (10000 : Int64)) hx hb hown (hts _ kw_708) dX10_stamp_147 ?_
      refine lv_lmul hx hb dX10_stamp_150 ?_
      refine lv_iload hx hb dX10_stamp_151 (lv_at hl 4 rfl) ?_
      refine lv_iconst (v := (1 : Int32)) hx hb dX10_stamp_153 (by decide) ?_
      refine lv_iadd hx hb dX10_stamp_154 ?_
      refine lv_bipush (v := (100 : Int32)) hx hb dX10_stamp_155 (by decide) ?_
      refine lv_imul hx hb dX10_stamp_157 ?_
      refine lv_i2l hx hb dX10_stamp_158 rfl ?_
      refine lv_ladd hx hb dX10_stamp_159 ?_
      refine lv_lload hx hb dX10_stamp_160 (lv_at hl 3 rfl) ?_
      refine lv_ladd hx hb dX10_stamp_162 ?_
      refine lv_lconst (v := (1 : Int64)) hx hb dX10_stamp_163 (by decide) ?_
      refine lv_ladd hx hb dX10_stamp_164 ?_
      refine lv_topl (fun v11_7 e_v11_7 => ?_)
      replace hF := bnd_d hF e_v11_7
      refine lv_lstore (lv' := [(11, .long v11_7), (0, .long v_0), (2, .long v_2), (6, .long v_6), (8, .long v_8), (10, .int v_10)]) hx hb dX10_stamp_165 hl (by decide) rfl (fun ls hl => ?_)
      refine lv_lload_n hx hb dX10_stamp_167 rfl (lv_at hl 1 rfl) ?_
      refine lv_ldc2 (v := (86400 : Int64)) hx hb hown (hts _ kw_700) dX10_stamp_168 ?_
      refine lv_lrem hx hb dX10_stamp_171 (by decide) ?_
      refine lv_topl (fun v13_8 e_v13_8 => ?_)
      replace hF := bnd_d hF e_v13_8
      refine lv_lstore (lv' := [(13, .long v13_8), (11, .long v11_7), (0, .long v_0), (2, .long v_2), (6, .long v_6), (8, .long v_8), (10, .int v_10)]) hx hb dX10_stamp_172 hl (by decide) rfl (fun ls hl => ?_)
      refine lv_lload hx hb dX10_stamp_174 (lv_at hl 1 rfl) ?_
      refine lv_ldc2 (v := (1000000 : Int64)) hx hb hown (hts _ kw_709) dX10_stamp_176 ?_
      refine lv_lmul hx hb dX10_stamp_179 ?_
      refine lv_lload hx hb dX10_stamp_180 (lv_at hl 0 rfl) ?_
      refine lv_ldc2 (v := (3600 : Int64)) hx hb hown (hts _ kw_710) dX10_stamp_182 ?_
      refine lv_ldiv hx hb dX10_stamp_185 (by decide) ?_
      refine lv_ldc2 (v := (10000 : Int64)) hx hb hown (hts _ kw_708) dX10_stamp_186 ?_
      refine lv_lmul hx hb dX10_stamp_189 ?_
      refine lv_ladd hx hb dX10_stamp_190 ?_
      refine lv_lload hx hb dX10_stamp_191 (lv_at hl 0 rfl) ?_
      refine lv_ldc2 (v := (60 : Int64)) hx hb hown (hts _ kw_711) dX10_stamp_193 ?_
      refine lv_ldiv hx hb dX10_stamp_196 (by decide) ?_
      refine lv_ldc2 (v := (60 : Int64)) hx hb hown (hts _ kw_711) dX10_stamp_197 ?_
      refine lv_lrem hx hb dX10_stamp_200 (by decide) ?_
      refine lv_ldc2 (v := (100 : Int64)) hx hb hown (hts _ kw_712) dX10_stamp_201 ?_
      refine lv_lmul hx hb dX10_stamp_204 ?_
      refine lv_ladd hx hb dX10_stamp_205 ?_
      refine lv_lload hx hb dX10_stamp_206 (lv_at hl 0 rfl) ?_
      refine lv_ldc2 (v := (60 : Int64)) hx hb hown (hts _ kw_711) dX10_stamp_208 ?_
      refine lv_lrem hx hb dX10_stamp_211 (by decide) ?_
      refine lv_ladd hx hb dX10_stamp_212 ?_
      have hy9 := (Option.some.inj hF).symm
      subst hy9
      exact rt_l C0.1 hP hD hS dX10_stamp_213
    · replace hF := ite_f hF c_6
      refine va_gets hx hb hG.1 hS hown (hts _ kw_704) (fun _ h9 => h9) dX10_stamp_71 ?_
      refine lv_iload hx hb dX10_stamp_74 (lv_at hl 5 rfl) ?_
      obtain ⟨z_9, hF⟩ := chk_d hF
      refine va_ti hx hb hG.2 hS z_9 rfl dX10_stamp_76 ?_
      refine lv_iload hx hb dX10_stamp_77 (lv_at hl 5 rfl) ?_
      refine lv_iconst (v := (1 : Int32)) hx hb dX10_stamp_79 (by decide) ?_
      refine lv_icmp_ne (tgt := 94) hx hb dX10_stamp_80 (by decide) (fun c_10 => ?_) (fun c_10 => ?_)
      · replace hF := ite_f hF c_10
        refine lv_iconst (v := (0 : Int32)) hx hb dX10_stamp_94 (by decide) ?_
        refine lv_iadd hx hb dX10_stamp_95 ?_
        refine lv_topi (fun v12_11 e_v12_11 => ?_)
        replace hF := bnd_d hF e_v12_11
        refine lv_istore (lv' := [(12, .int v12_11), (0, .long v_0), (2, .long v_2), (6, .long v_6), (8, .long v_8), (10, .int v_10), (11, .int v_11)]) hx hb dX10_stamp_96 hl (by decide) rfl (fun ls hl => ?_)
        refine lv_iload hx hb dX10_stamp_98 (lv_at hl 5 rfl) ?_
        refine lv_iload hx hb dX10_stamp_100 (lv_at hl 6 rfl) ?_
        refine lv_icmp_ne (tgt := 125) hx hb dX10_stamp_102 (by decide) (fun c_12 => ?_) (fun c_12 => ?_)
        · replace hF := ite_f hF c_12
          obtain ⟨v11_13, e_v11_13⟩ : ∃ z : Int32, z = v_11 + (1 : Int32) := ⟨_, rfl⟩
          replace hF := bnd_d hF e_v11_13
          refine lv_iinc (v := v11_13) (lv' := [(11, .int v11_13), (12, .int v12_11), (0, .long v_0), (2, .long v_2), (6, .long v_6), (8, .long v_8), (10, .int v_10)]) hx hb dX10_stamp_125 hl (k := 6) rfl (by rw [e_v11_13]; rfl) (by decide) rfl (fun ls hl => ?_)
          refine lv_goto (tgt := 64) hx hb dX10_stamp_128 (by decide) ?_
          exact ih v_0 v_2 v_6 v_8 v_10 v11_13 y hF H locs ls hP hD hS (lv_sub hl [2, 3, 4, 5, 6, 0] rfl)
        · replace hF := ite_t hF c_12
          refine lv_lload hx hb dX10_stamp_105 (lv_at hl 4 rfl) ?_
          refine lv_iload hx hb dX10_stamp_107 (lv_at hl 0 rfl) ?_
          refine lv_i2l hx hb dX10_stamp_109 rfl ?_
          refine W.lcmp hx hb dX10_stamp_110 ?_
          refine lv_if_lt (tgt := 125) hx hb dX10_stamp_111 (by decide) (fun c_14 => ?_) (fun c_14 => ?_)
          · replace hF := ite_t hF ((lg_cmp_lt _ _).mp c_14)
            obtain ⟨v11_15, e_v11_15⟩ : ∃ z : Int32, z = v_11 + (1 : Int32) := ⟨_, rfl⟩
            replace hF := bnd_d hF e_v11_15
            refine lv_iinc (v := v11_15) (lv' := [(11, .int v11_15), (12, .int v12_11), (0, .long v_0), (2, .long v_2), (6, .long v_6), (8, .long v_8), (10, .int v_10)]) hx hb dX10_stamp_125 hl (k := 6) rfl (by rw [e_v11_15]; rfl) (by decide) rfl (fun ls hl => ?_)
            refine lv_goto (tgt := 64) hx hb dX10_stamp_128 (by decide) ?_
            exact ih v_0 v_2 v_6 v_8 v_10 v11_15 y hF H locs ls hP hD hS (lv_sub hl [2, 3, 4, 5, 6, 0] rfl)
          · replace hF := ite_f hF (fun h => c_14 ((lg_cmp_lt _ _).mpr h))
            refine lv_lload hx hb dX10_stamp_114 (lv_at hl 4 rfl) ?_
            refine lv_iload hx hb dX10_stamp_116 (lv_at hl 0 rfl) ?_
            refine lv_i2l hx hb dX10_stamp_118 rfl ?_
            refine lv_lsub hx hb dX10_stamp_119 ?_
            refine lv_topl (fun v8_16 e_v8_16 => ?_)
            replace hF := bnd_d hF e_v8_16
            refine lv_lstore (lv' := [(8, .long v8_16), (12, .int v12_11), (0, .long v_0), (2, .long v_2), (6, .long v_6), (10, .int v_10), (11, .int v_11)]) hx hb dX10_stamp_120 hl (by decide) rfl (fun ls hl => ?_)
            obtain ⟨v10_17, e_v10_17⟩ : ∃ z : Int32, z = v_10 + (1 : Int32) := ⟨_, rfl⟩
            replace hF := bnd_d hF e_v10_17
            refine lv_iinc (v := v10_17) (lv' := [(10, .int v10_17), (8, .long v8_16), (12, .int v12_11), (0, .long v_0), (2, .long v_2), (6, .long v_6), (11, .int v_11)]) hx hb dX10_stamp_122 hl (k := 5) rfl (by rw [e_v10_17]; rfl) (by decide) rfl (fun ls hl => ?_)
            obtain ⟨v11_18, e_v11_18⟩ : ∃ z : Int32, z = v_11 + (1 : Int32) := ⟨_, rfl⟩
            replace hF := bnd_d hF e_v11_18
            refine lv_iinc (v := v11_18) (lv' := [(11, .int v11_18), (10, .int v10_17), (8, .long v8_16), (12, .int v12_11), (0, .long v_0), (2, .long v_2), (6, .long v_6)]) hx hb dX10_stamp_125 hl (k := 6) rfl (by rw [e_v11_18]; rfl) (by decide) rfl (fun ls hl => ?_)
            refine lv_goto (tgt := 64) hx hb dX10_stamp_128 (by decide) ?_
            exact ih v_0 v_2 v_6 v8_16 v10_17 v11_18 y hF H locs ls hP hD hS (lv_sub hl [4, 5, 6, 2, 1, 0] rfl)
      · replace hF := ite_t hF c_10
        refine lv_lload hx hb dX10_stamp_83 (lv_at hl 2 rfl) ?_
        refine lv_lconst (v := (0 : Int64)) hx hb dX10_stamp_85 (by decide) ?_
        refine W.lcmp hx hb dX10_stamp_86 ?_
        refine lv_if_ne (tgt := 94) hx hb dX10_stamp_87 (by decide) (fun c_19 => ?_) (fun c_19 => ?_)
        · replace hF := ite_f hF (fun h => c_19 ((lg_cmp_eq _ _).mpr h))
          refine lv_iconst (v := (0 : Int32)) hx hb dX10_stamp_94 (by decide) ?_
          refine lv_iadd hx hb dX10_stamp_95 ?_
          refine lv_topi (fun v12_20 e_v12_20 => ?_)
          replace hF := bnd_d hF e_v12_20
          refine lv_istore (lv' := [(12, .int v12_20), (0, .long v_0), (2, .long v_2), (6, .long v_6), (8, .long v_8), (10, .int v_10), (11, .int v_11)]) hx hb dX10_stamp_96 hl (by decide) rfl (fun ls hl => ?_)
          refine lv_iload hx hb dX10_stamp_98 (lv_at hl 5 rfl) ?_
          refine lv_iload hx hb dX10_stamp_100 (lv_at hl 6 rfl) ?_
          refine lv_icmp_ne (tgt := 125) hx hb dX10_stamp_102 (by decide) (fun c_21 => ?_) (fun c_21 => ?_)
          · replace hF := ite_f hF c_21
            obtain ⟨v11_22, e_v11_22⟩ : ∃ z : Int32, z = v_11 + (1 : Int32) := ⟨_, rfl⟩
            replace hF := bnd_d hF e_v11_22
            refine lv_iinc (v := v11_22) (lv' := [(11, .int v11_22), (12, .int v12_20), (0, .long v_0), (2, .long v_2), (6, .long v_6), (8, .long v_8), (10, .int v_10)]) hx hb dX10_stamp_125 hl (k := 6) rfl (by rw [e_v11_22]; rfl) (by decide) rfl (fun ls hl => ?_)
            refine lv_goto (tgt := 64) hx hb dX10_stamp_128 (by decide) ?_
            exact ih v_0 v_2 v_6 v_8 v_10 v11_22 y hF H locs ls hP hD hS (lv_sub hl [2, 3, 4, 5, 6, 0] rfl)
          · replace hF := ite_t hF c_21
            refine lv_lload hx hb dX10_stamp_105 (lv_at hl 4 rfl) ?_
            refine lv_iload hx hb dX10_stamp_107 (lv_at hl 0 rfl) ?_
            refine lv_i2l hx hb dX10_stamp_109 rfl ?_
            refine W.lcmp hx hb dX10_stamp_110 ?_
            refine lv_if_lt (tgt := 125) hx hb dX10_stamp_111 (by decide) (fun c_23 => ?_) (fun c_23 => ?_)
            · replace hF := ite_t hF ((lg_cmp_lt _ _).mp c_23)
              obtain ⟨v11_24, e_v11_24⟩ : ∃ z : Int32, z = v_11 + (1 : Int32) := ⟨_, rfl⟩
              replace hF := bnd_d hF e_v11_24
              refine lv_iinc (v := v11_24) (lv' := [(11, .int v11_24), (12, .int v12_20), (0, .long v_0), (2, .long v_2), (6, .long v_6), (8, .long v_8), (10, .int v_10)]) hx hb dX10_stamp_125 hl (k := 6) rfl (by rw [e_v11_24]; rfl) (by decide) rfl (fun ls hl => ?_)
              refine lv_goto (tgt := 64) hx hb dX10_stamp_128 (by decide) ?_
              exact ih v_0 v_2 v_6 v_8 v_10 v11_24 y hF H locs ls hP hD hS (lv_sub hl [2, 3, 4, 5, 6, 0] rfl)
            · replace hF := ite_f hF (fun h => c_23 ((lg_cmp_lt _ _).mpr h))
              refine lv_lload hx hb dX10_stamp_114 (lv_at hl 4 rfl) ?_
              refine lv_iload hx hb dX10_stamp_116 (lv_at hl 0 rfl) ?_
              refine lv_i2l hx hb dX10_stamp_118 rfl ?_
              refine lv_lsub hx hb dX10_stamp_119 ?_
              refine lv_topl (fun v8_25 e_v8_25 => ?_)
              replace hF := bnd_d hF e_v8_25
              refine lv_lstore (lv' := [(8, .long v8_25), (12, .int v12_20), (0, .long v_0), (2, .long v_2), (6, .long v_6), (10, .int v_10), (11, .int v_11)]) hx hb dX10_stamp_120 hl (by decide) rfl (fun ls hl => ?_)
              obtain ⟨v10_26, e_v10_26⟩ : ∃ z : Int32, z = v_10 + (1 : Int32) := ⟨_, rfl⟩
              replace hF := bnd_d hF e_v10_26
              refine lv_iinc (v := v10_26) (lv' := [(10, .int v10_26), (8, .long v8_25), (12, .int v12_20), (0, .long v_0), (2, .long v_2), (6, .long v_6), (11, .int v_11)]) hx hb dX10_stamp_122 hl (k := 5) rfl (by rw [e_v10_26]; rfl) (by decide) rfl (fun ls hl => ?_)
              obtain ⟨v11_27, e_v11_27⟩ : ∃ z : Int32, z = v_11 + (1 : Int32) := ⟨_, rfl⟩
              replace hF := bnd_d hF e_v11_27
              refine lv_iinc (v := v11_27) (lv' := [(11, .int v11_27), (10, .int v10_26), (8, .long v8_25), (12, .int v12_20), (0, .long v_0), (2, .long v_2), (6, .long v_6)]) hx hb dX10_stamp_125 hl (k := 6) rfl (by rw [e_v11_27]; rfl) (by decide) rfl (fun ls hl => ?_)
              refine lv_goto (tgt := 64) hx hb dX10_stamp_128 (by decide) ?_
              exact ih v_0 v_2 v_6 v8_25 v10_26 v11_27 y hF H locs ls hP hD hS (lv_sub hl [4, 5, 6, 2, 1, 0] rfl)
        · replace hF := ite_t hF ((lg_cmp_eq _ _).mp c_19)
          refine lv_iconst (v := (1 : Int32)) hx hb dX10_stamp_90 (by decide) ?_
          refine lv_goto (tgt := 95) hx hb dX10_stamp_91 (by decide) ?_
          refine lv_iadd hx hb dX10_stamp_95 ?_
          refine lv_topi (fun v12_28 e_v12_28 => ?_)
          replace hF := bnd_d hF e_v12_28
          refine lv_istore (lv' := [(12, .int v12_28), (0, .long v_0), (2, .long v_2), (6, .long v_6), (8, .long v_8), (10, .int v_10), (11, .int v_11)]) hx hb dX10_stamp_96 hl (by decide) rfl (fun ls hl => ?_)
          refine lv_iload hx hb dX10_stamp_98 (lv_at hl 5 rfl) ?_
          refine lv_iload hx hb dX10_stamp_100 (lv_at hl 6 rfl) ?_
          refine lv_icmp_ne (tgt := 125) hx hb dX10_stamp_102 (by decide) (fun c_29 => ?_) (fun c_29 => ?_)
          · replace hF := ite_f hF c_29
            obtain ⟨v11_30, e_v11_30⟩ : ∃ z : Int32, z = v_11 + (1 : Int32) := ⟨_, rfl⟩
            replace hF := bnd_d hF e_v11_30
            refine lv_iinc (v := v11_30) (lv' := [(11, .int v11_30), (12, .int v12_28), (0, .long v_0), (2, .long v_2), (6, .long v_6), (8, .long v_8), (10, .int v_10)]) hx hb dX10_stamp_125 hl (k := 6) rfl (by rw [e_v11_30]; rfl) (by decide) rfl (fun ls hl => ?_)
            refine lv_goto (tgt := 64) hx hb dX10_stamp_128 (by decide) ?_
            exact ih v_0 v_2 v_6 v_8 v_10 v11_30 y hF H locs ls hP hD hS (lv_sub hl [2, 3, 4, 5, 6, 0] rfl)
          · replace hF := ite_t hF c_29
            refine lv_lload hx hb dX10_stamp_105 (lv_at hl 4 rfl) ?_
            refine lv_iload hx hb dX10_stamp_107 (lv_at hl 0 rfl) ?_
            refine lv_i2l hx hb dX10_stamp_109 rfl ?_
            refine W.lcmp hx hb dX10_stamp_110 ?_
            refine lv_if_lt (tgt := 125) hx hb dX10_stamp_111 (by decide) (fun c_31 => ?_) (fun c_31 => ?_)
            · replace hF := ite_t hF ((lg_cmp_lt _ _).mp c_31)
              obtain ⟨v11_32, e_v11_32⟩ : ∃ z : Int32, z = v_11 + (1 : Int32) := ⟨_, rfl⟩
              replace hF := bnd_d hF e_v11_32
              refine lv_iinc (v := v11_32) (lv' := [(11, .int v11_32), (12, .int v12_28), (0, .long v_0), (2, .long v_2), (6, .long v_6), (8, .long v_8), (10, .int v_10)]) hx hb dX10_stamp_125 hl (k := 6) rfl (by rw [e_v11_32]; rfl) (by decide) rfl (fun ls hl => ?_)
              refine lv_goto (tgt := 64) hx hb dX10_stamp_128 (by decide) ?_
              exact ih v_0 v_2 v_6 v_8 v_10 v11_32 y hF H locs ls hP hD hS (lv_sub hl [2, 3, 4, 5, 6, 0] rfl)
            · replace hF := ite_f hF (fun h => c_31 ((lg_cmp_lt _ _).mpr h))
              refine lv_lload hx hb dX10_stamp_114 (lv_at hl 4 rfl) ?_
              refine lv_iload hx hb dX10_stamp_116 (lv_at hl 0 rfl) ?_
              refine lv_i2l hx hb dX10_stamp_118 rfl ?_
              refine lv_lsub hx hb dX10_stamp_119 ?_
              refine lv_topl (fun v8_33 e_v8_33 => ?_)
              replace hF := bnd_d hF e_v8_33
              refine lv_lstore (lv' := [(8, .long v8_33), (12, .int v12_28), (0, .long v_0), (2, .long v_2), (6, .long v_6), (10, .int v_10), (11, .int v_11)]) hx hb dX10_stamp_120 hl (by decide) rfl (fun ls hl => ?_)
              obtain ⟨v10_34, e_v10_34⟩ : ∃ z : Int32, z = v_10 + (1 : Int32) := ⟨_, rfl⟩
              replace hF := bnd_d hF e_v10_34
              refine lv_iinc (v := v10_34) (lv' := [(10, .int v10_34), (8, .long v8_33), (12, .int v12_28), (0, .long v_0), (2, .long v_2), (6, .long v_6), (11, .int v_11)]) hx hb dX10_stamp_122 hl (k := 5) rfl (by rw [e_v10_34]; rfl) (by decide) rfl (fun ls hl => ?_)
              obtain ⟨v11_35, e_v11_35⟩ : ∃ z : Int32, z = v_11 + (1 : Int32) := ⟨_, rfl⟩
              replace hF := bnd_d hF e_v11_35
              refine lv_iinc (v := v11_35) (lv' := [(11, .int v11_35), (10, .int v10_34), (8, .long v8_33), (12, .int v12_28), (0, .long v_0), (2, .long v_2), (6, .long v_6)]) hx hb dX10_stamp_125 hl (k := 6) rfl (by rw [e_v11_35]; rfl) (by decide) rfl (fun ls hl => ?_)
              refine lv_goto (tgt := 64) hx hb dX10_stamp_128 (by decide) ?_
              exact ih v_0 v_2 v_6 v8_33 v10_34 v11_35 y hF H locs ls hP hD hS (lv_sub hl [4, 5, 6, 2, 1, 0] rfl)
set_option maxHeartbeats 4000000 in
set_option maxRecDepth 100000 in
theorem w_ti_stamp_34 {l : Launch} {p : Program} {e : Env} {s : State} {m : MethodId} {args : Array Value} {below : List Frame} {meth : Method} {c : Code} {A : Nat → Prop} {D : va_G} {q : Nat → ClassId} {t : Nat} (C0 : cy p s m args meth c cX10_stamp (some .long) 15 RX10 D q t A)    (v_0 : Int64) (v_2 : Int64) (v_4 : Int64) (s_0 : Int64) (y : Int64) (hF : j_ti_stamp_34 v_0 v_2 v_4 s_0 = some y) : ∀ (H : Heap) (locs : List Loc) (ls : Array Slot), va_P D vwCl [] H → va_D A [] → va_S A s.heap H locs → lv_has ls 15 [(0, .long v_0), (2, .long v_2), (4, .long v_4)] → W p l e ({ frames := 0, cells := 0, slots := 0, locals := 0 }) s m args below meth c H locs 0 0 (MQ below (qL D q y [] A) args s 0 0 A) (F0 m 34 ls [.long s_0]) := by
  obtain ⟨⟨hx, hb, hr, hml, hown, hts, hlocks, hK, hA⟩, hG⟩ := id C0
  intro H locs ls hP hD hS hl
  unfold j_ti_stamp_34 at hF
  refine lv_lstore (lv' := [(6, .long s_0), (0, .long v_0), (2, .long v_2), (4, .long v_4)]) hx hb dX10_stamp_34 hl (by decide) rfl (fun ls hl => ?_)
  refine lv_lload hx hb dX10_stamp_36 (lv_at hl 0 rfl) ?_
  refine lv_lconst (v := (0 : Int64)) hx hb dX10_stamp_38 (by decide) ?_
  refine W.lcmp hx hb dX10_stamp_39 ?_
  refine lv_if_ne (tgt := 48) hx hb dX10_stamp_40 (by decide) (fun c_4 => ?_) (fun c_4 => ?_)
  · replace hF := ite_f hF (fun h => c_4 ((lg_cmp_eq _ _).mpr h))
    refine lv_lload hx hb dX10_stamp_48 (lv_at hl 3 rfl) ?_
    refine lv_lconst (v := (1 : Int64)) hx hb dX10_stamp_50 (by decide) ?_
    refine lv_lsub hx hb dX10_stamp_51 ?_
    refine lv_ldc2 (v := (365 : Int64)) hx hb hown (hts _ kw_703) dX10_stamp_52 ?_
    refine lv_lrem hx hb dX10_stamp_55 (by decide) ?_
    refine lv_topl (fun v8_5 e_v8_5 => ?_)
    replace hF := bnd_d hF e_v8_5
    refine lv_lstore (lv' := [(8, .long v8_5), (6, .long s_0), (0, .long v_0), (2, .long v_2), (4, .long v_4)]) hx hb dX10_stamp_56 hl (by decide) rfl (fun ls hl => ?_)
    refine lv_iconst (v := (0 : Int32)) hx hb dX10_stamp_58 (by decide) ?_
    refine lv_istore (lv' := [(10, .int (0 : Int32)), (8, .long v8_5), (6, .long s_0), (0, .long v_0), (2, .long v_2), (4, .long v_4)]) hx hb dX10_stamp_59 hl (by decide) rfl (fun ls hl => ?_)
    refine lv_iconst (v := (0 : Int32)) hx hb dX10_stamp_61 (by decide) ?_
    refine lv_istore (lv' := [(11, .int (0 : Int32)), (10, .int (0 : Int32)), (8, .long v8_5), (6, .long s_0), (0, .long v_0), (2, .long v_2), (4, .long v_4)]) hx hb dX10_stamp_62 hl (by decide) rfl (fun ls hl => ?_)
    exact w_ti_stamp_64 C0  FU v_0 v_2 s_0 v8_5 (0 : Int32) (0 : Int32) y hF H locs ls hP hD hS (lv_sub hl [4, 5, 3, 2, 1, 0] rfl)
  · replace hF := ite_t hF ((lg_cmp_eq _ _).mp c_4)
    refine lv_lload hx hb dX10_stamp_43 (lv_at hl 3 rfl) ?_
    refine lv_goto (tgt := 56) hx hb dX10_stamp_45 (by decide) ?_
    refine lv_lstore (lv' := [(8, .long v_4), (6, .long s_0), (0, .long v_0), (2, .long v_2), (4, .long v_4)]) hx hb dX10_stamp_56 hl (by decide) rfl (fun ls hl => ?_)
    refine lv_iconst (v := (0 : Int32)) hx hb dX10_stamp_58 (by decide) ?_
    refine lv_istore (lv' := [(10, .int (0 : Int32)), (8, .long v_4), (6, .long s_0), (0, .long v_0), (2, .long v_2), (4, .long v_4)]) hx hb dX10_stamp_59 hl (by decide) rfl (fun ls hl => ?_)
    refine lv_iconst (v := (0 : Int32)) hx hb dX10_stamp_61 (by decide) ?_
    refine lv_istore (lv' := [(11, .int (0 : Int32)), (10, .int (0 : Int32)), (8, .long v_4), (6, .long s_0), (0, .long v_0), (2, .long v_2), (4, .long v_4)]) hx hb dX10_stamp_62 hl (by decide) rfl (fun ls hl => ?_)
    exact w_ti_stamp_64 C0  FU v_0 v_2 s_0 v_4 (0 : Int32) (0 : Int32) y hF H locs ls hP hD hS (lv_sub hl [4, 5, 3, 2, 1, 0] rfl)
set_option maxHeartbeats 4000000 in
set_option maxRecDepth 100000 in
theorem c_ti_stamp (l : Launch) (D : va_G) (q : Nat → ClassId) (t : Nat)  (p_0 : Int64) (y : Int64) (hF : f_ti_stamp p_0 = some y)  : cu l yX10_stamp (vs yX10_stamp cX10_stamp 15 (some .long)) ({ frames := 0, cells := 0, slots := 0, locals := 0 }) D q t [.long p_0] [] (qL D q y []) := by
  refine cu_of (cc := cX10_stamp) (nL := 15) (ret := (some .long)) (by decide) (Nat.le_of_ble_eq_true rfl) (fun {p e s m args below meth c A} C0 H locs ls hP hD hS hl => ?_)
  have C0 : cy p s m args meth c cX10_stamp (some .long) 15 RX10 D q t A := C0
  obtain ⟨⟨hx, hb, hr, hml, hown, hts, hlocks, hK, hA⟩, hG⟩ := id C0
  have hl : lv_has ls 15 [(0, .long p_0)] := hl
  unfold f_ti_stamp at hF
  refine lv_lload_n hx hb dX10_stamp_0 rfl (lv_at hl 0 rfl) ?_
  refine lv_ldc2 (v := (86400 : Int64)) hx hb hown (hts _ kw_700) dX10_stamp_1 ?_
  refine lv_ldiv hx hb dX10_stamp_4 (by decide) ?_
  refine lv_topl (fun v2_1 e_v2_1 => ?_)
  replace hF := bnd_d hF e_v2_1
  refine lv_lstore_n (lv' := [(2, .long v2_1), (0, .long p_0)]) hx hb dX10_stamp_5 rfl hl (by decide) rfl (fun ls hl => ?_)
  refine lv_lload_n hx hb dX10_stamp_6 rfl (lv_at hl 0 rfl) ?_
  refine lv_ldc2 (v := (1461 : Int64)) hx hb hown (hts _ kw_701) dX10_stamp_7 ?_
  refine lv_lrem hx hb dX10_stamp_10 (by decide) ?_
  refine lv_topl (fun v4_2 e_v4_2 => ?_)
  replace hF := bnd_d hF e_v4_2
  refine lv_lstore (lv' := [(4, .long v4_2), (2, .long v2_1), (0, .long p_0)]) hx hb dX10_stamp_11 hl (by decide) rfl (fun ls hl => ?_)
  refine lv_lload hx hb dX10_stamp_13 (lv_at hl 0 rfl) ?_
  refine lv_ldc2 (v := (366 : Int64)) hx hb hown (hts _ kw_702) dX10_stamp_15 ?_
  refine W.lcmp hx hb dX10_stamp_18 ?_
  refine lv_if_ge (tgt := 26) hx hb dX10_stamp_19 (by decide) (fun c_3 => ?_) (fun c_3 => ?_)
  · replace hF := ite_t hF ((lg_cmp_ge _ _).mp c_3)
    refine lv_lload hx hb dX10_stamp_26 (lv_at hl 0 rfl) ?_
    refine lv_lconst (v := (1 : Int64)) hx hb dX10_stamp_28 (by decide) ?_
    refine lv_lsub hx hb dX10_stamp_29 ?_
    refine lv_ldc2 (v := (365 : Int64)) hx hb hown (hts _ kw_703) dX10_stamp_30 ?_
    refine lv_ldiv hx hb dX10_stamp_33 (by decide) ?_
    exact w_ti_stamp_34 C0  p_0 v2_1 v4_2 ((v4_2 - (1 : Int64)) / (365 : Int64)) y hF H locs ls hP hD hS (lv_sub hl [2, 1, 0] rfl)
  · replace hF := ite_f hF (fun h => c_3 ((lg_cmp_ge _ _).mpr h))
    refine lv_lconst (v := (0 : Int64)) hx hb dX10_stamp_22 (by decide) ?_
    refine lv_goto (tgt := 34) hx hb dX10_stamp_23 (by decide) ?_
    exact w_ti_stamp_34 C0  p_0 v2_1 v4_2 (0 : Int64) y hF H locs ls hP hD hS (lv_sub hl [2, 1, 0] rfl)
set_option maxHeartbeats 4000000 in
set_option maxRecDepth 100000 in
theorem w_by_addTime_16 {l : Launch} {p : Program} {e : Env} {s : State} {m : MethodId} {args : Array Value} {below : List Frame} {meth : Method} {c : Code} {A : Nat → Prop} {D : va_G} {q : Nat → ClassId} {t : Nat} (C0 : cy p s m args meth c cX3_addTime none 7 RX3 D q t A) (a_o : Nat) (a_o_data : Nat) (n_o_data : Nat)  : ∀ (n : Nat) (x_o_length : Int32) (r_o_data : (Nat → Int32)) (v_3 : Int64) (v_5 : Int32) (v_6 : Int32) (y : (Nat → Int32) × Int32) (hF : j_by_addTime_16 n r_o_data x_o_length n_o_data v_3 v_5 v_6 = some y), ∀ (H : Heap) (locs : List Loc) (ls : Array Slot), va_P D vwCl [oX3 a_o a_o_data x_o_length, rB q a_o_data n_o_data r_o_data] H → va_D A [oX3 a_o a_o_data x_o_length, rB q a_o_data n_o_data r_o_data] → va_S A s.heap H locs → lv_has ls 7 [(0, .ref a_o), (3, .long v_3), (5, .int v_5), (6, .int v_6)] → W p l e ({ frames := 2, cells := 0, slots := 0, locals := 43 }) s m args below meth c H locs 0 0 (MQ below (qV D q [oX3 a_o a_o_data y.2, rB q a_o_data n_o_data y.1] A) args s 0 0 A) (F0 m 16 ls []) := by
  obtain ⟨⟨hx, hb, hr, hml, hown, hts, hlocks, hK, hA⟩, hG⟩ := id C0
  intro n
  induction n with
  | zero =>
    intro x_o_length r_o_data v_3 v_5 v_6 y hF
    exact absurd (show (none : Option ((Nat → Int32) × Int32)) = some y from hF) (fun h => by cases h)
  | succ n ih =>
    intro x_o_length r_o_data v_3 v_5 v_6 y hF H locs ls hP hD hS hl
    rw [j_by_addTime_16] at hF
    refine lv_iload hx hb dX3_addTime_16 (lv_at hl 3 rfl) ?_
    refine lv_bipush (v := (15 : Int32)) hx hb dX3_addTime_18 (by decide) ?_
    refine lv_icmp_ge (tgt := 39) hx hb dX3_addTime_20 (by decide) (fun c_4 => ?_) (fun c_4 => ?_)
    · replace hF := ite_t hF c_4
      refine lv_aload_n hx hb dX3_addTime_39 rfl (lv_at hl 0 rfl) ?_
      refine lv_iload hx hb dX3_addTime_40 (lv_at hl 2 rfl) ?_
      obtain ⟨y_5, hy_5, hF⟩ := cal_d hF
      refine cf_v C0.1 hP hD hS [0, 1] [] [0, 1] (wr := []) (w' := [oX3 a_o a_o_data y_5.2, rB q a_o_data n_o_data y_5.1]) rfl rfl rfl (by decide) rfl rfl (sn_V (As := [.int v_5]) (rest := []) (ci := 3) (q0 := 0) C0 (c_by_close l D q t a_o x_o_length a_o_data n_o_data r_o_data v_5 y_5 hy_5) (cwV 1 hts (g_V kw_685 kw_686 kw_687 kw_73 kw_688) rfl rfl rfl hd_X3_close ⟨Nat.le_of_ble_eq_true rfl, Nat.le_of_ble_eq_true rfl⟩) hP hD hS [0, 1] rfl rfl rfl rfl rfl rfl hl (Nat.le_of_ble_eq_true rfl) dX3_addTime_42) (fun H locs hP hD hS => ?_)
      have hy9 := (Option.some.inj hF).symm
      subst hy9
      exact rt_v C0.1 hP hD hS dX3_addTime_45
    · replace hF := ite_f hF c_4
      refine lv_aload_n hx hb dX3_addTime_23 rfl (lv_at hl 0 rfl) ?_
      refine lv_lload_n hx hb dX3_addTime_24 rfl (lv_at hl 1 rfl) ?_
      refine lv_iload hx hb dX3_addTime_25 (lv_at hl 3 rfl) ?_
      obtain ⟨y_6, hy_6, hF⟩ := cal_d hF
      refine cf_i C0.1 hP hD hS [] [0, 1] [0, 1] (wr := [oX3 a_o a_o_data x_o_length, rB q a_o_data n_o_data r_o_data]) (w' := [oX3 a_o a_o_data x_o_length, rB q a_o_data n_o_data r_o_data]) rfl rfl rfl (by decide) rfl rfl (sn_S (As := [.long v_3, .int v_6]) (rest := [.ref a_o]) C0 (c_ti_character l D q t  v_3 v_6 y_6 hy_6) (va_cwS 2 hts (g_S kw_713 kw_714 kw_85 kw_715) rfl rfl rfl hd_X10_character ⟨Nat.le_of_ble_eq_true rfl, Nat.le_of_ble_eq_true rfl⟩) hP hD hS [] rfl rfl rfl hl (Nat.le_of_ble_eq_true rfl) dX3_addTime_27) (fun H locs hP hD hS => ?_)
      obtain ⟨y_7, hy_7, hF⟩ := cal_d hF
      refine cf_v C0.1 hP hD hS [0, 1] [] [0, 1] (wr := []) (w' := [oX3 a_o a_o_data y_7.2, rB q a_o_data n_o_data y_7.1]) rfl rfl rfl (by decide) rfl rfl (sn_V (As := [.int y_6]) (rest := []) (ci := 3) (q0 := 0) C0 (c_by_add l D q t a_o x_o_length a_o_data n_o_data r_o_data y_6 y_7 hy_7) (cwV 1 hts (g_V kw_526 kw_527 kw_528 kw_73 kw_529) rfl rfl rfl hd_X3_add ⟨Nat.le_of_ble_eq_true rfl, Nat.le_of_ble_eq_true rfl⟩) hP hD hS [0, 1] rfl rfl rfl rfl rfl rfl hl (Nat.le_of_ble_eq_true rfl) dX3_addTime_30) (fun H locs hP hD hS => ?_)
      obtain ⟨v6_8, e_v6_8⟩ : ∃ z : Int32, z = v_6 + (1 : Int32) := ⟨_, rfl⟩
      replace hF := bnd_d hF e_v6_8
      refine lv_iinc (v := v6_8) (lv' := [(6, .int v6_8), (0, .ref a_o), (3, .long v_3), (5, .int v_5)]) hx hb dX3_addTime_33 hl (k := 3) rfl (by rw [e_v6_8]; rfl) (by decide) rfl (fun ls hl => ?_)
      refine lv_goto (tgt := 16) hx hb dX3_addTime_36 (by decide) ?_
      exact ih y_7.2 y_7.1 v_3 v_5 v6_8 y hF H locs ls hP hD hS (lv_sub hl [1, 2, 3, 0] rfl)
set_option maxHeartbeats 4000000 in
set_option maxRecDepth 100000 in
theorem c_by_addTime (l : Launch) (D : va_G) (q : Nat → ClassId) (t : Nat) (a_o : Nat) (x_o_length : Int32) (a_o_data : Nat) (n_o_data : Nat) (r_o_data : (Nat → Int32)) (p_0 : Int64) (y : (Nat → Int32) × Int32) (hF : f_by_addTime r_o_data x_o_length n_o_data p_0 = some y)  : cu l yX3_addTime (vs yX3_addTime cX3_addTime 7 none) ({ frames := 2, cells := 0, slots := 0, locals := 43 }) D q t [.ref a_o, .long p_0] [oX3 a_o a_o_data x_o_length, rB q a_o_data n_o_data r_o_data] (qV D q [oX3 a_o a_o_data y.2, rB q a_o_data n_o_data y.1]) := by
  refine cu_of (cc := cX3_addTime) (nL := 7) (ret := none) (by decide) (Nat.le_of_ble_eq_true rfl) (fun {p e s m args below meth c A} C0 H locs ls hP hD hS hl => ?_)
  have C0 : cy p s m args meth c cX3_addTime none 7 RX3 D q t A := C0
  obtain ⟨⟨hx, hb, hr, hml, hown, hts, hlocks, hK, hA⟩, hG⟩ := id C0
  have hl : lv_has ls 7 [(0, .ref a_o), (1, .long p_0)] := hl
  unfold f_by_addTime at hF
  refine lv_lload_n hx hb dX3_addTime_0 rfl (lv_at hl 1 rfl) ?_
  obtain ⟨y_1, hy_1, hF⟩ := cal_d hF
  refine cf_l C0.1 hP hD hS [] [0, 1] [0, 1] (wr := [oX3 a_o a_o_data x_o_length, rB q a_o_data n_o_data r_o_data]) (w' := [oX3 a_o a_o_data x_o_length, rB q a_o_data n_o_data r_o_data]) rfl rfl rfl (by decide) rfl rfl (sn_S (As := [.long p_0]) (rest := []) C0 (c_ti_stamp l D q t  p_0 y_1 hy_1) (va_cwS 1 hts (g_S kw_697 kw_698 kw_85 kw_699) rfl rfl rfl hd_X10_stamp ⟨Nat.le_of_ble_eq_true rfl, Nat.le_of_ble_eq_true rfl⟩) hP hD hS [] rfl rfl rfl hl (Nat.le_of_ble_eq_true rfl) dX3_addTime_1) (fun H locs hP hD hS => ?_)
  refine lv_lstore_n (lv' := [(3, .long y_1), (0, .ref a_o), (1, .long p_0)]) hx hb dX3_addTime_4 rfl hl (by decide) rfl (fun ls hl => ?_)
  refine lv_aload_n hx hb dX3_addTime_5 rfl (lv_at hl 1 rfl) ?_
  refine lv_bipush (v := (24 : Int32)) hx hb dX3_addTime_6 (by decide) ?_
  obtain ⟨y_2, hy_2, hF⟩ := cal_d hF
  refine cf_i C0.1 hP hD hS [0, 1] [] [0, 1] (wr := []) (w' := [oX3 a_o a_o_data y_2.2.2, rB q a_o_data n_o_data y_2.2.1]) rfl rfl rfl (by decide) rfl rfl (sn_V (As := [.int (24 : Int32)]) (rest := []) (ci := 3) (q0 := 0) C0 (c_by_open l D q t a_o x_o_length a_o_data n_o_data r_o_data (24 : Int32) y_2 hy_2) (cwV 1 hts (g_V kw_680 kw_673 kw_674 kw_73 kw_675) rfl rfl rfl hd_X3_open ⟨Nat.le_of_ble_eq_true rfl, Nat.le_of_ble_eq_true rfl⟩) hP hD hS [0, 1] rfl rfl rfl rfl rfl rfl hl (Nat.le_of_ble_eq_true rfl) dX3_addTime_8) (fun H locs hP hD hS => ?_)
  refine lv_topi (fun v5_3 e_v5_3 => ?_)
  replace hF := bnd_d hF e_v5_3
  refine lv_istore (lv' := [(5, .int v5_3), (3, .long y_1), (0, .ref a_o), (1, .long p_0)]) hx hb dX3_addTime_11 hl (by decide) rfl (fun ls hl => ?_)
  refine lv_iconst (v := (0 : Int32)) hx hb dX3_addTime_13 (by decide) ?_
  refine lv_istore (lv' := [(6, .int (0 : Int32)), (5, .int v5_3), (3, .long y_1), (0, .ref a_o), (1, .long p_0)]) hx hb dX3_addTime_14 hl (by decide) rfl (fun ls hl => ?_)
  exact w_by_addTime_16 C0 a_o a_o_data n_o_data FU y_2.2.2 y_2.2.1 y_1 v5_3 (0 : Int32) y hF H locs ls hP hD hS (lv_sub hl [3, 2, 1, 0] rfl)
