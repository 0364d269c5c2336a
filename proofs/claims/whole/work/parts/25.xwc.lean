set_option maxHeartbeats 4000000 in
set_option maxRecDepth 100000 in
theorem c_by_addSignature (l : Launch) (D : va_G) (q : Nat → ClassId) (t : Nat) (a_o : Nat) (x_o_length : Int32) (a_o_data : Nat) (n_o_data : Nat) (r_o_data : (Nat → Int32)) (p_0 : Int64) (y : (Nat → Int32) × Int32) (hF : f_by_addSignature r_o_data x_o_length n_o_data p_0 = some y)  : cu l yX3_addSignature (vs yX3_addSignature cX3_addSignature 4 none) ({ frames := 2, cells := 0, slots := 0, locals := 45 }) D q t [.ref a_o, .long p_0] [oX3 a_o a_o_data x_o_length, rB q a_o_data n_o_data r_o_data] (qV D q [oX3 a_o a_o_data y.2, rB q a_o_data n_o_data y.1]) := by
  refine cu_of (cc := cX3_addSignature) (nL := 4) (ret := none) (by decide) (Nat.le_of_ble_eq_true rfl) (fun {p e s m args below meth c A} C0 H locs ls hP hD hS hl => ?_)
  have C0 : cy p s m args meth c cX3_addSignature none 4 RX3 D q t A := C0
  obtain ⟨⟨hx, hb, hr, hml, hown, hts, hlocks, hK, hA⟩, hG⟩ := id C0
  have hl : lv_has ls 4 [(0, .ref a_o), (1, .long p_0)] := hl
  unfold f_by_addSignature at hF
  refine lv_aload_n hx hb dX3_addSignature_0 rfl (lv_at hl 0 rfl) ?_
  refine lv_iconst (v := (3 : Int32)) hx hb dX3_addSignature_1 (by decide) ?_
  obtain ⟨y_1, hy_1, hF⟩ := cal_d hF
  refine cf_i C0.1 hP hD hS [0, 1] [] [0, 1] (wr := []) (w' := [oX3 a_o a_o_data y_1.2.2, rB q a_o_data n_o_data y_1.2.1]) rfl rfl rfl (by decide) rfl rfl (sn_V (As := [.int (3 : Int32)]) (rest := []) (ci := 3) (q0 := 0) C0 (c_by_open l D q t a_o x_o_length a_o_data n_o_data r_o_data (3 : Int32) y_1 hy_1) (cwV 1 hts (g_V kw_680 kw_673 kw_674 kw_73 kw_675) rfl rfl rfl hd_X3_open ⟨Nat.le_of_ble_eq_true rfl, Nat.le_of_ble_eq_true rfl⟩) hP hD hS [0, 1] rfl rfl rfl rfl rfl rfl hl (Nat.le_of_ble_eq_true rfl) dX3_addSignature_2) (fun H locs hP hD hS => ?_)
  refine lv_topi (fun v3_2 e_v3_2 => ?_)
  replace hF := bnd_d hF e_v3_2
  refine lv_istore_n (lv' := [(3, .int v3_2), (0, .ref a_o), (1, .long p_0)]) hx hb dX3_addSignature_5 rfl hl (by decide) rfl (fun ls hl => ?_)
  refine lv_aload_n hx hb dX3_addSignature_6 rfl (lv_at hl 1 rfl) ?_
  refine lv_iconst (v := (0 : Int32)) hx hb dX3_addSignature_7 (by decide) ?_
  obtain ⟨y_3, hy_3, hF⟩ := cal_d hF
  refine cf_v C0.1 hP hD hS [0, 1] [] [0, 1] (wr := []) (w' := [oX3 a_o a_o_data y_3.2, rB q a_o_data n_o_data y_3.1]) rfl rfl rfl (by decide) rfl rfl (sn_V (As := [.int (0 : Int32)]) (rest := []) (ci := 3) (q0 := 0) C0 (c_by_add l D q t a_o y_1.2.2 a_o_data n_o_data y_1.2.1 (0 : Int32) y_3 hy_3) (cwV 1 hts (g_V kw_526 kw_527 kw_528 kw_73 kw_529) rfl rfl rfl hd_X3_add ⟨Nat.le_of_ble_eq_true rfl, Nat.le_of_ble_eq_true rfl⟩) hP hD hS [0, 1] rfl rfl rfl rfl rfl rfl hl (Nat.le_of_ble_eq_true rfl) dX3_addSignature_8) (fun H locs hP hD hS => ?_)
  refine lv_aload_n hx hb dX3_addSignature_11 rfl (lv_at hl 1 rfl) ?_
  refine lv_lload_n hx hb dX3_addSignature_12 rfl (lv_at hl 2 rfl) ?_
  refine lv_bipush (v := (8 : Int32)) hx hb dX3_addSignature_13 (by decide) ?_
  obtain ⟨y_4, hy_4, hF⟩ := cal_d hF
  refine cf_v C0.1 hP hD hS [0, 1] [] [0, 1] (wr := []) (w' := [oX3 a_o a_o_data y_4.2, rB q a_o_data n_o_data y_4.1]) rfl rfl rfl (by decide) rfl rfl (sn_V (As := [.long p_0, .int (8 : Int32)]) (rest := []) (ci := 3) (q0 := 0) C0 (c_by_addHighestFirst l D q t a_o y_3.2 a_o_data n_o_data y_3.1 p_0 (8 : Int32) y_4 hy_4) (cwV 2 hts (g_V kw_681 kw_682 kw_683 kw_73 kw_684) rfl rfl rfl hd_X3_addHighestFirst ⟨Nat.le_of_ble_eq_true rfl, Nat.le_of_ble_eq_true rfl⟩) hP hD hS [0, 1] rfl rfl rfl rfl rfl rfl hl (Nat.le_of_ble_eq_true rfl) dX3_addSignature_15) (fun H locs hP hD hS => ?_)
  refine lv_aload_n hx hb dX3_addSignature_18 rfl (lv_at hl 1 rfl) ?_
  refine lv_iload_n hx hb dX3_addSignature_19 rfl (lv_at hl 0 rfl) ?_
  obtain ⟨y_5, hy_5, hF⟩ := cal_d hF
  refine cf_v C0.1 hP hD hS [0, 1] [] [0, 1] (wr := []) (w' := [oX3 a_o a_o_data y_5.2, rB q a_o_data n_o_data y_5.1]) rfl rfl rfl (by decide) rfl rfl (sn_V (As := [.int v3_2]) (rest := []) (ci := 3) (q0 := 0) C0 (c_by_close l D q t a_o y_4.2 a_o_data n_o_data y_4.1 v3_2 y_5 hy_5) (cwV 1 hts (g_V kw_685 kw_686 kw_687 kw_73 kw_688) rfl rfl rfl hd_X3_close ⟨Nat.le_of_ble_eq_true rfl, Nat.le_of_ble_eq_true rfl⟩) hP hD hS [0, 1] rfl rfl rfl rfl rfl rfl hl (Nat.le_of_ble_eq_true rfl) dX3_addSignature_20) (fun H locs hP hD hS => ?_)
  have hy9 := (Option.some.inj hF).symm
  subst hy9
  exact rt_v C0.1 hP hD hS dX3_addSignature_23
set_option maxHeartbeats 4000000 in
set_option maxRecDepth 100000 in
theorem c_by_addId (l : Launch) (D : va_G) (q : Nat → ClassId) (t : Nat) (a_o : Nat) (x_o_length : Int32) (a_o_data : Nat) (n_o_data : Nat) (r_o_data : (Nat → Int32)) (a_p0 : Nat) (x_p0_count : Int32) (a_p0_keyHashes : Nat) (r_p0_keyHashes : (Nat → Int64)) (a_p0_nameHashes : Nat) (r_p0_nameHashes : (Nat → Int64)) (a_p0_serials : Nat) (r_p0_serials : (Nat → Int32)) (p_1 : Int32) (y : (Nat → Int32) × Int32) (hF : f_by_addId r_o_data x_o_length x_p0_count r_p0_keyHashes r_p0_nameHashes r_p0_serials n_o_data p_1 = some y)  : cu l yX3_addId (vs yX3_addId cX3_addId 4 none) ({ frames := 3, cells := 0, slots := 0, locals := 69 }) D q t [.ref a_o, .ref a_p0, .int p_1] [oX3 a_o a_o_data x_o_length, rB q a_o_data n_o_data r_o_data, oX6 a_p0 a_p0_nameHashes a_p0_keyHashes a_p0_serials x_p0_count, rJ q a_p0_keyHashes 8 r_p0_keyHashes, rJ q a_p0_nameHashes 8 r_p0_nameHashes, rI q a_p0_serials 8 r_p0_serials] (qV D q [oX3 a_o a_o_data y.2, rB q a_o_data n_o_data y.1, oX6 a_p0 a_p0_nameHashes a_p0_keyHashes a_p0_serials x_p0_count, rJ q a_p0_keyHashes 8 r_p0_keyHashes, rJ q a_p0_nameHashes 8 r_p0_nameHashes, rI q a_p0_serials 8 r_p0_serials]) := by
  refine cu_of (cc := cX3_addId) (nL := 4) (ret := none) (by decide) (Nat.le_of_ble_eq_true rfl) (fun {p e s m args below meth c A} C0 H locs ls hP hD hS hl => ?_)
  have C0 : cy p s m args meth c cX3_addId none 4 RX3 D q t A := C0
  obtain ⟨⟨hx, hb, hr, hml, hown, hts, hlocks, hK, hA⟩, hG⟩ := id C0
  have hl : lv_has ls 4 [(0, .ref a_o), (1, .ref a_p0), (2, .int p_1)] := hl
  unfold f_by_addId at hF
  refine lv_iload_n hx hb dX3_addId_0 rfl (lv_at hl 2 rfl) ?_
  refine lv_if_lt (tgt := 12) hx hb dX3_addId_1 (by decide) (fun c_1 => ?_) (fun c_1 => ?_)
  · replace hF := ite_t hF c_1
    have hy9 := (Option.some.inj hF).symm
    subst hy9
    exact rt_v C0.1 hP hD hS dX3_addId_12
  · replace hF := ite_f hF c_1
    refine lv_iload_n hx hb dX3_addId_4 rfl (lv_at hl 2 rfl) ?_
    refine lv_aload_n hx hb dX3_addId_5 rfl (lv_at hl 1 rfl) ?_
    refine va_get (D := D) (ci := 6) (v := .int x_p0_count) (C := RX6) (T := TX6) (N := 4) hx hb hts iw_X6 hown hK hP 2 rfl rfl 3 (by decide) (hts _ kw_176) (fun _ h9 => h9) rfl dX3_addId_6 ?_
    refine lv_icmp_lt (tgt := 13) hx hb dX3_addId_9 (by decide) (fun c_2 => ?_) (fun c_2 => ?_)
    · replace hF := ite_t hF c_2
      refine lv_aload_n hx hb dX3_addId_13 rfl (lv_at hl 0 rfl) ?_
      refine lv_bipush (v := (48 : Int32)) hx hb dX3_addId_14 (by decide) ?_
      obtain ⟨y_3, hy_3, hF⟩ := cal_d hF
      refine cf_i C0.1 hP hD hS [0, 1] [2, 3, 4, 5] [4, 5, 0, 1, 2, 3] (wr := [oX6 a_p0 a_p0_nameHashes a_p0_keyHashes a_p0_serials x_p0_count, rJ q a_p0_keyHashes 8 r_p0_keyHashes, rJ q a_p0_nameHashes 8 r_p0_nameHashes, rI q a_p0_serials 8 r_p0_serials]) (w' := [oX3 a_o a_o_data y_3.2.2, rB q a_o_data n_o_data y_3.2.1, oX6 a_p0 a_p0_nameHashes a_p0_keyHashes a_p0_serials x_p0_count, rJ q a_p0_keyHashes 8 r_p0_keyHashes, rJ q a_p0_nameHashes 8 r_p0_nameHashes, rI q a_p0_serials 8 r_p0_serials]) rfl rfl rfl (by decide) rfl rfl (sn_V (As := [.int (48 : Int32)]) (rest := []) (ci := 3) (q0 := 0) C0 (c_by_open l D q t a_o x_o_length a_o_data n_o_data r_o_data (48 : Int32) y_3 hy_3) (cwV 1 hts (g_V kw_680 kw_673 kw_674 kw_73 kw_675) rfl rfl rfl hd_X3_open ⟨Nat.le_of_ble_eq_true rfl, Nat.le_of_ble_eq_true rfl⟩) hP hD hS [0, 1] rfl rfl rfl rfl rfl rfl hl (Nat.le_of_ble_eq_true rfl) dX3_addId_16) (fun H locs hP hD hS => ?_)
      refine lv_topi (fun v3_4 e_v3_4 => ?_)
      replace hF := bnd_d hF e_v3_4
      refine lv_istore_n (lv' := [(3, .int v3_4), (0, .ref a_o), (1, .ref a_p0), (2, .int p_1)]) hx hb dX3_addId_19 rfl hl (by decide) rfl (fun ls hl => ?_)
      refine lv_aload_n hx hb dX3_addId_20 rfl (lv_at hl 1 rfl) ?_
      refine lv_aload_n hx hb dX3_addId_21 rfl (lv_at hl 2 rfl) ?_
      refine va_get (D := D) (ci := 6) (v := .ref a_p0_nameHashes) (C := RX6) (T := TX6) (N := 4) hx hb hts iw_X6 hown hK hP 2 rfl rfl 0 (by decide) (hts _ kw_165) (fun _ h9 => h9) rfl dX3_addId_22 ?_
      refine lv_iload_n hx hb dX3_addId_25 rfl (lv_at hl 3 rfl) ?_
      obtain ⟨z_5, hF⟩ := chk_d hF
      refine va_lald hx hb hK hP 4 2 rfl rfl z_5 dX3_addId_26 ?_
      obtain ⟨y_6, hy_6, hF⟩ := cal_d hF
      refine cf_v C0.1 hP hD hS [0, 1] [2, 3, 4, 5] [4, 5, 0, 1, 2, 3] (wr := [oX6 a_p0 a_p0_nameHashes a_p0_keyHashes a_p0_serials x_p0_count, rJ q a_p0_keyHashes 8 r_p0_keyHashes, rJ q a_p0_nameHashes 8 r_p0_nameHashes, rI q a_p0_serials 8 r_p0_serials]) (w' := [oX3 a_o a_o_data y_6.2, rB q a_o_data n_o_data y_6.1, oX6 a_p0 a_p0_nameHashes a_p0_keyHashes a_p0_serials x_p0_count, rJ q a_p0_keyHashes 8 r_p0_keyHashes, rJ q a_p0_nameHashes 8 r_p0_nameHashes, rI q a_p0_serials 8 r_p0_serials]) rfl rfl rfl (by decide) rfl rfl (sn_V (As := [.long (r_p0_nameHashes p_1.toNatClampNeg)]) (rest := []) (ci := 3) (q0 := 0) C0 (c_by_addHash l D q t a_o y_3.2.2 a_o_data n_o_data y_3.2.1 (r_p0_nameHashes p_1.toNatClampNeg) y_6 hy_6) (cwV 1 hts (g_V kw_765 kw_766 kw_767 kw_73 kw_768) rfl rfl rfl hd_X3_addHash ⟨Nat.le_of_ble_eq_true rfl, Nat.le_of_ble_eq_true rfl⟩) hP hD hS [0, 1] rfl rfl rfl rfl rfl rfl hl (Nat.le_of_ble_eq_true rfl) dX3_addId_27) (fun H locs hP hD hS => ?_)
      refine lv_aload_n hx hb dX3_addId_30 rfl (lv_at hl 1 rfl) ?_
      refine lv_aload_n hx hb dX3_addId_31 rfl (lv_at hl 2 rfl) ?_
      refine va_get (D := D) (ci := 6) (v := .ref a_p0_keyHashes) (C := RX6) (T := TX6) (N := 4) hx hb hts iw_X6 hown hK hP 2 rfl rfl 1 (by decide) (hts _ kw_167) (fun _ h9 => h9) rfl dX3_addId_32 ?_
      refine lv_iload_n hx hb dX3_addId_35 rfl (lv_at hl 3 rfl) ?_
      obtain ⟨z_7, hF⟩ := chk_d hF
      refine va_lald hx hb hK hP 3 2 rfl rfl z_7 dX3_addId_36 ?_
      obtain ⟨y_8, hy_8, hF⟩ := cal_d hF
      refine cf_v C0.1 hP hD hS [0, 1] [2, 3, 4, 5] [4, 5, 0, 1, 2, 3] (wr := [oX6 a_p0 a_p0_nameHashes a_p0_keyHashes a_p0_serials x_p0_count, rJ q a_p0_keyHashes 8 r_p0_keyHashes, rJ q a_p0_nameHashes 8 r_p0_nameHashes, rI q a_p0_serials 8 r_p0_serials]) (w' := [oX3 a_o a_o_data y_8.2, rB q a_o_data n_o_data y_8.1, oX6 a_p0 a_p0_nameHashes a_p0_keyHashes a_p0_serials x_p0_count, rJ q a_p0_keyHashes 8 r_p0_keyHashes, rJ q a_p0_nameHashes 8 r_p0_nameHashes, rI q a_p0_serials 8 r_p0_serials]) rfl rfl rfl (by decide) rfl rfl (sn_V (As := [.long (r_p0_keyHashes p_1.toNatClampNeg)]) (rest := []) (ci := 3) (q0 := 0) C0 (c_by_addHash l D q t a_o y_6.2 a_o_data n_o_data y_6.1 (r_p0_keyHashes p_1.toNatClampNeg) y_8 hy_8) (cwV 1 hts (g_V kw_765 kw_766 kw_767 kw_73 kw_768) rfl rfl rfl hd_X3_addHash ⟨Nat.le_of_ble_eq_true rfl, Nat.le_of_ble_eq_true rfl⟩) hP hD hS [0, 1] rfl rfl rfl rfl rfl rfl hl (Nat.le_of_ble_eq_true rfl) dX3_addId_37) (fun H locs hP hD hS => ?_)
      refine lv_aload_n hx hb dX3_addId_40 rfl (lv_at hl 1 rfl) ?_
      refine lv_aload_n hx hb dX3_addId_41 rfl (lv_at hl 2 rfl) ?_
      refine va_get (D := D) (ci := 6) (v := .ref a_p0_serials) (C := RX6) (T := TX6) (N := 4) hx hb hts iw_X6 hown hK hP 2 rfl rfl 2 (by decide) (hts _ kw_169) (fun _ h9 => h9) rfl dX3_addId_42 ?_
      refine lv_iload_n hx hb dX3_addId_45 rfl (lv_at hl 3 rfl) ?_
      obtain ⟨z_9, hF⟩ := chk_d hF
      refine va_iald hx hb hK hP 5 1 rfl rfl z_9 dX3_addId_46 ?_
      refine lv_i2l hx hb dX3_addId_47 rfl ?_
      obtain ⟨y_10, hy_10, hF⟩ := cal_d hF
      refine cf_v C0.1 hP hD hS [0, 1] [2, 3, 4, 5] [4, 5, 0, 1, 2, 3] (wr := [oX6 a_p0 a_p0_nameHashes a_p0_keyHashes a_p0_serials x_p0_count, rJ q a_p0_keyHashes 8 r_p0_keyHashes, rJ q a_p0_nameHashes 8 r_p0_nameHashes, rI q a_p0_serials 8 r_p0_serials]) (w' := [oX3 a_o a_o_data y_10.2, rB q a_o_data n_o_data y_10.1, oX6 a_p0 a_p0_nameHashes a_p0_keyHashes a_p0_serials x_p0_count, rJ q a_p0_keyHashes 8 r_p0_keyHashes, rJ q a_p0_nameHashes 8 r_p0_nameHashes, rI q a_p0_serials 8 r_p0_serials]) rfl rfl rfl (by decide) rfl rfl (sn_V (As := [.long ((r_p0_serials p_1.toNatClampNeg).toInt64)]) (rest := []) (ci := 3) (q0 := 0) C0 (c_by_addInteger l D q t a_o y_8.2 a_o_data n_o_data y_8.1 ((r_p0_serials p_1.toNatClampNeg).toInt64) y_10 hy_10) (cwV 1 hts (g_V kw_769 kw_677 kw_678 kw_73 kw_679) rfl rfl rfl hd_X3_addInteger ⟨Nat.le_of_ble_eq_true rfl, Nat.le_of_ble_eq_true rfl⟩) hP hD hS [0, 1] rfl rfl rfl rfl rfl rfl hl (Nat.le_of_ble_eq_true rfl) dX3_addId_48) (fun H locs hP hD hS => ?_)
      refine lv_aload_n hx hb dX3_addId_51 rfl (lv_at hl 1 rfl) ?_
      refine lv_iload_n hx hb dX3_addId_52 rfl (lv_at hl 0 rfl) ?_
      obtain ⟨y_11, hy_11, hF⟩ := cal_d hF
      refine cf_v C0.1 hP hD hS [0, 1] [2, 3, 4, 5] [4, 5, 0, 1, 2, 3] (wr := [oX6 a_p0 a_p0_nameHashes a_p0_keyHashes a_p0_serials x_p0_count, rJ q a_p0_keyHashes 8 r_p0_keyHashes, rJ q a_p0_nameHashes 8 r_p0_nameHashes, rI q a_p0_serials 8 r_p0_serials]) (w' := [oX3 a_o a_o_data y_11.2, rB q a_o_data n_o_data y_11.1, oX6 a_p0 a_p0_nameHashes a_p0_keyHashes a_p0_serials x_p0_count, rJ q a_p0_keyHashes 8 r_p0_keyHashes, rJ q a_p0_nameHashes 8 r_p0_nameHashes, rI q a_p0_serials 8 r_p0_serials]) rfl rfl rfl (by decide) rfl rfl (sn_V (As := [.int v3_4]) (rest := []) (ci := 3) (q0 := 0) C0 (c_by_close l D q t a_o y_10.2 a_o_data n_o_data y_10.1 v3_4 y_11 hy_11) (cwV 1 hts (g_V kw_685 kw_686 kw_687 kw_73 kw_688) rfl rfl rfl hd_X3_close ⟨Nat.le_of_ble_eq_true rfl, Nat.le_of_ble_eq_true rfl⟩) hP hD hS [0, 1] rfl rfl rfl rfl rfl rfl hl (Nat.le_of_ble_eq_true rfl) dX3_addId_53) (fun H locs hP hD hS => ?_)
      have hy9 := (Option.some.inj hF).symm
      subst hy9
      exact rt_v C0.1 hP hD hS dX3_addId_56
    · replace hF := ite_f hF c_2
      have hy9 := (Option.some.inj hF).symm
      subst hy9
      exact rt_v C0.1 hP hD hS dX3_addId_12
set_option maxHeartbeats 4000000 in
set_option maxRecDepth 100000 in
theorem c_fi_begin (l : Launch) (D : va_G) (q : Nat → ClassId) (t : Nat) (a_o : Nat) (x_o_authority : Int32) (x_o_serial : Int32) (x_o_state : Int32) (x_o_since : Int64) (x_o_reason : Int32) (x_o_from : Int64) (x_o_next : Int64) (p_0 : Int32) (p_1 : Int32) (y : Int32 × Int32) (hF : f_fi_begin x_o_authority x_o_serial p_0 p_1 = some y)  : cu l yX5_begin (vs yX5_begin cX5_begin 3 none) ({ frames := 0, cells := 0, slots := 0, locals := 0 }) D q t [.ref a_o, .int p_0, .int p_1] [oX5 a_o x_o_authority x_o_serial x_o_state x_o_since x_o_reason x_o_from x_o_next] (qV D q [oX5 a_o y.1 y.2 x_o_state x_o_since x_o_reason x_o_from x_o_next]) := by
  refine cu_of (cc := cX5_begin) (nL := 3) (ret := none) (by decide) (Nat.le_of_ble_eq_true rfl) (fun {p e s m args below meth c A} C0 H locs ls hP hD hS hl => ?_)
  have C0 : cy p s m args meth c cX5_begin none 3 RX5 D q t A := C0
  obtain ⟨⟨hx, hb, hr, hml, hown, hts, hlocks, hK, hA⟩, hG⟩ := id C0
  have hl : lv_has ls 3 [(0, .ref a_o), (1, .int p_0), (2, .int p_1)] := hl
  unfold f_fi_begin at hF
  refine lv_aload_n hx hb dX5_begin_0 rfl (lv_at hl 0 rfl) ?_
  refine lv_iload_n hx hb dX5_begin_1 rfl (lv_at hl 1 rfl) ?_
  refine va_put (D := D) (ci := 5) (v := .int p_0) (ty := .int) (C := RX5) (T := TX5) (N := 7) hx hb hts iw_X5 tyX5 tyX5_ok nmX5 hown hK hP hD hS 0 rfl rfl 0 (by decide) (hts _ kw_129) (fun _ h9 => h9) rfl (by decide +kernel) rfl rfl (Nat.le_of_ble_eq_true rfl) dX5_begin_2 (fun H locs hP hD hS => ?_)
  have hP : va_P D vwCl ([oX5 a_o p_0 x_o_serial x_o_state x_o_since x_o_reason x_o_from x_o_next]) H := hP
  have hD : va_D A ([oX5 a_o p_0 x_o_serial x_o_state x_o_since x_o_reason x_o_from x_o_next]) := hD
  refine lv_aload_n hx hb dX5_begin_5 rfl (lv_at hl 0 rfl) ?_
  refine lv_iload_n hx hb dX5_begin_6 rfl (lv_at hl 2 rfl) ?_
  refine va_put (D := D) (ci := 5) (v := .int p_1) (ty := .int) (C := RX5) (T := TX5) (N := 7) hx hb hts iw_X5 tyX5 tyX5_ok nmX5 hown hK hP hD hS 0 rfl rfl 1 (by decide) (hts _ kw_131) (fun _ h9 => h9) rfl (by decide +kernel) rfl rfl (Nat.le_of_ble_eq_true rfl) dX5_begin_7 (fun H locs hP hD hS => ?_)
  have hP : va_P D vwCl ([oX5 a_o p_0 p_1 x_o_state x_o_since x_o_reason x_o_from x_o_next]) H := hP
  have hD : va_D A ([oX5 a_o p_0 p_1 x_o_state x_o_since x_o_reason x_o_from x_o_next]) := hD
  have hy9 := (Option.some.inj hF).symm
  subst hy9
  exact rt_v C0.1 hP hD hS dX5_begin_10
set_option maxHeartbeats 4000000 in
set_option maxRecDepth 100000 in
theorem c_fi_takeSingle (l : Launch) (D : va_G) (q : Nat → ClassId) (t : Nat) (a_o : Nat) (x_o_authority : Int32) (x_o_serial : Int32) (x_o_state : Int32) (x_o_since : Int64) (x_o_reason : Int32) (x_o_from : Int64) (x_o_next : Int64) (a_p0 : Nat) (a_p0_cert : Nat) (x_p0_status : Int32) (x_p0_hasCert : Int32) (x_p0_bodyPlace : Int32) (x_p0_bodyEnd : Int32) (x_p0_signature : Int64) (x_p0_isByName : Int32) (x_p0_tellerPlace : Int32) (x_p0_tellerSize : Int32) (x_p0_tellerHash : Int64) (x_p0_noncePlace : Int32) (x_p0_nonceSize : Int32) (a_p0_from : Nat) (r_p0_from : (Nat → Int64)) (a_p0_ids : Nat) (a_p0_ids_nameHashes : Nat) (a_p0_ids_keyHashes : Nat) (a_p0_ids_serials : Nat) (x_p0_ids_count : Int32) (a_p0_next : Nat) (r_p0_next : (Nat → Int64)) (a_p0_reasons : Nat) (r_p0_reasons : (Nat → Int32)) (a_p0_since : Nat) (r_p0_since : (Nat → Int64)) (a_p0_states : Nat) (r_p0_states : (Nat → Int32)) (p_1 : Int32) (p_2 : Int32) (y : Int64 × Int64 × Int32 × Int64 × Int32) (hF : f_fi_takeSingle x_o_from x_o_next x_o_reason x_o_since x_o_state r_p0_from x_p0_ids_count r_p0_next r_p0_reasons r_p0_since r_p0_states p_1 p_2 = some y)  : cu l yX5_takeSingle (vs yX5_takeSingle cX5_takeSingle 4 none) ({ frames := 0, cells := 0, slots := 0, locals := 0 }) D q t [.ref a_o, .ref a_p0, .int p_1, .int p_2] [oX5 a_o x_o_authority x_o_serial x_o_state x_o_since x_o_reason x_o_from x_o_next, oX0 a_p0 a_p0_ids a_p0_states a_p0_since a_p0_reasons a_p0_from a_p0_next a_p0_cert x_p0_status x_p0_hasCert x_p0_bodyPlace x_p0_bodyEnd x_p0_signature x_p0_isByName x_p0_tellerPlace x_p0_tellerSize x_p0_tellerHash x_p0_noncePlace x_p0_nonceSize, rJ q a_p0_from 8 r_p0_from, oX6 a_p0_ids a_p0_ids_nameHashes a_p0_ids_keyHashes a_p0_ids_serials x_p0_ids_count, rJ q a_p0_next 8 r_p0_next, rI q a_p0_reasons 8 r_p0_reasons, rJ q a_p0_since 8 r_p0_since, rI q a_p0_states 8 r_p0_states] (qV D q [oX5 a_o x_o_authority x_o_serial y.2.2.2.2 y.2.2.2.1 y.2.2.1 y.1 y.2.1, oX0 a_p0 a_p0_ids a_p0_states a_p0_since a_p0_reasons a_p0_from a_p0_next a_p0_cert x_p0_status x_p0_hasCert x_p0_bodyPlace x_p0_bodyEnd x_p0_signature x_p0_isByName x_p0_tellerPlace x_p0_tellerSize x_p0_tellerHash x_p0_noncePlace x_p0_nonceSize, rJ q a_p0_from 8 r_p0_from, oX6 a_p0_ids a_p0_ids_nameHashes a_p0_ids_keyHashes a_p0_ids_serials x_p0_ids_count, rJ q a_p0_next 8 r_p0_next, rI q a_p0_reasons 8 r_p0_reasons, rJ q a_p0_since 8 r_p0_since, rI q a_p0_states 8 r_p0_states]) := by
  refine cu_of (cc := cX5_takeSingle) (nL := 4) (ret := none) (by decide) (Nat.le_of_ble_eq_true rfl) (fun {p e s m args below meth c A} C0 H locs ls hP hD hS hl => ?_)
  have C0 : cy p s m args meth c cX5_takeSingle none 4 RX5 D q t A := C0
  obtain ⟨⟨hx, hb, hr, hml, hown, hts, hlocks, hK, hA⟩, hG⟩ := id C0
  have hl : lv_has ls 4 [(0, .ref a_o), (1, .ref a_p0), (2, .int p_1), (3, .int p_2)] := hl
  unfold f_fi_takeSingle at hF
  refine lv_iload_n hx hb dX5_takeSingle_0 rfl (lv_at hl 2 rfl) ?_
  refine lv_if_lt (tgt := 15) hx hb dX5_takeSingle_1 (by decide) (fun c_1 => ?_) (fun c_1 => ?_)
  · replace hF := ite_t hF c_1
    have hy9 := (Option.some.inj hF).symm
    subst hy9
    exact rt_v C0.1 hP hD hS dX5_takeSingle_15
  · replace hF := ite_f hF c_1
    refine lv_iload_n hx hb dX5_takeSingle_4 rfl (lv_at hl 2 rfl) ?_
    refine lv_aload_n hx hb dX5_takeSingle_5 rfl (lv_at hl 1 rfl) ?_
    refine va_get (D := D) (ci := 0) (v := .ref a_p0_ids) (C := RX0) (T := TX0) (N := 18) hx hb hts iw_X0 hown hK hP 1 rfl rfl 0 (by decide) (hts _ kw_315) (fun _ h9 => h9) rfl dX5_takeSingle_6 ?_
    refine va_get (D := D) (ci := 6) (v := .int x_p0_ids_count) (C := RX6) (T := TX6) (N := 4) hx hb hts iw_X6 hown hK hP 3 rfl rfl 3 (by decide) (hts _ kw_174) (fun _ h9 => h9) rfl dX5_takeSingle_9 ?_
    refine lv_icmp_lt (tgt := 16) hx hb dX5_takeSingle_12 (by decide) (fun c_2 => ?_) (fun c_2 => ?_)
    · replace hF := ite_t hF c_2
      refine lv_aload_n hx hb dX5_takeSingle_16 rfl (lv_at hl 0 rfl) ?_
      refine lv_aload_n hx hb dX5_takeSingle_17 rfl (lv_at hl 1 rfl) ?_
      refine va_get (D := D) (ci := 0) (v := .ref a_p0_states) (C := RX0) (T := TX0) (N := 18) hx hb hts iw_X0 hown hK hP 1 rfl rfl 1 (by decide) (hts _ kw_318) (fun _ h9 => h9) rfl dX5_takeSingle_18 ?_
      refine lv_iload_n hx hb dX5_takeSingle_21 rfl (lv_at hl 2 rfl) ?_
      obtain ⟨z_3, hF⟩ := chk_d hF
      refine va_iald hx hb hK hP 7 1 rfl rfl z_3 dX5_takeSingle_22 ?_
      refine lv_topi (fun x_o_state_4 e_x_o_state_4 => ?_)
      replace hF := bnd_d hF e_x_o_state_4
      refine va_put (D := D) (ci := 5) (v := .int x_o_state_4) (ty := .int) (C := RX5) (T := TX5) (N := 7) hx hb hts iw_X5 tyX5 tyX5_ok nmX5 hown hK hP hD hS 0 rfl rfl 2 (by decide) (hts _ kw_133) (fun _ h9 => h9) rfl (by decide +kernel) rfl rfl (Nat.le_of_ble_eq_true rfl) dX5_takeSingle_23 (fun H locs hP hD hS => ?_)
      have hP : va_P D vwCl ([oX5 a_o x_o_authority x_o_serial x_o_state_4 x_o_since x_o_reason x_o_from x_o_next, oX0 a_p0 a_p0_ids a_p0_states a_p0_since a_p0_reasons a_p0_from a_p0_next a_p0_cert x_p0_status x_p0_hasCert x_p0_bodyPlace x_p0_bodyEnd x_p0_signature x_p0_isByName x_p0_tellerPlace x_p0_tellerSize x_p0_tellerHash x_p0_noncePlace x_p0_nonceSize, rJ q a_p0_from 8 r_p0_from, oX6 a_p0_ids a_p0_ids_nameHashes a_p0_ids_keyHashes a_p0_ids_serials x_p0_ids_count, rJ q a_p0_next 8 r_p0_next, rI q a_p0_reasons 8 r_p0_reasons, rJ q a_p0_since 8 r_p0_since, rI q a_p0_states 8 r_p0_states]) H := hP
      have hD : va_D A ([oX5 a_o x_o_authority x_o_serial x_o_state_4 x_o_since x_o_reason x_o_from x_o_next, oX0 a_p0 a_p0_ids a_p0_states a_p0_since a_p0_reasons a_p0_from a_p0_next a_p0_cert x_p0_status x_p0_hasCert x_p0_bodyPlace x_p0_bodyEnd x_p0_signature x_p0_isByName x_p0_tellerPlace x_p0_tellerSize x_p0_tellerHash x_p0_noncePlace x_p0_nonceSize, rJ q a_p0_from 8 r_p0_from, oX6 a_p0_ids a_p0_ids_nameHashes a_p0_ids_keyHashes a_p0_ids_serials x_p0_ids_count, rJ q a_p0_next 8 r_p0_next, rI q a_p0_reasons 8 r_p0_reasons, rJ q a_p0_since 8 r_p0_since, rI q a_p0_states 8 r_p0_states]) := hD
      refine lv_aload_n hx hb dX5_takeSingle_26 rfl (lv_at hl 0 rfl) ?_
      refine lv_aload_n hx hb dX5_takeSingle_27 rfl (lv_at hl 1 rfl) ?_
      refine va_get (D := D) (ci := 0) (v := .ref a_p0_since) (C := RX0) (T := TX0) (N := 18) hx hb hts iw_X0 hown hK hP 1 rfl rfl 2 (by decide) (hts _ kw_320) (fun _ h9 => h9) rfl dX5_takeSingle_28 ?_
      refine lv_iload_n hx hb dX5_takeSingle_31 rfl (lv_at hl 2 rfl) ?_
      obtain ⟨z_5, hF⟩ := chk_d hF
      refine va_lald hx hb hK hP 6 2 rfl rfl z_5 dX5_takeSingle_32 ?_
      refine lv_topl (fun x_o_since_6 e_x_o_since_6 => ?_)
      replace hF := bnd_d hF e_x_o_since_6
      refine va_put (D := D) (ci := 5) (v := .long x_o_since_6) (ty := .long) (C := RX5) (T := TX5) (N := 7) hx hb hts iw_X5 tyX5 tyX5_ok nmX5 hown hK hP hD hS 0 rfl rfl 3 (by decide) (hts _ kw_135) (fun _ h9 => h9) rfl (by decide +kernel) rfl rfl (Nat.le_of_ble_eq_true rfl) dX5_takeSingle_33 (fun H locs hP hD hS => ?_)
      have hP : va_P D vwCl ([oX5 a_o x_o_authority x_o_serial x_o_state_4 x_o_since_6 x_o_reason x_o_from x_o_next, oX0 a_p0 a_p0_ids a_p0_states a_p0_since a_p0_reasons a_p0_from a_p0_next a_p0_cert x_p0_status x_p0_hasCert x_p0_bodyPlace x_p0_bodyEnd x_p0_signature x_p0_isByName x_p0_tellerPlace x_p0_tellerSize x_p0_tellerHash x_p0_noncePlace x_p0_nonceSize, rJ q a_p0_from 8 r_p0_from, oX6 a_p0_ids a_p0_ids_nameHashes a_p0_ids_keyHashes a_p0_ids_serials x_p0_ids_count, rJ q a_p0_next 8 r_p0_next, rI q a_p0_reasons 8 r_p0_reasons, rJ q a_p0_since 8 r_p0_since, rI q a_p0_states 8 r_p0_states]) H := hP
      have hD : va_D A ([oX5 a_o x_o_authority x_o_serial x_o_state_4 x_o_since_6 x_o_reason x_o_from x_o_next, oX0 a_p0 a_p0_ids a_p0_states a_p0_since a_p0_reasons a_p0_from a_p0_next a_p0_cert x_p0_status x_p0_hasCert x_p0_bodyPlace x_p0_bodyEnd x_p0_signature x_p0_isByName x_p0_tellerPlace x_p0_tellerSize x_p0_tellerHash x_p0_noncePlace x_p0_nonceSize, rJ q a_p0_from 8 r_p0_from, oX6 a_p0_ids a_p0_ids_nameHashes a_p0_ids_keyHashes a_p0_ids_serials x_p0_ids_count, rJ q a_p0_next 8 r_p0_next, rI q a_p0_reasons 8 r_p0_reasons, rJ q a_p0_since 8 r_p0_since, rI q a_p0_states 8 r_p0_states]) := hD
      refine lv_aload_n hx hb dX5_takeSingle_36 rfl (lv_at hl 0 rfl) ?_
      refine lv_aload_n hx hb dX5_takeSingle_37 rfl (lv_at hl 1 rfl) ?_
      refine va_get (D := D) (ci := 0) (v := .ref a_p0_reasons) (C := RX0) (T := TX0) (N := 18) hx hb hts iw_X0 hown hK hP 1 rfl rfl 3 (by decide) (hts _ kw_322) (fun _ h9 => h9) rfl dX5_takeSingle_38 ?_
      refine lv_iload_n hx hb dX5_takeSingle_41 rfl (lv_at hl 2 rfl) ?_
      obtain ⟨z_7, hF⟩ := chk_d hF
      refine va_iald hx hb hK hP 5 1 rfl rfl z_7 dX5_takeSingle_42 ?_
      refine lv_topi (fun x_o_reason_8 e_x_o_reason_8 => ?_)
      replace hF := bnd_d hF e_x_o_reason_8
      refine va_put (D := D) (ci := 5) (v := .int x_o_reason_8) (ty := .int) (C := RX5) (T := TX5) (N := 7) hx hb hts iw_X5 tyX5 tyX5_ok nmX5 hown hK hP hD hS 0 rfl rfl 4 (by decide) (hts _ kw_137) (fun _ h9 => h9) rfl (by decide +kernel) rfl rfl (Nat.le_of_ble_eq_true rfl) dX5_takeSingle_43 (fun H locs hP hD hS => ?_)
      have hP : va_P D vwCl ([oX5 a_o x_o_authority x_o_serial x_o_state_4 x_o_since_6 x_o_reason_8 x_o_from x_o_next, oX0 a_p0 a_p0_ids a_p0_states a_p0_since a_p0_reasons a_p0_from a_p0_next a_p0_cert x_p0_status x_p0_hasCert x_p0_bodyPlace x_p0_bodyEnd x_p0_signature x_p0_isByName x_p0_tellerPlace x_p0_tellerSize x_p0_tellerHash x_p0_noncePlace x_p0_nonceSize, rJ q a_p0_from 8 r_p0_from, oX6 a_p0_ids a_p0_ids_nameHashes a_p0_ids_keyHashes a_p0_ids_serials x_p0_ids_count, rJ q a_p0_next 8 r_p0_next, rI q a_p0_reasons 8 r_p0_reasons, rJ q a_p0_since 8 r_p0_since, rI q a_p0_states 8 r_p0_states]) H := hP
      have hD : va_D A ([oX5 a_o x_o_authority x_o_serial x_o_state_4 x_o_since_6 x_o_reason_8 x_o_from x_o_next, oX0 a_p0 a_p0_ids a_p0_states a_p0_since a_p0_reasons a_p0_from a_p0_next a_p0_cert x_p0_status x_p0_hasCert x_p0_bodyPlace x_p0_bodyEnd x_p0_signature x_p0_isByName x_p0_tellerPlace x_p0_tellerSize x_p0_tellerHash x_p0_noncePlace x_p0_nonceSize, rJ q a_p0_from 8 r_p0_from, oX6 a_p0_ids a_p0_ids_nameHashes a_p0_ids_keyHashes a_p0_ids_serials x_p0_ids_count, rJ q a_p0_next 8 r_p0_next, rI q a_p0_reasons 8 r_p0_reasons, rJ q a_p0_since 8 r_p0_since, rI q a_p0_states 8 r_p0_states]) := hD
      refine lv_aload_n hx hb dX5_takeSingle_46 rfl (lv_at hl 0 rfl) ?_
      refine lv_aload_n hx hb dX5_takeSingle_47 rfl (lv_at hl 1 rfl) ?_
      refine va_get (D := D) (ci := 0) (v := .ref a_p0_from) (C := RX0) (T := TX0) (N := 18) hx hb hts iw_X0 hown hK hP 1 rfl rfl 4 (by decide) (hts _ kw_324) (fun _ h9 => h9) rfl dX5_takeSingle_48 ?_
      refine lv_iload_n hx hb dX5_takeSingle_51 rfl (lv_at hl 2 rfl) ?_
      obtain ⟨z_9, hF⟩ := chk_d hF
      refine va_lald hx hb hK hP 2 2 rfl rfl z_9 dX5_takeSingle_52 ?_
      refine lv_topl (fun x_o_from_10 e_x_o_from_10 => ?_)
      replace hF := bnd_d hF e_x_o_from_10
      refine va_put (D := D) (ci := 5) (v := .long x_o_from_10) (ty := .long) (C := RX5) (T := TX5) (N := 7) hx hb hts iw_X5 tyX5 tyX5_ok nmX5 hown hK hP hD hS 0 rfl rfl 5 (by decide) (hts _ kw_139) (fun _ h9 => h9) rfl (by decide +kernel) rfl rfl (Nat.le_of_ble_eq_true rfl) dX5_takeSingle_53 (fun H locs hP hD hS => ?_)
      have hP : va_P D vwCl ([oX5 a_o x_o_authority x_o_serial x_o_state_4 x_o_since_6 x_o_reason_8 x_o_from_10 x_o_next, oX0 a_p0 a_p0_ids a_p0_states a_p0_since a_p0_reasons a_p0_from a_p0_next a_p0_cert x_p0_status x_p0_hasCert x_p0_bodyPlace x_p0_bodyEnd x_p0_signature x_p0_isByName x_p0_tellerPlace x_p0_tellerSize x_p0_tellerHash x_p0_noncePlace x_p0_nonceSize, rJ q a_p0_from 8 r_p0_from, oX6 a_p0_ids a_p0_ids_nameHashes a_p0_ids_keyHashes a_p0_ids_serials x_p0_ids_count, rJ q a_p0_next 8 r_p0_next, rI q a_p0_reasons 8 r_p0_reasons, rJ q a_p0_since 8 r_p0_since, rI q a_p0_states 8 r_p0_states]) H := hP
      have hD : va_D A ([oX5 a_o x_o_authority x_o_serial x_o_state_4 x_o_since_6 x_o_reason_8 x_o_from_10 x_o_next, oX0 a_p0 a_p0_ids a_p0_states a_p0_since a_p0_reasons a_p0_from a_p0_next a_p0_cert x_p0_status x_p0_hasCert x_p0_bodyPlace x_p0_bodyEnd x_p0_signature x_p0_isByName x_p0_tellerPlace x_p0_tellerSize x_p0_tellerHash x_p0_noncePlace x_p0_nonceSize, rJ q a_p0_from 8 r_p0_from, oX6 a_p0_ids a_p0_ids_nameHashes a_p0_ids_keyHashes a_p0_ids_serials x_p0_ids_count, rJ q a_p0_next 8 r_p0_next, rI q a_p0_reasons 8 r_p0_reasons, rJ q a_p0_since 8 r_p0_since, rI q a_p0_states 8 r_p0_states]) := hD
      refine lv_aload_n hx hb dX5_takeSingle_56 rfl (lv_at hl 0 rfl) ?_
      refine lv_aload_n hx hb dX5_takeSingle_57 rfl (lv_at hl 1 rfl) ?_
      refine va_get (D := D) (ci := 0) (v := .ref a_p0_next) (C := RX0) (T := TX0) (N := 18) hx hb hts iw_X0 hown hK hP 1 rfl rfl 5 (by decide) (hts _ kw_326) (fun _ h9 => h9) rfl dX5_takeSingle_58 ?_
      refine lv_iload_n hx hb dX5_takeSingle_61 rfl (lv_at hl 2 rfl) ?_
      obtain ⟨z_11, hF⟩ := chk_d hF
      refine va_lald hx hb hK hP 4 2 rfl rfl z_11 dX5_takeSingle_62 ?_
      refine lv_ldc2 (v := (-1 : Int64)) hx hb hown (hts _ kw_128) dX5_takeSingle_63 ?_
      refine W.lcmp hx hb dX5_takeSingle_66 ?_
      refine lv_if_ne (tgt := 82) hx hb dX5_takeSingle_67 (by decide) (fun c_12 => ?_) (fun c_12 => ?_)
      · replace hF := ite_f hF (fun h => c_12 ((lg_cmp_eq _ _).mpr h))
        refine lv_aload_n hx hb dX5_takeSingle_82 rfl (lv_at hl 1 rfl) ?_
        refine va_get (D := D) (ci := 0) (v := .ref a_p0_next) (C := RX0) (T := TX0) (N := 18) hx hb hts iw_X0 hown hK hP 1 rfl rfl 5 (by decide) (hts _ kw_326) (fun _ h9 => h9) rfl dX5_takeSingle_83 ?_
        refine lv_iload_n hx hb dX5_takeSingle_86 rfl (lv_at hl 2 rfl) ?_
        refine va_lald hx hb hK hP 4 2 rfl rfl z_11 dX5_takeSingle_87 ?_
        refine lv_topl (fun x_o_next_13 e_x_o_next_13 => ?_)
        replace hF := bnd_d hF e_x_o_next_13
        refine va_put (D := D) (ci := 5) (v := .long x_o_next_13) (ty := .long) (C := RX5) (T := TX5) (N := 7) hx hb hts iw_X5 tyX5 tyX5_ok nmX5 hown hK hP hD hS 0 rfl rfl 6 (by decide) (hts _ kw_141) (fun _ h9 => h9) rfl (by decide +kernel) rfl rfl (Nat.le_of_ble_eq_true rfl) dX5_takeSingle_88 (fun H locs hP hD hS => ?_)
        have hP : va_P D vwCl ([oX5 a_o x_o_authority x_o_serial x_o_state_4 x_o_since_6 x_o_reason_8 x_o_from_10 x_o_next_13, oX0 a_p0 a_p0_ids a_p0_states a_p0_since a_p0_reasons a_p0_from a_p0_next a_p0_cert x_p0_status x_p0_hasCert x_p0_bodyPlace x_p0_bodyEnd x_p0_signature x_p0_isByName x_p0_tellerPlace x_p0_tellerSize x_p0_tellerHash x_p0_noncePlace x_p0_nonceSize, rJ q a_p0_from 8 r_p0_from, oX6 a_p0_ids a_p0_ids_nameHashes a_p0_ids_keyHashes a_p0_ids_serials x_p0_ids_count, rJ q a_p0_next 8 r_p0_next, rI q a_p0_reasons 8 r_p0_reasons, rJ q a_p0_since 8 r_p0_since, rI q a_p0_states 8 r_p0_states]) H := hP
        have hD : va_D A ([oX5 a_o x_o_authority x_o_serial x_o_state_4 x_o_since_6 x_o_reason_8 x_o_from_10 x_o_next_13, oX0 a_p0 a_p0_ids a_p0_states a_p0_since a_p0_reasons a_p0_from a_p0_next a_p0_cert x_p0_status x_p0_hasCert x_p0_bodyPlace x_p0_bodyEnd x_p0_signature x_p0_isByName x_p0_tellerPlace x_p0_tellerSize x_p0_tellerHash x_p0_noncePlace x_p0_nonceSize, rJ q a_p0_from 8 r_p0_from, oX6 a_p0_ids a_p0_ids_nameHashes a_p0_ids_keyHashes a_p0_ids_serials x_p0_ids_count, rJ q a_p0_next 8 r_p0_next, rI q a_p0_reasons 8 r_p0_reasons, rJ q a_p0_since 8 r_p0_since, rI q a_p0_states 8 r_p0_states]) := hD
        have hy9 := (Option.some.inj hF).symm
        subst hy9
        exact rt_v C0.1 hP hD hS dX5_takeSingle_91
      · replace hF := ite_t hF ((lg_cmp_eq _ _).mp c_12)
        refine lv_aload_n hx hb dX5_takeSingle_70 rfl (lv_at hl 1 rfl) ?_
        refine va_get (D := D) (ci := 0) (v := .ref a_p0_from) (C := RX0) (T := TX0) (N := 18) hx hb hts iw_X0 hown hK hP 1 rfl rfl 4 (by decide) (hts _ kw_324) (fun _ h9 => h9) rfl dX5_takeSingle_71 ?_
        refine lv_iload_n hx hb dX5_takeSingle_74 rfl (lv_at hl 2 rfl) ?_
        refine va_lald hx hb hK hP 2 2 rfl rfl z_9 dX5_takeSingle_75 ?_
        refine lv_iload_n hx hb dX5_takeSingle_76 rfl (lv_at hl 3 rfl) ?_
        refine lv_i2l hx hb dX5_takeSingle_77 rfl ?_
        refine lv_ladd hx hb dX5_takeSingle_78 ?_
        refine lv_goto (tgt := 88) hx hb dX5_takeSingle_79 (by decide) ?_
        refine lv_topl (fun x_o_next_14 e_x_o_next_14 => ?_)
        replace hF := bnd_d hF e_x_o_next_14
        refine va_put (D := D) (ci := 5) (v := .long x_o_next_14) (ty := .long) (C := RX5) (T := TX5) (N := 7) hx hb hts iw_X5 tyX5 tyX5_ok nmX5 hown hK hP hD hS 0 rfl rfl 6 (by decide) (hts _ kw_141) (fun _ h9 => h9) rfl (by decide +kernel) rfl rfl (Nat.le_of_ble_eq_true rfl) dX5_takeSingle_88 (fun H locs hP hD hS => ?_)
        have hP : va_P D vwCl ([oX5 a_o x_o_authority x_o_serial x_o_state_4 x_o_since_6 x_o_reason_8 x_o_from_10 x_o_next_14, oX0 a_p0 a_p0_ids a_p0_states a_p0_since a_p0_reasons a_p0_from a_p0_next a_p0_cert x_p0_status x_p0_hasCert x_p0_bodyPlace x_p0_bodyEnd x_p0_signature x_p0_isByName x_p0_tellerPlace x_p0_tellerSize x_p0_tellerHash x_p0_noncePlace x_p0_nonceSize, rJ q a_p0_from 8 r_p0_from, oX6 a_p0_ids a_p0_ids_nameHashes a_p0_ids_keyHashes a_p0_ids_serials x_p0_ids_count, rJ q a_p0_next 8 r_p0_next, rI q a_p0_reasons 8 r_p0_reasons, rJ q a_p0_since 8 r_p0_since, rI q a_p0_states 8 r_p0_states]) H := hP
        have hD : va_D A ([oX5 a_o x_o_authority x_o_serial x_o_state_4 x_o_since_6 x_o_reason_8 x_o_from_10 x_o_next_14, oX0 a_p0 a_p0_ids a_p0_states a_p0_since a_p0_reasons a_p0_from a_p0_next a_p0_cert x_p0_status x_p0_hasCert x_p0_bodyPlace x_p0_bodyEnd x_p0_signature x_p0_isByName x_p0_tellerPlace x_p0_tellerSize x_p0_tellerHash x_p0_noncePlace x_p0_nonceSize, rJ q a_p0_from 8 r_p0_from, oX6 a_p0_ids a_p0_ids_nameHashes a_p0_ids_keyHashes a_p0_ids_serials x_p0_ids_count, rJ q a_p0_next 8 r_p0_next, rI q a_p0_reasons 8 r_p0_reasons, rJ q a_p0_since 8 r_p0_since, rI q a_p0_states 8 r_p0_states]) := hD
        have hy9 := (Option.some.inj hF).symm
        subst hy9
        exact rt_v C0.1 hP hD hS dX5_takeSingle_91
    · replace hF := ite_f hF c_2
      have hy9 := (Option.some.inj hF).symm
      subst hy9
      exact rt_v C0.1 hP hD hS dX5_takeSingle_15
set_option maxHeartbeats 4000000 in
set_option maxRecDepth 100000 in
theorem c_fi_copyOf (l : Launch) (D : va_G) (q : Nat → ClassId) (t : Nat) (a_o : Nat) (x_o_authority : Int32) (x_o_serial : Int32) (x_o_state : Int32) (x_o_since : Int64) (x_o_reason : Int32) (x_o_from : Int64) (x_o_next : Int64) (a_p0 : Nat) (x_p0_authority : Int32) (x_p0_serial : Int32) (x_p0_state : Int32) (x_p0_since : Int64) (x_p0_reason : Int32) (x_p0_from : Int64) (x_p0_next : Int64)  (y : Int32 × Int64 × Int64 × Int32 × Int32 × Int64 × Int32) (hF : f_fi_copyOf x_o_authority x_o_from x_o_next x_o_reason x_o_serial x_o_since x_o_state x_p0_authority x_p0_from x_p0_next x_p0_reason x_p0_serial x_p0_since x_p0_state = some y)  : cu l yX5_copyOf (vs yX5_copyOf cX5_copyOf 2 none) ({ frames := 0, cells := 0, slots := 0, locals := 0 }) D q t [.ref a_o, .ref a_p0] [oX5 a_o x_o_authority x_o_serial x_o_state x_o_since x_o_reason x_o_from x_o_next, oX5 a_p0 x_p0_authority x_p0_serial x_p0_state x_p0_since x_p0_reason x_p0_from x_p0_next] (qV D q [oX5 a_o y.1 y.2.2.2.2.1 y.2.2.2.2.2.2 y.2.2.2.2.2.1 y.2.2.2.1 y.2.1 y.2.2.1, oX5 a_p0 x_p0_authority x_p0_serial x_p0_state x_p0_since x_p0_reason x_p0_from x_p0_next]) := by
  refine cu_of (cc := cX5_copyOf) (nL := 2) (ret := none) (by decide) (Nat.le_of_ble_eq_true rfl) (fun {p e s m args below meth c A} C0 H locs ls hP hD hS hl => ?_)
  have C0 : cy p s m args meth c cX5_copyOf none 2 RX5 D q t A := C0
  obtain ⟨⟨hx, hb, hr, hml, hown, hts, hlocks, hK, hA⟩, hG⟩ := id C0
  have hl : lv_has ls 2 [(0, .ref a_o), (1, .ref a_p0)] := hl
  unfold f_fi_copyOf at hF
  refine lv_aload_n hx hb dX5_copyOf_0 rfl (lv_at hl 0 rfl) ?_
  refine lv_aload_n hx hb dX5_copyOf_1 rfl (lv_at hl 1 rfl) ?_
  refine va_get (D := D) (ci := 5) (v := .int x_p0_authority) (C := RX5) (T := TX5) (N := 7) hx hb hts iw_X5 hown hK hP 1 rfl rfl 0 (by decide) (hts _ kw_129) (fun _ h9 => h9) rfl dX5_copyOf_2 ?_
  refine va_put (D := D) (ci := 5) (v := .int x_p0_authority) (ty := .int) (C := RX5) (T := TX5) (N := 7) hx hb hts iw_X5 tyX5 tyX5_ok nmX5 hown hK hP hD hS 0 rfl rfl 0 (by decide) (hts _ kw_129) (fun _ h9 => h9) rfl (by decide +kernel) rfl rfl (Nat.le_of_ble_eq_true rfl) dX5_copyOf_5 (fun H locs hP hD hS => ?_)
  have hP : va_P D vwCl ([oX5 a_o x_p0_authority x_o_serial x_o_state x_o_since x_o_reason x_o_from x_o_next, oX5 a_p0 x_p0_authority x_p0_serial x_p0_state x_p0_since x_p0_reason x_p0_from x_p0_next]) H := hP
  have hD : va_D A ([oX5 a_o x_p0_authority x_o_serial x_o_state x_o_since x_o_reason x_o_from x_o_next, oX5 a_p0 x_p0_authority x_p0_serial x_p0_state x_p0_since x_p0_reason x_p0_from x_p0_next]) := hD
  refine lv_aload_n hx hb dX5_copyOf_8 rfl (lv_at hl 0 rfl) ?_
  refine lv_aload_n hx hb dX5_copyOf_9 rfl (lv_at hl 1 rfl) ?_
  refine va_get (D := D) (ci := 5) (v := .int x_p0_serial) (C := RX5) (T := TX5) (N := 7) hx hb hts iw_X5 hown hK hP 1 rfl rfl 1 (by decide) (hts _ kw_131) (fun _ h9 => h9) rfl dX5_copyOf_10 ?_
  refine va_put (D := D) (ci := 5) (v := .int x_p0_serial) (ty := .int) (C := RX5) (T := TX5) (N := 7) hx hb hts iw_X5 tyX5 tyX5_ok nmX5 hown hK hP hD hS 0 rfl rfl 1 (by decide) (hts _ kw_131) (fun _ h9 => h9) rfl (by decide +kernel) rfl rfl (Nat.le_of_ble_eq_true rfl) dX5_copyOf_13 (fun H locs hP hD hS => ?_)
  have hP : va_P D vwCl ([oX5 a_o x_p0_authority x_p0_serial x_o_state x_o_since x_o_reason x_o_from x_o_next, oX5 a_p0 x_p0_authority x_p0_serial x_p0_state x_p0_since x_p0_reason x_p0_from x_p0_next]) H := hP
  have hD : va_D A ([oX5 a_o x_p0_authority x_p0_serial x_o_state x_o_since x_o_reason x_o_from x_o_next, oX5 a_p0 x_p0_authority x_p0_serial x_p0_state x_p0_since x_p0_reason x_p0_from x_p0_next]) := hD
  refine lv_aload_n hx hb dX5_copyOf_16 rfl (lv_at hl 0 rfl) ?_
  refine lv_aload_n hx hb dX5_copyOf_17 rfl (lv_at hl 1 rfl) ?_
  refine va_get (D := D) (ci := 5) (v := .int x_p0_state) (C := RX5) (T := TX5) (N := 7) hx hb hts iw_X5 hown hK hP 1 rfl rfl 2 (by decide) (hts _ kw_133) (fun _ h9 => h9) rfl dX5_copyOf_18 ?_
  refine va_put (D := D) (ci := 5) (v := .int x_p0_state) (ty := .int) (C := RX5) (T := TX5) (N := 7) hx hb hts iw_X5 tyX5 tyX5_ok nmX5 hown hK hP hD hS 0 rfl rfl 2 (by decide) (hts _ kw_133) (fun _ h9 => h9) rfl (by decide +kernel) rfl rfl (Nat.le_of_ble_eq_true rfl) dX5_copyOf_21 (fun H locs hP hD hS => ?_)
  have hP : va_P D vwCl ([oX5 a_o x_p0_authority x_p0_serial x_p0_state x_o_since x_o_reason x_o_from x_o_next, oX5 a_p0 x_p0_authority x_p0_serial x_p0_state x_p0_since x_p0_reason x_p0_from x_p0_next]) H := hP
  have hD : va_D A ([oX5 a_o x_p0_authority x_p0_serial x_p0_state x_o_since x_o_reason x_o_from x_o_next, oX5 a_p0 x_p0_authority x_p0_serial x_p0_state x_p0_since x_p0_reason x_p0_from x_p0_next]) := hD
  refine lv_aload_n hx hb dX5_copyOf_24 rfl (lv_at hl 0 rfl) ?_
  refine lv_aload_n hx hb dX5_copyOf_25 rfl (lv_at hl 1 rfl) ?_
  refine va_get (D := D) (ci := 5) (v := .long x_p0_since) (C := RX5) (T := TX5) (N := 7) hx hb hts iw_X5 hown hK hP 1 rfl rfl 3 (by decide) (hts _ kw_135) (fun _ h9 => h9) rfl dX5_copyOf_26 ?_
  refine va_put (D := D) (ci := 5) (v := .long x_p0_since) (ty := .long) (C := RX5) (T := TX5) (N := 7) hx hb hts iw_X5 tyX5 tyX5_ok nmX5 hown hK hP hD hS 0 rfl rfl 3 (by decide) (hts _ kw_135) (fun _ h9 => h9) rfl (by decide +kernel) rfl rfl (Nat.le_of_ble_eq_true rfl) dX5_copyOf_29 (fun H locs hP hD hS => ?_)
  have hP : va_P D vwCl ([oX5 a_o x_p0_authority x_p0_serial x_p0_state x_p0_since x_o_reason x_o_from x_o_next, oX5 a_p0 x_p0_authority x_p0_serial x_p0_state x_p0_since x_p0_reason x_p0_from x_p0_next]) H := hP
  have hD : va_D A ([oX5 a_o x_p0_authority x_p0_serial x_p0_state x_p0_since x_o_reason x_o_from x_o_next, oX5 a_p0 x_p0_authority x_p0_serial x_p0_state x_p0_since x_p0_reason x_p0_from x_p0_next]) := hD
  refine lv_aload_n hx hb dX5_copyOf_32 rfl (lv_at hl 0 rfl) ?_
  refine lv_aload_n hx hb dX5_copyOf_33 rfl (lv_at hl 1 rfl) ?_
  refine va_get (D := D) (ci := 5) (v := .int x_p0_reason) (C := RX5) (T := TX5) (N := 7) hx hb hts iw_X5 hown hK hP 1 rfl rfl 4 (by decide) (hts _ kw_137) (fun _ h9 => h9) rfl dX5_copyOf_34 ?_
  refine va_put (D := D) (ci := 5) (v := .int x_p0_reason) (ty := .int) (C := RX5) (T := TX5) (N := 7) hx hb hts iw_X5 tyX5 tyX5_ok nmX5 hown hK hP hD hS 0 rfl rfl 4 (by decide) (hts _ kw_137) (fun _ h9 => h9) rfl (by decide +kernel) rfl rfl (Nat.le_of_ble_eq_true rfl) dX5_copyOf_37 (fun H locs hP hD hS => ?_)
  have hP : va_P D vwCl ([oX5 a_o x_p0_authority x_p0_serial x_p0_state x_p0_since x_p0_reason x_o_from x_o_next, oX5 a_p0 x_p0_authority x_p0_serial x_p0_state x_p0_since x_p0_reason x_p0_from x_p0_next]) H := hP
  have hD : va_D A ([oX5 a_o x_p0_authority x_p0_serial x_p0_state x_p0_since x_p0_reason x_o_from x_o_next, oX5 a_p0 x_p0_authority x_p0_serial x_p0_state x_p0_since x_p0_reason x_p0_from x_p0_next]) := hD
  refine lv_aload_n hx hb dX5_copyOf_40 rfl (lv_at hl 0 rfl) ?_
  refine lv_aload_n hx hb dX5_copyOf_41 rfl (lv_at hl 1 rfl) ?_
  refine va_get (D := D) (ci := 5) (v := .long x_p0_from) (C := RX5) (T := TX5) (N := 7) hx hb hts iw_X5 hown hK hP 1 rfl rfl 5 (by decide) (hts _ kw_139) (fun _ h9 => h9) rfl dX5_copyOf_42 ?_
  refine va_put (D := D) (ci := 5) (v := .long x_p0_from) (ty := .long) (C := RX5) (T := TX5) (N := 7) hx hb hts iw_X5 tyX5 tyX5_ok nmX5 hown hK hP hD hS 0 rfl rfl 5 (by decide) (hts _ kw_139) (fun _ h9 => h9) rfl (by decide +kernel) rfl rfl (Nat.le_of_ble_eq_true rfl) dX5_copyOf_45 (fun H locs hP hD hS => ?_)
  have hP : va_P D vwCl ([oX5 a_o x_p0_authority x_p0_serial x_p0_state x_p0_since x_p0_reason x_p0_from x_o_next, oX5 a_p0 x_p0_authority x_p0_serial x_p0_state x_p0_since x_p0_reason x_p0_from x_p0_next]) H := hP
  have hD : va_D A ([oX5 a_o x_p0_authority x_p0_serial x_p0_state x_p0_since x_p0_reason x_p0_from x_o_next, oX5 a_p0 x_p0_authority x_p0_serial x_p0_state x_p0_since x_p0_reason x_p0_from x_p0_next]) := hD
  refine lv_aload_n hx hb dX5_copyOf_48 rfl (lv_at hl 0 rfl) ?_
  refine lv_aload_n hx hb dX5_copyOf_49 rfl (lv_at hl 1 rfl) ?_
  refine va_get (D := D) (ci := 5) (v := .long x_p0_next) (C := RX5) (T := TX5) (N := 7) hx hb hts iw_X5 hown hK hP 1 rfl rfl 6 (by decide) (hts _ kw_141) (fun _ h9 => h9) rfl dX5_copyOf_50 ?_
  refine va_put (D := D) (ci := 5) (v := .long x_p0_next) (ty := .long) (C := RX5) (T := TX5) (N := 7) hx hb hts iw_X5 tyX5 tyX5_ok nmX5 hown hK hP hD hS 0 rfl rfl 6 (by decide) (hts _ kw_141) (fun _ h9 => h9) rfl (by decide +kernel) rfl rfl (Nat.le_of_ble_eq_true rfl) dX5_copyOf_53 (fun H locs hP hD hS => ?_)
  have hP : va_P D vwCl ([oX5 a_o x_p0_authority x_p0_serial x_p0_state x_p0_since x_p0_reason x_p0_from x_p0_next, oX5 a_p0 x_p0_authority x_p0_serial x_p0_state x_p0_since x_p0_reason x_p0_from x_p0_next]) H := hP
  have hD : va_D A ([oX5 a_o x_p0_authority x_p0_serial x_p0_state x_p0_since x_p0_reason x_p0_from x_p0_next, oX5 a_p0 x_p0_authority x_p0_serial x_p0_state x_p0_since x_p0_reason x_p0_from x_p0_next]) := hD
  have hy9 := (Option.some.inj hF).symm
  subst hy9
  exact rt_v C0.1 hP hD hS dX5_copyOf_56
set_option maxHeartbeats 4000000 in
set_option maxRecDepth 100000 in
theorem c_id_isOf (l : Launch) (D : va_G) (q : Nat → ClassId) (t : Nat) (a_o : Nat) (a_o_serials : Nat) (x_o_count : Int32) (a_o_keyHashes : Nat) (r_o_keyHashes : (Nat → Int64)) (a_o_nameHashes : Nat) (r_o_nameHashes : (Nat → Int64)) (p_0 : Int32) (p_1 : Int64) (p_2 : Int64) (y : Int32) (hF : f_id_isOf x_o_count r_o_keyHashes r_o_nameHashes p_0 p_1 p_2 = some y)  : cu l yX6_isOf (vs yX6_isOf cX6_isOf 6 (some .boolean)) ({ frames := 0, cells := 0, slots := 0, locals := 0 }) D q t [.ref a_o, .int p_0, .long p_1, .long p_2] [oX6 a_o a_o_nameHashes a_o_keyHashes a_o_serials x_o_count, rJ q a_o_keyHashes 8 r_o_keyHashes, rJ q a_o_nameHashes 8 r_o_nameHashes] (qI D q y [oX6 a_o a_o_nameHashes a_o_keyHashes a_o_serials x_o_count, rJ q a_o_keyHashes 8 r_o_keyHashes, rJ q a_o_nameHashes 8 r_o_nameHashes]) := by
  refine cu_of (cc := cX6_isOf) (nL := 6) (ret := (some .boolean)) (by decide) (Nat.le_of_ble_eq_true rfl) (fun {p e s m args below meth c A} C0 H locs ls hP hD hS hl => ?_)
  have C0 : cy p s m args meth c cX6_isOf (some .boolean) 6 RX6 D q t A := C0
  obtain ⟨⟨hx, hb, hr, hml, hown, hts, hlocks, hK, hA⟩, hG⟩ := id C0
  have hl : lv_has ls 6 [(0, .ref a_o), (1, .int p_0), (2, .long p_1), (4, .long p_2)] := hl
  unfold f_id_isOf at hF
  refine lv_iload_n hx hb dX6_isOf_0 rfl (lv_at hl 1 rfl) ?_
  refine lv_if_lt (tgt := 39) hx hb dX6_isOf_1 (by decide) (fun c_1 => ?_) (fun c_1 => ?_)
  · replace hF := ite_t hF c_1
    refine lv_iconst (v := (0 : Int32)) hx hb dX6_isOf_39 (by decide) ?_
    have hy9 := (Option.some.inj hF).symm
    subst hy9
    exact rt_z (v := (0 : Int32)) C0.1 rfl hP hD hS dX6_isOf_40
  · replace hF := ite_f hF c_1
    refine lv_iload_n hx hb dX6_isOf_4 rfl (lv_at hl 1 rfl) ?_
    refine lv_aload_n hx hb dX6_isOf_5 rfl (lv_at hl 0 rfl) ?_
    refine va_get (D := D) (ci := 6) (v := .int x_o_count) (C := RX6) (T := TX6) (N := 4) hx hb hts iw_X6 hown hK hP 0 rfl rfl 3 (by decide) (hts _ kw_171) (fun _ h9 => h9) rfl dX6_isOf_6 ?_
    refine lv_icmp_ge (tgt := 39) hx hb dX6_isOf_9 (by decide) (fun c_2 => ?_) (fun c_2 => ?_)
    · replace hF := ite_t hF c_2
      refine lv_iconst (v := (0 : Int32)) hx hb dX6_isOf_39 (by decide) ?_
      have hy9 := (Option.some.inj hF).symm
      subst hy9
      exact rt_z (v := (0 : Int32)) C0.1 rfl hP hD hS dX6_isOf_40
    · replace hF := ite_f hF c_2
      refine lv_aload_n hx hb dX6_isOf_12 rfl (lv_at hl 0 rfl) ?_
      refine va_get (D := D) (ci := 6) (v := .ref a_o_nameHashes) (C := RX6) (T := TX6) (N := 4) hx hb hts iw_X6 hown hK hP 0 rfl rfl 0 (by decide) (hts _ kw_164) (fun _ h9 => h9) rfl dX6_isOf_13 ?_
      refine lv_iload_n hx hb dX6_isOf_16 rfl (lv_at hl 1 rfl) ?_
      obtain ⟨z_3, hF⟩ := chk_d hF
      refine va_lald hx hb hK hP 2 2 rfl rfl z_3 dX6_isOf_17 ?_
      refine lv_lload_n hx hb dX6_isOf_18 rfl (lv_at hl 2 rfl) ?_
      refine W.lcmp hx hb dX6_isOf_19 ?_
      refine lv_if_ne (tgt := 39) hx hb dX6_isOf_20 (by decide) (fun c_4 => ?_) (fun c_4 => ?_)
      · replace hF := ite_f hF (fun h => c_4 ((lg_cmp_eq _ _).mpr h))
        refine lv_iconst (v := (0 : Int32)) hx hb dX6_isOf_39 (by decide) ?_
        have hy9 := (Option.some.inj hF).symm
        subst hy9
        exact rt_z (v := (0 : Int32)) C0.1 rfl hP hD hS dX6_isOf_40
      · replace hF := ite_t hF ((lg_cmp_eq _ _).mp c_4)
        refine lv_aload_n hx hb dX6_isOf_23 rfl (lv_at hl 0 rfl) ?_
        refine va_get (D := D) (ci := 6) (v := .ref a_o_keyHashes) (C := RX6) (T := TX6) (N := 4) hx hb hts iw_X6 hown hK hP 0 rfl rfl 1 (by decide) (hts _ kw_166) (fun _ h9 => h9) rfl dX6_isOf_24 ?_
        refine lv_iload_n hx hb dX6_isOf_27 rfl (lv_at hl 1 rfl) ?_
        obtain ⟨z_5, hF⟩ := chk_d hF
        refine va_lald hx hb hK hP 1 2 rfl rfl z_5 dX6_isOf_28 ?_
        refine lv_lload hx hb dX6_isOf_29 (lv_at hl 3 rfl) ?_
        refine W.lcmp hx hb dX6_isOf_31 ?_
        refine lv_if_ne (tgt := 39) hx hb dX6_isOf_32 (by decide) (fun c_6 => ?_) (fun c_6 => ?_)
        · replace hF := ite_f hF (fun h => c_6 ((lg_cmp_eq _ _).mpr h))
          refine lv_iconst (v := (0 : Int32)) hx hb dX6_isOf_39 (by decide) ?_
          have hy9 := (Option.some.inj hF).symm
          subst hy9
          exact rt_z (v := (0 : Int32)) C0.1 rfl hP hD hS dX6_isOf_40
        · replace hF := ite_t hF ((lg_cmp_eq _ _).mp c_6)
          refine lv_iconst (v := (1 : Int32)) hx hb dX6_isOf_35 (by decide) ?_
          refine lv_goto (tgt := 40) hx hb dX6_isOf_36 (by decide) ?_
          have hy9 := (Option.some.inj hF).symm
          subst hy9
          exact rt_z (v := (1 : Int32)) C0.1 rfl hP hD hS dX6_isOf_40
set_option maxHeartbeats 4000000 in
set_option maxRecDepth 100000 in
theorem w_id_placeOf_3 {l : Launch} {p : Program} {e : Env} {s : State} {m : MethodId} {args : Array Value} {below : List Frame} {meth : Method} {c : Code} {A : Nat → Prop} {D : va_G} {q : Nat → ClassId} {t : Nat} (C0 : cy p s m args meth c cX6_placeOf (some .int) 7 RX6 D q t A) (a_o : Nat) (a_o_keyHashes : Nat) (a_o_nameHashes : Nat) (a_o_serials : Nat)  : ∀ (n : Nat) (x_o_count : Int32) (r_o_keyHashes : (Nat → Int64)) (r_o_nameHashes : (Nat → Int64)) (r_o_serials : (Nat → Int32)) (v_1 : Int64) (v_3 : Int64) (v_5 : Int32) (v_6 : Int32) (y : Int32) (hF : j_id_placeOf_3 n x_o_count r_o_keyHashes r_o_nameHashes r_o_serials v_1 v_3 v_5 v_6 = some y), ∀ (H : Heap) (locs : List Loc) (ls : Array Slot), va_P D vwCl [oX6 a_o a_o_nameHashes a_o_keyHashes a_o_serials x_o_count, rJ q a_o_keyHashes 8 r_o_keyHashes, rJ q a_o_nameHashes 8 r_o_nameHashes, rI q a_o_serials 8 r_o_serials] H → va_D A [oX6 a_o a_o_nameHashes a_o_keyHashes a_o_serials x_o_count, rJ q a_o_keyHashes 8 r_o_keyHashes, rJ q a_o_nameHashes 8 r_o_nameHashes, rI q a_o_serials 8 r_o_serials] → va_S A s.heap H locs → lv_has ls 7 [(0, .ref a_o), (1, .long v_1), (3, .long v_3), (5, .int v_5), (6, .int v_6)] → W p l e ({ frames := 1, cells := 0, slots := 0, locals := 25 }) s m args below meth c H locs 0 0 (MQ below (qI D q y [oX6 a_o a_o_nameHashes a_o_keyHashes a_o_serials x_o_count, rJ q a_o_keyHashes 8 r_o_keyHashes, rJ q a_o_nameHashes 8 r_o_nameHashes, rI q a_o_serials 8 r_o_serials] A) args s 0 0 A) (F0 m 3 ls []) := by
  obtain ⟨⟨hx, hb, hr, hml, hown, hts, hlocks, hK, hA⟩, hG⟩ := id C0
  intro n
  induction n with
  | zero =>
    intro x_o_count r_o_keyHashes r_o_nameHashes r_o_serials v_1 v_3 v_5 v_6 y hF
    exact absurd (show (none : Option (Int32)) = some y from hF) (fun h => by cases h)
  | succ n ih =>
    intro x_o_count r_o_keyHashes r_o_nameHashes r_o_serials v_1 v_3 v_5 v_6 y hF H locs ls hP hD hS hl
    rw [j_id_placeOf_3] at hF
    refine lv_iload hx hb dX6_placeOf_3 (lv_at hl 4 rfl) ?_
    refine lv_aload_n hx hb dX6_placeOf_5 rfl (lv_at hl 0 rfl) ?_
    refine va_get (D := D) (ci := 6) (v := .int x_o_count) (C := RX6) (T := TX6) (N := 4) hx hb hts iw_X6 hown hK hP 0 rfl rfl 3 (by decide) (hts _ kw_171) (fun _ h9 => h9) rfl dX6_placeOf_6 ?_
    refine lv_icmp_ge (tgt := 44) hx hb dX6_placeOf_9 (by decide) (fun c_1 => ?_) (fun c_1 => ?_)
    · replace hF := ite_t hF c_1
      refine lv_iconst (v := (-1 : Int32)) hx hb dX6_placeOf_44 (by decide) ?_
      have hy9 := (Option.some.inj hF).symm
      subst hy9
      exact rt_i C0.1 hP hD hS dX6_placeOf_45
    · replace hF := ite_f hF c_1
      refine lv_aload_n hx hb dX6_placeOf_12 rfl (lv_at hl 0 rfl) ?_
      refine lv_iload hx hb dX6_placeOf_13 (lv_at hl 4 rfl) ?_
      refine lv_lload_n hx hb dX6_placeOf_15 rfl (lv_at hl 1 rfl) ?_
      refine lv_lload_n hx hb dX6_placeOf_16 rfl (lv_at hl 2 rfl) ?_
      obtain ⟨y_2, hy_2, hF⟩ := cal_d hF
      refine cf_i C0.1 hP hD hS [0, 1, 2] [3] [1, 2, 3, 0] (wr := [rI q a_o_serials 8 r_o_serials]) (w' := [oX6 a_o a_o_nameHashes a_o_keyHashes a_o_serials x_o_count, rJ q a_o_keyHashes 8 r_o_keyHashes, rJ q a_o_nameHashes 8 r_o_nameHashes, rI q a_o_serials 8 r_o_serials]) rfl rfl rfl (by decide) rfl rfl (sn_V (As := [.int v_6, .long v_1, .long v_3]) (rest := []) (ci := 6) (q0 := 0) C0 (c_id_isOf l D q t a_o a_o_serials x_o_count a_o_keyHashes r_o_keyHashes a_o_nameHashes r_o_nameHashes v_6 v_1 v_3 y_2 hy_2) (cwV 3 hts (g_V kw_980 kw_855 kw_856 kw_76 kw_857) rfl rfl rfl hd_X6_isOf ⟨Nat.le_of_ble_eq_true rfl, Nat.le_of_ble_eq_true rfl⟩) hP hD hS [0, 1, 2] rfl rfl rfl rfl rfl rfl hl (Nat.le_of_ble_eq_true rfl) dX6_placeOf_17) (fun H locs hP hD hS => ?_)
      refine lv_if_eq (tgt := 38) hx hb dX6_placeOf_20 (by decide) (fun c_3 => ?_) (fun c_3 => ?_)
      · replace hF := ite_t hF c_3
        obtain ⟨v6_4, e_v6_4⟩ : ∃ z : Int32, z = v_6 + (1 : Int32) := ⟨_, rfl⟩
        replace hF := bnd_d hF e_v6_4
        refine lv_iinc (v := v6_4) (lv' := [(6, .int v6_4), (0, .ref a_o), (1, .long v_1), (3, .long v_3), (5, .int v_5)]) hx hb dX6_placeOf_38 hl (k := 4) rfl (by rw [e_v6_4]; rfl) (by decide) rfl (fun ls hl => ?_)
        refine lv_goto (tgt := 3) hx hb dX6_placeOf_41 (by decide) ?_
        exact ih x_o_count r_o_keyHashes r_o_nameHashes r_o_serials v_1 v_3 v_5 v6_4 y hF H locs ls hP hD hS (lv_sub hl [1, 2, 3, 4, 0] rfl)
      · replace hF := ite_f hF c_3
        refine lv_aload_n hx hb dX6_placeOf_23 rfl (lv_at hl 0 rfl) ?_
        refine va_get (D := D) (ci := 6) (v := .ref a_o_serials) (C := RX6) (T := TX6) (N := 4) hx hb hts iw_X6 hown hK hP 0 rfl rfl 2 (by decide) (hts _ kw_168) (fun _ h9 => h9) rfl dX6_placeOf_24 ?_
        refine lv_iload hx hb dX6_placeOf_27 (lv_at hl 4 rfl) ?_
        obtain ⟨z_5, hF⟩ := chk_d hF
        refine va_iald hx hb hK hP 3 1 rfl rfl z_5 dX6_placeOf_29 ?_
        refine lv_iload hx hb dX6_placeOf_30 (lv_at hl 3 rfl) ?_
        refine lv_icmp_ne (tgt := 38) hx hb dX6_placeOf_32 (by decide) (fun c_6 => ?_) (fun c_6 => ?_)
        · replace hF := ite_f hF c_6
          obtain ⟨v6_7, e_v6_7⟩ : ∃ z : Int32, z = v_6 + (1 : Int32) := ⟨_, rfl⟩
          replace hF := bnd_d hF e_v6_7
          refine lv_iinc (v := v6_7) (lv' := [(6, .int v6_7), (0, .ref a_o), (1, .long v_1), (3, .long v_3), (5, .int v_5)]) hx hb dX6_placeOf_38 hl (k := 4) rfl (by rw [e_v6_7]; rfl) (by decide) rfl (fun ls hl => ?_)
          refine lv_goto (tgt := 3) hx hb dX6_placeOf_41 (by decide) ?_
          exact ih x_o_count r_o_keyHashes r_o_nameHashes r_o_serials v_1 v_3 v_5 v6_7 y hF H locs ls hP hD hS (lv_sub hl [1, 2, 3, 4, 0] rfl)
        · replace hF := ite_t hF c_6
          refine lv_iload hx hb dX6_placeOf_35 (lv_at hl 4 rfl) ?_
          have hy9 := (Option.some.inj hF).symm
          subst hy9
          exact rt_i C0.1 hP hD hS dX6_placeOf_37
set_option maxHeartbeats 4000000 in
set_option maxRecDepth 100000 in
theorem c_id_placeOf (l : Launch) (D : va_G) (q : Nat → ClassId) (t : Nat) (a_o : Nat) (x_o_count : Int32) (a_o_keyHashes : Nat) (r_o_keyHashes : (Nat → Int64)) (a_o_nameHashes : Nat) (r_o_nameHashes : (Nat → Int64)) (a_o_serials : Nat) (r_o_serials : (Nat → Int32)) (p_0 : Int64) (p_1 : Int64) (p_2 : Int32) (y : Int32) (hF : f_id_placeOf x_o_count r_o_keyHashes r_o_nameHashes r_o_serials p_0 p_1 p_2 = some y)  : cu l yX6_placeOf (vs yX6_placeOf cX6_placeOf 7 (some .int)) ({ frames := 1, cells := 0, slots := 0, locals := 25 }) D q t [.ref a_o, .long p_0, .long p_1, .int p_2] [oX6 a_o a_o_nameHashes a_o_keyHashes a_o_serials x_o_count, rJ q a_o_keyHashes 8 r_o_keyHashes, rJ q a_o_nameHashes 8 r_o_nameHashes, rI q a_o_serials 8 r_o_serials] (qI D q y [oX6 a_o a_o_nameHashes a_o_keyHashes a_o_serials x_o_count, rJ q a_o_keyHashes 8 r_o_keyHashes, rJ q a_o_nameHashes 8 r_o_nameHashes, rI q a_o_serials 8 r_o_serials]) := by
  refine cu_of (cc := cX6_placeOf) (nL := 7) (ret := (some .int)) (by decide) (Nat.le_of_ble_eq_true rfl) (fun {p e s m args below meth c A} C0 H locs ls hP hD hS hl => ?_)
  have C0 : cy p s m args meth c cX6_placeOf (some .int) 7 RX6 D q t A := C0
  obtain ⟨⟨hx, hb, hr, hml, hown, hts, hlocks, hK, hA⟩, hG⟩ := id C0
  have hl : lv_has ls 7 [(0, .ref a_o), (1, .long p_0), (3, .long p_1), (5, .int p_2)] := hl
  unfold f_id_placeOf at hF
  refine lv_iconst (v := (0 : Int32)) hx hb dX6_placeOf_0 (by decide) ?_
  refine lv_istore (lv' := [(6, .int (0 : Int32)), (0, .ref a_o), (1, .long p_0), (3, .long p_1), (5, .int p_2)]) hx hb dX6_placeOf_1 hl (by decide) rfl (fun ls hl => ?_)
  exact w_id_placeOf_3 C0 a_o a_o_keyHashes a_o_nameHashes a_o_serials FU x_o_count r_o_keyHashes r_o_nameHashes r_o_serials p_0 p_1 p_2 (0 : Int32) y hF H locs ls hP hD hS (lv_sub hl [1, 2, 3, 4, 0] rfl)
set_option maxHeartbeats 4000000 in
set_option maxRecDepth 100000 in
theorem c_nu_isSecret (l : Launch) (D : va_G) (q : Nat → ClassId) (t : Nat)  (p_0 : Int32) (y : Int32) (hF : f_nu_isSecret p_0 = some y)  : cu l yX7_isSecret (vs yX7_isSecret cX7_isSecret 1 (some .boolean)) ({ frames := 0, cells := 0, slots := 0, locals := 0 }) D q t [.int p_0] [] (qI D q y []) := by
  refine cu_of (cc := cX7_isSecret) (nL := 1) (ret := (some .boolean)) (by decide) (Nat.le_of_ble_eq_true rfl) (fun {p e s m args below meth c A} C0 H locs ls hP hD hS hl => ?_)
  have C0 : cy p s m args meth c cX7_isSecret (some .boolean) 1 RX7 D q t A := C0
  obtain ⟨⟨hx, hb, hr, hml, hown, hts, hlocks, hK, hA⟩, hG⟩ := id C0
  have hl : lv_has ls 1 [(0, .int p_0)] := hl
  unfold f_nu_isSecret at hF
  refine lv_iload_n hx hb dX7_isSecret_0 rfl (lv_at hl 0 rfl) ?_
  refine lv_iconst (v := (1 : Int32)) hx hb dX7_isSecret_1 (by decide) ?_
  refine lv_icmp_lt (tgt := 18) hx hb dX7_isSecret_2 (by decide) (fun c_1 => ?_) (fun c_1 => ?_)
  · replace hF := ite_t hF c_1
    refine lv_iconst (v := (0 : Int32)) hx hb dX7_isSecret_18 (by decide) ?_
    have hy9 := (Option.some.inj hF).symm
    subst hy9
    exact rt_z (v := (0 : Int32)) C0.1 rfl hP hD hS dX7_isSecret_19
  · replace hF := ite_f hF c_1
    refine lv_iload_n hx hb dX7_isSecret_5 rfl (lv_at hl 0 rfl) ?_
    refine lv_i2l hx hb dX7_isSecret_6 rfl ?_
    refine lv_ldc2 (v := (1073741789 : Int64)) hx hb hown (hts _ kw_581) dX7_isSecret_7 ?_
    refine W.lcmp hx hb dX7_isSecret_10 ?_
    refine lv_if_ge (tgt := 18) hx hb dX7_isSecret_11 (by decide) (fun c_2 => ?_) (fun c_2 => ?_)
    · replace hF := ite_t hF ((lg_cmp_ge _ _).mp c_2)
      refine lv_iconst (v := (0 : Int32)) hx hb dX7_isSecret_18 (by decide) ?_
      have hy9 := (Option.some.inj hF).symm
      subst hy9
      exact rt_z (v := (0 : Int32)) C0.1 rfl hP hD hS dX7_isSecret_19
    · replace hF := ite_f hF (fun h => c_2 ((lg_cmp_ge _ _).mpr h))
      refine lv_iconst (v := (1 : Int32)) hx hb dX7_isSecret_14 (by decide) ?_
      refine lv_goto (tgt := 19) hx hb dX7_isSecret_15 (by decide) ?_
      have hy9 := (Option.some.inj hF).symm
      subst hy9
      exact rt_z (v := (1 : Int32)) C0.1 rfl hP hD hS dX7_isSecret_19
set_option maxHeartbeats 4000000 in
set_option maxRecDepth 100000 in
theorem c_nu_hashOfBoth (l : Launch) (D : va_G) (q : Nat → ClassId) (t : Nat)  (p_0 : Int64) (p_1 : Int64) (y : Int64) (hF : f_nu_hashOfBoth p_0 p_1 = some y)  : cu l yX7_hashOfBoth (vs yX7_hashOfBoth cX7_hashOfBoth 4 (some .long)) ({ frames := 2, cells := 0, slots := 0, locals := 50 }) D q t [.long p_0, .long p_1] [] (qL D q y []) := by
  refine cu_of (cc := cX7_hashOfBoth) (nL := 4) (ret := (some .long)) (by decide) (Nat.le_of_ble_eq_true rfl) (fun {p e s m args below meth c A} C0 H locs ls hP hD hS hl => ?_)
  have C0 : cy p s m args meth c cX7_hashOfBoth (some .long) 4 RX7 D q t A := C0
  obtain ⟨⟨hx, hb, hr, hml, hown, hts, hlocks, hK, hA⟩, hG⟩ := id C0
  have hl : lv_has ls 4 [(0, .long p_0), (2, .long p_1)] := hl
  unfold f_nu_hashOfBoth at hF
  refine lv_ldc2 (v := (7640891576956012809 : Int64)) hx hb hown (hts _ kw_615) dX7_hashOfBoth_0 ?_
  refine lv_lload_n hx hb dX7_hashOfBoth_3 rfl (lv_at hl 0 rfl) ?_
  obtain ⟨y_1, hy_1, hF⟩ := cal_d hF
  refine cf_l C0.1 hP hD hS [] [] [] (wr := []) (w' := []) rfl rfl rfl (by decide) rfl rfl (sn_S (As := [.long (7640891576956012809 : Int64), .long p_0]) (rest := []) C0 (c_nu_hashLong l D q t  (7640891576956012809 : Int64) p_0 y_1 hy_1) (va_cwS 2 hts (g_S kw_616 kw_617 kw_84 kw_618) rfl rfl rfl hd_X7_hashLong ⟨Nat.le_of_ble_eq_true rfl, Nat.le_of_ble_eq_true rfl⟩) hP hD hS [] rfl rfl rfl hl (Nat.le_of_ble_eq_true rfl) dX7_hashOfBoth_4) (fun H locs hP hD hS => ?_)
  refine lv_lload_n hx hb dX7_hashOfBoth_7 rfl (lv_at hl 1 rfl) ?_
  obtain ⟨y_2, hy_2, hF⟩ := cal_d hF
  refine cf_l C0.1 hP hD hS [] [] [] (wr := []) (w' := []) rfl rfl rfl (by decide) rfl rfl (sn_S (As := [.long y_1, .long p_1]) (rest := []) C0 (c_nu_hashLong l D q t  y_1 p_1 y_2 hy_2) (va_cwS 2 hts (g_S kw_616 kw_617 kw_84 kw_618) rfl rfl rfl hd_X7_hashLong ⟨Nat.le_of_ble_eq_true rfl, Nat.le_of_ble_eq_true rfl⟩) hP hD hS [] rfl rfl rfl hl (Nat.le_of_ble_eq_true rfl) dX7_hashOfBoth_8) (fun H locs hP hD hS => ?_)
  obtain ⟨y_3, hy_3, hF⟩ := cal_d hF
  refine cf_l C0.1 hP hD hS [] [] [] (wr := []) (w' := []) rfl rfl rfl (by decide) rfl rfl (sn_S (As := [.long y_2]) (rest := []) C0 (c_nu_hashEnd l D q t  y_2 y_3 hy_3) (va_cwS 1 hts (g_S kw_620 kw_609 kw_84 kw_610) rfl rfl rfl hd_X7_hashEnd ⟨Nat.le_of_ble_eq_true rfl, Nat.le_of_ble_eq_true rfl⟩) hP hD hS [] rfl rfl rfl hl (Nat.le_of_ble_eq_true rfl) dX7_hashOfBoth_11) (fun H locs hP hD hS => ?_)
  have hy9 := (Option.some.inj hF).symm
  subst hy9
  exact rt_l C0.1 hP hD hS dX7_hashOfBoth_14
set_option maxHeartbeats 4000000 in
set_option maxRecDepth 100000 in
theorem c_nu_remainder (l : Launch) (D : va_G) (q : Nat → ClassId) (t : Nat)  (p_0 : Int64) (p_1 : Int64) (y : Int64) (hF : f_nu_remainder p_0 p_1 = some y)  : cu l yX7_remainder (vs yX7_remainder cX7_remainder 4 (some .long)) ({ frames := 0, cells := 0, slots := 0, locals := 0 }) D q t [.long p_0, .long p_1] [] (qL D q y []) := by
  refine cu_of (cc := cX7_remainder) (nL := 4) (ret := (some .long)) (by decide) (Nat.le_of_ble_eq_true rfl) (fun {p e s m args below meth c A} C0 H locs ls hP hD hS hl => ?_)
  have C0 : cy p s m args meth c cX7_remainder (some .long) 4 RX7 D q t A := C0
  obtain ⟨⟨hx, hb, hr, hml, hown, hts, hlocks, hK, hA⟩, hG⟩ := id C0
  have hl : lv_has ls 4 [(0, .long p_0), (2, .long p_1)] := hl
  unfold f_nu_remainder at hF
  refine lv_lload_n hx hb dX7_remainder_0 rfl (lv_at hl 1 rfl) ?_
  refine lv_lconst (v := (0 : Int64)) hx hb dX7_remainder_1 (by decide) ?_
  refine W.lcmp hx hb dX7_remainder_2 ?_
  refine lv_if_gt (tgt := 8) hx hb dX7_remainder_3 (by decide) (fun c_1 => ?_) (fun c_1 => ?_)
  · replace hF := ite_t hF ((lg_cmp_gt _ _).mp c_1)
    refine lv_lload_n hx hb dX7_remainder_8 rfl (lv_at hl 0 rfl) ?_
    refine lv_iconst (v := (1 : Int32)) hx hb dX7_remainder_9 (by decide) ?_
    refine lv_lushr hx hb dX7_remainder_10 rfl ?_
    refine lv_lload_n hx hb dX7_remainder_11 rfl (lv_at hl 1 rfl) ?_
    obtain ⟨z_2, hF⟩ := chk_d hF
    refine lv_lrem hx hb dX7_remainder_12 z_2 ?_
    refine lv_ldc2 (v := (2 : Int64)) hx hb hown (hts _ kw_731) dX7_remainder_13 ?_
    refine lv_lmul hx hb dX7_remainder_16 ?_
    refine lv_lload_n hx hb dX7_remainder_17 rfl (lv_at hl 0 rfl) ?_
    refine lv_lconst (v := (1 : Int64)) hx hb dX7_remainder_18 (by decide) ?_
    refine lv_land hx hb dX7_remainder_19 ?_
    refine lv_ladd hx hb dX7_remainder_20 ?_
    refine lv_lload_n hx hb dX7_remainder_21 rfl (lv_at hl 1 rfl) ?_
    obtain ⟨z_3, hF⟩ := chk_d hF
    refine lv_lrem hx hb dX7_remainder_22 z_3 ?_
    have hy9 := (Option.some.inj hF).symm
    subst hy9
    exact rt_l C0.1 hP hD hS dX7_remainder_23
  · replace hF := ite_f hF (fun h => c_1 ((lg_cmp_gt _ _).mpr h))
    refine lv_lconst (v := (0 : Int64)) hx hb dX7_remainder_6 (by decide) ?_
    have hy9 := (Option.some.inj hF).symm
    subst hy9
    exact rt_l C0.1 hP hD hS dX7_remainder_7
set_option maxHeartbeats 4000000 in
set_option maxRecDepth 100000 in
theorem c_nu_signature (l : Launch) (D : va_G) (q : Nat → ClassId) (t : Nat)  (p_0 : Int32) (p_1 : Int64) (y : Int64) (hF : f_nu_signature p_0 p_1 = some y)  : cu l yX7_signature (vs yX7_signature cX7_signature 9 (some .long)) ({ frames := 3, cells := 0, slots := 0, locals := 73 }) D q t [.int p_0, .long p_1] [] (qL D q y []) := by
  refine cu_of (cc := cX7_signature) (nL := 9) (ret := (some .long)) (by decide) (Nat.le_of_ble_eq_true rfl) (fun {p e s m args below meth c A} C0 H locs ls hP hD hS hl => ?_)
  have C0 : cy p s m args meth c cX7_signature (some .long) 9 RX7 D q t A := C0
  obtain ⟨⟨hx, hb, hr, hml, hown, hts, hlocks, hK, hA⟩, hG⟩ := id C0
  have hl : lv_has ls 9 [(0, .int p_0), (1, .long p_1)] := hl
  unfold f_nu_signature at hF
  refine lv_lconst (v := (1 : Int64)) hx hb dX7_signature_0 (by decide) ?_
  refine lv_iload_n hx hb dX7_signature_1 rfl (lv_at hl 0 rfl) ?_
  refine lv_i2l hx hb dX7_signature_2 rfl ?_
  refine lv_lload_n hx hb dX7_signature_3 rfl (lv_at hl 1 rfl) ?_
  obtain ⟨y_1, hy_1, hF⟩ := cal_d hF
  refine cf_l C0.1 hP hD hS [] [] [] (wr := []) (w' := []) rfl rfl rfl (by decide) rfl rfl (sn_S (As := [.long p_0.toInt64, .long p_1]) (rest := [.long (1 : Int64)]) C0 (c_nu_hashOfBoth l D q t  p_0.toInt64 p_1 y_1 hy_1) (va_cwS 2 hts (g_S kw_724 kw_725 kw_84 kw_726) rfl rfl rfl hd_X7_hashOfBoth ⟨Nat.le_of_ble_eq_true rfl, Nat.le_of_ble_eq_true rfl⟩) hP hD hS [] rfl rfl rfl hl (Nat.le_of_ble_eq_true rfl) dX7_signature_4) (fun H locs hP hD hS => ?_)
  refine lv_ldc2 (v := (1073741788 : Int64)) hx hb hown (hts _ kw_727) dX7_signature_7 ?_
  obtain ⟨y_2, hy_2, hF⟩ := cal_d hF
  refine cf_l C0.1 hP hD hS [] [] [] (wr := []) (w' := []) rfl rfl rfl (by decide) rfl rfl (sn_S (As := [.long y_1, .long (1073741788 : Int64)]) (rest := [.long (1 : Int64)]) C0 (c_nu_remainder l D q t  y_1 (1073741788 : Int64) y_2 hy_2) (va_cwS 2 hts (g_S kw_728 kw_729 kw_84 kw_730) rfl rfl rfl hd_X7_remainder ⟨Nat.le_of_ble_eq_true rfl, Nat.le_of_ble_eq_true rfl⟩) hP hD hS [] rfl rfl rfl hl (Nat.le_of_ble_eq_true rfl) dX7_signature_10) (fun H locs hP hD hS => ?_)
  refine lv_ladd hx hb dX7_signature_13 ?_
  refine lv_topl (fun v3_3 e_v3_3 => ?_)
  replace hF := bnd_d hF e_v3_3
  refine lv_lstore_n (lv' := [(3, .long v3_3), (0, .int p_0), (1, .long p_1)]) hx hb dX7_signature_14 rfl hl (by decide) rfl (fun ls hl => ?_)
  refine lv_ldc2 (v := (4 : Int64)) hx hb hown (hts _ kw_594) dX7_signature_15 ?_
  refine lv_lload_n hx hb dX7_signature_18 rfl (lv_at hl 0 rfl) ?_
  obtain ⟨y_4, hy_4, hF⟩ := cal_d hF
  refine cf_l C0.1 hP hD hS [] [] [] (wr := []) (w' := []) rfl rfl rfl (by decide) rfl rfl (sn_S (As := [.long (4 : Int64), .long v3_3]) (rest := []) C0 (c_nu_power l D q t  (4 : Int64) v3_3 y_4 hy_4) (va_cwS 2 hts (g_S kw_595 kw_596 kw_84 kw_597) rfl rfl rfl hd_X7_power ⟨Nat.le_of_ble_eq_true rfl, Nat.le_of_ble_eq_true rfl⟩) hP hD hS [] rfl rfl rfl hl (Nat.le_of_ble_eq_true rfl) dX7_signature_19) (fun H locs hP hD hS => ?_)
  refine lv_lload_n hx hb dX7_signature_22 rfl (lv_at hl 2 rfl) ?_
  obtain ⟨y_5, hy_5, hF⟩ := cal_d hF
  refine cf_l C0.1 hP hD hS [] [] [] (wr := []) (w' := []) rfl rfl rfl (by decide) rfl rfl (sn_S (As := [.long y_4, .long p_1]) (rest := []) C0 (c_nu_hashOfBoth l D q t  y_4 p_1 y_5 hy_5) (va_cwS 2 hts (g_S kw_724 kw_725 kw_84 kw_726) rfl rfl rfl hd_X7_hashOfBoth ⟨Nat.le_of_ble_eq_true rfl, Nat.le_of_ble_eq_true rfl⟩) hP hD hS [] rfl rfl rfl hl (Nat.le_of_ble_eq_true rfl) dX7_signature_23) (fun H locs hP hD hS => ?_)
  refine lv_ldc2 (v := (1073741789 : Int64)) hx hb hown (hts _ kw_581) dX7_signature_26 ?_
  obtain ⟨y_6, hy_6, hF⟩ := cal_d hF
  refine cf_l C0.1 hP hD hS [] [] [] (wr := []) (w' := []) rfl rfl rfl (by decide) rfl rfl (sn_S (As := [.long y_5, .long (1073741789 : Int64)]) (rest := []) C0 (c_nu_remainder l D q t  y_5 (1073741789 : Int64) y_6 hy_6) (va_cwS 2 hts (g_S kw_728 kw_729 kw_84 kw_730) rfl rfl rfl hd_X7_remainder ⟨Nat.le_of_ble_eq_true rfl, Nat.le_of_ble_eq_true rfl⟩) hP hD hS [] rfl rfl rfl hl (Nat.le_of_ble_eq_true rfl) dX7_signature_29) (fun H locs hP hD hS => ?_)
  refine lv_lstore (lv' := [(5, .long y_6), (3, .long v3_3), (0, .int p_0), (1, .long p_1)]) hx hb dX7_signature_32 hl (by decide) rfl (fun ls hl => ?_)
  refine lv_lload_n hx hb dX7_signature_34 rfl (lv_at hl 1 rfl) ?_
  refine lv_lload hx hb dX7_signature_35 (lv_at hl 0 rfl) ?_
  refine lv_iload_n hx hb dX7_signature_37 rfl (lv_at hl 2 rfl) ?_
  refine lv_i2l hx hb dX7_signature_38 rfl ?_
  refine lv_lmul hx hb dX7_signature_39 ?_
  refine lv_ladd hx hb dX7_signature_40 ?_
  refine lv_ldc2 (v := (1073741789 : Int64)) hx hb hown (hts _ kw_581) dX7_signature_41 ?_
  refine lv_lrem hx hb dX7_signature_44 (by decide) ?_
  refine lv_topl (fun v7_7 e_v7_7 => ?_)
  replace hF := bnd_d hF e_v7_7
  refine lv_lstore (lv' := [(7, .long v7_7), (5, .long y_6), (3, .long v3_3), (0, .int p_0), (1, .long p_1)]) hx hb dX7_signature_45 hl (by decide) rfl (fun ls hl => ?_)
  refine lv_lload hx hb dX7_signature_47 (lv_at hl 1 rfl) ?_
  refine lv_bipush (v := (32 : Int32)) hx hb dX7_signature_49 (by decide) ?_
  refine lv_lshl hx hb dX7_signature_51 rfl ?_
  refine lv_lload hx hb dX7_signature_52 (lv_at hl 0 rfl) ?_
  refine lv_lor hx hb dX7_signature_54 ?_
  have hy9 := (Option.some.inj hF).symm
  subst hy9
  exact rt_l C0.1 hP hD hS dX7_signature_55
set_option maxHeartbeats 4000000 in
set_option maxRecDepth 100000 in
theorem c_nu_isRight (l : Launch) (D : va_G) (q : Nat → ClassId) (t : Nat)  (p_0 : Int64) (p_1 : Int64) (p_2 : Int64) (y : Int32) (hF : f_nu_isRight p_0 p_1 p_2 = some y)  : cu l yX7_isRight (vs yX7_isRight cX7_isRight 12 (some .boolean)) ({ frames := 3, cells := 0, slots := 0, locals := 73 }) D q t [.long p_0, .long p_1, .long p_2] [] (qI D q y []) := by
  refine cu_of (cc := cX7_isRight) (nL := 12) (ret := (some .boolean)) (by decide) (Nat.le_of_ble_eq_true rfl) (fun {p e s m args below meth c A} C0 H locs ls hP hD hS hl => ?_)
  have C0 : cy p s m args meth c cX7_isRight (some .boolean) 12 RX7 D q t A := C0
  obtain ⟨⟨hx, hb, hr, hml, hown, hts, hlocks, hK, hA⟩, hG⟩ := id C0
  have hl : lv_has ls 12 [(0, .long p_0), (2, .long p_1), (4, .long p_2)] := hl
  unfold f_nu_isRight at hF
  refine lv_lload_n hx hb dX7_isRight_0 rfl (lv_at hl 0 rfl) ?_
  refine lv_bipush (v := (32 : Int32)) hx hb dX7_isRight_1 (by decide) ?_
  refine lv_lushr hx hb dX7_isRight_3 rfl ?_
  refine lv_topl (fun v6_1 e_v6_1 => ?_)
  replace hF := bnd_d hF e_v6_1
  refine lv_lstore (lv' := [(6, .long v6_1), (0, .long p_0), (2, .long p_1), (4, .long p_2)]) hx hb dX7_isRight_4 hl (by decide) rfl (fun ls hl => ?_)
  refine lv_lload_n hx hb dX7_isRight_6 rfl (lv_at hl 1 rfl) ?_
  refine lv_ldc2 (v := (4294967295 : Int64)) hx hb hown (hts _ kw_1003) dX7_isRight_7 ?_
  refine lv_land hx hb dX7_isRight_10 ?_
  refine lv_topl (fun v8_2 e_v8_2 => ?_)
  replace hF := bnd_d hF e_v8_2
  refine lv_lstore (lv' := [(8, .long v8_2), (6, .long v6_1), (0, .long p_0), (2, .long p_1), (4, .long p_2)]) hx hb dX7_isRight_11 hl (by decide) rfl (fun ls hl => ?_)
  refine lv_lload hx hb dX7_isRight_13 (lv_at hl 1 rfl) ?_
  refine lv_ldc2 (v := (1073741789 : Int64)) hx hb hown (hts _ kw_581) dX7_isRight_15 ?_
  refine W.lcmp hx hb dX7_isRight_18 ?_
  refine lv_if_ge (tgt := 31) hx hb dX7_isRight_19 (by decide) (fun c_3 => ?_) (fun c_3 => ?_)
  · replace hF := ite_t hF ((lg_cmp_ge _ _).mp c_3)
    refine lv_iconst (v := (0 : Int32)) hx hb dX7_isRight_31 (by decide) ?_
    have hy9 := (Option.some.inj hF).symm
    subst hy9
    exact rt_z (v := (0 : Int32)) C0.1 rfl hP hD hS dX7_isRight_32
  · replace hF := ite_f hF (fun h => c_3 ((lg_cmp_ge _ _).mpr h))
    refine lv_lload hx hb dX7_isRight_22 (lv_at hl 0 rfl) ?_
    refine lv_ldc2 (v := (1073741789 : Int64)) hx hb hown (hts _ kw_581) dX7_isRight_24 ?_
    refine W.lcmp hx hb dX7_isRight_27 ?_
    refine lv_if_lt (tgt := 33) hx hb dX7_isRight_28 (by decide) (fun c_4 => ?_) (fun c_4 => ?_)
    · replace hF := ite_t hF ((lg_cmp_lt _ _).mp c_4)
      refine lv_ldc2 (v := (4 : Int64)) hx hb hown (hts _ kw_594) dX7_isRight_33 ?_
      refine lv_lload hx hb dX7_isRight_36 (lv_at hl 0 rfl) ?_
      obtain ⟨y_5, hy_5, hF⟩ := cal_d hF
      refine cf_l C0.1 hP hD hS [] [] [] (wr := []) (w' := []) rfl rfl rfl (by decide) rfl rfl (sn_S (As := [.long (4 : Int64), .long v8_2]) (rest := []) C0 (c_nu_power l D q t  (4 : Int64) v8_2 y_5 hy_5) (va_cwS 2 hts (g_S kw_595 kw_596 kw_84 kw_597) rfl rfl rfl hd_X7_power ⟨Nat.le_of_ble_eq_true rfl, Nat.le_of_ble_eq_true rfl⟩) hP hD hS [] rfl rfl rfl hl (Nat.le_of_ble_eq_true rfl) dX7_isRight_38) (fun H locs hP hD hS => ?_)
      refine lv_lload_n hx hb dX7_isRight_41 rfl (lv_at hl 3 rfl) ?_
      refine lv_ldc2 (v := (1073741789 : Int64)) hx hb hown (hts _ kw_581) dX7_isRight_42 ?_
      refine lv_lload hx hb dX7_isRight_45 (lv_at hl 1 rfl) ?_
      refine lv_lsub hx hb dX7_isRight_47 ?_
      obtain ⟨y_6, hy_6, hF⟩ := cal_d hF
      refine cf_l C0.1 hP hD hS [] [] [] (wr := []) (w' := []) rfl rfl rfl (by decide) rfl rfl (sn_S (As := [.long p_1, .long ((1073741789 : Int64) - v6_1)]) (rest := [.long y_5]) C0 (c_nu_power l D q t  p_1 ((1073741789 : Int64) - v6_1) y_6 hy_6) (va_cwS 2 hts (g_S kw_595 kw_596 kw_84 kw_597) rfl rfl rfl hd_X7_power ⟨Nat.le_of_ble_eq_true rfl, Nat.le_of_ble_eq_true rfl⟩) hP hD hS [] rfl rfl rfl hl (Nat.le_of_ble_eq_true rfl) dX7_isRight_48) (fun H locs hP hD hS => ?_)
      refine lv_lmul hx hb dX7_isRight_51 ?_
      refine lv_ldc2 (v := (2147483579 : Int64)) hx hb hown (hts _ kw_598) dX7_isRight_52 ?_
      refine lv_lrem hx hb dX7_isRight_55 (by decide) ?_
      refine lv_topl (fun v10_7 e_v10_7 => ?_)
      replace hF := bnd_d hF e_v10_7
      refine lv_lstore (lv' := [(10, .long v10_7), (8, .long v8_2), (6, .long v6_1), (0, .long p_0), (2, .long p_1), (4, .long p_2)]) hx hb dX7_isRight_56 hl (by decide) rfl (fun ls hl => ?_)
      refine lv_lload hx hb dX7_isRight_58 (lv_at hl 2 rfl) ?_
      refine lv_lload hx hb dX7_isRight_60 (lv_at hl 0 rfl) ?_
      refine lv_lload hx hb dX7_isRight_62 (lv_at hl 5 rfl) ?_
      obtain ⟨y_8, hy_8, hF⟩ := cal_d hF
      refine cf_l C0.1 hP hD hS [] [] [] (wr := []) (w' := []) rfl rfl rfl (by decide) rfl rfl (sn_S (As := [.long v10_7, .long p_2]) (rest := [.long v6_1]) C0 (c_nu_hashOfBoth l D q t  v10_7 p_2 y_8 hy_8) (va_cwS 2 hts (g_S kw_724 kw_725 kw_84 kw_726) rfl rfl rfl hd_X7_hashOfBoth ⟨Nat.le_of_ble_eq_true rfl, Nat.le_of_ble_eq_true rfl⟩) hP hD hS [] rfl rfl rfl hl (Nat.le_of_ble_eq_true rfl) dX7_isRight_64) (fun H locs hP hD hS => ?_)
      refine lv_ldc2 (v := (1073741789 : Int64)) hx hb hown (hts _ kw_581) dX7_isRight_67 ?_
      obtain ⟨y_9, hy_9, hF⟩ := cal_d hF
      refine cf_l C0.1 hP hD hS [] [] [] (wr := []) (w' := []) rfl rfl rfl (by decide) rfl rfl (sn_S (As := [.long y_8, .long (1073741789 : Int64)]) (rest := [.long v6_1]) C0 (c_nu_remainder l D q t  y_8 (1073741789 : Int64) y_9 hy_9) (va_cwS 2 hts (g_S kw_728 kw_729 kw_84 kw_730) rfl rfl rfl hd_X7_remainder ⟨Nat.le_of_ble_eq_true rfl, Nat.le_of_ble_eq_true rfl⟩) hP hD hS [] rfl rfl rfl hl (Nat.le_of_ble_eq_true rfl) dX7_isRight_70) (fun H locs hP hD hS => ?_)
      refine W.lcmp hx hb dX7_isRight_73 ?_
      refine lv_if_ne (tgt := 81) hx hb dX7_isRight_74 (by decide) (fun c_10 => ?_) (fun c_10 => ?_)
      · replace hF := ite_f hF (fun h => c_10 ((lg_cmp_eq _ _).mpr h))
        refine lv_iconst (v := (0 : Int32)) hx hb dX7_isRight_81 (by decide) ?_
        have hy9 := (Option.some.inj hF).symm
        subst hy9
        exact rt_z (v := (0 : Int32)) C0.1 rfl hP hD hS dX7_isRight_82
      · replace hF := ite_t hF ((lg_cmp_eq _ _).mp c_10)
        refine lv_iconst (v := (1 : Int32)) hx hb dX7_isRight_77 (by decide) ?_
        refine lv_goto (tgt := 82) hx hb dX7_isRight_78 (by decide) ?_
        have hy9 := (Option.some.inj hF).symm
        subst hy9
        exact rt_z (v := (1 : Int32)) C0.1 rfl hP hD hS dX7_isRight_82
    · replace hF := ite_f hF (fun h => c_4 ((lg_cmp_lt _ _).mpr h))
      refine lv_iconst (v := (0 : Int32)) hx hb dX7_isRight_31 (by decide) ?_
      have hy9 := (Option.some.inj hF).symm
      subst hy9
      exact rt_z (v := (0 : Int32)) C0.1 rfl hP hD hS dX7_isRight_32
set_option maxHeartbeats 4000000 in
set_option maxRecDepth 100000 in
theorem c_sc_begin (l : Launch) (D : va_G) (q : Nat → ClassId) (t : Nat) (a_o : Nat) (a_o_outerEnds : Nat) (a_o_data : Nat) (x_o_depth : Int32) (x_o_end : Int32) (x_o_at : Int32) (x_o_place : Int32) (x_o_size : Int32) (x_o_fault : Int32) (x_o_items : Int32) (a_p0 : Nat) (x_p0_length : Int32) (a_p0_data : Nat) (n_p0_data : Nat) (r_p0_data : (Nat → Int32))  (y : Int32 × Int32 × Int32 × Int32 × Int32 × Int32 × Int32) (hF : f_sc_begin x_o_at x_o_depth x_o_end x_o_fault x_o_items x_o_place x_o_size x_p0_length n_p0_data = some y)  : cu l yX8_begin (vs yX8_begin cX8_begin 2 none) ({ frames := 1, cells := 0, slots := 0, locals := 24 }) D q t [.ref a_o, .ref a_p0] [oX8 a_o a_o_outerEnds a_o_data x_o_depth x_o_end x_o_at x_o_place x_o_size x_o_fault x_o_items, oX3 a_p0 a_p0_data x_p0_length, rB q a_p0_data n_p0_data r_p0_data] (qV D q [oX8 a_o a_o_outerEnds a_p0_data y.2.1 y.2.2.1 y.1 y.2.2.2.2.2.1 y.2.2.2.2.2.2 y.2.2.2.1 y.2.2.2.2.1, oX3 a_p0 a_p0_data x_p0_length, rB q a_p0_data n_p0_data r_p0_data]) := by
  refine cu_of (cc := cX8_begin) (nL := 2) (ret := none) (by decide) (Nat.le_of_ble_eq_true rfl) (fun {p e s m args below meth c A} C0 H locs ls hP hD hS hl => ?_)
  have C0 : cy p s m args meth c cX8_begin none 2 RX8 D q t A := C0
  obtain ⟨⟨hx, hb, hr, hml, hown, hts, hlocks, hK, hA⟩, hG⟩ := id C0
  have hl : lv_has ls 2 [(0, .ref a_o), (1, .ref a_p0)] := hl
  unfold f_sc_begin at hF
  refine lv_aload_n hx hb dX8_begin_0 rfl (lv_at hl 0 rfl) ?_
  refine lv_aload_n hx hb dX8_begin_1 rfl (lv_at hl 1 rfl) ?_
  refine va_get (D := D) (ci := 3) (v := .ref a_p0_data) (C := RX3) (T := TX3) (N := 2) hx hb hts iw_X3 hown hK hP 1 rfl rfl 0 (by decide) (hts _ kw_104) (fun _ h9 => h9) rfl dX8_begin_2 ?_
  refine va_put (D := D) (ci := 7) (v := .ref a_p0_data) (ty := (.array .byte)) (C := RX8) (T := TX8) (N := 9) hx hb hts iw_X8 tyX8 tyX8_ok nmX8 hown hK hP hD hS 0 rfl rfl 1 (by decide) (hts _ kw_195) (fun _ h9 => h9) rfl (by decide +kernel) rfl rfl (Nat.le_of_ble_eq_true rfl) dX8_begin_5 (fun H locs hP hD hS => ?_)
  have hP : va_P D vwCl ([oX8 a_o a_o_outerEnds a_p0_data x_o_depth x_o_end x_o_at x_o_place x_o_size x_o_fault x_o_items, oX3 a_p0 a_p0_data x_p0_length, rB q a_p0_data n_p0_data r_p0_data]) H := hP
  have hD : va_D A ([oX8 a_o a_o_outerEnds a_p0_data x_o_depth x_o_end x_o_at x_o_place x_o_size x_o_fault x_o_items, oX3 a_p0 a_p0_data x_p0_length, rB q a_p0_data n_p0_data r_p0_data]) := hD
  refine lv_aload_n hx hb dX8_begin_8 rfl (lv_at hl 0 rfl) ?_
  refine lv_iconst (v := (0 : Int32)) hx hb dX8_begin_9 (by decide) ?_
  refine va_put (D := D) (ci := 7) (v := .int (0 : Int32)) (ty := .int) (C := RX8) (T := TX8) (N := 9) hx hb hts iw_X8 tyX8 tyX8_ok nmX8 hown hK hP hD hS 0 rfl rfl 2 (by decide) (hts _ kw_196) (fun _ h9 => h9) rfl (by decide +kernel) rfl rfl (Nat.le_of_ble_eq_true rfl) dX8_begin_10 (fun H locs hP hD hS => ?_)
  have hP : va_P D vwCl ([oX8 a_o a_o_outerEnds a_p0_data (0 : Int32) x_o_end x_o_at x_o_place x_o_size x_o_fault x_o_items, oX3 a_p0 a_p0_data x_p0_length, rB q a_p0_data n_p0_data r_p0_data]) H := hP
  have hD : va_D A ([oX8 a_o a_o_outerEnds a_p0_data (0 : Int32) x_o_end x_o_at x_o_place x_o_size x_o_fault x_o_items, oX3 a_p0 a_p0_data x_p0_length, rB q a_p0_data n_p0_data r_p0_data]) := hD
  refine lv_aload_n hx hb dX8_begin_13 rfl (lv_at hl 0 rfl) ?_
  refine lv_aload_n hx hb dX8_begin_14 rfl (lv_at hl 1 rfl) ?_
  refine va_get (D := D) (ci := 3) (v := .int x_p0_length) (C := RX3) (T := TX3) (N := 2) hx hb hts iw_X3 hown hK hP 1 rfl rfl 1 (by decide) (hts _ kw_107) (fun _ h9 => h9) rfl dX8_begin_15 ?_
  refine lv_aload_n hx hb dX8_begin_18 rfl (lv_at hl 0 rfl) ?_
  refine va_get (D := D) (ci := 7) (v := .ref a_p0_data) (C := RX8) (T := TX8) (N := 9) hx hb hts iw_X8 hown hK hP 0 rfl rfl 1 (by decide) (hts _ kw_195) (fun _ h9 => h9) rfl dX8_begin_19 ?_
  refine va_alen (v := Int32.ofNat n_p0_data) hx hb hK hP 2 0 rfl rfl rfl dX8_begin_22 ?_
  refine va_mmin hx hb (hml.trans hl.1.symm) hown (hts _ mm_link_X8) (hts _ mm_static) (hts _ mm_init) (hts _ mm_code) (Nat.le_of_ble_eq_true rfl) (Nat.le_of_ble_eq_true rfl) (Nat.zero_le _) (Nat.zero_le _) dX8_begin_23 ?_
  refine lv_topi (fun x_o_end_1 e_x_o_end_1 => ?_)
  replace hF := bnd_d hF e_x_o_end_1
  refine va_put (D := D) (ci := 7) (v := .int x_o_end_1) (ty := .int) (C := RX8) (T := TX8) (N := 9) hx hb hts iw_X8 tyX8 tyX8_ok nmX8 hown hK hP hD hS 0 rfl rfl 3 (by decide) (hts _ kw_197) (fun _ h9 => h9) rfl (by decide +kernel) rfl rfl (Nat.le_of_ble_eq_true rfl) dX8_begin_26 (fun H locs hP hD hS => ?_)
  have hP : va_P D vwCl ([oX8 a_o a_o_outerEnds a_p0_data (0 : Int32) x_o_end_1 x_o_at x_o_place x_o_size x_o_fault x_o_items, oX3 a_p0 a_p0_data x_p0_length, rB q a_p0_data n_p0_data r_p0_data]) H := hP
  have hD : va_D A ([oX8 a_o a_o_outerEnds a_p0_data (0 : Int32) x_o_end_1 x_o_at x_o_place x_o_size x_o_fault x_o_items, oX3 a_p0 a_p0_data x_p0_length, rB q a_p0_data n_p0_data r_p0_data]) := hD
  refine lv_aload_n hx hb dX8_begin_29 rfl (lv_at hl 0 rfl) ?_
  refine lv_iconst (v := (0 : Int32)) hx hb dX8_begin_30 (by decide) ?_
  refine va_put (D := D) (ci := 7) (v := .int (0 : Int32)) (ty := .int) (C := RX8) (T := TX8) (N := 9) hx hb hts iw_X8 tyX8 tyX8_ok nmX8 hown hK hP hD hS 0 rfl rfl 4 (by decide) (hts _ kw_199) (fun _ h9 => h9) rfl (by decide +kernel) rfl rfl (Nat.le_of_ble_eq_true rfl) dX8_begin_31 (fun H locs hP hD hS => ?_)
  have hP : va_P D vwCl ([oX8 a_o a_o_outerEnds a_p0_data (0 : Int32) x_o_end_1 (0 : Int32) x_o_place x_o_size x_o_fault x_o_items, oX3 a_p0 a_p0_data x_p0_length, rB q a_p0_data n_p0_data r_p0_data]) H := hP
  have hD : va_D A ([oX8 a_o a_o_outerEnds a_p0_data (0 : Int32) x_o_end_1 (0 : Int32) x_o_place x_o_size x_o_fault x_o_items, oX3 a_p0 a_p0_data x_p0_length, rB q a_p0_data n_p0_data r_p0_data]) := hD
  refine lv_aload_n hx hb dX8_begin_34 rfl (lv_at hl 0 rfl) ?_
  refine lv_iconst (v := (0 : Int32)) hx hb dX8_begin_35 (by decide) ?_
  refine va_put (D := D) (ci := 7) (v := .int (0 : Int32)) (ty := .int) (C := RX8) (T := TX8) (N := 9) hx hb hts iw_X8 tyX8 tyX8_ok nmX8 hown hK hP hD hS 0 rfl rfl 5 (by decide) (hts _ kw_201) (fun _ h9 => h9) rfl (by decide +kernel) rfl rfl (Nat.le_of_ble_eq_true rfl) dX8_begin_36 (fun H locs hP hD hS => ?_)
  have hP : va_P D vwCl ([oX8 a_o a_o_outerEnds a_p0_data (0 : Int32) x_o_end_1 (0 : Int32) (0 : Int32) x_o_size x_o_fault x_o_items, oX3 a_p0 a_p0_data x_p0_length, rB q a_p0_data n_p0_data r_p0_data]) H := hP
  have hD : va_D A ([oX8 a_o a_o_outerEnds a_p0_data (0 : Int32) x_o_end_1 (0 : Int32) (0 : Int32) x_o_size x_o_fault x_o_items, oX3 a_p0 a_p0_data x_p0_length, rB q a_p0_data n_p0_data r_p0_data]) := hD
  refine lv_aload_n hx hb dX8_begin_39 rfl (lv_at hl 0 rfl) ?_
  refine lv_iconst (v := (0 : Int32)) hx hb dX8_begin_40 (by decide) ?_
  refine va_put (D := D) (ci := 7) (v := .int (0 : Int32)) (ty := .int) (C := RX8) (T := TX8) (N := 9) hx hb hts iw_X8 tyX8 tyX8_ok nmX8 hown hK hP hD hS 0 rfl rfl 6 (by decide) (hts _ kw_202) (fun _ h9 => h9) rfl (by decide +kernel) rfl rfl (Nat.le_of_ble_eq_true rfl) dX8_begin_41 (fun H locs hP hD hS => ?_)
  have hP : va_P D vwCl ([oX8 a_o a_o_outerEnds a_p0_data (0 : Int32) x_o_end_1 (0 : Int32) (0 : Int32) (0 : Int32) x_o_fault x_o_items, oX3 a_p0 a_p0_data x_p0_length, rB q a_p0_data n_p0_data r_p0_data]) H := hP
  have hD : va_D A ([oX8 a_o a_o_outerEnds a_p0_data (0 : Int32) x_o_end_1 (0 : Int32) (0 : Int32) (0 : Int32) x_o_fault x_o_items, oX3 a_p0 a_p0_data x_p0_length, rB q a_p0_data n_p0_data r_p0_data]) := hD
  refine lv_aload_n hx hb dX8_begin_44 rfl (lv_at hl 0 rfl) ?_
  refine lv_iconst (v := (-1 : Int32)) hx hb dX8_begin_45 (by decide) ?_
  refine va_put (D := D) (ci := 7) (v := .int (-1 : Int32)) (ty := .int) (C := RX8) (T := TX8) (N := 9) hx hb hts iw_X8 tyX8 tyX8_ok nmX8 hown hK hP hD hS 0 rfl rfl 7 (by decide) (hts _ kw_206) (fun _ h9 => h9) rfl (by decide +kernel) rfl rfl (Nat.le_of_ble_eq_true rfl) dX8_begin_46 (fun H locs hP hD hS => ?_)
  have hP : va_P D vwCl ([oX8 a_o a_o_outerEnds a_p0_data (0 : Int32) x_o_end_1 (0 : Int32) (0 : Int32) (0 : Int32) (-1 : Int32) x_o_items, oX3 a_p0 a_p0_data x_p0_length, rB q a_p0_data n_p0_data r_p0_data]) H := hP
  have hD : va_D A ([oX8 a_o a_o_outerEnds a_p0_data (0 : Int32) x_o_end_1 (0 : Int32) (0 : Int32) (0 : Int32) (-1 : Int32) x_o_items, oX3 a_p0 a_p0_data x_p0_length, rB q a_p0_data n_p0_data r_p0_data]) := hD
  refine lv_aload_n hx hb dX8_begin_49 rfl (lv_at hl 0 rfl) ?_
  refine lv_iconst (v := (0 : Int32)) hx hb dX8_begin_50 (by decide) ?_
  refine va_put (D := D) (ci := 7) (v := .int (0 : Int32)) (ty := .int) (C := RX8) (T := TX8) (N := 9) hx hb hts iw_X8 tyX8 tyX8_ok nmX8 hown hK hP hD hS 0 rfl rfl 8 (by decide) (hts _ kw_208) (fun _ h9 => h9) rfl (by decide +kernel) rfl rfl (Nat.le_of_ble_eq_true rfl) dX8_begin_51 (fun H locs hP hD hS => ?_)
  have hP : va_P D vwCl ([oX8 a_o a_o_outerEnds a_p0_data (0 : Int32) x_o_end_1 (0 : Int32) (0 : Int32) (0 : Int32) (-1 : Int32) (0 : Int32), oX3 a_p0 a_p0_data x_p0_length, rB q a_p0_data n_p0_data r_p0_data]) H := hP
  have hD : va_D A ([oX8 a_o a_o_outerEnds a_p0_data (0 : Int32) x_o_end_1 (0 : Int32) (0 : Int32) (0 : Int32) (-1 : Int32) (0 : Int32), oX3 a_p0 a_p0_data x_p0_length, rB q a_p0_data n_p0_data r_p0_data]) := hD
  have hy9 := (Option.some.inj hF).symm
  subst hy9
  exact rt_v C0.1 hP hD hS dX8_begin_54
set_option maxHeartbeats 4000000 in
set_option maxRecDepth 100000 in
theorem c_si_begin (l : Launch) (D : va_G) (q : Nat → ClassId) (t : Nat) (a_o : Nat) (a_o_text : Nat) (x_o_owner : Int32) (x_o_secret : Int32) (x_o_publicKey : Int32) (x_o_keyHash : Int64) (p_0 : Int32) (p_1 : Int32) (y : Int64 × Int32 × Int32 × Int32) (hF : f_si_begin x_o_keyHash x_o_owner x_o_publicKey x_o_secret p_0 p_1 = some y)  : cu l yX9_begin (vs yX9_begin cX9_begin 3 none) ({ frames := 3, cells := 0, slots := 0, locals := 71 }) D q t [.ref a_o, .int p_0, .int p_1] [oX9 a_o a_o_text x_o_owner x_o_secret x_o_publicKey x_o_keyHash] (qV D q [oX9 a_o a_o_text y.2.1 y.2.2.2 y.2.2.1 y.1]) := by
  refine cu_of (cc := cX9_begin) (nL := 3) (ret := none) (by decide) (Nat.le_of_ble_eq_true rfl) (fun {p e s m args below meth c A} C0 H locs ls hP hD hS hl => ?_)
  have C0 : cy p s m args meth c cX9_begin none 3 RX9 D q t A := C0
  obtain ⟨⟨hx, hb, hr, hml, hown, hts, hlocks, hK, hA⟩, hG⟩ := id C0
  have hl : lv_has ls 3 [(0, .ref a_o), (1, .int p_0), (2, .int p_1)] := hl
  unfold f_si_begin at hF
  refine lv_aload_n hx hb dX9_begin_0 rfl (lv_at hl 0 rfl) ?_
  refine lv_iload_n hx hb dX9_begin_1 rfl (lv_at hl 1 rfl) ?_
  refine va_put (D := D) (ci := 8) (v := .int p_0) (ty := .int) (C := RX9) (T := TX9) (N := 5) hx hb hts iw_X9 tyX9 tyX9_ok nmX9 hown hK hP hD hS 0 rfl rfl 1 (by decide) (hts _ kw_441) (fun _ h9 => h9) rfl (by decide +kernel) rfl rfl (Nat.le_of_ble_eq_true rfl) dX9_begin_2 (fun H locs hP hD hS => ?_)
  have hP : va_P D vwCl ([oX9 a_o a_o_text p_0 x_o_secret x_o_publicKey x_o_keyHash]) H := hP
  have hD : va_D A ([oX9 a_o a_o_text p_0 x_o_secret x_o_publicKey x_o_keyHash]) := hD
  refine lv_aload_n hx hb dX9_begin_5 rfl (lv_at hl 0 rfl) ?_
  refine lv_iload_n hx hb dX9_begin_6 rfl (lv_at hl 2 rfl) ?_
  refine va_put (D := D) (ci := 8) (v := .int p_1) (ty := .int) (C := RX9) (T := TX9) (N := 5) hx hb hts iw_X9 tyX9 tyX9_ok nmX9 hown hK hP hD hS 0 rfl rfl 2 (by decide) (hts _ kw_443) (fun _ h9 => h9) rfl (by decide +kernel) rfl rfl (Nat.le_of_ble_eq_true rfl) dX9_begin_7 (fun H locs hP hD hS => ?_)
  have hP : va_P D vwCl ([oX9 a_o a_o_text p_0 p_1 x_o_publicKey x_o_keyHash]) H := hP
  have hD : va_D A ([oX9 a_o a_o_text p_0 p_1 x_o_publicKey x_o_keyHash]) := hD
  refine lv_aload_n hx hb dX9_begin_10 rfl (lv_at hl 0 rfl) ?_
  refine lv_iload_n hx hb dX9_begin_11 rfl (lv_at hl 2 rfl) ?_
  obtain ⟨y_1, hy_1, hF⟩ := cal_d hF
  refine cf_i C0.1 hP hD hS [] [0] [0] (wr := [oX9 a_o a_o_text p_0 p_1 x_o_publicKey x_o_keyHash]) (w' := [oX9 a_o a_o_text p_0 p_1 x_o_publicKey x_o_keyHash]) rfl rfl rfl (by decide) rfl rfl (sn_S (As := [.int p_1]) (rest := [.ref a_o]) C0 (c_nu_publicKey l D q t  p_1 y_1 hy_1) (va_cwS 1 hts (g_S kw_665 kw_592 kw_84 kw_593) rfl rfl rfl hd_X7_publicKey ⟨Nat.le_of_ble_eq_true rfl, Nat.le_of_ble_eq_true rfl⟩) hP hD hS [] rfl rfl rfl hl (Nat.le_of_ble_eq_true rfl) dX9_begin_12) (fun H locs hP hD hS => ?_)
  refine va_put (D := D) (ci := 8) (v := .int y_1) (ty := .int) (C := RX9) (T := TX9) (N := 5) hx hb hts iw_X9 tyX9 tyX9_ok nmX9 hown hK hP hD hS 0 rfl rfl 3 (by decide) (hts _ kw_445) (fun _ h9 => h9) rfl (by decide +kernel) rfl rfl (Nat.le_of_ble_eq_true rfl) dX9_begin_15 (fun H locs hP hD hS => ?_)
  have hP : va_P D vwCl ([oX9 a_o a_o_text p_0 p_1 y_1 x_o_keyHash]) H := hP
  have hD : va_D A ([oX9 a_o a_o_text p_0 p_1 y_1 x_o_keyHash]) := hD
  refine lv_aload_n hx hb dX9_begin_18 rfl (lv_at hl 0 rfl) ?_
  refine lv_aload_n hx hb dX9_begin_19 rfl (lv_at hl 0 rfl) ?_
  refine va_get (D := D) (ci := 8) (v := .int y_1) (C := RX9) (T := TX9) (N := 5) hx hb hts iw_X9 hown hK hP 0 rfl rfl 3 (by decide) (hts _ kw_445) (fun _ h9 => h9) rfl dX9_begin_20 ?_
  refine lv_i2l hx hb dX9_begin_23 rfl ?_
  obtain ⟨y_2, hy_2, hF⟩ := cal_d hF
  refine cf_l C0.1 hP hD hS [] [0] [0] (wr := [oX9 a_o a_o_text p_0 p_1 y_1 x_o_keyHash]) (w' := [oX9 a_o a_o_text p_0 p_1 y_1 x_o_keyHash]) rfl rfl rfl (by decide) rfl rfl (sn_S (As := [.long y_1.toInt64]) (rest := [.ref a_o]) C0 (c_nu_hashOf l D q t  y_1.toInt64 y_2 hy_2) (va_cwS 1 hts (g_S kw_666 kw_613 kw_84 kw_614) rfl rfl rfl hd_X7_hashOf ⟨Nat.le_of_ble_eq_true rfl, Nat.le_of_ble_eq_true rfl⟩) hP hD hS [] rfl rfl rfl hl (Nat.le_of_ble_eq_true rfl) dX9_begin_24) (fun H locs hP hD hS => ?_)
  refine va_put (D := D) (ci := 8) (v := .long y_2) (ty := .long) (C := RX9) (T := TX9) (N := 5) hx hb hts iw_X9 tyX9 tyX9_ok nmX9 hown hK hP hD hS 0 rfl rfl 4 (by decide) (hts _ kw_447) (fun _ h9 => h9) rfl (by decide +kernel) rfl rfl (Nat.le_of_ble_eq_true rfl) dX9_begin_27 (fun H locs hP hD hS => ?_)
  have hP : va_P D vwCl ([oX9 a_o a_o_text p_0 p_1 y_1 y_2]) H := hP
  have hD : va_D A ([oX9 a_o a_o_text p_0 p_1 y_1 y_2]) := hD
  have hy9 := (Option.some.inj hF).symm
  subst hy9
  exact rt_v C0.1 hP hD hS dX9_begin_30
set_option maxHeartbeats 4000000 in
set_option maxRecDepth 100000 in
theorem c_si_writeCert (l : Launch) (D : va_G) (q : Nat → ClassId) (t : Nat) (a_o : Nat) (x_o_owner : Int32) (x_o_secret : Int32) (x_o_publicKey : Int32) (x_o_keyHash : Int64) (a_o_text : Nat) (x_o_text_length : Int32) (a_o_text_data : Nat) (r_o_text_data : (Nat → Int32)) (a_p0 : Nat) (a_p0_serials : Nat) (a_p0_since : Nat) (a_p0_reasons : Nat) (x_p0_secret : Int32) (x_p0_publicKey : Int32) (x_p0_nameHash : Int64) (x_p0_keyHash : Int64) (x_p0_issued : Int32) (x_p0_takenBack : Int32) (a_p0_name : Nat) (x_p0_name_length : Int32) (a_p0_name_data : Nat) (r_p0_name_data : (Nat → Int32)) (a_p1 : Nat) (x_p1_length : Int32) (a_p1_data : Nat) (n_p1_data : Nat) (r_p1_data : (Nat → Int32)) (p_2 : Int32) (p_3 : Int64) (p_4 : Int64) (p_5 : Int32) (y : (Nat → Int32) × Int32) (hF : f_si_writeCert x_o_publicKey r_o_text_data x_o_text_length r_p0_name_data x_p0_name_length x_p0_secret r_p1_data x_p1_length n_p1_data p_2 p_3 p_4 p_5 = some y)  : cu l yX9_writeCert (vs yX9_writeCert cX9_writeCert 11 none) ({ frames := 4, cells := 0, slots := 0, locals := 101 }) D q t [.ref a_o, .ref a_p0, .ref a_p1, .int p_2, .long p_3, .long p_4, .int p_5] [oX9 a_o a_o_text x_o_owner x_o_secret x_o_publicKey x_o_keyHash, oX3 a_o_text a_o_text_data x_o_text_length, rB q a_o_text_data 128 r_o_text_data, oX2 a_p0 a_p0_name a_p0_serials a_p0_since a_p0_reasons x_p0_secret x_p0_publicKey x_p0_nameHash x_p0_keyHash x_p0_issued x_p0_takenBack, oX3 a_p0_name a_p0_name_data x_p0_name_length, rB q a_p0_name_data 16 r_p0_name_data, oX3 a_p1 a_p1_data x_p1_length, rB q a_p1_data n_p1_data r_p1_data] (qV D q [oX9 a_o a_o_text x_o_owner x_o_secret x_o_publicKey x_o_keyHash, oX3 a_o_text a_o_text_data y.2, rB q a_o_text_data 128 y.1, oX2 a_p0 a_p0_name a_p0_serials a_p0_since a_p0_reasons x_p0_secret x_p0_publicKey x_p0_nameHash x_p0_keyHash x_p0_issued x_p0_takenBack, oX3 a_p0_name a_p0_name_data x_p0_name_length, rB q a_p0_name_data 16 r_p0_name_data, oX3 a_p1 a_p1_data x_p1_length, rB q a_p1_data n_p1_data r_p1_data]) := by
  refine cu_of (cc := cX9_writeCert) (nL := 11) (ret := none) (by decide) (Nat.le_of_ble_eq_true rfl) (fun {p e s m args below meth c A} C0 H locs ls hP hD hS hl => ?_)
  have C0 : cy p s m args meth c cX9_writeCert none 11 RX9 D q t A := C0
  obtain ⟨⟨hx, hb, hr, hml, hown, hts, hlocks, hK, hA⟩, hG⟩ := id C0
  have hl : lv_has ls 11 [(0, .ref a_o), (1, .ref a_p0), (2, .ref a_p1), (3, .int p_2), (4, .long p_3), (6, .long p_4), (8, .int p_5)] := hl
  unfold f_si_writeCert at hF
  refine lv_aload_n hx hb dX9_writeCert_0 rfl (lv_at hl 0 rfl) ?_
  refine va_get (D := D) (ci := 8) (v := .ref a_o_text) (C := RX9) (T := TX9) (N := 5) hx hb hts iw_X9 hown hK hP 0 rfl rfl 0 (by decide) (hts _ kw_439) (fun _ h9 => h9) rfl dX9_writeCert_1 ?_
  obtain ⟨y_1, hy_1, hF⟩ := cal_d hF
  refine cf_v C0.1 hP hD hS [1] [0, 2, 3, 4, 5, 6, 7] [0, 7, 1, 2, 3, 4, 5, 6] (wr := [oX9 a_o a_o_text x_o_owner x_o_secret x_o_publicKey x_o_keyHash, rB q a_o_text_data 128 r_o_text_data, oX2 a_p0 a_p0_name a_p0_serials a_p0_since a_p0_reasons x_p0_secret x_p0_publicKey x_p0_nameHash x_p0_keyHash x_p0_issued x_p0_takenBack, oX3 a_p0_name a_p0_name_data x_p0_name_length, rB q a_p0_name_data 16 r_p0_name_data, oX3 a_p1 a_p1_data x_p1_length, rB q a_p1_data n_p1_data r_p1_data]) (w' := [oX9 a_o a_o_text x_o_owner x_o_secret x_o_publicKey x_o_keyHash, oX3 a_o_text a_o_text_data y_1, rB q a_o_text_data 128 r_o_text_data, oX2 a_p0 a_p0_name a_p0_serials a_p0_since a_p0_reasons x_p0_secret x_p0_publicKey x_p0_nameHash x_p0_keyHash x_p0_issued x_p0_takenBack, oX3 a_p0_name a_p0_name_data x_p0_name_length, rB q a_p0_name_data 16 r_p0_name_data, oX3 a_p1 a_p1_data x_p1_length, rB q a_p1_data n_p1_data r_p1_data]) rfl rfl rfl (by decide) rfl rfl (sn_V (As := []) (rest := []) (ci := 3) (q0 := 1) C0 (c_by_clear l D q t a_o_text a_o_text_data x_o_text_length  y_1 hy_1) (cwV 0 hts (g_V kw_671 kw_539 kw_540 kw_73 kw_541) rfl rfl rfl hd_X3_clear ⟨Nat.le_of_ble_eq_true rfl, Nat.le_of_ble_eq_true rfl⟩) hP hD hS [1] rfl rfl rfl rfl rfl rfl hl (Nat.le_of_ble_eq_true rfl) dX9_writeCert_4) (fun H locs hP hD hS => ?_)
  refine lv_aload_n hx hb dX9_writeCert_7 rfl (lv_at hl 0 rfl) ?_
  refine va_get (D := D) (ci := 8) (v := .ref a_o_text) (C := RX9) (T := TX9) (N := 5) hx hb hts iw_X9 hown hK hP 0 rfl rfl 0 (by decide) (hts _ kw_439) (fun _ h9 => h9) rfl dX9_writeCert_8 ?_
  refine lv_bipush (v := (48 : Int32)) hx hb dX9_writeCert_11 (by decide) ?_
  obtain ⟨y_2, hy_2, hF⟩ := cal_d hF
  refine cf_i C0.1 hP hD hS [1, 2] [0, 3, 4, 5, 6, 7] [0, 6, 7, 1, 2, 3, 4, 5] (wr := [oX9 a_o a_o_text x_o_owner x_o_secret x_o_publicKey x_o_keyHash, oX2 a_p0 a_p0_name a_p0_serials a_p0_since a_p0_reasons x_p0_secret x_p0_publicKey x_p0_nameHash x_p0_keyHash x_p0_issued x_p0_takenBack, oX3 a_p0_name a_p0_name_data x_p0_name_length, rB q a_p0_name_data 16 r_p0_name_data, oX3 a_p1 a_p1_data x_p1_length, rB q a_p1_data n_p1_data r_p1_data]) (w' := [oX9 a_o a_o_text x_o_owner x_o_secret x_o_publicKey x_o_keyHash, oX3 a_o_text a_o_text_data y_2.2.2, rB q a_o_text_data 128 y_2.2.1, oX2 a_p0 a_p0_name a_p0_serials a_p0_since a_p0_reasons x_p0_secret x_p0_publicKey x_p0_nameHash x_p0_keyHash x_p0_issued x_p0_takenBack, oX3 a_p0_name a_p0_name_data x_p0_name_length, rB q a_p0_name_data 16 r_p0_name_data, oX3 a_p1 a_p1_data x_p1_length, rB q a_p1_data n_p1_data r_p1_data]) rfl rfl rfl (by decide) rfl rfl (sn_V (As := [.int (48 : Int32)]) (rest := []) (ci := 3) (q0 := 1) C0 (c_by_open l D q t a_o_text y_1 a_o_text_data 128 r_o_text_data (48 : Int32) y_2 hy_2) (cwV 1 hts (g_V kw_672 kw_673 kw_674 kw_73 kw_675) rfl rfl rfl hd_X3_open ⟨Nat.le_of_ble_eq_true rfl, Nat.le_of_ble_eq_true rfl⟩) hP hD hS [1, 2] rfl rfl rfl rfl rfl rfl hl (Nat.le_of_ble_eq_true rfl) dX9_writeCert_13) (fun H locs hP hD hS => ?_)
  refine lv_topi (fun v9_3 e_v9_3 => ?_)
  replace hF := bnd_d hF e_v9_3
  refine lv_istore (lv' := [(9, .int v9_3), (0, .ref a_o), (1, .ref a_p0), (2, .ref a_p1), (3, .int p_2), (4, .long p_3), (6, .long p_4), (8, .int p_5)]) hx hb dX9_writeCert_16 hl (by decide) rfl (fun ls hl => ?_)
  refine lv_aload_n hx hb dX9_writeCert_18 rfl (lv_at hl 1 rfl) ?_
  refine va_get (D := D) (ci := 8) (v := .ref a_o_text) (C := RX9) (T := TX9) (N := 5) hx hb hts iw_X9 hown hK hP 0 rfl rfl 0 (by decide) (hts _ kw_439) (fun _ h9 => h9) rfl dX9_writeCert_19 ?_
  refine lv_bipush (v := (48 : Int32)) hx hb dX9_writeCert_22 (by decide) ?_
  obtain ⟨y_4, hy_4, hF⟩ := cal_d hF
  refine cf_i C0.1 hP hD hS [1, 2] [0, 3, 4, 5, 6, 7] [0, 6, 7, 1, 2, 3, 4, 5] (wr := [oX9 a_o a_o_text x_o_owner x_o_secret x_o_publicKey x_o_keyHash, oX2 a_p0 a_p0_name a_p0_serials a_p0_since a_p0_reasons x_p0_secret x_p0_publicKey x_p0_nameHash x_p0_keyHash x_p0_issued x_p0_takenBack, oX3 a_p0_name a_p0_name_data x_p0_name_length, rB q a_p0_name_data 16 r_p0_name_data, oX3 a_p1 a_p1_data x_p1_length, rB q a_p1_data n_p1_data r_p1_data]) (w' := [oX9 a_o a_o_text x_o_owner x_o_secret x_o_publicKey x_o_keyHash, oX3 a_o_text a_o_text_data y_4.2.2, rB q a_o_text_data 128 y_4.2.1, oX2 a_p0 a_p0_name a_p0_serials a_p0_since a_p0_reasons x_p0_secret x_p0_publicKey x_p0_nameHash x_p0_keyHash x_p0_issued x_p0_takenBack, oX3 a_p0_name a_p0_name_data x_p0_name_length, rB q a_p0_name_data 16 r_p0_name_data, oX3 a_p1 a_p1_data x_p1_length, rB q a_p1_data n_p1_data r_p1_data]) rfl rfl rfl (by decide) rfl rfl (sn_V (As := [.int (48 : Int32)]) (rest := []) (ci := 3) (q0 := 1) C0 (c_by_open l D q t a_o_text y_2.2.2 a_o_text_data 128 y_2.2.1 (48 : Int32) y_4 hy_4) (cwV 1 hts (g_V kw_672 kw_673 kw_674 kw_73 kw_675) rfl rfl rfl hd_X3_open ⟨Nat.le_of_ble_eq_true rfl, Nat.le_of_ble_eq_true rfl⟩) hP hD hS [1, 2] rfl rfl rfl rfl rfl rfl hl (Nat.le_of_ble_eq_true rfl) dX9_writeCert_24) (fun H locs hP hD hS => ?_)
  refine lv_topi (fun v10_5 e_v10_5 => ?_)
  replace hF := bnd_d hF e_v10_5
  refine lv_istore (lv' := [(10, .int v10_5), (9, .int v9_3), (0, .ref a_o), (1, .ref a_p0), (2, .ref a_p1), (3, .int p_2), (4, .long p_3), (6, .long p_4), (8, .int p_5)]) hx hb dX9_writeCert_27 hl (by decide) rfl (fun ls hl => ?_)
  refine lv_aload_n hx hb dX9_writeCert_29 rfl (lv_at hl 2 rfl) ?_
  refine va_get (D := D) (ci := 8) (v := .ref a_o_text) (C := RX9) (T := TX9) (N := 5) hx hb hts iw_X9 hown hK hP 0 rfl rfl 0 (by decide) (hts _ kw_439) (fun _ h9 => h9) rfl dX9_writeCert_30 ?_
  refine lv_iload_n hx hb dX9_writeCert_33 rfl (lv_at hl 5 rfl) ?_
  refine lv_i2l hx hb dX9_writeCert_34 rfl ?_
  obtain ⟨y_6, hy_6, hF⟩ := cal_d hF
  refine cf_v C0.1 hP hD hS [1, 2] [0, 3, 4, 5, 6, 7] [0, 6, 7, 1, 2, 3, 4, 5] (wr := [oX9 a_o a_o_text x_o_owner x_o_secret x_o_publicKey x_o_keyHash, oX2 a_p0 a_p0_name a_p0_serials a_p0_since a_p0_reasons x_p0_secret x_p0_publicKey x_p0_nameHash x_p0_keyHash x_p0_issued x_p0_takenBack, oX3 a_p0_name a_p0_name_data x_p0_name_length, rB q a_p0_name_data 16 r_p0_name_data, oX3 a_p1 a_p1_data x_p1_length, rB q a_p1_data n_p1_data r_p1_data]) (w' := [oX9 a_o a_o_text x_o_owner x_o_secret x_o_publicKey x_o_keyHash, oX3 a_o_text a_o_text_data y_6.2, rB q a_o_text_data 128 y_6.1, oX2 a_p0 a_p0_name a_p0_serials a_p0_since a_p0_reasons x_p0_secret x_p0_publicKey x_p0_nameHash x_p0_keyHash x_p0_issued x_p0_takenBack, oX3 a_p0_name a_p0_name_data x_p0_name_length, rB q a_p0_name_data 16 r_p0_name_data, oX3 a_p1 a_p1_data x_p1_length, rB q a_p1_data n_p1_data r_p1_data]) rfl rfl rfl (by decide) rfl rfl (sn_V (As := [.long p_2.toInt64]) (rest := []) (ci := 3) (q0 := 1) C0 (c_by_addInteger l D q t a_o_text y_4.2.2 a_o_text_data 128 y_4.2.1 p_2.toInt64 y_6 hy_6) (cwV 1 hts (g_V kw_676 kw_677 kw_678 kw_73 kw_679) rfl rfl rfl hd_X3_addInteger ⟨Nat.le_of_ble_eq_true rfl, Nat.le_of_ble_eq_true rfl⟩) hP hD hS [1, 2] rfl rfl rfl rfl rfl rfl hl (Nat.le_of_ble_eq_true rfl) dX9_writeCert_35) (fun H locs hP hD hS => ?_)
  refine lv_aload_n hx hb dX9_writeCert_38 rfl (lv_at hl 2 rfl) ?_
  refine va_get (D := D) (ci := 8) (v := .ref a_o_text) (C := RX9) (T := TX9) (N := 5) hx hb hts iw_X9 hown hK hP 0 rfl rfl 0 (by decide) (hts _ kw_439) (fun _ h9 => h9) rfl dX9_writeCert_39 ?_
  refine lv_aload_n hx hb dX9_writeCert_42 rfl (lv_at hl 3 rfl) ?_
  refine va_get (D := D) (ci := 2) (v := .ref a_p0_name) (C := RX2) (T := TX2) (N := 10) hx hb hts iw_X2 hown hK hP 3 rfl rfl 0 (by decide) (hts _ kw_392) (fun _ h9 => h9) rfl dX9_writeCert_43 ?_
  refine lv_iconst (v := (0 : Int32)) hx hb dX9_writeCert_46 (by decide) ?_
  refine lv_aload_n hx hb dX9_writeCert_47 rfl (lv_at hl 3 rfl) ?_
  refine va_get (D := D) (ci := 2) (v := .ref a_p0_name) (C := RX2) (T := TX2) (N := 10) hx hb hts iw_X2 hown hK hP 3 rfl rfl 0 (by decide) (hts _ kw_392) (fun _ h9 => h9) rfl dX9_writeCert_48 ?_
  refine va_get (D := D) (ci := 3) (v := .int x_p0_name_length) (C := RX3) (T := TX3) (N := 2) hx hb hts iw_X3 hown hK hP 4 rfl rfl 1 (by decide) (hts _ kw_110) (fun _ h9 => h9) rfl dX9_writeCert_51 ?_
  obtain ⟨y_7, hy_7, hF⟩ := cal_d hF
  refine cf_v C0.1 hP hD hS [1, 2, 4, 5] [0, 3, 6, 7] [0, 4, 5, 1, 6, 7, 2, 3] (wr := [oX9 a_o a_o_text x_o_owner x_o_secret x_o_publicKey x_o_keyHash, oX2 a_p0 a_p0_name a_p0_serials a_p0_since a_p0_reasons x_p0_secret x_p0_publicKey x_p0_nameHash x_p0_keyHash x_p0_issued x_p0_takenBack, oX3 a_p1 a_p1_data x_p1_length, rB q a_p1_data n_p1_data r_p1_data]) (w' := [oX9 a_o a_o_text x_o_owner x_o_secret x_o_publicKey x_o_keyHash, oX3 a_o_text a_o_text_data y_7.2, rB q a_o_text_data 128 y_7.1, oX2 a_p0 a_p0_name a_p0_serials a_p0_since a_p0_reasons x_p0_secret x_p0_publicKey x_p0_nameHash x_p0_keyHash x_p0_issued x_p0_takenBack, oX3 a_p0_name a_p0_name_data x_p0_name_length, rB q a_p0_name_data 16 r_p0_name_data, oX3 a_p1 a_p1_data x_p1_length, rB q a_p1_data n_p1_data r_p1_data]) rfl rfl rfl (by decide) rfl rfl (sn_V (As := [.ref a_p0_name, .int (0 : Int32), .int x_p0_name_length]) (rest := []) (ci := 3) (q0 := 1) C0 (c_by_addBytes l D q t a_o_text y_6.2 a_o_text_data 128 y_6.1 a_p0_name x_p0_name_length a_p0_name_data 16 r_p0_name_data (0 : Int32) x_p0_name_length y_7 hy_7) (cwV 3 hts (g_V kw_689 kw_690 kw_691 kw_73 kw_692) rfl rfl rfl hd_X3_addBytes ⟨Nat.le_of_ble_eq_true rfl, Nat.le_of_ble_eq_true rfl⟩) hP hD hS [1, 2, 4, 5] rfl rfl rfl rfl rfl rfl hl (Nat.le_of_ble_eq_true rfl) dX9_writeCert_54) (fun H locs hP hD hS => ?_)
  refine lv_aload_n hx hb dX9_writeCert_57 rfl (lv_at hl 2 rfl) ?_
  refine va_get (D := D) (ci := 8) (v := .ref a_o_text) (C := RX9) (T := TX9) (N := 5) hx hb hts iw_X9 hown hK hP 0 rfl rfl 0 (by decide) (hts _ kw_439) (fun _ h9 => h9) rfl dX9_writeCert_58 ?_
  refine lv_aload_n hx hb dX9_writeCert_61 rfl (lv_at hl 4 rfl) ?_
  refine lv_iconst (v := (0 : Int32)) hx hb dX9_writeCert_62 (by decide) ?_
  refine lv_aload_n hx hb dX9_writeCert_63 rfl (lv_at hl 4 rfl) ?_
  refine va_get (D := D) (ci := 3) (v := .int x_p1_length) (C := RX3) (T := TX3) (N := 2) hx hb hts iw_X3 hown hK hP 6 rfl rfl 1 (by decide) (hts _ kw_110) (fun _ h9 => h9) rfl dX9_writeCert_64 ?_
  obtain ⟨y_8, hy_8, hF⟩ := cal_d hF
  refine cf_v C0.1 hP hD hS [1, 2, 6, 7] [0, 3, 4, 5] [0, 4, 5, 1, 2, 3, 6, 7] (wr := [oX9 a_o a_o_text x_o_owner x_o_secret x_o_publicKey x_o_keyHash, oX2 a_p0 a_p0_name a_p0_serials a_p0_since a_p0_reasons x_p0_secret x_p0_publicKey x_p0_nameHash x_p0_keyHash x_p0_issued x_p0_takenBack, oX3 a_p0_name a_p0_name_data x_p0_name_length, rB q a_p0_name_data 16 r_p0_name_data]) (w' := [oX9 a_o a_o_text x_o_owner x_o_secret x_o_publicKey x_o_keyHash, oX3 a_o_text a_o_text_data y_8.2, rB q a_o_text_data 128 y_8.1, oX2 a_p0 a_p0_name a_p0_serials a_p0_since a_p0_reasons x_p0_secret x_p0_publicKey x_p0_nameHash x_p0_keyHash x_p0_issued x_p0_takenBack, oX3 a_p0_name a_p0_name_data x_p0_name_length, rB q a_p0_name_data 16 r_p0_name_data, oX3 a_p1 a_p1_data x_p1_length, rB q a_p1_data n_p1_data r_p1_data]) rfl rfl rfl (by decide) rfl rfl (sn_V (As := [.ref a_p1, .int (0 : Int32), .int x_p1_length]) (rest := []) (ci := 3) (q0 := 1) C0 (c_by_addBytes l D q t a_o_text y_7.2 a_o_text_data 128 y_7.1 a_p1 x_p1_length a_p1_data n_p1_data r_p1_data (0 : Int32) x_p1_length y_8 hy_8) (cwV 3 hts (g_V kw_689 kw_690 kw_691 kw_73 kw_692) rfl rfl rfl hd_X3_addBytes ⟨Nat.le_of_ble_eq_true rfl, Nat.le_of_ble_eq_true rfl⟩) hP hD hS [1, 2, 6, 7] rfl rfl rfl rfl rfl rfl hl (Nat.le_of_ble_eq_true rfl) dX9_writeCert_67) (fun H locs hP hD hS => ?_)
  refine lv_aload_n hx hb dX9_writeCert_70 rfl (lv_at hl 2 rfl) ?_
  refine va_get (D := D) (ci := 8) (v := .ref a_o_text) (C := RX9) (T := TX9) (N := 5) hx hb hts iw_X9 hown hK hP 0 rfl rfl 0 (by decide) (hts _ kw_439) (fun _ h9 => h9) rfl dX9_writeCert_71 ?_
  refine lv_lload hx hb dX9_writeCert_74 (lv_at hl 6 rfl) ?_
  obtain ⟨y_9, hy_9, hF⟩ := cal_d hF
  refine cf_v C0.1 hP hD hS [1, 2] [0, 3, 4, 5, 6, 7] [0, 6, 7, 1, 2, 3, 4, 5] (wr := [oX9 a_o a_o_text x_o_owner x_o_secret x_o_publicKey x_o_keyHash, oX2 a_p0 a_p0_name a_p0_serials a_p0_since a_p0_reasons x_p0_secret x_p0_publicKey x_p0_nameHash x_p0_keyHash x_p0_issued x_p0_takenBack, oX3 a_p0_name a_p0_name_data x_p0_name_length, rB q a_p0_name_data 16 r_p0_name_data, oX3 a_p1 a_p1_data x_p1_length, rB q a_p1_data n_p1_data r_p1_data]) (w' := [oX9 a_o a_o_text x_o_owner x_o_secret x_o_publicKey x_o_keyHash, oX3 a_o_text a_o_text_data y_9.2, rB q a_o_text_data 128 y_9.1, oX2 a_p0 a_p0_name a_p0_serials a_p0_since a_p0_reasons x_p0_secret x_p0_publicKey x_p0_nameHash x_p0_keyHash x_p0_issued x_p0_takenBack, oX3 a_p0_name a_p0_name_data x_p0_name_length, rB q a_p0_name_data 16 r_p0_name_data, oX3 a_p1 a_p1_data x_p1_length, rB q a_p1_data n_p1_data r_p1_data]) rfl rfl rfl (by decide) rfl rfl (sn_V (As := [.long p_3]) (rest := []) (ci := 3) (q0 := 1) C0 (c_by_addTime l D q t a_o_text y_8.2 a_o_text_data 128 y_8.1 p_3 y_9 hy_9) (cwV 1 hts (g_V kw_693 kw_694 kw_695 kw_73 kw_696) rfl rfl rfl hd_X3_addTime ⟨Nat.le_of_ble_eq_true rfl, Nat.le_of_ble_eq_true rfl⟩) hP hD hS [1, 2] rfl rfl rfl rfl rfl rfl hl (Nat.le_of_ble_eq_true rfl) dX9_writeCert_76) (fun H locs hP hD hS => ?_)
  refine lv_aload_n hx hb dX9_writeCert_79 rfl (lv_at hl 2 rfl) ?_
  refine va_get (D := D) (ci := 8) (v := .ref a_o_text) (C := RX9) (T := TX9) (N := 5) hx hb hts iw_X9 hown hK hP 0 rfl rfl 0 (by decide) (hts _ kw_439) (fun _ h9 => h9) rfl dX9_writeCert_80 ?_
  refine lv_lload hx hb dX9_writeCert_83 (lv_at hl 7 rfl) ?_
  obtain ⟨y_10, hy_10, hF⟩ := cal_d hF
  refine cf_v C0.1 hP hD hS [1, 2] [0, 3, 4, 5, 6, 7] [0, 6, 7, 1, 2, 3, 4, 5] (wr := [oX9 a_o a_o_text x_o_owner x_o_secret x_o_publicKey x_o_keyHash, oX2 a_p0 a_p0_name a_p0_serials a_p0_since a_p0_reasons x_p0_secret x_p0_publicKey x_p0_nameHash x_p0_keyHash x_p0_issued x_p0_takenBack, oX3 a_p0_name a_p0_name_data x_p0_name_length, rB q a_p0_name_data 16 r_p0_name_data, oX3 a_p1 a_p1_data x_p1_length, rB q a_p1_data n_p1_data r_p1_data]) (w' := [oX9 a_o a_o_text x_o_owner x_o_secret x_o_publicKey x_o_keyHash, oX3 a_o_text a_o_text_data y_10.2, rB q a_o_text_data 128 y_10.1, oX2 a_p0 a_p0_name a_p0_serials a_p0_since a_p0_reasons x_p0_secret x_p0_publicKey x_p0_nameHash x_p0_keyHash x_p0_issued x_p0_takenBack, oX3 a_p0_name a_p0_name_data x_p0_name_length, rB q a_p0_name_data 16 r_p0_name_data, oX3 a_p1 a_p1_data x_p1_length, rB q a_p1_data n_p1_data r_p1_data]) rfl rfl rfl (by decide) rfl rfl (sn_V (As := [.long p_4]) (rest := []) (ci := 3) (q0 := 1) C0 (c_by_addTime l D q t a_o_text y_9.2 a_o_text_data 128 y_9.1 p_4 y_10 hy_10) (cwV 1 hts (g_V kw_693 kw_694 kw_695 kw_73 kw_696) rfl rfl rfl hd_X3_addTime ⟨Nat.le_of_ble_eq_true rfl, Nat.le_of_ble_eq_true rfl⟩) hP hD hS [1, 2] rfl rfl rfl rfl rfl rfl hl (Nat.le_of_ble_eq_true rfl) dX9_writeCert_85) (fun H locs hP hD hS => ?_)
  refine lv_aload_n hx hb dX9_writeCert_88 rfl (lv_at hl 2 rfl) ?_
  refine va_get (D := D) (ci := 8) (v := .ref a_o_text) (C := RX9) (T := TX9) (N := 5) hx hb hts iw_X9 hown hK hP 0 rfl rfl 0 (by decide) (hts _ kw_439) (fun _ h9 => h9) rfl dX9_writeCert_89 ?_
  refine lv_aload_n hx hb dX9_writeCert_92 rfl (lv_at hl 2 rfl) ?_
  refine va_get (D := D) (ci := 8) (v := .int x_o_publicKey) (C := RX9) (T := TX9) (N := 5) hx hb hts iw_X9 hown hK hP 0 rfl rfl 3 (by decide) (hts _ kw_445) (fun _ h9 => h9) rfl dX9_writeCert_93 ?_
  refine lv_i2l hx hb dX9_writeCert_96 rfl ?_
  obtain ⟨y_11, hy_11, hF⟩ := cal_d hF
  refine cf_v C0.1 hP hD hS [1, 2] [0, 3, 4, 5, 6, 7] [0, 6, 7, 1, 2, 3, 4, 5] (wr := [oX9 a_o a_o_text x_o_owner x_o_secret x_o_publicKey x_o_keyHash, oX2 a_p0 a_p0_name a_p0_serials a_p0_since a_p0_reasons x_p0_secret x_p0_publicKey x_p0_nameHash x_p0_keyHash x_p0_issued x_p0_takenBack, oX3 a_p0_name a_p0_name_data x_p0_name_length, rB q a_p0_name_data 16 r_p0_name_data, oX3 a_p1 a_p1_data x_p1_length, rB q a_p1_data n_p1_data r_p1_data]) (w' := [oX9 a_o a_o_text x_o_owner x_o_secret x_o_publicKey x_o_keyHash, oX3 a_o_text a_o_text_data y_11.2, rB q a_o_text_data 128 y_11.1, oX2 a_p0 a_p0_name a_p0_serials a_p0_since a_p0_reasons x_p0_secret x_p0_publicKey x_p0_nameHash x_p0_keyHash x_p0_issued x_p0_takenBack, oX3 a_p0_name a_p0_name_data x_p0_name_length, rB q a_p0_name_data 16 r_p0_name_data, oX3 a_p1 a_p1_data x_p1_length, rB q a_p1_data n_p1_data r_p1_data]) rfl rfl rfl (by decide) rfl rfl (sn_V (As := [.long x_o_publicKey.toInt64]) (rest := []) (ci := 3) (q0 := 1) C0 (c_by_addInteger l D q t a_o_text y_10.2 a_o_text_data 128 y_10.1 x_o_publicKey.toInt64 y_11 hy_11) (cwV 1 hts (g_V kw_676 kw_677 kw_678 kw_73 kw_679) rfl rfl rfl hd_X3_addInteger ⟨Nat.le_of_ble_eq_true rfl, Nat.le_of_ble_eq_true rfl⟩) hP hD hS [1, 2] rfl rfl rfl rfl rfl rfl hl (Nat.le_of_ble_eq_true rfl) dX9_writeCert_97) (fun H locs hP hD hS => ?_)
  refine lv_aload_n hx hb dX9_writeCert_100 rfl (lv_at hl 2 rfl) ?_
  refine va_get (D := D) (ci := 8) (v := .ref a_o_text) (C := RX9) (T := TX9) (N := 5) hx hb hts iw_X9 hown hK hP 0 rfl rfl 0 (by decide) (hts _ kw_439) (fun _ h9 => h9) rfl dX9_writeCert_101 ?_
  refine lv_iload hx hb dX9_writeCert_104 (lv_at hl 8 rfl) ?_
  refine lv_i2l hx hb dX9_writeCert_106 rfl ?_
  obtain ⟨y_12, hy_12, hF⟩ := cal_d hF
  refine cf_v C0.1 hP hD hS [1, 2] [0, 3, 4, 5, 6, 7] [0, 6, 7, 1, 2, 3, 4, 5] (wr := [oX9 a_o a_o_text x_o_owner x_o_secret x_o_publicKey x_o_keyHash, oX2 a_p0 a_p0_name a_p0_serials a_p0_since a_p0_reasons x_p0_secret x_p0_publicKey x_p0_nameHash x_p0_keyHash x_p0_issued x_p0_takenBack, oX3 a_p0_name a_p0_name_data x_p0_name_length, rB q a_p0_name_data 16 r_p0_name_data, oX3 a_p1 a_p1_data x_p1_length, rB q a_p1_data n_p1_data r_p1_data]) (w' := [oX9 a_o a_o_text x_o_owner x_o_secret x_o_publicKey x_o_keyHash, oX3 a_o_text a_o_text_data y_12.2, rB q a_o_text_data 128 y_12.1, oX2 a_p0 a_p0_name a_p0_serials a_p0_since a_p0_reasons x_p0_secret x_p0_publicKey x_p0_nameHash x_p0_keyHash x_p0_issued x_p0_takenBack, oX3 a_p0_name a_p0_name_data x_p0_name_length, rB q a_p0_name_data 16 r_p0_name_data, oX3 a_p1 a_p1_data x_p1_length, rB q a_p1_data n_p1_data r_p1_data]) rfl rfl rfl (by decide) rfl rfl (sn_V (As := [.long p_5.toInt64]) (rest := []) (ci := 3) (q0 := 1) C0 (c_by_addInteger l D q t a_o_text y_11.2 a_o_text_data 128 y_11.1 p_5.toInt64 y_12 hy_12) (cwV 1 hts (g_V kw_676 kw_677 kw_678 kw_73 kw_679) rfl rfl rfl hd_X3_addInteger ⟨Nat.le_of_ble_eq_true rfl, Nat.le_of_ble_eq_true rfl⟩) hP hD hS [1, 2] rfl rfl rfl rfl rfl rfl hl (Nat.le_of_ble_eq_true rfl) dX9_writeCert_107) (fun H locs hP hD hS => ?_)
  refine lv_aload_n hx hb dX9_writeCert_110 rfl (lv_at hl 2 rfl) ?_
  refine va_get (D := D) (ci := 8) (v := .ref a_o_text) (C := RX9) (T := TX9) (N := 5) hx hb hts iw_X9 hown hK hP 0 rfl rfl 0 (by decide) (hts _ kw_439) (fun _ h9 => h9) rfl dX9_writeCert_111 ?_
  refine lv_iload hx hb dX9_writeCert_114 (lv_at hl 0 rfl) ?_
  obtain ⟨y_13, hy_13, hF⟩ := cal_d hF
  refine cf_v C0.1 hP hD hS [1, 2] [0, 3, 4, 5, 6, 7] [0, 6, 7, 1, 2, 3, 4, 5] (wr := [oX9 a_o a_o_text x_o_owner x_o_secret x_o_publicKey x_o_keyHash, oX2 a_p0 a_p0_name a_p0_serials a_p0_since a_p0_reasons x_p0_secret x_p0_publicKey x_p0_nameHash x_p0_keyHash x_p0_issued x_p0_takenBack, oX3 a_p0_name a_p0_name_data x_p0_name_length, rB q a_p0_name_data 16 r_p0_name_data, oX3 a_p1 a_p1_data x_p1_length, rB q a_p1_data n_p1_data r_p1_data]) (w' := [oX9 a_o a_o_text x_o_owner x_o_secret x_o_publicKey x_o_keyHash, oX3 a_o_text a_o_text_data y_13.2, rB q a_o_text_data 128 y_13.1, oX2 a_p0 a_p0_name a_p0_serials a_p0_since a_p0_reasons x_p0_secret x_p0_publicKey x_p0_nameHash x_p0_keyHash x_p0_issued x_p0_takenBack, oX3 a_p0_name a_p0_name_data x_p0_name_length, rB q a_p0_name_data 16 r_p0_name_data, oX3 a_p1 a_p1_data x_p1_length, rB q a_p1_data n_p1_data r_p1_data]) rfl rfl rfl (by decide) rfl rfl (sn_V (As := [.int v10_5]) (rest := []) (ci := 3) (q0 := 1) C0 (c_by_close l D q t a_o_text y_12.2 a_o_text_data 128 y_12.1 v10_5 y_13 hy_13) (cwV 1 hts (g_V kw_719 kw_686 kw_687 kw_73 kw_688) rfl rfl rfl hd_X3_close ⟨Nat.le_of_ble_eq_true rfl, Nat.le_of_ble_eq_true rfl⟩) hP hD hS [1, 2] rfl rfl rfl rfl rfl rfl hl (Nat.le_of_ble_eq_true rfl) dX9_writeCert_116) (fun H locs hP hD hS => ?_)
  refine lv_aload_n hx hb dX9_writeCert_119 rfl (lv_at hl 2 rfl) ?_
  refine va_get (D := D) (ci := 8) (v := .ref a_o_text) (C := RX9) (T := TX9) (N := 5) hx hb hts iw_X9 hown hK hP 0 rfl rfl 0 (by decide) (hts _ kw_439) (fun _ h9 => h9) rfl dX9_writeCert_120 ?_
  refine lv_aload_n hx hb dX9_writeCert_123 rfl (lv_at hl 3 rfl) ?_
  refine va_get (D := D) (ci := 2) (v := .int x_p0_secret) (C := RX2) (T := TX2) (N := 10) hx hb hts iw_X2 hown hK hP 3 rfl rfl 4 (by decide) (hts _ kw_400) (fun _ h9 => h9) rfl dX9_writeCert_124 ?_
  refine lv_aload_n hx hb dX9_writeCert_127 rfl (lv_at hl 2 rfl) ?_
  refine va_get (D := D) (ci := 8) (v := .ref a_o_text) (C := RX9) (T := TX9) (N := 5) hx hb hts iw_X9 hown hK hP 0 rfl rfl 0 (by decide) (hts _ kw_439) (fun _ h9 => h9) rfl dX9_writeCert_128 ?_
  refine lv_iload hx hb dX9_writeCert_131 (lv_at hl 0 rfl) ?_
  refine lv_aload_n hx hb dX9_writeCert_133 rfl (lv_at hl 2 rfl) ?_
  refine va_get (D := D) (ci := 8) (v := .ref a_o_text) (C := RX9) (T := TX9) (N := 5) hx hb hts iw_X9 hown hK hP 0 rfl rfl 0 (by decide) (hts _ kw_439) (fun _ h9 => h9) rfl dX9_writeCert_134 ?_
  refine va_get (D := D) (ci := 3) (v := .int y_13.2) (C := RX3) (T := TX3) (N := 2) hx hb hts iw_X3 hown hK hP 1 rfl rfl 1 (by decide) (hts _ kw_110) (fun _ h9 => h9) rfl dX9_writeCert_137 ?_
  obtain ⟨y_14, hy_14, hF⟩ := cal_d hF
  refine cf_l C0.1 hP hD hS [1, 2] [0, 3, 4, 5, 6, 7] [0, 6, 7, 1, 2, 3, 4, 5] (wr := [oX9 a_o a_o_text x_o_owner x_o_secret x_o_publicKey x_o_keyHash, oX2 a_p0 a_p0_name a_p0_serials a_p0_since a_p0_reasons x_p0_secret x_p0_publicKey x_p0_nameHash x_p0_keyHash x_p0_issued x_p0_takenBack, oX3 a_p0_name a_p0_name_data x_p0_name_length, rB q a_p0_name_data 16 r_p0_name_data, oX3 a_p1 a_p1_data x_p1_length, rB q a_p1_data n_p1_data r_p1_data]) (w' := [oX9 a_o a_o_text x_o_owner x_o_secret x_o_publicKey x_o_keyHash, oX3 a_o_text a_o_text_data y_13.2, rB q a_o_text_data 128 y_13.1, oX2 a_p0 a_p0_name a_p0_serials a_p0_since a_p0_reasons x_p0_secret x_p0_publicKey x_p0_nameHash x_p0_keyHash x_p0_issued x_p0_takenBack, oX3 a_p0_name a_p0_name_data x_p0_name_length, rB q a_p0_name_data 16 r_p0_name_data, oX3 a_p1 a_p1_data x_p1_length, rB q a_p1_data n_p1_data r_p1_data]) rfl rfl rfl (by decide) rfl rfl (sn_V (As := [.int v10_5, .int y_13.2]) (rest := [.int x_p0_secret, .ref a_o_text]) (ci := 3) (q0 := 1) C0 (c_by_digest l D q t a_o_text y_13.2 a_o_text_data 128 y_13.1 v10_5 y_13.2 y_14 hy_14) (cwV 2 hts (g_V kw_720 kw_600 kw_601 kw_73 kw_602) rfl rfl rfl hd_X3_digest ⟨Nat.le_of_ble_eq_true rfl, Nat.le_of_ble_eq_true rfl⟩) hP hD hS [1, 2] rfl rfl rfl rfl rfl rfl hl (Nat.le_of_ble_eq_true rfl) dX9_writeCert_140) (fun H locs hP hD hS => ?_)
  obtain ⟨y_15, hy_15, hF⟩ := cal_d hF
  refine cf_l C0.1 hP hD hS [] [0, 1, 2, 3, 4, 5, 6, 7] [0, 1, 2, 3, 4, 5, 6, 7] (wr := [oX9 a_o a_o_text x_o_owner x_o_secret x_o_publicKey x_o_keyHash, oX3 a_o_text a_o_text_data y_13.2, rB q a_o_text_data 128 y_13.1, oX2 a_p0 a_p0_name a_p0_serials a_p0_since a_p0_reasons x_p0_secret x_p0_publicKey x_p0_nameHash x_p0_keyHash x_p0_issued x_p0_takenBack, oX3 a_p0_name a_p0_name_data x_p0_name_length, rB q a_p0_name_data 16 r_p0_name_data, oX3 a_p1 a_p1_data x_p1_length, rB q a_p1_data n_p1_data r_p1_data]) (w' := [oX9 a_o a_o_text x_o_owner x_o_secret x_o_publicKey x_o_keyHash, oX3 a_o_text a_o_text_data y_13.2, rB q a_o_text_data 128 y_13.1, oX2 a_p0 a_p0_name a_p0_serials a_p0_since a_p0_reasons x_p0_secret x_p0_publicKey x_p0_nameHash x_p0_keyHash x_p0_issued x_p0_takenBack, oX3 a_p0_name a_p0_name_data x_p0_name_length, rB q a_p0_name_data 16 r_p0_name_data, oX3 a_p1 a_p1_data x_p1_length, rB q a_p1_data n_p1_data r_p1_data]) rfl rfl rfl (by decide) rfl rfl (sn_S (As := [.int x_p0_secret, .long y_14]) (rest := [.ref a_o_text]) C0 (c_nu_signature l D q t  x_p0_secret y_14 y_15 hy_15) (va_cwS 2 hts (g_S kw_721 kw_722 kw_84 kw_723) rfl rfl rfl hd_X7_signature ⟨Nat.le_of_ble_eq_true rfl, Nat.le_of_ble_eq_true rfl⟩) hP hD hS [] rfl rfl rfl hl (Nat.le_of_ble_eq_true rfl) dX9_writeCert_143) (fun H locs hP hD hS => ?_)
  obtain ⟨y_16, hy_16, hF⟩ := cal_d hF
  refine cf_v C0.1 hP hD hS [1, 2] [0, 3, 4, 5, 6, 7] [0, 6, 7, 1, 2, 3, 4, 5] (wr := [oX9 a_o a_o_text x_o_owner x_o_secret x_o_publicKey x_o_keyHash, oX2 a_p0 a_p0_name a_p0_serials a_p0_since a_p0_reasons x_p0_secret x_p0_publicKey x_p0_nameHash x_p0_keyHash x_p0_issued x_p0_takenBack, oX3 a_p0_name a_p0_name_data x_p0_name_length, rB q a_p0_name_data 16 r_p0_name_data, oX3 a_p1 a_p1_data x_p1_length, rB q a_p1_data n_p1_data r_p1_data]) (w' := [oX9 a_o a_o_text x_o_owner x_o_secret x_o_publicKey x_o_keyHash, oX3 a_o_text a_o_text_data y_16.2, rB q a_o_text_data 128 y_16.1, oX2 a_p0 a_p0_name a_p0_serials a_p0_since a_p0_reasons x_p0_secret x_p0_publicKey x_p0_nameHash x_p0_keyHash x_p0_issued x_p0_takenBack, oX3 a_p0_name a_p0_name_data x_p0_name_length, rB q a_p0_name_data 16 r_p0_name_data, oX3 a_p1 a_p1_data x_p1_length, rB q a_p1_data n_p1_data r_p1_data]) rfl rfl rfl (by decide) rfl rfl (sn_V (As := [.long y_15]) (rest := []) (ci := 3) (q0 := 1) C0 (c_by_addSignature l D q t a_o_text y_13.2 a_o_text_data 128 y_13.1 y_15 y_16 hy_16) (cwV 1 hts (g_V kw_732 kw_733 kw_734 kw_73 kw_735) rfl rfl rfl hd_X3_addSignature ⟨Nat.le_of_ble_eq_true rfl, Nat.le_of_ble_eq_true rfl⟩) hP hD hS [1, 2] rfl rfl rfl rfl rfl rfl hl (Nat.le_of_ble_eq_true rfl) dX9_writeCert_146) (fun H locs hP hD hS => ?_)
  refine lv_aload_n hx hb dX9_writeCert_149 rfl (lv_at hl 2 rfl) ?_
  refine va_get (D := D) (ci := 8) (v := .ref a_o_text) (C := RX9) (T := TX9) (N := 5) hx hb hts iw_X9 hown hK hP 0 rfl rfl 0 (by decide) (hts _ kw_439) (fun _ h9 => h9) rfl dX9_writeCert_150 ?_
  refine lv_iload hx hb dX9_writeCert_153 (lv_at hl 1 rfl) ?_
  obtain ⟨y_17, hy_17, hF⟩ := cal_d hF
  refine cf_v C0.1 hP hD hS [1, 2] [0, 3, 4, 5, 6, 7] [0, 6, 7, 1, 2, 3, 4, 5] (wr := [oX9 a_o a_o_text x_o_owner x_o_secret x_o_publicKey x_o_keyHash, oX2 a_p0 a_p0_name a_p0_serials a_p0_since a_p0_reasons x_p0_secret x_p0_publicKey x_p0_nameHash x_p0_keyHash x_p0_issued x_p0_takenBack, oX3 a_p0_name a_p0_name_data x_p0_name_length, rB q a_p0_name_data 16 r_p0_name_data, oX3 a_p1 a_p1_data x_p1_length, rB q a_p1_data n_p1_data r_p1_data]) (w' := [oX9 a_o a_o_text x_o_owner x_o_secret x_o_publicKey x_o_keyHash, oX3 a_o_text a_o_text_data y_17.2, rB q a_o_text_data 128 y_17.1, oX2 a_p0 a_p0_name a_p0_serials a_p0_since a_p0_reasons x_p0_secret x_p0_publicKey x_p0_nameHash x_p0_keyHash x_p0_issued x_p0_takenBack, oX3 a_p0_name a_p0_name_data x_p0_name_length, rB q a_p0_name_data 16 r_p0_name_data, oX3 a_p1 a_p1_data x_p1_length, rB q a_p1_data n_p1_data r_p1_data]) rfl rfl rfl (by decide) rfl rfl (sn_V (As := [.int v9_3]) (rest := []) (ci := 3) (q0 := 1) C0 (c_by_close l D q t a_o_text y_16.2 a_o_text_data 128 y_16.1 v9_3 y_17 hy_17) (cwV 1 hts (g_V kw_719 kw_686 kw_687 kw_73 kw_688) rfl rfl rfl hd_X3_close ⟨Nat.le_of_ble_eq_true rfl, Nat.le_of_ble_eq_true rfl⟩) hP hD hS [1, 2] rfl rfl rfl rfl rfl rfl hl (Nat.le_of_ble_eq_true rfl) dX9_writeCert_155) (fun H locs hP hD hS => ?_)
  have hy9 := (Option.some.inj hF).symm
  subst hy9
  exact rt_v C0.1 hP hD hS dX9_writeCert_158
set_option maxHeartbeats 4000000 in
set_option maxRecDepth 100000 in
theorem c_ti_fits (l : Launch) (D : va_G) (q : Nat → ClassId) (t : Nat)  (p_0 : Int64) (y : Int32) (hF : f_ti_fits p_0 = some y)  : cu l yX10_fits (vs yX10_fits cX10_fits 2 (some .boolean)) ({ frames := 0, cells := 0, slots := 0, locals := 0 }) D q t [.long p_0] [] (qI D q y []) := by
  refine cu_of (cc := cX10_fits) (nL := 2) (ret := (some .boolean)) (by decide) (Nat.le_of_ble_eq_true rfl) (fun {p e s m args below meth c A} C0 H locs ls hP hD hS hl => ?_)
  have C0 : cy p s m args meth c cX10_fits (some .boolean) 2 RX10 D q t A := C0
  obtain ⟨⟨hx, hb, hr, hml, hown, hts, hlocks, hK, hA⟩, hG⟩ := id C0
  have hl : lv_has ls 2 [(0, .long p_0)] := hl
  unfold f_ti_fits at hF
  refine lv_lload_n hx hb dX10_fits_0 rfl (lv_at hl 0 rfl) ?_
  refine lv_lconst (v := (0 : Int64)) hx hb dX10_fits_1 (by decide) ?_
  refine W.lcmp hx hb dX10_fits_2 ?_
  refine lv_if_lt (tgt := 18) hx hb dX10_fits_3 (by decide) (fun c_1 => ?_) (fun c_1 => ?_)
  · replace hF := ite_t hF ((lg_cmp_lt _ _).mp c_1)
    refine lv_iconst (v := (0 : Int32)) hx hb dX10_fits_18 (by decide) ?_
    have hy9 := (Option.some.inj hF).symm
    subst hy9
    exact rt_z (v := (0 : Int32)) C0.1 rfl hP hD hS dX10_fits_19
  · replace hF := ite_f hF (fun h => c_1 ((lg_cmp_lt _ _).mpr h))
    refine lv_lload_n hx hb dX10_fits_6 rfl (lv_at hl 0 rfl) ?_
    refine lv_ldc2 (v := (3155759999 : Int64)) hx hb hown (hts _ kw_647) dX10_fits_7 ?_
    refine W.lcmp hx hb dX10_fits_10 ?_
    refine lv_if_gt (tgt := 18) hx hb dX10_fits_11 (by decide) (fun c_2 => ?_) (fun c_2 => ?_)
    · replace hF := ite_t hF ((lg_cmp_gt _ _).mp c_2)
      refine lv_iconst (v := (0 : Int32)) hx hb dX10_fits_18 (by decide) ?_
      have hy9 := (Option.some.inj hF).symm
      subst hy9
      exact rt_z (v := (0 : Int32)) C0.1 rfl hP hD hS dX10_fits_19
    · replace hF := ite_f hF (fun h => c_2 ((lg_cmp_gt _ _).mpr h))
      refine lv_iconst (v := (1 : Int32)) hx hb dX10_fits_14 (by decide) ?_
      refine lv_goto (tgt := 19) hx hb dX10_fits_15 (by decide) ?_
      have hy9 := (Option.some.inj hF).symm
      subst hy9
      exact rt_z (v := (1 : Int32)) C0.1 rfl hP hD hS dX10_fits_19
set_option maxHeartbeats 4000000 in
set_option maxRecDepth 100000 in
theorem c_de_feed (l : Launch) (D : va_G) (q : Nat → ClassId) (t : Nat) (a_o : Nat) (a_o_out : Nat) (a_o_ownNonce : Nat) (a_o_authorities : Nat) (a_o_signers : Nat) (a_o_shelf : Nat) (a_o_latest : Nat) (a_o_wanted : Nat) (a_o_scan : Nat) (a_o_askText : Nat) (a_o_answerText : Nat) (x_o_authorityCount : Int32) (x_o_signerCount : Int32) (x_o_heldCount : Int32) (x_o_rightAnswers : Int32) (x_o_otherAnswers : Int32) (x_o_looks : Int32) (x_o_latestVerdict : Int32) (x_o_findToHold : Int32) (a_o_tape : Nat) (x_o_tape_length : Int32) (a_o_tape_data : Nat) (r_o_tape_data : (Nat → Int32)) (p_0 : Int64) (p_1 : Int32) (y : Int32 × (Nat → Int32) × Int32) (hF : f_de_feed r_o_tape_data x_o_tape_length p_0 p_1 = some y)  : cu l yX11_feed (vs yX11_feed cX11_feed 4 (some .int)) ({ frames := 2, cells := 0, slots := 0, locals := 45 }) D q t [.ref a_o, .long p_0, .int p_1] [oX11 a_o a_o_tape a_o_out a_o_ownNonce a_o_authorities a_o_signers a_o_shelf a_o_latest a_o_wanted a_o_scan a_o_askText a_o_answerText x_o_authorityCount x_o_signerCount x_o_heldCount x_o_rightAnswers x_o_otherAnswers x_o_looks x_o_latestVerdict x_o_findToHold, oX3 a_o_tape a_o_tape_data x_o_tape_length, rB q a_o_tape_data 1500 r_o_tape_data] (qI D q y.1 [oX11 a_o a_o_tape a_o_out a_o_ownNonce a_o_authorities a_o_signers a_o_shelf a_o_latest a_o_wanted a_o_scan a_o_askText a_o_answerText x_o_authorityCount x_o_signerCount x_o_heldCount x_o_rightAnswers x_o_otherAnswers x_o_looks x_o_latestVerdict x_o_findToHold, oX3 a_o_tape a_o_tape_data y.2.2, rB q a_o_tape_data 1500 y.2.1]) := by
  refine cu_of (cc := cX11_feed) (nL := 4) (ret := (some .int)) (by decide) (Nat.le_of_ble_eq_true rfl) (fun {p e s m args below meth c A} C0 H locs ls hP hD hS hl => ?_)
  have C0 : cy p s m args meth c cX11_feed (some .int) 4 RX11 D q t A := C0
  obtain ⟨⟨hx, hb, hr, hml, hown, hts, hlocks, hK, hA⟩, hG⟩ := id C0
  have hl : lv_has ls 4 [(0, .ref a_o), (1, .long p_0), (3, .int p_1)] := hl
  unfold f_de_feed at hF
  refine lv_iload_n hx hb dX11_feed_0 rfl (lv_at hl 2 rfl) ?_
  refine lv_iconst (v := (1 : Int32)) hx hb dX11_feed_1 (by decide) ?_
  refine lv_icmp_lt (tgt := 11) hx hb dX11_feed_2 (by decide) (fun c_1 => ?_) (fun c_1 => ?_)
  · replace hF := ite_t hF c_1
    refine lv_bipush (v := (-2 : Int32)) hx hb dX11_feed_11 (by decide) ?_
    have hy9 := (Option.some.inj hF).symm
    subst hy9
    exact rt_i C0.1 hP hD hS dX11_feed_13
  · replace hF := ite_f hF c_1
    refine lv_iload_n hx hb dX11_feed_5 rfl (lv_at hl 2 rfl) ?_
    refine lv_bipush (v := (8 : Int32)) hx hb dX11_feed_6 (by decide) ?_
    refine lv_icmp_le (tgt := 14) hx hb dX11_feed_8 (by decide) (fun c_2 => ?_) (fun c_2 => ?_)
    · replace hF := ite_t hF c_2
      refine lv_aload_n hx hb dX11_feed_14 rfl (lv_at hl 0 rfl) ?_
      refine va_get (D := D) (ci := 9) (v := .ref a_o_tape) (C := RX11) (T := TX11) (N := 19) hx hb hts iw_X11 hown hK hP 0 rfl rfl 0 (by decide) (hts _ kw_460) (fun _ h9 => h9) rfl dX11_feed_15 ?_
      refine va_get (D := D) (ci := 3) (v := .int x_o_tape_length) (C := RX3) (T := TX3) (N := 2) hx hb hts iw_X3 hown hK hP 1 rfl rfl 1 (by decide) (hts _ kw_108) (fun _ h9 => h9) rfl dX11_feed_18 ?_
      refine lv_iload_n hx hb dX11_feed_21 rfl (lv_at hl 2 rfl) ?_
      refine lv_iadd hx hb dX11_feed_22 ?_
      refine lv_sipush (v := (1500 : Int32)) hx hb dX11_feed_23 (by decide) ?_
      refine lv_icmp_le (tgt := 32) hx hb dX11_feed_26 (by decide) (fun c_3 => ?_) (fun c_3 => ?_)
      · replace hF := ite_t hF c_3
        refine lv_aload_n hx hb dX11_feed_32 rfl (lv_at hl 0 rfl) ?_
        refine va_get (D := D) (ci := 9) (v := .ref a_o_tape) (C := RX11) (T := TX11) (N := 19) hx hb hts iw_X11 hown hK hP 0 rfl rfl 0 (by decide) (hts _ kw_460) (fun _ h9 => h9) rfl dX11_feed_33 ?_
        refine lv_lload_n hx hb dX11_feed_36 rfl (lv_at hl 1 rfl) ?_
        refine lv_iload_n hx hb dX11_feed_37 rfl (lv_at hl 2 rfl) ?_
        obtain ⟨y_4, hy_4, hF⟩ := cal_d hF
        refine cf_v C0.1 hP hD hS [1, 2] [0] [0, 1, 2] (wr := [oX11 a_o a_o_tape a_o_out a_o_ownNonce a_o_authorities a_o_signers a_o_shelf a_o_latest a_o_wanted a_o_scan a_o_askText a_o_answerText x_o_authorityCount x_o_signerCount x_o_heldCount x_o_rightAnswers x_o_otherAnswers x_o_looks x_o_latestVerdict x_o_findToHold]) (w' := [oX11 a_o a_o_tape a_o_out a_o_ownNonce a_o_authorities a_o_signers a_o_shelf a_o_latest a_o_wanted a_o_scan a_o_askText a_o_answerText x_o_authorityCount x_o_signerCount x_o_heldCount x_o_rightAnswers x_o_otherAnswers x_o_looks x_o_latestVerdict x_o_findToHold, oX3 a_o_tape a_o_tape_data y_4.2, rB q a_o_tape_data 1500 y_4.1]) rfl rfl rfl (by decide) rfl rfl (sn_V (As := [.long p_0, .int p_1]) (rest := []) (ci := 3) (q0 := 1) C0 (c_by_addLowestFirst l D q t a_o_tape x_o_tape_length a_o_tape_data 1500 r_o_tape_data p_0 p_1 y_4 hy_4) (cwV 2 hts (g_V kw_522 kw_523 kw_524 kw_73 kw_525) rfl rfl rfl hd_X3_addLowestFirst ⟨Nat.le_of_ble_eq_true rfl, Nat.le_of_ble_eq_true rfl⟩) hP hD hS [1, 2] rfl rfl rfl rfl rfl rfl hl (Nat.le_of_ble_eq_true rfl) dX11_feed_38) (fun H locs hP hD hS => ?_)
        refine lv_aload_n hx hb dX11_feed_41 rfl (lv_at hl 0 rfl) ?_
        refine va_get (D := D) (ci := 9) (v := .ref a_o_tape) (C := RX11) (T := TX11) (N := 19) hx hb hts iw_X11 hown hK hP 0 rfl rfl 0 (by decide) (hts _ kw_460) (fun _ h9 => h9) rfl dX11_feed_42 ?_
        refine va_get (D := D) (ci := 3) (v := .int y_4.2) (C := RX3) (T := TX3) (N := 2) hx hb hts iw_X3 hown hK hP 1 rfl rfl 1 (by decide) (hts _ kw_108) (fun _ h9 => h9) rfl dX11_feed_45 ?_
        have hy9 := (Option.some.inj hF).symm
        subst hy9
        exact rt_i C0.1 hP hD hS dX11_feed_48
      · replace hF := ite_f hF c_3
        refine lv_bipush (v := (-3 : Int32)) hx hb dX11_feed_29 (by decide) ?_
        have hy9 := (Option.some.inj hF).symm
        subst hy9
        exact rt_i C0.1 hP hD hS dX11_feed_31
    · replace hF := ite_f hF c_2
      refine lv_bipush (v := (-2 : Int32)) hx hb dX11_feed_11 (by decide) ?_
      have hy9 := (Option.some.inj hF).symm
      subst hy9
      exact rt_i C0.1 hP hD hS dX11_feed_13
set_option maxHeartbeats 4000000 in
set_option maxRecDepth 100000 in
theorem c_de_take (l : Launch) (D : va_G) (q : Nat → ClassId) (t : Nat) (a_o : Nat) (a_o_ownNonce : Nat) (a_o_authorities : Nat) (a_o_signers : Nat) (a_o_shelf : Nat) (a_o_latest : Nat) (a_o_wanted : Nat) (a_o_scan : Nat) (a_o_askText : Nat) (a_o_answerText : Nat) (x_o_authorityCount : Int32) (x_o_signerCount : Int32) (x_o_heldCount : Int32) (x_o_rightAnswers : Int32) (x_o_otherAnswers : Int32) (x_o_looks : Int32) (x_o_latestVerdict : Int32) (x_o_findToHold : Int32) (a_o_out : Nat) (x_o_out_length : Int32) (a_o_tape : Nat) (x_o_tape_length : Int32) (a_o_out_data : Nat) (r_o_out_data : (Nat → Int32)) (a_o_tape_data : Nat) (r_o_tape_data : (Nat → Int32))  (y : Int32 × (Nat → Int32) × Int32) (hF : f_de_take r_o_out_data x_o_out_length r_o_tape_data x_o_tape_length = some y)  : cu l yX11_take (vs yX11_take cX11_take 1 (some .int)) ({ frames := 3, cells := 0, slots := 0, locals := 66 }) D q t [.ref a_o] [oX11 a_o a_o_tape a_o_out a_o_ownNonce a_o_authorities a_o_signers a_o_shelf a_o_latest a_o_wanted a_o_scan a_o_askText a_o_answerText x_o_authorityCount x_o_signerCount x_o_heldCount x_o_rightAnswers x_o_otherAnswers x_o_looks x_o_latestVerdict x_o_findToHold, oX3 a_o_out a_o_out_data x_o_out_length, oX3 a_o_tape a_o_tape_data x_o_tape_length, rB q a_o_out_data 1500 r_o_out_data, rB q a_o_tape_data 1500 r_o_tape_data] (qI D q y.1 [oX11 a_o a_o_tape a_o_out a_o_ownNonce a_o_authorities a_o_signers a_o_shelf a_o_latest a_o_wanted a_o_scan a_o_askText a_o_answerText x_o_authorityCount x_o_signerCount x_o_heldCount x_o_rightAnswers x_o_otherAnswers x_o_looks x_o_latestVerdict x_o_findToHold, oX3 a_o_out a_o_out_data x_o_out_length, oX3 a_o_tape a_o_tape_data y.2.2, rB q a_o_out_data 1500 r_o_out_data, rB q a_o_tape_data 1500 y.2.1]) := by
  refine cu_of (cc := cX11_take) (nL := 1) (ret := (some .int)) (by decide) (Nat.le_of_ble_eq_true rfl) (fun {p e s m args below meth c A} C0 H locs ls hP hD hS hl => ?_)
  have C0 : cy p s m args meth c cX11_take (some .int) 1 RX11 D q t A := C0
  obtain ⟨⟨hx, hb, hr, hml, hown, hts, hlocks, hK, hA⟩, hG⟩ := id C0
  have hl : lv_has ls 1 [(0, .ref a_o)] := hl
  unfold f_de_take at hF
  refine lv_aload_n hx hb dX11_take_0 rfl (lv_at hl 0 rfl) ?_
  refine va_get (D := D) (ci := 9) (v := .ref a_o_tape) (C := RX11) (T := TX11) (N := 19) hx hb hts iw_X11 hown hK hP 0 rfl rfl 0 (by decide) (hts _ kw_460) (fun _ h9 => h9) rfl dX11_take_1 ?_
  refine lv_aload_n hx hb dX11_take_4 rfl (lv_at hl 0 rfl) ?_
  refine va_get (D := D) (ci := 9) (v := .ref a_o_out) (C := RX11) (T := TX11) (N := 19) hx hb hts iw_X11 hown hK hP 0 rfl rfl 1 (by decide) (hts _ kw_461) (fun _ h9 => h9) rfl dX11_take_5 ?_
  obtain ⟨y_1, hy_1, hF⟩ := cal_d hF
  refine cf_v C0.1 hP hD hS [2, 4, 1, 3] [0] [0, 3, 1, 4, 2] (wr := [oX11 a_o a_o_tape a_o_out a_o_ownNonce a_o_authorities a_o_signers a_o_shelf a_o_latest a_o_wanted a_o_scan a_o_askText a_o_answerText x_o_authorityCount x_o_signerCount x_o_heldCount x_o_rightAnswers x_o_otherAnswers x_o_looks x_o_latestVerdict x_o_findToHold]) (w' := [oX11 a_o a_o_tape a_o_out a_o_ownNonce a_o_authorities a_o_signers a_o_shelf a_o_latest a_o_wanted a_o_scan a_o_askText a_o_answerText x_o_authorityCount x_o_signerCount x_o_heldCount x_o_rightAnswers x_o_otherAnswers x_o_looks x_o_latestVerdict x_o_findToHold, oX3 a_o_out a_o_out_data x_o_out_length, oX3 a_o_tape a_o_tape_data y_1.2, rB q a_o_out_data 1500 r_o_out_data, rB q a_o_tape_data 1500 y_1.1]) rfl rfl rfl (by decide) rfl rfl (sn_V (As := [.ref a_o_out]) (rest := []) (ci := 3) (q0 := 2) C0 (c_by_copyOf l D q t a_o_tape x_o_tape_length a_o_tape_data 1500 r_o_tape_data a_o_out x_o_out_length a_o_out_data 1500 r_o_out_data  y_1 hy_1) (cwV 1 hts (g_V kw_534 kw_535 kw_536 kw_73 kw_537) rfl rfl rfl hd_X3_copyOf ⟨Nat.le_of_ble_eq_true rfl, Nat.le_of_ble_eq_true rfl⟩) hP hD hS [2, 4, 1, 3] rfl rfl rfl rfl rfl rfl hl (Nat.le_of_ble_eq_true rfl) dX11_take_8) (fun H locs hP hD hS => ?_)
  refine lv_aload_n hx hb dX11_take_11 rfl (lv_at hl 0 rfl) ?_
  refine va_get (D := D) (ci := 9) (v := .ref a_o_tape) (C := RX11) (T := TX11) (N := 19) hx hb hts iw_X11 hown hK hP 0 rfl rfl 0 (by decide) (hts _ kw_460) (fun _ h9 => h9) rfl dX11_take_12 ?_
  refine va_get (D := D) (ci := 3) (v := .int y_1.2) (C := RX3) (T := TX3) (N := 2) hx hb hts iw_X3 hown hK hP 2 rfl rfl 1 (by decide) (hts _ kw_108) (fun _ h9 => h9) rfl dX11_take_15 ?_
  have hy9 := (Option.some.inj hF).symm
  subst hy9
  exact rt_i C0.1 hP hD hS dX11_take_18
set_option maxHeartbeats 4000000 in
set_option maxRecDepth 100000 in
theorem c_de_spoil (l : Launch) (D : va_G) (q : Nat → ClassId) (t : Nat) (a_o : Nat) (a_o_out : Nat) (a_o_ownNonce : Nat) (a_o_authorities : Nat) (a_o_signers : Nat) (a_o_shelf : Nat) (a_o_latest : Nat) (a_o_wanted : Nat) (a_o_scan : Nat) (a_o_askText : Nat) (a_o_answerText : Nat) (x_o_authorityCount : Int32) (x_o_signerCount : Int32) (x_o_heldCount : Int32) (x_o_rightAnswers : Int32) (x_o_otherAnswers : Int32) (x_o_looks : Int32) (x_o_latestVerdict : Int32) (x_o_findToHold : Int32) (a_o_tape : Nat) (x_o_tape_length : Int32) (a_o_tape_data : Nat) (r_o_tape_data : (Nat → Int32)) (p_0 : Int32) (p_1 : Int32) (y : Int32 × (Nat → Int32)) (hF : f_de_spoil r_o_tape_data x_o_tape_length p_0 p_1 = some y)  : cu l yX11_spoil (vs yX11_spoil cX11_spoil 3 (some .int)) ({ frames := 1, cells := 0, slots := 0, locals := 21 }) D q t [.ref a_o, .int p_0, .int p_1] [oX11 a_o a_o_tape a_o_out a_o_ownNonce a_o_authorities a_o_signers a_o_shelf a_o_latest a_o_wanted a_o_scan a_o_askText a_o_answerText x_o_authorityCount x_o_signerCount x_o_heldCount x_o_rightAnswers x_o_otherAnswers x_o_looks x_o_latestVerdict x_o_findToHold, oX3 a_o_tape a_o_tape_data x_o_tape_length, rB q a_o_tape_data 1500 r_o_tape_data] (qI D q y.1 [oX11 a_o a_o_tape a_o_out a_o_ownNonce a_o_authorities a_o_signers a_o_shelf a_o_latest a_o_wanted a_o_scan a_o_askText a_o_answerText x_o_authorityCount x_o_signerCount x_o_heldCount x_o_rightAnswers x_o_otherAnswers x_o_looks x_o_latestVerdict x_o_findToHold, oX3 a_o_tape a_o_tape_data x_o_tape_length, rB q a_o_tape_data 1500 y.2]) := by
  refine cu_of (cc := cX11_spoil) (nL := 3) (ret := (some .int)) (by decide) (Nat.le_of_ble_eq_true rfl) (fun {p e s m args below meth c A} C0 H locs ls hP hD hS hl => ?_)
  have C0 : cy p s m args meth c cX11_spoil (some .int) 3 RX11 D q t A := C0
  obtain ⟨⟨hx, hb, hr, hml, hown, hts, hlocks, hK, hA⟩, hG⟩ := id C0
  have hl : lv_has ls 3 [(0, .ref a_o), (1, .int p_0), (2, .int p_1)] := hl
  unfold f_de_spoil at hF
  refine lv_iload_n hx hb dX11_spoil_0 rfl (lv_at hl 1 rfl) ?_
  refine lv_if_lt (tgt := 15) hx hb dX11_spoil_1 (by decide) (fun c_1 => ?_) (fun c_1 => ?_)
  · replace hF := ite_t hF c_1
    refine lv_bipush (v := (-2 : Int32)) hx hb dX11_spoil_15 (by decide) ?_
    have hy9 := (Option.some.inj hF).symm
    subst hy9
    exact rt_i C0.1 hP hD hS dX11_spoil_17
  · replace hF := ite_f hF c_1
    refine lv_iload_n hx hb dX11_spoil_4 rfl (lv_at hl 1 rfl) ?_
    refine lv_aload_n hx hb dX11_spoil_5 rfl (lv_at hl 0 rfl) ?_
    refine va_get (D := D) (ci := 9) (v := .ref a_o_tape) (C := RX11) (T := TX11) (N := 19) hx hb hts iw_X11 hown hK hP 0 rfl rfl 0 (by decide) (hts _ kw_460) (fun _ h9 => h9) rfl dX11_spoil_6 ?_
    refine va_get (D := D) (ci := 3) (v := .int x_o_tape_length) (C := RX3) (T := TX3) (N := 2) hx hb hts iw_X3 hown hK hP 1 rfl rfl 1 (by decide) (hts _ kw_108) (fun _ h9 => h9) rfl dX11_spoil_9 ?_
    refine lv_icmp_lt (tgt := 18) hx hb dX11_spoil_12 (by decide) (fun c_2 => ?_) (fun c_2 => ?_)
    · replace hF := ite_t hF c_2
      refine lv_aload_n hx hb dX11_spoil_18 rfl (lv_at hl 0 rfl) ?_
      refine va_get (D := D) (ci := 9) (v := .ref a_o_tape) (C := RX11) (T := TX11) (N := 19) hx hb hts iw_X11 hown hK hP 0 rfl rfl 0 (by decide) (hts _ kw_460) (fun _ h9 => h9) rfl dX11_spoil_19 ?_
      refine va_get (D := D) (ci := 3) (v := .ref a_o_tape_data) (C := RX3) (T := TX3) (N := 2) hx hb hts iw_X3 hown hK hP 1 rfl rfl 0 (by decide) (hts _ kw_105) (fun _ h9 => h9) rfl dX11_spoil_22 ?_
      refine lv_iload_n hx hb dX11_spoil_25 rfl (lv_at hl 1 rfl) ?_
      refine lv_dup2_11 hx hb dX11_spoil_26 rfl rfl ?_
      obtain ⟨z_3, hF⟩ := chk_d hF
      refine va_bald hx hb hK hP 2 0 rfl rfl z_3 dX11_spoil_27 ?_
      refine lv_iload_n hx hb dX11_spoil_28 rfl (lv_at hl 2 rfl) ?_
      refine lv_i2b hx hb dX11_spoil_29 rfl ?_
      refine lv_ixor hx hb dX11_spoil_30 ?_
      refine lv_i2b hx hb dX11_spoil_31 rfl ?_
      refine va_bast hx hb hK hP hD hS 2 0 rfl rfl z_3 dX11_spoil_32 (fun H locs hP hD hS => ?_)
      obtain ⟨r_o_tape_data_4, e_r_o_tape_data_4⟩ : ∃ z : (Nat → Int32), z = upd r_o_tape_data p_0.toNatClampNeg (vp_nar .byte (((r_o_tape_data p_0.toNatClampNeg) ^^^ p_1.toInt8.toInt32).toInt8.toInt32)) := ⟨_, rfl⟩
      replace hF := bnd_d hF e_r_o_tape_data_4
      have hP : va_P D vwCl ([oX11 a_o a_o_tape a_o_out a_o_ownNonce a_o_authorities a_o_signers a_o_shelf a_o_latest a_o_wanted a_o_scan a_o_askText a_o_answerText x_o_authorityCount x_o_signerCount x_o_heldCount x_o_rightAnswers x_o_otherAnswers x_o_looks x_o_latestVerdict x_o_findToHold, oX3 a_o_tape a_o_tape_data x_o_tape_length, rB q a_o_tape_data 1500 r_o_tape_data_4]) H := by rw [e_r_o_tape_data_4]; exact hP
      have hD : va_D A ([oX11 a_o a_o_tape a_o_out a_o_ownNonce a_o_authorities a_o_signers a_o_shelf a_o_latest a_o_wanted a_o_scan a_o_askText a_o_answerText x_o_authorityCount x_o_signerCount x_o_heldCount x_o_rightAnswers x_o_otherAnswers x_o_looks x_o_latestVerdict x_o_findToHold, oX3 a_o_tape a_o_tape_data x_o_tape_length, rB q a_o_tape_data 1500 r_o_tape_data_4]) := by rw [e_r_o_tape_data_4]; exact hD
      refine lv_aload_n hx hb dX11_spoil_33 rfl (lv_at hl 0 rfl) ?_
      refine va_get (D := D) (ci := 9) (v := .ref a_o_tape) (C := RX11) (T := TX11) (N := 19) hx hb hts iw_X11 hown hK hP 0 rfl rfl 0 (by decide) (hts _ kw_460) (fun _ h9 => h9) rfl dX11_spoil_34 ?_
      refine lv_iload_n hx hb dX11_spoil_37 rfl (lv_at hl 1 rfl) ?_
      obtain ⟨y_5, hy_5, hF⟩ := cal_d hF
      refine cf_i C0.1 hP hD hS [1, 2] [0] [0, 1, 2] (wr := [oX11 a_o a_o_tape a_o_out a_o_ownNonce a_o_authorities a_o_signers a_o_shelf a_o_latest a_o_wanted a_o_scan a_o_askText a_o_answerText x_o_authorityCount x_o_signerCount x_o_heldCount x_o_rightAnswers x_o_otherAnswers x_o_looks x_o_latestVerdict x_o_findToHold]) (w' := [oX11 a_o a_o_tape a_o_out a_o_ownNonce a_o_authorities a_o_signers a_o_shelf a_o_latest a_o_wanted a_o_scan a_o_askText a_o_answerText x_o_authorityCount x_o_signerCount x_o_heldCount x_o_rightAnswers x_o_otherAnswers x_o_looks x_o_latestVerdict x_o_findToHold, oX3 a_o_tape a_o_tape_data x_o_tape_length, rB q a_o_tape_data 1500 r_o_tape_data_4]) rfl rfl rfl (by decide) rfl rfl (sn_V (As := [.int p_0]) (rest := []) (ci := 3) (q0 := 1) C0 (c_by_byteAt l D q t a_o_tape x_o_tape_length a_o_tape_data 1500 r_o_tape_data_4 p_0 y_5 hy_5) (cwV 1 hts (g_V kw_554 kw_547 kw_548 kw_73 kw_549) rfl rfl rfl hd_X3_byteAt ⟨Nat.le_of_ble_eq_true rfl, Nat.le_of_ble_eq_true rfl⟩) hP hD hS [1, 2] rfl rfl rfl rfl rfl rfl hl (Nat.le_of_ble_eq_true rfl) dX11_spoil_38) (fun H locs hP hD hS => ?_)
      have hy9 := (Option.some.inj hF).symm
      subst hy9
      exact rt_i C0.1 hP hD hS dX11_spoil_41
    · replace hF := ite_f hF c_2
      refine lv_bipush (v := (-2 : Int32)) hx hb dX11_spoil_15 (by decide) ?_
      have hy9 := (Option.some.inj hF).symm
      subst hy9
      exact rt_i C0.1 hP hD hS dX11_spoil_17
set_option maxHeartbeats 4000000 in
set_option maxRecDepth 100000 in
theorem c_de_cut (l : Launch) (D : va_G) (q : Nat → ClassId) (t : Nat) (a_o : Nat) (a_o_out : Nat) (a_o_ownNonce : Nat) (a_o_authorities : Nat) (a_o_signers : Nat) (a_o_shelf : Nat) (a_o_latest : Nat) (a_o_wanted : Nat) (a_o_scan : Nat) (a_o_askText : Nat) (a_o_answerText : Nat) (x_o_authorityCount : Int32) (x_o_signerCount : Int32) (x_o_heldCount : Int32) (x_o_rightAnswers : Int32) (x_o_otherAnswers : Int32) (x_o_looks : Int32) (x_o_latestVerdict : Int32) (x_o_findToHold : Int32) (a_o_tape : Nat) (a_o_tape_data : Nat) (x_o_tape_length : Int32) (p_0 : Int32) (y : Int32 × Int32) (hF : f_de_cut x_o_tape_length p_0 = some y)  : cu l yX11_cut (vs yX11_cut cX11_cut 3 (some .int)) ({ frames := 0, cells := 0, slots := 0, locals := 0 }) D q t [.ref a_o, .int p_0] [oX11 a_o a_o_tape a_o_out a_o_ownNonce a_o_authorities a_o_signers a_o_shelf a_o_latest a_o_wanted a_o_scan a_o_askText a_o_answerText x_o_authorityCount x_o_signerCount x_o_heldCount x_o_rightAnswers x_o_otherAnswers x_o_looks x_o_latestVerdict x_o_findToHold, oX3 a_o_tape a_o_tape_data x_o_tape_length] (qI D q y.1 [oX11 a_o a_o_tape a_o_out a_o_ownNonce a_o_authorities a_o_signers a_o_shelf a_o_latest a_o_wanted a_o_scan a_o_askText a_o_answerText x_o_authorityCount x_o_signerCount x_o_heldCount x_o_rightAnswers x_o_otherAnswers x_o_looks x_o_latestVerdict x_o_findToHold, oX3 a_o_tape a_o_tape_data y.2]) := by
  refine cu_of (cc := cX11_cut) (nL := 3) (ret := (some .int)) (by decide) (Nat.le_of_ble_eq_true rfl) (fun {p e s m args below meth c A} C0 H locs ls hP hD hS hl => ?_)
  have C0 : cy p s m args meth c cX11_cut (some .int) 3 RX11 D q t A := C0
  obtain ⟨⟨hx, hb, hr, hml, hown, hts, hlocks, hK, hA⟩, hG⟩ := id C0
  have hl : lv_has ls 3 [(0, .ref a_o), (1, .int p_0)] := hl
  unfold f_de_cut at hF
  refine lv_iload_n hx hb dX11_cut_0 rfl (lv_at hl 1 rfl) ?_
  refine lv_if_lt (tgt := 15) hx hb dX11_cut_1 (by decide) (fun c_1 => ?_) (fun c_1 => ?_)
  · replace hF := ite_t hF c_1
    refine lv_bipush (v := (-2 : Int32)) hx hb dX11_cut_15 (by decide) ?_
    have hy9 := (Option.some.inj hF).symm
    subst hy9
    exact rt_i C0.1 hP hD hS dX11_cut_17
  · replace hF := ite_f hF c_1
    refine lv_iload_n hx hb dX11_cut_4 rfl (lv_at hl 1 rfl) ?_
    refine lv_aload_n hx hb dX11_cut_5 rfl (lv_at hl 0 rfl) ?_
    refine va_get (D := D) (ci := 9) (v := .ref a_o_tape) (C := RX11) (T := TX11) (N := 19) hx hb hts iw_X11 hown hK hP 0 rfl rfl 0 (by decide) (hts _ kw_460) (fun _ h9 => h9) rfl dX11_cut_6 ?_
    refine va_get (D := D) (ci := 3) (v := .int x_o_tape_length) (C := RX3) (T := TX3) (N := 2) hx hb hts iw_X3 hown hK hP 1 rfl rfl 1 (by decide) (hts _ kw_108) (fun _ h9 => h9) rfl dX11_cut_9 ?_
    refine lv_icmp_le (tgt := 18) hx hb dX11_cut_12 (by decide) (fun c_2 => ?_) (fun c_2 => ?_)
    · replace hF := ite_t hF c_2
      refine lv_aload_n hx hb dX11_cut_18 rfl (lv_at hl 0 rfl) ?_
      refine va_get (D := D) (ci := 9) (v := .ref a_o_tape) (C := RX11) (T := TX11) (N := 19) hx hb hts iw_X11 hown hK hP 0 rfl rfl 0 (by decide) (hts _ kw_460) (fun _ h9 => h9) rfl dX11_cut_19 ?_
      refine va_get (D := D) (ci := 3) (v := .int x_o_tape_length) (C := RX3) (T := TX3) (N := 2) hx hb hts iw_X3 hown hK hP 1 rfl rfl 1 (by decide) (hts _ kw_108) (fun _ h9 => h9) rfl dX11_cut_22 ?_
      refine lv_istore_n (lv' := [(2, .int x_o_tape_length), (0, .ref a_o), (1, .int p_0)]) hx hb dX11_cut_25 rfl hl (by decide) rfl (fun ls hl => ?_)
      refine lv_aload_n hx hb dX11_cut_26 rfl (lv_at hl 1 rfl) ?_
      refine va_get (D := D) (ci := 9) (v := .ref a_o_tape) (C := RX11) (T := TX11) (N := 19) hx hb hts iw_X11 hown hK hP 0 rfl rfl 0 (by decide) (hts _ kw_460) (fun _ h9 => h9) rfl dX11_cut_27 ?_
      refine lv_iload_n hx hb dX11_cut_30 rfl (lv_at hl 2 rfl) ?_
      refine va_put (D := D) (ci := 3) (v := .int p_0) (ty := .int) (C := RX3) (T := TX3) (N := 2) hx hb hts iw_X3 tyX3 tyX3_ok nmX3 hown hK hP hD hS 1 rfl rfl 1 (by decide) (hts _ kw_108) (fun _ h9 => h9) rfl (by decide +kernel) rfl rfl (Nat.le_of_ble_eq_true rfl) dX11_cut_31 (fun H locs hP hD hS => ?_)
      have hP : va_P D vwCl ([oX11 a_o a_o_tape a_o_out a_o_ownNonce a_o_authorities a_o_signers a_o_shelf a_o_latest a_o_wanted a_o_scan a_o_askText a_o_answerText x_o_authorityCount x_o_signerCount x_o_heldCount x_o_rightAnswers x_o_otherAnswers x_o_looks x_o_latestVerdict x_o_findToHold, oX3 a_o_tape a_o_tape_data p_0]) H := hP
      have hD : va_D A ([oX11 a_o a_o_tape a_o_out a_o_ownNonce a_o_authorities a_o_signers a_o_shelf a_o_latest a_o_wanted a_o_scan a_o_askText a_o_answerText x_o_authorityCount x_o_signerCount x_o_heldCount x_o_rightAnswers x_o_otherAnswers x_o_looks x_o_latestVerdict x_o_findToHold, oX3 a_o_tape a_o_tape_data p_0]) := hD
      refine lv_iload_n hx hb dX11_cut_34 rfl (lv_at hl 0 rfl) ?_
      have hy9 := (Option.some.inj hF).symm
      subst hy9
      exact rt_i C0.1 hP hD hS dX11_cut_35
    · replace hF := ite_f hF c_2
      refine lv_bipush (v := (-2 : Int32)) hx hb dX11_cut_15 (by decide) ?_
      have hy9 := (Option.some.inj hF).symm
      subst hy9
      exact rt_i C0.1 hP hD hS dX11_cut_17
set_option maxHeartbeats 4000000 in
set_option maxRecDepth 100000 in
theorem c_de_size (l : Launch) (D : va_G) (q : Nat → ClassId) (t : Nat) (a_o : Nat) (a_o_tape : Nat) (a_o_ownNonce : Nat) (a_o_authorities : Nat) (a_o_signers : Nat) (a_o_shelf : Nat) (a_o_latest : Nat) (a_o_wanted : Nat) (a_o_scan : Nat) (a_o_askText : Nat) (a_o_answerText : Nat) (x_o_authorityCount : Int32) (x_o_signerCount : Int32) (x_o_heldCount : Int32) (x_o_rightAnswers : Int32) (x_o_otherAnswers : Int32) (x_o_looks : Int32) (x_o_latestVerdict : Int32) (x_o_findToHold : Int32) (a_o_out : Nat) (a_o_out_data : Nat) (x_o_out_length : Int32)  (y : Int32) (hF : f_de_size x_o_out_length = some y)  : cu l yX11_size (vs yX11_size cX11_size 1 (some .int)) ({ frames := 0, cells := 0, slots := 0, locals := 0 }) D q t [.ref a_o] [oX11 a_o a_o_tape a_o_out a_o_ownNonce a_o_authorities a_o_signers a_o_shelf a_o_latest a_o_wanted a_o_scan a_o_askText a_o_answerText x_o_authorityCount x_o_signerCount x_o_heldCount x_o_rightAnswers x_o_otherAnswers x_o_looks x_o_latestVerdict x_o_findToHold, oX3 a_o_out a_o_out_data x_o_out_length] (qI D q y [oX11 a_o a_o_tape a_o_out a_o_ownNonce a_o_authorities a_o_signers a_o_shelf a_o_latest a_o_wanted a_o_scan a_o_askText a_o_answerText x_o_authorityCount x_o_signerCount x_o_heldCount x_o_rightAnswers x_o_otherAnswers x_o_looks x_o_latestVerdict x_o_findToHold, oX3 a_o_out a_o_out_data x_o_out_length]) := by
  refine cu_of (cc := cX11_size) (nL := 1) (ret := (some .int)) (by decide) (Nat.le_of_ble_eq_true rfl) (fun {p e s m args below meth c A} C0 H locs ls hP hD hS hl => ?_)
  have C0 : cy p s m args meth c cX11_size (some .int) 1 RX11 D q t A := C0
  obtain ⟨⟨hx, hb, hr, hml, hown, hts, hlocks, hK, hA⟩, hG⟩ := id C0
  have hl : lv_has ls 1 [(0, .ref a_o)] := hl
  unfold f_de_size at hF
  refine lv_aload_n hx hb dX11_size_0 rfl (lv_at hl 0 rfl) ?_
  refine va_get (D := D) (ci := 9) (v := .ref a_o_out) (C := RX11) (T := TX11) (N := 19) hx hb hts iw_X11 hown hK hP 0 rfl rfl 1 (by decide) (hts _ kw_461) (fun _ h9 => h9) rfl dX11_size_1 ?_
  refine va_get (D := D) (ci := 3) (v := .int x_o_out_length) (C := RX3) (T := TX3) (N := 2) hx hb hts iw_X3 hown hK hP 1 rfl rfl 1 (by decide) (hts _ kw_108) (fun _ h9 => h9) rfl dX11_size_4 ?_
  have hy9 := (Option.some.inj hF).symm
  subst hy9
  exact rt_i C0.1 hP hD hS dX11_size_7
set_option maxHeartbeats 4000000 in
set_option maxRecDepth 100000 in
theorem c_de_out (l : Launch) (D : va_G) (q : Nat → ClassId) (t : Nat) (a_o : Nat) (a_o_tape : Nat) (a_o_ownNonce : Nat) (a_o_authorities : Nat) (a_o_signers : Nat) (a_o_shelf : Nat) (a_o_latest : Nat) (a_o_wanted : Nat) (a_o_scan : Nat) (a_o_askText : Nat) (a_o_answerText : Nat) (x_o_authorityCount : Int32) (x_o_signerCount : Int32) (x_o_heldCount : Int32) (x_o_rightAnswers : Int32) (x_o_otherAnswers : Int32) (x_o_looks : Int32) (x_o_latestVerdict : Int32) (x_o_findToHold : Int32) (a_o_out : Nat) (x_o_out_length : Int32) (a_o_out_data : Nat) (r_o_out_data : (Nat → Int32)) (p_0 : Int32) (y : Int32) (hF : f_de_out r_o_out_data x_o_out_length p_0 = some y)  : cu l yX11_out (vs yX11_out cX11_out 2 (some .int)) ({ frames := 1, cells := 0, slots := 0, locals := 21 }) D q t [.ref a_o, .int p_0] [oX11 a_o a_o_tape a_o_out a_o_ownNonce a_o_authorities a_o_signers a_o_shelf a_o_latest a_o_wanted a_o_scan a_o_askText a_o_answerText x_o_authorityCount x_o_signerCount x_o_heldCount x_o_rightAnswers x_o_otherAnswers x_o_looks x_o_latestVerdict x_o_findToHold, oX3 a_o_out a_o_out_data x_o_out_length, rB q a_o_out_data 1500 r_o_out_data] (qI D q y [oX11 a_o a_o_tape a_o_out a_o_ownNonce a_o_authorities a_o_signers a_o_shelf a_o_latest a_o_wanted a_o_scan a_o_askText a_o_answerText x_o_authorityCount x_o_signerCount x_o_heldCount x_o_rightAnswers x_o_otherAnswers x_o_looks x_o_latestVerdict x_o_findToHold, oX3 a_o_out a_o_out_data x_o_out_length, rB q a_o_out_data 1500 r_o_out_data]) := by
  refine cu_of (cc := cX11_out) (nL := 2) (ret := (some .int)) (by decide) (Nat.le_of_ble_eq_true rfl) (fun {p e s m args below meth c A} C0 H locs ls hP hD hS hl => ?_)
  have C0 : cy p s m args meth c cX11_out (some .int) 2 RX11 D q t A := C0
  obtain ⟨⟨hx, hb, hr, hml, hown, hts, hlocks, hK, hA⟩, hG⟩ := id C0
  have hl : lv_has ls 2 [(0, .ref a_o), (1, .int p_0)] := hl
  unfold f_de_out at hF
  refine lv_aload_n hx hb dX11_out_0 rfl (lv_at hl 0 rfl) ?_
  refine va_get (D := D) (ci := 9) (v := .ref a_o_out) (C := RX11) (T := TX11) (N := 19) hx hb hts iw_X11 hown hK hP 0 rfl rfl 1 (by decide) (hts _ kw_461) (fun _ h9 => h9) rfl dX11_out_1 ?_
  refine lv_iload_n hx hb dX11_out_4 rfl (lv_at hl 1 rfl) ?_
  obtain ⟨y_1, hy_1, hF⟩ := cal_d hF
  refine cf_i C0.1 hP hD hS [1, 2] [0] [0, 1, 2] (wr := [oX11 a_o a_o_tape a_o_out a_o_ownNonce a_o_authorities a_o_signers a_o_shelf a_o_latest a_o_wanted a_o_scan a_o_askText a_o_answerText x_o_authorityCount x_o_signerCount x_o_heldCount x_o_rightAnswers x_o_otherAnswers x_o_looks x_o_latestVerdict x_o_findToHold]) (w' := [oX11 a_o a_o_tape a_o_out a_o_ownNonce a_o_authorities a_o_signers a_o_shelf a_o_latest a_o_wanted a_o_scan a_o_askText a_o_answerText x_o_authorityCount x_o_signerCount x_o_heldCount x_o_rightAnswers x_o_otherAnswers x_o_looks x_o_latestVerdict x_o_findToHold, oX3 a_o_out a_o_out_data x_o_out_length, rB q a_o_out_data 1500 r_o_out_data]) rfl rfl rfl (by decide) rfl rfl (sn_V (As := [.int p_0]) (rest := []) (ci := 3) (q0 := 1) C0 (c_by_byteAt l D q t a_o_out x_o_out_length a_o_out_data 1500 r_o_out_data p_0 y_1 hy_1) (cwV 1 hts (g_V kw_554 kw_547 kw_548 kw_73 kw_549) rfl rfl rfl hd_X3_byteAt ⟨Nat.le_of_ble_eq_true rfl, Nat.le_of_ble_eq_true rfl⟩) hP hD hS [1, 2] rfl rfl rfl rfl rfl rfl hl (Nat.le_of_ble_eq_true rfl) dX11_out_5) (fun H locs hP hD hS => ?_)
  have hy9 := (Option.some.inj hF).symm
  subst hy9
  exact rt_i C0.1 hP hD hS dX11_out_8
set_option maxHeartbeats 4000000 in
set_option maxRecDepth 100000 in
theorem c_de_isName (l : Launch) (D : va_G) (q : Nat → ClassId) (t : Nat) (a_p0 : Nat) (a_p0_data : Nat) (x_p0_length : Int32)  (y : Int32) (hF : f_de_isName x_p0_length = some y)  : cu l yX11_isName (vs yX11_isName cX11_isName 1 (some .boolean)) ({ frames := 0, cells := 0, slots := 0, locals := 0 }) D q t [.ref a_p0] [oX3 a_p0 a_p0_data x_p0_length] (qI D q y [oX3 a_p0 a_p0_data x_p0_length]) := by
  refine cu_of (cc := cX11_isName) (nL := 1) (ret := (some .boolean)) (by decide) (Nat.le_of_ble_eq_true rfl) (fun {p e s m args below meth c A} C0 H locs ls hP hD hS hl => ?_)
  have C0 : cy p s m args meth c cX11_isName (some .boolean) 1 RX11 D q t A := C0
  obtain ⟨⟨hx, hb, hr, hml, hown, hts, hlocks, hK, hA⟩, hG⟩ := id C0
  have hl : lv_has ls 1 [(0, .ref a_p0)] := hl
  unfold f_de_isName at hF
  refine lv_aload_n hx hb dX11_isName_0 rfl (lv_at hl 0 rfl) ?_
  refine va_get (D := D) (ci := 3) (v := .int x_p0_length) (C := RX3) (T := TX3) (N := 2) hx hb hts iw_X3 hown hK hP 0 rfl rfl 1 (by decide) (hts _ kw_108) (fun _ h9 => h9) rfl dX11_isName_1 ?_
  refine lv_iconst (v := (1 : Int32)) hx hb dX11_isName_4 (by decide) ?_
  refine lv_icmp_lt (tgt := 21) hx hb dX11_isName_5 (by decide) (fun c_1 => ?_) (fun c_1 => ?_)
  · replace hF := ite_t hF c_1
    refine lv_iconst (v := (0 : Int32)) hx hb dX11_isName_21 (by decide) ?_
    have hy9 := (Option.some.inj hF).symm
    subst hy9
    exact rt_z (v := (0 : Int32)) C0.1 rfl hP hD hS dX11_isName_22
  · replace hF := ite_f hF c_1
    refine lv_aload_n hx hb dX11_isName_8 rfl (lv_at hl 0 rfl) ?_
    refine va_get (D := D) (ci := 3) (v := .int x_p0_length) (C := RX3) (T := TX3) (N := 2) hx hb hts iw_X3 hown hK hP 0 rfl rfl 1 (by decide) (hts _ kw_108) (fun _ h9 => h9) rfl dX11_isName_9 ?_
    refine lv_bipush (v := (16 : Int32)) hx hb dX11_isName_12 (by decide) ?_
    refine lv_icmp_gt (tgt := 21) hx hb dX11_isName_14 (by decide) (fun c_2 => ?_) (fun c_2 => ?_)
    · replace hF := ite_t hF c_2
      refine lv_iconst (v := (0 : Int32)) hx hb dX11_isName_21 (by decide) ?_
      have hy9 := (Option.some.inj hF).symm
      subst hy9
      exact rt_z (v := (0 : Int32)) C0.1 rfl hP hD hS dX11_isName_22
    · replace hF := ite_f hF c_2
      refine lv_iconst (v := (1 : Int32)) hx hb dX11_isName_17 (by decide) ?_
      refine lv_goto (tgt := 22) hx hb dX11_isName_18 (by decide) ?_
      have hy9 := (Option.some.inj hF).symm
      subst hy9
      exact rt_z (v := (1 : Int32)) C0.1 rfl hP hD hS dX11_isName_22
set_option maxHeartbeats 4000000 in
set_option maxRecDepth 100000 in
theorem w_de_newAuthority_33 {l : Launch} {p : Program} {e : Env} {s : State} {m : MethodId} {args : Array Value} {below : List Frame} {meth : Method} {c : Code} {A : Nat → Prop} {D : va_G} {q : Nat → ClassId} {t : Nat} (C0 : cy p s m args meth c cX11_newAuthority (some .int) 3 RX11 D q t A) (a_A0 : Nat) (a_A0_serials : Nat) (a_A0_since : Nat) (a_A0_reasons : Nat) (a_A0_name : Nat) (a_A0_name_data : Nat) (a_A1 : Nat) (a_A1_serials : Nat) (a_A1_since : Nat) (a_A1_reasons : Nat) (a_A1_name : Nat) (a_A1_name_data : Nat) (a_A2 : Nat) (a_A2_serials : Nat) (a_A2_since : Nat) (a_A2_reasons : Nat) (a_A2_name : Nat) (a_A2_name_data : Nat) (a_A3 : Nat) (a_A3_serials : Nat) (a_A3_since : Nat) (a_A3_reasons : Nat) (a_A3_name : Nat) (a_A3_name_data : Nat) (a_o : Nat) (a_o_out : Nat) (a_o_ownNonce : Nat) (a_o_signers : Nat) (a_o_shelf : Nat) (a_o_latest : Nat) (a_o_wanted : Nat) (a_o_scan : Nat) (a_o_askText : Nat) (a_o_answerText : Nat) (a_o_authorities : Nat) (r_o_authorities : (Nat → Option Nat)) (a_o_tape : Nat) (a_o_tape_data : Nat) (hk_0 : r_o_authorities 0 = some a_A0) (hk_1 : r_o_authorities 1 = some a_A1) (hk_2 : r_o_authorities 2 = some a_A2) (hk_3 : r_o_authorities 3 = some a_A3) : ∀ (n : Nat) (x_A0_secret : Int32) (x_A0_publicKey : Int32) (x_A0_nameHash : Int64) (x_A0_keyHash : Int64) (x_A0_issued : Int32) (x_A0_takenBack : Int32) (x_A0_name_length : Int32) (r_A0_name_data : (Nat → Int32)) (x_A1_secret : Int32) (x_A1_publicKey : Int32) (x_A1_nameHash : Int64) (x_A1_keyHash : Int64) (x_A1_issued : Int32) (x_A1_takenBack : Int32) (x_A1_name_length : Int32) (r_A1_name_data : (Nat → Int32)) (x_A2_secret : Int32) (x_A2_publicKey : Int32) (x_A2_nameHash : Int64) (x_A2_keyHash : Int64) (x_A2_issued : Int32) (x_A2_takenBack : Int32) (x_A2_name_length : Int32) (r_A2_name_data : (Nat → Int32)) (x_A3_secret : Int32) (x_A3_publicKey : Int32) (x_A3_nameHash : Int64) (x_A3_keyHash : Int64) (x_A3_issued : Int32) (x_A3_takenBack : Int32) (x_A3_name_length : Int32) (r_A3_name_data : (Nat → Int32)) (x_o_authorityCount : Int32) (x_o_signerCount : Int32) (x_o_heldCount : Int32) (x_o_rightAnswers : Int32) (x_o_otherAnswers : Int32) (x_o_looks : Int32) (x_o_latestVerdict : Int32) (x_o_findToHold : Int32) (x_o_tape_length : Int32) (r_o_tape_data : (Nat → Int32)) (v_1 : Int32) (v_2 : Int32) (y : Int32 × Int64 × (Nat → Int32) × Int32 × Int64 × Int32 × Int32 × Int64 × (Nat → Int32) × Int32 × Int64 × Int32 × Int32 × Int64 × (Nat → Int32) × Int32 × Int64 × Int32 × Int32 × Int64 × (Nat → Int32) × Int32 × Int64 × Int32 × Int32 × Int32) (hF : j_de_newAuthority_33 n x_A0_keyHash r_A0_name_data x_A0_name_length x_A0_nameHash x_A0_publicKey x_A0_secret x_A1_keyHash r_A1_name_data x_A1_name_length x_A1_nameHash x_A1_publicKey x_A1_secret x_A2_keyHash r_A2_name_data x_A2_name_length x_A2_nameHash x_A2_publicKey x_A2_secret x_A3_keyHash r_A3_name_data x_A3_name_length x_A3_nameHash x_A3_publicKey x_A3_secret x_o_authorityCount r_o_tape_data x_o_tape_length v_1 v_2 = some y), ∀ (H : Heap) (locs : List Loc) (ls : Array Slot), va_P D vwCl [oX2 a_A0 a_A0_name a_A0_serials a_A0_since a_A0_reasons x_A0_secret x_A0_publicKey x_A0_nameHash x_A0_keyHash x_A0_issued x_A0_takenBack, oX3 a_A0_name a_A0_name_data x_A0_name_length, rB q a_A0_name_data 16 r_A0_name_data, oX2 a_A1 a_A1_name a_A1_serials a_A1_since a_A1_reasons x_A1_secret x_A1_publicKey x_A1_nameHash x_A1_keyHash x_A1_issued x_A1_takenBack, oX3 a_A1_name a_A1_name_data x_A1_name_length, rB q a_A1_name_data 16 r_A1_name_data, oX2 a_A2 a_A2_name a_A2_serials a_A2_since a_A2_reasons x_A2_secret x_A2_publicKey x_A2_nameHash x_A2_keyHash x_A2_issued x_A2_takenBack, oX3 a_A2_name a_A2_name_data x_A2_name_length, rB q a_A2_name_data 16 r_A2_name_data, oX2 a_A3 a_A3_name a_A3_serials a_A3_since a_A3_reasons x_A3_secret x_A3_publicKey x_A3_nameHash x_A3_keyHash x_A3_issued x_A3_takenBack, oX3 a_A3_name a_A3_name_data x_A3_name_length, rB q a_A3_name_data 16 r_A3_name_data, oX11 a_o a_o_tape a_o_out a_o_ownNonce a_o_authorities a_o_signers a_o_shelf a_o_latest a_o_wanted a_o_scan a_o_askText a_o_answerText x_o_authorityCount x_o_signerCount x_o_heldCount x_o_rightAnswers x_o_otherAnswers x_o_looks x_o_latestVerdict x_o_findToHold, rO q 3 a_o_authorities 4 r_o_authorities, oX3 a_o_tape a_o_tape_data x_o_tape_length, rB q a_o_tape_data 1500 r_o_tape_data] H → va_D A [oX2 a_A0 a_A0_name a_A0_serials a_A0_since a_A0_reasons x_A0_secret x_A0_publicKey x_A0_nameHash x_A0_keyHash x_A0_issued x_A0_takenBack, oX3 a_A0_name a_A0_name_data x_A0_name_length, rB q a_A0_name_data 16 r_A0_name_data, oX2 a_A1 a_A1_name a_A1_serials a_A1_since a_A1_reasons x_A1_secret x_A1_publicKey x_A1_nameHash x_A1_keyHash x_A1_issued x_A1_takenBack, oX3 a_A1_name a_A1_name_data x_A1_name_length, rB q a_A1_name_data 16 r_A1_name_data, oX2 a_A2 a_A2_name a_A2_serials a_A2_since a_A2_reasons x_A2_secret x_A2_publicKey x_A2_nameHash x_A2_keyHash x_A2_issued x_A2_takenBack, oX3 a_A2_name a_A2_name_data x_A2_name_length, rB q a_A2_name_data 16 r_A2_name_data, oX2 a_A3 a_A3_name a_A3_serials a_A3_since a_A3_reasons x_A3_secret x_A3_publicKey x_A3_nameHash x_A3_keyHash x_A3_issued x_A3_takenBack, oX3 a_A3_name a_A3_name_data x_A3_name_length, rB q a_A3_name_data 16 r_A3_name_data, oX11 a_o a_o_tape a_o_out a_o_ownNonce a_o_authorities a_o_signers a_o_shelf a_o_latest a_o_wanted a_o_scan a_o_askText a_o_answerText x_o_authorityCount x_o_signerCount x_o_heldCount x_o_rightAnswers x_o_otherAnswers x_o_looks x_o_latestVerdict x_o_findToHold, rO q 3 a_o_authorities 4 r_o_authorities, oX3 a_o_tape a_o_tape_data x_o_tape_length, rB q a_o_tape_data 1500 r_o_tape_data] → va_S A s.heap H locs → lv_has ls 3 [(0, .ref a_o), (1, .int v_1), (2, .int v_2)] → W p l e ({ frames := 4, cells := 0, slots := 0, locals := 93 }) s m args below meth c H locs 0 0 (MQ below (qI D q y.1 [oX2 a_A0 a_A0_name a_A0_serials a_A0_since a_A0_reasons y.2.2.2.2.2.2.1 y.2.2.2.2.2.1 y.2.2.2.2.1 y.2.1 x_A0_issued x_A0_takenBack, oX3 a_A0_name a_A0_name_data y.2.2.2.1, rB q a_A0_name_data 16 y.2.2.1, oX2 a_A1 a_A1_name a_A1_serials a_A1_since a_A1_reasons y.2.2.2.2.2.2.2.2.2.2.2.2.1 y.2.2.2.2.2.2.2.2.2.2.2.1 y.2.2.2.2.2.2.2.2.2.2.1 y.2.2.2.2.2.2.2.1 x_A1_issued x_A1_takenBack, oX3 a_A1_name a_A1_name_data y.2.2.2.2.2.2.2.2.2.1, rB q a_A1_name_data 16 y.2.2.2.2.2.2.2.2.1, oX2 a_A2 a_A2_name a_A2_serials a_A2_since a_A2_reasons y.2.2.2.2.2.2.2.2.2.2.2.2.2.2.2.2.2.2.1 y.2.2.2.2.2.2.2.2.2.2.2.2.2.2.2.2.2.1 y.2.2.2.2.2.2.2.2.2.2.2.2.2.2.2.2.1 y.2.2.2.2.2.2.2.2.2.2.2.2.2.1 x_A2_issued x_A2_takenBack, oX3 a_A2_name a_A2_name_data y.2.2.2.2.2.2.2.2.2.2.2.2.2.2.2.1, rB q a_A2_name_data 16 y.2.2.2.2.2.2.2.2.2.2.2.2.2.2.1, oX2 a_A3 a_A3_name a_A3_serials a_A3_since a_A3_reasons y.2.2.2.2.2.2.2.2.2.2.2.2.2.2.2.2.2.2.2.2.2.2.2.2.1 y.2.2.2.2.2.2.2.2.2.2.2.2.2.2.2.2.2.2.2.2.2.2.2.1 y.2.2.2.2.2.2.2.2.2.2.2.2.2.2.2.2.2.2.2.2.2.2.1 y.2.2.2.2.2.2.2.2.2.2.2.2.2.2.2.2.2.2.2.1 x_A3_issued x_A3_takenBack, oX3 a_A3_name a_A3_name_data y.2.2.2.2.2.2.2.2.2.2.2.2.2.2.2.2.2.2.2.2.2.1, rB q a_A3_name_data 16 y.2.2.2.2.2.2.2.2.2.2.2.2.2.2.2.2.2.2.2.2.1, oX11 a_o a_o_tape a_o_out a_o_ownNonce a_o_authorities a_o_signers a_o_shelf a_o_latest a_o_wanted a_o_scan a_o_askText a_o_answerText y.2.2.2.2.2.2.2.2.2.2.2.2.2.2.2.2.2.2.2.2.2.2.2.2.2 x_o_signerCount x_o_heldCount x_o_rightAnswers x_o_otherAnswers x_o_looks x_o_latestVerdict x_o_findToHold, rO q 3 a_o_authorities 4 r_o_authorities, oX3 a_o_tape a_o_tape_data x_o_tape_length, rB q a_o_tape_data 1500 r_o_tape_data] A) args s 0 0 A) (F0 m 33 ls []) := by
  obtain ⟨⟨hx, hb, hr, hml, hown, hts, hlocks, hK, hA⟩, hG⟩ := id C0
  intro n
  induction n with
  | zero =>
    intro x_A0_secret x_A0_publicKey x_A0_nameHash x_A0_keyHash x_A0_issued x_A0_takenBack x_A0_name_length r_A0_name_data x_A1_secret x_A1_publicKey x_A1_nameHash x_A1_keyHash x_A1_issued x_A1_takenBack x_A1_name_length r_A1_name_data x_A2_secret x_A2_publicKey x_A2_nameHash x_A2_keyHash x_A2_issued x_A2_takenBack x_A2_name_length r_A2_name_data x_A3_secret x_A3_publicKey x_A3_nameHash x_A3_keyHash x_A3_issued x_A3_takenBack x_A3_name_length r_A3_name_data x_o_authorityCount x_o_signerCount x_o_heldCount x_o_rightAnswers x_o_otherAnswers x_o_looks x_o_latestVerdict x_o_findToHold x_o_tape_length r_o_tape_data v_1 v_2 y hF
    exact absurd (show (none : Option (Int32 × Int64 × (Nat → Int32) × Int32 × Int64 × Int32 × Int32 × Int64 × (Nat → Int32) × Int32 × Int64 × Int32 × Int32 × Int64 × (Nat → Int32) × Int32 × Int64 × Int32 × Int32 × Int64 × (Nat → Int32) × Int32 × Int64 × Int32 × Int32 × Int32)) = some y from hF) (fun h => by cases h)
  | succ n ih =>
    intro x_A0_secret x_A0_publicKey x_A0_nameHash x_A0_keyHash x_A0_issued x_A0_takenBack x_A0_name_length r_A0_name_data x_A1_secret x_A1_publicKey x_A1_nameHash x_A1_keyHash x_A1_issued x_A1_takenBack x_A1_name_length r_A1_name_data x_A2_secret x_A2_publicKey x_A2_nameHash x_A2_keyHash x_A2_issued x_A2_takenBack x_A2_name_length r_A2_name_data x_A3_secret x_A3_publicKey x_A3_nameHash x_A3_keyHash x_A3_issued x_A3_takenBack x_A3_name_length r_A3_name_data x_o_authorityCount x_o_signerCount x_o_heldCount x_o_rightAnswers x_o_otherAnswers x_o_looks x_o_latestVerdict x_o_findToHold x_o_tape_length r_o_tape_data v_1 v_2 y hF H locs ls hP hD hS hl
    rw [j_de_newAuthority_33] at hF
    refine lv_iload_n hx hb dX11_newAuthority_33 rfl (lv_at hl 2 rfl) ?_
    refine lv_aload_n hx hb dX11_newAuthority_34 rfl (lv_at hl 0 rfl) ?_
    refine va_get (D := D) (ci := 9) (v := .int x_o_authorityCount) (C := RX11) (T := TX11) (N := 19) hx hb hts iw_X11 hown hK hP 12 rfl rfl 11 (by decide) (hts _ kw_471) (fun _ h9 => h9) rfl dX11_newAuthority_35 ?_
    refine lv_icmp_ge (tgt := 77) hx hb dX11_newAuthority_38 (by decide) (fun c_6 => ?_) (fun c_6 => ?_)
    · replace hF := ite_t hF c_6
      refine lv_aload_n hx hb dX11_newAuthority_77 rfl (lv_at hl 0 rfl) ?_
      refine va_get (D := D) (ci := 9) (v := .ref a_o_authorities) (C := RX11) (T := TX11) (N := 19) hx hb hts iw_X11 hown hK hP 12 rfl rfl 3 (by decide) (hts _ kw_463) (fun _ h9 => h9) rfl dX11_newAuthority_78 ?_
      refine lv_aload_n hx hb dX11_newAuthority_81 rfl (lv_at hl 0 rfl) ?_
      refine va_get (D := D) (ci := 9) (v := .int x_o_authorityCount) (C := RX11) (T := TX11) (N := 19) hx hb hts iw_X11 hown hK hP 12 rfl rfl 11 (by decide) (hts _ kw_471) (fun _ h9 => h9) rfl dX11_newAuthority_82 ?_
      obtain ⟨z_7, hF⟩ := chk_d hF
      refine va_aldq hx hb hK hP 13 3 rfl rfl z_7 dX11_newAuthority_85 ?_
      by_cases c_8 : x_o_authorityCount = (0 : Int32)
      · replace hF := ite_t hF c_8
        rw [show va_rf (r_o_authorities x_o_authorityCount.toNatClampNeg) = .ref a_A0 from by rw [c_8]; exact congrArg va_rf hk_0]
        refine lv_aload_n hx hb dX11_newAuthority_86 rfl (lv_at hl 0 rfl) ?_
        refine va_get (D := D) (ci := 9) (v := .ref a_o_tape) (C := RX11) (T := TX11) (N := 19) hx hb hts iw_X11 hown hK hP 12 rfl rfl 0 (by decide) (hts _ kw_460) (fun _ h9 => h9) rfl dX11_newAuthority_87 ?_
        refine lv_iload_n hx hb dX11_newAuthority_90 rfl (lv_at hl 1 rfl) ?_
        obtain ⟨y_11, hy_11, hF⟩ := cal_d hF
        refine cf_v C0.1 hP hD hS [0, 1, 2, 14, 15] [3, 4, 5, 6, 7, 8, 9, 10, 11, 12, 13] [11, 12, 13, 0, 1, 2, 3, 4, 5, 6, 7, 8, 9, 10, 14, 15] (wr := [oX2 a_A1 a_A1_name a_A1_serials a_A1_since a_A1_reasons x_A1_secret x_A1_publicKey x_A1_nameHash x_A1_keyHash x_A1_issued x_A1_takenBack, oX3 a_A1_name a_A1_name_data x_A1_name_length, rB q a_A1_name_data 16 r_A1_name_data, oX2 a_A2 a_A2_name a_A2_serials a_A2_since a_A2_reasons x_A2_secret x_A2_publicKey x_A2_nameHash x_A2_keyHash x_A2_issued x_A2_takenBack, oX3 a_A2_name a_A2_name_data x_A2_name_length, rB q a_A2_name_data 16 r_A2_name_data, oX2 a_A3 a_A3_name a_A3_serials a_A3_since a_A3_reasons x_A3_secret x_A3_publicKey x_A3_nameHash x_A3_keyHash x_A3_issued x_A3_takenBack, oX3 a_A3_name a_A3_name_data x_A3_name_length, rB q a_A3_name_data 16 r_A3_name_data, oX11 a_o a_o_tape a_o_out a_o_ownNonce a_o_authorities a_o_signers a_o_shelf a_o_latest a_o_wanted a_o_scan a_o_askText a_o_answerText x_o_authorityCount x_o_signerCount x_o_heldCount x_o_rightAnswers x_o_otherAnswers x_o_looks x_o_latestVerdict x_o_findToHold, rO q 3 a_o_authorities 4 r_o_authorities]) (w' := [oX2 a_A0 a_A0_name a_A0_serials a_A0_since a_A0_reasons y_11.2.2.2.2.2 y_11.2.2.2.2.1 y_11.2.2.2.1 y_11.1 x_A0_issued x_A0_takenBack, oX3 a_A0_name a_A0_name_data y_11.2.2.1, rB q a_A0_name_data 16 y_11.2.1, oX2 a_A1 a_A1_name a_A1_serials a_A1_since a_A1_reasons x_A1_secret x_A1_publicKey x_A1_nameHash x_A1_keyHash x_A1_issued x_A1_takenBack, oX3 a_A1_name a_A1_name_data x_A1_name_length, rB q a_A1_name_data 16 r_A1_name_data, oX2 a_A2 a_A2_name a_A2_serials a_A2_since a_A2_reasons x_A2_secret x_A2_publicKey x_A2_nameHash x_A2_keyHash x_A2_issued x_A2_takenBack, oX3 a_A2_name a_A2_name_data x_A2_name_length, rB q a_A2_name_data 16 r_A2_name_data, oX2 a_A3 a_A3_name a_A3_serials a_A3_since a_A3_reasons x_A3_secret x_A3_publicKey x_A3_nameHash x_A3_keyHash x_A3_issued x_A3_takenBack, oX3 a_A3_name a_A3_name_data x_A3_name_length, rB q a_A3_name_data 16 r_A3_name_data, oX11 a_o a_o_tape a_o_out a_o_ownNonce a_o_authorities a_o_signers a_o_shelf a_o_latest a_o_wanted a_o_scan a_o_askText a_o_answerText x_o_authorityCount x_o_signerCount x_o_heldCount x_o_rightAnswers x_o_otherAnswers x_o_looks x_o_latestVerdict x_o_findToHold, rO q 3 a_o_authorities 4 r_o_authorities, oX3 a_o_tape a_o_tape_data x_o_tape_length, rB q a_o_tape_data 1500 r_o_tape_data]) rfl rfl rfl (by decide) rfl rfl (sn_V (As := [.ref a_o_tape, .int v_1]) (rest := []) (ci := 2) (q0 := 0) C0 (c_au_begin l D q t a_A0 a_A0_serials a_A0_since a_A0_reasons x_A0_secret x_A0_publicKey x_A0_nameHash x_A0_keyHash x_A0_issued x_A0_takenBack a_A0_name x_A0_name_length a_A0_name_data r_A0_name_data a_o_tape x_o_tape_length a_o_tape_data 1500 r_o_tape_data v_1 y_11 hy_11) (cwV 2 hts (g_V kw_586 kw_587 kw_588 kw_81 kw_589) rfl rfl rfl hd_X2_begin ⟨Nat.le_of_ble_eq_true rfl, Nat.le_of_ble_eq_true rfl⟩) hP hD hS [0, 1, 2, 14, 15] rfl rfl rfl rfl rfl rfl hl (Nat.le_of_ble_eq_true rfl) dX11_newAuthority_91) (fun H locs hP hD hS => ?_)
        refine lv_aload_n hx hb dX11_newAuthority_94 rfl (lv_at hl 0 rfl) ?_
        refine lv_dup hx hb dX11_newAuthority_95 rfl ?_
        refine va_get (D := D) (ci := 9) (v := .int x_o_authorityCount) (C := RX11) (T := TX11) (N := 19) hx hb hts iw_X11 hown hK hP 12 rfl rfl 11 (by decide) (hts _ kw_471) (fun _ h9 => h9) rfl dX11_newAuthority_96 ?_
        refine lv_iconst (v := (1 : Int32)) hx hb dX11_newAuthority_99 (by decide) ?_
        refine lv_iadd hx hb dX11_newAuthority_100 ?_
        refine lv_topi (fun x_o_authorityCount_12 e_x_o_authorityCount_12 => ?_)
        replace hF := bnd_d hF e_x_o_authorityCount_12
        refine va_put (D := D) (ci := 9) (v := .int x_o_authorityCount_12) (ty := .int) (C := RX11) (T := TX11) (N := 19) hx hb hts iw_X11 tyX11 tyX11_ok nmX11 hown hK hP hD hS 12 rfl rfl 11 (by decide) (hts _ kw_471) (fun _ h9 => h9) rfl (by decide +kernel) rfl rfl (Nat.le_of_ble_eq_true rfl) dX11_newAuthority_101 (fun H locs hP hD hS => ?_)
        have hP : va_P D vwCl ([oX2 a_A0 a_A0_name a_A0_serials a_A0_since a_A0_reasons y_11.2.2.2.2.2 y_11.2.2.2.2.1 y_11.2.2.2.1 y_11.1 x_A0_issued x_A0_takenBack, oX3 a_A0_name a_A0_name_data y_11.2.2.1, rB q a_A0_name_data 16 y_11.2.1, oX2 a_A1 a_A1_name a_A1_serials a_A1_since a_A1_reasons x_A1_secret x_A1_publicKey x_A1_nameHash x_A1_keyHash x_A1_issued x_A1_takenBack, oX3 a_A1_name a_A1_name_data x_A1_name_length, rB q a_A1_name_data 16 r_A1_name_data, oX2 a_A2 a_A2_name a_A2_serials a_A2_since a_A2_reasons x_A2_secret x_A2_publicKey x_A2_nameHash x_A2_keyHash x_A2_issued x_A2_takenBack, oX3 a_A2_name a_A2_name_data x_A2_name_length, rB q a_A2_name_data 16 r_A2_name_data, oX2 a_A3 a_A3_name a_A3_serials a_A3_since a_A3_reasons x_A3_secret x_A3_publicKey x_A3_nameHash x_A3_keyHash x_A3_issued x_A3_takenBack, oX3 a_A3_name a_A3_name_data x_A3_name_length, rB q a_A3_name_data 16 r_A3_name_data, oX11 a_o a_o_tape a_o_out a_o_ownNonce a_o_authorities a_o_signers a_o_shelf a_o_latest a_o_wanted a_o_scan a_o_askText a_o_answerText x_o_authorityCount_12 x_o_signerCount x_o_heldCount x_o_rightAnswers x_o_otherAnswers x_o_looks x_o_latestVerdict x_o_findToHold, rO q 3 a_o_authorities 4 r_o_authorities, oX3 a_o_tape a_o_tape_data x_o_tape_length, rB q a_o_tape_data 1500 r_o_tape_data]) H := hP
        have hD : va_D A ([oX2 a_A0 a_A0_name a_A0_serials a_A0_since a_A0_reasons y_11.2.2.2.2.2 y_11.2.2.2.2.1 y_11.2.2.2.1 y_11.1 x_A0_issued x_A0_takenBack, oX3 a_A0_name a_A0_name_data y_11.2.2.1, rB q a_A0_name_data 16 y_11.2.1, oX2 a_A1 a_A1_name a_A1_serials a_A1_since a_A1_reasons x_A1_secret x_A1_publicKey x_A1_nameHash x_A1_keyHash x_A1_issued x_A1_takenBack, oX3 a_A1_name a_A1_name_data x_A1_name_length, rB q a_A1_name_data 16 r_A1_name_data, oX2 a_A2 a_A2_name a_A2_serials a_A2_since a_A2_reasons x_A2_secret x_A2_publicKey x_A2_nameHash x_A2_keyHash x_A2_issued x_A2_takenBack, oX3 a_A2_name a_A2_name_data x_A2_name_length, rB q a_A2_name_data 16 r_A2_name_data, oX2 a_A3 a_A3_name a_A3_serials a_A3_since a_A3_reasons x_A3_secret x_A3_publicKey x_A3_nameHash x_A3_keyHash x_A3_issued x_A3_takenBack, oX3 a_A3_name a_A3_name_data x_A3_name_length, rB q a_A3_name_data 16 r_A3_name_data, oX11 a_o a_o_tape a_o_out a_o_ownNonce a_o_authorities a_o_signers a_o_shelf a_o_latest a_o_wanted a_o_scan a_o_askText a_o_answerText x_o_authorityCount_12 x_o_signerCount x_o_heldCount x_o_rightAnswers x_o_otherAnswers x_o_looks x_o_latestVerdict x_o_findToHold, rO q 3 a_o_authorities 4 r_o_authorities, oX3 a_o_tape a_o_tape_data x_o_tape_length, rB q a_o_tape_data 1500 r_o_tape_data]) := hD
        refine lv_aload_n hx hb dX11_newAuthority_104 rfl (lv_at hl 0 rfl) ?_
        refine va_get (D := D) (ci := 9) (v := .int x_o_authorityCount_12) (C := RX11) (T := TX11) (N := 19) hx hb hts iw_X11 hown hK hP 12 rfl rfl 11 (by decide) (hts _ kw_471) (fun _ h9 => h9) rfl dX11_newAuthority_105 ?_
        refine lv_iconst (v := (1 : Int32)) hx hb dX11_newAuthority_108 (by decide) ?_
        refine lv_isub hx hb dX11_newAuthority_109 ?_
        have hy9 := (Option.some.inj hF).symm
        subst hy9
        exact rt_i C0.1 hP hD hS dX11_newAuthority_110
      · replace hF := ite_f hF c_8
        by_cases c_9 : x_o_authorityCount = (1 : Int32)
        · replace hF := ite_t hF c_9
          rw [show va_rf (r_o_authorities x_o_authorityCount.toNatClampNeg) = .ref a_A1 from by rw [c_9]; exact congrArg va_rf hk_1]
          refine lv_aload_n hx hb dX11_newAuthority_86 rfl (lv_at hl 0 rfl) ?_
          refine va_get (D := D) (ci := 9) (v := .ref a_o_tape) (C := RX11) (T := TX11) (N := 19) hx hb hts iw_X11 hown hK hP 12 rfl rfl 0 (by decide) (hts _ kw_460) (fun _ h9 => h9) rfl dX11_newAuthority_87 ?_
          refine lv_iload_n hx hb dX11_newAuthority_90 rfl (lv_at hl 1 rfl) ?_
          obtain ⟨y_13, hy_13, hF⟩ := cal_d hF
          refine cf_v C0.1 hP hD hS [3, 4, 5, 14, 15] [0, 1, 2, 6, 7, 8, 9, 10, 11, 12, 13] [0, 1, 2, 11, 12, 13, 3, 4, 5, 6, 7, 8, 9, 10, 14, 15] (wr := [oX2 a_A0 a_A0_name a_A0_serials a_A0_since a_A0_reasons x_A0_secret x_A0_publicKey x_A0_nameHash x_A0_keyHash x_A0_issued x_A0_takenBack, oX3 a_A0_name a_A0_name_data x_A0_name_length, rB q a_A0_name_data 16 r_A0_name_data, oX2 a_A2 a_A2_name a_A2_serials a_A2_since a_A2_reasons x_A2_secret x_A2_publicKey x_A2_nameHash x_A2_keyHash x_A2_issued x_A2_takenBack, oX3 a_A2_name a_A2_name_data x_A2_name_length, rB q a_A2_name_data 16 r_A2_name_data, oX2 a_A3 a_A3_name a_A3_serials a_A3_since a_A3_reasons x_A3_secret x_A3_publicKey x_A3_nameHash x_A3_keyHash x_A3_issued x_A3_takenBack, oX3 a_A3_name a_A3_name_data x_A3_name_length, rB q a_A3_name_data 16 r_A3_name_data, oX11 a_o a_o_tape a_o_out a_o_ownNonce a_o_authorities a_o_signers a_o_shelf a_o_latest a_o_wanted a_o_scan a_o_askText a_o_answerText x_o_authorityCount x_o_signerCount x_o_heldCount x_o_rightAnswers x_o_otherAnswers x_o_looks x_o_latestVerdict x_o_findToHold, rO q 3 a_o_authorities 4 r_o_authorities]) (w' := [oX2 a_A0 a_A0_name a_A0_serials a_A0_since a_A0_reasons x_A0_secret x_A0_publicKey x_A0_nameHash x_A0_keyHash x_A0_issued x_A0_takenBack, oX3 a_A0_name a_A0_name_data x_A0_name_length, rB q a_A0_name_data 16 r_A0_name_data, oX2 a_A1 a_A1_name a_A1_serials a_A1_since a_A1_reasons y_13.2.2.2.2.2 y_13.2.2.2.2.1 y_13.2.2.2.1 y_13.1 x_A1_issued x_A1_takenBack, oX3 a_A1_name a_A1_name_data y_13.2.2.1, rB q a_A1_name_data 16 y_13.2.1, oX2 a_A2 a_A2_name a_A2_serials a_A2_since a_A2_reasons x_A2_secret x_A2_publicKey x_A2_nameHash x_A2_keyHash x_A2_issued x_A2_takenBack, oX3 a_A2_name a_A2_name_data x_A2_name_length, rB q a_A2_name_data 16 r_A2_name_data, oX2 a_A3 a_A3_name a_A3_serials a_A3_since a_A3_reasons x_A3_secret x_A3_publicKey x_A3_nameHash x_A3_keyHash x_A3_issued x_A3_takenBack, oX3 a_A3_name a_A3_name_data x_A3_name_length, rB q a_A3_name_data 16 r_A3_name_data, oX11 a_o a_o_tape a_o_out a_o_ownNonce a_o_authorities a_o_signers a_o_shelf a_o_latest a_o_wanted a_o_scan a_o_askText a_o_answerText x_o_authorityCount x_o_signerCount x_o_heldCount x_o_rightAnswers x_o_otherAnswers x_o_looks x_o_latestVerdict x_o_findToHold, rO q 3 a_o_authorities 4 r_o_authorities, oX3 a_o_tape a_o_tape_data x_o_tape_length, rB q a_o_tape_data 1500 r_o_tape_data]) rfl rfl rfl (by decide) rfl rfl (sn_V (As := [.ref a_o_tape, .int v_1]) (rest := []) (ci := 2) (q0 := 3) C0 (c_au_begin l D q t a_A1 a_A1_serials a_A1_since a_A1_reasons x_A1_secret x_A1_publicKey x_A1_nameHash x_A1_keyHash x_A1_issued x_A1_takenBack a_A1_name x_A1_name_length a_A1_name_data r_A1_name_data a_o_tape x_o_tape_length a_o_tape_data 1500 r_o_tape_data v_1 y_13 hy_13) (cwV 2 hts (g_V kw_586 kw_587 kw_588 kw_81 kw_589) rfl rfl rfl hd_X2_begin ⟨Nat.le_of_ble_eq_true rfl, Nat.le_of_ble_eq_true rfl⟩) hP hD hS [3, 4, 5, 14, 15] rfl rfl rfl rfl rfl rfl hl (Nat.le_of_ble_eq_true rfl) dX11_newAuthority_91) (fun H locs hP hD hS => ?_)
          refine lv_aload_n hx hb dX11_newAuthority_94 rfl (lv_at hl 0 rfl) ?_
          refine lv_dup hx hb dX11_newAuthority_95 rfl ?_
          refine va_get (D := D) (ci := 9) (v := .int x_o_authorityCount) (C := RX11) (T := TX11) (N := 19) hx hb hts iw_X11 hown hK hP 12 rfl rfl 11 (by decide) (hts _ kw_471) (fun _ h9 => h9) rfl dX11_newAuthority_96 ?_
          refine lv_iconst (v := (1 : Int32)) hx hb dX11_newAuthority_99 (by decide) ?_
          refine lv_iadd hx hb dX11_newAuthority_100 ?_
          refine lv_topi (fun x_o_authorityCount_14 e_x_o_authorityCount_14 => ?_)
          replace hF := bnd_d hF e_x_o_authorityCount_14
          refine va_put (D := D) (ci := 9) (v := .int x_o_authorityCount_14) (ty := .int) (C := RX11) (T := TX11) (N := 19) hx hb hts iw_X11 tyX11 tyX11_ok nmX11 hown hK hP hD hS 12 rfl rfl 11 (by decide) (hts _ kw_471) (fun _ h9 => h9) rfl (by decide +kernel) rfl rfl (Nat.le_of_ble_eq_true rfl) dX11_newAuthority_101 (fun H locs hP hD hS => ?_)
          have hP : va_P D vwCl ([oX2 a_A0 a_A0_name a_A0_serials a_A0_since a_A0_reasons x_A0_secret x_A0_publicKey x_A0_nameHash x_A0_keyHash x_A0_issued x_A0_takenBack, oX3 a_A0_name a_A0_name_data x_A0_name_length, rB q a_A0_name_data 16 r_A0_name_data, oX2 a_A1 a_A1_name a_A1_serials a_A1_since a_A1_reasons y_13.2.2.2.2.2 y_13.2.2.2.2.1 y_13.2.2.2.1 y_13.1 x_A1_issued x_A1_takenBack, oX3 a_A1_name a_A1_name_data y_13.2.2.1, rB q a_A1_name_data 16 y_13.2.1, oX2 a_A2 a_A2_name a_A2_serials a_A2_since a_A2_reasons x_A2_secret x_A2_publicKey x_A2_nameHash x_A2_keyHash x_A2_issued x_A2_takenBack, oX3 a_A2_name a_A2_name_data x_A2_name_length, rB q a_A2_name_data 16 r_A2_name_data, oX2 a_A3 a_A3_name a_A3_serials a_A3_since a_A3_reasons x_A3_secret x_A3_publicKey x_A3_nameHash x_A3_keyHash x_A3_issued x_A3_takenBack, oX3 a_A3_name a_A3_name_data x_A3_name_length, rB q a_A3_name_data 16 r_A3_name_data, oX11 a_o a_o_tape a_o_out a_o_ownNonce a_o_authorities a_o_signers a_o_shelf a_o_latest a_o_wanted a_o_scan a_o_askText a_o_answerText x_o_authorityCount_14 x_o_signerCount x_o_heldCount x_o_rightAnswers x_o_otherAnswers x_o_looks x_o_latestVerdict x_o_findToHold, rO q 3 a_o_authorities 4 r_o_authorities, oX3 a_o_tape a_o_tape_data x_o_tape_length, rB q a_o_tape_data 1500 r_o_tape_data]) H := hP
          have hD : va_D A ([oX2 a_A0 a_A0_name a_A0_serials a_A0_since a_A0_reasons x_A0_secret x_A0_publicKey x_A0_nameHash x_A0_keyHash x_A0_issued x_A0_takenBack, oX3 a_A0_name a_A0_name_data x_A0_name_length, rB q a_A0_name_data 16 r_A0_name_data, oX2 a_A1 a_A1_name a_A1_serials a_A1_since a_A1_reasons y_13.2.2.2.2.2 y_13.2.2.2.2.1 y_13.2.2.2.1 y_13.1 x_A1_issued x_A1_takenBack, oX3 a_A1_name a_A1_name_data y_13.2.2.1, rB q a_A1_name_data 16 y_13.2.1, oX2 a_A2 a_A2_name a_A2_serials a_A2_since a_A2_reasons x_A2_secret x_A2_publicKey x_A2_nameHash x_A2_keyHash x_A2_issued x_A2_takenBack, oX3 a_A2_name a_A2_name_data x_A2_name_length, rB q a_A2_name_data 16 r_A2_name_data, oX2 a_A3 a_A3_name a_A3_serials a_A3_since a_A3_reasons x_A3_secret x_A3_publicKey x_A3_nameHash x_A3_keyHash x_A3_issued x_A3_takenBack, oX3 a_A3_name a_A3_name_data x_A3_name_length, rB q a_A3_name_data 16 r_A3_name_data, oX11 a_o a_o_tape a_o_out a_o_ownNonce a_o_authorities a_o_signers a_o_shelf a_o_latest a_o_wanted a_o_scan a_o_askText a_o_answerText x_o_authorityCount_14 x_o_signerCount x_o_heldCount x_o_rightAnswers x_o_otherAnswers x_o_looks x_o_latestVerdict x_o_findToHold, rO q 3 a_o_authorities 4 r_o_authorities, oX3 a_o_tape a_o_tape_data x_o_tape_length, rB q a_o_tape_data 1500 r_o_tape_data]) := hD
          refine lv_aload_n hx hb dX11_newAuthority_104 rfl (lv_at hl 0 rfl) ?_
          refine va_get (D := D) (ci := 9) (v := .int x_o_authorityCount_14) (C := RX11) (T := TX11) (N := 19) hx hb hts iw_X11 hown hK hP 12 rfl rfl 11 (by decide) (hts _ kw_471) (fun _ h9 => h9) rfl dX11_newAuthority_105 ?_
          refine lv_iconst (v := (1 : Int32)) hx hb dX11_newAuthority_108 (by decide) ?_
          refine lv_isub hx hb dX11_newAuthority_109 ?_
          have hy9 := (Option.some.inj hF).symm
          subst hy9
          exact rt_i C0.1 hP hD hS dX11_newAuthority_110
        · replace hF := ite_f hF c_9
          by_cases c_10 : x_o_authorityCount = (2 : Int32)
          · replace hF := ite_t hF c_10
            rw [show va_rf (r_o_authorities x_o_authorityCount.toNatClampNeg) = .ref a_A2 from by rw [c_10]; exact congrArg va_rf hk_2]
            refine lv_aload_n hx hb dX11_newAuthority_86 rfl (lv_at hl 0 rfl) ?_
            refine va_get (D := D) (ci := 9) (v := .ref a_o_tape) (C := RX11) (T := TX11) (N := 19) hx hb hts iw_X11 hown hK hP 12 rfl rfl 0 (by decide) (hts _ kw_460) (fun _ h9 => h9) rfl dX11_newAuthority_87 ?_
            refine lv_iload_n hx hb dX11_newAuthority_90 rfl (lv_at hl 1 rfl) ?_
            obtain ⟨y_15, hy_15, hF⟩ := cal_d hF
            refine cf_v C0.1 hP hD hS [6, 7, 8, 14, 15] [0, 1, 2, 3, 4, 5, 9, 10, 11, 12, 13] [0, 1, 2, 3, 4, 5, 11, 12, 13, 6, 7, 8, 9, 10, 14, 15] (wr := [oX2 a_A0 a_A0_name a_A0_serials a_A0_since a_A0_reasons x_A0_secret x_A0_publicKey x_A0_nameHash x_A0_keyHash x_A0_issued x_A0_takenBack, oX3 a_A0_name a_A0_name_data x_A0_name_length, rB q a_A0_name_data 16 r_A0_name_data, oX2 a_A1 a_A1_name a_A1_serials a_A1_since a_A1_reasons x_A1_secret x_A1_publicKey x_A1_nameHash x_A1_keyHash x_A1_issued x_A1_takenBack, oX3 a_A1_name a_A1_name_data x_A1_name_length, rB q a_A1_name_data 16 r_A1_name_data, oX2 a_A3 a_A3_name a_A3_serials a_A3_since a_A3_reasons x_A3_secret x_A3_publicKey x_A3_nameHash x_A3_keyHash x_A3_issued x_A3_takenBack, oX3 a_A3_name a_A3_name_data x_A3_name_length, rB q a_A3_name_data 16 r_A3_name_data, oX11 a_o a_o_tape a_o_out a_o_ownNonce a_o_authorities a_o_signers a_o_shelf a_o_latest a_o_wanted a_o_scan a_o_askText a_o_answerText x_o_authorityCount x_o_signerCount x_o_heldCount x_o_rightAnswers x_o_otherAnswers x_o_looks x_o_latestVerdict x_o_findToHold, rO q 3 a_o_authorities 4 r_o_authorities]) (w' := [oX2 a_A0 a_A0_name a_A0_serials a_A0_since a_A0_reasons x_A0_secret x_A0_publicKey x_A0_nameHash x_A0_keyHash x_A0_issued x_A0_takenBack, oX3 a_A0_name a_A0_name_data x_A0_name_length, rB q a_A0_name_data 16 r_A0_name_data, oX2 a_A1 a_A1_name a_A1_serials a_A1_since a_A1_reasons x_A1_secret x_A1_publicKey x_A1_nameHash x_A1_keyHash x_A1_issued x_A1_takenBack, oX3 a_A1_name a_A1_name_data x_A1_name_length, rB q a_A1_name_data 16 r_A1_name_data, oX2 a_A2 a_A2_name a_A2_serials a_A2_since a_A2_reasons y_15.2.2.2.2.2 y_15.2.2.2.2.1 y_15.2.2.2.1 y_15.1 x_A2_issued x_A2_takenBack, oX3 a_A2_name a_A2_name_data y_15.2.2.1, rB q a_A2_name_data 16 y_15.2.1, oX2 a_A3 a_A3_name a_A3_serials a_A3_since a_A3_reasons x_A3_secret x_A3_publicKey x_A3_nameHash x_A3_keyHash x_A3_issued x_A3_takenBack, oX3 a_A3_name a_A3_name_data x_A3_name_length, rB q a_A3_name_data 16 r_A3_name_data, oX11 a_o a_o_tape a_o_out a_o_ownNonce a_o_authorities a_o_signers a_o_shelf a_o_latest a_o_wanted a_o_scan a_o_askText a_o_answerText x_o_authorityCount x_o_signerCount x_o_heldCount x_o_rightAnswers x_o_otherAnswers x_o_looks x_o_latestVerdict x_o_findToHold, rO q 3 a_o_authorities 4 r_o_authorities, oX3 a_o_tape a_o_tape_data x_o_tape_length, rB q a_o_tape_data 1500 r_o_tape_data]) rfl rfl rfl (by decide) rfl rfl (sn_V (As := [.ref a_o_tape, .int v_1]) (rest := []) (ci := 2) (q0 := 6) C0 (c_au_begin l D q t a_A2 a_A2_serials a_A2_since a_A2_reasons x_A2_secret x_A2_publicKey x_A2_nameHash x_A2_keyHash x_A2_issued x_A2_takenBack a_A2_name x_A2_name_length a_A2_name_data r_A2_name_data a_o_tape x_o_tape_length a_o_tape_data 1500 r_o_tape_data v_1 y_15 hy_15) (cwV 2 hts (g_V kw_586 kw_587 kw_588 kw_81 kw_589) rfl rfl rfl hd_X2_begin ⟨Nat.le_of_ble_eq_true rfl, Nat.le_of_ble_eq_true rfl⟩) hP hD hS [6, 7, 8, 14, 15] rfl rfl rfl rfl rfl rfl hl (Nat.le_of_ble_eq_true rfl) dX11_newAuthority_91) (fun H locs hP hD hS => ?_)
            refine lv_aload_n hx hb dX11_newAuthority_94 rfl (lv_at hl 0 rfl) ?_
            refine lv_dup hx hb dX11_newAuthority_95 rfl ?_
            refine va_get (D := D) (ci := 9) (v := .int x_o_authorityCount) (C := RX11) (T := TX11) (N := 19) hx hb hts iw_X11 hown hK hP 12 rfl rfl 11 (by decide) (hts _ kw_471) (fun _ h9 => h9) rfl dX11_newAuthority_96 ?_
            refine lv_iconst (v := (1 : Int32)) hx hb dX11_newAuthority_99 (by decide) ?_
            refine lv_iadd hx hb dX11_newAuthority_100 ?_
            refine lv_topi (fun x_o_authorityCount_16 e_x_o_authorityCount_16 => ?_)
            replace hF := bnd_d hF e_x_o_authorityCount_16
            refine va_put (D := D) (ci := 9) (v := .int x_o_authorityCount_16) (ty := .int) (C := RX11) (T := TX11) (N := 19) hx hb hts iw_X11 tyX11 tyX11_ok nmX11 hown hK hP hD hS 12 rfl rfl 11 (by decide) (hts _ kw_471) (fun _ h9 => h9) rfl (by decide +kernel) rfl rfl (Nat.le_of_ble_eq_true rfl) dX11_newAuthority_101 (fun H locs hP hD hS => ?_)
            have hP : va_P D vwCl ([oX2 a_A0 a_A0_name a_A0_serials a_A0_since a_A0_reasons x_A0_secret x_A0_publicKey x_A0_nameHash x_A0_keyHash x_A0_issued x_A0_takenBack, oX3 a_A0_name a_A0_name_data x_A0_name_length, rB q a_A0_name_data 16 r_A0_name_data, oX2 a_A1 a_A1_name a_A1_serials a_A1_since a_A1_reasons x_A1_secret x_A1_publicKey x_A1_nameHash x_A1_keyHash x_A1_issued x_A1_takenBack, oX3 a_A1_name a_A1_name_data x_A1_name_length, rB q a_A1_name_data 16 r_A1_name_data, oX2 a_A2 a_A2_name a_A2_serials a_A2_since a_A2_reasons y_15.2.2.2.2.2 y_15.2.2.2.2.1 y_15.2.2.2.1 y_15.1 x_A2_issued x_A2_takenBack, oX3 a_A2_name a_A2_name_data y_15.2.2.1, rB q a_A2_name_data 16 y_15.2.1, oX2 a_A3 a_A3_name a_A3_serials a_A3_since a_A3_reasons x_A3_secret x_A3_publicKey x_A3_nameHash x_A3_keyHash x_A3_issued x_A3_takenBack, oX3 a_A3_name a_A3_name_data x_A3_name_length, rB q a_A3_name_data 16 r_A3_name_data, oX11 a_o a_o_tape a_o_out a_o_ownNonce a_o_authorities a_o_signers a_o_shelf a_o_latest a_o_wanted a_o_scan a_o_askText a_o_answerText x_o_authorityCount_16 x_o_signerCount x_o_heldCount x_o_rightAnswers x_o_otherAnswers x_o_looks x_o_latestVerdict x_o_findToHold, rO q 3 a_o_authorities 4 r_o_authorities, oX3 a_o_tape a_o_tape_data x_o_tape_length, rB q a_o_tape_data 1500 r_o_tape_data]) H := hP
            have hD : va_D A ([oX2 a_A0 a_A0_name a_A0_serials a_A0_since a_A0_reasons x_A0_secret x_A0_publicKey x_A0_nameHash x_A0_keyHash x_A0_issued x_A0_takenBack, oX3 a_A0_name a_A0_name_data x_A0_name_length, rB q a_A0_name_data 16 r_A0_name_data, oX2 a_A1 a_A1_name a_A1_serials a_A1_since a_A1_reasons x_A1_secret x_A1_publicKey x_A1_nameHash x_A1_keyHash x_A1_issued x_A1_takenBack, oX3 a_A1_name a_A1_name_data x_A1_name_length, rB q a_A1_name_data 16 r_A1_name_data, oX2 a_A2 a_A2_name a_A2_serials a_A2_since a_A2_reasons y_15.2.2.2.2.2 y_15.2.2.2.2.1 y_15.2.2.2.1 y_15.1 x_A2_issued x_A2_takenBack, oX3 a_A2_name a_A2_name_data y_15.2.2.1, rB q a_A2_name_data 16 y_15.2.1, oX2 a_A3 a_A3_name a_A3_serials a_A3_since a_A3_reasons x_A3_secret x_A3_publicKey x_A3_nameHash x_A3_keyHash x_A3_issued x_A3_takenBack, oX3 a_A3_name a_A3_name_data x_A3_name_length, rB q a_A3_name_data 16 r_A3_name_data, oX11 a_o a_o_tape a_o_out a_o_ownNonce a_o_authorities a_o_signers a_o_shelf a_o_latest a_o_wanted a_o_scan a_o_askText a_o_answerText x_o_authorityCount_16 x_o_signerCount x_o_heldCount x_o_rightAnswers x_o_otherAnswers x_o_looks x_o_latestVerdict x_o_findToHold, rO q 3 a_o_authorities 4 r_o_authorities, oX3 a_o_tape a_o_tape_data x_o_tape_length, rB q a_o_tape_data 1500 r_o_tape_data]) := hD
            refine lv_aload_n hx hb dX11_newAuthority_104 rfl (lv_at hl 0 rfl) ?_
            refine va_get (D := D) (ci := 9) (v := .int x_o_authorityCount_16) (C := RX11) (T := TX11) (N := 19) hx hb hts iw_X11 hown hK hP 12 rfl rfl 11 (by decide) (hts _ kw_471) (fun _ h9 => h9) rfl dX11_newAuthority_105 ?_
            refine lv_iconst (v := (1 : Int32)) hx hb dX11_newAuthority_108 (by decide) ?_
            refine lv_isub hx hb dX11_newAuthority_109 ?_
            have hy9 := (Option.some.inj hF).symm
            subst hy9
            exact rt_i C0.1 hP hD hS dX11_newAuthority_110
          · replace hF := ite_f hF c_10
            have c_9 := in4 z_7 c_8 c_9 c_10
            rw [show va_rf (r_o_authorities x_o_authorityCount.toNatClampNeg) = .ref a_A3 from by rw [c_9]; exact congrArg va_rf hk_3]
            refine lv_aload_n hx hb dX11_newAuthority_86 rfl (lv_at hl 0 rfl) ?_
            refine va_get (D := D) (ci := 9) (v := .ref a_o_tape) (C := RX11) (T := TX11) (N := 19) hx hb hts iw_X11 hown hK hP 12 rfl rfl 0 (by decide) (hts _ kw_460) (fun _ h9 => h9) rfl dX11_newAuthority_87 ?_
            refine lv_iload_n hx hb dX11_newAuthority_90 rfl (lv_at hl 1 rfl) ?_
            obtain ⟨y_17, hy_17, hF⟩ := cal_d hF
            refine cf_v C0.1 hP hD hS [9, 10, 11, 14, 15] [0, 1, 2, 3, 4, 5, 6, 7, 8, 12, 13] [0, 1, 2, 3, 4, 5, 6, 7, 8, 11, 12, 13, 9, 10, 14, 15] (wr := [oX2 a_A0 a_A0_name a_A0_serials a_A0_since a_A0_reasons x_A0_secret x_A0_publicKey x_A0_nameHash x_A0_keyHash x_A0_issued x_A0_takenBack, oX3 a_A0_name a_A0_name_data x_A0_name_length, rB q a_A0_name_data 16 r_A0_name_data, oX2 a_A1 a_A1_name a_A1_serials a_A1_since a_A1_reasons x_A1_secret x_A1_publicKey x_A1_nameHash x_A1_keyHash x_A1_issued x_A1_takenBack, oX3 a_A1_name a_A1_name_data x_A1_name_length, rB q a_A1_name_data 16 r_A1_name_data, oX2 a_A2 a_A2_name a_A2_serials a_A2_since a_A2_reasons x_A2_secret x_A2_publicKey x_A2_nameHash x_A2_keyHash x_A2_issued x_A2_takenBack, oX3 a_A2_name a_A2_name_data x_A2_name_length, rB q a_A2_name_data 16 r_A2_name_data, oX11 a_o a_o_tape a_o_out a_o_ownNonce a_o_authorities a_o_signers a_o_shelf a_o_latest a_o_wanted a_o_scan a_o_askText a_o_answerText x_o_authorityCount x_o_signerCount x_o_heldCount x_o_rightAnswers x_o_otherAnswers x_o_looks x_o_latestVerdict x_o_findToHold, rO q 3 a_o_authorities 4 r_o_authorities]) (w' := [oX2 a_A0 a_A0_name a_A0_serials a_A0_since a_A0_reasons x_A0_secret x_A0_publicKey x_A0_nameHash x_A0_keyHash x_A0_issued x_A0_takenBack, oX3 a_A0_name a_A0_name_data x_A0_name_length, rB q a_A0_name_data 16 r_A0_name_data, oX2 a_A1 a_A1_name a_A1_serials a_A1_since a_A1_reasons x_A1_secret x_A1_publicKey x_A1_nameHash x_A1_keyHash x_A1_issued x_A1_takenBack, oX3 a_A1_name a_A1_name_data x_A1_name_length, rB q a_A1_name_data 16 r_A1_name_data, oX2 a_A2 a_A2_name a_A2_serials a_A2_since a_A2_reasons x_A2_secret x_A2_publicKey x_A2_nameHash x_A2_keyHash x_A2_issued x_A2_takenBack, oX3 a_A2_name a_A2_name_data x_A2_name_length, rB q a_A2_name_data 16 r_A2_name_data, oX2 a_A3 a_A3_name a_A3_serials a_A3_since a_A3_reasons y_17.2.2.2.2.2 y_17.2.2.2.2.1 y_17.2.2.2.1 y_17.1 x_A3_issued x_A3_takenBack, oX3 a_A3_name a_A3_name_data y_17.2.2.1, rB q a_A3_name_data 16 y_17.2.1, oX11 a_o a_o_tape a_o_out a_o_ownNonce a_o_authorities a_o_signers a_o_shelf a_o_latest a_o_wanted a_o_scan a_o_askText a_o_answerText x_o_authorityCount x_o_signerCount x_o_heldCount x_o_rightAnswers x_o_otherAnswers x_o_looks x_o_latestVerdict x_o_findToHold, rO q 3 a_o_authorities 4 r_o_authorities, oX3 a_o_tape a_o_tape_data x_o_tape_length, rB q a_o_tape_data 1500 r_o_tape_data]) rfl rfl rfl (by decide) rfl rfl (sn_V (As := [.ref a_o_tape, .int v_1]) (rest := []) (ci := 2) (q0 := 9) C0 (c_au_begin l D q t a_A3 a_A3_serials a_A3_since a_A3_reasons x_A3_secret x_A3_publicKey x_A3_nameHash x_A3_keyHash x_A3_issued x_A3_takenBack a_A3_name x_A3_name_length a_A3_name_data r_A3_name_data a_o_tape x_o_tape_length a_o_tape_data 1500 r_o_tape_data v_1 y_17 hy_17) (cwV 2 hts (g_V kw_586 kw_587 kw_588 kw_81 kw_589) rfl rfl rfl hd_X2_begin ⟨Nat.le_of_ble_eq_true rfl, Nat.le_of_ble_eq_true rfl⟩) hP hD hS [9, 10, 11, 14, 15] rfl rfl rfl rfl rfl rfl hl (Nat.le_of_ble_eq_true rfl) dX11_newAuthority_91) (fun H locs hP hD hS => ?_)
            refine lv_aload_n hx hb dX11_newAuthority_94 rfl (lv_at hl 0 rfl) ?_
            refine lv_dup hx hb dX11_newAuthority_95 rfl ?_
            refine va_get (D := D) (ci := 9) (v := .int x_o_authorityCount) (C := RX11) (T := TX11) (N := 19) hx hb hts iw_X11 hown hK hP 12 rfl rfl 11 (by decide) (hts _ kw_471) (fun _ h9 => h9) rfl dX11_newAuthority_96 ?_
            refine lv_iconst (v := (1 : Int32)) hx hb dX11_newAuthority_99 (by decide) ?_
            refine lv_iadd hx hb dX11_newAuthority_100 ?_
            refine lv_topi (fun x_o_authorityCount_18 e_x_o_authorityCount_18 => ?_)
            replace hF := bnd_d hF e_x_o_authorityCount_18
            refine va_put (D := D) (ci := 9) (v := .int x_o_authorityCount_18) (ty := .int) (C := RX11) (T := TX11) (N := 19) hx hb hts iw_X11 tyX11 tyX11_ok nmX11 hown hK hP hD hS 12 rfl rfl 11 (by decide) (hts _ kw_471) (fun _ h9 => h9) rfl (by decide +kernel) rfl rfl (Nat.le_of_ble_eq_true rfl) dX11_newAuthority_101 (fun H locs hP hD hS => ?_)
            have hP : va_P D vwCl ([oX2 a_A0 a_A0_name a_A0_serials a_A0_since a_A0_reasons x_A0_secret x_A0_publicKey x_A0_nameHash x_A0_keyHash x_A0_issued x_A0_takenBack, oX3 a_A0_name a_A0_name_data x_A0_name_length, rB q a_A0_name_data 16 r_A0_name_data, oX2 a_A1 a_A1_name a_A1_serials a_A1_since a_A1_reasons x_A1_secret x_A1_publicKey x_A1_nameHash x_A1_keyHash x_A1_issued x_A1_takenBack, oX3 a_A1_name a_A1_name_data x_A1_name_length, rB q a_A1_name_data 16 r_A1_name_data, oX2 a_A2 a_A2_name a_A2_serials a_A2_since a_A2_reasons x_A2_secret x_A2_publicKey x_A2_nameHash x_A2_keyHash x_A2_issued x_A2_takenBack, oX3 a_A2_name a_A2_name_data x_A2_name_length, rB q a_A2_name_data 16 r_A2_name_data, oX2 a_A3 a_A3_name a_A3_serials a_A3_since a_A3_reasons y_17.2.2.2.2.2 y_17.2.2.2.2.1 y_17.2.2.2.1 y_17.1 x_A3_issued x_A3_takenBack, oX3 a_A3_name a_A3_name_data y_17.2.2.1, rB q a_A3_name_data 16 y_17.2.1, oX11 a_o a_o_tape a_o_out a_o_ownNonce a_o_authorities a_o_signers a_o_shelf a_o_latest a_o_wanted a_o_scan a_o_askText a_o_answerText x_o_authorityCount_18 x_o_signerCount x_o_heldCount x_o_rightAnswers x_o_otherAnswers x_o_looks x_o_latestVerdict x_o_findToHold, rO q 3 a_o_authorities 4 r_o_authorities, oX3 a_o_tape a_o_tape_data x_o_tape_length, rB q a_o_tape_data 1500 r_o_tape_data]) H := hP
            have hD : va_D A ([oX2 a_A0 a_A0_name a_A0_serials a_A0_since a_A0_reasons x_A0_secret x_A0_publicKey x_A0_nameHash x_A0_keyHash x_A0_issued x_A0_takenBack, oX3 a_A0_name a_A0_name_data x_A0_name_length, rB q a_A0_name_data 16 r_A0_name_data, oX2 a_A1 a_A1_name a_A1_serials a_A1_since a_A1_reasons x_A1_secret x_A1_publicKey x_A1_nameHash x_A1_keyHash x_A1_issued x_A1_takenBack, oX3 a_A1_name a_A1_name_data x_A1_name_length, rB q a_A1_name_data 16 r_A1_name_data, oX2 a_A2 a_A2_name a_A2_serials a_A2_since a_A2_reasons x_A2_secret x_A2_publicKey x_A2_nameHash x_A2_keyHash x_A2_issued x_A2_takenBack, oX3 a_A2_name a_A2_name_data x_A2_name_length, rB q a_A2_name_data 16 r_A2_name_data, oX2 a_A3 a_A3_name a_A3_serials a_A3_since a_A3_reasons y_17.2.2.2.2.2 y_17.2.2.2.2.1 y_17.2.2.2.1 y_17.1 x_A3_issued x_A3_takenBack, oX3 a_A3_name a_A3_name_data y_17.2.2.1, rB q a_A3_name_data 16 y_17.2.1, oX11 a_o a_o_tape a_o_out a_o_ownNonce a_o_authorities a_o_signers a_o_shelf a_o_latest a_o_wanted a_o_scan a_o_askText a_o_answerText x_o_authorityCount_18 x_o_signerCount x_o_heldCount x_o_rightAnswers x_o_otherAnswers x_o_looks x_o_latestVerdict x_o_findToHold, rO q 3 a_o_authorities 4 r_o_authorities, oX3 a_o_tape a_o_tape_data x_o_tape_length, rB q a_o_tape_data 1500 r_o_tape_data]) := hD
            refine lv_aload_n hx hb dX11_newAuthority_104 rfl (lv_at hl 0 rfl) ?_
            refine va_get (D := D) (ci := 9) (v := .int x_o_authorityCount_18) (C := RX11) (T := TX11) (N := 19) hx hb hts iw_X11 hown hK hP 12 rfl rfl 11 (by decide) (hts _ kw_471) (fun _ h9 => h9) rfl dX11_newAuthority_105 ?_
            refine lv_iconst (v := (1 : Int32)) hx hb dX11_newAuthority_108 (by decide) ?_
            refine lv_isub hx hb dX11_newAuthority_109 ?_
            have hy9 := (Option.some.inj hF).symm
            subst hy9
            exact rt_i C0.1 hP hD hS dX11_newAuthority_110
    · replace hF := ite_f hF c_6
      refine lv_aload_n hx hb dX11_newAuthority_41 rfl (lv_at hl 0 rfl) ?_
      refine va_get (D := D) (ci := 9) (v := .ref a_o_authorities) (C := RX11) (T := TX11) (N := 19) hx hb hts iw_X11 hown hK hP 12 rfl rfl 3 (by decide) (hts _ kw_463) (fun _ h9 => h9) rfl dX11_newAuthority_42 ?_
      refine lv_iload_n hx hb dX11_newAuthority_45 rfl (lv_at hl 2 rfl) ?_
      obtain ⟨z_19, hF⟩ := chk_d hF
      refine va_aldq hx hb hK hP 13 3 rfl rfl z_19 dX11_newAuthority_46 ?_
      by_cases c_20 : v_2 = (0 : Int32)
      · replace hF := ite_t hF c_20
        rw [show va_rf (r_o_authorities v_2.toNatClampNeg) = .ref a_A0 from by rw [c_20]; exact congrArg va_rf hk_0]
        refine va_get (D := D) (ci := 2) (v := .ref a_A0_name) (C := RX2) (T := TX2) (N := 10) hx hb hts iw_X2 hown hK hP 0 rfl rfl 0 (by decide) (hts _ kw_393) (fun _ h9 => h9) rfl dX11_newAuthority_47 ?_
        refine lv_aload_n hx hb dX11_newAuthority_50 rfl (lv_at hl 0 rfl) ?_
        refine va_get (D := D) (ci := 9) (v := .ref a_o_tape) (C := RX11) (T := TX11) (N := 19) hx hb hts iw_X11 hown hK hP 12 rfl rfl 0 (by decide) (hts _ kw_460) (fun _ h9 => h9) rfl dX11_newAuthority_51 ?_
        refine lv_iconst (v := (0 : Int32)) hx hb dX11_newAuthority_54 (by decide) ?_
        refine lv_aload_n hx hb dX11_newAuthority_55 rfl (lv_at hl 0 rfl) ?_
        refine va_get (D := D) (ci := 9) (v := .ref a_o_tape) (C := RX11) (T := TX11) (N := 19) hx hb hts iw_X11 hown hK hP 12 rfl rfl 0 (by decide) (hts _ kw_460) (fun _ h9 => h9) rfl dX11_newAuthority_56 ?_
        refine va_get (D := D) (ci := 3) (v := .int x_o_tape_length) (C := RX3) (T := TX3) (N := 2) hx hb hts iw_X3 hown hK hP 14 rfl rfl 1 (by decide) (hts _ kw_108) (fun _ h9 => h9) rfl dX11_newAuthority_59 ?_
        obtain ⟨y_23, hy_23, hF⟩ := cal_d hF
        refine cf_i C0.1 hP hD hS [1, 2, 14, 15] [0, 3, 4, 5, 6, 7, 8, 9, 10, 11, 12, 13] [0, 12, 13, 1, 2, 3, 4, 5, 6, 7, 8, 9, 10, 11, 14, 15] (wr := [oX2 a_A0 a_A0_name a_A0_serials a_A0_since a_A0_reasons x_A0_secret x_A0_publicKey x_A0_nameHash x_A0_keyHash x_A0_issued x_A0_takenBack, oX2 a_A1 a_A1_name a_A1_serials a_A1_since a_A1_reasons x_A1_secret x_A1_publicKey x_A1_nameHash x_A1_keyHash x_A1_issued x_A1_takenBack, oX3 a_A1_name a_A1_name_data x_A1_name_length, rB q a_A1_name_data 16 r_A1_name_data, oX2 a_A2 a_A2_name a_A2_serials a_A2_since a_A2_reasons x_A2_secret x_A2_publicKey x_A2_nameHash x_A2_keyHash x_A2_issued x_A2_takenBack, oX3 a_A2_name a_A2_name_data x_A2_name_length, rB q a_A2_name_data 16 r_A2_name_data, oX2 a_A3 a_A3_name a_A3_serials a_A3_since a_A3_reasons x_A3_secret x_A3_publicKey x_A3_nameHash x_A3_keyHash x_A3_issued x_A3_takenBack, oX3 a_A3_name a_A3_name_data x_A3_name_length, rB q a_A3_name_data 16 r_A3_name_data, oX11 a_o a_o_tape a_o_out a_o_ownNonce a_o_authorities a_o_signers a_o_shelf a_o_latest a_o_wanted a_o_scan a_o_askText a_o_answerText x_o_authorityCount x_o_signerCount x_o_heldCount x_o_rightAnswers x_o_otherAnswers x_o_looks x_o_latestVerdict x_o_findToHold, rO q 3 a_o_authorities 4 r_o_authorities]) (w' := [oX2 a_A0 a_A0_name a_A0_serials a_A0_since a_A0_reasons x_A0_secret x_A0_publicKey x_A0_nameHash x_A0_keyHash x_A0_issued x_A0_takenBack, oX3 a_A0_name a_A0_name_data x_A0_name_length, rB q a_A0_name_data 16 r_A0_name_data, oX2 a_A1 a_A1_name a_A1_serials a_A1_since a_A1_reasons x_A1_secret x_A1_publicKey x_A1_nameHash x_A1_keyHash x_A1_issued x_A1_takenBack, oX3 a_A1_name a_A1_name_data x_A1_name_length, rB q a_A1_name_data 16 r_A1_name_data, oX2 a_A2 a_A2_name a_A2_serials a_A2_since a_A2_reasons x_A2_secret x_A2_publicKey x_A2_nameHash x_A2_keyHash x_A2_issued x_A2_takenBack, oX3 a_A2_name a_A2_name_data x_A2_name_length, rB q a_A2_name_data 16 r_A2_name_data, oX2 a_A3 a_A3_name a_A3_serials a_A3_since a_A3_reasons x_A3_secret x_A3_publicKey x_A3_nameHash x_A3_keyHash x_A3_issued x_A3_takenBack, oX3 a_A3_name a_A3_name_data x_A3_name_length, rB q a_A3_name_data 16 r_A3_name_data, oX11 a_o a_o_tape a_o_out a_o_ownNonce a_o_authorities a_o_signers a_o_shelf a_o_latest a_o_wanted a_o_scan a_o_askText a_o_answerText x_o_authorityCount x_o_signerCount x_o_heldCount x_o_rightAnswers x_o_otherAnswers x_o_looks x_o_latestVerdict x_o_findToHold, rO q 3 a_o_authorities 4 r_o_authorities, oX3 a_o_tape a_o_tape_data x_o_tape_length, rB q a_o_tape_data 1500 r_o_tape_data]) rfl rfl rfl (by decide) rfl rfl (sn_V (As := [.ref a_o_tape, .int (0 : Int32), .int x_o_tape_length]) (rest := []) (ci := 3) (q0 := 1) C0 (c_by_isSame l D q t a_A0_name x_A0_name_length a_A0_name_data 16 r_A0_name_data a_o_tape x_o_tape_length a_o_tape_data 1500 r_o_tape_data (0 : Int32) x_o_tape_length y_23 hy_23) (cwV 3 hts (g_V kw_582 kw_583 kw_584 kw_73 kw_585) rfl rfl rfl hd_X3_isSame ⟨Nat.le_of_ble_eq_true rfl, Nat.le_of_ble_eq_true rfl⟩) hP hD hS [1, 2, 14, 15] rfl rfl rfl rfl rfl rfl hl (Nat.le_of_ble_eq_true rfl) dX11_newAuthority_62) (fun H locs hP hD hS => ?_)
        refine lv_if_eq (tgt := 71) hx hb dX11_newAuthority_65 (by decide) (fun c_24 => ?_) (fun c_24 => ?_)
        · replace hF := ite_t hF c_24
          obtain ⟨v2_25, e_v2_25⟩ : ∃ z : Int32, z = v_2 + (1 : Int32) := ⟨_, rfl⟩
          replace hF := bnd_d hF e_v2_25
          refine lv_iinc (v := v2_25) (lv' := [(2, .int v2_25), (0, .ref a_o), (1, .int v_1)]) hx hb dX11_newAuthority_71 hl (k := 2) rfl (by rw [e_v2_25]; rfl) (by decide) rfl (fun ls hl => ?_)
          refine lv_goto (tgt := 33) hx hb dX11_newAuthority_74 (by decide) ?_
          exact ih x_A0_secret x_A0_publicKey x_A0_nameHash x_A0_keyHash x_A0_issued x_A0_takenBack x_A0_name_length r_A0_name_data x_A1_secret x_A1_publicKey x_A1_nameHash x_A1_keyHash x_A1_issued x_A1_takenBack x_A1_name_length r_A1_name_data x_A2_secret x_A2_publicKey x_A2_nameHash x_A2_keyHash x_A2_issued x_A2_takenBack x_A2_name_length r_A2_name_data x_A3_secret x_A3_publicKey x_A3_nameHash x_A3_keyHash x_A3_issued x_A3_takenBack x_A3_name_length r_A3_name_data x_o_authorityCount x_o_signerCount x_o_heldCount x_o_rightAnswers x_o_otherAnswers x_o_looks x_o_latestVerdict x_o_findToHold x_o_tape_length r_o_tape_data v_1 v2_25 y hF H locs ls hP hD hS (lv_sub hl [1, 2, 0] rfl)
        · replace hF := ite_f hF c_24
          refine lv_bipush (v := (-3 : Int32)) hx hb dX11_newAuthority_68 (by decide) ?_
          have hy9 := (Option.some.inj hF).symm
          subst hy9
          exact rt_i C0.1 hP hD hS dX11_newAuthority_70
      · replace hF := ite_f hF c_20
        by_cases c_21 : v_2 = (1 : Int32)
        · replace hF := ite_t hF c_21
          rw [show va_rf (r_o_authorities v_2.toNatClampNeg) = .ref a_A1 from by rw [c_21]; exact congrArg va_rf hk_1]
          refine va_get (D := D) (ci := 2) (v := .ref a_A1_name) (C := RX2) (T := TX2) (N := 10) hx hb hts iw_X2 hown hK hP 3 rfl rfl 0 (by decide) (hts _ kw_393) (fun _ h9 => h9) rfl dX11_newAuthority_47 ?_
          refine lv_aload_n hx hb dX11_newAuthority_50 rfl (lv_at hl 0 rfl) ?_
          refine va_get (D := D) (ci := 9) (v := .ref a_o_tape) (C := RX11) (T := TX11) (N := 19) hx hb hts iw_X11 hown hK hP 12 rfl rfl 0 (by decide) (hts _ kw_460) (fun _ h9 => h9) rfl dX11_newAuthority_51 ?_
          refine lv_iconst (v := (0 : Int32)) hx hb dX11_newAuthority_54 (by decide) ?_
          refine lv_aload_n hx hb dX11_newAuthority_55 rfl (lv_at hl 0 rfl) ?_
          refine va_get (D := D) (ci := 9) (v := .ref a_o_tape) (C := RX11) (T := TX11) (N := 19) hx hb hts iw_X11 hown hK hP 12 rfl rfl 0 (by decide) (hts _ kw_460) (fun _ h9 => h9) rfl dX11_newAuthority_56 ?_
          refine va_get (D := D) (ci := 3) (v := .int x_o_tape_length) (C := RX3) (T := TX3) (N := 2) hx hb hts iw_X3 hown hK hP 14 rfl rfl 1 (by decide) (hts _ kw_108) (fun _ h9 => h9) rfl dX11_newAuthority_59 ?_
          obtain ⟨y_26, hy_26, hF⟩ := cal_d hF
          refine cf_i C0.1 hP hD hS [4, 5, 14, 15] [0, 1, 2, 3, 6, 7, 8, 9, 10, 11, 12, 13] [0, 1, 2, 3, 12, 13, 4, 5, 6, 7, 8, 9, 10, 11, 14, 15] (wr := [oX2 a_A0 a_A0_name a_A0_serials a_A0_since a_A0_reasons x_A0_secret x_A0_publicKey x_A0_nameHash x_A0_keyHash x_A0_issued x_A0_takenBack, oX3 a_A0_name a_A0_name_data x_A0_name_length, rB q a_A0_name_data 16 r_A0_name_data, oX2 a_A1 a_A1_name a_A1_serials a_A1_since a_A1_reasons x_A1_secret x_A1_publicKey x_A1_nameHash x_A1_keyHash x_A1_issued x_A1_takenBack, oX2 a_A2 a_A2_name a_A2_serials a_A2_since a_A2_reasons x_A2_secret x_A2_publicKey x_A2_nameHash x_A2_keyHash x_A2_issued x_A2_takenBack, oX3 a_A2_name a_A2_name_data x_A2_name_length, rB q a_A2_name_data 16 r_A2_name_data, oX2 a_A3 a_A3_name a_A3_serials a_A3_since a_A3_reasons x_A3_secret x_A3_publicKey x_A3_nameHash x_A3_keyHash x_A3_issued x_A3_takenBack, oX3 a_A3_name a_A3_name_data x_A3_name_length, rB q a_A3_name_data 16 r_A3_name_data, oX11 a_o a_o_tape a_o_out a_o_ownNonce a_o_authorities a_o_signers a_o_shelf a_o_latest a_o_wanted a_o_scan a_o_askText a_o_answerText x_o_authorityCount x_o_signerCount x_o_heldCount x_o_rightAnswers x_o_otherAnswers x_o_looks x_o_latestVerdict x_o_findToHold, rO q 3 a_o_authorities 4 r_o_authorities]) (w' := [oX2 a_A0 a_A0_name a_A0_serials a_A0_since a_A0_reasons x_A0_secret x_A0_publicKey x_A0_nameHash x_A0_keyHash x_A0_issued x_A0_takenBack, oX3 a_A0_name a_A0_name_data x_A0_name_length, rB q a_A0_name_data 16 r_A0_name_data, oX2 a_A1 a_A1_name a_A1_serials a_A1_since a_A1_reasons x_A1_secret x_A1_publicKey x_A1_nameHash x_A1_keyHash x_A1_issued x_A1_takenBack, oX3 a_A1_name a_A1_name_data x_A1_name_length, rB q a_A1_name_data 16 r_A1_name_data, oX2 a_A2 a_A2_name a_A2_serials a_A2_since a_A2_reasons x_A2_secret x_A2_publicKey x_A2_nameHash x_A2_keyHash x_A2_issued x_A2_takenBack, oX3 a_A2_name a_A2_name_data x_A2_name_length, rB q a_A2_name_data 16 r_A2_name_data, oX2 a_A3 a_A3_name a_A3_serials a_A3_since a_A3_reasons x_A3_secret x_A3_publicKey x_A3_nameHash x_A3_keyHash x_A3_issued x_A3_takenBack, oX3 a_A3_name a_A3_name_data x_A3_name_length, rB q a_A3_name_data 16 r_A3_name_data, oX11 a_o a_o_tape a_o_out a_o_ownNonce a_o_authorities a_o_signers a_o_shelf a_o_latest a_o_wanted a_o_scan a_o_askText a_o_answerText x_o_authorityCount x_o_signerCount x_o_heldCount x_o_rightAnswers x_o_otherAnswers x_o_looks x_o_latestVerdict x_o_findToHold, rO q 3 a_o_authorities 4 r_o_authorities, oX3 a_o_tape a_o_tape_data x_o_tape_length, rB q a_o_tape_data 1500 r_o_tape_data]) rfl rfl rfl (by decide) rfl rfl (sn_V (As := [.ref a_o_tape, .int (0 : Int32), .int x_o_tape_length]) (rest := []) (ci := 3) (q0 := 4) C0 (c_by_isSame l D q t a_A1_name x_A1_name_length a_A1_name_data 16 r_A1_name_data a_o_tape x_o_tape_length a_o_tape_data 1500 r_o_tape_data (0 : Int32) x_o_tape_length y_26 hy_26) (cwV 3 hts (g_V kw_582 kw_583 kw_584 kw_73 kw_585) rfl rfl rfl hd_X3_isSame ⟨Nat.le_of_ble_eq_true rfl, Nat.le_of_ble_eq_true rfl⟩) hP hD hS [4, 5, 14, 15] rfl rfl rfl rfl rfl rfl hl (Nat.le_of_ble_eq_true rfl) dX11_newAuthority_62) (fun H locs hP hD hS => ?_)
          refine lv_if_eq (tgt := 71) hx hb dX11_newAuthority_65 (by decide) (fun c_27 => ?_) (fun c_27 => ?_)
          · replace hF := ite_t hF c_27
            obtain ⟨v2_28, e_v2_28⟩ : ∃ z : Int32, z = v_2 + (1 : Int32) := ⟨_, rfl⟩
            replace hF := bnd_d hF e_v2_28
            refine lv_iinc (v := v2_28) (lv' := [(2, .int v2_28), (0, .ref a_o), (1, .int v_1)]) hx hb dX11_newAuthority_71 hl (k := 2) rfl (by rw [e_v2_28]; rfl) (by decide) rfl (fun ls hl => ?_)
            refine lv_goto (tgt := 33) hx hb dX11_newAuthority_74 (by decide) ?_
            exact ih x_A0_secret x_A0_publicKey x_A0_nameHash x_A0_keyHash x_A0_issued x_A0_takenBack x_A0_name_length r_A0_name_data x_A1_secret x_A1_publicKey x_A1_nameHash x_A1_keyHash x_A1_issued x_A1_takenBack x_A1_name_length r_A1_name_data x_A2_secret x_A2_publicKey x_A2_nameHash x_A2_keyHash x_A2_issued x_A2_takenBack x_A2_name_length r_A2_name_data x_A3_secret x_A3_publicKey x_A3_nameHash x_A3_keyHash x_A3_issued x_A3_takenBack x_A3_name_length r_A3_name_data x_o_authorityCount x_o_signerCount x_o_heldCount x_o_rightAnswers x_o_otherAnswers x_o_looks x_o_latestVerdict x_o_findToHold x_o_tape_length r_o_tape_data v_1 v2_28 y hF H locs ls hP hD hS (lv_sub hl [1, 2, 0] rfl)
          · replace hF := ite_f hF c_27
            refine lv_bipush (v := (-3 : Int32)) hx hb dX11_newAuthority_68 (by decide) ?_
            have hy9 := (Option.some.inj hF).symm
            subst hy9
            exact rt_i C0.1 hP hD hS dX11_newAuthority_70
        · replace hF := ite_f hF c_21
          by_cases c_22 : v_2 = (2 : Int32)
          · replace hF := ite_t hF c_22
            rw [show va_rf (r_o_authorities v_2.toNatClampNeg) = .ref a_A2 from by rw [c_22]; exact congrArg va_rf hk_2]
            refine va_get (D := D) (ci := 2) (v := .ref a_A2_name) (C := RX2) (T := TX2) (N := 10) hx hb hts iw_X2 hown hK hP 6 rfl rfl 0 (by decide) (hts _ kw_393) (fun _ h9 => h9) rfl dX11_newAuthority_47 ?_
            refine lv_aload_n hx hb dX11_newAuthority_50 rfl (lv_at hl 0 rfl) ?_
            refine va_get (D := D) (ci := 9) (v := .ref a_o_tape) (C := RX11) (T := TX11) (N := 19) hx hb hts iw_X11 hown hK hP 12 rfl rfl 0 (by decide) (hts _ kw_460) (fun _ h9 => h9) rfl dX11_newAuthority_51 ?_
            refine lv_iconst (v := (0 : Int32)) hx hb dX11_newAuthority_54 (by decide) ?_
            refine lv_aload_n hx hb dX11_newAuthority_55 rfl (lv_at hl 0 rfl) ?_
            refine va_get (D := D) (ci := 9) (v := .ref a_o_tape) (C := RX11) (T := TX11) (N := 19) hx hb hts iw_X11 hown hK hP 12 rfl rfl 0 (by decide) (hts _ kw_460) (fun _ h9 => h9) rfl dX11_newAuthority_56 ?_
            refine va_get (D := D) (ci := 3) (v := .int x_o_tape_length) (C := RX3) (T := TX3) (N := 2) hx hb hts iw_X3 hown hK hP 14 rfl rfl 1 (by decide) (hts _ kw_108) (fun _ h9 => h9) rfl dX11_newAuthority_59 ?_
            obtain ⟨y_29, hy_29, hF⟩ := cal_d hF
            refine cf_i C0.1 hP hD hS [7, 8, 14, 15] [0, 1, 2, 3, 4, 5, 6, 9, 10, 11, 12, 13] [0, 1, 2, 3, 4, 5, 6, 12, 13, 7, 8, 9, 10, 11, 14, 15] (wr := [oX2 a_A0 a_A0_name a_A0_serials a_A0_since a_A0_reasons x_A0_secret x_A0_publicKey x_A0_nameHash x_A0_keyHash x_A0_issued x_A0_takenBack, oX3 a_A0_name a_A0_name_data x_A0_name_length, rB q a_A0_name_data 16 r_A0_name_data, oX2 a_A1 a_A1_name a_A1_serials a_A1_since a_A1_reasons x_A1_secret x_A1_publicKey x_A1_nameHash x_A1_keyHash x_A1_issued x_A1_takenBack, oX3 a_A1_name a_A1_name_data x_A1_name_length, rB q a_A1_name_data 16 r_A1_name_data, oX2 a_A2 a_A2_name a_A2_serials a_A2_since a_A2_reasons x_A2_secret x_A2_publicKey x_A2_nameHash x_A2_keyHash x_A2_issued x_A2_takenBack, oX2 a_A3 a_A3_name a_A3_serials a_A3_since a_A3_reasons x_A3_secret x_A3_publicKey x_A3_nameHash x_A3_keyHash x_A3_issued x_A3_takenBack, oX3 a_A3_name a_A3_name_data x_A3_name_length, rB q a_A3_name_data 16 r_A3_name_data, oX11 a_o a_o_tape a_o_out a_o_ownNonce a_o_authorities a_o_signers a_o_shelf a_o_latest a_o_wanted a_o_scan a_o_askText a_o_answerText x_o_authorityCount x_o_signerCount x_o_heldCount x_o_rightAnswers x_o_otherAnswers x_o_looks x_o_latestVerdict x_o_findToHold, rO q 3 a_o_authorities 4 r_o_authorities]) (w' := [oX2 a_A0 a_A0_name a_A0_serials a_A0_since a_A0_reasons x_A0_secret x_A0_publicKey x_A0_nameHash x_A0_keyHash x_A0_issued x_A0_takenBack, oX3 a_A0_name a_A0_name_data x_A0_name_length, rB q a_A0_name_data 16 r_A0_name_data, oX2 a_A1 a_A1_name a_A1_serials a_A1_since a_A1_reasons x_A1_secret x_A1_publicKey x_A1_nameHash x_A1_keyHash x_A1_issued x_A1_takenBack, oX3 a_A1_name a_A1_name_data x_A1_name_length, rB q a_A1_name_data 16 r_A1_name_data, oX2 a_A2 a_A2_name a_A2_serials a_A2_since a_A2_reasons x_A2_secret x_A2_publicKey x_A2_nameHash x_A2_keyHash x_A2_issued x_A2_takenBack, oX3 a_A2_name a_A2_name_data x_A2_name_length, rB q a_A2_name_data 16 r_A2_name_data, oX2 a_A3 a_A3_name a_A3_serials a_A3_since a_A3_reasons x_A3_secret x_A3_publicKey x_A3_nameHash x_A3_keyHash x_A3_issued x_A3_takenBack, oX3 a_A3_name a_A3_name_data x_A3_name_length, rB q a_A3_name_data 16 r_A3_name_data, oX11 a_o a_o_tape a_o_out a_o_ownNonce a_o_authorities a_o_signers a_o_shelf a_o_latest a_o_wanted a_o_scan a_o_askText a_o_answerText x_o_authorityCount x_o_signerCount x_o_heldCount x_o_rightAnswers x_o_otherAnswers x_o_looks x_o_latestVerdict x_o_findToHold, rO q 3 a_o_authorities 4 r_o_authorities, oX3 a_o_tape a_o_tape_data x_o_tape_length, rB q a_o_tape_data 1500 r_o_tape_data]) rfl rfl rfl (by decide) rfl rfl (sn_V (As := [.ref a_o_tape, .int (0 : Int32), .int x_o_tape_length]) (rest := []) (ci := 3) (q0 := 7) C0 (c_by_isSame l D q t a_A2_name x_A2_name_length a_A2_name_data 16 r_A2_name_data a_o_tape x_o_tape_length a_o_tape_data 1500 r_o_tape_data (0 : Int32) x_o_tape_length y_29 hy_29) (cwV 3 hts (g_V kw_582 kw_583 kw_584 kw_73 kw_585) rfl rfl rfl hd_X3_isSame ⟨Nat.le_of_ble_eq_true rfl, Nat.le_of_ble_eq_true rfl⟩) hP hD hS [7, 8, 14, 15] rfl rfl rfl rfl rfl rfl hl (Nat.le_of_ble_eq_true rfl) dX11_newAuthority_62) (fun H locs hP hD hS => ?_)
            refine lv_if_eq (tgt := 71) hx hb dX11_newAuthority_65 (by decide) (fun c_30 => ?_) (fun c_30 => ?_)
            · replace hF := ite_t hF c_30
              obtain ⟨v2_31, e_v2_31⟩ : ∃ z : Int32, z = v_2 + (1 : Int32) := ⟨_, rfl⟩
              replace hF := bnd_d hF e_v2_31
              refine lv_iinc (v := v2_31) (lv' := [(2, .int v2_31), (0, .ref a_o), (1, .int v_1)]) hx hb dX11_newAuthority_71 hl (k := 2) rfl (by rw [e_v2_31]; rfl) (by decide) rfl (fun ls hl => ?_)
              refine lv_goto (tgt := 33) hx hb dX11_newAuthority_74 (by decide) ?_
              exact ih x_A0_secret x_A0_publicKey x_A0_nameHash x_A0_keyHash x_A0_issued x_A0_takenBack x_A0_name_length r_A0_name_data x_A1_secret x_A1_publicKey x_A1_nameHash x_A1_keyHash x_A1_issued x_A1_takenBack x_A1_name_length r_A1_name_data x_A2_secret x_A2_publicKey x_A2_nameHash x_A2_keyHash x_A2_issued x_A2_takenBack x_A2_name_length r_A2_name_data x_A3_secret x_A3_publicKey x_A3_nameHash x_A3_keyHash x_A3_issued x_A3_takenBack x_A3_name_length r_A3_name_data x_o_authorityCount x_o_signerCount x_o_heldCount x_o_rightAnswers x_o_otherAnswers x_o_looks x_o_latestVerdict x_o_findToHold x_o_tape_length r_o_tape_data v_1 v2_31 y hF H locs ls hP hD hS (lv_sub hl [1, 2, 0] rfl)
            · replace hF := ite_f hF c_30
              refine lv_bipush (v := (-3 : Int32)) hx hb dX11_newAuthority_68 (by decide) ?_
              have hy9 := (Option.some.inj hF).symm
              subst hy9
              exact rt_i C0.1 hP hD hS dX11_newAuthority_70
          · replace hF := ite_f hF c_22
            have c_9 := in4 z_19 c_20 c_21 c_22
            rw [show va_rf (r_o_authorities v_2.toNatClampNeg) = .ref a_A3 from by rw [c_9]; exact congrArg va_rf hk_3]
            refine va_get (D := D) (ci := 2) (v := .ref a_A3_name) (C := RX2) (T := TX2) (N := 10) hx hb hts iw_X2 hown hK hP 9 rfl rfl 0 (by decide) (hts _ kw_393) (fun _ h9 => h9) rfl dX11_newAuthority_47 ?_
            refine lv_aload_n hx hb dX11_newAuthority_50 rfl (lv_at hl 0 rfl) ?_
            refine va_get (D := D) (ci := 9) (v := .ref a_o_tape) (C := RX11) (T := TX11) (N := 19) hx hb hts iw_X11 hown hK hP 12 rfl rfl 0 (by decide) (hts _ kw_460) (fun _ h9 => h9) rfl dX11_newAuthority_51 ?_
            refine lv_iconst (v := (0 : Int32)) hx hb dX11_newAuthority_54 (by decide) ?_
            refine lv_aload_n hx hb dX11_newAuthority_55 rfl (lv_at hl 0 rfl) ?_
            refine va_get (D := D) (ci := 9) (v := .ref a_o_tape) (C := RX11) (T := TX11) (N := 19) hx hb hts iw_X11 hown hK hP 12 rfl rfl 0 (by decide) (hts _ kw_460) (fun _ h9 => h9) rfl dX11_newAuthority_56 ?_
            refine va_get (D := D) (ci := 3) (v := .int x_o_tape_length) (C := RX3) (T := TX3) (N := 2) hx hb hts iw_X3 hown hK hP 14 rfl rfl 1 (by decide) (hts _ kw_108) (fun _ h9 => h9) rfl dX11_newAuthority_59 ?_
            obtain ⟨y_32, hy_32, hF⟩ := cal_d hF
            refine cf_i C0.1 hP hD hS [10, 11, 14, 15] [0, 1, 2, 3, 4, 5, 6, 7, 8, 9, 12, 13] [0, 1, 2, 3, 4, 5, 6, 7, 8, 9, 12, 13, 10, 11, 14, 15] (wr := [oX2 a_A0 a_A0_name a_A0_serials a_A0_since a_A0_reasons x_A0_secret x_A0_publicKey x_A0_nameHash x_A0_keyHash x_A0_issued x_A0_takenBack, oX3 a_A0_name a_A0_name_data x_A0_name_length, rB q a_A0_name_data 16 r_A0_name_data, oX2 a_A1 a_A1_name a_A1_serials a_A1_since a_A1_reasons x_A1_secret x_A1_publicKey x_A1_nameHash x_A1_keyHash x_A1_issued x_A1_takenBack, oX3 a_A1_name a_A1_name_data x_A1_name_length, rB q a_A1_name_data 16 r_A1_name_data, oX2 a_A2 a_A2_name a_A2_serials a_A2_since a_A2_reasons x_A2_secret x_A2_publicKey x_A2_nameHash x_A2_keyHash x_A2_issued x_A2_takenBack, oX3 a_A2_name a_A2_name_data x_A2_name_length, rB q a_A2_name_data 16 r_A2_name_data, oX2 a_A3 a_A3_name a_A3_serials a_A3_since a_A3_reasons x_A3_secret x_A3_publicKey x_A3_nameHash x_A3_keyHash x_A3_issued x_A3_takenBack, oX11 a_o a_o_tape a_o_out a_o_ownNonce a_o_authorities a_o_signers a_o_shelf a_o_latest a_o_wanted a_o_scan a_o_askText a_o_answerText x_o_authorityCount x_o_signerCount x_o_heldCount x_o_rightAnswers x_o_otherAnswers x_o_looks x_o_latestVerdict x_o_findToHold, rO q 3 a_o_authorities 4 r_o_authorities]) (w' := [oX2 a_A0 a_A0_name a_A0_serials a_A0_since a_A0_reasons x_A0_secret x_A0_publicKey x_A0_nameHash x_A0_keyHash x_A0_issued x_A0_takenBack, oX3 a_A0_name a_A0_name_data x_A0_name_length, rB q a_A0_name_data 16 r_A0_name_data, oX2 a_A1 a_A1_name a_A1_serials a_A1_since a_A1_reasons x_A1_secret x_A1_publicKey x_A1_nameHash x_A1_keyHash x_A1_issued x_A1_takenBack, oX3 a_A1_name a_A1_name_data x_A1_name_length, rB q a_A1_name_data 16 r_A1_name_data, oX2 a_A2 a_A2_name a_A2_serials a_A2_since a_A2_reasons x_A2_secret x_A2_publicKey x_A2_nameHash x_A2_keyHash x_A2_issued x_A2_takenBack, oX3 a_A2_name a_A2_name_data x_A2_name_length, rB q a_A2_name_data 16 r_A2_name_data, oX2 a_A3 a_A3_name a_A3_serials a_A3_since a_A3_reasons x_A3_secret x_A3_publicKey x_A3_nameHash x_A3_keyHash x_A3_issued x_A3_takenBack, oX3 a_A3_name a_A3_name_data x_A3_name_length, rB q a_A3_name_data 16 r_A3_name_data, oX11 a_o a_o_tape a_o_out a_o_ownNonce a_o_authorities a_o_signers a_o_shelf a_o_latest a_o_wanted a_o_scan a_o_askText a_o_answerText x_o_authorityCount x_o_signerCount x_o_heldCount x_o_rightAnswers x_o_otherAnswers x_o_looks x_o_latestVerdict x_o_findToHold, rO q 3 a_o_authorities 4 r_o_authorities, oX3 a_o_tape a_o_tape_data x_o_tape_length, rB q a_o_tape_data 1500 r_o_tape_data]) rfl rfl rfl (by decide) rfl rfl (sn_V (As := [.ref a_o_tape, .int (0 : Int32), .int x_o_tape_length]) (rest := []) (ci := 3) (q0 := 10) C0 (c_by_isSame l D q t a_A3_name x_A3_name_length a_A3_name_data 16 r_A3_name_data a_o_tape x_o_tape_length a_o_tape_data 1500 r_o_tape_data (0 : Int32) x_o_tape_length y_32 hy_32) (cwV 3 hts (g_V kw_582 kw_583 kw_584 kw_73 kw_585) rfl rfl rfl hd_X3_isSame ⟨Nat.le_of_ble_eq_true rfl, Nat.le_of_ble_eq_true rfl⟩) hP hD hS [10, 11, 14, 15] rfl rfl rfl rfl rfl rfl hl (Nat.le_of_ble_eq_true rfl) dX11_newAuthority_62) (fun H locs hP hD hS => ?_)
            refine lv_if_eq (tgt := 71) hx hb dX11_newAuthority_65 (by decide) (fun c_33 => ?_) (fun c_33 => ?_)
            · replace hF := ite_t hF c_33
              obtain ⟨v2_34, e_v2_34⟩ : ∃ z : Int32, z = v_2 + (1 : Int32) := ⟨_, rfl⟩
              replace hF := bnd_d hF e_v2_34
              refine lv_iinc (v := v2_34) (lv' := [(2, .int v2_34), (0, .ref a_o), (1, .int v_1)]) hx hb dX11_newAuthority_71 hl (k := 2) rfl (by rw [e_v2_34]; rfl) (by decide) rfl (fun ls hl => ?_)
              refine lv_goto (tgt := 33) hx hb dX11_newAuthority_74 (by decide) ?_
              exact ih x_A0_secret x_A0_publicKey x_A0_nameHash x_A0_keyHash x_A0_issued x_A0_takenBack x_A0_name_length r_A0_name_data x_A1_secret x_A1_publicKey x_A1_nameHash x_A1_keyHash x_A1_issued x_A1_takenBack x_A1_name_length r_A1_name_data x_A2_secret x_A2_publicKey x_A2_nameHash x_A2_keyHash x_A2_issued x_A2_takenBack x_A2_name_length r_A2_name_data x_A3_secret x_A3_publicKey x_A3_nameHash x_A3_keyHash x_A3_issued x_A3_takenBack x_A3_name_length r_A3_name_data x_o_authorityCount x_o_signerCount x_o_heldCount x_o_rightAnswers x_o_otherAnswers x_o_looks x_o_latestVerdict x_o_findToHold x_o_tape_length r_o_tape_data v_1 v2_34 y hF H locs ls hP hD hS (lv_sub hl [1, 2, 0] rfl)
            · replace hF := ite_f hF c_33
              refine lv_bipush (v := (-3 : Int32)) hx hb dX11_newAuthority_68 (by decide) ?_
              have hy9 := (Option.some.inj hF).symm
              subst hy9
              exact rt_i C0.1 hP hD hS dX11_newAuthority_70
set_option maxHeartbeats 4000000 in
set_option maxRecDepth 100000 in
theorem c_de_newAuthority (l : Launch) (D : va_G) (q : Nat → ClassId) (t : Nat) (a_A0 : Nat) (a_A0_serials : Nat) (a_A0_since : Nat) (a_A0_reasons : Nat) (x_A0_secret : Int32) (x_A0_publicKey : Int32) (x_A0_nameHash : Int64) (x_A0_keyHash : Int64) (x_A0_issued : Int32) (x_A0_takenBack : Int32) (a_A0_name : Nat) (x_A0_name_length : Int32) (a_A0_name_data : Nat) (r_A0_name_data : (Nat → Int32)) (a_A1 : Nat) (a_A1_serials : Nat) (a_A1_since : Nat) (a_A1_reasons : Nat) (x_A1_secret : Int32) (x_A1_publicKey : Int32) (x_A1_nameHash : Int64) (x_A1_keyHash : Int64) (x_A1_issued : Int32) (x_A1_takenBack : Int32) (a_A1_name : Nat) (x_A1_name_length : Int32) (a_A1_name_data : Nat) (r_A1_name_data : (Nat → Int32)) (a_A2 : Nat) (a_A2_serials : Nat) (a_A2_since : Nat) (a_A2_reasons : Nat) (x_A2_secret : Int32) (x_A2_publicKey : Int32) (x_A2_nameHash : Int64) (x_A2_keyHash : Int64) (x_A2_issued : Int32) (x_A2_takenBack : Int32) (a_A2_name : Nat) (x_A2_name_length : Int32) (a_A2_name_data : Nat) (r_A2_name_data : (Nat → Int32)) (a_A3 : Nat) (a_A3_serials : Nat) (a_A3_since : Nat) (a_A3_reasons : Nat) (x_A3_secret : Int32) (x_A3_publicKey : Int32) (x_A3_nameHash : Int64) (x_A3_keyHash : Int64) (x_A3_issued : Int32) (x_A3_takenBack : Int32) (a_A3_name : Nat) (x_A3_name_length : Int32) (a_A3_name_data : Nat) (r_A3_name_data : (Nat → Int32)) (a_o : Nat) (a_o_out : Nat) (a_o_ownNonce : Nat) (a_o_signers : Nat) (a_o_shelf : Nat) (a_o_latest : Nat) (a_o_wanted : Nat) (a_o_scan : Nat) (a_o_askText : Nat) (a_o_answerText : Nat) (x_o_authorityCount : Int32) (x_o_signerCount : Int32) (x_o_heldCount : Int32) (x_o_rightAnswers : Int32) (x_o_otherAnswers : Int32) (x_o_looks : Int32) (x_o_latestVerdict : Int32) (x_o_findToHold : Int32) (a_o_authorities : Nat) (r_o_authorities : (Nat → Option Nat)) (a_o_tape : Nat) (x_o_tape_length : Int32) (a_o_tape_data : Nat) (r_o_tape_data : (Nat → Int32)) (p_0 : Int32) (y : Int32 × Int64 × (Nat → Int32) × Int32 × Int64 × Int32 × Int32 × Int64 × (Nat → Int32) × Int32 × Int64 × Int32 × Int32 × Int64 × (Nat → Int32) × Int32 × Int64 × Int32 × Int32 × Int64 × (Nat → Int32) × Int32 × Int64 × Int32 × Int32 × Int32) (hF : f_de_newAuthority x_A0_keyHash r_A0_name_data x_A0_name_length x_A0_nameHash x_A0_publicKey x_A0_secret x_A1_keyHash r_A1_name_data x_A1_name_length x_A1_nameHash x_A1_publicKey x_A1_secret x_A2_keyHash r_A2_name_data x_A2_name_length x_A2_nameHash x_A2_publicKey x_A2_secret x_A3_keyHash r_A3_name_data x_A3_name_length x_A3_nameHash x_A3_publicKey x_A3_secret x_o_authorityCount r_o_tape_data x_o_tape_length p_0 = some y) (hk_0 : r_o_authorities 0 = some a_A0) (hk_1 : r_o_authorities 1 = some a_A1) (hk_2 : r_o_authorities 2 = some a_A2) (hk_3 : r_o_authorities 3 = some a_A3) : cu l yX11_newAuthority (vs yX11_newAuthority cX11_newAuthority 3 (some .int)) ({ frames := 4, cells := 0, slots := 0, locals := 93 }) D q t [.ref a_o, .int p_0] [oX2 a_A0 a_A0_name a_A0_serials a_A0_since a_A0_reasons x_A0_secret x_A0_publicKey x_A0_nameHash x_A0_keyHash x_A0_issued x_A0_takenBack, oX3 a_A0_name a_A0_name_data x_A0_name_length, rB q a_A0_name_data 16 r_A0_name_data, oX2 a_A1 a_A1_name a_A1_serials a_A1_since a_A1_reasons x_A1_secret x_A1_publicKey x_A1_nameHash x_A1_keyHash x_A1_issued x_A1_takenBack, oX3 a_A1_name a_A1_name_data x_A1_name_length, rB q a_A1_name_data 16 r_A1_name_data, oX2 a_A2 a_A2_name a_A2_serials a_A2_since a_A2_reasons x_A2_secret x_A2_publicKey x_A2_nameHash x_A2_keyHash x_A2_issued x_A2_takenBack, oX3 a_A2_name a_A2_name_data x_A2_name_length, rB q a_A2_name_data 16 r_A2_name_data, oX2 a_A3 a_A3_name a_A3_serials a_A3_since a_A3_reasons x_A3_secret x_A3_publicKey x_A3_nameHash x_A3_keyHash x_A3_issued x_A3_takenBack, oX3 a_A3_name a_A3_name_data x_A3_name_length, rB q a_A3_name_data 16 r_A3_name_data, oX11 a_o a_o_tape a_o_out a_o_ownNonce a_o_authorities a_o_signers a_o_shelf a_o_latest a_o_wanted a_o_scan a_o_askText a_o_answerText x_o_authorityCount x_o_signerCount x_o_heldCount x_o_rightAnswers x_o_otherAnswers x_o_looks x_o_latestVerdict x_o_findToHold, rO q 3 a_o_authorities 4 r_o_authorities, oX3 a_o_tape a_o_tape_data x_o_tape_length, rB q a_o_tape_data 1500 r_o_tape_data] (qI D q y.1 [oX2 a_A0 a_A0_name a_A0_serials a_A0_since a_A0_reasons y.2.2.2.2.2.2.1 y.2.2.2.2.2.1 y.2.2.2.2.1 y.2.1 x_A0_issued x_A0_takenBack, oX3 a_A0_name a_A0_name_data y.2.2.2.1, rB q a_A0_name_data 16 y.2.2.1, oX2 a_A1 a_A1_name a_A1_serials a_A1_since a_A1_reasons y.2.2.2.2.2.2.2.2.2.2.2.2.1 y.2.2.2.2.2.2.2.2.2.2.2.1 y.2.2.2.2.2.2.2.2.2.2.1 y.2.2.2.2.2.2.2.1 x_A1_issued x_A1_takenBack, oX3 a_A1_name a_A1_name_data y.2.2.2.2.2.2.2.2.2.1, rB q a_A1_name_data 16 y.2.2.2.2.2.2.2.2.1, oX2 a_A2 a_A2_name a_A2_serials a_A2_since a_A2_reasons y.2.2.2.2.2.2.2.2.2.2.2.2.2.2.2.2.2.2.1 y.2.2.2.2.2.2.2.2.2.2.2.2.2.2.2.2.2.1 y.2.2.2.2.2.2.2.2.2.2.2.2.2.2.2.2.1 y.2.2.2.2.2.2.2.2.2.2.2.2.2.1 x_A2_issued x_A2_takenBack, oX3 a_A2_name a_A2_name_data y.2.2.2.2.2.2.2.2.2.2.2.2.2.2.2.1, rB q a_A2_name_data 16 y.2.2.2.2.2.2.2.2.2.2.2.2.2.2.1, oX2 a_A3 a_A3_name a_A3_serials a_A3_since a_A3_reasons y.2.2.2.2.2.2.2.2.2.2.2.2.2.2.2.2.2.2.2.2.2.2.2.2.1 y.2.2.2.2.2.2.2.2.2.2.2.2.2.2.2.2.2.2.2.2.2.2.2.1 y.2.2.2.2.2.2.2.2.2.2.2.2.2.2.2.2.2.2.2.2.2.2.1 y.2.2.2.2.2.2.2.2.2.2.2.2.2.2.2.2.2.2.2.1 x_A3_issued x_A3_takenBack, oX3 a_A3_name a_A3_name_data y.2.2.2.2.2.2.2.2.2.2.2.2.2.2.2.2.2.2.2.2.2.1, rB q a_A3_name_data 16 y.2.2.2.2.2.2.2.2.2.2.2.2.2.2.2.2.2.2.2.2.1, oX11 a_o a_o_tape a_o_out a_o_ownNonce a_o_authorities a_o_signers a_o_shelf a_o_latest a_o_wanted a_o_scan a_o_askText a_o_answerText y.2.2.2.2.2.2.2.2.2.2.2.2.2.2.2.2.2.2.2.2.2.2.2.2.2 x_o_signerCount x_o_heldCount x_o_rightAnswers x_o_otherAnswers x_o_looks x_o_latestVerdict x_o_findToHold, rO q 3 a_o_authorities 4 r_o_authorities, oX3 a_o_tape a_o_tape_data x_o_tape_length, rB q a_o_tape_data 1500 r_o_tape_data]) := by
  refine cu_of (cc := cX11_newAuthority) (nL := 3) (ret := (some .int)) (by decide) (Nat.le_of_ble_eq_true rfl) (fun {p e s m args below meth c A} C0 H locs ls hP hD hS hl => ?_)
  have C0 : cy p s m args meth c cX11_newAuthority (some .int) 3 RX11 D q t A := C0
  obtain ⟨⟨hx, hb, hr, hml, hown, hts, hlocks, hK, hA⟩, hG⟩ := id C0
  have hl : lv_has ls 3 [(0, .ref a_o), (1, .int p_0)] := hl
  unfold f_de_newAuthority at hF
  refine lv_aload_n hx hb dX11_newAuthority_0 rfl (lv_at hl 0 rfl) ?_
  refine va_get (D := D) (ci := 9) (v := .ref a_o_tape) (C := RX11) (T := TX11) (N := 19) hx hb hts iw_X11 hown hK hP 12 rfl rfl 0 (by decide) (hts _ kw_460) (fun _ h9 => h9) rfl dX11_newAuthority_1 ?_
  obtain ⟨y_1, hy_1, hF⟩ := cal_d hF
  refine cf_i C0.1 hP hD hS [14] [0, 1, 2, 3, 4, 5, 6, 7, 8, 9, 10, 11, 12, 13, 15] [0, 1, 2, 3, 4, 5, 6, 7, 8, 9, 10, 11, 12, 13, 15, 14] (wr := [oX2 a_A0 a_A0_name a_A0_serials a_A0_since a_A0_reasons x_A0_secret x_A0_publicKey x_A0_nameHash x_A0_keyHash x_A0_issued x_A0_takenBack, oX3 a_A0_name a_A0_name_data x_A0_name_length, rB q a_A0_name_data 16 r_A0_name_data, oX2 a_A1 a_A1_name a_A1_serials a_A1_since a_A1_reasons x_A1_secret x_A1_publicKey x_A1_nameHash x_A1_keyHash x_A1_issued x_A1_takenBack, oX3 a_A1_name a_A1_name_data x_A1_name_length, rB q a_A1_name_data 16 r_A1_name_data, oX2 a_A2 a_A2_name a_A2_serials a_A2_since a_A2_reasons x_A2_secret x_A2_publicKey x_A2_nameHash x_A2_keyHash x_A2_issued x_A2_takenBack, oX3 a_A2_name a_A2_name_data x_A2_name_length, rB q a_A2_name_data 16 r_A2_name_data, oX2 a_A3 a_A3_name a_A3_serials a_A3_since a_A3_reasons x_A3_secret x_A3_publicKey x_A3_nameHash x_A3_keyHash x_A3_issued x_A3_takenBack, oX3 a_A3_name a_A3_name_data x_A3_name_length, rB q a_A3_name_data 16 r_A3_name_data, oX11 a_o a_o_tape a_o_out a_o_ownNonce a_o_authorities a_o_signers a_o_shelf a_o_latest a_o_wanted a_o_scan a_o_askText a_o_answerText x_o_authorityCount x_o_signerCount x_o_heldCount x_o_rightAnswers x_o_otherAnswers x_o_looks x_o_latestVerdict x_o_findToHold, rO q 3 a_o_authorities 4 r_o_authorities, rB q a_o_tape_data 1500 r_o_tape_data]) (w' := [oX2 a_A0 a_A0_name a_A0_serials a_A0_since a_A0_reasons x_A0_secret x_A0_publicKey x_A0_nameHash x_A0_keyHash x_A0_issued x_A0_takenBack, oX3 a_A0_name a_A0_name_data x_A0_name_length, rB q a_A0_name_data 16 r_A0_name_data, oX2 a_A1 a_A1_name a_A1_serials a_A1_since a_A1_reasons x_A1_secret x_A1_publicKey x_A1_nameHash x_A1_keyHash x_A1_issued x_A1_takenBack, oX3 a_A1_name a_A1_name_data x_A1_name_length, rB q a_A1_name_data 16 r_A1_name_data, oX2 a_A2 a_A2_name a_A2_serials a_A2_since a_A2_reasons x_A2_secret x_A2_publicKey x_A2_nameHash x_A2_keyHash x_A2_issued x_A2_takenBack, oX3 a_A2_name a_A2_name_data x_A2_name_length, rB q a_A2_name_data 16 r_A2_name_data, oX2 a_A3 a_A3_name a_A3_serials a_A3_since a_A3_reasons x_A3_secret x_A3_publicKey x_A3_nameHash x_A3_keyHash x_A3_issued x_A3_takenBack, oX3 a_A3_name a_A3_name_data x_A3_name_length, rB q a_A3_name_data 16 r_A3_name_data, oX11 a_o a_o_tape a_o_out a_o_ownNonce a_o_authorities a_o_signers a_o_shelf a_o_latest a_o_wanted a_o_scan a_o_askText a_o_answerText x_o_authorityCount x_o_signerCount x_o_heldCount x_o_rightAnswers x_o_otherAnswers x_o_looks x_o_latestVerdict x_o_findToHold, rO q 3 a_o_authorities 4 r_o_authorities, oX3 a_o_tape a_o_tape_data x_o_tape_length, rB q a_o_tape_data 1500 r_o_tape_data]) rfl rfl rfl (by decide) rfl rfl (sn_S (As := [.ref a_o_tape]) (rest := []) C0 (c_de_isName l D q t a_o_tape a_o_tape_data x_o_tape_length  y_1 hy_1) (va_cwS 1 hts (g_S kw_575 kw_576 kw_72 kw_577) rfl rfl rfl hd_X11_isName ⟨Nat.le_of_ble_eq_true rfl, Nat.le_of_ble_eq_true rfl⟩) hP hD hS [14] rfl rfl rfl hl (Nat.le_of_ble_eq_true rfl) dX11_newAuthority_4) (fun H locs hP hD hS => ?_)
  refine lv_if_eq (tgt := 17) hx hb dX11_newAuthority_7 (by decide) (fun c_2 => ?_) (fun c_2 => ?_)
  · replace hF := ite_t hF c_2
    refine lv_bipush (v := (-2 : Int32)) hx hb dX11_newAuthority_17 (by decide) ?_
    have hy9 := (Option.some.inj hF).symm
    subst hy9
    exact rt_i C0.1 hP hD hS dX11_newAuthority_19
  · replace hF := ite_f hF c_2
    refine lv_iload_n hx hb dX11_newAuthority_10 rfl (lv_at hl 1 rfl) ?_
    obtain ⟨y_3, hy_3, hF⟩ := cal_d hF
    refine cf_i C0.1 hP hD hS [] [0, 1, 2, 3, 4, 5, 6, 7, 8, 9, 10, 11, 12, 13, 14, 15] [0, 1, 2, 3, 4, 5, 6, 7, 8, 9, 10, 11, 12, 13, 14, 15] (wr := [oX2 a_A0 a_A0_name a_A0_serials a_A0_since a_A0_reasons x_A0_secret x_A0_publicKey x_A0_nameHash x_A0_keyHash x_A0_issued x_A0_takenBack, oX3 a_A0_name a_A0_name_data x_A0_name_length, rB q a_A0_name_data 16 r_A0_name_data, oX2 a_A1 a_A1_name a_A1_serials a_A1_since a_A1_reasons x_A1_secret x_A1_publicKey x_A1_nameHash x_A1_keyHash x_A1_issued x_A1_takenBack, oX3 a_A1_name a_A1_name_data x_A1_name_length, rB q a_A1_name_data 16 r_A1_name_data, oX2 a_A2 a_A2_name a_A2_serials a_A2_since a_A2_reasons x_A2_secret x_A2_publicKey x_A2_nameHash x_A2_keyHash x_A2_issued x_A2_takenBack, oX3 a_A2_name a_A2_name_data x_A2_name_length, rB q a_A2_name_data 16 r_A2_name_data, oX2 a_A3 a_A3_name a_A3_serials a_A3_since a_A3_reasons x_A3_secret x_A3_publicKey x_A3_nameHash x_A3_keyHash x_A3_issued x_A3_takenBack, oX3 a_A3_name a_A3_name_data x_A3_name_length, rB q a_A3_name_data 16 r_A3_name_data, oX11 a_o a_o_tape a_o_out a_o_ownNonce a_o_authorities a_o_signers a_o_shelf a_o_latest a_o_wanted a_o_scan a_o_askText a_o_answerText x_o_authorityCount x_o_signerCount x_o_heldCount x_o_rightAnswers x_o_otherAnswers x_o_looks x_o_latestVerdict x_o_findToHold, rO q 3 a_o_authorities 4 r_o_authorities, oX3 a_o_tape a_o_tape_data x_o_tape_length, rB q a_o_tape_data 1500 r_o_tape_data]) (w' := [oX2 a_A0 a_A0_name a_A0_serials a_A0_since a_A0_reasons x_A0_secret x_A0_publicKey x_A0_nameHash x_A0_keyHash x_A0_issued x_A0_takenBack, oX3 a_A0_name a_A0_name_data x_A0_name_length, rB q a_A0_name_data 16 r_A0_name_data, oX2 a_A1 a_A1_name a_A1_serials a_A1_since a_A1_reasons x_A1_secret x_A1_publicKey x_A1_nameHash x_A1_keyHash x_A1_issued x_A1_takenBack, oX3 a_A1_name a_A1_name_data x_A1_name_length, rB q a_A1_name_data 16 r_A1_name_data, oX2 a_A2 a_A2_name a_A2_serials a_A2_since a_A2_reasons x_A2_secret x_A2_publicKey x_A2_nameHash x_A2_keyHash x_A2_issued x_A2_takenBack, oX3 a_A2_name a_A2_name_data x_A2_name_length, rB q a_A2_name_data 16 r_A2_name_data, oX2 a_A3 a_A3_name a_A3_serials a_A3_since a_A3_reasons x_A3_secret x_A3_publicKey x_A3_nameHash x_A3_keyHash x_A3_issued x_A3_takenBack, oX3 a_A3_name a_A3_name_data x_A3_name_length, rB q a_A3_name_data 16 r_A3_name_data, oX11 a_o a_o_tape a_o_out a_o_ownNonce a_o_authorities a_o_signers a_o_shelf a_o_latest a_o_wanted a_o_scan a_o_askText a_o_answerText x_o_authorityCount x_o_signerCount x_o_heldCount x_o_rightAnswers x_o_otherAnswers x_o_looks x_o_latestVerdict x_o_findToHold, rO q 3 a_o_authorities 4 r_o_authorities, oX3 a_o_tape a_o_tape_data x_o_tape_length, rB q a_o_tape_data 1500 r_o_tape_data]) rfl rfl rfl (by decide) rfl rfl (sn_S (As := [.int p_0]) (rest := []) C0 (c_nu_isSecret l D q t  p_0 y_3 hy_3) (va_cwS 1 hts (g_S kw_578 kw_579 kw_84 kw_580) rfl rfl rfl hd_X7_isSecret ⟨Nat.le_of_ble_eq_true rfl, Nat.le_of_ble_eq_true rfl⟩) hP hD hS [] rfl rfl rfl hl (Nat.le_of_ble_eq_true rfl) dX11_newAuthority_11) (fun H locs hP hD hS => ?_)
    refine lv_if_ne (tgt := 20) hx hb dX11_newAuthority_14 (by decide) (fun c_4 => ?_) (fun c_4 => ?_)
    · replace hF := ite_f hF c_4
      refine lv_aload_n hx hb dX11_newAuthority_20 rfl (lv_at hl 0 rfl) ?_
      refine va_get (D := D) (ci := 9) (v := .int x_o_authorityCount) (C := RX11) (T := TX11) (N := 19) hx hb hts iw_X11 hown hK hP 12 rfl rfl 11 (by decide) (hts _ kw_471) (fun _ h9 => h9) rfl dX11_newAuthority_21 ?_
      refine lv_iconst (v := (4 : Int32)) hx hb dX11_newAuthority_24 (by decide) ?_
      refine lv_icmp_lt (tgt := 31) hx hb dX11_newAuthority_25 (by decide) (fun c_5 => ?_) (fun c_5 => ?_)
      · replace hF := ite_t hF c_5
        refine lv_iconst (v := (0 : Int32)) hx hb dX11_newAuthority_31 (by decide) ?_
        refine lv_istore_n (lv' := [(2, .int (0 : Int32)), (0, .ref a_o), (1, .int p_0)]) hx hb dX11_newAuthority_32 rfl hl (by decide) rfl (fun ls hl => ?_)
        exact w_de_newAuthority_33 C0 a_A0 a_A0_serials a_A0_since a_A0_reasons a_A0_name a_A0_name_data a_A1 a_A1_serials a_A1_since a_A1_reasons a_A1_name a_A1_name_data a_A2 a_A2_serials a_A2_since a_A2_reasons a_A2_name a_A2_name_data a_A3 a_A3_serials a_A3_since a_A3_reasons a_A3_name a_A3_name_data a_o a_o_out a_o_ownNonce a_o_signers a_o_shelf a_o_latest a_o_wanted a_o_scan a_o_askText a_o_answerText a_o_authorities r_o_authorities a_o_tape a_o_tape_data hk_0 hk_1 hk_2 hk_3 FU x_A0_secret x_A0_publicKey x_A0_nameHash x_A0_keyHash x_A0_issued x_A0_takenBack x_A0_name_length r_A0_name_data x_A1_secret x_A1_publicKey x_A1_nameHash x_A1_keyHash x_A1_issued x_A1_takenBack x_A1_name_length r_A1_name_data x_A2_secret x_A2_publicKey x_A2_nameHash x_A2_keyHash x_A2_issued x_A2_takenBack x_A2_name_length r_A2_name_data x_A3_secret x_A3_publicKey x_A3_nameHash x_A3_keyHash x_A3_issued x_A3_takenBack x_A3_name_length r_A3_name_data x_o_authorityCount x_o_signerCount x_o_heldCount x_o_rightAnswers x_o_otherAnswers x_o_looks x_o_latestVerdict x_o_findToHold x_o_tape_length r_o_tape_data p_0 (0 : Int32) y hF H locs ls hP hD hS (lv_sub hl [1, 2, 0] rfl)
      · replace hF := ite_f hF c_5
        refine lv_bipush (v := (-3 : Int32)) hx hb dX11_newAuthority_28 (by decide) ?_
        have hy9 := (Option.some.inj hF).symm
        subst hy9
        exact rt_i C0.1 hP hD hS dX11_newAuthority_30
    · replace hF := ite_t hF c_4
      refine lv_bipush (v := (-2 : Int32)) hx hb dX11_newAuthority_17 (by decide) ?_
      have hy9 := (Option.some.inj hF).symm
      subst hy9
      exact rt_i C0.1 hP hD hS dX11_newAuthority_19
set_option maxHeartbeats 4000000 in
set_option maxRecDepth 100000 in
theorem c_de_authority (l : Launch) (D : va_G) (q : Nat → ClassId) (t : Nat) (a_A0 : Nat) (a_A0_serials : Nat) (a_A0_since : Nat) (a_A0_reasons : Nat) (x_A0_secret : Int32) (x_A0_publicKey : Int32) (x_A0_nameHash : Int64) (x_A0_keyHash : Int64) (x_A0_issued : Int32) (x_A0_takenBack : Int32) (a_A0_name : Nat) (x_A0_name_length : Int32) (a_A0_name_data : Nat) (r_A0_name_data : (Nat → Int32)) (a_A1 : Nat) (a_A1_serials : Nat) (a_A1_since : Nat) (a_A1_reasons : Nat) (x_A1_secret : Int32) (x_A1_publicKey : Int32) (x_A1_nameHash : Int64) (x_A1_keyHash : Int64) (x_A1_issued : Int32) (x_A1_takenBack : Int32) (a_A1_name : Nat) (x_A1_name_length : Int32) (a_A1_name_data : Nat) (r_A1_name_data : (Nat → Int32)) (a_A2 : Nat) (a_A2_serials : Nat) (a_A2_since : Nat) (a_A2_reasons : Nat) (x_A2_secret : Int32) (x_A2_publicKey : Int32) (x_A2_nameHash : Int64) (x_A2_keyHash : Int64) (x_A2_issued : Int32) (x_A2_takenBack : Int32) (a_A2_name : Nat) (x_A2_name_length : Int32) (a_A2_name_data : Nat) (r_A2_name_data : (Nat → Int32)) (a_A3 : Nat) (a_A3_serials : Nat) (a_A3_since : Nat) (a_A3_reasons : Nat) (x_A3_secret : Int32) (x_A3_publicKey : Int32) (x_A3_nameHash : Int64) (x_A3_keyHash : Int64) (x_A3_issued : Int32) (x_A3_takenBack : Int32) (a_A3_name : Nat) (x_A3_name_length : Int32) (a_A3_name_data : Nat) (r_A3_name_data : (Nat → Int32)) (a_o : Nat) (a_o_out : Nat) (a_o_ownNonce : Nat) (a_o_signers : Nat) (a_o_shelf : Nat) (a_o_latest : Nat) (a_o_wanted : Nat) (a_o_scan : Nat) (a_o_askText : Nat) (a_o_answerText : Nat) (x_o_authorityCount : Int32) (x_o_signerCount : Int32) (x_o_heldCount : Int32) (x_o_rightAnswers : Int32) (x_o_otherAnswers : Int32) (x_o_looks : Int32) (x_o_latestVerdict : Int32) (x_o_findToHold : Int32) (a_o_authorities : Nat) (r_o_authorities : (Nat → Option Nat)) (a_o_tape : Nat) (x_o_tape_length : Int32) (a_o_tape_data : Nat) (r_o_tape_data : (Nat → Int32)) (p_0 : Int32) (y : Int32 × Int64 × (Nat → Int32) × Int32 × Int64 × Int32 × Int32 × Int64 × (Nat → Int32) × Int32 × Int64 × Int32 × Int32 × Int64 × (Nat → Int32) × Int32 × Int64 × Int32 × Int32 × Int64 × (Nat → Int32) × Int32 × Int64 × Int32 × Int32 × Int32 × Int32) (hF : f_de_authority x_A0_keyHash r_A0_name_data x_A0_name_length x_A0_nameHash x_A0_publicKey x_A0_secret x_A1_keyHash r_A1_name_data x_A1_name_length x_A1_nameHash x_A1_publicKey x_A1_secret x_A2_keyHash r_A2_name_data x_A2_name_length x_A2_nameHash x_A2_publicKey x_A2_secret x_A3_keyHash r_A3_name_data x_A3_name_length x_A3_nameHash x_A3_publicKey x_A3_secret x_o_authorityCount r_o_tape_data x_o_tape_length p_0 = some y) (hk_0 : r_o_authorities 0 = some a_A0) (hk_1 : r_o_authorities 1 = some a_A1) (hk_2 : r_o_authorities 2 = some a_A2) (hk_3 : r_o_authorities 3 = some a_A3) : cu l yX11_authority (vs yX11_authority cX11_authority 3 (some .int)) ({ frames := 5, cells := 0, slots := 0, locals := 115 }) D q t [.ref a_o, .int p_0] [oX2 a_A0 a_A0_name a_A0_serials a_A0_since a_A0_reasons x_A0_secret x_A0_publicKey x_A0_nameHash x_A0_keyHash x_A0_issued x_A0_takenBack, oX3 a_A0_name a_A0_name_data x_A0_name_length, rB q a_A0_name_data 16 r_A0_name_data, oX2 a_A1 a_A1_name a_A1_serials a_A1_since a_A1_reasons x_A1_secret x_A1_publicKey x_A1_nameHash x_A1_keyHash x_A1_issued x_A1_takenBack, oX3 a_A1_name a_A1_name_data x_A1_name_length, rB q a_A1_name_data 16 r_A1_name_data, oX2 a_A2 a_A2_name a_A2_serials a_A2_since a_A2_reasons x_A2_secret x_A2_publicKey x_A2_nameHash x_A2_keyHash x_A2_issued x_A2_takenBack, oX3 a_A2_name a_A2_name_data x_A2_name_length, rB q a_A2_name_data 16 r_A2_name_data, oX2 a_A3 a_A3_name a_A3_serials a_A3_since a_A3_reasons x_A3_secret x_A3_publicKey x_A3_nameHash x_A3_keyHash x_A3_issued x_A3_takenBack, oX3 a_A3_name a_A3_name_data x_A3_name_length, rB q a_A3_name_data 16 r_A3_name_data, oX11 a_o a_o_tape a_o_out a_o_ownNonce a_o_authorities a_o_signers a_o_shelf a_o_latest a_o_wanted a_o_scan a_o_askText a_o_answerText x_o_authorityCount x_o_signerCount x_o_heldCount x_o_rightAnswers x_o_otherAnswers x_o_looks x_o_latestVerdict x_o_findToHold, rO q 3 a_o_authorities 4 r_o_authorities, oX3 a_o_tape a_o_tape_data x_o_tape_length, rB q a_o_tape_data 1500 r_o_tape_data] (qI D q y.1 [oX2 a_A0 a_A0_name a_A0_serials a_A0_since a_A0_reasons y.2.2.2.2.2.2.1 y.2.2.2.2.2.1 y.2.2.2.2.1 y.2.1 x_A0_issued x_A0_takenBack, oX3 a_A0_name a_A0_name_data y.2.2.2.1, rB q a_A0_name_data 16 y.2.2.1, oX2 a_A1 a_A1_name a_A1_serials a_A1_since a_A1_reasons y.2.2.2.2.2.2.2.2.2.2.2.2.1 y.2.2.2.2.2.2.2.2.2.2.2.1 y.2.2.2.2.2.2.2.2.2.2.1 y.2.2.2.2.2.2.2.1 x_A1_issued x_A1_takenBack, oX3 a_A1_name a_A1_name_data y.2.2.2.2.2.2.2.2.2.1, rB q a_A1_name_data 16 y.2.2.2.2.2.2.2.2.1, oX2 a_A2 a_A2_name a_A2_serials a_A2_since a_A2_reasons y.2.2.2.2.2.2.2.2.2.2.2.2.2.2.2.2.2.2.1 y.2.2.2.2.2.2.2.2.2.2.2.2.2.2.2.2.2.1 y.2.2.2.2.2.2.2.2.2.2.2.2.2.2.2.2.1 y.2.2.2.2.2.2.2.2.2.2.2.2.2.1 x_A2_issued x_A2_takenBack, oX3 a_A2_name a_A2_name_data y.2.2.2.2.2.2.2.2.2.2.2.2.2.2.2.1, rB q a_A2_name_data 16 y.2.2.2.2.2.2.2.2.2.2.2.2.2.2.1, oX2 a_A3 a_A3_name a_A3_serials a_A3_since a_A3_reasons y.2.2.2.2.2.2.2.2.2.2.2.2.2.2.2.2.2.2.2.2.2.2.2.2.1 y.2.2.2.2.2.2.2.2.2.2.2.2.2.2.2.2.2.2.2.2.2.2.2.1 y.2.2.2.2.2.2.2.2.2.2.2.2.2.2.2.2.2.2.2.2.2.2.1 y.2.2.2.2.2.2.2.2.2.2.2.2.2.2.2.2.2.2.2.1 x_A3_issued x_A3_takenBack, oX3 a_A3_name a_A3_name_data y.2.2.2.2.2.2.2.2.2.2.2.2.2.2.2.2.2.2.2.2.2.1, rB q a_A3_name_data 16 y.2.2.2.2.2.2.2.2.2.2.2.2.2.2.2.2.2.2.2.2.1, oX11 a_o a_o_tape a_o_out a_o_ownNonce a_o_authorities a_o_signers a_o_shelf a_o_latest a_o_wanted a_o_scan a_o_askText a_o_answerText y.2.2.2.2.2.2.2.2.2.2.2.2.2.2.2.2.2.2.2.2.2.2.2.2.2.1 x_o_signerCount x_o_heldCount x_o_rightAnswers x_o_otherAnswers x_o_looks x_o_latestVerdict x_o_findToHold, rO q 3 a_o_authorities 4 r_o_authorities, oX3 a_o_tape a_o_tape_data y.2.2.2.2.2.2.2.2.2.2.2.2.2.2.2.2.2.2.2.2.2.2.2.2.2.2, rB q a_o_tape_data 1500 r_o_tape_data]) := by
  refine cu_of (cc := cX11_authority) (nL := 3) (ret := (some .int)) (by decide) (Nat.le_of_ble_eq_true rfl) (fun {p e s m args below meth c A} C0 H locs ls hP hD hS hl => ?_)
  have C0 : cy p s m args meth c cX11_authority (some .int) 3 RX11 D q t A := C0
  obtain ⟨⟨hx, hb, hr, hml, hown, hts, hlocks, hK, hA⟩, hG⟩ := id C0
  have hl : lv_has ls 3 [(0, .ref a_o), (1, .int p_0)] := hl
  unfold f_de_authority at hF
  refine lv_aload_n hx hb dX11_authority_0 rfl (lv_at hl 0 rfl) ?_
  refine lv_iload_n hx hb dX11_authority_1 rfl (lv_at hl 1 rfl) ?_
  obtain ⟨y_1, hy_1, hF⟩ := cal_d hF
  refine cf_i C0.1 hP hD hS [0, 1, 2, 3, 4, 5, 6, 7, 8, 9, 10, 11, 12, 13, 14, 15] [] [0, 1, 2, 3, 4, 5, 6, 7, 8, 9, 10, 11, 12, 13, 14, 15] (wr := []) (w' := [oX2 a_A0 a_A0_name a_A0_serials a_A0_since a_A0_reasons y_1.2.2.2.2.2.2.1 y_1.2.2.2.2.2.1 y_1.2.2.2.2.1 y_1.2.1 x_A0_issued x_A0_takenBack, oX3 a_A0_name a_A0_name_data y_1.2.2.2.1, rB q a_A0_name_data 16 y_1.2.2.1, oX2 a_A1 a_A1_name a_A1_serials a_A1_since a_A1_reasons y_1.2.2.2.2.2.2.2.2.2.2.2.2.1 y_1.2.2.2.2.2.2.2.2.2.2.2.1 y_1.2.2.2.2.2.2.2.2.2.2.1 y_1.2.2.2.2.2.2.2.1 x_A1_issued x_A1_takenBack, oX3 a_A1_name a_A1_name_data y_1.2.2.2.2.2.2.2.2.2.1, rB q a_A1_name_data 16 y_1.2.2.2.2.2.2.2.2.1, oX2 a_A2 a_A2_name a_A2_serials a_A2_since a_A2_reasons y_1.2.2.2.2.2.2.2.2.2.2.2.2.2.2.2.2.2.2.1 y_1.2.2.2.2.2.2.2.2.2.2.2.2.2.2.2.2.2.1 y_1.2.2.2.2.2.2.2.2.2.2.2.2.2.2.2.2.1 y_1.2.2.2.2.2.2.2.2.2.2.2.2.2.1 x_A2_issued x_A2_takenBack, oX3 a_A2_name a_A2_name_data y_1.2.2.2.2.2.2.2.2.2.2.2.2.2.2.2.1, rB q a_A2_name_data 16 y_1.2.2.2.2.2.2.2.2.2.2.2.2.2.2.1, oX2 a_A3 a_A3_name a_A3_serials a_A3_since a_A3_reasons y_1.2.2.2.2.2.2.2.2.2.2.2.2.2.2.2.2.2.2.2.2.2.2.2.2.1 y_1.2.2.2.2.2.2.2.2.2.2.2.2.2.2.2.2.2.2.2.2.2.2.2.1 y_1.2.2.2.2.2.2.2.2.2.2.2.2.2.2.2.2.2.2.2.2.2.2.1 y_1.2.2.2.2.2.2.2.2.2.2.2.2.2.2.2.2.2.2.2.1 x_A3_issued x_A3_takenBack, oX3 a_A3_name a_A3_name_data y_1.2.2.2.2.2.2.2.2.2.2.2.2.2.2.2.2.2.2.2.2.2.1, rB q a_A3_name_data 16 y_1.2.2.2.2.2.2.2.2.2.2.2.2.2.2.2.2.2.2.2.2.1, oX11 a_o a_o_tape a_o_out a_o_ownNonce a_o_authorities a_o_signers a_o_shelf a_o_latest a_o_wanted a_o_scan a_o_askText a_o_answerText y_1.2.2.2.2.2.2.2.2.2.2.2.2.2.2.2.2.2.2.2.2.2.2.2.2.2 x_o_signerCount x_o_heldCount x_o_rightAnswers x_o_otherAnswers x_o_looks x_o_latestVerdict x_o_findToHold, rO q 3 a_o_authorities 4 r_o_authorities, oX3 a_o_tape a_o_tape_data x_o_tape_length, rB q a_o_tape_data 1500 r_o_tape_data]) rfl rfl rfl (by decide) rfl rfl (sn_V (As := [.int p_0]) (rest := []) (ci := 9) (q0 := 12) C0 (c_de_newAuthority l D q t a_A0 a_A0_serials a_A0_since a_A0_reasons x_A0_secret x_A0_publicKey x_A0_nameHash x_A0_keyHash x_A0_issued x_A0_takenBack a_A0_name x_A0_name_length a_A0_name_data r_A0_name_data a_A1 a_A1_serials a_A1_since a_A1_reasons x_A1_secret x_A1_publicKey x_A1_nameHash x_A1_keyHash x_A1_issued x_A1_takenBack a_A1_name x_A1_name_length a_A1_name_data r_A1_name_data a_A2 a_A2_serials a_A2_since a_A2_reasons x_A2_secret x_A2_publicKey x_A2_nameHash x_A2_keyHash x_A2_issued x_A2_takenBack a_A2_name x_A2_name_length a_A2_name_data r_A2_name_data a_A3 a_A3_serials a_A3_since a_A3_reasons x_A3_secret x_A3_publicKey x_A3_nameHash x_A3_keyHash x_A3_issued x_A3_takenBack a_A3_name x_A3_name_length a_A3_name_data r_A3_name_data a_o a_o_out a_o_ownNonce a_o_signers a_o_shelf a_o_latest a_o_wanted a_o_scan a_o_askText a_o_answerText x_o_authorityCount x_o_signerCount x_o_heldCount x_o_rightAnswers x_o_otherAnswers x_o_looks x_o_latestVerdict x_o_findToHold a_o_authorities r_o_authorities a_o_tape x_o_tape_length a_o_tape_data r_o_tape_data p_0 y_1 hy_1 hk_0 hk_1 hk_2 hk_3) (cwV 1 hts (g_V kw_571 kw_573 kw_0 kw_72 kw_574) rfl rfl rfl hd_X11_newAuthority ⟨Nat.le_of_ble_eq_true rfl, Nat.le_of_ble_eq_true rfl⟩) hP hD hS [0, 1, 2, 3, 4, 5, 6, 7, 8, 9, 10, 11, 12, 13, 14, 15] rfl rfl rfl rfl rfl rfl hl (Nat.le_of_ble_eq_true rfl) dX11_authority_2) (fun H locs hP hD hS => ?_)
  refine lv_topi (fun v2_2 e_v2_2 => ?_)
  replace hF := bnd_d hF e_v2_2
  refine lv_istore_n (lv' := [(2, .int v2_2), (0, .ref a_o), (1, .int p_0)]) hx hb dX11_authority_5 rfl hl (by decide) rfl (fun ls hl => ?_)
  refine lv_aload_n hx hb dX11_authority_6 rfl (lv_at hl 1 rfl) ?_
  refine va_get (D := D) (ci := 9) (v := .ref a_o_tape) (C := RX11) (T := TX11) (N := 19) hx hb hts iw_X11 hown hK hP 12 rfl rfl 0 (by decide) (hts _ kw_460) (fun _ h9 => h9) rfl dX11_authority_7 ?_
  obtain ⟨y_3, hy_3, hF⟩ := cal_d hF
  refine cf_v C0.1 hP hD hS [14] [0, 1, 2, 3, 4, 5, 6, 7, 8, 9, 10, 11, 12, 13, 15] [0, 1, 2, 3, 4, 5, 6, 7, 8, 9, 10, 11, 12, 13, 15, 14] (wr := [oX2 a_A0 a_A0_name a_A0_serials a_A0_since a_A0_reasons y_1.2.2.2.2.2.2.1 y_1.2.2.2.2.2.1 y_1.2.2.2.2.1 y_1.2.1 x_A0_issued x_A0_takenBack, oX3 a_A0_name a_A0_name_data y_1.2.2.2.1, rB q a_A0_name_data 16 y_1.2.2.1, oX2 a_A1 a_A1_name a_A1_serials a_A1_since a_A1_reasons y_1.2.2.2.2.2.2.2.2.2.2.2.2.1 y_1.2.2.2.2.2.2.2.2.2.2.2.1 y_1.2.2.2.2.2.2.2.2.2.2.1 y_1.2.2.2.2.2.2.2.1 x_A1_issued x_A1_takenBack, oX3 a_A1_name a_A1_name_data y_1.2.2.2.2.2.2.2.2.2.1, rB q a_A1_name_data 16 y_1.2.2.2.2.2.2.2.2.1, oX2 a_A2 a_A2_name a_A2_serials a_A2_since a_A2_reasons y_1.2.2.2.2.2.2.2.2.2.2.2.2.2.2.2.2.2.2.1 y_1.2.2.2.2.2.2.2.2.2.2.2.2.2.2.2.2.2.1 y_1.2.2.2.2.2.2.2.2.2.2.2.2.2.2.2.2.1 y_1.2.2.2.2.2.2.2.2.2.2.2.2.2.1 x_A2_issued x_A2_takenBack, oX3 a_A2_name a_A2_name_data y_1.2.2.2.2.2.2.2.2.2.2.2.2.2.2.2.1, rB q a_A2_name_data 16 y_1.2.2.2.2.2.2.2.2.2.2.2.2.2.2.1, oX2 a_A3 a_A3_name a_A3_serials a_A3_since a_A3_reasons y_1.2.2.2.2.2.2.2.2.2.2.2.2.2.2.2.2.2.2.2.2.2.2.2.2.1 y_1.2.2.2.2.2.2.2.2.2.2.2.2.2.2.2.2.2.2.2.2.2.2.2.1 y_1.2.2.2.2.2.2.2.2.2.2.2.2.2.2.2.2.2.2.2.2.2.2.1 y_1.2.2.2.2.2.2.2.2.2.2.2.2.2.2.2.2.2.2.2.1 x_A3_issued x_A3_takenBack, oX3 a_A3_name a_A3_name_data y_1.2.2.2.2.2.2.2.2.2.2.2.2.2.2.2.2.2.2.2.2.2.1, rB q a_A3_name_data 16 y_1.2.2.2.2.2.2.2.2.2.2.2.2.2.2.2.2.2.2.2.2.1, oX11 a_o a_o_tape a_o_out a_o_ownNonce a_o_authorities a_o_signers a_o_shelf a_o_latest a_o_wanted a_o_scan a_o_askText a_o_answerText y_1.2.2.2.2.2.2.2.2.2.2.2.2.2.2.2.2.2.2.2.2.2.2.2.2.2 x_o_signerCount x_o_heldCount x_o_rightAnswers x_o_otherAnswers x_o_looks x_o_latestVerdict x_o_findToHold, rO q 3 a_o_authorities 4 r_o_authorities, rB q a_o_tape_data 1500 r_o_tape_data]) (w' := [oX2 a_A0 a_A0_name a_A0_serials a_A0_since a_A0_reasons y_1.2.2.2.2.2.2.1 y_1.2.2.2.2.2.1 y_1.2.2.2.2.1 y_1.2.1 x_A0_issued x_A0_takenBack, oX3 a_A0_name a_A0_name_data y_1.2.2.2.1, rB q a_A0_name_data 16 y_1.2.2.1, oX2 a_A1 a_A1_name a_A1_serials a_A1_since a_A1_reasons y_1.2.2.2.2.2.2.2.2.2.2.2.2.1 y_1.2.2.2.2.2.2.2.2.2.2.2.1 y_1.2.2.2.2.2.2.2.2.2.2.1 y_1.2.2.2.2.2.2.2.1 x_A1_issued x_A1_takenBack, oX3 a_A1_name a_A1_name_data y_1.2.2.2.2.2.2.2.2.2.1, rB q a_A1_name_data 16 y_1.2.2.2.2.2.2.2.2.1, oX2 a_A2 a_A2_name a_A2_serials a_A2_since a_A2_reasons y_1.2.2.2.2.2.2.2.2.2.2.2.2.2.2.2.2.2.2.1 y_1.2.2.2.2.2.2.2.2.2.2.2.2.2.2.2.2.2.1 y_1.2.2.2.2.2.2.2.2.2.2.2.2.2.2.2.2.1 y_1.2.2.2.2.2.2.2.2.2.2.2.2.2.1 x_A2_issued x_A2_takenBack, oX3 a_A2_name a_A2_name_data y_1.2.2.2.2.2.2.2.2.2.2.2.2.2.2.2.1, rB q a_A2_name_data 16 y_1.2.2.2.2.2.2.2.2.2.2.2.2.2.2.1, oX2 a_A3 a_A3_name a_A3_serials a_A3_since a_A3_reasons y_1.2.2.2.2.2.2.2.2.2.2.2.2.2.2.2.2.2.2.2.2.2.2.2.2.1 y_1.2.2.2.2.2.2.2.2.2.2.2.2.2.2.2.2.2.2.2.2.2.2.2.1 y_1.2.2.2.2.2.2.2.2.2.2.2.2.2.2.2.2.2.2.2.2.2.2.1 y_1.2.2.2.2.2.2.2.2.2.2.2.2.2.2.2.2.2.2.2.1 x_A3_issued x_A3_takenBack, oX3 a_A3_name a_A3_name_data y_1.2.2.2.2.2.2.2.2.2.2.2.2.2.2.2.2.2.2.2.2.2.1, rB q a_A3_name_data 16 y_1.2.2.2.2.2.2.2.2.2.2.2.2.2.2.2.2.2.2.2.2.1, oX11 a_o a_o_tape a_o_out a_o_ownNonce a_o_authorities a_o_signers a_o_shelf a_o_latest a_o_wanted a_o_scan a_o_askText a_o_answerText y_1.2.2.2.2.2.2.2.2.2.2.2.2.2.2.2.2.2.2.2.2.2.2.2.2.2 x_o_signerCount x_o_heldCount x_o_rightAnswers x_o_otherAnswers x_o_looks x_o_latestVerdict x_o_findToHold, rO q 3 a_o_authorities 4 r_o_authorities, oX3 a_o_tape a_o_tape_data y_3, rB q a_o_tape_data 1500 r_o_tape_data]) rfl rfl rfl (by decide) rfl rfl (sn_V (As := []) (rest := []) (ci := 3) (q0 := 14) C0 (c_by_clear l D q t a_o_tape a_o_tape_data x_o_tape_length  y_3 hy_3) (cwV 0 hts (g_V kw_621 kw_539 kw_540 kw_73 kw_541) rfl rfl rfl hd_X3_clear ⟨Nat.le_of_ble_eq_true rfl, Nat.le_of_ble_eq_true rfl⟩) hP hD hS [14] rfl rfl rfl rfl rfl rfl hl (Nat.le_of_ble_eq_true rfl) dX11_authority_10) (fun H locs hP hD hS => ?_)
  refine lv_iload_n hx hb dX11_authority_13 rfl (lv_at hl 0 rfl) ?_
  have hy9 := (Option.some.inj hF).symm
  subst hy9
  exact rt_i C0.1 hP hD hS dX11_authority_14
set_option maxHeartbeats 4000000 in
set_option maxRecDepth 100000 in
theorem c_de_issue (l : Launch) (D : va_G) (q : Nat → ClassId) (t : Nat) (a_A : Nat) (a_A_name : Nat) (a_A_reasons : Nat) (x_A_secret : Int32) (x_A_publicKey : Int32) (x_A_nameHash : Int64) (x_A_keyHash : Int64) (x_A_issued : Int32) (x_A_takenBack : Int32) (a_A_serials : Nat) (r_A_serials : (Nat → Int32)) (a_A_since : Nat) (r_A_since : (Nat → Int64)) (a_o : Nat) (a_o_tape : Nat) (a_o_out : Nat) (a_o_ownNonce : Nat) (a_o_signers : Nat) (a_o_shelf : Nat) (a_o_latest : Nat) (a_o_wanted : Nat) (a_o_scan : Nat) (a_o_askText : Nat) (a_o_answerText : Nat) (x_o_authorityCount : Int32) (x_o_signerCount : Int32) (x_o_heldCount : Int32) (x_o_rightAnswers : Int32) (x_o_otherAnswers : Int32) (x_o_looks : Int32) (x_o_latestVerdict : Int32) (x_o_findToHold : Int32) (a_o_authorities : Nat) (r_o_authorities : (Nat → Option Nat)) (p_0 : Int32) (p_1 : Int32) (y : Int32 × Int32 × (Nat → Int32) × (Nat → Int64)) (hF : f_de_issue x_A_issued r_A_serials r_A_since x_o_authorityCount p_0 p_1 = some y) (hq_1 : (0 ≤ p_0 ∧ p_0 < x_o_authorityCount) → r_o_authorities p_0.toNatClampNeg = some a_A) : cu l yX11_issue (vs yX11_issue cX11_issue 4 (some .int)) ({ frames := 2, cells := 0, slots := 0, locals := 43 }) D q t [.ref a_o, .int p_0, .int p_1] [oX2 a_A a_A_name a_A_serials a_A_since a_A_reasons x_A_secret x_A_publicKey x_A_nameHash x_A_keyHash x_A_issued x_A_takenBack, rI q a_A_serials 32 r_A_serials, rJ q a_A_since 32 r_A_since, oX11 a_o a_o_tape a_o_out a_o_ownNonce a_o_authorities a_o_signers a_o_shelf a_o_latest a_o_wanted a_o_scan a_o_askText a_o_answerText x_o_authorityCount x_o_signerCount x_o_heldCount x_o_rightAnswers x_o_otherAnswers x_o_looks x_o_latestVerdict x_o_findToHold, rO q 3 a_o_authorities 4 r_o_authorities] (qI D q y.1 [oX2 a_A a_A_name a_A_serials a_A_since a_A_reasons x_A_secret x_A_publicKey x_A_nameHash x_A_keyHash y.2.1 x_A_takenBack, rI q a_A_serials 32 y.2.2.1, rJ q a_A_since 32 y.2.2.2, oX11 a_o a_o_tape a_o_out a_o_ownNonce a_o_authorities a_o_signers a_o_shelf a_o_latest a_o_wanted a_o_scan a_o_askText a_o_answerText x_o_authorityCount x_o_signerCount x_o_heldCount x_o_rightAnswers x_o_otherAnswers x_o_looks x_o_latestVerdict x_o_findToHold, rO q 3 a_o_authorities 4 r_o_authorities]) := by
  refine cu_of (cc := cX11_issue) (nL := 4) (ret := (some .int)) (by decide) (Nat.le_of_ble_eq_true rfl) (fun {p e s m args below meth c A} C0 H locs ls hP hD hS hl => ?_)
  have C0 : cy p s m args meth c cX11_issue (some .int) 4 RX11 D q t A := C0
  obtain ⟨⟨hx, hb, hr, hml, hown, hts, hlocks, hK, hA⟩, hG⟩ := id C0
  have hl : lv_has ls 4 [(0, .ref a_o), (1, .int p_0), (2, .int p_1)] := hl
  unfold f_de_issue at hF
  refine lv_aload_n hx hb dX11_issue_0 rfl (lv_at hl 0 rfl) ?_
  refine lv_iload_n hx hb dX11_issue_1 rfl (lv_at hl 1 rfl) ?_
  by_cases c_1 : 0 ≤ p_0 ∧ p_0 < x_o_authorityCount
  · replace hF := ite_t hF c_1
    obtain ⟨z_2, hF⟩ := chk_d hF
    refine cf_r C0.1 hP hD hS [3, 4] [0, 1, 2] [0, 1, 2, 3, 4] (wr := [oX2 a_A a_A_name a_A_serials a_A_since a_A_reasons x_A_secret x_A_publicKey x_A_nameHash x_A_keyHash x_A_issued x_A_takenBack, rI q a_A_serials 32 r_A_serials, rJ q a_A_since 32 r_A_since]) (w' := [oX2 a_A a_A_name a_A_serials a_A_since a_A_reasons x_A_secret x_A_publicKey x_A_nameHash x_A_keyHash x_A_issued x_A_takenBack, rI q a_A_serials 32 r_A_serials, rJ q a_A_since 32 r_A_since, oX11 a_o a_o_tape a_o_out a_o_ownNonce a_o_authorities a_o_signers a_o_shelf a_o_latest a_o_wanted a_o_scan a_o_askText a_o_answerText x_o_authorityCount x_o_signerCount x_o_heldCount x_o_rightAnswers x_o_otherAnswers x_o_looks x_o_latestVerdict x_o_findToHold, rO q 3 a_o_authorities 4 r_o_authorities]) rfl rfl rfl (by decide) rfl rfl (sn_V (As := [.int p_0]) (rest := []) (ci := 9) (q0 := 3) C0 (c_de_authorityAt_r l D q t a_o a_o_tape a_o_out a_o_ownNonce a_o_authorities a_o_signers a_o_shelf a_o_latest a_o_wanted a_o_scan a_o_askText a_o_answerText x_o_authorityCount x_o_signerCount x_o_heldCount x_o_rightAnswers x_o_otherAnswers x_o_looks x_o_latestVerdict x_o_findToHold r_o_authorities p_0 a_A c_1.1 c_1.2 z_2 (hq_1 c_1)) (cwV 1 hts (g_V kw_626 kw_628 kw_1 kw_72 kw_629) rfl rfl rfl hd_X11_authorityAt ⟨Nat.le_of_ble_eq_true rfl, Nat.le_of_ble_eq_true rfl⟩) hP hD hS [3, 4] rfl rfl rfl rfl rfl rfl hl (Nat.le_of_ble_eq_true rfl) dX11_issue_2) (fun H locs hP hD hS => ?_)
    refine lv_astore_n (lv' := [(3, .ref a_A), (0, .ref a_o), (1, .int p_0), (2, .int p_1)]) hx hb dX11_issue_5 rfl hl (by decide) rfl (fun ls hl => ?_)
    refine lv_aload_n hx hb dX11_issue_6 rfl (lv_at hl 0 rfl) ?_
    refine lv_ifnull hx hb dX11_issue_7 ?_
    refine lv_iload_n hx hb dX11_issue_10 rfl (lv_at hl 3 rfl) ?_
    refine lv_if_ge (tgt := 17) hx hb dX11_issue_11 (by decide) (fun c_3 => ?_) (fun c_3 => ?_)
    · replace hF := ite_t hF c_3
      refine lv_aload_n hx hb dX11_issue_17 rfl (lv_at hl 0 rfl) ?_
      refine lv_iload_n hx hb dX11_issue_18 rfl (lv_at hl 3 rfl) ?_
      obtain ⟨y_4, hy_4, hF⟩ := cal_d hF
      refine cf_i C0.1 hP hD hS [0, 1] [2, 3, 4] [3, 4, 0, 1, 2] (wr := [rJ q a_A_since 32 r_A_since, oX11 a_o a_o_tape a_o_out a_o_ownNonce a_o_authorities a_o_signers a_o_shelf a_o_latest a_o_wanted a_o_scan a_o_askText a_o_answerText x_o_authorityCount x_o_signerCount x_o_heldCount x_o_rightAnswers x_o_otherAnswers x_o_looks x_o_latestVerdict x_o_findToHold, rO q 3 a_o_authorities 4 r_o_authorities]) (w' := [oX2 a_A a_A_name a_A_serials a_A_since a_A_reasons x_A_secret x_A_publicKey x_A_nameHash x_A_keyHash x_A_issued x_A_takenBack, rI q a_A_serials 32 r_A_serials, rJ q a_A_since 32 r_A_since, oX11 a_o a_o_tape a_o_out a_o_ownNonce a_o_authorities a_o_signers a_o_shelf a_o_latest a_o_wanted a_o_scan a_o_askText a_o_answerText x_o_authorityCount x_o_signerCount x_o_heldCount x_o_rightAnswers x_o_otherAnswers x_o_looks x_o_latestVerdict x_o_findToHold, rO q 3 a_o_authorities 4 r_o_authorities]) rfl rfl rfl (by decide) rfl rfl (sn_V (As := [.int p_1]) (rest := []) (ci := 2) (q0 := 0) C0 (c_au_placeOf l D q t a_A a_A_name a_A_since a_A_reasons x_A_secret x_A_publicKey x_A_nameHash x_A_keyHash x_A_issued x_A_takenBack a_A_serials r_A_serials p_1 y_4 hy_4) (cwV 1 hts (g_V kw_630 kw_631 kw_632 kw_81 kw_633) rfl rfl rfl hd_X2_placeOf ⟨Nat.le_of_ble_eq_true rfl, Nat.le_of_ble_eq_true rfl⟩) hP hD hS [0, 1] rfl rfl rfl rfl rfl rfl hl (Nat.le_of_ble_eq_true rfl) dX11_issue_19) (fun H locs hP hD hS => ?_)
      refine lv_iconst (v := (-1 : Int32)) hx hb dX11_issue_22 (by decide) ?_
      refine lv_icmp_ne (tgt := 35) hx hb dX11_issue_23 (by decide) (fun c_5 => ?_) (fun c_5 => ?_)
      · replace hF := ite_f hF c_5
        refine lv_bipush (v := (-3 : Int32)) hx hb dX11_issue_35 (by decide) ?_
        have hy9 := (Option.some.inj hF).symm
        subst hy9
        exact rt_i C0.1 hP hD hS dX11_issue_37
      · replace hF := ite_t hF c_5
        refine lv_aload_n hx hb dX11_issue_26 rfl (lv_at hl 0 rfl) ?_
        refine va_get (D := D) (ci := 2) (v := .int x_A_issued) (C := RX2) (T := TX2) (N := 10) hx hb hts iw_X2 hown hK hP 0 rfl rfl 8 (by decide) (hts _ kw_409) (fun _ h9 => h9) rfl dX11_issue_27 ?_
        refine lv_bipush (v := (32 : Int32)) hx hb dX11_issue_30 (by decide) ?_
        refine lv_icmp_lt (tgt := 38) hx hb dX11_issue_32 (by decide) (fun c_6 => ?_) (fun c_6 => ?_)
        · replace hF := ite_t hF c_6
          refine lv_aload_n hx hb dX11_issue_38 rfl (lv_at hl 0 rfl) ?_
          refine lv_iload_n hx hb dX11_issue_39 rfl (lv_at hl 3 rfl) ?_
          obtain ⟨y_7, hy_7, hF⟩ := cal_d hF
          refine cf_v C0.1 hP hD hS [0, 1, 2] [3, 4] [2, 3, 4, 0, 1] (wr := [oX11 a_o a_o_tape a_o_out a_o_ownNonce a_o_authorities a_o_signers a_o_shelf a_o_latest a_o_wanted a_o_scan a_o_askText a_o_answerText x_o_authorityCount x_o_signerCount x_o_heldCount x_o_rightAnswers x_o_otherAnswers x_o_looks x_o_latestVerdict x_o_findToHold, rO q 3 a_o_authorities 4 r_o_authorities]) (w' := [oX2 a_A a_A_name a_A_serials a_A_since a_A_reasons x_A_secret x_A_publicKey x_A_nameHash x_A_keyHash y_7.1 x_A_takenBack, rI q a_A_serials 32 y_7.2.1, rJ q a_A_since 32 y_7.2.2, oX11 a_o a_o_tape a_o_out a_o_ownNonce a_o_authorities a_o_signers a_o_shelf a_o_latest a_o_wanted a_o_scan a_o_askText a_o_answerText x_o_authorityCount x_o_signerCount x_o_heldCount x_o_rightAnswers x_o_otherAnswers x_o_looks x_o_latestVerdict x_o_findToHold, rO q 3 a_o_authorities 4 r_o_authorities]) rfl rfl rfl (by decide) rfl rfl (sn_V (As := [.int p_1]) (rest := []) (ci := 2) (q0 := 0) C0 (c_au_enlist l D q t a_A a_A_name a_A_reasons x_A_secret x_A_publicKey x_A_nameHash x_A_keyHash x_A_issued x_A_takenBack a_A_serials r_A_serials a_A_since r_A_since p_1 y_7 hy_7) (cwV 1 hts (g_V kw_634 kw_635 kw_636 kw_81 kw_637) rfl rfl rfl hd_X2_enlist ⟨Nat.le_of_ble_eq_true rfl, Nat.le_of_ble_eq_true rfl⟩) hP hD hS [0, 1, 2] rfl rfl rfl rfl rfl rfl hl (Nat.le_of_ble_eq_true rfl) dX11_issue_40) (fun H locs hP hD hS => ?_)
          refine lv_aload_n hx hb dX11_issue_43 rfl (lv_at hl 0 rfl) ?_
          refine va_get (D := D) (ci := 2) (v := .int y_7.1) (C := RX2) (T := TX2) (N := 10) hx hb hts iw_X2 hown hK hP 0 rfl rfl 8 (by decide) (hts _ kw_409) (fun _ h9 => h9) rfl dX11_issue_44 ?_
          have hy9 := (Option.some.inj hF).symm
          subst hy9
          exact rt_i C0.1 hP hD hS dX11_issue_47
        · replace hF := ite_f hF c_6
          refine lv_bipush (v := (-3 : Int32)) hx hb dX11_issue_35 (by decide) ?_
          have hy9 := (Option.some.inj hF).symm
          subst hy9
          exact rt_i C0.1 hP hD hS dX11_issue_37
    · replace hF := ite_f hF c_3
      refine lv_bipush (v := (-2 : Int32)) hx hb dX11_issue_14 (by decide) ?_
      have hy9 := (Option.some.inj hF).symm
      subst hy9
      exact rt_i C0.1 hP hD hS dX11_issue_16
  · replace hF := ite_f hF c_1
    refine cf_n C0.1 hP hD hS [3, 4] [0, 1, 2] [0, 1, 2, 3, 4] (wr := [oX2 a_A a_A_name a_A_serials a_A_since a_A_reasons x_A_secret x_A_publicKey x_A_nameHash x_A_keyHash x_A_issued x_A_takenBack, rI q a_A_serials 32 r_A_serials, rJ q a_A_since 32 r_A_since]) (w' := [oX2 a_A a_A_name a_A_serials a_A_since a_A_reasons x_A_secret x_A_publicKey x_A_nameHash x_A_keyHash x_A_issued x_A_takenBack, rI q a_A_serials 32 r_A_serials, rJ q a_A_since 32 r_A_since, oX11 a_o a_o_tape a_o_out a_o_ownNonce a_o_authorities a_o_signers a_o_shelf a_o_latest a_o_wanted a_o_scan a_o_askText a_o_answerText x_o_authorityCount x_o_signerCount x_o_heldCount x_o_rightAnswers x_o_otherAnswers x_o_looks x_o_latestVerdict x_o_findToHold, rO q 3 a_o_authorities 4 r_o_authorities]) rfl rfl rfl (by decide) rfl rfl (sn_V (As := [.int p_0]) (rest := []) (ci := 9) (q0 := 3) C0 (c_de_authorityAt_n l D q t a_o a_o_tape a_o_out a_o_ownNonce a_o_authorities a_o_signers a_o_shelf a_o_latest a_o_wanted a_o_scan a_o_askText a_o_answerText x_o_authorityCount x_o_signerCount x_o_heldCount x_o_rightAnswers x_o_otherAnswers x_o_looks x_o_latestVerdict x_o_findToHold r_o_authorities p_0 c_1) (cwV 1 hts (g_V kw_626 kw_628 kw_1 kw_72 kw_629) rfl rfl rfl hd_X11_authorityAt ⟨Nat.le_of_ble_eq_true rfl, Nat.le_of_ble_eq_true rfl⟩) hP hD hS [3, 4] rfl rfl rfl rfl rfl rfl hl (Nat.le_of_ble_eq_true rfl) dX11_issue_2) (fun H locs hP hD hS => ?_)
    refine lv_astore_nN (lv' := [(3, .null), (0, .ref a_o), (1, .int p_0), (2, .int p_1)]) hx hb dX11_issue_5 rfl hl (by decide) rfl (fun ls hl => ?_)
    refine lv_aload_nN hx hb dX11_issue_6 rfl (lv_at hl 0 rfl) ?_
    refine lv_ifnullN (tgt := 14) hx hb dX11_issue_7 (by decide) ?_
    refine lv_bipush (v := (-2 : Int32)) hx hb dX11_issue_14 (by decide) ?_
    have hy9 := (Option.some.inj hF).symm
    subst hy9
    exact rt_i C0.1 hP hD hS dX11_issue_16
set_option maxHeartbeats 4000000 in
set_option maxRecDepth 100000 in
theorem c_de_takeBack (l : Launch) (D : va_G) (q : Nat → ClassId) (t : Nat) (a_A : Nat) (a_A_name : Nat) (x_A_secret : Int32) (x_A_publicKey : Int32) (x_A_nameHash : Int64) (x_A_keyHash : Int64) (x_A_issued : Int32) (x_A_takenBack : Int32) (a_A_reasons : Nat) (r_A_reasons : (Nat → Int32)) (a_A_serials : Nat) (r_A_serials : (Nat → Int32)) (a_A_since : Nat) (r_A_since : (Nat → Int64)) (a_o : Nat) (a_o_tape : Nat) (a_o_out : Nat) (a_o_ownNonce : Nat) (a_o_signers : Nat) (a_o_shelf : Nat) (a_o_latest : Nat) (a_o_wanted : Nat) (a_o_scan : Nat) (a_o_askText : Nat) (a_o_answerText : Nat) (x_o_authorityCount : Int32) (x_o_signerCount : Int32) (x_o_heldCount : Int32) (x_o_rightAnswers : Int32) (x_o_otherAnswers : Int32) (x_o_looks : Int32) (x_o_latestVerdict : Int32) (x_o_findToHold : Int32) (a_o_authorities : Nat) (r_o_authorities : (Nat → Option Nat)) (p_0 : Int32) (p_1 : Int32) (p_2 : Int64) (p_3 : Int32) (y : Int32 × (Nat → Int32) × (Nat → Int64) × Int32) (hF : f_de_takeBack x_A_issued r_A_reasons r_A_serials r_A_since x_A_takenBack x_o_authorityCount p_0 p_1 p_2 p_3 = some y) (hq_1 : (0 ≤ p_0 ∧ p_0 < x_o_authorityCount) → r_o_authorities p_0.toNatClampNeg = some a_A) : cu l yX11_takeBack (vs yX11_takeBack cX11_takeBack 8 (some .int)) ({ frames := 1, cells := 0, slots := 0, locals := 22 }) D q t [.ref a_o, .int p_0, .int p_1, .long p_2, .int p_3] [oX2 a_A a_A_name a_A_serials a_A_since a_A_reasons x_A_secret x_A_publicKey x_A_nameHash x_A_keyHash x_A_issued x_A_takenBack, rI q a_A_reasons 32 r_A_reasons, rI q a_A_serials 32 r_A_serials, rJ q a_A_since 32 r_A_since, oX11 a_o a_o_tape a_o_out a_o_ownNonce a_o_authorities a_o_signers a_o_shelf a_o_latest a_o_wanted a_o_scan a_o_askText a_o_answerText x_o_authorityCount x_o_signerCount x_o_heldCount x_o_rightAnswers x_o_otherAnswers x_o_looks x_o_latestVerdict x_o_findToHold, rO q 3 a_o_authorities 4 r_o_authorities] (qI D q y.1 [oX2 a_A a_A_name a_A_serials a_A_since a_A_reasons x_A_secret x_A_publicKey x_A_nameHash x_A_keyHash x_A_issued y.2.2.2, rI q a_A_reasons 32 y.2.1, rI q a_A_serials 32 r_A_serials, rJ q a_A_since 32 y.2.2.1, oX11 a_o a_o_tape a_o_out a_o_ownNonce a_o_authorities a_o_signers a_o_shelf a_o_latest a_o_wanted a_o_scan a_o_askText a_o_answerText x_o_authorityCount x_o_signerCount x_o_heldCount x_o_rightAnswers x_o_otherAnswers x_o_looks x_o_latestVerdict x_o_findToHold, rO q 3 a_o_authorities 4 r_o_authorities]) := by
  refine cu_of (cc := cX11_takeBack) (nL := 8) (ret := (some .int)) (by decide) (Nat.le_of_ble_eq_true rfl) (fun {p e s m args below meth c A} C0 H locs ls hP hD hS hl => ?_)
  have C0 : cy p s m args meth c cX11_takeBack (some .int) 8 RX11 D q t A := C0
  obtain ⟨⟨hx, hb, hr, hml, hown, hts, hlocks, hK, hA⟩, hG⟩ := id C0
  have hl : lv_has ls 8 [(0, .ref a_o), (1, .int p_0), (2, .int p_1), (3, .long p_2), (5, .int p_3)] := hl
  unfold f_de_takeBack at hF
  refine lv_aload_n hx hb dX11_takeBack_0 rfl (lv_at hl 0 rfl) ?_
  refine lv_iload_n hx hb dX11_takeBack_1 rfl (lv_at hl 1 rfl) ?_
  by_cases c_1 : 0 ≤ p_0 ∧ p_0 < x_o_authorityCount
  · replace hF := ite_t hF c_1
    obtain ⟨z_2, hF⟩ := chk_d hF
    refine cf_r C0.1 hP hD hS [4, 5] [0, 1, 2, 3] [0, 1, 2, 3, 4, 5] (wr := [oX2 a_A a_A_name a_A_serials a_A_since a_A_reasons x_A_secret x_A_publicKey x_A_nameHash x_A_keyHash x_A_issued x_A_takenBack, rI q a_A_reasons 32 r_A_reasons, rI q a_A_serials 32 r_A_serials, rJ q a_A_since 32 r_A_since]) (w' := [oX2 a_A a_A_name a_A_serials a_A_since a_A_reasons x_A_secret x_A_publicKey x_A_nameHash x_A_keyHash x_A_issued x_A_takenBack, rI q a_A_reasons 32 r_A_reasons, rI q a_A_serials 32 r_A_serials, rJ q a_A_since 32 r_A_since, oX11 a_o a_o_tape a_o_out a_o_ownNonce a_o_authorities a_o_signers a_o_shelf a_o_latest a_o_wanted a_o_scan a_o_askText a_o_answerText x_o_authorityCount x_o_signerCount x_o_heldCount x_o_rightAnswers x_o_otherAnswers x_o_looks x_o_latestVerdict x_o_findToHold, rO q 3 a_o_authorities 4 r_o_authorities]) rfl rfl rfl (by decide) rfl rfl (sn_V (As := [.int p_0]) (rest := []) (ci := 9) (q0 := 4) C0 (c_de_authorityAt_r l D q t a_o a_o_tape a_o_out a_o_ownNonce a_o_authorities a_o_signers a_o_shelf a_o_latest a_o_wanted a_o_scan a_o_askText a_o_answerText x_o_authorityCount x_o_signerCount x_o_heldCount x_o_rightAnswers x_o_otherAnswers x_o_looks x_o_latestVerdict x_o_findToHold r_o_authorities p_0 a_A c_1.1 c_1.2 z_2 (hq_1 c_1)) (cwV 1 hts (g_V kw_626 kw_628 kw_1 kw_72 kw_629) rfl rfl rfl hd_X11_authorityAt ⟨Nat.le_of_ble_eq_true rfl, Nat.le_of_ble_eq_true rfl⟩) hP hD hS [4, 5] rfl rfl rfl rfl rfl rfl hl (Nat.le_of_ble_eq_true rfl) dX11_takeBack_2) (fun H locs hP hD hS => ?_)
    refine lv_astore (lv' := [(6, .ref a_A), (0, .ref a_o), (1, .int p_0), (2, .int p_1), (3, .long p_2), (5, .int p_3)]) hx hb dX11_takeBack_5 hl (by decide) rfl (fun ls hl => ?_)
    refine lv_aload hx hb dX11_takeBack_7 (lv_at hl 0 rfl) ?_
    refine lv_ifnull hx hb dX11_takeBack_9 ?_
    refine lv_iload_n hx hb dX11_takeBack_12 rfl (lv_at hl 3 rfl) ?_
    refine lv_if_lt (tgt := 35) hx hb dX11_takeBack_13 (by decide) (fun c_3 => ?_) (fun c_3 => ?_)
    · replace hF := ite_t hF c_3
      refine lv_bipush (v := (-2 : Int32)) hx hb dX11_takeBack_35 (by decide) ?_
      have hy9 := (Option.some.inj hF).symm
      subst hy9
      exact rt_i C0.1 hP hD hS dX11_takeBack_37
    · replace hF := ite_f hF c_3
      refine lv_lload_n hx hb dX11_takeBack_16 rfl (lv_at hl 4 rfl) ?_
      obtain ⟨y_4, hy_4, hF⟩ := cal_d hF
      refine cf_i C0.1 hP hD hS [] [0, 1, 2, 3, 4, 5] [0, 1, 2, 3, 4, 5] (wr := [oX2 a_A a_A_name a_A_serials a_A_since a_A_reasons x_A_secret x_A_publicKey x_A_nameHash x_A_keyHash x_A_issued x_A_takenBack, rI q a_A_reasons 32 r_A_reasons, rI q a_A_serials 32 r_A_serials, rJ q a_A_since 32 r_A_since, oX11 a_o a_o_tape a_o_out a_o_ownNonce a_o_authorities a_o_signers a_o_shelf a_o_latest a_o_wanted a_o_scan a_o_askText a_o_answerText x_o_authorityCount x_o_signerCount x_o_heldCount x_o_rightAnswers x_o_otherAnswers x_o_looks x_o_latestVerdict x_o_findToHold, rO q 3 a_o_authorities 4 r_o_authorities]) (w' := [oX2 a_A a_A_name a_A_serials a_A_since a_A_reasons x_A_secret x_A_publicKey x_A_nameHash x_A_keyHash x_A_issued x_A_takenBack, rI q a_A_reasons 32 r_A_reasons, rI q a_A_serials 32 r_A_serials, rJ q a_A_since 32 r_A_since, oX11 a_o a_o_tape a_o_out a_o_ownNonce a_o_authorities a_o_signers a_o_shelf a_o_latest a_o_wanted a_o_scan a_o_askText a_o_answerText x_o_authorityCount x_o_signerCount x_o_heldCount x_o_rightAnswers x_o_otherAnswers x_o_looks x_o_latestVerdict x_o_findToHold, rO q 3 a_o_authorities 4 r_o_authorities]) rfl rfl rfl (by decide) rfl rfl (sn_S (As := [.long p_2]) (rest := []) C0 (c_ti_fits l D q t  p_2 y_4 hy_4) (va_cwS 1 hts (g_S kw_644 kw_645 kw_85 kw_646) rfl rfl rfl hd_X10_fits ⟨Nat.le_of_ble_eq_true rfl, Nat.le_of_ble_eq_true rfl⟩) hP hD hS [] rfl rfl rfl hl (Nat.le_of_ble_eq_true rfl) dX11_takeBack_17) (fun H locs hP hD hS => ?_)
      refine lv_if_eq (tgt := 35) hx hb dX11_takeBack_20 (by decide) (fun c_5 => ?_) (fun c_5 => ?_)
      · replace hF := ite_t hF c_5
        refine lv_bipush (v := (-2 : Int32)) hx hb dX11_takeBack_35 (by decide) ?_
        have hy9 := (Option.some.inj hF).symm
        subst hy9
        exact rt_i C0.1 hP hD hS dX11_takeBack_37
      · replace hF := ite_f hF c_5
        refine lv_iload hx hb dX11_takeBack_23 (lv_at hl 5 rfl) ?_
        refine lv_if_lt (tgt := 35) hx hb dX11_takeBack_25 (by decide) (fun c_6 => ?_) (fun c_6 => ?_)
        · replace hF := ite_t hF c_6
          refine lv_bipush (v := (-2 : Int32)) hx hb dX11_takeBack_35 (by decide) ?_
          have hy9 := (Option.some.inj hF).symm
          subst hy9
          exact rt_i C0.1 hP hD hS dX11_takeBack_37
        · replace hF := ite_f hF c_6
          refine lv_iload hx hb dX11_takeBack_28 (lv_at hl 5 rfl) ?_
          refine lv_bipush (v := (10 : Int32)) hx hb dX11_takeBack_30 (by decide) ?_
          refine lv_icmp_le (tgt := 38) hx hb dX11_takeBack_32 (by decide) (fun c_7 => ?_) (fun c_7 => ?_)
          · replace hF := ite_t hF c_7
            refine lv_aload hx hb dX11_takeBack_38 (lv_at hl 0 rfl) ?_
            refine lv_iload_n hx hb dX11_takeBack_40 rfl (lv_at hl 3 rfl) ?_
            obtain ⟨y_8, hy_8, hF⟩ := cal_d hF
            refine cf_i C0.1 hP hD hS [0, 2] [1, 3, 4, 5] [4, 0, 5, 1, 2, 3] (wr := [rI q a_A_reasons 32 r_A_reasons, rJ q a_A_since 32 r_A_since, oX11 a_o a_o_tape a_o_out a_o_ownNonce a_o_authorities a_o_signers a_o_shelf a_o_latest a_o_wanted a_o_scan a_o_askText a_o_answerText x_o_authorityCount x_o_signerCount x_o_heldCount x_o_rightAnswers x_o_otherAnswers x_o_looks x_o_latestVerdict x_o_findToHold, rO q 3 a_o_authorities 4 r_o_authorities]) (w' := [oX2 a_A a_A_name a_A_serials a_A_since a_A_reasons x_A_secret x_A_publicKey x_A_nameHash x_A_keyHash x_A_issued x_A_takenBack, rI q a_A_reasons 32 r_A_reasons, rI q a_A_serials 32 r_A_serials, rJ q a_A_since 32 r_A_since, oX11 a_o a_o_tape a_o_out a_o_ownNonce a_o_authorities a_o_signers a_o_shelf a_o_latest a_o_wanted a_o_scan a_o_askText a_o_answerText x_o_authorityCount x_o_signerCount x_o_heldCount x_o_rightAnswers x_o_otherAnswers x_o_looks x_o_latestVerdict x_o_findToHold, rO q 3 a_o_authorities 4 r_o_authorities]) rfl rfl rfl (by decide) rfl rfl (sn_V (As := [.int p_1]) (rest := []) (ci := 2) (q0 := 0) C0 (c_au_placeOf l D q t a_A a_A_name a_A_since a_A_reasons x_A_secret x_A_publicKey x_A_nameHash x_A_keyHash x_A_issued x_A_takenBack a_A_serials r_A_serials p_1 y_8 hy_8) (cwV 1 hts (g_V kw_630 kw_631 kw_632 kw_81 kw_633) rfl rfl rfl hd_X2_placeOf ⟨Nat.le_of_ble_eq_true rfl, Nat.le_of_ble_eq_true rfl⟩) hP hD hS [0, 2] rfl rfl rfl rfl rfl rfl hl (Nat.le_of_ble_eq_true rfl) dX11_takeBack_41) (fun H locs hP hD hS => ?_)
            refine lv_istore (lv' := [(7, .int y_8), (6, .ref a_A), (0, .ref a_o), (1, .int p_0), (2, .int p_1), (3, .long p_2), (5, .int p_3)]) hx hb dX11_takeBack_44 hl (by decide) rfl (fun ls hl => ?_)
            refine lv_iload hx hb dX11_takeBack_46 (lv_at hl 0 rfl) ?_
            refine lv_iconst (v := (-1 : Int32)) hx hb dX11_takeBack_48 (by decide) ?_
            refine lv_icmp_ne (tgt := 54) hx hb dX11_takeBack_49 (by decide) (fun c_9 => ?_) (fun c_9 => ?_)
            · replace hF := ite_f hF c_9
              refine lv_aload hx hb dX11_takeBack_54 (lv_at hl 1 rfl) ?_
              refine va_get (D := D) (ci := 2) (v := .ref a_A_since) (C := RX2) (T := TX2) (N := 10) hx hb hts iw_X2 hown hK hP 0 rfl rfl 2 (by decide) (hts _ kw_396) (fun _ h9 => h9) rfl dX11_takeBack_56 ?_
              refine lv_iload hx hb dX11_takeBack_59 (lv_at hl 0 rfl) ?_
              obtain ⟨z_10, hF⟩ := chk_d hF
              refine va_lald hx hb hK hP 3 2 rfl rfl z_10 dX11_takeBack_61 ?_
              refine lv_ldc2 (v := (-1 : Int64)) hx hb hown (hts _ kw_648) dX11_takeBack_62 ?_
              refine W.lcmp hx hb dX11_takeBack_65 ?_
              refine lv_if_eq (tgt := 72) hx hb dX11_takeBack_66 (by decide) (fun c_11 => ?_) (fun c_11 => ?_)
              · replace hF := ite_t hF ((lg_cmp_eq _ _).mp c_11)
                refine lv_aload hx hb dX11_takeBack_72 (lv_at hl 1 rfl) ?_
                refine va_get (D := D) (ci := 2) (v := .ref a_A_since) (C := RX2) (T := TX2) (N := 10) hx hb hts iw_X2 hown hK hP 0 rfl rfl 2 (by decide) (hts _ kw_396) (fun _ h9 => h9) rfl dX11_takeBack_74 ?_
                refine lv_iload hx hb dX11_takeBack_77 (lv_at hl 0 rfl) ?_
                refine lv_lload_n hx hb dX11_takeBack_79 rfl (lv_at hl 5 rfl) ?_
                refine va_last hx hb hK hP hD hS 3 2 rfl rfl z_10 dX11_takeBack_80 (fun H locs hP hD hS => ?_)
                obtain ⟨r_A_since_12, e_r_A_since_12⟩ : ∃ z : (Nat → Int64), z = vp_updL r_A_since y_8.toNatClampNeg p_2 := ⟨_, rfl⟩
                replace hF := bnd_d hF e_r_A_since_12
                have hP : va_P D vwCl ([oX2 a_A a_A_name a_A_serials a_A_since a_A_reasons x_A_secret x_A_publicKey x_A_nameHash x_A_keyHash x_A_issued x_A_takenBack, rI q a_A_reasons 32 r_A_reasons, rI q a_A_serials 32 r_A_serials, rJ q a_A_since 32 r_A_since_12, oX11 a_o a_o_tape a_o_out a_o_ownNonce a_o_authorities a_o_signers a_o_shelf a_o_latest a_o_wanted a_o_scan a_o_askText a_o_answerText x_o_authorityCount x_o_signerCount x_o_heldCount x_o_rightAnswers x_o_otherAnswers x_o_looks x_o_latestVerdict x_o_findToHold, rO q 3 a_o_authorities 4 r_o_authorities]) H := by rw [e_r_A_since_12]; exact hP
                have hD : va_D A ([oX2 a_A a_A_name a_A_serials a_A_since a_A_reasons x_A_secret x_A_publicKey x_A_nameHash x_A_keyHash x_A_issued x_A_takenBack, rI q a_A_reasons 32 r_A_reasons, rI q a_A_serials 32 r_A_serials, rJ q a_A_since 32 r_A_since_12, oX11 a_o a_o_tape a_o_out a_o_ownNonce a_o_authorities a_o_signers a_o_shelf a_o_latest a_o_wanted a_o_scan a_o_askText a_o_answerText x_o_authorityCount x_o_signerCount x_o_heldCount x_o_rightAnswers x_o_otherAnswers x_o_looks x_o_latestVerdict x_o_findToHold, rO q 3 a_o_authorities 4 r_o_authorities]) := by rw [e_r_A_since_12]; exact hD
                refine lv_aload hx hb dX11_takeBack_81 (lv_at hl 1 rfl) ?_
                refine va_get (D := D) (ci := 2) (v := .ref a_A_reasons) (C := RX2) (T := TX2) (N := 10) hx hb hts iw_X2 hown hK hP 0 rfl rfl 3 (by decide) (hts _ kw_398) (fun _ h9 => h9) rfl dX11_takeBack_83 ?_
                refine lv_iload hx hb dX11_takeBack_86 (lv_at hl 0 rfl) ?_
                refine lv_iload hx hb dX11_takeBack_88 (lv_at hl 6 rfl) ?_
                obtain ⟨z_13, hF⟩ := chk_d hF
                refine va_iast hx hb hK hP hD hS 1 1 rfl rfl z_13 dX11_takeBack_90 (fun H locs hP hD hS => ?_)
                obtain ⟨r_A_reasons_14, e_r_A_reasons_14⟩ : ∃ z : (Nat → Int32), z = upd r_A_reasons y_8.toNatClampNeg p_3 := ⟨_, rfl⟩
                replace hF := bnd_d hF e_r_A_reasons_14
                have hP : va_P D vwCl ([oX2 a_A a_A_name a_A_serials a_A_since a_A_reasons x_A_secret x_A_publicKey x_A_nameHash x_A_keyHash x_A_issued x_A_takenBack, rI q a_A_reasons 32 r_A_reasons_14, rI q a_A_serials 32 r_A_serials, rJ q a_A_since 32 r_A_since_12, oX11 a_o a_o_tape a_o_out a_o_ownNonce a_o_authorities a_o_signers a_o_shelf a_o_latest a_o_wanted a_o_scan a_o_askText a_o_answerText x_o_authorityCount x_o_signerCount x_o_heldCount x_o_rightAnswers x_o_otherAnswers x_o_looks x_o_latestVerdict x_o_findToHold, rO q 3 a_o_authorities 4 r_o_authorities]) H := by rw [e_r_A_reasons_14]; exact hP
                have hD : va_D A ([oX2 a_A a_A_name a_A_serials a_A_since a_A_reasons x_A_secret x_A_publicKey x_A_nameHash x_A_keyHash x_A_issued x_A_takenBack, rI q a_A_reasons 32 r_A_reasons_14, rI q a_A_serials 32 r_A_serials, rJ q a_A_since 32 r_A_since_12, oX11 a_o a_o_tape a_o_out a_o_ownNonce a_o_authorities a_o_signers a_o_shelf a_o_latest a_o_wanted a_o_scan a_o_askText a_o_answerText x_o_authorityCount x_o_signerCount x_o_heldCount x_o_rightAnswers x_o_otherAnswers x_o_looks x_o_latestVerdict x_o_findToHold, rO q 3 a_o_authorities 4 r_o_authorities]) := by rw [e_r_A_reasons_14]; exact hD
                refine lv_aload hx hb dX11_takeBack_91 (lv_at hl 1 rfl) ?_
                refine lv_dup hx hb dX11_takeBack_93 rfl ?_
                refine va_get (D := D) (ci := 2) (v := .int x_A_takenBack) (C := RX2) (T := TX2) (N := 10) hx hb hts iw_X2 hown hK hP 0 rfl rfl 9 (by decide) (hts _ kw_410) (fun _ h9 => h9) rfl dX11_takeBack_94 ?_
                refine lv_iconst (v := (1 : Int32)) hx hb dX11_takeBack_97 (by decide) ?_
                refine lv_iadd hx hb dX11_takeBack_98 ?_
                refine lv_topi (fun x_A_takenBack_15 e_x_A_takenBack_15 => ?_)
                replace hF := bnd_d hF e_x_A_takenBack_15
                refine va_put (D := D) (ci := 2) (v := .int x_A_takenBack_15) (ty := .int) (C := RX2) (T := TX2) (N := 10) hx hb hts iw_X2 tyX2 tyX2_ok nmX2 hown hK hP hD hS 0 rfl rfl 9 (by decide) (hts _ kw_410) (fun _ h9 => h9) rfl (by decide +kernel) rfl rfl (Nat.le_of_ble_eq_true rfl) dX11_takeBack_99 (fun H locs hP hD hS => ?_)
                have hP : va_P D vwCl ([oX2 a_A a_A_name a_A_serials a_A_since a_A_reasons x_A_secret x_A_publicKey x_A_nameHash x_A_keyHash x_A_issued x_A_takenBack_15, rI q a_A_reasons 32 r_A_reasons_14, rI q a_A_serials 32 r_A_serials, rJ q a_A_since 32 r_A_since_12, oX11 a_o a_o_tape a_o_out a_o_ownNonce a_o_authorities a_o_signers a_o_shelf a_o_latest a_o_wanted a_o_scan a_o_askText a_o_answerText x_o_authorityCount x_o_signerCount x_o_heldCount x_o_rightAnswers x_o_otherAnswers x_o_looks x_o_latestVerdict x_o_findToHold, rO q 3 a_o_authorities 4 r_o_authorities]) H := hP
                have hD : va_D A ([oX2 a_A a_A_name a_A_serials a_A_since a_A_reasons x_A_secret x_A_publicKey x_A_nameHash x_A_keyHash x_A_issued x_A_takenBack_15, rI q a_A_reasons 32 r_A_reasons_14, rI q a_A_serials 32 r_A_serials, rJ q a_A_since 32 r_A_since_12, oX11 a_o a_o_tape a_o_out a_o_ownNonce a_o_authorities a_o_signers a_o_shelf a_o_latest a_o_wanted a_o_scan a_o_askText a_o_answerText x_o_authorityCount x_o_signerCount x_o_heldCount x_o_rightAnswers x_o_otherAnswers x_o_looks x_o_latestVerdict x_o_findToHold, rO q 3 a_o_authorities 4 r_o_authorities]) := hD
                refine lv_aload hx hb dX11_takeBack_102 (lv_at hl 1 rfl) ?_
                refine va_get (D := D) (ci := 2) (v := .int x_A_takenBack_15) (C := RX2) (T := TX2) (N := 10) hx hb hts iw_X2 hown hK hP 0 rfl rfl 9 (by decide) (hts _ kw_410) (fun _ h9 => h9) rfl dX11_takeBack_104 ?_
                have hy9 := (Option.some.inj hF).symm
                subst hy9
                exact rt_i C0.1 hP hD hS dX11_takeBack_107
              · replace hF := ite_f hF (fun h => c_11 ((lg_cmp_eq _ _).mpr h))
                refine lv_bipush (v := (-3 : Int32)) hx hb dX11_takeBack_69 (by decide) ?_
                have hy9 := (Option.some.inj hF).symm
                subst hy9
                exact rt_i C0.1 hP hD hS dX11_takeBack_71
            · replace hF := ite_t hF c_9
              refine lv_iconst (v := (-1 : Int32)) hx hb dX11_takeBack_52 (by decide) ?_
              have hy9 := (Option.some.inj hF).symm
              subst hy9
              exact rt_i C0.1 hP hD hS dX11_takeBack_53
          · replace hF := ite_f hF c_7
            refine lv_bipush (v := (-2 : Int32)) hx hb dX11_takeBack_35 (by decide) ?_
            have hy9 := (Option.some.inj hF).symm
            subst hy9
            exact rt_i C0.1 hP hD hS dX11_takeBack_37
  · replace hF := ite_f hF c_1
    refine cf_n C0.1 hP hD hS [4, 5] [0, 1, 2, 3] [0, 1, 2, 3, 4, 5] (wr := [oX2 a_A a_A_name a_A_serials a_A_since a_A_reasons x_A_secret x_A_publicKey x_A_nameHash x_A_keyHash x_A_issued x_A_takenBack, rI q a_A_reasons 32 r_A_reasons, rI q a_A_serials 32 r_A_serials, rJ q a_A_since 32 r_A_since]) (w' := [oX2 a_A a_A_name a_A_serials a_A_since a_A_reasons x_A_secret x_A_publicKey x_A_nameHash x_A_keyHash x_A_issued x_A_takenBack, rI q a_A_reasons 32 r_A_reasons, rI q a_A_serials 32 r_A_serials, rJ q a_A_since 32 r_A_since, oX11 a_o a_o_tape a_o_out a_o_ownNonce a_o_authorities a_o_signers a_o_shelf a_o_latest a_o_wanted a_o_scan a_o_askText a_o_answerText x_o_authorityCount x_o_signerCount x_o_heldCount x_o_rightAnswers x_o_otherAnswers x_o_looks x_o_latestVerdict x_o_findToHold, rO q 3 a_o_authorities 4 r_o_authorities]) rfl rfl rfl (by decide) rfl rfl (sn_V (As := [.int p_0]) (rest := []) (ci := 9) (q0 := 4) C0 (c_de_authorityAt_n l D q t a_o a_o_tape a_o_out a_o_ownNonce a_o_authorities a_o_signers a_o_shelf a_o_latest a_o_wanted a_o_scan a_o_askText a_o_answerText x_o_authorityCount x_o_signerCount x_o_heldCount x_o_rightAnswers x_o_otherAnswers x_o_looks x_o_latestVerdict x_o_findToHold r_o_authorities p_0 c_1) (cwV 1 hts (g_V kw_626 kw_628 kw_1 kw_72 kw_629) rfl rfl rfl hd_X11_authorityAt ⟨Nat.le_of_ble_eq_true rfl, Nat.le_of_ble_eq_true rfl⟩) hP hD hS [4, 5] rfl rfl rfl rfl rfl rfl hl (Nat.le_of_ble_eq_true rfl) dX11_takeBack_2) (fun H locs hP hD hS => ?_)
    refine lv_astoreN (lv' := [(6, .null), (0, .ref a_o), (1, .int p_0), (2, .int p_1), (3, .long p_2), (5, .int p_3)]) hx hb dX11_takeBack_5 hl (by decide) rfl (fun ls hl => ?_)
    refine lv_aloadN hx hb dX11_takeBack_7 (lv_at hl 0 rfl) ?_
    refine lv_ifnullN (tgt := 35) hx hb dX11_takeBack_9 (by decide) ?_
    refine lv_bipush (v := (-2 : Int32)) hx hb dX11_takeBack_35 (by decide) ?_
    have hy9 := (Option.some.inj hF).symm
    subst hy9
    exact rt_i C0.1 hP hD hS dX11_takeBack_37
set_option maxHeartbeats 4000000 in
set_option maxRecDepth 100000 in
theorem c_de_lift (l : Launch) (D : va_G) (q : Nat → ClassId) (t : Nat) (a_A : Nat) (a_A_name : Nat) (x_A_secret : Int32) (x_A_publicKey : Int32) (x_A_nameHash : Int64) (x_A_keyHash : Int64) (x_A_issued : Int32) (x_A_takenBack : Int32) (a_A_reasons : Nat) (r_A_reasons : (Nat → Int32)) (a_A_serials : Nat) (r_A_serials : (Nat → Int32)) (a_A_since : Nat) (r_A_since : (Nat → Int64)) (a_o : Nat) (a_o_tape : Nat) (a_o_out : Nat) (a_o_ownNonce : Nat) (a_o_signers : Nat) (a_o_shelf : Nat) (a_o_latest : Nat) (a_o_wanted : Nat) (a_o_scan : Nat) (a_o_askText : Nat) (a_o_answerText : Nat) (x_o_authorityCount : Int32) (x_o_signerCount : Int32) (x_o_heldCount : Int32) (x_o_rightAnswers : Int32) (x_o_otherAnswers : Int32) (x_o_looks : Int32) (x_o_latestVerdict : Int32) (x_o_findToHold : Int32) (a_o_authorities : Nat) (r_o_authorities : (Nat → Option Nat)) (p_0 : Int32) (p_1 : Int32) (y : Int32 × (Nat → Int64) × Int32) (hF : f_de_lift x_A_issued r_A_reasons r_A_serials r_A_since x_A_takenBack x_o_authorityCount p_0 p_1 = some y) (hq_1 : (0 ≤ p_0 ∧ p_0 < x_o_authorityCount) → r_o_authorities p_0.toNatClampNeg = some a_A) : cu l yX11_lift (vs yX11_lift cX11_lift 5 (some .boolean)) ({ frames := 1, cells := 0, slots := 0, locals := 22 }) D q t [.ref a_o, .int p_0, .int p_1] [oX2 a_A a_A_name a_A_serials a_A_since a_A_reasons x_A_secret x_A_publicKey x_A_nameHash x_A_keyHash x_A_issued x_A_takenBack, rI q a_A_reasons 32 r_A_reasons, rI q a_A_serials 32 r_A_serials, rJ q a_A_since 32 r_A_since, oX11 a_o a_o_tape a_o_out a_o_ownNonce a_o_authorities a_o_signers a_o_shelf a_o_latest a_o_wanted a_o_scan a_o_askText a_o_answerText x_o_authorityCount x_o_signerCount x_o_heldCount x_o_rightAnswers x_o_otherAnswers x_o_looks x_o_latestVerdict x_o_findToHold, rO q 3 a_o_authorities 4 r_o_authorities] (qI D q y.1 [oX2 a_A a_A_name a_A_serials a_A_since a_A_reasons x_A_secret x_A_publicKey x_A_nameHash x_A_keyHash x_A_issued y.2.2, rI q a_A_reasons 32 r_A_reasons, rI q a_A_serials 32 r_A_serials, rJ q a_A_since 32 y.2.1, oX11 a_o a_o_tape a_o_out a_o_ownNonce a_o_authorities a_o_signers a_o_shelf a_o_latest a_o_wanted a_o_scan a_o_askText a_o_answerText x_o_authorityCount x_o_signerCount x_o_heldCount x_o_rightAnswers x_o_otherAnswers x_o_looks x_o_latestVerdict x_o_findToHold, rO q 3 a_o_authorities 4 r_o_authorities]) := by
  refine cu_of (cc := cX11_lift) (nL := 5) (ret := (some .boolean)) (by decide) (Nat.le_of_ble_eq_true rfl) (fun {p e s m args below meth c A} C0 H locs ls hP hD hS hl => ?_)
  have C0 : cy p s m args meth c cX11_lift (some .boolean) 5 RX11 D q t A := C0
  obtain ⟨⟨hx, hb, hr, hml, hown, hts, hlocks, hK, hA⟩, hG⟩ := id C0
  have hl : lv_has ls 5 [(0, .ref a_o), (1, .int p_0), (2, .int p_1)] := hl
  unfold f_de_lift at hF
  refine lv_aload_n hx hb dX11_lift_0 rfl (lv_at hl 0 rfl) ?_
  refine lv_iload_n hx hb dX11_lift_1 rfl (lv_at hl 1 rfl) ?_
  by_cases c_1 : 0 ≤ p_0 ∧ p_0 < x_o_authorityCount
  · replace hF := ite_t hF c_1
    obtain ⟨z_2, hF⟩ := chk_d hF
    refine cf_r C0.1 hP hD hS [4, 5] [0, 1, 2, 3] [0, 1, 2, 3, 4, 5] (wr := [oX2 a_A a_A_name a_A_serials a_A_since a_A_reasons x_A_secret x_A_publicKey x_A_nameHash x_A_keyHash x_A_issued x_A_takenBack, rI q a_A_reasons 32 r_A_reasons, rI q a_A_serials 32 r_A_serials, rJ q a_A_since 32 r_A_since]) (w' := [oX2 a_A a_A_name a_A_serials a_A_since a_A_reasons x_A_secret x_A_publicKey x_A_nameHash x_A_keyHash x_A_issued x_A_takenBack, rI q a_A_reasons 32 r_A_reasons, rI q a_A_serials 32 r_A_serials, rJ q a_A_since 32 r_A_since, oX11 a_o a_o_tape a_o_out a_o_ownNonce a_o_authorities a_o_signers a_o_shelf a_o_latest a_o_wanted a_o_scan a_o_askText a_o_answerText x_o_authorityCount x_o_signerCount x_o_heldCount x_o_rightAnswers x_o_otherAnswers x_o_looks x_o_latestVerdict x_o_findToHold, rO q 3 a_o_authorities 4 r_o_authorities]) rfl rfl rfl (by decide) rfl rfl (sn_V (As := [.int p_0]) (rest := []) (ci := 9) (q0 := 4) C0 (c_de_authorityAt_r l D q t a_o a_o_tape a_o_out a_o_ownNonce a_o_authorities a_o_signers a_o_shelf a_o_latest a_o_wanted a_o_scan a_o_askText a_o_answerText x_o_authorityCount x_o_signerCount x_o_heldCount x_o_rightAnswers x_o_otherAnswers x_o_looks x_o_latestVerdict x_o_findToHold r_o_authorities p_0 a_A c_1.1 c_1.2 z_2 (hq_1 c_1)) (cwV 1 hts (g_V kw_626 kw_628 kw_1 kw_72 kw_629) rfl rfl rfl hd_X11_authorityAt ⟨Nat.le_of_ble_eq_true rfl, Nat.le_of_ble_eq_true rfl⟩) hP hD hS [4, 5] rfl rfl rfl rfl rfl rfl hl (Nat.le_of_ble_eq_true rfl) dX11_lift_2) (fun H locs hP hD hS => ?_)
    refine lv_astore_n (lv' := [(3, .ref a_A), (0, .ref a_o), (1, .int p_0), (2, .int p_1)]) hx hb dX11_lift_5 rfl hl (by decide) rfl (fun ls hl => ?_)
    refine lv_aload_n hx hb dX11_lift_6 rfl (lv_at hl 0 rfl) ?_
    refine lv_ifnonnull (tgt := 12) hx hb dX11_lift_7 (by decide) ?_
    refine lv_aload_n hx hb dX11_lift_12 rfl (lv_at hl 0 rfl) ?_
    refine lv_iload_n hx hb dX11_lift_13 rfl (lv_at hl 3 rfl) ?_
    obtain ⟨y_3, hy_3, hF⟩ := cal_d hF
    refine cf_i C0.1 hP hD hS [0, 2] [1, 3, 4, 5] [4, 0, 5, 1, 2, 3] (wr := [rI q a_A_reasons 32 r_A_reasons, rJ q a_A_since 32 r_A_since, oX11 a_o a_o_tape a_o_out a_o_ownNonce a_o_authorities a_o_signers a_o_shelf a_o_latest a_o_wanted a_o_scan a_o_askText a_o_answerText x_o_authorityCount x_o_signerCount x_o_heldCount x_o_rightAnswers x_o_otherAnswers x_o_looks x_o_latestVerdict x_o_findToHold, rO q 3 a_o_authorities 4 r_o_authorities]) (w' := [oX2 a_A a_A_name a_A_serials a_A_since a_A_reasons x_A_secret x_A_publicKey x_A_nameHash x_A_keyHash x_A_issued x_A_takenBack, rI q a_A_reasons 32 r_A_reasons, rI q a_A_serials 32 r_A_serials, rJ q a_A_since 32 r_A_since, oX11 a_o a_o_tape a_o_out a_o_ownNonce a_o_authorities a_o_signers a_o_shelf a_o_latest a_o_wanted a_o_scan a_o_askText a_o_answerText x_o_authorityCount x_o_signerCount x_o_heldCount x_o_rightAnswers x_o_otherAnswers x_o_looks x_o_latestVerdict x_o_findToHold, rO q 3 a_o_authorities 4 r_o_authorities]) rfl rfl rfl (by decide) rfl rfl (sn_V (As := [.int p_1]) (rest := []) (ci := 2) (q0 := 0) C0 (c_au_placeOf l D q t a_A a_A_name a_A_since a_A_reasons x_A_secret x_A_publicKey x_A_nameHash x_A_keyHash x_A_issued x_A_takenBack a_A_serials r_A_serials p_1 y_3 hy_3) (cwV 1 hts (g_V kw_630 kw_631 kw_632 kw_81 kw_633) rfl rfl rfl hd_X2_placeOf ⟨Nat.le_of_ble_eq_true rfl, Nat.le_of_ble_eq_true rfl⟩) hP hD hS [0, 2] rfl rfl rfl rfl rfl rfl hl (Nat.le_of_ble_eq_true rfl) dX11_lift_14) (fun H locs hP hD hS => ?_)
    refine lv_istore (lv' := [(4, .int y_3), (3, .ref a_A), (0, .ref a_o), (1, .int p_0), (2, .int p_1)]) hx hb dX11_lift_17 hl (by decide) rfl (fun ls hl => ?_)
    refine lv_iload hx hb dX11_lift_19 (lv_at hl 0 rfl) ?_
    refine lv_iconst (v := (-1 : Int32)) hx hb dX11_lift_21 (by decide) ?_
    refine lv_icmp_eq (tgt := 51) hx hb dX11_lift_22 (by decide) (fun c_4 => ?_) (fun c_4 => ?_)
    · replace hF := ite_t hF c_4
      refine lv_iconst (v := (0 : Int32)) hx hb dX11_lift_51 (by decide) ?_
      have hy9 := (Option.some.inj hF).symm
      subst hy9
      exact rt_z (v := (0 : Int32)) C0.1 rfl hP hD hS dX11_lift_52
    · replace hF := ite_f hF c_4
      refine lv_aload_n hx hb dX11_lift_25 rfl (lv_at hl 1 rfl) ?_
      refine va_get (D := D) (ci := 2) (v := .ref a_A_since) (C := RX2) (T := TX2) (N := 10) hx hb hts iw_X2 hown hK hP 0 rfl rfl 2 (by decide) (hts _ kw_396) (fun _ h9 => h9) rfl dX11_lift_26 ?_
      refine lv_iload hx hb dX11_lift_29 (lv_at hl 0 rfl) ?_
      obtain ⟨z_5, hF⟩ := chk_d hF
      refine va_lald hx hb hK hP 3 2 rfl rfl z_5 dX11_lift_31 ?_
      refine lv_ldc2 (v := (-1 : Int64)) hx hb hown (hts _ kw_648) dX11_lift_32 ?_
      refine W.lcmp hx hb dX11_lift_35 ?_
      refine lv_if_eq (tgt := 51) hx hb dX11_lift_36 (by decide) (fun c_6 => ?_) (fun c_6 => ?_)
      · replace hF := ite_t hF ((lg_cmp_eq _ _).mp c_6)
        refine lv_iconst (v := (0 : Int32)) hx hb dX11_lift_51 (by decide) ?_
        have hy9 := (Option.some.inj hF).symm
        subst hy9
        exact rt_z (v := (0 : Int32)) C0.1 rfl hP hD hS dX11_lift_52
      · replace hF := ite_f hF (fun h => c_6 ((lg_cmp_eq _ _).mpr h))
        refine lv_aload_n hx hb dX11_lift_39 rfl (lv_at hl 1 rfl) ?_
        refine va_get (D := D) (ci := 2) (v := .ref a_A_reasons) (C := RX2) (T := TX2) (N := 10) hx hb hts iw_X2 hown hK hP 0 rfl rfl 3 (by decide) (hts _ kw_398) (fun _ h9 => h9) rfl dX11_lift_40 ?_
        refine lv_iload hx hb dX11_lift_43 (lv_at hl 0 rfl) ?_
        obtain ⟨z_7, hF⟩ := chk_d hF
        refine va_iald hx hb hK hP 1 1 rfl rfl z_7 dX11_lift_45 ?_
        refine lv_bipush (v := (6 : Int32)) hx hb dX11_lift_46 (by decide) ?_
        refine lv_icmp_eq (tgt := 53) hx hb dX11_lift_48 (by decide) (fun c_8 => ?_) (fun c_8 => ?_)
        · replace hF := ite_t hF c_8
          refine lv_aload_n hx hb dX11_lift_53 rfl (lv_at hl 1 rfl) ?_
          refine va_get (D := D) (ci := 2) (v := .ref a_A_since) (C := RX2) (T := TX2) (N := 10) hx hb hts iw_X2 hown hK hP 0 rfl rfl 2 (by decide) (hts _ kw_396) (fun _ h9 => h9) rfl dX11_lift_54 ?_
          refine lv_iload hx hb dX11_lift_57 (lv_at hl 0 rfl) ?_
          refine lv_ldc2 (v := (-1 : Int64)) hx hb hown (hts _ kw_648) dX11_lift_59 ?_
          refine va_last hx hb hK hP hD hS 3 2 rfl rfl z_5 dX11_lift_62 (fun H locs hP hD hS => ?_)
          obtain ⟨r_A_since_9, e_r_A_since_9⟩ : ∃ z : (Nat → Int64), z = vp_updL r_A_since y_3.toNatClampNeg (-1 : Int64) := ⟨_, rfl⟩
          replace hF := bnd_d hF e_r_A_since_9
          have hP : va_P D vwCl ([oX2 a_A a_A_name a_A_serials a_A_since a_A_reasons x_A_secret x_A_publicKey x_A_nameHash x_A_keyHash x_A_issued x_A_takenBack, rI q a_A_reasons 32 r_A_reasons, rI q a_A_serials 32 r_A_serials, rJ q a_A_since 32 r_A_since_9, oX11 a_o a_o_tape a_o_out a_o_ownNonce a_o_authorities a_o_signers a_o_shelf a_o_latest a_o_wanted a_o_scan a_o_askText a_o_answerText x_o_authorityCount x_o_signerCount x_o_heldCount x_o_rightAnswers x_o_otherAnswers x_o_looks x_o_latestVerdict x_o_findToHold, rO q 3 a_o_authorities 4 r_o_authorities]) H := by rw [e_r_A_since_9]; exact hP
          have hD : va_D A ([oX2 a_A a_A_name a_A_serials a_A_since a_A_reasons x_A_secret x_A_publicKey x_A_nameHash x_A_keyHash x_A_issued x_A_takenBack, rI q a_A_reasons 32 r_A_reasons, rI q a_A_serials 32 r_A_serials, rJ q a_A_since 32 r_A_since_9, oX11 a_o a_o_tape a_o_out a_o_ownNonce a_o_authorities a_o_signers a_o_shelf a_o_latest a_o_wanted a_o_scan a_o_askText a_o_answerText x_o_authorityCount x_o_signerCount x_o_heldCount x_o_rightAnswers x_o_otherAnswers x_o_looks x_o_latestVerdict x_o_findToHold, rO q 3 a_o_authorities 4 r_o_authorities]) := by rw [e_r_A_since_9]; exact hD
          refine lv_aload_n hx hb dX11_lift_63 rfl (lv_at hl 1 rfl) ?_
          refine lv_dup hx hb dX11_lift_64 rfl ?_
          refine va_get (D := D) (ci := 2) (v := .int x_A_takenBack) (C := RX2) (T := TX2) (N := 10) hx hb hts iw_X2 hown hK hP 0 rfl rfl 9 (by decide) (hts _ kw_410) (fun _ h9 => h9) rfl dX11_lift_65 ?_
          refine lv_iconst (v := (1 : Int32)) hx hb dX11_lift_68 (by decide) ?_
          refine lv_isub hx hb dX11_lift_69 ?_
          refine lv_topi (fun x_A_takenBack_10 e_x_A_takenBack_10 => ?_)
          replace hF := bnd_d hF e_x_A_takenBack_10
          refine va_put (D := D) (ci := 2) (v := .int x_A_takenBack_10) (ty := .int) (C := RX2) (T := TX2) (N := 10) hx hb hts iw_X2 tyX2 tyX2_ok nmX2 hown hK hP hD hS 0 rfl rfl 9 (by decide) (hts _ kw_410) (fun _ h9 => h9) rfl (by decide +kernel) rfl rfl (Nat.le_of_ble_eq_true rfl) dX11_lift_70 (fun H locs hP hD hS => ?_)
          have hP : va_P D vwCl ([oX2 a_A a_A_name a_A_serials a_A_since a_A_reasons x_A_secret x_A_publicKey x_A_nameHash x_A_keyHash x_A_issued x_A_takenBack_10, rI q a_A_reasons 32 r_A_reasons, rI q a_A_serials 32 r_A_serials, rJ q a_A_since 32 r_A_since_9, oX11 a_o a_o_tape a_o_out a_o_ownNonce a_o_authorities a_o_signers a_o_shelf a_o_latest a_o_wanted a_o_scan a_o_askText a_o_answerText x_o_authorityCount x_o_signerCount x_o_heldCount x_o_rightAnswers x_o_otherAnswers x_o_looks x_o_latestVerdict x_o_findToHold, rO q 3 a_o_authorities 4 r_o_authorities]) H := hP
          have hD : va_D A ([oX2 a_A a_A_name a_A_serials a_A_since a_A_reasons x_A_secret x_A_publicKey x_A_nameHash x_A_keyHash x_A_issued x_A_takenBack_10, rI q a_A_reasons 32 r_A_reasons, rI q a_A_serials 32 r_A_serials, rJ q a_A_since 32 r_A_since_9, oX11 a_o a_o_tape a_o_out a_o_ownNonce a_o_authorities a_o_signers a_o_shelf a_o_latest a_o_wanted a_o_scan a_o_askText a_o_answerText x_o_authorityCount x_o_signerCount x_o_heldCount x_o_rightAnswers x_o_otherAnswers x_o_looks x_o_latestVerdict x_o_findToHold, rO q 3 a_o_authorities 4 r_o_authorities]) := hD
          refine lv_iconst (v := (1 : Int32)) hx hb dX11_lift_73 (by decide) ?_
          have hy9 := (Option.some.inj hF).symm
          subst hy9
          exact rt_z (v := (1 : Int32)) C0.1 rfl hP hD hS dX11_lift_74
        · replace hF := ite_f hF c_8
          refine lv_iconst (v := (0 : Int32)) hx hb dX11_lift_51 (by decide) ?_
          have hy9 := (Option.some.inj hF).symm
          subst hy9
          exact rt_z (v := (0 : Int32)) C0.1 rfl hP hD hS dX11_lift_52
  · replace hF := ite_f hF c_1
    refine cf_n C0.1 hP hD hS [4, 5] [0, 1, 2, 3] [0, 1, 2, 3, 4, 5] (wr := [oX2 a_A a_A_name a_A_serials a_A_since a_A_reasons x_A_secret x_A_publicKey x_A_nameHash x_A_keyHash x_A_issued x_A_takenBack, rI q a_A_reasons 32 r_A_reasons, rI q a_A_serials 32 r_A_serials, rJ q a_A_since 32 r_A_since]) (w' := [oX2 a_A a_A_name a_A_serials a_A_since a_A_reasons x_A_secret x_A_publicKey x_A_nameHash x_A_keyHash x_A_issued x_A_takenBack, rI q a_A_reasons 32 r_A_reasons, rI q a_A_serials 32 r_A_serials, rJ q a_A_since 32 r_A_since, oX11 a_o a_o_tape a_o_out a_o_ownNonce a_o_authorities a_o_signers a_o_shelf a_o_latest a_o_wanted a_o_scan a_o_askText a_o_answerText x_o_authorityCount x_o_signerCount x_o_heldCount x_o_rightAnswers x_o_otherAnswers x_o_looks x_o_latestVerdict x_o_findToHold, rO q 3 a_o_authorities 4 r_o_authorities]) rfl rfl rfl (by decide) rfl rfl (sn_V (As := [.int p_0]) (rest := []) (ci := 9) (q0 := 4) C0 (c_de_authorityAt_n l D q t a_o a_o_tape a_o_out a_o_ownNonce a_o_authorities a_o_signers a_o_shelf a_o_latest a_o_wanted a_o_scan a_o_askText a_o_answerText x_o_authorityCount x_o_signerCount x_o_heldCount x_o_rightAnswers x_o_otherAnswers x_o_looks x_o_latestVerdict x_o_findToHold r_o_authorities p_0 c_1) (cwV 1 hts (g_V kw_626 kw_628 kw_1 kw_72 kw_629) rfl rfl rfl hd_X11_authorityAt ⟨Nat.le_of_ble_eq_true rfl, Nat.le_of_ble_eq_true rfl⟩) hP hD hS [4, 5] rfl rfl rfl rfl rfl rfl hl (Nat.le_of_ble_eq_true rfl) dX11_lift_2) (fun H locs hP hD hS => ?_)
    refine lv_astore_nN (lv' := [(3, .null), (0, .ref a_o), (1, .int p_0), (2, .int p_1)]) hx hb dX11_lift_5 rfl hl (by decide) rfl (fun ls hl => ?_)
    refine lv_aload_nN hx hb dX11_lift_6 rfl (lv_at hl 0 rfl) ?_
    refine lv_ifnonnullN hx hb dX11_lift_7 ?_
    refine lv_iconst (v := (0 : Int32)) hx hb dX11_lift_10 (by decide) ?_
    have hy9 := (Option.some.inj hF).symm
    subst hy9
    exact rt_z (v := (0 : Int32)) C0.1 rfl hP hD hS dX11_lift_11
