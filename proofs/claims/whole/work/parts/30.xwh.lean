set_option maxHeartbeats 4000000 in
set_option maxRecDepth 100000 in
theorem c_de_key (l : Launch) (D : va_G) (q : Nat → ClassId) (t : Nat) (a_A : Nat) (a_A_name : Nat) (a_A_serials : Nat) (a_A_since : Nat) (a_A_reasons : Nat) (x_A_secret : Int32) (x_A_publicKey : Int32) (x_A_nameHash : Int64) (x_A_keyHash : Int64) (x_A_issued : Int32) (x_A_takenBack : Int32) (a_S : Nat) (a_S_text : Nat) (x_S_owner : Int32) (x_S_secret : Int32) (x_S_publicKey : Int32) (x_S_keyHash : Int64) (a_o : Nat) (a_o_tape : Nat) (a_o_out : Nat) (a_o_ownNonce : Nat) (a_o_shelf : Nat) (a_o_latest : Nat) (a_o_wanted : Nat) (a_o_scan : Nat) (a_o_askText : Nat) (a_o_answerText : Nat) (x_o_authorityCount : Int32) (x_o_signerCount : Int32) (x_o_heldCount : Int32) (x_o_rightAnswers : Int32) (x_o_otherAnswers : Int32) (x_o_looks : Int32) (x_o_latestVerdict : Int32) (x_o_findToHold : Int32) (a_o_authorities : Nat) (r_o_authorities : (Nat → Option Nat)) (a_o_signers : Nat) (r_o_signers : (Nat → Option Nat)) (p_0 : Int32) (p_1 : Int32) (y : Int32) (hF : f_de_key x_A_publicKey x_S_publicKey x_o_authorityCount x_o_signerCount p_0 p_1 = some y) (hq_1 : (0 ≤ p_1 ∧ p_1 < x_o_signerCount) → r_o_signers p_1.toNatClampNeg = some a_S) (hq_2 : (0 ≤ p_1 ∧ p_1 < x_o_authorityCount) → r_o_authorities p_1.toNatClampNeg = some a_A) (hq_3 : (0 ≤ p_1 ∧ p_1 < x_o_authorityCount) → (0 ≤ p_1 ∧ p_1 < x_o_signerCount) → r_o_signers p_1.toNatClampNeg = some a_S) (hq_4 : (0 ≤ p_1 ∧ p_1 < x_o_signerCount) → r_o_signers p_1.toNatClampNeg = some a_S) : cu l yX11_key (vs yX11_key cX11_key 5 (some .int)) ({ frames := 1, cells := 0, slots := 0, locals := 21 }) D q t [.ref a_o, .int p_0, .int p_1] [oX2 a_A a_A_name a_A_serials a_A_since a_A_reasons x_A_secret x_A_publicKey x_A_nameHash x_A_keyHash x_A_issued x_A_takenBack, oX9 a_S a_S_text x_S_owner x_S_secret x_S_publicKey x_S_keyHash, oX11 a_o a_o_tape a_o_out a_o_ownNonce a_o_authorities a_o_signers a_o_shelf a_o_latest a_o_wanted a_o_scan a_o_askText a_o_answerText x_o_authorityCount x_o_signerCount x_o_heldCount x_o_rightAnswers x_o_otherAnswers x_o_looks x_o_latestVerdict x_o_findToHold, rO q 3 a_o_authorities 4 r_o_authorities, rO q 5 a_o_signers 8 r_o_signers] (qI D q y [oX2 a_A a_A_name a_A_serials a_A_since a_A_reasons x_A_secret x_A_publicKey x_A_nameHash x_A_keyHash x_A_issued x_A_takenBack, oX9 a_S a_S_text x_S_owner x_S_secret x_S_publicKey x_S_keyHash, oX11 a_o a_o_tape a_o_out a_o_ownNonce a_o_authorities a_o_signers a_o_shelf a_o_latest a_o_wanted a_o_scan a_o_askText a_o_answerText x_o_authorityCount x_o_signerCount x_o_heldCount x_o_rightAnswers x_o_otherAnswers x_o_looks x_o_latestVerdict x_o_findToHold, rO q 3 a_o_authorities 4 r_o_authorities, rO q 5 a_o_signers 8 r_o_signers]) := by
  refine cu_of (cc := cX11_key) (nL := 5) (ret := (some .int)) (by decide) (Nat.le_of_ble_eq_true rfl) (fun {p e s m args below meth c A} C0 H locs ls hP hD hS hl => ?_)
  have C0 : cy p s m args meth c cX11_key (some .int) 5 RX11 D q t A := C0
  obtain ⟨⟨hx, hb, hr, hml, hown, hts, hlocks, hK, hA⟩, hG⟩ := id C0
  have hl : lv_has ls 5 [(0, .ref a_o), (1, .int p_0), (2, .int p_1)] := hl
  unfold f_de_key at hF
  refine lv_iload_n hx hb dX11_key_0 rfl (lv_at hl 1 rfl) ?_
  refine lv_if_ne (tgt := 12) hx hb dX11_key_1 (by decide) (fun c_1 => ?_) (fun c_1 => ?_)
  · replace hF := ite_f hF c_1
    refine lv_null hx hb dX11_key_12 ?_
    refine lv_astore_nN (lv' := [(3, .null), (0, .ref a_o), (1, .int p_0), (2, .int p_1)]) hx hb dX11_key_13 rfl hl (by decide) rfl (fun ls hl => ?_)
    refine lv_iload_n hx hb dX11_key_14 rfl (lv_at hl 2 rfl) ?_
    refine lv_iconst (v := (1 : Int32)) hx hb dX11_key_15 (by decide) ?_
    refine lv_icmp_ne (tgt := 27) hx hb dX11_key_16 (by decide) (fun c_2 => ?_) (fun c_2 => ?_)
    · replace hF := ite_f hF c_2
      refine lv_null hx hb dX11_key_27 ?_
      refine lv_astoreN (lv' := [(4, .null), (3, .null), (0, .ref a_o), (1, .int p_0), (2, .int p_1)]) hx hb dX11_key_28 hl (by decide) rfl (fun ls hl => ?_)
      refine lv_aload_nN hx hb dX11_key_30 rfl (lv_at hl 1 rfl) ?_
      refine lv_ifnullN (tgt := 39) hx hb dX11_key_31 (by decide) ?_
      refine lv_aloadN hx hb dX11_key_39 (lv_at hl 0 rfl) ?_
      refine lv_ifnullN (tgt := 52) hx hb dX11_key_41 (by decide) ?_
      refine lv_bipush (v := (-2 : Int32)) hx hb dX11_key_52 (by decide) ?_
      have hy9 := (Option.some.inj hF).symm
      subst hy9
      exact rt_i C0.1 hP hD hS dX11_key_54
    · replace hF := ite_t hF c_2
      refine lv_aload_n hx hb dX11_key_19 rfl (lv_at hl 1 rfl) ?_
      refine lv_iload_n hx hb dX11_key_20 rfl (lv_at hl 3 rfl) ?_
      by_cases c_3 : 0 ≤ p_1 ∧ p_1 < x_o_signerCount
      · replace hF := ite_t hF c_3
        obtain ⟨z_4, hF⟩ := chk_d hF
        refine cf_r C0.1 hP hD hS [2, 4] [0, 1, 3] [0, 1, 3, 2, 4] (wr := [oX2 a_A a_A_name a_A_serials a_A_since a_A_reasons x_A_secret x_A_publicKey x_A_nameHash x_A_keyHash x_A_issued x_A_takenBack, oX9 a_S a_S_text x_S_owner x_S_secret x_S_publicKey x_S_keyHash, rO q 3 a_o_authorities 4 r_o_authorities]) (w' := [oX2 a_A a_A_name a_A_serials a_A_since a_A_reasons x_A_secret x_A_publicKey x_A_nameHash x_A_keyHash x_A_issued x_A_takenBack, oX9 a_S a_S_text x_S_owner x_S_secret x_S_publicKey x_S_keyHash, oX11 a_o a_o_tape a_o_out a_o_ownNonce a_o_authorities a_o_signers a_o_shelf a_o_latest a_o_wanted a_o_scan a_o_askText a_o_answerText x_o_authorityCount x_o_signerCount x_o_heldCount x_o_rightAnswers x_o_otherAnswers x_o_looks x_o_latestVerdict x_o_findToHold, rO q 3 a_o_authorities 4 r_o_authorities, rO q 5 a_o_signers 8 r_o_signers]) rfl rfl rfl (by decide) rfl rfl (sn_V (As := [.int p_1]) (rest := []) (ci := 9) (q0 := 2) C0 (c_de_signerAt_r l D q t a_o a_o_tape a_o_out a_o_ownNonce a_o_authorities a_o_signers a_o_shelf a_o_latest a_o_wanted a_o_scan a_o_askText a_o_answerText x_o_authorityCount x_o_signerCount x_o_heldCount x_o_rightAnswers x_o_otherAnswers x_o_looks x_o_latestVerdict x_o_findToHold r_o_signers p_1 a_S c_3.1 c_3.2 z_4 (hq_1 c_3)) (cwV 1 hts (g_V kw_740 kw_742 kw_2 kw_72 kw_743) rfl rfl rfl hd_X11_signerAt ⟨Nat.le_of_ble_eq_true rfl, Nat.le_of_ble_eq_true rfl⟩) hP hD hS [2, 4] rfl rfl rfl rfl rfl rfl hl (Nat.le_of_ble_eq_true rfl) dX11_key_21) (fun H locs hP hD hS => ?_)
        refine lv_goto (tgt := 28) hx hb dX11_key_24 (by decide) ?_
        refine lv_astore (lv' := [(4, .ref a_S), (3, .null), (0, .ref a_o), (1, .int p_0), (2, .int p_1)]) hx hb dX11_key_28 hl (by decide) rfl (fun ls hl => ?_)
        refine lv_aload_nN hx hb dX11_key_30 rfl (lv_at hl 1 rfl) ?_
        refine lv_ifnullN (tgt := 39) hx hb dX11_key_31 (by decide) ?_
        refine lv_aload hx hb dX11_key_39 (lv_at hl 0 rfl) ?_
        refine lv_ifnull hx hb dX11_key_41 ?_
        refine lv_aload hx hb dX11_key_44 (lv_at hl 0 rfl) ?_
        refine va_get (D := D) (ci := 8) (v := .int x_S_publicKey) (C := RX9) (T := TX9) (N := 5) hx hb hts iw_X9 hown hK hP 1 rfl rfl 3 (by decide) (hts _ kw_446) (fun _ h9 => h9) rfl dX11_key_46 ?_
        refine lv_goto (tgt := 54) hx hb dX11_key_49 (by decide) ?_
        have hy9 := (Option.some.inj hF).symm
        subst hy9
        exact rt_i C0.1 hP hD hS dX11_key_54
      · replace hF := ite_f hF c_3
        refine cf_n C0.1 hP hD hS [2, 4] [0, 1, 3] [0, 1, 3, 2, 4] (wr := [oX2 a_A a_A_name a_A_serials a_A_since a_A_reasons x_A_secret x_A_publicKey x_A_nameHash x_A_keyHash x_A_issued x_A_takenBack, oX9 a_S a_S_text x_S_owner x_S_secret x_S_publicKey x_S_keyHash, rO q 3 a_o_authorities 4 r_o_authorities]) (w' := [oX2 a_A a_A_name a_A_serials a_A_since a_A_reasons x_A_secret x_A_publicKey x_A_nameHash x_A_keyHash x_A_issued x_A_takenBack, oX9 a_S a_S_text x_S_owner x_S_secret x_S_publicKey x_S_keyHash, oX11 a_o a_o_tape a_o_out a_o_ownNonce a_o_authorities a_o_signers a_o_shelf a_o_latest a_o_wanted a_o_scan a_o_askText a_o_answerText x_o_authorityCount x_o_signerCount x_o_heldCount x_o_rightAnswers x_o_otherAnswers x_o_looks x_o_latestVerdict x_o_findToHold, rO q 3 a_o_authorities 4 r_o_authorities, rO q 5 a_o_signers 8 r_o_signers]) rfl rfl rfl (by decide) rfl rfl (sn_V (As := [.int p_1]) (rest := []) (ci := 9) (q0 := 2) C0 (c_de_signerAt_n l D q t a_o a_o_tape a_o_out a_o_ownNonce a_o_authorities a_o_signers a_o_shelf a_o_latest a_o_wanted a_o_scan a_o_askText a_o_answerText x_o_authorityCount x_o_signerCount x_o_heldCount x_o_rightAnswers x_o_otherAnswers x_o_looks x_o_latestVerdict x_o_findToHold r_o_signers p_1 c_3) (cwV 1 hts (g_V kw_740 kw_742 kw_2 kw_72 kw_743) rfl rfl rfl hd_X11_signerAt ⟨Nat.le_of_ble_eq_true rfl, Nat.le_of_ble_eq_true rfl⟩) hP hD hS [2, 4] rfl rfl rfl rfl rfl rfl hl (Nat.le_of_ble_eq_true rfl) dX11_key_21) (fun H locs hP hD hS => ?_)
        refine lv_goto (tgt := 28) hx hb dX11_key_24 (by decide) ?_
        refine lv_astoreN (lv' := [(4, .null), (3, .null), (0, .ref a_o), (1, .int p_0), (2, .int p_1)]) hx hb dX11_key_28 hl (by decide) rfl (fun ls hl => ?_)
        refine lv_aload_nN hx hb dX11_key_30 rfl (lv_at hl 1 rfl) ?_
        refine lv_ifnullN (tgt := 39) hx hb dX11_key_31 (by decide) ?_
        refine lv_aloadN hx hb dX11_key_39 (lv_at hl 0 rfl) ?_
        refine lv_ifnullN (tgt := 52) hx hb dX11_key_41 (by decide) ?_
        refine lv_bipush (v := (-2 : Int32)) hx hb dX11_key_52 (by decide) ?_
        have hy9 := (Option.some.inj hF).symm
        subst hy9
        exact rt_i C0.1 hP hD hS dX11_key_54
  · replace hF := ite_t hF c_1
    refine lv_aload_n hx hb dX11_key_4 rfl (lv_at hl 0 rfl) ?_
    refine lv_iload_n hx hb dX11_key_5 rfl (lv_at hl 2 rfl) ?_
    by_cases c_5 : 0 ≤ p_1 ∧ p_1 < x_o_authorityCount
    · replace hF := ite_t hF c_5
      obtain ⟨z_6, hF⟩ := chk_d hF
      refine cf_r C0.1 hP hD hS [2, 3] [0, 1, 4] [0, 1, 3, 4, 2] (wr := [oX2 a_A a_A_name a_A_serials a_A_since a_A_reasons x_A_secret x_A_publicKey x_A_nameHash x_A_keyHash x_A_issued x_A_takenBack, oX9 a_S a_S_text x_S_owner x_S_secret x_S_publicKey x_S_keyHash, rO q 5 a_o_signers 8 r_o_signers]) (w' := [oX2 a_A a_A_name a_A_serials a_A_since a_A_reasons x_A_secret x_A_publicKey x_A_nameHash x_A_keyHash x_A_issued x_A_takenBack, oX9 a_S a_S_text x_S_owner x_S_secret x_S_publicKey x_S_keyHash, oX11 a_o a_o_tape a_o_out a_o_ownNonce a_o_authorities a_o_signers a_o_shelf a_o_latest a_o_wanted a_o_scan a_o_askText a_o_answerText x_o_authorityCount x_o_signerCount x_o_heldCount x_o_rightAnswers x_o_otherAnswers x_o_looks x_o_latestVerdict x_o_findToHold, rO q 3 a_o_authorities 4 r_o_authorities, rO q 5 a_o_signers 8 r_o_signers]) rfl rfl rfl (by decide) rfl rfl (sn_V (As := [.int p_1]) (rest := []) (ci := 9) (q0 := 2) C0 (c_de_authorityAt_r l D q t a_o a_o_tape a_o_out a_o_ownNonce a_o_authorities a_o_signers a_o_shelf a_o_latest a_o_wanted a_o_scan a_o_askText a_o_answerText x_o_authorityCount x_o_signerCount x_o_heldCount x_o_rightAnswers x_o_otherAnswers x_o_looks x_o_latestVerdict x_o_findToHold r_o_authorities p_1 a_A c_5.1 c_5.2 z_6 (hq_2 c_5)) (cwV 1 hts (g_V kw_626 kw_628 kw_1 kw_72 kw_629) rfl rfl rfl hd_X11_authorityAt ⟨Nat.le_of_ble_eq_true rfl, Nat.le_of_ble_eq_true rfl⟩) hP hD hS [2, 3] rfl rfl rfl rfl rfl rfl hl (Nat.le_of_ble_eq_true rfl) dX11_key_6) (fun H locs hP hD hS => ?_)
      refine lv_goto (tgt := 13) hx hb dX11_key_9 (by decide) ?_
      refine lv_astore_n (lv' := [(3, .ref a_A), (0, .ref a_o), (1, .int p_0), (2, .int p_1)]) hx hb dX11_key_13 rfl hl (by decide) rfl (fun ls hl => ?_)
      refine lv_iload_n hx hb dX11_key_14 rfl (lv_at hl 2 rfl) ?_
      refine lv_iconst (v := (1 : Int32)) hx hb dX11_key_15 (by decide) ?_
      refine lv_icmp_ne (tgt := 27) hx hb dX11_key_16 (by decide) (fun c_7 => ?_) (fun c_7 => ?_)
      · replace hF := ite_f hF c_7
        refine lv_null hx hb dX11_key_27 ?_
        refine lv_astoreN (lv' := [(4, .null), (3, .ref a_A), (0, .ref a_o), (1, .int p_0), (2, .int p_1)]) hx hb dX11_key_28 hl (by decide) rfl (fun ls hl => ?_)
        refine lv_aload_n hx hb dX11_key_30 rfl (lv_at hl 1 rfl) ?_
        refine lv_ifnull hx hb dX11_key_31 ?_
        refine lv_aload_n hx hb dX11_key_34 rfl (lv_at hl 1 rfl) ?_
        refine va_get (D := D) (ci := 2) (v := .int x_A_publicKey) (C := RX2) (T := TX2) (N := 10) hx hb hts iw_X2 hown hK hP 0 rfl rfl 5 (by decide) (hts _ kw_403) (fun _ h9 => h9) rfl dX11_key_35 ?_
        have hy9 := (Option.some.inj hF).symm
        subst hy9
        exact rt_i C0.1 hP hD hS dX11_key_38
      · replace hF := ite_t hF c_7
        refine lv_aload_n hx hb dX11_key_19 rfl (lv_at hl 1 rfl) ?_
        refine lv_iload_n hx hb dX11_key_20 rfl (lv_at hl 3 rfl) ?_
        by_cases c_8 : 0 ≤ p_1 ∧ p_1 < x_o_signerCount
        · replace hF := ite_t hF c_8
          obtain ⟨z_9, hF⟩ := chk_d hF
          refine cf_r C0.1 hP hD hS [2, 4] [0, 1, 3] [0, 1, 3, 2, 4] (wr := [oX2 a_A a_A_name a_A_serials a_A_since a_A_reasons x_A_secret x_A_publicKey x_A_nameHash x_A_keyHash x_A_issued x_A_takenBack, oX9 a_S a_S_text x_S_owner x_S_secret x_S_publicKey x_S_keyHash, rO q 3 a_o_authorities 4 r_o_authorities]) (w' := [oX2 a_A a_A_name a_A_serials a_A_since a_A_reasons x_A_secret x_A_publicKey x_A_nameHash x_A_keyHash x_A_issued x_A_takenBack, oX9 a_S a_S_text x_S_owner x_S_secret x_S_publicKey x_S_keyHash, oX11 a_o a_o_tape a_o_out a_o_ownNonce a_o_authorities a_o_signers a_o_shelf a_o_latest a_o_wanted a_o_scan a_o_askText a_o_answerText x_o_authorityCount x_o_signerCount x_o_heldCount x_o_rightAnswers x_o_otherAnswers x_o_looks x_o_latestVerdict x_o_findToHold, rO q 3 a_o_authorities 4 r_o_authorities, rO q 5 a_o_signers 8 r_o_signers]) rfl rfl rfl (by decide) rfl rfl (sn_V (As := [.int p_1]) (rest := []) (ci := 9) (q0 := 2) C0 (c_de_signerAt_r l D q t a_o a_o_tape a_o_out a_o_ownNonce a_o_authorities a_o_signers a_o_shelf a_o_latest a_o_wanted a_o_scan a_o_askText a_o_answerText x_o_authorityCount x_o_signerCount x_o_heldCount x_o_rightAnswers x_o_otherAnswers x_o_looks x_o_latestVerdict x_o_findToHold r_o_signers p_1 a_S c_8.1 c_8.2 z_9 (hq_3 c_5 c_8)) (cwV 1 hts (g_V kw_740 kw_742 kw_2 kw_72 kw_743) rfl rfl rfl hd_X11_signerAt ⟨Nat.le_of_ble_eq_true rfl, Nat.le_of_ble_eq_true rfl⟩) hP hD hS [2, 4] rfl rfl rfl rfl rfl rfl hl (Nat.le_of_ble_eq_true rfl) dX11_key_21) (fun H locs hP hD hS => ?_)
          refine lv_goto (tgt := 28) hx hb dX11_key_24 (by decide) ?_
          refine lv_astore (lv' := [(4, .ref a_S), (3, .ref a_A), (0, .ref a_o), (1, .int p_0), (2, .int p_1)]) hx hb dX11_key_28 hl (by decide) rfl (fun ls hl => ?_)
          refine lv_aload_n hx hb dX11_key_30 rfl (lv_at hl 1 rfl) ?_
          refine lv_ifnull hx hb dX11_key_31 ?_
          refine lv_aload_n hx hb dX11_key_34 rfl (lv_at hl 1 rfl) ?_
          refine va_get (D := D) (ci := 2) (v := .int x_A_publicKey) (C := RX2) (T := TX2) (N := 10) hx hb hts iw_X2 hown hK hP 0 rfl rfl 5 (by decide) (hts _ kw_403) (fun _ h9 => h9) rfl dX11_key_35 ?_
          have hy9 := (Option.some.inj hF).symm
          subst hy9
          exact rt_i C0.1 hP hD hS dX11_key_38
        · replace hF := ite_f hF c_8
          refine cf_n C0.1 hP hD hS [2, 4] [0, 1, 3] [0, 1, 3, 2, 4] (wr := [oX2 a_A a_A_name a_A_serials a_A_since a_A_reasons x_A_secret x_A_publicKey x_A_nameHash x_A_keyHash x_A_issued x_A_takenBack, oX9 a_S a_S_text x_S_owner x_S_secret x_S_publicKey x_S_keyHash, rO q 3 a_o_authorities 4 r_o_authorities]) (w' := [oX2 a_A a_A_name a_A_serials a_A_since a_A_reasons x_A_secret x_A_publicKey x_A_nameHash x_A_keyHash x_A_issued x_A_takenBack, oX9 a_S a_S_text x_S_owner x_S_secret x_S_publicKey x_S_keyHash, oX11 a_o a_o_tape a_o_out a_o_ownNonce a_o_authorities a_o_signers a_o_shelf a_o_latest a_o_wanted a_o_scan a_o_askText a_o_answerText x_o_authorityCount x_o_signerCount x_o_heldCount x_o_rightAnswers x_o_otherAnswers x_o_looks x_o_latestVerdict x_o_findToHold, rO q 3 a_o_authorities 4 r_o_authorities, rO q 5 a_o_signers 8 r_o_signers]) rfl rfl rfl (by decide) rfl rfl (sn_V (As := [.int p_1]) (rest := []) (ci := 9) (q0 := 2) C0 (c_de_signerAt_n l D q t a_o a_o_tape a_o_out a_o_ownNonce a_o_authorities a_o_signers a_o_shelf a_o_latest a_o_wanted a_o_scan a_o_askText a_o_answerText x_o_authorityCount x_o_signerCount x_o_heldCount x_o_rightAnswers x_o_otherAnswers x_o_looks x_o_latestVerdict x_o_findToHold r_o_signers p_1 c_8) (cwV 1 hts (g_V kw_740 kw_742 kw_2 kw_72 kw_743) rfl rfl rfl hd_X11_signerAt ⟨Nat.le_of_ble_eq_true rfl, Nat.le_of_ble_eq_true rfl⟩) hP hD hS [2, 4] rfl rfl rfl rfl rfl rfl hl (Nat.le_of_ble_eq_true rfl) dX11_key_21) (fun H locs hP hD hS => ?_)
          refine lv_goto (tgt := 28) hx hb dX11_key_24 (by decide) ?_
          refine lv_astoreN (lv' := [(4, .null), (3, .ref a_A), (0, .ref a_o), (1, .int p_0), (2, .int p_1)]) hx hb dX11_key_28 hl (by decide) rfl (fun ls hl => ?_)
          refine lv_aload_n hx hb dX11_key_30 rfl (lv_at hl 1 rfl) ?_
          refine lv_ifnull hx hb dX11_key_31 ?_
          refine lv_aload_n hx hb dX11_key_34 rfl (lv_at hl 1 rfl) ?_
          refine va_get (D := D) (ci := 2) (v := .int x_A_publicKey) (C := RX2) (T := TX2) (N := 10) hx hb hts iw_X2 hown hK hP 0 rfl rfl 5 (by decide) (hts _ kw_403) (fun _ h9 => h9) rfl dX11_key_35 ?_
          have hy9 := (Option.some.inj hF).symm
          subst hy9
          exact rt_i C0.1 hP hD hS dX11_key_38
    · replace hF := ite_f hF c_5
      refine cf_n C0.1 hP hD hS [2, 3] [0, 1, 4] [0, 1, 3, 4, 2] (wr := [oX2 a_A a_A_name a_A_serials a_A_since a_A_reasons x_A_secret x_A_publicKey x_A_nameHash x_A_keyHash x_A_issued x_A_takenBack, oX9 a_S a_S_text x_S_owner x_S_secret x_S_publicKey x_S_keyHash, rO q 5 a_o_signers 8 r_o_signers]) (w' := [oX2 a_A a_A_name a_A_serials a_A_since a_A_reasons x_A_secret x_A_publicKey x_A_nameHash x_A_keyHash x_A_issued x_A_takenBack, oX9 a_S a_S_text x_S_owner x_S_secret x_S_publicKey x_S_keyHash, oX11 a_o a_o_tape a_o_out a_o_ownNonce a_o_authorities a_o_signers a_o_shelf a_o_latest a_o_wanted a_o_scan a_o_askText a_o_answerText x_o_authorityCount x_o_signerCount x_o_heldCount x_o_rightAnswers x_o_otherAnswers x_o_looks x_o_latestVerdict x_o_findToHold, rO q 3 a_o_authorities 4 r_o_authorities, rO q 5 a_o_signers 8 r_o_signers]) rfl rfl rfl (by decide) rfl rfl (sn_V (As := [.int p_1]) (rest := []) (ci := 9) (q0 := 2) C0 (c_de_authorityAt_n l D q t a_o a_o_tape a_o_out a_o_ownNonce a_o_authorities a_o_signers a_o_shelf a_o_latest a_o_wanted a_o_scan a_o_askText a_o_answerText x_o_authorityCount x_o_signerCount x_o_heldCount x_o_rightAnswers x_o_otherAnswers x_o_looks x_o_latestVerdict x_o_findToHold r_o_authorities p_1 c_5) (cwV 1 hts (g_V kw_626 kw_628 kw_1 kw_72 kw_629) rfl rfl rfl hd_X11_authorityAt ⟨Nat.le_of_ble_eq_true rfl, Nat.le_of_ble_eq_true rfl⟩) hP hD hS [2, 3] rfl rfl rfl rfl rfl rfl hl (Nat.le_of_ble_eq_true rfl) dX11_key_6) (fun H locs hP hD hS => ?_)
      refine lv_goto (tgt := 13) hx hb dX11_key_9 (by decide) ?_
      refine lv_astore_nN (lv' := [(3, .null), (0, .ref a_o), (1, .int p_0), (2, .int p_1)]) hx hb dX11_key_13 rfl hl (by decide) rfl (fun ls hl => ?_)
      refine lv_iload_n hx hb dX11_key_14 rfl (lv_at hl 2 rfl) ?_
      refine lv_iconst (v := (1 : Int32)) hx hb dX11_key_15 (by decide) ?_
      refine lv_icmp_ne (tgt := 27) hx hb dX11_key_16 (by decide) (fun c_10 => ?_) (fun c_10 => ?_)
      · replace hF := ite_f hF c_10
        refine lv_null hx hb dX11_key_27 ?_
        refine lv_astoreN (lv' := [(4, .null), (3, .null), (0, .ref a_o), (1, .int p_0), (2, .int p_1)]) hx hb dX11_key_28 hl (by decide) rfl (fun ls hl => ?_)
        refine lv_aload_nN hx hb dX11_key_30 rfl (lv_at hl 1 rfl) ?_
        refine lv_ifnullN (tgt := 39) hx hb dX11_key_31 (by decide) ?_
        refine lv_aloadN hx hb dX11_key_39 (lv_at hl 0 rfl) ?_
        refine lv_ifnullN (tgt := 52) hx hb dX11_key_41 (by decide) ?_
        refine lv_bipush (v := (-2 : Int32)) hx hb dX11_key_52 (by decide) ?_
        have hy9 := (Option.some.inj hF).symm
        subst hy9
        exact rt_i C0.1 hP hD hS dX11_key_54
      · replace hF := ite_t hF c_10
        refine lv_aload_n hx hb dX11_key_19 rfl (lv_at hl 1 rfl) ?_
        refine lv_iload_n hx hb dX11_key_20 rfl (lv_at hl 3 rfl) ?_
        by_cases c_11 : 0 ≤ p_1 ∧ p_1 < x_o_signerCount
        · replace hF := ite_t hF c_11
          obtain ⟨z_12, hF⟩ := chk_d hF
          refine cf_r C0.1 hP hD hS [2, 4] [0, 1, 3] [0, 1, 3, 2, 4] (wr := [oX2 a_A a_A_name a_A_serials a_A_since a_A_reasons x_A_secret x_A_publicKey x_A_nameHash x_A_keyHash x_A_issued x_A_takenBack, oX9 a_S a_S_text x_S_owner x_S_secret x_S_publicKey x_S_keyHash, rO q 3 a_o_authorities 4 r_o_authorities]) (w' := [oX2 a_A a_A_name a_A_serials a_A_since a_A_reasons x_A_secret x_A_publicKey x_A_nameHash x_A_keyHash x_A_issued x_A_takenBack, oX9 a_S a_S_text x_S_owner x_S_secret x_S_publicKey x_S_keyHash, oX11 a_o a_o_tape a_o_out a_o_ownNonce a_o_authorities a_o_signers a_o_shelf a_o_latest a_o_wanted a_o_scan a_o_askText a_o_answerText x_o_authorityCount x_o_signerCount x_o_heldCount x_o_rightAnswers x_o_otherAnswers x_o_looks x_o_latestVerdict x_o_findToHold, rO q 3 a_o_authorities 4 r_o_authorities, rO q 5 a_o_signers 8 r_o_signers]) rfl rfl rfl (by decide) rfl rfl (sn_V (As := [.int p_1]) (rest := []) (ci := 9) (q0 := 2) C0 (c_de_signerAt_r l D q t a_o a_o_tape a_o_out a_o_ownNonce a_o_authorities a_o_signers a_o_shelf a_o_latest a_o_wanted a_o_scan a_o_askText a_o_answerText x_o_authorityCount x_o_signerCount x_o_heldCount x_o_rightAnswers x_o_otherAnswers x_o_looks x_o_latestVerdict x_o_findToHold r_o_signers p_1 a_S c_11.1 c_11.2 z_12 (hq_4 c_11)) (cwV 1 hts (g_V kw_740 kw_742 kw_2 kw_72 kw_743) rfl rfl rfl hd_X11_signerAt ⟨Nat.le_of_ble_eq_true rfl, Nat.le_of_ble_eq_true rfl⟩) hP hD hS [2, 4] rfl rfl rfl rfl rfl rfl hl (Nat.le_of_ble_eq_true rfl) dX11_key_21) (fun H locs hP hD hS => ?_)
          refine lv_goto (tgt := 28) hx hb dX11_key_24 (by decide) ?_
          refine lv_astore (lv' := [(4, .ref a_S), (3, .null), (0, .ref a_o), (1, .int p_0), (2, .int p_1)]) hx hb dX11_key_28 hl (by decide) rfl (fun ls hl => ?_)
          refine lv_aload_nN hx hb dX11_key_30 rfl (lv_at hl 1 rfl) ?_
          refine lv_ifnullN (tgt := 39) hx hb dX11_key_31 (by decide) ?_
          refine lv_aload hx hb dX11_key_39 (lv_at hl 0 rfl) ?_
          refine lv_ifnull hx hb dX11_key_41 ?_
          refine lv_aload hx hb dX11_key_44 (lv_at hl 0 rfl) ?_
          refine va_get (D := D) (ci := 8) (v := .int x_S_publicKey) (C := RX9) (T := TX9) (N := 5) hx hb hts iw_X9 hown hK hP 1 rfl rfl 3 (by decide) (hts _ kw_446) (fun _ h9 => h9) rfl dX11_key_46 ?_
          refine lv_goto (tgt := 54) hx hb dX11_key_49 (by decide) ?_
          have hy9 := (Option.some.inj hF).symm
          subst hy9
          exact rt_i C0.1 hP hD hS dX11_key_54
        · replace hF := ite_f hF c_11
          refine cf_n C0.1 hP hD hS [2, 4] [0, 1, 3] [0, 1, 3, 2, 4] (wr := [oX2 a_A a_A_name a_A_serials a_A_since a_A_reasons x_A_secret x_A_publicKey x_A_nameHash x_A_keyHash x_A_issued x_A_takenBack, oX9 a_S a_S_text x_S_owner x_S_secret x_S_publicKey x_S_keyHash, rO q 3 a_o_authorities 4 r_o_authorities]) (w' := [oX2 a_A a_A_name a_A_serials a_A_since a_A_reasons x_A_secret x_A_publicKey x_A_nameHash x_A_keyHash x_A_issued x_A_takenBack, oX9 a_S a_S_text x_S_owner x_S_secret x_S_publicKey x_S_keyHash, oX11 a_o a_o_tape a_o_out a_o_ownNonce a_o_authorities a_o_signers a_o_shelf a_o_latest a_o_wanted a_o_scan a_o_askText a_o_answerText x_o_authorityCount x_o_signerCount x_o_heldCount x_o_rightAnswers x_o_otherAnswers x_o_looks x_o_latestVerdict x_o_findToHold, rO q 3 a_o_authorities 4 r_o_authorities, rO q 5 a_o_signers 8 r_o_signers]) rfl rfl rfl (by decide) rfl rfl (sn_V (As := [.int p_1]) (rest := []) (ci := 9) (q0 := 2) C0 (c_de_signerAt_n l D q t a_o a_o_tape a_o_out a_o_ownNonce a_o_authorities a_o_signers a_o_shelf a_o_latest a_o_wanted a_o_scan a_o_askText a_o_answerText x_o_authorityCount x_o_signerCount x_o_heldCount x_o_rightAnswers x_o_otherAnswers x_o_looks x_o_latestVerdict x_o_findToHold r_o_signers p_1 c_11) (cwV 1 hts (g_V kw_740 kw_742 kw_2 kw_72 kw_743) rfl rfl rfl hd_X11_signerAt ⟨Nat.le_of_ble_eq_true rfl, Nat.le_of_ble_eq_true rfl⟩) hP hD hS [2, 4] rfl rfl rfl rfl rfl rfl hl (Nat.le_of_ble_eq_true rfl) dX11_key_21) (fun H locs hP hD hS => ?_)
          refine lv_goto (tgt := 28) hx hb dX11_key_24 (by decide) ?_
          refine lv_astoreN (lv' := [(4, .null), (3, .null), (0, .ref a_o), (1, .int p_0), (2, .int p_1)]) hx hb dX11_key_28 hl (by decide) rfl (fun ls hl => ?_)
          refine lv_aload_nN hx hb dX11_key_30 rfl (lv_at hl 1 rfl) ?_
          refine lv_ifnullN (tgt := 39) hx hb dX11_key_31 (by decide) ?_
          refine lv_aloadN hx hb dX11_key_39 (lv_at hl 0 rfl) ?_
          refine lv_ifnullN (tgt := 52) hx hb dX11_key_41 (by decide) ?_
          refine lv_bipush (v := (-2 : Int32)) hx hb dX11_key_52 (by decide) ?_
          have hy9 := (Option.some.inj hF).symm
          subst hy9
          exact rt_i C0.1 hP hD hS dX11_key_54
set_option maxHeartbeats 4000000 in
set_option maxRecDepth 100000 in
theorem c_de_told (l : Launch) (D : va_G) (q : Nat → ClassId) (t : Nat) (a_o : Nat) (a_o_out : Nat) (a_o_ownNonce : Nat) (a_o_authorities : Nat) (a_o_signers : Nat) (a_o_shelf : Nat) (a_o_latest : Nat) (a_o_scan : Nat) (a_o_askText : Nat) (a_o_answerText : Nat) (x_o_authorityCount : Int32) (x_o_signerCount : Int32) (x_o_heldCount : Int32) (x_o_rightAnswers : Int32) (x_o_otherAnswers : Int32) (x_o_looks : Int32) (x_o_latestVerdict : Int32) (x_o_findToHold : Int32) (a_o_tape : Nat) (a_o_tape_data : Nat) (x_o_tape_length : Int32) (a_o_wanted : Nat) (a_o_wanted_nameHashes : Nat) (a_o_wanted_keyHashes : Nat) (a_o_wanted_serials : Nat) (x_o_wanted_count : Int32) (p_0 : Int32) (y : Int32) (hF : f_de_told x_o_authorityCount x_o_heldCount x_o_looks x_o_otherAnswers x_o_rightAnswers x_o_signerCount x_o_tape_length x_o_wanted_count p_0 = some y)  : cu l yX11_told (vs yX11_told cX11_told 2 (some .int)) ({ frames := 0, cells := 0, slots := 0, locals := 0 }) D q t [.ref a_o, .int p_0] [oX11 a_o a_o_tape a_o_out a_o_ownNonce a_o_authorities a_o_signers a_o_shelf a_o_latest a_o_wanted a_o_scan a_o_askText a_o_answerText x_o_authorityCount x_o_signerCount x_o_heldCount x_o_rightAnswers x_o_otherAnswers x_o_looks x_o_latestVerdict x_o_findToHold, oX3 a_o_tape a_o_tape_data x_o_tape_length, oX6 a_o_wanted a_o_wanted_nameHashes a_o_wanted_keyHashes a_o_wanted_serials x_o_wanted_count] (qI D q y [oX11 a_o a_o_tape a_o_out a_o_ownNonce a_o_authorities a_o_signers a_o_shelf a_o_latest a_o_wanted a_o_scan a_o_askText a_o_answerText x_o_authorityCount x_o_signerCount x_o_heldCount x_o_rightAnswers x_o_otherAnswers x_o_looks x_o_latestVerdict x_o_findToHold, oX3 a_o_tape a_o_tape_data x_o_tape_length, oX6 a_o_wanted a_o_wanted_nameHashes a_o_wanted_keyHashes a_o_wanted_serials x_o_wanted_count]) := by
  refine cu_of (cc := cX11_told) (nL := 2) (ret := (some .int)) (by decide) (Nat.le_of_ble_eq_true rfl) (fun {p e s m args below meth c A} C0 H locs ls hP hD hS hl => ?_)
  have C0 : cy p s m args meth c cX11_told (some .int) 2 RX11 D q t A := C0
  obtain ⟨⟨hx, hb, hr, hml, hown, hts, hlocks, hK, hA⟩, hG⟩ := id C0
  have hl : lv_has ls 2 [(0, .ref a_o), (1, .int p_0)] := hl
  unfold f_de_told at hF
  refine lv_iload_n hx hb dX11_told_0 rfl (lv_at hl 1 rfl) ?_
  by_cases c_1 : p_0 = (0 : Int32)
  · replace hF := ite_t hF c_1
    refine lv_tableIn (off := 47) (tgt := 48) hx hb dX11_told_1 (by rw [c_1]; decide) (by rw [c_1]; decide) (by rw [c_1]; rfl) (by decide) ?_
    refine lv_aload_n hx hb dX11_told_48 rfl (lv_at hl 0 rfl) ?_
    refine va_get (D := D) (ci := 9) (v := .int x_o_authorityCount) (C := RX11) (T := TX11) (N := 19) hx hb hts iw_X11 hown hK hP 0 rfl rfl 11 (by decide) (hts _ kw_471) (fun _ h9 => h9) rfl dX11_told_49 ?_
    have hy9 := (Option.some.inj hF).symm
    subst hy9
    exact rt_i C0.1 hP hD hS dX11_told_52
  · replace hF := ite_f hF c_1
    by_cases c_2 : p_0 = (1 : Int32)
    · replace hF := ite_t hF c_2
      refine lv_tableIn (off := 52) (tgt := 53) hx hb dX11_told_1 (by rw [c_2]; decide) (by rw [c_2]; decide) (by rw [c_2]; rfl) (by decide) ?_
      refine lv_aload_n hx hb dX11_told_53 rfl (lv_at hl 0 rfl) ?_
      refine va_get (D := D) (ci := 9) (v := .int x_o_signerCount) (C := RX11) (T := TX11) (N := 19) hx hb hts iw_X11 hown hK hP 0 rfl rfl 12 (by decide) (hts _ kw_472) (fun _ h9 => h9) rfl dX11_told_54 ?_
      have hy9 := (Option.some.inj hF).symm
      subst hy9
      exact rt_i C0.1 hP hD hS dX11_told_57
    · replace hF := ite_f hF c_2
      by_cases c_3 : p_0 = (2 : Int32)
      · replace hF := ite_t hF c_3
        refine lv_tableIn (off := 57) (tgt := 58) hx hb dX11_told_1 (by rw [c_3]; decide) (by rw [c_3]; decide) (by rw [c_3]; rfl) (by decide) ?_
        refine lv_aload_n hx hb dX11_told_58 rfl (lv_at hl 0 rfl) ?_
        refine va_get (D := D) (ci := 9) (v := .ref a_o_wanted) (C := RX11) (T := TX11) (N := 19) hx hb hts iw_X11 hown hK hP 0 rfl rfl 7 (by decide) (hts _ kw_467) (fun _ h9 => h9) rfl dX11_told_59 ?_
        refine va_get (D := D) (ci := 6) (v := .int x_o_wanted_count) (C := RX6) (T := TX6) (N := 4) hx hb hts iw_X6 hown hK hP 2 rfl rfl 3 (by decide) (hts _ kw_175) (fun _ h9 => h9) rfl dX11_told_62 ?_
        have hy9 := (Option.some.inj hF).symm
        subst hy9
        exact rt_i C0.1 hP hD hS dX11_told_65
      · replace hF := ite_f hF c_3
        by_cases c_4 : p_0 = (3 : Int32)
        · replace hF := ite_t hF c_4
          refine lv_tableIn (off := 65) (tgt := 66) hx hb dX11_told_1 (by rw [c_4]; decide) (by rw [c_4]; decide) (by rw [c_4]; rfl) (by decide) ?_
          refine lv_aload_n hx hb dX11_told_66 rfl (lv_at hl 0 rfl) ?_
          refine va_get (D := D) (ci := 9) (v := .ref a_o_tape) (C := RX11) (T := TX11) (N := 19) hx hb hts iw_X11 hown hK hP 0 rfl rfl 0 (by decide) (hts _ kw_460) (fun _ h9 => h9) rfl dX11_told_67 ?_
          refine va_get (D := D) (ci := 3) (v := .int x_o_tape_length) (C := RX3) (T := TX3) (N := 2) hx hb hts iw_X3 hown hK hP 1 rfl rfl 1 (by decide) (hts _ kw_108) (fun _ h9 => h9) rfl dX11_told_70 ?_
          have hy9 := (Option.some.inj hF).symm
          subst hy9
          exact rt_i C0.1 hP hD hS dX11_told_73
        · replace hF := ite_f hF c_4
          by_cases c_5 : p_0 = (4 : Int32)
          · replace hF := ite_t hF c_5
            refine lv_tableIn (off := 73) (tgt := 74) hx hb dX11_told_1 (by rw [c_5]; decide) (by rw [c_5]; decide) (by rw [c_5]; rfl) (by decide) ?_
            refine lv_aload_n hx hb dX11_told_74 rfl (lv_at hl 0 rfl) ?_
            refine va_get (D := D) (ci := 9) (v := .int x_o_heldCount) (C := RX11) (T := TX11) (N := 19) hx hb hts iw_X11 hown hK hP 0 rfl rfl 13 (by decide) (hts _ kw_473) (fun _ h9 => h9) rfl dX11_told_75 ?_
            have hy9 := (Option.some.inj hF).symm
            subst hy9
            exact rt_i C0.1 hP hD hS dX11_told_78
          · replace hF := ite_f hF c_5
            by_cases c_6 : p_0 = (5 : Int32)
            · replace hF := ite_t hF c_6
              refine lv_tableIn (off := 78) (tgt := 79) hx hb dX11_told_1 (by rw [c_6]; decide) (by rw [c_6]; decide) (by rw [c_6]; rfl) (by decide) ?_
              refine lv_aload_n hx hb dX11_told_79 rfl (lv_at hl 0 rfl) ?_
              refine va_get (D := D) (ci := 9) (v := .int x_o_rightAnswers) (C := RX11) (T := TX11) (N := 19) hx hb hts iw_X11 hown hK hP 0 rfl rfl 14 (by decide) (hts _ kw_474) (fun _ h9 => h9) rfl dX11_told_80 ?_
              have hy9 := (Option.some.inj hF).symm
              subst hy9
              exact rt_i C0.1 hP hD hS dX11_told_83
            · replace hF := ite_f hF c_6
              by_cases c_7 : p_0 = (6 : Int32)
              · replace hF := ite_t hF c_7
                refine lv_tableIn (off := 83) (tgt := 84) hx hb dX11_told_1 (by rw [c_7]; decide) (by rw [c_7]; decide) (by rw [c_7]; rfl) (by decide) ?_
                refine lv_aload_n hx hb dX11_told_84 rfl (lv_at hl 0 rfl) ?_
                refine va_get (D := D) (ci := 9) (v := .int x_o_otherAnswers) (C := RX11) (T := TX11) (N := 19) hx hb hts iw_X11 hown hK hP 0 rfl rfl 15 (by decide) (hts _ kw_475) (fun _ h9 => h9) rfl dX11_told_85 ?_
                have hy9 := (Option.some.inj hF).symm
                subst hy9
                exact rt_i C0.1 hP hD hS dX11_told_88
              · replace hF := ite_f hF c_7
                by_cases c_8 : p_0 = (7 : Int32)
                · replace hF := ite_t hF c_8
                  refine lv_tableIn (off := 88) (tgt := 89) hx hb dX11_told_1 (by rw [c_8]; decide) (by rw [c_8]; decide) (by rw [c_8]; rfl) (by decide) ?_
                  refine lv_aload_n hx hb dX11_told_89 rfl (lv_at hl 0 rfl) ?_
                  refine va_get (D := D) (ci := 9) (v := .int x_o_looks) (C := RX11) (T := TX11) (N := 19) hx hb hts iw_X11 hown hK hP 0 rfl rfl 16 (by decide) (hts _ kw_476) (fun _ h9 => h9) rfl dX11_told_90 ?_
                  have hy9 := (Option.some.inj hF).symm
                  subst hy9
                  exact rt_i C0.1 hP hD hS dX11_told_93
                · replace hF := ite_f hF c_8
                  refine lv_tableOut (tgt := 94) hx hb dX11_told_1 (by
                    rcases Int.lt_or_le p_0.toInt 0 with h | h
                    · exact Or.inl h
                    · right
                      have e0 : p_0.toInt ≠ 0 := fun h => c_1 (Int32.toInt_inj.mp (by rw [h]; rfl))
                      have e1 : p_0.toInt ≠ 1 := fun h => c_2 (Int32.toInt_inj.mp (by rw [h]; rfl))
                      have e2 : p_0.toInt ≠ 2 := fun h => c_3 (Int32.toInt_inj.mp (by rw [h]; rfl))
                      have e3 : p_0.toInt ≠ 3 := fun h => c_4 (Int32.toInt_inj.mp (by rw [h]; rfl))
                      have e4 : p_0.toInt ≠ 4 := fun h => c_5 (Int32.toInt_inj.mp (by rw [h]; rfl))
                      have e5 : p_0.toInt ≠ 5 := fun h => c_6 (Int32.toInt_inj.mp (by rw [h]; rfl))
                      have e6 : p_0.toInt ≠ 6 := fun h => c_7 (Int32.toInt_inj.mp (by rw [h]; rfl))
                      have e7 : p_0.toInt ≠ 7 := fun h => c_8 (Int32.toInt_inj.mp (by rw [h]; rfl))
                      omega) (by decide) ?_
                  refine lv_bipush (v := (-2 : Int32)) hx hb dX11_told_94 (by decide) ?_
                  have hy9 := (Option.some.inj hF).symm
                  subst hy9
                  exact rt_i C0.1 hP hD hS dX11_told_96
