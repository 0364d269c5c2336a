set_option maxHeartbeats 4000000 in
set_option maxRecDepth 100000 in
theorem c_de_authorityAt_r (l : Launch) (D : va_G) (q : Nat → ClassId) (t : Nat) (a_o : Nat) (a_o_tape : Nat) (a_o_out : Nat) (a_o_ownNonce : Nat) (a_o_authorities : Nat) (a_o_signers : Nat) (a_o_shelf : Nat) (a_o_latest : Nat) (a_o_wanted : Nat) (a_o_scan : Nat) (a_o_askText : Nat) (a_o_answerText : Nat) (x_o_authorityCount : Int32) (x_o_signerCount : Int32) (x_o_heldCount : Int32) (x_o_rightAnswers : Int32) (x_o_otherAnswers : Int32) (x_o_looks : Int32) (x_o_latestVerdict : Int32) (x_o_findToHold : Int32) (r : Nat → Option Nat) (z : Int32) (b : Nat) (h1 : 0 ≤ z) (h2 : z < x_o_authorityCount) (h3 : ¬ (z < 0 ∨ 4 ≤ z.toNatClampNeg)) (h4 : r z.toNatClampNeg = some b) : cu l yX11_authorityAt (vs yX11_authorityAt cX11_authorityAt 2 (some (.object "StatusDesk$Authority"))) ({ frames := 0, cells := 0, slots := 0, locals := 0 }) D q t [.ref a_o, .int z] [oX11 a_o a_o_tape a_o_out a_o_ownNonce a_o_authorities a_o_signers a_o_shelf a_o_latest a_o_wanted a_o_scan a_o_askText a_o_answerText x_o_authorityCount x_o_signerCount x_o_heldCount x_o_rightAnswers x_o_otherAnswers x_o_looks x_o_latestVerdict x_o_findToHold, rO q 3 a_o_authorities 4 r] (qQ D q (some b) [oX11 a_o a_o_tape a_o_out a_o_ownNonce a_o_authorities a_o_signers a_o_shelf a_o_latest a_o_wanted a_o_scan a_o_askText a_o_answerText x_o_authorityCount x_o_signerCount x_o_heldCount x_o_rightAnswers x_o_otherAnswers x_o_looks x_o_latestVerdict x_o_findToHold, rO q 3 a_o_authorities 4 r]) := by
  refine cu_of (cc := cX11_authorityAt) (nL := 2) (ret := (some (.object "StatusDesk$Authority"))) (by decide) (Nat.le_of_ble_eq_true rfl) (fun {p e s m args below meth c A} C0 H locs ls hP hD hS hl => ?_)
  have C0 : cy p s m args meth c cX11_authorityAt (some (.object "StatusDesk$Authority")) 2 RX11 D q t A := C0
  obtain ⟨⟨hx, hb, hr, hml, hown, hts, hlocks, hK, hA⟩, hG⟩ := id C0
  have hl : lv_has ls 2 [(0, .ref a_o), (1, .int z)] := hl
  refine lv_iload_n hx hb dX11_authorityAt_0 rfl (lv_at hl 1 rfl) ?_
  refine lv_if_lt (tgt := 21) hx hb dX11_authorityAt_1 (by decide) (fun c1 => absurd (Or.inl c1) h3) (fun c1 => ?_)
  refine lv_iload_n hx hb dX11_authorityAt_4 rfl (lv_at hl 1 rfl) ?_
  refine lv_aload_n hx hb dX11_authorityAt_5 rfl (lv_at hl 0 rfl) ?_
  refine va_get (D := D) (ci := 9) (v := .int x_o_authorityCount) (C := RX11) (T := TX11) (N := 19) hx hb hts iw_X11 hown hK hP 0 rfl rfl 11 (by decide) (hts _ kw_471) (fun _ h9 => h9) rfl dX11_authorityAt_6 ?_
  refine lv_icmp_ge (tgt := 21) hx hb dX11_authorityAt_9 (by decide) (fun c2 => absurd h2 (Int32.not_lt.mpr c2)) (fun c2 => ?_)
  refine lv_aload_n hx hb dX11_authorityAt_12 rfl (lv_at hl 0 rfl) ?_
  refine va_get (D := D) (ci := 9) (v := .ref a_o_authorities) (C := RX11) (T := TX11) (N := 19) hx hb hts iw_X11 hown hK hP 0 rfl rfl 3 (by decide) (hts _ kw_463) (fun _ h9 => h9) rfl dX11_authorityAt_13 ?_
  refine lv_iload_n hx hb dX11_authorityAt_16 rfl (lv_at hl 1 rfl) ?_
  refine va_aldq hx hb hK hP 1 3 rfl rfl h3 dX11_authorityAt_17 ?_
  rw [show va_rf (r z.toNatClampNeg) = .ref b from congrArg va_rf h4]
  refine lv_goto (tgt := 22) hx hb dX11_authorityAt_18 (by decide) ?_
  exact rt_q (r := some b) C0.1 rfl hP hD hS dX11_authorityAt_22
set_option maxHeartbeats 4000000 in
set_option maxRecDepth 100000 in
theorem c_de_authorityAt_n (l : Launch) (D : va_G) (q : Nat → ClassId) (t : Nat) (a_o : Nat) (a_o_tape : Nat) (a_o_out : Nat) (a_o_ownNonce : Nat) (a_o_authorities : Nat) (a_o_signers : Nat) (a_o_shelf : Nat) (a_o_latest : Nat) (a_o_wanted : Nat) (a_o_scan : Nat) (a_o_askText : Nat) (a_o_answerText : Nat) (x_o_authorityCount : Int32) (x_o_signerCount : Int32) (x_o_heldCount : Int32) (x_o_rightAnswers : Int32) (x_o_otherAnswers : Int32) (x_o_looks : Int32) (x_o_latestVerdict : Int32) (x_o_findToHold : Int32) (r : Nat → Option Nat) (z : Int32) (h1 : ¬ (0 ≤ z ∧ z < x_o_authorityCount)) : cu l yX11_authorityAt (vs yX11_authorityAt cX11_authorityAt 2 (some (.object "StatusDesk$Authority"))) ({ frames := 0, cells := 0, slots := 0, locals := 0 }) D q t [.ref a_o, .int z] [oX11 a_o a_o_tape a_o_out a_o_ownNonce a_o_authorities a_o_signers a_o_shelf a_o_latest a_o_wanted a_o_scan a_o_askText a_o_answerText x_o_authorityCount x_o_signerCount x_o_heldCount x_o_rightAnswers x_o_otherAnswers x_o_looks x_o_latestVerdict x_o_findToHold, rO q 3 a_o_authorities 4 r] (qQ D q (none) [oX11 a_o a_o_tape a_o_out a_o_ownNonce a_o_authorities a_o_signers a_o_shelf a_o_latest a_o_wanted a_o_scan a_o_askText a_o_answerText x_o_authorityCount x_o_signerCount x_o_heldCount x_o_rightAnswers x_o_otherAnswers x_o_looks x_o_latestVerdict x_o_findToHold, rO q 3 a_o_authorities 4 r]) := by
  refine cu_of (cc := cX11_authorityAt) (nL := 2) (ret := (some (.object "StatusDesk$Authority"))) (by decide) (Nat.le_of_ble_eq_true rfl) (fun {p e s m args below meth c A} C0 H locs ls hP hD hS hl => ?_)
  have C0 : cy p s m args meth c cX11_authorityAt (some (.object "StatusDesk$Authority")) 2 RX11 D q t A := C0
  obtain ⟨⟨hx, hb, hr, hml, hown, hts, hlocks, hK, hA⟩, hG⟩ := id C0
  have hl : lv_has ls 2 [(0, .ref a_o), (1, .int z)] := hl
  refine lv_iload_n hx hb dX11_authorityAt_0 rfl (lv_at hl 1 rfl) ?_
  refine lv_if_lt (tgt := 21) hx hb dX11_authorityAt_1 (by decide) (fun c1 => ?_) (fun c1 => ?_)
  · refine lv_null hx hb dX11_authorityAt_21 ?_
    exact rt_q (r := none) C0.1 rfl hP hD hS dX11_authorityAt_22
  · refine lv_iload_n hx hb dX11_authorityAt_4 rfl (lv_at hl 1 rfl) ?_
    refine lv_aload_n hx hb dX11_authorityAt_5 rfl (lv_at hl 0 rfl) ?_
    refine va_get (D := D) (ci := 9) (v := .int x_o_authorityCount) (C := RX11) (T := TX11) (N := 19) hx hb hts iw_X11 hown hK hP 0 rfl rfl 11 (by decide) (hts _ kw_471) (fun _ h9 => h9) rfl dX11_authorityAt_6 ?_
    refine lv_icmp_ge (tgt := 21) hx hb dX11_authorityAt_9 (by decide) (fun c2 => ?_) (fun c2 => absurd ⟨Int32.not_lt.mp c1, Int32.not_le.mp c2⟩ h1)
    refine lv_null hx hb dX11_authorityAt_21 ?_
    exact rt_q (r := none) C0.1 rfl hP hD hS dX11_authorityAt_22
set_option maxHeartbeats 4000000 in
set_option maxRecDepth 100000 in
theorem c_de_signerAt_r (l : Launch) (D : va_G) (q : Nat → ClassId) (t : Nat) (a_o : Nat) (a_o_tape : Nat) (a_o_out : Nat) (a_o_ownNonce : Nat) (a_o_authorities : Nat) (a_o_signers : Nat) (a_o_shelf : Nat) (a_o_latest : Nat) (a_o_wanted : Nat) (a_o_scan : Nat) (a_o_askText : Nat) (a_o_answerText : Nat) (x_o_authorityCount : Int32) (x_o_signerCount : Int32) (x_o_heldCount : Int32) (x_o_rightAnswers : Int32) (x_o_otherAnswers : Int32) (x_o_looks : Int32) (x_o_latestVerdict : Int32) (x_o_findToHold : Int32) (r : Nat → Option Nat) (z : Int32) (b : Nat) (h1 : 0 ≤ z) (h2 : z < x_o_signerCount) (h3 : ¬ (z < 0 ∨ 8 ≤ z.toNatClampNeg)) (h4 : r z.toNatClampNeg = some b) : cu l yX11_signerAt (vs yX11_signerAt cX11_signerAt 2 (some (.object "StatusDesk$Signer"))) ({ frames := 0, cells := 0, slots := 0, locals := 0 }) D q t [.ref a_o, .int z] [oX11 a_o a_o_tape a_o_out a_o_ownNonce a_o_authorities a_o_signers a_o_shelf a_o_latest a_o_wanted a_o_scan a_o_askText a_o_answerText x_o_authorityCount x_o_signerCount x_o_heldCount x_o_rightAnswers x_o_otherAnswers x_o_looks x_o_latestVerdict x_o_findToHold, rO q 5 a_o_signers 8 r] (qQ D q (some b) [oX11 a_o a_o_tape a_o_out a_o_ownNonce a_o_authorities a_o_signers a_o_shelf a_o_latest a_o_wanted a_o_scan a_o_askText a_o_answerText x_o_authorityCount x_o_signerCount x_o_heldCount x_o_rightAnswers x_o_otherAnswers x_o_looks x_o_latestVerdict x_o_findToHold, rO q 5 a_o_signers 8 r]) := by
  refine cu_of (cc := cX11_signerAt) (nL := 2) (ret := (some (.object "StatusDesk$Signer"))) (by decide) (Nat.le_of_ble_eq_true rfl) (fun {p e s m args below meth c A} C0 H locs ls hP hD hS hl => ?_)
  have C0 : cy p s m args meth c cX11_signerAt (some (.object "StatusDesk$Signer")) 2 RX11 D q t A := C0
  obtain ⟨⟨hx, hb, hr, hml, hown, hts, hlocks, hK, hA⟩, hG⟩ := id C0
  have hl : lv_has ls 2 [(0, .ref a_o), (1, .int z)] := hl
  refine lv_iload_n hx hb dX11_signerAt_0 rfl (lv_at hl 1 rfl) ?_
  refine lv_if_lt (tgt := 21) hx hb dX11_signerAt_1 (by decide) (fun c1 => absurd (Or.inl c1) h3) (fun c1 => ?_)
  refine lv_iload_n hx hb dX11_signerAt_4 rfl (lv_at hl 1 rfl) ?_
  refine lv_aload_n hx hb dX11_signerAt_5 rfl (lv_at hl 0 rfl) ?_
  refine va_get (D := D) (ci := 9) (v := .int x_o_signerCount) (C := RX11) (T := TX11) (N := 19) hx hb hts iw_X11 hown hK hP 0 rfl rfl 12 (by decide) (hts _ kw_472) (fun _ h9 => h9) rfl dX11_signerAt_6 ?_
  refine lv_icmp_ge (tgt := 21) hx hb dX11_signerAt_9 (by decide) (fun c2 => absurd h2 (Int32.not_lt.mpr c2)) (fun c2 => ?_)
  refine lv_aload_n hx hb dX11_signerAt_12 rfl (lv_at hl 0 rfl) ?_
  refine va_get (D := D) (ci := 9) (v := .ref a_o_signers) (C := RX11) (T := TX11) (N := 19) hx hb hts iw_X11 hown hK hP 0 rfl rfl 4 (by decide) (hts _ kw_464) (fun _ h9 => h9) rfl dX11_signerAt_13 ?_
  refine lv_iload_n hx hb dX11_signerAt_16 rfl (lv_at hl 1 rfl) ?_
  refine va_aldq hx hb hK hP 1 5 rfl rfl h3 dX11_signerAt_17 ?_
  rw [show va_rf (r z.toNatClampNeg) = .ref b from congrArg va_rf h4]
  refine lv_goto (tgt := 22) hx hb dX11_signerAt_18 (by decide) ?_
  exact rt_q (r := some b) C0.1 rfl hP hD hS dX11_signerAt_22
set_option maxHeartbeats 4000000 in
set_option maxRecDepth 100000 in
theorem c_de_signerAt_n (l : Launch) (D : va_G) (q : Nat → ClassId) (t : Nat) (a_o : Nat) (a_o_tape : Nat) (a_o_out : Nat) (a_o_ownNonce : Nat) (a_o_authorities : Nat) (a_o_signers : Nat) (a_o_shelf : Nat) (a_o_latest : Nat) (a_o_wanted : Nat) (a_o_scan : Nat) (a_o_askText : Nat) (a_o_answerText : Nat) (x_o_authorityCount : Int32) (x_o_signerCount : Int32) (x_o_heldCount : Int32) (x_o_rightAnswers : Int32) (x_o_otherAnswers : Int32) (x_o_looks : Int32) (x_o_latestVerdict : Int32) (x_o_findToHold : Int32) (r : Nat → Option Nat) (z : Int32) (h1 : ¬ (0 ≤ z ∧ z < x_o_signerCount)) : cu l yX11_signerAt (vs yX11_signerAt cX11_signerAt 2 (some (.object "StatusDesk$Signer"))) ({ frames := 0, cells := 0, slots := 0, locals := 0 }) D q t [.ref a_o, .int z] [oX11 a_o a_o_tape a_o_out a_o_ownNonce a_o_authorities a_o_signers a_o_shelf a_o_latest a_o_wanted a_o_scan a_o_askText a_o_answerText x_o_authorityCount x_o_signerCount x_o_heldCount x_o_rightAnswers x_o_otherAnswers x_o_looks x_o_latestVerdict x_o_findToHold, rO q 5 a_o_signers 8 r] (qQ D q (none) [oX11 a_o a_o_tape a_o_out a_o_ownNonce a_o_authorities a_o_signers a_o_shelf a_o_latest a_o_wanted a_o_scan a_o_askText a_o_answerText x_o_authorityCount x_o_signerCount x_o_heldCount x_o_rightAnswers x_o_otherAnswers x_o_looks x_o_latestVerdict x_o_findToHold, rO q 5 a_o_signers 8 r]) := by
  refine cu_of (cc := cX11_signerAt) (nL := 2) (ret := (some (.object "StatusDesk$Signer"))) (by decide) (Nat.le_of_ble_eq_true rfl) (fun {p e s m args below meth c A} C0 H locs ls hP hD hS hl => ?_)
  have C0 : cy p s m args meth c cX11_signerAt (some (.object "StatusDesk$Signer")) 2 RX11 D q t A := C0
  obtain ⟨⟨hx, hb, hr, hml, hown, hts, hlocks, hK, hA⟩, hG⟩ := id C0
  have hl : lv_has ls 2 [(0, .ref a_o), (1, .int z)] := hl
  refine lv_iload_n hx hb dX11_signerAt_0 rfl (lv_at hl 1 rfl) ?_
  refine lv_if_lt (tgt := 21) hx hb dX11_signerAt_1 (by decide) (fun c1 => ?_) (fun c1 => ?_)
  · refine lv_null hx hb dX11_signerAt_21 ?_
    exact rt_q (r := none) C0.1 rfl hP hD hS dX11_signerAt_22
  · refine lv_iload_n hx hb dX11_signerAt_4 rfl (lv_at hl 1 rfl) ?_
    refine lv_aload_n hx hb dX11_signerAt_5 rfl (lv_at hl 0 rfl) ?_
    refine va_get (D := D) (ci := 9) (v := .int x_o_signerCount) (C := RX11) (T := TX11) (N := 19) hx hb hts iw_X11 hown hK hP 0 rfl rfl 12 (by decide) (hts _ kw_472) (fun _ h9 => h9) rfl dX11_signerAt_6 ?_
    refine lv_icmp_ge (tgt := 21) hx hb dX11_signerAt_9 (by decide) (fun c2 => ?_) (fun c2 => absurd ⟨Int32.not_lt.mp c1, Int32.not_le.mp c2⟩ h1)
    refine lv_null hx hb dX11_signerAt_21 ?_
    exact rt_q (r := none) C0.1 rfl hP hD hS dX11_signerAt_22
set_option maxHeartbeats 4000000 in
set_option maxRecDepth 100000 in
theorem c_sc_fail (l : Launch) (D : va_G) (q : Nat → ClassId) (t : Nat) (a_o : Nat) (a_o_outerEnds : Nat) (a_o_data : Nat) (x_o_depth : Int32) (x_o_end : Int32) (x_o_at : Int32) (x_o_place : Int32) (x_o_size : Int32) (x_o_fault : Int32) (x_o_items : Int32)  (y : Int32 × Int32) (hF : f_sc_fail x_o_fault x_o_place x_o_size = some y)  : cu l yX8_fail (vs yX8_fail cX8_fail 1 none) ({ frames := 0, cells := 0, slots := 0, locals := 0 }) D q t [.ref a_o] [oX8 a_o a_o_outerEnds a_o_data x_o_depth x_o_end x_o_at x_o_place x_o_size x_o_fault x_o_items] (qV D q [oX8 a_o a_o_outerEnds a_o_data x_o_depth x_o_end x_o_at x_o_place y.2 y.1 x_o_items]) := by
  refine cu_of (cc := cX8_fail) (nL := 1) (ret := none) (by decide) (Nat.le_of_ble_eq_true rfl) (fun {p e s m args below meth c A} C0 H locs ls hP hD hS hl => ?_)
  have C0 : cy p s m args meth c cX8_fail none 1 RX8 D q t A := C0
  obtain ⟨⟨hx, hb, hr, hml, hown, hts, hlocks, hK, hA⟩, hG⟩ := id C0
  have hl : lv_has ls 1 [(0, .ref a_o)] := hl
  unfold f_sc_fail at hF
  refine lv_aload_n hx hb dX8_fail_0 rfl (lv_at hl 0 rfl) ?_
  refine va_get (D := D) (ci := 7) (v := .int x_o_fault) (C := RX8) (T := TX8) (N := 9) hx hb hts iw_X8 hown hK hP 0 rfl rfl 7 (by decide) (hts _ kw_206) (fun _ h9 => h9) rfl dX8_fail_1 ?_
  refine lv_iconst (v := (-1 : Int32)) hx hb dX8_fail_4 (by decide) ?_
  refine lv_icmp_ne (tgt := 16) hx hb dX8_fail_5 (by decide) (fun c_1 => ?_) (fun c_1 => ?_)
  · replace hF := ite_f hF c_1
    refine lv_aload_n hx hb dX8_fail_16 rfl (lv_at hl 0 rfl) ?_
    refine lv_iconst (v := (0 : Int32)) hx hb dX8_fail_17 (by decide) ?_
    refine va_put (D := D) (ci := 7) (v := .int (0 : Int32)) (ty := .int) (C := RX8) (T := TX8) (N := 9) hx hb hts iw_X8 tyX8 tyX8_ok nmX8 hown hK hP hD hS 0 rfl rfl 6 (by decide) (hts _ kw_202) (fun _ h9 => h9) rfl (by decide +kernel) rfl rfl (Nat.le_of_ble_eq_true rfl) dX8_fail_18 (fun H locs hP hD hS => ?_)
    have hP : va_P D vwCl ([oX8 a_o a_o_outerEnds a_o_data x_o_depth x_o_end x_o_at x_o_place (0 : Int32) x_o_fault x_o_items]) H := hP
    have hD : va_D A ([oX8 a_o a_o_outerEnds a_o_data x_o_depth x_o_end x_o_at x_o_place (0 : Int32) x_o_fault x_o_items]) := hD
    have hy9 := (Option.some.inj hF).symm
    subst hy9
    exact rt_v C0.1 hP hD hS dX8_fail_21
  · replace hF := ite_t hF c_1
    refine lv_aload_n hx hb dX8_fail_8 rfl (lv_at hl 0 rfl) ?_
    refine lv_aload_n hx hb dX8_fail_9 rfl (lv_at hl 0 rfl) ?_
    refine va_get (D := D) (ci := 7) (v := .int x_o_place) (C := RX8) (T := TX8) (N := 9) hx hb hts iw_X8 hown hK hP 0 rfl rfl 5 (by decide) (hts _ kw_201) (fun _ h9 => h9) rfl dX8_fail_10 ?_
    refine va_put (D := D) (ci := 7) (v := .int x_o_place) (ty := .int) (C := RX8) (T := TX8) (N := 9) hx hb hts iw_X8 tyX8 tyX8_ok nmX8 hown hK hP hD hS 0 rfl rfl 7 (by decide) (hts _ kw_206) (fun _ h9 => h9) rfl (by decide +kernel) rfl rfl (Nat.le_of_ble_eq_true rfl) dX8_fail_13 (fun H locs hP hD hS => ?_)
    have hP : va_P D vwCl ([oX8 a_o a_o_outerEnds a_o_data x_o_depth x_o_end x_o_at x_o_place x_o_size x_o_place x_o_items]) H := hP
    have hD : va_D A ([oX8 a_o a_o_outerEnds a_o_data x_o_depth x_o_end x_o_at x_o_place x_o_size x_o_place x_o_items]) := hD
    refine lv_aload_n hx hb dX8_fail_16 rfl (lv_at hl 0 rfl) ?_
    refine lv_iconst (v := (0 : Int32)) hx hb dX8_fail_17 (by decide) ?_
    refine va_put (D := D) (ci := 7) (v := .int (0 : Int32)) (ty := .int) (C := RX8) (T := TX8) (N := 9) hx hb hts iw_X8 tyX8 tyX8_ok nmX8 hown hK hP hD hS 0 rfl rfl 6 (by decide) (hts _ kw_202) (fun _ h9 => h9) rfl (by decide +kernel) rfl rfl (Nat.le_of_ble_eq_true rfl) dX8_fail_18 (fun H locs hP hD hS => ?_)
    have hP : va_P D vwCl ([oX8 a_o a_o_outerEnds a_o_data x_o_depth x_o_end x_o_at x_o_place (0 : Int32) x_o_place x_o_items]) H := hP
    have hD : va_D A ([oX8 a_o a_o_outerEnds a_o_data x_o_depth x_o_end x_o_at x_o_place (0 : Int32) x_o_place x_o_items]) := hD
    have hy9 := (Option.some.inj hF).symm
    subst hy9
    exact rt_v C0.1 hP hD hS dX8_fail_21
set_option maxHeartbeats 4000000 in
set_option maxRecDepth 100000 in
theorem c_sc_hasMore (l : Launch) (D : va_G) (q : Nat → ClassId) (t : Nat) (a_o : Nat) (a_o_outerEnds : Nat) (a_o_data : Nat) (x_o_depth : Int32) (x_o_end : Int32) (x_o_at : Int32) (x_o_place : Int32) (x_o_size : Int32) (x_o_fault : Int32) (x_o_items : Int32)  (y : Int32) (hF : f_sc_hasMore x_o_at x_o_end x_o_fault = some y)  : cu l yX8_hasMore (vs yX8_hasMore cX8_hasMore 1 (some .boolean)) ({ frames := 0, cells := 0, slots := 0, locals := 0 }) D q t [.ref a_o] [oX8 a_o a_o_outerEnds a_o_data x_o_depth x_o_end x_o_at x_o_place x_o_size x_o_fault x_o_items] (qI D q y [oX8 a_o a_o_outerEnds a_o_data x_o_depth x_o_end x_o_at x_o_place x_o_size x_o_fault x_o_items]) := by
  refine cu_of (cc := cX8_hasMore) (nL := 1) (ret := (some .boolean)) (by decide) (Nat.le_of_ble_eq_true rfl) (fun {p e s m args below meth c A} C0 H locs ls hP hD hS hl => ?_)
  have C0 : cy p s m args meth c cX8_hasMore (some .boolean) 1 RX8 D q t A := C0
  obtain ⟨⟨hx, hb, hr, hml, hown, hts, hlocks, hK, hA⟩, hG⟩ := id C0
  have hl : lv_has ls 1 [(0, .ref a_o)] := hl
  unfold f_sc_hasMore at hF
  refine lv_aload_n hx hb dX8_hasMore_0 rfl (lv_at hl 0 rfl) ?_
  refine va_get (D := D) (ci := 7) (v := .int x_o_fault) (C := RX8) (T := TX8) (N := 9) hx hb hts iw_X8 hown hK hP 0 rfl rfl 7 (by decide) (hts _ kw_206) (fun _ h9 => h9) rfl dX8_hasMore_1 ?_
  refine lv_iconst (v := (-1 : Int32)) hx hb dX8_hasMore_4 (by decide) ?_
  refine lv_icmp_ne (tgt := 23) hx hb dX8_hasMore_5 (by decide) (fun c_1 => ?_) (fun c_1 => ?_)
  · replace hF := ite_f hF c_1
    refine lv_iconst (v := (0 : Int32)) hx hb dX8_hasMore_23 (by decide) ?_
    have hy9 := (Option.some.inj hF).symm
    subst hy9
    exact rt_z (v := (0 : Int32)) C0.1 rfl hP hD hS dX8_hasMore_24
  · replace hF := ite_t hF c_1
    refine lv_aload_n hx hb dX8_hasMore_8 rfl (lv_at hl 0 rfl) ?_
    refine va_get (D := D) (ci := 7) (v := .int x_o_at) (C := RX8) (T := TX8) (N := 9) hx hb hts iw_X8 hown hK hP 0 rfl rfl 4 (by decide) (hts _ kw_199) (fun _ h9 => h9) rfl dX8_hasMore_9 ?_
    refine lv_aload_n hx hb dX8_hasMore_12 rfl (lv_at hl 0 rfl) ?_
    refine va_get (D := D) (ci := 7) (v := .int x_o_end) (C := RX8) (T := TX8) (N := 9) hx hb hts iw_X8 hown hK hP 0 rfl rfl 3 (by decide) (hts _ kw_197) (fun _ h9 => h9) rfl dX8_hasMore_13 ?_
    refine lv_icmp_ge (tgt := 23) hx hb dX8_hasMore_16 (by decide) (fun c_2 => ?_) (fun c_2 => ?_)
    · replace hF := ite_t hF c_2
      refine lv_iconst (v := (0 : Int32)) hx hb dX8_hasMore_23 (by decide) ?_
      have hy9 := (Option.some.inj hF).symm
      subst hy9
      exact rt_z (v := (0 : Int32)) C0.1 rfl hP hD hS dX8_hasMore_24
    · replace hF := ite_f hF c_2
      refine lv_iconst (v := (1 : Int32)) hx hb dX8_hasMore_19 (by decide) ?_
      refine lv_goto (tgt := 24) hx hb dX8_hasMore_20 (by decide) ?_
      have hy9 := (Option.some.inj hF).symm
      subst hy9
      exact rt_z (v := (1 : Int32)) C0.1 rfl hP hD hS dX8_hasMore_24
set_option maxHeartbeats 4000000 in
set_option maxRecDepth 100000 in
theorem c_sc_endText (l : Launch) (D : va_G) (q : Nat → ClassId) (t : Nat) (a_o : Nat) (a_o_outerEnds : Nat) (a_o_data : Nat) (x_o_depth : Int32) (x_o_end : Int32) (x_o_at : Int32) (x_o_place : Int32) (x_o_size : Int32) (x_o_fault : Int32) (x_o_items : Int32)  (y : Int32 × Int32 × Int32) (hF : f_sc_endText x_o_at x_o_end x_o_fault x_o_place x_o_size = some y)  : cu l yX8_endText (vs yX8_endText cX8_endText 1 none) ({ frames := 1, cells := 0, slots := 0, locals := 20 }) D q t [.ref a_o] [oX8 a_o a_o_outerEnds a_o_data x_o_depth x_o_end x_o_at x_o_place x_o_size x_o_fault x_o_items] (qV D q [oX8 a_o a_o_outerEnds a_o_data x_o_depth x_o_end x_o_at y.2.1 y.2.2 y.1 x_o_items]) := by
  refine cu_of (cc := cX8_endText) (nL := 1) (ret := none) (by decide) (Nat.le_of_ble_eq_true rfl) (fun {p e s m args below meth c A} C0 H locs ls hP hD hS hl => ?_)
  have C0 : cy p s m args meth c cX8_endText none 1 RX8 D q t A := C0
  obtain ⟨⟨hx, hb, hr, hml, hown, hts, hlocks, hK, hA⟩, hG⟩ := id C0
  have hl : lv_has ls 1 [(0, .ref a_o)] := hl
  unfold f_sc_endText at hF
  refine lv_aload_n hx hb dX8_endText_0 rfl (lv_at hl 0 rfl) ?_
  obtain ⟨y_1, hy_1, hF⟩ := cal_d hF
  refine cf_i C0.1 hP hD hS [0] [] [0] (wr := []) (w' := [oX8 a_o a_o_outerEnds a_o_data x_o_depth x_o_end x_o_at x_o_place x_o_size x_o_fault x_o_items]) rfl rfl rfl (by decide) rfl rfl (sn_V (As := []) (rest := []) (ci := 7) (q0 := 0) C0 (c_sc_hasMore l D q t a_o a_o_outerEnds a_o_data x_o_depth x_o_end x_o_at x_o_place x_o_size x_o_fault x_o_items  y_1 hy_1) (cwV 0 hts (g_V kw_846 kw_817 kw_818 kw_77 kw_819) rfl rfl rfl hd_X8_hasMore ⟨Nat.le_of_ble_eq_true rfl, Nat.le_of_ble_eq_true rfl⟩) hP hD hS [0] rfl rfl rfl rfl rfl rfl hl (Nat.le_of_ble_eq_true rfl) dX8_endText_1) (fun H locs hP hD hS => ?_)
  refine lv_if_eq (tgt := 19) hx hb dX8_endText_4 (by decide) (fun c_2 => ?_) (fun c_2 => ?_)
  · replace hF := ite_t hF c_2
    have hy9 := (Option.some.inj hF).symm
    subst hy9
    exact rt_v C0.1 hP hD hS dX8_endText_19
  · replace hF := ite_f hF c_2
    refine lv_aload_n hx hb dX8_endText_7 rfl (lv_at hl 0 rfl) ?_
    refine lv_aload_n hx hb dX8_endText_8 rfl (lv_at hl 0 rfl) ?_
    refine va_get (D := D) (ci := 7) (v := .int x_o_at) (C := RX8) (T := TX8) (N := 9) hx hb hts iw_X8 hown hK hP 0 rfl rfl 4 (by decide) (hts _ kw_199) (fun _ h9 => h9) rfl dX8_endText_9 ?_
    refine va_put (D := D) (ci := 7) (v := .int x_o_at) (ty := .int) (C := RX8) (T := TX8) (N := 9) hx hb hts iw_X8 tyX8 tyX8_ok nmX8 hown hK hP hD hS 0 rfl rfl 5 (by decide) (hts _ kw_201) (fun _ h9 => h9) rfl (by decide +kernel) rfl rfl (Nat.le_of_ble_eq_true rfl) dX8_endText_12 (fun H locs hP hD hS => ?_)
    have hP : va_P D vwCl ([oX8 a_o a_o_outerEnds a_o_data x_o_depth x_o_end x_o_at x_o_at x_o_size x_o_fault x_o_items]) H := hP
    have hD : va_D A ([oX8 a_o a_o_outerEnds a_o_data x_o_depth x_o_end x_o_at x_o_at x_o_size x_o_fault x_o_items]) := hD
    refine lv_aload_n hx hb dX8_endText_15 rfl (lv_at hl 0 rfl) ?_
    obtain ⟨y_3, hy_3, hF⟩ := cal_d hF
    refine cf_v C0.1 hP hD hS [0] [] [0] (wr := []) (w' := [oX8 a_o a_o_outerEnds a_o_data x_o_depth x_o_end x_o_at x_o_at y_3.2 y_3.1 x_o_items]) rfl rfl rfl (by decide) rfl rfl (sn_V (As := []) (rest := []) (ci := 7) (q0 := 0) C0 (c_sc_fail l D q t a_o a_o_outerEnds a_o_data x_o_depth x_o_end x_o_at x_o_at x_o_size x_o_fault x_o_items  y_3 hy_3) (cwV 0 hts (g_V kw_812 kw_813 kw_814 kw_77 kw_815) rfl rfl rfl hd_X8_fail ⟨Nat.le_of_ble_eq_true rfl, Nat.le_of_ble_eq_true rfl⟩) hP hD hS [0] rfl rfl rfl rfl rfl rfl hl (Nat.le_of_ble_eq_true rfl) dX8_endText_16) (fun H locs hP hD hS => ?_)
    have hy9 := (Option.some.inj hF).symm
    subst hy9
    exact rt_v C0.1 hP hD hS dX8_endText_19
set_option maxHeartbeats 4000000 in
set_option maxRecDepth 100000 in
theorem c_sc_close (l : Launch) (D : va_G) (q : Nat → ClassId) (t : Nat) (a_o : Nat) (a_o_data : Nat) (x_o_depth : Int32) (x_o_end : Int32) (x_o_at : Int32) (x_o_place : Int32) (x_o_size : Int32) (x_o_fault : Int32) (x_o_items : Int32) (a_o_outerEnds : Nat) (r_o_outerEnds : (Nat → Int32))  (y : Int32 × Int32 × Int32 × Int32 × Int32) (hF : f_sc_close x_o_at x_o_depth x_o_end x_o_fault r_o_outerEnds x_o_place x_o_size = some y)  : cu l yX8_close (vs yX8_close cX8_close 1 none) ({ frames := 2, cells := 0, slots := 0, locals := 40 }) D q t [.ref a_o] [oX8 a_o a_o_outerEnds a_o_data x_o_depth x_o_end x_o_at x_o_place x_o_size x_o_fault x_o_items, rI q a_o_outerEnds 12 r_o_outerEnds] (qV D q [oX8 a_o a_o_outerEnds a_o_data y.1 y.2.1 x_o_at y.2.2.2.1 y.2.2.2.2 y.2.2.1 x_o_items, rI q a_o_outerEnds 12 r_o_outerEnds]) := by
  refine cu_of (cc := cX8_close) (nL := 1) (ret := none) (by decide) (Nat.le_of_ble_eq_true rfl) (fun {p e s m args below meth c A} C0 H locs ls hP hD hS hl => ?_)
  have C0 : cy p s m args meth c cX8_close none 1 RX8 D q t A := C0
  obtain ⟨⟨hx, hb, hr, hml, hown, hts, hlocks, hK, hA⟩, hG⟩ := id C0
  have hl : lv_has ls 1 [(0, .ref a_o)] := hl
  unfold f_sc_close at hF
  refine lv_aload_n hx hb dX8_close_0 rfl (lv_at hl 0 rfl) ?_
  obtain ⟨y_1, hy_1, hF⟩ := cal_d hF
  refine cf_v C0.1 hP hD hS [0] [1] [1, 0] (wr := [rI q a_o_outerEnds 12 r_o_outerEnds]) (w' := [oX8 a_o a_o_outerEnds a_o_data x_o_depth x_o_end x_o_at y_1.2.1 y_1.2.2 y_1.1 x_o_items, rI q a_o_outerEnds 12 r_o_outerEnds]) rfl rfl rfl (by decide) rfl rfl (sn_V (As := []) (rest := []) (ci := 7) (q0 := 0) C0 (c_sc_endText l D q t a_o a_o_outerEnds a_o_data x_o_depth x_o_end x_o_at x_o_place x_o_size x_o_fault x_o_items  y_1 hy_1) (cwV 0 hts (g_V kw_842 kw_843 kw_844 kw_77 kw_845) rfl rfl rfl hd_X8_endText ⟨Nat.le_of_ble_eq_true rfl, Nat.le_of_ble_eq_true rfl⟩) hP hD hS [0] rfl rfl rfl rfl rfl rfl hl (Nat.le_of_ble_eq_true rfl) dX8_close_1) (fun H locs hP hD hS => ?_)
  refine lv_aload_n hx hb dX8_close_4 rfl (lv_at hl 0 rfl) ?_
  refine va_get (D := D) (ci := 7) (v := .int y_1.1) (C := RX8) (T := TX8) (N := 9) hx hb hts iw_X8 hown hK hP 0 rfl rfl 7 (by decide) (hts _ kw_206) (fun _ h9 => h9) rfl dX8_close_5 ?_
  refine lv_iconst (v := (-1 : Int32)) hx hb dX8_close_8 (by decide) ?_
  refine lv_icmp_ne (tgt := 42) hx hb dX8_close_9 (by decide) (fun c_2 => ?_) (fun c_2 => ?_)
  · replace hF := ite_f hF c_2
    have hy9 := (Option.some.inj hF).symm
    subst hy9
    exact rt_v C0.1 hP hD hS dX8_close_42
  · replace hF := ite_t hF c_2
    refine lv_aload_n hx hb dX8_close_12 rfl (lv_at hl 0 rfl) ?_
    refine va_get (D := D) (ci := 7) (v := .int x_o_depth) (C := RX8) (T := TX8) (N := 9) hx hb hts iw_X8 hown hK hP 0 rfl rfl 2 (by decide) (hts _ kw_196) (fun _ h9 => h9) rfl dX8_close_13 ?_
    refine lv_if_le (tgt := 42) hx hb dX8_close_16 (by decide) (fun c_3 => ?_) (fun c_3 => ?_)
    · replace hF := ite_t hF c_3
      have hy9 := (Option.some.inj hF).symm
      subst hy9
      exact rt_v C0.1 hP hD hS dX8_close_42
    · replace hF := ite_f hF c_3
      refine lv_aload_n hx hb dX8_close_19 rfl (lv_at hl 0 rfl) ?_
      refine lv_dup hx hb dX8_close_20 rfl ?_
      refine va_get (D := D) (ci := 7) (v := .int x_o_depth) (C := RX8) (T := TX8) (N := 9) hx hb hts iw_X8 hown hK hP 0 rfl rfl 2 (by decide) (hts _ kw_196) (fun _ h9 => h9) rfl dX8_close_21 ?_
      refine lv_iconst (v := (1 : Int32)) hx hb dX8_close_24 (by decide) ?_
      refine lv_isub hx hb dX8_close_25 ?_
      refine lv_topi (fun x_o_depth_4 e_x_o_depth_4 => ?_)
      replace hF := bnd_d hF e_x_o_depth_4
      refine va_put (D := D) (ci := 7) (v := .int x_o_depth_4) (ty := .int) (C := RX8) (T := TX8) (N := 9) hx hb hts iw_X8 tyX8 tyX8_ok nmX8 hown hK hP hD hS 0 rfl rfl 2 (by decide) (hts _ kw_196) (fun _ h9 => h9) rfl (by decide +kernel) rfl rfl (Nat.le_of_ble_eq_true rfl) dX8_close_26 (fun H locs hP hD hS => ?_)
      have hP : va_P D vwCl ([oX8 a_o a_o_outerEnds a_o_data x_o_depth_4 x_o_end x_o_at y_1.2.1 y_1.2.2 y_1.1 x_o_items, rI q a_o_outerEnds 12 r_o_outerEnds]) H := hP
      have hD : va_D A ([oX8 a_o a_o_outerEnds a_o_data x_o_depth_4 x_o_end x_o_at y_1.2.1 y_1.2.2 y_1.1 x_o_items, rI q a_o_outerEnds 12 r_o_outerEnds]) := hD
      refine lv_aload_n hx hb dX8_close_29 rfl (lv_at hl 0 rfl) ?_
      refine lv_aload_n hx hb dX8_close_30 rfl (lv_at hl 0 rfl) ?_
      refine va_get (D := D) (ci := 7) (v := .ref a_o_outerEnds) (C := RX8) (T := TX8) (N := 9) hx hb hts iw_X8 hown hK hP 0 rfl rfl 0 (by decide) (hts _ kw_194) (fun _ h9 => h9) rfl dX8_close_31 ?_
      refine lv_aload_n hx hb dX8_close_34 rfl (lv_at hl 0 rfl) ?_
      refine va_get (D := D) (ci := 7) (v := .int x_o_depth_4) (C := RX8) (T := TX8) (N := 9) hx hb hts iw_X8 hown hK hP 0 rfl rfl 2 (by decide) (hts _ kw_196) (fun _ h9 => h9) rfl dX8_close_35 ?_
      obtain ⟨z_5, hF⟩ := chk_d hF
      refine va_iald hx hb hK hP 1 1 rfl rfl z_5 dX8_close_38 ?_
      refine lv_topi (fun x_o_end_6 e_x_o_end_6 => ?_)
      replace hF := bnd_d hF e_x_o_end_6
      refine va_put (D := D) (ci := 7) (v := .int x_o_end_6) (ty := .int) (C := RX8) (T := TX8) (N := 9) hx hb hts iw_X8 tyX8 tyX8_ok nmX8 hown hK hP hD hS 0 rfl rfl 3 (by decide) (hts _ kw_197) (fun _ h9 => h9) rfl (by decide +kernel) rfl rfl (Nat.le_of_ble_eq_true rfl) dX8_close_39 (fun H locs hP hD hS => ?_)
      have hP : va_P D vwCl ([oX8 a_o a_o_outerEnds a_o_data x_o_depth_4 x_o_end_6 x_o_at y_1.2.1 y_1.2.2 y_1.1 x_o_items, rI q a_o_outerEnds 12 r_o_outerEnds]) H := hP
      have hD : va_D A ([oX8 a_o a_o_outerEnds a_o_data x_o_depth_4 x_o_end_6 x_o_at y_1.2.1 y_1.2.2 y_1.1 x_o_items, rI q a_o_outerEnds 12 r_o_outerEnds]) := hD
      have hy9 := (Option.some.inj hF).symm
      subst hy9
      exact rt_v C0.1 hP hD hS dX8_close_42
set_option maxHeartbeats 4000000 in
set_option maxRecDepth 100000 in
theorem w_sc_passLength_153 {l : Launch} {p : Program} {e : Env} {s : State} {m : MethodId} {args : Array Value} {below : List Frame} {meth : Method} {c : Code} {A : Nat → Prop} {D : va_G} {q : Nat → ClassId} {t : Nat} (C0 : cy p s m args meth c cX8_passLength (some .boolean) 6 RX8 D q t A) (a_o : Nat) (a_o_outerEnds : Nat) (a_o_data : Nat) (n_o_data : Nat)  (x_o_depth : Int32) (x_o_end : Int32) (x_o_at : Int32) (x_o_place : Int32) (x_o_size : Int32) (x_o_fault : Int32) (x_o_items : Int32) (r_o_data : (Nat → Int32)) (v_1 : Int32) (v_3 : Int32) (v_4 : Int32) (s_0 : Int32) (y : Int32 × Int32 × Int32) (hF : j_sc_passLength_153 x_o_at r_o_data x_o_end x_o_size n_o_data v_1 v_3 v_4 s_0 = some y) : ∀ (H : Heap) (locs : List Loc) (ls : Array Slot), va_P D vwCl [oX8 a_o a_o_outerEnds a_o_data x_o_depth x_o_end x_o_at x_o_place x_o_size x_o_fault x_o_items, rB q a_o_data n_o_data r_o_data] H → va_D A [oX8 a_o a_o_outerEnds a_o_data x_o_depth x_o_end x_o_at x_o_place x_o_size x_o_fault x_o_items, rB q a_o_data n_o_data r_o_data] → va_S A s.heap H locs → lv_has ls 6 [(0, .ref a_o), (1, .int v_1), (3, .int v_3), (4, .int v_4)] → W p l e ({ frames := 0, cells := 0, slots := 0, locals := 0 }) s m args below meth c H locs 0 0 (MQ below (qI D q y.1 [oX8 a_o a_o_outerEnds a_o_data x_o_depth x_o_end y.2.1 x_o_place y.2.2 x_o_fault x_o_items, rB q a_o_data n_o_data r_o_data] A) args s 0 0 A) (F0 m 153 ls [.int s_0]) := by
  obtain ⟨⟨hx, hb, hr, hml, hown, hts, hlocks, hK, hA⟩, hG⟩ := id C0
  intro H locs ls hP hD hS hl
  unfold j_sc_passLength_153 at hF
  refine lv_istore (lv' := [(5, .int s_0), (0, .ref a_o), (1, .int v_1), (3, .int v_3), (4, .int v_4)]) hx hb dX8_passLength_153 hl (by decide) rfl (fun ls hl => ?_)
  refine lv_iload hx hb dX8_passLength_155 (lv_at hl 4 rfl) ?_
  refine lv_iload hx hb dX8_passLength_157 (lv_at hl 0 rfl) ?_
  refine lv_icmp_lt (tgt := 175) hx hb dX8_passLength_159 (by decide) (fun c_18 => ?_) (fun c_18 => ?_)
  · replace hF := ite_t hF c_18
    refine lv_iconst (v := (0 : Int32)) hx hb dX8_passLength_175 (by decide) ?_
    have hy9 := (Option.some.inj hF).symm
    subst hy9
    exact rt_z (v := (0 : Int32)) C0.1 rfl hP hD hS dX8_passLength_176
  · replace hF := ite_f hF c_18
    refine lv_iload_n hx hb dX8_passLength_162 rfl (lv_at hl 2 rfl) ?_
    refine lv_iload_n hx hb dX8_passLength_163 rfl (lv_at hl 3 rfl) ?_
    refine lv_iadd hx hb dX8_passLength_164 ?_
    refine lv_iload hx hb dX8_passLength_165 (lv_at hl 4 rfl) ?_
    refine lv_iadd hx hb dX8_passLength_167 ?_
    refine lv_aload_n hx hb dX8_passLength_168 rfl (lv_at hl 1 rfl) ?_
    refine va_get (D := D) (ci := 7) (v := .int x_o_end) (C := RX8) (T := TX8) (N := 9) hx hb hts iw_X8 hown hK hP 0 rfl rfl 3 (by decide) (hts _ kw_197) (fun _ h9 => h9) rfl dX8_passLength_169 ?_
    refine lv_icmp_le (tgt := 177) hx hb dX8_passLength_172 (by decide) (fun c_19 => ?_) (fun c_19 => ?_)
    · replace hF := ite_t hF c_19
      refine lv_aload_n hx hb dX8_passLength_177 rfl (lv_at hl 1 rfl) ?_
      refine lv_iload_n hx hb dX8_passLength_178 rfl (lv_at hl 2 rfl) ?_
      refine lv_iload_n hx hb dX8_passLength_179 rfl (lv_at hl 3 rfl) ?_
      refine lv_iadd hx hb dX8_passLength_180 ?_
      refine lv_topi (fun x_o_at_20 e_x_o_at_20 => ?_)
      replace hF := bnd_d hF e_x_o_at_20
      refine va_put (D := D) (ci := 7) (v := .int x_o_at_20) (ty := .int) (C := RX8) (T := TX8) (N := 9) hx hb hts iw_X8 tyX8 tyX8_ok nmX8 hown hK hP hD hS 0 rfl rfl 4 (by decide) (hts _ kw_199) (fun _ h9 => h9) rfl (by decide +kernel) rfl rfl (Nat.le_of_ble_eq_true rfl) dX8_passLength_181 (fun H locs hP hD hS => ?_)
      have hP : va_P D vwCl ([oX8 a_o a_o_outerEnds a_o_data x_o_depth x_o_end x_o_at_20 x_o_place x_o_size x_o_fault x_o_items, rB q a_o_data n_o_data r_o_data]) H := hP
      have hD : va_D A ([oX8 a_o a_o_outerEnds a_o_data x_o_depth x_o_end x_o_at_20 x_o_place x_o_size x_o_fault x_o_items, rB q a_o_data n_o_data r_o_data]) := hD
      refine lv_aload_n hx hb dX8_passLength_184 rfl (lv_at hl 1 rfl) ?_
      refine lv_iload hx hb dX8_passLength_185 (lv_at hl 4 rfl) ?_
      refine va_put (D := D) (ci := 7) (v := .int v_4) (ty := .int) (C := RX8) (T := TX8) (N := 9) hx hb hts iw_X8 tyX8 tyX8_ok nmX8 hown hK hP hD hS 0 rfl rfl 6 (by decide) (hts _ kw_202) (fun _ h9 => h9) rfl (by decide +kernel) rfl rfl (Nat.le_of_ble_eq_true rfl) dX8_passLength_187 (fun H locs hP hD hS => ?_)
      have hP : va_P D vwCl ([oX8 a_o a_o_outerEnds a_o_data x_o_depth x_o_end x_o_at_20 x_o_place v_4 x_o_fault x_o_items, rB q a_o_data n_o_data r_o_data]) H := hP
      have hD : va_D A ([oX8 a_o a_o_outerEnds a_o_data x_o_depth x_o_end x_o_at_20 x_o_place v_4 x_o_fault x_o_items, rB q a_o_data n_o_data r_o_data]) := hD
      refine lv_iconst (v := (1 : Int32)) hx hb dX8_passLength_190 (by decide) ?_
      have hy9 := (Option.some.inj hF).symm
      subst hy9
      exact rt_z (v := (1 : Int32)) C0.1 rfl hP hD hS dX8_passLength_191
    · replace hF := ite_f hF c_19
      refine lv_iconst (v := (0 : Int32)) hx hb dX8_passLength_175 (by decide) ?_
      have hy9 := (Option.some.inj hF).symm
      subst hy9
      exact rt_z (v := (0 : Int32)) C0.1 rfl hP hD hS dX8_passLength_176
set_option maxHeartbeats 4000000 in
set_option maxRecDepth 100000 in
theorem w_sc_passLength_131 {l : Launch} {p : Program} {e : Env} {s : State} {m : MethodId} {args : Array Value} {below : List Frame} {meth : Method} {c : Code} {A : Nat → Prop} {D : va_G} {q : Nat → ClassId} {t : Nat} (C0 : cy p s m args meth c cX8_passLength (some .boolean) 6 RX8 D q t A) (a_o : Nat) (a_o_outerEnds : Nat) (a_o_data : Nat) (n_o_data : Nat)  (x_o_depth : Int32) (x_o_end : Int32) (x_o_at : Int32) (x_o_place : Int32) (x_o_size : Int32) (x_o_fault : Int32) (x_o_items : Int32) (r_o_data : (Nat → Int32)) (v_1 : Int32) (v_3 : Int32) (v_4 : Int32) (y : Int32 × Int32 × Int32) (hF : j_sc_passLength_131 x_o_at r_o_data x_o_end x_o_size n_o_data v_1 v_3 v_4 = some y) : ∀ (H : Heap) (locs : List Loc) (ls : Array Slot), va_P D vwCl [oX8 a_o a_o_outerEnds a_o_data x_o_depth x_o_end x_o_at x_o_place x_o_size x_o_fault x_o_items, rB q a_o_data n_o_data r_o_data] H → va_D A [oX8 a_o a_o_outerEnds a_o_data x_o_depth x_o_end x_o_at x_o_place x_o_size x_o_fault x_o_items, rB q a_o_data n_o_data r_o_data] → va_S A s.heap H locs → lv_has ls 6 [(0, .ref a_o), (1, .int v_1), (3, .int v_3), (4, .int v_4)] → W p l e ({ frames := 0, cells := 0, slots := 0, locals := 0 }) s m args below meth c H locs 0 0 (MQ below (qI D q y.1 [oX8 a_o a_o_outerEnds a_o_data x_o_depth x_o_end y.2.1 x_o_place y.2.2 x_o_fault x_o_items, rB q a_o_data n_o_data r_o_data] A) args s 0 0 A) (F0 m 131 ls []) := by
  obtain ⟨⟨hx, hb, hr, hml, hown, hts, hlocks, hK, hA⟩, hG⟩ := id C0
  intro H locs ls hP hD hS hl
  unfold j_sc_passLength_131 at hF
  refine lv_iload_n hx hb dX8_passLength_131 rfl (lv_at hl 2 rfl) ?_
  refine lv_if_ne (tgt := 139) hx hb dX8_passLength_132 (by decide) (fun c_16 => ?_) (fun c_16 => ?_)
  · replace hF := ite_f hF c_16
    refine lv_iload_n hx hb dX8_passLength_139 rfl (lv_at hl 2 rfl) ?_
    refine lv_iconst (v := (1 : Int32)) hx hb dX8_passLength_140 (by decide) ?_
    refine lv_icmp_ne (tgt := 150) hx hb dX8_passLength_141 (by decide) (fun c_17 => ?_) (fun c_17 => ?_)
    · replace hF := ite_f hF c_17
      refine lv_sipush (v := (256 : Int32)) hx hb dX8_passLength_150 (by decide) ?_
      exact w_sc_passLength_153 C0 a_o a_o_outerEnds a_o_data n_o_data x_o_depth x_o_end x_o_at x_o_place x_o_size x_o_fault x_o_items r_o_data v_1 v_3 v_4 (256 : Int32) y hF H locs ls hP hD hS (lv_sub hl [0, 1, 2, 3] rfl)
    · replace hF := ite_t hF c_17
      refine lv_sipush (v := (128 : Int32)) hx hb dX8_passLength_144 (by decide) ?_
      refine lv_goto (tgt := 153) hx hb dX8_passLength_147 (by decide) ?_
      exact w_sc_passLength_153 C0 a_o a_o_outerEnds a_o_data n_o_data x_o_depth x_o_end x_o_at x_o_place x_o_size x_o_fault x_o_items r_o_data v_1 v_3 v_4 (128 : Int32) y hF H locs ls hP hD hS (lv_sub hl [0, 1, 2, 3] rfl)
  · replace hF := ite_t hF c_16
    refine lv_iconst (v := (0 : Int32)) hx hb dX8_passLength_135 (by decide) ?_
    refine lv_goto (tgt := 153) hx hb dX8_passLength_136 (by decide) ?_
    exact w_sc_passLength_153 C0 a_o a_o_outerEnds a_o_data n_o_data x_o_depth x_o_end x_o_at x_o_place x_o_size x_o_fault x_o_items r_o_data v_1 v_3 v_4 (0 : Int32) y hF H locs ls hP hD hS (lv_sub hl [0, 1, 2, 3] rfl)
set_option maxHeartbeats 4000000 in
set_option maxRecDepth 100000 in
theorem w_sc_passLength_49 {l : Launch} {p : Program} {e : Env} {s : State} {m : MethodId} {args : Array Value} {below : List Frame} {meth : Method} {c : Code} {A : Nat → Prop} {D : va_G} {q : Nat → ClassId} {t : Nat} (C0 : cy p s m args meth c cX8_passLength (some .boolean) 6 RX8 D q t A) (a_o : Nat) (a_o_outerEnds : Nat) (a_o_data : Nat) (n_o_data : Nat)  (x_o_depth : Int32) (x_o_end : Int32) (x_o_at : Int32) (x_o_place : Int32) (x_o_size : Int32) (x_o_fault : Int32) (x_o_items : Int32) (r_o_data : (Nat → Int32)) (v_1 : Int32) (v_2 : Int32) (s_0 : Int32) (y : Int32 × Int32 × Int32) (hF : j_sc_passLength_49 x_o_at r_o_data x_o_end x_o_size n_o_data v_1 v_2 s_0 = some y) : ∀ (H : Heap) (locs : List Loc) (ls : Array Slot), va_P D vwCl [oX8 a_o a_o_outerEnds a_o_data x_o_depth x_o_end x_o_at x_o_place x_o_size x_o_fault x_o_items, rB q a_o_data n_o_data r_o_data] H → va_D A [oX8 a_o a_o_outerEnds a_o_data x_o_depth x_o_end x_o_at x_o_place x_o_size x_o_fault x_o_items, rB q a_o_data n_o_data r_o_data] → va_S A s.heap H locs → lv_has ls 6 [(0, .ref a_o), (1, .int v_1), (2, .int v_2)] → W p l e ({ frames := 0, cells := 0, slots := 0, locals := 0 }) s m args below meth c H locs 0 0 (MQ below (qI D q y.1 [oX8 a_o a_o_outerEnds a_o_data x_o_depth x_o_end y.2.1 x_o_place y.2.2 x_o_fault x_o_items, rB q a_o_data n_o_data r_o_data] A) args s 0 0 A) (F0 m 49 ls [.int s_0]) := by
  obtain ⟨⟨hx, hb, hr, hml, hown, hts, hlocks, hK, hA⟩, hG⟩ := id C0
  intro H locs ls hP hD hS hl
  unfold j_sc_passLength_49 at hF
  refine lv_istore_n (lv' := [(3, .int s_0), (0, .ref a_o), (1, .int v_1), (2, .int v_2)]) hx hb dX8_passLength_49 rfl hl (by decide) rfl (fun ls hl => ?_)
  refine lv_iload_n hx hb dX8_passLength_50 rfl (lv_at hl 3 rfl) ?_
  refine lv_sipush (v := (128 : Int32)) hx hb dX8_passLength_51 (by decide) ?_
  refine lv_icmp_eq (tgt := 72) hx hb dX8_passLength_54 (by decide) (fun c_6 => ?_) (fun c_6 => ?_)
  · replace hF := ite_t hF c_6
    refine lv_iconst (v := (0 : Int32)) hx hb dX8_passLength_72 (by decide) ?_
    have hy9 := (Option.some.inj hF).symm
    subst hy9
    exact rt_z (v := (0 : Int32)) C0.1 rfl hP hD hS dX8_passLength_73
  · replace hF := ite_f hF c_6
    refine lv_iload_n hx hb dX8_passLength_57 rfl (lv_at hl 0 rfl) ?_
    refine lv_iconst (v := (2 : Int32)) hx hb dX8_passLength_58 (by decide) ?_
    refine lv_icmp_gt (tgt := 72) hx hb dX8_passLength_59 (by decide) (fun c_7 => ?_) (fun c_7 => ?_)
    · replace hF := ite_t hF c_7
      refine lv_iconst (v := (0 : Int32)) hx hb dX8_passLength_72 (by decide) ?_
      have hy9 := (Option.some.inj hF).symm
      subst hy9
      exact rt_z (v := (0 : Int32)) C0.1 rfl hP hD hS dX8_passLength_73
    · replace hF := ite_f hF c_7
      refine lv_iload_n hx hb dX8_passLength_62 rfl (lv_at hl 2 rfl) ?_
      refine lv_iload_n hx hb dX8_passLength_63 rfl (lv_at hl 0 rfl) ?_
      refine lv_iadd hx hb dX8_passLength_64 ?_
      refine lv_aload_n hx hb dX8_passLength_65 rfl (lv_at hl 1 rfl) ?_
      refine va_get (D := D) (ci := 7) (v := .int x_o_end) (C := RX8) (T := TX8) (N := 9) hx hb hts iw_X8 hown hK hP 0 rfl rfl 3 (by decide) (hts _ kw_197) (fun _ h9 => h9) rfl dX8_passLength_66 ?_
      refine lv_icmp_le (tgt := 74) hx hb dX8_passLength_69 (by decide) (fun c_8 => ?_) (fun c_8 => ?_)
      · replace hF := ite_t hF c_8
        refine lv_iload_n hx hb dX8_passLength_74 rfl (lv_at hl 3 rfl) ?_
        refine lv_istore (lv' := [(4, .int v_2), (3, .int s_0), (0, .ref a_o), (1, .int v_1), (2, .int v_2)]) hx hb dX8_passLength_75 hl (by decide) rfl (fun ls hl => ?_)
        refine lv_iload_n hx hb dX8_passLength_77 rfl (lv_at hl 1 rfl) ?_
        refine lv_iconst (v := (1 : Int32)) hx hb dX8_passLength_78 (by decide) ?_
        refine lv_icmp_ne (tgt := 97) hx hb dX8_passLength_79 (by decide) (fun c_9 => ?_) (fun c_9 => ?_)
        · replace hF := ite_f hF c_9
          refine lv_iload_n hx hb dX8_passLength_97 rfl (lv_at hl 1 rfl) ?_
          refine lv_iconst (v := (2 : Int32)) hx hb dX8_passLength_98 (by decide) ?_
          refine lv_icmp_ne (tgt := 131) hx hb dX8_passLength_99 (by decide) (fun c_10 => ?_) (fun c_10 => ?_)
          · replace hF := ite_f hF c_10
            exact w_sc_passLength_131 C0 a_o a_o_outerEnds a_o_data n_o_data x_o_depth x_o_end x_o_at x_o_place x_o_size x_o_fault x_o_items r_o_data v_1 s_0 v_2 y hF H locs ls hP hD hS (lv_sub hl [2, 3, 1, 0] rfl)
          · replace hF := ite_t hF c_10
            refine lv_aload_n hx hb dX8_passLength_102 rfl (lv_at hl 2 rfl) ?_
            refine va_get (D := D) (ci := 7) (v := .ref a_o_data) (C := RX8) (T := TX8) (N := 9) hx hb hts iw_X8 hown hK hP 0 rfl rfl 1 (by decide) (hts _ kw_195) (fun _ h9 => h9) rfl dX8_passLength_103 ?_
            refine lv_iload_n hx hb dX8_passLength_106 rfl (lv_at hl 3 rfl) ?_
            obtain ⟨z_11, hF⟩ := chk_d hF
            refine va_bald hx hb hK hP 1 0 rfl rfl z_11 dX8_passLength_107 ?_
            refine lv_sipush (v := (255 : Int32)) hx hb dX8_passLength_108 (by decide) ?_
            refine lv_iand hx hb dX8_passLength_111 ?_
            refine lv_sipush (v := (256 : Int32)) hx hb dX8_passLength_112 (by decide) ?_
            refine lv_imul hx hb dX8_passLength_115 ?_
            refine lv_aload_n hx hb dX8_passLength_116 rfl (lv_at hl 2 rfl) ?_
            refine va_get (D := D) (ci := 7) (v := .ref a_o_data) (C := RX8) (T := TX8) (N := 9) hx hb hts iw_X8 hown hK hP 0 rfl rfl 1 (by decide) (hts _ kw_195) (fun _ h9 => h9) rfl dX8_passLength_117 ?_
            refine lv_iload_n hx hb dX8_passLength_120 rfl (lv_at hl 3 rfl) ?_
            refine lv_iconst (v := (1 : Int32)) hx hb dX8_passLength_121 (by decide) ?_
            refine lv_iadd hx hb dX8_passLength_122 ?_
            obtain ⟨z_12, hF⟩ := chk_d hF
            refine va_bald hx hb hK hP 1 0 rfl rfl z_12 dX8_passLength_123 ?_
            refine lv_sipush (v := (255 : Int32)) hx hb dX8_passLength_124 (by decide) ?_
            refine lv_iand hx hb dX8_passLength_127 ?_
            refine lv_iadd hx hb dX8_passLength_128 ?_
            refine lv_topi (fun v4_13 e_v4_13 => ?_)
            replace hF := bnd_d hF e_v4_13
            refine lv_istore (lv' := [(4, .int v4_13), (3, .int s_0), (0, .ref a_o), (1, .int v_1), (2, .int v_2)]) hx hb dX8_passLength_129 hl (by decide) rfl (fun ls hl => ?_)
            exact w_sc_passLength_131 C0 a_o a_o_outerEnds a_o_data n_o_data x_o_depth x_o_end x_o_at x_o_place x_o_size x_o_fault x_o_items r_o_data v_1 s_0 v4_13 y hF H locs ls hP hD hS (lv_sub hl [2, 3, 1, 0] rfl)
        · replace hF := ite_t hF c_9
          refine lv_aload_n hx hb dX8_passLength_82 rfl (lv_at hl 2 rfl) ?_
          refine va_get (D := D) (ci := 7) (v := .ref a_o_data) (C := RX8) (T := TX8) (N := 9) hx hb hts iw_X8 hown hK hP 0 rfl rfl 1 (by decide) (hts _ kw_195) (fun _ h9 => h9) rfl dX8_passLength_83 ?_
          refine lv_iload_n hx hb dX8_passLength_86 rfl (lv_at hl 3 rfl) ?_
          obtain ⟨z_14, hF⟩ := chk_d hF
          refine va_bald hx hb hK hP 1 0 rfl rfl z_14 dX8_passLength_87 ?_
          refine lv_sipush (v := (255 : Int32)) hx hb dX8_passLength_88 (by decide) ?_
          refine lv_iand hx hb dX8_passLength_91 ?_
          refine lv_topi (fun v4_15 e_v4_15 => ?_)
          replace hF := bnd_d hF e_v4_15
          refine lv_istore (lv' := [(4, .int v4_15), (3, .int s_0), (0, .ref a_o), (1, .int v_1), (2, .int v_2)]) hx hb dX8_passLength_92 hl (by decide) rfl (fun ls hl => ?_)
          refine lv_goto (tgt := 131) hx hb dX8_passLength_94 (by decide) ?_
          exact w_sc_passLength_131 C0 a_o a_o_outerEnds a_o_data n_o_data x_o_depth x_o_end x_o_at x_o_place x_o_size x_o_fault x_o_items r_o_data v_1 s_0 v4_15 y hF H locs ls hP hD hS (lv_sub hl [2, 3, 1, 0] rfl)
      · replace hF := ite_f hF c_8
        refine lv_iconst (v := (0 : Int32)) hx hb dX8_passLength_72 (by decide) ?_
        have hy9 := (Option.some.inj hF).symm
        subst hy9
        exact rt_z (v := (0 : Int32)) C0.1 rfl hP hD hS dX8_passLength_73
set_option maxHeartbeats 4000000 in
set_option maxRecDepth 100000 in
theorem c_sc_passLength (l : Launch) (D : va_G) (q : Nat → ClassId) (t : Nat) (a_o : Nat) (a_o_outerEnds : Nat) (x_o_depth : Int32) (x_o_end : Int32) (x_o_at : Int32) (x_o_place : Int32) (x_o_size : Int32) (x_o_fault : Int32) (x_o_items : Int32) (a_o_data : Nat) (n_o_data : Nat) (r_o_data : (Nat → Int32))  (y : Int32 × Int32 × Int32) (hF : f_sc_passLength x_o_at r_o_data x_o_end x_o_size n_o_data = some y)  : cu l yX8_passLength (vs yX8_passLength cX8_passLength 6 (some .boolean)) ({ frames := 0, cells := 0, slots := 0, locals := 0 }) D q t [.ref a_o] [oX8 a_o a_o_outerEnds a_o_data x_o_depth x_o_end x_o_at x_o_place x_o_size x_o_fault x_o_items, rB q a_o_data n_o_data r_o_data] (qI D q y.1 [oX8 a_o a_o_outerEnds a_o_data x_o_depth x_o_end y.2.1 x_o_place y.2.2 x_o_fault x_o_items, rB q a_o_data n_o_data r_o_data]) := by
  refine cu_of (cc := cX8_passLength) (nL := 6) (ret := (some .boolean)) (by decide) (Nat.le_of_ble_eq_true rfl) (fun {p e s m args below meth c A} C0 H locs ls hP hD hS hl => ?_)
  have C0 : cy p s m args meth c cX8_passLength (some .boolean) 6 RX8 D q t A := C0
  obtain ⟨⟨hx, hb, hr, hml, hown, hts, hlocks, hK, hA⟩, hG⟩ := id C0
  have hl : lv_has ls 6 [(0, .ref a_o)] := hl
  unfold f_sc_passLength at hF
  refine lv_aload_n hx hb dX8_passLength_0 rfl (lv_at hl 0 rfl) ?_
  refine va_get (D := D) (ci := 7) (v := .int x_o_at) (C := RX8) (T := TX8) (N := 9) hx hb hts iw_X8 hown hK hP 0 rfl rfl 4 (by decide) (hts _ kw_199) (fun _ h9 => h9) rfl dX8_passLength_1 ?_
  refine lv_iconst (v := (2 : Int32)) hx hb dX8_passLength_4 (by decide) ?_
  refine lv_iadd hx hb dX8_passLength_5 ?_
  refine lv_topi (fun v1_1 e_v1_1 => ?_)
  replace hF := bnd_d hF e_v1_1
  refine lv_istore_n (lv' := [(1, .int v1_1), (0, .ref a_o)]) hx hb dX8_passLength_6 rfl hl (by decide) rfl (fun ls hl => ?_)
  refine lv_iload_n hx hb dX8_passLength_7 rfl (lv_at hl 0 rfl) ?_
  refine lv_aload_n hx hb dX8_passLength_8 rfl (lv_at hl 1 rfl) ?_
  refine va_get (D := D) (ci := 7) (v := .int x_o_end) (C := RX8) (T := TX8) (N := 9) hx hb hts iw_X8 hown hK hP 0 rfl rfl 3 (by decide) (hts _ kw_197) (fun _ h9 => h9) rfl dX8_passLength_9 ?_
  refine lv_icmp_le (tgt := 17) hx hb dX8_passLength_12 (by decide) (fun c_2 => ?_) (fun c_2 => ?_)
  · replace hF := ite_t hF c_2
    refine lv_aload_n hx hb dX8_passLength_17 rfl (lv_at hl 1 rfl) ?_
    refine va_get (D := D) (ci := 7) (v := .ref a_o_data) (C := RX8) (T := TX8) (N := 9) hx hb hts iw_X8 hown hK hP 0 rfl rfl 1 (by decide) (hts _ kw_195) (fun _ h9 => h9) rfl dX8_passLength_18 ?_
    refine lv_aload_n hx hb dX8_passLength_21 rfl (lv_at hl 1 rfl) ?_
    refine va_get (D := D) (ci := 7) (v := .int x_o_at) (C := RX8) (T := TX8) (N := 9) hx hb hts iw_X8 hown hK hP 0 rfl rfl 4 (by decide) (hts _ kw_199) (fun _ h9 => h9) rfl dX8_passLength_22 ?_
    refine lv_iconst (v := (1 : Int32)) hx hb dX8_passLength_25 (by decide) ?_
    refine lv_iadd hx hb dX8_passLength_26 ?_
    obtain ⟨z_3, hF⟩ := chk_d hF
    refine va_bald hx hb hK hP 1 0 rfl rfl z_3 dX8_passLength_27 ?_
    refine lv_sipush (v := (255 : Int32)) hx hb dX8_passLength_28 (by decide) ?_
    refine lv_iand hx hb dX8_passLength_31 ?_
    refine lv_topi (fun v2_4 e_v2_4 => ?_)
    replace hF := bnd_d hF e_v2_4
    refine lv_istore_n (lv' := [(2, .int v2_4), (1, .int v1_1), (0, .ref a_o)]) hx hb dX8_passLength_32 rfl hl (by decide) rfl (fun ls hl => ?_)
    refine lv_iload_n hx hb dX8_passLength_33 rfl (lv_at hl 0 rfl) ?_
    refine lv_sipush (v := (128 : Int32)) hx hb dX8_passLength_34 (by decide) ?_
    refine lv_icmp_ge (tgt := 44) hx hb dX8_passLength_37 (by decide) (fun c_5 => ?_) (fun c_5 => ?_)
    · replace hF := ite_t hF c_5
      refine lv_iload_n hx hb dX8_passLength_44 rfl (lv_at hl 0 rfl) ?_
      refine lv_sipush (v := (128 : Int32)) hx hb dX8_passLength_45 (by decide) ?_
      refine lv_isub hx hb dX8_passLength_48 ?_
      exact w_sc_passLength_49 C0 a_o a_o_outerEnds a_o_data n_o_data x_o_depth x_o_end x_o_at x_o_place x_o_size x_o_fault x_o_items r_o_data v1_1 v2_4 (v2_4 - (128 : Int32)) y hF H locs ls hP hD hS (lv_sub hl [2, 1, 0] rfl)
    · replace hF := ite_f hF c_5
      refine lv_iconst (v := (0 : Int32)) hx hb dX8_passLength_40 (by decide) ?_
      refine lv_goto (tgt := 49) hx hb dX8_passLength_41 (by decide) ?_
      exact w_sc_passLength_49 C0 a_o a_o_outerEnds a_o_data n_o_data x_o_depth x_o_end x_o_at x_o_place x_o_size x_o_fault x_o_items r_o_data v1_1 v2_4 (0 : Int32) y hF H locs ls hP hD hS (lv_sub hl [2, 1, 0] rfl)
  · replace hF := ite_f hF c_2
    refine lv_iconst (v := (0 : Int32)) hx hb dX8_passLength_15 (by decide) ?_
    have hy9 := (Option.some.inj hF).symm
    subst hy9
    exact rt_z (v := (0 : Int32)) C0.1 rfl hP hD hS dX8_passLength_16
set_option maxHeartbeats 4000000 in
set_option maxRecDepth 100000 in
theorem c_sc_sortAhead (l : Launch) (D : va_G) (q : Nat → ClassId) (t : Nat) (a_o : Nat) (a_o_outerEnds : Nat) (x_o_depth : Int32) (x_o_end : Int32) (x_o_at : Int32) (x_o_place : Int32) (x_o_size : Int32) (x_o_fault : Int32) (x_o_items : Int32) (a_o_data : Nat) (n_o_data : Nat) (r_o_data : (Nat → Int32))  (y : Int32) (hF : f_sc_sortAhead x_o_at r_o_data x_o_end x_o_fault n_o_data = some y)  : cu l yX8_sortAhead (vs yX8_sortAhead cX8_sortAhead 1 (some .int)) ({ frames := 0, cells := 0, slots := 0, locals := 0 }) D q t [.ref a_o] [oX8 a_o a_o_outerEnds a_o_data x_o_depth x_o_end x_o_at x_o_place x_o_size x_o_fault x_o_items, rB q a_o_data n_o_data r_o_data] (qI D q y [oX8 a_o a_o_outerEnds a_o_data x_o_depth x_o_end x_o_at x_o_place x_o_size x_o_fault x_o_items, rB q a_o_data n_o_data r_o_data]) := by
  refine cu_of (cc := cX8_sortAhead) (nL := 1) (ret := (some .int)) (by decide) (Nat.le_of_ble_eq_true rfl) (fun {p e s m args below meth c A} C0 H locs ls hP hD hS hl => ?_)
  have C0 : cy p s m args meth c cX8_sortAhead (some .int) 1 RX8 D q t A := C0
  obtain ⟨⟨hx, hb, hr, hml, hown, hts, hlocks, hK, hA⟩, hG⟩ := id C0
  have hl : lv_has ls 1 [(0, .ref a_o)] := hl
  unfold f_sc_sortAhead at hF
  refine lv_aload_n hx hb dX8_sortAhead_0 rfl (lv_at hl 0 rfl) ?_
  refine va_get (D := D) (ci := 7) (v := .int x_o_fault) (C := RX8) (T := TX8) (N := 9) hx hb hts iw_X8 hown hK hP 0 rfl rfl 7 (by decide) (hts _ kw_206) (fun _ h9 => h9) rfl dX8_sortAhead_1 ?_
  refine lv_iconst (v := (-1 : Int32)) hx hb dX8_sortAhead_4 (by decide) ?_
  refine lv_icmp_ne (tgt := 35) hx hb dX8_sortAhead_5 (by decide) (fun c_1 => ?_) (fun c_1 => ?_)
  · replace hF := ite_f hF c_1
    refine lv_iconst (v := (-1 : Int32)) hx hb dX8_sortAhead_35 (by decide) ?_
    have hy9 := (Option.some.inj hF).symm
    subst hy9
    exact rt_i C0.1 hP hD hS dX8_sortAhead_36
  · replace hF := ite_t hF c_1
    refine lv_aload_n hx hb dX8_sortAhead_8 rfl (lv_at hl 0 rfl) ?_
    refine va_get (D := D) (ci := 7) (v := .int x_o_at) (C := RX8) (T := TX8) (N := 9) hx hb hts iw_X8 hown hK hP 0 rfl rfl 4 (by decide) (hts _ kw_199) (fun _ h9 => h9) rfl dX8_sortAhead_9 ?_
    refine lv_aload_n hx hb dX8_sortAhead_12 rfl (lv_at hl 0 rfl) ?_
    refine va_get (D := D) (ci := 7) (v := .int x_o_end) (C := RX8) (T := TX8) (N := 9) hx hb hts iw_X8 hown hK hP 0 rfl rfl 3 (by decide) (hts _ kw_197) (fun _ h9 => h9) rfl dX8_sortAhead_13 ?_
    refine lv_icmp_ge (tgt := 35) hx hb dX8_sortAhead_16 (by decide) (fun c_2 => ?_) (fun c_2 => ?_)
    · replace hF := ite_t hF c_2
      refine lv_iconst (v := (-1 : Int32)) hx hb dX8_sortAhead_35 (by decide) ?_
      have hy9 := (Option.some.inj hF).symm
      subst hy9
      exact rt_i C0.1 hP hD hS dX8_sortAhead_36
    · replace hF := ite_f hF c_2
      refine lv_aload_n hx hb dX8_sortAhead_19 rfl (lv_at hl 0 rfl) ?_
      refine va_get (D := D) (ci := 7) (v := .ref a_o_data) (C := RX8) (T := TX8) (N := 9) hx hb hts iw_X8 hown hK hP 0 rfl rfl 1 (by decide) (hts _ kw_195) (fun _ h9 => h9) rfl dX8_sortAhead_20 ?_
      refine lv_aload_n hx hb dX8_sortAhead_23 rfl (lv_at hl 0 rfl) ?_
      refine va_get (D := D) (ci := 7) (v := .int x_o_at) (C := RX8) (T := TX8) (N := 9) hx hb hts iw_X8 hown hK hP 0 rfl rfl 4 (by decide) (hts _ kw_199) (fun _ h9 => h9) rfl dX8_sortAhead_24 ?_
      obtain ⟨z_3, hF⟩ := chk_d hF
      refine va_bald hx hb hK hP 1 0 rfl rfl z_3 dX8_sortAhead_27 ?_
      refine lv_sipush (v := (255 : Int32)) hx hb dX8_sortAhead_28 (by decide) ?_
      refine lv_iand hx hb dX8_sortAhead_31 ?_
      refine lv_goto (tgt := 36) hx hb dX8_sortAhead_32 (by decide) ?_
      have hy9 := (Option.some.inj hF).symm
      subst hy9
      exact rt_i C0.1 hP hD hS dX8_sortAhead_36
set_option maxHeartbeats 4000000 in
set_option maxRecDepth 100000 in
theorem c_sc_enter (l : Launch) (D : va_G) (q : Nat → ClassId) (t : Nat) (a_o : Nat) (a_o_outerEnds : Nat) (x_o_depth : Int32) (x_o_end : Int32) (x_o_at : Int32) (x_o_place : Int32) (x_o_size : Int32) (x_o_fault : Int32) (x_o_items : Int32) (a_o_data : Nat) (n_o_data : Nat) (r_o_data : (Nat → Int32)) (p_0 : Int32) (p_1 : Int32) (p_2 : Int32) (y : Int32 × Int32 × Int32 × Int32 × Int32 × Int32) (hF : f_sc_enter x_o_at r_o_data x_o_end x_o_fault x_o_items x_o_place x_o_size n_o_data p_0 p_1 p_2 = some y)  : cu l yX8_enter (vs yX8_enter cX8_enter 4 (some .boolean)) ({ frames := 1, cells := 0, slots := 0, locals := 25 }) D q t [.ref a_o, .int p_0, .int p_1, .int p_2] [oX8 a_o a_o_outerEnds a_o_data x_o_depth x_o_end x_o_at x_o_place x_o_size x_o_fault x_o_items, rB q a_o_data n_o_data r_o_data] (qI D q y.1 [oX8 a_o a_o_outerEnds a_o_data x_o_depth x_o_end y.2.1 y.2.2.2.2.1 y.2.2.2.2.2 y.2.2.1 y.2.2.2.1, rB q a_o_data n_o_data r_o_data]) := by
  refine cu_of (cc := cX8_enter) (nL := 4) (ret := (some .boolean)) (by decide) (Nat.le_of_ble_eq_true rfl) (fun {p e s m args below meth c A} C0 H locs ls hP hD hS hl => ?_)
  have C0 : cy p s m args meth c cX8_enter (some .boolean) 4 RX8 D q t A := C0
  obtain ⟨⟨hx, hb, hr, hml, hown, hts, hlocks, hK, hA⟩, hG⟩ := id C0
  have hl : lv_has ls 4 [(0, .ref a_o), (1, .int p_0), (2, .int p_1), (3, .int p_2)] := hl
  unfold f_sc_enter at hF
  refine lv_aload_n hx hb dX8_enter_0 rfl (lv_at hl 0 rfl) ?_
  refine lv_aload_n hx hb dX8_enter_1 rfl (lv_at hl 0 rfl) ?_
  refine va_get (D := D) (ci := 7) (v := .int x_o_at) (C := RX8) (T := TX8) (N := 9) hx hb hts iw_X8 hown hK hP 0 rfl rfl 4 (by decide) (hts _ kw_199) (fun _ h9 => h9) rfl dX8_enter_2 ?_
  refine va_put (D := D) (ci := 7) (v := .int x_o_at) (ty := .int) (C := RX8) (T := TX8) (N := 9) hx hb hts iw_X8 tyX8 tyX8_ok nmX8 hown hK hP hD hS 0 rfl rfl 5 (by decide) (hts _ kw_201) (fun _ h9 => h9) rfl (by decide +kernel) rfl rfl (Nat.le_of_ble_eq_true rfl) dX8_enter_5 (fun H locs hP hD hS => ?_)
  have hP : va_P D vwCl ([oX8 a_o a_o_outerEnds a_o_data x_o_depth x_o_end x_o_at x_o_at x_o_size x_o_fault x_o_items, rB q a_o_data n_o_data r_o_data]) H := hP
  have hD : va_D A ([oX8 a_o a_o_outerEnds a_o_data x_o_depth x_o_end x_o_at x_o_at x_o_size x_o_fault x_o_items, rB q a_o_data n_o_data r_o_data]) := hD
  refine lv_aload_n hx hb dX8_enter_8 rfl (lv_at hl 0 rfl) ?_
  obtain ⟨y_1, hy_1, hF⟩ := cal_d hF
  refine cf_i C0.1 hP hD hS [0, 1] [] [0, 1] (wr := []) (w' := [oX8 a_o a_o_outerEnds a_o_data x_o_depth x_o_end x_o_at x_o_at x_o_size x_o_fault x_o_items, rB q a_o_data n_o_data r_o_data]) rfl rfl rfl (by decide) rfl rfl (sn_V (As := []) (rest := []) (ci := 7) (q0 := 0) C0 (c_sc_sortAhead l D q t a_o a_o_outerEnds x_o_depth x_o_end x_o_at x_o_at x_o_size x_o_fault x_o_items a_o_data n_o_data r_o_data  y_1 hy_1) (cwV 0 hts (g_V kw_804 kw_805 kw_806 kw_77 kw_807) rfl rfl rfl hd_X8_sortAhead ⟨Nat.le_of_ble_eq_true rfl, Nat.le_of_ble_eq_true rfl⟩) hP hD hS [0, 1] rfl rfl rfl rfl rfl rfl hl (Nat.le_of_ble_eq_true rfl) dX8_enter_9) (fun H locs hP hD hS => ?_)
  refine lv_iload_n hx hb dX8_enter_12 rfl (lv_at hl 1 rfl) ?_
  refine lv_icmp_ne (tgt := 39) hx hb dX8_enter_13 (by decide) (fun c_2 => ?_) (fun c_2 => ?_)
  · replace hF := ite_f hF c_2
    refine lv_aload_n hx hb dX8_enter_39 rfl (lv_at hl 0 rfl) ?_
    obtain ⟨y_3, hy_3, hF⟩ := cal_d hF
    refine cf_v C0.1 hP hD hS [0] [1] [1, 0] (wr := [rB q a_o_data n_o_data r_o_data]) (w' := [oX8 a_o a_o_outerEnds a_o_data x_o_depth x_o_end x_o_at x_o_at y_3.2 y_3.1 x_o_items, rB q a_o_data n_o_data r_o_data]) rfl rfl rfl (by decide) rfl rfl (sn_V (As := []) (rest := []) (ci := 7) (q0 := 0) C0 (c_sc_fail l D q t a_o a_o_outerEnds a_o_data x_o_depth x_o_end x_o_at x_o_at x_o_size x_o_fault x_o_items  y_3 hy_3) (cwV 0 hts (g_V kw_812 kw_813 kw_814 kw_77 kw_815) rfl rfl rfl hd_X8_fail ⟨Nat.le_of_ble_eq_true rfl, Nat.le_of_ble_eq_true rfl⟩) hP hD hS [0] rfl rfl rfl rfl rfl rfl hl (Nat.le_of_ble_eq_true rfl) dX8_enter_40) (fun H locs hP hD hS => ?_)
    refine lv_iconst (v := (0 : Int32)) hx hb dX8_enter_43 (by decide) ?_
    have hy9 := (Option.some.inj hF).symm
    subst hy9
    exact rt_z (v := (0 : Int32)) C0.1 rfl hP hD hS dX8_enter_44
  · replace hF := ite_t hF c_2
    refine lv_aload_n hx hb dX8_enter_16 rfl (lv_at hl 0 rfl) ?_
    obtain ⟨y_4, hy_4, hF⟩ := cal_d hF
    refine cf_i C0.1 hP hD hS [0, 1] [] [0, 1] (wr := []) (w' := [oX8 a_o a_o_outerEnds a_o_data x_o_depth x_o_end y_4.2.1 x_o_at y_4.2.2 x_o_fault x_o_items, rB q a_o_data n_o_data r_o_data]) rfl rfl rfl (by decide) rfl rfl (sn_V (As := []) (rest := []) (ci := 7) (q0 := 0) C0 (c_sc_passLength l D q t a_o a_o_outerEnds x_o_depth x_o_end x_o_at x_o_at x_o_size x_o_fault x_o_items a_o_data n_o_data r_o_data  y_4 hy_4) (cwV 0 hts (g_V kw_808 kw_810 kw_4 kw_77 kw_811) rfl rfl rfl hd_X8_passLength ⟨Nat.le_of_ble_eq_true rfl, Nat.le_of_ble_eq_true rfl⟩) hP hD hS [0, 1] rfl rfl rfl rfl rfl rfl hl (Nat.le_of_ble_eq_true rfl) dX8_enter_17) (fun H locs hP hD hS => ?_)
    refine lv_if_eq (tgt := 39) hx hb dX8_enter_20 (by decide) (fun c_5 => ?_) (fun c_5 => ?_)
    · replace hF := ite_t hF c_5
      refine lv_aload_n hx hb dX8_enter_39 rfl (lv_at hl 0 rfl) ?_
      obtain ⟨y_6, hy_6, hF⟩ := cal_d hF
      refine cf_v C0.1 hP hD hS [0] [1] [1, 0] (wr := [rB q a_o_data n_o_data r_o_data]) (w' := [oX8 a_o a_o_outerEnds a_o_data x_o_depth x_o_end y_4.2.1 x_o_at y_6.2 y_6.1 x_o_items, rB q a_o_data n_o_data r_o_data]) rfl rfl rfl (by decide) rfl rfl (sn_V (As := []) (rest := []) (ci := 7) (q0 := 0) C0 (c_sc_fail l D q t a_o a_o_outerEnds a_o_data x_o_depth x_o_end y_4.2.1 x_o_at y_4.2.2 x_o_fault x_o_items  y_6 hy_6) (cwV 0 hts (g_V kw_812 kw_813 kw_814 kw_77 kw_815) rfl rfl rfl hd_X8_fail ⟨Nat.le_of_ble_eq_true rfl, Nat.le_of_ble_eq_true rfl⟩) hP hD hS [0] rfl rfl rfl rfl rfl rfl hl (Nat.le_of_ble_eq_true rfl) dX8_enter_40) (fun H locs hP hD hS => ?_)
      refine lv_iconst (v := (0 : Int32)) hx hb dX8_enter_43 (by decide) ?_
      have hy9 := (Option.some.inj hF).symm
      subst hy9
      exact rt_z (v := (0 : Int32)) C0.1 rfl hP hD hS dX8_enter_44
    · replace hF := ite_f hF c_5
      refine lv_aload_n hx hb dX8_enter_23 rfl (lv_at hl 0 rfl) ?_
      refine va_get (D := D) (ci := 7) (v := .int y_4.2.2) (C := RX8) (T := TX8) (N := 9) hx hb hts iw_X8 hown hK hP 0 rfl rfl 6 (by decide) (hts _ kw_202) (fun _ h9 => h9) rfl dX8_enter_24 ?_
      refine lv_iload_n hx hb dX8_enter_27 rfl (lv_at hl 2 rfl) ?_
      refine lv_icmp_lt (tgt := 39) hx hb dX8_enter_28 (by decide) (fun c_7 => ?_) (fun c_7 => ?_)
      · replace hF := ite_t hF c_7
        refine lv_aload_n hx hb dX8_enter_39 rfl (lv_at hl 0 rfl) ?_
        obtain ⟨y_8, hy_8, hF⟩ := cal_d hF
        refine cf_v C0.1 hP hD hS [0] [1] [1, 0] (wr := [rB q a_o_data n_o_data r_o_data]) (w' := [oX8 a_o a_o_outerEnds a_o_data x_o_depth x_o_end y_4.2.1 x_o_at y_8.2 y_8.1 x_o_items, rB q a_o_data n_o_data r_o_data]) rfl rfl rfl (by decide) rfl rfl (sn_V (As := []) (rest := []) (ci := 7) (q0 := 0) C0 (c_sc_fail l D q t a_o a_o_outerEnds a_o_data x_o_depth x_o_end y_4.2.1 x_o_at y_4.2.2 x_o_fault x_o_items  y_8 hy_8) (cwV 0 hts (g_V kw_812 kw_813 kw_814 kw_77 kw_815) rfl rfl rfl hd_X8_fail ⟨Nat.le_of_ble_eq_true rfl, Nat.le_of_ble_eq_true rfl⟩) hP hD hS [0] rfl rfl rfl rfl rfl rfl hl (Nat.le_of_ble_eq_true rfl) dX8_enter_40) (fun H locs hP hD hS => ?_)
        refine lv_iconst (v := (0 : Int32)) hx hb dX8_enter_43 (by decide) ?_
        have hy9 := (Option.some.inj hF).symm
        subst hy9
        exact rt_z (v := (0 : Int32)) C0.1 rfl hP hD hS dX8_enter_44
      · replace hF := ite_f hF c_7
        refine lv_aload_n hx hb dX8_enter_31 rfl (lv_at hl 0 rfl) ?_
        refine va_get (D := D) (ci := 7) (v := .int y_4.2.2) (C := RX8) (T := TX8) (N := 9) hx hb hts iw_X8 hown hK hP 0 rfl rfl 6 (by decide) (hts _ kw_202) (fun _ h9 => h9) rfl dX8_enter_32 ?_
        refine lv_iload_n hx hb dX8_enter_35 rfl (lv_at hl 3 rfl) ?_
        refine lv_icmp_le (tgt := 45) hx hb dX8_enter_36 (by decide) (fun c_9 => ?_) (fun c_9 => ?_)
        · replace hF := ite_t hF c_9
          refine lv_aload_n hx hb dX8_enter_45 rfl (lv_at hl 0 rfl) ?_
          refine lv_dup hx hb dX8_enter_46 rfl ?_
          refine va_get (D := D) (ci := 7) (v := .int x_o_items) (C := RX8) (T := TX8) (N := 9) hx hb hts iw_X8 hown hK hP 0 rfl rfl 8 (by decide) (hts _ kw_208) (fun _ h9 => h9) rfl dX8_enter_47 ?_
          refine lv_iconst (v := (1 : Int32)) hx hb dX8_enter_50 (by decide) ?_
          refine lv_iadd hx hb dX8_enter_51 ?_
          refine lv_topi (fun x_o_items_10 e_x_o_items_10 => ?_)
          replace hF := bnd_d hF e_x_o_items_10
          refine va_put (D := D) (ci := 7) (v := .int x_o_items_10) (ty := .int) (C := RX8) (T := TX8) (N := 9) hx hb hts iw_X8 tyX8 tyX8_ok nmX8 hown hK hP hD hS 0 rfl rfl 8 (by decide) (hts _ kw_208) (fun _ h9 => h9) rfl (by decide +kernel) rfl rfl (Nat.le_of_ble_eq_true rfl) dX8_enter_52 (fun H locs hP hD hS => ?_)
          have hP : va_P D vwCl ([oX8 a_o a_o_outerEnds a_o_data x_o_depth x_o_end y_4.2.1 x_o_at y_4.2.2 x_o_fault x_o_items_10, rB q a_o_data n_o_data r_o_data]) H := hP
          have hD : va_D A ([oX8 a_o a_o_outerEnds a_o_data x_o_depth x_o_end y_4.2.1 x_o_at y_4.2.2 x_o_fault x_o_items_10, rB q a_o_data n_o_data r_o_data]) := hD
          refine lv_iconst (v := (1 : Int32)) hx hb dX8_enter_55 (by decide) ?_
          have hy9 := (Option.some.inj hF).symm
          subst hy9
          exact rt_z (v := (1 : Int32)) C0.1 rfl hP hD hS dX8_enter_56
        · replace hF := ite_f hF c_9
          refine lv_aload_n hx hb dX8_enter_39 rfl (lv_at hl 0 rfl) ?_
          obtain ⟨y_11, hy_11, hF⟩ := cal_d hF
          refine cf_v C0.1 hP hD hS [0] [1] [1, 0] (wr := [rB q a_o_data n_o_data r_o_data]) (w' := [oX8 a_o a_o_outerEnds a_o_data x_o_depth x_o_end y_4.2.1 x_o_at y_11.2 y_11.1 x_o_items, rB q a_o_data n_o_data r_o_data]) rfl rfl rfl (by decide) rfl rfl (sn_V (As := []) (rest := []) (ci := 7) (q0 := 0) C0 (c_sc_fail l D q t a_o a_o_outerEnds a_o_data x_o_depth x_o_end y_4.2.1 x_o_at y_4.2.2 x_o_fault x_o_items  y_11 hy_11) (cwV 0 hts (g_V kw_812 kw_813 kw_814 kw_77 kw_815) rfl rfl rfl hd_X8_fail ⟨Nat.le_of_ble_eq_true rfl, Nat.le_of_ble_eq_true rfl⟩) hP hD hS [0] rfl rfl rfl rfl rfl rfl hl (Nat.le_of_ble_eq_true rfl) dX8_enter_40) (fun H locs hP hD hS => ?_)
          refine lv_iconst (v := (0 : Int32)) hx hb dX8_enter_43 (by decide) ?_
          have hy9 := (Option.some.inj hF).symm
          subst hy9
          exact rt_z (v := (0 : Int32)) C0.1 rfl hP hD hS dX8_enter_44
set_option maxHeartbeats 4000000 in
set_option maxRecDepth 100000 in
theorem c_sc_open (l : Launch) (D : va_G) (q : Nat → ClassId) (t : Nat) (a_o : Nat) (x_o_depth : Int32) (x_o_end : Int32) (x_o_at : Int32) (x_o_place : Int32) (x_o_size : Int32) (x_o_fault : Int32) (x_o_items : Int32) (a_o_data : Nat) (n_o_data : Nat) (r_o_data : (Nat → Int32)) (a_o_outerEnds : Nat) (r_o_outerEnds : (Nat → Int32)) (p_0 : Int32) (y : Int32 × Int32 × Int32 × Int32 × Int32 × (Nat → Int32) × Int32 × Int32) (hF : f_sc_open x_o_at r_o_data x_o_depth x_o_end x_o_fault x_o_items r_o_outerEnds x_o_place x_o_size n_o_data p_0 = some y)  : cu l yX8_open (vs yX8_open cX8_open 2 none) ({ frames := 2, cells := 0, slots := 0, locals := 48 }) D q t [.ref a_o, .int p_0] [oX8 a_o a_o_outerEnds a_o_data x_o_depth x_o_end x_o_at x_o_place x_o_size x_o_fault x_o_items, rB q a_o_data n_o_data r_o_data, rI q a_o_outerEnds 12 r_o_outerEnds] (qV D q [oX8 a_o a_o_outerEnds a_o_data y.2.1 y.2.2.1 y.1 y.2.2.2.2.2.2.1 y.2.2.2.2.2.2.2 y.2.2.2.1 y.2.2.2.2.1, rB q a_o_data n_o_data r_o_data, rI q a_o_outerEnds 12 y.2.2.2.2.2.1]) := by
  refine cu_of (cc := cX8_open) (nL := 2) (ret := none) (by decide) (Nat.le_of_ble_eq_true rfl) (fun {p e s m args below meth c A} C0 H locs ls hP hD hS hl => ?_)
  have C0 : cy p s m args meth c cX8_open none 2 RX8 D q t A := C0
  obtain ⟨⟨hx, hb, hr, hml, hown, hts, hlocks, hK, hA⟩, hG⟩ := id C0
  have hl : lv_has ls 2 [(0, .ref a_o), (1, .int p_0)] := hl
  unfold f_sc_open at hF
  refine lv_aload_n hx hb dX8_open_0 rfl (lv_at hl 0 rfl) ?_
  refine lv_iload_n hx hb dX8_open_1 rfl (lv_at hl 1 rfl) ?_
  refine lv_iconst (v := (0 : Int32)) hx hb dX8_open_2 (by decide) ?_
  refine lv_sipush (v := (1500 : Int32)) hx hb dX8_open_3 (by decide) ?_
  obtain ⟨y_1, hy_1, hF⟩ := cal_d hF
  refine cf_i C0.1 hP hD hS [0, 1] [2] [1, 2, 0] (wr := [rI q a_o_outerEnds 12 r_o_outerEnds]) (w' := [oX8 a_o a_o_outerEnds a_o_data x_o_depth x_o_end y_1.2.1 y_1.2.2.2.2.1 y_1.2.2.2.2.2 y_1.2.2.1 y_1.2.2.2.1, rB q a_o_data n_o_data r_o_data, rI q a_o_outerEnds 12 r_o_outerEnds]) rfl rfl rfl (by decide) rfl rfl (sn_V (As := [.int p_0, .int (0 : Int32), .int (1500 : Int32)]) (rest := []) (ci := 7) (q0 := 0) C0 (c_sc_enter l D q t a_o a_o_outerEnds x_o_depth x_o_end x_o_at x_o_place x_o_size x_o_fault x_o_items a_o_data n_o_data r_o_data p_0 (0 : Int32) (1500 : Int32) y_1 hy_1) (cwV 3 hts (g_V kw_800 kw_801 kw_802 kw_77 kw_803) rfl rfl rfl hd_X8_enter ⟨Nat.le_of_ble_eq_true rfl, Nat.le_of_ble_eq_true rfl⟩) hP hD hS [0, 1] rfl rfl rfl rfl rfl rfl hl (Nat.le_of_ble_eq_true rfl) dX8_open_6) (fun H locs hP hD hS => ?_)
  refine lv_if_ne (tgt := 13) hx hb dX8_open_9 (by decide) (fun c_2 => ?_) (fun c_2 => ?_)
  · replace hF := ite_f hF c_2
    refine lv_aload_n hx hb dX8_open_13 rfl (lv_at hl 0 rfl) ?_
    refine va_get (D := D) (ci := 7) (v := .int x_o_depth) (C := RX8) (T := TX8) (N := 9) hx hb hts iw_X8 hown hK hP 0 rfl rfl 2 (by decide) (hts _ kw_196) (fun _ h9 => h9) rfl dX8_open_14 ?_
    refine lv_bipush (v := (12 : Int32)) hx hb dX8_open_17 (by decide) ?_
    refine lv_icmp_lt (tgt := 27) hx hb dX8_open_19 (by decide) (fun c_3 => ?_) (fun c_3 => ?_)
    · replace hF := ite_t hF c_3
      refine lv_aload_n hx hb dX8_open_27 rfl (lv_at hl 0 rfl) ?_
      refine va_get (D := D) (ci := 7) (v := .ref a_o_outerEnds) (C := RX8) (T := TX8) (N := 9) hx hb hts iw_X8 hown hK hP 0 rfl rfl 0 (by decide) (hts _ kw_194) (fun _ h9 => h9) rfl dX8_open_28 ?_
      refine lv_aload_n hx hb dX8_open_31 rfl (lv_at hl 0 rfl) ?_
      refine va_get (D := D) (ci := 7) (v := .int x_o_depth) (C := RX8) (T := TX8) (N := 9) hx hb hts iw_X8 hown hK hP 0 rfl rfl 2 (by decide) (hts _ kw_196) (fun _ h9 => h9) rfl dX8_open_32 ?_
      refine lv_aload_n hx hb dX8_open_35 rfl (lv_at hl 0 rfl) ?_
      refine va_get (D := D) (ci := 7) (v := .int x_o_end) (C := RX8) (T := TX8) (N := 9) hx hb hts iw_X8 hown hK hP 0 rfl rfl 3 (by decide) (hts _ kw_197) (fun _ h9 => h9) rfl dX8_open_36 ?_
      obtain ⟨z_4, hF⟩ := chk_d hF
      refine va_iast hx hb hK hP hD hS 2 1 rfl rfl z_4 dX8_open_39 (fun H locs hP hD hS => ?_)
      obtain ⟨r_o_outerEnds_5, e_r_o_outerEnds_5⟩ : ∃ z : (Nat → Int32), z = upd r_o_outerEnds x_o_depth.toNatClampNeg x_o_end := ⟨_, rfl⟩
      replace hF := bnd_d hF e_r_o_outerEnds_5
      have hP : va_P D vwCl ([oX8 a_o a_o_outerEnds a_o_data x_o_depth x_o_end y_1.2.1 y_1.2.2.2.2.1 y_1.2.2.2.2.2 y_1.2.2.1 y_1.2.2.2.1, rB q a_o_data n_o_data r_o_data, rI q a_o_outerEnds 12 r_o_outerEnds_5]) H := by rw [e_r_o_outerEnds_5]; exact hP
      have hD : va_D A ([oX8 a_o a_o_outerEnds a_o_data x_o_depth x_o_end y_1.2.1 y_1.2.2.2.2.1 y_1.2.2.2.2.2 y_1.2.2.1 y_1.2.2.2.1, rB q a_o_data n_o_data r_o_data, rI q a_o_outerEnds 12 r_o_outerEnds_5]) := by rw [e_r_o_outerEnds_5]; exact hD
      refine lv_aload_n hx hb dX8_open_40 rfl (lv_at hl 0 rfl) ?_
      refine lv_dup hx hb dX8_open_41 rfl ?_
      refine va_get (D := D) (ci := 7) (v := .int x_o_depth) (C := RX8) (T := TX8) (N := 9) hx hb hts iw_X8 hown hK hP 0 rfl rfl 2 (by decide) (hts _ kw_196) (fun _ h9 => h9) rfl dX8_open_42 ?_
      refine lv_iconst (v := (1 : Int32)) hx hb dX8_open_45 (by decide) ?_
      refine lv_iadd hx hb dX8_open_46 ?_
      refine lv_topi (fun x_o_depth_6 e_x_o_depth_6 => ?_)
      replace hF := bnd_d hF e_x_o_depth_6
      refine va_put (D := D) (ci := 7) (v := .int x_o_depth_6) (ty := .int) (C := RX8) (T := TX8) (N := 9) hx hb hts iw_X8 tyX8 tyX8_ok nmX8 hown hK hP hD hS 0 rfl rfl 2 (by decide) (hts _ kw_196) (fun _ h9 => h9) rfl (by decide +kernel) rfl rfl (Nat.le_of_ble_eq_true rfl) dX8_open_47 (fun H locs hP hD hS => ?_)
      have hP : va_P D vwCl ([oX8 a_o a_o_outerEnds a_o_data x_o_depth_6 x_o_end y_1.2.1 y_1.2.2.2.2.1 y_1.2.2.2.2.2 y_1.2.2.1 y_1.2.2.2.1, rB q a_o_data n_o_data r_o_data, rI q a_o_outerEnds 12 r_o_outerEnds_5]) H := hP
      have hD : va_D A ([oX8 a_o a_o_outerEnds a_o_data x_o_depth_6 x_o_end y_1.2.1 y_1.2.2.2.2.1 y_1.2.2.2.2.2 y_1.2.2.1 y_1.2.2.2.1, rB q a_o_data n_o_data r_o_data, rI q a_o_outerEnds 12 r_o_outerEnds_5]) := hD
      refine lv_aload_n hx hb dX8_open_50 rfl (lv_at hl 0 rfl) ?_
      refine lv_aload_n hx hb dX8_open_51 rfl (lv_at hl 0 rfl) ?_
      refine va_get (D := D) (ci := 7) (v := .int y_1.2.1) (C := RX8) (T := TX8) (N := 9) hx hb hts iw_X8 hown hK hP 0 rfl rfl 4 (by decide) (hts _ kw_199) (fun _ h9 => h9) rfl dX8_open_52 ?_
      refine lv_aload_n hx hb dX8_open_55 rfl (lv_at hl 0 rfl) ?_
      refine va_get (D := D) (ci := 7) (v := .int y_1.2.2.2.2.2) (C := RX8) (T := TX8) (N := 9) hx hb hts iw_X8 hown hK hP 0 rfl rfl 6 (by decide) (hts _ kw_202) (fun _ h9 => h9) rfl dX8_open_56 ?_
      refine lv_iadd hx hb dX8_open_59 ?_
      refine lv_topi (fun x_o_end_7 e_x_o_end_7 => ?_)
      replace hF := bnd_d hF e_x_o_end_7
      refine va_put (D := D) (ci := 7) (v := .int x_o_end_7) (ty := .int) (C := RX8) (T := TX8) (N := 9) hx hb hts iw_X8 tyX8 tyX8_ok nmX8 hown hK hP hD hS 0 rfl rfl 3 (by decide) (hts _ kw_197) (fun _ h9 => h9) rfl (by decide +kernel) rfl rfl (Nat.le_of_ble_eq_true rfl) dX8_open_60 (fun H locs hP hD hS => ?_)
      have hP : va_P D vwCl ([oX8 a_o a_o_outerEnds a_o_data x_o_depth_6 x_o_end_7 y_1.2.1 y_1.2.2.2.2.1 y_1.2.2.2.2.2 y_1.2.2.1 y_1.2.2.2.1, rB q a_o_data n_o_data r_o_data, rI q a_o_outerEnds 12 r_o_outerEnds_5]) H := hP
      have hD : va_D A ([oX8 a_o a_o_outerEnds a_o_data x_o_depth_6 x_o_end_7 y_1.2.1 y_1.2.2.2.2.1 y_1.2.2.2.2.2 y_1.2.2.1 y_1.2.2.2.1, rB q a_o_data n_o_data r_o_data, rI q a_o_outerEnds 12 r_o_outerEnds_5]) := hD
      have hy9 := (Option.some.inj hF).symm
      subst hy9
      exact rt_v C0.1 hP hD hS dX8_open_63
    · replace hF := ite_f hF c_3
      refine lv_aload_n hx hb dX8_open_22 rfl (lv_at hl 0 rfl) ?_
      obtain ⟨y_8, hy_8, hF⟩ := cal_d hF
      refine cf_v C0.1 hP hD hS [0] [1, 2] [2, 0, 1] (wr := [rB q a_o_data n_o_data r_o_data, rI q a_o_outerEnds 12 r_o_outerEnds]) (w' := [oX8 a_o a_o_outerEnds a_o_data x_o_depth x_o_end y_1.2.1 y_1.2.2.2.2.1 y_8.2 y_8.1 y_1.2.2.2.1, rB q a_o_data n_o_data r_o_data, rI q a_o_outerEnds 12 r_o_outerEnds]) rfl rfl rfl (by decide) rfl rfl (sn_V (As := []) (rest := []) (ci := 7) (q0 := 0) C0 (c_sc_fail l D q t a_o a_o_outerEnds a_o_data x_o_depth x_o_end y_1.2.1 y_1.2.2.2.2.1 y_1.2.2.2.2.2 y_1.2.2.1 y_1.2.2.2.1  y_8 hy_8) (cwV 0 hts (g_V kw_812 kw_813 kw_814 kw_77 kw_815) rfl rfl rfl hd_X8_fail ⟨Nat.le_of_ble_eq_true rfl, Nat.le_of_ble_eq_true rfl⟩) hP hD hS [0] rfl rfl rfl rfl rfl rfl hl (Nat.le_of_ble_eq_true rfl) dX8_open_23) (fun H locs hP hD hS => ?_)
      have hy9 := (Option.some.inj hF).symm
      subst hy9
      exact rt_v C0.1 hP hD hS dX8_open_26
  · replace hF := ite_t hF c_2
    have hy9 := (Option.some.inj hF).symm
    subst hy9
    exact rt_v C0.1 hP hD hS dX8_open_12
set_option maxHeartbeats 4000000 in
set_option maxRecDepth 100000 in
theorem c_sc_readBytes (l : Launch) (D : va_G) (q : Nat → ClassId) (t : Nat) (a_o : Nat) (a_o_outerEnds : Nat) (x_o_depth : Int32) (x_o_end : Int32) (x_o_at : Int32) (x_o_place : Int32) (x_o_size : Int32) (x_o_fault : Int32) (x_o_items : Int32) (a_o_data : Nat) (n_o_data : Nat) (r_o_data : (Nat → Int32)) (p_0 : Int32) (p_1 : Int32) (y : Int32 × Int32 × Int32 × Int32 × Int32 × Int32) (hF : f_sc_readBytes x_o_at r_o_data x_o_end x_o_fault x_o_items x_o_place x_o_size n_o_data p_0 p_1 = some y)  : cu l yX8_readBytes (vs yX8_readBytes cX8_readBytes 4 (some .int)) ({ frames := 2, cells := 0, slots := 0, locals := 48 }) D q t [.ref a_o, .int p_0, .int p_1] [oX8 a_o a_o_outerEnds a_o_data x_o_depth x_o_end x_o_at x_o_place x_o_size x_o_fault x_o_items, rB q a_o_data n_o_data r_o_data] (qI D q y.1 [oX8 a_o a_o_outerEnds a_o_data x_o_depth x_o_end y.2.1 y.2.2.2.2.1 y.2.2.2.2.2 y.2.2.1 y.2.2.2.1, rB q a_o_data n_o_data r_o_data]) := by
  refine cu_of (cc := cX8_readBytes) (nL := 4) (ret := (some .int)) (by decide) (Nat.le_of_ble_eq_true rfl) (fun {p e s m args below meth c A} C0 H locs ls hP hD hS hl => ?_)
  have C0 : cy p s m args meth c cX8_readBytes (some .int) 4 RX8 D q t A := C0
  obtain ⟨⟨hx, hb, hr, hml, hown, hts, hlocks, hK, hA⟩, hG⟩ := id C0
  have hl : lv_has ls 4 [(0, .ref a_o), (1, .int p_0), (2, .int p_1)] := hl
  unfold f_sc_readBytes at hF
  refine lv_aload_n hx hb dX8_readBytes_0 rfl (lv_at hl 0 rfl) ?_
  refine lv_iconst (v := (4 : Int32)) hx hb dX8_readBytes_1 (by decide) ?_
  refine lv_iload_n hx hb dX8_readBytes_2 rfl (lv_at hl 1 rfl) ?_
  refine lv_iload_n hx hb dX8_readBytes_3 rfl (lv_at hl 2 rfl) ?_
  obtain ⟨y_1, hy_1, hF⟩ := cal_d hF
  refine cf_i C0.1 hP hD hS [0, 1] [] [0, 1] (wr := []) (w' := [oX8 a_o a_o_outerEnds a_o_data x_o_depth x_o_end y_1.2.1 y_1.2.2.2.2.1 y_1.2.2.2.2.2 y_1.2.2.1 y_1.2.2.2.1, rB q a_o_data n_o_data r_o_data]) rfl rfl rfl (by decide) rfl rfl (sn_V (As := [.int (4 : Int32), .int p_0, .int p_1]) (rest := []) (ci := 7) (q0 := 0) C0 (c_sc_enter l D q t a_o a_o_outerEnds x_o_depth x_o_end x_o_at x_o_place x_o_size x_o_fault x_o_items a_o_data n_o_data r_o_data (4 : Int32) p_0 p_1 y_1 hy_1) (cwV 3 hts (g_V kw_800 kw_801 kw_802 kw_77 kw_803) rfl rfl rfl hd_X8_enter ⟨Nat.le_of_ble_eq_true rfl, Nat.le_of_ble_eq_true rfl⟩) hP hD hS [0, 1] rfl rfl rfl rfl rfl rfl hl (Nat.le_of_ble_eq_true rfl) dX8_readBytes_4) (fun H locs hP hD hS => ?_)
  refine lv_pop hx hb dX8_readBytes_7 rfl ?_
  refine lv_aload_n hx hb dX8_readBytes_8 rfl (lv_at hl 0 rfl) ?_
  refine va_get (D := D) (ci := 7) (v := .int y_1.2.1) (C := RX8) (T := TX8) (N := 9) hx hb hts iw_X8 hown hK hP 0 rfl rfl 4 (by decide) (hts _ kw_199) (fun _ h9 => h9) rfl dX8_readBytes_9 ?_
  refine lv_topi (fun v3_2 e_v3_2 => ?_)
  replace hF := bnd_d hF e_v3_2
  refine lv_istore_n (lv' := [(3, .int v3_2), (0, .ref a_o), (1, .int p_0), (2, .int p_1)]) hx hb dX8_readBytes_12 rfl hl (by decide) rfl (fun ls hl => ?_)
  refine lv_aload_n hx hb dX8_readBytes_13 rfl (lv_at hl 1 rfl) ?_
  refine lv_dup hx hb dX8_readBytes_14 rfl ?_
  refine va_get (D := D) (ci := 7) (v := .int y_1.2.1) (C := RX8) (T := TX8) (N := 9) hx hb hts iw_X8 hown hK hP 0 rfl rfl 4 (by decide) (hts _ kw_199) (fun _ h9 => h9) rfl dX8_readBytes_15 ?_
  refine lv_aload_n hx hb dX8_readBytes_18 rfl (lv_at hl 1 rfl) ?_
  refine va_get (D := D) (ci := 7) (v := .int y_1.2.2.2.2.2) (C := RX8) (T := TX8) (N := 9) hx hb hts iw_X8 hown hK hP 0 rfl rfl 6 (by decide) (hts _ kw_202) (fun _ h9 => h9) rfl dX8_readBytes_19 ?_
  refine lv_iadd hx hb dX8_readBytes_22 ?_
  refine lv_topi (fun x_o_at_3 e_x_o_at_3 => ?_)
  replace hF := bnd_d hF e_x_o_at_3
  refine va_put (D := D) (ci := 7) (v := .int x_o_at_3) (ty := .int) (C := RX8) (T := TX8) (N := 9) hx hb hts iw_X8 tyX8 tyX8_ok nmX8 hown hK hP hD hS 0 rfl rfl 4 (by decide) (hts _ kw_199) (fun _ h9 => h9) rfl (by decide +kernel) rfl rfl (Nat.le_of_ble_eq_true rfl) dX8_readBytes_23 (fun H locs hP hD hS => ?_)
  have hP : va_P D vwCl ([oX8 a_o a_o_outerEnds a_o_data x_o_depth x_o_end x_o_at_3 y_1.2.2.2.2.1 y_1.2.2.2.2.2 y_1.2.2.1 y_1.2.2.2.1, rB q a_o_data n_o_data r_o_data]) H := hP
  have hD : va_D A ([oX8 a_o a_o_outerEnds a_o_data x_o_depth x_o_end x_o_at_3 y_1.2.2.2.2.1 y_1.2.2.2.2.2 y_1.2.2.1 y_1.2.2.2.1, rB q a_o_data n_o_data r_o_data]) := hD
  refine lv_iload_n hx hb dX8_readBytes_26 rfl (lv_at hl 0 rfl) ?_
  have hy9 := (Option.some.inj hF).symm
  subst hy9
  exact rt_i C0.1 hP hD hS dX8_readBytes_27
set_option maxHeartbeats 4000000 in
set_option maxRecDepth 100000 in
theorem c_an_readBodyRest (l : Launch) (D : va_G) (q : Nat → ClassId) (t : Nat) (a_o : Nat) (a_o_ids : Nat) (a_o_states : Nat) (a_o_since : Nat) (a_o_reasons : Nat) (a_o_from : Nat) (a_o_next : Nat) (a_o_cert : Nat) (x_o_status : Int32) (x_o_hasCert : Int32) (x_o_bodyPlace : Int32) (x_o_bodyEnd : Int32) (x_o_signature : Int64) (x_o_isByName : Int32) (x_o_tellerPlace : Int32) (x_o_tellerSize : Int32) (x_o_tellerHash : Int64) (x_o_noncePlace : Int32) (x_o_nonceSize : Int32) (a_p0 : Nat) (x_p0_depth : Int32) (x_p0_end : Int32) (x_p0_at : Int32) (x_p0_place : Int32) (x_p0_size : Int32) (x_p0_fault : Int32) (x_p0_items : Int32) (a_p0_data : Nat) (n_p0_data : Nat) (r_p0_data : (Nat → Int32)) (a_p0_outerEnds : Nat) (r_p0_outerEnds : (Nat → Int32))  (y : Int32 × Int32 × Int32 × Int32 × Int32 × Int32 × Int32 × Int32 × (Nat → Int32) × Int32 × Int32) (hF : f_an_readBodyRest x_o_bodyEnd x_o_noncePlace x_o_nonceSize x_p0_at r_p0_data x_p0_depth x_p0_end x_p0_fault x_p0_items r_p0_outerEnds x_p0_place x_p0_size n_p0_data = some y)  : cu l yX0_readBodyRest (vs yX0_readBodyRest cX0_readBodyRest 2 none) ({ frames := 3, cells := 0, slots := 0, locals := 71 }) D q t [.ref a_o, .ref a_p0] [oX0 a_o a_o_ids a_o_states a_o_since a_o_reasons a_o_from a_o_next a_o_cert x_o_status x_o_hasCert x_o_bodyPlace x_o_bodyEnd x_o_signature x_o_isByName x_o_tellerPlace x_o_tellerSize x_o_tellerHash x_o_noncePlace x_o_nonceSize, oX8 a_p0 a_p0_outerEnds a_p0_data x_p0_depth x_p0_end x_p0_at x_p0_place x_p0_size x_p0_fault x_p0_items, rB q a_p0_data n_p0_data r_p0_data, rI q a_p0_outerEnds 12 r_p0_outerEnds] (qV D q [oX0 a_o a_o_ids a_o_states a_o_since a_o_reasons a_o_from a_o_next a_o_cert x_o_status x_o_hasCert x_o_bodyPlace y.1 x_o_signature x_o_isByName x_o_tellerPlace x_o_tellerSize x_o_tellerHash y.2.1 y.2.2.1, oX8 a_p0 a_p0_outerEnds a_p0_data y.2.2.2.2.1 y.2.2.2.2.2.1 y.2.2.2.1 y.2.2.2.2.2.2.2.2.2.1 y.2.2.2.2.2.2.2.2.2.2 y.2.2.2.2.2.2.1 y.2.2.2.2.2.2.2.1, rB q a_p0_data n_p0_data r_p0_data, rI q a_p0_outerEnds 12 y.2.2.2.2.2.2.2.2.1]) := by
  refine cu_of (cc := cX0_readBodyRest) (nL := 2) (ret := none) (by decide) (Nat.le_of_ble_eq_true rfl) (fun {p e s m args below meth c A} C0 H locs ls hP hD hS hl => ?_)
  have C0 : cy p s m args meth c cX0_readBodyRest none 2 RX0 D q t A := C0
  obtain ⟨⟨hx, hb, hr, hml, hown, hts, hlocks, hK, hA⟩, hG⟩ := id C0
  have hl : lv_has ls 2 [(0, .ref a_o), (1, .ref a_p0)] := hl
  unfold f_an_readBodyRest at hF
  refine lv_aload_n hx hb dX0_readBodyRest_0 rfl (lv_at hl 1 rfl) ?_
  obtain ⟨y_1, hy_1, hF⟩ := cal_d hF
  refine cf_v C0.1 hP hD hS [1, 3] [0, 2] [0, 2, 1, 3] (wr := [oX0 a_o a_o_ids a_o_states a_o_since a_o_reasons a_o_from a_o_next a_o_cert x_o_status x_o_hasCert x_o_bodyPlace x_o_bodyEnd x_o_signature x_o_isByName x_o_tellerPlace x_o_tellerSize x_o_tellerHash x_o_noncePlace x_o_nonceSize, rB q a_p0_data n_p0_data r_p0_data]) (w' := [oX0 a_o a_o_ids a_o_states a_o_since a_o_reasons a_o_from a_o_next a_o_cert x_o_status x_o_hasCert x_o_bodyPlace x_o_bodyEnd x_o_signature x_o_isByName x_o_tellerPlace x_o_tellerSize x_o_tellerHash x_o_noncePlace x_o_nonceSize, oX8 a_p0 a_p0_outerEnds a_p0_data y_1.1 y_1.2.1 x_p0_at y_1.2.2.2.1 y_1.2.2.2.2 y_1.2.2.1 x_p0_items, rB q a_p0_data n_p0_data r_p0_data, rI q a_p0_outerEnds 12 r_p0_outerEnds]) rfl rfl rfl (by decide) rfl rfl (sn_V (As := []) (rest := []) (ci := 7) (q0 := 1) C0 (c_sc_close l D q t a_p0 a_p0_data x_p0_depth x_p0_end x_p0_at x_p0_place x_p0_size x_p0_fault x_p0_items a_p0_outerEnds r_p0_outerEnds  y_1 hy_1) (cwV 0 hts (g_V kw_920 kw_839 kw_840 kw_77 kw_841) rfl rfl rfl hd_X8_close ⟨Nat.le_of_ble_eq_true rfl, Nat.le_of_ble_eq_true rfl⟩) hP hD hS [1, 3] rfl rfl rfl rfl rfl rfl hl (Nat.le_of_ble_eq_true rfl) dX0_readBodyRest_1) (fun H locs hP hD hS => ?_)
  refine lv_aload_n hx hb dX0_readBodyRest_4 rfl (lv_at hl 1 rfl) ?_
  obtain ⟨y_2, hy_2, hF⟩ := cal_d hF
  refine cf_i C0.1 hP hD hS [1] [0, 2, 3] [0, 3, 1, 2] (wr := [oX0 a_o a_o_ids a_o_states a_o_since a_o_reasons a_o_from a_o_next a_o_cert x_o_status x_o_hasCert x_o_bodyPlace x_o_bodyEnd x_o_signature x_o_isByName x_o_tellerPlace x_o_tellerSize x_o_tellerHash x_o_noncePlace x_o_nonceSize, rB q a_p0_data n_p0_data r_p0_data, rI q a_p0_outerEnds 12 r_p0_outerEnds]) (w' := [oX0 a_o a_o_ids a_o_states a_o_since a_o_reasons a_o_from a_o_next a_o_cert x_o_status x_o_hasCert x_o_bodyPlace x_o_bodyEnd x_o_signature x_o_isByName x_o_tellerPlace x_o_tellerSize x_o_tellerHash x_o_noncePlace x_o_nonceSize, oX8 a_p0 a_p0_outerEnds a_p0_data y_1.1 y_1.2.1 x_p0_at y_1.2.2.2.1 y_1.2.2.2.2 y_1.2.2.1 x_p0_items, rB q a_p0_data n_p0_data r_p0_data, rI q a_p0_outerEnds 12 r_p0_outerEnds]) rfl rfl rfl (by decide) rfl rfl (sn_V (As := []) (rest := []) (ci := 7) (q0 := 1) C0 (c_sc_hasMore l D q t a_p0 a_p0_outerEnds a_p0_data y_1.1 y_1.2.1 x_p0_at y_1.2.2.2.1 y_1.2.2.2.2 y_1.2.2.1 x_p0_items  y_2 hy_2) (cwV 0 hts (g_V kw_937 kw_817 kw_818 kw_77 kw_819) rfl rfl rfl hd_X8_hasMore ⟨Nat.le_of_ble_eq_true rfl, Nat.le_of_ble_eq_true rfl⟩) hP hD hS [1] rfl rfl rfl rfl rfl rfl hl (Nat.le_of_ble_eq_true rfl) dX0_readBodyRest_5) (fun H locs hP hD hS => ?_)
  refine lv_if_eq (tgt := 41) hx hb dX0_readBodyRest_8 (by decide) (fun c_3 => ?_) (fun c_3 => ?_)
  · replace hF := ite_t hF c_3
    refine lv_aload_n hx hb dX0_readBodyRest_41 rfl (lv_at hl 1 rfl) ?_
    obtain ⟨y_4, hy_4, hF⟩ := cal_d hF
    refine cf_v C0.1 hP hD hS [1, 3] [0, 2] [0, 2, 1, 3] (wr := [oX0 a_o a_o_ids a_o_states a_o_since a_o_reasons a_o_from a_o_next a_o_cert x_o_status x_o_hasCert x_o_bodyPlace x_o_bodyEnd x_o_signature x_o_isByName x_o_tellerPlace x_o_tellerSize x_o_tellerHash x_o_noncePlace x_o_nonceSize, rB q a_p0_data n_p0_data r_p0_data]) (w' := [oX0 a_o a_o_ids a_o_states a_o_since a_o_reasons a_o_from a_o_next a_o_cert x_o_status x_o_hasCert x_o_bodyPlace x_o_bodyEnd x_o_signature x_o_isByName x_o_tellerPlace x_o_tellerSize x_o_tellerHash x_o_noncePlace x_o_nonceSize, oX8 a_p0 a_p0_outerEnds a_p0_data y_4.1 y_4.2.1 x_p0_at y_4.2.2.2.1 y_4.2.2.2.2 y_4.2.2.1 x_p0_items, rB q a_p0_data n_p0_data r_p0_data, rI q a_p0_outerEnds 12 r_p0_outerEnds]) rfl rfl rfl (by decide) rfl rfl (sn_V (As := []) (rest := []) (ci := 7) (q0 := 1) C0 (c_sc_close l D q t a_p0 a_p0_data y_1.1 y_1.2.1 x_p0_at y_1.2.2.2.1 y_1.2.2.2.2 y_1.2.2.1 x_p0_items a_p0_outerEnds r_p0_outerEnds  y_4 hy_4) (cwV 0 hts (g_V kw_920 kw_839 kw_840 kw_77 kw_841) rfl rfl rfl hd_X8_close ⟨Nat.le_of_ble_eq_true rfl, Nat.le_of_ble_eq_true rfl⟩) hP hD hS [1, 3] rfl rfl rfl rfl rfl rfl hl (Nat.le_of_ble_eq_true rfl) dX0_readBodyRest_42) (fun H locs hP hD hS => ?_)
    refine lv_aload_n hx hb dX0_readBodyRest_45 rfl (lv_at hl 0 rfl) ?_
    refine lv_aload_n hx hb dX0_readBodyRest_46 rfl (lv_at hl 1 rfl) ?_
    refine va_get (D := D) (ci := 7) (v := .int x_p0_at) (C := RX8) (T := TX8) (N := 9) hx hb hts iw_X8 hown hK hP 1 rfl rfl 4 (by decide) (hts _ kw_200) (fun _ h9 => h9) rfl dX0_readBodyRest_47 ?_
    refine va_put (D := D) (ci := 0) (v := .int x_p0_at) (ty := .int) (C := RX0) (T := TX0) (N := 18) hx hb hts iw_X0 tyX0 tyX0_ok nmX0 hown hK hP hD hS 0 rfl rfl 10 (by decide) (hts _ kw_335) (fun _ h9 => h9) rfl (by decide +kernel) rfl rfl (Nat.le_of_ble_eq_true rfl) dX0_readBodyRest_50 (fun H locs hP hD hS => ?_)
    have hP : va_P D vwCl ([oX0 a_o a_o_ids a_o_states a_o_since a_o_reasons a_o_from a_o_next a_o_cert x_o_status x_o_hasCert x_o_bodyPlace x_p0_at x_o_signature x_o_isByName x_o_tellerPlace x_o_tellerSize x_o_tellerHash x_o_noncePlace x_o_nonceSize, oX8 a_p0 a_p0_outerEnds a_p0_data y_4.1 y_4.2.1 x_p0_at y_4.2.2.2.1 y_4.2.2.2.2 y_4.2.2.1 x_p0_items, rB q a_p0_data n_p0_data r_p0_data, rI q a_p0_outerEnds 12 r_p0_outerEnds]) H := hP
    have hD : va_D A ([oX0 a_o a_o_ids a_o_states a_o_since a_o_reasons a_o_from a_o_next a_o_cert x_o_status x_o_hasCert x_o_bodyPlace x_p0_at x_o_signature x_o_isByName x_o_tellerPlace x_o_tellerSize x_o_tellerHash x_o_noncePlace x_o_nonceSize, oX8 a_p0 a_p0_outerEnds a_p0_data y_4.1 y_4.2.1 x_p0_at y_4.2.2.2.1 y_4.2.2.2.2 y_4.2.2.1 x_p0_items, rB q a_p0_data n_p0_data r_p0_data, rI q a_p0_outerEnds 12 r_p0_outerEnds]) := hD
    have hy9 := (Option.some.inj hF).symm
    subst hy9
    exact rt_v C0.1 hP hD hS dX0_readBodyRest_53
  · replace hF := ite_f hF c_3
    refine lv_aload_n hx hb dX0_readBodyRest_11 rfl (lv_at hl 1 rfl) ?_
    refine lv_sipush (v := (163 : Int32)) hx hb dX0_readBodyRest_12 (by decide) ?_
    obtain ⟨y_5, hy_5, hF⟩ := cal_d hF
    refine cf_v C0.1 hP hD hS [1, 2, 3] [0] [0, 1, 2, 3] (wr := [oX0 a_o a_o_ids a_o_states a_o_since a_o_reasons a_o_from a_o_next a_o_cert x_o_status x_o_hasCert x_o_bodyPlace x_o_bodyEnd x_o_signature x_o_isByName x_o_tellerPlace x_o_tellerSize x_o_tellerHash x_o_noncePlace x_o_nonceSize]) (w' := [oX0 a_o a_o_ids a_o_states a_o_since a_o_reasons a_o_from a_o_next a_o_cert x_o_status x_o_hasCert x_o_bodyPlace x_o_bodyEnd x_o_signature x_o_isByName x_o_tellerPlace x_o_tellerSize x_o_tellerHash x_o_noncePlace x_o_nonceSize, oX8 a_p0 a_p0_outerEnds a_p0_data y_5.2.1 y_5.2.2.1 y_5.1 y_5.2.2.2.2.2.2.1 y_5.2.2.2.2.2.2.2 y_5.2.2.2.1 y_5.2.2.2.2.1, rB q a_p0_data n_p0_data r_p0_data, rI q a_p0_outerEnds 12 y_5.2.2.2.2.2.1]) rfl rfl rfl (by decide) rfl rfl (sn_V (As := [.int (163 : Int32)]) (rest := []) (ci := 7) (q0 := 1) C0 (c_sc_open l D q t a_p0 y_1.1 y_1.2.1 x_p0_at y_1.2.2.2.1 y_1.2.2.2.2 y_1.2.2.1 x_p0_items a_p0_data n_p0_data r_p0_data a_p0_outerEnds r_p0_outerEnds (163 : Int32) y_5 hy_5) (cwV 1 hts (g_V kw_904 kw_797 kw_798 kw_77 kw_799) rfl rfl rfl hd_X8_open ⟨Nat.le_of_ble_eq_true rfl, Nat.le_of_ble_eq_true rfl⟩) hP hD hS [1, 2, 3] rfl rfl rfl rfl rfl rfl hl (Nat.le_of_ble_eq_true rfl) dX0_readBodyRest_15) (fun H locs hP hD hS => ?_)
    refine lv_aload_n hx hb dX0_readBodyRest_18 rfl (lv_at hl 0 rfl) ?_
    refine lv_aload_n hx hb dX0_readBodyRest_19 rfl (lv_at hl 1 rfl) ?_
    refine lv_iconst (v := (1 : Int32)) hx hb dX0_readBodyRest_20 (by decide) ?_
    refine lv_bipush (v := (16 : Int32)) hx hb dX0_readBodyRest_21 (by decide) ?_
    obtain ⟨y_6, hy_6, hF⟩ := cal_d hF
    refine cf_i C0.1 hP hD hS [1, 2] [0, 3] [0, 2, 3, 1] (wr := [oX0 a_o a_o_ids a_o_states a_o_since a_o_reasons a_o_from a_o_next a_o_cert x_o_status x_o_hasCert x_o_bodyPlace x_o_bodyEnd x_o_signature x_o_isByName x_o_tellerPlace x_o_tellerSize x_o_tellerHash x_o_noncePlace x_o_nonceSize, rI q a_p0_outerEnds 12 y_5.2.2.2.2.2.1]) (w' := [oX0 a_o a_o_ids a_o_states a_o_since a_o_reasons a_o_from a_o_next a_o_cert x_o_status x_o_hasCert x_o_bodyPlace x_o_bodyEnd x_o_signature x_o_isByName x_o_tellerPlace x_o_tellerSize x_o_tellerHash x_o_noncePlace x_o_nonceSize, oX8 a_p0 a_p0_outerEnds a_p0_data y_5.2.1 y_5.2.2.1 y_6.2.1 y_6.2.2.2.2.1 y_6.2.2.2.2.2 y_6.2.2.1 y_6.2.2.2.1, rB q a_p0_data n_p0_data r_p0_data, rI q a_p0_outerEnds 12 y_5.2.2.2.2.2.1]) rfl rfl rfl (by decide) rfl rfl (sn_V (As := [.int (1 : Int32), .int (16 : Int32)]) (rest := [.ref a_o]) (ci := 7) (q0 := 1) C0 (c_sc_readBytes l D q t a_p0 a_p0_outerEnds y_5.2.1 y_5.2.2.1 y_5.1 y_5.2.2.2.2.2.2.1 y_5.2.2.2.2.2.2.2 y_5.2.2.2.1 y_5.2.2.2.2.1 a_p0_data n_p0_data r_p0_data (1 : Int32) (16 : Int32) y_6 hy_6) (cwV 2 hts (g_V kw_918 kw_850 kw_851 kw_77 kw_852) rfl rfl rfl hd_X8_readBytes ⟨Nat.le_of_ble_eq_true rfl, Nat.le_of_ble_eq_true rfl⟩) hP hD hS [1, 2] rfl rfl rfl rfl rfl rfl hl (Nat.le_of_ble_eq_true rfl) dX0_readBodyRest_23) (fun H locs hP hD hS => ?_)
    refine lv_topi (fun x_o_noncePlace_7 e_x_o_noncePlace_7 => ?_)
    replace hF := bnd_d hF e_x_o_noncePlace_7
    refine va_put (D := D) (ci := 0) (v := .int x_o_noncePlace_7) (ty := .int) (C := RX0) (T := TX0) (N := 18) hx hb hts iw_X0 tyX0 tyX0_ok nmX0 hown hK hP hD hS 0 rfl rfl 16 (by decide) (hts _ kw_343) (fun _ h9 => h9) rfl (by decide +kernel) rfl rfl (Nat.le_of_ble_eq_true rfl) dX0_readBodyRest_26 (fun H locs hP hD hS => ?_)
    have hP : va_P D vwCl ([oX0 a_o a_o_ids a_o_states a_o_since a_o_reasons a_o_from a_o_next a_o_cert x_o_status x_o_hasCert x_o_bodyPlace x_o_bodyEnd x_o_signature x_o_isByName x_o_tellerPlace x_o_tellerSize x_o_tellerHash x_o_noncePlace_7 x_o_nonceSize, oX8 a_p0 a_p0_outerEnds a_p0_data y_5.2.1 y_5.2.2.1 y_6.2.1 y_6.2.2.2.2.1 y_6.2.2.2.2.2 y_6.2.2.1 y_6.2.2.2.1, rB q a_p0_data n_p0_data r_p0_data, rI q a_p0_outerEnds 12 y_5.2.2.2.2.2.1]) H := hP
    have hD : va_D A ([oX0 a_o a_o_ids a_o_states a_o_since a_o_reasons a_o_from a_o_next a_o_cert x_o_status x_o_hasCert x_o_bodyPlace x_o_bodyEnd x_o_signature x_o_isByName x_o_tellerPlace x_o_tellerSize x_o_tellerHash x_o_noncePlace_7 x_o_nonceSize, oX8 a_p0 a_p0_outerEnds a_p0_data y_5.2.1 y_5.2.2.1 y_6.2.1 y_6.2.2.2.2.1 y_6.2.2.2.2.2 y_6.2.2.1 y_6.2.2.2.1, rB q a_p0_data n_p0_data r_p0_data, rI q a_p0_outerEnds 12 y_5.2.2.2.2.2.1]) := hD
    refine lv_aload_n hx hb dX0_readBodyRest_29 rfl (lv_at hl 0 rfl) ?_
    refine lv_aload_n hx hb dX0_readBodyRest_30 rfl (lv_at hl 1 rfl) ?_
    refine va_get (D := D) (ci := 7) (v := .int y_6.2.2.2.2.2) (C := RX8) (T := TX8) (N := 9) hx hb hts iw_X8 hown hK hP 1 rfl rfl 6 (by decide) (hts _ kw_205) (fun _ h9 => h9) rfl dX0_readBodyRest_31 ?_
    refine lv_topi (fun x_o_nonceSize_8 e_x_o_nonceSize_8 => ?_)
    replace hF := bnd_d hF e_x_o_nonceSize_8
    refine va_put (D := D) (ci := 0) (v := .int x_o_nonceSize_8) (ty := .int) (C := RX0) (T := TX0) (N := 18) hx hb hts iw_X0 tyX0 tyX0_ok nmX0 hown hK hP hD hS 0 rfl rfl 17 (by decide) (hts _ kw_345) (fun _ h9 => h9) rfl (by decide +kernel) rfl rfl (Nat.le_of_ble_eq_true rfl) dX0_readBodyRest_34 (fun H locs hP hD hS => ?_)
    have hP : va_P D vwCl ([oX0 a_o a_o_ids a_o_states a_o_since a_o_reasons a_o_from a_o_next a_o_cert x_o_status x_o_hasCert x_o_bodyPlace x_o_bodyEnd x_o_signature x_o_isByName x_o_tellerPlace x_o_tellerSize x_o_tellerHash x_o_noncePlace_7 x_o_nonceSize_8, oX8 a_p0 a_p0_outerEnds a_p0_data y_5.2.1 y_5.2.2.1 y_6.2.1 y_6.2.2.2.2.1 y_6.2.2.2.2.2 y_6.2.2.1 y_6.2.2.2.1, rB q a_p0_data n_p0_data r_p0_data, rI q a_p0_outerEnds 12 y_5.2.2.2.2.2.1]) H := hP
    have hD : va_D A ([oX0 a_o a_o_ids a_o_states a_o_since a_o_reasons a_o_from a_o_next a_o_cert x_o_status x_o_hasCert x_o_bodyPlace x_o_bodyEnd x_o_signature x_o_isByName x_o_tellerPlace x_o_tellerSize x_o_tellerHash x_o_noncePlace_7 x_o_nonceSize_8, oX8 a_p0 a_p0_outerEnds a_p0_data y_5.2.1 y_5.2.2.1 y_6.2.1 y_6.2.2.2.2.1 y_6.2.2.2.2.2 y_6.2.2.1 y_6.2.2.2.1, rB q a_p0_data n_p0_data r_p0_data, rI q a_p0_outerEnds 12 y_5.2.2.2.2.2.1]) := hD
    refine lv_aload_n hx hb dX0_readBodyRest_37 rfl (lv_at hl 1 rfl) ?_
    obtain ⟨y_9, hy_9, hF⟩ := cal_d hF
    refine cf_v C0.1 hP hD hS [1, 3] [0, 2] [0, 2, 1, 3] (wr := [oX0 a_o a_o_ids a_o_states a_o_since a_o_reasons a_o_from a_o_next a_o_cert x_o_status x_o_hasCert x_o_bodyPlace x_o_bodyEnd x_o_signature x_o_isByName x_o_tellerPlace x_o_tellerSize x_o_tellerHash x_o_noncePlace_7 x_o_nonceSize_8, rB q a_p0_data n_p0_data r_p0_data]) (w' := [oX0 a_o a_o_ids a_o_states a_o_since a_o_reasons a_o_from a_o_next a_o_cert x_o_status x_o_hasCert x_o_bodyPlace x_o_bodyEnd x_o_signature x_o_isByName x_o_tellerPlace x_o_tellerSize x_o_tellerHash x_o_noncePlace_7 x_o_nonceSize_8, oX8 a_p0 a_p0_outerEnds a_p0_data y_9.1 y_9.2.1 y_6.2.1 y_9.2.2.2.1 y_9.2.2.2.2 y_9.2.2.1 y_6.2.2.2.1, rB q a_p0_data n_p0_data r_p0_data, rI q a_p0_outerEnds 12 y_5.2.2.2.2.2.1]) rfl rfl rfl (by decide) rfl rfl (sn_V (As := []) (rest := []) (ci := 7) (q0 := 1) C0 (c_sc_close l D q t a_p0 a_p0_data y_5.2.1 y_5.2.2.1 y_6.2.1 y_6.2.2.2.2.1 y_6.2.2.2.2.2 y_6.2.2.1 y_6.2.2.2.1 a_p0_outerEnds y_5.2.2.2.2.2.1  y_9 hy_9) (cwV 0 hts (g_V kw_920 kw_839 kw_840 kw_77 kw_841) rfl rfl rfl hd_X8_close ⟨Nat.le_of_ble_eq_true rfl, Nat.le_of_ble_eq_true rfl⟩) hP hD hS [1, 3] rfl rfl rfl rfl rfl rfl hl (Nat.le_of_ble_eq_true rfl) dX0_readBodyRest_38) (fun H locs hP hD hS => ?_)
    refine lv_aload_n hx hb dX0_readBodyRest_41 rfl (lv_at hl 1 rfl) ?_
    obtain ⟨y_10, hy_10, hF⟩ := cal_d hF
    refine cf_v C0.1 hP hD hS [1, 3] [0, 2] [0, 2, 1, 3] (wr := [oX0 a_o a_o_ids a_o_states a_o_since a_o_reasons a_o_from a_o_next a_o_cert x_o_status x_o_hasCert x_o_bodyPlace x_o_bodyEnd x_o_signature x_o_isByName x_o_tellerPlace x_o_tellerSize x_o_tellerHash x_o_noncePlace_7 x_o_nonceSize_8, rB q a_p0_data n_p0_data r_p0_data]) (w' := [oX0 a_o a_o_ids a_o_states a_o_since a_o_reasons a_o_from a_o_next a_o_cert x_o_status x_o_hasCert x_o_bodyPlace x_o_bodyEnd x_o_signature x_o_isByName x_o_tellerPlace x_o_tellerSize x_o_tellerHash x_o_noncePlace_7 x_o_nonceSize_8, oX8 a_p0 a_p0_outerEnds a_p0_data y_10.1 y_10.2.1 y_6.2.1 y_10.2.2.2.1 y_10.2.2.2.2 y_10.2.2.1 y_6.2.2.2.1, rB q a_p0_data n_p0_data r_p0_data, rI q a_p0_outerEnds 12 y_5.2.2.2.2.2.1]) rfl rfl rfl (by decide) rfl rfl (sn_V (As := []) (rest := []) (ci := 7) (q0 := 1) C0 (c_sc_close l D q t a_p0 a_p0_data y_9.1 y_9.2.1 y_6.2.1 y_9.2.2.2.1 y_9.2.2.2.2 y_9.2.2.1 y_6.2.2.2.1 a_p0_outerEnds y_5.2.2.2.2.2.1  y_10 hy_10) (cwV 0 hts (g_V kw_920 kw_839 kw_840 kw_77 kw_841) rfl rfl rfl hd_X8_close ⟨Nat.le_of_ble_eq_true rfl, Nat.le_of_ble_eq_true rfl⟩) hP hD hS [1, 3] rfl rfl rfl rfl rfl rfl hl (Nat.le_of_ble_eq_true rfl) dX0_readBodyRest_42) (fun H locs hP hD hS => ?_)
    refine lv_aload_n hx hb dX0_readBodyRest_45 rfl (lv_at hl 0 rfl) ?_
    refine lv_aload_n hx hb dX0_readBodyRest_46 rfl (lv_at hl 1 rfl) ?_
    refine va_get (D := D) (ci := 7) (v := .int y_6.2.1) (C := RX8) (T := TX8) (N := 9) hx hb hts iw_X8 hown hK hP 1 rfl rfl 4 (by decide) (hts _ kw_200) (fun _ h9 => h9) rfl dX0_readBodyRest_47 ?_
    refine lv_topi (fun x_o_bodyEnd_11 e_x_o_bodyEnd_11 => ?_)
    replace hF := bnd_d hF e_x_o_bodyEnd_11
    refine va_put (D := D) (ci := 0) (v := .int x_o_bodyEnd_11) (ty := .int) (C := RX0) (T := TX0) (N := 18) hx hb hts iw_X0 tyX0 tyX0_ok nmX0 hown hK hP hD hS 0 rfl rfl 10 (by decide) (hts _ kw_335) (fun _ h9 => h9) rfl (by decide +kernel) rfl rfl (Nat.le_of_ble_eq_true rfl) dX0_readBodyRest_50 (fun H locs hP hD hS => ?_)
    have hP : va_P D vwCl ([oX0 a_o a_o_ids a_o_states a_o_since a_o_reasons a_o_from a_o_next a_o_cert x_o_status x_o_hasCert x_o_bodyPlace x_o_bodyEnd_11 x_o_signature x_o_isByName x_o_tellerPlace x_o_tellerSize x_o_tellerHash x_o_noncePlace_7 x_o_nonceSize_8, oX8 a_p0 a_p0_outerEnds a_p0_data y_10.1 y_10.2.1 y_6.2.1 y_10.2.2.2.1 y_10.2.2.2.2 y_10.2.2.1 y_6.2.2.2.1, rB q a_p0_data n_p0_data r_p0_data, rI q a_p0_outerEnds 12 y_5.2.2.2.2.2.1]) H := hP
    have hD : va_D A ([oX0 a_o a_o_ids a_o_states a_o_since a_o_reasons a_o_from a_o_next a_o_cert x_o_status x_o_hasCert x_o_bodyPlace x_o_bodyEnd_11 x_o_signature x_o_isByName x_o_tellerPlace x_o_tellerSize x_o_tellerHash x_o_noncePlace_7 x_o_nonceSize_8, oX8 a_p0 a_p0_outerEnds a_p0_data y_10.1 y_10.2.1 y_6.2.1 y_10.2.2.2.1 y_10.2.2.2.2 y_10.2.2.1 y_6.2.2.2.1, rB q a_p0_data n_p0_data r_p0_data, rI q a_p0_outerEnds 12 y_5.2.2.2.2.2.1]) := hD
    have hy9 := (Option.some.inj hF).symm
    subst hy9
    exact rt_v C0.1 hP hD hS dX0_readBodyRest_53
set_option maxHeartbeats 4000000 in
set_option maxRecDepth 100000 in
theorem w_sc_number_4 {l : Launch} {p : Program} {e : Env} {s : State} {m : MethodId} {args : Array Value} {below : List Frame} {meth : Method} {c : Code} {A : Nat → Prop} {D : va_G} {q : Nat → ClassId} {t : Nat} (C0 : cy p s m args meth c cX8_number (some .long) 4 RX8 D q t A) (a_o : Nat) (a_o_outerEnds : Nat) (a_o_data : Nat) (n_o_data : Nat)  : ∀ (n : Nat) (x_o_depth : Int32) (x_o_end : Int32) (x_o_at : Int32) (x_o_place : Int32) (x_o_size : Int32) (x_o_fault : Int32) (x_o_items : Int32) (r_o_data : (Nat → Int32)) (v_1 : Int64) (v_3 : Int32) (y : Int64 × Int32) (hF : j_sc_number_4 n x_o_at r_o_data x_o_size n_o_data v_1 v_3 = some y), ∀ (H : Heap) (locs : List Loc) (ls : Array Slot), va_P D vwCl [oX8 a_o a_o_outerEnds a_o_data x_o_depth x_o_end x_o_at x_o_place x_o_size x_o_fault x_o_items, rB q a_o_data n_o_data r_o_data] H → va_D A [oX8 a_o a_o_outerEnds a_o_data x_o_depth x_o_end x_o_at x_o_place x_o_size x_o_fault x_o_items, rB q a_o_data n_o_data r_o_data] → va_S A s.heap H locs → lv_has ls 4 [(0, .ref a_o), (1, .long v_1), (3, .int v_3)] → W p l e ({ frames := 0, cells := 0, slots := 0, locals := 0 }) s m args below meth c H locs 0 0 (MQ below (qL D q y.1 [oX8 a_o a_o_outerEnds a_o_data x_o_depth x_o_end y.2 x_o_place x_o_size x_o_fault x_o_items, rB q a_o_data n_o_data r_o_data] A) args s 0 0 A) (F0 m 4 ls []) := by
  obtain ⟨⟨hx, hb, hr, hml, hown, hts, hlocks, hK, hA⟩, hG⟩ := id C0
  intro n
  induction n with
  | zero =>
    intro x_o_depth x_o_end x_o_at x_o_place x_o_size x_o_fault x_o_items r_o_data v_1 v_3 y hF
    exact absurd (show (none : Option (Int64 × Int32)) = some y from hF) (fun h => by cases h)
  | succ n ih =>
    intro x_o_depth x_o_end x_o_at x_o_place x_o_size x_o_fault x_o_items r_o_data v_1 v_3 y hF H locs ls hP hD hS hl
    rw [j_sc_number_4] at hF
    refine lv_iload_n hx hb dX8_number_4 rfl (lv_at hl 2 rfl) ?_
    refine lv_aload_n hx hb dX8_number_5 rfl (lv_at hl 0 rfl) ?_
    refine va_get (D := D) (ci := 7) (v := .int x_o_size) (C := RX8) (T := TX8) (N := 9) hx hb hts iw_X8 hown hK hP 0 rfl rfl 6 (by decide) (hts _ kw_202) (fun _ h9 => h9) rfl dX8_number_6 ?_
    refine lv_icmp_ge (tgt := 40) hx hb dX8_number_9 (by decide) (fun c_1 => ?_) (fun c_1 => ?_)
    · replace hF := ite_t hF c_1
      refine lv_aload_n hx hb dX8_number_40 rfl (lv_at hl 0 rfl) ?_
      refine lv_dup hx hb dX8_number_41 rfl ?_
      refine va_get (D := D) (ci := 7) (v := .int x_o_at) (C := RX8) (T := TX8) (N := 9) hx hb hts iw_X8 hown hK hP 0 rfl rfl 4 (by decide) (hts _ kw_199) (fun _ h9 => h9) rfl dX8_number_42 ?_
      refine lv_aload_n hx hb dX8_number_45 rfl (lv_at hl 0 rfl) ?_
      refine va_get (D := D) (ci := 7) (v := .int x_o_size) (C := RX8) (T := TX8) (N := 9) hx hb hts iw_X8 hown hK hP 0 rfl rfl 6 (by decide) (hts _ kw_202) (fun _ h9 => h9) rfl dX8_number_46 ?_
      refine lv_iadd hx hb dX8_number_49 ?_
      refine lv_topi (fun x_o_at_2 e_x_o_at_2 => ?_)
      replace hF := bnd_d hF e_x_o_at_2
      refine va_put (D := D) (ci := 7) (v := .int x_o_at_2) (ty := .int) (C := RX8) (T := TX8) (N := 9) hx hb hts iw_X8 tyX8 tyX8_ok nmX8 hown hK hP hD hS 0 rfl rfl 4 (by decide) (hts _ kw_199) (fun _ h9 => h9) rfl (by decide +kernel) rfl rfl (Nat.le_of_ble_eq_true rfl) dX8_number_50 (fun H locs hP hD hS => ?_)
      have hP : va_P D vwCl ([oX8 a_o a_o_outerEnds a_o_data x_o_depth x_o_end x_o_at_2 x_o_place x_o_size x_o_fault x_o_items, rB q a_o_data n_o_data r_o_data]) H := hP
      have hD : va_D A ([oX8 a_o a_o_outerEnds a_o_data x_o_depth x_o_end x_o_at_2 x_o_place x_o_size x_o_fault x_o_items, rB q a_o_data n_o_data r_o_data]) := hD
      refine lv_lload_n hx hb dX8_number_53 rfl (lv_at hl 1 rfl) ?_
      have hy9 := (Option.some.inj hF).symm
      subst hy9
      exact rt_l C0.1 hP hD hS dX8_number_54
    · replace hF := ite_f hF c_1
      refine lv_lload_n hx hb dX8_number_12 rfl (lv_at hl 1 rfl) ?_
      refine lv_bipush (v := (8 : Int32)) hx hb dX8_number_13 (by decide) ?_
      refine lv_lshl hx hb dX8_number_15 rfl ?_
      refine lv_aload_n hx hb dX8_number_16 rfl (lv_at hl 0 rfl) ?_
      refine va_get (D := D) (ci := 7) (v := .ref a_o_data) (C := RX8) (T := TX8) (N := 9) hx hb hts iw_X8 hown hK hP 0 rfl rfl 1 (by decide) (hts _ kw_195) (fun _ h9 => h9) rfl dX8_number_17 ?_
      refine lv_aload_n hx hb dX8_number_20 rfl (lv_at hl 0 rfl) ?_
      refine va_get (D := D) (ci := 7) (v := .int x_o_at) (C := RX8) (T := TX8) (N := 9) hx hb hts iw_X8 hown hK hP 0 rfl rfl 4 (by decide) (hts _ kw_199) (fun _ h9 => h9) rfl dX8_number_21 ?_
      refine lv_iload_n hx hb dX8_number_24 rfl (lv_at hl 2 rfl) ?_
      refine lv_iadd hx hb dX8_number_25 ?_
      obtain ⟨z_3, hF⟩ := chk_d hF
      refine va_bald hx hb hK hP 1 0 rfl rfl z_3 dX8_number_26 ?_
      refine lv_sipush (v := (255 : Int32)) hx hb dX8_number_27 (by decide) ?_
      refine lv_iand hx hb dX8_number_30 ?_
      refine lv_i2l hx hb dX8_number_31 rfl ?_
      refine lv_lor hx hb dX8_number_32 ?_
      refine lv_topl (fun v1_4 e_v1_4 => ?_)
      replace hF := bnd_d hF e_v1_4
      refine lv_lstore_n (lv' := [(1, .long v1_4), (0, .ref a_o), (3, .int v_3)]) hx hb dX8_number_33 rfl hl (by decide) rfl (fun ls hl => ?_)
      obtain ⟨v3_5, e_v3_5⟩ : ∃ z : Int32, z = v_3 + (1 : Int32) := ⟨_, rfl⟩
      replace hF := bnd_d hF e_v3_5
      refine lv_iinc (v := v3_5) (lv' := [(3, .int v3_5), (1, .long v1_4), (0, .ref a_o)]) hx hb dX8_number_34 hl (k := 2) rfl (by rw [e_v3_5]; rfl) (by decide) rfl (fun ls hl => ?_)
      refine lv_goto (tgt := 4) hx hb dX8_number_37 (by decide) ?_
      exact ih x_o_depth x_o_end x_o_at x_o_place x_o_size x_o_fault x_o_items r_o_data v1_4 v3_5 y hF H locs ls hP hD hS (lv_sub hl [2, 1, 0] rfl)
set_option maxHeartbeats 4000000 in
set_option maxRecDepth 100000 in
theorem c_sc_number (l : Launch) (D : va_G) (q : Nat → ClassId) (t : Nat) (a_o : Nat) (a_o_outerEnds : Nat) (x_o_depth : Int32) (x_o_end : Int32) (x_o_at : Int32) (x_o_place : Int32) (x_o_size : Int32) (x_o_fault : Int32) (x_o_items : Int32) (a_o_data : Nat) (n_o_data : Nat) (r_o_data : (Nat → Int32))  (y : Int64 × Int32) (hF : f_sc_number x_o_at r_o_data x_o_size n_o_data = some y)  : cu l yX8_number (vs yX8_number cX8_number 4 (some .long)) ({ frames := 0, cells := 0, slots := 0, locals := 0 }) D q t [.ref a_o] [oX8 a_o a_o_outerEnds a_o_data x_o_depth x_o_end x_o_at x_o_place x_o_size x_o_fault x_o_items, rB q a_o_data n_o_data r_o_data] (qL D q y.1 [oX8 a_o a_o_outerEnds a_o_data x_o_depth x_o_end y.2 x_o_place x_o_size x_o_fault x_o_items, rB q a_o_data n_o_data r_o_data]) := by
  refine cu_of (cc := cX8_number) (nL := 4) (ret := (some .long)) (by decide) (Nat.le_of_ble_eq_true rfl) (fun {p e s m args below meth c A} C0 H locs ls hP hD hS hl => ?_)
  have C0 : cy p s m args meth c cX8_number (some .long) 4 RX8 D q t A := C0
  obtain ⟨⟨hx, hb, hr, hml, hown, hts, hlocks, hK, hA⟩, hG⟩ := id C0
  have hl : lv_has ls 4 [(0, .ref a_o)] := hl
  unfold f_sc_number at hF
  refine lv_lconst (v := (0 : Int64)) hx hb dX8_number_0 (by decide) ?_
  refine lv_lstore_n (lv' := [(1, .long (0 : Int64)), (0, .ref a_o)]) hx hb dX8_number_1 rfl hl (by decide) rfl (fun ls hl => ?_)
  refine lv_iconst (v := (0 : Int32)) hx hb dX8_number_2 (by decide) ?_
  refine lv_istore_n (lv' := [(3, .int (0 : Int32)), (1, .long (0 : Int64)), (0, .ref a_o)]) hx hb dX8_number_3 rfl hl (by decide) rfl (fun ls hl => ?_)
  exact w_sc_number_4 C0 a_o a_o_outerEnds a_o_data n_o_data FU x_o_depth x_o_end x_o_at x_o_place x_o_size x_o_fault x_o_items r_o_data (0 : Int64) (0 : Int32) y hF H locs ls hP hD hS (lv_sub hl [2, 1, 0] rfl)
set_option maxHeartbeats 4000000 in
set_option maxRecDepth 100000 in
theorem c_sc_readHash (l : Launch) (D : va_G) (q : Nat → ClassId) (t : Nat) (a_o : Nat) (a_o_outerEnds : Nat) (x_o_depth : Int32) (x_o_end : Int32) (x_o_at : Int32) (x_o_place : Int32) (x_o_size : Int32) (x_o_fault : Int32) (x_o_items : Int32) (a_o_data : Nat) (n_o_data : Nat) (r_o_data : (Nat → Int32))  (y : Int64 × Int32 × Int32 × Int32 × Int32 × Int32) (hF : f_sc_readHash x_o_at r_o_data x_o_end x_o_fault x_o_items x_o_place x_o_size n_o_data = some y)  : cu l yX8_readHash (vs yX8_readHash cX8_readHash 1 (some .long)) ({ frames := 2, cells := 0, slots := 0, locals := 48 }) D q t [.ref a_o] [oX8 a_o a_o_outerEnds a_o_data x_o_depth x_o_end x_o_at x_o_place x_o_size x_o_fault x_o_items, rB q a_o_data n_o_data r_o_data] (qL D q y.1 [oX8 a_o a_o_outerEnds a_o_data x_o_depth x_o_end y.2.1 y.2.2.2.2.1 y.2.2.2.2.2 y.2.2.1 y.2.2.2.1, rB q a_o_data n_o_data r_o_data]) := by
  refine cu_of (cc := cX8_readHash) (nL := 1) (ret := (some .long)) (by decide) (Nat.le_of_ble_eq_true rfl) (fun {p e s m args below meth c A} C0 H locs ls hP hD hS hl => ?_)
  have C0 : cy p s m args meth c cX8_readHash (some .long) 1 RX8 D q t A := C0
  obtain ⟨⟨hx, hb, hr, hml, hown, hts, hlocks, hK, hA⟩, hG⟩ := id C0
  have hl : lv_has ls 1 [(0, .ref a_o)] := hl
  unfold f_sc_readHash at hF
  refine lv_aload_n hx hb dX8_readHash_0 rfl (lv_at hl 0 rfl) ?_
  refine lv_iconst (v := (4 : Int32)) hx hb dX8_readHash_1 (by decide) ?_
  refine lv_bipush (v := (8 : Int32)) hx hb dX8_readHash_2 (by decide) ?_
  refine lv_bipush (v := (8 : Int32)) hx hb dX8_readHash_4 (by decide) ?_
  obtain ⟨y_1, hy_1, hF⟩ := cal_d hF
  refine cf_i C0.1 hP hD hS [0, 1] [] [0, 1] (wr := []) (w' := [oX8 a_o a_o_outerEnds a_o_data x_o_depth x_o_end y_1.2.1 y_1.2.2.2.2.1 y_1.2.2.2.2.2 y_1.2.2.1 y_1.2.2.2.1, rB q a_o_data n_o_data r_o_data]) rfl rfl rfl (by decide) rfl rfl (sn_V (As := [.int (4 : Int32), .int (8 : Int32), .int (8 : Int32)]) (rest := []) (ci := 7) (q0 := 0) C0 (c_sc_enter l D q t a_o a_o_outerEnds x_o_depth x_o_end x_o_at x_o_place x_o_size x_o_fault x_o_items a_o_data n_o_data r_o_data (4 : Int32) (8 : Int32) (8 : Int32) y_1 hy_1) (cwV 3 hts (g_V kw_800 kw_801 kw_802 kw_77 kw_803) rfl rfl rfl hd_X8_enter ⟨Nat.le_of_ble_eq_true rfl, Nat.le_of_ble_eq_true rfl⟩) hP hD hS [0, 1] rfl rfl rfl rfl rfl rfl hl (Nat.le_of_ble_eq_true rfl) dX8_readHash_6) (fun H locs hP hD hS => ?_)
  refine lv_if_ne (tgt := 14) hx hb dX8_readHash_9 (by decide) (fun c_2 => ?_) (fun c_2 => ?_)
  · replace hF := ite_f hF c_2
    refine lv_aload_n hx hb dX8_readHash_14 rfl (lv_at hl 0 rfl) ?_
    obtain ⟨y_3, hy_3, hF⟩ := cal_d hF
    refine cf_l C0.1 hP hD hS [0, 1] [] [0, 1] (wr := []) (w' := [oX8 a_o a_o_outerEnds a_o_data x_o_depth x_o_end y_3.2 y_1.2.2.2.2.1 y_1.2.2.2.2.2 y_1.2.2.1 y_1.2.2.2.1, rB q a_o_data n_o_data r_o_data]) rfl rfl rfl (by decide) rfl rfl (sn_V (As := []) (rest := []) (ci := 7) (q0 := 0) C0 (c_sc_number l D q t a_o a_o_outerEnds x_o_depth x_o_end y_1.2.1 y_1.2.2.2.2.1 y_1.2.2.2.2.2 y_1.2.2.1 y_1.2.2.2.1 a_o_data n_o_data r_o_data  y_3 hy_3) (cwV 0 hts (g_V kw_829 kw_831 kw_5 kw_77 kw_832) rfl rfl rfl hd_X8_number ⟨Nat.le_of_ble_eq_true rfl, Nat.le_of_ble_eq_true rfl⟩) hP hD hS [0, 1] rfl rfl rfl rfl rfl rfl hl (Nat.le_of_ble_eq_true rfl) dX8_readHash_15) (fun H locs hP hD hS => ?_)
    have hy9 := (Option.some.inj hF).symm
    subst hy9
    exact rt_l C0.1 hP hD hS dX8_readHash_18
  · replace hF := ite_t hF c_2
    refine lv_lconst (v := (0 : Int64)) hx hb dX8_readHash_12 (by decide) ?_
    have hy9 := (Option.some.inj hF).symm
    subst hy9
    exact rt_l C0.1 hP hD hS dX8_readHash_13
set_option maxHeartbeats 4000000 in
set_option maxRecDepth 100000 in
theorem w_an_readTeller_16 {l : Launch} {p : Program} {e : Env} {s : State} {m : MethodId} {args : Array Value} {below : List Frame} {meth : Method} {c : Code} {A : Nat → Prop} {D : va_G} {q : Nat → ClassId} {t : Nat} (C0 : cy p s m args meth c cX0_readTeller none 2 RX0 D q t A) (a_o : Nat) (a_o_ids : Nat) (a_o_states : Nat) (a_o_since : Nat) (a_o_reasons : Nat) (a_o_from : Nat) (a_o_next : Nat) (a_o_cert : Nat) (a_p0 : Nat) (a_p0_data : Nat) (n_p0_data : Nat) (a_p0_outerEnds : Nat)  (x_o_status : Int32) (x_o_hasCert : Int32) (x_o_bodyPlace : Int32) (x_o_bodyEnd : Int32) (x_o_signature : Int64) (x_o_isByName : Int32) (x_o_tellerPlace : Int32) (x_o_tellerSize : Int32) (x_o_tellerHash : Int64) (x_o_noncePlace : Int32) (x_o_nonceSize : Int32) (x_p0_depth : Int32) (x_p0_end : Int32) (x_p0_at : Int32) (x_p0_place : Int32) (x_p0_size : Int32) (x_p0_fault : Int32) (x_p0_items : Int32) (r_p0_data : (Nat → Int32)) (r_p0_outerEnds : (Nat → Int32)) (s_0 : Int32) (y : Int32 × Int64 × Int32 × Int32 × Int32 × Int32 × Int32 × Int32 × Int32 × (Nat → Int32) × Int32 × Int32) (hF : j_an_readTeller_16 x_o_isByName x_o_tellerHash x_o_tellerPlace x_o_tellerSize x_p0_at r_p0_data x_p0_depth x_p0_end x_p0_fault x_p0_items r_p0_outerEnds x_p0_place x_p0_size n_p0_data s_0 = some y) : ∀ (H : Heap) (locs : List Loc) (ls : Array Slot), va_P D vwCl [oX0 a_o a_o_ids a_o_states a_o_since a_o_reasons a_o_from a_o_next a_o_cert x_o_status x_o_hasCert x_o_bodyPlace x_o_bodyEnd x_o_signature x_o_isByName x_o_tellerPlace x_o_tellerSize x_o_tellerHash x_o_noncePlace x_o_nonceSize, oX8 a_p0 a_p0_outerEnds a_p0_data x_p0_depth x_p0_end x_p0_at x_p0_place x_p0_size x_p0_fault x_p0_items, rB q a_p0_data n_p0_data r_p0_data, rI q a_p0_outerEnds 12 r_p0_outerEnds] H → va_D A [oX0 a_o a_o_ids a_o_states a_o_since a_o_reasons a_o_from a_o_next a_o_cert x_o_status x_o_hasCert x_o_bodyPlace x_o_bodyEnd x_o_signature x_o_isByName x_o_tellerPlace x_o_tellerSize x_o_tellerHash x_o_noncePlace x_o_nonceSize, oX8 a_p0 a_p0_outerEnds a_p0_data x_p0_depth x_p0_end x_p0_at x_p0_place x_p0_size x_p0_fault x_p0_items, rB q a_p0_data n_p0_data r_p0_data, rI q a_p0_outerEnds 12 r_p0_outerEnds] → va_S A s.heap H locs → lv_has ls 2 [(0, .ref a_o), (1, .ref a_p0)] → W p l e ({ frames := 3, cells := 0, slots := 0, locals := 71 }) s m args below meth c H locs 0 0 (MQ below (qV D q [oX0 a_o a_o_ids a_o_states a_o_since a_o_reasons a_o_from a_o_next a_o_cert x_o_status x_o_hasCert x_o_bodyPlace x_o_bodyEnd x_o_signature y.1 y.2.2.1 y.2.2.2.1 y.2.1 x_o_noncePlace x_o_nonceSize, oX8 a_p0 a_p0_outerEnds a_p0_data y.2.2.2.2.2.1 y.2.2.2.2.2.2.1 y.2.2.2.2.1 y.2.2.2.2.2.2.2.2.2.2.1 y.2.2.2.2.2.2.2.2.2.2.2 y.2.2.2.2.2.2.2.1 y.2.2.2.2.2.2.2.2.1, rB q a_p0_data n_p0_data r_p0_data, rI q a_p0_outerEnds 12 y.2.2.2.2.2.2.2.2.2.1] A) args s 0 0 A) (F0 m 16 ls [.int s_0, .ref a_o]) := by
  obtain ⟨⟨hx, hb, hr, hml, hown, hts, hlocks, hK, hA⟩, hG⟩ := id C0
  intro H locs ls hP hD hS hl
  unfold j_an_readTeller_16 at hF
  obtain ⟨z_3, hF⟩ := chk_d hF
  refine va_put (D := D) (ci := 0) (v := .int s_0) (ty := .boolean) (C := RX0) (T := TX0) (N := 18) hx hb hts iw_X0 tyX0 tyX0_ok nmX0 hown hK hP hD hS 0 rfl rfl 12 (by decide) (hts _ kw_339) (fun _ h9 => h9) rfl (by decide +kernel) z_3.1 z_3.2 (Nat.le_of_ble_eq_true rfl) dX0_readTeller_16 (fun H locs hP hD hS => ?_)
  have hP : va_P D vwCl ([oX0 a_o a_o_ids a_o_states a_o_since a_o_reasons a_o_from a_o_next a_o_cert x_o_status x_o_hasCert x_o_bodyPlace x_o_bodyEnd x_o_signature s_0 x_o_tellerPlace x_o_tellerSize x_o_tellerHash x_o_noncePlace x_o_nonceSize, oX8 a_p0 a_p0_outerEnds a_p0_data x_p0_depth x_p0_end x_p0_at x_p0_place x_p0_size x_p0_fault x_p0_items, rB q a_p0_data n_p0_data r_p0_data, rI q a_p0_outerEnds 12 r_p0_outerEnds]) H := hP
  have hD : va_D A ([oX0 a_o a_o_ids a_o_states a_o_since a_o_reasons a_o_from a_o_next a_o_cert x_o_status x_o_hasCert x_o_bodyPlace x_o_bodyEnd x_o_signature s_0 x_o_tellerPlace x_o_tellerSize x_o_tellerHash x_o_noncePlace x_o_nonceSize, oX8 a_p0 a_p0_outerEnds a_p0_data x_p0_depth x_p0_end x_p0_at x_p0_place x_p0_size x_p0_fault x_p0_items, rB q a_p0_data n_p0_data r_p0_data, rI q a_p0_outerEnds 12 r_p0_outerEnds]) := hD
  refine lv_aload_n hx hb dX0_readTeller_19 rfl (lv_at hl 0 rfl) ?_
  refine va_get (D := D) (ci := 0) (v := .int s_0) (C := RX0) (T := TX0) (N := 18) hx hb hts iw_X0 hown hK hP 0 rfl rfl 12 (by decide) (hts _ kw_339) (fun _ h9 => h9) rfl dX0_readTeller_20 ?_
  refine lv_if_eq (tgt := 55) hx hb dX0_readTeller_23 (by decide) (fun c_4 => ?_) (fun c_4 => ?_)
  · replace hF := ite_t hF c_4
    refine lv_aload_n hx hb dX0_readTeller_55 rfl (lv_at hl 1 rfl) ?_
    refine lv_sipush (v := (162 : Int32)) hx hb dX0_readTeller_56 (by decide) ?_
    obtain ⟨y_5, hy_5, hF⟩ := cal_d hF
    refine cf_v C0.1 hP hD hS [1, 2, 3] [0] [0, 1, 2, 3] (wr := [oX0 a_o a_o_ids a_o_states a_o_since a_o_reasons a_o_from a_o_next a_o_cert x_o_status x_o_hasCert x_o_bodyPlace x_o_bodyEnd x_o_signature s_0 x_o_tellerPlace x_o_tellerSize x_o_tellerHash x_o_noncePlace x_o_nonceSize]) (w' := [oX0 a_o a_o_ids a_o_states a_o_since a_o_reasons a_o_from a_o_next a_o_cert x_o_status x_o_hasCert x_o_bodyPlace x_o_bodyEnd x_o_signature s_0 x_o_tellerPlace x_o_tellerSize x_o_tellerHash x_o_noncePlace x_o_nonceSize, oX8 a_p0 a_p0_outerEnds a_p0_data y_5.2.1 y_5.2.2.1 y_5.1 y_5.2.2.2.2.2.2.1 y_5.2.2.2.2.2.2.2 y_5.2.2.2.1 y_5.2.2.2.2.1, rB q a_p0_data n_p0_data r_p0_data, rI q a_p0_outerEnds 12 y_5.2.2.2.2.2.1]) rfl rfl rfl (by decide) rfl rfl (sn_V (As := [.int (162 : Int32)]) (rest := []) (ci := 7) (q0 := 1) C0 (c_sc_open l D q t a_p0 x_p0_depth x_p0_end x_p0_at x_p0_place x_p0_size x_p0_fault x_p0_items a_p0_data n_p0_data r_p0_data a_p0_outerEnds r_p0_outerEnds (162 : Int32) y_5 hy_5) (cwV 1 hts (g_V kw_904 kw_797 kw_798 kw_77 kw_799) rfl rfl rfl hd_X8_open ⟨Nat.le_of_ble_eq_true rfl, Nat.le_of_ble_eq_true rfl⟩) hP hD hS [1, 2, 3] rfl rfl rfl rfl rfl rfl hl (Nat.le_of_ble_eq_true rfl) dX0_readTeller_59) (fun H locs hP hD hS => ?_)
    refine lv_aload_n hx hb dX0_readTeller_62 rfl (lv_at hl 0 rfl) ?_
    refine lv_aload_n hx hb dX0_readTeller_63 rfl (lv_at hl 1 rfl) ?_
    obtain ⟨y_6, hy_6, hF⟩ := cal_d hF
    refine cf_l C0.1 hP hD hS [1, 2] [0, 3] [0, 2, 3, 1] (wr := [oX0 a_o a_o_ids a_o_states a_o_since a_o_reasons a_o_from a_o_next a_o_cert x_o_status x_o_hasCert x_o_bodyPlace x_o_bodyEnd x_o_signature s_0 x_o_tellerPlace x_o_tellerSize x_o_tellerHash x_o_noncePlace x_o_nonceSize, rI q a_p0_outerEnds 12 y_5.2.2.2.2.2.1]) (w' := [oX0 a_o a_o_ids a_o_states a_o_since a_o_reasons a_o_from a_o_next a_o_cert x_o_status x_o_hasCert x_o_bodyPlace x_o_bodyEnd x_o_signature s_0 x_o_tellerPlace x_o_tellerSize x_o_tellerHash x_o_noncePlace x_o_nonceSize, oX8 a_p0 a_p0_outerEnds a_p0_data y_5.2.1 y_5.2.2.1 y_6.2.1 y_6.2.2.2.2.1 y_6.2.2.2.2.2 y_6.2.2.1 y_6.2.2.2.1, rB q a_p0_data n_p0_data r_p0_data, rI q a_p0_outerEnds 12 y_5.2.2.2.2.2.1]) rfl rfl rfl (by decide) rfl rfl (sn_V (As := []) (rest := [.ref a_o]) (ci := 7) (q0 := 1) C0 (c_sc_readHash l D q t a_p0 a_p0_outerEnds y_5.2.1 y_5.2.2.1 y_5.1 y_5.2.2.2.2.2.2.1 y_5.2.2.2.2.2.2.2 y_5.2.2.2.1 y_5.2.2.2.2.1 a_p0_data n_p0_data r_p0_data  y_6 hy_6) (cwV 0 hts (g_V kw_919 kw_826 kw_827 kw_77 kw_828) rfl rfl rfl hd_X8_readHash ⟨Nat.le_of_ble_eq_true rfl, Nat.le_of_ble_eq_true rfl⟩) hP hD hS [1, 2] rfl rfl rfl rfl rfl rfl hl (Nat.le_of_ble_eq_true rfl) dX0_readTeller_64) (fun H locs hP hD hS => ?_)
    refine lv_topl (fun x_o_tellerHash_7 e_x_o_tellerHash_7 => ?_)
    replace hF := bnd_d hF e_x_o_tellerHash_7
    refine va_put (D := D) (ci := 0) (v := .long x_o_tellerHash_7) (ty := .long) (C := RX0) (T := TX0) (N := 18) hx hb hts iw_X0 tyX0 tyX0_ok nmX0 hown hK hP hD hS 0 rfl rfl 15 (by decide) (hts _ kw_342) (fun _ h9 => h9) rfl (by decide +kernel) rfl rfl (Nat.le_of_ble_eq_true rfl) dX0_readTeller_67 (fun H locs hP hD hS => ?_)
    have hP : va_P D vwCl ([oX0 a_o a_o_ids a_o_states a_o_since a_o_reasons a_o_from a_o_next a_o_cert x_o_status x_o_hasCert x_o_bodyPlace x_o_bodyEnd x_o_signature s_0 x_o_tellerPlace x_o_tellerSize x_o_tellerHash_7 x_o_noncePlace x_o_nonceSize, oX8 a_p0 a_p0_outerEnds a_p0_data y_5.2.1 y_5.2.2.1 y_6.2.1 y_6.2.2.2.2.1 y_6.2.2.2.2.2 y_6.2.2.1 y_6.2.2.2.1, rB q a_p0_data n_p0_data r_p0_data, rI q a_p0_outerEnds 12 y_5.2.2.2.2.2.1]) H := hP
    have hD : va_D A ([oX0 a_o a_o_ids a_o_states a_o_since a_o_reasons a_o_from a_o_next a_o_cert x_o_status x_o_hasCert x_o_bodyPlace x_o_bodyEnd x_o_signature s_0 x_o_tellerPlace x_o_tellerSize x_o_tellerHash_7 x_o_noncePlace x_o_nonceSize, oX8 a_p0 a_p0_outerEnds a_p0_data y_5.2.1 y_5.2.2.1 y_6.2.1 y_6.2.2.2.2.1 y_6.2.2.2.2.2 y_6.2.2.1 y_6.2.2.2.1, rB q a_p0_data n_p0_data r_p0_data, rI q a_p0_outerEnds 12 y_5.2.2.2.2.2.1]) := hD
    refine lv_aload_n hx hb dX0_readTeller_70 rfl (lv_at hl 1 rfl) ?_
    obtain ⟨y_8, hy_8, hF⟩ := cal_d hF
    refine cf_v C0.1 hP hD hS [1, 3] [0, 2] [0, 2, 1, 3] (wr := [oX0 a_o a_o_ids a_o_states a_o_since a_o_reasons a_o_from a_o_next a_o_cert x_o_status x_o_hasCert x_o_bodyPlace x_o_bodyEnd x_o_signature s_0 x_o_tellerPlace x_o_tellerSize x_o_tellerHash_7 x_o_noncePlace x_o_nonceSize, rB q a_p0_data n_p0_data r_p0_data]) (w' := [oX0 a_o a_o_ids a_o_states a_o_since a_o_reasons a_o_from a_o_next a_o_cert x_o_status x_o_hasCert x_o_bodyPlace x_o_bodyEnd x_o_signature s_0 x_o_tellerPlace x_o_tellerSize x_o_tellerHash_7 x_o_noncePlace x_o_nonceSize, oX8 a_p0 a_p0_outerEnds a_p0_data y_8.1 y_8.2.1 y_6.2.1 y_8.2.2.2.1 y_8.2.2.2.2 y_8.2.2.1 y_6.2.2.2.1, rB q a_p0_data n_p0_data r_p0_data, rI q a_p0_outerEnds 12 y_5.2.2.2.2.2.1]) rfl rfl rfl (by decide) rfl rfl (sn_V (As := []) (rest := []) (ci := 7) (q0 := 1) C0 (c_sc_close l D q t a_p0 a_p0_data y_5.2.1 y_5.2.2.1 y_6.2.1 y_6.2.2.2.2.1 y_6.2.2.2.2.2 y_6.2.2.1 y_6.2.2.2.1 a_p0_outerEnds y_5.2.2.2.2.2.1  y_8 hy_8) (cwV 0 hts (g_V kw_920 kw_839 kw_840 kw_77 kw_841) rfl rfl rfl hd_X8_close ⟨Nat.le_of_ble_eq_true rfl, Nat.le_of_ble_eq_true rfl⟩) hP hD hS [1, 3] rfl rfl rfl rfl rfl rfl hl (Nat.le_of_ble_eq_true rfl) dX0_readTeller_71) (fun H locs hP hD hS => ?_)
    have hy9 := (Option.some.inj hF).symm
    subst hy9
    exact rt_v C0.1 hP hD hS dX0_readTeller_74
  · replace hF := ite_f hF c_4
    refine lv_aload_n hx hb dX0_readTeller_26 rfl (lv_at hl 1 rfl) ?_
    refine lv_sipush (v := (161 : Int32)) hx hb dX0_readTeller_27 (by decide) ?_
    obtain ⟨y_9, hy_9, hF⟩ := cal_d hF
    refine cf_v C0.1 hP hD hS [1, 2, 3] [0] [0, 1, 2, 3] (wr := [oX0 a_o a_o_ids a_o_states a_o_since a_o_reasons a_o_from a_o_next a_o_cert x_o_status x_o_hasCert x_o_bodyPlace x_o_bodyEnd x_o_signature s_0 x_o_tellerPlace x_o_tellerSize x_o_tellerHash x_o_noncePlace x_o_nonceSize]) (w' := [oX0 a_o a_o_ids a_o_states a_o_since a_o_reasons a_o_from a_o_next a_o_cert x_o_status x_o_hasCert x_o_bodyPlace x_o_bodyEnd x_o_signature s_0 x_o_tellerPlace x_o_tellerSize x_o_tellerHash x_o_noncePlace x_o_nonceSize, oX8 a_p0 a_p0_outerEnds a_p0_data y_9.2.1 y_9.2.2.1 y_9.1 y_9.2.2.2.2.2.2.1 y_9.2.2.2.2.2.2.2 y_9.2.2.2.1 y_9.2.2.2.2.1, rB q a_p0_data n_p0_data r_p0_data, rI q a_p0_outerEnds 12 y_9.2.2.2.2.2.1]) rfl rfl rfl (by decide) rfl rfl (sn_V (As := [.int (161 : Int32)]) (rest := []) (ci := 7) (q0 := 1) C0 (c_sc_open l D q t a_p0 x_p0_depth x_p0_end x_p0_at x_p0_place x_p0_size x_p0_fault x_p0_items a_p0_data n_p0_data r_p0_data a_p0_outerEnds r_p0_outerEnds (161 : Int32) y_9 hy_9) (cwV 1 hts (g_V kw_904 kw_797 kw_798 kw_77 kw_799) rfl rfl rfl hd_X8_open ⟨Nat.le_of_ble_eq_true rfl, Nat.le_of_ble_eq_true rfl⟩) hP hD hS [1, 2, 3] rfl rfl rfl rfl rfl rfl hl (Nat.le_of_ble_eq_true rfl) dX0_readTeller_30) (fun H locs hP hD hS => ?_)
    refine lv_aload_n hx hb dX0_readTeller_33 rfl (lv_at hl 0 rfl) ?_
    refine lv_aload_n hx hb dX0_readTeller_34 rfl (lv_at hl 1 rfl) ?_
    refine lv_iconst (v := (1 : Int32)) hx hb dX0_readTeller_35 (by decide) ?_
    refine lv_bipush (v := (16 : Int32)) hx hb dX0_readTeller_36 (by decide) ?_
    obtain ⟨y_10, hy_10, hF⟩ := cal_d hF
    refine cf_i C0.1 hP hD hS [1, 2] [0, 3] [0, 2, 3, 1] (wr := [oX0 a_o a_o_ids a_o_states a_o_since a_o_reasons a_o_from a_o_next a_o_cert x_o_status x_o_hasCert x_o_bodyPlace x_o_bodyEnd x_o_signature s_0 x_o_tellerPlace x_o_tellerSize x_o_tellerHash x_o_noncePlace x_o_nonceSize, rI q a_p0_outerEnds 12 y_9.2.2.2.2.2.1]) (w' := [oX0 a_o a_o_ids a_o_states a_o_since a_o_reasons a_o_from a_o_next a_o_cert x_o_status x_o_hasCert x_o_bodyPlace x_o_bodyEnd x_o_signature s_0 x_o_tellerPlace x_o_tellerSize x_o_tellerHash x_o_noncePlace x_o_nonceSize, oX8 a_p0 a_p0_outerEnds a_p0_data y_9.2.1 y_9.2.2.1 y_10.2.1 y_10.2.2.2.2.1 y_10.2.2.2.2.2 y_10.2.2.1 y_10.2.2.2.1, rB q a_p0_data n_p0_data r_p0_data, rI q a_p0_outerEnds 12 y_9.2.2.2.2.2.1]) rfl rfl rfl (by decide) rfl rfl (sn_V (As := [.int (1 : Int32), .int (16 : Int32)]) (rest := [.ref a_o]) (ci := 7) (q0 := 1) C0 (c_sc_readBytes l D q t a_p0 a_p0_outerEnds y_9.2.1 y_9.2.2.1 y_9.1 y_9.2.2.2.2.2.2.1 y_9.2.2.2.2.2.2.2 y_9.2.2.2.1 y_9.2.2.2.2.1 a_p0_data n_p0_data r_p0_data (1 : Int32) (16 : Int32) y_10 hy_10) (cwV 2 hts (g_V kw_918 kw_850 kw_851 kw_77 kw_852) rfl rfl rfl hd_X8_readBytes ⟨Nat.le_of_ble_eq_true rfl, Nat.le_of_ble_eq_true rfl⟩) hP hD hS [1, 2] rfl rfl rfl rfl rfl rfl hl (Nat.le_of_ble_eq_true rfl) dX0_readTeller_38) (fun H locs hP hD hS => ?_)
    refine lv_topi (fun x_o_tellerPlace_11 e_x_o_tellerPlace_11 => ?_)
    replace hF := bnd_d hF e_x_o_tellerPlace_11
    refine va_put (D := D) (ci := 0) (v := .int x_o_tellerPlace_11) (ty := .int) (C := RX0) (T := TX0) (N := 18) hx hb hts iw_X0 tyX0 tyX0_ok nmX0 hown hK hP hD hS 0 rfl rfl 13 (by decide) (hts _ kw_340) (fun _ h9 => h9) rfl (by decide +kernel) rfl rfl (Nat.le_of_ble_eq_true rfl) dX0_readTeller_41 (fun H locs hP hD hS => ?_)
    have hP : va_P D vwCl ([oX0 a_o a_o_ids a_o_states a_o_since a_o_reasons a_o_from a_o_next a_o_cert x_o_status x_o_hasCert x_o_bodyPlace x_o_bodyEnd x_o_signature s_0 x_o_tellerPlace_11 x_o_tellerSize x_o_tellerHash x_o_noncePlace x_o_nonceSize, oX8 a_p0 a_p0_outerEnds a_p0_data y_9.2.1 y_9.2.2.1 y_10.2.1 y_10.2.2.2.2.1 y_10.2.2.2.2.2 y_10.2.2.1 y_10.2.2.2.1, rB q a_p0_data n_p0_data r_p0_data, rI q a_p0_outerEnds 12 y_9.2.2.2.2.2.1]) H := hP
    have hD : va_D A ([oX0 a_o a_o_ids a_o_states a_o_since a_o_reasons a_o_from a_o_next a_o_cert x_o_status x_o_hasCert x_o_bodyPlace x_o_bodyEnd x_o_signature s_0 x_o_tellerPlace_11 x_o_tellerSize x_o_tellerHash x_o_noncePlace x_o_nonceSize, oX8 a_p0 a_p0_outerEnds a_p0_data y_9.2.1 y_9.2.2.1 y_10.2.1 y_10.2.2.2.2.1 y_10.2.2.2.2.2 y_10.2.2.1 y_10.2.2.2.1, rB q a_p0_data n_p0_data r_p0_data, rI q a_p0_outerEnds 12 y_9.2.2.2.2.2.1]) := hD
    refine lv_aload_n hx hb dX0_readTeller_44 rfl (lv_at hl 0 rfl) ?_
    refine lv_aload_n hx hb dX0_readTeller_45 rfl (lv_at hl 1 rfl) ?_
    refine va_get (D := D) (ci := 7) (v := .int y_10.2.2.2.2.2) (C := RX8) (T := TX8) (N := 9) hx hb hts iw_X8 hown hK hP 1 rfl rfl 6 (by decide) (hts _ kw_205) (fun _ h9 => h9) rfl dX0_readTeller_46 ?_
    refine lv_topi (fun x_o_tellerSize_12 e_x_o_tellerSize_12 => ?_)
    replace hF := bnd_d hF e_x_o_tellerSize_12
    refine va_put (D := D) (ci := 0) (v := .int x_o_tellerSize_12) (ty := .int) (C := RX0) (T := TX0) (N := 18) hx hb hts iw_X0 tyX0 tyX0_ok nmX0 hown hK hP hD hS 0 rfl rfl 14 (by decide) (hts _ kw_341) (fun _ h9 => h9) rfl (by decide +kernel) rfl rfl (Nat.le_of_ble_eq_true rfl) dX0_readTeller_49 (fun H locs hP hD hS => ?_)
    have hP : va_P D vwCl ([oX0 a_o a_o_ids a_o_states a_o_since a_o_reasons a_o_from a_o_next a_o_cert x_o_status x_o_hasCert x_o_bodyPlace x_o_bodyEnd x_o_signature s_0 x_o_tellerPlace_11 x_o_tellerSize_12 x_o_tellerHash x_o_noncePlace x_o_nonceSize, oX8 a_p0 a_p0_outerEnds a_p0_data y_9.2.1 y_9.2.2.1 y_10.2.1 y_10.2.2.2.2.1 y_10.2.2.2.2.2 y_10.2.2.1 y_10.2.2.2.1, rB q a_p0_data n_p0_data r_p0_data, rI q a_p0_outerEnds 12 y_9.2.2.2.2.2.1]) H := hP
    have hD : va_D A ([oX0 a_o a_o_ids a_o_states a_o_since a_o_reasons a_o_from a_o_next a_o_cert x_o_status x_o_hasCert x_o_bodyPlace x_o_bodyEnd x_o_signature s_0 x_o_tellerPlace_11 x_o_tellerSize_12 x_o_tellerHash x_o_noncePlace x_o_nonceSize, oX8 a_p0 a_p0_outerEnds a_p0_data y_9.2.1 y_9.2.2.1 y_10.2.1 y_10.2.2.2.2.1 y_10.2.2.2.2.2 y_10.2.2.1 y_10.2.2.2.1, rB q a_p0_data n_p0_data r_p0_data, rI q a_p0_outerEnds 12 y_9.2.2.2.2.2.1]) := hD
    refine lv_goto (tgt := 70) hx hb dX0_readTeller_52 (by decide) ?_
    refine lv_aload_n hx hb dX0_readTeller_70 rfl (lv_at hl 1 rfl) ?_
    obtain ⟨y_13, hy_13, hF⟩ := cal_d hF
    refine cf_v C0.1 hP hD hS [1, 3] [0, 2] [0, 2, 1, 3] (wr := [oX0 a_o a_o_ids a_o_states a_o_since a_o_reasons a_o_from a_o_next a_o_cert x_o_status x_o_hasCert x_o_bodyPlace x_o_bodyEnd x_o_signature s_0 x_o_tellerPlace_11 x_o_tellerSize_12 x_o_tellerHash x_o_noncePlace x_o_nonceSize, rB q a_p0_data n_p0_data r_p0_data]) (w' := [oX0 a_o a_o_ids a_o_states a_o_since a_o_reasons a_o_from a_o_next a_o_cert x_o_status x_o_hasCert x_o_bodyPlace x_o_bodyEnd x_o_signature s_0 x_o_tellerPlace_11 x_o_tellerSize_12 x_o_tellerHash x_o_noncePlace x_o_nonceSize, oX8 a_p0 a_p0_outerEnds a_p0_data y_13.1 y_13.2.1 y_10.2.1 y_13.2.2.2.1 y_13.2.2.2.2 y_13.2.2.1 y_10.2.2.2.1, rB q a_p0_data n_p0_data r_p0_data, rI q a_p0_outerEnds 12 y_9.2.2.2.2.2.1]) rfl rfl rfl (by decide) rfl rfl (sn_V (As := []) (rest := []) (ci := 7) (q0 := 1) C0 (c_sc_close l D q t a_p0 a_p0_data y_9.2.1 y_9.2.2.1 y_10.2.1 y_10.2.2.2.2.1 y_10.2.2.2.2.2 y_10.2.2.1 y_10.2.2.2.1 a_p0_outerEnds y_9.2.2.2.2.2.1  y_13 hy_13) (cwV 0 hts (g_V kw_920 kw_839 kw_840 kw_77 kw_841) rfl rfl rfl hd_X8_close ⟨Nat.le_of_ble_eq_true rfl, Nat.le_of_ble_eq_true rfl⟩) hP hD hS [1, 3] rfl rfl rfl rfl rfl rfl hl (Nat.le_of_ble_eq_true rfl) dX0_readTeller_71) (fun H locs hP hD hS => ?_)
    have hy9 := (Option.some.inj hF).symm
    subst hy9
    exact rt_v C0.1 hP hD hS dX0_readTeller_74
set_option maxHeartbeats 4000000 in
set_option maxRecDepth 100000 in
theorem c_an_readTeller (l : Launch) (D : va_G) (q : Nat → ClassId) (t : Nat) (a_o : Nat) (a_o_ids : Nat) (a_o_states : Nat) (a_o_since : Nat) (a_o_reasons : Nat) (a_o_from : Nat) (a_o_next : Nat) (a_o_cert : Nat) (x_o_status : Int32) (x_o_hasCert : Int32) (x_o_bodyPlace : Int32) (x_o_bodyEnd : Int32) (x_o_signature : Int64) (x_o_isByName : Int32) (x_o_tellerPlace : Int32) (x_o_tellerSize : Int32) (x_o_tellerHash : Int64) (x_o_noncePlace : Int32) (x_o_nonceSize : Int32) (a_p0 : Nat) (x_p0_depth : Int32) (x_p0_end : Int32) (x_p0_at : Int32) (x_p0_place : Int32) (x_p0_size : Int32) (x_p0_fault : Int32) (x_p0_items : Int32) (a_p0_data : Nat) (n_p0_data : Nat) (r_p0_data : (Nat → Int32)) (a_p0_outerEnds : Nat) (r_p0_outerEnds : (Nat → Int32))  (y : Int32 × Int64 × Int32 × Int32 × Int32 × Int32 × Int32 × Int32 × Int32 × (Nat → Int32) × Int32 × Int32) (hF : f_an_readTeller x_o_isByName x_o_tellerHash x_o_tellerPlace x_o_tellerSize x_p0_at r_p0_data x_p0_depth x_p0_end x_p0_fault x_p0_items r_p0_outerEnds x_p0_place x_p0_size n_p0_data = some y)  : cu l yX0_readTeller (vs yX0_readTeller cX0_readTeller 2 none) ({ frames := 3, cells := 0, slots := 0, locals := 71 }) D q t [.ref a_o, .ref a_p0] [oX0 a_o a_o_ids a_o_states a_o_since a_o_reasons a_o_from a_o_next a_o_cert x_o_status x_o_hasCert x_o_bodyPlace x_o_bodyEnd x_o_signature x_o_isByName x_o_tellerPlace x_o_tellerSize x_o_tellerHash x_o_noncePlace x_o_nonceSize, oX8 a_p0 a_p0_outerEnds a_p0_data x_p0_depth x_p0_end x_p0_at x_p0_place x_p0_size x_p0_fault x_p0_items, rB q a_p0_data n_p0_data r_p0_data, rI q a_p0_outerEnds 12 r_p0_outerEnds] (qV D q [oX0 a_o a_o_ids a_o_states a_o_since a_o_reasons a_o_from a_o_next a_o_cert x_o_status x_o_hasCert x_o_bodyPlace x_o_bodyEnd x_o_signature y.1 y.2.2.1 y.2.2.2.1 y.2.1 x_o_noncePlace x_o_nonceSize, oX8 a_p0 a_p0_outerEnds a_p0_data y.2.2.2.2.2.1 y.2.2.2.2.2.2.1 y.2.2.2.2.1 y.2.2.2.2.2.2.2.2.2.2.1 y.2.2.2.2.2.2.2.2.2.2.2 y.2.2.2.2.2.2.2.1 y.2.2.2.2.2.2.2.2.1, rB q a_p0_data n_p0_data r_p0_data, rI q a_p0_outerEnds 12 y.2.2.2.2.2.2.2.2.2.1]) := by
  refine cu_of (cc := cX0_readTeller) (nL := 2) (ret := none) (by decide) (Nat.le_of_ble_eq_true rfl) (fun {p e s m args below meth c A} C0 H locs ls hP hD hS hl => ?_)
  have C0 : cy p s m args meth c cX0_readTeller none 2 RX0 D q t A := C0
  obtain ⟨⟨hx, hb, hr, hml, hown, hts, hlocks, hK, hA⟩, hG⟩ := id C0
  have hl : lv_has ls 2 [(0, .ref a_o), (1, .ref a_p0)] := hl
  unfold f_an_readTeller at hF
  refine lv_aload_n hx hb dX0_readTeller_0 rfl (lv_at hl 0 rfl) ?_
  refine lv_aload_n hx hb dX0_readTeller_1 rfl (lv_at hl 1 rfl) ?_
  obtain ⟨y_1, hy_1, hF⟩ := cal_d hF
  refine cf_i C0.1 hP hD hS [1, 2] [0, 3] [0, 2, 3, 1] (wr := [oX0 a_o a_o_ids a_o_states a_o_since a_o_reasons a_o_from a_o_next a_o_cert x_o_status x_o_hasCert x_o_bodyPlace x_o_bodyEnd x_o_signature x_o_isByName x_o_tellerPlace x_o_tellerSize x_o_tellerHash x_o_noncePlace x_o_nonceSize, rI q a_p0_outerEnds 12 r_p0_outerEnds]) (w' := [oX0 a_o a_o_ids a_o_states a_o_since a_o_reasons a_o_from a_o_next a_o_cert x_o_status x_o_hasCert x_o_bodyPlace x_o_bodyEnd x_o_signature x_o_isByName x_o_tellerPlace x_o_tellerSize x_o_tellerHash x_o_noncePlace x_o_nonceSize, oX8 a_p0 a_p0_outerEnds a_p0_data x_p0_depth x_p0_end x_p0_at x_p0_place x_p0_size x_p0_fault x_p0_items, rB q a_p0_data n_p0_data r_p0_data, rI q a_p0_outerEnds 12 r_p0_outerEnds]) rfl rfl rfl (by decide) rfl rfl (sn_V (As := []) (rest := [.ref a_o]) (ci := 7) (q0 := 1) C0 (c_sc_sortAhead l D q t a_p0 a_p0_outerEnds x_p0_depth x_p0_end x_p0_at x_p0_place x_p0_size x_p0_fault x_p0_items a_p0_data n_p0_data r_p0_data  y_1 hy_1) (cwV 0 hts (g_V kw_917 kw_805 kw_806 kw_77 kw_807) rfl rfl rfl hd_X8_sortAhead ⟨Nat.le_of_ble_eq_true rfl, Nat.le_of_ble_eq_true rfl⟩) hP hD hS [1, 2] rfl rfl rfl rfl rfl rfl hl (Nat.le_of_ble_eq_true rfl) dX0_readTeller_2) (fun H locs hP hD hS => ?_)
  refine lv_sipush (v := (162 : Int32)) hx hb dX0_readTeller_5 (by decide) ?_
  refine lv_icmp_eq (tgt := 15) hx hb dX0_readTeller_8 (by decide) (fun c_2 => ?_) (fun c_2 => ?_)
  · replace hF := ite_t hF c_2
    refine lv_iconst (v := (0 : Int32)) hx hb dX0_readTeller_15 (by decide) ?_
    exact w_an_readTeller_16 C0 a_o a_o_ids a_o_states a_o_since a_o_reasons a_o_from a_o_next a_o_cert a_p0 a_p0_data n_p0_data a_p0_outerEnds x_o_status x_o_hasCert x_o_bodyPlace x_o_bodyEnd x_o_signature x_o_isByName x_o_tellerPlace x_o_tellerSize x_o_tellerHash x_o_noncePlace x_o_nonceSize x_p0_depth x_p0_end x_p0_at x_p0_place x_p0_size x_p0_fault x_p0_items r_p0_data r_p0_outerEnds (0 : Int32) y hF H locs ls hP hD hS (lv_sub hl [0, 1] rfl)
  · replace hF := ite_f hF c_2
    refine lv_iconst (v := (1 : Int32)) hx hb dX0_readTeller_11 (by decide) ?_
    refine lv_goto (tgt := 16) hx hb dX0_readTeller_12 (by decide) ?_
    exact w_an_readTeller_16 C0 a_o a_o_ids a_o_states a_o_since a_o_reasons a_o_from a_o_next a_o_cert a_p0 a_p0_data n_p0_data a_p0_outerEnds x_o_status x_o_hasCert x_o_bodyPlace x_o_bodyEnd x_o_signature x_o_isByName x_o_tellerPlace x_o_tellerSize x_o_tellerHash x_o_noncePlace x_o_nonceSize x_p0_depth x_p0_end x_p0_at x_p0_place x_p0_size x_p0_fault x_p0_items r_p0_data r_p0_outerEnds (1 : Int32) y hF H locs ls hP hD hS (lv_sub hl [0, 1] rfl)
set_option maxHeartbeats 4000000 in
set_option maxRecDepth 100000 in
theorem w_ti_seconds_220 {l : Launch} {p : Program} {e : Env} {s : State} {m : MethodId} {args : Array Value} {below : List Frame} {meth : Method} {c : Code} {A : Nat → Prop} {D : va_G} {q : Nat → ClassId} {t : Nat} (C0 : cy p s m args meth c cX10_seconds (some .long) 18 RX10 D q t A)   : ∀ (n : Nat)  (v_4 : Int32) (v_7 : Int64) (v_9 : Int64) (v_11 : Int64) (v_15 : Int64) (v_17 : Int32) (y : Int64) (hF : j_ti_seconds_220 n v_4 v_7 v_9 v_11 v_15 v_17 = some y), ∀ (H : Heap) (locs : List Loc) (ls : Array Slot), va_P D vwCl [] H → va_D A [] → va_S A s.heap H locs → lv_has ls 18 [(4, .int v_4), (7, .long v_7), (9, .long v_9), (11, .long v_11), (15, .long v_15), (17, .int v_17)] → W p l e ({ frames := 0, cells := 0, slots := 0, locals := 0 }) s m args below meth c H locs 0 0 (MQ below (qL D q y [] A) args s 0 0 A) (F0 m 220 ls []) := by
  obtain ⟨⟨hx, hb, hr, hml, hown, hts, hlocks, hK, hA⟩, hG⟩ := id C0
  intro n
  induction n with
  | zero =>
    intro  v_4 v_7 v_9 v_11 v_15 v_17 y hF
    exact absurd (show (none : Option (Int64)) = some y from hF) (fun h => by cases h)
  | succ n ih =>
    intro  v_4 v_7 v_9 v_11 v_15 v_17 y hF H locs ls hP hD hS hl
    rw [j_ti_seconds_220] at hF
    refine lv_iload hx hb dX10_seconds_220 (lv_at hl 5 rfl) ?_
    refine lv_iload hx hb dX10_seconds_222 (lv_at hl 0 rfl) ?_
    refine lv_icmp_ge (tgt := 245) hx hb dX10_seconds_224 (by decide) (fun c_25 => ?_) (fun c_25 => ?_)
    · replace hF := ite_t hF c_25
      refine lv_lload hx hb dX10_seconds_245 (lv_at hl 4 rfl) ?_
      refine lv_ldc2 (v := (86400 : Int64)) hx hb hown (hts _ kw_700) dX10_seconds_247 ?_
      refine lv_lmul hx hb dX10_seconds_250 ?_
      refine lv_lload hx hb dX10_seconds_251 (lv_at hl 1 rfl) ?_
      refine lv_ldc2 (v := (3600 : Int64)) hx hb hown (hts _ kw_710) dX10_seconds_253 ?_
      refine lv_lmul hx hb dX10_seconds_256 ?_
      refine lv_ladd hx hb dX10_seconds_257 ?_
      refine lv_lload hx hb dX10_seconds_258 (lv_at hl 2 rfl) ?_
      refine lv_ldc2 (v := (60 : Int64)) hx hb hown (hts _ kw_711) dX10_seconds_260 ?_
      refine lv_lmul hx hb dX10_seconds_263 ?_
      refine lv_ladd hx hb dX10_seconds_264 ?_
      refine lv_lload hx hb dX10_seconds_265 (lv_at hl 3 rfl) ?_
      refine lv_ladd hx hb dX10_seconds_267 ?_
      have hy9 := (Option.some.inj hF).symm
      subst hy9
      exact rt_l C0.1 hP hD hS dX10_seconds_268
    · replace hF := ite_f hF c_25
      refine lv_lload hx hb dX10_seconds_227 (lv_at hl 4 rfl) ?_
      refine va_gets hx hb hG.1 hS hown (hts _ kw_704) (fun _ h9 => h9) dX10_seconds_229 ?_
      refine lv_iload hx hb dX10_seconds_232 (lv_at hl 5 rfl) ?_
      obtain ⟨z_26, hF⟩ := chk_d hF
      refine va_ti hx hb hG.2 hS z_26 rfl dX10_seconds_234 ?_
      refine lv_i2l hx hb dX10_seconds_235 rfl ?_
      refine lv_ladd hx hb dX10_seconds_236 ?_
      refine lv_topl (fun v15_27 e_v15_27 => ?_)
      replace hF := bnd_d hF e_v15_27
      refine lv_lstore (lv' := [(15, .long v15_27), (4, .int v_4), (7, .long v_7), (9, .long v_9), (11, .long v_11), (17, .int v_17)]) hx hb dX10_seconds_237 hl (by decide) rfl (fun ls hl => ?_)
      obtain ⟨v17_28, e_v17_28⟩ : ∃ z : Int32, z = v_17 + (1 : Int32) := ⟨_, rfl⟩
      replace hF := bnd_d hF e_v17_28
      refine lv_iinc (v := v17_28) (lv' := [(17, .int v17_28), (15, .long v15_27), (4, .int v_4), (7, .long v_7), (9, .long v_9), (11, .long v_11)]) hx hb dX10_seconds_239 hl (k := 5) rfl (by rw [e_v17_28]; rfl) (by decide) rfl (fun ls hl => ?_)
      refine lv_goto (tgt := 220) hx hb dX10_seconds_242 (by decide) ?_
      exact ih v_4 v_7 v_9 v_11 v15_27 v17_28 y hF H locs ls hP hD hS (lv_sub hl [2, 3, 4, 5, 1, 0] rfl)
set_option maxHeartbeats 4000000 in
set_option maxRecDepth 100000 in
theorem w_ti_seconds_133 {l : Launch} {p : Program} {e : Env} {s : State} {m : MethodId} {args : Array Value} {below : List Frame} {meth : Method} {c : Code} {A : Nat → Prop} {D : va_G} {q : Nat → ClassId} {t : Nat} (C0 : cy p s m args meth c cX10_seconds (some .long) 18 RX10 D q t A)    (v_2 : Int64) (v_4 : Int32) (v_5 : Int64) (v_7 : Int64) (v_9 : Int64) (v_11 : Int64) (v_13 : Int32) (s_0 : Int32) (s_1 : Int32) (y : Int64) (hF : j_ti_seconds_133 v_2 v_4 v_5 v_7 v_9 v_11 v_13 s_0 s_1 = some y) : ∀ (H : Heap) (locs : List Loc) (ls : Array Slot), va_P D vwCl [] H → va_D A [] → va_S A s.heap H locs → lv_has ls 18 [(2, .long v_2), (4, .int v_4), (5, .long v_5), (7, .long v_7), (9, .long v_9), (11, .long v_11), (13, .int v_13)] → W p l e ({ frames := 0, cells := 0, slots := 0, locals := 0 }) s m args below meth c H locs 0 0 (MQ below (qL D q y [] A) args s 0 0 A) (F0 m 133 ls [.int s_0, .int s_1]) := by
  obtain ⟨⟨hx, hb, hr, hml, hown, hts, hlocks, hK, hA⟩, hG⟩ := id C0
  intro H locs ls hP hD hS hl
  unfold j_ti_seconds_133 at hF
  refine lv_iadd hx hb dX10_seconds_133 ?_
  refine lv_topi (fun v14_16 e_v14_16 => ?_)
  replace hF := bnd_d hF e_v14_16
  refine lv_istore (lv' := [(14, .int v14_16), (2, .long v_2), (4, .int v_4), (5, .long v_5), (7, .long v_7), (9, .long v_9), (11, .long v_11), (13, .int v_13)]) hx hb dX10_seconds_134 hl (by decide) rfl (fun ls hl => ?_)
  refine lv_lload hx hb dX10_seconds_136 (lv_at hl 3 rfl) ?_
  refine lv_lconst (v := (0 : Int64)) hx hb dX10_seconds_138 (by decide) ?_
  refine W.lcmp hx hb dX10_seconds_139 ?_
  refine lv_if_lt (tgt := 179) hx hb dX10_seconds_140 (by decide) (fun c_17 => ?_) (fun c_17 => ?_)
  · replace hF := ite_t hF ((lg_cmp_lt _ _).mp c_17)
    refine lv_ldc2 (v := (-1 : Int64)) hx hb hown (hts _ kw_932) dX10_seconds_179 ?_
    have hy9 := (Option.some.inj hF).symm
    subst hy9
    exact rt_l C0.1 hP hD hS dX10_seconds_182
  · replace hF := ite_f hF (fun h => c_17 ((lg_cmp_lt _ _).mpr h))
    refine lv_lload hx hb dX10_seconds_143 (lv_at hl 3 rfl) ?_
    refine lv_iload hx hb dX10_seconds_145 (lv_at hl 0 rfl) ?_
    refine lv_i2l hx hb dX10_seconds_147 rfl ?_
    refine W.lcmp hx hb dX10_seconds_148 ?_
    refine lv_if_ge (tgt := 179) hx hb dX10_seconds_149 (by decide) (fun c_18 => ?_) (fun c_18 => ?_)
    · replace hF := ite_t hF ((lg_cmp_ge _ _).mp c_18)
      refine lv_ldc2 (v := (-1 : Int64)) hx hb hown (hts _ kw_932) dX10_seconds_179 ?_
      have hy9 := (Option.some.inj hF).symm
      subst hy9
      exact rt_l C0.1 hP hD hS dX10_seconds_182
    · replace hF := ite_f hF (fun h => c_18 ((lg_cmp_ge _ _).mpr h))
      refine lv_lload hx hb dX10_seconds_152 (lv_at hl 4 rfl) ?_
      refine lv_ldc2 (v := (23 : Int64)) hx hb hown (hts _ kw_933) dX10_seconds_154 ?_
      refine W.lcmp hx hb dX10_seconds_157 ?_
      refine lv_if_gt (tgt := 179) hx hb dX10_seconds_158 (by decide) (fun c_19 => ?_) (fun c_19 => ?_)
      · replace hF := ite_t hF ((lg_cmp_gt _ _).mp c_19)
        refine lv_ldc2 (v := (-1 : Int64)) hx hb hown (hts _ kw_932) dX10_seconds_179 ?_
        have hy9 := (Option.some.inj hF).symm
        subst hy9
        exact rt_l C0.1 hP hD hS dX10_seconds_182
      · replace hF := ite_f hF (fun h => c_19 ((lg_cmp_gt _ _).mpr h))
        refine lv_lload hx hb dX10_seconds_161 (lv_at hl 5 rfl) ?_
        refine lv_ldc2 (v := (59 : Int64)) hx hb hown (hts _ kw_934) dX10_seconds_163 ?_
        refine W.lcmp hx hb dX10_seconds_166 ?_
        refine lv_if_gt (tgt := 179) hx hb dX10_seconds_167 (by decide) (fun c_20 => ?_) (fun c_20 => ?_)
        · replace hF := ite_t hF ((lg_cmp_gt _ _).mp c_20)
          refine lv_ldc2 (v := (-1 : Int64)) hx hb hown (hts _ kw_932) dX10_seconds_179 ?_
          have hy9 := (Option.some.inj hF).symm
          subst hy9
          exact rt_l C0.1 hP hD hS dX10_seconds_182
        · replace hF := ite_f hF (fun h => c_20 ((lg_cmp_gt _ _).mpr h))
          refine lv_lload hx hb dX10_seconds_170 (lv_at hl 6 rfl) ?_
          refine lv_ldc2 (v := (59 : Int64)) hx hb hown (hts _ kw_934) dX10_seconds_172 ?_
          refine W.lcmp hx hb dX10_seconds_175 ?_
          refine lv_if_le (tgt := 183) hx hb dX10_seconds_176 (by decide) (fun c_21 => ?_) (fun c_21 => ?_)
          · replace hF := ite_t hF ((lg_cmp_le _ _).mp c_21)
            refine lv_lload_n hx hb dX10_seconds_183 rfl (lv_at hl 1 rfl) ?_
            refine lv_ldc2 (v := (365 : Int64)) hx hb hown (hts _ kw_703) dX10_seconds_184 ?_
            refine lv_lmul hx hb dX10_seconds_187 ?_
            refine lv_lload_n hx hb dX10_seconds_188 rfl (lv_at hl 1 rfl) ?_
            refine lv_ldc2 (v := (3 : Int64)) hx hb hown (hts _ kw_935) dX10_seconds_189 ?_
            refine lv_ladd hx hb dX10_seconds_192 ?_
            refine lv_ldc2 (v := (4 : Int64)) hx hb hown (hts _ kw_707) dX10_seconds_193 ?_
            refine lv_ldiv hx hb dX10_seconds_196 (by decide) ?_
            refine lv_ladd hx hb dX10_seconds_197 ?_
            refine lv_lload hx hb dX10_seconds_198 (lv_at hl 3 rfl) ?_
            refine lv_ladd hx hb dX10_seconds_200 ?_
            refine lv_iload hx hb dX10_seconds_201 (lv_at hl 2 rfl) ?_
            refine lv_iconst (v := (1 : Int32)) hx hb dX10_seconds_203 (by decide) ?_
            refine lv_icmp_le (tgt := 212) hx hb dX10_seconds_204 (by decide) (fun c_22 => ?_) (fun c_22 => ?_)
            · replace hF := ite_t hF c_22
              refine lv_iconst (v := (0 : Int32)) hx hb dX10_seconds_212 (by decide) ?_
              refine lv_i2l hx hb dX10_seconds_213 rfl ?_
              refine lv_ladd hx hb dX10_seconds_214 ?_
              refine lv_topl (fun v15_23 e_v15_23 => ?_)
              replace hF := bnd_d hF e_v15_23
              refine lv_lstore (lv' := [(15, .long v15_23), (14, .int v14_16), (2, .long v_2), (4, .int v_4), (5, .long v_5), (7, .long v_7), (9, .long v_9), (11, .long v_11), (13, .int v_13)]) hx hb dX10_seconds_215 hl (by decide) rfl (fun ls hl => ?_)
              refine lv_iconst (v := (0 : Int32)) hx hb dX10_seconds_217 (by decide) ?_
              refine lv_istore (lv' := [(17, .int (0 : Int32)), (15, .long v15_23), (14, .int v14_16), (2, .long v_2), (4, .int v_4), (5, .long v_5), (7, .long v_7), (9, .long v_9), (11, .long v_11), (13, .int v_13)]) hx hb dX10_seconds_218 hl (by decide) rfl (fun ls hl => ?_)
              exact w_ti_seconds_220 C0  FU v_4 v_7 v_9 v_11 v15_23 (0 : Int32) y hF H locs ls hP hD hS (lv_sub hl [4, 6, 7, 8, 1, 0] rfl)
            · replace hF := ite_f hF c_22
              refine lv_iload hx hb dX10_seconds_207 (lv_at hl 7 rfl) ?_
              refine lv_goto (tgt := 213) hx hb dX10_seconds_209 (by decide) ?_
              refine lv_i2l hx hb dX10_seconds_213 rfl ?_
              refine lv_ladd hx hb dX10_seconds_214 ?_
              refine lv_topl (fun v15_24 e_v15_24 => ?_)
              replace hF := bnd_d hF e_v15_24
              refine lv_lstore (lv' := [(15, .long v15_24), (14, .int v14_16), (2, .long v_2), (4, .int v_4), (5, .long v_5), (7, .long v_7), (9, .long v_9), (11, .long v_11), (13, .int v_13)]) hx hb dX10_seconds_215 hl (by decide) rfl (fun ls hl => ?_)
              refine lv_iconst (v := (0 : Int32)) hx hb dX10_seconds_217 (by decide) ?_
              refine lv_istore (lv' := [(17, .int (0 : Int32)), (15, .long v15_24), (14, .int v14_16), (2, .long v_2), (4, .int v_4), (5, .long v_5), (7, .long v_7), (9, .long v_9), (11, .long v_11), (13, .int v_13)]) hx hb dX10_seconds_218 hl (by decide) rfl (fun ls hl => ?_)
              exact w_ti_seconds_220 C0  FU v_4 v_7 v_9 v_11 v15_24 (0 : Int32) y hF H locs ls hP hD hS (lv_sub hl [4, 6, 7, 8, 1, 0] rfl)
          · replace hF := ite_f hF (fun h => c_21 ((lg_cmp_le _ _).mpr h))
            refine lv_ldc2 (v := (-1 : Int64)) hx hb hown (hts _ kw_932) dX10_seconds_179 ?_
            have hy9 := (Option.some.inj hF).symm
            subst hy9
            exact rt_l C0.1 hP hD hS dX10_seconds_182
set_option maxHeartbeats 4000000 in
set_option maxRecDepth 100000 in
theorem c_ti_seconds (l : Launch) (D : va_G) (q : Nat → ClassId) (t : Nat)  (p_0 : Int64) (y : Int64) (hF : f_ti_seconds p_0 = some y)  : cu l yX10_seconds (vs yX10_seconds cX10_seconds 18 (some .long)) ({ frames := 0, cells := 0, slots := 0, locals := 0 }) D q t [.long p_0] [] (qL D q y []) := by
  refine cu_of (cc := cX10_seconds) (nL := 18) (ret := (some .long)) (by decide) (Nat.le_of_ble_eq_true rfl) (fun {p e s m args below meth c A} C0 H locs ls hP hD hS hl => ?_)
  have C0 : cy p s m args meth c cX10_seconds (some .long) 18 RX10 D q t A := C0
  obtain ⟨⟨hx, hb, hr, hml, hown, hts, hlocks, hK, hA⟩, hG⟩ := id C0
  have hl : lv_has ls 18 [(0, .long p_0)] := hl
  unfold f_ti_seconds at hF
  refine lv_lload_n hx hb dX10_seconds_0 rfl (lv_at hl 0 rfl) ?_
  refine lv_ldc2 (v := (10000000000 : Int64)) hx hb hown (hts _ kw_929) dX10_seconds_1 ?_
  refine lv_ldiv hx hb dX10_seconds_4 (by decide) ?_
  refine lv_ldc2 (v := (2000 : Int64)) hx hb hown (hts _ kw_706) dX10_seconds_5 ?_
  refine lv_lsub hx hb dX10_seconds_8 ?_
  refine lv_topl (fun v2_1 e_v2_1 => ?_)
  replace hF := bnd_d hF e_v2_1
  refine lv_lstore_n (lv' := [(2, .long v2_1), (0, .long p_0)]) hx hb dX10_seconds_9 rfl hl (by decide) rfl (fun ls hl => ?_)
  refine lv_lload_n hx hb dX10_seconds_10 rfl (lv_at hl 1 rfl) ?_
  refine lv_ldc2 (v := (100000000 : Int64)) hx hb hown (hts _ kw_930) dX10_seconds_11 ?_
  refine lv_ldiv hx hb dX10_seconds_14 (by decide) ?_
  refine lv_ldc2 (v := (100 : Int64)) hx hb hown (hts _ kw_712) dX10_seconds_15 ?_
  refine lv_lrem hx hb dX10_seconds_18 (by decide) ?_
  refine lv_l2i hx hb dX10_seconds_19 rfl ?_
  refine lv_iconst (v := (1 : Int32)) hx hb dX10_seconds_20 (by decide) ?_
  refine lv_isub hx hb dX10_seconds_21 ?_
  refine lv_topi (fun v4_2 e_v4_2 => ?_)
  replace hF := bnd_d hF e_v4_2
  refine lv_istore (lv' := [(4, .int v4_2), (2, .long v2_1), (0, .long p_0)]) hx hb dX10_seconds_22 hl (by decide) rfl (fun ls hl => ?_)
  refine lv_lload_n hx hb dX10_seconds_24 rfl (lv_at hl 2 rfl) ?_
  refine lv_ldc2 (v := (1000000 : Int64)) hx hb hown (hts _ kw_709) dX10_seconds_25 ?_
  refine lv_ldiv hx hb dX10_seconds_28 (by decide) ?_
  refine lv_ldc2 (v := (100 : Int64)) hx hb hown (hts _ kw_712) dX10_seconds_29 ?_
  refine lv_lrem hx hb dX10_seconds_32 (by decide) ?_
  refine lv_lconst (v := (1 : Int64)) hx hb dX10_seconds_33 (by decide) ?_
  refine lv_lsub hx hb dX10_seconds_34 ?_
  refine lv_topl (fun v5_3 e_v5_3 => ?_)
  replace hF := bnd_d hF e_v5_3
  refine lv_lstore (lv' := [(5, .long v5_3), (4, .int v4_2), (2, .long v2_1), (0, .long p_0)]) hx hb dX10_seconds_35 hl (by decide) rfl (fun ls hl => ?_)
  refine lv_lload_n hx hb dX10_seconds_37 rfl (lv_at hl 3 rfl) ?_
  refine lv_ldc2 (v := (10000 : Int64)) hx hb hown (hts _ kw_708) dX10_seconds_38 ?_
  refine lv_ldiv hx hb dX10_seconds_41 (by decide) ?_
  refine lv_ldc2 (v := (100 : Int64)) hx hb hown (hts _ kw_712) dX10_seconds_42 ?_
  refine lv_lrem hx hb dX10_seconds_45 (by decide) ?_
  refine lv_topl (fun v7_4 e_v7_4 => ?_)
  replace hF := bnd_d hF e_v7_4
  refine lv_lstore (lv' := [(7, .long v7_4), (5, .long v5_3), (4, .int v4_2), (2, .long v2_1), (0, .long p_0)]) hx hb dX10_seconds_46 hl (by decide) rfl (fun ls hl => ?_)
  refine lv_lload_n hx hb dX10_seconds_48 rfl (lv_at hl 4 rfl) ?_
  refine lv_ldc2 (v := (100 : Int64)) hx hb hown (hts _ kw_712) dX10_seconds_49 ?_
  refine lv_ldiv hx hb dX10_seconds_52 (by decide) ?_
  refine lv_ldc2 (v := (100 : Int64)) hx hb hown (hts _ kw_712) dX10_seconds_53 ?_
  refine lv_lrem hx hb dX10_seconds_56 (by decide) ?_
  refine lv_topl (fun v9_5 e_v9_5 => ?_)
  replace hF := bnd_d hF e_v9_5
  refine lv_lstore (lv' := [(9, .long v9_5), (7, .long v7_4), (5, .long v5_3), (4, .int v4_2), (2, .long v2_1), (0, .long p_0)]) hx hb dX10_seconds_57 hl (by decide) rfl (fun ls hl => ?_)
  refine lv_lload_n hx hb dX10_seconds_59 rfl (lv_at hl 5 rfl) ?_
  refine lv_ldc2 (v := (100 : Int64)) hx hb hown (hts _ kw_712) dX10_seconds_60 ?_
  refine lv_lrem hx hb dX10_seconds_63 (by decide) ?_
  refine lv_topl (fun v11_6 e_v11_6 => ?_)
  replace hF := bnd_d hF e_v11_6
  refine lv_lstore (lv' := [(11, .long v11_6), (9, .long v9_5), (7, .long v7_4), (5, .long v5_3), (4, .int v4_2), (2, .long v2_1), (0, .long p_0)]) hx hb dX10_seconds_64 hl (by decide) rfl (fun ls hl => ?_)
  refine lv_lload_n hx hb dX10_seconds_66 rfl (lv_at hl 5 rfl) ?_
  refine lv_lconst (v := (0 : Int64)) hx hb dX10_seconds_67 (by decide) ?_
  refine W.lcmp hx hb dX10_seconds_68 ?_
  refine lv_if_lt (tgt := 94) hx hb dX10_seconds_69 (by decide) (fun c_7 => ?_) (fun c_7 => ?_)
  · replace hF := ite_t hF ((lg_cmp_lt _ _).mp c_7)
    refine lv_ldc2 (v := (-1 : Int64)) hx hb hown (hts _ kw_932) dX10_seconds_94 ?_
    have hy9 := (Option.some.inj hF).symm
    subst hy9
    exact rt_l C0.1 hP hD hS dX10_seconds_97
  · replace hF := ite_f hF (fun h => c_7 ((lg_cmp_lt _ _).mpr h))
    refine lv_lload_n hx hb dX10_seconds_72 rfl (lv_at hl 5 rfl) ?_
    refine lv_ldc2 (v := (99 : Int64)) hx hb hown (hts _ kw_931) dX10_seconds_73 ?_
    refine W.lcmp hx hb dX10_seconds_76 ?_
    refine lv_if_gt (tgt := 94) hx hb dX10_seconds_77 (by decide) (fun c_8 => ?_) (fun c_8 => ?_)
    · replace hF := ite_t hF ((lg_cmp_gt _ _).mp c_8)
      refine lv_ldc2 (v := (-1 : Int64)) hx hb hown (hts _ kw_932) dX10_seconds_94 ?_
      have hy9 := (Option.some.inj hF).symm
      subst hy9
      exact rt_l C0.1 hP hD hS dX10_seconds_97
    · replace hF := ite_f hF (fun h => c_8 ((lg_cmp_gt _ _).mpr h))
      refine lv_iload hx hb dX10_seconds_80 (lv_at hl 4 rfl) ?_
      refine lv_if_lt (tgt := 94) hx hb dX10_seconds_82 (by decide) (fun c_9 => ?_) (fun c_9 => ?_)
      · replace hF := ite_t hF c_9
        refine lv_ldc2 (v := (-1 : Int64)) hx hb hown (hts _ kw_932) dX10_seconds_94 ?_
        have hy9 := (Option.some.inj hF).symm
        subst hy9
        exact rt_l C0.1 hP hD hS dX10_seconds_97
      · replace hF := ite_f hF c_9
        refine lv_iload hx hb dX10_seconds_85 (lv_at hl 4 rfl) ?_
        refine va_gets hx hb hG.1 hS hown (hts _ kw_704) (fun _ h9 => h9) dX10_seconds_87 ?_
        refine va_tlen (v := (12 : Int32)) hx hb hG.2 hS rfl dX10_seconds_90 ?_
        refine lv_icmp_lt (tgt := 98) hx hb dX10_seconds_91 (by decide) (fun c_10 => ?_) (fun c_10 => ?_)
        · replace hF := ite_t hF c_10
          refine lv_lload_n hx hb dX10_seconds_98 rfl (lv_at hl 5 rfl) ?_
          refine lv_ldc2 (v := (4 : Int64)) hx hb hown (hts _ kw_707) dX10_seconds_99 ?_
          refine lv_lrem hx hb dX10_seconds_102 (by decide) ?_
          refine lv_lconst (v := (0 : Int64)) hx hb dX10_seconds_103 (by decide) ?_
          refine W.lcmp hx hb dX10_seconds_104 ?_
          refine lv_if_ne (tgt := 112) hx hb dX10_seconds_105 (by decide) (fun c_11 => ?_) (fun c_11 => ?_)
          · replace hF := ite_f hF (fun h => c_11 ((lg_cmp_eq _ _).mpr h))
            refine lv_iconst (v := (0 : Int32)) hx hb dX10_seconds_112 (by decide) ?_
            refine lv_istore (lv' := [(13, .int (0 : Int32)), (11, .long v11_6), (9, .long v9_5), (7, .long v7_4), (5, .long v5_3), (4, .int v4_2), (2, .long v2_1), (0, .long p_0)]) hx hb dX10_seconds_113 hl (by decide) rfl (fun ls hl => ?_)
            refine va_gets hx hb hG.1 hS hown (hts _ kw_704) (fun _ h9 => h9) dX10_seconds_115 ?_
            refine lv_iload hx hb dX10_seconds_118 (lv_at hl 5 rfl) ?_
            obtain ⟨z_12, hF⟩ := chk_d hF
            refine va_ti hx hb hG.2 hS z_12 rfl dX10_seconds_120 ?_
            refine lv_iload hx hb dX10_seconds_121 (lv_at hl 5 rfl) ?_
            refine lv_iconst (v := (1 : Int32)) hx hb dX10_seconds_123 (by decide) ?_
            refine lv_icmp_ne (tgt := 132) hx hb dX10_seconds_124 (by decide) (fun c_13 => ?_) (fun c_13 => ?_)
            · replace hF := ite_f hF c_13
              refine lv_iconst (v := (0 : Int32)) hx hb dX10_seconds_132 (by decide) ?_
              exact w_ti_seconds_133 C0  v2_1 v4_2 v5_3 v7_4 v9_5 v11_6 (0 : Int32) (0 : Int32) (mdays v4_2.toNatClampNeg) y hF H locs ls hP hD hS (lv_sub hl [6, 5, 4, 3, 2, 1, 0] rfl)
            · replace hF := ite_t hF c_13
              refine lv_iload hx hb dX10_seconds_127 (lv_at hl 0 rfl) ?_
              refine lv_goto (tgt := 133) hx hb dX10_seconds_129 (by decide) ?_
              exact w_ti_seconds_133 C0  v2_1 v4_2 v5_3 v7_4 v9_5 v11_6 (0 : Int32) (0 : Int32) (mdays v4_2.toNatClampNeg) y hF H locs ls hP hD hS (lv_sub hl [6, 5, 4, 3, 2, 1, 0] rfl)
          · replace hF := ite_t hF ((lg_cmp_eq _ _).mp c_11)
            refine lv_iconst (v := (1 : Int32)) hx hb dX10_seconds_108 (by decide) ?_
            refine lv_goto (tgt := 113) hx hb dX10_seconds_109 (by decide) ?_
            refine lv_istore (lv' := [(13, .int (1 : Int32)), (11, .long v11_6), (9, .long v9_5), (7, .long v7_4), (5, .long v5_3), (4, .int v4_2), (2, .long v2_1), (0, .long p_0)]) hx hb dX10_seconds_113 hl (by decide) rfl (fun ls hl => ?_)
            refine va_gets hx hb hG.1 hS hown (hts _ kw_704) (fun _ h9 => h9) dX10_seconds_115 ?_
            refine lv_iload hx hb dX10_seconds_118 (lv_at hl 5 rfl) ?_
            obtain ⟨z_14, hF⟩ := chk_d hF
            refine va_ti hx hb hG.2 hS z_14 rfl dX10_seconds_120 ?_
            refine lv_iload hx hb dX10_seconds_121 (lv_at hl 5 rfl) ?_
            refine lv_iconst (v := (1 : Int32)) hx hb dX10_seconds_123 (by decide) ?_
            refine lv_icmp_ne (tgt := 132) hx hb dX10_seconds_124 (by decide) (fun c_15 => ?_) (fun c_15 => ?_)
            · replace hF := ite_f hF c_15
              refine lv_iconst (v := (0 : Int32)) hx hb dX10_seconds_132 (by decide) ?_
              exact w_ti_seconds_133 C0  v2_1 v4_2 v5_3 v7_4 v9_5 v11_6 (1 : Int32) (0 : Int32) (mdays v4_2.toNatClampNeg) y hF H locs ls hP hD hS (lv_sub hl [6, 5, 4, 3, 2, 1, 0] rfl)
            · replace hF := ite_t hF c_15
              refine lv_iload hx hb dX10_seconds_127 (lv_at hl 0 rfl) ?_
              refine lv_goto (tgt := 133) hx hb dX10_seconds_129 (by decide) ?_
              exact w_ti_seconds_133 C0  v2_1 v4_2 v5_3 v7_4 v9_5 v11_6 (1 : Int32) (1 : Int32) (mdays v4_2.toNatClampNeg) y hF H locs ls hP hD hS (lv_sub hl [6, 5, 4, 3, 2, 1, 0] rfl)
        · replace hF := ite_f hF c_10
          refine lv_ldc2 (v := (-1 : Int64)) hx hb hown (hts _ kw_932) dX10_seconds_94 ?_
          have hy9 := (Option.some.inj hF).symm
          subst hy9
          exact rt_l C0.1 hP hD hS dX10_seconds_97
set_option maxHeartbeats 4000000 in
set_option maxRecDepth 100000 in
theorem w_sc_readTime_45 {l : Launch} {p : Program} {e : Env} {s : State} {m : MethodId} {args : Array Value} {below : List Frame} {meth : Method} {c : Code} {A : Nat → Prop} {D : va_G} {q : Nat → ClassId} {t : Nat} (C0 : cy p s m args meth c cX8_readTime (some .long) 6 RX8 D q t A) (a_o : Nat) (a_o_outerEnds : Nat) (a_o_data : Nat) (n_o_data : Nat)  : ∀ (n : Nat) (x_o_depth : Int32) (x_o_end : Int32) (x_o_at : Int32) (x_o_place : Int32) (x_o_size : Int32) (x_o_fault : Int32) (x_o_items : Int32) (r_o_data : (Nat → Int32)) (v_1 : Int64) (v_3 : Int32) (v_4 : Int32) (y : Int64 × Int32 × Int32 × Int32 × Int32 × Int32) (hF : j_sc_readTime_45 n x_o_at r_o_data x_o_end x_o_fault x_o_items x_o_place x_o_size n_o_data v_1 v_3 v_4 = some y), ∀ (H : Heap) (locs : List Loc) (ls : Array Slot), va_P D vwCl [oX8 a_o a_o_outerEnds a_o_data x_o_depth x_o_end x_o_at x_o_place x_o_size x_o_fault x_o_items, rB q a_o_data n_o_data r_o_data] H → va_D A [oX8 a_o a_o_outerEnds a_o_data x_o_depth x_o_end x_o_at x_o_place x_o_size x_o_fault x_o_items, rB q a_o_data n_o_data r_o_data] → va_S A s.heap H locs → lv_has ls 6 [(0, .ref a_o), (1, .long v_1), (3, .int v_3), (4, .int v_4)] → W p l e ({ frames := 2, cells := 0, slots := 0, locals := 48 }) s m args below meth c H locs 0 0 (MQ below (qL D q y.1 [oX8 a_o a_o_outerEnds a_o_data x_o_depth x_o_end y.2.1 y.2.2.2.2.1 y.2.2.2.2.2 y.2.2.1 y.2.2.2.1, rB q a_o_data n_o_data r_o_data] A) args s 0 0 A) (F0 m 45 ls []) := by
  obtain ⟨⟨hx, hb, hr, hml, hown, hts, hlocks, hK, hA⟩, hG⟩ := id C0
  intro n
  induction n with
  | zero =>
    intro x_o_depth x_o_end x_o_at x_o_place x_o_size x_o_fault x_o_items r_o_data v_1 v_3 v_4 y hF
    exact absurd (show (none : Option (Int64 × Int32 × Int32 × Int32 × Int32 × Int32)) = some y from hF) (fun h => by cases h)
  | succ n ih =>
    intro x_o_depth x_o_end x_o_at x_o_place x_o_size x_o_fault x_o_items r_o_data v_1 v_3 v_4 y hF H locs ls hP hD hS hl
    rw [j_sc_readTime_45] at hF
    refine lv_iload hx hb dX8_readTime_45 (lv_at hl 3 rfl) ?_
    refine lv_bipush (v := (14 : Int32)) hx hb dX8_readTime_47 (by decide) ?_
    refine lv_icmp_ge (tgt := 107) hx hb dX8_readTime_49 (by decide) (fun c_5 => ?_) (fun c_5 => ?_)
    · replace hF := ite_t hF c_5
      refine lv_aload_n hx hb dX8_readTime_107 rfl (lv_at hl 0 rfl) ?_
      refine lv_dup hx hb dX8_readTime_108 rfl ?_
      refine va_get (D := D) (ci := 7) (v := .int x_o_at) (C := RX8) (T := TX8) (N := 9) hx hb hts iw_X8 hown hK hP 0 rfl rfl 4 (by decide) (hts _ kw_199) (fun _ h9 => h9) rfl dX8_readTime_109 ?_
      refine lv_aload_n hx hb dX8_readTime_112 rfl (lv_at hl 0 rfl) ?_
      refine va_get (D := D) (ci := 7) (v := .int x_o_size) (C := RX8) (T := TX8) (N := 9) hx hb hts iw_X8 hown hK hP 0 rfl rfl 6 (by decide) (hts _ kw_202) (fun _ h9 => h9) rfl dX8_readTime_113 ?_
      refine lv_iadd hx hb dX8_readTime_116 ?_
      refine lv_topi (fun x_o_at_6 e_x_o_at_6 => ?_)
      replace hF := bnd_d hF e_x_o_at_6
      refine va_put (D := D) (ci := 7) (v := .int x_o_at_6) (ty := .int) (C := RX8) (T := TX8) (N := 9) hx hb hts iw_X8 tyX8 tyX8_ok nmX8 hown hK hP hD hS 0 rfl rfl 4 (by decide) (hts _ kw_199) (fun _ h9 => h9) rfl (by decide +kernel) rfl rfl (Nat.le_of_ble_eq_true rfl) dX8_readTime_117 (fun H locs hP hD hS => ?_)
      have hP : va_P D vwCl ([oX8 a_o a_o_outerEnds a_o_data x_o_depth x_o_end x_o_at_6 x_o_place x_o_size x_o_fault x_o_items, rB q a_o_data n_o_data r_o_data]) H := hP
      have hD : va_D A ([oX8 a_o a_o_outerEnds a_o_data x_o_depth x_o_end x_o_at_6 x_o_place x_o_size x_o_fault x_o_items, rB q a_o_data n_o_data r_o_data]) := hD
      refine lv_iload_n hx hb dX8_readTime_120 rfl (lv_at hl 2 rfl) ?_
      refine lv_if_eq (tgt := 131) hx hb dX8_readTime_121 (by decide) (fun c_7 => ?_) (fun c_7 => ?_)
      · replace hF := ite_t hF c_7
        refine lv_ldc2 (v := (-1 : Int64)) hx hb hown (hts _ kw_936) dX8_readTime_131 ?_
        refine lv_lstore (lv' := [(4, .long (-1 : Int64)), (0, .ref a_o), (1, .long v_1), (3, .int v_3)]) hx hb dX8_readTime_134 hl (by decide) rfl (fun ls hl => ?_)
        refine lv_lload hx hb dX8_readTime_136 (lv_at hl 0 rfl) ?_
        refine lv_ldc2 (v := (-1 : Int64)) hx hb hown (hts _ kw_936) dX8_readTime_138 ?_
        refine W.lcmp hx hb dX8_readTime_141 ?_
        refine lv_if_ne (tgt := 149) hx hb dX8_readTime_142 (by decide) (fun c_8 => ?_) (fun c_8 => ?_)
        · replace hF := ite_f hF (fun h => c_8 ((lg_cmp_eq _ _).mpr h))
          refine lv_lload hx hb dX8_readTime_149 (lv_at hl 0 rfl) ?_
          have hy9 := (Option.some.inj hF).symm
          subst hy9
          exact rt_l C0.1 hP hD hS dX8_readTime_151
        · replace hF := ite_t hF ((lg_cmp_eq _ _).mp c_8)
          refine lv_aload_n hx hb dX8_readTime_145 rfl (lv_at hl 1 rfl) ?_
          obtain ⟨y_9, hy_9, hF⟩ := cal_d hF
          refine cf_v C0.1 hP hD hS [0] [1] [1, 0] (wr := [rB q a_o_data n_o_data r_o_data]) (w' := [oX8 a_o a_o_outerEnds a_o_data x_o_depth x_o_end x_o_at_6 x_o_place y_9.2 y_9.1 x_o_items, rB q a_o_data n_o_data r_o_data]) rfl rfl rfl (by decide) rfl rfl (sn_V (As := []) (rest := []) (ci := 7) (q0 := 0) C0 (c_sc_fail l D q t a_o a_o_outerEnds a_o_data x_o_depth x_o_end x_o_at_6 x_o_place x_o_size x_o_fault x_o_items  y_9 hy_9) (cwV 0 hts (g_V kw_812 kw_813 kw_814 kw_77 kw_815) rfl rfl rfl hd_X8_fail ⟨Nat.le_of_ble_eq_true rfl, Nat.le_of_ble_eq_true rfl⟩) hP hD hS [0] rfl rfl rfl rfl rfl rfl hl (Nat.le_of_ble_eq_true rfl) dX8_readTime_146) (fun H locs hP hD hS => ?_)
          refine lv_lload hx hb dX8_readTime_149 (lv_at hl 0 rfl) ?_
          have hy9 := (Option.some.inj hF).symm
          subst hy9
          exact rt_l C0.1 hP hD hS dX8_readTime_151
      · replace hF := ite_f hF c_7
        refine lv_lload_n hx hb dX8_readTime_124 rfl (lv_at hl 1 rfl) ?_
        obtain ⟨y_10, hy_10, hF⟩ := cal_d hF
        refine cf_l C0.1 hP hD hS [] [0, 1] [0, 1] (wr := [oX8 a_o a_o_outerEnds a_o_data x_o_depth x_o_end x_o_at_6 x_o_place x_o_size x_o_fault x_o_items, rB q a_o_data n_o_data r_o_data]) (w' := [oX8 a_o a_o_outerEnds a_o_data x_o_depth x_o_end x_o_at_6 x_o_place x_o_size x_o_fault x_o_items, rB q a_o_data n_o_data r_o_data]) rfl rfl rfl (by decide) rfl rfl (sn_S (As := [.long v_1]) (rest := []) C0 (c_ti_seconds l D q t  v_1 y_10 hy_10) (va_cwS 1 hts (g_S kw_926 kw_927 kw_85 kw_928) rfl rfl rfl hd_X10_seconds ⟨Nat.le_of_ble_eq_true rfl, Nat.le_of_ble_eq_true rfl⟩) hP hD hS [] rfl rfl rfl hl (Nat.le_of_ble_eq_true rfl) dX8_readTime_125) (fun H locs hP hD hS => ?_)
        refine lv_goto (tgt := 134) hx hb dX8_readTime_128 (by decide) ?_
        refine lv_lstore (lv' := [(4, .long y_10), (0, .ref a_o), (1, .long v_1), (3, .int v_3)]) hx hb dX8_readTime_134 hl (by decide) rfl (fun ls hl => ?_)
        refine lv_lload hx hb dX8_readTime_136 (lv_at hl 0 rfl) ?_
        refine lv_ldc2 (v := (-1 : Int64)) hx hb hown (hts _ kw_936) dX8_readTime_138 ?_
        refine W.lcmp hx hb dX8_readTime_141 ?_
        refine lv_if_ne (tgt := 149) hx hb dX8_readTime_142 (by decide) (fun c_11 => ?_) (fun c_11 => ?_)
        · replace hF := ite_f hF (fun h => c_11 ((lg_cmp_eq _ _).mpr h))
          refine lv_lload hx hb dX8_readTime_149 (lv_at hl 0 rfl) ?_
          have hy9 := (Option.some.inj hF).symm
          subst hy9
          exact rt_l C0.1 hP hD hS dX8_readTime_151
        · replace hF := ite_t hF ((lg_cmp_eq _ _).mp c_11)
          refine lv_aload_n hx hb dX8_readTime_145 rfl (lv_at hl 1 rfl) ?_
          obtain ⟨y_12, hy_12, hF⟩ := cal_d hF
          refine cf_v C0.1 hP hD hS [0] [1] [1, 0] (wr := [rB q a_o_data n_o_data r_o_data]) (w' := [oX8 a_o a_o_outerEnds a_o_data x_o_depth x_o_end x_o_at_6 x_o_place y_12.2 y_12.1 x_o_items, rB q a_o_data n_o_data r_o_data]) rfl rfl rfl (by decide) rfl rfl (sn_V (As := []) (rest := []) (ci := 7) (q0 := 0) C0 (c_sc_fail l D q t a_o a_o_outerEnds a_o_data x_o_depth x_o_end x_o_at_6 x_o_place x_o_size x_o_fault x_o_items  y_12 hy_12) (cwV 0 hts (g_V kw_812 kw_813 kw_814 kw_77 kw_815) rfl rfl rfl hd_X8_fail ⟨Nat.le_of_ble_eq_true rfl, Nat.le_of_ble_eq_true rfl⟩) hP hD hS [0] rfl rfl rfl rfl rfl rfl hl (Nat.le_of_ble_eq_true rfl) dX8_readTime_146) (fun H locs hP hD hS => ?_)
          refine lv_lload hx hb dX8_readTime_149 (lv_at hl 0 rfl) ?_
          have hy9 := (Option.some.inj hF).symm
          subst hy9
          exact rt_l C0.1 hP hD hS dX8_readTime_151
    · replace hF := ite_f hF c_5
      refine lv_aload_n hx hb dX8_readTime_52 rfl (lv_at hl 0 rfl) ?_
      refine va_get (D := D) (ci := 7) (v := .ref a_o_data) (C := RX8) (T := TX8) (N := 9) hx hb hts iw_X8 hown hK hP 0 rfl rfl 1 (by decide) (hts _ kw_195) (fun _ h9 => h9) rfl dX8_readTime_53 ?_
      refine lv_aload_n hx hb dX8_readTime_56 rfl (lv_at hl 0 rfl) ?_
      refine va_get (D := D) (ci := 7) (v := .int x_o_at) (C := RX8) (T := TX8) (N := 9) hx hb hts iw_X8 hown hK hP 0 rfl rfl 4 (by decide) (hts _ kw_199) (fun _ h9 => h9) rfl dX8_readTime_57 ?_
      refine lv_iload hx hb dX8_readTime_60 (lv_at hl 3 rfl) ?_
      refine lv_iadd hx hb dX8_readTime_62 ?_
      obtain ⟨z_13, hF⟩ := chk_d hF
      refine va_bald hx hb hK hP 1 0 rfl rfl z_13 dX8_readTime_63 ?_
      refine lv_bipush (v := (48 : Int32)) hx hb dX8_readTime_64 (by decide) ?_
      refine lv_isub hx hb dX8_readTime_66 ?_
      refine lv_topi (fun v5_14 e_v5_14 => ?_)
      replace hF := bnd_d hF e_v5_14
      refine lv_istore (lv' := [(5, .int v5_14), (0, .ref a_o), (1, .long v_1), (3, .int v_3), (4, .int v_4)]) hx hb dX8_readTime_67 hl (by decide) rfl (fun ls hl => ?_)
      refine lv_iload_n hx hb dX8_readTime_69 rfl (lv_at hl 3 rfl) ?_
      refine lv_if_eq (tgt := 89) hx hb dX8_readTime_70 (by decide) (fun c_15 => ?_) (fun c_15 => ?_)
      · replace hF := ite_t hF c_15
        refine lv_iconst (v := (0 : Int32)) hx hb dX8_readTime_89 (by decide) ?_
        refine lv_istore_n (lv' := [(3, .int (0 : Int32)), (5, .int v5_14), (0, .ref a_o), (1, .long v_1), (4, .int v_4)]) hx hb dX8_readTime_90 rfl hl (by decide) rfl (fun ls hl => ?_)
        refine lv_lload_n hx hb dX8_readTime_91 rfl (lv_at hl 3 rfl) ?_
        refine lv_ldc2 (v := (10 : Int64)) hx hb hown (hts _ kw_925) dX8_readTime_92 ?_
        refine lv_lmul hx hb dX8_readTime_95 ?_
        refine lv_iload hx hb dX8_readTime_96 (lv_at hl 1 rfl) ?_
        refine lv_i2l hx hb dX8_readTime_98 rfl ?_
        refine lv_ladd hx hb dX8_readTime_99 ?_
        refine lv_topl (fun v1_16 e_v1_16 => ?_)
        replace hF := bnd_d hF e_v1_16
        refine lv_lstore_n (lv' := [(1, .long v1_16), (3, .int (0 : Int32)), (5, .int v5_14), (0, .ref a_o), (4, .int v_4)]) hx hb dX8_readTime_100 rfl hl (by decide) rfl (fun ls hl => ?_)
        obtain ⟨v4_17, e_v4_17⟩ : ∃ z : Int32, z = v_4 + (1 : Int32) := ⟨_, rfl⟩
        replace hF := bnd_d hF e_v4_17
        refine lv_iinc (v := v4_17) (lv' := [(4, .int v4_17), (1, .long v1_16), (3, .int (0 : Int32)), (5, .int v5_14), (0, .ref a_o)]) hx hb dX8_readTime_101 hl (k := 4) rfl (by rw [e_v4_17]; rfl) (by decide) rfl (fun ls hl => ?_)
        refine lv_goto (tgt := 45) hx hb dX8_readTime_104 (by decide) ?_
        exact ih x_o_depth x_o_end x_o_at x_o_place x_o_size x_o_fault x_o_items r_o_data v1_16 (0 : Int32) v4_17 y hF H locs ls hP hD hS (lv_sub hl [4, 1, 2, 0] rfl)
      · replace hF := ite_f hF c_15
        refine lv_iload hx hb dX8_readTime_73 (lv_at hl 0 rfl) ?_
        refine lv_if_lt (tgt := 89) hx hb dX8_readTime_75 (by decide) (fun c_18 => ?_) (fun c_18 => ?_)
        · replace hF := ite_t hF c_18
          refine lv_iconst (v := (0 : Int32)) hx hb dX8_readTime_89 (by decide) ?_
          refine lv_istore_n (lv' := [(3, .int (0 : Int32)), (5, .int v5_14), (0, .ref a_o), (1, .long v_1), (4, .int v_4)]) hx hb dX8_readTime_90 rfl hl (by decide) rfl (fun ls hl => ?_)
          refine lv_lload_n hx hb dX8_readTime_91 rfl (lv_at hl 3 rfl) ?_
          refine lv_ldc2 (v := (10 : Int64)) hx hb hown (hts _ kw_925) dX8_readTime_92 ?_
          refine lv_lmul hx hb dX8_readTime_95 ?_
          refine lv_iload hx hb dX8_readTime_96 (lv_at hl 1 rfl) ?_
          refine lv_i2l hx hb dX8_readTime_98 rfl ?_
          refine lv_ladd hx hb dX8_readTime_99 ?_
          refine lv_topl (fun v1_19 e_v1_19 => ?_)
          replace hF := bnd_d hF e_v1_19
          refine lv_lstore_n (lv' := [(1, .long v1_19), (3, .int (0 : Int32)), (5, .int v5_14), (0, .ref a_o), (4, .int v_4)]) hx hb dX8_readTime_100 rfl hl (by decide) rfl (fun ls hl => ?_)
          obtain ⟨v4_20, e_v4_20⟩ : ∃ z : Int32, z = v_4 + (1 : Int32) := ⟨_, rfl⟩
          replace hF := bnd_d hF e_v4_20
          refine lv_iinc (v := v4_20) (lv' := [(4, .int v4_20), (1, .long v1_19), (3, .int (0 : Int32)), (5, .int v5_14), (0, .ref a_o)]) hx hb dX8_readTime_101 hl (k := 4) rfl (by rw [e_v4_20]; rfl) (by decide) rfl (fun ls hl => ?_)
          refine lv_goto (tgt := 45) hx hb dX8_readTime_104 (by decide) ?_
          exact ih x_o_depth x_o_end x_o_at x_o_place x_o_size x_o_fault x_o_items r_o_data v1_19 (0 : Int32) v4_20 y hF H locs ls hP hD hS (lv_sub hl [4, 1, 2, 0] rfl)
        · replace hF := ite_f hF c_18
          refine lv_iload hx hb dX8_readTime_78 (lv_at hl 0 rfl) ?_
          refine lv_bipush (v := (9 : Int32)) hx hb dX8_readTime_80 (by decide) ?_
          refine lv_icmp_gt (tgt := 89) hx hb dX8_readTime_82 (by decide) (fun c_21 => ?_) (fun c_21 => ?_)
          · replace hF := ite_t hF c_21
            refine lv_iconst (v := (0 : Int32)) hx hb dX8_readTime_89 (by decide) ?_
            refine lv_istore_n (lv' := [(3, .int (0 : Int32)), (5, .int v5_14), (0, .ref a_o), (1, .long v_1), (4, .int v_4)]) hx hb dX8_readTime_90 rfl hl (by decide) rfl (fun ls hl => ?_)
            refine lv_lload_n hx hb dX8_readTime_91 rfl (lv_at hl 3 rfl) ?_
            refine lv_ldc2 (v := (10 : Int64)) hx hb hown (hts _ kw_925) dX8_readTime_92 ?_
            refine lv_lmul hx hb dX8_readTime_95 ?_
            refine lv_iload hx hb dX8_readTime_96 (lv_at hl 1 rfl) ?_
            refine lv_i2l hx hb dX8_readTime_98 rfl ?_
            refine lv_ladd hx hb dX8_readTime_99 ?_
            refine lv_topl (fun v1_22 e_v1_22 => ?_)
            replace hF := bnd_d hF e_v1_22
            refine lv_lstore_n (lv' := [(1, .long v1_22), (3, .int (0 : Int32)), (5, .int v5_14), (0, .ref a_o), (4, .int v_4)]) hx hb dX8_readTime_100 rfl hl (by decide) rfl (fun ls hl => ?_)
            obtain ⟨v4_23, e_v4_23⟩ : ∃ z : Int32, z = v_4 + (1 : Int32) := ⟨_, rfl⟩
            replace hF := bnd_d hF e_v4_23
            refine lv_iinc (v := v4_23) (lv' := [(4, .int v4_23), (1, .long v1_22), (3, .int (0 : Int32)), (5, .int v5_14), (0, .ref a_o)]) hx hb dX8_readTime_101 hl (k := 4) rfl (by rw [e_v4_23]; rfl) (by decide) rfl (fun ls hl => ?_)
            refine lv_goto (tgt := 45) hx hb dX8_readTime_104 (by decide) ?_
            exact ih x_o_depth x_o_end x_o_at x_o_place x_o_size x_o_fault x_o_items r_o_data v1_22 (0 : Int32) v4_23 y hF H locs ls hP hD hS (lv_sub hl [4, 1, 2, 0] rfl)
          · replace hF := ite_f hF c_21
            refine lv_iconst (v := (1 : Int32)) hx hb dX8_readTime_85 (by decide) ?_
            refine lv_goto (tgt := 90) hx hb dX8_readTime_86 (by decide) ?_
            refine lv_istore_n (lv' := [(3, .int (1 : Int32)), (5, .int v5_14), (0, .ref a_o), (1, .long v_1), (4, .int v_4)]) hx hb dX8_readTime_90 rfl hl (by decide) rfl (fun ls hl => ?_)
            refine lv_lload_n hx hb dX8_readTime_91 rfl (lv_at hl 3 rfl) ?_
            refine lv_ldc2 (v := (10 : Int64)) hx hb hown (hts _ kw_925) dX8_readTime_92 ?_
            refine lv_lmul hx hb dX8_readTime_95 ?_
            refine lv_iload hx hb dX8_readTime_96 (lv_at hl 1 rfl) ?_
            refine lv_i2l hx hb dX8_readTime_98 rfl ?_
            refine lv_ladd hx hb dX8_readTime_99 ?_
            refine lv_topl (fun v1_24 e_v1_24 => ?_)
            replace hF := bnd_d hF e_v1_24
            refine lv_lstore_n (lv' := [(1, .long v1_24), (3, .int (1 : Int32)), (5, .int v5_14), (0, .ref a_o), (4, .int v_4)]) hx hb dX8_readTime_100 rfl hl (by decide) rfl (fun ls hl => ?_)
            obtain ⟨v4_25, e_v4_25⟩ : ∃ z : Int32, z = v_4 + (1 : Int32) := ⟨_, rfl⟩
            replace hF := bnd_d hF e_v4_25
            refine lv_iinc (v := v4_25) (lv' := [(4, .int v4_25), (1, .long v1_24), (3, .int (1 : Int32)), (5, .int v5_14), (0, .ref a_o)]) hx hb dX8_readTime_101 hl (k := 4) rfl (by rw [e_v4_25]; rfl) (by decide) rfl (fun ls hl => ?_)
            refine lv_goto (tgt := 45) hx hb dX8_readTime_104 (by decide) ?_
            exact ih x_o_depth x_o_end x_o_at x_o_place x_o_size x_o_fault x_o_items r_o_data v1_24 (1 : Int32) v4_25 y hF H locs ls hP hD hS (lv_sub hl [4, 1, 2, 0] rfl)
set_option maxHeartbeats 4000000 in
set_option maxRecDepth 100000 in
theorem c_sc_readTime (l : Launch) (D : va_G) (q : Nat → ClassId) (t : Nat) (a_o : Nat) (a_o_outerEnds : Nat) (x_o_depth : Int32) (x_o_end : Int32) (x_o_at : Int32) (x_o_place : Int32) (x_o_size : Int32) (x_o_fault : Int32) (x_o_items : Int32) (a_o_data : Nat) (n_o_data : Nat) (r_o_data : (Nat → Int32))  (y : Int64 × Int32 × Int32 × Int32 × Int32 × Int32) (hF : f_sc_readTime x_o_at r_o_data x_o_end x_o_fault x_o_items x_o_place x_o_size n_o_data = some y)  : cu l yX8_readTime (vs yX8_readTime cX8_readTime 6 (some .long)) ({ frames := 2, cells := 0, slots := 0, locals := 48 }) D q t [.ref a_o] [oX8 a_o a_o_outerEnds a_o_data x_o_depth x_o_end x_o_at x_o_place x_o_size x_o_fault x_o_items, rB q a_o_data n_o_data r_o_data] (qL D q y.1 [oX8 a_o a_o_outerEnds a_o_data x_o_depth x_o_end y.2.1 y.2.2.2.2.1 y.2.2.2.2.2 y.2.2.1 y.2.2.2.1, rB q a_o_data n_o_data r_o_data]) := by
  refine cu_of (cc := cX8_readTime) (nL := 6) (ret := (some .long)) (by decide) (Nat.le_of_ble_eq_true rfl) (fun {p e s m args below meth c A} C0 H locs ls hP hD hS hl => ?_)
  have C0 : cy p s m args meth c cX8_readTime (some .long) 6 RX8 D q t A := C0
  obtain ⟨⟨hx, hb, hr, hml, hown, hts, hlocks, hK, hA⟩, hG⟩ := id C0
  have hl : lv_has ls 6 [(0, .ref a_o)] := hl
  unfold f_sc_readTime at hF
  refine lv_aload_n hx hb dX8_readTime_0 rfl (lv_at hl 0 rfl) ?_
  refine lv_bipush (v := (24 : Int32)) hx hb dX8_readTime_1 (by decide) ?_
  refine lv_bipush (v := (15 : Int32)) hx hb dX8_readTime_3 (by decide) ?_
  refine lv_bipush (v := (15 : Int32)) hx hb dX8_readTime_5 (by decide) ?_
  obtain ⟨y_1, hy_1, hF⟩ := cal_d hF
  refine cf_i C0.1 hP hD hS [0, 1] [] [0, 1] (wr := []) (w' := [oX8 a_o a_o_outerEnds a_o_data x_o_depth x_o_end y_1.2.1 y_1.2.2.2.2.1 y_1.2.2.2.2.2 y_1.2.2.1 y_1.2.2.2.1, rB q a_o_data n_o_data r_o_data]) rfl rfl rfl (by decide) rfl rfl (sn_V (As := [.int (24 : Int32), .int (15 : Int32), .int (15 : Int32)]) (rest := []) (ci := 7) (q0 := 0) C0 (c_sc_enter l D q t a_o a_o_outerEnds x_o_depth x_o_end x_o_at x_o_place x_o_size x_o_fault x_o_items a_o_data n_o_data r_o_data (24 : Int32) (15 : Int32) (15 : Int32) y_1 hy_1) (cwV 3 hts (g_V kw_800 kw_801 kw_802 kw_77 kw_803) rfl rfl rfl hd_X8_enter ⟨Nat.le_of_ble_eq_true rfl, Nat.le_of_ble_eq_true rfl⟩) hP hD hS [0, 1] rfl rfl rfl rfl rfl rfl hl (Nat.le_of_ble_eq_true rfl) dX8_readTime_7) (fun H locs hP hD hS => ?_)
  refine lv_if_ne (tgt := 15) hx hb dX8_readTime_10 (by decide) (fun c_2 => ?_) (fun c_2 => ?_)
  · replace hF := ite_f hF c_2
    refine lv_lconst (v := (0 : Int64)) hx hb dX8_readTime_15 (by decide) ?_
    refine lv_lstore_n (lv' := [(1, .long (0 : Int64)), (0, .ref a_o)]) hx hb dX8_readTime_16 rfl hl (by decide) rfl (fun ls hl => ?_)
    refine lv_aload_n hx hb dX8_readTime_17 rfl (lv_at hl 1 rfl) ?_
    refine va_get (D := D) (ci := 7) (v := .ref a_o_data) (C := RX8) (T := TX8) (N := 9) hx hb hts iw_X8 hown hK hP 0 rfl rfl 1 (by decide) (hts _ kw_195) (fun _ h9 => h9) rfl dX8_readTime_18 ?_
    refine lv_aload_n hx hb dX8_readTime_21 rfl (lv_at hl 1 rfl) ?_
    refine va_get (D := D) (ci := 7) (v := .int y_1.2.1) (C := RX8) (T := TX8) (N := 9) hx hb hts iw_X8 hown hK hP 0 rfl rfl 4 (by decide) (hts _ kw_199) (fun _ h9 => h9) rfl dX8_readTime_22 ?_
    refine lv_bipush (v := (15 : Int32)) hx hb dX8_readTime_25 (by decide) ?_
    refine lv_iadd hx hb dX8_readTime_27 ?_
    refine lv_iconst (v := (1 : Int32)) hx hb dX8_readTime_28 (by decide) ?_
    refine lv_isub hx hb dX8_readTime_29 ?_
    obtain ⟨z_3, hF⟩ := chk_d hF
    refine va_bald hx hb hK hP 1 0 rfl rfl z_3 dX8_readTime_30 ?_
    refine lv_bipush (v := (90 : Int32)) hx hb dX8_readTime_31 (by decide) ?_
    refine lv_icmp_ne (tgt := 40) hx hb dX8_readTime_33 (by decide) (fun c_4 => ?_) (fun c_4 => ?_)
    · replace hF := ite_f hF c_4
      refine lv_iconst (v := (0 : Int32)) hx hb dX8_readTime_40 (by decide) ?_
      refine lv_istore_n (lv' := [(3, .int (0 : Int32)), (1, .long (0 : Int64)), (0, .ref a_o)]) hx hb dX8_readTime_41 rfl hl (by decide) rfl (fun ls hl => ?_)
      refine lv_iconst (v := (0 : Int32)) hx hb dX8_readTime_42 (by decide) ?_
      refine lv_istore (lv' := [(4, .int (0 : Int32)), (3, .int (0 : Int32)), (1, .long (0 : Int64)), (0, .ref a_o)]) hx hb dX8_readTime_43 hl (by decide) rfl (fun ls hl => ?_)
      exact w_sc_readTime_45 C0 a_o a_o_outerEnds a_o_data n_o_data FU x_o_depth x_o_end y_1.2.1 y_1.2.2.2.2.1 y_1.2.2.2.2.2 y_1.2.2.1 y_1.2.2.2.1 r_o_data (0 : Int64) (0 : Int32) (0 : Int32) y hF H locs ls hP hD hS (lv_sub hl [3, 2, 1, 0] rfl)
    · replace hF := ite_t hF c_4
      refine lv_iconst (v := (1 : Int32)) hx hb dX8_readTime_36 (by decide) ?_
      refine lv_goto (tgt := 41) hx hb dX8_readTime_37 (by decide) ?_
      refine lv_istore_n (lv' := [(3, .int (1 : Int32)), (1, .long (0 : Int64)), (0, .ref a_o)]) hx hb dX8_readTime_41 rfl hl (by decide) rfl (fun ls hl => ?_)
      refine lv_iconst (v := (0 : Int32)) hx hb dX8_readTime_42 (by decide) ?_
      refine lv_istore (lv' := [(4, .int (0 : Int32)), (3, .int (1 : Int32)), (1, .long (0 : Int64)), (0, .ref a_o)]) hx hb dX8_readTime_43 hl (by decide) rfl (fun ls hl => ?_)
      exact w_sc_readTime_45 C0 a_o a_o_outerEnds a_o_data n_o_data FU x_o_depth x_o_end y_1.2.1 y_1.2.2.2.2.1 y_1.2.2.2.2.2 y_1.2.2.1 y_1.2.2.2.1 r_o_data (0 : Int64) (1 : Int32) (0 : Int32) y hF H locs ls hP hD hS (lv_sub hl [3, 2, 1, 0] rfl)
  · replace hF := ite_t hF c_2
    refine lv_lconst (v := (0 : Int64)) hx hb dX8_readTime_13 (by decide) ?_
    have hy9 := (Option.some.inj hF).symm
    subst hy9
    exact rt_l C0.1 hP hD hS dX8_readTime_14
set_option maxHeartbeats 4000000 in
set_option maxRecDepth 100000 in
theorem c_an_readBodyTop (l : Launch) (D : va_G) (q : Nat → ClassId) (t : Nat) (a_o : Nat) (a_o_ids : Nat) (a_o_states : Nat) (a_o_since : Nat) (a_o_reasons : Nat) (a_o_from : Nat) (a_o_next : Nat) (a_o_cert : Nat) (x_o_status : Int32) (x_o_hasCert : Int32) (x_o_bodyPlace : Int32) (x_o_bodyEnd : Int32) (x_o_signature : Int64) (x_o_isByName : Int32) (x_o_tellerPlace : Int32) (x_o_tellerSize : Int32) (x_o_tellerHash : Int64) (x_o_noncePlace : Int32) (x_o_nonceSize : Int32) (a_p0 : Nat) (x_p0_depth : Int32) (x_p0_end : Int32) (x_p0_at : Int32) (x_p0_place : Int32) (x_p0_size : Int32) (x_p0_fault : Int32) (x_p0_items : Int32) (a_p0_data : Nat) (n_p0_data : Nat) (r_p0_data : (Nat → Int32)) (a_p0_outerEnds : Nat) (r_p0_outerEnds : (Nat → Int32))  (y : Int32 × Int32 × Int64 × Int32 × Int32 × Int32 × Int32 × Int32 × Int32 × Int32 × (Nat → Int32) × Int32 × Int32) (hF : f_an_readBodyTop x_o_bodyPlace x_o_isByName x_o_tellerHash x_o_tellerPlace x_o_tellerSize x_p0_at r_p0_data x_p0_depth x_p0_end x_p0_fault x_p0_items r_p0_outerEnds x_p0_place x_p0_size n_p0_data = some y)  : cu l yX0_readBodyTop (vs yX0_readBodyTop cX0_readBodyTop 2 none) ({ frames := 4, cells := 0, slots := 0, locals := 92 }) D q t [.ref a_o, .ref a_p0] [oX0 a_o a_o_ids a_o_states a_o_since a_o_reasons a_o_from a_o_next a_o_cert x_o_status x_o_hasCert x_o_bodyPlace x_o_bodyEnd x_o_signature x_o_isByName x_o_tellerPlace x_o_tellerSize x_o_tellerHash x_o_noncePlace x_o_nonceSize, oX8 a_p0 a_p0_outerEnds a_p0_data x_p0_depth x_p0_end x_p0_at x_p0_place x_p0_size x_p0_fault x_p0_items, rB q a_p0_data n_p0_data r_p0_data, rI q a_p0_outerEnds 12 r_p0_outerEnds] (qV D q [oX0 a_o a_o_ids a_o_states a_o_since a_o_reasons a_o_from a_o_next a_o_cert x_o_status x_o_hasCert y.1 x_o_bodyEnd x_o_signature y.2.1 y.2.2.2.1 y.2.2.2.2.1 y.2.2.1 x_o_noncePlace x_o_nonceSize, oX8 a_p0 a_p0_outerEnds a_p0_data y.2.2.2.2.2.2.1 y.2.2.2.2.2.2.2.1 y.2.2.2.2.2.1 y.2.2.2.2.2.2.2.2.2.2.2.1 y.2.2.2.2.2.2.2.2.2.2.2.2 y.2.2.2.2.2.2.2.2.1 y.2.2.2.2.2.2.2.2.2.1, rB q a_p0_data n_p0_data r_p0_data, rI q a_p0_outerEnds 12 y.2.2.2.2.2.2.2.2.2.2.1]) := by
  refine cu_of (cc := cX0_readBodyTop) (nL := 2) (ret := none) (by decide) (Nat.le_of_ble_eq_true rfl) (fun {p e s m args below meth c A} C0 H locs ls hP hD hS hl => ?_)
  have C0 : cy p s m args meth c cX0_readBodyTop none 2 RX0 D q t A := C0
  obtain ⟨⟨hx, hb, hr, hml, hown, hts, hlocks, hK, hA⟩, hG⟩ := id C0
  have hl : lv_has ls 2 [(0, .ref a_o), (1, .ref a_p0)] := hl
  unfold f_an_readBodyTop at hF
  refine lv_aload_n hx hb dX0_readBodyTop_0 rfl (lv_at hl 0 rfl) ?_
  refine lv_aload_n hx hb dX0_readBodyTop_1 rfl (lv_at hl 1 rfl) ?_
  refine va_get (D := D) (ci := 7) (v := .int x_p0_at) (C := RX8) (T := TX8) (N := 9) hx hb hts iw_X8 hown hK hP 1 rfl rfl 4 (by decide) (hts _ kw_200) (fun _ h9 => h9) rfl dX0_readBodyTop_2 ?_
  refine va_put (D := D) (ci := 0) (v := .int x_p0_at) (ty := .int) (C := RX0) (T := TX0) (N := 18) hx hb hts iw_X0 tyX0 tyX0_ok nmX0 hown hK hP hD hS 0 rfl rfl 9 (by decide) (hts _ kw_333) (fun _ h9 => h9) rfl (by decide +kernel) rfl rfl (Nat.le_of_ble_eq_true rfl) dX0_readBodyTop_5 (fun H locs hP hD hS => ?_)
  have hP : va_P D vwCl ([oX0 a_o a_o_ids a_o_states a_o_since a_o_reasons a_o_from a_o_next a_o_cert x_o_status x_o_hasCert x_p0_at x_o_bodyEnd x_o_signature x_o_isByName x_o_tellerPlace x_o_tellerSize x_o_tellerHash x_o_noncePlace x_o_nonceSize, oX8 a_p0 a_p0_outerEnds a_p0_data x_p0_depth x_p0_end x_p0_at x_p0_place x_p0_size x_p0_fault x_p0_items, rB q a_p0_data n_p0_data r_p0_data, rI q a_p0_outerEnds 12 r_p0_outerEnds]) H := hP
  have hD : va_D A ([oX0 a_o a_o_ids a_o_states a_o_since a_o_reasons a_o_from a_o_next a_o_cert x_o_status x_o_hasCert x_p0_at x_o_bodyEnd x_o_signature x_o_isByName x_o_tellerPlace x_o_tellerSize x_o_tellerHash x_o_noncePlace x_o_nonceSize, oX8 a_p0 a_p0_outerEnds a_p0_data x_p0_depth x_p0_end x_p0_at x_p0_place x_p0_size x_p0_fault x_p0_items, rB q a_p0_data n_p0_data r_p0_data, rI q a_p0_outerEnds 12 r_p0_outerEnds]) := hD
  refine lv_aload_n hx hb dX0_readBodyTop_8 rfl (lv_at hl 1 rfl) ?_
  refine lv_bipush (v := (48 : Int32)) hx hb dX0_readBodyTop_9 (by decide) ?_
  obtain ⟨y_1, hy_1, hF⟩ := cal_d hF
  refine cf_v C0.1 hP hD hS [1, 2, 3] [0] [0, 1, 2, 3] (wr := [oX0 a_o a_o_ids a_o_states a_o_since a_o_reasons a_o_from a_o_next a_o_cert x_o_status x_o_hasCert x_p0_at x_o_bodyEnd x_o_signature x_o_isByName x_o_tellerPlace x_o_tellerSize x_o_tellerHash x_o_noncePlace x_o_nonceSize]) (w' := [oX0 a_o a_o_ids a_o_states a_o_since a_o_reasons a_o_from a_o_next a_o_cert x_o_status x_o_hasCert x_p0_at x_o_bodyEnd x_o_signature x_o_isByName x_o_tellerPlace x_o_tellerSize x_o_tellerHash x_o_noncePlace x_o_nonceSize, oX8 a_p0 a_p0_outerEnds a_p0_data y_1.2.1 y_1.2.2.1 y_1.1 y_1.2.2.2.2.2.2.1 y_1.2.2.2.2.2.2.2 y_1.2.2.2.1 y_1.2.2.2.2.1, rB q a_p0_data n_p0_data r_p0_data, rI q a_p0_outerEnds 12 y_1.2.2.2.2.2.1]) rfl rfl rfl (by decide) rfl rfl (sn_V (As := [.int (48 : Int32)]) (rest := []) (ci := 7) (q0 := 1) C0 (c_sc_open l D q t a_p0 x_p0_depth x_p0_end x_p0_at x_p0_place x_p0_size x_p0_fault x_p0_items a_p0_data n_p0_data r_p0_data a_p0_outerEnds r_p0_outerEnds (48 : Int32) y_1 hy_1) (cwV 1 hts (g_V kw_904 kw_797 kw_798 kw_77 kw_799) rfl rfl rfl hd_X8_open ⟨Nat.le_of_ble_eq_true rfl, Nat.le_of_ble_eq_true rfl⟩) hP hD hS [1, 2, 3] rfl rfl rfl rfl rfl rfl hl (Nat.le_of_ble_eq_true rfl) dX0_readBodyTop_11) (fun H locs hP hD hS => ?_)
  refine lv_aload_n hx hb dX0_readBodyTop_14 rfl (lv_at hl 0 rfl) ?_
  refine lv_aload_n hx hb dX0_readBodyTop_15 rfl (lv_at hl 1 rfl) ?_
  obtain ⟨y_2, hy_2, hF⟩ := cal_d hF
  refine cf_v C0.1 hP hD hS [0, 1, 2, 3] [] [0, 1, 2, 3] (wr := []) (w' := [oX0 a_o a_o_ids a_o_states a_o_since a_o_reasons a_o_from a_o_next a_o_cert x_o_status x_o_hasCert x_p0_at x_o_bodyEnd x_o_signature y_2.1 y_2.2.2.1 y_2.2.2.2.1 y_2.2.1 x_o_noncePlace x_o_nonceSize, oX8 a_p0 a_p0_outerEnds a_p0_data y_2.2.2.2.2.2.1 y_2.2.2.2.2.2.2.1 y_2.2.2.2.2.1 y_2.2.2.2.2.2.2.2.2.2.2.1 y_2.2.2.2.2.2.2.2.2.2.2.2 y_2.2.2.2.2.2.2.2.1 y_2.2.2.2.2.2.2.2.2.1, rB q a_p0_data n_p0_data r_p0_data, rI q a_p0_outerEnds 12 y_2.2.2.2.2.2.2.2.2.2.1]) rfl rfl rfl (by decide) rfl rfl (sn_V (As := [.ref a_p0]) (rest := []) (ci := 0) (q0 := 0) C0 (c_an_readTeller l D q t a_o a_o_ids a_o_states a_o_since a_o_reasons a_o_from a_o_next a_o_cert x_o_status x_o_hasCert x_p0_at x_o_bodyEnd x_o_signature x_o_isByName x_o_tellerPlace x_o_tellerSize x_o_tellerHash x_o_noncePlace x_o_nonceSize a_p0 y_1.2.1 y_1.2.2.1 y_1.1 y_1.2.2.2.2.2.2.1 y_1.2.2.2.2.2.2.2 y_1.2.2.2.1 y_1.2.2.2.2.1 a_p0_data n_p0_data r_p0_data a_p0_outerEnds y_1.2.2.2.2.2.1  y_2 hy_2) (cwV 1 hts (g_V kw_913 kw_915 kw_12 kw_79 kw_916) rfl rfl rfl hd_X0_readTeller ⟨Nat.le_of_ble_eq_true rfl, Nat.le_of_ble_eq_true rfl⟩) hP hD hS [0, 1, 2, 3] rfl rfl rfl rfl rfl rfl hl (Nat.le_of_ble_eq_true rfl) dX0_readBodyTop_16) (fun H locs hP hD hS => ?_)
  refine lv_aload_n hx hb dX0_readBodyTop_19 rfl (lv_at hl 1 rfl) ?_
  obtain ⟨y_3, hy_3, hF⟩ := cal_d hF
  refine cf_l C0.1 hP hD hS [1, 2] [0, 3] [0, 2, 3, 1] (wr := [oX0 a_o a_o_ids a_o_states a_o_since a_o_reasons a_o_from a_o_next a_o_cert x_o_status x_o_hasCert x_p0_at x_o_bodyEnd x_o_signature y_2.1 y_2.2.2.1 y_2.2.2.2.1 y_2.2.1 x_o_noncePlace x_o_nonceSize, rI q a_p0_outerEnds 12 y_2.2.2.2.2.2.2.2.2.2.1]) (w' := [oX0 a_o a_o_ids a_o_states a_o_since a_o_reasons a_o_from a_o_next a_o_cert x_o_status x_o_hasCert x_p0_at x_o_bodyEnd x_o_signature y_2.1 y_2.2.2.1 y_2.2.2.2.1 y_2.2.1 x_o_noncePlace x_o_nonceSize, oX8 a_p0 a_p0_outerEnds a_p0_data y_2.2.2.2.2.2.1 y_2.2.2.2.2.2.2.1 y_3.2.1 y_3.2.2.2.2.1 y_3.2.2.2.2.2 y_3.2.2.1 y_3.2.2.2.1, rB q a_p0_data n_p0_data r_p0_data, rI q a_p0_outerEnds 12 y_2.2.2.2.2.2.2.2.2.2.1]) rfl rfl rfl (by decide) rfl rfl (sn_V (As := []) (rest := []) (ci := 7) (q0 := 1) C0 (c_sc_readTime l D q t a_p0 a_p0_outerEnds y_2.2.2.2.2.2.1 y_2.2.2.2.2.2.2.1 y_2.2.2.2.2.1 y_2.2.2.2.2.2.2.2.2.2.2.1 y_2.2.2.2.2.2.2.2.2.2.2.2 y_2.2.2.2.2.2.2.2.1 y_2.2.2.2.2.2.2.2.2.1 a_p0_data n_p0_data r_p0_data  y_3 hy_3) (cwV 0 hts (g_V kw_921 kw_922 kw_923 kw_77 kw_924) rfl rfl rfl hd_X8_readTime ⟨Nat.le_of_ble_eq_true rfl, Nat.le_of_ble_eq_true rfl⟩) hP hD hS [1, 2] rfl rfl rfl rfl rfl rfl hl (Nat.le_of_ble_eq_true rfl) dX0_readBodyTop_20) (fun H locs hP hD hS => ?_)
  refine lv_pop2_2 hx hb dX0_readBodyTop_23 rfl ?_
  refine lv_aload_n hx hb dX0_readBodyTop_24 rfl (lv_at hl 1 rfl) ?_
  refine lv_bipush (v := (48 : Int32)) hx hb dX0_readBodyTop_25 (by decide) ?_
  obtain ⟨y_4, hy_4, hF⟩ := cal_d hF
  refine cf_v C0.1 hP hD hS [1, 2, 3] [0] [0, 1, 2, 3] (wr := [oX0 a_o a_o_ids a_o_states a_o_since a_o_reasons a_o_from a_o_next a_o_cert x_o_status x_o_hasCert x_p0_at x_o_bodyEnd x_o_signature y_2.1 y_2.2.2.1 y_2.2.2.2.1 y_2.2.1 x_o_noncePlace x_o_nonceSize]) (w' := [oX0 a_o a_o_ids a_o_states a_o_since a_o_reasons a_o_from a_o_next a_o_cert x_o_status x_o_hasCert x_p0_at x_o_bodyEnd x_o_signature y_2.1 y_2.2.2.1 y_2.2.2.2.1 y_2.2.1 x_o_noncePlace x_o_nonceSize, oX8 a_p0 a_p0_outerEnds a_p0_data y_4.2.1 y_4.2.2.1 y_4.1 y_4.2.2.2.2.2.2.1 y_4.2.2.2.2.2.2.2 y_4.2.2.2.1 y_4.2.2.2.2.1, rB q a_p0_data n_p0_data r_p0_data, rI q a_p0_outerEnds 12 y_4.2.2.2.2.2.1]) rfl rfl rfl (by decide) rfl rfl (sn_V (As := [.int (48 : Int32)]) (rest := []) (ci := 7) (q0 := 1) C0 (c_sc_open l D q t a_p0 y_2.2.2.2.2.2.1 y_2.2.2.2.2.2.2.1 y_3.2.1 y_3.2.2.2.2.1 y_3.2.2.2.2.2 y_3.2.2.1 y_3.2.2.2.1 a_p0_data n_p0_data r_p0_data a_p0_outerEnds y_2.2.2.2.2.2.2.2.2.2.1 (48 : Int32) y_4 hy_4) (cwV 1 hts (g_V kw_904 kw_797 kw_798 kw_77 kw_799) rfl rfl rfl hd_X8_open ⟨Nat.le_of_ble_eq_true rfl, Nat.le_of_ble_eq_true rfl⟩) hP hD hS [1, 2, 3] rfl rfl rfl rfl rfl rfl hl (Nat.le_of_ble_eq_true rfl) dX0_readBodyTop_27) (fun H locs hP hD hS => ?_)
  have hy9 := (Option.some.inj hF).symm
  subst hy9
  exact rt_v C0.1 hP hD hS dX0_readBodyTop_30
set_option maxHeartbeats 4000000 in
set_option maxRecDepth 100000 in
theorem w_sc_readInteger_64 {l : Launch} {p : Program} {e : Env} {s : State} {m : MethodId} {args : Array Value} {below : List Frame} {meth : Method} {c : Code} {A : Nat → Prop} {D : va_G} {q : Nat → ClassId} {t : Nat} (C0 : cy p s m args meth c cX8_readInteger (some .long) 8 RX8 D q t A) (a_o : Nat) (a_o_outerEnds : Nat) (a_o_data : Nat) (n_o_data : Nat)  (x_o_depth : Int32) (x_o_end : Int32) (x_o_at : Int32) (x_o_place : Int32) (x_o_size : Int32) (x_o_fault : Int32) (x_o_items : Int32) (r_o_data : (Nat → Int32)) (v_1 : Int64) (v_3 : Int64) (s_0 : Int32) (y : Int64 × Int32 × Int32 × Int32 × Int32 × Int32) (hF : j_sc_readInteger_64 x_o_at r_o_data x_o_end x_o_fault x_o_items x_o_place x_o_size n_o_data v_1 v_3 s_0 = some y) : ∀ (H : Heap) (locs : List Loc) (ls : Array Slot), va_P D vwCl [oX8 a_o a_o_outerEnds a_o_data x_o_depth x_o_end x_o_at x_o_place x_o_size x_o_fault x_o_items, rB q a_o_data n_o_data r_o_data] H → va_D A [oX8 a_o a_o_outerEnds a_o_data x_o_depth x_o_end x_o_at x_o_place x_o_size x_o_fault x_o_items, rB q a_o_data n_o_data r_o_data] → va_S A s.heap H locs → lv_has ls 8 [(0, .ref a_o), (1, .long v_1), (3, .long v_3)] → W p l e ({ frames := 2, cells := 0, slots := 0, locals := 48 }) s m args below meth c H locs 0 0 (MQ below (qL D q y.1 [oX8 a_o a_o_outerEnds a_o_data x_o_depth x_o_end y.2.1 y.2.2.2.2.1 y.2.2.2.2.2 y.2.2.1 y.2.2.2.1, rB q a_o_data n_o_data r_o_data] A) args s 0 0 A) (F0 m 64 ls [.int s_0]) := by
  obtain ⟨⟨hx, hb, hr, hml, hown, hts, hlocks, hK, hA⟩, hG⟩ := id C0
  intro H locs ls hP hD hS hl
  unfold j_sc_readInteger_64 at hF
  refine lv_istore (lv' := [(5, .int s_0), (0, .ref a_o), (1, .long v_1), (3, .long v_3)]) hx hb dX8_readInteger_64 hl (by decide) rfl (fun ls hl => ?_)
  refine lv_aload_n hx hb dX8_readInteger_66 rfl (lv_at hl 1 rfl) ?_
  obtain ⟨y_9, hy_9, hF⟩ := cal_d hF
  refine cf_l C0.1 hP hD hS [0, 1] [] [0, 1] (wr := []) (w' := [oX8 a_o a_o_outerEnds a_o_data x_o_depth x_o_end y_9.2 x_o_place x_o_size x_o_fault x_o_items, rB q a_o_data n_o_data r_o_data]) rfl rfl rfl (by decide) rfl rfl (sn_V (As := []) (rest := []) (ci := 7) (q0 := 0) C0 (c_sc_number l D q t a_o a_o_outerEnds x_o_depth x_o_end x_o_at x_o_place x_o_size x_o_fault x_o_items a_o_data n_o_data r_o_data  y_9 hy_9) (cwV 0 hts (g_V kw_829 kw_831 kw_5 kw_77 kw_832) rfl rfl rfl hd_X8_number ⟨Nat.le_of_ble_eq_true rfl, Nat.le_of_ble_eq_true rfl⟩) hP hD hS [0, 1] rfl rfl rfl rfl rfl rfl hl (Nat.le_of_ble_eq_true rfl) dX8_readInteger_67) (fun H locs hP hD hS => ?_)
  refine lv_topl (fun v6_10 e_v6_10 => ?_)
  replace hF := bnd_d hF e_v6_10
  refine lv_lstore (lv' := [(6, .long v6_10), (5, .int s_0), (0, .ref a_o), (1, .long v_1), (3, .long v_3)]) hx hb dX8_readInteger_70 hl (by decide) rfl (fun ls hl => ?_)
  refine lv_iload hx hb dX8_readInteger_72 (lv_at hl 1 rfl) ?_
  refine lv_if_eq (tgt := 91) hx hb dX8_readInteger_74 (by decide) (fun c_11 => ?_) (fun c_11 => ?_)
  · replace hF := ite_t hF c_11
    refine lv_aload_n hx hb dX8_readInteger_91 rfl (lv_at hl 2 rfl) ?_
    obtain ⟨y_12, hy_12, hF⟩ := cal_d hF
    refine cf_v C0.1 hP hD hS [0] [1] [1, 0] (wr := [rB q a_o_data n_o_data r_o_data]) (w' := [oX8 a_o a_o_outerEnds a_o_data x_o_depth x_o_end y_9.2 x_o_place y_12.2 y_12.1 x_o_items, rB q a_o_data n_o_data r_o_data]) rfl rfl rfl (by decide) rfl rfl (sn_V (As := []) (rest := []) (ci := 7) (q0 := 0) C0 (c_sc_fail l D q t a_o a_o_outerEnds a_o_data x_o_depth x_o_end y_9.2 x_o_place x_o_size x_o_fault x_o_items  y_12 hy_12) (cwV 0 hts (g_V kw_812 kw_813 kw_814 kw_77 kw_815) rfl rfl rfl hd_X8_fail ⟨Nat.le_of_ble_eq_true rfl, Nat.le_of_ble_eq_true rfl⟩) hP hD hS [0] rfl rfl rfl rfl rfl rfl hl (Nat.le_of_ble_eq_true rfl) dX8_readInteger_92) (fun H locs hP hD hS => ?_)
    refine lv_lload hx hb dX8_readInteger_95 (lv_at hl 0 rfl) ?_
    have hy9 := (Option.some.inj hF).symm
    subst hy9
    exact rt_l C0.1 hP hD hS dX8_readInteger_97
  · replace hF := ite_f hF c_11
    refine lv_lload hx hb dX8_readInteger_77 (lv_at hl 0 rfl) ?_
    refine lv_lload_n hx hb dX8_readInteger_79 rfl (lv_at hl 3 rfl) ?_
    refine W.lcmp hx hb dX8_readInteger_80 ?_
    refine lv_if_lt (tgt := 91) hx hb dX8_readInteger_81 (by decide) (fun c_13 => ?_) (fun c_13 => ?_)
    · replace hF := ite_t hF ((lg_cmp_lt _ _).mp c_13)
      refine lv_aload_n hx hb dX8_readInteger_91 rfl (lv_at hl 2 rfl) ?_
      obtain ⟨y_14, hy_14, hF⟩ := cal_d hF
      refine cf_v C0.1 hP hD hS [0] [1] [1, 0] (wr := [rB q a_o_data n_o_data r_o_data]) (w' := [oX8 a_o a_o_outerEnds a_o_data x_o_depth x_o_end y_9.2 x_o_place y_14.2 y_14.1 x_o_items, rB q a_o_data n_o_data r_o_data]) rfl rfl rfl (by decide) rfl rfl (sn_V (As := []) (rest := []) (ci := 7) (q0 := 0) C0 (c_sc_fail l D q t a_o a_o_outerEnds a_o_data x_o_depth x_o_end y_9.2 x_o_place x_o_size x_o_fault x_o_items  y_14 hy_14) (cwV 0 hts (g_V kw_812 kw_813 kw_814 kw_77 kw_815) rfl rfl rfl hd_X8_fail ⟨Nat.le_of_ble_eq_true rfl, Nat.le_of_ble_eq_true rfl⟩) hP hD hS [0] rfl rfl rfl rfl rfl rfl hl (Nat.le_of_ble_eq_true rfl) dX8_readInteger_92) (fun H locs hP hD hS => ?_)
      refine lv_lload hx hb dX8_readInteger_95 (lv_at hl 0 rfl) ?_
      have hy9 := (Option.some.inj hF).symm
      subst hy9
      exact rt_l C0.1 hP hD hS dX8_readInteger_97
    · replace hF := ite_f hF (fun h => c_13 ((lg_cmp_lt _ _).mpr h))
      refine lv_lload hx hb dX8_readInteger_84 (lv_at hl 0 rfl) ?_
      refine lv_lload_n hx hb dX8_readInteger_86 rfl (lv_at hl 4 rfl) ?_
      refine W.lcmp hx hb dX8_readInteger_87 ?_
      refine lv_if_le (tgt := 95) hx hb dX8_readInteger_88 (by decide) (fun c_15 => ?_) (fun c_15 => ?_)
      · replace hF := ite_t hF ((lg_cmp_le _ _).mp c_15)
        refine lv_lload hx hb dX8_readInteger_95 (lv_at hl 0 rfl) ?_
        have hy9 := (Option.some.inj hF).symm
        subst hy9
        exact rt_l C0.1 hP hD hS dX8_readInteger_97
      · replace hF := ite_f hF (fun h => c_15 ((lg_cmp_le _ _).mpr h))
        refine lv_aload_n hx hb dX8_readInteger_91 rfl (lv_at hl 2 rfl) ?_
        obtain ⟨y_16, hy_16, hF⟩ := cal_d hF
        refine cf_v C0.1 hP hD hS [0] [1] [1, 0] (wr := [rB q a_o_data n_o_data r_o_data]) (w' := [oX8 a_o a_o_outerEnds a_o_data x_o_depth x_o_end y_9.2 x_o_place y_16.2 y_16.1 x_o_items, rB q a_o_data n_o_data r_o_data]) rfl rfl rfl (by decide) rfl rfl (sn_V (As := []) (rest := []) (ci := 7) (q0 := 0) C0 (c_sc_fail l D q t a_o a_o_outerEnds a_o_data x_o_depth x_o_end y_9.2 x_o_place x_o_size x_o_fault x_o_items  y_16 hy_16) (cwV 0 hts (g_V kw_812 kw_813 kw_814 kw_77 kw_815) rfl rfl rfl hd_X8_fail ⟨Nat.le_of_ble_eq_true rfl, Nat.le_of_ble_eq_true rfl⟩) hP hD hS [0] rfl rfl rfl rfl rfl rfl hl (Nat.le_of_ble_eq_true rfl) dX8_readInteger_92) (fun H locs hP hD hS => ?_)
        refine lv_lload hx hb dX8_readInteger_95 (lv_at hl 0 rfl) ?_
        have hy9 := (Option.some.inj hF).symm
        subst hy9
        exact rt_l C0.1 hP hD hS dX8_readInteger_97
set_option maxHeartbeats 4000000 in
set_option maxRecDepth 100000 in
theorem c_sc_readInteger (l : Launch) (D : va_G) (q : Nat → ClassId) (t : Nat) (a_o : Nat) (a_o_outerEnds : Nat) (x_o_depth : Int32) (x_o_end : Int32) (x_o_at : Int32) (x_o_place : Int32) (x_o_size : Int32) (x_o_fault : Int32) (x_o_items : Int32) (a_o_data : Nat) (n_o_data : Nat) (r_o_data : (Nat → Int32)) (p_0 : Int64) (p_1 : Int64) (y : Int64 × Int32 × Int32 × Int32 × Int32 × Int32) (hF : f_sc_readInteger x_o_at r_o_data x_o_end x_o_fault x_o_items x_o_place x_o_size n_o_data p_0 p_1 = some y)  : cu l yX8_readInteger (vs yX8_readInteger cX8_readInteger 8 (some .long)) ({ frames := 2, cells := 0, slots := 0, locals := 48 }) D q t [.ref a_o, .long p_0, .long p_1] [oX8 a_o a_o_outerEnds a_o_data x_o_depth x_o_end x_o_at x_o_place x_o_size x_o_fault x_o_items, rB q a_o_data n_o_data r_o_data] (qL D q y.1 [oX8 a_o a_o_outerEnds a_o_data x_o_depth x_o_end y.2.1 y.2.2.2.2.1 y.2.2.2.2.2 y.2.2.1 y.2.2.2.1, rB q a_o_data n_o_data r_o_data]) := by
  refine cu_of (cc := cX8_readInteger) (nL := 8) (ret := (some .long)) (by decide) (Nat.le_of_ble_eq_true rfl) (fun {p e s m args below meth c A} C0 H locs ls hP hD hS hl => ?_)
  have C0 : cy p s m args meth c cX8_readInteger (some .long) 8 RX8 D q t A := C0
  obtain ⟨⟨hx, hb, hr, hml, hown, hts, hlocks, hK, hA⟩, hG⟩ := id C0
  have hl : lv_has ls 8 [(0, .ref a_o), (1, .long p_0), (3, .long p_1)] := hl
  unfold f_sc_readInteger at hF
  refine lv_aload_n hx hb dX8_readInteger_0 rfl (lv_at hl 0 rfl) ?_
  refine lv_iconst (v := (2 : Int32)) hx hb dX8_readInteger_1 (by decide) ?_
  refine lv_iconst (v := (1 : Int32)) hx hb dX8_readInteger_2 (by decide) ?_
  refine lv_bipush (v := (8 : Int32)) hx hb dX8_readInteger_3 (by decide) ?_
  obtain ⟨y_1, hy_1, hF⟩ := cal_d hF
  refine cf_i C0.1 hP hD hS [0, 1] [] [0, 1] (wr := []) (w' := [oX8 a_o a_o_outerEnds a_o_data x_o_depth x_o_end y_1.2.1 y_1.2.2.2.2.1 y_1.2.2.2.2.2 y_1.2.2.1 y_1.2.2.2.1, rB q a_o_data n_o_data r_o_data]) rfl rfl rfl (by decide) rfl rfl (sn_V (As := [.int (2 : Int32), .int (1 : Int32), .int (8 : Int32)]) (rest := []) (ci := 7) (q0 := 0) C0 (c_sc_enter l D q t a_o a_o_outerEnds x_o_depth x_o_end x_o_at x_o_place x_o_size x_o_fault x_o_items a_o_data n_o_data r_o_data (2 : Int32) (1 : Int32) (8 : Int32) y_1 hy_1) (cwV 3 hts (g_V kw_800 kw_801 kw_802 kw_77 kw_803) rfl rfl rfl hd_X8_enter ⟨Nat.le_of_ble_eq_true rfl, Nat.le_of_ble_eq_true rfl⟩) hP hD hS [0, 1] rfl rfl rfl rfl rfl rfl hl (Nat.le_of_ble_eq_true rfl) dX8_readInteger_5) (fun H locs hP hD hS => ?_)
  refine lv_if_ne (tgt := 13) hx hb dX8_readInteger_8 (by decide) (fun c_2 => ?_) (fun c_2 => ?_)
  · replace hF := ite_f hF c_2
    refine lv_aload_n hx hb dX8_readInteger_13 rfl (lv_at hl 0 rfl) ?_
    refine va_get (D := D) (ci := 7) (v := .ref a_o_data) (C := RX8) (T := TX8) (N := 9) hx hb hts iw_X8 hown hK hP 0 rfl rfl 1 (by decide) (hts _ kw_195) (fun _ h9 => h9) rfl dX8_readInteger_14 ?_
    refine lv_aload_n hx hb dX8_readInteger_17 rfl (lv_at hl 0 rfl) ?_
    refine va_get (D := D) (ci := 7) (v := .int y_1.2.1) (C := RX8) (T := TX8) (N := 9) hx hb hts iw_X8 hown hK hP 0 rfl rfl 4 (by decide) (hts _ kw_199) (fun _ h9 => h9) rfl dX8_readInteger_18 ?_
    obtain ⟨z_3, hF⟩ := chk_d hF
    refine va_bald hx hb hK hP 1 0 rfl rfl z_3 dX8_readInteger_21 ?_
    refine lv_if_lt (tgt := 63) hx hb dX8_readInteger_22 (by decide) (fun c_4 => ?_) (fun c_4 => ?_)
    · replace hF := ite_t hF c_4
      refine lv_iconst (v := (0 : Int32)) hx hb dX8_readInteger_63 (by decide) ?_
      exact w_sc_readInteger_64 C0 a_o a_o_outerEnds a_o_data n_o_data x_o_depth x_o_end y_1.2.1 y_1.2.2.2.2.1 y_1.2.2.2.2.2 y_1.2.2.1 y_1.2.2.2.1 r_o_data p_0 p_1 (0 : Int32) y hF H locs ls hP hD hS (lv_sub hl [0, 1, 2] rfl)
    · replace hF := ite_f hF c_4
      refine lv_aload_n hx hb dX8_readInteger_25 rfl (lv_at hl 0 rfl) ?_
      refine va_get (D := D) (ci := 7) (v := .int y_1.2.2.2.2.2) (C := RX8) (T := TX8) (N := 9) hx hb hts iw_X8 hown hK hP 0 rfl rfl 6 (by decide) (hts _ kw_202) (fun _ h9 => h9) rfl dX8_readInteger_26 ?_
      refine lv_iconst (v := (1 : Int32)) hx hb dX8_readInteger_29 (by decide) ?_
      refine lv_icmp_eq (tgt := 59) hx hb dX8_readInteger_30 (by decide) (fun c_5 => ?_) (fun c_5 => ?_)
      · replace hF := ite_t hF c_5
        refine lv_iconst (v := (1 : Int32)) hx hb dX8_readInteger_59 (by decide) ?_
        refine lv_goto (tgt := 64) hx hb dX8_readInteger_60 (by decide) ?_
        exact w_sc_readInteger_64 C0 a_o a_o_outerEnds a_o_data n_o_data x_o_depth x_o_end y_1.2.1 y_1.2.2.2.2.1 y_1.2.2.2.2.2 y_1.2.2.1 y_1.2.2.2.1 r_o_data p_0 p_1 (1 : Int32) y hF H locs ls hP hD hS (lv_sub hl [0, 1, 2] rfl)
      · replace hF := ite_f hF c_5
        refine lv_aload_n hx hb dX8_readInteger_33 rfl (lv_at hl 0 rfl) ?_
        refine va_get (D := D) (ci := 7) (v := .ref a_o_data) (C := RX8) (T := TX8) (N := 9) hx hb hts iw_X8 hown hK hP 0 rfl rfl 1 (by decide) (hts _ kw_195) (fun _ h9 => h9) rfl dX8_readInteger_34 ?_
        refine lv_aload_n hx hb dX8_readInteger_37 rfl (lv_at hl 0 rfl) ?_
        refine va_get (D := D) (ci := 7) (v := .int y_1.2.1) (C := RX8) (T := TX8) (N := 9) hx hb hts iw_X8 hown hK hP 0 rfl rfl 4 (by decide) (hts _ kw_199) (fun _ h9 => h9) rfl dX8_readInteger_38 ?_
        refine va_bald hx hb hK hP 1 0 rfl rfl z_3 dX8_readInteger_41 ?_
        refine lv_if_ne (tgt := 59) hx hb dX8_readInteger_42 (by decide) (fun c_6 => ?_) (fun c_6 => ?_)
        · replace hF := ite_f hF c_6
          refine lv_iconst (v := (1 : Int32)) hx hb dX8_readInteger_59 (by decide) ?_
          refine lv_goto (tgt := 64) hx hb dX8_readInteger_60 (by decide) ?_
          exact w_sc_readInteger_64 C0 a_o a_o_outerEnds a_o_data n_o_data x_o_depth x_o_end y_1.2.1 y_1.2.2.2.2.1 y_1.2.2.2.2.2 y_1.2.2.1 y_1.2.2.2.1 r_o_data p_0 p_1 (1 : Int32) y hF H locs ls hP hD hS (lv_sub hl [0, 1, 2] rfl)
        · replace hF := ite_t hF c_6
          refine lv_aload_n hx hb dX8_readInteger_45 rfl (lv_at hl 0 rfl) ?_
          refine va_get (D := D) (ci := 7) (v := .ref a_o_data) (C := RX8) (T := TX8) (N := 9) hx hb hts iw_X8 hown hK hP 0 rfl rfl 1 (by decide) (hts _ kw_195) (fun _ h9 => h9) rfl dX8_readInteger_46 ?_
          refine lv_aload_n hx hb dX8_readInteger_49 rfl (lv_at hl 0 rfl) ?_
          refine va_get (D := D) (ci := 7) (v := .int y_1.2.1) (C := RX8) (T := TX8) (N := 9) hx hb hts iw_X8 hown hK hP 0 rfl rfl 4 (by decide) (hts _ kw_199) (fun _ h9 => h9) rfl dX8_readInteger_50 ?_
          refine lv_iconst (v := (1 : Int32)) hx hb dX8_readInteger_53 (by decide) ?_
          refine lv_iadd hx hb dX8_readInteger_54 ?_
          obtain ⟨z_7, hF⟩ := chk_d hF
          refine va_bald hx hb hK hP 1 0 rfl rfl z_7 dX8_readInteger_55 ?_
          refine lv_if_ge (tgt := 63) hx hb dX8_readInteger_56 (by decide) (fun c_8 => ?_) (fun c_8 => ?_)
          · replace hF := ite_t hF c_8
            refine lv_iconst (v := (0 : Int32)) hx hb dX8_readInteger_63 (by decide) ?_
            exact w_sc_readInteger_64 C0 a_o a_o_outerEnds a_o_data n_o_data x_o_depth x_o_end y_1.2.1 y_1.2.2.2.2.1 y_1.2.2.2.2.2 y_1.2.2.1 y_1.2.2.2.1 r_o_data p_0 p_1 (0 : Int32) y hF H locs ls hP hD hS (lv_sub hl [0, 1, 2] rfl)
          · replace hF := ite_f hF c_8
            refine lv_iconst (v := (1 : Int32)) hx hb dX8_readInteger_59 (by decide) ?_
            refine lv_goto (tgt := 64) hx hb dX8_readInteger_60 (by decide) ?_
            exact w_sc_readInteger_64 C0 a_o a_o_outerEnds a_o_data n_o_data x_o_depth x_o_end y_1.2.1 y_1.2.2.2.2.1 y_1.2.2.2.2.2 y_1.2.2.1 y_1.2.2.2.1 r_o_data p_0 p_1 (1 : Int32) y hF H locs ls hP hD hS (lv_sub hl [0, 1, 2] rfl)
  · replace hF := ite_t hF c_2
    refine lv_lconst (v := (0 : Int64)) hx hb dX8_readInteger_11 (by decide) ?_
    have hy9 := (Option.some.inj hF).symm
    subst hy9
    exact rt_l C0.1 hP hD hS dX8_readInteger_12
set_option maxHeartbeats 4000000 in
set_option maxRecDepth 100000 in
theorem c_sc_readSignature (l : Launch) (D : va_G) (q : Nat → ClassId) (t : Nat) (a_o : Nat) (a_o_outerEnds : Nat) (x_o_depth : Int32) (x_o_end : Int32) (x_o_at : Int32) (x_o_place : Int32) (x_o_size : Int32) (x_o_fault : Int32) (x_o_items : Int32) (a_o_data : Nat) (n_o_data : Nat) (r_o_data : (Nat → Int32))  (y : Int64 × Int32 × Int32 × Int32 × Int32 × Int32) (hF : f_sc_readSignature x_o_at r_o_data x_o_end x_o_fault x_o_items x_o_place x_o_size n_o_data = some y)  : cu l yX8_readSignature (vs yX8_readSignature cX8_readSignature 1 (some .long)) ({ frames := 2, cells := 0, slots := 0, locals := 48 }) D q t [.ref a_o] [oX8 a_o a_o_outerEnds a_o_data x_o_depth x_o_end x_o_at x_o_place x_o_size x_o_fault x_o_items, rB q a_o_data n_o_data r_o_data] (qL D q y.1 [oX8 a_o a_o_outerEnds a_o_data x_o_depth x_o_end y.2.1 y.2.2.2.2.1 y.2.2.2.2.2 y.2.2.1 y.2.2.2.1, rB q a_o_data n_o_data r_o_data]) := by
  refine cu_of (cc := cX8_readSignature) (nL := 1) (ret := (some .long)) (by decide) (Nat.le_of_ble_eq_true rfl) (fun {p e s m args below meth c A} C0 H locs ls hP hD hS hl => ?_)
  have C0 : cy p s m args meth c cX8_readSignature (some .long) 1 RX8 D q t A := C0
  obtain ⟨⟨hx, hb, hr, hml, hown, hts, hlocks, hK, hA⟩, hG⟩ := id C0
  have hl : lv_has ls 1 [(0, .ref a_o)] := hl
  unfold f_sc_readSignature at hF
  refine lv_aload_n hx hb dX8_readSignature_0 rfl (lv_at hl 0 rfl) ?_
  refine lv_iconst (v := (3 : Int32)) hx hb dX8_readSignature_1 (by decide) ?_
  refine lv_bipush (v := (9 : Int32)) hx hb dX8_readSignature_2 (by decide) ?_
  refine lv_bipush (v := (9 : Int32)) hx hb dX8_readSignature_4 (by decide) ?_
  obtain ⟨y_1, hy_1, hF⟩ := cal_d hF
  refine cf_i C0.1 hP hD hS [0, 1] [] [0, 1] (wr := []) (w' := [oX8 a_o a_o_outerEnds a_o_data x_o_depth x_o_end y_1.2.1 y_1.2.2.2.2.1 y_1.2.2.2.2.2 y_1.2.2.1 y_1.2.2.2.1, rB q a_o_data n_o_data r_o_data]) rfl rfl rfl (by decide) rfl rfl (sn_V (As := [.int (3 : Int32), .int (9 : Int32), .int (9 : Int32)]) (rest := []) (ci := 7) (q0 := 0) C0 (c_sc_enter l D q t a_o a_o_outerEnds x_o_depth x_o_end x_o_at x_o_place x_o_size x_o_fault x_o_items a_o_data n_o_data r_o_data (3 : Int32) (9 : Int32) (9 : Int32) y_1 hy_1) (cwV 3 hts (g_V kw_800 kw_801 kw_802 kw_77 kw_803) rfl rfl rfl hd_X8_enter ⟨Nat.le_of_ble_eq_true rfl, Nat.le_of_ble_eq_true rfl⟩) hP hD hS [0, 1] rfl rfl rfl rfl rfl rfl hl (Nat.le_of_ble_eq_true rfl) dX8_readSignature_6) (fun H locs hP hD hS => ?_)
  refine lv_if_ne (tgt := 14) hx hb dX8_readSignature_9 (by decide) (fun c_2 => ?_) (fun c_2 => ?_)
  · replace hF := ite_f hF c_2
    refine lv_aload_n hx hb dX8_readSignature_14 rfl (lv_at hl 0 rfl) ?_
    refine va_get (D := D) (ci := 7) (v := .ref a_o_data) (C := RX8) (T := TX8) (N := 9) hx hb hts iw_X8 hown hK hP 0 rfl rfl 1 (by decide) (hts _ kw_195) (fun _ h9 => h9) rfl dX8_readSignature_15 ?_
    refine lv_aload_n hx hb dX8_readSignature_18 rfl (lv_at hl 0 rfl) ?_
    refine va_get (D := D) (ci := 7) (v := .int y_1.2.1) (C := RX8) (T := TX8) (N := 9) hx hb hts iw_X8 hown hK hP 0 rfl rfl 4 (by decide) (hts _ kw_199) (fun _ h9 => h9) rfl dX8_readSignature_19 ?_
    obtain ⟨z_3, hF⟩ := chk_d hF
    refine va_bald hx hb hK hP 1 0 rfl rfl z_3 dX8_readSignature_22 ?_
    refine lv_if_eq (tgt := 30) hx hb dX8_readSignature_23 (by decide) (fun c_4 => ?_) (fun c_4 => ?_)
    · replace hF := ite_t hF c_4
      refine lv_aload_n hx hb dX8_readSignature_30 rfl (lv_at hl 0 rfl) ?_
      obtain ⟨y_5, hy_5, hF⟩ := cal_d hF
      refine cf_l C0.1 hP hD hS [0, 1] [] [0, 1] (wr := []) (w' := [oX8 a_o a_o_outerEnds a_o_data x_o_depth x_o_end y_5.2 y_1.2.2.2.2.1 y_1.2.2.2.2.2 y_1.2.2.1 y_1.2.2.2.1, rB q a_o_data n_o_data r_o_data]) rfl rfl rfl (by decide) rfl rfl (sn_V (As := []) (rest := []) (ci := 7) (q0 := 0) C0 (c_sc_number l D q t a_o a_o_outerEnds x_o_depth x_o_end y_1.2.1 y_1.2.2.2.2.1 y_1.2.2.2.2.2 y_1.2.2.1 y_1.2.2.2.1 a_o_data n_o_data r_o_data  y_5 hy_5) (cwV 0 hts (g_V kw_829 kw_831 kw_5 kw_77 kw_832) rfl rfl rfl hd_X8_number ⟨Nat.le_of_ble_eq_true rfl, Nat.le_of_ble_eq_true rfl⟩) hP hD hS [0, 1] rfl rfl rfl rfl rfl rfl hl (Nat.le_of_ble_eq_true rfl) dX8_readSignature_31) (fun H locs hP hD hS => ?_)
      have hy9 := (Option.some.inj hF).symm
      subst hy9
      exact rt_l C0.1 hP hD hS dX8_readSignature_34
    · replace hF := ite_f hF c_4
      refine lv_aload_n hx hb dX8_readSignature_26 rfl (lv_at hl 0 rfl) ?_
      obtain ⟨y_6, hy_6, hF⟩ := cal_d hF
      refine cf_v C0.1 hP hD hS [0] [1] [1, 0] (wr := [rB q a_o_data n_o_data r_o_data]) (w' := [oX8 a_o a_o_outerEnds a_o_data x_o_depth x_o_end y_1.2.1 y_1.2.2.2.2.1 y_6.2 y_6.1 y_1.2.2.2.1, rB q a_o_data n_o_data r_o_data]) rfl rfl rfl (by decide) rfl rfl (sn_V (As := []) (rest := []) (ci := 7) (q0 := 0) C0 (c_sc_fail l D q t a_o a_o_outerEnds a_o_data x_o_depth x_o_end y_1.2.1 y_1.2.2.2.2.1 y_1.2.2.2.2.2 y_1.2.2.1 y_1.2.2.2.1  y_6 hy_6) (cwV 0 hts (g_V kw_812 kw_813 kw_814 kw_77 kw_815) rfl rfl rfl hd_X8_fail ⟨Nat.le_of_ble_eq_true rfl, Nat.le_of_ble_eq_true rfl⟩) hP hD hS [0] rfl rfl rfl rfl rfl rfl hl (Nat.le_of_ble_eq_true rfl) dX8_readSignature_27) (fun H locs hP hD hS => ?_)
      refine lv_aload_n hx hb dX8_readSignature_30 rfl (lv_at hl 0 rfl) ?_
      obtain ⟨y_7, hy_7, hF⟩ := cal_d hF
      refine cf_l C0.1 hP hD hS [0, 1] [] [0, 1] (wr := []) (w' := [oX8 a_o a_o_outerEnds a_o_data x_o_depth x_o_end y_7.2 y_1.2.2.2.2.1 y_6.2 y_6.1 y_1.2.2.2.1, rB q a_o_data n_o_data r_o_data]) rfl rfl rfl (by decide) rfl rfl (sn_V (As := []) (rest := []) (ci := 7) (q0 := 0) C0 (c_sc_number l D q t a_o a_o_outerEnds x_o_depth x_o_end y_1.2.1 y_1.2.2.2.2.1 y_6.2 y_6.1 y_1.2.2.2.1 a_o_data n_o_data r_o_data  y_7 hy_7) (cwV 0 hts (g_V kw_829 kw_831 kw_5 kw_77 kw_832) rfl rfl rfl hd_X8_number ⟨Nat.le_of_ble_eq_true rfl, Nat.le_of_ble_eq_true rfl⟩) hP hD hS [0, 1] rfl rfl rfl rfl rfl rfl hl (Nat.le_of_ble_eq_true rfl) dX8_readSignature_31) (fun H locs hP hD hS => ?_)
      have hy9 := (Option.some.inj hF).symm
      subst hy9
      exact rt_l C0.1 hP hD hS dX8_readSignature_34
  · replace hF := ite_t hF c_2
    refine lv_lconst (v := (0 : Int64)) hx hb dX8_readSignature_12 (by decide) ?_
    have hy9 := (Option.some.inj hF).symm
    subst hy9
    exact rt_l C0.1 hP hD hS dX8_readSignature_13
set_option maxHeartbeats 4000000 in
set_option maxRecDepth 100000 in
theorem c_ce_read (l : Launch) (D : va_G) (q : Nat → ClassId) (t : Nat) (a_o : Nat) (x_o_innerPlace : Int32) (x_o_innerEnd : Int32) (x_o_serial : Int32) (x_o_issuerPlace : Int32) (x_o_issuerSize : Int32) (x_o_namePlace : Int32) (x_o_nameSize : Int32) (x_o_from : Int64) (x_o_to : Int64) (x_o_publicKey : Int64) (x_o_flags : Int32) (x_o_signature : Int64) (a_p0 : Nat) (x_p0_depth : Int32) (x_p0_end : Int32) (x_p0_at : Int32) (x_p0_place : Int32) (x_p0_size : Int32) (x_p0_fault : Int32) (x_p0_items : Int32) (a_p0_data : Nat) (n_p0_data : Nat) (r_p0_data : (Nat → Int32)) (a_p0_outerEnds : Nat) (r_p0_outerEnds : (Nat → Int32))  (y : Int32 × Int64 × Int32 × Int32 × Int32 × Int32 × Int32 × Int32 × Int64 × Int32 × Int64 × Int64 × Int32 × Int32 × Int32 × Int32 × Int32 × (Nat → Int32) × Int32 × Int32) (hF : f_ce_read x_o_flags x_o_from x_o_innerEnd x_o_innerPlace x_o_issuerPlace x_o_issuerSize x_o_namePlace x_o_nameSize x_o_publicKey x_o_serial x_o_signature x_o_to x_p0_at r_p0_data x_p0_depth x_p0_end x_p0_fault x_p0_items r_p0_outerEnds x_p0_place x_p0_size n_p0_data = some y)  : cu l yX4_read (vs yX4_read cX4_read 2 none) ({ frames := 3, cells := 0, slots := 0, locals := 75 }) D q t [.ref a_o, .ref a_p0] [oX4 a_o x_o_innerPlace x_o_innerEnd x_o_serial x_o_issuerPlace x_o_issuerSize x_o_namePlace x_o_nameSize x_o_from x_o_to x_o_publicKey x_o_flags x_o_signature, oX8 a_p0 a_p0_outerEnds a_p0_data x_p0_depth x_p0_end x_p0_at x_p0_place x_p0_size x_p0_fault x_p0_items, rB q a_p0_data n_p0_data r_p0_data, rI q a_p0_outerEnds 12 r_p0_outerEnds] (qV D q [oX4 a_o y.2.2.2.1 y.2.2.1 y.2.2.2.2.2.2.2.2.2.1 y.2.2.2.2.1 y.2.2.2.2.2.1 y.2.2.2.2.2.2.1 y.2.2.2.2.2.2.2.1 y.2.1 y.2.2.2.2.2.2.2.2.2.2.2.1 y.2.2.2.2.2.2.2.2.1 y.1 y.2.2.2.2.2.2.2.2.2.2.1, oX8 a_p0 a_p0_outerEnds a_p0_data y.2.2.2.2.2.2.2.2.2.2.2.2.2.1 y.2.2.2.2.2.2.2.2.2.2.2.2.2.2.1 y.2.2.2.2.2.2.2.2.2.2.2.2.1 y.2.2.2.2.2.2.2.2.2.2.2.2.2.2.2.2.2.2.1 y.2.2.2.2.2.2.2.2.2.2.2.2.2.2.2.2.2.2.2 y.2.2.2.2.2.2.2.2.2.2.2.2.2.2.2.1 y.2.2.2.2.2.2.2.2.2.2.2.2.2.2.2.2.1, rB q a_p0_data n_p0_data r_p0_data, rI q a_p0_outerEnds 12 y.2.2.2.2.2.2.2.2.2.2.2.2.2.2.2.2.2.1]) := by
  refine cu_of (cc := cX4_read) (nL := 2) (ret := none) (by decide) (Nat.le_of_ble_eq_true rfl) (fun {p e s m args below meth c A} C0 H locs ls hP hD hS hl => ?_)
  have C0 : cy p s m args meth c cX4_read none 2 RX4 D q t A := C0
  obtain ⟨⟨hx, hb, hr, hml, hown, hts, hlocks, hK, hA⟩, hG⟩ := id C0
  have hl : lv_has ls 2 [(0, .ref a_o), (1, .ref a_p0)] := hl
  unfold f_ce_read at hF
  refine lv_aload_n hx hb dX4_read_0 rfl (lv_at hl 1 rfl) ?_
  refine lv_bipush (v := (48 : Int32)) hx hb dX4_read_1 (by decide) ?_
  obtain ⟨y_1, hy_1, hF⟩ := cal_d hF
  refine cf_v C0.1 hP hD hS [1, 2, 3] [0] [0, 1, 2, 3] (wr := [oX4 a_o x_o_innerPlace x_o_innerEnd x_o_serial x_o_issuerPlace x_o_issuerSize x_o_namePlace x_o_nameSize x_o_from x_o_to x_o_publicKey x_o_flags x_o_signature]) (w' := [oX4 a_o x_o_innerPlace x_o_innerEnd x_o_serial x_o_issuerPlace x_o_issuerSize x_o_namePlace x_o_nameSize x_o_from x_o_to x_o_publicKey x_o_flags x_o_signature, oX8 a_p0 a_p0_outerEnds a_p0_data y_1.2.1 y_1.2.2.1 y_1.1 y_1.2.2.2.2.2.2.1 y_1.2.2.2.2.2.2.2 y_1.2.2.2.1 y_1.2.2.2.2.1, rB q a_p0_data n_p0_data r_p0_data, rI q a_p0_outerEnds 12 y_1.2.2.2.2.2.1]) rfl rfl rfl (by decide) rfl rfl (sn_V (As := [.int (48 : Int32)]) (rest := []) (ci := 7) (q0 := 1) C0 (c_sc_open l D q t a_p0 x_p0_depth x_p0_end x_p0_at x_p0_place x_p0_size x_p0_fault x_p0_items a_p0_data n_p0_data r_p0_data a_p0_outerEnds r_p0_outerEnds (48 : Int32) y_1 hy_1) (cwV 1 hts (g_V kw_965 kw_797 kw_798 kw_77 kw_799) rfl rfl rfl hd_X8_open ⟨Nat.le_of_ble_eq_true rfl, Nat.le_of_ble_eq_true rfl⟩) hP hD hS [1, 2, 3] rfl rfl rfl rfl rfl rfl hl (Nat.le_of_ble_eq_true rfl) dX4_read_3) (fun H locs hP hD hS => ?_)
  refine lv_aload_n hx hb dX4_read_6 rfl (lv_at hl 0 rfl) ?_
  refine lv_aload_n hx hb dX4_read_7 rfl (lv_at hl 1 rfl) ?_
  refine va_get (D := D) (ci := 7) (v := .int y_1.1) (C := RX8) (T := TX8) (N := 9) hx hb hts iw_X8 hown hK hP 1 rfl rfl 4 (by decide) (hts _ kw_198) (fun _ h9 => h9) rfl dX4_read_8 ?_
  refine lv_topi (fun x_o_innerPlace_2 e_x_o_innerPlace_2 => ?_)
  replace hF := bnd_d hF e_x_o_innerPlace_2
  refine va_put (D := D) (ci := 4) (v := .int x_o_innerPlace_2) (ty := .int) (C := RX4) (T := TX4) (N := 12) hx hb hts iw_X4 tyX4 tyX4_ok nmX4 hown hK hP hD hS 0 rfl rfl 0 (by decide) (hts _ kw_264) (fun _ h9 => h9) rfl (by decide +kernel) rfl rfl (Nat.le_of_ble_eq_true rfl) dX4_read_11 (fun H locs hP hD hS => ?_)
  have hP : va_P D vwCl ([oX4 a_o x_o_innerPlace_2 x_o_innerEnd x_o_serial x_o_issuerPlace x_o_issuerSize x_o_namePlace x_o_nameSize x_o_from x_o_to x_o_publicKey x_o_flags x_o_signature, oX8 a_p0 a_p0_outerEnds a_p0_data y_1.2.1 y_1.2.2.1 y_1.1 y_1.2.2.2.2.2.2.1 y_1.2.2.2.2.2.2.2 y_1.2.2.2.1 y_1.2.2.2.2.1, rB q a_p0_data n_p0_data r_p0_data, rI q a_p0_outerEnds 12 y_1.2.2.2.2.2.1]) H := hP
  have hD : va_D A ([oX4 a_o x_o_innerPlace_2 x_o_innerEnd x_o_serial x_o_issuerPlace x_o_issuerSize x_o_namePlace x_o_nameSize x_o_from x_o_to x_o_publicKey x_o_flags x_o_signature, oX8 a_p0 a_p0_outerEnds a_p0_data y_1.2.1 y_1.2.2.1 y_1.1 y_1.2.2.2.2.2.2.1 y_1.2.2.2.2.2.2.2 y_1.2.2.2.1 y_1.2.2.2.2.1, rB q a_p0_data n_p0_data r_p0_data, rI q a_p0_outerEnds 12 y_1.2.2.2.2.2.1]) := hD
  refine lv_aload_n hx hb dX4_read_14 rfl (lv_at hl 1 rfl) ?_
  refine lv_bipush (v := (48 : Int32)) hx hb dX4_read_15 (by decide) ?_
  obtain ⟨y_3, hy_3, hF⟩ := cal_d hF
  refine cf_v C0.1 hP hD hS [1, 2, 3] [0] [0, 1, 2, 3] (wr := [oX4 a_o x_o_innerPlace_2 x_o_innerEnd x_o_serial x_o_issuerPlace x_o_issuerSize x_o_namePlace x_o_nameSize x_o_from x_o_to x_o_publicKey x_o_flags x_o_signature]) (w' := [oX4 a_o x_o_innerPlace_2 x_o_innerEnd x_o_serial x_o_issuerPlace x_o_issuerSize x_o_namePlace x_o_nameSize x_o_from x_o_to x_o_publicKey x_o_flags x_o_signature, oX8 a_p0 a_p0_outerEnds a_p0_data y_3.2.1 y_3.2.2.1 y_3.1 y_3.2.2.2.2.2.2.1 y_3.2.2.2.2.2.2.2 y_3.2.2.2.1 y_3.2.2.2.2.1, rB q a_p0_data n_p0_data r_p0_data, rI q a_p0_outerEnds 12 y_3.2.2.2.2.2.1]) rfl rfl rfl (by decide) rfl rfl (sn_V (As := [.int (48 : Int32)]) (rest := []) (ci := 7) (q0 := 1) C0 (c_sc_open l D q t a_p0 y_1.2.1 y_1.2.2.1 y_1.1 y_1.2.2.2.2.2.2.1 y_1.2.2.2.2.2.2.2 y_1.2.2.2.1 y_1.2.2.2.2.1 a_p0_data n_p0_data r_p0_data a_p0_outerEnds y_1.2.2.2.2.2.1 (48 : Int32) y_3 hy_3) (cwV 1 hts (g_V kw_965 kw_797 kw_798 kw_77 kw_799) rfl rfl rfl hd_X8_open ⟨Nat.le_of_ble_eq_true rfl, Nat.le_of_ble_eq_true rfl⟩) hP hD hS [1, 2, 3] rfl rfl rfl rfl rfl rfl hl (Nat.le_of_ble_eq_true rfl) dX4_read_17) (fun H locs hP hD hS => ?_)
  refine lv_aload_n hx hb dX4_read_20 rfl (lv_at hl 0 rfl) ?_
  refine lv_aload_n hx hb dX4_read_21 rfl (lv_at hl 1 rfl) ?_
  refine lv_lconst (v := (0 : Int64)) hx hb dX4_read_22 (by decide) ?_
  refine lv_ldc2 (v := (2147483647 : Int64)) hx hb hown (hts _ kw_966) dX4_read_23 ?_
  obtain ⟨y_4, hy_4, hF⟩ := cal_d hF
  refine cf_l C0.1 hP hD hS [1, 2] [0, 3] [0, 2, 3, 1] (wr := [oX4 a_o x_o_innerPlace_2 x_o_innerEnd x_o_serial x_o_issuerPlace x_o_issuerSize x_o_namePlace x_o_nameSize x_o_from x_o_to x_o_publicKey x_o_flags x_o_signature, rI q a_p0_outerEnds 12 y_3.2.2.2.2.2.1]) (w' := [oX4 a_o x_o_innerPlace_2 x_o_innerEnd x_o_serial x_o_issuerPlace x_o_issuerSize x_o_namePlace x_o_nameSize x_o_from x_o_to x_o_publicKey x_o_flags x_o_signature, oX8 a_p0 a_p0_outerEnds a_p0_data y_3.2.1 y_3.2.2.1 y_4.2.1 y_4.2.2.2.2.1 y_4.2.2.2.2.2 y_4.2.2.1 y_4.2.2.2.1, rB q a_p0_data n_p0_data r_p0_data, rI q a_p0_outerEnds 12 y_3.2.2.2.2.2.1]) rfl rfl rfl (by decide) rfl rfl (sn_V (As := [.long (0 : Int64), .long (2147483647 : Int64)]) (rest := [.ref a_o]) (ci := 7) (q0 := 1) C0 (c_sc_readInteger l D q t a_p0 a_p0_outerEnds y_3.2.1 y_3.2.2.1 y_3.1 y_3.2.2.2.2.2.2.1 y_3.2.2.2.2.2.2.2 y_3.2.2.2.1 y_3.2.2.2.2.1 a_p0_data n_p0_data r_p0_data (0 : Int64) (2147483647 : Int64) y_4 hy_4) (cwV 2 hts (g_V kw_967 kw_835 kw_836 kw_77 kw_837) rfl rfl rfl hd_X8_readInteger ⟨Nat.le_of_ble_eq_true rfl, Nat.le_of_ble_eq_true rfl⟩) hP hD hS [1, 2] rfl rfl rfl rfl rfl rfl hl (Nat.le_of_ble_eq_true rfl) dX4_read_26) (fun H locs hP hD hS => ?_)
  refine lv_l2i hx hb dX4_read_29 rfl ?_
  refine lv_topi (fun x_o_serial_5 e_x_o_serial_5 => ?_)
  replace hF := bnd_d hF e_x_o_serial_5
  refine va_put (D := D) (ci := 4) (v := .int x_o_serial_5) (ty := .int) (C := RX4) (T := TX4) (N := 12) hx hb hts iw_X4 tyX4 tyX4_ok nmX4 hown hK hP hD hS 0 rfl rfl 2 (by decide) (hts _ kw_268) (fun _ h9 => h9) rfl (by decide +kernel) rfl rfl (Nat.le_of_ble_eq_true rfl) dX4_read_30 (fun H locs hP hD hS => ?_)
  have hP : va_P D vwCl ([oX4 a_o x_o_innerPlace_2 x_o_innerEnd x_o_serial_5 x_o_issuerPlace x_o_issuerSize x_o_namePlace x_o_nameSize x_o_from x_o_to x_o_publicKey x_o_flags x_o_signature, oX8 a_p0 a_p0_outerEnds a_p0_data y_3.2.1 y_3.2.2.1 y_4.2.1 y_4.2.2.2.2.1 y_4.2.2.2.2.2 y_4.2.2.1 y_4.2.2.2.1, rB q a_p0_data n_p0_data r_p0_data, rI q a_p0_outerEnds 12 y_3.2.2.2.2.2.1]) H := hP
  have hD : va_D A ([oX4 a_o x_o_innerPlace_2 x_o_innerEnd x_o_serial_5 x_o_issuerPlace x_o_issuerSize x_o_namePlace x_o_nameSize x_o_from x_o_to x_o_publicKey x_o_flags x_o_signature, oX8 a_p0 a_p0_outerEnds a_p0_data y_3.2.1 y_3.2.2.1 y_4.2.1 y_4.2.2.2.2.1 y_4.2.2.2.2.2 y_4.2.2.1 y_4.2.2.2.1, rB q a_p0_data n_p0_data r_p0_data, rI q a_p0_outerEnds 12 y_3.2.2.2.2.2.1]) := hD
  refine lv_aload_n hx hb dX4_read_33 rfl (lv_at hl 0 rfl) ?_
  refine lv_aload_n hx hb dX4_read_34 rfl (lv_at hl 1 rfl) ?_
  refine lv_iconst (v := (1 : Int32)) hx hb dX4_read_35 (by decide) ?_
  refine lv_bipush (v := (16 : Int32)) hx hb dX4_read_36 (by decide) ?_
  obtain ⟨y_6, hy_6, hF⟩ := cal_d hF
  refine cf_i C0.1 hP hD hS [1, 2] [0, 3] [0, 2, 3, 1] (wr := [oX4 a_o x_o_innerPlace_2 x_o_innerEnd x_o_serial_5 x_o_issuerPlace x_o_issuerSize x_o_namePlace x_o_nameSize x_o_from x_o_to x_o_publicKey x_o_flags x_o_signature, rI q a_p0_outerEnds 12 y_3.2.2.2.2.2.1]) (w' := [oX4 a_o x_o_innerPlace_2 x_o_innerEnd x_o_serial_5 x_o_issuerPlace x_o_issuerSize x_o_namePlace x_o_nameSize x_o_from x_o_to x_o_publicKey x_o_flags x_o_signature, oX8 a_p0 a_p0_outerEnds a_p0_data y_3.2.1 y_3.2.2.1 y_6.2.1 y_6.2.2.2.2.1 y_6.2.2.2.2.2 y_6.2.2.1 y_6.2.2.2.1, rB q a_p0_data n_p0_data r_p0_data, rI q a_p0_outerEnds 12 y_3.2.2.2.2.2.1]) rfl rfl rfl (by decide) rfl rfl (sn_V (As := [.int (1 : Int32), .int (16 : Int32)]) (rest := [.ref a_o]) (ci := 7) (q0 := 1) C0 (c_sc_readBytes l D q t a_p0 a_p0_outerEnds y_3.2.1 y_3.2.2.1 y_4.2.1 y_4.2.2.2.2.1 y_4.2.2.2.2.2 y_4.2.2.1 y_4.2.2.2.1 a_p0_data n_p0_data r_p0_data (1 : Int32) (16 : Int32) y_6 hy_6) (cwV 2 hts (g_V kw_968 kw_850 kw_851 kw_77 kw_852) rfl rfl rfl hd_X8_readBytes ⟨Nat.le_of_ble_eq_true rfl, Nat.le_of_ble_eq_true rfl⟩) hP hD hS [1, 2] rfl rfl rfl rfl rfl rfl hl (Nat.le_of_ble_eq_true rfl) dX4_read_38) (fun H locs hP hD hS => ?_)
  refine lv_topi (fun x_o_issuerPlace_7 e_x_o_issuerPlace_7 => ?_)
  replace hF := bnd_d hF e_x_o_issuerPlace_7
  refine va_put (D := D) (ci := 4) (v := .int x_o_issuerPlace_7) (ty := .int) (C := RX4) (T := TX4) (N := 12) hx hb hts iw_X4 tyX4 tyX4_ok nmX4 hown hK hP hD hS 0 rfl rfl 3 (by decide) (hts _ kw_270) (fun _ h9 => h9) rfl (by decide +kernel) rfl rfl (Nat.le_of_ble_eq_true rfl) dX4_read_41 (fun H locs hP hD hS => ?_)
  have hP : va_P D vwCl ([oX4 a_o x_o_innerPlace_2 x_o_innerEnd x_o_serial_5 x_o_issuerPlace_7 x_o_issuerSize x_o_namePlace x_o_nameSize x_o_from x_o_to x_o_publicKey x_o_flags x_o_signature, oX8 a_p0 a_p0_outerEnds a_p0_data y_3.2.1 y_3.2.2.1 y_6.2.1 y_6.2.2.2.2.1 y_6.2.2.2.2.2 y_6.2.2.1 y_6.2.2.2.1, rB q a_p0_data n_p0_data r_p0_data, rI q a_p0_outerEnds 12 y_3.2.2.2.2.2.1]) H := hP
  have hD : va_D A ([oX4 a_o x_o_innerPlace_2 x_o_innerEnd x_o_serial_5 x_o_issuerPlace_7 x_o_issuerSize x_o_namePlace x_o_nameSize x_o_from x_o_to x_o_publicKey x_o_flags x_o_signature, oX8 a_p0 a_p0_outerEnds a_p0_data y_3.2.1 y_3.2.2.1 y_6.2.1 y_6.2.2.2.2.1 y_6.2.2.2.2.2 y_6.2.2.1 y_6.2.2.2.1, rB q a_p0_data n_p0_data r_p0_data, rI q a_p0_outerEnds 12 y_3.2.2.2.2.2.1]) := hD
  refine lv_aload_n hx hb dX4_read_44 rfl (lv_at hl 0 rfl) ?_
  refine lv_aload_n hx hb dX4_read_45 rfl (lv_at hl 1 rfl) ?_
  refine va_get (D := D) (ci := 7) (v := .int y_6.2.2.2.2.2) (C := RX8) (T := TX8) (N := 9) hx hb hts iw_X8 hown hK hP 1 rfl rfl 6 (by decide) (hts _ kw_203) (fun _ h9 => h9) rfl dX4_read_46 ?_
  refine lv_topi (fun x_o_issuerSize_8 e_x_o_issuerSize_8 => ?_)
  replace hF := bnd_d hF e_x_o_issuerSize_8
  refine va_put (D := D) (ci := 4) (v := .int x_o_issuerSize_8) (ty := .int) (C := RX4) (T := TX4) (N := 12) hx hb hts iw_X4 tyX4 tyX4_ok nmX4 hown hK hP hD hS 0 rfl rfl 4 (by decide) (hts _ kw_272) (fun _ h9 => h9) rfl (by decide +kernel) rfl rfl (Nat.le_of_ble_eq_true rfl) dX4_read_49 (fun H locs hP hD hS => ?_)
  have hP : va_P D vwCl ([oX4 a_o x_o_innerPlace_2 x_o_innerEnd x_o_serial_5 x_o_issuerPlace_7 x_o_issuerSize_8 x_o_namePlace x_o_nameSize x_o_from x_o_to x_o_publicKey x_o_flags x_o_signature, oX8 a_p0 a_p0_outerEnds a_p0_data y_3.2.1 y_3.2.2.1 y_6.2.1 y_6.2.2.2.2.1 y_6.2.2.2.2.2 y_6.2.2.1 y_6.2.2.2.1, rB q a_p0_data n_p0_data r_p0_data, rI q a_p0_outerEnds 12 y_3.2.2.2.2.2.1]) H := hP
  have hD : va_D A ([oX4 a_o x_o_innerPlace_2 x_o_innerEnd x_o_serial_5 x_o_issuerPlace_7 x_o_issuerSize_8 x_o_namePlace x_o_nameSize x_o_from x_o_to x_o_publicKey x_o_flags x_o_signature, oX8 a_p0 a_p0_outerEnds a_p0_data y_3.2.1 y_3.2.2.1 y_6.2.1 y_6.2.2.2.2.1 y_6.2.2.2.2.2 y_6.2.2.1 y_6.2.2.2.1, rB q a_p0_data n_p0_data r_p0_data, rI q a_p0_outerEnds 12 y_3.2.2.2.2.2.1]) := hD
  refine lv_aload_n hx hb dX4_read_52 rfl (lv_at hl 0 rfl) ?_
  refine lv_aload_n hx hb dX4_read_53 rfl (lv_at hl 1 rfl) ?_
  refine lv_iconst (v := (1 : Int32)) hx hb dX4_read_54 (by decide) ?_
  refine lv_bipush (v := (16 : Int32)) hx hb dX4_read_55 (by decide) ?_
  obtain ⟨y_9, hy_9, hF⟩ := cal_d hF
  refine cf_i C0.1 hP hD hS [1, 2] [0, 3] [0, 2, 3, 1] (wr := [oX4 a_o x_o_innerPlace_2 x_o_innerEnd x_o_serial_5 x_o_issuerPlace_7 x_o_issuerSize_8 x_o_namePlace x_o_nameSize x_o_from x_o_to x_o_publicKey x_o_flags x_o_signature, rI q a_p0_outerEnds 12 y_3.2.2.2.2.2.1]) (w' := [oX4 a_o x_o_innerPlace_2 x_o_innerEnd x_o_serial_5 x_o_issuerPlace_7 x_o_issuerSize_8 x_o_namePlace x_o_nameSize x_o_from x_o_to x_o_publicKey x_o_flags x_o_signature, oX8 a_p0 a_p0_outerEnds a_p0_data y_3.2.1 y_3.2.2.1 y_9.2.1 y_9.2.2.2.2.1 y_9.2.2.2.2.2 y_9.2.2.1 y_9.2.2.2.1, rB q a_p0_data n_p0_data r_p0_data, rI q a_p0_outerEnds 12 y_3.2.2.2.2.2.1]) rfl rfl rfl (by decide) rfl rfl (sn_V (As := [.int (1 : Int32), .int (16 : Int32)]) (rest := [.ref a_o]) (ci := 7) (q0 := 1) C0 (c_sc_readBytes l D q t a_p0 a_p0_outerEnds y_3.2.1 y_3.2.2.1 y_6.2.1 y_6.2.2.2.2.1 y_6.2.2.2.2.2 y_6.2.2.1 y_6.2.2.2.1 a_p0_data n_p0_data r_p0_data (1 : Int32) (16 : Int32) y_9 hy_9) (cwV 2 hts (g_V kw_968 kw_850 kw_851 kw_77 kw_852) rfl rfl rfl hd_X8_readBytes ⟨Nat.le_of_ble_eq_true rfl, Nat.le_of_ble_eq_true rfl⟩) hP hD hS [1, 2] rfl rfl rfl rfl rfl rfl hl (Nat.le_of_ble_eq_true rfl) dX4_read_57) (fun H locs hP hD hS => ?_)
  refine lv_topi (fun x_o_namePlace_10 e_x_o_namePlace_10 => ?_)
  replace hF := bnd_d hF e_x_o_namePlace_10
  refine va_put (D := D) (ci := 4) (v := .int x_o_namePlace_10) (ty := .int) (C := RX4) (T := TX4) (N := 12) hx hb hts iw_X4 tyX4 tyX4_ok nmX4 hown hK hP hD hS 0 rfl rfl 5 (by decide) (hts _ kw_274) (fun _ h9 => h9) rfl (by decide +kernel) rfl rfl (Nat.le_of_ble_eq_true rfl) dX4_read_60 (fun H locs hP hD hS => ?_)
  have hP : va_P D vwCl ([oX4 a_o x_o_innerPlace_2 x_o_innerEnd x_o_serial_5 x_o_issuerPlace_7 x_o_issuerSize_8 x_o_namePlace_10 x_o_nameSize x_o_from x_o_to x_o_publicKey x_o_flags x_o_signature, oX8 a_p0 a_p0_outerEnds a_p0_data y_3.2.1 y_3.2.2.1 y_9.2.1 y_9.2.2.2.2.1 y_9.2.2.2.2.2 y_9.2.2.1 y_9.2.2.2.1, rB q a_p0_data n_p0_data r_p0_data, rI q a_p0_outerEnds 12 y_3.2.2.2.2.2.1]) H := hP
  have hD : va_D A ([oX4 a_o x_o_innerPlace_2 x_o_innerEnd x_o_serial_5 x_o_issuerPlace_7 x_o_issuerSize_8 x_o_namePlace_10 x_o_nameSize x_o_from x_o_to x_o_publicKey x_o_flags x_o_signature, oX8 a_p0 a_p0_outerEnds a_p0_data y_3.2.1 y_3.2.2.1 y_9.2.1 y_9.2.2.2.2.1 y_9.2.2.2.2.2 y_9.2.2.1 y_9.2.2.2.1, rB q a_p0_data n_p0_data r_p0_data, rI q a_p0_outerEnds 12 y_3.2.2.2.2.2.1]) := hD
  refine lv_aload_n hx hb dX4_read_63 rfl (lv_at hl 0 rfl) ?_
  refine lv_aload_n hx hb dX4_read_64 rfl (lv_at hl 1 rfl) ?_
  refine va_get (D := D) (ci := 7) (v := .int y_9.2.2.2.2.2) (C := RX8) (T := TX8) (N := 9) hx hb hts iw_X8 hown hK hP 1 rfl rfl 6 (by decide) (hts _ kw_203) (fun _ h9 => h9) rfl dX4_read_65 ?_
  refine lv_topi (fun x_o_nameSize_11 e_x_o_nameSize_11 => ?_)
  replace hF := bnd_d hF e_x_o_nameSize_11
  refine va_put (D := D) (ci := 4) (v := .int x_o_nameSize_11) (ty := .int) (C := RX4) (T := TX4) (N := 12) hx hb hts iw_X4 tyX4 tyX4_ok nmX4 hown hK hP hD hS 0 rfl rfl 6 (by decide) (hts _ kw_276) (fun _ h9 => h9) rfl (by decide +kernel) rfl rfl (Nat.le_of_ble_eq_true rfl) dX4_read_68 (fun H locs hP hD hS => ?_)
  have hP : va_P D vwCl ([oX4 a_o x_o_innerPlace_2 x_o_innerEnd x_o_serial_5 x_o_issuerPlace_7 x_o_issuerSize_8 x_o_namePlace_10 x_o_nameSize_11 x_o_from x_o_to x_o_publicKey x_o_flags x_o_signature, oX8 a_p0 a_p0_outerEnds a_p0_data y_3.2.1 y_3.2.2.1 y_9.2.1 y_9.2.2.2.2.1 y_9.2.2.2.2.2 y_9.2.2.1 y_9.2.2.2.1, rB q a_p0_data n_p0_data r_p0_data, rI q a_p0_outerEnds 12 y_3.2.2.2.2.2.1]) H := hP
  have hD : va_D A ([oX4 a_o x_o_innerPlace_2 x_o_innerEnd x_o_serial_5 x_o_issuerPlace_7 x_o_issuerSize_8 x_o_namePlace_10 x_o_nameSize_11 x_o_from x_o_to x_o_publicKey x_o_flags x_o_signature, oX8 a_p0 a_p0_outerEnds a_p0_data y_3.2.1 y_3.2.2.1 y_9.2.1 y_9.2.2.2.2.1 y_9.2.2.2.2.2 y_9.2.2.1 y_9.2.2.2.1, rB q a_p0_data n_p0_data r_p0_data, rI q a_p0_outerEnds 12 y_3.2.2.2.2.2.1]) := hD
  refine lv_aload_n hx hb dX4_read_71 rfl (lv_at hl 0 rfl) ?_
  refine lv_aload_n hx hb dX4_read_72 rfl (lv_at hl 1 rfl) ?_
  obtain ⟨y_12, hy_12, hF⟩ := cal_d hF
  refine cf_l C0.1 hP hD hS [1, 2] [0, 3] [0, 2, 3, 1] (wr := [oX4 a_o x_o_innerPlace_2 x_o_innerEnd x_o_serial_5 x_o_issuerPlace_7 x_o_issuerSize_8 x_o_namePlace_10 x_o_nameSize_11 x_o_from x_o_to x_o_publicKey x_o_flags x_o_signature, rI q a_p0_outerEnds 12 y_3.2.2.2.2.2.1]) (w' := [oX4 a_o x_o_innerPlace_2 x_o_innerEnd x_o_serial_5 x_o_issuerPlace_7 x_o_issuerSize_8 x_o_namePlace_10 x_o_nameSize_11 x_o_from x_o_to x_o_publicKey x_o_flags x_o_signature, oX8 a_p0 a_p0_outerEnds a_p0_data y_3.2.1 y_3.2.2.1 y_12.2.1 y_12.2.2.2.2.1 y_12.2.2.2.2.2 y_12.2.2.1 y_12.2.2.2.1, rB q a_p0_data n_p0_data r_p0_data, rI q a_p0_outerEnds 12 y_3.2.2.2.2.2.1]) rfl rfl rfl (by decide) rfl rfl (sn_V (As := []) (rest := [.ref a_o]) (ci := 7) (q0 := 1) C0 (c_sc_readTime l D q t a_p0 a_p0_outerEnds y_3.2.1 y_3.2.2.1 y_9.2.1 y_9.2.2.2.2.1 y_9.2.2.2.2.2 y_9.2.2.1 y_9.2.2.2.1 a_p0_data n_p0_data r_p0_data  y_12 hy_12) (cwV 0 hts (g_V kw_969 kw_922 kw_923 kw_77 kw_924) rfl rfl rfl hd_X8_readTime ⟨Nat.le_of_ble_eq_true rfl, Nat.le_of_ble_eq_true rfl⟩) hP hD hS [1, 2] rfl rfl rfl rfl rfl rfl hl (Nat.le_of_ble_eq_true rfl) dX4_read_73) (fun H locs hP hD hS => ?_)
  refine lv_topl (fun x_o_from_13 e_x_o_from_13 => ?_)
  replace hF := bnd_d hF e_x_o_from_13
  refine va_put (D := D) (ci := 4) (v := .long x_o_from_13) (ty := .long) (C := RX4) (T := TX4) (N := 12) hx hb hts iw_X4 tyX4 tyX4_ok nmX4 hown hK hP hD hS 0 rfl rfl 7 (by decide) (hts _ kw_278) (fun _ h9 => h9) rfl (by decide +kernel) rfl rfl (Nat.le_of_ble_eq_true rfl) dX4_read_76 (fun H locs hP hD hS => ?_)
  have hP : va_P D vwCl ([oX4 a_o x_o_innerPlace_2 x_o_innerEnd x_o_serial_5 x_o_issuerPlace_7 x_o_issuerSize_8 x_o_namePlace_10 x_o_nameSize_11 x_o_from_13 x_o_to x_o_publicKey x_o_flags x_o_signature, oX8 a_p0 a_p0_outerEnds a_p0_data y_3.2.1 y_3.2.2.1 y_12.2.1 y_12.2.2.2.2.1 y_12.2.2.2.2.2 y_12.2.2.1 y_12.2.2.2.1, rB q a_p0_data n_p0_data r_p0_data, rI q a_p0_outerEnds 12 y_3.2.2.2.2.2.1]) H := hP
  have hD : va_D A ([oX4 a_o x_o_innerPlace_2 x_o_innerEnd x_o_serial_5 x_o_issuerPlace_7 x_o_issuerSize_8 x_o_namePlace_10 x_o_nameSize_11 x_o_from_13 x_o_to x_o_publicKey x_o_flags x_o_signature, oX8 a_p0 a_p0_outerEnds a_p0_data y_3.2.1 y_3.2.2.1 y_12.2.1 y_12.2.2.2.2.1 y_12.2.2.2.2.2 y_12.2.2.1 y_12.2.2.2.1, rB q a_p0_data n_p0_data r_p0_data, rI q a_p0_outerEnds 12 y_3.2.2.2.2.2.1]) := hD
  refine lv_aload_n hx hb dX4_read_79 rfl (lv_at hl 0 rfl) ?_
  refine lv_aload_n hx hb dX4_read_80 rfl (lv_at hl 1 rfl) ?_
  obtain ⟨y_14, hy_14, hF⟩ := cal_d hF
  refine cf_l C0.1 hP hD hS [1, 2] [0, 3] [0, 2, 3, 1] (wr := [oX4 a_o x_o_innerPlace_2 x_o_innerEnd x_o_serial_5 x_o_issuerPlace_7 x_o_issuerSize_8 x_o_namePlace_10 x_o_nameSize_11 x_o_from_13 x_o_to x_o_publicKey x_o_flags x_o_signature, rI q a_p0_outerEnds 12 y_3.2.2.2.2.2.1]) (w' := [oX4 a_o x_o_innerPlace_2 x_o_innerEnd x_o_serial_5 x_o_issuerPlace_7 x_o_issuerSize_8 x_o_namePlace_10 x_o_nameSize_11 x_o_from_13 x_o_to x_o_publicKey x_o_flags x_o_signature, oX8 a_p0 a_p0_outerEnds a_p0_data y_3.2.1 y_3.2.2.1 y_14.2.1 y_14.2.2.2.2.1 y_14.2.2.2.2.2 y_14.2.2.1 y_14.2.2.2.1, rB q a_p0_data n_p0_data r_p0_data, rI q a_p0_outerEnds 12 y_3.2.2.2.2.2.1]) rfl rfl rfl (by decide) rfl rfl (sn_V (As := []) (rest := [.ref a_o]) (ci := 7) (q0 := 1) C0 (c_sc_readTime l D q t a_p0 a_p0_outerEnds y_3.2.1 y_3.2.2.1 y_12.2.1 y_12.2.2.2.2.1 y_12.2.2.2.2.2 y_12.2.2.1 y_12.2.2.2.1 a_p0_data n_p0_data r_p0_data  y_14 hy_14) (cwV 0 hts (g_V kw_969 kw_922 kw_923 kw_77 kw_924) rfl rfl rfl hd_X8_readTime ⟨Nat.le_of_ble_eq_true rfl, Nat.le_of_ble_eq_true rfl⟩) hP hD hS [1, 2] rfl rfl rfl rfl rfl rfl hl (Nat.le_of_ble_eq_true rfl) dX4_read_81) (fun H locs hP hD hS => ?_)
  refine lv_topl (fun x_o_to_15 e_x_o_to_15 => ?_)
  replace hF := bnd_d hF e_x_o_to_15
  refine va_put (D := D) (ci := 4) (v := .long x_o_to_15) (ty := .long) (C := RX4) (T := TX4) (N := 12) hx hb hts iw_X4 tyX4 tyX4_ok nmX4 hown hK hP hD hS 0 rfl rfl 8 (by decide) (hts _ kw_280) (fun _ h9 => h9) rfl (by decide +kernel) rfl rfl (Nat.le_of_ble_eq_true rfl) dX4_read_84 (fun H locs hP hD hS => ?_)
  have hP : va_P D vwCl ([oX4 a_o x_o_innerPlace_2 x_o_innerEnd x_o_serial_5 x_o_issuerPlace_7 x_o_issuerSize_8 x_o_namePlace_10 x_o_nameSize_11 x_o_from_13 x_o_to_15 x_o_publicKey x_o_flags x_o_signature, oX8 a_p0 a_p0_outerEnds a_p0_data y_3.2.1 y_3.2.2.1 y_14.2.1 y_14.2.2.2.2.1 y_14.2.2.2.2.2 y_14.2.2.1 y_14.2.2.2.1, rB q a_p0_data n_p0_data r_p0_data, rI q a_p0_outerEnds 12 y_3.2.2.2.2.2.1]) H := hP
  have hD : va_D A ([oX4 a_o x_o_innerPlace_2 x_o_innerEnd x_o_serial_5 x_o_issuerPlace_7 x_o_issuerSize_8 x_o_namePlace_10 x_o_nameSize_11 x_o_from_13 x_o_to_15 x_o_publicKey x_o_flags x_o_signature, oX8 a_p0 a_p0_outerEnds a_p0_data y_3.2.1 y_3.2.2.1 y_14.2.1 y_14.2.2.2.2.1 y_14.2.2.2.2.2 y_14.2.2.1 y_14.2.2.2.1, rB q a_p0_data n_p0_data r_p0_data, rI q a_p0_outerEnds 12 y_3.2.2.2.2.2.1]) := hD
  refine lv_aload_n hx hb dX4_read_87 rfl (lv_at hl 0 rfl) ?_
  refine lv_aload_n hx hb dX4_read_88 rfl (lv_at hl 1 rfl) ?_
  refine lv_ldc2 (v := (2 : Int64)) hx hb hown (hts _ kw_970) dX4_read_89 ?_
  refine lv_ldc2 (v := (2147483578 : Int64)) hx hb hown (hts _ kw_971) dX4_read_92 ?_
  obtain ⟨y_16, hy_16, hF⟩ := cal_d hF
  refine cf_l C0.1 hP hD hS [1, 2] [0, 3] [0, 2, 3, 1] (wr := [oX4 a_o x_o_innerPlace_2 x_o_innerEnd x_o_serial_5 x_o_issuerPlace_7 x_o_issuerSize_8 x_o_namePlace_10 x_o_nameSize_11 x_o_from_13 x_o_to_15 x_o_publicKey x_o_flags x_o_signature, rI q a_p0_outerEnds 12 y_3.2.2.2.2.2.1]) (w' := [oX4 a_o x_o_innerPlace_2 x_o_innerEnd x_o_serial_5 x_o_issuerPlace_7 x_o_issuerSize_8 x_o_namePlace_10 x_o_nameSize_11 x_o_from_13 x_o_to_15 x_o_publicKey x_o_flags x_o_signature, oX8 a_p0 a_p0_outerEnds a_p0_data y_3.2.1 y_3.2.2.1 y_16.2.1 y_16.2.2.2.2.1 y_16.2.2.2.2.2 y_16.2.2.1 y_16.2.2.2.1, rB q a_p0_data n_p0_data r_p0_data, rI q a_p0_outerEnds 12 y_3.2.2.2.2.2.1]) rfl rfl rfl (by decide) rfl rfl (sn_V (As := [.long (2 : Int64), .long (2147483578 : Int64)]) (rest := [.ref a_o]) (ci := 7) (q0 := 1) C0 (c_sc_readInteger l D q t a_p0 a_p0_outerEnds y_3.2.1 y_3.2.2.1 y_14.2.1 y_14.2.2.2.2.1 y_14.2.2.2.2.2 y_14.2.2.1 y_14.2.2.2.1 a_p0_data n_p0_data r_p0_data (2 : Int64) (2147483578 : Int64) y_16 hy_16) (cwV 2 hts (g_V kw_967 kw_835 kw_836 kw_77 kw_837) rfl rfl rfl hd_X8_readInteger ⟨Nat.le_of_ble_eq_true rfl, Nat.le_of_ble_eq_true rfl⟩) hP hD hS [1, 2] rfl rfl rfl rfl rfl rfl hl (Nat.le_of_ble_eq_true rfl) dX4_read_95) (fun H locs hP hD hS => ?_)
  refine lv_topl (fun x_o_publicKey_17 e_x_o_publicKey_17 => ?_)
  replace hF := bnd_d hF e_x_o_publicKey_17
  refine va_put (D := D) (ci := 4) (v := .long x_o_publicKey_17) (ty := .long) (C := RX4) (T := TX4) (N := 12) hx hb hts iw_X4 tyX4 tyX4_ok nmX4 hown hK hP hD hS 0 rfl rfl 9 (by decide) (hts _ kw_282) (fun _ h9 => h9) rfl (by decide +kernel) rfl rfl (Nat.le_of_ble_eq_true rfl) dX4_read_98 (fun H locs hP hD hS => ?_)
  have hP : va_P D vwCl ([oX4 a_o x_o_innerPlace_2 x_o_innerEnd x_o_serial_5 x_o_issuerPlace_7 x_o_issuerSize_8 x_o_namePlace_10 x_o_nameSize_11 x_o_from_13 x_o_to_15 x_o_publicKey_17 x_o_flags x_o_signature, oX8 a_p0 a_p0_outerEnds a_p0_data y_3.2.1 y_3.2.2.1 y_16.2.1 y_16.2.2.2.2.1 y_16.2.2.2.2.2 y_16.2.2.1 y_16.2.2.2.1, rB q a_p0_data n_p0_data r_p0_data, rI q a_p0_outerEnds 12 y_3.2.2.2.2.2.1]) H := hP
  have hD : va_D A ([oX4 a_o x_o_innerPlace_2 x_o_innerEnd x_o_serial_5 x_o_issuerPlace_7 x_o_issuerSize_8 x_o_namePlace_10 x_o_nameSize_11 x_o_from_13 x_o_to_15 x_o_publicKey_17 x_o_flags x_o_signature, oX8 a_p0 a_p0_outerEnds a_p0_data y_3.2.1 y_3.2.2.1 y_16.2.1 y_16.2.2.2.2.1 y_16.2.2.2.2.2 y_16.2.2.1 y_16.2.2.2.1, rB q a_p0_data n_p0_data r_p0_data, rI q a_p0_outerEnds 12 y_3.2.2.2.2.2.1]) := hD
  refine lv_aload_n hx hb dX4_read_101 rfl (lv_at hl 0 rfl) ?_
  refine lv_aload_n hx hb dX4_read_102 rfl (lv_at hl 1 rfl) ?_
  refine lv_lconst (v := (0 : Int64)) hx hb dX4_read_103 (by decide) ?_
  refine lv_ldc2 (v := (3 : Int64)) hx hb hown (hts _ kw_972) dX4_read_104 ?_
  obtain ⟨y_18, hy_18, hF⟩ := cal_d hF
  refine cf_l C0.1 hP hD hS [1, 2] [0, 3] [0, 2, 3, 1] (wr := [oX4 a_o x_o_innerPlace_2 x_o_innerEnd x_o_serial_5 x_o_issuerPlace_7 x_o_issuerSize_8 x_o_namePlace_10 x_o_nameSize_11 x_o_from_13 x_o_to_15 x_o_publicKey_17 x_o_flags x_o_signature, rI q a_p0_outerEnds 12 y_3.2.2.2.2.2.1]) (w' := [oX4 a_o x_o_innerPlace_2 x_o_innerEnd x_o_serial_5 x_o_issuerPlace_7 x_o_issuerSize_8 x_o_namePlace_10 x_o_nameSize_11 x_o_from_13 x_o_to_15 x_o_publicKey_17 x_o_flags x_o_signature, oX8 a_p0 a_p0_outerEnds a_p0_data y_3.2.1 y_3.2.2.1 y_18.2.1 y_18.2.2.2.2.1 y_18.2.2.2.2.2 y_18.2.2.1 y_18.2.2.2.1, rB q a_p0_data n_p0_data r_p0_data, rI q a_p0_outerEnds 12 y_3.2.2.2.2.2.1]) rfl rfl rfl (by decide) rfl rfl (sn_V (As := [.long (0 : Int64), .long (3 : Int64)]) (rest := [.ref a_o]) (ci := 7) (q0 := 1) C0 (c_sc_readInteger l D q t a_p0 a_p0_outerEnds y_3.2.1 y_3.2.2.1 y_16.2.1 y_16.2.2.2.2.1 y_16.2.2.2.2.2 y_16.2.2.1 y_16.2.2.2.1 a_p0_data n_p0_data r_p0_data (0 : Int64) (3 : Int64) y_18 hy_18) (cwV 2 hts (g_V kw_967 kw_835 kw_836 kw_77 kw_837) rfl rfl rfl hd_X8_readInteger ⟨Nat.le_of_ble_eq_true rfl, Nat.le_of_ble_eq_true rfl⟩) hP hD hS [1, 2] rfl rfl rfl rfl rfl rfl hl (Nat.le_of_ble_eq_true rfl) dX4_read_107) (fun H locs hP hD hS => ?_)
  refine lv_l2i hx hb dX4_read_110 rfl ?_
  refine lv_topi (fun x_o_flags_19 e_x_o_flags_19 => ?_)
  replace hF := bnd_d hF e_x_o_flags_19
  refine va_put (D := D) (ci := 4) (v := .int x_o_flags_19) (ty := .int) (C := RX4) (T := TX4) (N := 12) hx hb hts iw_X4 tyX4 tyX4_ok nmX4 hown hK hP hD hS 0 rfl rfl 10 (by decide) (hts _ kw_285) (fun _ h9 => h9) rfl (by decide +kernel) rfl rfl (Nat.le_of_ble_eq_true rfl) dX4_read_111 (fun H locs hP hD hS => ?_)
  have hP : va_P D vwCl ([oX4 a_o x_o_innerPlace_2 x_o_innerEnd x_o_serial_5 x_o_issuerPlace_7 x_o_issuerSize_8 x_o_namePlace_10 x_o_nameSize_11 x_o_from_13 x_o_to_15 x_o_publicKey_17 x_o_flags_19 x_o_signature, oX8 a_p0 a_p0_outerEnds a_p0_data y_3.2.1 y_3.2.2.1 y_18.2.1 y_18.2.2.2.2.1 y_18.2.2.2.2.2 y_18.2.2.1 y_18.2.2.2.1, rB q a_p0_data n_p0_data r_p0_data, rI q a_p0_outerEnds 12 y_3.2.2.2.2.2.1]) H := hP
  have hD : va_D A ([oX4 a_o x_o_innerPlace_2 x_o_innerEnd x_o_serial_5 x_o_issuerPlace_7 x_o_issuerSize_8 x_o_namePlace_10 x_o_nameSize_11 x_o_from_13 x_o_to_15 x_o_publicKey_17 x_o_flags_19 x_o_signature, oX8 a_p0 a_p0_outerEnds a_p0_data y_3.2.1 y_3.2.2.1 y_18.2.1 y_18.2.2.2.2.1 y_18.2.2.2.2.2 y_18.2.2.1 y_18.2.2.2.1, rB q a_p0_data n_p0_data r_p0_data, rI q a_p0_outerEnds 12 y_3.2.2.2.2.2.1]) := hD
  refine lv_aload_n hx hb dX4_read_114 rfl (lv_at hl 1 rfl) ?_
  obtain ⟨y_20, hy_20, hF⟩ := cal_d hF
  refine cf_v C0.1 hP hD hS [1, 3] [0, 2] [0, 2, 1, 3] (wr := [oX4 a_o x_o_innerPlace_2 x_o_innerEnd x_o_serial_5 x_o_issuerPlace_7 x_o_issuerSize_8 x_o_namePlace_10 x_o_nameSize_11 x_o_from_13 x_o_to_15 x_o_publicKey_17 x_o_flags_19 x_o_signature, rB q a_p0_data n_p0_data r_p0_data]) (w' := [oX4 a_o x_o_innerPlace_2 x_o_innerEnd x_o_serial_5 x_o_issuerPlace_7 x_o_issuerSize_8 x_o_namePlace_10 x_o_nameSize_11 x_o_from_13 x_o_to_15 x_o_publicKey_17 x_o_flags_19 x_o_signature, oX8 a_p0 a_p0_outerEnds a_p0_data y_20.1 y_20.2.1 y_18.2.1 y_20.2.2.2.1 y_20.2.2.2.2 y_20.2.2.1 y_18.2.2.2.1, rB q a_p0_data n_p0_data r_p0_data, rI q a_p0_outerEnds 12 y_3.2.2.2.2.2.1]) rfl rfl rfl (by decide) rfl rfl (sn_V (As := []) (rest := []) (ci := 7) (q0 := 1) C0 (c_sc_close l D q t a_p0 a_p0_data y_3.2.1 y_3.2.2.1 y_18.2.1 y_18.2.2.2.2.1 y_18.2.2.2.2.2 y_18.2.2.1 y_18.2.2.2.1 a_p0_outerEnds y_3.2.2.2.2.2.1  y_20 hy_20) (cwV 0 hts (g_V kw_973 kw_839 kw_840 kw_77 kw_841) rfl rfl rfl hd_X8_close ⟨Nat.le_of_ble_eq_true rfl, Nat.le_of_ble_eq_true rfl⟩) hP hD hS [1, 3] rfl rfl rfl rfl rfl rfl hl (Nat.le_of_ble_eq_true rfl) dX4_read_115) (fun H locs hP hD hS => ?_)
  refine lv_aload_n hx hb dX4_read_118 rfl (lv_at hl 0 rfl) ?_
  refine lv_aload_n hx hb dX4_read_119 rfl (lv_at hl 1 rfl) ?_
  refine va_get (D := D) (ci := 7) (v := .int y_18.2.1) (C := RX8) (T := TX8) (N := 9) hx hb hts iw_X8 hown hK hP 1 rfl rfl 4 (by decide) (hts _ kw_198) (fun _ h9 => h9) rfl dX4_read_120 ?_
  refine lv_topi (fun x_o_innerEnd_21 e_x_o_innerEnd_21 => ?_)
  replace hF := bnd_d hF e_x_o_innerEnd_21
  refine va_put (D := D) (ci := 4) (v := .int x_o_innerEnd_21) (ty := .int) (C := RX4) (T := TX4) (N := 12) hx hb hts iw_X4 tyX4 tyX4_ok nmX4 hown hK hP hD hS 0 rfl rfl 1 (by decide) (hts _ kw_266) (fun _ h9 => h9) rfl (by decide +kernel) rfl rfl (Nat.le_of_ble_eq_true rfl) dX4_read_123 (fun H locs hP hD hS => ?_)
  have hP : va_P D vwCl ([oX4 a_o x_o_innerPlace_2 x_o_innerEnd_21 x_o_serial_5 x_o_issuerPlace_7 x_o_issuerSize_8 x_o_namePlace_10 x_o_nameSize_11 x_o_from_13 x_o_to_15 x_o_publicKey_17 x_o_flags_19 x_o_signature, oX8 a_p0 a_p0_outerEnds a_p0_data y_20.1 y_20.2.1 y_18.2.1 y_20.2.2.2.1 y_20.2.2.2.2 y_20.2.2.1 y_18.2.2.2.1, rB q a_p0_data n_p0_data r_p0_data, rI q a_p0_outerEnds 12 y_3.2.2.2.2.2.1]) H := hP
  have hD : va_D A ([oX4 a_o x_o_innerPlace_2 x_o_innerEnd_21 x_o_serial_5 x_o_issuerPlace_7 x_o_issuerSize_8 x_o_namePlace_10 x_o_nameSize_11 x_o_from_13 x_o_to_15 x_o_publicKey_17 x_o_flags_19 x_o_signature, oX8 a_p0 a_p0_outerEnds a_p0_data y_20.1 y_20.2.1 y_18.2.1 y_20.2.2.2.1 y_20.2.2.2.2 y_20.2.2.1 y_18.2.2.2.1, rB q a_p0_data n_p0_data r_p0_data, rI q a_p0_outerEnds 12 y_3.2.2.2.2.2.1]) := hD
  refine lv_aload_n hx hb dX4_read_126 rfl (lv_at hl 0 rfl) ?_
  refine lv_aload_n hx hb dX4_read_127 rfl (lv_at hl 1 rfl) ?_
  obtain ⟨y_22, hy_22, hF⟩ := cal_d hF
  refine cf_l C0.1 hP hD hS [1, 2] [0, 3] [0, 2, 3, 1] (wr := [oX4 a_o x_o_innerPlace_2 x_o_innerEnd_21 x_o_serial_5 x_o_issuerPlace_7 x_o_issuerSize_8 x_o_namePlace_10 x_o_nameSize_11 x_o_from_13 x_o_to_15 x_o_publicKey_17 x_o_flags_19 x_o_signature, rI q a_p0_outerEnds 12 y_3.2.2.2.2.2.1]) (w' := [oX4 a_o x_o_innerPlace_2 x_o_innerEnd_21 x_o_serial_5 x_o_issuerPlace_7 x_o_issuerSize_8 x_o_namePlace_10 x_o_nameSize_11 x_o_from_13 x_o_to_15 x_o_publicKey_17 x_o_flags_19 x_o_signature, oX8 a_p0 a_p0_outerEnds a_p0_data y_20.1 y_20.2.1 y_22.2.1 y_22.2.2.2.2.1 y_22.2.2.2.2.2 y_22.2.2.1 y_22.2.2.2.1, rB q a_p0_data n_p0_data r_p0_data, rI q a_p0_outerEnds 12 y_3.2.2.2.2.2.1]) rfl rfl rfl (by decide) rfl rfl (sn_V (As := []) (rest := [.ref a_o]) (ci := 7) (q0 := 1) C0 (c_sc_readSignature l D q t a_p0 a_p0_outerEnds y_20.1 y_20.2.1 y_18.2.1 y_20.2.2.2.1 y_20.2.2.2.2 y_20.2.2.1 y_18.2.2.2.1 a_p0_data n_p0_data r_p0_data  y_22 hy_22) (cwV 0 hts (g_V kw_974 kw_954 kw_955 kw_77 kw_956) rfl rfl rfl hd_X8_readSignature ⟨Nat.le_of_ble_eq_true rfl, Nat.le_of_ble_eq_true rfl⟩) hP hD hS [1, 2] rfl rfl rfl rfl rfl rfl hl (Nat.le_of_ble_eq_true rfl) dX4_read_128) (fun H locs hP hD hS => ?_)
  refine lv_topl (fun x_o_signature_23 e_x_o_signature_23 => ?_)
  replace hF := bnd_d hF e_x_o_signature_23
  refine va_put (D := D) (ci := 4) (v := .long x_o_signature_23) (ty := .long) (C := RX4) (T := TX4) (N := 12) hx hb hts iw_X4 tyX4 tyX4_ok nmX4 hown hK hP hD hS 0 rfl rfl 11 (by decide) (hts _ kw_287) (fun _ h9 => h9) rfl (by decide +kernel) rfl rfl (Nat.le_of_ble_eq_true rfl) dX4_read_131 (fun H locs hP hD hS => ?_)
  have hP : va_P D vwCl ([oX4 a_o x_o_innerPlace_2 x_o_innerEnd_21 x_o_serial_5 x_o_issuerPlace_7 x_o_issuerSize_8 x_o_namePlace_10 x_o_nameSize_11 x_o_from_13 x_o_to_15 x_o_publicKey_17 x_o_flags_19 x_o_signature_23, oX8 a_p0 a_p0_outerEnds a_p0_data y_20.1 y_20.2.1 y_22.2.1 y_22.2.2.2.2.1 y_22.2.2.2.2.2 y_22.2.2.1 y_22.2.2.2.1, rB q a_p0_data n_p0_data r_p0_data, rI q a_p0_outerEnds 12 y_3.2.2.2.2.2.1]) H := hP
  have hD : va_D A ([oX4 a_o x_o_innerPlace_2 x_o_innerEnd_21 x_o_serial_5 x_o_issuerPlace_7 x_o_issuerSize_8 x_o_namePlace_10 x_o_nameSize_11 x_o_from_13 x_o_to_15 x_o_publicKey_17 x_o_flags_19 x_o_signature_23, oX8 a_p0 a_p0_outerEnds a_p0_data y_20.1 y_20.2.1 y_22.2.1 y_22.2.2.2.2.1 y_22.2.2.2.2.2 y_22.2.2.1 y_22.2.2.2.1, rB q a_p0_data n_p0_data r_p0_data, rI q a_p0_outerEnds 12 y_3.2.2.2.2.2.1]) := hD
  refine lv_aload_n hx hb dX4_read_134 rfl (lv_at hl 1 rfl) ?_
  obtain ⟨y_24, hy_24, hF⟩ := cal_d hF
  refine cf_v C0.1 hP hD hS [1, 3] [0, 2] [0, 2, 1, 3] (wr := [oX4 a_o x_o_innerPlace_2 x_o_innerEnd_21 x_o_serial_5 x_o_issuerPlace_7 x_o_issuerSize_8 x_o_namePlace_10 x_o_nameSize_11 x_o_from_13 x_o_to_15 x_o_publicKey_17 x_o_flags_19 x_o_signature_23, rB q a_p0_data n_p0_data r_p0_data]) (w' := [oX4 a_o x_o_innerPlace_2 x_o_innerEnd_21 x_o_serial_5 x_o_issuerPlace_7 x_o_issuerSize_8 x_o_namePlace_10 x_o_nameSize_11 x_o_from_13 x_o_to_15 x_o_publicKey_17 x_o_flags_19 x_o_signature_23, oX8 a_p0 a_p0_outerEnds a_p0_data y_24.1 y_24.2.1 y_22.2.1 y_24.2.2.2.1 y_24.2.2.2.2 y_24.2.2.1 y_22.2.2.2.1, rB q a_p0_data n_p0_data r_p0_data, rI q a_p0_outerEnds 12 y_3.2.2.2.2.2.1]) rfl rfl rfl (by decide) rfl rfl (sn_V (As := []) (rest := []) (ci := 7) (q0 := 1) C0 (c_sc_close l D q t a_p0 a_p0_data y_20.1 y_20.2.1 y_22.2.1 y_22.2.2.2.2.1 y_22.2.2.2.2.2 y_22.2.2.1 y_22.2.2.2.1 a_p0_outerEnds y_3.2.2.2.2.2.1  y_24 hy_24) (cwV 0 hts (g_V kw_973 kw_839 kw_840 kw_77 kw_841) rfl rfl rfl hd_X8_close ⟨Nat.le_of_ble_eq_true rfl, Nat.le_of_ble_eq_true rfl⟩) hP hD hS [1, 3] rfl rfl rfl rfl rfl rfl hl (Nat.le_of_ble_eq_true rfl) dX4_read_135) (fun H locs hP hD hS => ?_)
  have hy9 := (Option.some.inj hF).symm
  subst hy9
  exact rt_v C0.1 hP hD hS dX4_read_138
set_option maxHeartbeats 4000000 in
set_option maxRecDepth 100000 in
theorem c_an_readCert (l : Launch) (D : va_G) (q : Nat → ClassId) (t : Nat) (a_o : Nat) (a_o_ids : Nat) (a_o_states : Nat) (a_o_since : Nat) (a_o_reasons : Nat) (a_o_from : Nat) (a_o_next : Nat) (x_o_status : Int32) (x_o_hasCert : Int32) (x_o_bodyPlace : Int32) (x_o_bodyEnd : Int32) (x_o_signature : Int64) (x_o_isByName : Int32) (x_o_tellerPlace : Int32) (x_o_tellerSize : Int32) (x_o_tellerHash : Int64) (x_o_noncePlace : Int32) (x_o_nonceSize : Int32) (a_o_cert : Nat) (x_o_cert_innerPlace : Int32) (x_o_cert_innerEnd : Int32) (x_o_cert_serial : Int32) (x_o_cert_issuerPlace : Int32) (x_o_cert_issuerSize : Int32) (x_o_cert_namePlace : Int32) (x_o_cert_nameSize : Int32) (x_o_cert_from : Int64) (x_o_cert_to : Int64) (x_o_cert_publicKey : Int64) (x_o_cert_flags : Int32) (x_o_cert_signature : Int64) (a_p0 : Nat) (x_p0_depth : Int32) (x_p0_end : Int32) (x_p0_at : Int32) (x_p0_place : Int32) (x_p0_size : Int32) (x_p0_fault : Int32) (x_p0_items : Int32) (a_p0_data : Nat) (n_p0_data : Nat) (r_p0_data : (Nat → Int32)) (a_p0_outerEnds : Nat) (r_p0_outerEnds : (Nat → Int32))  (y : Int32 × Int64 × Int32 × Int32 × Int32 × Int32 × Int32 × Int32 × Int64 × Int32 × Int64 × Int64 × Int32 × Int32 × Int32 × Int32 × Int32 × Int32 × (Nat → Int32) × Int32 × Int32) (hF : f_an_readCert x_o_cert_flags x_o_cert_from x_o_cert_innerEnd x_o_cert_innerPlace x_o_cert_issuerPlace x_o_cert_issuerSize x_o_cert_namePlace x_o_cert_nameSize x_o_cert_publicKey x_o_cert_serial x_o_cert_signature x_o_cert_to x_o_hasCert x_p0_at r_p0_data x_p0_depth x_p0_end x_p0_fault x_p0_items r_p0_outerEnds x_p0_place x_p0_size n_p0_data = some y)  : cu l yX0_readCert (vs yX0_readCert cX0_readCert 2 none) ({ frames := 4, cells := 0, slots := 0, locals := 96 }) D q t [.ref a_o, .ref a_p0] [oX0 a_o a_o_ids a_o_states a_o_since a_o_reasons a_o_from a_o_next a_o_cert x_o_status x_o_hasCert x_o_bodyPlace x_o_bodyEnd x_o_signature x_o_isByName x_o_tellerPlace x_o_tellerSize x_o_tellerHash x_o_noncePlace x_o_nonceSize, oX4 a_o_cert x_o_cert_innerPlace x_o_cert_innerEnd x_o_cert_serial x_o_cert_issuerPlace x_o_cert_issuerSize x_o_cert_namePlace x_o_cert_nameSize x_o_cert_from x_o_cert_to x_o_cert_publicKey x_o_cert_flags x_o_cert_signature, oX8 a_p0 a_p0_outerEnds a_p0_data x_p0_depth x_p0_end x_p0_at x_p0_place x_p0_size x_p0_fault x_p0_items, rB q a_p0_data n_p0_data r_p0_data, rI q a_p0_outerEnds 12 r_p0_outerEnds] (qV D q [oX0 a_o a_o_ids a_o_states a_o_since a_o_reasons a_o_from a_o_next a_o_cert x_o_status y.2.2.2.2.2.2.2.2.2.2.2.2.1 x_o_bodyPlace x_o_bodyEnd x_o_signature x_o_isByName x_o_tellerPlace x_o_tellerSize x_o_tellerHash x_o_noncePlace x_o_nonceSize, oX4 a_o_cert y.2.2.2.1 y.2.2.1 y.2.2.2.2.2.2.2.2.2.1 y.2.2.2.2.1 y.2.2.2.2.2.1 y.2.2.2.2.2.2.1 y.2.2.2.2.2.2.2.1 y.2.1 y.2.2.2.2.2.2.2.2.2.2.2.1 y.2.2.2.2.2.2.2.2.1 y.1 y.2.2.2.2.2.2.2.2.2.2.1, oX8 a_p0 a_p0_outerEnds a_p0_data y.2.2.2.2.2.2.2.2.2.2.2.2.2.2.1 y.2.2.2.2.2.2.2.2.2.2.2.2.2.2.2.1 y.2.2.2.2.2.2.2.2.2.2.2.2.2.1 y.2.2.2.2.2.2.2.2.2.2.2.2.2.2.2.2.2.2.2.1 y.2.2.2.2.2.2.2.2.2.2.2.2.2.2.2.2.2.2.2.2 y.2.2.2.2.2.2.2.2.2.2.2.2.2.2.2.2.1 y.2.2.2.2.2.2.2.2.2.2.2.2.2.2.2.2.2.1, rB q a_p0_data n_p0_data r_p0_data, rI q a_p0_outerEnds 12 y.2.2.2.2.2.2.2.2.2.2.2.2.2.2.2.2.2.2.1]) := by
  refine cu_of (cc := cX0_readCert) (nL := 2) (ret := none) (by decide) (Nat.le_of_ble_eq_true rfl) (fun {p e s m args below meth c A} C0 H locs ls hP hD hS hl => ?_)
  have C0 : cy p s m args meth c cX0_readCert none 2 RX0 D q t A := C0
  obtain ⟨⟨hx, hb, hr, hml, hown, hts, hlocks, hK, hA⟩, hG⟩ := id C0
  have hl : lv_has ls 2 [(0, .ref a_o), (1, .ref a_p0)] := hl
  unfold f_an_readCert at hF
  refine lv_aload_n hx hb dX0_readCert_0 rfl (lv_at hl 0 rfl) ?_
  refine lv_aload_n hx hb dX0_readCert_1 rfl (lv_at hl 1 rfl) ?_
  obtain ⟨y_1, hy_1, hF⟩ := cal_d hF
  refine cf_i C0.1 hP hD hS [2] [0, 1, 3, 4] [0, 1, 4, 2, 3] (wr := [oX0 a_o a_o_ids a_o_states a_o_since a_o_reasons a_o_from a_o_next a_o_cert x_o_status x_o_hasCert x_o_bodyPlace x_o_bodyEnd x_o_signature x_o_isByName x_o_tellerPlace x_o_tellerSize x_o_tellerHash x_o_noncePlace x_o_nonceSize, oX4 a_o_cert x_o_cert_innerPlace x_o_cert_innerEnd x_o_cert_serial x_o_cert_issuerPlace x_o_cert_issuerSize x_o_cert_namePlace x_o_cert_nameSize x_o_cert_from x_o_cert_to x_o_cert_publicKey x_o_cert_flags x_o_cert_signature, rB q a_p0_data n_p0_data r_p0_data, rI q a_p0_outerEnds 12 r_p0_outerEnds]) (w' := [oX0 a_o a_o_ids a_o_states a_o_since a_o_reasons a_o_from a_o_next a_o_cert x_o_status x_o_hasCert x_o_bodyPlace x_o_bodyEnd x_o_signature x_o_isByName x_o_tellerPlace x_o_tellerSize x_o_tellerHash x_o_noncePlace x_o_nonceSize, oX4 a_o_cert x_o_cert_innerPlace x_o_cert_innerEnd x_o_cert_serial x_o_cert_issuerPlace x_o_cert_issuerSize x_o_cert_namePlace x_o_cert_nameSize x_o_cert_from x_o_cert_to x_o_cert_publicKey x_o_cert_flags x_o_cert_signature, oX8 a_p0 a_p0_outerEnds a_p0_data x_p0_depth x_p0_end x_p0_at x_p0_place x_p0_size x_p0_fault x_p0_items, rB q a_p0_data n_p0_data r_p0_data, rI q a_p0_outerEnds 12 r_p0_outerEnds]) rfl rfl rfl (by decide) rfl rfl (sn_V (As := []) (rest := [.ref a_o]) (ci := 7) (q0 := 2) C0 (c_sc_hasMore l D q t a_p0 a_p0_outerEnds a_p0_data x_p0_depth x_p0_end x_p0_at x_p0_place x_p0_size x_p0_fault x_p0_items  y_1 hy_1) (cwV 0 hts (g_V kw_937 kw_817 kw_818 kw_77 kw_819) rfl rfl rfl hd_X8_hasMore ⟨Nat.le_of_ble_eq_true rfl, Nat.le_of_ble_eq_true rfl⟩) hP hD hS [2] rfl rfl rfl rfl rfl rfl hl (Nat.le_of_ble_eq_true rfl) dX0_readCert_2) (fun H locs hP hD hS => ?_)
  obtain ⟨z_2, hF⟩ := chk_d hF
  refine va_put (D := D) (ci := 0) (v := .int y_1) (ty := .boolean) (C := RX0) (T := TX0) (N := 18) hx hb hts iw_X0 tyX0 tyX0_ok nmX0 hown hK hP hD hS 0 rfl rfl 8 (by decide) (hts _ kw_331) (fun _ h9 => h9) rfl (by decide +kernel) z_2.1 z_2.2 (Nat.le_of_ble_eq_true rfl) dX0_readCert_5 (fun H locs hP hD hS => ?_)
  have hP : va_P D vwCl ([oX0 a_o a_o_ids a_o_states a_o_since a_o_reasons a_o_from a_o_next a_o_cert x_o_status y_1 x_o_bodyPlace x_o_bodyEnd x_o_signature x_o_isByName x_o_tellerPlace x_o_tellerSize x_o_tellerHash x_o_noncePlace x_o_nonceSize, oX4 a_o_cert x_o_cert_innerPlace x_o_cert_innerEnd x_o_cert_serial x_o_cert_issuerPlace x_o_cert_issuerSize x_o_cert_namePlace x_o_cert_nameSize x_o_cert_from x_o_cert_to x_o_cert_publicKey x_o_cert_flags x_o_cert_signature, oX8 a_p0 a_p0_outerEnds a_p0_data x_p0_depth x_p0_end x_p0_at x_p0_place x_p0_size x_p0_fault x_p0_items, rB q a_p0_data n_p0_data r_p0_data, rI q a_p0_outerEnds 12 r_p0_outerEnds]) H := hP
  have hD : va_D A ([oX0 a_o a_o_ids a_o_states a_o_since a_o_reasons a_o_from a_o_next a_o_cert x_o_status y_1 x_o_bodyPlace x_o_bodyEnd x_o_signature x_o_isByName x_o_tellerPlace x_o_tellerSize x_o_tellerHash x_o_noncePlace x_o_nonceSize, oX4 a_o_cert x_o_cert_innerPlace x_o_cert_innerEnd x_o_cert_serial x_o_cert_issuerPlace x_o_cert_issuerSize x_o_cert_namePlace x_o_cert_nameSize x_o_cert_from x_o_cert_to x_o_cert_publicKey x_o_cert_flags x_o_cert_signature, oX8 a_p0 a_p0_outerEnds a_p0_data x_p0_depth x_p0_end x_p0_at x_p0_place x_p0_size x_p0_fault x_p0_items, rB q a_p0_data n_p0_data r_p0_data, rI q a_p0_outerEnds 12 r_p0_outerEnds]) := hD
  refine lv_aload_n hx hb dX0_readCert_8 rfl (lv_at hl 0 rfl) ?_
  refine va_get (D := D) (ci := 0) (v := .int y_1) (C := RX0) (T := TX0) (N := 18) hx hb hts iw_X0 hown hK hP 0 rfl rfl 8 (by decide) (hts _ kw_331) (fun _ h9 => h9) rfl dX0_readCert_9 ?_
  refine lv_if_eq (tgt := 34) hx hb dX0_readCert_12 (by decide) (fun c_3 => ?_) (fun c_3 => ?_)
  · replace hF := ite_t hF c_3
    have hy9 := (Option.some.inj hF).symm
    subst hy9
    exact rt_v C0.1 hP hD hS dX0_readCert_34
  · replace hF := ite_f hF c_3
    refine lv_aload_n hx hb dX0_readCert_15 rfl (lv_at hl 1 rfl) ?_
    refine lv_sipush (v := (160 : Int32)) hx hb dX0_readCert_16 (by decide) ?_
    obtain ⟨y_4, hy_4, hF⟩ := cal_d hF
    refine cf_v C0.1 hP hD hS [2, 3, 4] [0, 1] [0, 1, 2, 3, 4] (wr := [oX0 a_o a_o_ids a_o_states a_o_since a_o_reasons a_o_from a_o_next a_o_cert x_o_status y_1 x_o_bodyPlace x_o_bodyEnd x_o_signature x_o_isByName x_o_tellerPlace x_o_tellerSize x_o_tellerHash x_o_noncePlace x_o_nonceSize, oX4 a_o_cert x_o_cert_innerPlace x_o_cert_innerEnd x_o_cert_serial x_o_cert_issuerPlace x_o_cert_issuerSize x_o_cert_namePlace x_o_cert_nameSize x_o_cert_from x_o_cert_to x_o_cert_publicKey x_o_cert_flags x_o_cert_signature]) (w' := [oX0 a_o a_o_ids a_o_states a_o_since a_o_reasons a_o_from a_o_next a_o_cert x_o_status y_1 x_o_bodyPlace x_o_bodyEnd x_o_signature x_o_isByName x_o_tellerPlace x_o_tellerSize x_o_tellerHash x_o_noncePlace x_o_nonceSize, oX4 a_o_cert x_o_cert_innerPlace x_o_cert_innerEnd x_o_cert_serial x_o_cert_issuerPlace x_o_cert_issuerSize x_o_cert_namePlace x_o_cert_nameSize x_o_cert_from x_o_cert_to x_o_cert_publicKey x_o_cert_flags x_o_cert_signature, oX8 a_p0 a_p0_outerEnds a_p0_data y_4.2.1 y_4.2.2.1 y_4.1 y_4.2.2.2.2.2.2.1 y_4.2.2.2.2.2.2.2 y_4.2.2.2.1 y_4.2.2.2.2.1, rB q a_p0_data n_p0_data r_p0_data, rI q a_p0_outerEnds 12 y_4.2.2.2.2.2.1]) rfl rfl rfl (by decide) rfl rfl (sn_V (As := [.int (160 : Int32)]) (rest := []) (ci := 7) (q0 := 2) C0 (c_sc_open l D q t a_p0 x_p0_depth x_p0_end x_p0_at x_p0_place x_p0_size x_p0_fault x_p0_items a_p0_data n_p0_data r_p0_data a_p0_outerEnds r_p0_outerEnds (160 : Int32) y_4 hy_4) (cwV 1 hts (g_V kw_904 kw_797 kw_798 kw_77 kw_799) rfl rfl rfl hd_X8_open ⟨Nat.le_of_ble_eq_true rfl, Nat.le_of_ble_eq_true rfl⟩) hP hD hS [2, 3, 4] rfl rfl rfl rfl rfl rfl hl (Nat.le_of_ble_eq_true rfl) dX0_readCert_19) (fun H locs hP hD hS => ?_)
    refine lv_aload_n hx hb dX0_readCert_22 rfl (lv_at hl 0 rfl) ?_
    refine va_get (D := D) (ci := 0) (v := .ref a_o_cert) (C := RX0) (T := TX0) (N := 18) hx hb hts iw_X0 hown hK hP 0 rfl rfl 6 (by decide) (hts _ kw_327) (fun _ h9 => h9) rfl dX0_readCert_23 ?_
    refine lv_aload_n hx hb dX0_readCert_26 rfl (lv_at hl 1 rfl) ?_
    obtain ⟨y_5, hy_5, hF⟩ := cal_d hF
    refine cf_v C0.1 hP hD hS [1, 2, 3, 4] [0] [0, 1, 2, 3, 4] (wr := [oX0 a_o a_o_ids a_o_states a_o_since a_o_reasons a_o_from a_o_next a_o_cert x_o_status y_1 x_o_bodyPlace x_o_bodyEnd x_o_signature x_o_isByName x_o_tellerPlace x_o_tellerSize x_o_tellerHash x_o_noncePlace x_o_nonceSize]) (w' := [oX0 a_o a_o_ids a_o_states a_o_since a_o_reasons a_o_from a_o_next a_o_cert x_o_status y_1 x_o_bodyPlace x_o_bodyEnd x_o_signature x_o_isByName x_o_tellerPlace x_o_tellerSize x_o_tellerHash x_o_noncePlace x_o_nonceSize, oX4 a_o_cert y_5.2.2.2.1 y_5.2.2.1 y_5.2.2.2.2.2.2.2.2.2.1 y_5.2.2.2.2.1 y_5.2.2.2.2.2.1 y_5.2.2.2.2.2.2.1 y_5.2.2.2.2.2.2.2.1 y_5.2.1 y_5.2.2.2.2.2.2.2.2.2.2.2.1 y_5.2.2.2.2.2.2.2.2.1 y_5.1 y_5.2.2.2.2.2.2.2.2.2.2.1, oX8 a_p0 a_p0_outerEnds a_p0_data y_5.2.2.2.2.2.2.2.2.2.2.2.2.2.1 y_5.2.2.2.2.2.2.2.2.2.2.2.2.2.2.1 y_5.2.2.2.2.2.2.2.2.2.2.2.2.1 y_5.2.2.2.2.2.2.2.2.2.2.2.2.2.2.2.2.2.2.1 y_5.2.2.2.2.2.2.2.2.2.2.2.2.2.2.2.2.2.2.2 y_5.2.2.2.2.2.2.2.2.2.2.2.2.2.2.2.1 y_5.2.2.2.2.2.2.2.2.2.2.2.2.2.2.2.2.1, rB q a_p0_data n_p0_data r_p0_data, rI q a_p0_outerEnds 12 y_5.2.2.2.2.2.2.2.2.2.2.2.2.2.2.2.2.2.1]) rfl rfl rfl (by decide) rfl rfl (sn_V (As := [.ref a_p0]) (rest := []) (ci := 4) (q0 := 1) C0 (c_ce_read l D q t a_o_cert x_o_cert_innerPlace x_o_cert_innerEnd x_o_cert_serial x_o_cert_issuerPlace x_o_cert_issuerSize x_o_cert_namePlace x_o_cert_nameSize x_o_cert_from x_o_cert_to x_o_cert_publicKey x_o_cert_flags x_o_cert_signature a_p0 y_4.2.1 y_4.2.2.1 y_4.1 y_4.2.2.2.2.2.2.1 y_4.2.2.2.2.2.2.2 y_4.2.2.2.1 y_4.2.2.2.2.1 a_p0_data n_p0_data r_p0_data a_p0_outerEnds y_4.2.2.2.2.2.1  y_5 hy_5) (cwV 1 hts (g_V kw_961 kw_962 kw_963 kw_80 kw_964) rfl rfl rfl hd_X4_read ⟨Nat.le_of_ble_eq_true rfl, Nat.le_of_ble_eq_true rfl⟩) hP hD hS [1, 2, 3, 4] rfl rfl rfl rfl rfl rfl hl (Nat.le_of_ble_eq_true rfl) dX0_readCert_27) (fun H locs hP hD hS => ?_)
    refine lv_aload_n hx hb dX0_readCert_30 rfl (lv_at hl 1 rfl) ?_
    obtain ⟨y_6, hy_6, hF⟩ := cal_d hF
    refine cf_v C0.1 hP hD hS [2, 4] [0, 1, 3] [0, 1, 3, 2, 4] (wr := [oX0 a_o a_o_ids a_o_states a_o_since a_o_reasons a_o_from a_o_next a_o_cert x_o_status y_1 x_o_bodyPlace x_o_bodyEnd x_o_signature x_o_isByName x_o_tellerPlace x_o_tellerSize x_o_tellerHash x_o_noncePlace x_o_nonceSize, oX4 a_o_cert y_5.2.2.2.1 y_5.2.2.1 y_5.2.2.2.2.2.2.2.2.2.1 y_5.2.2.2.2.1 y_5.2.2.2.2.2.1 y_5.2.2.2.2.2.2.1 y_5.2.2.2.2.2.2.2.1 y_5.2.1 y_5.2.2.2.2.2.2.2.2.2.2.2.1 y_5.2.2.2.2.2.2.2.2.1 y_5.1 y_5.2.2.2.2.2.2.2.2.2.2.1, rB q a_p0_data n_p0_data r_p0_data]) (w' := [oX0 a_o a_o_ids a_o_states a_o_since a_o_reasons a_o_from a_o_next a_o_cert x_o_status y_1 x_o_bodyPlace x_o_bodyEnd x_o_signature x_o_isByName x_o_tellerPlace x_o_tellerSize x_o_tellerHash x_o_noncePlace x_o_nonceSize, oX4 a_o_cert y_5.2.2.2.1 y_5.2.2.1 y_5.2.2.2.2.2.2.2.2.2.1 y_5.2.2.2.2.1 y_5.2.2.2.2.2.1 y_5.2.2.2.2.2.2.1 y_5.2.2.2.2.2.2.2.1 y_5.2.1 y_5.2.2.2.2.2.2.2.2.2.2.2.1 y_5.2.2.2.2.2.2.2.2.1 y_5.1 y_5.2.2.2.2.2.2.2.2.2.2.1, oX8 a_p0 a_p0_outerEnds a_p0_data y_6.1 y_6.2.1 y_5.2.2.2.2.2.2.2.2.2.2.2.2.1 y_6.2.2.2.1 y_6.2.2.2.2 y_6.2.2.1 y_5.2.2.2.2.2.2.2.2.2.2.2.2.2.2.2.2.1, rB q a_p0_data n_p0_data r_p0_data, rI q a_p0_outerEnds 12 y_5.2.2.2.2.2.2.2.2.2.2.2.2.2.2.2.2.2.1]) rfl rfl rfl (by decide) rfl rfl (sn_V (As := []) (rest := []) (ci := 7) (q0 := 2) C0 (c_sc_close l D q t a_p0 a_p0_data y_5.2.2.2.2.2.2.2.2.2.2.2.2.2.1 y_5.2.2.2.2.2.2.2.2.2.2.2.2.2.2.1 y_5.2.2.2.2.2.2.2.2.2.2.2.2.1 y_5.2.2.2.2.2.2.2.2.2.2.2.2.2.2.2.2.2.2.1 y_5.2.2.2.2.2.2.2.2.2.2.2.2.2.2.2.2.2.2.2 y_5.2.2.2.2.2.2.2.2.2.2.2.2.2.2.2.1 y_5.2.2.2.2.2.2.2.2.2.2.2.2.2.2.2.2.1 a_p0_outerEnds y_5.2.2.2.2.2.2.2.2.2.2.2.2.2.2.2.2.2.1  y_6 hy_6) (cwV 0 hts (g_V kw_920 kw_839 kw_840 kw_77 kw_841) rfl rfl rfl hd_X8_close ⟨Nat.le_of_ble_eq_true rfl, Nat.le_of_ble_eq_true rfl⟩) hP hD hS [2, 4] rfl rfl rfl rfl rfl rfl hl (Nat.le_of_ble_eq_true rfl) dX0_readCert_31) (fun H locs hP hD hS => ?_)
    have hy9 := (Option.some.inj hF).symm
    subst hy9
    exact rt_v C0.1 hP hD hS dX0_readCert_34
set_option maxHeartbeats 4000000 in
set_option maxRecDepth 100000 in
theorem c_sc_readCode (l : Launch) (D : va_G) (q : Nat → ClassId) (t : Nat) (a_o : Nat) (a_o_outerEnds : Nat) (x_o_depth : Int32) (x_o_end : Int32) (x_o_at : Int32) (x_o_place : Int32) (x_o_size : Int32) (x_o_fault : Int32) (x_o_items : Int32) (a_o_data : Nat) (n_o_data : Nat) (r_o_data : (Nat → Int32))  (y : Int32 × Int32 × Int32 × Int32 × Int32 × Int32) (hF : f_sc_readCode x_o_at r_o_data x_o_end x_o_fault x_o_items x_o_place x_o_size n_o_data = some y)  : cu l yX8_readCode (vs yX8_readCode cX8_readCode 2 (some .int)) ({ frames := 2, cells := 0, slots := 0, locals := 48 }) D q t [.ref a_o] [oX8 a_o a_o_outerEnds a_o_data x_o_depth x_o_end x_o_at x_o_place x_o_size x_o_fault x_o_items, rB q a_o_data n_o_data r_o_data] (qI D q y.1 [oX8 a_o a_o_outerEnds a_o_data x_o_depth x_o_end y.2.1 y.2.2.2.2.1 y.2.2.2.2.2 y.2.2.1 y.2.2.2.1, rB q a_o_data n_o_data r_o_data]) := by
  refine cu_of (cc := cX8_readCode) (nL := 2) (ret := (some .int)) (by decide) (Nat.le_of_ble_eq_true rfl) (fun {p e s m args below meth c A} C0 H locs ls hP hD hS hl => ?_)
  have C0 : cy p s m args meth c cX8_readCode (some .int) 2 RX8 D q t A := C0
  obtain ⟨⟨hx, hb, hr, hml, hown, hts, hlocks, hK, hA⟩, hG⟩ := id C0
  have hl : lv_has ls 2 [(0, .ref a_o)] := hl
  unfold f_sc_readCode at hF
  refine lv_aload_n hx hb dX8_readCode_0 rfl (lv_at hl 0 rfl) ?_
  refine lv_bipush (v := (10 : Int32)) hx hb dX8_readCode_1 (by decide) ?_
  refine lv_iconst (v := (1 : Int32)) hx hb dX8_readCode_3 (by decide) ?_
  refine lv_iconst (v := (1 : Int32)) hx hb dX8_readCode_4 (by decide) ?_
  obtain ⟨y_1, hy_1, hF⟩ := cal_d hF
  refine cf_i C0.1 hP hD hS [0, 1] [] [0, 1] (wr := []) (w' := [oX8 a_o a_o_outerEnds a_o_data x_o_depth x_o_end y_1.2.1 y_1.2.2.2.2.1 y_1.2.2.2.2.2 y_1.2.2.1 y_1.2.2.2.1, rB q a_o_data n_o_data r_o_data]) rfl rfl rfl (by decide) rfl rfl (sn_V (As := [.int (10 : Int32), .int (1 : Int32), .int (1 : Int32)]) (rest := []) (ci := 7) (q0 := 0) C0 (c_sc_enter l D q t a_o a_o_outerEnds x_o_depth x_o_end x_o_at x_o_place x_o_size x_o_fault x_o_items a_o_data n_o_data r_o_data (10 : Int32) (1 : Int32) (1 : Int32) y_1 hy_1) (cwV 3 hts (g_V kw_800 kw_801 kw_802 kw_77 kw_803) rfl rfl rfl hd_X8_enter ⟨Nat.le_of_ble_eq_true rfl, Nat.le_of_ble_eq_true rfl⟩) hP hD hS [0, 1] rfl rfl rfl rfl rfl rfl hl (Nat.le_of_ble_eq_true rfl) dX8_readCode_5) (fun H locs hP hD hS => ?_)
  refine lv_if_ne (tgt := 13) hx hb dX8_readCode_8 (by decide) (fun c_2 => ?_) (fun c_2 => ?_)
  · replace hF := ite_f hF c_2
    refine lv_aload_n hx hb dX8_readCode_13 rfl (lv_at hl 0 rfl) ?_
    obtain ⟨y_3, hy_3, hF⟩ := cal_d hF
    refine cf_l C0.1 hP hD hS [0, 1] [] [0, 1] (wr := []) (w' := [oX8 a_o a_o_outerEnds a_o_data x_o_depth x_o_end y_3.2 y_1.2.2.2.2.1 y_1.2.2.2.2.2 y_1.2.2.1 y_1.2.2.2.1, rB q a_o_data n_o_data r_o_data]) rfl rfl rfl (by decide) rfl rfl (sn_V (As := []) (rest := []) (ci := 7) (q0 := 0) C0 (c_sc_number l D q t a_o a_o_outerEnds x_o_depth x_o_end y_1.2.1 y_1.2.2.2.2.1 y_1.2.2.2.2.2 y_1.2.2.1 y_1.2.2.2.1 a_o_data n_o_data r_o_data  y_3 hy_3) (cwV 0 hts (g_V kw_829 kw_831 kw_5 kw_77 kw_832) rfl rfl rfl hd_X8_number ⟨Nat.le_of_ble_eq_true rfl, Nat.le_of_ble_eq_true rfl⟩) hP hD hS [0, 1] rfl rfl rfl rfl rfl rfl hl (Nat.le_of_ble_eq_true rfl) dX8_readCode_14) (fun H locs hP hD hS => ?_)
    refine lv_l2i hx hb dX8_readCode_17 rfl ?_
    refine lv_topi (fun v1_4 e_v1_4 => ?_)
    replace hF := bnd_d hF e_v1_4
    refine lv_istore_n (lv' := [(1, .int v1_4), (0, .ref a_o)]) hx hb dX8_readCode_18 rfl hl (by decide) rfl (fun ls hl => ?_)
    refine lv_iload_n hx hb dX8_readCode_19 rfl (lv_at hl 0 rfl) ?_
    refine lv_bipush (v := (10 : Int32)) hx hb dX8_readCode_20 (by decide) ?_
    refine lv_icmp_le (tgt := 29) hx hb dX8_readCode_22 (by decide) (fun c_5 => ?_) (fun c_5 => ?_)
    · replace hF := ite_t hF c_5
      refine lv_iload_n hx hb dX8_readCode_29 rfl (lv_at hl 0 rfl) ?_
      have hy9 := (Option.some.inj hF).symm
      subst hy9
      exact rt_i C0.1 hP hD hS dX8_readCode_30
    · replace hF := ite_f hF c_5
      refine lv_aload_n hx hb dX8_readCode_25 rfl (lv_at hl 1 rfl) ?_
      obtain ⟨y_6, hy_6, hF⟩ := cal_d hF
      refine cf_v C0.1 hP hD hS [0] [1] [1, 0] (wr := [rB q a_o_data n_o_data r_o_data]) (w' := [oX8 a_o a_o_outerEnds a_o_data x_o_depth x_o_end y_3.2 y_1.2.2.2.2.1 y_6.2 y_6.1 y_1.2.2.2.1, rB q a_o_data n_o_data r_o_data]) rfl rfl rfl (by decide) rfl rfl (sn_V (As := []) (rest := []) (ci := 7) (q0 := 0) C0 (c_sc_fail l D q t a_o a_o_outerEnds a_o_data x_o_depth x_o_end y_3.2 y_1.2.2.2.2.1 y_1.2.2.2.2.2 y_1.2.2.1 y_1.2.2.2.1  y_6 hy_6) (cwV 0 hts (g_V kw_812 kw_813 kw_814 kw_77 kw_815) rfl rfl rfl hd_X8_fail ⟨Nat.le_of_ble_eq_true rfl, Nat.le_of_ble_eq_true rfl⟩) hP hD hS [0] rfl rfl rfl rfl rfl rfl hl (Nat.le_of_ble_eq_true rfl) dX8_readCode_26) (fun H locs hP hD hS => ?_)
      refine lv_iload_n hx hb dX8_readCode_29 rfl (lv_at hl 0 rfl) ?_
      have hy9 := (Option.some.inj hF).symm
      subst hy9
      exact rt_i C0.1 hP hD hS dX8_readCode_30
  · replace hF := ite_t hF c_2
    refine lv_iconst (v := (0 : Int32)) hx hb dX8_readCode_11 (by decide) ?_
    have hy9 := (Option.some.inj hF).symm
    subst hy9
    exact rt_i C0.1 hP hD hS dX8_readCode_12
set_option maxHeartbeats 4000000 in
set_option maxRecDepth 100000 in
theorem c_an_readState (l : Launch) (D : va_G) (q : Nat → ClassId) (t : Nat) (a_o : Nat) (a_o_ids : Nat) (a_o_from : Nat) (a_o_next : Nat) (a_o_cert : Nat) (x_o_status : Int32) (x_o_hasCert : Int32) (x_o_bodyPlace : Int32) (x_o_bodyEnd : Int32) (x_o_signature : Int64) (x_o_isByName : Int32) (x_o_tellerPlace : Int32) (x_o_tellerSize : Int32) (x_o_tellerHash : Int64) (x_o_noncePlace : Int32) (x_o_nonceSize : Int32) (a_o_reasons : Nat) (r_o_reasons : (Nat → Int32)) (a_o_since : Nat) (r_o_since : (Nat → Int64)) (a_o_states : Nat) (r_o_states : (Nat → Int32)) (a_p0 : Nat) (x_p0_depth : Int32) (x_p0_end : Int32) (x_p0_at : Int32) (x_p0_place : Int32) (x_p0_size : Int32) (x_p0_fault : Int32) (x_p0_items : Int32) (a_p0_data : Nat) (n_p0_data : Nat) (r_p0_data : (Nat → Int32)) (a_p0_outerEnds : Nat) (r_p0_outerEnds : (Nat → Int32)) (p_1 : Int32) (y : (Nat → Int32) × (Nat → Int64) × (Nat → Int32) × Int32 × Int32 × Int32 × Int32 × Int32 × (Nat → Int32) × Int32 × Int32) (hF : f_an_readState r_o_reasons r_o_since r_o_states x_p0_at r_p0_data x_p0_depth x_p0_end x_p0_fault x_p0_items r_p0_outerEnds x_p0_place x_p0_size n_p0_data p_1 = some y)  : cu l yX0_readState (vs yX0_readState cX0_readState 4 none) ({ frames := 3, cells := 0, slots := 0, locals := 73 }) D q t [.ref a_o, .ref a_p0, .int p_1] [oX0 a_o a_o_ids a_o_states a_o_since a_o_reasons a_o_from a_o_next a_o_cert x_o_status x_o_hasCert x_o_bodyPlace x_o_bodyEnd x_o_signature x_o_isByName x_o_tellerPlace x_o_tellerSize x_o_tellerHash x_o_noncePlace x_o_nonceSize, rI q a_o_reasons 8 r_o_reasons, rJ q a_o_since 8 r_o_since, rI q a_o_states 8 r_o_states, oX8 a_p0 a_p0_outerEnds a_p0_data x_p0_depth x_p0_end x_p0_at x_p0_place x_p0_size x_p0_fault x_p0_items, rB q a_p0_data n_p0_data r_p0_data, rI q a_p0_outerEnds 12 r_p0_outerEnds] (qV D q [oX0 a_o a_o_ids a_o_states a_o_since a_o_reasons a_o_from a_o_next a_o_cert x_o_status x_o_hasCert x_o_bodyPlace x_o_bodyEnd x_o_signature x_o_isByName x_o_tellerPlace x_o_tellerSize x_o_tellerHash x_o_noncePlace x_o_nonceSize, rI q a_o_reasons 8 y.1, rJ q a_o_since 8 y.2.1, rI q a_o_states 8 y.2.2.1, oX8 a_p0 a_p0_outerEnds a_p0_data y.2.2.2.2.1 y.2.2.2.2.2.1 y.2.2.2.1 y.2.2.2.2.2.2.2.2.2.1 y.2.2.2.2.2.2.2.2.2.2 y.2.2.2.2.2.2.1 y.2.2.2.2.2.2.2.1, rB q a_p0_data n_p0_data r_p0_data, rI q a_p0_outerEnds 12 y.2.2.2.2.2.2.2.2.1]) := by
  refine cu_of (cc := cX0_readState) (nL := 4) (ret := none) (by decide) (Nat.le_of_ble_eq_true rfl) (fun {p e s m args below meth c A} C0 H locs ls hP hD hS hl => ?_)
  have C0 : cy p s m args meth c cX0_readState none 4 RX0 D q t A := C0
  obtain ⟨⟨hx, hb, hr, hml, hown, hts, hlocks, hK, hA⟩, hG⟩ := id C0
  have hl : lv_has ls 4 [(0, .ref a_o), (1, .ref a_p0), (2, .int p_1)] := hl
  unfold f_an_readState at hF
  refine lv_iload_n hx hb dX0_readState_0 rfl (lv_at hl 2 rfl) ?_
  refine lv_if_lt (tgt := 10) hx hb dX0_readState_1 (by decide) (fun c_1 => ?_) (fun c_1 => ?_)
  · replace hF := ite_t hF c_1
    have hy9 := (Option.some.inj hF).symm
    subst hy9
    exact rt_v C0.1 hP hD hS dX0_readState_10
  · replace hF := ite_f hF c_1
    refine lv_iload_n hx hb dX0_readState_4 rfl (lv_at hl 2 rfl) ?_
    refine lv_bipush (v := (8 : Int32)) hx hb dX0_readState_5 (by decide) ?_
    refine lv_icmp_lt (tgt := 11) hx hb dX0_readState_7 (by decide) (fun c_2 => ?_) (fun c_2 => ?_)
    · replace hF := ite_t hF c_2
      refine lv_aload_n hx hb dX0_readState_11 rfl (lv_at hl 1 rfl) ?_
      obtain ⟨y_3, hy_3, hF⟩ := cal_d hF
      refine cf_i C0.1 hP hD hS [4, 5] [0, 1, 2, 3, 6] [0, 1, 2, 3, 5, 6, 4] (wr := [oX0 a_o a_o_ids a_o_states a_o_since a_o_reasons a_o_from a_o_next a_o_cert x_o_status x_o_hasCert x_o_bodyPlace x_o_bodyEnd x_o_signature x_o_isByName x_o_tellerPlace x_o_tellerSize x_o_tellerHash x_o_noncePlace x_o_nonceSize, rI q a_o_reasons 8 r_o_reasons, rJ q a_o_since 8 r_o_since, rI q a_o_states 8 r_o_states, rI q a_p0_outerEnds 12 r_p0_outerEnds]) (w' := [oX0 a_o a_o_ids a_o_states a_o_since a_o_reasons a_o_from a_o_next a_o_cert x_o_status x_o_hasCert x_o_bodyPlace x_o_bodyEnd x_o_signature x_o_isByName x_o_tellerPlace x_o_tellerSize x_o_tellerHash x_o_noncePlace x_o_nonceSize, rI q a_o_reasons 8 r_o_reasons, rJ q a_o_since 8 r_o_since, rI q a_o_states 8 r_o_states, oX8 a_p0 a_p0_outerEnds a_p0_data x_p0_depth x_p0_end x_p0_at x_p0_place x_p0_size x_p0_fault x_p0_items, rB q a_p0_data n_p0_data r_p0_data, rI q a_p0_outerEnds 12 r_p0_outerEnds]) rfl rfl rfl (by decide) rfl rfl (sn_V (As := []) (rest := []) (ci := 7) (q0 := 4) C0 (c_sc_sortAhead l D q t a_p0 a_p0_outerEnds x_p0_depth x_p0_end x_p0_at x_p0_place x_p0_size x_p0_fault x_p0_items a_p0_data n_p0_data r_p0_data  y_3 hy_3) (cwV 0 hts (g_V kw_917 kw_805 kw_806 kw_77 kw_807) rfl rfl rfl hd_X8_sortAhead ⟨Nat.le_of_ble_eq_true rfl, Nat.le_of_ble_eq_true rfl⟩) hP hD hS [4, 5] rfl rfl rfl rfl rfl rfl hl (Nat.le_of_ble_eq_true rfl) dX0_readState_12) (fun H locs hP hD hS => ?_)
      refine lv_istore_n (lv' := [(3, .int y_3), (0, .ref a_o), (1, .ref a_p0), (2, .int p_1)]) hx hb dX0_readState_15 rfl hl (by decide) rfl (fun ls hl => ?_)
      refine lv_aload_n hx hb dX0_readState_16 rfl (lv_at hl 1 rfl) ?_
      refine va_get (D := D) (ci := 0) (v := .ref a_o_since) (C := RX0) (T := TX0) (N := 18) hx hb hts iw_X0 hown hK hP 0 rfl rfl 2 (by decide) (hts _ kw_319) (fun _ h9 => h9) rfl dX0_readState_17 ?_
      refine lv_iload_n hx hb dX0_readState_20 rfl (lv_at hl 3 rfl) ?_
      refine lv_ldc2 (v := (-1 : Int64)) hx hb hown (hts _ kw_947) dX0_readState_21 ?_
      obtain ⟨z_4, hF⟩ := chk_d hF
      refine va_last hx hb hK hP hD hS 2 2 rfl rfl z_4 dX0_readState_24 (fun H locs hP hD hS => ?_)
      obtain ⟨r_o_since_5, e_r_o_since_5⟩ : ∃ z : (Nat → Int64), z = vp_updL r_o_since p_1.toNatClampNeg (-1 : Int64) := ⟨_, rfl⟩
      replace hF := bnd_d hF e_r_o_since_5
      have hP : va_P D vwCl ([oX0 a_o a_o_ids a_o_states a_o_since a_o_reasons a_o_from a_o_next a_o_cert x_o_status x_o_hasCert x_o_bodyPlace x_o_bodyEnd x_o_signature x_o_isByName x_o_tellerPlace x_o_tellerSize x_o_tellerHash x_o_noncePlace x_o_nonceSize, rI q a_o_reasons 8 r_o_reasons, rJ q a_o_since 8 r_o_since_5, rI q a_o_states 8 r_o_states, oX8 a_p0 a_p0_outerEnds a_p0_data x_p0_depth x_p0_end x_p0_at x_p0_place x_p0_size x_p0_fault x_p0_items, rB q a_p0_data n_p0_data r_p0_data, rI q a_p0_outerEnds 12 r_p0_outerEnds]) H := by rw [e_r_o_since_5]; exact hP
      have hD : va_D A ([oX0 a_o a_o_ids a_o_states a_o_since a_o_reasons a_o_from a_o_next a_o_cert x_o_status x_o_hasCert x_o_bodyPlace x_o_bodyEnd x_o_signature x_o_isByName x_o_tellerPlace x_o_tellerSize x_o_tellerHash x_o_noncePlace x_o_nonceSize, rI q a_o_reasons 8 r_o_reasons, rJ q a_o_since 8 r_o_since_5, rI q a_o_states 8 r_o_states, oX8 a_p0 a_p0_outerEnds a_p0_data x_p0_depth x_p0_end x_p0_at x_p0_place x_p0_size x_p0_fault x_p0_items, rB q a_p0_data n_p0_data r_p0_data, rI q a_p0_outerEnds 12 r_p0_outerEnds]) := by rw [e_r_o_since_5]; exact hD
      refine lv_aload_n hx hb dX0_readState_25 rfl (lv_at hl 1 rfl) ?_
      refine va_get (D := D) (ci := 0) (v := .ref a_o_reasons) (C := RX0) (T := TX0) (N := 18) hx hb hts iw_X0 hown hK hP 0 rfl rfl 3 (by decide) (hts _ kw_321) (fun _ h9 => h9) rfl dX0_readState_26 ?_
      refine lv_iload_n hx hb dX0_readState_29 rfl (lv_at hl 3 rfl) ?_
      refine lv_iconst (v := (-1 : Int32)) hx hb dX0_readState_30 (by decide) ?_
      obtain ⟨z_6, hF⟩ := chk_d hF
      refine va_iast hx hb hK hP hD hS 1 1 rfl rfl z_6 dX0_readState_31 (fun H locs hP hD hS => ?_)
      obtain ⟨r_o_reasons_7, e_r_o_reasons_7⟩ : ∃ z : (Nat → Int32), z = upd r_o_reasons p_1.toNatClampNeg (-1 : Int32) := ⟨_, rfl⟩
      replace hF := bnd_d hF e_r_o_reasons_7
      have hP : va_P D vwCl ([oX0 a_o a_o_ids a_o_states a_o_since a_o_reasons a_o_from a_o_next a_o_cert x_o_status x_o_hasCert x_o_bodyPlace x_o_bodyEnd x_o_signature x_o_isByName x_o_tellerPlace x_o_tellerSize x_o_tellerHash x_o_noncePlace x_o_nonceSize, rI q a_o_reasons 8 r_o_reasons_7, rJ q a_o_since 8 r_o_since_5, rI q a_o_states 8 r_o_states, oX8 a_p0 a_p0_outerEnds a_p0_data x_p0_depth x_p0_end x_p0_at x_p0_place x_p0_size x_p0_fault x_p0_items, rB q a_p0_data n_p0_data r_p0_data, rI q a_p0_outerEnds 12 r_p0_outerEnds]) H := by rw [e_r_o_reasons_7]; exact hP
      have hD : va_D A ([oX0 a_o a_o_ids a_o_states a_o_since a_o_reasons a_o_from a_o_next a_o_cert x_o_status x_o_hasCert x_o_bodyPlace x_o_bodyEnd x_o_signature x_o_isByName x_o_tellerPlace x_o_tellerSize x_o_tellerHash x_o_noncePlace x_o_nonceSize, rI q a_o_reasons 8 r_o_reasons_7, rJ q a_o_since 8 r_o_since_5, rI q a_o_states 8 r_o_states, oX8 a_p0 a_p0_outerEnds a_p0_data x_p0_depth x_p0_end x_p0_at x_p0_place x_p0_size x_p0_fault x_p0_items, rB q a_p0_data n_p0_data r_p0_data, rI q a_p0_outerEnds 12 r_p0_outerEnds]) := by rw [e_r_o_reasons_7]; exact hD
      refine lv_iload_n hx hb dX0_readState_32 rfl (lv_at hl 0 rfl) ?_
      refine lv_sipush (v := (161 : Int32)) hx hb dX0_readState_33 (by decide) ?_
      refine lv_icmp_ne (tgt := 78) hx hb dX0_readState_36 (by decide) (fun c_8 => ?_) (fun c_8 => ?_)
      · replace hF := ite_f hF c_8
        refine lv_iload_n hx hb dX0_readState_78 rfl (lv_at hl 0 rfl) ?_
        refine lv_sipush (v := (130 : Int32)) hx hb dX0_readState_79 (by decide) ?_
        refine lv_icmp_ne (tgt := 103) hx hb dX0_readState_82 (by decide) (fun c_9 => ?_) (fun c_9 => ?_)
        · replace hF := ite_f hF c_9
          refine lv_aload_n hx hb dX0_readState_103 rfl (lv_at hl 1 rfl) ?_
          refine va_get (D := D) (ci := 0) (v := .ref a_o_states) (C := RX0) (T := TX0) (N := 18) hx hb hts iw_X0 hown hK hP 0 rfl rfl 1 (by decide) (hts _ kw_317) (fun _ h9 => h9) rfl dX0_readState_104 ?_
          refine lv_iload_n hx hb dX0_readState_107 rfl (lv_at hl 3 rfl) ?_
          refine lv_iconst (v := (1 : Int32)) hx hb dX0_readState_108 (by decide) ?_
          obtain ⟨z_10, hF⟩ := chk_d hF
          refine va_iast hx hb hK hP hD hS 3 1 rfl rfl z_10 dX0_readState_109 (fun H locs hP hD hS => ?_)
          obtain ⟨r_o_states_11, e_r_o_states_11⟩ : ∃ z : (Nat → Int32), z = upd r_o_states p_1.toNatClampNeg (1 : Int32) := ⟨_, rfl⟩
          replace hF := bnd_d hF e_r_o_states_11
          have hP : va_P D vwCl ([oX0 a_o a_o_ids a_o_states a_o_since a_o_reasons a_o_from a_o_next a_o_cert x_o_status x_o_hasCert x_o_bodyPlace x_o_bodyEnd x_o_signature x_o_isByName x_o_tellerPlace x_o_tellerSize x_o_tellerHash x_o_noncePlace x_o_nonceSize, rI q a_o_reasons 8 r_o_reasons_7, rJ q a_o_since 8 r_o_since_5, rI q a_o_states 8 r_o_states_11, oX8 a_p0 a_p0_outerEnds a_p0_data x_p0_depth x_p0_end x_p0_at x_p0_place x_p0_size x_p0_fault x_p0_items, rB q a_p0_data n_p0_data r_p0_data, rI q a_p0_outerEnds 12 r_p0_outerEnds]) H := by rw [e_r_o_states_11]; exact hP
          have hD : va_D A ([oX0 a_o a_o_ids a_o_states a_o_since a_o_reasons a_o_from a_o_next a_o_cert x_o_status x_o_hasCert x_o_bodyPlace x_o_bodyEnd x_o_signature x_o_isByName x_o_tellerPlace x_o_tellerSize x_o_tellerHash x_o_noncePlace x_o_nonceSize, rI q a_o_reasons 8 r_o_reasons_7, rJ q a_o_since 8 r_o_since_5, rI q a_o_states 8 r_o_states_11, oX8 a_p0 a_p0_outerEnds a_p0_data x_p0_depth x_p0_end x_p0_at x_p0_place x_p0_size x_p0_fault x_p0_items, rB q a_p0_data n_p0_data r_p0_data, rI q a_p0_outerEnds 12 r_p0_outerEnds]) := by rw [e_r_o_states_11]; exact hD
          refine lv_aload_n hx hb dX0_readState_110 rfl (lv_at hl 2 rfl) ?_
          refine lv_sipush (v := (128 : Int32)) hx hb dX0_readState_111 (by decide) ?_
          refine lv_iconst (v := (0 : Int32)) hx hb dX0_readState_114 (by decide) ?_
          refine lv_iconst (v := (0 : Int32)) hx hb dX0_readState_115 (by decide) ?_
          obtain ⟨y_12, hy_12, hF⟩ := cal_d hF
          refine cf_i C0.1 hP hD hS [4, 5] [0, 1, 2, 3, 6] [0, 1, 2, 3, 5, 6, 4] (wr := [oX0 a_o a_o_ids a_o_states a_o_since a_o_reasons a_o_from a_o_next a_o_cert x_o_status x_o_hasCert x_o_bodyPlace x_o_bodyEnd x_o_signature x_o_isByName x_o_tellerPlace x_o_tellerSize x_o_tellerHash x_o_noncePlace x_o_nonceSize, rI q a_o_reasons 8 r_o_reasons_7, rJ q a_o_since 8 r_o_since_5, rI q a_o_states 8 r_o_states_11, rI q a_p0_outerEnds 12 r_p0_outerEnds]) (w' := [oX0 a_o a_o_ids a_o_states a_o_since a_o_reasons a_o_from a_o_next a_o_cert x_o_status x_o_hasCert x_o_bodyPlace x_o_bodyEnd x_o_signature x_o_isByName x_o_tellerPlace x_o_tellerSize x_o_tellerHash x_o_noncePlace x_o_nonceSize, rI q a_o_reasons 8 r_o_reasons_7, rJ q a_o_since 8 r_o_since_5, rI q a_o_states 8 r_o_states_11, oX8 a_p0 a_p0_outerEnds a_p0_data x_p0_depth x_p0_end y_12.2.1 y_12.2.2.2.2.1 y_12.2.2.2.2.2 y_12.2.2.1 y_12.2.2.2.1, rB q a_p0_data n_p0_data r_p0_data, rI q a_p0_outerEnds 12 r_p0_outerEnds]) rfl rfl rfl (by decide) rfl rfl (sn_V (As := [.int (128 : Int32), .int (0 : Int32), .int (0 : Int32)]) (rest := []) (ci := 7) (q0 := 4) C0 (c_sc_enter l D q t a_p0 a_p0_outerEnds x_p0_depth x_p0_end x_p0_at x_p0_place x_p0_size x_p0_fault x_p0_items a_p0_data n_p0_data r_p0_data (128 : Int32) (0 : Int32) (0 : Int32) y_12 hy_12) (cwV 3 hts (g_V kw_948 kw_801 kw_802 kw_77 kw_803) rfl rfl rfl hd_X8_enter ⟨Nat.le_of_ble_eq_true rfl, Nat.le_of_ble_eq_true rfl⟩) hP hD hS [4, 5] rfl rfl rfl rfl rfl rfl hl (Nat.le_of_ble_eq_true rfl) dX0_readState_116) (fun H locs hP hD hS => ?_)
          refine lv_pop hx hb dX0_readState_119 rfl ?_
          have hy9 := (Option.some.inj hF).symm
          subst hy9
          exact rt_v C0.1 hP hD hS dX0_readState_120
        · replace hF := ite_t hF c_9
          refine lv_aload_n hx hb dX0_readState_85 rfl (lv_at hl 1 rfl) ?_
          refine va_get (D := D) (ci := 0) (v := .ref a_o_states) (C := RX0) (T := TX0) (N := 18) hx hb hts iw_X0 hown hK hP 0 rfl rfl 1 (by decide) (hts _ kw_317) (fun _ h9 => h9) rfl dX0_readState_86 ?_
          refine lv_iload_n hx hb dX0_readState_89 rfl (lv_at hl 3 rfl) ?_
          refine lv_iconst (v := (3 : Int32)) hx hb dX0_readState_90 (by decide) ?_
          obtain ⟨z_13, hF⟩ := chk_d hF
          refine va_iast hx hb hK hP hD hS 3 1 rfl rfl z_13 dX0_readState_91 (fun H locs hP hD hS => ?_)
          obtain ⟨r_o_states_14, e_r_o_states_14⟩ : ∃ z : (Nat → Int32), z = upd r_o_states p_1.toNatClampNeg (3 : Int32) := ⟨_, rfl⟩
          replace hF := bnd_d hF e_r_o_states_14
          have hP : va_P D vwCl ([oX0 a_o a_o_ids a_o_states a_o_since a_o_reasons a_o_from a_o_next a_o_cert x_o_status x_o_hasCert x_o_bodyPlace x_o_bodyEnd x_o_signature x_o_isByName x_o_tellerPlace x_o_tellerSize x_o_tellerHash x_o_noncePlace x_o_nonceSize, rI q a_o_reasons 8 r_o_reasons_7, rJ q a_o_since 8 r_o_since_5, rI q a_o_states 8 r_o_states_14, oX8 a_p0 a_p0_outerEnds a_p0_data x_p0_depth x_p0_end x_p0_at x_p0_place x_p0_size x_p0_fault x_p0_items, rB q a_p0_data n_p0_data r_p0_data, rI q a_p0_outerEnds 12 r_p0_outerEnds]) H := by rw [e_r_o_states_14]; exact hP
          have hD : va_D A ([oX0 a_o a_o_ids a_o_states a_o_since a_o_reasons a_o_from a_o_next a_o_cert x_o_status x_o_hasCert x_o_bodyPlace x_o_bodyEnd x_o_signature x_o_isByName x_o_tellerPlace x_o_tellerSize x_o_tellerHash x_o_noncePlace x_o_nonceSize, rI q a_o_reasons 8 r_o_reasons_7, rJ q a_o_since 8 r_o_since_5, rI q a_o_states 8 r_o_states_14, oX8 a_p0 a_p0_outerEnds a_p0_data x_p0_depth x_p0_end x_p0_at x_p0_place x_p0_size x_p0_fault x_p0_items, rB q a_p0_data n_p0_data r_p0_data, rI q a_p0_outerEnds 12 r_p0_outerEnds]) := by rw [e_r_o_states_14]; exact hD
          refine lv_aload_n hx hb dX0_readState_92 rfl (lv_at hl 2 rfl) ?_
          refine lv_iload_n hx hb dX0_readState_93 rfl (lv_at hl 0 rfl) ?_
          refine lv_iconst (v := (0 : Int32)) hx hb dX0_readState_94 (by decide) ?_
          refine lv_iconst (v := (0 : Int32)) hx hb dX0_readState_95 (by decide) ?_
          obtain ⟨y_15, hy_15, hF⟩ := cal_d hF
          refine cf_i C0.1 hP hD hS [4, 5] [0, 1, 2, 3, 6] [0, 1, 2, 3, 5, 6, 4] (wr := [oX0 a_o a_o_ids a_o_states a_o_since a_o_reasons a_o_from a_o_next a_o_cert x_o_status x_o_hasCert x_o_bodyPlace x_o_bodyEnd x_o_signature x_o_isByName x_o_tellerPlace x_o_tellerSize x_o_tellerHash x_o_noncePlace x_o_nonceSize, rI q a_o_reasons 8 r_o_reasons_7, rJ q a_o_since 8 r_o_since_5, rI q a_o_states 8 r_o_states_14, rI q a_p0_outerEnds 12 r_p0_outerEnds]) (w' := [oX0 a_o a_o_ids a_o_states a_o_since a_o_reasons a_o_from a_o_next a_o_cert x_o_status x_o_hasCert x_o_bodyPlace x_o_bodyEnd x_o_signature x_o_isByName x_o_tellerPlace x_o_tellerSize x_o_tellerHash x_o_noncePlace x_o_nonceSize, rI q a_o_reasons 8 r_o_reasons_7, rJ q a_o_since 8 r_o_since_5, rI q a_o_states 8 r_o_states_14, oX8 a_p0 a_p0_outerEnds a_p0_data x_p0_depth x_p0_end y_15.2.1 y_15.2.2.2.2.1 y_15.2.2.2.2.2 y_15.2.2.1 y_15.2.2.2.1, rB q a_p0_data n_p0_data r_p0_data, rI q a_p0_outerEnds 12 r_p0_outerEnds]) rfl rfl rfl (by decide) rfl rfl (sn_V (As := [.int y_3, .int (0 : Int32), .int (0 : Int32)]) (rest := []) (ci := 7) (q0 := 4) C0 (c_sc_enter l D q t a_p0 a_p0_outerEnds x_p0_depth x_p0_end x_p0_at x_p0_place x_p0_size x_p0_fault x_p0_items a_p0_data n_p0_data r_p0_data y_3 (0 : Int32) (0 : Int32) y_15 hy_15) (cwV 3 hts (g_V kw_948 kw_801 kw_802 kw_77 kw_803) rfl rfl rfl hd_X8_enter ⟨Nat.le_of_ble_eq_true rfl, Nat.le_of_ble_eq_true rfl⟩) hP hD hS [4, 5] rfl rfl rfl rfl rfl rfl hl (Nat.le_of_ble_eq_true rfl) dX0_readState_96) (fun H locs hP hD hS => ?_)
          refine lv_pop hx hb dX0_readState_99 rfl ?_
          refine lv_goto (tgt := 120) hx hb dX0_readState_100 (by decide) ?_
          have hy9 := (Option.some.inj hF).symm
          subst hy9
          exact rt_v C0.1 hP hD hS dX0_readState_120
      · replace hF := ite_t hF c_8
        refine lv_aload_n hx hb dX0_readState_39 rfl (lv_at hl 1 rfl) ?_
        refine va_get (D := D) (ci := 0) (v := .ref a_o_states) (C := RX0) (T := TX0) (N := 18) hx hb hts iw_X0 hown hK hP 0 rfl rfl 1 (by decide) (hts _ kw_317) (fun _ h9 => h9) rfl dX0_readState_40 ?_
        refine lv_iload_n hx hb dX0_readState_43 rfl (lv_at hl 3 rfl) ?_
        refine lv_iconst (v := (2 : Int32)) hx hb dX0_readState_44 (by decide) ?_
        obtain ⟨z_16, hF⟩ := chk_d hF
        refine va_iast hx hb hK hP hD hS 3 1 rfl rfl z_16 dX0_readState_45 (fun H locs hP hD hS => ?_)
        obtain ⟨r_o_states_17, e_r_o_states_17⟩ : ∃ z : (Nat → Int32), z = upd r_o_states p_1.toNatClampNeg (2 : Int32) := ⟨_, rfl⟩
        replace hF := bnd_d hF e_r_o_states_17
        have hP : va_P D vwCl ([oX0 a_o a_o_ids a_o_states a_o_since a_o_reasons a_o_from a_o_next a_o_cert x_o_status x_o_hasCert x_o_bodyPlace x_o_bodyEnd x_o_signature x_o_isByName x_o_tellerPlace x_o_tellerSize x_o_tellerHash x_o_noncePlace x_o_nonceSize, rI q a_o_reasons 8 r_o_reasons_7, rJ q a_o_since 8 r_o_since_5, rI q a_o_states 8 r_o_states_17, oX8 a_p0 a_p0_outerEnds a_p0_data x_p0_depth x_p0_end x_p0_at x_p0_place x_p0_size x_p0_fault x_p0_items, rB q a_p0_data n_p0_data r_p0_data, rI q a_p0_outerEnds 12 r_p0_outerEnds]) H := by rw [e_r_o_states_17]; exact hP
        have hD : va_D A ([oX0 a_o a_o_ids a_o_states a_o_since a_o_reasons a_o_from a_o_next a_o_cert x_o_status x_o_hasCert x_o_bodyPlace x_o_bodyEnd x_o_signature x_o_isByName x_o_tellerPlace x_o_tellerSize x_o_tellerHash x_o_noncePlace x_o_nonceSize, rI q a_o_reasons 8 r_o_reasons_7, rJ q a_o_since 8 r_o_since_5, rI q a_o_states 8 r_o_states_17, oX8 a_p0 a_p0_outerEnds a_p0_data x_p0_depth x_p0_end x_p0_at x_p0_place x_p0_size x_p0_fault x_p0_items, rB q a_p0_data n_p0_data r_p0_data, rI q a_p0_outerEnds 12 r_p0_outerEnds]) := by rw [e_r_o_states_17]; exact hD
        refine lv_aload_n hx hb dX0_readState_46 rfl (lv_at hl 2 rfl) ?_
        refine lv_iload_n hx hb dX0_readState_47 rfl (lv_at hl 0 rfl) ?_
        obtain ⟨y_18, hy_18, hF⟩ := cal_d hF
        refine cf_v C0.1 hP hD hS [4, 5, 6] [0, 1, 2, 3] [0, 1, 2, 3, 4, 5, 6] (wr := [oX0 a_o a_o_ids a_o_states a_o_since a_o_reasons a_o_from a_o_next a_o_cert x_o_status x_o_hasCert x_o_bodyPlace x_o_bodyEnd x_o_signature x_o_isByName x_o_tellerPlace x_o_tellerSize x_o_tellerHash x_o_noncePlace x_o_nonceSize, rI q a_o_reasons 8 r_o_reasons_7, rJ q a_o_since 8 r_o_since_5, rI q a_o_states 8 r_o_states_17]) (w' := [oX0 a_o a_o_ids a_o_states a_o_since a_o_reasons a_o_from a_o_next a_o_cert x_o_status x_o_hasCert x_o_bodyPlace x_o_bodyEnd x_o_signature x_o_isByName x_o_tellerPlace x_o_tellerSize x_o_tellerHash x_o_noncePlace x_o_nonceSize, rI q a_o_reasons 8 r_o_reasons_7, rJ q a_o_since 8 r_o_since_5, rI q a_o_states 8 r_o_states_17, oX8 a_p0 a_p0_outerEnds a_p0_data y_18.2.1 y_18.2.2.1 y_18.1 y_18.2.2.2.2.2.2.1 y_18.2.2.2.2.2.2.2 y_18.2.2.2.1 y_18.2.2.2.2.1, rB q a_p0_data n_p0_data r_p0_data, rI q a_p0_outerEnds 12 y_18.2.2.2.2.2.1]) rfl rfl rfl (by decide) rfl rfl (sn_V (As := [.int y_3]) (rest := []) (ci := 7) (q0 := 4) C0 (c_sc_open l D q t a_p0 x_p0_depth x_p0_end x_p0_at x_p0_place x_p0_size x_p0_fault x_p0_items a_p0_data n_p0_data r_p0_data a_p0_outerEnds r_p0_outerEnds y_3 y_18 hy_18) (cwV 1 hts (g_V kw_904 kw_797 kw_798 kw_77 kw_799) rfl rfl rfl hd_X8_open ⟨Nat.le_of_ble_eq_true rfl, Nat.le_of_ble_eq_true rfl⟩) hP hD hS [4, 5, 6] rfl rfl rfl rfl rfl rfl hl (Nat.le_of_ble_eq_true rfl) dX0_readState_48) (fun H locs hP hD hS => ?_)
        refine lv_aload_n hx hb dX0_readState_51 rfl (lv_at hl 1 rfl) ?_
        refine va_get (D := D) (ci := 0) (v := .ref a_o_since) (C := RX0) (T := TX0) (N := 18) hx hb hts iw_X0 hown hK hP 0 rfl rfl 2 (by decide) (hts _ kw_319) (fun _ h9 => h9) rfl dX0_readState_52 ?_
        refine lv_iload_n hx hb dX0_readState_55 rfl (lv_at hl 3 rfl) ?_
        refine lv_aload_n hx hb dX0_readState_56 rfl (lv_at hl 2 rfl) ?_
        obtain ⟨y_19, hy_19, hF⟩ := cal_d hF
        refine cf_l C0.1 hP hD hS [4, 5] [0, 1, 2, 3, 6] [0, 1, 2, 3, 5, 6, 4] (wr := [oX0 a_o a_o_ids a_o_states a_o_since a_o_reasons a_o_from a_o_next a_o_cert x_o_status x_o_hasCert x_o_bodyPlace x_o_bodyEnd x_o_signature x_o_isByName x_o_tellerPlace x_o_tellerSize x_o_tellerHash x_o_noncePlace x_o_nonceSize, rI q a_o_reasons 8 r_o_reasons_7, rJ q a_o_since 8 r_o_since_5, rI q a_o_states 8 r_o_states_17, rI q a_p0_outerEnds 12 y_18.2.2.2.2.2.1]) (w' := [oX0 a_o a_o_ids a_o_states a_o_since a_o_reasons a_o_from a_o_next a_o_cert x_o_status x_o_hasCert x_o_bodyPlace x_o_bodyEnd x_o_signature x_o_isByName x_o_tellerPlace x_o_tellerSize x_o_tellerHash x_o_noncePlace x_o_nonceSize, rI q a_o_reasons 8 r_o_reasons_7, rJ q a_o_since 8 r_o_since_5, rI q a_o_states 8 r_o_states_17, oX8 a_p0 a_p0_outerEnds a_p0_data y_18.2.1 y_18.2.2.1 y_19.2.1 y_19.2.2.2.2.1 y_19.2.2.2.2.2 y_19.2.2.1 y_19.2.2.2.1, rB q a_p0_data n_p0_data r_p0_data, rI q a_p0_outerEnds 12 y_18.2.2.2.2.2.1]) rfl rfl rfl (by decide) rfl rfl (sn_V (As := []) (rest := [.int p_1, .ref a_o_since]) (ci := 7) (q0 := 4) C0 (c_sc_readTime l D q t a_p0 a_p0_outerEnds y_18.2.1 y_18.2.2.1 y_18.1 y_18.2.2.2.2.2.2.1 y_18.2.2.2.2.2.2.2 y_18.2.2.2.1 y_18.2.2.2.2.1 a_p0_data n_p0_data r_p0_data  y_19 hy_19) (cwV 0 hts (g_V kw_921 kw_922 kw_923 kw_77 kw_924) rfl rfl rfl hd_X8_readTime ⟨Nat.le_of_ble_eq_true rfl, Nat.le_of_ble_eq_true rfl⟩) hP hD hS [4, 5] rfl rfl rfl rfl rfl rfl hl (Nat.le_of_ble_eq_true rfl) dX0_readState_57) (fun H locs hP hD hS => ?_)
        refine va_last hx hb hK hP hD hS 2 2 rfl rfl z_4 dX0_readState_60 (fun H locs hP hD hS => ?_)
        obtain ⟨r_o_since_20, e_r_o_since_20⟩ : ∃ z : (Nat → Int64), z = vp_updL r_o_since_5 p_1.toNatClampNeg y_19.1 := ⟨_, rfl⟩
        replace hF := bnd_d hF e_r_o_since_20
        have hP : va_P D vwCl ([oX0 a_o a_o_ids a_o_states a_o_since a_o_reasons a_o_from a_o_next a_o_cert x_o_status x_o_hasCert x_o_bodyPlace x_o_bodyEnd x_o_signature x_o_isByName x_o_tellerPlace x_o_tellerSize x_o_tellerHash x_o_noncePlace x_o_nonceSize, rI q a_o_reasons 8 r_o_reasons_7, rJ q a_o_since 8 r_o_since_20, rI q a_o_states 8 r_o_states_17, oX8 a_p0 a_p0_outerEnds a_p0_data y_18.2.1 y_18.2.2.1 y_19.2.1 y_19.2.2.2.2.1 y_19.2.2.2.2.2 y_19.2.2.1 y_19.2.2.2.1, rB q a_p0_data n_p0_data r_p0_data, rI q a_p0_outerEnds 12 y_18.2.2.2.2.2.1]) H := by rw [e_r_o_since_20]; exact hP
        have hD : va_D A ([oX0 a_o a_o_ids a_o_states a_o_since a_o_reasons a_o_from a_o_next a_o_cert x_o_status x_o_hasCert x_o_bodyPlace x_o_bodyEnd x_o_signature x_o_isByName x_o_tellerPlace x_o_tellerSize x_o_tellerHash x_o_noncePlace x_o_nonceSize, rI q a_o_reasons 8 r_o_reasons_7, rJ q a_o_since 8 r_o_since_20, rI q a_o_states 8 r_o_states_17, oX8 a_p0 a_p0_outerEnds a_p0_data y_18.2.1 y_18.2.2.1 y_19.2.1 y_19.2.2.2.2.1 y_19.2.2.2.2.2 y_19.2.2.1 y_19.2.2.2.1, rB q a_p0_data n_p0_data r_p0_data, rI q a_p0_outerEnds 12 y_18.2.2.2.2.2.1]) := by rw [e_r_o_since_20]; exact hD
        refine lv_aload_n hx hb dX0_readState_61 rfl (lv_at hl 1 rfl) ?_
        refine va_get (D := D) (ci := 0) (v := .ref a_o_reasons) (C := RX0) (T := TX0) (N := 18) hx hb hts iw_X0 hown hK hP 0 rfl rfl 3 (by decide) (hts _ kw_321) (fun _ h9 => h9) rfl dX0_readState_62 ?_
        refine lv_iload_n hx hb dX0_readState_65 rfl (lv_at hl 3 rfl) ?_
        refine lv_aload_n hx hb dX0_readState_66 rfl (lv_at hl 2 rfl) ?_
        obtain ⟨y_21, hy_21, hF⟩ := cal_d hF
        refine cf_i C0.1 hP hD hS [4, 5] [0, 1, 2, 3, 6] [0, 1, 2, 3, 5, 6, 4] (wr := [oX0 a_o a_o_ids a_o_states a_o_since a_o_reasons a_o_from a_o_next a_o_cert x_o_status x_o_hasCert x_o_bodyPlace x_o_bodyEnd x_o_signature x_o_isByName x_o_tellerPlace x_o_tellerSize x_o_tellerHash x_o_noncePlace x_o_nonceSize, rI q a_o_reasons 8 r_o_reasons_7, rJ q a_o_since 8 r_o_since_20, rI q a_o_states 8 r_o_states_17, rI q a_p0_outerEnds 12 y_18.2.2.2.2.2.1]) (w' := [oX0 a_o a_o_ids a_o_states a_o_since a_o_reasons a_o_from a_o_next a_o_cert x_o_status x_o_hasCert x_o_bodyPlace x_o_bodyEnd x_o_signature x_o_isByName x_o_tellerPlace x_o_tellerSize x_o_tellerHash x_o_noncePlace x_o_nonceSize, rI q a_o_reasons 8 r_o_reasons_7, rJ q a_o_since 8 r_o_since_20, rI q a_o_states 8 r_o_states_17, oX8 a_p0 a_p0_outerEnds a_p0_data y_18.2.1 y_18.2.2.1 y_21.2.1 y_21.2.2.2.2.1 y_21.2.2.2.2.2 y_21.2.2.1 y_21.2.2.2.1, rB q a_p0_data n_p0_data r_p0_data, rI q a_p0_outerEnds 12 y_18.2.2.2.2.2.1]) rfl rfl rfl (by decide) rfl rfl (sn_V (As := []) (rest := [.int p_1, .ref a_o_reasons]) (ci := 7) (q0 := 4) C0 (c_sc_readCode l D q t a_p0 a_p0_outerEnds y_18.2.1 y_18.2.2.1 y_19.2.1 y_19.2.2.2.2.1 y_19.2.2.2.2.2 y_19.2.2.1 y_19.2.2.2.1 a_p0_data n_p0_data r_p0_data  y_21 hy_21) (cwV 0 hts (g_V kw_905 kw_906 kw_907 kw_77 kw_908) rfl rfl rfl hd_X8_readCode ⟨Nat.le_of_ble_eq_true rfl, Nat.le_of_ble_eq_true rfl⟩) hP hD hS [4, 5] rfl rfl rfl rfl rfl rfl hl (Nat.le_of_ble_eq_true rfl) dX0_readState_67) (fun H locs hP hD hS => ?_)
        refine va_iast hx hb hK hP hD hS 1 1 rfl rfl z_6 dX0_readState_70 (fun H locs hP hD hS => ?_)
        obtain ⟨r_o_reasons_22, e_r_o_reasons_22⟩ : ∃ z : (Nat → Int32), z = upd r_o_reasons_7 p_1.toNatClampNeg y_21.1 := ⟨_, rfl⟩
        replace hF := bnd_d hF e_r_o_reasons_22
        have hP : va_P D vwCl ([oX0 a_o a_o_ids a_o_states a_o_since a_o_reasons a_o_from a_o_next a_o_cert x_o_status x_o_hasCert x_o_bodyPlace x_o_bodyEnd x_o_signature x_o_isByName x_o_tellerPlace x_o_tellerSize x_o_tellerHash x_o_noncePlace x_o_nonceSize, rI q a_o_reasons 8 r_o_reasons_22, rJ q a_o_since 8 r_o_since_20, rI q a_o_states 8 r_o_states_17, oX8 a_p0 a_p0_outerEnds a_p0_data y_18.2.1 y_18.2.2.1 y_21.2.1 y_21.2.2.2.2.1 y_21.2.2.2.2.2 y_21.2.2.1 y_21.2.2.2.1, rB q a_p0_data n_p0_data r_p0_data, rI q a_p0_outerEnds 12 y_18.2.2.2.2.2.1]) H := by rw [e_r_o_reasons_22]; exact hP
        have hD : va_D A ([oX0 a_o a_o_ids a_o_states a_o_since a_o_reasons a_o_from a_o_next a_o_cert x_o_status x_o_hasCert x_o_bodyPlace x_o_bodyEnd x_o_signature x_o_isByName x_o_tellerPlace x_o_tellerSize x_o_tellerHash x_o_noncePlace x_o_nonceSize, rI q a_o_reasons 8 r_o_reasons_22, rJ q a_o_since 8 r_o_since_20, rI q a_o_states 8 r_o_states_17, oX8 a_p0 a_p0_outerEnds a_p0_data y_18.2.1 y_18.2.2.1 y_21.2.1 y_21.2.2.2.2.1 y_21.2.2.2.2.2 y_21.2.2.1 y_21.2.2.2.1, rB q a_p0_data n_p0_data r_p0_data, rI q a_p0_outerEnds 12 y_18.2.2.2.2.2.1]) := by rw [e_r_o_reasons_22]; exact hD
        refine lv_aload_n hx hb dX0_readState_71 rfl (lv_at hl 2 rfl) ?_
        obtain ⟨y_23, hy_23, hF⟩ := cal_d hF
        refine cf_v C0.1 hP hD hS [4, 6] [0, 1, 2, 3, 5] [0, 1, 2, 3, 5, 4, 6] (wr := [oX0 a_o a_o_ids a_o_states a_o_since a_o_reasons a_o_from a_o_next a_o_cert x_o_status x_o_hasCert x_o_bodyPlace x_o_bodyEnd x_o_signature x_o_isByName x_o_tellerPlace x_o_tellerSize x_o_tellerHash x_o_noncePlace x_o_nonceSize, rI q a_o_reasons 8 r_o_reasons_22, rJ q a_o_since 8 r_o_since_20, rI q a_o_states 8 r_o_states_17, rB q a_p0_data n_p0_data r_p0_data]) (w' := [oX0 a_o a_o_ids a_o_states a_o_since a_o_reasons a_o_from a_o_next a_o_cert x_o_status x_o_hasCert x_o_bodyPlace x_o_bodyEnd x_o_signature x_o_isByName x_o_tellerPlace x_o_tellerSize x_o_tellerHash x_o_noncePlace x_o_nonceSize, rI q a_o_reasons 8 r_o_reasons_22, rJ q a_o_since 8 r_o_since_20, rI q a_o_states 8 r_o_states_17, oX8 a_p0 a_p0_outerEnds a_p0_data y_23.1 y_23.2.1 y_21.2.1 y_23.2.2.2.1 y_23.2.2.2.2 y_23.2.2.1 y_21.2.2.2.1, rB q a_p0_data n_p0_data r_p0_data, rI q a_p0_outerEnds 12 y_18.2.2.2.2.2.1]) rfl rfl rfl (by decide) rfl rfl (sn_V (As := []) (rest := []) (ci := 7) (q0 := 4) C0 (c_sc_close l D q t a_p0 a_p0_data y_18.2.1 y_18.2.2.1 y_21.2.1 y_21.2.2.2.2.1 y_21.2.2.2.2.2 y_21.2.2.1 y_21.2.2.2.1 a_p0_outerEnds y_18.2.2.2.2.2.1  y_23 hy_23) (cwV 0 hts (g_V kw_920 kw_839 kw_840 kw_77 kw_841) rfl rfl rfl hd_X8_close ⟨Nat.le_of_ble_eq_true rfl, Nat.le_of_ble_eq_true rfl⟩) hP hD hS [4, 6] rfl rfl rfl rfl rfl rfl hl (Nat.le_of_ble_eq_true rfl) dX0_readState_72) (fun H locs hP hD hS => ?_)
        refine lv_goto (tgt := 120) hx hb dX0_readState_75 (by decide) ?_
        have hy9 := (Option.some.inj hF).symm
        subst hy9
        exact rt_v C0.1 hP hD hS dX0_readState_120
    · replace hF := ite_f hF c_2
      have hy9 := (Option.some.inj hF).symm
      subst hy9
      exact rt_v C0.1 hP hD hS dX0_readState_10
set_option maxHeartbeats 4000000 in
set_option maxRecDepth 100000 in
theorem c_id_add (l : Launch) (D : va_G) (q : Nat → ClassId) (t : Nat) (a_o : Nat) (x_o_count : Int32) (a_o_keyHashes : Nat) (r_o_keyHashes : (Nat → Int64)) (a_o_nameHashes : Nat) (r_o_nameHashes : (Nat → Int64)) (a_o_serials : Nat) (r_o_serials : (Nat → Int32)) (p_0 : Int64) (p_1 : Int64) (p_2 : Int32) (y : Int32 × (Nat → Int64) × (Nat → Int64) × (Nat → Int32)) (hF : f_id_add x_o_count r_o_keyHashes r_o_nameHashes r_o_serials p_0 p_1 p_2 = some y)  : cu l yX6_add (vs yX6_add cX6_add 6 none) ({ frames := 0, cells := 0, slots := 0, locals := 0 }) D q t [.ref a_o, .long p_0, .long p_1, .int p_2] [oX6 a_o a_o_nameHashes a_o_keyHashes a_o_serials x_o_count, rJ q a_o_keyHashes 8 r_o_keyHashes, rJ q a_o_nameHashes 8 r_o_nameHashes, rI q a_o_serials 8 r_o_serials] (qV D q [oX6 a_o a_o_nameHashes a_o_keyHashes a_o_serials y.1, rJ q a_o_keyHashes 8 y.2.1, rJ q a_o_nameHashes 8 y.2.2.1, rI q a_o_serials 8 y.2.2.2]) := by
  refine cu_of (cc := cX6_add) (nL := 6) (ret := none) (by decide) (Nat.le_of_ble_eq_true rfl) (fun {p e s m args below meth c A} C0 H locs ls hP hD hS hl => ?_)
  have C0 : cy p s m args meth c cX6_add none 6 RX6 D q t A := C0
  obtain ⟨⟨hx, hb, hr, hml, hown, hts, hlocks, hK, hA⟩, hG⟩ := id C0
  have hl : lv_has ls 6 [(0, .ref a_o), (1, .long p_0), (3, .long p_1), (5, .int p_2)] := hl
  unfold f_id_add at hF
  refine lv_aload_n hx hb dX6_add_0 rfl (lv_at hl 0 rfl) ?_
  refine va_get (D := D) (ci := 6) (v := .int x_o_count) (C := RX6) (T := TX6) (N := 4) hx hb hts iw_X6 hown hK hP 0 rfl rfl 3 (by decide) (hts _ kw_171) (fun _ h9 => h9) rfl dX6_add_1 ?_
  refine lv_bipush (v := (8 : Int32)) hx hb dX6_add_4 (by decide) ?_
  refine lv_icmp_ge (tgt := 50) hx hb dX6_add_6 (by decide) (fun c_1 => ?_) (fun c_1 => ?_)
  · replace hF := ite_t hF c_1
    have hy9 := (Option.some.inj hF).symm
    subst hy9
    exact rt_v C0.1 hP hD hS dX6_add_50
  · replace hF := ite_f hF c_1
    refine lv_aload_n hx hb dX6_add_9 rfl (lv_at hl 0 rfl) ?_
    refine va_get (D := D) (ci := 6) (v := .ref a_o_nameHashes) (C := RX6) (T := TX6) (N := 4) hx hb hts iw_X6 hown hK hP 0 rfl rfl 0 (by decide) (hts _ kw_164) (fun _ h9 => h9) rfl dX6_add_10 ?_
    refine lv_aload_n hx hb dX6_add_13 rfl (lv_at hl 0 rfl) ?_
    refine va_get (D := D) (ci := 6) (v := .int x_o_count) (C := RX6) (T := TX6) (N := 4) hx hb hts iw_X6 hown hK hP 0 rfl rfl 3 (by decide) (hts _ kw_171) (fun _ h9 => h9) rfl dX6_add_14 ?_
    refine lv_lload_n hx hb dX6_add_17 rfl (lv_at hl 1 rfl) ?_
    obtain ⟨z_2, hF⟩ := chk_d hF
    refine va_last hx hb hK hP hD hS 2 2 rfl rfl z_2 dX6_add_18 (fun H locs hP hD hS => ?_)
    obtain ⟨r_o_nameHashes_3, e_r_o_nameHashes_3⟩ : ∃ z : (Nat → Int64), z = vp_updL r_o_nameHashes x_o_count.toNatClampNeg p_0 := ⟨_, rfl⟩
    replace hF := bnd_d hF e_r_o_nameHashes_3
    have hP : va_P D vwCl ([oX6 a_o a_o_nameHashes a_o_keyHashes a_o_serials x_o_count, rJ q a_o_keyHashes 8 r_o_keyHashes, rJ q a_o_nameHashes 8 r_o_nameHashes_3, rI q a_o_serials 8 r_o_serials]) H := by rw [e_r_o_nameHashes_3]; exact hP
    have hD : va_D A ([oX6 a_o a_o_nameHashes a_o_keyHashes a_o_serials x_o_count, rJ q a_o_keyHashes 8 r_o_keyHashes, rJ q a_o_nameHashes 8 r_o_nameHashes_3, rI q a_o_serials 8 r_o_serials]) := by rw [e_r_o_nameHashes_3]; exact hD
    refine lv_aload_n hx hb dX6_add_19 rfl (lv_at hl 0 rfl) ?_
    refine va_get (D := D) (ci := 6) (v := .ref a_o_keyHashes) (C := RX6) (T := TX6) (N := 4) hx hb hts iw_X6 hown hK hP 0 rfl rfl 1 (by decide) (hts _ kw_166) (fun _ h9 => h9) rfl dX6_add_20 ?_
    refine lv_aload_n hx hb dX6_add_23 rfl (lv_at hl 0 rfl) ?_
    refine va_get (D := D) (ci := 6) (v := .int x_o_count) (C := RX6) (T := TX6) (N := 4) hx hb hts iw_X6 hown hK hP 0 rfl rfl 3 (by decide) (hts _ kw_171) (fun _ h9 => h9) rfl dX6_add_24 ?_
    refine lv_lload_n hx hb dX6_add_27 rfl (lv_at hl 2 rfl) ?_
    obtain ⟨z_4, hF⟩ := chk_d hF
    refine va_last hx hb hK hP hD hS 1 2 rfl rfl z_4 dX6_add_28 (fun H locs hP hD hS => ?_)
    obtain ⟨r_o_keyHashes_5, e_r_o_keyHashes_5⟩ : ∃ z : (Nat → Int64), z = vp_updL r_o_keyHashes x_o_count.toNatClampNeg p_1 := ⟨_, rfl⟩
    replace hF := bnd_d hF e_r_o_keyHashes_5
    have hP : va_P D vwCl ([oX6 a_o a_o_nameHashes a_o_keyHashes a_o_serials x_o_count, rJ q a_o_keyHashes 8 r_o_keyHashes_5, rJ q a_o_nameHashes 8 r_o_nameHashes_3, rI q a_o_serials 8 r_o_serials]) H := by rw [e_r_o_keyHashes_5]; exact hP
    have hD : va_D A ([oX6 a_o a_o_nameHashes a_o_keyHashes a_o_serials x_o_count, rJ q a_o_keyHashes 8 r_o_keyHashes_5, rJ q a_o_nameHashes 8 r_o_nameHashes_3, rI q a_o_serials 8 r_o_serials]) := by rw [e_r_o_keyHashes_5]; exact hD
    refine lv_aload_n hx hb dX6_add_29 rfl (lv_at hl 0 rfl) ?_
    refine va_get (D := D) (ci := 6) (v := .ref a_o_serials) (C := RX6) (T := TX6) (N := 4) hx hb hts iw_X6 hown hK hP 0 rfl rfl 2 (by decide) (hts _ kw_168) (fun _ h9 => h9) rfl dX6_add_30 ?_
    refine lv_aload_n hx hb dX6_add_33 rfl (lv_at hl 0 rfl) ?_
    refine va_get (D := D) (ci := 6) (v := .int x_o_count) (C := RX6) (T := TX6) (N := 4) hx hb hts iw_X6 hown hK hP 0 rfl rfl 3 (by decide) (hts _ kw_171) (fun _ h9 => h9) rfl dX6_add_34 ?_
    refine lv_iload hx hb dX6_add_37 (lv_at hl 3 rfl) ?_
    obtain ⟨z_6, hF⟩ := chk_d hF
    refine va_iast hx hb hK hP hD hS 3 1 rfl rfl z_6 dX6_add_39 (fun H locs hP hD hS => ?_)
    obtain ⟨r_o_serials_7, e_r_o_serials_7⟩ : ∃ z : (Nat → Int32), z = upd r_o_serials x_o_count.toNatClampNeg p_2 := ⟨_, rfl⟩
    replace hF := bnd_d hF e_r_o_serials_7
    have hP : va_P D vwCl ([oX6 a_o a_o_nameHashes a_o_keyHashes a_o_serials x_o_count, rJ q a_o_keyHashes 8 r_o_keyHashes_5, rJ q a_o_nameHashes 8 r_o_nameHashes_3, rI q a_o_serials 8 r_o_serials_7]) H := by rw [e_r_o_serials_7]; exact hP
    have hD : va_D A ([oX6 a_o a_o_nameHashes a_o_keyHashes a_o_serials x_o_count, rJ q a_o_keyHashes 8 r_o_keyHashes_5, rJ q a_o_nameHashes 8 r_o_nameHashes_3, rI q a_o_serials 8 r_o_serials_7]) := by rw [e_r_o_serials_7]; exact hD
    refine lv_aload_n hx hb dX6_add_40 rfl (lv_at hl 0 rfl) ?_
    refine lv_dup hx hb dX6_add_41 rfl ?_
    refine va_get (D := D) (ci := 6) (v := .int x_o_count) (C := RX6) (T := TX6) (N := 4) hx hb hts iw_X6 hown hK hP 0 rfl rfl 3 (by decide) (hts _ kw_171) (fun _ h9 => h9) rfl dX6_add_42 ?_
    refine lv_iconst (v := (1 : Int32)) hx hb dX6_add_45 (by decide) ?_
    refine lv_iadd hx hb dX6_add_46 ?_
    refine lv_topi (fun x_o_count_8 e_x_o_count_8 => ?_)
    replace hF := bnd_d hF e_x_o_count_8
    refine va_put (D := D) (ci := 6) (v := .int x_o_count_8) (ty := .int) (C := RX6) (T := TX6) (N := 4) hx hb hts iw_X6 tyX6 tyX6_ok nmX6 hown hK hP hD hS 0 rfl rfl 3 (by decide) (hts _ kw_171) (fun _ h9 => h9) rfl (by decide +kernel) rfl rfl (Nat.le_of_ble_eq_true rfl) dX6_add_47 (fun H locs hP hD hS => ?_)
    have hP : va_P D vwCl ([oX6 a_o a_o_nameHashes a_o_keyHashes a_o_serials x_o_count_8, rJ q a_o_keyHashes 8 r_o_keyHashes_5, rJ q a_o_nameHashes 8 r_o_nameHashes_3, rI q a_o_serials 8 r_o_serials_7]) H := hP
    have hD : va_D A ([oX6 a_o a_o_nameHashes a_o_keyHashes a_o_serials x_o_count_8, rJ q a_o_keyHashes 8 r_o_keyHashes_5, rJ q a_o_nameHashes 8 r_o_nameHashes_3, rI q a_o_serials 8 r_o_serials_7]) := hD
    have hy9 := (Option.some.inj hF).symm
    subst hy9
    exact rt_v C0.1 hP hD hS dX6_add_50
set_option maxHeartbeats 4000000 in
set_option maxRecDepth 100000 in
theorem c_id_read (l : Launch) (D : va_G) (q : Nat → ClassId) (t : Nat) (a_o : Nat) (x_o_count : Int32) (a_o_keyHashes : Nat) (r_o_keyHashes : (Nat → Int64)) (a_o_nameHashes : Nat) (r_o_nameHashes : (Nat → Int64)) (a_o_serials : Nat) (r_o_serials : (Nat → Int32)) (a_p0 : Nat) (x_p0_depth : Int32) (x_p0_end : Int32) (x_p0_at : Int32) (x_p0_place : Int32) (x_p0_size : Int32) (x_p0_fault : Int32) (x_p0_items : Int32) (a_p0_data : Nat) (n_p0_data : Nat) (r_p0_data : (Nat → Int32)) (a_p0_outerEnds : Nat) (r_p0_outerEnds : (Nat → Int32))  (y : Int32 × (Nat → Int64) × (Nat → Int64) × (Nat → Int32) × Int32 × Int32 × Int32 × Int32 × Int32 × (Nat → Int32) × Int32 × Int32) (hF : f_id_read x_o_count r_o_keyHashes r_o_nameHashes r_o_serials x_p0_at r_p0_data x_p0_depth x_p0_end x_p0_fault x_p0_items r_p0_outerEnds x_p0_place x_p0_size n_p0_data = some y)  : cu l yX6_read (vs yX6_read cX6_read 7 none) ({ frames := 3, cells := 0, slots := 0, locals := 75 }) D q t [.ref a_o, .ref a_p0] [oX6 a_o a_o_nameHashes a_o_keyHashes a_o_serials x_o_count, rJ q a_o_keyHashes 8 r_o_keyHashes, rJ q a_o_nameHashes 8 r_o_nameHashes, rI q a_o_serials 8 r_o_serials, oX8 a_p0 a_p0_outerEnds a_p0_data x_p0_depth x_p0_end x_p0_at x_p0_place x_p0_size x_p0_fault x_p0_items, rB q a_p0_data n_p0_data r_p0_data, rI q a_p0_outerEnds 12 r_p0_outerEnds] (qV D q [oX6 a_o a_o_nameHashes a_o_keyHashes a_o_serials y.1, rJ q a_o_keyHashes 8 y.2.1, rJ q a_o_nameHashes 8 y.2.2.1, rI q a_o_serials 8 y.2.2.2.1, oX8 a_p0 a_p0_outerEnds a_p0_data y.2.2.2.2.2.1 y.2.2.2.2.2.2.1 y.2.2.2.2.1 y.2.2.2.2.2.2.2.2.2.2.1 y.2.2.2.2.2.2.2.2.2.2.2 y.2.2.2.2.2.2.2.1 y.2.2.2.2.2.2.2.2.1, rB q a_p0_data n_p0_data r_p0_data, rI q a_p0_outerEnds 12 y.2.2.2.2.2.2.2.2.2.1]) := by
  refine cu_of (cc := cX6_read) (nL := 7) (ret := none) (by decide) (Nat.le_of_ble_eq_true rfl) (fun {p e s m args below meth c A} C0 H locs ls hP hD hS hl => ?_)
  have C0 : cy p s m args meth c cX6_read none 7 RX6 D q t A := C0
  obtain ⟨⟨hx, hb, hr, hml, hown, hts, hlocks, hK, hA⟩, hG⟩ := id C0
  have hl : lv_has ls 7 [(0, .ref a_o), (1, .ref a_p0)] := hl
  unfold f_id_read at hF
  refine lv_aload_n hx hb dX6_read_0 rfl (lv_at hl 1 rfl) ?_
  refine lv_bipush (v := (48 : Int32)) hx hb dX6_read_1 (by decide) ?_
  obtain ⟨y_1, hy_1, hF⟩ := cal_d hF
  refine cf_v C0.1 hP hD hS [4, 5, 6] [0, 1, 2, 3] [0, 1, 2, 3, 4, 5, 6] (wr := [oX6 a_o a_o_nameHashes a_o_keyHashes a_o_serials x_o_count, rJ q a_o_keyHashes 8 r_o_keyHashes, rJ q a_o_nameHashes 8 r_o_nameHashes, rI q a_o_serials 8 r_o_serials]) (w' := [oX6 a_o a_o_nameHashes a_o_keyHashes a_o_serials x_o_count, rJ q a_o_keyHashes 8 r_o_keyHashes, rJ q a_o_nameHashes 8 r_o_nameHashes, rI q a_o_serials 8 r_o_serials, oX8 a_p0 a_p0_outerEnds a_p0_data y_1.2.1 y_1.2.2.1 y_1.1 y_1.2.2.2.2.2.2.1 y_1.2.2.2.2.2.2.2 y_1.2.2.2.1 y_1.2.2.2.2.1, rB q a_p0_data n_p0_data r_p0_data, rI q a_p0_outerEnds 12 y_1.2.2.2.2.2.1]) rfl rfl rfl (by decide) rfl rfl (sn_V (As := [.int (48 : Int32)]) (rest := []) (ci := 7) (q0 := 4) C0 (c_sc_open l D q t a_p0 x_p0_depth x_p0_end x_p0_at x_p0_place x_p0_size x_p0_fault x_p0_items a_p0_data n_p0_data r_p0_data a_p0_outerEnds r_p0_outerEnds (48 : Int32) y_1 hy_1) (cwV 1 hts (g_V kw_824 kw_797 kw_798 kw_77 kw_799) rfl rfl rfl hd_X8_open ⟨Nat.le_of_ble_eq_true rfl, Nat.le_of_ble_eq_true rfl⟩) hP hD hS [4, 5, 6] rfl rfl rfl rfl rfl rfl hl (Nat.le_of_ble_eq_true rfl) dX6_read_3) (fun H locs hP hD hS => ?_)
  refine lv_aload_n hx hb dX6_read_6 rfl (lv_at hl 1 rfl) ?_
  obtain ⟨y_2, hy_2, hF⟩ := cal_d hF
  refine cf_l C0.1 hP hD hS [4, 5] [0, 1, 2, 3, 6] [0, 1, 2, 3, 5, 6, 4] (wr := [oX6 a_o a_o_nameHashes a_o_keyHashes a_o_serials x_o_count, rJ q a_o_keyHashes 8 r_o_keyHashes, rJ q a_o_nameHashes 8 r_o_nameHashes, rI q a_o_serials 8 r_o_serials, rI q a_p0_outerEnds 12 y_1.2.2.2.2.2.1]) (w' := [oX6 a_o a_o_nameHashes a_o_keyHashes a_o_serials x_o_count, rJ q a_o_keyHashes 8 r_o_keyHashes, rJ q a_o_nameHashes 8 r_o_nameHashes, rI q a_o_serials 8 r_o_serials, oX8 a_p0 a_p0_outerEnds a_p0_data y_1.2.1 y_1.2.2.1 y_2.2.1 y_2.2.2.2.2.1 y_2.2.2.2.2.2 y_2.2.2.1 y_2.2.2.2.1, rB q a_p0_data n_p0_data r_p0_data, rI q a_p0_outerEnds 12 y_1.2.2.2.2.2.1]) rfl rfl rfl (by decide) rfl rfl (sn_V (As := []) (rest := []) (ci := 7) (q0 := 4) C0 (c_sc_readHash l D q t a_p0 a_p0_outerEnds y_1.2.1 y_1.2.2.1 y_1.1 y_1.2.2.2.2.2.2.1 y_1.2.2.2.2.2.2.2 y_1.2.2.2.1 y_1.2.2.2.2.1 a_p0_data n_p0_data r_p0_data  y_2 hy_2) (cwV 0 hts (g_V kw_825 kw_826 kw_827 kw_77 kw_828) rfl rfl rfl hd_X8_readHash ⟨Nat.le_of_ble_eq_true rfl, Nat.le_of_ble_eq_true rfl⟩) hP hD hS [4, 5] rfl rfl rfl rfl rfl rfl hl (Nat.le_of_ble_eq_true rfl) dX6_read_7) (fun H locs hP hD hS => ?_)
  refine lv_topl (fun v2_3 e_v2_3 => ?_)
  replace hF := bnd_d hF e_v2_3
  refine lv_lstore_n (lv' := [(2, .long v2_3), (0, .ref a_o), (1, .ref a_p0)]) hx hb dX6_read_10 rfl hl (by decide) rfl (fun ls hl => ?_)
  refine lv_aload_n hx hb dX6_read_11 rfl (lv_at hl 2 rfl) ?_
  obtain ⟨y_4, hy_4, hF⟩ := cal_d hF
  refine cf_l C0.1 hP hD hS [4, 5] [0, 1, 2, 3, 6] [0, 1, 2, 3, 5, 6, 4] (wr := [oX6 a_o a_o_nameHashes a_o_keyHashes a_o_serials x_o_count, rJ q a_o_keyHashes 8 r_o_keyHashes, rJ q a_o_nameHashes 8 r_o_nameHashes, rI q a_o_serials 8 r_o_serials, rI q a_p0_outerEnds 12 y_1.2.2.2.2.2.1]) (w' := [oX6 a_o a_o_nameHashes a_o_keyHashes a_o_serials x_o_count, rJ q a_o_keyHashes 8 r_o_keyHashes, rJ q a_o_nameHashes 8 r_o_nameHashes, rI q a_o_serials 8 r_o_serials, oX8 a_p0 a_p0_outerEnds a_p0_data y_1.2.1 y_1.2.2.1 y_4.2.1 y_4.2.2.2.2.1 y_4.2.2.2.2.2 y_4.2.2.1 y_4.2.2.2.1, rB q a_p0_data n_p0_data r_p0_data, rI q a_p0_outerEnds 12 y_1.2.2.2.2.2.1]) rfl rfl rfl (by decide) rfl rfl (sn_V (As := []) (rest := []) (ci := 7) (q0 := 4) C0 (c_sc_readHash l D q t a_p0 a_p0_outerEnds y_1.2.1 y_1.2.2.1 y_2.2.1 y_2.2.2.2.2.1 y_2.2.2.2.2.2 y_2.2.2.1 y_2.2.2.2.1 a_p0_data n_p0_data r_p0_data  y_4 hy_4) (cwV 0 hts (g_V kw_825 kw_826 kw_827 kw_77 kw_828) rfl rfl rfl hd_X8_readHash ⟨Nat.le_of_ble_eq_true rfl, Nat.le_of_ble_eq_true rfl⟩) hP hD hS [4, 5] rfl rfl rfl rfl rfl rfl hl (Nat.le_of_ble_eq_true rfl) dX6_read_12) (fun H locs hP hD hS => ?_)
  refine lv_topl (fun v4_5 e_v4_5 => ?_)
  replace hF := bnd_d hF e_v4_5
  refine lv_lstore (lv' := [(4, .long v4_5), (2, .long v2_3), (0, .ref a_o), (1, .ref a_p0)]) hx hb dX6_read_15 hl (by decide) rfl (fun ls hl => ?_)
  refine lv_aload_n hx hb dX6_read_17 rfl (lv_at hl 3 rfl) ?_
  refine lv_lconst (v := (0 : Int64)) hx hb dX6_read_18 (by decide) ?_
  refine lv_ldc2 (v := (2147483647 : Int64)) hx hb hown (hts _ kw_833) dX6_read_19 ?_
  obtain ⟨y_6, hy_6, hF⟩ := cal_d hF
  refine cf_l C0.1 hP hD hS [4, 5] [0, 1, 2, 3, 6] [0, 1, 2, 3, 5, 6, 4] (wr := [oX6 a_o a_o_nameHashes a_o_keyHashes a_o_serials x_o_count, rJ q a_o_keyHashes 8 r_o_keyHashes, rJ q a_o_nameHashes 8 r_o_nameHashes, rI q a_o_serials 8 r_o_serials, rI q a_p0_outerEnds 12 y_1.2.2.2.2.2.1]) (w' := [oX6 a_o a_o_nameHashes a_o_keyHashes a_o_serials x_o_count, rJ q a_o_keyHashes 8 r_o_keyHashes, rJ q a_o_nameHashes 8 r_o_nameHashes, rI q a_o_serials 8 r_o_serials, oX8 a_p0 a_p0_outerEnds a_p0_data y_1.2.1 y_1.2.2.1 y_6.2.1 y_6.2.2.2.2.1 y_6.2.2.2.2.2 y_6.2.2.1 y_6.2.2.2.1, rB q a_p0_data n_p0_data r_p0_data, rI q a_p0_outerEnds 12 y_1.2.2.2.2.2.1]) rfl rfl rfl (by decide) rfl rfl (sn_V (As := [.long (0 : Int64), .long (2147483647 : Int64)]) (rest := []) (ci := 7) (q0 := 4) C0 (c_sc_readInteger l D q t a_p0 a_p0_outerEnds y_1.2.1 y_1.2.2.1 y_4.2.1 y_4.2.2.2.2.1 y_4.2.2.2.2.2 y_4.2.2.1 y_4.2.2.2.1 a_p0_data n_p0_data r_p0_data (0 : Int64) (2147483647 : Int64) y_6 hy_6) (cwV 2 hts (g_V kw_834 kw_835 kw_836 kw_77 kw_837) rfl rfl rfl hd_X8_readInteger ⟨Nat.le_of_ble_eq_true rfl, Nat.le_of_ble_eq_true rfl⟩) hP hD hS [4, 5] rfl rfl rfl rfl rfl rfl hl (Nat.le_of_ble_eq_true rfl) dX6_read_22) (fun H locs hP hD hS => ?_)
  refine lv_l2i hx hb dX6_read_25 rfl ?_
  refine lv_topi (fun v6_7 e_v6_7 => ?_)
  replace hF := bnd_d hF e_v6_7
  refine lv_istore (lv' := [(6, .int v6_7), (4, .long v4_5), (2, .long v2_3), (0, .ref a_o), (1, .ref a_p0)]) hx hb dX6_read_26 hl (by decide) rfl (fun ls hl => ?_)
  refine lv_aload_n hx hb dX6_read_28 rfl (lv_at hl 4 rfl) ?_
  obtain ⟨y_8, hy_8, hF⟩ := cal_d hF
  refine cf_v C0.1 hP hD hS [4, 6] [0, 1, 2, 3, 5] [0, 1, 2, 3, 5, 4, 6] (wr := [oX6 a_o a_o_nameHashes a_o_keyHashes a_o_serials x_o_count, rJ q a_o_keyHashes 8 r_o_keyHashes, rJ q a_o_nameHashes 8 r_o_nameHashes, rI q a_o_serials 8 r_o_serials, rB q a_p0_data n_p0_data r_p0_data]) (w' := [oX6 a_o a_o_nameHashes a_o_keyHashes a_o_serials x_o_count, rJ q a_o_keyHashes 8 r_o_keyHashes, rJ q a_o_nameHashes 8 r_o_nameHashes, rI q a_o_serials 8 r_o_serials, oX8 a_p0 a_p0_outerEnds a_p0_data y_8.1 y_8.2.1 y_6.2.1 y_8.2.2.2.1 y_8.2.2.2.2 y_8.2.2.1 y_6.2.2.2.1, rB q a_p0_data n_p0_data r_p0_data, rI q a_p0_outerEnds 12 y_1.2.2.2.2.2.1]) rfl rfl rfl (by decide) rfl rfl (sn_V (As := []) (rest := []) (ci := 7) (q0 := 4) C0 (c_sc_close l D q t a_p0 a_p0_data y_1.2.1 y_1.2.2.1 y_6.2.1 y_6.2.2.2.2.1 y_6.2.2.2.2.2 y_6.2.2.1 y_6.2.2.2.1 a_p0_outerEnds y_1.2.2.2.2.2.1  y_8 hy_8) (cwV 0 hts (g_V kw_838 kw_839 kw_840 kw_77 kw_841) rfl rfl rfl hd_X8_close ⟨Nat.le_of_ble_eq_true rfl, Nat.le_of_ble_eq_true rfl⟩) hP hD hS [4, 6] rfl rfl rfl rfl rfl rfl hl (Nat.le_of_ble_eq_true rfl) dX6_read_29) (fun H locs hP hD hS => ?_)
  refine lv_aload_n hx hb dX6_read_32 rfl (lv_at hl 3 rfl) ?_
  refine lv_lload_n hx hb dX6_read_33 rfl (lv_at hl 2 rfl) ?_
  refine lv_lload hx hb dX6_read_34 (lv_at hl 1 rfl) ?_
  refine lv_iload hx hb dX6_read_36 (lv_at hl 0 rfl) ?_
  obtain ⟨y_9, hy_9, hF⟩ := cal_d hF
  refine cf_v C0.1 hP hD hS [0, 1, 2, 3] [4, 5, 6] [3, 4, 5, 6, 0, 1, 2] (wr := [oX8 a_p0 a_p0_outerEnds a_p0_data y_8.1 y_8.2.1 y_6.2.1 y_8.2.2.2.1 y_8.2.2.2.2 y_8.2.2.1 y_6.2.2.2.1, rB q a_p0_data n_p0_data r_p0_data, rI q a_p0_outerEnds 12 y_1.2.2.2.2.2.1]) (w' := [oX6 a_o a_o_nameHashes a_o_keyHashes a_o_serials y_9.1, rJ q a_o_keyHashes 8 y_9.2.1, rJ q a_o_nameHashes 8 y_9.2.2.1, rI q a_o_serials 8 y_9.2.2.2, oX8 a_p0 a_p0_outerEnds a_p0_data y_8.1 y_8.2.1 y_6.2.1 y_8.2.2.2.1 y_8.2.2.2.2 y_8.2.2.1 y_6.2.2.2.1, rB q a_p0_data n_p0_data r_p0_data, rI q a_p0_outerEnds 12 y_1.2.2.2.2.2.1]) rfl rfl rfl (by decide) rfl rfl (sn_V (As := [.long v2_3, .long v4_5, .int v6_7]) (rest := []) (ci := 6) (q0 := 0) C0 (c_id_add l D q t a_o x_o_count a_o_keyHashes r_o_keyHashes a_o_nameHashes r_o_nameHashes a_o_serials r_o_serials v2_3 v4_5 v6_7 y_9 hy_9) (cwV 3 hts (g_V kw_847 kw_749 kw_750 kw_76 kw_751) rfl rfl rfl hd_X6_add ⟨Nat.le_of_ble_eq_true rfl, Nat.le_of_ble_eq_true rfl⟩) hP hD hS [0, 1, 2, 3] rfl rfl rfl rfl rfl rfl hl (Nat.le_of_ble_eq_true rfl) dX6_read_38) (fun H locs hP hD hS => ?_)
  have hy9 := (Option.some.inj hF).symm
  subst hy9
  exact rt_v C0.1 hP hD hS dX6_read_41
set_option maxHeartbeats 4000000 in
set_option maxRecDepth 100000 in
theorem c_an_readSingle (l : Launch) (D : va_G) (q : Nat → ClassId) (t : Nat) (a_o : Nat) (a_o_cert : Nat) (x_o_status : Int32) (x_o_hasCert : Int32) (x_o_bodyPlace : Int32) (x_o_bodyEnd : Int32) (x_o_signature : Int64) (x_o_isByName : Int32) (x_o_tellerPlace : Int32) (x_o_tellerSize : Int32) (x_o_tellerHash : Int64) (x_o_noncePlace : Int32) (x_o_nonceSize : Int32) (a_o_from : Nat) (r_o_from : (Nat → Int64)) (a_o_ids : Nat) (x_o_ids_count : Int32) (a_o_next : Nat) (r_o_next : (Nat → Int64)) (a_o_reasons : Nat) (r_o_reasons : (Nat → Int32)) (a_o_since : Nat) (r_o_since : (Nat → Int64)) (a_o_states : Nat) (r_o_states : (Nat → Int32)) (a_o_ids_keyHashes : Nat) (r_o_ids_keyHashes : (Nat → Int64)) (a_o_ids_nameHashes : Nat) (r_o_ids_nameHashes : (Nat → Int64)) (a_o_ids_serials : Nat) (r_o_ids_serials : (Nat → Int32)) (a_p0 : Nat) (x_p0_depth : Int32) (x_p0_end : Int32) (x_p0_at : Int32) (x_p0_place : Int32) (x_p0_size : Int32) (x_p0_fault : Int32) (x_p0_items : Int32) (a_p0_data : Nat) (n_p0_data : Nat) (r_p0_data : (Nat → Int32)) (a_p0_outerEnds : Nat) (r_p0_outerEnds : (Nat → Int32)) (p_1 : Int32) (y : (Nat → Int64) × Int32 × (Nat → Int64) × (Nat → Int64) × (Nat → Int32) × (Nat → Int64) × (Nat → Int32) × (Nat → Int64) × (Nat → Int32) × Int32 × Int32 × Int32 × Int32 × Int32 × (Nat → Int32) × Int32 × Int32) (hF : f_an_readSingle r_o_from x_o_ids_count r_o_ids_keyHashes r_o_ids_nameHashes r_o_ids_serials r_o_next r_o_reasons r_o_since r_o_states x_p0_at r_p0_data x_p0_depth x_p0_end x_p0_fault x_p0_items r_p0_outerEnds x_p0_place x_p0_size n_p0_data p_1 = some y)  : cu l yX0_readSingle (vs yX0_readSingle cX0_readSingle 3 none) ({ frames := 4, cells := 0, slots := 0, locals := 101 }) D q t [.ref a_o, .ref a_p0, .int p_1] [oX0 a_o a_o_ids a_o_states a_o_since a_o_reasons a_o_from a_o_next a_o_cert x_o_status x_o_hasCert x_o_bodyPlace x_o_bodyEnd x_o_signature x_o_isByName x_o_tellerPlace x_o_tellerSize x_o_tellerHash x_o_noncePlace x_o_nonceSize, rJ q a_o_from 8 r_o_from, oX6 a_o_ids a_o_ids_nameHashes a_o_ids_keyHashes a_o_ids_serials x_o_ids_count, rJ q a_o_next 8 r_o_next, rI q a_o_reasons 8 r_o_reasons, rJ q a_o_since 8 r_o_since, rI q a_o_states 8 r_o_states, rJ q a_o_ids_keyHashes 8 r_o_ids_keyHashes, rJ q a_o_ids_nameHashes 8 r_o_ids_nameHashes, rI q a_o_ids_serials 8 r_o_ids_serials, oX8 a_p0 a_p0_outerEnds a_p0_data x_p0_depth x_p0_end x_p0_at x_p0_place x_p0_size x_p0_fault x_p0_items, rB q a_p0_data n_p0_data r_p0_data, rI q a_p0_outerEnds 12 r_p0_outerEnds] (qV D q [oX0 a_o a_o_ids a_o_states a_o_since a_o_reasons a_o_from a_o_next a_o_cert x_o_status x_o_hasCert x_o_bodyPlace x_o_bodyEnd x_o_signature x_o_isByName x_o_tellerPlace x_o_tellerSize x_o_tellerHash x_o_noncePlace x_o_nonceSize, rJ q a_o_from 8 y.1, oX6 a_o_ids a_o_ids_nameHashes a_o_ids_keyHashes a_o_ids_serials y.2.1, rJ q a_o_next 8 y.2.2.2.2.2.1, rI q a_o_reasons 8 y.2.2.2.2.2.2.1, rJ q a_o_since 8 y.2.2.2.2.2.2.2.1, rI q a_o_states 8 y.2.2.2.2.2.2.2.2.1, rJ q a_o_ids_keyHashes 8 y.2.2.1, rJ q a_o_ids_nameHashes 8 y.2.2.2.1, rI q a_o_ids_serials 8 y.2.2.2.2.1, oX8 a_p0 a_p0_outerEnds a_p0_data y.2.2.2.2.2.2.2.2.2.2.1 y.2.2.2.2.2.2.2.2.2.2.2.1 y.2.2.2.2.2.2.2.2.2.1 y.2.2.2.2.2.2.2.2.2.2.2.2.2.2.2.1 y.2.2.2.2.2.2.2.2.2.2.2.2.2.2.2.2 y.2.2.2.2.2.2.2.2.2.2.2.2.1 y.2.2.2.2.2.2.2.2.2.2.2.2.2.1, rB q a_p0_data n_p0_data r_p0_data, rI q a_p0_outerEnds 12 y.2.2.2.2.2.2.2.2.2.2.2.2.2.2.1]) := by
  refine cu_of (cc := cX0_readSingle) (nL := 3) (ret := none) (by decide) (Nat.le_of_ble_eq_true rfl) (fun {p e s m args below meth c A} C0 H locs ls hP hD hS hl => ?_)
  have C0 : cy p s m args meth c cX0_readSingle none 3 RX0 D q t A := C0
  obtain ⟨⟨hx, hb, hr, hml, hown, hts, hlocks, hK, hA⟩, hG⟩ := id C0
  have hl : lv_has ls 3 [(0, .ref a_o), (1, .ref a_p0), (2, .int p_1)] := hl
  unfold f_an_readSingle at hF
  refine lv_iload_n hx hb dX0_readSingle_0 rfl (lv_at hl 2 rfl) ?_
  refine lv_if_lt (tgt := 10) hx hb dX0_readSingle_1 (by decide) (fun c_1 => ?_) (fun c_1 => ?_)
  · replace hF := ite_t hF c_1
    have hy9 := (Option.some.inj hF).symm
    subst hy9
    exact rt_v C0.1 hP hD hS dX0_readSingle_10
  · replace hF := ite_f hF c_1
    refine lv_iload_n hx hb dX0_readSingle_4 rfl (lv_at hl 2 rfl) ?_
    refine lv_bipush (v := (8 : Int32)) hx hb dX0_readSingle_5 (by decide) ?_
    refine lv_icmp_lt (tgt := 11) hx hb dX0_readSingle_7 (by decide) (fun c_2 => ?_) (fun c_2 => ?_)
    · replace hF := ite_t hF c_2
      refine lv_aload_n hx hb dX0_readSingle_11 rfl (lv_at hl 1 rfl) ?_
      refine lv_bipush (v := (48 : Int32)) hx hb dX0_readSingle_12 (by decide) ?_
      obtain ⟨y_3, hy_3, hF⟩ := cal_d hF
      refine cf_v C0.1 hP hD hS [10, 11, 12] [0, 1, 2, 3, 4, 5, 6, 7, 8, 9] [0, 1, 2, 3, 4, 5, 6, 7, 8, 9, 10, 11, 12] (wr := [oX0 a_o a_o_ids a_o_states a_o_since a_o_reasons a_o_from a_o_next a_o_cert x_o_status x_o_hasCert x_o_bodyPlace x_o_bodyEnd x_o_signature x_o_isByName x_o_tellerPlace x_o_tellerSize x_o_tellerHash x_o_noncePlace x_o_nonceSize, rJ q a_o_from 8 r_o_from, oX6 a_o_ids a_o_ids_nameHashes a_o_ids_keyHashes a_o_ids_serials x_o_ids_count, rJ q a_o_next 8 r_o_next, rI q a_o_reasons 8 r_o_reasons, rJ q a_o_since 8 r_o_since, rI q a_o_states 8 r_o_states, rJ q a_o_ids_keyHashes 8 r_o_ids_keyHashes, rJ q a_o_ids_nameHashes 8 r_o_ids_nameHashes, rI q a_o_ids_serials 8 r_o_ids_serials]) (w' := [oX0 a_o a_o_ids a_o_states a_o_since a_o_reasons a_o_from a_o_next a_o_cert x_o_status x_o_hasCert x_o_bodyPlace x_o_bodyEnd x_o_signature x_o_isByName x_o_tellerPlace x_o_tellerSize x_o_tellerHash x_o_noncePlace x_o_nonceSize, rJ q a_o_from 8 r_o_from, oX6 a_o_ids a_o_ids_nameHashes a_o_ids_keyHashes a_o_ids_serials x_o_ids_count, rJ q a_o_next 8 r_o_next, rI q a_o_reasons 8 r_o_reasons, rJ q a_o_since 8 r_o_since, rI q a_o_states 8 r_o_states, rJ q a_o_ids_keyHashes 8 r_o_ids_keyHashes, rJ q a_o_ids_nameHashes 8 r_o_ids_nameHashes, rI q a_o_ids_serials 8 r_o_ids_serials, oX8 a_p0 a_p0_outerEnds a_p0_data y_3.2.1 y_3.2.2.1 y_3.1 y_3.2.2.2.2.2.2.1 y_3.2.2.2.2.2.2.2 y_3.2.2.2.1 y_3.2.2.2.2.1, rB q a_p0_data n_p0_data r_p0_data, rI q a_p0_outerEnds 12 y_3.2.2.2.2.2.1]) rfl rfl rfl (by decide) rfl rfl (sn_V (As := [.int (48 : Int32)]) (rest := []) (ci := 7) (q0 := 10) C0 (c_sc_open l D q t a_p0 x_p0_depth x_p0_end x_p0_at x_p0_place x_p0_size x_p0_fault x_p0_items a_p0_data n_p0_data r_p0_data a_p0_outerEnds r_p0_outerEnds (48 : Int32) y_3 hy_3) (cwV 1 hts (g_V kw_904 kw_797 kw_798 kw_77 kw_799) rfl rfl rfl hd_X8_open ⟨Nat.le_of_ble_eq_true rfl, Nat.le_of_ble_eq_true rfl⟩) hP hD hS [10, 11, 12] rfl rfl rfl rfl rfl rfl hl (Nat.le_of_ble_eq_true rfl) dX0_readSingle_14) (fun H locs hP hD hS => ?_)
      refine lv_aload_n hx hb dX0_readSingle_17 rfl (lv_at hl 0 rfl) ?_
      refine va_get (D := D) (ci := 0) (v := .ref a_o_ids) (C := RX0) (T := TX0) (N := 18) hx hb hts iw_X0 hown hK hP 0 rfl rfl 0 (by decide) (hts _ kw_314) (fun _ h9 => h9) rfl dX0_readSingle_18 ?_
      refine lv_aload_n hx hb dX0_readSingle_21 rfl (lv_at hl 1 rfl) ?_
      obtain ⟨y_4, hy_4, hF⟩ := cal_d hF
      refine cf_v C0.1 hP hD hS [2, 7, 8, 9, 10, 11, 12] [0, 1, 3, 4, 5, 6] [0, 1, 6, 2, 3, 4, 5, 7, 8, 9, 10, 11, 12] (wr := [oX0 a_o a_o_ids a_o_states a_o_since a_o_reasons a_o_from a_o_next a_o_cert x_o_status x_o_hasCert x_o_bodyPlace x_o_bodyEnd x_o_signature x_o_isByName x_o_tellerPlace x_o_tellerSize x_o_tellerHash x_o_noncePlace x_o_nonceSize, rJ q a_o_from 8 r_o_from, rJ q a_o_next 8 r_o_next, rI q a_o_reasons 8 r_o_reasons, rJ q a_o_since 8 r_o_since, rI q a_o_states 8 r_o_states]) (w' := [oX0 a_o a_o_ids a_o_states a_o_since a_o_reasons a_o_from a_o_next a_o_cert x_o_status x_o_hasCert x_o_bodyPlace x_o_bodyEnd x_o_signature x_o_isByName x_o_tellerPlace x_o_tellerSize x_o_tellerHash x_o_noncePlace x_o_nonceSize, rJ q a_o_from 8 r_o_from, oX6 a_o_ids a_o_ids_nameHashes a_o_ids_keyHashes a_o_ids_serials y_4.1, rJ q a_o_next 8 r_o_next, rI q a_o_reasons 8 r_o_reasons, rJ q a_o_since 8 r_o_since, rI q a_o_states 8 r_o_states, rJ q a_o_ids_keyHashes 8 y_4.2.1, rJ q a_o_ids_nameHashes 8 y_4.2.2.1, rI q a_o_ids_serials 8 y_4.2.2.2.1, oX8 a_p0 a_p0_outerEnds a_p0_data y_4.2.2.2.2.2.1 y_4.2.2.2.2.2.2.1 y_4.2.2.2.2.1 y_4.2.2.2.2.2.2.2.2.2.2.1 y_4.2.2.2.2.2.2.2.2.2.2.2 y_4.2.2.2.2.2.2.2.1 y_4.2.2.2.2.2.2.2.2.1, rB q a_p0_data n_p0_data r_p0_data, rI q a_p0_outerEnds 12 y_4.2.2.2.2.2.2.2.2.2.1]) rfl rfl rfl (by decide) rfl rfl (sn_V (As := [.ref a_p0]) (rest := []) (ci := 6) (q0 := 2) C0 (c_id_read l D q t a_o_ids x_o_ids_count a_o_ids_keyHashes r_o_ids_keyHashes a_o_ids_nameHashes r_o_ids_nameHashes a_o_ids_serials r_o_ids_serials a_p0 y_3.2.1 y_3.2.2.1 y_3.1 y_3.2.2.2.2.2.2.1 y_3.2.2.2.2.2.2.2 y_3.2.2.2.1 y_3.2.2.2.2.1 a_p0_data n_p0_data r_p0_data a_p0_outerEnds y_3.2.2.2.2.2.1  y_4 hy_4) (cwV 1 hts (g_V kw_942 kw_821 kw_822 kw_76 kw_823) rfl rfl rfl hd_X6_read ⟨Nat.le_of_ble_eq_true rfl, Nat.le_of_ble_eq_true rfl⟩) hP hD hS [2, 7, 8, 9, 10, 11, 12] rfl rfl rfl rfl rfl rfl hl (Nat.le_of_ble_eq_true rfl) dX0_readSingle_22) (fun H locs hP hD hS => ?_)
      refine lv_aload_n hx hb dX0_readSingle_25 rfl (lv_at hl 0 rfl) ?_
      refine lv_aload_n hx hb dX0_readSingle_26 rfl (lv_at hl 1 rfl) ?_
      refine lv_iload_n hx hb dX0_readSingle_27 rfl (lv_at hl 2 rfl) ?_
      obtain ⟨y_5, hy_5, hF⟩ := cal_d hF
      refine cf_v C0.1 hP hD hS [0, 4, 5, 6, 10, 11, 12] [1, 2, 3, 7, 8, 9] [6, 0, 1, 2, 7, 8, 9, 3, 4, 5, 10, 11, 12] (wr := [rJ q a_o_from 8 r_o_from, oX6 a_o_ids a_o_ids_nameHashes a_o_ids_keyHashes a_o_ids_serials y_4.1, rJ q a_o_next 8 r_o_next, rJ q a_o_ids_keyHashes 8 y_4.2.1, rJ q a_o_ids_nameHashes 8 y_4.2.2.1, rI q a_o_ids_serials 8 y_4.2.2.2.1]) (w' := [oX0 a_o a_o_ids a_o_states a_o_since a_o_reasons a_o_from a_o_next a_o_cert x_o_status x_o_hasCert x_o_bodyPlace x_o_bodyEnd x_o_signature x_o_isByName x_o_tellerPlace x_o_tellerSize x_o_tellerHash x_o_noncePlace x_o_nonceSize, rJ q a_o_from 8 r_o_from, oX6 a_o_ids a_o_ids_nameHashes a_o_ids_keyHashes a_o_ids_serials y_4.1, rJ q a_o_next 8 r_o_next, rI q a_o_reasons 8 y_5.1, rJ q a_o_since 8 y_5.2.1, rI q a_o_states 8 y_5.2.2.1, rJ q a_o_ids_keyHashes 8 y_4.2.1, rJ q a_o_ids_nameHashes 8 y_4.2.2.1, rI q a_o_ids_serials 8 y_4.2.2.2.1, oX8 a_p0 a_p0_outerEnds a_p0_data y_5.2.2.2.2.1 y_5.2.2.2.2.2.1 y_5.2.2.2.1 y_5.2.2.2.2.2.2.2.2.2.1 y_5.2.2.2.2.2.2.2.2.2.2 y_5.2.2.2.2.2.2.1 y_5.2.2.2.2.2.2.2.1, rB q a_p0_data n_p0_data r_p0_data, rI q a_p0_outerEnds 12 y_5.2.2.2.2.2.2.2.2.1]) rfl rfl rfl (by decide) rfl rfl (sn_V (As := [.ref a_p0, .int p_1]) (rest := []) (ci := 0) (q0 := 0) C0 (c_an_readState l D q t a_o a_o_ids a_o_from a_o_next a_o_cert x_o_status x_o_hasCert x_o_bodyPlace x_o_bodyEnd x_o_signature x_o_isByName x_o_tellerPlace x_o_tellerSize x_o_tellerHash x_o_noncePlace x_o_nonceSize a_o_reasons r_o_reasons a_o_since r_o_since a_o_states r_o_states a_p0 y_4.2.2.2.2.2.1 y_4.2.2.2.2.2.2.1 y_4.2.2.2.2.1 y_4.2.2.2.2.2.2.2.2.2.2.1 y_4.2.2.2.2.2.2.2.2.2.2.2 y_4.2.2.2.2.2.2.2.1 y_4.2.2.2.2.2.2.2.2.1 a_p0_data n_p0_data r_p0_data a_p0_outerEnds y_4.2.2.2.2.2.2.2.2.2.1 p_1 y_5 hy_5) (cwV 2 hts (g_V kw_943 kw_945 kw_14 kw_79 kw_946) rfl rfl rfl hd_X0_readState ⟨Nat.le_of_ble_eq_true rfl, Nat.le_of_ble_eq_true rfl⟩) hP hD hS [0, 4, 5, 6, 10, 11, 12] rfl rfl rfl rfl rfl rfl hl (Nat.le_of_ble_eq_true rfl) dX0_readSingle_28) (fun H locs hP hD hS => ?_)
      refine lv_aload_n hx hb dX0_readSingle_31 rfl (lv_at hl 0 rfl) ?_
      refine va_get (D := D) (ci := 0) (v := .ref a_o_from) (C := RX0) (T := TX0) (N := 18) hx hb hts iw_X0 hown hK hP 0 rfl rfl 4 (by decide) (hts _ kw_323) (fun _ h9 => h9) rfl dX0_readSingle_32 ?_
      refine lv_iload_n hx hb dX0_readSingle_35 rfl (lv_at hl 2 rfl) ?_
      refine lv_aload_n hx hb dX0_readSingle_36 rfl (lv_at hl 1 rfl) ?_
      obtain ⟨y_6, hy_6, hF⟩ := cal_d hF
      refine cf_l C0.1 hP hD hS [10, 11] [0, 1, 2, 3, 4, 5, 6, 7, 8, 9, 12] [0, 1, 2, 3, 4, 5, 6, 7, 8, 9, 11, 12, 10] (wr := [oX0 a_o a_o_ids a_o_states a_o_since a_o_reasons a_o_from a_o_next a_o_cert x_o_status x_o_hasCert x_o_bodyPlace x_o_bodyEnd x_o_signature x_o_isByName x_o_tellerPlace x_o_tellerSize x_o_tellerHash x_o_noncePlace x_o_nonceSize, rJ q a_o_from 8 r_o_from, oX6 a_o_ids a_o_ids_nameHashes a_o_ids_keyHashes a_o_ids_serials y_4.1, rJ q a_o_next 8 r_o_next, rI q a_o_reasons 8 y_5.1, rJ q a_o_since 8 y_5.2.1, rI q a_o_states 8 y_5.2.2.1, rJ q a_o_ids_keyHashes 8 y_4.2.1, rJ q a_o_ids_nameHashes 8 y_4.2.2.1, rI q a_o_ids_serials 8 y_4.2.2.2.1, rI q a_p0_outerEnds 12 y_5.2.2.2.2.2.2.2.2.1]) (w' := [oX0 a_o a_o_ids a_o_states a_o_since a_o_reasons a_o_from a_o_next a_o_cert x_o_status x_o_hasCert x_o_bodyPlace x_o_bodyEnd x_o_signature x_o_isByName x_o_tellerPlace x_o_tellerSize x_o_tellerHash x_o_noncePlace x_o_nonceSize, rJ q a_o_from 8 r_o_from, oX6 a_o_ids a_o_ids_nameHashes a_o_ids_keyHashes a_o_ids_serials y_4.1, rJ q a_o_next 8 r_o_next, rI q a_o_reasons 8 y_5.1, rJ q a_o_since 8 y_5.2.1, rI q a_o_states 8 y_5.2.2.1, rJ q a_o_ids_keyHashes 8 y_4.2.1, rJ q a_o_ids_nameHashes 8 y_4.2.2.1, rI q a_o_ids_serials 8 y_4.2.2.2.1, oX8 a_p0 a_p0_outerEnds a_p0_data y_5.2.2.2.2.1 y_5.2.2.2.2.2.1 y_6.2.1 y_6.2.2.2.2.1 y_6.2.2.2.2.2 y_6.2.2.1 y_6.2.2.2.1, rB q a_p0_data n_p0_data r_p0_data, rI q a_p0_outerEnds 12 y_5.2.2.2.2.2.2.2.2.1]) rfl rfl rfl (by decide) rfl rfl (sn_V (As := []) (rest := [.int p_1, .ref a_o_from]) (ci := 7) (q0 := 10) C0 (c_sc_readTime l D q t a_p0 a_p0_outerEnds y_5.2.2.2.2.1 y_5.2.2.2.2.2.1 y_5.2.2.2.1 y_5.2.2.2.2.2.2.2.2.2.1 y_5.2.2.2.2.2.2.2.2.2.2 y_5.2.2.2.2.2.2.1 y_5.2.2.2.2.2.2.2.1 a_p0_data n_p0_data r_p0_data  y_6 hy_6) (cwV 0 hts (g_V kw_921 kw_922 kw_923 kw_77 kw_924) rfl rfl rfl hd_X8_readTime ⟨Nat.le_of_ble_eq_true rfl, Nat.le_of_ble_eq_true rfl⟩) hP hD hS [10, 11] rfl rfl rfl rfl rfl rfl hl (Nat.le_of_ble_eq_true rfl) dX0_readSingle_37) (fun H locs hP hD hS => ?_)
      obtain ⟨z_7, hF⟩ := chk_d hF
      refine va_last hx hb hK hP hD hS 1 2 rfl rfl z_7 dX0_readSingle_40 (fun H locs hP hD hS => ?_)
      obtain ⟨r_o_from_8, e_r_o_from_8⟩ : ∃ z : (Nat → Int64), z = vp_updL r_o_from p_1.toNatClampNeg y_6.1 := ⟨_, rfl⟩
      replace hF := bnd_d hF e_r_o_from_8
      have hP : va_P D vwCl ([oX0 a_o a_o_ids a_o_states a_o_since a_o_reasons a_o_from a_o_next a_o_cert x_o_status x_o_hasCert x_o_bodyPlace x_o_bodyEnd x_o_signature x_o_isByName x_o_tellerPlace x_o_tellerSize x_o_tellerHash x_o_noncePlace x_o_nonceSize, rJ q a_o_from 8 r_o_from_8, oX6 a_o_ids a_o_ids_nameHashes a_o_ids_keyHashes a_o_ids_serials y_4.1, rJ q a_o_next 8 r_o_next, rI q a_o_reasons 8 y_5.1, rJ q a_o_since 8 y_5.2.1, rI q a_o_states 8 y_5.2.2.1, rJ q a_o_ids_keyHashes 8 y_4.2.1, rJ q a_o_ids_nameHashes 8 y_4.2.2.1, rI q a_o_ids_serials 8 y_4.2.2.2.1, oX8 a_p0 a_p0_outerEnds a_p0_data y_5.2.2.2.2.1 y_5.2.2.2.2.2.1 y_6.2.1 y_6.2.2.2.2.1 y_6.2.2.2.2.2 y_6.2.2.1 y_6.2.2.2.1, rB q a_p0_data n_p0_data r_p0_data, rI q a_p0_outerEnds 12 y_5.2.2.2.2.2.2.2.2.1]) H := by rw [e_r_o_from_8]; exact hP
      have hD : va_D A ([oX0 a_o a_o_ids a_o_states a_o_since a_o_reasons a_o_from a_o_next a_o_cert x_o_status x_o_hasCert x_o_bodyPlace x_o_bodyEnd x_o_signature x_o_isByName x_o_tellerPlace x_o_tellerSize x_o_tellerHash x_o_noncePlace x_o_nonceSize, rJ q a_o_from 8 r_o_from_8, oX6 a_o_ids a_o_ids_nameHashes a_o_ids_keyHashes a_o_ids_serials y_4.1, rJ q a_o_next 8 r_o_next, rI q a_o_reasons 8 y_5.1, rJ q a_o_since 8 y_5.2.1, rI q a_o_states 8 y_5.2.2.1, rJ q a_o_ids_keyHashes 8 y_4.2.1, rJ q a_o_ids_nameHashes 8 y_4.2.2.1, rI q a_o_ids_serials 8 y_4.2.2.2.1, oX8 a_p0 a_p0_outerEnds a_p0_data y_5.2.2.2.2.1 y_5.2.2.2.2.2.1 y_6.2.1 y_6.2.2.2.2.1 y_6.2.2.2.2.2 y_6.2.2.1 y_6.2.2.2.1, rB q a_p0_data n_p0_data r_p0_data, rI q a_p0_outerEnds 12 y_5.2.2.2.2.2.2.2.2.1]) := by rw [e_r_o_from_8]; exact hD
      refine lv_aload_n hx hb dX0_readSingle_41 rfl (lv_at hl 0 rfl) ?_
      refine va_get (D := D) (ci := 0) (v := .ref a_o_next) (C := RX0) (T := TX0) (N := 18) hx hb hts iw_X0 hown hK hP 0 rfl rfl 5 (by decide) (hts _ kw_325) (fun _ h9 => h9) rfl dX0_readSingle_42 ?_
      refine lv_iload_n hx hb dX0_readSingle_45 rfl (lv_at hl 2 rfl) ?_
      refine lv_ldc2 (v := (-1 : Int64)) hx hb hown (hts _ kw_947) dX0_readSingle_46 ?_
      obtain ⟨z_9, hF⟩ := chk_d hF
      refine va_last hx hb hK hP hD hS 3 2 rfl rfl z_9 dX0_readSingle_49 (fun H locs hP hD hS => ?_)
      obtain ⟨r_o_next_10, e_r_o_next_10⟩ : ∃ z : (Nat → Int64), z = vp_updL r_o_next p_1.toNatClampNeg (-1 : Int64) := ⟨_, rfl⟩
      replace hF := bnd_d hF e_r_o_next_10
      have hP : va_P D vwCl ([oX0 a_o a_o_ids a_o_states a_o_since a_o_reasons a_o_from a_o_next a_o_cert x_o_status x_o_hasCert x_o_bodyPlace x_o_bodyEnd x_o_signature x_o_isByName x_o_tellerPlace x_o_tellerSize x_o_tellerHash x_o_noncePlace x_o_nonceSize, rJ q a_o_from 8 r_o_from_8, oX6 a_o_ids a_o_ids_nameHashes a_o_ids_keyHashes a_o_ids_serials y_4.1, rJ q a_o_next 8 r_o_next_10, rI q a_o_reasons 8 y_5.1, rJ q a_o_since 8 y_5.2.1, rI q a_o_states 8 y_5.2.2.1, rJ q a_o_ids_keyHashes 8 y_4.2.1, rJ q a_o_ids_nameHashes 8 y_4.2.2.1, rI q a_o_ids_serials 8 y_4.2.2.2.1, oX8 a_p0 a_p0_outerEnds a_p0_data y_5.2.2.2.2.1 y_5.2.2.2.2.2.1 y_6.2.1 y_6.2.2.2.2.1 y_6.2.2.2.2.2 y_6.2.2.1 y_6.2.2.2.1, rB q a_p0_data n_p0_data r_p0_data, rI q a_p0_outerEnds 12 y_5.2.2.2.2.2.2.2.2.1]) H := by rw [e_r_o_next_10]; exact hP
      have hD : va_D A ([oX0 a_o a_o_ids a_o_states a_o_since a_o_reasons a_o_from a_o_next a_o_cert x_o_status x_o_hasCert x_o_bodyPlace x_o_bodyEnd x_o_signature x_o_isByName x_o_tellerPlace x_o_tellerSize x_o_tellerHash x_o_noncePlace x_o_nonceSize, rJ q a_o_from 8 r_o_from_8, oX6 a_o_ids a_o_ids_nameHashes a_o_ids_keyHashes a_o_ids_serials y_4.1, rJ q a_o_next 8 r_o_next_10, rI q a_o_reasons 8 y_5.1, rJ q a_o_since 8 y_5.2.1, rI q a_o_states 8 y_5.2.2.1, rJ q a_o_ids_keyHashes 8 y_4.2.1, rJ q a_o_ids_nameHashes 8 y_4.2.2.1, rI q a_o_ids_serials 8 y_4.2.2.2.1, oX8 a_p0 a_p0_outerEnds a_p0_data y_5.2.2.2.2.1 y_5.2.2.2.2.2.1 y_6.2.1 y_6.2.2.2.2.1 y_6.2.2.2.2.2 y_6.2.2.1 y_6.2.2.2.1, rB q a_p0_data n_p0_data r_p0_data, rI q a_p0_outerEnds 12 y_5.2.2.2.2.2.2.2.2.1]) := by rw [e_r_o_next_10]; exact hD
      refine lv_aload_n hx hb dX0_readSingle_50 rfl (lv_at hl 1 rfl) ?_
      obtain ⟨y_11, hy_11, hF⟩ := cal_d hF
      refine cf_i C0.1 hP hD hS [10] [0, 1, 2, 3, 4, 5, 6, 7, 8, 9, 11, 12] [0, 1, 2, 3, 4, 5, 6, 7, 8, 9, 12, 10, 11] (wr := [oX0 a_o a_o_ids a_o_states a_o_since a_o_reasons a_o_from a_o_next a_o_cert x_o_status x_o_hasCert x_o_bodyPlace x_o_bodyEnd x_o_signature x_o_isByName x_o_tellerPlace x_o_tellerSize x_o_tellerHash x_o_noncePlace x_o_nonceSize, rJ q a_o_from 8 r_o_from_8, oX6 a_o_ids a_o_ids_nameHashes a_o_ids_keyHashes a_o_ids_serials y_4.1, rJ q a_o_next 8 r_o_next_10, rI q a_o_reasons 8 y_5.1, rJ q a_o_since 8 y_5.2.1, rI q a_o_states 8 y_5.2.2.1, rJ q a_o_ids_keyHashes 8 y_4.2.1, rJ q a_o_ids_nameHashes 8 y_4.2.2.1, rI q a_o_ids_serials 8 y_4.2.2.2.1, rB q a_p0_data n_p0_data r_p0_data, rI q a_p0_outerEnds 12 y_5.2.2.2.2.2.2.2.2.1]) (w' := [oX0 a_o a_o_ids a_o_states a_o_since a_o_reasons a_o_from a_o_next a_o_cert x_o_status x_o_hasCert x_o_bodyPlace x_o_bodyEnd x_o_signature x_o_isByName x_o_tellerPlace x_o_tellerSize x_o_tellerHash x_o_noncePlace x_o_nonceSize, rJ q a_o_from 8 r_o_from_8, oX6 a_o_ids a_o_ids_nameHashes a_o_ids_keyHashes a_o_ids_serials y_4.1, rJ q a_o_next 8 r_o_next_10, rI q a_o_reasons 8 y_5.1, rJ q a_o_since 8 y_5.2.1, rI q a_o_states 8 y_5.2.2.1, rJ q a_o_ids_keyHashes 8 y_4.2.1, rJ q a_o_ids_nameHashes 8 y_4.2.2.1, rI q a_o_ids_serials 8 y_4.2.2.2.1, oX8 a_p0 a_p0_outerEnds a_p0_data y_5.2.2.2.2.1 y_5.2.2.2.2.2.1 y_6.2.1 y_6.2.2.2.2.1 y_6.2.2.2.2.2 y_6.2.2.1 y_6.2.2.2.1, rB q a_p0_data n_p0_data r_p0_data, rI q a_p0_outerEnds 12 y_5.2.2.2.2.2.2.2.2.1]) rfl rfl rfl (by decide) rfl rfl (sn_V (As := []) (rest := []) (ci := 7) (q0 := 10) C0 (c_sc_hasMore l D q t a_p0 a_p0_outerEnds a_p0_data y_5.2.2.2.2.1 y_5.2.2.2.2.2.1 y_6.2.1 y_6.2.2.2.2.1 y_6.2.2.2.2.2 y_6.2.2.1 y_6.2.2.2.1  y_11 hy_11) (cwV 0 hts (g_V kw_937 kw_817 kw_818 kw_77 kw_819) rfl rfl rfl hd_X8_hasMore ⟨Nat.le_of_ble_eq_true rfl, Nat.le_of_ble_eq_true rfl⟩) hP hD hS [10] rfl rfl rfl rfl rfl rfl hl (Nat.le_of_ble_eq_true rfl) dX0_readSingle_51) (fun H locs hP hD hS => ?_)
      refine lv_if_eq (tgt := 78) hx hb dX0_readSingle_54 (by decide) (fun c_12 => ?_) (fun c_12 => ?_)
      · replace hF := ite_t hF c_12
        refine lv_aload_n hx hb dX0_readSingle_78 rfl (lv_at hl 1 rfl) ?_
        obtain ⟨y_13, hy_13, hF⟩ := cal_d hF
        refine cf_v C0.1 hP hD hS [10, 12] [0, 1, 2, 3, 4, 5, 6, 7, 8, 9, 11] [0, 1, 2, 3, 4, 5, 6, 7, 8, 9, 11, 10, 12] (wr := [oX0 a_o a_o_ids a_o_states a_o_since a_o_reasons a_o_from a_o_next a_o_cert x_o_status x_o_hasCert x_o_bodyPlace x_o_bodyEnd x_o_signature x_o_isByName x_o_tellerPlace x_o_tellerSize x_o_tellerHash x_o_noncePlace x_o_nonceSize, rJ q a_o_from 8 r_o_from_8, oX6 a_o_ids a_o_ids_nameHashes a_o_ids_keyHashes a_o_ids_serials y_4.1, rJ q a_o_next 8 r_o_next_10, rI q a_o_reasons 8 y_5.1, rJ q a_o_since 8 y_5.2.1, rI q a_o_states 8 y_5.2.2.1, rJ q a_o_ids_keyHashes 8 y_4.2.1, rJ q a_o_ids_nameHashes 8 y_4.2.2.1, rI q a_o_ids_serials 8 y_4.2.2.2.1, rB q a_p0_data n_p0_data r_p0_data]) (w' := [oX0 a_o a_o_ids a_o_states a_o_since a_o_reasons a_o_from a_o_next a_o_cert x_o_status x_o_hasCert x_o_bodyPlace x_o_bodyEnd x_o_signature x_o_isByName x_o_tellerPlace x_o_tellerSize x_o_tellerHash x_o_noncePlace x_o_nonceSize, rJ q a_o_from 8 r_o_from_8, oX6 a_o_ids a_o_ids_nameHashes a_o_ids_keyHashes a_o_ids_serials y_4.1, rJ q a_o_next 8 r_o_next_10, rI q a_o_reasons 8 y_5.1, rJ q a_o_since 8 y_5.2.1, rI q a_o_states 8 y_5.2.2.1, rJ q a_o_ids_keyHashes 8 y_4.2.1, rJ q a_o_ids_nameHashes 8 y_4.2.2.1, rI q a_o_ids_serials 8 y_4.2.2.2.1, oX8 a_p0 a_p0_outerEnds a_p0_data y_13.1 y_13.2.1 y_6.2.1 y_13.2.2.2.1 y_13.2.2.2.2 y_13.2.2.1 y_6.2.2.2.1, rB q a_p0_data n_p0_data r_p0_data, rI q a_p0_outerEnds 12 y_5.2.2.2.2.2.2.2.2.1]) rfl rfl rfl (by decide) rfl rfl (sn_V (As := []) (rest := []) (ci := 7) (q0 := 10) C0 (c_sc_close l D q t a_p0 a_p0_data y_5.2.2.2.2.1 y_5.2.2.2.2.2.1 y_6.2.1 y_6.2.2.2.2.1 y_6.2.2.2.2.2 y_6.2.2.1 y_6.2.2.2.1 a_p0_outerEnds y_5.2.2.2.2.2.2.2.2.1  y_13 hy_13) (cwV 0 hts (g_V kw_920 kw_839 kw_840 kw_77 kw_841) rfl rfl rfl hd_X8_close ⟨Nat.le_of_ble_eq_true rfl, Nat.le_of_ble_eq_true rfl⟩) hP hD hS [10, 12] rfl rfl rfl rfl rfl rfl hl (Nat.le_of_ble_eq_true rfl) dX0_readSingle_79) (fun H locs hP hD hS => ?_)
        have hy9 := (Option.some.inj hF).symm
        subst hy9
        exact rt_v C0.1 hP hD hS dX0_readSingle_82
      · replace hF := ite_f hF c_12
        refine lv_aload_n hx hb dX0_readSingle_57 rfl (lv_at hl 1 rfl) ?_
        refine lv_sipush (v := (160 : Int32)) hx hb dX0_readSingle_58 (by decide) ?_
        obtain ⟨y_14, hy_14, hF⟩ := cal_d hF
        refine cf_v C0.1 hP hD hS [10, 11, 12] [0, 1, 2, 3, 4, 5, 6, 7, 8, 9] [0, 1, 2, 3, 4, 5, 6, 7, 8, 9, 10, 11, 12] (wr := [oX0 a_o a_o_ids a_o_states a_o_since a_o_reasons a_o_from a_o_next a_o_cert x_o_status x_o_hasCert x_o_bodyPlace x_o_bodyEnd x_o_signature x_o_isByName x_o_tellerPlace x_o_tellerSize x_o_tellerHash x_o_noncePlace x_o_nonceSize, rJ q a_o_from 8 r_o_from_8, oX6 a_o_ids a_o_ids_nameHashes a_o_ids_keyHashes a_o_ids_serials y_4.1, rJ q a_o_next 8 r_o_next_10, rI q a_o_reasons 8 y_5.1, rJ q a_o_since 8 y_5.2.1, rI q a_o_states 8 y_5.2.2.1, rJ q a_o_ids_keyHashes 8 y_4.2.1, rJ q a_o_ids_nameHashes 8 y_4.2.2.1, rI q a_o_ids_serials 8 y_4.2.2.2.1]) (w' := [oX0 a_o a_o_ids a_o_states a_o_since a_o_reasons a_o_from a_o_next a_o_cert x_o_status x_o_hasCert x_o_bodyPlace x_o_bodyEnd x_o_signature x_o_isByName x_o_tellerPlace x_o_tellerSize x_o_tellerHash x_o_noncePlace x_o_nonceSize, rJ q a_o_from 8 r_o_from_8, oX6 a_o_ids a_o_ids_nameHashes a_o_ids_keyHashes a_o_ids_serials y_4.1, rJ q a_o_next 8 r_o_next_10, rI q a_o_reasons 8 y_5.1, rJ q a_o_since 8 y_5.2.1, rI q a_o_states 8 y_5.2.2.1, rJ q a_o_ids_keyHashes 8 y_4.2.1, rJ q a_o_ids_nameHashes 8 y_4.2.2.1, rI q a_o_ids_serials 8 y_4.2.2.2.1, oX8 a_p0 a_p0_outerEnds a_p0_data y_14.2.1 y_14.2.2.1 y_14.1 y_14.2.2.2.2.2.2.1 y_14.2.2.2.2.2.2.2 y_14.2.2.2.1 y_14.2.2.2.2.1, rB q a_p0_data n_p0_data r_p0_data, rI q a_p0_outerEnds 12 y_14.2.2.2.2.2.1]) rfl rfl rfl (by decide) rfl rfl (sn_V (As := [.int (160 : Int32)]) (rest := []) (ci := 7) (q0 := 10) C0 (c_sc_open l D q t a_p0 y_5.2.2.2.2.1 y_5.2.2.2.2.2.1 y_6.2.1 y_6.2.2.2.2.1 y_6.2.2.2.2.2 y_6.2.2.1 y_6.2.2.2.1 a_p0_data n_p0_data r_p0_data a_p0_outerEnds y_5.2.2.2.2.2.2.2.2.1 (160 : Int32) y_14 hy_14) (cwV 1 hts (g_V kw_904 kw_797 kw_798 kw_77 kw_799) rfl rfl rfl hd_X8_open ⟨Nat.le_of_ble_eq_true rfl, Nat.le_of_ble_eq_true rfl⟩) hP hD hS [10, 11, 12] rfl rfl rfl rfl rfl rfl hl (Nat.le_of_ble_eq_true rfl) dX0_readSingle_61) (fun H locs hP hD hS => ?_)
        refine lv_aload_n hx hb dX0_readSingle_64 rfl (lv_at hl 0 rfl) ?_
        refine va_get (D := D) (ci := 0) (v := .ref a_o_next) (C := RX0) (T := TX0) (N := 18) hx hb hts iw_X0 hown hK hP 0 rfl rfl 5 (by decide) (hts _ kw_325) (fun _ h9 => h9) rfl dX0_readSingle_65 ?_
        refine lv_iload_n hx hb dX0_readSingle_68 rfl (lv_at hl 2 rfl) ?_
        refine lv_aload_n hx hb dX0_readSingle_69 rfl (lv_at hl 1 rfl) ?_
        obtain ⟨y_15, hy_15, hF⟩ := cal_d hF
        refine cf_l C0.1 hP hD hS [10, 11] [0, 1, 2, 3, 4, 5, 6, 7, 8, 9, 12] [0, 1, 2, 3, 4, 5, 6, 7, 8, 9, 11, 12, 10] (wr := [oX0 a_o a_o_ids a_o_states a_o_since a_o_reasons a_o_from a_o_next a_o_cert x_o_status x_o_hasCert x_o_bodyPlace x_o_bodyEnd x_o_signature x_o_isByName x_o_tellerPlace x_o_tellerSize x_o_tellerHash x_o_noncePlace x_o_nonceSize, rJ q a_o_from 8 r_o_from_8, oX6 a_o_ids a_o_ids_nameHashes a_o_ids_keyHashes a_o_ids_serials y_4.1, rJ q a_o_next 8 r_o_next_10, rI q a_o_reasons 8 y_5.1, rJ q a_o_since 8 y_5.2.1, rI q a_o_states 8 y_5.2.2.1, rJ q a_o_ids_keyHashes 8 y_4.2.1, rJ q a_o_ids_nameHashes 8 y_4.2.2.1, rI q a_o_ids_serials 8 y_4.2.2.2.1, rI q a_p0_outerEnds 12 y_14.2.2.2.2.2.1]) (w' := [oX0 a_o a_o_ids a_o_states a_o_since a_o_reasons a_o_from a_o_next a_o_cert x_o_status x_o_hasCert x_o_bodyPlace x_o_bodyEnd x_o_signature x_o_isByName x_o_tellerPlace x_o_tellerSize x_o_tellerHash x_o_noncePlace x_o_nonceSize, rJ q a_o_from 8 r_o_from_8, oX6 a_o_ids a_o_ids_nameHashes a_o_ids_keyHashes a_o_ids_serials y_4.1, rJ q a_o_next 8 r_o_next_10, rI q a_o_reasons 8 y_5.1, rJ q a_o_since 8 y_5.2.1, rI q a_o_states 8 y_5.2.2.1, rJ q a_o_ids_keyHashes 8 y_4.2.1, rJ q a_o_ids_nameHashes 8 y_4.2.2.1, rI q a_o_ids_serials 8 y_4.2.2.2.1, oX8 a_p0 a_p0_outerEnds a_p0_data y_14.2.1 y_14.2.2.1 y_15.2.1 y_15.2.2.2.2.1 y_15.2.2.2.2.2 y_15.2.2.1 y_15.2.2.2.1, rB q a_p0_data n_p0_data r_p0_data, rI q a_p0_outerEnds 12 y_14.2.2.2.2.2.1]) rfl rfl rfl (by decide) rfl rfl (sn_V (As := []) (rest := [.int p_1, .ref a_o_next]) (ci := 7) (q0 := 10) C0 (c_sc_readTime l D q t a_p0 a_p0_outerEnds y_14.2.1 y_14.2.2.1 y_14.1 y_14.2.2.2.2.2.2.1 y_14.2.2.2.2.2.2.2 y_14.2.2.2.1 y_14.2.2.2.2.1 a_p0_data n_p0_data r_p0_data  y_15 hy_15) (cwV 0 hts (g_V kw_921 kw_922 kw_923 kw_77 kw_924) rfl rfl rfl hd_X8_readTime ⟨Nat.le_of_ble_eq_true rfl, Nat.le_of_ble_eq_true rfl⟩) hP hD hS [10, 11] rfl rfl rfl rfl rfl rfl hl (Nat.le_of_ble_eq_true rfl) dX0_readSingle_70) (fun H locs hP hD hS => ?_)
        refine va_last hx hb hK hP hD hS 3 2 rfl rfl z_9 dX0_readSingle_73 (fun H locs hP hD hS => ?_)
        obtain ⟨r_o_next_16, e_r_o_next_16⟩ : ∃ z : (Nat → Int64), z = vp_updL r_o_next_10 p_1.toNatClampNeg y_15.1 := ⟨_, rfl⟩
        replace hF := bnd_d hF e_r_o_next_16
        have hP : va_P D vwCl ([oX0 a_o a_o_ids a_o_states a_o_since a_o_reasons a_o_from a_o_next a_o_cert x_o_status x_o_hasCert x_o_bodyPlace x_o_bodyEnd x_o_signature x_o_isByName x_o_tellerPlace x_o_tellerSize x_o_tellerHash x_o_noncePlace x_o_nonceSize, rJ q a_o_from 8 r_o_from_8, oX6 a_o_ids a_o_ids_nameHashes a_o_ids_keyHashes a_o_ids_serials y_4.1, rJ q a_o_next 8 r_o_next_16, rI q a_o_reasons 8 y_5.1, rJ q a_o_since 8 y_5.2.1, rI q a_o_states 8 y_5.2.2.1, rJ q a_o_ids_keyHashes 8 y_4.2.1, rJ q a_o_ids_nameHashes 8 y_4.2.2.1, rI q a_o_ids_serials 8 y_4.2.2.2.1, oX8 a_p0 a_p0_outerEnds a_p0_data y_14.2.1 y_14.2.2.1 y_15.2.1 y_15.2.2.2.2.1 y_15.2.2.2.2.2 y_15.2.2.1 y_15.2.2.2.1, rB q a_p0_data n_p0_data r_p0_data, rI q a_p0_outerEnds 12 y_14.2.2.2.2.2.1]) H := by rw [e_r_o_next_16]; exact hP
        have hD : va_D A ([oX0 a_o a_o_ids a_o_states a_o_since a_o_reasons a_o_from a_o_next a_o_cert x_o_status x_o_hasCert x_o_bodyPlace x_o_bodyEnd x_o_signature x_o_isByName x_o_tellerPlace x_o_tellerSize x_o_tellerHash x_o_noncePlace x_o_nonceSize, rJ q a_o_from 8 r_o_from_8, oX6 a_o_ids a_o_ids_nameHashes a_o_ids_keyHashes a_o_ids_serials y_4.1, rJ q a_o_next 8 r_o_next_16, rI q a_o_reasons 8 y_5.1, rJ q a_o_since 8 y_5.2.1, rI q a_o_states 8 y_5.2.2.1, rJ q a_o_ids_keyHashes 8 y_4.2.1, rJ q a_o_ids_nameHashes 8 y_4.2.2.1, rI q a_o_ids_serials 8 y_4.2.2.2.1, oX8 a_p0 a_p0_outerEnds a_p0_data y_14.2.1 y_14.2.2.1 y_15.2.1 y_15.2.2.2.2.1 y_15.2.2.2.2.2 y_15.2.2.1 y_15.2.2.2.1, rB q a_p0_data n_p0_data r_p0_data, rI q a_p0_outerEnds 12 y_14.2.2.2.2.2.1]) := by rw [e_r_o_next_16]; exact hD
        refine lv_aload_n hx hb dX0_readSingle_74 rfl (lv_at hl 1 rfl) ?_
        obtain ⟨y_17, hy_17, hF⟩ := cal_d hF
        refine cf_v C0.1 hP hD hS [10, 12] [0, 1, 2, 3, 4, 5, 6, 7, 8, 9, 11] [0, 1, 2, 3, 4, 5, 6, 7, 8, 9, 11, 10, 12] (wr := [oX0 a_o a_o_ids a_o_states a_o_since a_o_reasons a_o_from a_o_next a_o_cert x_o_status x_o_hasCert x_o_bodyPlace x_o_bodyEnd x_o_signature x_o_isByName x_o_tellerPlace x_o_tellerSize x_o_tellerHash x_o_noncePlace x_o_nonceSize, rJ q a_o_from 8 r_o_from_8, oX6 a_o_ids a_o_ids_nameHashes a_o_ids_keyHashes a_o_ids_serials y_4.1, rJ q a_o_next 8 r_o_next_16, rI q a_o_reasons 8 y_5.1, rJ q a_o_since 8 y_5.2.1, rI q a_o_states 8 y_5.2.2.1, rJ q a_o_ids_keyHashes 8 y_4.2.1, rJ q a_o_ids_nameHashes 8 y_4.2.2.1, rI q a_o_ids_serials 8 y_4.2.2.2.1, rB q a_p0_data n_p0_data r_p0_data]) (w' := [oX0 a_o a_o_ids a_o_states a_o_since a_o_reasons a_o_from a_o_next a_o_cert x_o_status x_o_hasCert x_o_bodyPlace x_o_bodyEnd x_o_signature x_o_isByName x_o_tellerPlace x_o_tellerSize x_o_tellerHash x_o_noncePlace x_o_nonceSize, rJ q a_o_from 8 r_o_from_8, oX6 a_o_ids a_o_ids_nameHashes a_o_ids_keyHashes a_o_ids_serials y_4.1, rJ q a_o_next 8 r_o_next_16, rI q a_o_reasons 8 y_5.1, rJ q a_o_since 8 y_5.2.1, rI q a_o_states 8 y_5.2.2.1, rJ q a_o_ids_keyHashes 8 y_4.2.1, rJ q a_o_ids_nameHashes 8 y_4.2.2.1, rI q a_o_ids_serials 8 y_4.2.2.2.1, oX8 a_p0 a_p0_outerEnds a_p0_data y_17.1 y_17.2.1 y_15.2.1 y_17.2.2.2.1 y_17.2.2.2.2 y_17.2.2.1 y_15.2.2.2.1, rB q a_p0_data n_p0_data r_p0_data, rI q a_p0_outerEnds 12 y_14.2.2.2.2.2.1]) rfl rfl rfl (by decide) rfl rfl (sn_V (As := []) (rest := []) (ci := 7) (q0 := 10) C0 (c_sc_close l D q t a_p0 a_p0_data y_14.2.1 y_14.2.2.1 y_15.2.1 y_15.2.2.2.2.1 y_15.2.2.2.2.2 y_15.2.2.1 y_15.2.2.2.1 a_p0_outerEnds y_14.2.2.2.2.2.1  y_17 hy_17) (cwV 0 hts (g_V kw_920 kw_839 kw_840 kw_77 kw_841) rfl rfl rfl hd_X8_close ⟨Nat.le_of_ble_eq_true rfl, Nat.le_of_ble_eq_true rfl⟩) hP hD hS [10, 12] rfl rfl rfl rfl rfl rfl hl (Nat.le_of_ble_eq_true rfl) dX0_readSingle_75) (fun H locs hP hD hS => ?_)
        refine lv_aload_n hx hb dX0_readSingle_78 rfl (lv_at hl 1 rfl) ?_
        obtain ⟨y_18, hy_18, hF⟩ := cal_d hF
        refine cf_v C0.1 hP hD hS [10, 12] [0, 1, 2, 3, 4, 5, 6, 7, 8, 9, 11] [0, 1, 2, 3, 4, 5, 6, 7, 8, 9, 11, 10, 12] (wr := [oX0 a_o a_o_ids a_o_states a_o_since a_o_reasons a_o_from a_o_next a_o_cert x_o_status x_o_hasCert x_o_bodyPlace x_o_bodyEnd x_o_signature x_o_isByName x_o_tellerPlace x_o_tellerSize x_o_tellerHash x_o_noncePlace x_o_nonceSize, rJ q a_o_from 8 r_o_from_8, oX6 a_o_ids a_o_ids_nameHashes a_o_ids_keyHashes a_o_ids_serials y_4.1, rJ q a_o_next 8 r_o_next_16, rI q a_o_reasons 8 y_5.1, rJ q a_o_since 8 y_5.2.1, rI q a_o_states 8 y_5.2.2.1, rJ q a_o_ids_keyHashes 8 y_4.2.1, rJ q a_o_ids_nameHashes 8 y_4.2.2.1, rI q a_o_ids_serials 8 y_4.2.2.2.1, rB q a_p0_data n_p0_data r_p0_data]) (w' := [oX0 a_o a_o_ids a_o_states a_o_since a_o_reasons a_o_from a_o_next a_o_cert x_o_status x_o_hasCert x_o_bodyPlace x_o_bodyEnd x_o_signature x_o_isByName x_o_tellerPlace x_o_tellerSize x_o_tellerHash x_o_noncePlace x_o_nonceSize, rJ q a_o_from 8 r_o_from_8, oX6 a_o_ids a_o_ids_nameHashes a_o_ids_keyHashes a_o_ids_serials y_4.1, rJ q a_o_next 8 r_o_next_16, rI q a_o_reasons 8 y_5.1, rJ q a_o_since 8 y_5.2.1, rI q a_o_states 8 y_5.2.2.1, rJ q a_o_ids_keyHashes 8 y_4.2.1, rJ q a_o_ids_nameHashes 8 y_4.2.2.1, rI q a_o_ids_serials 8 y_4.2.2.2.1, oX8 a_p0 a_p0_outerEnds a_p0_data y_18.1 y_18.2.1 y_15.2.1 y_18.2.2.2.1 y_18.2.2.2.2 y_18.2.2.1 y_15.2.2.2.1, rB q a_p0_data n_p0_data r_p0_data, rI q a_p0_outerEnds 12 y_14.2.2.2.2.2.1]) rfl rfl rfl (by decide) rfl rfl (sn_V (As := []) (rest := []) (ci := 7) (q0 := 10) C0 (c_sc_close l D q t a_p0 a_p0_data y_17.1 y_17.2.1 y_15.2.1 y_17.2.2.2.1 y_17.2.2.2.2 y_17.2.2.1 y_15.2.2.2.1 a_p0_outerEnds y_14.2.2.2.2.2.1  y_18 hy_18) (cwV 0 hts (g_V kw_920 kw_839 kw_840 kw_77 kw_841) rfl rfl rfl hd_X8_close ⟨Nat.le_of_ble_eq_true rfl, Nat.le_of_ble_eq_true rfl⟩) hP hD hS [10, 12] rfl rfl rfl rfl rfl rfl hl (Nat.le_of_ble_eq_true rfl) dX0_readSingle_79) (fun H locs hP hD hS => ?_)
        have hy9 := (Option.some.inj hF).symm
        subst hy9
        exact rt_v C0.1 hP hD hS dX0_readSingle_82
    · replace hF := ite_f hF c_2
      have hy9 := (Option.some.inj hF).symm
      subst hy9
      exact rt_v C0.1 hP hD hS dX0_readSingle_10
