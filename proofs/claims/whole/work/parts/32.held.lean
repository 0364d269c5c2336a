set_option maxRecDepth 20000 in
theorem kw_130 : Cond.fieldLink RX11 279 "StatusDesk$Find" "authority" "I" ∈ wg := wg_in1 59 rfl rfl
set_option maxRecDepth 20000 in
theorem kw_132 : Cond.fieldLink RX11 282 "StatusDesk$Find" "serial" "I" ∈ wg := wg_in1 61 rfl rfl
theorem hd_X11_held : yX11_held.cls = RX11 ∧ yX11_held.cls ≠ "java/lang/invoke/MethodHandle" ∧ yX11_held.cls ≠ "java/lang/invoke/VarHandle" ∧ (parseMethodDescriptor yX11_held.desc).map (fun d => d.parameters.length) = some 3 := by decide +kernel
theorem fits_01 {tm : Int64} {y : Int32} (h : f_ti_fits tm = some y) : y = 0 ∨ y = 1 := by
  unfold f_ti_fits at h
  split at h
  · left; exact (Option.some.inj h).symm
  · split at h
    · left; exact (Option.some.inj h).symm
    · right; exact (Option.some.inj h).symm
def held_lp (ga gs gt : Nat → Int32) (gn : Nat → Int64) (z0 z1 : Int32) (tm : Int64) : Nat → Int32
  | 0 => 0
  | k + 1 => if ga k = z0 then (if gs k = z1 then (if tm ≤ gn k then gt k else 0) else held_lp ga gs gt gn z0 z1 tm k) else held_lp ga gs gt gn z0 z1 tm k
theorem pF_get (b : Nat → Nat) (ga gs gt : Nat → Int32) (gu : Nat → Int64) (gr : Nat → Int32) (gf gn : Nat → Int64) {k : Nat} (hk : k < 16) : (pF b ga gs gt gu gr gf gn)[k]? = some (oX5 (b k) (ga k) (gs k) (gt k) (gu k) (gr k) (gf k) (gn k)) := by
  simp [pF, hk]
set_option maxHeartbeats 4000000 in
set_option maxRecDepth 100000 in
theorem w_de_held_30 {l : Launch} {p : Program} {e : Env} {s : State} {m : MethodId} {args : Array Value} {below : List Frame} {meth : Method} {c : Code} {A : Nat → Prop} {D : va_G} {q : Nat → ClassId} {t : Nat} (C0 : cy p s m args meth c cX11_held (some .int) 7 RX11 D q t A) (a_o : Nat) (a_o_tape : Nat) (a_o_out : Nat) (a_o_ownNonce : Nat) (a_o_authorities : Nat) (a_o_signers : Nat) (a_o_shelf : Nat) (a_o_latest : Nat) (a_o_wanted : Nat) (a_o_scan : Nat) (a_o_askText : Nat) (a_o_answerText : Nat) (x_o_authorityCount : Int32) (x_o_signerCount : Int32) (x_o_heldCount : Int32) (x_o_rightAnswers : Int32) (x_o_otherAnswers : Int32) (x_o_looks : Int32) (x_o_latestVerdict : Int32) (x_o_findToHold : Int32) (ra : Nat → Option Nat) (b : Nat → Nat) (ga gs gt : Nat → Int32) (gu : Nat → Int64) (gr : Nat → Int32) (gf gn : Nat → Int64) (z0 z1 : Int32) (tm : Int64) : ∀ (k : Nat), k ≤ 16 → ∀ (H : Heap) (locs : List Loc) (ls : Array Slot), va_P D vwCl (oX11 a_o a_o_tape a_o_out a_o_ownNonce a_o_authorities a_o_signers a_o_shelf a_o_latest a_o_wanted a_o_scan a_o_askText a_o_answerText x_o_authorityCount x_o_signerCount x_o_heldCount x_o_rightAnswers x_o_otherAnswers x_o_looks x_o_latestVerdict x_o_findToHold :: rO q 3 a_o_authorities 4 ra :: rO q 4 a_o_shelf 16 (fun i => some (b i)) :: pF b ga gs gt gu gr gf gn) H → va_D A (oX11 a_o a_o_tape a_o_out a_o_ownNonce a_o_authorities a_o_signers a_o_shelf a_o_latest a_o_wanted a_o_scan a_o_askText a_o_answerText x_o_authorityCount x_o_signerCount x_o_heldCount x_o_rightAnswers x_o_otherAnswers x_o_looks x_o_latestVerdict x_o_findToHold :: rO q 3 a_o_authorities 4 ra :: rO q 4 a_o_shelf 16 (fun i => some (b i)) :: pF b ga gs gt gu gr gf gn) → va_S A s.heap H locs → lv_has ls 7 [(0, .ref a_o), (1, .int z0), (2, .int z1), (3, .long tm), (5, .int (nI k - 1))] → W p l e ({ frames := 1, cells := 0, slots := 0, locals := 32 }) s m args below meth c H locs 0 0 (MQ below (qI D q (held_lp ga gs gt gn z0 z1 tm k) (oX11 a_o a_o_tape a_o_out a_o_ownNonce a_o_authorities a_o_signers a_o_shelf a_o_latest a_o_wanted a_o_scan a_o_askText a_o_answerText x_o_authorityCount x_o_signerCount x_o_heldCount x_o_rightAnswers x_o_otherAnswers x_o_looks x_o_latestVerdict x_o_findToHold :: rO q 3 a_o_authorities 4 ra :: rO q 4 a_o_shelf 16 (fun i => some (b i)) :: pF b ga gs gt gu gr gf gn) A) args s 0 0 A) (F0 m 30 ls []) := by
  obtain ⟨⟨hx, hb, hr, hml, hown, hts, hlocks, hK, hA⟩, hG⟩ := id C0
  intro k
  induction k with
  | zero =>
    intro _ H locs ls hP hD hS hl
    refine lv_iload hx hb dX11_held_30 (lv_at hl 4 rfl) ?_
    refine lv_if_lt (tgt := 88) hx hb dX11_held_32 (by decide) (fun c1 => ?_) (fun c1 => absurd (by decide) c1)
    refine lv_iconst (v := (0 : Int32)) hx hb dX11_held_88 (by decide) ?_
    exact rt_i C0.1 hP hD hS dX11_held_89
  | succ k ih =>
    intro hk H locs ls hP hD hS hl
    rw [nI_pred] at hl
    have hpos : (oX11 a_o a_o_tape a_o_out a_o_ownNonce a_o_authorities a_o_signers a_o_shelf a_o_latest a_o_wanted a_o_scan a_o_askText a_o_answerText x_o_authorityCount x_o_signerCount x_o_heldCount x_o_rightAnswers x_o_otherAnswers x_o_looks x_o_latestVerdict x_o_findToHold :: rO q 3 a_o_authorities 4 ra :: rO q 4 a_o_shelf 16 (fun i => some (b i)) :: pF b ga gs gt gu gr gf gn)[3 + k]? = some (oX5 (b k) (ga k) (gs k) (gt k) (gu k) (gr k) (gf k) (gn k)) := by
      rw [show 3 + k = k + 1 + 1 + 1 by omega]
      exact pF_get b ga gs gt gu gr gf gn (by omega)
    refine lv_iload hx hb dX11_held_30 (lv_at hl 4 rfl) ?_
    refine lv_if_lt (tgt := 88) hx hb dX11_held_32 (by decide) (fun c1 => absurd c1 (nI_pos (by omega))) (fun c1 => ?_)
    refine lv_aload_n hx hb dX11_held_35 rfl (lv_at hl 0 rfl) ?_
    refine va_get (D := D) (ci := 9) (v := .ref a_o_shelf) (C := RX11) (T := TX11) (N := 19) hx hb hts iw_X11 hown hK hP 0 rfl rfl 5 (by decide) (hts _ kw_465) (fun _ h9 => h9) rfl dX11_held_36 ?_
    refine lv_iload hx hb dX11_held_39 (lv_at hl 4 rfl) ?_
    refine va_aldq hx hb hK hP 2 4 rfl rfl (vp_in_nI (by omega) (by decide)) dX11_held_41 ?_
    rw [show va_rf ((fun i => some (b i)) (nI k).toNatClampNeg) = .ref (b k) from by rw [nI_clamp (by omega)]; rfl]
    refine lv_astore (lv' := [(6, .ref (b k)), (0, .ref a_o), (1, .int z0), (2, .int z1), (3, .long tm), (5, .int (nI k))]) hx hb dX11_held_42 hl (by decide) rfl (fun ls hl => ?_)
    refine lv_aload hx hb dX11_held_44 (lv_at hl 0 rfl) ?_
    refine va_get (D := D) (ci := 5) (v := .int (ga k)) (C := RX5) (T := TX5) (N := 7) hx hb hts iw_X5 hown hK hP (3 + k) hpos rfl 0 (by decide) (hts _ kw_130) (fun _ h9 => h9) rfl dX11_held_46 ?_
    refine lv_iload_n hx hb dX11_held_49 rfl (lv_at hl 2 rfl) ?_
    refine lv_icmp_ne (tgt := 82) hx hb dX11_held_50 (by decide) (fun c2 => ?_) (fun c2 => ?_)
    · have e9 : held_lp ga gs gt gn z0 z1 tm (k + 1) = held_lp ga gs gt gn z0 z1 tm k := by rw [held_lp]; simp [c2]
      rw [e9]
      refine lv_iinc (v := nI k - 1) (lv' := [(5, .int (nI k - 1)), (6, .ref (b k)), (0, .ref a_o), (1, .int z0), (2, .int z1), (3, .long tm)]) hx hb dX11_held_82 hl (k := 5) rfl (by rw [Int32.sub_eq_add_neg]; rfl) (by decide) rfl (fun ls hl => ?_)
      refine lv_goto (tgt := 30) hx hb dX11_held_85 (by decide) ?_
      exact ih (by omega) H locs ls hP hD hS (lv_sub hl [2, 3, 4, 5, 0] rfl)
    · refine lv_aload hx hb dX11_held_53 (lv_at hl 0 rfl) ?_
      refine va_get (D := D) (ci := 5) (v := .int (gs k)) (C := RX5) (T := TX5) (N := 7) hx hb hts iw_X5 hown hK hP (3 + k) hpos rfl 1 (by decide) (hts _ kw_132) (fun _ h9 => h9) rfl dX11_held_55 ?_
      refine lv_iload_n hx hb dX11_held_58 rfl (lv_at hl 3 rfl) ?_
      refine lv_icmp_ne (tgt := 82) hx hb dX11_held_59 (by decide) (fun c3 => ?_) (fun c3 => ?_)
      · have e9 : held_lp ga gs gt gn z0 z1 tm (k + 1) = held_lp ga gs gt gn z0 z1 tm k := by rw [held_lp]; simp [c2, c3]
        rw [e9]
        refine lv_iinc (v := nI k - 1) (lv' := [(5, .int (nI k - 1)), (6, .ref (b k)), (0, .ref a_o), (1, .int z0), (2, .int z1), (3, .long tm)]) hx hb dX11_held_82 hl (k := 5) rfl (by rw [Int32.sub_eq_add_neg]; rfl) (by decide) rfl (fun ls hl => ?_)
        refine lv_goto (tgt := 30) hx hb dX11_held_85 (by decide) ?_
        exact ih (by omega) H locs ls hP hD hS (lv_sub hl [2, 3, 4, 5, 0] rfl)
      · refine lv_lload_n hx hb dX11_held_62 rfl (lv_at hl 4 rfl) ?_
        refine lv_aload hx hb dX11_held_63 (lv_at hl 0 rfl) ?_
        refine va_get (D := D) (ci := 5) (v := .long (gn k)) (C := RX5) (T := TX5) (N := 7) hx hb hts iw_X5 hown hK hP (3 + k) hpos rfl 6 (by decide) (hts _ kw_142) (fun _ h9 => h9) rfl dX11_held_65 ?_
        refine W.lcmp hx hb dX11_held_68 ?_
        refine lv_if_le (tgt := 76) hx hb dX11_held_69 (by decide) (fun c4 => ?_) (fun c4 => ?_)
        · have e9 : held_lp ga gs gt gn z0 z1 tm (k + 1) = gt k := by rw [held_lp]; simp [c2, c3, (lg_cmp_le _ _).mp c4]
          rw [e9]
          refine lv_aload hx hb dX11_held_76 (lv_at hl 0 rfl) ?_
          refine va_get (D := D) (ci := 5) (v := .int (gt k)) (C := RX5) (T := TX5) (N := 7) hx hb hts iw_X5 hown hK hP (3 + k) hpos rfl 2 (by decide) (hts _ kw_134) (fun _ h9 => h9) rfl dX11_held_78 ?_
          exact rt_i C0.1 hP hD hS dX11_held_81
        · have e9 : held_lp ga gs gt gn z0 z1 tm (k + 1) = 0 := by rw [held_lp, if_pos c2, if_pos c3, if_neg (fun h => c4 ((lg_cmp_le _ _).mpr h))]
          rw [e9]
          refine lv_iconst (v := (0 : Int32)) hx hb dX11_held_72 (by decide) ?_
          refine lv_goto (tgt := 81) hx hb dX11_held_73 (by decide) ?_
          exact rt_i C0.1 hP hD hS dX11_held_81
set_option maxHeartbeats 4000000 in
set_option maxRecDepth 100000 in
theorem c_de_held (l : Launch) (D : va_G) (q : Nat → ClassId) (t : Nat) (a_o : Nat) (a_o_tape : Nat) (a_o_out : Nat) (a_o_ownNonce : Nat) (a_o_authorities : Nat) (a_o_signers : Nat) (a_o_shelf : Nat) (a_o_latest : Nat) (a_o_wanted : Nat) (a_o_scan : Nat) (a_o_askText : Nat) (a_o_answerText : Nat) (x_o_authorityCount : Int32) (x_o_signerCount : Int32) (x_o_heldCount : Int32) (x_o_rightAnswers : Int32) (x_o_otherAnswers : Int32) (x_o_looks : Int32) (x_o_latestVerdict : Int32) (x_o_findToHold : Int32) (ra : Nat → Option Nat) (b : Nat → Nat) (ga gs gt : Nat → Int32) (gu : Nat → Int64) (gr : Nat → Int32) (gf gn : Nat → Int64) (z0 z1 : Int32) (tm : Int64) (h : Nat) (hh : h ≤ 16) (hc : x_o_heldCount = nI h) (a_A : Nat) (y : Int32) (hy : f_ti_fits tm = some y) (h4 : x_o_authorityCount ≤ 4) (hq : (0 ≤ z0 ∧ z0 < x_o_authorityCount) → ra z0.toNatClampNeg = some a_A) : cu l yX11_held (vs yX11_held cX11_held 7 (some .int)) ({ frames := 1, cells := 0, slots := 0, locals := 32 }) D q t [.ref a_o, .int z0, .int z1, .long tm] (oX11 a_o a_o_tape a_o_out a_o_ownNonce a_o_authorities a_o_signers a_o_shelf a_o_latest a_o_wanted a_o_scan a_o_askText a_o_answerText x_o_authorityCount x_o_signerCount x_o_heldCount x_o_rightAnswers x_o_otherAnswers x_o_looks x_o_latestVerdict x_o_findToHold :: rO q 3 a_o_authorities 4 ra :: rO q 4 a_o_shelf 16 (fun i => some (b i)) :: pF b ga gs gt gu gr gf gn) (qI D q (if (0 ≤ z0 ∧ z0 < x_o_authorityCount) ∧ 0 ≤ z1 ∧ f_ti_fits tm = some 1 then held_lp ga gs gt gn z0 z1 tm h else -2) (oX11 a_o a_o_tape a_o_out a_o_ownNonce a_o_authorities a_o_signers a_o_shelf a_o_latest a_o_wanted a_o_scan a_o_askText a_o_answerText x_o_authorityCount x_o_signerCount x_o_heldCount x_o_rightAnswers x_o_otherAnswers x_o_looks x_o_latestVerdict x_o_findToHold :: rO q 3 a_o_authorities 4 ra :: rO q 4 a_o_shelf 16 (fun i => some (b i)) :: pF b ga gs gt gu gr gf gn)) := by
  refine cu_of (cc := cX11_held) (nL := 7) (ret := (some .int)) (by decide) (Nat.le_of_ble_eq_true rfl) (fun {p e s m args below meth c A} C0 H locs ls hP hD hS hl => ?_)
  have C0 : cy p s m args meth c cX11_held (some .int) 7 RX11 D q t A := C0
  obtain ⟨⟨hx, hb, hr, hml, hown, hts, hlocks, hK, hA⟩, hG⟩ := id C0
  have hl : lv_has ls 7 [(0, .ref a_o), (1, .int z0), (2, .int z1), (3, .long tm)] := hl
  refine lv_aload_n hx hb dX11_held_0 rfl (lv_at hl 0 rfl) ?_
  refine lv_iload_n hx hb dX11_held_1 rfl (lv_at hl 1 rfl) ?_
  by_cases c1 : 0 ≤ z0 ∧ z0 < x_o_authorityCount
  · have k4 : ¬ (z0 < 0 ∨ 4 ≤ z0.toNatClampNeg) := by
      rintro (h9 | h9)
      · exact absurd c1.1 (Int32.not_le.mpr h9)
      · obtain ⟨j, hj, rfl⟩ := nI_of (fun h => absurd c1.1 (Int32.not_le.mpr h))
        rw [nI_clamp hj] at h9
        have h8 : nI j < nI 4 := Int32.lt_of_lt_of_le c1.2 h4
        have := (nI_ltI hj (by decide)).mp h8
        omega
    refine cf_r C0.1 hP hD hS [0, 1] [2, 3, 4, 5, 6, 7, 8, 9, 10, 11, 12, 13, 14, 15, 16, 17, 18] [17, 18, 0, 1, 2, 3, 4, 5, 6, 7, 8, 9, 10, 11, 12, 13, 14, 15, 16] (wr := rO q 4 a_o_shelf 16 (fun i => some (b i)) :: pF b ga gs gt gu gr gf gn) (w' := oX11 a_o a_o_tape a_o_out a_o_ownNonce a_o_authorities a_o_signers a_o_shelf a_o_latest a_o_wanted a_o_scan a_o_askText a_o_answerText x_o_authorityCount x_o_signerCount x_o_heldCount x_o_rightAnswers x_o_otherAnswers x_o_looks x_o_latestVerdict x_o_findToHold :: rO q 3 a_o_authorities 4 ra :: rO q 4 a_o_shelf 16 (fun i => some (b i)) :: pF b ga gs gt gu gr gf gn) rfl rfl rfl (by decide) rfl rfl (sn_V (As := [.int z0]) (rest := []) (ci := 9) (q0 := 0) C0 (c_de_authorityAt_r l D q t a_o a_o_tape a_o_out a_o_ownNonce a_o_authorities a_o_signers a_o_shelf a_o_latest a_o_wanted a_o_scan a_o_askText a_o_answerText x_o_authorityCount x_o_signerCount x_o_heldCount x_o_rightAnswers x_o_otherAnswers x_o_looks x_o_latestVerdict x_o_findToHold ra z0 a_A c1.1 c1.2 k4 (hq c1)) (cwV 1 hts (g_V kw_626 kw_628 kw_1 kw_72 kw_629) rfl rfl rfl hd_X11_authorityAt ⟨Nat.le_of_ble_eq_true rfl, Nat.le_of_ble_eq_true rfl⟩) hP hD hS [0, 1] rfl rfl rfl rfl rfl rfl hl (Nat.le_of_ble_eq_true rfl) dX11_held_2) (fun H locs hP hD hS => ?_)
    refine lv_ifnull hx hb dX11_held_5 ?_
    refine lv_iload_n hx hb dX11_held_8 rfl (lv_at hl 2 rfl) ?_
    refine lv_if_lt (tgt := 19) hx hb dX11_held_9 (by decide) (fun c2 => ?_) (fun c2 => ?_)
    · rw [if_neg (fun h => absurd h.2.1 (Int32.not_le.mpr c2))]
      refine lv_bipush (v := (-2 : Int32)) hx hb dX11_held_19 (by decide) ?_
      exact rt_i C0.1 hP hD hS dX11_held_21
    · refine lv_lload_n hx hb dX11_held_12 rfl (lv_at hl 3 rfl) ?_
      refine cf_i C0.1 hP hD hS [] [0, 1, 2, 3, 4, 5, 6, 7, 8, 9, 10, 11, 12, 13, 14, 15, 16, 17, 18] [0, 1, 2, 3, 4, 5, 6, 7, 8, 9, 10, 11, 12, 13, 14, 15, 16, 17, 18] (wr := oX11 a_o a_o_tape a_o_out a_o_ownNonce a_o_authorities a_o_signers a_o_shelf a_o_latest a_o_wanted a_o_scan a_o_askText a_o_answerText x_o_authorityCount x_o_signerCount x_o_heldCount x_o_rightAnswers x_o_otherAnswers x_o_looks x_o_latestVerdict x_o_findToHold :: rO q 3 a_o_authorities 4 ra :: rO q 4 a_o_shelf 16 (fun i => some (b i)) :: pF b ga gs gt gu gr gf gn) (w' := oX11 a_o a_o_tape a_o_out a_o_ownNonce a_o_authorities a_o_signers a_o_shelf a_o_latest a_o_wanted a_o_scan a_o_askText a_o_answerText x_o_authorityCount x_o_signerCount x_o_heldCount x_o_rightAnswers x_o_otherAnswers x_o_looks x_o_latestVerdict x_o_findToHold :: rO q 3 a_o_authorities 4 ra :: rO q 4 a_o_shelf 16 (fun i => some (b i)) :: pF b ga gs gt gu gr gf gn) rfl rfl rfl (by decide) rfl rfl (sn_S (As := [.long tm]) (rest := []) C0 (c_ti_fits l D q t tm y hy) (va_cwS 1 hts (g_S kw_644 kw_645 kw_85 kw_646) rfl rfl rfl hd_X10_fits ⟨Nat.le_of_ble_eq_true rfl, Nat.le_of_ble_eq_true rfl⟩) hP hD hS [] rfl rfl rfl hl (Nat.le_of_ble_eq_true rfl) dX11_held_13) (fun H locs hP hD hS => ?_)
      refine lv_if_ne (tgt := 22) hx hb dX11_held_16 (by decide) (fun c3 => ?_) (fun c3 => ?_)
      · have hy1 : f_ti_fits tm = some 1 := by
          rcases fits_01 hy with rfl | rfl
          · exact absurd rfl c3
          · exact hy
        rw [if_pos ⟨c1, Int32.not_lt.mp c2, hy1⟩]
        refine lv_aload_n hx hb dX11_held_22 rfl (lv_at hl 0 rfl) ?_
        refine va_get (D := D) (ci := 9) (v := .int x_o_heldCount) (C := RX11) (T := TX11) (N := 19) hx hb hts iw_X11 hown hK hP 0 rfl rfl 13 (by decide) (hts _ kw_473) (fun _ h9 => h9) rfl dX11_held_23 ?_
        refine lv_iconst (v := (1 : Int32)) hx hb dX11_held_26 (by decide) ?_
        refine lv_isub hx hb dX11_held_27 ?_
        refine lv_istore (lv' := [(5, .int (x_o_heldCount - 1)), (0, .ref a_o), (1, .int z0), (2, .int z1), (3, .long tm)]) hx hb dX11_held_28 hl (by decide) rfl (fun ls hl => ?_)
        have hl := lv_sub hl [1, 2, 3, 4, 0] rfl
        rw [hc] at hl
        exact w_de_held_30 C0 a_o a_o_tape a_o_out a_o_ownNonce a_o_authorities a_o_signers a_o_shelf a_o_latest a_o_wanted a_o_scan a_o_askText a_o_answerText x_o_authorityCount x_o_signerCount x_o_heldCount x_o_rightAnswers x_o_otherAnswers x_o_looks x_o_latestVerdict x_o_findToHold ra b ga gs gt gu gr gf gn z0 z1 tm h hh H locs ls hP hD hS hl
      · rw [if_neg (fun h => by rw [hy, c3] at h; exact absurd (Option.some.inj h.2.2) (by decide))]
        refine lv_bipush (v := (-2 : Int32)) hx hb dX11_held_19 (by decide) ?_
        exact rt_i C0.1 hP hD hS dX11_held_21
  · refine cf_n C0.1 hP hD hS [0, 1] [2, 3, 4, 5, 6, 7, 8, 9, 10, 11, 12, 13, 14, 15, 16, 17, 18] [17, 18, 0, 1, 2, 3, 4, 5, 6, 7, 8, 9, 10, 11, 12, 13, 14, 15, 16] (wr := rO q 4 a_o_shelf 16 (fun i => some (b i)) :: pF b ga gs gt gu gr gf gn) (w' := oX11 a_o a_o_tape a_o_out a_o_ownNonce a_o_authorities a_o_signers a_o_shelf a_o_latest a_o_wanted a_o_scan a_o_askText a_o_answerText x_o_authorityCount x_o_signerCount x_o_heldCount x_o_rightAnswers x_o_otherAnswers x_o_looks x_o_latestVerdict x_o_findToHold :: rO q 3 a_o_authorities 4 ra :: rO q 4 a_o_shelf 16 (fun i => some (b i)) :: pF b ga gs gt gu gr gf gn) rfl rfl rfl (by decide) rfl rfl (sn_V (As := [.int z0]) (rest := []) (ci := 9) (q0 := 0) C0 (c_de_authorityAt_n l D q t a_o a_o_tape a_o_out a_o_ownNonce a_o_authorities a_o_signers a_o_shelf a_o_latest a_o_wanted a_o_scan a_o_askText a_o_answerText x_o_authorityCount x_o_signerCount x_o_heldCount x_o_rightAnswers x_o_otherAnswers x_o_looks x_o_latestVerdict x_o_findToHold ra z0 c1) (cwV 1 hts (g_V kw_626 kw_628 kw_1 kw_72 kw_629) rfl rfl rfl hd_X11_authorityAt ⟨Nat.le_of_ble_eq_true rfl, Nat.le_of_ble_eq_true rfl⟩) hP hD hS [0, 1] rfl rfl rfl rfl rfl rfl hl (Nat.le_of_ble_eq_true rfl) dX11_held_2) (fun H locs hP hD hS => ?_)
    refine lv_ifnullN (tgt := 19) hx hb dX11_held_5 (by decide) ?_
    rw [if_neg (fun h => c1 h.1)]
    refine lv_bipush (v := (-2 : Int32)) hx hb dX11_held_19 (by decide) ?_
    exact rt_i C0.1 hP hD hS dX11_held_21
