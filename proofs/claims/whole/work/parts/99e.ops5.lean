/-! OPERATIONS 5 -/
theorem w_1 {x lo hi : Int64} (h : f_within x lo hi = some 1) : lo ≤ x ∧ x ≤ hi := by
  by_cases e : lo ≤ x ∧ x ≤ hi
  · exact e
  · rw [p_out e] at h
    exact absurd h (by decide)
theorem LkT_e {r lk vd fh l1 : Int32} {l2 l3 : Int64} {l4 l5 : Int32} {l6 : Int64} {l7 : Int32} {z : LkZ} (h : LkT r lk vd fh l1 l2 l3 l4 l5 l6 l7 z) (Q : Prop) (k : ∀ (bodyEnd' : Int32) (bodyPlace' : Int32) (c_flags' : Int32) (c_from' : Int64) (c_innerEnd' : Int32) (c_innerPlace' : Int32) (c_issuerPlace' : Int32) (c_issuerSize' : Int32) (c_namePlace' : Int32) (c_nameSize' : Int32) (c_publicKey' : Int64) (c_serial' : Int32) (c_signature' : Int64) (c_to' : Int64) (FR' : Nat → Int64) (hc' : Int32) (cnt' : Int32) (KH' : Nat → Int64) (NH' : Nat → Int64) (SE' : Nat → Int32) (isB' : Int32) (NX' : Nat → Int64) (np' : Int32) (nz' : Int32) (RS' : Nat → Int32) (sg' : Int64) (SI' : Nat → Int64) (ST' : Nat → Int32) (status' : Int32) (th' : Int64) (tp' : Int32) (ts' : Int32) (u1' : Int32) (u2' : Int32) (u3' : Int32) (u4' : Int32) (u5' : Int32) (O' : Nat → Int32) (u6' : Int32) (u7' : Int32) (b : Bool), z = (r, bodyEnd', bodyPlace', c_flags', c_from', c_innerEnd', c_innerPlace', c_issuerPlace', c_issuerSize', c_namePlace', c_nameSize', c_publicKey', c_serial', c_signature', c_to', FR', hc', cnt', KH', NH', SE', isB', NX', np', nz', RS', sg', SI', ST', status', th', tp', ts', fh, l1, l2, l3, l4, l5, l6, l7, vd, lk, u1', u2', u3', u4', u5', O', u6', u7', 0, b) → Q) : Q := by
  unfold LkT at h
  obtain ⟨bodyEnd', bodyPlace', c_flags', c_from', c_innerEnd', c_innerPlace', c_issuerPlace', c_issuerSize', c_namePlace', c_nameSize', c_publicKey', c_serial', c_signature', c_to', FR', hc', cnt', KH', NH', SE', isB', NX', np', nz', RS', sg', SI', ST', status', th', tp', ts', u1', u2', u3', u4', u5', O', u6', u7', b, h⟩ := h
  exact k bodyEnd' bodyPlace' c_flags' c_from' c_innerEnd' c_innerPlace' c_issuerPlace' c_issuerSize' c_namePlace' c_nameSize' c_publicKey' c_serial' c_signature' c_to' FR' hc' cnt' KH' NH' SE' isB' NX' np' nz' RS' sg' SI' ST' status' th' tp' ts' u1' u2' u3' u4' u5' O' u6' u7' b h
theorem LkR_n {fd : Nat → Int64} {hf mh fo fs k s r lk vd : Int32} {y : LkY} (h : LkR fd hf mh fo fs k s r lk vd none y) (Q : Prop) (kk : ∀ (y3 : Int64) (y4 : Int32) (y5 : Int32) (y6 : Int32) (y7 : Int32) (y8 : Int32) (y9 : Int32) (y10 : Int32) (y11 : Int64) (y12 : Int32) (y13 : Int32) (y14 : Int32) (y15 : Int32) (y16 : Int32) (y17 : Int32) (y18 : Int32) (y19 : Int32) (y20 : Int64) (y21 : Int64) (y22 : Int64) (y23 : Int64) (y24 : Int32) (y25 : Int32) (y26 : ((Nat → Int32))) (y27 : ((Nat → Int32))) (y28 : ((Nat → Int64))) (y29 : Int32) (y30 : Int32) (y31 : Int32) (y32 : Int32) (y33 : Int32) (y34 : Int32) (y35 : Int32) (y36 : Int32) (y37 : Int32) (y38 : Int32) (y39 : ((Nat → Int32))) (y40 : ((Nat → Int64))) (y41 : ((Nat → Int32))) (y42 : ((Nat → Int64))) (y43 : ((Nat → Int64))), y = (r, 0, lk, y3, y4, y5, y6, y7, y8, y9, y10, y11, y12, y13, y14, y15, y16, y17, y18, y19, y20, y21, y22, y23, y24, y25, y26, y27, y28, y29, y30, y31, y32, y33, y34, y35, y36, y37, y38, y39, y40, y41, y42, y43, vd, fd, hf, mh, fo, fs) → Q) : Q := by
  obtain ⟨y0, y1, y2, y3, y4, y5, y6, y7, y8, y9, y10, y11, y12, y13, y14, y15, y16, y17, y18, y19, y20, y21, y22, y23, y24, y25, y26, y27, y28, y29, y30, y31, y32, y33, y34, y35, y36, y37, y38, y39, y40, y41, y42, y43, y44, y45, y46, y47, y48, y49⟩ := y
  obtain ⟨⟨g0, g1, g2, g44⟩, g45, g46, g47, g48, g49⟩ := h
  obtain rfl : y0 = r := g0
  obtain rfl : y1 = 0 := g1
  obtain rfl : y2 = lk := g2
  obtain rfl : y44 = vd := g44
  obtain rfl : y45 = fd := g45
  obtain rfl : y46 = hf := g46
  obtain rfl : y47 = mh := g47
  obtain rfl : y48 = fo := g48
  obtain rfl : y49 = fs := g49
  exact kk _ _ _ _ _ _ _ _ _ _ _ _ _ _ _ _ _ _ _ _ _ _ _ _ _ _ _ _ _ _ _ _ _ _ _ _ _ _ _ _ _ rfl
theorem LkR_s {fd : Nat → Int64} {hf mh fo fs k s r lk vd : Int32} {n : FN} {y : LkY} (h : LkR fd hf mh fo fs k s r lk vd (some n) y) (Q : Prop) (kk : ∀ (y3 : Int64) (y4 : Int32) (y5 : Int32) (y6 : Int32) (y7 : Int32) (y8 : Int32) (y9 : Int32) (y10 : Int32) (y11 : Int64) (y12 : Int32) (y13 : Int32) (y14 : Int32) (y15 : Int32) (y16 : Int32) (y17 : Int32) (y18 : Int32) (y19 : Int32) (y20 : Int64) (y21 : Int64) (y22 : Int64) (y23 : Int64) (y24 : Int32) (y25 : Int32) (y26 : ((Nat → Int32))) (y27 : ((Nat → Int32))) (y28 : ((Nat → Int64))) (y29 : Int32) (y30 : Int32) (y31 : Int32) (y32 : Int32) (y33 : Int32) (y34 : Int32) (y35 : Int32) (y36 : Int32) (y37 : Int32) (y38 : Int32) (y39 : ((Nat → Int32))) (y40 : ((Nat → Int64))) (y41 : ((Nat → Int32))) (y42 : ((Nat → Int64))) (y43 : ((Nat → Int64))) (y45 : ((Nat → Int64))), y = (r, 0, lk, y3, y4, y5, y6, y7, y8, y9, y10, y11, y12, y13, y14, y15, y16, y17, y18, y19, y20, y21, y22, y23, y24, y25, y26, y27, y28, y29, y30, y31, y32, y33, y34, y35, y36, y37, y38, y39, y40, y41, y42, y43, vd, y45, 1, 1, k, s) → y45 0 = n.1.toInt64 → y45 1 = n.2.1 → y45 2 = n.2.2.1.toInt64 → y45 3 = n.2.2.2.1 → y45 4 = n.2.2.2.2 → Q) : Q := by
  obtain ⟨y0, y1, y2, y3, y4, y5, y6, y7, y8, y9, y10, y11, y12, y13, y14, y15, y16, y17, y18, y19, y20, y21, y22, y23, y24, y25, y26, y27, y28, y29, y30, y31, y32, y33, y34, y35, y36, y37, y38, y39, y40, y41, y42, y43, y44, y45, y46, y47, y48, y49⟩ := y
  obtain ⟨⟨g0, g1, g2, g44⟩, f0, f1, f2, f3, f4, g46, g47, g48, g49⟩ := h
  obtain rfl : y0 = r := g0
  obtain rfl : y1 = 0 := g1
  obtain rfl : y2 = lk := g2
  obtain rfl : y44 = vd := g44
  obtain rfl : y46 = 1 := g46
  obtain rfl : y47 = 1 := g47
  obtain rfl : y48 = k := g48
  obtain rfl : y49 = s := g49
  exact kk _ _ _ _ _ _ _ _ _ _ _ _ _ _ _ _ _ _ _ _ _ _ _ _ _ _ _ _ _ _ _ _ _ _ _ _ _ _ _ _ _ _ rfl f0 f1 f2 f3 f4
theorem o_look (l : Launch) (D : va_G) (q : Nat → ClassId) (t x mm : Nat) (a am : Nat → Nat) : op_look l D q t x mm (INV q x a mm am) := by
  intro wx wm hI z0 z1 z2 z3 z4
  refine hI _ (fun c d h n w fi el lk cv mh f od odl nd0 nl0 la ls lst lsi lr lf ln NH KH SE b ga gs gt gu gr gf gn nd nl sr sn rs se pk nh kh is tb td tl ow ss sp sh o ol nm ns sc ky iss rS rT rR so zs zk ct cz wo wsr no nz vr fd hf fo fs hO hS hT hL sd e0 e1 e2 e3 e4 e5 e6 e7 e8 e9 e10 e11 e12 e13 e14 e15 e16 e17 e18 e19 e20 e21 e22 e23 e24 e25 e26 e27 e28 e29 e30 e31 e32 e33 e34 e35 e36 e37 e38 e39 e40 e41 e42 e43 e44 e45 m0 m1 m2 m3 m4 m5 m6 m7 m8 m9 m10 m11 m12 m13 m14 m15 m16 m17 m18 m19 m20 m21 m22 m23 m24 m25 m26 m27 m28 m29 m30 m31 m32 m33 m34 m35 m36 m37 m38 m39 m40 m41 m42 m43 m44 m45 hwx hwm hTp hOu hNo hAu hSi hWa hVe hFi hHe => ?_)
  clear hI
  subst hwx hwm
  obtain ⟨B, b1, b2, b3⟩ := hNo
  by_cases hb : ((0 ≤ z0 ∧ z0 < nI c) ∧ ¬ z1 < 0 ∧ f_within z2 0 3155759999 = some 1 ∧ f_within z3.toInt64 0 1000000000 = some 1 ∧ f_within z4.toInt64 0 1000000000 = some 1)
  · obtain ⟨h1, h2, h3, h4, h5⟩ := hb
    obtain ⟨k, hk, rfl⟩ := au_ix hAu.1 h1
    have hk4 : k < 4 := Nat.lt_of_lt_of_le hk hAu.1
    obtain ⟨V, hV, rfl⟩ := nI_of h2
    obtain ⟨T0, hT0, rfl⟩ := tm_of (w_1 h3)
    have s5 : f_de_isSpan z3 = some 1 ∧ f_within z3.toInt64 0 1000000000 = some 1 := by
      rcases sp_eq z3 with e | e
      · rw [h4] at e
        exact absurd e.2 (by decide)
      · exact e
    have s6 : f_de_isSpan z4 = some 1 ∧ f_within z4.toInt64 0 1000000000 = some 1 := by
      rcases sp_eq z4 with e | e
      · rw [h5] at e
        exact absurd e.2 (by decide)
      · exact e
    obtain ⟨m, t1, t2, t3, t4⟩ := hAu.2.2 k hk4
    obtain ⟨An, x1, ⟨u1, u2, u3, u4, u5⟩, x2, x3, n2, n3, n4, n5, n6, n7⟩ := hAu.2.1 k hk
    obtain ⟨v, o', hv, HR, HC⟩ := lk_y (r_tape := f) (r_names := nm) (r_nameSizes := ns) (r_keys := ky) (r_issued := iss) (r_serials := rS) (r_since := rT) (r_nonce := no) (x_nonceSize := nz) (x_looks := lk) (x_hashed := m0) (x_at0 := m6) (x_items0 := m7) (x_fault0 := m8) (x_start0 := m9) (x_sort0 := m10) (x_from0 := m11) (x_to0 := m12) (x_number0 := m13) (x_signatureAt0 := m14) (x_innerFrom0 := m15) (x_innerTo0 := m16) (x_certSignature0 := m17) (x_issuerFrom0 := m18) (x_issuerTo0 := m19) (x_holderFrom0 := m20) (x_holderTo0 := m21) (x_certSerial0 := m22) (x_certFrom0 := m23) (x_certTo0 := m24) (x_certKey0 := m25) (x_certFlags0 := m26) (x_ids0 := m27) (r_idNames0 := m28) (r_idKeys0 := m29) (r_idSerials0 := m30) (x_nonceFrom0 := m31) (x_nonceTo0 := m32) (x_status0 := m33) (x_tellerSort0 := m34) (x_tellerFrom0 := m35) (x_tellerTo0 := m36) (x_bodyFrom0 := m37) (x_bodyTo0 := m38) (x_bodySignature0 := m39) (x_hasCert0 := m40) (r_states0 := m41) (r_whens0 := m42) (r_whys0 := m43) (r_fresh0 := m44) (r_laters0 := m45) (x_verdict := vr) (r_find := fd) (x_hasFind := hf) (x_mayHold := mh) (x_findOf := fo) (x_findSerial := fs) (miss := (is k)) (kh := (kh k)) (nd := (nd k)) (nl := (nl k)) (nh := (nh k)) (pk := (pk k)) (S := (sr k)) (T := (sn k)) (bodyEnd := e17) (bodyPlace := e16) (c_flags := e44) (c_from := e41) (c_innerEnd := e35) (c_innerPlace := e34) (c_issuerPlace := e37) (c_issuerSize := e38) (c_namePlace := e39) (c_nameSize := e40) (c_publicKey := e43) (c_serial := e36) (c_signature := e45) (c_to := e42) (FR := e32) (hc := e15) (cnt := e25) (KH := e27) (NH := e26) (SE := e28) (isB := e19) (NX := e33) (np := e23) (nz := e24) (RS := e31) (sg := e18) (SI := e30) (ST := e29) (status := e14) (th := e22) (tp := e20) (ts := e21) (fth := mh) (la := la) (lf := lf) (ln := ln) (lr := lr) (ls := ls) (lsi := lsi) (lst := lst) (cv := cv) (lks := lk) (nd0 := nd0) (nl0 := nl0) (u1 := e2) (u2 := e0) (u3 := e1) (u4 := e5) (u5 := e6) (O := e7) (u6 := e3) (u7 := e4) hTp.2 hTp.1 hAu.1 hk t1 t3 t2 u4 u3 u1 u5 n2 (kyN_lt x1) n4 n7 n3 b1 b2 b3 hV hT0 s5 s6
    rcases o' with _ | nn
    · obtain ⟨y, E1, HY⟩ := HR
      refine LkR_n HY _ (fun y3 y4 y5 y6 y7 y8 y9 y10 y11 y12 y13 y14 y15 y16 y17 y18 y19 y20 y21 y22 y23 y24 y25 y26 y27 y28 y29 y30 y31 y32 y33 y34 y35 y36 y37 y38 y39 y40 y41 y42 y43 hy => ?_)
      subst hy
      obtain ⟨z, E2, HT⟩ := HC
      refine LkT_e HT _ (fun bodyEnd' bodyPlace' c_flags' c_from' c_innerEnd' c_innerPlace' c_issuerPlace' c_issuerSize' c_namePlace' c_nameSize' c_publicKey' c_serial' c_signature' c_to' FR' hc' cnt' KH' NH' SE' isB' NX' np' nz' RS' sg' SI' ST' status' th' tp' ts' u1' u2' u3' u4' u5' O' u6' u7' b hz => ?_)
      subst hz
      exact ⟨_, _, _, U_look hk4 (nI k) (nI V) (lN T0) z3 z4 _ E2 (fun _ => nI_clamp (Nat.lt_trans hk4 (by decide))), c_look l D q (cA mm am) _ _ _ _ _ _ _ _ _ _ _ _ _ _ _ _ _ _ _ _ _ _ _ _ _ _ _ _ _ _ _ _ _ _ _ _ _ _ _ _ _ _ _ _ _ _ _ _ _ _ _ _ _ _ _ _ _ _ _ _ _ _ _ _ _ _ _ _ _ _ _ _ _ _ _ _ _ _ _ _ _ _ _ _ (nI k) (nI V) (lN T0) z3 z4 _ E1, (fun Q0 K0 => K0 _ _ _ (0) _ _ _ _ _ _ _ _ _ _ _ _ _ _ _ _ _ _ _ _ _ _ _ _ _ _ _ _ _ _ _ _ _ _ _ _ _ _ _ _ _ _ _ _ _ _ _ _ _ _ _ _ _ _ _ _ _ _ _ _ _ _ _ _ _ _ _ _ _ _ _ _ _ _ _ _ _ _ _ _ _ _ _ _ _ _ _ _ _ _ _ _ _ _ _ _ _ _ _ _ _ _ _ _ _ _ _ _ _ _ _ _ _ _ _ _ _ _ _ _ _ _ _ _ _ _ _ _ _ _ _ _ _ _ _ _ _ _ _ _ _ _ _ _ _ _ _ _ _ _ _ _ _ _ _ _ _ _ _ _ _ _ _ _ _ _ _ rfl rfl (⟨Nat.zero_le _, hTp.2⟩) (hOu) (⟨B, b1, b2, b3⟩) (hAu) (hSi) (hWa) (Or.inr ⟨rfl, hv⟩) (hFi) (hHe))⟩
    · obtain ⟨y, E1, HY⟩ := HR
      refine LkR_s HY _ (fun y3 y4 y5 y6 y7 y8 y9 y10 y11 y12 y13 y14 y15 y16 y17 y18 y19 y20 y21 y22 y23 y24 y25 y26 y27 y28 y29 y30 y31 y32 y33 y34 y35 y36 y37 y38 y39 y40 y41 y42 y43 y45 hy f0 f1 f2 f3 f4 => ?_)
      subst hy
      obtain ⟨z, E2, HT⟩ := HC
      refine LkT_e HT _ (fun bodyEnd' bodyPlace' c_flags' c_from' c_innerEnd' c_innerPlace' c_issuerPlace' c_issuerSize' c_namePlace' c_nameSize' c_publicKey' c_serial' c_signature' c_to' FR' hc' cnt' KH' NH' SE' isB' NX' np' nz' RS' sg' SI' ST' status' th' tp' ts' u1' u2' u3' u4' u5' O' u6' u7' b hz => ?_)
      subst hz
      exact ⟨_, _, _, U_look hk4 (nI k) (nI V) (lN T0) z3 z4 _ E2 (fun _ => nI_clamp (Nat.lt_trans hk4 (by decide))), c_look l D q (cA mm am) _ _ _ _ _ _ _ _ _ _ _ _ _ _ _ _ _ _ _ _ _ _ _ _ _ _ _ _ _ _ _ _ _ _ _ _ _ _ _ _ _ _ _ _ _ _ _ _ _ _ _ _ _ _ _ _ _ _ _ _ _ _ _ _ _ _ _ _ _ _ _ _ _ _ _ _ _ _ _ _ _ _ _ _ (nI k) (nI V) (lN T0) z3 z4 _ E1, (fun Q0 K0 => K0 _ _ _ (0) _ _ _ _ _ _ _ _ _ _ _ _ _ _ _ _ _ _ _ _ _ _ _ _ _ _ _ _ _ _ _ _ _ _ _ _ _ _ _ _ _ _ _ _ _ _ _ _ _ _ _ _ _ _ _ _ _ _ _ _ _ _ _ _ _ _ _ _ _ _ _ _ _ _ _ _ _ _ _ _ _ _ _ _ _ _ _ _ _ _ _ _ _ _ _ _ _ _ _ _ _ _ _ _ _ _ _ _ _ _ _ _ _ _ _ _ _ _ _ _ _ _ _ _ _ _ _ _ _ _ _ _ _ _ _ _ _ _ _ _ _ _ _ _ _ _ _ _ _ _ _ _ _ _ _ _ _ _ _ _ _ _ _ _ _ _ _ rfl rfl (⟨Nat.zero_le _, hTp.2⟩) (hOu) (⟨B, b1, b2, b3⟩) (hAu) (hSi) (hWa) (Or.inr ⟨rfl, hv⟩) (⟨Or.inr ⟨rfl, f0, f1, f2, f3, f4⟩, Or.inr ⟨rfl, rfl, rfl⟩⟩) (hHe))⟩
  · obtain ⟨k, hk4, q1, -⟩ := pick (M := 4) (by decide) hAu.1 (by decide) z0
    obtain ⟨HR, HC⟩ := lk_no (n := n) (r_tape := f) (r_names := nm) (r_nameSizes := ns) (r_keys := ky) (r_issued := iss) (r_serials := rS) (r_since := rT) (r_nonce := no) (x_nonceSize := nz) (x_looks := lk) (x_hashed := m0) (x_at0 := m6) (x_items0 := m7) (x_fault0 := m8) (x_start0 := m9) (x_sort0 := m10) (x_from0 := m11) (x_to0 := m12) (x_number0 := m13) (x_signatureAt0 := m14) (x_innerFrom0 := m15) (x_innerTo0 := m16) (x_certSignature0 := m17) (x_issuerFrom0 := m18) (x_issuerTo0 := m19) (x_holderFrom0 := m20) (x_holderTo0 := m21) (x_certSerial0 := m22) (x_certFrom0 := m23) (x_certTo0 := m24) (x_certKey0 := m25) (x_certFlags0 := m26) (x_ids0 := m27) (r_idNames0 := m28) (r_idKeys0 := m29) (r_idSerials0 := m30) (x_nonceFrom0 := m31) (x_nonceTo0 := m32) (x_status0 := m33) (x_tellerSort0 := m34) (x_tellerFrom0 := m35) (x_tellerTo0 := m36) (x_bodyFrom0 := m37) (x_bodyTo0 := m38) (x_bodySignature0 := m39) (x_hasCert0 := m40) (r_states0 := m41) (r_whens0 := m42) (r_whys0 := m43) (r_fresh0 := m44) (r_laters0 := m45) (x_verdict := vr) (r_find := fd) (x_hasFind := hf) (x_mayHold := mh) (x_findOf := fo) (x_findSerial := fs) (miss := (is k)) (kh := (kh k)) (nd := (nd k)) (nl := (nl k)) (nh := (nh k)) (pk := (pk k)) (S := (sr k)) (T := (sn k)) (bodyEnd := e17) (bodyPlace := e16) (c_flags := e44) (c_from := e41) (c_innerEnd := e35) (c_innerPlace := e34) (c_issuerPlace := e37) (c_issuerSize := e38) (c_namePlace := e39) (c_nameSize := e40) (c_publicKey := e43) (c_serial := e36) (c_signature := e45) (c_to := e42) (FR := e32) (hc := e15) (cnt := e25) (KH := e27) (NH := e26) (SE := e28) (isB := e19) (NX := e33) (np := e23) (nz := e24) (RS := e31) (sg := e18) (SI := e30) (ST := e29) (status := e14) (th := e22) (tp := e20) (ts := e21) (fth := mh) (la := la) (lf := lf) (ln := ln) (lr := lr) (ls := ls) (lsi := lsi) (lst := lst) (cv := cv) (lks := lk) (nd0 := nd0) (nl0 := nl0) (u1 := e2) (u2 := e0) (u3 := e1) (u4 := e5) (u5 := e6) (O := e7) (u6 := e3) (u7 := e4) hAu.1 z0 z1 z2 hb
    obtain ⟨y, E1, HY⟩ := HR
    refine LkR_n HY _ (fun y3 y4 y5 y6 y7 y8 y9 y10 y11 y12 y13 y14 y15 y16 y17 y18 y19 y20 y21 y22 y23 y24 y25 y26 y27 y28 y29 y30 y31 y32 y33 y34 y35 y36 y37 y38 y39 y40 y41 y42 y43 hy => ?_)
    subst hy
    obtain ⟨z, E2, HT⟩ := HC
    refine LkT_e HT _ (fun bodyEnd' bodyPlace' c_flags' c_from' c_innerEnd' c_innerPlace' c_issuerPlace' c_issuerSize' c_namePlace' c_nameSize' c_publicKey' c_serial' c_signature' c_to' FR' hc' cnt' KH' NH' SE' isB' NX' np' nz' RS' sg' SI' ST' status' th' tp' ts' u1' u2' u3' u4' u5' O' u6' u7' b hz => ?_)
    subst hz
    exact ⟨_, _, _, U_look hk4 z0 z1 z2 z3 z4 _ E2 (fun q => (q1 q).1), c_look l D q (cA mm am) _ _ _ _ _ _ _ _ _ _ _ _ _ _ _ _ _ _ _ _ _ _ _ _ _ _ _ _ _ _ _ _ _ _ _ _ _ _ _ _ _ _ _ _ _ _ _ _ _ _ _ _ _ _ _ _ _ _ _ _ _ _ _ _ _ _ _ _ _ _ _ _ _ _ _ _ _ _ _ _ _ _ _ _ z0 z1 z2 z3 z4 _ E1, (fun Q0 K0 => K0 _ _ _ (0) _ _ _ _ _ _ _ _ _ _ _ _ _ _ _ _ _ _ _ _ _ _ _ _ _ _ _ _ _ _ _ _ _ _ _ _ _ _ _ _ _ _ _ _ _ _ _ _ _ _ _ _ _ _ _ _ _ _ _ _ _ _ _ _ _ _ _ _ _ _ _ _ _ _ _ _ _ _ _ _ _ _ _ _ _ _ _ _ _ _ _ _ _ _ _ _ _ _ _ _ _ _ _ _ _ _ _ _ _ _ _ _ _ _ _ _ _ _ _ _ _ _ _ _ _ _ _ _ _ _ _ _ _ _ _ _ _ _ _ _ _ _ _ _ _ _ _ _ _ _ _ _ _ _ _ _ _ _ _ _ _ _ _ _ _ _ _ rfl rfl (⟨Nat.zero_le _, hTp.2⟩) (hOu) (⟨B, b1, b2, b3⟩) (hAu) (hSi) (hWa) (hVe) (hFi) (hHe))⟩
