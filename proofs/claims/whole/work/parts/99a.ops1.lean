/-! OPERATIONS 1 -/
theorem P_told (p a1 a2 a3 a4 a5 a6 a7 a8 : Int32) : ∃ r, f_told a1 a2 a3 a4 a5 a6 a7 a8 p = some r ∧ f_de_told a2 a8 a7 a6 a5 a3 a1 a4 p = some r := by
  obtain ⟨r, e⟩ : ∃ r, f_told a1 a2 a3 a4 a5 a6 a7 a8 p = some r := by
    unfold f_told
    repeat' split
    all_goals exact ⟨_, rfl⟩
  exact ⟨r, e, e⟩
theorem o_feed (l : Launch) (D : va_G) (q : Nat → ClassId) (t x mm : Nat) (a am : Nat → Nat) : op_feed l D q t x mm (INV q x a mm am) := by
  intro wx wm hI z0 z1
  refine hI _ (fun c d h n w fi el lk cv mh f od odl nd0 nl0 la ls lst lsi lr lf ln NH KH SE b ga gs gt gu gr gf gn nd nl sr sn rs se pk nh kh is tb td tl ow ss sp sh o ol nm ns sc ky iss rS rT rR so zs zk ct cz wo wsr no nz vr fd hf fo fs hO hS hT hL sd e0 e1 e2 e3 e4 e5 e6 e7 e8 e9 e10 e11 e12 e13 e14 e15 e16 e17 e18 e19 e20 e21 e22 e23 e24 e25 e26 e27 e28 e29 e30 e31 e32 e33 e34 e35 e36 e37 e38 e39 e40 e41 e42 e43 e44 e45 m0 m1 m2 m3 m4 m5 m6 m7 m8 m9 m10 m11 m12 m13 m14 m15 m16 m17 m18 m19 m20 m21 m22 m23 m24 m25 m26 m27 m28 m29 m30 m31 m32 m33 m34 m35 m36 m37 m38 m39 m40 m41 m42 m43 m44 m45 hwx hwm hTp hOu hNo hAu hSi hWa hVe hFi hHe => ?_)
  clear hI
  subst hwx hwm
  obtain ⟨r, g, n', e1, e2, e3, e4⟩ := P_feed hTp.1 hTp.2 z0 z1
  exact ⟨r, _, _, U_feed z0 z1 _ e2, c_feed l D q (cA mm am) _ _ _ _ _ _ _ _ _ _ _ _ _ _ _ _ _ _ _ _ _ _ _ _ _ _ _ _ _ _ _ _ _ _ _ _ _ _ _ _ _ _ _ _ _ _ _ _ _ _ _ _ _ _ _ _ _ _ _ _ _ _ _ _ _ _ _ _ _ _ _ _ _ _ _ _ _ _ _ _ _ _ _ _ z0 z1 _ e1, (fun Q0 K0 => K0 _ _ _ _ _ _ _ _ _ _ _ _ _ _ _ _ _ _ _ _ _ _ _ _ _ _ _ _ _ _ _ _ _ _ _ _ _ _ _ _ _ _ _ _ _ _ _ _ _ _ _ _ _ _ _ _ _ _ _ _ _ _ _ _ _ _ _ _ _ _ _ _ _ _ _ _ _ _ _ _ _ _ _ _ _ _ _ _ _ _ _ _ _ _ _ _ _ _ _ _ _ _ _ _ _ _ _ _ _ _ _ _ _ _ _ _ _ _ _ _ _ _ _ _ _ _ _ _ _ _ _ _ _ _ _ _ _ _ _ _ _ _ _ _ _ _ _ _ _ _ _ _ _ _ _ _ _ _ _ _ _ _ _ _ _ _ _ _ _ _ _ rfl rfl (⟨e3, e4⟩) (hOu) (hNo) (hAu) (hSi) (hWa) (hVe) (hFi) (hHe))⟩
theorem o_take (l : Launch) (D : va_G) (q : Nat → ClassId) (t x mm : Nat) (a am : Nat → Nat) : op_take l D q t x mm (INV q x a mm am) := by
  intro wx wm hI 
  refine hI _ (fun c d h n w fi el lk cv mh f od odl nd0 nl0 la ls lst lsi lr lf ln NH KH SE b ga gs gt gu gr gf gn nd nl sr sn rs se pk nh kh is tb td tl ow ss sp sh o ol nm ns sc ky iss rS rT rR so zs zk ct cz wo wsr no nz vr fd hf fo fs hO hS hT hL sd e0 e1 e2 e3 e4 e5 e6 e7 e8 e9 e10 e11 e12 e13 e14 e15 e16 e17 e18 e19 e20 e21 e22 e23 e24 e25 e26 e27 e28 e29 e30 e31 e32 e33 e34 e35 e36 e37 e38 e39 e40 e41 e42 e43 e44 e45 m0 m1 m2 m3 m4 m5 m6 m7 m8 m9 m10 m11 m12 m13 m14 m15 m16 m17 m18 m19 m20 m21 m22 m23 m24 m25 m26 m27 m28 m29 m30 m31 m32 m33 m34 m35 m36 m37 m38 m39 m40 m41 m42 m43 m44 m45 hwx hwm hTp hOu hNo hAu hSi hWa hVe hFi hHe => ?_)
  clear hI
  subst hwx hwm
  obtain ⟨A, w1, w2, w3⟩ := hOu
  obtain ⟨g, e1, e2, e3⟩ := P_take hTp.2 (nI n) w2 w1 w3
  exact ⟨(nI A.length), _, _, U_take  _ e2, c_take l D q (cA mm am) _ _ _ _ _ _ _ _ _ _ _ _ _ _ _ _ _ _ _ _ _ _ _ _ _ _ _ _ _ _ _ _ _ _ _ _ _ _ _ _ _ _ _ _ _ _ _ _ _ _ _ _ _ _ _ _ _ _ _ _ _ _ _ _ _ _ _ _ _ _ _ _ _ _ _ _ _ _ _ _ _ _ _ _ _ e1, (fun Q0 K0 => K0 _ _ _ _ _ _ _ _ _ _ _ _ _ _ _ _ _ _ _ _ _ _ _ _ _ _ _ _ _ _ _ _ _ _ _ _ _ _ _ _ _ _ _ _ _ _ _ _ _ _ _ _ _ _ _ _ _ _ _ _ _ _ _ _ _ _ _ _ _ _ _ _ _ _ _ _ _ _ _ _ _ _ _ _ _ _ _ _ _ _ _ _ _ _ _ _ _ _ _ _ _ _ _ _ _ _ _ _ _ _ _ _ _ _ _ _ _ _ _ _ _ _ _ _ _ _ _ _ _ _ _ _ _ _ _ _ _ _ _ _ _ _ _ _ _ _ _ _ _ _ _ _ _ _ _ _ _ _ _ _ _ _ _ _ _ _ _ _ _ _ _ rfl rfl (⟨w3, e3⟩) (⟨A, w1, w2, w3⟩) (hNo) (hAu) (hSi) (hWa) (hVe) (hFi) (hHe))⟩
theorem o_spoil (l : Launch) (D : va_G) (q : Nat → ClassId) (t x mm : Nat) (a am : Nat → Nat) : op_spoil l D q t x mm (INV q x a mm am) := by
  intro wx wm hI z0 z1
  refine hI _ (fun c d h n w fi el lk cv mh f od odl nd0 nl0 la ls lst lsi lr lf ln NH KH SE b ga gs gt gu gr gf gn nd nl sr sn rs se pk nh kh is tb td tl ow ss sp sh o ol nm ns sc ky iss rS rT rR so zs zk ct cz wo wsr no nz vr fd hf fo fs hO hS hT hL sd e0 e1 e2 e3 e4 e5 e6 e7 e8 e9 e10 e11 e12 e13 e14 e15 e16 e17 e18 e19 e20 e21 e22 e23 e24 e25 e26 e27 e28 e29 e30 e31 e32 e33 e34 e35 e36 e37 e38 e39 e40 e41 e42 e43 e44 e45 m0 m1 m2 m3 m4 m5 m6 m7 m8 m9 m10 m11 m12 m13 m14 m15 m16 m17 m18 m19 m20 m21 m22 m23 m24 m25 m26 m27 m28 m29 m30 m31 m32 m33 m34 m35 m36 m37 m38 m39 m40 m41 m42 m43 m44 m45 hwx hwm hTp hOu hNo hAu hSi hWa hVe hFi hHe => ?_)
  clear hI
  subst hwx hwm
  obtain ⟨r, g, e1, e2, e3⟩ := P_spoil hTp.1 hTp.2 z0 z1
  exact ⟨r, _, _, U_spoil z0 z1 _ e2, c_spoil l D q (cA mm am) _ _ _ _ _ _ _ _ _ _ _ _ _ _ _ _ _ _ _ _ _ _ _ _ _ _ _ _ _ _ _ _ _ _ _ _ _ _ _ _ _ _ _ _ _ _ _ _ _ _ _ _ _ _ _ _ _ _ _ _ _ _ _ _ _ _ _ _ _ _ _ _ _ _ _ _ _ _ _ _ _ _ _ _ z0 z1 _ e1, (fun Q0 K0 => K0 _ _ _ _ _ _ _ _ _ _ _ _ _ _ _ _ _ _ _ _ _ _ _ _ _ _ _ _ _ _ _ _ _ _ _ _ _ _ _ _ _ _ _ _ _ _ _ _ _ _ _ _ _ _ _ _ _ _ _ _ _ _ _ _ _ _ _ _ _ _ _ _ _ _ _ _ _ _ _ _ _ _ _ _ _ _ _ _ _ _ _ _ _ _ _ _ _ _ _ _ _ _ _ _ _ _ _ _ _ _ _ _ _ _ _ _ _ _ _ _ _ _ _ _ _ _ _ _ _ _ _ _ _ _ _ _ _ _ _ _ _ _ _ _ _ _ _ _ _ _ _ _ _ _ _ _ _ _ _ _ _ _ _ _ _ _ _ _ _ _ _ rfl rfl (⟨hTp.1, e3⟩) (hOu) (hNo) (hAu) (hSi) (hWa) (hVe) (hFi) (hHe))⟩
theorem o_cut (l : Launch) (D : va_G) (q : Nat → ClassId) (t x mm : Nat) (a am : Nat → Nat) : op_cut l D q t x mm (INV q x a mm am) := by
  intro wx wm hI z0
  refine hI _ (fun c d h n w fi el lk cv mh f od odl nd0 nl0 la ls lst lsi lr lf ln NH KH SE b ga gs gt gu gr gf gn nd nl sr sn rs se pk nh kh is tb td tl ow ss sp sh o ol nm ns sc ky iss rS rT rR so zs zk ct cz wo wsr no nz vr fd hf fo fs hO hS hT hL sd e0 e1 e2 e3 e4 e5 e6 e7 e8 e9 e10 e11 e12 e13 e14 e15 e16 e17 e18 e19 e20 e21 e22 e23 e24 e25 e26 e27 e28 e29 e30 e31 e32 e33 e34 e35 e36 e37 e38 e39 e40 e41 e42 e43 e44 e45 m0 m1 m2 m3 m4 m5 m6 m7 m8 m9 m10 m11 m12 m13 m14 m15 m16 m17 m18 m19 m20 m21 m22 m23 m24 m25 m26 m27 m28 m29 m30 m31 m32 m33 m34 m35 m36 m37 m38 m39 m40 m41 m42 m43 m44 m45 hwx hwm hTp hOu hNo hAu hSi hWa hVe hFi hHe => ?_)
  clear hI
  subst hwx hwm
  obtain ⟨r, n', e1, e2, e3⟩ := P_cut hTp.1 z0
  exact ⟨r, _, _, U_cut z0 _ e2, c_cut l D q (cA mm am) _ _ _ _ _ _ _ _ _ _ _ _ _ _ _ _ _ _ _ _ _ _ _ _ _ _ _ _ _ _ _ _ _ _ _ _ _ _ _ _ _ _ _ _ _ _ _ _ _ _ _ _ _ _ _ _ _ _ _ _ _ _ _ _ _ _ _ _ _ _ _ _ _ _ _ _ _ _ _ _ _ _ _ _ z0 _ e1, (fun Q0 K0 => K0 _ _ _ _ _ _ _ _ _ _ _ _ _ _ _ _ _ _ _ _ _ _ _ _ _ _ _ _ _ _ _ _ _ _ _ _ _ _ _ _ _ _ _ _ _ _ _ _ _ _ _ _ _ _ _ _ _ _ _ _ _ _ _ _ _ _ _ _ _ _ _ _ _ _ _ _ _ _ _ _ _ _ _ _ _ _ _ _ _ _ _ _ _ _ _ _ _ _ _ _ _ _ _ _ _ _ _ _ _ _ _ _ _ _ _ _ _ _ _ _ _ _ _ _ _ _ _ _ _ _ _ _ _ _ _ _ _ _ _ _ _ _ _ _ _ _ _ _ _ _ _ _ _ _ _ _ _ _ _ _ _ _ _ _ _ _ _ _ _ _ _ rfl rfl (⟨Nat.le_trans e3 hTp.1, hTp.2⟩) (hOu) (hNo) (hAu) (hSi) (hWa) (hVe) (hFi) (hHe))⟩
theorem o_size (l : Launch) (D : va_G) (q : Nat → ClassId) (t x mm : Nat) (a am : Nat → Nat) : op_size l D q t x mm (INV q x a mm am) := by
  intro wx wm hI 
  refine hI _ (fun c d h n w fi el lk cv mh f od odl nd0 nl0 la ls lst lsi lr lf ln NH KH SE b ga gs gt gu gr gf gn nd nl sr sn rs se pk nh kh is tb td tl ow ss sp sh o ol nm ns sc ky iss rS rT rR so zs zk ct cz wo wsr no nz vr fd hf fo fs hO hS hT hL sd e0 e1 e2 e3 e4 e5 e6 e7 e8 e9 e10 e11 e12 e13 e14 e15 e16 e17 e18 e19 e20 e21 e22 e23 e24 e25 e26 e27 e28 e29 e30 e31 e32 e33 e34 e35 e36 e37 e38 e39 e40 e41 e42 e43 e44 e45 m0 m1 m2 m3 m4 m5 m6 m7 m8 m9 m10 m11 m12 m13 m14 m15 m16 m17 m18 m19 m20 m21 m22 m23 m24 m25 m26 m27 m28 m29 m30 m31 m32 m33 m34 m35 m36 m37 m38 m39 m40 m41 m42 m43 m44 m45 hwx hwm hTp hOu hNo hAu hSi hWa hVe hFi hHe => ?_)
  clear hI
  subst hwx hwm
  obtain ⟨A, w1, w2, w3⟩ := hOu
  have e1 : f_size ol = some (nI A.length) := by rw [w1.1]; rfl
  have e2 : f_de_size odl = some (nI A.length) := by rw [w2.1]; rfl
  exact ⟨(nI A.length), _, _, U_size  _ e2, c_size l D q (cA mm am) _ _ _ _ _ _ _ _ _ _ _ _ _ _ _ _ _ _ _ _ _ _ _ _ _ _ _ _ _ _ _ _ _ _ _ _ _ _ _ _ _ _ _ _ _ _ _ _ _ _ _ _ _ _ _ _ _ _ _ _ _ _ _ _ _ _ _ _ _ _ _ _ _ _ _ _ _ _ _ _ _ _ _ _ _ e1, (fun Q0 K0 => K0 _ _ _ _ _ _ _ _ _ _ _ _ _ _ _ _ _ _ _ _ _ _ _ _ _ _ _ _ _ _ _ _ _ _ _ _ _ _ _ _ _ _ _ _ _ _ _ _ _ _ _ _ _ _ _ _ _ _ _ _ _ _ _ _ _ _ _ _ _ _ _ _ _ _ _ _ _ _ _ _ _ _ _ _ _ _ _ _ _ _ _ _ _ _ _ _ _ _ _ _ _ _ _ _ _ _ _ _ _ _ _ _ _ _ _ _ _ _ _ _ _ _ _ _ _ _ _ _ _ _ _ _ _ _ _ _ _ _ _ _ _ _ _ _ _ _ _ _ _ _ _ _ _ _ _ _ _ _ _ _ _ _ _ _ _ _ _ _ _ _ _ rfl rfl (hTp) (⟨A, w1, w2, w3⟩) (hNo) (hAu) (hSi) (hWa) (hVe) (hFi) (hHe))⟩
theorem o_out (l : Launch) (D : va_G) (q : Nat → ClassId) (t x mm : Nat) (a am : Nat → Nat) : op_out l D q t x mm (INV q x a mm am) := by
  intro wx wm hI z0
  refine hI _ (fun c d h n w fi el lk cv mh f od odl nd0 nl0 la ls lst lsi lr lf ln NH KH SE b ga gs gt gu gr gf gn nd nl sr sn rs se pk nh kh is tb td tl ow ss sp sh o ol nm ns sc ky iss rS rT rR so zs zk ct cz wo wsr no nz vr fd hf fo fs hO hS hT hL sd e0 e1 e2 e3 e4 e5 e6 e7 e8 e9 e10 e11 e12 e13 e14 e15 e16 e17 e18 e19 e20 e21 e22 e23 e24 e25 e26 e27 e28 e29 e30 e31 e32 e33 e34 e35 e36 e37 e38 e39 e40 e41 e42 e43 e44 e45 m0 m1 m2 m3 m4 m5 m6 m7 m8 m9 m10 m11 m12 m13 m14 m15 m16 m17 m18 m19 m20 m21 m22 m23 m24 m25 m26 m27 m28 m29 m30 m31 m32 m33 m34 m35 m36 m37 m38 m39 m40 m41 m42 m43 m44 m45 hwx hwm hTp hOu hNo hAu hSi hWa hVe hFi hHe => ?_)
  clear hI
  subst hwx hwm
  obtain ⟨A, w1, w2, w3⟩ := hOu
  obtain ⟨r, e1, e2⟩ := P_out w2 w1 w3 z0
  exact ⟨r, _, _, U_out z0 _ e2, c_out l D q (cA mm am) _ _ _ _ _ _ _ _ _ _ _ _ _ _ _ _ _ _ _ _ _ _ _ _ _ _ _ _ _ _ _ _ _ _ _ _ _ _ _ _ _ _ _ _ _ _ _ _ _ _ _ _ _ _ _ _ _ _ _ _ _ _ _ _ _ _ _ _ _ _ _ _ _ _ _ _ _ _ _ _ _ _ _ _ z0 _ e1, (fun Q0 K0 => K0 _ _ _ _ _ _ _ _ _ _ _ _ _ _ _ _ _ _ _ _ _ _ _ _ _ _ _ _ _ _ _ _ _ _ _ _ _ _ _ _ _ _ _ _ _ _ _ _ _ _ _ _ _ _ _ _ _ _ _ _ _ _ _ _ _ _ _ _ _ _ _ _ _ _ _ _ _ _ _ _ _ _ _ _ _ _ _ _ _ _ _ _ _ _ _ _ _ _ _ _ _ _ _ _ _ _ _ _ _ _ _ _ _ _ _ _ _ _ _ _ _ _ _ _ _ _ _ _ _ _ _ _ _ _ _ _ _ _ _ _ _ _ _ _ _ _ _ _ _ _ _ _ _ _ _ _ _ _ _ _ _ _ _ _ _ _ _ _ _ _ _ rfl rfl (hTp) (⟨A, w1, w2, w3⟩) (hNo) (hAu) (hSi) (hWa) (hVe) (hFi) (hHe))⟩
theorem o_nonce (l : Launch) (D : va_G) (q : Nat → ClassId) (t x mm : Nat) (a am : Nat → Nat) : op_nonce l D q t x mm (INV q x a mm am) := by
  intro wx wm hI z0 z1
  refine hI _ (fun c d h n w fi el lk cv mh f od odl nd0 nl0 la ls lst lsi lr lf ln NH KH SE b ga gs gt gu gr gf gn nd nl sr sn rs se pk nh kh is tb td tl ow ss sp sh o ol nm ns sc ky iss rS rT rR so zs zk ct cz wo wsr no nz vr fd hf fo fs hO hS hT hL sd e0 e1 e2 e3 e4 e5 e6 e7 e8 e9 e10 e11 e12 e13 e14 e15 e16 e17 e18 e19 e20 e21 e22 e23 e24 e25 e26 e27 e28 e29 e30 e31 e32 e33 e34 e35 e36 e37 e38 e39 e40 e41 e42 e43 e44 e45 m0 m1 m2 m3 m4 m5 m6 m7 m8 m9 m10 m11 m12 m13 m14 m15 m16 m17 m18 m19 m20 m21 m22 m23 m24 m25 m26 m27 m28 m29 m30 m31 m32 m33 m34 m35 m36 m37 m38 m39 m40 m41 m42 m43 m44 m45 hwx hwm hTp hOu hNo hAu hSi hWa hVe hFi hHe => ?_)
  clear hI
  subst hwx hwm
  obtain ⟨B, w1, w2, w3⟩ := hNo
  obtain ⟨y, z, e1, e2, e3, B', w4, w5, w6⟩ := P_nonce w2 w1 w3 z0 z1
  rcases y with ⟨r, y1, y2⟩
  rcases z with ⟨r', y3, y4⟩
  obtain rfl : r = r' := e3
  exact ⟨r, _, _, U_nonce z0 z1 _ e2, c_nonce l D q (cA mm am) _ _ _ _ _ _ _ _ _ _ _ _ _ _ _ _ _ _ _ _ _ _ _ _ _ _ _ _ _ _ _ _ _ _ _ _ _ _ _ _ _ _ _ _ _ _ _ _ _ _ _ _ _ _ _ _ _ _ _ _ _ _ _ _ _ _ _ _ _ _ _ _ _ _ _ _ _ _ _ _ _ _ _ _ z0 z1 _ e1, (fun Q0 K0 => K0 _ _ _ _ _ _ _ _ _ _ _ _ _ _ _ _ _ _ _ _ _ _ _ _ _ _ _ _ _ _ _ _ _ _ _ _ _ _ _ _ _ _ _ _ _ _ _ _ _ _ _ _ _ _ _ _ _ _ _ _ _ _ _ _ _ _ _ _ _ _ _ _ _ _ _ _ _ _ _ _ _ _ _ _ _ _ _ _ _ _ _ _ _ _ _ _ _ _ _ _ _ _ _ _ _ _ _ _ _ _ _ _ _ _ _ _ _ _ _ _ _ _ _ _ _ _ _ _ _ _ _ _ _ _ _ _ _ _ _ _ _ _ _ _ _ _ _ _ _ _ _ _ _ _ _ _ _ _ _ _ _ _ _ _ _ _ _ _ _ _ _ rfl rfl (hTp) (hOu) (⟨B', w4, w5, w6⟩) (hAu) (hSi) (hWa) (hVe) (hFi) (hHe))⟩
theorem o_passes (l : Launch) (D : va_G) (q : Nat → ClassId) (t x mm : Nat) (a am : Nat → Nat) : op_passes l D q t x mm (INV q x a mm am) := by
  intro wx wm hI z0
  refine hI _ (fun c d h n w fi el lk cv mh f od odl nd0 nl0 la ls lst lsi lr lf ln NH KH SE b ga gs gt gu gr gf gn nd nl sr sn rs se pk nh kh is tb td tl ow ss sp sh o ol nm ns sc ky iss rS rT rR so zs zk ct cz wo wsr no nz vr fd hf fo fs hO hS hT hL sd e0 e1 e2 e3 e4 e5 e6 e7 e8 e9 e10 e11 e12 e13 e14 e15 e16 e17 e18 e19 e20 e21 e22 e23 e24 e25 e26 e27 e28 e29 e30 e31 e32 e33 e34 e35 e36 e37 e38 e39 e40 e41 e42 e43 e44 e45 m0 m1 m2 m3 m4 m5 m6 m7 m8 m9 m10 m11 m12 m13 m14 m15 m16 m17 m18 m19 m20 m21 m22 m23 m24 m25 m26 m27 m28 m29 m30 m31 m32 m33 m34 m35 m36 m37 m38 m39 m40 m41 m42 m43 m44 m45 hwx hwm hTp hOu hNo hAu hSi hWa hVe hFi hHe => ?_)
  clear hI
  subst hwx hwm
  obtain ⟨r, e1, e2⟩ := P_passes hVe z0
  exact ⟨r, _, _, U_passes z0 _ e2, c_passes l D q (cA mm am) _ _ _ _ _ _ _ _ _ _ _ _ _ _ _ _ _ _ _ _ _ _ _ _ _ _ _ _ _ _ _ _ _ _ _ _ _ _ _ _ _ _ _ _ _ _ _ _ _ _ _ _ _ _ _ _ _ _ _ _ _ _ _ _ _ _ _ _ _ _ _ _ _ _ _ _ _ _ _ _ _ _ _ _ z0 _ e1, (fun Q0 K0 => K0 _ _ _ _ _ _ _ _ _ _ _ _ _ _ _ _ _ _ _ _ _ _ _ _ _ _ _ _ _ _ _ _ _ _ _ _ _ _ _ _ _ _ _ _ _ _ _ _ _ _ _ _ _ _ _ _ _ _ _ _ _ _ _ _ _ _ _ _ _ _ _ _ _ _ _ _ _ _ _ _ _ _ _ _ _ _ _ _ _ _ _ _ _ _ _ _ _ _ _ _ _ _ _ _ _ _ _ _ _ _ _ _ _ _ _ _ _ _ _ _ _ _ _ _ _ _ _ _ _ _ _ _ _ _ _ _ _ _ _ _ _ _ _ _ _ _ _ _ _ _ _ _ _ _ _ _ _ _ _ _ _ _ _ _ _ _ _ _ _ _ _ rfl rfl (hTp) (hOu) (hNo) (hAu) (hSi) (hWa) (hVe) (hFi) (hHe))⟩
theorem o_found (l : Launch) (D : va_G) (q : Nat → ClassId) (t x mm : Nat) (a am : Nat → Nat) : op_found l D q t x mm (INV q x a mm am) := by
  intro wx wm hI z0
  refine hI _ (fun c d h n w fi el lk cv mh f od odl nd0 nl0 la ls lst lsi lr lf ln NH KH SE b ga gs gt gu gr gf gn nd nl sr sn rs se pk nh kh is tb td tl ow ss sp sh o ol nm ns sc ky iss rS rT rR so zs zk ct cz wo wsr no nz vr fd hf fo fs hO hS hT hL sd e0 e1 e2 e3 e4 e5 e6 e7 e8 e9 e10 e11 e12 e13 e14 e15 e16 e17 e18 e19 e20 e21 e22 e23 e24 e25 e26 e27 e28 e29 e30 e31 e32 e33 e34 e35 e36 e37 e38 e39 e40 e41 e42 e43 e44 e45 m0 m1 m2 m3 m4 m5 m6 m7 m8 m9 m10 m11 m12 m13 m14 m15 m16 m17 m18 m19 m20 m21 m22 m23 m24 m25 m26 m27 m28 m29 m30 m31 m32 m33 m34 m35 m36 m37 m38 m39 m40 m41 m42 m43 m44 m45 hwx hwm hTp hOu hNo hAu hSi hWa hVe hFi hHe => ?_)
  clear hI
  subst hwx hwm
  obtain ⟨r, e1, e2⟩ := P_found hFi.1 z0
  exact ⟨r, _, _, U_found z0 _ e2, c_found l D q (cA mm am) _ _ _ _ _ _ _ _ _ _ _ _ _ _ _ _ _ _ _ _ _ _ _ _ _ _ _ _ _ _ _ _ _ _ _ _ _ _ _ _ _ _ _ _ _ _ _ _ _ _ _ _ _ _ _ _ _ _ _ _ _ _ _ _ _ _ _ _ _ _ _ _ _ _ _ _ _ _ _ _ _ _ _ _ z0 _ e1, (fun Q0 K0 => K0 _ _ _ _ _ _ _ _ _ _ _ _ _ _ _ _ _ _ _ _ _ _ _ _ _ _ _ _ _ _ _ _ _ _ _ _ _ _ _ _ _ _ _ _ _ _ _ _ _ _ _ _ _ _ _ _ _ _ _ _ _ _ _ _ _ _ _ _ _ _ _ _ _ _ _ _ _ _ _ _ _ _ _ _ _ _ _ _ _ _ _ _ _ _ _ _ _ _ _ _ _ _ _ _ _ _ _ _ _ _ _ _ _ _ _ _ _ _ _ _ _ _ _ _ _ _ _ _ _ _ _ _ _ _ _ _ _ _ _ _ _ _ _ _ _ _ _ _ _ _ _ _ _ _ _ _ _ _ _ _ _ _ _ _ _ _ _ _ _ _ _ rfl rfl (hTp) (hOu) (hNo) (hAu) (hSi) (hWa) (hVe) (hFi) (hHe))⟩
theorem o_clock (l : Launch) (D : va_G) (q : Nat → ClassId) (t x mm : Nat) (a am : Nat → Nat) : op_clock l D q t x mm (INV q x a mm am) := by
  intro wx wm hI z0 z1
  refine hI _ (fun c d h n w fi el lk cv mh f od odl nd0 nl0 la ls lst lsi lr lf ln NH KH SE b ga gs gt gu gr gf gn nd nl sr sn rs se pk nh kh is tb td tl ow ss sp sh o ol nm ns sc ky iss rS rT rR so zs zk ct cz wo wsr no nz vr fd hf fo fs hO hS hT hL sd e0 e1 e2 e3 e4 e5 e6 e7 e8 e9 e10 e11 e12 e13 e14 e15 e16 e17 e18 e19 e20 e21 e22 e23 e24 e25 e26 e27 e28 e29 e30 e31 e32 e33 e34 e35 e36 e37 e38 e39 e40 e41 e42 e43 e44 e45 m0 m1 m2 m3 m4 m5 m6 m7 m8 m9 m10 m11 m12 m13 m14 m15 m16 m17 m18 m19 m20 m21 m22 m23 m24 m25 m26 m27 m28 m29 m30 m31 m32 m33 m34 m35 m36 m37 m38 m39 m40 m41 m42 m43 m44 m45 hwx hwm hTp hOu hNo hAu hSi hWa hVe hFi hHe => ?_)
  clear hI
  subst hwx hwm
  obtain ⟨r, g, e1, e2⟩ := P_clock m3 z0 z1
  exact ⟨r, _, _, U_clock z0 z1 _ e2, c_clock l D q (cA mm am) _ _ _ _ _ _ _ _ _ _ _ _ _ _ _ _ _ _ _ _ _ _ _ _ _ _ _ _ _ _ _ _ _ _ _ _ _ _ _ _ _ _ _ _ _ _ _ _ _ _ _ _ _ _ _ _ _ _ _ _ _ _ _ _ _ _ _ _ _ _ _ _ _ _ _ _ _ _ _ _ _ _ _ _ z0 z1 _ e1, (fun Q0 K0 => K0 _ _ _ _ _ _ _ _ _ _ _ _ _ _ _ _ _ _ _ _ _ _ _ _ _ _ _ _ _ _ _ _ _ _ _ _ _ _ _ _ _ _ _ _ _ _ _ _ _ _ _ _ _ _ _ _ _ _ _ _ _ _ _ _ _ _ _ _ _ _ _ _ _ _ _ _ _ _ _ _ _ _ _ _ _ _ _ _ _ _ _ _ _ _ _ _ _ _ _ _ _ _ _ _ _ _ _ _ _ _ _ _ _ _ _ _ _ _ _ _ _ _ _ _ _ _ _ _ _ _ _ _ _ _ _ _ _ _ _ _ _ _ _ _ _ _ _ _ _ _ _ _ _ _ _ _ _ _ _ _ _ _ _ _ _ _ _ _ _ _ _ rfl rfl (hTp) (hOu) (hNo) (hAu) (hSi) (hWa) (hVe) (hFi) (hHe))⟩
theorem o_hash (l : Launch) (D : va_G) (q : Nat → ClassId) (t x mm : Nat) (a am : Nat → Nat) : op_hash l D q t x mm (INV q x a mm am) := by
  intro wx wm hI 
  refine hI _ (fun c d h n w fi el lk cv mh f od odl nd0 nl0 la ls lst lsi lr lf ln NH KH SE b ga gs gt gu gr gf gn nd nl sr sn rs se pk nh kh is tb td tl ow ss sp sh o ol nm ns sc ky iss rS rT rR so zs zk ct cz wo wsr no nz vr fd hf fo fs hO hS hT hL sd e0 e1 e2 e3 e4 e5 e6 e7 e8 e9 e10 e11 e12 e13 e14 e15 e16 e17 e18 e19 e20 e21 e22 e23 e24 e25 e26 e27 e28 e29 e30 e31 e32 e33 e34 e35 e36 e37 e38 e39 e40 e41 e42 e43 e44 e45 m0 m1 m2 m3 m4 m5 m6 m7 m8 m9 m10 m11 m12 m13 m14 m15 m16 m17 m18 m19 m20 m21 m22 m23 m24 m25 m26 m27 m28 m29 m30 m31 m32 m33 m34 m35 m36 m37 m38 m39 m40 m41 m42 m43 m44 m45 hwx hwm hTp hOu hNo hAu hSi hWa hVe hFi hHe => ?_)
  clear hI
  subst hwx hwm
  obtain ⟨r, g, e1, e2⟩ := P_hash hTp.1 hTp.2 m0
  exact ⟨r, _, _, U_hash  _ e2, c_hash l D q (cA mm am) _ _ _ _ _ _ _ _ _ _ _ _ _ _ _ _ _ _ _ _ _ _ _ _ _ _ _ _ _ _ _ _ _ _ _ _ _ _ _ _ _ _ _ _ _ _ _ _ _ _ _ _ _ _ _ _ _ _ _ _ _ _ _ _ _ _ _ _ _ _ _ _ _ _ _ _ _ _ _ _ _ _ _ _ _ e1, (fun Q0 K0 => K0 _ _ _ _ _ _ _ _ _ _ _ _ _ _ _ _ _ _ _ _ _ _ _ _ _ _ _ _ _ _ _ _ _ _ _ _ _ _ _ _ _ _ _ _ _ _ _ _ _ _ _ _ _ _ _ _ _ _ _ _ _ _ _ _ _ _ _ _ _ _ _ _ _ _ _ _ _ _ _ _ _ _ _ _ _ _ _ _ _ _ _ _ _ _ _ _ _ _ _ _ _ _ _ _ _ _ _ _ _ _ _ _ _ _ _ _ _ _ _ _ _ _ _ _ _ _ _ _ _ _ _ _ _ _ _ _ _ _ _ _ _ _ _ _ _ _ _ _ _ _ _ _ _ _ _ _ _ _ _ _ _ _ _ _ _ _ _ _ _ _ _ rfl rfl (hTp) (hOu) (hNo) (hAu) (hSi) (hWa) (hVe) (hFi) (hHe))⟩
theorem o_told (l : Launch) (D : va_G) (q : Nat → ClassId) (t x mm : Nat) (a am : Nat → Nat) : op_told l D q t x mm (INV q x a mm am) := by
  intro wx wm hI z0
  refine hI _ (fun c d h n w fi el lk cv mh f od odl nd0 nl0 la ls lst lsi lr lf ln NH KH SE b ga gs gt gu gr gf gn nd nl sr sn rs se pk nh kh is tb td tl ow ss sp sh o ol nm ns sc ky iss rS rT rR so zs zk ct cz wo wsr no nz vr fd hf fo fs hO hS hT hL sd e0 e1 e2 e3 e4 e5 e6 e7 e8 e9 e10 e11 e12 e13 e14 e15 e16 e17 e18 e19 e20 e21 e22 e23 e24 e25 e26 e27 e28 e29 e30 e31 e32 e33 e34 e35 e36 e37 e38 e39 e40 e41 e42 e43 e44 e45 m0 m1 m2 m3 m4 m5 m6 m7 m8 m9 m10 m11 m12 m13 m14 m15 m16 m17 m18 m19 m20 m21 m22 m23 m24 m25 m26 m27 m28 m29 m30 m31 m32 m33 m34 m35 m36 m37 m38 m39 m40 m41 m42 m43 m44 m45 hwx hwm hTp hOu hNo hAu hSi hWa hVe hFi hHe => ?_)
  clear hI
  subst hwx hwm
  obtain ⟨r, e1, e2⟩ := P_told z0 (nI n) (nI c) (nI d) (nI w) fi el lk (nI h)
  exact ⟨r, _, _, U_told z0 _ e2, c_told l D q (cA mm am) _ _ _ _ _ _ _ _ _ _ _ _ _ _ _ _ _ _ _ _ _ _ _ _ _ _ _ _ _ _ _ _ _ _ _ _ _ _ _ _ _ _ _ _ _ _ _ _ _ _ _ _ _ _ _ _ _ _ _ _ _ _ _ _ _ _ _ _ _ _ _ _ _ _ _ _ _ _ _ _ _ _ _ _ z0 _ e1, (fun Q0 K0 => K0 _ _ _ _ _ _ _ _ _ _ _ _ _ _ _ _ _ _ _ _ _ _ _ _ _ _ _ _ _ _ _ _ _ _ _ _ _ _ _ _ _ _ _ _ _ _ _ _ _ _ _ _ _ _ _ _ _ _ _ _ _ _ _ _ _ _ _ _ _ _ _ _ _ _ _ _ _ _ _ _ _ _ _ _ _ _ _ _ _ _ _ _ _ _ _ _ _ _ _ _ _ _ _ _ _ _ _ _ _ _ _ _ _ _ _ _ _ _ _ _ _ _ _ _ _ _ _ _ _ _ _ _ _ _ _ _ _ _ _ _ _ _ _ _ _ _ _ _ _ _ _ _ _ _ _ _ _ _ _ _ _ _ _ _ _ _ _ _ _ _ _ rfl rfl (hTp) (hOu) (hNo) (hAu) (hSi) (hWa) (hVe) (hFi) (hHe))⟩
theorem o_check (l : Launch) (D : va_G) (q : Nat → ClassId) (t x mm : Nat) (a am : Nat → Nat) : op_check l D q t x mm (INV q x a mm am) := by
  intro wx wm hI z0
  refine hI _ (fun c d h n w fi el lk cv mh f od odl nd0 nl0 la ls lst lsi lr lf ln NH KH SE b ga gs gt gu gr gf gn nd nl sr sn rs se pk nh kh is tb td tl ow ss sp sh o ol nm ns sc ky iss rS rT rR so zs zk ct cz wo wsr no nz vr fd hf fo fs hO hS hT hL sd e0 e1 e2 e3 e4 e5 e6 e7 e8 e9 e10 e11 e12 e13 e14 e15 e16 e17 e18 e19 e20 e21 e22 e23 e24 e25 e26 e27 e28 e29 e30 e31 e32 e33 e34 e35 e36 e37 e38 e39 e40 e41 e42 e43 e44 e45 m0 m1 m2 m3 m4 m5 m6 m7 m8 m9 m10 m11 m12 m13 m14 m15 m16 m17 m18 m19 m20 m21 m22 m23 m24 m25 m26 m27 m28 m29 m30 m31 m32 m33 m34 m35 m36 m37 m38 m39 m40 m41 m42 m43 m44 m45 hwx hwm hTp hOu hNo hAu hSi hWa hVe hFi hHe => ?_)
  clear hI
  subst hwx hwm
  obtain ⟨⟨r, y2⟩, ⟨r', z2⟩, e1, e2, e3⟩ := P_check hTp.2 hTp.1 z0 m6 m7 m8 m9 m10 m11 m12 m13 m14 m15 m16 m17 m18 m19 m20 m21 m22 m23 m24 m25 m26 m27 m28 m29 m30 m31 m32 m33 m34 m35 m36 m37 m38 m39 m40 m41 m42 m43 m44 m45 e17 e16 e44 e41 e35 e34 e37 e38 e39 e40 e43 e36 e45 e42 e32 e15 e25 e27 e26 e28 e19 e33 e23 e24 e31 e18 e30 e29 e14 e22 e20 e21 e10 e12 e11 e13 e8 e9 e2 e0 e1 e5 e6 e7 e3 e4
  obtain rfl : r = r' := e3
  exact ⟨r, _, _, U_check z0 _ e2, c_check l D q (cA mm am) _ _ _ _ _ _ _ _ _ _ _ _ _ _ _ _ _ _ _ _ _ _ _ _ _ _ _ _ _ _ _ _ _ _ _ _ _ _ _ _ _ _ _ _ _ _ _ _ _ _ _ _ _ _ _ _ _ _ _ _ _ _ _ _ _ _ _ _ _ _ _ _ _ _ _ _ _ _ _ _ _ _ _ _ z0 _ e1, (fun Q0 K0 => K0 _ _ _ _ _ _ _ _ _ _ _ _ _ _ _ _ _ _ _ _ _ _ _ _ _ _ _ _ _ _ _ _ _ _ _ _ _ _ _ _ _ _ _ _ _ _ _ _ _ _ _ _ _ _ _ _ _ _ _ _ _ _ _ _ _ _ _ _ _ _ _ _ _ _ _ _ _ _ _ _ _ _ _ _ _ _ _ _ _ _ _ _ _ _ _ _ _ _ _ _ _ _ _ _ _ _ _ _ _ _ _ _ _ _ _ _ _ _ _ _ _ _ _ _ _ _ _ _ _ _ _ _ _ _ _ _ _ _ _ _ _ _ _ _ _ _ _ _ _ _ _ _ _ _ _ _ _ _ _ _ _ _ _ _ _ _ _ _ _ _ _ rfl rfl (hTp) (hOu) (hNo) (hAu) (hSi) (hWa) (hVe) (hFi) (hHe))⟩
theorem o_hold (l : Launch) (D : va_G) (q : Nat → ClassId) (t x mm : Nat) (a am : Nat → Nat) : op_hold l D q t x mm (INV q x a mm am) := by
  intro wx wm hI 
  refine hI _ (fun c d h n w fi el lk cv mh f od odl nd0 nl0 la ls lst lsi lr lf ln NH KH SE b ga gs gt gu gr gf gn nd nl sr sn rs se pk nh kh is tb td tl ow ss sp sh o ol nm ns sc ky iss rS rT rR so zs zk ct cz wo wsr no nz vr fd hf fo fs hO hS hT hL sd e0 e1 e2 e3 e4 e5 e6 e7 e8 e9 e10 e11 e12 e13 e14 e15 e16 e17 e18 e19 e20 e21 e22 e23 e24 e25 e26 e27 e28 e29 e30 e31 e32 e33 e34 e35 e36 e37 e38 e39 e40 e41 e42 e43 e44 e45 m0 m1 m2 m3 m4 m5 m6 m7 m8 m9 m10 m11 m12 m13 m14 m15 m16 m17 m18 m19 m20 m21 m22 m23 m24 m25 m26 m27 m28 m29 m30 m31 m32 m33 m34 m35 m36 m37 m38 m39 m40 m41 m42 m43 m44 m45 hwx hwm hTp hOu hNo hAu hSi hWa hVe hFi hHe => ?_)
  clear hI
  subst hwx hwm
  obtain ⟨hh, hR⟩ := hHe
  by_cases hm : mh = 0
  · subst hm
    exact ⟨-1, _, _, U_hold_n rfl, c_hold l D q (cA mm am) _ _ _ _ _ _ _ _ _ _ _ _ _ _ _ _ _ _ _ _ _ _ _ _ _ _ _ _ _ _ _ _ _ _ _ _ _ _ _ _ _ _ _ _ _ _ _ _ _ _ _ _ _ _ _ _ _ _ _ _ _ _ _ _ _ _ _ _ _ _ _ _ _ _ _ _ _ _ _ _ _ _ _ _ _ P_hold_n, (fun Q0 K0 => K0 _ _ _ _ _ _ _ _ _ _ _ _ _ _ _ _ _ _ _ _ _ _ _ _ _ _ _ _ _ _ _ _ _ _ _ _ _ _ _ _ _ _ _ _ _ _ _ _ _ _ _ _ _ _ _ _ _ _ _ _ _ _ _ _ _ _ _ _ _ _ _ _ _ _ _ _ _ _ _ _ _ _ _ _ _ _ _ _ _ _ _ _ _ _ _ _ _ _ _ _ _ _ _ _ _ _ _ _ _ _ _ _ _ _ _ _ _ _ _ _ _ _ _ _ _ _ _ _ _ _ _ _ _ _ _ _ _ _ _ _ _ _ _ _ _ _ _ _ _ _ _ _ _ _ _ _ _ _ _ _ _ _ _ _ _ _ _ _ _ _ _ rfl rfl (hTp) (hOu) (hNo) (hAu) (hSi) (hWa) (hVe) (hFi) (⟨hh, hR⟩))⟩
  · obtain ⟨f1, f2⟩ := hFi
    rcases f2 with f2 | ⟨f2, f3, f4⟩
    · exact absurd f2 hm
    · rcases f1 with ⟨f5, -⟩ | ⟨f5, d0, d1, d2, d3, d4⟩
      · rw [f5] at f2
        exact absurd f2 (by decide)
      · subst f3 f4
        have st : (fd 0).toInt32 = lst := by rw [d0]; exact Int32.toInt32_toInt64 lst
        by_cases h16 : h < 16
        · have e1 := P_hold_a (fd := fd) (fo := fo) (fs := fs) (O := hO) (S := hS) (T := hT) (L := hL) h16 hm
          rw [st, d4, nI_1] at e1
          exact ⟨nI (h + 1), _, _, U_hold_b h16 hm, c_hold l D q (cA mm am) _ _ _ _ _ _ _ _ _ _ _ _ _ _ _ _ _ _ _ _ _ _ _ _ _ _ _ _ _ _ _ _ _ _ _ _ _ _ _ _ _ _ _ _ _ _ _ _ _ _ _ _ _ _ _ _ _ _ _ _ _ _ _ _ _ _ _ _ _ _ _ _ _ _ _ _ _ _ _ _ _ _ _ _ _ e1, (fun Q0 K0 => K0 _ _ (h + 1) _ _ _ _ _ _ _ _ _ _ _ _ _ _ _ _ _ _ _ _ _ _ _ _ _ _ _ _ _ _ _ _ _ _ _ _ _ _ _ _ _ _ _ _ _ _ _ _ _ _ _ _ _ _ _ _ _ _ _ _ _ _ _ _ _ _ _ _ _ _ _ _ _ _ _ _ _ _ _ _ _ _ _ _ _ _ _ _ _ _ _ _ _ _ _ _ _ _ _ _ _ _ _ _ _ _ _ _ _ _ _ _ _ _ _ _ _ _ _ _ _ _ _ _ _ _ _ _ _ _ _ _ _ _ _ _ _ _ _ _ _ _ _ _ _ _ _ _ _ _ _ _ _ _ _ _ _ _ _ _ _ _ _ _ _ _ _ _ rfl rfl (hTp) (hOu) (hNo) (hAu) (hSi) (hWa) (hVe) (⟨Or.inr ⟨f5, d0, d1, d2, d3, d4⟩, Or.inl rfl⟩) (⟨h16, HR_up hR _ _ _ _⟩))⟩
        · obtain rfl : h = 16 := by omega
          obtain ⟨O1, S1, T1, L1, e1, e2⟩ := P_hold_r (fd := fd) (fo := fo) (fs := fs) hm hR
          rw [st, d4] at e2
          exact ⟨nI 16, _, _, U_hold_r rfl hm, c_hold l D q (cA mm am) _ _ _ _ _ _ _ _ _ _ _ _ _ _ _ _ _ _ _ _ _ _ _ _ _ _ _ _ _ _ _ _ _ _ _ _ _ _ _ _ _ _ _ _ _ _ _ _ _ _ _ _ _ _ _ _ _ _ _ _ _ _ _ _ _ _ _ _ _ _ _ _ _ _ _ _ _ _ _ _ _ _ _ _ _ e1, (fun Q0 K0 => K0 _ _ (16) _ _ _ _ _ _ _ _ _ _ _ _ _ _ _ _ _ _ _ _ _ _ _ _ _ _ _ _ _ _ _ _ _ _ _ _ _ _ _ _ _ _ _ _ _ _ _ _ _ _ _ _ _ _ _ _ _ _ _ _ _ _ _ _ _ _ _ _ _ _ _ _ _ _ _ _ _ _ _ _ _ _ _ _ _ _ _ _ _ _ _ _ _ _ _ _ _ _ _ _ _ _ _ _ _ _ _ _ _ _ _ _ _ _ _ _ _ _ _ _ _ _ _ _ _ _ _ _ _ _ _ _ _ _ _ _ _ _ _ _ _ _ _ _ _ _ _ _ _ _ _ _ _ _ _ _ _ _ _ _ _ _ _ _ _ _ _ _ rfl rfl (hTp) (hOu) (hNo) (hAu) (hSi) (hWa) (hVe) (⟨Or.inr ⟨f5, d0, d1, d2, d3, d4⟩, Or.inl rfl⟩) (⟨Nat.le_refl _, e2⟩))⟩
theorem o_held (l : Launch) (D : va_G) (q : Nat → ClassId) (t x mm : Nat) (a am : Nat → Nat) : op_held l D q t x mm (INV q x a mm am) := by
  intro wx wm hI z0 z1 z2
  refine hI _ (fun c d h n w fi el lk cv mh f od odl nd0 nl0 la ls lst lsi lr lf ln NH KH SE b ga gs gt gu gr gf gn nd nl sr sn rs se pk nh kh is tb td tl ow ss sp sh o ol nm ns sc ky iss rS rT rR so zs zk ct cz wo wsr no nz vr fd hf fo fs hO hS hT hL sd e0 e1 e2 e3 e4 e5 e6 e7 e8 e9 e10 e11 e12 e13 e14 e15 e16 e17 e18 e19 e20 e21 e22 e23 e24 e25 e26 e27 e28 e29 e30 e31 e32 e33 e34 e35 e36 e37 e38 e39 e40 e41 e42 e43 e44 e45 m0 m1 m2 m3 m4 m5 m6 m7 m8 m9 m10 m11 m12 m13 m14 m15 m16 m17 m18 m19 m20 m21 m22 m23 m24 m25 m26 m27 m28 m29 m30 m31 m32 m33 m34 m35 m36 m37 m38 m39 m40 m41 m42 m43 m44 m45 hwx hwm hTp hOu hNo hAu hSi hWa hVe hFi hHe => ?_)
  clear hI
  subst hwx hwm
  obtain ⟨hh, hR⟩ := hHe
  have e1 := P_held (hAu.1) hh hR z0 z1 z2
  obtain ⟨y, hy⟩ : ∃ y, f_ti_fits z2 = some y := ⟨_, by rw [fits_w]; exact p_within z2 0 3155759999⟩
  exact ⟨_, _, _, U_held z0 z1 z2 hh y hy (nI_le (b := 4) hAu.1 (by decide)), c_held l D q (cA mm am) _ _ _ _ _ _ _ _ _ _ _ _ _ _ _ _ _ _ _ _ _ _ _ _ _ _ _ _ _ _ _ _ _ _ _ _ _ _ _ _ _ _ _ _ _ _ _ _ _ _ _ _ _ _ _ _ _ _ _ _ _ _ _ _ _ _ _ _ _ _ _ _ _ _ _ _ _ _ _ _ _ _ _ _ z0 z1 z2 _ e1, (fun Q0 K0 => K0 _ _ _ _ _ _ _ _ _ _ _ _ _ _ _ _ _ _ _ _ _ _ _ _ _ _ _ _ _ _ _ _ _ _ _ _ _ _ _ _ _ _ _ _ _ _ _ _ _ _ _ _ _ _ _ _ _ _ _ _ _ _ _ _ _ _ _ _ _ _ _ _ _ _ _ _ _ _ _ _ _ _ _ _ _ _ _ _ _ _ _ _ _ _ _ _ _ _ _ _ _ _ _ _ _ _ _ _ _ _ _ _ _ _ _ _ _ _ _ _ _ _ _ _ _ _ _ _ _ _ _ _ _ _ _ _ _ _ _ _ _ _ _ _ _ _ _ _ _ _ _ _ _ _ _ _ _ _ _ _ _ _ _ _ _ _ _ _ _ _ _ rfl rfl (hTp) (hOu) (hNo) (hAu) (hSi) (hWa) (hVe) (hFi) (⟨hh, hR⟩))⟩
