/-! OPERATIONS 2 -/
theorem pick {c M : Nat} (hM : 0 < M) (hc : c ≤ M) (h8 : M ≤ 8) (p : Int32) : ∃ k, k < M ∧ ((0 ≤ p ∧ p < nI c) → p.toNatClampNeg = k ∧ k < c ∧ p = nI k) ∧ ∀ j, j < c → p = nI j → j = k := by
  by_cases h : 0 ≤ p ∧ p < nI c
  · obtain ⟨j, hj, rfl⟩ := nI_of (Int32.not_lt.mpr h.1)
    have hj' := (nI_ltI hj (by omega)).mp h.2
    exact ⟨j, by omega, fun _ => ⟨nI_clamp hj, hj', rfl⟩, fun i hi e => ((nI_eq hj (by omega)).mp e).symm⟩
  · exact ⟨0, hM, fun q => absurd q h, fun i hi e => absurd (e ▸ (⟨nI_pos' (by omega), nI_lt hi (by omega)⟩ : 0 ≤ nI i ∧ nI i < nI c)) h⟩
theorem upd_o {α : Type} {f : Nat → α} {k j : Nat} {v : α} (h : j ≠ k) : (fun i => if i = k then v else f i) j = f j := if_neg h
theorem AUT_up {c : Nat} {nd : Nat → Nat → Int32} {nl : Nat → Int32} {sr : Nat → Nat → Int32} {sn : Nat → Nat → Int64} {rs : Nat → Nat → Int32} {se pk : Nat → Int32} {nh kh : Nat → Int64} {is tb : Nat → Int32} {nm ns : Nat → Int32} {sc ky : Nat → Int64} {iss rS : Nat → Int32} {rT : Nat → Int64} {rR : Nat → Int32} {sr' : Nat → Nat → Int32} {sn' : Nat → Nat → Int64} {rs' : Nat → Nat → Int32} {is' tb' : Nat → Int32} {iss' rS' : Nat → Int32} {rT' : Nat → Int64} {rR' : Nat → Int32} (hA : AUT c nd nl sr sn rs se pk nh kh is tb nm ns sc ky iss rS rT rR) {k : Nat} (ho : ∀ j, j ≠ k → sr' j = sr j ∧ sn' j = sn j ∧ rs' j = rs j ∧ is' j = is j ∧ tb' j = tb j) (hf : FR k rS rT rR iss rS' rT' rR' iss') (hL : LS1 k (sr' k) (sn' k) (rs' k) (is' k) (tb' k) iss' rS' rT' rR') : AUT c nd nl sr' sn' rs' se pk nh kh is' tb' nm ns sc ky iss' rS' rT' rR' := by
  refine ⟨hA.1, hA.2.1, fun j hj => ?_⟩
  by_cases e : j = k
  · subst e
    exact hL
  · obtain ⟨m, t1, t2, t3, t4⟩ := hA.2.2 j hj
    obtain ⟨o1, o2, o3, o4, o5⟩ := ho j e
    rw [o1, o2, o3, o4, o5]
    exact ⟨m, TB_o t1 hf e, t2, by rw [hf.2 j e]; exact t3, t4⟩
theorem WAN_up {w c : Nat} {NH KH : Nat → Int64} {SE : Nat → Int32} {nh kh : Nat → Int64} {wo wsr : Nat → Int32} (h : WAN w c NH KH SE nh kh wo wsr) {k V : Nat} (hw : w < 8) (hk : k < c) (hV : V < 2 ^ 31) : WAN (w + 1) c (vp_updL NH w (nh k)) (vp_updL KH w (kh k)) (upd SE w (nI V)) nh kh (upd wo w (nI k)) (upd wsr w (nI V)) := by
  refine ⟨hw, fun j hj => ?_⟩
  by_cases e : j = w
  · subst e
    exact ⟨k, V, hk, hV, if_pos rfl, if_pos rfl, if_pos rfl, if_pos rfl, if_pos rfl⟩
  · obtain ⟨k1, V1, a1, a2, a3, a4, a5, a6, a7⟩ := h.2 j (by omega)
    exact ⟨k1, V1, a1, a2, (if_neg e).trans a3, (if_neg e).trans a4, (if_neg e).trans a5, (if_neg e).trans a6, (if_neg e).trans a7⟩
theorem o_issue (l : Launch) (D : va_G) (q : Nat → ClassId) (t x mm : Nat) (a am : Nat → Nat) : op_issue l D q t x mm (INV q x a mm am) := by
  intro wx wm hI z0 z1
  refine hI _ (fun c d h n w fi el lk cv mh f od odl nd0 nl0 la ls lst lsi lr lf ln NH KH SE b ga gs gt gu gr gf gn nd nl sr sn rs se pk nh kh is tb td tl ow ss sp sh o ol nm ns sc ky iss rS rT rR so zs zk ct cz wo wsr no nz vr fd hf fo fs hO hS hT hL sd e0 e1 e2 e3 e4 e5 e6 e7 e8 e9 e10 e11 e12 e13 e14 e15 e16 e17 e18 e19 e20 e21 e22 e23 e24 e25 e26 e27 e28 e29 e30 e31 e32 e33 e34 e35 e36 e37 e38 e39 e40 e41 e42 e43 e44 e45 m0 m1 m2 m3 m4 m5 m6 m7 m8 m9 m10 m11 m12 m13 m14 m15 m16 m17 m18 m19 m20 m21 m22 m23 m24 m25 m26 m27 m28 m29 m30 m31 m32 m33 m34 m35 m36 m37 m38 m39 m40 m41 m42 m43 m44 m45 hwx hwm hTp hOu hNo hAu hSi hWa hVe hFi hHe => ?_)
  clear hI
  subst hwx hwm
  by_cases hz : 0 ≤ z0 ∧ z0 < nI c
  · obtain ⟨k, hk, rfl⟩ := au_ix hAu.1 hz
    have hk4 : k < 4 := Nat.lt_of_lt_of_le hk hAu.1
    obtain ⟨m, t1, t2, t3, t4⟩ := hAu.2.2 k hk4
    obtain ⟨r, m', S', T', rS', rT', rR', iss', e1, e2, e3, e4, e5, e6⟩ := P_issue hAu.1 hk t1 t3 z1
    rw [← t2] at e2
    exact ⟨r, _, _, U_issue hk4 (nI k) z1 _ e2 (fun _ => nI_clamp (Nat.lt_trans hk4 (by decide))), c_issue l D q (cA mm am) _ _ _ _ _ _ _ _ _ _ _ _ _ _ _ _ _ _ _ _ _ _ _ _ _ _ _ _ _ _ _ _ _ _ _ _ _ _ _ _ _ _ _ _ _ _ _ _ _ _ _ _ _ _ _ _ _ _ _ _ _ _ _ _ _ _ _ _ _ _ _ _ _ _ _ _ _ _ _ _ _ _ _ _ (nI k) z1 _ e1, (fun Q0 K0 => K0 _ _ _ _ _ _ _ _ _ _ _ _ _ _ _ _ _ _ _ _ _ _ _ _ _ _ _ _ _ _ _ _ _ _ _ _ _ _ _ _ _ _ _ _ _ _ _ _ _ _ _ _ _ _ _ _ _ _ _ _ _ _ _ _ _ _ _ _ _ _ _ _ _ _ _ _ _ _ _ _ _ _ _ _ _ _ _ _ _ _ _ _ _ _ _ _ _ _ _ _ _ _ _ _ _ _ _ _ _ _ _ _ _ _ _ _ _ _ _ _ _ _ _ _ _ _ _ _ _ _ _ _ _ _ _ _ _ _ _ _ _ _ _ _ _ _ _ _ _ _ _ _ _ _ _ _ _ _ _ _ _ _ _ _ _ _ _ _ _ _ _ rfl rfl (hTp) (hOu) (hNo) (AUT_up hAu (k := k) (fun j e => ⟨va_un e, va_un e, rfl, va_un e, rfl⟩) e5 (by rw [va_us, va_us, va_us]; exact ⟨m', e3, rfl, e4, by rw [e6]; exact t4⟩)) (hSi) (hWa) (hVe) (hFi) (hHe))⟩
  · have e := P_issue_no hAu.1 hz iss rS rR rT (sn 0) (is 0) (sr 0) z1
    exact ⟨_, _, _, U_issue (k := 0) (by decide) z0 z1 _ e.2 (fun q => absurd q hz), c_issue l D q (cA mm am) _ _ _ _ _ _ _ _ _ _ _ _ _ _ _ _ _ _ _ _ _ _ _ _ _ _ _ _ _ _ _ _ _ _ _ _ _ _ _ _ _ _ _ _ _ _ _ _ _ _ _ _ _ _ _ _ _ _ _ _ _ _ _ _ _ _ _ _ _ _ _ _ _ _ _ _ _ _ _ _ _ _ _ _ z0 z1 _ e.1, (fun Q0 K0 => K0 _ _ _ _ _ _ _ _ _ _ _ _ _ _ _ _ _ _ _ _ _ _ _ _ _ _ _ _ _ _ _ _ _ _ _ _ _ _ _ _ _ _ _ _ _ _ _ _ _ _ _ _ _ _ _ _ _ _ _ _ _ _ _ _ _ _ _ _ _ _ _ _ _ _ _ _ _ _ _ _ _ _ _ _ _ _ _ _ _ _ _ _ _ _ _ _ _ _ _ _ _ _ _ _ _ _ _ _ _ _ _ _ _ _ _ _ _ _ _ _ _ _ _ _ _ _ _ _ _ _ _ _ _ _ _ _ _ _ _ _ _ _ _ _ _ _ _ _ _ _ _ _ _ _ _ _ _ _ _ _ _ _ _ _ _ _ _ _ _ _ _ rfl rfl (hTp) (hOu) (hNo) (AUT_up hAu (k := 0) (fun j e => ⟨va_un e, va_un e, rfl, va_un e, rfl⟩) FR_r (by rw [va_us, va_us, va_us]; exact hAu.2.2 0 (by decide))) (hSi) (hWa) (hVe) (hFi) (hHe))⟩
theorem o_takeBack (l : Launch) (D : va_G) (q : Nat → ClassId) (t x mm : Nat) (a am : Nat → Nat) : op_takeBack l D q t x mm (INV q x a mm am) := by
  intro wx wm hI z0 z1 z2 z3
  refine hI _ (fun c d h n w fi el lk cv mh f od odl nd0 nl0 la ls lst lsi lr lf ln NH KH SE b ga gs gt gu gr gf gn nd nl sr sn rs se pk nh kh is tb td tl ow ss sp sh o ol nm ns sc ky iss rS rT rR so zs zk ct cz wo wsr no nz vr fd hf fo fs hO hS hT hL sd e0 e1 e2 e3 e4 e5 e6 e7 e8 e9 e10 e11 e12 e13 e14 e15 e16 e17 e18 e19 e20 e21 e22 e23 e24 e25 e26 e27 e28 e29 e30 e31 e32 e33 e34 e35 e36 e37 e38 e39 e40 e41 e42 e43 e44 e45 m0 m1 m2 m3 m4 m5 m6 m7 m8 m9 m10 m11 m12 m13 m14 m15 m16 m17 m18 m19 m20 m21 m22 m23 m24 m25 m26 m27 m28 m29 m30 m31 m32 m33 m34 m35 m36 m37 m38 m39 m40 m41 m42 m43 m44 m45 hwx hwm hTp hOu hNo hAu hSi hWa hVe hFi hHe => ?_)
  clear hI
  subst hwx hwm
  by_cases hz : 0 ≤ z0 ∧ z0 < nI c
  · obtain ⟨k, hk, rfl⟩ := au_ix hAu.1 hz
    have hk4 : k < 4 := Nat.lt_of_lt_of_le hk hAu.1
    obtain ⟨m, t1, t2, t3, t4⟩ := hAu.2.2 k hk4
    obtain ⟨r, R', T', b', rT', rR', e1, e2, e3, e5, e6⟩ := P_takeBack hAu.1 hk t1 t3 z1 z2 z3
    rw [← t2, ← t4] at e2
    exact ⟨r, _, _, U_takeBack hk4 (nI k) z1 z2 z3 _ e2 (fun _ => nI_clamp (Nat.lt_trans hk4 (by decide))), c_takeBack l D q (cA mm am) _ _ _ _ _ _ _ _ _ _ _ _ _ _ _ _ _ _ _ _ _ _ _ _ _ _ _ _ _ _ _ _ _ _ _ _ _ _ _ _ _ _ _ _ _ _ _ _ _ _ _ _ _ _ _ _ _ _ _ _ _ _ _ _ _ _ _ _ _ _ _ _ _ _ _ _ _ _ _ _ _ _ _ _ (nI k) z1 z2 z3 _ e1, (fun Q0 K0 => K0 _ _ _ _ _ _ _ _ _ _ _ _ _ _ _ _ _ _ _ _ _ _ _ _ _ _ _ _ _ _ _ _ _ _ _ _ _ _ _ _ _ _ _ _ _ _ _ _ _ _ _ _ _ _ _ _ _ _ _ _ _ _ _ _ _ _ _ _ _ _ _ _ _ _ _ _ _ _ _ _ _ _ _ _ _ _ _ _ _ _ _ _ _ _ _ _ _ _ _ _ _ _ _ _ _ _ _ _ _ _ _ _ _ _ _ _ _ _ _ _ _ _ _ _ _ _ _ _ _ _ _ _ _ _ _ _ _ _ _ _ _ _ _ _ _ _ _ _ _ _ _ _ _ _ _ _ _ _ _ _ _ _ _ _ _ _ _ _ _ _ _ rfl rfl (hTp) (hOu) (hNo) (AUT_up hAu (k := k) (fun j e => ⟨rfl, va_un e, va_un e, rfl, va_un e⟩) e5 (by rw [va_us, va_us, va_us]; exact ⟨m, e3, t2, t3, by rw [e6]⟩)) (hSi) (hWa) (hVe) (hFi) (hHe))⟩
  · have e := P_takeBack_no hAu.1 hz iss rS rR rT (sn 0) (is 0) (tb 0) (sr 0) (rs 0) z1 z2 z3
    exact ⟨_, _, _, U_takeBack (k := 0) (by decide) z0 z1 z2 z3 _ e.2 (fun q => absurd q hz), c_takeBack l D q (cA mm am) _ _ _ _ _ _ _ _ _ _ _ _ _ _ _ _ _ _ _ _ _ _ _ _ _ _ _ _ _ _ _ _ _ _ _ _ _ _ _ _ _ _ _ _ _ _ _ _ _ _ _ _ _ _ _ _ _ _ _ _ _ _ _ _ _ _ _ _ _ _ _ _ _ _ _ _ _ _ _ _ _ _ _ _ z0 z1 z2 z3 _ e.1, (fun Q0 K0 => K0 _ _ _ _ _ _ _ _ _ _ _ _ _ _ _ _ _ _ _ _ _ _ _ _ _ _ _ _ _ _ _ _ _ _ _ _ _ _ _ _ _ _ _ _ _ _ _ _ _ _ _ _ _ _ _ _ _ _ _ _ _ _ _ _ _ _ _ _ _ _ _ _ _ _ _ _ _ _ _ _ _ _ _ _ _ _ _ _ _ _ _ _ _ _ _ _ _ _ _ _ _ _ _ _ _ _ _ _ _ _ _ _ _ _ _ _ _ _ _ _ _ _ _ _ _ _ _ _ _ _ _ _ _ _ _ _ _ _ _ _ _ _ _ _ _ _ _ _ _ _ _ _ _ _ _ _ _ _ _ _ _ _ _ _ _ _ _ _ _ _ _ rfl rfl (hTp) (hOu) (hNo) (AUT_up hAu (k := 0) (fun j e => ⟨rfl, va_un e, va_un e, rfl, va_un e⟩) FR_r (by rw [va_us, va_us, va_us]; exact hAu.2.2 0 (by decide))) (hSi) (hWa) (hVe) (hFi) (hHe))⟩
theorem o_lift (l : Launch) (D : va_G) (q : Nat → ClassId) (t x mm : Nat) (a am : Nat → Nat) : op_lift l D q t x mm (INV q x a mm am) := by
  intro wx wm hI z0 z1
  refine hI _ (fun c d h n w fi el lk cv mh f od odl nd0 nl0 la ls lst lsi lr lf ln NH KH SE b ga gs gt gu gr gf gn nd nl sr sn rs se pk nh kh is tb td tl ow ss sp sh o ol nm ns sc ky iss rS rT rR so zs zk ct cz wo wsr no nz vr fd hf fo fs hO hS hT hL sd e0 e1 e2 e3 e4 e5 e6 e7 e8 e9 e10 e11 e12 e13 e14 e15 e16 e17 e18 e19 e20 e21 e22 e23 e24 e25 e26 e27 e28 e29 e30 e31 e32 e33 e34 e35 e36 e37 e38 e39 e40 e41 e42 e43 e44 e45 m0 m1 m2 m3 m4 m5 m6 m7 m8 m9 m10 m11 m12 m13 m14 m15 m16 m17 m18 m19 m20 m21 m22 m23 m24 m25 m26 m27 m28 m29 m30 m31 m32 m33 m34 m35 m36 m37 m38 m39 m40 m41 m42 m43 m44 m45 hwx hwm hTp hOu hNo hAu hSi hWa hVe hFi hHe => ?_)
  clear hI
  subst hwx hwm
  by_cases hz : 0 ≤ z0 ∧ z0 < nI c
  · obtain ⟨k, hk, rfl⟩ := au_ix hAu.1 hz
    have hk4 : k < 4 := Nat.lt_of_lt_of_le hk hAu.1
    obtain ⟨m, t1, t2, t3, t4⟩ := hAu.2.2 k hk4
    obtain ⟨r, T', b', rT', rR', e1, e2, e3, e5, e6⟩ := P_lift hAu.1 hk t1 t3 z1
    rw [← t2, ← t4] at e2
    exact ⟨r, _, _, U_lift hk4 (nI k) z1 _ e2 (fun _ => nI_clamp (Nat.lt_trans hk4 (by decide))), c_lift l D q (cA mm am) _ _ _ _ _ _ _ _ _ _ _ _ _ _ _ _ _ _ _ _ _ _ _ _ _ _ _ _ _ _ _ _ _ _ _ _ _ _ _ _ _ _ _ _ _ _ _ _ _ _ _ _ _ _ _ _ _ _ _ _ _ _ _ _ _ _ _ _ _ _ _ _ _ _ _ _ _ _ _ _ _ _ _ _ (nI k) z1 _ e1, (fun Q0 K0 => K0 _ _ _ _ _ _ _ _ _ _ _ _ _ _ _ _ _ _ _ _ _ _ _ _ _ _ _ _ _ _ _ _ _ _ _ _ _ _ _ _ _ _ _ _ _ _ _ _ _ _ _ _ _ _ _ _ _ _ _ _ _ _ _ _ _ _ _ _ _ _ _ _ _ _ _ _ _ _ _ _ _ _ _ _ _ _ _ _ _ _ _ _ _ _ _ _ _ _ _ _ _ _ _ _ _ _ _ _ _ _ _ _ _ _ _ _ _ _ _ _ _ _ _ _ _ _ _ _ _ _ _ _ _ _ _ _ _ _ _ _ _ _ _ _ _ _ _ _ _ _ _ _ _ _ _ _ _ _ _ _ _ _ _ _ _ _ _ _ _ _ _ rfl rfl (hTp) (hOu) (hNo) (AUT_up hAu (k := k) (fun j e => ⟨rfl, va_un e, rfl, rfl, va_un e⟩) e5 (by rw [va_us, va_us]; exact ⟨m, e3, t2, t3, by rw [e6]⟩)) (hSi) (hWa) (hVe) (hFi) (hHe))⟩
  · have e := P_lift_no hAu.1 hz iss rS rR rT (sn 0) (is 0) (tb 0) (sr 0) (rs 0) z1
    exact ⟨_, _, _, U_lift (k := 0) (by decide) z0 z1 _ e.2 (fun q => absurd q hz), c_lift l D q (cA mm am) _ _ _ _ _ _ _ _ _ _ _ _ _ _ _ _ _ _ _ _ _ _ _ _ _ _ _ _ _ _ _ _ _ _ _ _ _ _ _ _ _ _ _ _ _ _ _ _ _ _ _ _ _ _ _ _ _ _ _ _ _ _ _ _ _ _ _ _ _ _ _ _ _ _ _ _ _ _ _ _ _ _ _ _ z0 z1 _ e.1, (fun Q0 K0 => K0 _ _ _ _ _ _ _ _ _ _ _ _ _ _ _ _ _ _ _ _ _ _ _ _ _ _ _ _ _ _ _ _ _ _ _ _ _ _ _ _ _ _ _ _ _ _ _ _ _ _ _ _ _ _ _ _ _ _ _ _ _ _ _ _ _ _ _ _ _ _ _ _ _ _ _ _ _ _ _ _ _ _ _ _ _ _ _ _ _ _ _ _ _ _ _ _ _ _ _ _ _ _ _ _ _ _ _ _ _ _ _ _ _ _ _ _ _ _ _ _ _ _ _ _ _ _ _ _ _ _ _ _ _ _ _ _ _ _ _ _ _ _ _ _ _ _ _ _ _ _ _ _ _ _ _ _ _ _ _ _ _ _ _ _ _ _ _ _ _ _ _ rfl rfl (hTp) (hOu) (hNo) (AUT_up hAu (k := 0) (fun j e => ⟨rfl, va_un e, rfl, rfl, va_un e⟩) FR_r (by rw [va_us, va_us]; exact hAu.2.2 0 (by decide))) (hSi) (hWa) (hVe) (hFi) (hHe))⟩
theorem o_cert (l : Launch) (D : va_G) (q : Nat → ClassId) (t x mm : Nat) (a am : Nat → Nat) : op_cert l D q t x mm (INV q x a mm am) := by
  intro wx wm hI z0
  refine hI _ (fun c d h n w fi el lk cv mh f od odl nd0 nl0 la ls lst lsi lr lf ln NH KH SE b ga gs gt gu gr gf gn nd nl sr sn rs se pk nh kh is tb td tl ow ss sp sh o ol nm ns sc ky iss rS rT rR so zs zk ct cz wo wsr no nz vr fd hf fo fs hO hS hT hL sd e0 e1 e2 e3 e4 e5 e6 e7 e8 e9 e10 e11 e12 e13 e14 e15 e16 e17 e18 e19 e20 e21 e22 e23 e24 e25 e26 e27 e28 e29 e30 e31 e32 e33 e34 e35 e36 e37 e38 e39 e40 e41 e42 e43 e44 e45 m0 m1 m2 m3 m4 m5 m6 m7 m8 m9 m10 m11 m12 m13 m14 m15 m16 m17 m18 m19 m20 m21 m22 m23 m24 m25 m26 m27 m28 m29 m30 m31 m32 m33 m34 m35 m36 m37 m38 m39 m40 m41 m42 m43 m44 m45 hwx hwm hTp hOu hNo hAu hSi hWa hVe hFi hHe => ?_)
  clear hI
  subst hwx hwm
  obtain ⟨s, hs, q1, q2⟩ := pick (M := 8) (by decide) hSi.1 (by decide) z0
  obtain ⟨A, w1, w2, w3⟩ := hOu
  obtain ⟨⟨r, y1⟩, ⟨r', y2⟩, e1, e2, e3, A', w4, w5, w6⟩ := P_cert (ct := ct) (cz := cz) (dr := m4) (dl := m5) (td := td s) (tl := tl s) hSi.1 z0 (fun k hk e => by
    obtain rfl := q2 k hk e
    obtain ⟨k1, x1, Ct, -, -, -, -, -, -, -, -, -, c1, c2, c3, c4⟩ := hSi.2 k hk
    exact ⟨Ct, c1, c2, c3, c4⟩) w1 w2 w3
  obtain rfl : r = r' := e3
  exact ⟨r, _, _, U_cert hs z0 _ e2 (fun q => (q1 q).1), c_cert l D q (cA mm am) _ _ _ _ _ _ _ _ _ _ _ _ _ _ _ _ _ _ _ _ _ _ _ _ _ _ _ _ _ _ _ _ _ _ _ _ _ _ _ _ _ _ _ _ _ _ _ _ _ _ _ _ _ _ _ _ _ _ _ _ _ _ _ _ _ _ _ _ _ _ _ _ _ _ _ _ _ _ _ _ _ _ _ _ z0 _ e1, (fun Q0 K0 => K0 _ _ _ _ _ _ _ _ _ _ _ _ _ _ _ _ _ _ _ _ _ _ _ _ _ _ _ _ _ _ _ _ _ _ _ _ _ _ _ _ _ _ _ _ _ _ _ _ _ _ _ _ _ _ _ _ _ _ _ _ _ _ _ _ _ _ _ _ _ _ _ _ _ _ _ _ _ _ _ _ _ _ _ _ _ _ _ _ _ _ _ _ _ _ _ _ _ _ _ _ _ _ _ _ _ _ _ _ _ _ _ _ _ _ _ _ _ _ _ _ _ _ _ _ _ _ _ _ _ _ _ _ _ _ _ _ _ _ _ _ _ _ _ _ _ _ _ _ _ _ _ _ _ _ _ _ _ _ _ _ _ _ _ _ _ _ _ _ _ _ _ rfl rfl (hTp) (⟨A', w4, w5, w6⟩) (hNo) (hAu) (hSi) (hWa) (hVe) (hFi) (hHe))⟩
theorem o_want (l : Launch) (D : va_G) (q : Nat → ClassId) (t x mm : Nat) (a am : Nat → Nat) : op_want l D q t x mm (INV q x a mm am) := by
  intro wx wm hI z0 z1
  refine hI _ (fun c d h n w fi el lk cv mh f od odl nd0 nl0 la ls lst lsi lr lf ln NH KH SE b ga gs gt gu gr gf gn nd nl sr sn rs se pk nh kh is tb td tl ow ss sp sh o ol nm ns sc ky iss rS rT rR so zs zk ct cz wo wsr no nz vr fd hf fo fs hO hS hT hL sd e0 e1 e2 e3 e4 e5 e6 e7 e8 e9 e10 e11 e12 e13 e14 e15 e16 e17 e18 e19 e20 e21 e22 e23 e24 e25 e26 e27 e28 e29 e30 e31 e32 e33 e34 e35 e36 e37 e38 e39 e40 e41 e42 e43 e44 e45 m0 m1 m2 m3 m4 m5 m6 m7 m8 m9 m10 m11 m12 m13 m14 m15 m16 m17 m18 m19 m20 m21 m22 m23 m24 m25 m26 m27 m28 m29 m30 m31 m32 m33 m34 m35 m36 m37 m38 m39 m40 m41 m42 m43 m44 m45 hwx hwm hTp hOu hNo hAu hSi hWa hVe hFi hHe => ?_)
  clear hI
  subst hwx hwm
  by_cases hz : 0 ≤ z0 ∧ z0 < nI c
  · obtain ⟨k, hk, rfl⟩ := au_ix hAu.1 hz
    have hk4 : k < 4 := Nat.lt_of_lt_of_le hk hAu.1
    rcases P_want hAu.1 hk hWa.1 (kh k) (nh k) KH NH SE wo wsr z1 with ⟨r, e1, e2⟩ | ⟨hw, V, hV, rfl, e1, e2⟩
    · exact ⟨r, _, _, U_want hk4 (nI k) z1 _ e2 (fun _ => nI_clamp (Nat.lt_trans hk4 (by decide))), c_want l D q (cA mm am) _ _ _ _ _ _ _ _ _ _ _ _ _ _ _ _ _ _ _ _ _ _ _ _ _ _ _ _ _ _ _ _ _ _ _ _ _ _ _ _ _ _ _ _ _ _ _ _ _ _ _ _ _ _ _ _ _ _ _ _ _ _ _ _ _ _ _ _ _ _ _ _ _ _ _ _ _ _ _ _ _ _ _ _ (nI k) z1 _ e1, (fun Q0 K0 => K0 _ _ _ _ _ _ _ _ _ _ _ _ _ _ _ _ _ _ _ _ _ _ _ _ _ _ _ _ _ _ _ _ _ _ _ _ _ _ _ _ _ _ _ _ _ _ _ _ _ _ _ _ _ _ _ _ _ _ _ _ _ _ _ _ _ _ _ _ _ _ _ _ _ _ _ _ _ _ _ _ _ _ _ _ _ _ _ _ _ _ _ _ _ _ _ _ _ _ _ _ _ _ _ _ _ _ _ _ _ _ _ _ _ _ _ _ _ _ _ _ _ _ _ _ _ _ _ _ _ _ _ _ _ _ _ _ _ _ _ _ _ _ _ _ _ _ _ _ _ _ _ _ _ _ _ _ _ _ _ _ _ _ _ _ _ _ _ _ _ _ _ rfl rfl (hTp) (hOu) (hNo) (hAu) (hSi) (hWa) (hVe) (hFi) (hHe))⟩
    · exact ⟨_, _, _, U_want hk4 (nI k) (nI V) _ e2 (fun _ => nI_clamp (Nat.lt_trans hk4 (by decide))), c_want l D q (cA mm am) _ _ _ _ _ _ _ _ _ _ _ _ _ _ _ _ _ _ _ _ _ _ _ _ _ _ _ _ _ _ _ _ _ _ _ _ _ _ _ _ _ _ _ _ _ _ _ _ _ _ _ _ _ _ _ _ _ _ _ _ _ _ _ _ _ _ _ _ _ _ _ _ _ _ _ _ _ _ _ _ _ _ _ _ (nI k) (nI V) _ e1, (fun Q0 K0 => K0 _ _ _ _ (w + 1) _ _ _ _ _ _ _ _ _ _ _ _ _ _ _ _ _ _ _ _ _ _ _ _ _ _ _ _ _ _ _ _ _ _ _ _ _ _ _ _ _ _ _ _ _ _ _ _ _ _ _ _ _ _ _ _ _ _ _ _ _ _ _ _ _ _ _ _ _ _ _ _ _ _ _ _ _ _ _ _ _ _ _ _ _ _ _ _ _ _ _ _ _ _ _ _ _ _ _ _ _ _ _ _ _ _ _ _ _ _ _ _ _ _ _ _ _ _ _ _ _ _ _ _ _ _ _ _ _ _ _ _ _ _ _ _ _ _ _ _ _ _ _ _ _ _ _ _ _ _ _ _ _ _ _ _ _ _ _ _ _ _ _ _ _ _ rfl rfl (hTp) (hOu) (hNo) (hAu) (hSi) (WAN_up hWa hw hk hV) (hVe) (hFi) (hHe))⟩
  · have e := P_want_no (w := w) hAu.1 hz (kh 0) (nh 0) KH NH SE wo wsr z1
    exact ⟨_, _, _, U_want (k := 0) (by decide) z0 z1 _ e.2 (fun q => absurd q hz), c_want l D q (cA mm am) _ _ _ _ _ _ _ _ _ _ _ _ _ _ _ _ _ _ _ _ _ _ _ _ _ _ _ _ _ _ _ _ _ _ _ _ _ _ _ _ _ _ _ _ _ _ _ _ _ _ _ _ _ _ _ _ _ _ _ _ _ _ _ _ _ _ _ _ _ _ _ _ _ _ _ _ _ _ _ _ _ _ _ _ z0 z1 _ e.1, (fun Q0 K0 => K0 _ _ _ _ _ _ _ _ _ _ _ _ _ _ _ _ _ _ _ _ _ _ _ _ _ _ _ _ _ _ _ _ _ _ _ _ _ _ _ _ _ _ _ _ _ _ _ _ _ _ _ _ _ _ _ _ _ _ _ _ _ _ _ _ _ _ _ _ _ _ _ _ _ _ _ _ _ _ _ _ _ _ _ _ _ _ _ _ _ _ _ _ _ _ _ _ _ _ _ _ _ _ _ _ _ _ _ _ _ _ _ _ _ _ _ _ _ _ _ _ _ _ _ _ _ _ _ _ _ _ _ _ _ _ _ _ _ _ _ _ _ _ _ _ _ _ _ _ _ _ _ _ _ _ _ _ _ _ _ _ _ _ _ _ _ _ _ _ _ _ _ rfl rfl (hTp) (hOu) (hNo) (hAu) (hSi) (hWa) (hVe) (hFi) (hHe))⟩
theorem o_ask (l : Launch) (D : va_G) (q : Nat → ClassId) (t x mm : Nat) (a am : Nat → Nat) : op_ask l D q t x mm (INV q x a mm am) := by
  intro wx wm hI 
  refine hI _ (fun c d h n w fi el lk cv mh f od odl nd0 nl0 la ls lst lsi lr lf ln NH KH SE b ga gs gt gu gr gf gn nd nl sr sn rs se pk nh kh is tb td tl ow ss sp sh o ol nm ns sc ky iss rS rT rR so zs zk ct cz wo wsr no nz vr fd hf fo fs hO hS hT hL sd e0 e1 e2 e3 e4 e5 e6 e7 e8 e9 e10 e11 e12 e13 e14 e15 e16 e17 e18 e19 e20 e21 e22 e23 e24 e25 e26 e27 e28 e29 e30 e31 e32 e33 e34 e35 e36 e37 e38 e39 e40 e41 e42 e43 e44 e45 m0 m1 m2 m3 m4 m5 m6 m7 m8 m9 m10 m11 m12 m13 m14 m15 m16 m17 m18 m19 m20 m21 m22 m23 m24 m25 m26 m27 m28 m29 m30 m31 m32 m33 m34 m35 m36 m37 m38 m39 m40 m41 m42 m43 m44 m45 hwx hwm hTp hOu hNo hAu hSi hWa hVe hFi hHe => ?_)
  clear hI
  subst hwx hwm
  obtain ⟨A, w1, w2, w3⟩ := hOu
  obtain ⟨B, b1, b2, b3⟩ := hNo
  have hV : ∀ j, j < w → SE j = nI (SE j).toNatClampNeg ∧ (SE j).toNatClampNeg < 2 ^ 31 := by
    intro j hj
    obtain ⟨k, V, -, hV, -, -, e, -⟩ := hWa.2 j hj
    rw [e, nI_clamp hV]
    exact ⟨rfl, hV⟩
  obtain ⟨⟨r, y1, y2, y3, y4⟩, ⟨r', v1, v2, v3⟩, e1, e2, e3, e4, e5, A', w4, w5, w6⟩ := P_ask (hn := NH) (hk := KH) (V := fun j => (SE j).toNatClampNeg) (NH := NH) (KH := KH) (SE := SE) (nm := nm) (ns := ns) (wo := wo) (ws := wsr) (ky := ky) hWa.1 (fun j hj => ⟨rfl, rfl, hV j hj⟩) (fun j hj => by
    obtain ⟨k, V, hk, hV', i1, i2, i3, i4, i5⟩ := hWa.2 j hj
    obtain ⟨An, s, n1, -, -, n2, n3, -, -, -, n4⟩ := hAu.2.1 k hk
    obtain ⟨-, -, u1, u2, u3⟩ := n1
    refine ⟨k, An, Nat.lt_of_lt_of_le hk hAu.1, i1, ?_, (hV j hj).2, u2, u1, u3, ?_, ?_⟩
    · rw [i2, i3, nI_clamp hV']
    · rw [i4, n2]
    · rw [i5, n3, n4]
      rfl) b2 b1 b3 w1 w2 w3 m0 m4 m5
  obtain rfl : r = r' := e3
  obtain rfl : y3 = v3 := e4
  rcases e5 with e5 | e5
  · obtain rfl : y3 = nI w := e5
    exact ⟨r, _, _, U_ask _ e2, c_ask l D q (cA mm am) _ _ _ _ _ _ _ _ _ _ _ _ _ _ _ _ _ _ _ _ _ _ _ _ _ _ _ _ _ _ _ _ _ _ _ _ _ _ _ _ _ _ _ _ _ _ _ _ _ _ _ _ _ _ _ _ _ _ _ _ _ _ _ _ _ _ _ _ _ _ _ _ _ _ _ _ _ _ _ _ _ _ _ _ _ e1, (fun Q0 K0 => K0 _ _ _ _ _ _ _ _ _ _ _ _ _ _ _ _ _ _ _ _ _ _ _ _ _ _ _ _ _ _ _ _ _ _ _ _ _ _ _ _ _ _ _ _ _ _ _ _ _ _ _ _ _ _ _ _ _ _ _ _ _ _ _ _ _ _ _ _ _ _ _ _ _ _ _ _ _ _ _ _ _ _ _ _ _ _ _ _ _ _ _ _ _ _ _ _ _ _ _ _ _ _ _ _ _ _ _ _ _ _ _ _ _ _ _ _ _ _ _ _ _ _ _ _ _ _ _ _ _ _ _ _ _ _ _ _ _ _ _ _ _ _ _ _ _ _ _ _ _ _ _ _ _ _ _ _ _ _ _ _ _ _ _ _ _ _ _ _ _ _ _ rfl rfl (hTp) (⟨A', w4, w5, w6⟩) (⟨B, b1, b2, b3⟩) (hAu) (hSi) (hWa) (hVe) (hFi) (hHe))⟩
  · obtain rfl : y3 = 0 := e5
    exact ⟨r, _, _, U_ask _ e2, c_ask l D q (cA mm am) _ _ _ _ _ _ _ _ _ _ _ _ _ _ _ _ _ _ _ _ _ _ _ _ _ _ _ _ _ _ _ _ _ _ _ _ _ _ _ _ _ _ _ _ _ _ _ _ _ _ _ _ _ _ _ _ _ _ _ _ _ _ _ _ _ _ _ _ _ _ _ _ _ _ _ _ _ _ _ _ _ _ _ _ _ e1, (fun Q0 K0 => K0 _ _ _ _ (0) _ _ _ _ _ _ _ _ _ _ _ _ _ _ _ _ _ _ _ _ _ _ _ _ _ _ _ _ _ _ _ _ _ _ _ _ _ _ _ _ _ _ _ _ _ _ _ _ _ _ _ _ _ _ _ _ _ _ _ _ _ _ _ _ _ _ _ _ _ _ _ _ _ _ _ _ _ _ _ _ _ _ _ _ _ _ _ _ _ _ _ _ _ _ _ _ _ _ _ _ _ _ _ _ _ _ _ _ _ _ _ _ _ _ _ _ _ _ _ _ _ _ _ _ _ _ _ _ _ _ _ _ _ _ _ _ _ _ _ _ _ _ _ _ _ _ _ _ _ _ _ _ _ _ _ _ _ _ _ _ _ _ _ _ _ _ rfl rfl (hTp) (⟨A', w4, w5, w6⟩) (⟨B, b1, b2, b3⟩) (hAu) (hSi) (⟨Nat.zero_le _, fun j hj => absurd hj (Nat.not_lt_zero j)⟩) (hVe) (hFi) (hHe))⟩
theorem o_key (l : Launch) (D : va_G) (q : Nat → ClassId) (t x mm : Nat) (a am : Nat → Nat) : op_key l D q t x mm (INV q x a mm am) := by
  intro wx wm hI z0 z1
  refine hI _ (fun c d h n w fi el lk cv mh f od odl nd0 nl0 la ls lst lsi lr lf ln NH KH SE b ga gs gt gu gr gf gn nd nl sr sn rs se pk nh kh is tb td tl ow ss sp sh o ol nm ns sc ky iss rS rT rR so zs zk ct cz wo wsr no nz vr fd hf fo fs hO hS hT hL sd e0 e1 e2 e3 e4 e5 e6 e7 e8 e9 e10 e11 e12 e13 e14 e15 e16 e17 e18 e19 e20 e21 e22 e23 e24 e25 e26 e27 e28 e29 e30 e31 e32 e33 e34 e35 e36 e37 e38 e39 e40 e41 e42 e43 e44 e45 m0 m1 m2 m3 m4 m5 m6 m7 m8 m9 m10 m11 m12 m13 m14 m15 m16 m17 m18 m19 m20 m21 m22 m23 m24 m25 m26 m27 m28 m29 m30 m31 m32 m33 m34 m35 m36 m37 m38 m39 m40 m41 m42 m43 m44 m45 hwx hwm hTp hOu hNo hAu hSi hWa hVe hFi hHe => ?_)
  clear hI
  subst hwx hwm
  obtain ⟨s, hs, q1, q2⟩ := pick (M := 8) (by decide) hSi.1 (by decide) z1
  obtain ⟨k, hk, q3, q4⟩ := pick (M := 4) (by decide) hAu.1 (by decide) z1
  obtain ⟨r, e1, e2⟩ := P_key (ky := ky) (sk := zk) (apk := pk k) (spk := sp s) hAu.1 hSi.1 z0 z1 (fun j hj e => by
    obtain rfl := q4 j hj e
    obtain ⟨An, s1, -, -, -, -, -, n1, -, -, n2⟩ := hAu.2.1 j hj
    rw [n1, n2]
    exact lN_i _) (fun j hj e => by
    obtain rfl := q2 j hj e
    obtain ⟨k1, x1, Ct, -, -, -, -, -, -, n1, n2, -⟩ := hSi.2 j hj
    rw [n1, n2]
    exact lN_i _)
  exact ⟨r, _, _, U_key hk hs z0 z1 _ e2 (fun q => (q1 q).1) (fun q => (q3 q).1) (fun _ q => (q1 q).1) (fun q => (q1 q).1), c_key l D q (cA mm am) _ _ _ _ _ _ _ _ _ _ _ _ _ _ _ _ _ _ _ _ _ _ _ _ _ _ _ _ _ _ _ _ _ _ _ _ _ _ _ _ _ _ _ _ _ _ _ _ _ _ _ _ _ _ _ _ _ _ _ _ _ _ _ _ _ _ _ _ _ _ _ _ _ _ _ _ _ _ _ _ _ _ _ _ z0 z1 _ e1, (fun Q0 K0 => K0 _ _ _ _ _ _ _ _ _ _ _ _ _ _ _ _ _ _ _ _ _ _ _ _ _ _ _ _ _ _ _ _ _ _ _ _ _ _ _ _ _ _ _ _ _ _ _ _ _ _ _ _ _ _ _ _ _ _ _ _ _ _ _ _ _ _ _ _ _ _ _ _ _ _ _ _ _ _ _ _ _ _ _ _ _ _ _ _ _ _ _ _ _ _ _ _ _ _ _ _ _ _ _ _ _ _ _ _ _ _ _ _ _ _ _ _ _ _ _ _ _ _ _ _ _ _ _ _ _ _ _ _ _ _ _ _ _ _ _ _ _ _ _ _ _ _ _ _ _ _ _ _ _ _ _ _ _ _ _ _ _ _ _ _ _ _ _ _ _ _ _ rfl rfl (hTp) (hOu) (hNo) (hAu) (hSi) (hWa) (hVe) (hFi) (hHe))⟩
