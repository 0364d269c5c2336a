/-! OPERATIONS 3 -/
theorem AUT_new {c : Nat} {nd : Nat → Nat → Int32} {nl : Nat → Int32} {sr : Nat → Nat → Int32} {sn : Nat → Nat → Int64} {rs : Nat → Nat → Int32} {se pk : Nat → Int32} {nh kh : Nat → Int64} {is tb : Nat → Int32} {nm ns : Nat → Int32} {sc ky : Nat → Int64} {iss rS : Nat → Int32} {rT : Nat → Int64} {rR : Nat → Int32} (h : AUT c nd nl sr sn rs se pk nh kh is tb nm ns sc ky iss rS rT rR) (hc : c < 4) {A : List Int32} {g : Nat → Int32} {v : Int32} {s : Nat} {nm2 : Nat → Int32} (hs1 : 1 ≤ s) (hs2 : s < QQ) (hw : WW g v A) (h1 : 1 ≤ A.length) (h2 : A.length ≤ 16) {ln : Int32} (hln : ln = nI A.length) (hg : GG nm2 (16 * c) A) (ho : ∀ i, (i < 16 * c ∨ 16 * c + 16 ≤ i) → nm2 i = nm i) : AUT (c + 1) (upF nd c g) (upd nl c v) sr sn rs (upd se c (nI s)) (upd pk c (nI (kyN s))) (vp_updL nh c (hl A)) (vp_updL kh c (khN s)) is tb nm2 (upd ns c ln) (vp_updL sc c (lN s)) (vp_updL ky c (lN (kyN s))) iss rS rT rR := by
  refine ⟨hc, fun k hk => ?_, h.2.2⟩
  by_cases e : k = c
  · subst e
    refine ⟨A, s, ⟨?_, h1, h2, hg, (if_pos rfl).trans hln⟩, hs1, hs2, if_pos rfl, if_pos rfl, if_pos rfl, if_pos rfl, if_pos rfl, if_pos rfl⟩
    rw [show upF nd k g k = g from if_pos rfl, show upd nl k v k = v from if_pos rfl]
    exact hw
  · obtain ⟨A', s', ⟨i1, i2, i3, i4, i5⟩, j1, j2, j3, j4, j5, j6, j7, j8⟩ := h.2.1 k (by omega)
    refine ⟨A', s', ⟨?_, i2, i3, GG_c i4 (fun j hj => ho _ (Or.inl (by omega))), (if_neg e).trans i5⟩, j1, j2, (if_neg e).trans j3, (if_neg e).trans j4, (if_neg e).trans j5, (if_neg e).trans j6, (if_neg e).trans j7, (if_neg e).trans j8⟩
    rw [show upF nd c g k = nd k from if_neg e, show upd nl c v k = nl k from if_neg e]
    exact i1
theorem WAN_new {w c : Nat} {NH KH : Nat → Int64} {SE : Nat → Int32} {nh kh : Nat → Int64} {wo wsr : Nat → Int32} (h : WAN w c NH KH SE nh kh wo wsr) (u v : Int64) : WAN w (c + 1) NH KH SE (vp_updL nh c u) (vp_updL kh c v) wo wsr := by
  refine ⟨h.1, fun j hj => ?_⟩
  obtain ⟨k, V, a1, a2, a3, a4, a5, a6, a7⟩ := h.2 j hj
  have e : k ≠ c := Nat.ne_of_lt a1
  exact ⟨k, V, Nat.lt_succ_of_lt a1, a2, a3, a4, a5, a6.trans (if_neg e).symm, a7.trans (if_neg e).symm⟩
theorem SIG_c {d c : Nat} {td : Nat → Nat → Int32} {tl ow ss sp : Nat → Int32} {sh : Nat → Int64} {so : Nat → Int32} {zs zk : Nat → Int64} {ct cz : Nat → Int32} (h : SIG d c td tl ow ss sp sh so zs zk ct cz) : SIG d (c + 1) td tl ow ss sp sh so zs zk ct cz := by
  refine ⟨h.1, fun s hs => ?_⟩
  obtain ⟨k, x, Ct, h1, h2⟩ := h.2 s hs
  exact ⟨k, x, Ct, Nat.lt_succ_of_lt h1, h2⟩
theorem va_id {α : Type} {f : Nat → α} {k : Nat} : va_up f k (f k) = f := by
  funext j
  by_cases e : j = k
  · subst e
    exact va_us
  · exact va_un e
theorem SIG_id {d c : Nat} {td : Nat → Nat → Int32} {tl ow ss sp : Nat → Int32} {sh : Nat → Int64} {so : Nat → Int32} {zs zk : Nat → Int64} {ct cz : Nat → Int32} (h : SIG d c td tl ow ss sp sh so zs zk ct cz) (s : Nat) : SIG d c (va_up td s (td s)) (va_up tl s (tl s)) (va_up ow s (ow s)) (va_up ss s (ss s)) (va_up sp s (sp s)) (va_up sh s (sh s)) so zs zk ct cz := by
  rw [va_id, va_id, va_id, va_id, va_id, va_id]
  exact h
theorem SIG_new {d c : Nat} {td : Nat → Nat → Int32} {tl ow ss sp : Nat → Int32} {sh : Nat → Int64} {so : Nat → Int32} {zs zk : Nat → Int64} {ct cz : Nat → Int32} (h : SIG d c td tl ow ss sp sh so zs zk ct cz) (hd : d < 8) {k s : Nat} {Ct : List Int32} {td' ct2 : Nat → Int32} {tl' cz' : Int32} (hk : k < c) (hs : s < QQ) (hw : WW td' tl' Ct) (hC : Ct.length ≤ 128) (hg : GG ct2 (300 * d) Ct) (hz : cz' = nI Ct.length) (ho : ∀ i, (i < 300 * d ∨ 300 * d + 300 ≤ i) → ct2 i = ct i) : SIG (d + 1) c (va_up td d td') (va_up tl d tl') (va_up ow d (nI k)) (va_up ss d (nI s)) (va_up sp d (nI (kyN s))) (va_up sh d (khN s)) (upd so d (nI k)) (vp_updL zs d (lN s)) (vp_updL zk d (lN (kyN s))) ct2 (upd cz d cz') := by
  refine ⟨hd, fun j hj => ?_⟩
  by_cases e : j = d
  · subst e
    rw [va_us, va_us, va_us, va_us, va_us, va_us]
    exact ⟨k, s, Ct, hk, hs, rfl, if_pos rfl, rfl, if_pos rfl, rfl, if_pos rfl, rfl, hw, hC, hg, (if_pos rfl).trans hz⟩
  · rw [va_un e, va_un e, va_un e, va_un e, va_un e, va_un e]
    obtain ⟨k', x', Ct', b1, b2, b3, b4, b5, b6, b7, b8, b9, b10, b11, b12, b13⟩ := h.2 j (by omega)
    exact ⟨k', x', Ct', b1, b2, b3, (if_neg e).trans b4, b5, (if_neg e).trans b6, b7, (if_neg e).trans b8, b9, b10, b11, GG_c b12 (fun i hi => ho _ (Or.inl (by omega))), (if_neg e).trans b13⟩
theorem ch_fun {P : Nat → List Int32 → Prop} {c : Nat} (h : ∀ k, k < c → ∃ A, P k A) : ∃ An : Nat → List Int32, ∀ k, k < c → P k (An k) :=
  ⟨fun k => if hk : k < c then Classical.choose (h k hk) else [], fun k hk => by
    simp only [dif_pos hk]
    exact Classical.choose_spec (h k hk)⟩
theorem slot {d : Nat} (hd : d ≤ 8) : ∃ s, s < 8 ∧ (¬ (nI d < 0 ∨ 8 ≤ (nI d).toNatClampNeg) → (nI d).toNatClampNeg = s) ∧ (d < 8 → s = d) := by
  by_cases h : d < 8
  · exact ⟨d, h, fun _ => nI_clamp (by omega), fun _ => rfl⟩
  · exact ⟨0, by decide, fun q => absurd (Or.inr (by rw [nI_clamp (by omega)]; omega)) q, fun q => absurd q h⟩
theorem o_authority (l : Launch) (D : va_G) (q : Nat → ClassId) (t x mm : Nat) (a am : Nat → Nat) : op_authority l D q t x mm (INV q x a mm am) := by
  intro wx wm hI z0
  refine hI _ (fun c d h n w fi el lk cv mh f od odl nd0 nl0 la ls lst lsi lr lf ln NH KH SE b ga gs gt gu gr gf gn nd nl sr sn rs se pk nh kh is tb td tl ow ss sp sh o ol nm ns sc ky iss rS rT rR so zs zk ct cz wo wsr no nz vr fd hf fo fs hO hS hT hL sd e0 e1 e2 e3 e4 e5 e6 e7 e8 e9 e10 e11 e12 e13 e14 e15 e16 e17 e18 e19 e20 e21 e22 e23 e24 e25 e26 e27 e28 e29 e30 e31 e32 e33 e34 e35 e36 e37 e38 e39 e40 e41 e42 e43 e44 e45 m0 m1 m2 m3 m4 m5 m6 m7 m8 m9 m10 m11 m12 m13 m14 m15 m16 m17 m18 m19 m20 m21 m22 m23 m24 m25 m26 m27 m28 m29 m30 m31 m32 m33 m34 m35 m36 m37 m38 m39 m40 m41 m42 m43 m44 m45 hwx hwm hTp hOu hNo hAu hSi hWa hVe hFi hHe => ?_)
  clear hI
  subst hwx hwm
  obtain ⟨An, hAn⟩ := ch_fun (P := fun k A => NR A (nd k) (nl k) nm (ns k) k) (fun k hk => by
    obtain ⟨A, s, h1, -⟩ := hAu.2.1 k hk
    exact ⟨A, h1⟩)
  rcases P_authority (kh := kh) (nh := nh) (pk := pk) (se := se) hAu.1 hTp.2 hTp.1 hAn sc ky z0 with ⟨r, e1, e2⟩ | ⟨s, nm2, g, v1, v3, v4, v5, v6, hc, hs1, hs2, rfl, hn1, hn2, e1, e2, g1, g2, g3, rfl, rfl, rfl, rfl, rfl⟩
  · exact ⟨r, _, _, U_authority z0 r kh nd nl nh pk se (nI c) 0 e2, c_authority l D q (cA mm am) _ _ _ _ _ _ _ _ _ _ _ _ _ _ _ _ _ _ _ _ _ _ _ _ _ _ _ _ _ _ _ _ _ _ _ _ _ _ _ _ _ _ _ _ _ _ _ _ _ _ _ _ _ _ _ _ _ _ _ _ _ _ _ _ _ _ _ _ _ _ _ _ _ _ _ _ _ _ _ _ _ _ _ _ z0 _ e1, (fun Q0 K0 => K0 _ _ _ (0) _ _ _ _ _ _ _ _ _ _ _ _ _ _ _ _ _ _ _ _ _ _ _ _ _ _ _ _ _ _ _ _ _ _ _ _ _ _ _ _ _ _ _ _ _ _ _ _ _ _ _ _ _ _ _ _ _ _ _ _ _ _ _ _ _ _ _ _ _ _ _ _ _ _ _ _ _ _ _ _ _ _ _ _ _ _ _ _ _ _ _ _ _ _ _ _ _ _ _ _ _ _ _ _ _ _ _ _ _ _ _ _ _ _ _ _ _ _ _ _ _ _ _ _ _ _ _ _ _ _ _ _ _ _ _ _ _ _ _ _ _ _ _ _ _ _ _ _ _ _ _ _ _ _ _ _ _ _ _ _ _ _ _ _ _ _ _ rfl rfl (⟨Nat.zero_le _, hTp.2⟩) (hOu) (hNo) (hAu) (hSi) (hWa) (hVe) (hFi) (hHe))⟩
  · have hl1 := sl_l f n 0
    exact ⟨nI c, _, _, U_authority (nI s) (nI c) _ _ _ _ _ _ _ _ e2, c_authority l D q (cA mm am) _ _ _ _ _ _ _ _ _ _ _ _ _ _ _ _ _ _ _ _ _ _ _ _ _ _ _ _ _ _ _ _ _ _ _ _ _ _ _ _ _ _ _ _ _ _ _ _ _ _ _ _ _ _ _ _ _ _ _ _ _ _ _ _ _ _ _ _ _ _ _ _ _ _ _ _ _ _ _ _ _ _ _ _ (nI s) _ e1, (fun Q0 K0 => K0 (c + 1) _ _ (0) _ _ _ _ _ _ _ _ _ _ _ _ _ _ _ _ _ _ _ _ _ _ _ _ _ _ _ _ _ _ _ _ _ _ _ _ _ _ _ _ _ _ _ _ _ _ _ _ _ _ _ _ _ _ _ _ _ _ _ _ _ _ _ _ _ _ _ _ _ _ _ _ _ _ _ _ _ _ _ _ _ _ _ _ _ _ _ _ _ _ _ _ _ _ _ _ _ _ _ _ _ _ _ _ _ _ _ _ _ _ _ _ _ _ _ _ _ _ _ _ _ _ _ _ _ _ _ _ _ _ _ _ _ _ _ _ _ _ _ _ _ _ _ _ _ _ _ _ _ _ _ _ _ _ _ _ _ _ _ _ _ _ _ _ _ _ _ rfl rfl (⟨Nat.zero_le _, hTp.2⟩) (hOu) (hNo) (AUT_new hAu hc hs1 hs2 g3 (by omega) (by omega) (by rw [hl1]) g1 g2) (SIG_c hSi) (WAN_new hWa _ _) (hVe) (hFi) (hHe))⟩
theorem o_signer (l : Launch) (D : va_G) (q : Nat → ClassId) (t x mm : Nat) (a am : Nat → Nat) : op_signer l D q t x mm (INV q x a mm am) := by
  intro wx wm hI z0 z1 z2 z3 z4 z5
  refine hI _ (fun c d h n w fi el lk cv mh f od odl nd0 nl0 la ls lst lsi lr lf ln NH KH SE b ga gs gt gu gr gf gn nd nl sr sn rs se pk nh kh is tb td tl ow ss sp sh o ol nm ns sc ky iss rS rT rR so zs zk ct cz wo wsr no nz vr fd hf fo fs hO hS hT hL sd e0 e1 e2 e3 e4 e5 e6 e7 e8 e9 e10 e11 e12 e13 e14 e15 e16 e17 e18 e19 e20 e21 e22 e23 e24 e25 e26 e27 e28 e29 e30 e31 e32 e33 e34 e35 e36 e37 e38 e39 e40 e41 e42 e43 e44 e45 m0 m1 m2 m3 m4 m5 m6 m7 m8 m9 m10 m11 m12 m13 m14 m15 m16 m17 m18 m19 m20 m21 m22 m23 m24 m25 m26 m27 m28 m29 m30 m31 m32 m33 m34 m35 m36 m37 m38 m39 m40 m41 m42 m43 m44 m45 hwx hwm hTp hOu hNo hAu hSi hWa hVe hFi hHe => ?_)
  clear hI
  subst hwx hwm
  obtain ⟨s, hs, d1, d2⟩ := slot hSi.1
  have hn31 : n < 2 ^ 31 := Nat.lt_of_le_of_lt hTp.1 (by decide)
  by_cases hz : 0 ≤ z0 ∧ z0 < nI c
  · obtain ⟨k, hk, rfl⟩ := au_ix hAu.1 hz
    have hk4 : k < 4 := Nat.lt_of_lt_of_le hk hAu.1
    obtain ⟨m, t1, t2, t3, t4⟩ := hAu.2.2 k hk4
    obtain ⟨An, x1, ⟨u1, u2, u3, u4, u5⟩, x2, x3, n2, n3, n4, n5, n6, n7⟩ := hAu.2.1 k hk
    by_cases hb : ((1 ≤ n ∧ n ≤ 16) ∧ (∃ s, 1 ≤ s ∧ s < QQ ∧ z1 = nI s) ∧ ¬ z2 < 0 ∧ ((0 : Int64) ≤ z3 ∧ z3 ≤ 3155759999) ∧ ((0 : Int64) ≤ z4 ∧ z4 ≤ 3155759999) ∧ (∃ g, g ≤ 3 ∧ z5 = nI g))
    · obtain ⟨⟨h1, h2⟩, ⟨s1, s2, s3, rfl⟩, hv, h3, h4, g, hg, rfl⟩ := hb
      obtain ⟨V, hV, rfl⟩ := nI_of hv
      obtain ⟨F0, hF0, rfl⟩ := tm_of h3
      obtain ⟨T0, hT0, rfl⟩ := tm_of h4
      rcases P_signer (o := o) (ol := ol) (nm := nm) (ns := ns) (sc := sc) (iss := iss) (rS := rS) (rT := rT) (rR := rR) (so := so) (ss := zs) (sk := zk) (ct := ct) (cz := cz) (xh := m0) (xc := m1) (xz := m2) (sw := m3) (dr := m4) (dl := m5) (S := sr k) (T := sn k) (nd := nd k) (nl := nl k) (kh := sh s) (ow := ow s) (pk := sp s) (se := ss s) (td := td s) (tl := tl s) (od := od) (odl := odl) hAu.1 hk hSi.1 h1 h2 hTp.2 s2 s3 hV hF0 hT0 hg x3 n6 u3 u4 u5 u1 t1 t3 with ⟨r, e1, e2⟩ | ⟨hd, m', S', T', rS', rT', rR', iss', y, z, td', od', e1, e2, e3, e4, e5, e6, ⟨o', ct2, xh', xc', xz', sw', dr', dl', rfl, w1, g1, g2⟩, rfl, w2, w3⟩
      · rw [← t2, ← n5] at e2
        exact ⟨r, _, _, U_signer hk4 hs _ _ _ _ _ _ _ e2 (fun _ => nI_clamp (Nat.lt_trans hk4 (by decide))) d1, c_signer l D q (cA mm am) _ _ _ _ _ _ _ _ _ _ _ _ _ _ _ _ _ _ _ _ _ _ _ _ _ _ _ _ _ _ _ _ _ _ _ _ _ _ _ _ _ _ _ _ _ _ _ _ _ _ _ _ _ _ _ _ _ _ _ _ _ _ _ _ _ _ _ _ _ _ _ _ _ _ _ _ _ _ _ _ _ _ _ _ (nI k) (nI s1) (nI V) (lN F0) (lN T0) (nI g) _ e1, (fun Q0 K0 => K0 _ _ _ (0) _ _ _ _ _ _ _ _ _ _ _ _ _ _ _ _ _ _ _ _ _ _ _ _ _ _ _ _ _ _ _ _ _ _ _ _ _ _ _ _ _ _ _ _ _ _ _ _ _ _ _ _ _ _ _ _ _ _ _ _ _ _ _ _ _ _ _ _ _ _ _ _ _ _ _ _ _ _ _ _ _ _ _ _ _ _ _ _ _ _ _ _ _ _ _ _ _ _ _ _ _ _ _ _ _ _ _ _ _ _ _ _ _ _ _ _ _ _ _ _ _ _ _ _ _ _ _ _ _ _ _ _ _ _ _ _ _ _ _ _ _ _ _ _ _ _ _ _ _ _ _ _ _ _ _ _ _ _ _ _ _ _ _ _ _ _ _ rfl rfl (⟨Nat.zero_le _, hTp.2⟩) (hOu) (hNo) (AUT_up hAu (fun j e => ⟨va_un e, va_un e, rfl, va_un e, rfl⟩) FR_r (by rw [va_us, va_us, va_us]; exact ⟨m, t1, t2, t3, t4⟩)) (SIG_id hSi s) (hWa) (hVe) (hFi) (hHe))⟩
      · obtain rfl := d2 hd
        have hC := (crt_l (s := x1) (V := V) (F := F0) (T := T0) (K := kyN s1) (G := g) u3 (Nat.le_trans (Nat.le_of_eq (sl_l f n 0)) h2)).2
        rw [← t2, ← n5] at e2
        exact ⟨nI s, _, _, U_signer hk4 hs _ _ _ _ _ _ _ e2 (fun _ => nI_clamp (Nat.lt_trans hk4 (by decide))) d1, c_signer l D q (cA mm am) _ _ _ _ _ _ _ _ _ _ _ _ _ _ _ _ _ _ _ _ _ _ _ _ _ _ _ _ _ _ _ _ _ _ _ _ _ _ _ _ _ _ _ _ _ _ _ _ _ _ _ _ _ _ _ _ _ _ _ _ _ _ _ _ _ _ _ _ _ _ _ _ _ _ _ _ _ _ _ _ _ _ _ _ (nI k) (nI s1) (nI V) (lN F0) (lN T0) (nI g) _ e1, (fun Q0 K0 => K0 _ (s + 1) _ (0) _ _ _ _ _ _ _ _ _ _ _ _ _ _ _ _ _ _ _ _ _ _ _ _ _ _ _ _ _ _ _ _ _ _ _ _ _ _ _ _ _ _ _ _ _ _ _ _ _ _ _ _ _ _ _ _ _ _ _ _ _ _ _ _ _ _ _ _ _ _ _ _ _ _ _ _ _ _ _ _ _ _ _ _ _ _ _ _ _ _ _ _ _ _ _ _ _ _ _ _ _ _ _ _ _ _ _ _ _ _ _ _ _ _ _ _ _ _ _ _ _ _ _ _ _ _ _ _ _ _ _ _ _ _ _ _ _ _ _ _ _ _ _ _ _ _ _ _ _ _ _ _ _ _ _ _ _ _ _ _ _ _ _ _ _ _ _ rfl rfl (⟨Nat.zero_le _, hTp.2⟩) (⟨_, w1, w3, by omega⟩) (hNo) (AUT_up hAu (fun j e => ⟨va_un e, va_un e, rfl, va_un e, rfl⟩) e5 (by rw [va_us, va_us, va_us]; exact ⟨m', e3, rfl, e4, by rw [e6]; exact t4⟩)) (SIG_new hSi hd hk s3 w2 (by omega) g1 rfl g2) (hWa) (hVe) (hFi) (hHe))⟩
    · have e1 := rs_bad (d := d) (f := f) (o := o) (ol := ol) (nm := nm) (ns := ns) (sc := sc) (iss := iss) (rS := rS) (rT := rT) (rR := rR) (so := so) (ss := zs) (sk := zk) (ct := ct) (cz := cz) (xh := m0) (xc := m1) (xz := m2) (sw := m3) (dr := m4) (dl := m5) hAu.1 hk hn31 hb
      have e2 := cs_bad (d := d) (f := f) (m := m) (x := se k) (S := sr k) (T := sn k) (nd := nd k) (nl := nl k) (kh := sh s) (ow := ow s) (pk := sp s) (se := ss s) (td := td s) (tl := tl s) (od := od) (odl := odl) hAu.1 hk hn31 hb
      rw [← t2] at e2
      exact ⟨-2, _, _, U_signer hk4 hs _ _ _ _ _ _ _ e2 (fun _ => nI_clamp (Nat.lt_trans hk4 (by decide))) d1, c_signer l D q (cA mm am) _ _ _ _ _ _ _ _ _ _ _ _ _ _ _ _ _ _ _ _ _ _ _ _ _ _ _ _ _ _ _ _ _ _ _ _ _ _ _ _ _ _ _ _ _ _ _ _ _ _ _ _ _ _ _ _ _ _ _ _ _ _ _ _ _ _ _ _ _ _ _ _ _ _ _ _ _ _ _ _ _ _ _ _ (nI k) z1 z2 z3 z4 z5 _ e1, (fun Q0 K0 => K0 _ _ _ (0) _ _ _ _ _ _ _ _ _ _ _ _ _ _ _ _ _ _ _ _ _ _ _ _ _ _ _ _ _ _ _ _ _ _ _ _ _ _ _ _ _ _ _ _ _ _ _ _ _ _ _ _ _ _ _ _ _ _ _ _ _ _ _ _ _ _ _ _ _ _ _ _ _ _ _ _ _ _ _ _ _ _ _ _ _ _ _ _ _ _ _ _ _ _ _ _ _ _ _ _ _ _ _ _ _ _ _ _ _ _ _ _ _ _ _ _ _ _ _ _ _ _ _ _ _ _ _ _ _ _ _ _ _ _ _ _ _ _ _ _ _ _ _ _ _ _ _ _ _ _ _ _ _ _ _ _ _ _ _ _ _ _ _ _ _ _ _ rfl rfl (⟨Nat.zero_le _, hTp.2⟩) (hOu) (hNo) (AUT_up hAu (fun j e => ⟨va_un e, va_un e, rfl, va_un e, rfl⟩) FR_r (by rw [va_us, va_us, va_us]; exact ⟨m, t1, t2, t3, t4⟩)) (SIG_id hSi s) (hWa) (hVe) (hFi) (hHe))⟩
  · obtain ⟨m, t1, t2, t3, t4⟩ := hAu.2.2 0 (by decide)
    have e1 := rs_no (d := d) (f := f) (p1 := z1) (p2 := z2) (p3 := z3) (p4 := z4) (p5 := z5) (o := o) (ol := ol) (nm := nm) (ns := ns) (sc := sc) (iss := iss) (rS := rS) (rT := rT) (rR := rR) (so := so) (ss := zs) (sk := zk) (ct := ct) (cz := cz) (xh := m0) (xc := m1) (xz := m2) (sw := m3) (dr := m4) (dl := m5) hAu.1 hn31 hz
    have e2 := cs_no (d := d) (f := f) (n := n) (m := m) (x := se 0) (p1 := z1) (p2 := z2) (p3 := z3) (p4 := z4) (p5 := z5) (S := sr 0) (T := sn 0) (nd := nd 0) (nl := nl 0) (kh := sh s) (ow := ow s) (pk := sp s) (se := ss s) (td := td s) (tl := tl s) (od := od) (odl := odl) hz
    rw [← t2] at e2
    exact ⟨-2, _, _, U_signer (k := 0) (by decide) hs _ _ _ _ _ _ _ e2 (fun q => absurd q hz) d1, c_signer l D q (cA mm am) _ _ _ _ _ _ _ _ _ _ _ _ _ _ _ _ _ _ _ _ _ _ _ _ _ _ _ _ _ _ _ _ _ _ _ _ _ _ _ _ _ _ _ _ _ _ _ _ _ _ _ _ _ _ _ _ _ _ _ _ _ _ _ _ _ _ _ _ _ _ _ _ _ _ _ _ _ _ _ _ _ _ _ _ z0 z1 z2 z3 z4 z5 _ e1, (fun Q0 K0 => K0 _ _ _ (0) _ _ _ _ _ _ _ _ _ _ _ _ _ _ _ _ _ _ _ _ _ _ _ _ _ _ _ _ _ _ _ _ _ _ _ _ _ _ _ _ _ _ _ _ _ _ _ _ _ _ _ _ _ _ _ _ _ _ _ _ _ _ _ _ _ _ _ _ _ _ _ _ _ _ _ _ _ _ _ _ _ _ _ _ _ _ _ _ _ _ _ _ _ _ _ _ _ _ _ _ _ _ _ _ _ _ _ _ _ _ _ _ _ _ _ _ _ _ _ _ _ _ _ _ _ _ _ _ _ _ _ _ _ _ _ _ _ _ _ _ _ _ _ _ _ _ _ _ _ _ _ _ _ _ _ _ _ _ _ _ _ _ _ _ _ _ _ rfl rfl (⟨Nat.zero_le _, hTp.2⟩) (hOu) (hNo) (AUT_up hAu (fun j e => ⟨va_un e, va_un e, rfl, va_un e, rfl⟩) FR_r (by rw [va_us, va_us, va_us]; exact ⟨m, t1, t2, t3, t4⟩)) (SIG_id hSi s) (hWa) (hVe) (hFi) (hHe))⟩
