/-! PURE 32: a signer, all roads -/
theorem fl_cases (p : Int32) : (p < 0 ∧ f_within p.toInt64 (0 : Int64) (3 : Int64) = some 0) ∨ (¬ p < 0 ∧ 3 < p ∧ f_within p.toInt64 (0 : Int64) (3 : Int64) = some 0) ∨ ∃ g, g ≤ 3 ∧ p = nI g := by
  rcases ix_cases p (n := 4) (by decide) with ⟨h, -⟩ | ⟨j, h1, h2, rfl⟩ | ⟨j, h1, rfl⟩
  · exact Or.inl ⟨h, w_neg (lo := 0) h _ (by decide)⟩
  · exact Or.inr (Or.inl ⟨nI_pos h2, nI_lt (a := 3) (by omega) h2, w_out (lo := 0) (hi := 3) h2 (Or.inr (by omega)) (by decide) (by decide)⟩)
  · exact Or.inr (Or.inr ⟨j, by omega, rfl⟩)
theorem fl_in {g : Nat} (h : g ≤ 3) : f_within (nI g).toInt64 (0 : Int64) (3 : Int64) = some 1 ∧ ¬ nI g < 0 ∧ ¬ 3 < nI g := ⟨w_in (lo := 0) (hi := 3) (by omega) (by omega) h (by decide), nI_pos (by omega), nI_nlt (a := 3) h (by decide)⟩
theorem i10 : ¬ (1 : Int32) = 0 := by decide
section SG
variable {c d k m n : Nat} {f : Nat → Int32} {p1 p2 : Int32} {p3 p4 : Int64} {p5 : Int32}
theorem rs_no (hc : c ≤ 4) (hn : n < 2 ^ 31) {p0 : Int32} (h : ¬ (0 ≤ p0 ∧ p0 < nI c)) {o : Nat → Int32} {ol : Int32} {nm ns : Nat → Int32} {sc : Nat → Int64} {iss rS : Nat → Int32} {rT : Nat → Int64} {rR : Nat → Int32} {so : Nat → Int32} {ss sk : Nat → Int64} {ct cz : Nat → Int32} {xh xc xz : Int64} {sw dr : Nat → Int32} {dl : Int32} : f_signer f (nI n) o ol (nI c) nm ns sc iss rS rT rR (nI d) so ss sk ct cz xh xc xz sw dr dl p0 p1 p2 p3 p4 p5 = some (-2, 0, o, ol, iss, rS, rT, rR, nI d, so, ss, sk, ct, cz, xh, xc, xz, sw, dr, dl) := by
  unfold f_signer
  by_cases h1 : 1 ≤ n ∧ n ≤ 16
  · rw [(isName_y h1.1 h1.2).1, Option.bind_some, if_neg i10, isA_n hc h, Option.bind_some, if_pos rfl]
  · rw [(isName_n hn h1).1, Option.bind_some, if_pos rfl]
theorem cs_no {p0 : Int32} (h : ¬ (0 ≤ p0 ∧ p0 < nI c)) {S : Nat → Int32} {T : Nat → Int64} {nd : Nat → Int32} {nl x : Int32} {kh : Int64} {ow pk se : Int32} {td : Nat → Int32} {tl : Int32} {od : Nat → Int32} {odl : Int32} : f_de_signer (nI m) nd nl x S T kh ow pk se td tl (nI c) od odl (nI d) f (nI n) p0 p1 p2 p3 p4 p5 = some (-2, nI m, S, T, kh, ow, pk, se, td, tl, od, odl, nI d, 0) := by
  unfold f_de_signer
  rw [if_neg h, fits_w, fits_w]
  unfold f_by_clear
  rw [Option.bind_some]
  by_cases h2 : p2 < 0
  · rw [if_pos h2]
  · rw [if_neg h2]
    by_cases h3 : (0 : Int64) ≤ p3 ∧ p3 ≤ 3155759999
    · rw [p_in h3, Option.bind_some, if_neg i10]
      by_cases h4 : (0 : Int64) ≤ p4 ∧ p4 ≤ 3155759999
      · rw [p_in h4, Option.bind_some, if_neg i10, ite_self, ite_self]
      · rw [p_out h4, Option.bind_some, if_pos rfl]
    · rw [p_out h3, Option.bind_some, if_pos rfl]
theorem rs_bad (hc : c ≤ 4) (hk : k < c) (hn : n < 2 ^ 31) (h : ¬ ((1 ≤ n ∧ n ≤ 16) ∧ (∃ s, 1 ≤ s ∧ s < QQ ∧ p1 = nI s) ∧ ¬ p2 < 0 ∧ ((0 : Int64) ≤ p3 ∧ p3 ≤ 3155759999) ∧ ((0 : Int64) ≤ p4 ∧ p4 ≤ 3155759999) ∧ (∃ g, g ≤ 3 ∧ p5 = nI g))) {o : Nat → Int32} {ol : Int32} {nm ns : Nat → Int32} {sc : Nat → Int64} {iss rS : Nat → Int32} {rT : Nat → Int64} {rR : Nat → Int32} {so : Nat → Int32} {ss sk : Nat → Int64} {ct cz : Nat → Int32} {xh xc xz : Int64} {sw dr : Nat → Int32} {dl : Int32} : f_signer f (nI n) o ol (nI c) nm ns sc iss rS rT rR (nI d) so ss sk ct cz xh xc xz sw dr dl (nI k) p1 p2 p3 p4 p5 = some (-2, 0, o, ol, iss, rS, rT, rR, nI d, so, ss, sk, ct, cz, xh, xc, xz, sw, dr, dl) := by
  unfold f_signer
  by_cases h1 : 1 ≤ n ∧ n ≤ 16
  · rw [(isName_y h1.1 h1.2).1, Option.bind_some, if_neg i10, isA_y hc hk, Option.bind_some, if_neg i10]
    rcases sec_cases p1 with ⟨k1, -⟩ | ⟨s, hs1, hs2, rfl⟩
    · rw [k1, Option.bind_some, if_pos rfl]
    · rw [(sec_y hs1 hs2).1, Option.bind_some, if_neg i10]
      by_cases h2 : p2 < 0
      · rw [if_pos h2]
      · rw [if_neg h2]
        by_cases h3 : (0 : Int64) ≤ p3 ∧ p3 ≤ 3155759999
        · rw [p_in h3, Option.bind_some, if_neg i10]
          by_cases h4 : (0 : Int64) ≤ p4 ∧ p4 ≤ 3155759999
          · rw [p_in h4, Option.bind_some, if_neg i10]
            rcases fl_cases p5 with ⟨-, e⟩ | ⟨-, -, e⟩ | ⟨g, hg, rfl⟩
            · rw [e, Option.bind_some, if_pos rfl]
            · rw [e, Option.bind_some, if_pos rfl]
            · exact absurd ⟨h1, ⟨s, hs1, hs2, rfl⟩, h2, h3, h4, g, hg, rfl⟩ h
          · rw [p_out h4, Option.bind_some, if_pos rfl]
        · rw [p_out h3, Option.bind_some, if_pos rfl]
  · rw [(isName_n hn h1).1, Option.bind_some, if_pos rfl]
theorem cs_bad (hc : c ≤ 4) (hk : k < c) (hn : n < 2 ^ 31) (h : ¬ ((1 ≤ n ∧ n ≤ 16) ∧ (∃ s, 1 ≤ s ∧ s < QQ ∧ p1 = nI s) ∧ ¬ p2 < 0 ∧ ((0 : Int64) ≤ p3 ∧ p3 ≤ 3155759999) ∧ ((0 : Int64) ≤ p4 ∧ p4 ≤ 3155759999) ∧ (∃ g, g ≤ 3 ∧ p5 = nI g))) {S : Nat → Int32} {T : Nat → Int64} {nd : Nat → Int32} {nl x : Int32} {kh : Int64} {ow pk se : Int32} {td : Nat → Int32} {tl : Int32} {od : Nat → Int32} {odl : Int32} : f_de_signer (nI m) nd nl x S T kh ow pk se td tl (nI c) od odl (nI d) f (nI n) (nI k) p1 p2 p3 p4 p5 = some (-2, nI m, S, T, kh, ow, pk, se, td, tl, od, odl, nI d, 0) := by
  have z0 : (0 : Int32) = 0 := rfl
  unfold f_de_signer
  rw [if_pos (au_y hk hc), chk_t (inN (by omega) (by omega)), fits_w, fits_w, if_pos z0, if_neg i10]
  unfold f_by_clear
  rw [Option.bind_some]
  by_cases h2 : p2 < 0
  · rw [if_pos h2]
  · rw [if_neg h2]
    by_cases h3 : (0 : Int64) ≤ p3 ∧ p3 ≤ 3155759999
    · rw [p_in h3, Option.bind_some, if_neg i10]
      by_cases h4 : (0 : Int64) ≤ p4 ∧ p4 ≤ 3155759999
      · rw [p_in h4, Option.bind_some, if_neg i10]
        rcases fl_cases p5 with ⟨e, -⟩ | ⟨e, e', -⟩ | ⟨g, hg, rfl⟩
        · rw [if_pos e]
        · rw [if_neg e, if_pos e']
        · rw [if_neg (fl_in hg).2.1, if_neg (fl_in hg).2.2]
          by_cases h1 : 1 ≤ n ∧ n ≤ 16
          · rw [(isName_y h1.1 h1.2).2, Option.bind_some, if_neg i10]
            rcases sec_cases p1 with ⟨-, k2⟩ | ⟨s, hs1, hs2, rfl⟩
            · rw [k2, Option.bind_some, if_pos rfl]
            · exact absurd ⟨h1, ⟨s, hs1, hs2, rfl⟩, h2, h3, h4, g, hg, rfl⟩ h
          · rw [(isName_n hn h1).2, Option.bind_some, if_pos rfl]
      · rw [p_out h4, Option.bind_some, if_pos rfl]
    · rw [p_out h3, Option.bind_some, if_pos rfl]
/-- the good road: full, or a new signer -/
theorem P_signer (hc : c ≤ 4) (hk : k < c) (hd : d ≤ 8) (hn1 : 1 ≤ n) (hn : n ≤ 16) (hf : TP f) {s V F0 T0 g : Nat} (hs1 : 1 ≤ s) (hs : s < QQ) (hV : V < 2 ^ 31) (hF : F0 < 3155760000) (hT : T0 < 3155760000) (hg : g ≤ 3) {o : Nat → Int32} {ol : Int32} {nm ns : Nat → Int32} {sc : Nat → Int64} {iss rS : Nat → Int32} {rT : Nat → Int64} {rR : Nat → Int32} {so : Nat → Int32} {ss sk : Nat → Int64} {ct cz : Nat → Int32} {xh xc xz : Int64} {sw dr : Nat → Int32} {dl : Int32} {S : Nat → Int32} {T : Nat → Int64} {nd : Nat → Int32} {nl : Int32} {kh : Int64} {ow pk se : Int32} {td : Nat → Int32} {tl : Int32} {od : Nat → Int32} {odl : Int32} {R : Nat → Int32} {x : Nat} {An : List Int32} (hx : x < QQ) (hsc : sc k = lN x) (hA16 : An.length ≤ 16) (hA : GG nm (16 * k) An) (hns : ns k = nI An.length) (hW : WW nd nl An) (h : TB k m S T R rS rT rR) (hr : iss k = nI m) :
    (∃ r, f_signer f (nI n) o ol (nI c) nm ns sc iss rS rT rR (nI d) so ss sk ct cz xh xc xz sw dr dl (nI k) (nI s) (nI V) (lN F0) (lN T0) (nI g) = some (r, 0, o, ol, iss, rS, rT, rR, nI d, so, ss, sk, ct, cz, xh, xc, xz, sw, dr, dl) ∧ f_de_signer (nI m) nd nl (nI x) S T kh ow pk se td tl (nI c) od odl (nI d) f (nI n) (nI k) (nI s) (nI V) (lN F0) (lN T0) (nI g) = some (r, nI m, S, T, kh, ow, pk, se, td, tl, od, odl, nI d, 0)) ∨
    (d < 8 ∧ ∃ m' S' T' rS' rT' rR' iss' y z td' od', f_signer f (nI n) o ol (nI c) nm ns sc iss rS rT rR (nI d) so ss sk ct cz xh xc xz sw dr dl (nI k) (nI s) (nI V) (lN F0) (lN T0) (nI g) = some y ∧ f_de_signer (nI m) nd nl (nI x) S T kh ow pk se td tl (nI c) od odl (nI d) f (nI n) (nI k) (nI s) (nI V) (lN F0) (lN T0) (nI g) = some z ∧ TB k m' S' T' R rS' rT' rR' ∧ iss' k = nI m' ∧ FR k rS rT rR iss rS' rT' rR' iss' ∧ cn T' m' = cn T m ∧
      (∃ o' ct2 xh' xc' xz' sw' dr' dl', y = (nI d, 0, o', nI (crtL x V An (sl f 0 n) F0 T0 (kyN s) g).length, iss', rS', rT', rR', nI (d + 1), upd so d (nI k), vp_updL ss d (lN s), vp_updL sk d (lN (kyN s)), ct2, upd cz d (nI (crtL x V An (sl f 0 n) F0 T0 (kyN s) g).length), xh', xc', xz', sw', dr', dl') ∧ WW o' (nI (crtL x V An (sl f 0 n) F0 T0 (kyN s) g).length) (crtL x V An (sl f 0 n) F0 T0 (kyN s) g) ∧ GG ct2 (300 * d) (crtL x V An (sl f 0 n) F0 T0 (kyN s) g) ∧ (∀ i, (i < 300 * d ∨ 300 * d + 300 ≤ i) → ct2 i = ct i)) ∧
      z = (nI d, nI m', S', T', khN s, nI k, nI (kyN s), nI s, td', nI (crtL x V An (sl f 0 n) F0 T0 (kyN s) g).length, od', nI (crtL x V An (sl f 0 n) F0 T0 (kyN s) g).length, nI (d + 1), 0) ∧ WW td' (nI (crtL x V An (sl f 0 n) F0 T0 (kyN s) g).length) (crtL x V An (sl f 0 n) F0 T0 (kyN s) g) ∧ WW od' (nI (crtL x V An (sl f 0 n) F0 T0 (kyN s) g).length) (crtL x V An (sl f 0 n) F0 T0 (kyN s) g)) := by
  have h3 : (0 : Int64) ≤ lN F0 ∧ lN F0 ≤ 3155759999 := ⟨(pk_lLE (a := 0) (by decide) (by omega)).mpr (by omega), (pk_lLE (b := 3155759999) (by omega) (by decide)).mpr (by omega)⟩
  have h4 : (0 : Int64) ≤ lN T0 ∧ lN T0 ≤ 3155759999 := ⟨(pk_lLE (a := 0) (by decide) (by omega)).mpr (by omega), (pk_lLE (b := 3155759999) (by omega) (by decide)).mpr (by omega)⟩
  have z0 : (0 : Int32) = 0 := rfl
  have rr : ∀ t, f_find iss rS (nI k) (nI V).toInt64 = some t → f_signer f (nI n) o ol (nI c) nm ns sc iss rS rT rR (nI d) so ss sk ct cz xh xc xz sw dr dl (nI k) (nI s) (nI V) (lN F0) (lN T0) (nI g) = if t = -1 then (j_signer_104 f 0 o ol (nI c) nm ns sc iss rS rT rR (nI d) so ss sk ct cz xh xc xz sw dr dl (nI k) (nI s) (nI V) (lN F0) (lN T0) (nI g) (nI n) 0) else (j_signer_104 f 0 o ol (nI c) nm ns sc iss rS rT rR (nI d) so ss sk ct cz xh xc xz sw dr dl (nI k) (nI s) (nI V) (lN F0) (lN T0) (nI g) (nI n) 1) := fun t ht => by
    unfold f_signer
    rw [(isName_y hn1 hn).1, Option.bind_some, if_neg i10, isA_y hc hk, Option.bind_some, if_neg i10, (sec_y hs1 hs).1, Option.bind_some, if_neg i10, if_neg (nI_pos hV), p_in h3, Option.bind_some, if_neg i10, p_in h4, Option.bind_some, if_neg i10, (fl_in hg).1, Option.bind_some, if_neg i10, ht, Option.bind_some]
  have cc : f_de_signer (nI m) nd nl (nI x) S T kh ow pk se td tl (nI c) od odl (nI d) f (nI n) (nI k) (nI s) (nI V) (lN F0) (lN T0) (nI g) = if (8 : Int32) ≤ nI d then some (-3, nI m, S, T, kh, ow, pk, se, td, tl, od, odl, nI d, 0) else ((f_au_hasRoomFor (nI m) S (nI V)).bind fun y_14 => if y_14 = 0 then some (-3, nI m, S, T, kh, ow, pk, se, td, tl, od, odl, nI d, 0) else (bnd (nI d + 1) fun sc' => chk (¬ (nI d < 0 ∨ 8 ≤ (nI d).toNatClampNeg)) <| (f_si_begin kh ow pk se (nI k) (nI s)).bind fun y_19 => (f_si_writeCert y_19.2.2.1 td tl nd nl (nI x) f (nI n) 1500 (nI V) (lN F0) (lN T0) (nI g)).bind fun y_20 => (f_au_enlist (nI m) S T (nI V)).bind fun y_21 => (f_by_copyOf od odl y_20.1 y_20.2 1500 128).bind fun y_22 => some (nI d, y_21.1, y_21.2.1, y_21.2.2, y_19.1, y_19.2.1, y_19.2.2.1, y_19.2.2.2, y_20.1, y_20.2, y_22.1, y_22.2, sc', 0))) := by
    unfold f_de_signer
    rw [if_pos (au_y hk hc), chk_t (inN (by omega) (by omega)), if_neg (nI_pos hV), fits_w, fits_w, p_in h3, Option.bind_some, if_neg i10, p_in h4, Option.bind_some, if_neg i10, if_neg (fl_in hg).2.1, if_neg (fl_in hg).2.2, if_neg i10, (isName_y hn1 hn).2, Option.bind_some, if_neg i10, (sec_y hs1 hs).2, Option.bind_some, if_neg i10]
    unfold f_by_clear
    simp only [Option.bind_some]
  rw [cc]
  by_cases h8 : d = 8
  · subst h8
    refine Or.inl ⟨-3, ?_, by rw [if_pos (by decide)]⟩
    rcases place (by omega) h hr (nI V) with ⟨-, e2, -⟩ | ⟨p, hp, -, -, e2⟩
    · rw [rr _ e2, if_pos rfl]
      unfold j_signer_104
      rw [if_pos (by decide)]
    · rw [rr _ e2, if_neg (fl_nI (by have := h.1; omega))]
      unfold j_signer_104
      rw [if_pos (by decide)]
  · have hd8 : d < 8 := by omega
    have hk4 : k < 4 := by omega
    have d8 : ¬ nI d = 8 := fun q => h8 ((nI_eq (b := 8) (by omega) (by decide)).mp q)
    rw [if_neg (show ¬ (8 : Int32) ≤ nI d from nI_ge (b := 8) hd8 (by decide))]
    have hK := kyN_lt s
    unfold PP at hK
    have hbeg : f_si_begin kh ow pk se (nI k) (nI s) = some (khN s, nI k, nI (kyN s), nI s) := by
      unfold f_si_begin
      rw [(pub hs).1, Option.bind_some, nI_l (by omega), pu_hashOf, Option.bind_some, khN]
    obtain ⟨y20, e20, w20⟩ := pu_writeCert (s := x) (V := V) (F := F0) (T := T0) (K := kyN s) (G := g) hx hV hF hT (by omega) (by omega) hW hA16 hf hn td tl
    obtain ⟨td', tl'⟩ := y20
    have cl := (crt_l (s := x) (V := V) (F := F0) (T := T0) (K := kyN s) (G := g) (An := An) (H := sl f 0 n) hA16 (by rw [sl_l]; omega)).2
    have q145 := fun (iss2 rS2 : Nat → Int32) (rT2 : Nat → Int64) (rR2 : Nat → Int32) => p_145 (tp := 0) (o := o) (ol := ol) (au := nI c) (iss := iss2) (rS := rS2) (rT := rT2) (rR := rR2) (so := so) (ss := ss) (sk := sk) (ct := ct) (cz := cz) (xh := xh) (xc := xc) (xz := xz) (sw := sw) (dr := dr) (dl := dl) (nm := nm) (ns := ns) (sc := sc) hf hn hd8 hk4 hA16 hA hns hx hsc hs hV hF hT (show g < 2 ^ 31 by omega)
    generalize crtL x V An (sl f 0 n) F0 T0 (kyN s) g = CL at *
    have ht := w20.1
    dsimp only at ht w20
    subst ht
    obtain ⟨y22, e22, w22⟩ := pu_copyOf (N := 1500) (Ng := 128) (by decide) (by decide) w20 (by omega) (by omega) (by unfold FU; omega) od odl
    obtain ⟨od', ol'⟩ := y22
    have ht2 := w22.1
    dsimp only at ht2 w22
    subst ht2
    have h8' : ¬ (nI d < 0 ∨ 8 ≤ (nI d).toNatClampNeg) := inN hd8 (by omega)
    rcases place hk4 h hr (nI V) with ⟨e1, e2, e3⟩ | ⟨p, hp, hSp, e1, e2⟩
    · by_cases h32 : m = 32
      · subst h32
        refine Or.inl ⟨-3, ?_, ?_⟩
        · rw [rr _ e2, if_pos rfl]
          unfold j_signer_104
          rw [if_neg d8, if_pos z0, chk_t (inN hk4 (by omega)), nI_clamp (by omega), hr, if_pos (by decide)]
        · unfold f_au_hasRoomFor
          rw [if_neg (by decide), e1, Option.bind_some, if_pos rfl, Option.bind_some, if_pos z0]
      · have hm : m < 32 := by have := h.1; omega
        obtain ⟨rS', rT', rR', iss', g1, g2, g3, g4, g5, g6⟩ := P_enter hk4 h hr hm e3
        obtain ⟨y, ey, hy⟩ := q145 iss' rS' rT' rR'
        refine Or.inr ⟨hd8, m + 1, _, _, rS', rT', rR', iss', y, _, td', od', ?_, ?_, g3, g4, g5, g6, hy, rfl, w20, w22⟩
        · rw [rr _ e2, if_pos rfl]
          unfold j_signer_104
          rw [if_neg d8, if_pos z0, chk_t (inN hk4 (by omega)), nI_clamp (by omega), hr, if_neg (show ¬ nI m = 32 from fun q => h32 ((nI_eq (b := 32) (by omega) (by decide)).mp q)), if_pos z0, g1, Option.bind_some]
          exact ey
        · unfold f_au_hasRoomFor
          rw [if_pos (show nI m < 32 from nI_lt (b := 32) hm (by decide)), Option.bind_some, if_neg i10, bnd_eq, chk_t h8', hbeg, Option.bind_some]
          dsimp only
          rw [e20, Option.bind_some, g2, Option.bind_some]
          dsimp only
          rw [e22, Option.bind_some, nI_1]
    · have hm := h.1
      obtain ⟨y, ey, hy⟩ := q145 iss rS rT rR
      refine Or.inr ⟨hd8, m, S, T, rS, rT, rR, iss, y, _, td', od', ?_, ?_, h, hr, FR_r, rfl, hy, rfl, w20, w22⟩
      · rw [rr _ e2, if_neg (fl_nI (by omega))]
        unfold j_signer_104
        rw [if_neg d8, if_neg i10]
        exact ey
      · have hen : f_au_enlist (nI m) S T (nI V) = some (nI m, S, T) := by
          unfold f_au_enlist
          rw [e1, Option.bind_some, if_neg (fl_nI (by omega)), ite_self]
        have hro : f_au_hasRoomFor (nI m) S (nI V) = some 1 := by
          unfold f_au_hasRoomFor
          rw [e1, Option.bind_some, if_neg (fl_nI (by omega)), ite_self]
        rw [hro, Option.bind_some, if_neg i10, bnd_eq, chk_t h8', hbeg, Option.bind_some]
        dsimp only
        rw [e20, Option.bind_some, hen, Option.bind_some]
        dsimp only
        rw [e22, Option.bind_some, nI_1]
end SG
theorem P_cert {d : Nat} (hd : d ≤ 8) {o od : Nat → Int32} {ol odl : Int32} {ct cz dr td : Nat → Int32} {dl tl : Int32} (p : Int32) (hS : ∀ k, k < d → p = nI k → ∃ A : List Int32, WW td tl A ∧ A.length ≤ 128 ∧ GG ct (300 * k) A ∧ cz k = nI A.length) {A0 : List Int32} (h1 : WW o ol A0) (h2 : WW od odl A0) (hA0 : A0.length ≤ 1500) : ∃ y z, f_cert o ol (nI d) ct cz dr dl p = some y ∧ f_de_cert td tl od odl (nI d) p = some z ∧ y.1 = z.1 ∧ ∃ A, WW y.2.1 y.2.2.1 A ∧ WW z.2.1 z.2.2 A ∧ A.length ≤ 1500 := by
  unfold f_cert f_de_cert
  by_cases h : 0 ≤ p ∧ p < nI d
  · obtain ⟨k, hk, rfl⟩ : ∃ k, k < d ∧ p = nI k := by
      obtain ⟨j, hj, rfl⟩ := nI_of (Int32.not_lt.mpr h.1)
      exact ⟨j, (nI_ltI hj (by omega)).mp h.2, rfl⟩
    obtain ⟨A, g1, g2, g3, g4⟩ := hS k hk rfl
    obtain ⟨y, e1, e2⟩ := p_layRow (Ng := 2400) (by decide) (m := A.length) (a := 300 * k) (by unfold FU; omega) (by omega) (fun j hj => GG_at g3 hj) (WW_nil dr) (by simp; omega)
    rw [sl_GG A _ g3, List.nil_append] at e2
    obtain ⟨w, e3, e4⟩ := p_tellDraft e2 (by omega) ol o
    obtain ⟨z, e5, e6⟩ := pu_copyOf (N := 1500) (Ng := 128) (by decide) (by decide) g1 (by omega) g2 (by unfold FU; omega) od odl
    rw [w_ixy (by omega) h, Option.bind_some, if_neg i10, chk_t (inN (by omega) (by omega)), nI_clamp (by omega), g4, show (300 : Int32) * nI k = nI (300 * k) from pk_mul 300 k, nI_add, e1, Option.bind_some, e3, Option.bind_some, if_pos h, chk_t (by rintro (q | q); exact nI_pos (by omega) q; omega), e5, Option.bind_some]
    exact ⟨_, _, rfl, rfl, by rw [e4.1]; exact e6.1.symm, A, e4.2, e6, by omega⟩
  · rw [w_ixn (by omega) h, Option.bind_some, if_pos rfl, if_neg h]
    exact ⟨_, _, rfl, rfl, rfl, A0, h1, h2, hA0⟩
