/-! PURE 16: the answer and the ask, as the class reads them -/
abbrev AnY := Int32 × Int32 × Int32 × Int64 × Int32 × Int32 × Int32 × Int32 × Int32 × Int32 × Int64 × Int32 × Int64 × Int64 × (Nat → Int64) × Int32 × Int32 × (Nat → Int64) × (Nat → Int64) × (Nat → Int32) × Int32 × (Nat → Int64) × Int32 × Int32 × (Nat → Int32) × Int64 × (Nat → Int64) × (Nat → Int32) × Int32 × Int64 × Int32 × Int32 × Int32 × Int32 × Int32 × Int32 × Int32 × (Nat → Int32) × Int32 × Int32
def AnB (p : Nat) (y : AnY) : Prop := p ≤ 1500 ∧ y.2.2.2.2.2.2.2.2.2.2.2.2.2.2.2.2.2.2.2.2.2.2.2.2.2.2.2.2.2.2.2.2.2.2.2.1 = nI p ∧ ∃ c', c' ≤ 8 ∧ y.2.2.2.2.2.2.2.2.2.2.2.2.2.2.2.2.1 = nI c'
def AnC (f : Nat → Int32) (v : AV) (a' : Nat) (i' : Int32) (y : AnY) : Prop := match v with
  | (s, none) => y.2.2.2.2.2.2.2.2.2.2.2.2.2.2.2.2.2.2.2.2.2.2.2.2.2.2.2.2.2.2.2.2.2.2.2.1 = -1 ∧ y.2.2.2.2.2.2.2.2.2.2.2.2.2.2.2.2.2.2.2.2.2.2.2.2.2.2.2.2.2.2.2.2.2.2.2.2.1 = i' ∧ y.2.2.2.2.2.2.2.2.2.2.2.2.2.2.2.2.2.2.2.2.2.2.2.2.2.2.2.2.1 = nI s ∧ s ≠ 0 ∧ y.2.2.2.2.2.2.2.2.2.2.2.2.2.2.2.2.1 = nI 0
  | (s, some (b, sx, ce)) => s = 0 ∧ ∃ (c_flags : Int32) (c_from : Int64) (c_innerEnd : Int32) (c_innerPlace : Int32) (c_issuerPlace : Int32) (c_issuerSize : Int32) (c_namePlace : Int32) (c_nameSize : Int32) (c_publicKey : Int64) (c_serial : Int32) (c_signature : Int64) (c_to : Int64) (FR : Nat → Int64) (hc : Int32) (KH : Nat → Int64) (NH : Nat → Int64) (SE : Nat → Int32) (isB : Int32) (NX : Nat → Int64) (np : Int32) (ns : Int32) (RS : Nat → Int32) (SI : Nat → Int64) (ST : Nat → Int32) (th : Int64) (tp : Int32) (ts : Int32) (x1 x2 : Int32) (O : Nat → Int32) (q r : Int32), y = (nI b.2.2.2.2, nI b.2.2.2.1, c_flags, c_from, c_innerEnd, c_innerPlace, c_issuerPlace, c_issuerSize, c_namePlace, c_nameSize, c_publicKey, c_serial, c_signature, c_to, FR, hc, nI b.2.1.length, KH, NH, SE, isB, NX, np, ns, RS, nb f 0 sx 9, SI, ST, 0, th, tp, ts, nI a', x1, x2, -1, i', O, q, r) ∧ BC f NH KH SE ST SI RS FR NX b.2.1 ∧ TeR f b.1 isB th tp ts ∧ NoR b.2.2.1 np ns ∧ f sx = 0 ∧ CcG f ce hc c_flags c_from c_innerEnd c_innerPlace c_issuerPlace c_issuerSize c_namePlace c_nameSize c_publicKey c_serial c_signature c_to
theorem S_88 {F : Int32} (hF : ¬ F = -1) (bodyEnd : Int32) (bodyPlace : Int32) (c_flags : Int32) (c_from : Int64) (c_innerEnd : Int32) (c_innerPlace : Int32) (c_issuerPlace : Int32) (c_issuerSize : Int32) (c_namePlace : Int32) (c_nameSize : Int32) (c_publicKey : Int64) (c_serial : Int32) (c_signature : Int64) (c_to : Int64) (FR : Nat → Int64) (hc : Int32) (cnt : Int32) (KH : Nat → Int64) (NH : Nat → Int64) (SE : Nat → Int32) (isB : Int32) (NX : Nat → Int64) (np : Int32) (ns : Int32) (RS : Nat → Int32) (sg : Int64) (SI : Nat → Int64) (ST : Nat → Int32) (status : Int32) (th : Int64) (tp : Int32) (ts : Int32) (at' d e i pl sz : Int32) (f O : Nat → Int32) (n : Nat) : ok (j_an_read_88 bodyEnd bodyPlace c_flags c_from c_innerEnd c_innerPlace c_issuerPlace c_issuerSize c_namePlace c_nameSize c_publicKey c_serial c_signature c_to FR hc cnt KH NH SE isB NX np ns RS sg SI ST status th tp ts at' f d e F i O pl sz n) (fun y => y.2.2.2.2.2.2.2.2.2.2.2.2.2.2.2.2.2.2.2.2.2.2.2.2.2.2.2.2.2.2.2.2.2.2.2.1 = F ∧ y.2.2.2.2.2.2.2.2.2.2.2.2.2.2.2.2.1 = cnt) := by
  unfold j_an_read_88
  refine ok.b (S_rest hF _ _ _ _ _ _ _ _ _ _ _ _) (fun y hy => ?_)
  obtain ⟨x1, x2, x3, x4, x5, x6, F1, x8, x9, x10, x11⟩ := y
  dsimp only at hy ⊢
  subst hy
  rw [S_sig hF, Option.bind_some, bnd_eq]
  refine ok.b (S_cer hF _ _ _ _ _ _ _ _ _ _ _ _ _ _ _ _ _ _ _ _ _ _) (fun y hy => ?_)
  obtain ⟨z1, z2, z3, z4, z5, z6, z7, z8, z9, z10, z11, z12, z13, z14, z15, z16, F2, z18, z19, z20, z21⟩ := y
  dsimp only at hy ⊢
  subst hy
  rw [S_close hF, Option.bind_some, S_close hF, Option.bind_some, S_close hF, Option.bind_some, S_endText hF, Option.bind_some]
  exact ok.s ⟨rfl, rfl⟩
theorem S_59 {F : Int32} (hF : ¬ F = -1) {k : Nat} (hk1 : 1 ≤ k) (hk : k ≤ 8) (fu : Nat) (bodyEnd : Int32) (bodyPlace : Int32) (c_flags : Int32) (c_from : Int64) (c_innerEnd : Int32) (c_innerPlace : Int32) (c_issuerPlace : Int32) (c_issuerSize : Int32) (c_namePlace : Int32) (c_nameSize : Int32) (c_publicKey : Int64) (c_serial : Int32) (c_signature : Int64) (c_to : Int64) (FR : Nat → Int64) (hc : Int32) (cnt : Int32) (KH : Nat → Int64) (NH : Nat → Int64) (SE : Nat → Int32) (isB : Int32) (NX : Nat → Int64) (np : Int32) (ns : Int32) (RS : Nat → Int32) (sg : Int64) (SI : Nat → Int64) (ST : Nat → Int32) (status : Int32) (th : Int64) (tp : Int32) (ts : Int32) (at' d e i pl sz : Int32) (f O : Nat → Int32) (n : Nat) : ok (j_an_read_59 (fu + 1) bodyEnd bodyPlace c_flags c_from c_innerEnd c_innerPlace c_issuerPlace c_issuerSize c_namePlace c_nameSize c_publicKey c_serial c_signature c_to FR hc cnt KH NH SE isB NX np ns RS sg SI ST status th tp ts at' f d e F i O pl sz n (nI k)) (fun y => y.2.2.2.2.2.2.2.2.2.2.2.2.2.2.2.2.2.2.2.2.2.2.2.2.2.2.2.2.2.2.2.2.2.2.2.1 = F ∧ y.2.2.2.2.2.2.2.2.2.2.2.2.2.2.2.2.1 = cnt) := by
  rw [j_an_read_59]
  by_cases h8 : k = 8
  · rw [if_pos (show (8 : Int32) ≤ nI k from nI_le (a := 8) (by omega) (by omega))]
    exact S_88 hF _ _ _ _ _ _ _ _ _ _ _ _ _ _ _ _ _ _ _ _ _ _ _ _ _ _ _ _ _ _ _ _ _ _ _ _ _ _ _ _ _
  · rw [if_neg (show ¬ (8 : Int32) ≤ nI k from nI_ge (b := 8) (by omega) (by decide)), if_neg (nI_ne0 (by omega) (by omega)), S_more hF, Option.bind_some, if_pos (show (0 : Int32) = 0 from rfl)]
    exact S_88 hF _ _ _ _ _ _ _ _ _ _ _ _ _ _ _ _ _ _ _ _ _ _ _ _ _ _ _ _ _ _ _ _ _ _ _ _ _ _ _ _ _
theorem C_88 {f : Nat → Int32} (hB : ∀ j, isb (f j)) {n zz o u z w a bf : Nat} {O : Nat → Int32} (hn : n ≤ 1500) (hzz : zz ≤ n) (ho : o ≤ zz) (hu : u ≤ o) (hz : z ≤ u) (hw : w ≤ z) (ha : a ≤ w) (hO4 : O 4 = nI z) (hO3 : O 3 = nI u) (hO2 : O 2 = nI o) (hO1 : O 1 = nI zz) (hO0 : O 0 = nI n) {L : List SG} (hL8 : L.length ≤ 8) {te : Nat × Nat × Nat} (bodyEnd : Int32) (c_flags : Int32) (c_from : Int64) (c_innerEnd : Int32) (c_innerPlace : Int32) (c_issuerPlace : Int32) (c_issuerSize : Int32) (c_namePlace : Int32) (c_nameSize : Int32) (c_publicKey : Int64) (c_serial : Int32) (c_signature : Int64) (c_to : Int64) (FR : Nat → Int64) (hc : Int32) (KH : Nat → Int64) (NH : Nat → Int64) (SE : Nat → Int32) (isB : Int32) (NX : Nat → Int64) (np : Int32) (RS : Nat → Int32) (sg : Int64) (SI : Nat → Int64) (ST : Nat → Int32) (th : Int64) (tp : Int32) (ts : Int32) (hL : BC f NH KH SE ST SI RS FR NX L) (hte : TeR f te isB th tp ts) (i pl sz : Int32) : ok (j_an_read_88 bodyEnd (nI bf) c_flags c_from c_innerEnd c_innerPlace c_issuerPlace c_issuerSize c_namePlace c_nameSize c_publicKey c_serial c_signature c_to FR hc (nI L.length) KH NH SE isB NX np 0 RS sg SI ST 0 th tp ts (nI a) f (nI 5) (nI w) (-1) i O pl sz 1500) (ro (AnC f) AnB (rb (s_rest f w z a i) fun no a1 i1 => rb (p_sig f u a1 i1) fun sx a2 i2 => rb (s_cer f u a2 i2) fun ce a3 i3 => s_tail f n zz o u a3 i3 (te, L, no, bf, z) sx ce)) := by
  unfold j_an_read_88
  refine st (C_rest (d := 3) ha hw hz (by omega) (by decide) hO4 hO3 _ _ _ _ _) (fun y p h => ?_) (fun y no a1 i1 h => ?_)
  · obtain ⟨x1, x2, x3, x4, x5, x6, F1, x8, x9, x10, x11⟩ := y
    obtain ⟨hp, hy⟩ := h
    dsimp only at hy ⊢
    subst hy
    have hF := fl_nI (p := p) (by omega)
    rw [S_sig hF, Option.bind_some, bnd_eq]
    refine ok.b (S_cer hF _ _ _ _ _ _ _ _ _ _ _ _ _ _ _ _ _ _ _ _ _ _) (fun y hy => ?_)
    obtain ⟨z1, z2, z3, z4, z5, z6, z7, z8, z9, z10, z11, z12, z13, z14, z15, z16, F2, z18, z19, z20, z21⟩ := y
    dsimp only at hy ⊢
    subst hy
    rw [S_close hF, Option.bind_some, S_close hF, Option.bind_some, S_close hF, Option.bind_some, S_endText hF, Option.bind_some]
    exact ok.s ⟨hp, rfl, _, hL8, rfl⟩
  obtain ⟨⟨np', ns', O1, q, r, rfl, b1, b2⟩, b3, b4⟩ := h
  dsimp only
  refine st (C_sig (by omega) (by omega) _ _ _) (fun y p h => ?_) (fun y sx a2 i2 h => ?_)
  · obtain ⟨⟨x0, at', i0, q0, r0, rfl⟩, rfl⟩ := h
    have hF := fl_nI (p := p) (by omega)
    dsimp only
    rw [bnd_eq]
    refine ok.b (S_cer hF _ _ _ _ _ _ _ _ _ _ _ _ _ _ _ _ _ _ _ _ _ _) (fun y hy => ?_)
    obtain ⟨z1, z2, z3, z4, z5, z6, z7, z8, z9, z10, z11, z12, z13, z14, z15, z16, F2, z18, z19, z20, z21⟩ := y
    dsimp only at hy ⊢
    subst hy
    rw [S_close hF, Option.bind_some, S_close hF, Option.bind_some, S_close hF, Option.bind_some, S_endText hF, Option.bind_some]
    exact ok.s ⟨by omega, rfl, _, hL8, rfl⟩
  obtain ⟨⟨q, r, rfl⟩, c0, c1, c2, c3⟩ := h
  dsimp only
  rw [bnd_eq]
  refine st (C_cer hB c3 (by omega) (by decide) _ _ _ _ _ _ _ _ _ _ _ _ _ _ _ _) (fun y p h => ?_) (fun y ce a3 i3 h => ?_)
  · obtain ⟨z1, z2, z3, z4, z5, z6, z7, z8, z9, z10, z11, z12, z13, z14, z15, z16, F2, z18, z19, z20, z21⟩ := y
    obtain ⟨hp, hy⟩ := h
    dsimp only at hy ⊢
    subst hy
    have hF := fl_nI (p := p) (by omega)
    rw [S_close hF, Option.bind_some, S_close hF, Option.bind_some, S_close hF, Option.bind_some, S_endText hF, Option.bind_some]
    exact ok.s ⟨hp, rfl, _, hL8, rfl⟩
  obtain ⟨⟨v0, v1, v2, v3, v4, v5, v6, v7, v8, v9, v10, v11, hc', O2, q, r, rfl, d1, d2⟩, d3, d4⟩ := h
  dsimp only
  unfold s_tail
  refine st (C_close (d := 2) d4 (by omega) (by decide) i3 _ _) (fun y p h => by obtain ⟨rfl, rfl⟩ := h; have hF := fl_nI (p := p) (by omega); (try dsimp only); (try simp only [bnd_eq, S_open (k := 48) hF (by decide), S_open (k := 160) hF (by decide), S_open (k := 161) hF (by decide), S_open (k := 162) hF (by decide), S_open (k := 163) hF (by decide), S_ent (k := 128) hF (by decide), S_ent (k := 130) hF (by decide), S_bytes hF, S_hash hF, S_int hF, S_code hF, S_sig hF, S_time hF, S_close hF, S_endText hF, S_more hF, S_sort hF, Option.bind_some]); exact ok.s ⟨by omega, rfl, _, hL8, rfl⟩) (fun y _ a4 i4 h => ?_)
  obtain ⟨rfl, rfl, rfl, e1⟩ := h
  dsimp only
  rw [d2 2 (by decide), b2 2 (by decide), hO2]
  refine st (C_close (d := 1) (by omega) (by omega) (by decide) i4 _ _) (fun y p h => by obtain ⟨rfl, rfl⟩ := h; have hF := fl_nI (p := p) (by omega); (try dsimp only); (try simp only [bnd_eq, S_open (k := 48) hF (by decide), S_open (k := 160) hF (by decide), S_open (k := 161) hF (by decide), S_open (k := 162) hF (by decide), S_open (k := 163) hF (by decide), S_ent (k := 128) hF (by decide), S_ent (k := 130) hF (by decide), S_bytes hF, S_hash hF, S_int hF, S_code hF, S_sig hF, S_time hF, S_close hF, S_endText hF, S_more hF, S_sort hF, Option.bind_some]); exact ok.s ⟨by omega, rfl, _, hL8, rfl⟩) (fun y _ a5 i5 h => ?_)
  obtain ⟨rfl, rfl, rfl, e2⟩ := h
  dsimp only
  rw [d2 1 (by decide), b2 1 (by decide), hO1]
  refine st (C_close (d := 0) (by omega) (by omega) (by decide) i5 _ _) (fun y p h => by obtain ⟨rfl, rfl⟩ := h; have hF := fl_nI (p := p) (by omega); (try dsimp only); (try simp only [bnd_eq, S_open (k := 48) hF (by decide), S_open (k := 160) hF (by decide), S_open (k := 161) hF (by decide), S_open (k := 162) hF (by decide), S_open (k := 163) hF (by decide), S_ent (k := 128) hF (by decide), S_ent (k := 130) hF (by decide), S_bytes hF, S_hash hF, S_int hF, S_code hF, S_sig hF, S_time hF, S_close hF, S_endText hF, S_more hF, S_sort hF, Option.bind_some]); exact ok.s ⟨by omega, rfl, _, hL8, rfl⟩) (fun y _ a6 i6 h => ?_)
  obtain ⟨rfl, rfl, rfl, e3⟩ := h
  dsimp only
  rw [d2 0 (by decide), b2 0 (by decide), hO0]
  refine st (C_endText (by omega) (by omega) i6 _ _) (fun y p h => by obtain ⟨rfl, rfl⟩ := h; exact ok.s ⟨by omega, rfl, _, hL8, rfl⟩) (fun y _ a7 i7 h => ?_)
  obtain ⟨rfl, rfl, rfl, e4⟩ := h
  exact ok.s ⟨rfl, _, _, _, _, _, _, _, _, _, _, _, _, _, _, _, _, _, _, _, _, _, _, _, _, _, _, _, _, _, _, _, _, rfl, hL, hte, b1, c0, d1⟩
theorem rest_at {α : Type} {f : Nat → Int32} {w z : Nat} {i : Int32} (k : Nat × Nat → Nat → Int32 → Rs α) : rb (s_rest f w z w i) k = rb (s_nonce f 163 z w i) fun no a2 i2 => rb (p_ends z a2 i2) fun _ a3 i3 => k no a3 i3 := by
  unfold s_rest
  rw [show p_ends w w i = .inr ((), w, i) from if_pos rfl, rb_inr, rb_assoc]
  congr 1
  funext no a2 i2
  rw [rb_assoc]
  rfl
theorem rest_no {α : Type} {f : Nat → Int32} {w z a : Nat} {i : Int32} (h : ¬ a = w) (k : Nat × Nat → Nat → Int32 → Rs α) : rb (s_rest f w z a i) k = .inl a := by
  unfold s_rest
  rw [show p_ends w a i = .inl a from if_neg h]
  rfl
noncomputable def s_aft (f : Nat → Int32) (n zz o u z bf : Nat) (te : Nat × Nat × Nat) (L : List SG) (a : Nat) (i : Int32) : Rs AV := rb (s_nonce f 163 z a i) fun no a2 i2 => rb (p_ends z a2 i2) fun _ a3 i3 => rb (p_sig f u a3 i3) fun sx a4 i4 => rb (s_cer f u a4 i4) fun ce a5 i5 => s_tail f n zz o u a5 i5 (te, L, no, bf, z) sx ce
theorem C_59 {f : Nat → Int32} (hB : ∀ j, isb (f j)) {n zz o u z w bf : Nat} (hn : n ≤ 1500) (hzz : zz ≤ n) (ho : o ≤ zz) (hu : u ≤ o) (hz : z ≤ u) (hw : w ≤ z) {te : Nat × Nat × Nat} (bodyEnd : Int32) (c_flags : Int32) (c_from : Int64) (c_innerEnd : Int32) (c_innerPlace : Int32) (c_issuerPlace : Int32) (c_issuerSize : Int32) (c_namePlace : Int32) (c_nameSize : Int32) (c_publicKey : Int64) (c_serial : Int32) (c_signature : Int64) (c_to : Int64) (hc : Int32) (isB : Int32) (np : Int32) (sg : Int64) (th : Int64) (tp : Int32) (ts : Int32) (hte : TeR f te isB th tp ts) : ∀ (r fu a : Nat) (i pl sz : Int32) (O : Nat → Int32) (L : List SG) (FR : Nat → Int64) (KH : Nat → Int64) (NH : Nat → Int64) (SE : Nat → Int32) (NX : Nat → Int64) (RS : Nat → Int32) (SI : Nat → Int64) (ST : Nat → Int32), r + 1 < fu → L.length + r = 8 → 1 ≤ L.length → a ≤ w → O 4 = nI z → O 3 = nI u → O 2 = nI o → O 1 = nI zz → O 0 = nI n → BC f NH KH SE ST SI RS FR NX L → ok (j_an_read_59 fu bodyEnd (nI bf) c_flags c_from c_innerEnd c_innerPlace c_issuerPlace c_issuerSize c_namePlace c_nameSize c_publicKey c_serial c_signature c_to FR hc (nI L.length) KH NH SE isB NX np 0 RS sg SI ST 0 th tp ts (nI a) f (nI 5) (nI w) (-1) i O pl sz 1500 (nI L.length)) (ro (AnC f) AnB (rb (s_sings f w r a i) fun l a6 i6 => s_aft f n zz o u z bf te (L ++ l) a6 i6)) := by
  intro r
  induction r with
  | zero =>
    intro fu a i pl sz O L FR KH NH SE NX RS SI ST hfu hL h1 ha hO4 hO3 hO2 hO1 hO0 hA
    obtain ⟨fu, rfl⟩ : ∃ g, fu = g + 1 + 1 := ⟨fu - 2, by omega⟩
    rw [j_an_read_59, if_pos (show (8 : Int32) ≤ nI L.length from nI_le (a := 8) (by omega) (by omega))]
    have := C_88 hB hn hzz ho hu hz hw ha hO4 hO3 hO2 hO1 hO0 (by omega) bodyEnd  c_flags c_from c_innerEnd c_innerPlace c_issuerPlace c_issuerSize c_namePlace c_nameSize c_publicKey c_serial c_signature c_to FR hc  KH NH SE isB NX np  RS sg SI ST  th tp ts (bf := bf) hA hte i pl sz
    unfold s_sings s_aft
    by_cases hq : a = w
    · subst hq
      rw [rest_at] at this
      rw [if_pos rfl, rb_inr, List.append_nil]
      exact this
    · rw [rest_no hq] at this
      rw [if_neg hq, rb_inl]
      exact this
  | succ r ih =>
    intro fu a i pl sz O L FR KH NH SE NX RS SI ST hfu hL h1 ha hO4 hO3 hO2 hO1 hO0 hA
    obtain ⟨fu, rfl⟩ : ∃ g, fu = g + 1 + 1 := ⟨fu - 2, by omega⟩
    rw [j_an_read_59, if_neg (show ¬ (8 : Int32) ≤ nI L.length from nI_ge (b := 8) (by omega) (by decide)), if_neg (nI_ne0 (by omega) (by omega)), C_more ha (by omega), Option.bind_some]
    unfold s_sings
    by_cases hq : a = w
    · subst hq
      have := C_88 hB hn hzz ho hu hz hw ha hO4 hO3 hO2 hO1 hO0 (by omega) bodyEnd  c_flags c_from c_innerEnd c_innerPlace c_issuerPlace c_issuerSize c_namePlace c_nameSize c_publicKey c_serial c_signature c_to FR hc  KH NH SE isB NX np  RS sg SI ST  th tp ts (bf := bf) hA hte i pl sz
      rw [rest_at] at this
      rw [if_pos rfl, if_pos rfl, if_pos rfl, rb_inr, List.append_nil]
      unfold s_aft
      exact this
    · rw [if_neg hq, if_neg (show ¬ (1 : Int32) = 0 by decide), if_neg hq, rb_assoc]
      refine st (C_single hB ha (by omega) (by decide) (by omega) i pl sz hA) (fun y p h => ?_) (fun y d a' i' h => ?_)
      · obtain ⟨x1, x2, x3, x4, x5, x6, x7, x8, x9, x10, x11, x12, F1, x14, x15, x16, x17⟩ := y
        obtain ⟨hp, hy, c', hc1, hc2⟩ := h
        dsimp only at hy hc2 ⊢
        subst hy
        have hF := fl_nI (p := p) (by omega)
        rw [bnd_eq, nI_1]
        refine ok.m (S_59 hF (k := L.length + 1) (by omega) (by omega) fu _ _ _ _ _ _ _ _ _ _ _ _ _ _ _ _ _ _ _ _ _ _ _ _ _ _ _ _ _ _ _ _ _ _ _ _ _ _ _ _ _) (fun y h => ⟨hp, h.1, c', hc1, ?_⟩)
        rw [h.2, hc2]
      · obtain ⟨⟨FR1, KH1, NH1, SE1, NX1, RS1, SI1, ST1, O1, q, r0, rfl, hA1, hO⟩, b1, b2⟩ := h
        dsimp only
        rw [bnd_eq, nI_1, rb_assoc]
        have := ih (fu + 1) a' i' q r0 O1 (L ++ [d]) FR1 KH1 NH1 SE1 NX1 RS1 SI1 ST1 (by omega) (by simp; omega) (by simp) b2 (by rw [hO 4 (by decide)]; exact hO4) (by rw [hO 3 (by decide)]; exact hO3) (by rw [hO 2 (by decide)]; exact hO2) (by rw [hO 1 (by decide)]; exact hO1) (by rw [hO 0 (by decide)]; exact hO0) hA1
        simp only [List.length_append, List.length_cons, List.length_nil, Nat.zero_add, List.append_assoc, List.cons_append, List.nil_append] at this
        exact this
theorem body_eq {α : Type} {f : Nat → Int32} {u a : Nat} {i : Int32} (k : BT → Nat → Int32 → Rs α) : rb (s_body f u a i) k = rb (s_top f u a i) fun t a4 i4 => rb (s_single f t.2.2 a4 i4) fun d a5 i5 => rb (s_sings f t.2.2 7 a5 i5) fun l a6 i6 => rb (s_nonce f 163 t.2.1 a6 i6) fun no a7 i7 => rb (p_ends t.2.1 a7 i7) fun _ a8 i8 => k (t.1, d :: l, no, a, t.2.1) a8 i8 := by
  unfold s_body s_top
  simp only [rb_assoc, rb_inr]
theorem C_answer {f : Nat → Int32} (hB : ∀ j, isb (f j)) {n a : Nat} (han : a ≤ n) (hn : n ≤ 1500) (bodyEnd : Int32) (bodyPlace : Int32) (c_flags : Int32) (c_from : Int64) (c_innerEnd : Int32) (c_innerPlace : Int32) (c_issuerPlace : Int32) (c_issuerSize : Int32) (c_namePlace : Int32) (c_nameSize : Int32) (c_publicKey : Int64) (c_serial : Int32) (c_signature : Int64) (c_to : Int64) (FR : Nat → Int64) (hc : Int32) (cnt : Int32) (KH : Nat → Int64) (NH : Nat → Int64) (SE : Nat → Int32) (isB : Int32) (NX : Nat → Int64) (np : Int32) (ns : Int32) (RS : Nat → Int32) (sg : Int64) (SI : Nat → Int64) (ST : Nat → Int32) (status : Int32) (th : Int64) (tp : Int32) (ts : Int32) (i pl sz : Int32) (O : Nat → Int32) : ok (f_an_read bodyEnd bodyPlace c_flags c_from c_innerEnd c_innerPlace c_issuerPlace c_issuerSize c_namePlace c_nameSize c_publicKey c_serial c_signature c_to FR hc cnt KH NH SE isB NX np ns RS sg SI ST status th tp ts (nI a) f (nI 0) (nI n) (-1) i O pl sz 1500) (ro (AnC f) AnB (s_answer f n a i)) := by
  unfold f_an_read s_answer
  have stick : ∀ {F b0 tp0 ts0 bp0 at' d e i0 q r st0 : Int32} {h0 : Int64} {O0 : Nat → Int32} {p : Nat}, p ≤ 1500 → F = nI p → ok (j_an_read_59 FU bodyEnd bp0 c_flags c_from c_innerEnd c_innerPlace c_issuerPlace c_issuerSize c_namePlace c_nameSize c_publicKey c_serial c_signature c_to FR 0 0 KH NH SE b0 NX np 0 RS sg SI ST st0 h0 tp0 ts0 at' f d e F i0 O0 q r 1500 0) (AnB p) := fun {F _ _ _ _ _ _ _ _ _ _ _ _ _ p} hp hFp => by
    have hF : ¬ F = -1 := by rw [hFp]; exact fl_nI (by omega)
    rw [show FU = 4998 + 1 + 1 from rfl, j_an_read_59, if_neg (by decide), if_pos rfl]
    refine ok.b (S_single (c := 0) (k := 0) (by decide) (by decide) hF _ _ _ _ _ _ _ _ _ _ _ _ _ _ _ _ _) (fun y h => ?_)
    obtain ⟨x1, x2, x3, x4, x5, x6, x7, x8, x9, x10, x11, x12, F1, x14, x15, x16, x17⟩ := y
    obtain ⟨hy, c', hc1, hc2⟩ := h
    dsimp only at hy hc2 ⊢
    subst hy
    rw [bnd_eq]
    refine ok.m (S_59 hF (k := 1) (by decide) (by decide) 4998 _ _ _ _ _ _ _ _ _ _ _ _ _ _ _ _ _ _ _ _ _ _ _ _ _ _ _ _ _ _ _ _ _ _ _ _ _ _ _ _ _) (fun y h => ⟨hp, by rw [h.1]; exact hFp, c', hc1, ?_⟩)
    rw [h.2, hc2]
  have stickR : ∀ {F at' d e i0 q r st0 : Int32} {O0 : Nat → Int32} {p : Nat}, p ≤ 1500 → F = nI p → ok ((f_an_readBodyTop bodyPlace isB th tp ts at' f d e F i0 O0 q r 1500).bind fun y_9 => j_an_read_59 FU bodyEnd y_9.1 c_flags c_from c_innerEnd c_innerPlace c_issuerPlace c_issuerSize c_namePlace c_nameSize c_publicKey c_serial c_signature c_to FR 0 0 KH NH SE y_9.2.1 NX np 0 RS sg SI ST st0 y_9.2.2.1 y_9.2.2.2.1 y_9.2.2.2.2.1 y_9.2.2.2.2.2.1 f y_9.2.2.2.2.2.2.1 y_9.2.2.2.2.2.2.2.1 y_9.2.2.2.2.2.2.2.2.1 y_9.2.2.2.2.2.2.2.2.2.1 y_9.2.2.2.2.2.2.2.2.2.2.1 y_9.2.2.2.2.2.2.2.2.2.2.2.1 y_9.2.2.2.2.2.2.2.2.2.2.2.2 1500 0) (AnB p) := fun {F _ _ _ _ _ _ _ _ p} hp hFp => by
    have hF : ¬ F = -1 := by rw [hFp]; exact fl_nI (by omega)
    refine ok.b (S_top hF _ _ _ _ _ _ _ _ _ _ _ _ _ _) (fun y hy => ?_)
    obtain ⟨x1, x2, x3, x4, x5, x6, x7, x8, F1, x10, x11, x12, x13⟩ := y
    dsimp only at hy ⊢
    subst hy
    exact stick hp hFp
  refine st (C_open (d := 0) han hn (by decide) (by decide) i pl sz) (fun y p h => ?_) (fun y z a1 i1 h => ?_)
  · obtain ⟨⟨at', q0, r0, rfl⟩, rfl⟩ := h
    have hF := fl_nI (p := p) (by omega)
    dsimp only
    rw [S_code hF, Option.bind_some, bnd_eq, if_pos rfl, S_open (k := 160) hF (by decide), Option.bind_some, S_open (k := 48) hF (by decide), Option.bind_some]
    exact stickR (by omega) rfl
  obtain ⟨⟨q, r, rfl⟩, b1, b2, b3⟩ := h
  dsimp only
  refine st (C_code b2 (by omega) _ _ _) (fun y p h => ?_) (fun y sc a2 i2 h => ?_)
  · obtain ⟨⟨x0, at', i0, q0, r0, rfl⟩, rfl⟩ := h
    have hF := fl_nI (p := p) (by omega)
    dsimp only
    rw [bnd_eq]
    by_cases hx : x0 = 0
    · rw [if_pos hx, S_open (k := 160) hF (by decide), Option.bind_some, S_open (k := 48) hF (by decide), Option.bind_some]
      exact stickR (by omega) rfl
    · rw [if_neg hx, S_close hF, Option.bind_some, S_endText hF, Option.bind_some]
      exact ok.s ⟨by omega, rfl, 0, by decide, rfl⟩
  obtain ⟨⟨q, r, rfl⟩, c1, c2, c3⟩ := h
  dsimp only
  rw [bnd_eq]
  by_cases hs : sc = 0
  · rw [if_pos (show nI sc = 0 by rw [hs]; rfl), if_pos hs, show nI sc = 0 by rw [hs]; rfl]
    unfold s_right
    refine st (C_open (d := 1) c2 (by omega) (by decide) (by decide) _ _ _) (fun y p h => ?_) (fun y o a3 i3 h => ?_)
    · obtain ⟨⟨at', q0, r0, rfl⟩, rfl⟩ := h
      have hF := fl_nI (p := p) (by omega)
      dsimp only
      rw [S_open (k := 48) hF (by decide), Option.bind_some]
      exact stickR (by omega) rfl
    obtain ⟨⟨q, r, rfl⟩, d1, d2, d3⟩ := h
    dsimp only
    refine st (C_open (d := 2) d2 (by omega) (by decide) (by decide) _ _ _) (fun y p h => ?_) (fun y u a4 i4 h => ?_)
    · obtain ⟨⟨at', q0, r0, rfl⟩, rfl⟩ := h
      dsimp only
      exact stickR (by omega) rfl
    obtain ⟨⟨q, r, rfl⟩, e1, e2, e3⟩ := h
    dsimp only
    rw [body_eq]
    refine st (C_top (d := 3) hB e2 (by omega) (by decide) _ _ _ _ _ _ _ _) (fun y p h => ?_) (fun y t a5 i5 h => ?_)
    · obtain ⟨x1, x2, x3, x4, x5, x6, x7, x8, F1, x10, x11, x12, x13⟩ := y
      obtain ⟨hp, hy⟩ := h
      dsimp only at hy ⊢
      exact stick hp hy
    obtain ⟨⟨tb, th', tp', ts', O1, q, r, rfl, t1, t2, t3, t4⟩, t5, t6, t7, t8⟩ := h
    dsimp only
    have o2 : O1 2 = nI o := by rw [t2 2 (by decide), pk_us]
    have o1 : O1 1 = nI z := by rw [t2 1 (by decide), pk_un (by decide), pk_us]
    have o0 : O1 0 = nI n := by rw [t2 0 (by decide), pk_un (by decide), pk_un (by decide), pk_us]
    rw [show FU = 4999 + 1 from rfl, j_an_read_59, if_neg (by decide), if_pos (show (0 : Int32) = 0 from rfl)]
    refine st (C_single (L := []) hB t6 (by omega) (by decide) (by decide) _ _ _ (fun j d h => by simp at h)) (fun y p h => ?_) (fun y d a' i' h => ?_)
    · obtain ⟨x1, x2, x3, x4, x5, x6, x7, x8, x9, x10, x11, x12, F1, x14, x15, x16, x17⟩ := y
      obtain ⟨hp, hy, c', hc1, hc2⟩ := h
      dsimp only at hy hc2 ⊢
      subst hy
      have hF := fl_nI (p := p) (by omega)
      rw [bnd_eq]
      refine ok.m (S_59 hF (k := 1) (by decide) (by decide) 4998 _ _ _ _ _ _ _ _ _ _ _ _ _ _ _ _ _ _ _ _ _ _ _ _ _ _ _ _ _ _ _ _ _ _ _ _ _ _ _ _ _) (fun y h => ⟨hp, h.1, c', hc1, ?_⟩)
      rw [h.2, hc2]
    · obtain ⟨⟨FR1, KH1, NH1, SE1, NX1, RS1, SI1, ST1, O2, q, r0, rfl, hA1, hO⟩, k1, k2⟩ := h
      dsimp only
      rw [bnd_eq]
      exact C_59 hB hn b3 d3 e3 t8 t7 _ _ _ _ _ _ _ _ _ _ _ _ _ _ _ _ _ _ _ _ t1 7 4999 a' i' q r0 O2 [d] FR1 KH1 NH1 SE1 NX1 RS1 SI1 ST1 (by decide) rfl (Nat.le_refl 1) k2 (by rw [hO 4 (by decide)]; exact t4) (by rw [hO 3 (by decide)]; exact t3) (by rw [hO 2 (by decide)]; exact o2) (by rw [hO 1 (by decide)]; exact o1) (by rw [hO 0 (by decide)]; exact o0) hA1
  · rw [if_neg (show ¬ nI sc = 0 from nI_ne0 (by omega) (by omega)), if_neg hs]
    refine st (C_close (d := 0) c2 (by omega) (by decide) i2 _ _) (fun y p h => by obtain ⟨rfl, rfl⟩ := h; have hF := fl_nI (p := p) (by omega); (try dsimp only); (try simp only [bnd_eq, S_open (k := 48) hF (by decide), S_open (k := 160) hF (by decide), S_open (k := 161) hF (by decide), S_open (k := 162) hF (by decide), S_open (k := 163) hF (by decide), S_ent (k := 128) hF (by decide), S_ent (k := 130) hF (by decide), S_bytes hF, S_hash hF, S_int hF, S_code hF, S_sig hF, S_time hF, S_close hF, S_endText hF, S_more hF, S_sort hF, Option.bind_some]); exact ok.s ⟨by omega, rfl, 0, by decide, rfl⟩) (fun y _ a3 i3 h => ?_)
    obtain ⟨rfl, rfl, rfl, e3⟩ := h
    dsimp only
    rw [pk_us]
    refine st (C_endText (by omega) (by omega) i3 _ _) (fun y p h => by obtain ⟨rfl, rfl⟩ := h; exact ok.s ⟨by omega, rfl, 0, by decide, rfl⟩) (fun y _ a4 i4 h => ?_)
    obtain ⟨rfl, rfl, rfl, e4⟩ := h
    exact ok.s ⟨rfl, rfl, rfl, hs, rfl⟩
