/-! PURE 45: to look -/
abbrev LkY := Int32 × Int32 × Int32 × Int64 × Int32 × Int32 × Int32 × Int32 × Int32 × Int32 × Int32 × Int64 × Int32 × Int32 × Int32 × Int32 × Int32 × Int32 × Int32 × Int32 × Int64 × Int64 × Int64 × Int64 × Int32 × Int32 × ((Nat → Int32)) × ((Nat → Int32)) × ((Nat → Int64)) × Int32 × Int32 × Int32 × Int32 × Int32 × Int32 × Int32 × Int32 × Int32 × Int32 × ((Nat → Int32)) × ((Nat → Int64)) × ((Nat → Int32)) × ((Nat → Int64)) × ((Nat → Int64)) × Int32 × ((Nat → Int64)) × Int32 × Int32 × Int32 × Int32
abbrev LkZ := Int32 × Int32 × Int32 × Int32 × Int64 × Int32 × Int32 × Int32 × Int32 × Int32 × Int32 × Int64 × Int32 × Int64 × Int64 × (Nat → Int64) × Int32 × Int32 × (Nat → Int64) × (Nat → Int64) × (Nat → Int32) × Int32 × (Nat → Int64) × Int32 × Int32 × (Nat → Int32) × Int64 × (Nat → Int64) × (Nat → Int32) × Int32 × Int64 × Int32 × Int32 × Int32 × Int32 × Int64 × Int64 × Int32 × Int32 × Int64 × Int32 × Int32 × Int32 × Int32 × Int32 × Int32 × Int32 × Int32 × (Nat → Int32) × Int32 × Int32 × Int32 × Bool
def LkR (fd : Nat → Int64) (hf mh fo fs : Int32) (k s r lk vd : Int32) (o : Option FN) (y : LkY) : Prop := (y.1 = r ∧ y.2.1 = 0 ∧ y.2.2.1 = lk ∧ y.2.2.2.2.2.2.2.2.2.2.2.2.2.2.2.2.2.2.2.2.2.2.2.2.2.2.2.2.2.2.2.2.2.2.2.2.2.2.2.2.2.2.2.2.1 = vd) ∧ match o with
  | none => y.2.2.2.2.2.2.2.2.2.2.2.2.2.2.2.2.2.2.2.2.2.2.2.2.2.2.2.2.2.2.2.2.2.2.2.2.2.2.2.2.2.2.2.2.2.1 = fd ∧ y.2.2.2.2.2.2.2.2.2.2.2.2.2.2.2.2.2.2.2.2.2.2.2.2.2.2.2.2.2.2.2.2.2.2.2.2.2.2.2.2.2.2.2.2.2.2.1 = hf ∧ y.2.2.2.2.2.2.2.2.2.2.2.2.2.2.2.2.2.2.2.2.2.2.2.2.2.2.2.2.2.2.2.2.2.2.2.2.2.2.2.2.2.2.2.2.2.2.2.1 = mh ∧ y.2.2.2.2.2.2.2.2.2.2.2.2.2.2.2.2.2.2.2.2.2.2.2.2.2.2.2.2.2.2.2.2.2.2.2.2.2.2.2.2.2.2.2.2.2.2.2.2.1 = fo ∧ y.2.2.2.2.2.2.2.2.2.2.2.2.2.2.2.2.2.2.2.2.2.2.2.2.2.2.2.2.2.2.2.2.2.2.2.2.2.2.2.2.2.2.2.2.2.2.2.2.2 = fs
  | some n => (y.2.2.2.2.2.2.2.2.2.2.2.2.2.2.2.2.2.2.2.2.2.2.2.2.2.2.2.2.2.2.2.2.2.2.2.2.2.2.2.2.2.2.2.2.2.1) 0 = n.1.toInt64 ∧ (y.2.2.2.2.2.2.2.2.2.2.2.2.2.2.2.2.2.2.2.2.2.2.2.2.2.2.2.2.2.2.2.2.2.2.2.2.2.2.2.2.2.2.2.2.2.1) 1 = n.2.1 ∧ (y.2.2.2.2.2.2.2.2.2.2.2.2.2.2.2.2.2.2.2.2.2.2.2.2.2.2.2.2.2.2.2.2.2.2.2.2.2.2.2.2.2.2.2.2.2.1) 2 = n.2.2.1.toInt64 ∧ (y.2.2.2.2.2.2.2.2.2.2.2.2.2.2.2.2.2.2.2.2.2.2.2.2.2.2.2.2.2.2.2.2.2.2.2.2.2.2.2.2.2.2.2.2.2.1) 3 = n.2.2.2.1 ∧ (y.2.2.2.2.2.2.2.2.2.2.2.2.2.2.2.2.2.2.2.2.2.2.2.2.2.2.2.2.2.2.2.2.2.2.2.2.2.2.2.2.2.2.2.2.2.1) 4 = n.2.2.2.2 ∧ y.2.2.2.2.2.2.2.2.2.2.2.2.2.2.2.2.2.2.2.2.2.2.2.2.2.2.2.2.2.2.2.2.2.2.2.2.2.2.2.2.2.2.2.2.2.2.1 = 1 ∧ y.2.2.2.2.2.2.2.2.2.2.2.2.2.2.2.2.2.2.2.2.2.2.2.2.2.2.2.2.2.2.2.2.2.2.2.2.2.2.2.2.2.2.2.2.2.2.2.1 = 1 ∧ y.2.2.2.2.2.2.2.2.2.2.2.2.2.2.2.2.2.2.2.2.2.2.2.2.2.2.2.2.2.2.2.2.2.2.2.2.2.2.2.2.2.2.2.2.2.2.2.2.1 = k ∧ y.2.2.2.2.2.2.2.2.2.2.2.2.2.2.2.2.2.2.2.2.2.2.2.2.2.2.2.2.2.2.2.2.2.2.2.2.2.2.2.2.2.2.2.2.2.2.2.2.2 = s
def LkT (r lk vd fh l1 : Int32) (l2 l3 : Int64) (l4 l5 : Int32) (l6 : Int64) (l7 : Int32) (z : LkZ) : Prop := ∃ (bodyEnd' : Int32) (bodyPlace' : Int32) (c_flags' : Int32) (c_from' : Int64) (c_innerEnd' : Int32) (c_innerPlace' : Int32) (c_issuerPlace' : Int32) (c_issuerSize' : Int32) (c_namePlace' : Int32) (c_nameSize' : Int32) (c_publicKey' : Int64) (c_serial' : Int32) (c_signature' : Int64) (c_to' : Int64) (FR' : Nat → Int64) (hc' : Int32) (cnt' : Int32) (KH' : Nat → Int64) (NH' : Nat → Int64) (SE' : Nat → Int32) (isB' : Int32) (NX' : Nat → Int64) (np' : Int32) (nz' : Int32) (RS' : Nat → Int32) (sg' : Int64) (SI' : Nat → Int64) (ST' : Nat → Int32) (status' : Int32) (th' : Int64) (tp' : Int32) (ts' : Int32) (u1' : Int32) (u2' : Int32) (u3' : Int32) (u4' : Int32) (u5' : Int32) (O' : Nat → Int32) (u6' : Int32) (u7' : Int32) (b : Bool), z = (r, bodyEnd', bodyPlace', c_flags', c_from', c_innerEnd', c_innerPlace', c_issuerPlace', c_issuerSize', c_namePlace', c_nameSize', c_publicKey', c_serial', c_signature', c_to', FR', hc', cnt', KH', NH', SE', isB', NX', np', nz', RS', sg', SI', ST', status', th', tp', ts', fh, l1, l2, l3, l4, l5, l6, l7, vd, lk, u1', u2', u3', u4', u5', O', u6', u7', 0, b)
def LkC (fth la : Int32) (lf ln : Int64) (lr ls : Int32) (lsi : Int64) (lst : Int32) (k s r lk vd : Int32) (o : Option FN) (z : LkZ) : Prop := match o with
  | none => LkT r lk vd fth la lf ln lr ls lsi lst z
  | some n => LkT r lk vd 1 k n.2.2.2.1 n.2.2.2.2 n.2.2.1 s n.2.1 n.1 z
theorem sp_eq (p : Int32) : (f_de_isSpan p = some 0 ∧ f_within p.toInt64 0 1000000000 = some 0) ∨ (f_de_isSpan p = some 1 ∧ f_within p.toInt64 0 1000000000 = some 1) := by
  unfold f_de_isSpan
  by_cases h : p < 0
  · rw [if_pos h]
    refine Or.inl ⟨rfl, p_out (fun q => ?_)⟩
    have h1 := Int32.lt_iff_toInt_lt.mp h
    have h2 := Int64.le_iff_toInt_le.mp q.1
    rw [Int32.toInt_toInt64] at h2
    rw [show (0 : Int32).toInt = 0 from rfl] at h1
    rw [show (0 : Int64).toInt = 0 from rfl] at h2
    omega
  · rw [if_neg h]
    obtain ⟨P, hP, rfl⟩ := nI_of h
    by_cases h2 : (1000000000 : Int32) < nI P
    · rw [if_pos h2]
      refine Or.inl ⟨rfl, p_out (fun q => ?_)⟩
      rw [nI_l hP] at q
      have := (lB_le (b := 1000000000) (by omega) (by decide)).mp q.2
      have := (nI_ltI (a := 1000000000) (by decide) hP).mp h2
      omega
    · rw [if_neg h2]
      refine Or.inr ⟨rfl, p_in ?_⟩
      rw [nI_l hP]
      have h3 : P ≤ 1000000000 := Nat.not_lt.mp (fun q => h2 (nI_lt (a := 1000000000) q hP))
      exact ⟨(lB_le (a := 0) (by decide) (by omega)).mpr (by omega), (lB_le (b := 1000000000) (by omega) (by decide)).mpr h3⟩
section RH
set_option linter.unusedVariables false
variable {r_tape r_names r_nameSizes r_issued r_serials r_nonce r_idNames r_idKeys r_states r_whys : (Nat → Int32)} {x_taped x_nonceSize x_at x_items x_fault x_start x_sort x_from x_to x_signatureAt x_innerFrom x_innerTo x_certSignature x_issuerFrom x_issuerTo x_holderFrom x_holderTo x_certFlags x_ids x_nonceFrom x_nonceTo x_status x_tellerSort x_tellerFrom x_tellerTo x_bodyFrom x_bodyTo x_bodySignature x_hasCert x_hasFind x_mayHold x_findOf x_findSerial : Int32} {r_keys r_since r_idSerials r_whens r_fresh r_laters r_find : (Nat → Int64)} {x_hashed x_number x_certSerial x_certFrom x_certTo x_certKey : Int64}
variable {x_authorities x_looks x_verdict : Int32}
variable {x_at0 x_items0 x_fault0 x_start0 x_sort0 x_from0 x_to0 x_signatureAt0 x_innerFrom0 x_innerTo0 x_certSignature0 x_issuerFrom0 x_issuerTo0 x_holderFrom0 x_holderTo0 x_certFlags0 x_ids0 x_nonceFrom0 x_nonceTo0 x_status0 x_tellerSort0 x_tellerFrom0 x_tellerTo0 x_bodyFrom0 x_bodyTo0 x_bodySignature0 x_hasCert0 : Int32} {x_number0 x_certSerial0 x_certFrom0 x_certTo0 x_certKey0 : Int64} {r_idNames0 r_idKeys0 r_states0 r_whys0 : (Nat → Int32)} {r_idSerials0 r_whens0 r_fresh0 r_laters0 : (Nat → Int64)}
variable {miss nl pk bodyEnd bodyPlace c_flags c_innerEnd c_innerPlace c_issuerPlace c_issuerSize c_namePlace c_nameSize c_serial hc cnt isB np nz status tp ts fth la lr ls lst cv lks nl0 u1 u2 u3 u4 u5 u6 u7 : Int32} {kh nh c_from c_publicKey c_signature c_to sg th lf ln lsi : Int64} {nd S SE RS ST nd0 O : Nat → Int32} {T FR KH NH NX SI : Nat → Int64}
variable {k V t n c : Nat} {v5 v6 : Int32}
theorem tkS {g w : Nat} (hg : g < w) (hw : w ≤ 8) : f_fi_takeSingle lf ln lr lsi lst FR (nI w) NX RS SI ST (nI g) v6 = some (FR g, (if NX g = -1 then FR g + v6.toInt64 else NX g), RS g, SI g, ST g) := by
  have c8 : ¬ (nI g < 0 ∨ 8 ≤ (nI g).toNatClampNeg) := inN (by omega) (by omega)
  unfold f_fi_takeSingle
  rw [if_neg (nI_pos (by omega)), if_pos (nI_lt hg (by omega)), chk_t c8, bnd_eq, chk_t c8, bnd_eq, chk_t c8, bnd_eq, chk_t c8, bnd_eq, chk_t c8, nI_clamp (by omega)]
  by_cases h : NX g = -1
  · rw [if_pos h, if_pos h, bnd_eq]
  · rw [if_neg h, if_neg h, bnd_eq]
/-- not to be looked at -/
theorem lk_no (hc4 : c ≤ 4) (p p1 : Int32) (p2 : Int64) (h : ¬ ((0 ≤ p ∧ p < nI c) ∧ ¬ p1 < 0 ∧ f_within p2 0 3155759999 = some 1 ∧ f_within v5.toInt64 0 1000000000 = some 1 ∧ f_within v6.toInt64 0 1000000000 = some 1)) : ok (f_look r_tape (nI n) (nI c) r_names r_nameSizes r_keys r_issued r_serials r_since r_nonce x_nonceSize x_looks x_hashed x_at0 x_items0 x_fault0 x_start0 x_sort0 x_from0 x_to0 x_number0 x_signatureAt0 x_innerFrom0 x_innerTo0 x_certSignature0 x_issuerFrom0 x_issuerTo0 x_holderFrom0 x_holderTo0 x_certSerial0 x_certFrom0 x_certTo0 x_certKey0 x_certFlags0 x_ids0 r_idNames0 r_idKeys0 r_idSerials0 x_nonceFrom0 x_nonceTo0 x_status0 x_tellerSort0 x_tellerFrom0 x_tellerTo0 x_bodyFrom0 x_bodyTo0 x_bodySignature0 x_hasCert0 r_states0 r_whens0 r_whys0 r_fresh0 r_laters0 x_verdict r_find x_hasFind x_mayHold x_findOf x_findSerial p p1 p2 v5 v6) (LkR r_find x_hasFind x_mayHold x_findOf x_findSerial p p1 (-2) x_looks x_verdict none) ∧ ok (f_de_look miss kh nd nl nh pk S T bodyEnd bodyPlace c_flags c_from c_innerEnd c_innerPlace c_issuerPlace c_issuerSize c_namePlace c_nameSize c_publicKey c_serial c_signature c_to FR hc cnt KH NH SE isB NX np nz RS sg SI ST status th tp ts (nI c) fth la lf ln lr ls lsi lst cv lks nd0 nl0 u1 u2 u3 u4 u5 O u6 u7 r_tape (nI n) p p1 p2 v5 v6) (LkC fth la lf ln lr ls lsi lst p p1 (-2) lks cv none) := by
  unfold f_look f_de_look f_by_clear
  rw [w_isAuth hc4, Option.bind_some]
  by_cases h1 : 0 ≤ p ∧ p < nI c
  · obtain ⟨P, hP, rfl⟩ := nI_of (Int32.not_lt.mpr h1.1)
    have hPc : P < c := (nI_ltI hP (by omega)).mp h1.2
    rw [if_pos h1, if_pos h1, if_neg i10, chk_t (inN (by omega) (by omega)), fits_w]
    by_cases h2 : p1 < 0
    · rw [if_pos h2, if_pos h2, Option.bind_some]
      exact ⟨ok.s ⟨⟨rfl, rfl, rfl, rfl⟩, rfl, rfl, rfl, rfl, rfl⟩, ok.s ⟨_, _, _, _, _, _, _, _, _, _, _, _, _, _, _, _, _, _, _, _, _, _, _, _, _, _, _, _, _, _, _, _, _, _, _, _, _, _, _, _, _, rfl⟩⟩
    · rw [if_neg h2, if_neg h2]
      by_cases h3 : (0 : Int64) ≤ p2 ∧ p2 ≤ 3155759999
      · rw [p_in h3, Option.bind_some, Option.bind_some, if_neg i10, if_neg i10]
        rcases sp_eq v5 with ⟨e1, e2⟩ | ⟨e1, e2⟩
        · rw [e1, e2, Option.bind_some, Option.bind_some, if_pos rfl, if_pos rfl, Option.bind_some]
          exact ⟨ok.s ⟨⟨rfl, rfl, rfl, rfl⟩, rfl, rfl, rfl, rfl, rfl⟩, ok.s ⟨_, _, _, _, _, _, _, _, _, _, _, _, _, _, _, _, _, _, _, _, _, _, _, _, _, _, _, _, _, _, _, _, _, _, _, _, _, _, _, _, _, rfl⟩⟩
        · rw [e1, e2, Option.bind_some, Option.bind_some, if_neg i10, if_neg i10]
          rcases sp_eq v6 with ⟨e3, e4⟩ | ⟨e3, e4⟩
          · rw [e3, e4, Option.bind_some, Option.bind_some, if_pos rfl, if_pos rfl, Option.bind_some]
            exact ⟨ok.s ⟨⟨rfl, rfl, rfl, rfl⟩, rfl, rfl, rfl, rfl, rfl⟩, ok.s ⟨_, _, _, _, _, _, _, _, _, _, _, _, _, _, _, _, _, _, _, _, _, _, _, _, _, _, _, _, _, _, _, _, _, _, _, _, _, _, _, _, _, rfl⟩⟩
          · exact absurd ⟨h1, h2, p_in h3, e2, e4⟩ h
      · rw [p_out h3, Option.bind_some, Option.bind_some, if_pos rfl, if_pos rfl, Option.bind_some]
        exact ⟨ok.s ⟨⟨rfl, rfl, rfl, rfl⟩, rfl, rfl, rfl, rfl, rfl⟩, ok.s ⟨_, _, _, _, _, _, _, _, _, _, _, _, _, _, _, _, _, _, _, _, _, _, _, _, _, _, _, _, _, _, _, _, _, _, _, _, _, _, _, _, _, rfl⟩⟩
  · rw [if_neg h1, if_neg h1, if_pos rfl, Option.bind_some]
    exact ⟨ok.s ⟨⟨rfl, rfl, rfl, rfl⟩, rfl, rfl, rfl, rfl, rfl⟩, ok.s ⟨_, _, _, _, _, _, _, _, _, _, _, _, _, _, _, _, _, _, _, _, _, _, _, _, _, _, _, _, _, _, _, _, _, _, _, _, _, _, _, _, _, rfl⟩⟩
theorem lk_y (hf : TP r_tape) (hn : n ≤ 1500) (hc4 : c ≤ 4) (hk : k < c) {m : Nat} {R rR : Nat → Int32} (hT : TB k m S T R r_serials r_since rR) (hr : r_issued k = nI m) (hms : miss = nI m) {An : List Int32} (hA : GG r_names (16 * k) An) (hA16 : An.length ≤ 16) (hnd : WW nd nl An) (hns : r_nameSizes k = nI An.length) (hnh : nh = hl An) {K : Nat} (hK : K < PP) (hpk : pk = nI K) (hky : r_keys k = lN K) (hkh : kh = hE (hL h0 (lN K))) {B : List Int32} (hB1 : WW r_nonce x_nonceSize B) (hB2 : WW nd0 nl0 B) (hB8 : B.length ≤ 8) (hV : V < 2 ^ 31) (ht : t < 3155760000) (s5 : f_de_isSpan v5 = some 1 ∧ f_within v5.toInt64 0 1000000000 = some 1) (s6 : f_de_isSpan v6 = some 1 ∧ f_within v6.toInt64 0 1000000000 = some 1) : ∃ v o, 1 ≤ v ∧ ok (f_look r_tape (nI n) (nI c) r_names r_nameSizes r_keys r_issued r_serials r_since r_nonce x_nonceSize x_looks x_hashed x_at0 x_items0 x_fault0 x_start0 x_sort0 x_from0 x_to0 x_number0 x_signatureAt0 x_innerFrom0 x_innerTo0 x_certSignature0 x_issuerFrom0 x_issuerTo0 x_holderFrom0 x_holderTo0 x_certSerial0 x_certFrom0 x_certTo0 x_certKey0 x_certFlags0 x_ids0 r_idNames0 r_idKeys0 r_idSerials0 x_nonceFrom0 x_nonceTo0 x_status0 x_tellerSort0 x_tellerFrom0 x_tellerTo0 x_bodyFrom0 x_bodyTo0 x_bodySignature0 x_hasCert0 r_states0 r_whens0 r_whys0 r_fresh0 r_laters0 x_verdict r_find x_hasFind x_mayHold x_findOf x_findSerial (nI k) (nI V) (lN t) v5 v6) (LkR r_find x_hasFind x_mayHold x_findOf x_findSerial (nI k) (nI V) v (x_looks + 1) v o) ∧ ok (f_de_look miss kh nd nl nh pk S T bodyEnd bodyPlace c_flags c_from c_innerEnd c_innerPlace c_issuerPlace c_issuerSize c_namePlace c_nameSize c_publicKey c_serial c_signature c_to FR hc cnt KH NH SE isB NX np nz RS sg SI ST status th tp ts (nI c) fth la lf ln lr ls lsi lst cv lks nd0 nl0 u1 u2 u3 u4 u5 O u6 u7 r_tape (nI n) (nI k) (nI V) (lN t) v5 v6) (LkC fth la lf ln lr ls lsi lst (nI k) (nI V) v (lks + 1) v o) := by
  have z1 : f_within (lN t) 0 3155759999 = some 1 := p_in ⟨(lB_le (a := 0) (by decide) (by omega)).mpr (by omega), (lB_le (b := 3155759999) (by omega) (by decide)).mpr (by omega)⟩
  have k4' : k < 4 := by omega
  -- what the reference makes of a verdict
  have href : ∀ v o, ok (f_verdictOf r_tape (nI n) r_names r_nameSizes r_keys r_issued r_serials r_since r_nonce x_nonceSize x_hashed x_at0 x_items0 x_fault0 x_start0 x_sort0 x_from0 x_to0 x_number0 x_signatureAt0 x_innerFrom0 x_innerTo0 x_certSignature0 x_issuerFrom0 x_issuerTo0 x_holderFrom0 x_holderTo0 x_certSerial0 x_certFrom0 x_certTo0 x_certKey0 x_certFlags0 x_ids0 r_idNames0 r_idKeys0 r_idSerials0 x_nonceFrom0 x_nonceTo0 x_status0 x_tellerSort0 x_tellerFrom0 x_tellerTo0 x_bodyFrom0 x_bodyTo0 x_bodySignature0 x_hasCert0 r_states0 r_whens0 r_whys0 r_fresh0 r_laters0 r_find x_hasFind x_mayHold x_findOf x_findSerial (nI k) (nI V) (lN t) v5 v6) (RvG r_find x_hasFind x_mayHold x_findOf x_findSerial (nI k) (nI V) v o) → ok (f_look r_tape (nI n) (nI c) r_names r_nameSizes r_keys r_issued r_serials r_since r_nonce x_nonceSize x_looks x_hashed x_at0 x_items0 x_fault0 x_start0 x_sort0 x_from0 x_to0 x_number0 x_signatureAt0 x_innerFrom0 x_innerTo0 x_certSignature0 x_issuerFrom0 x_issuerTo0 x_holderFrom0 x_holderTo0 x_certSerial0 x_certFrom0 x_certTo0 x_certKey0 x_certFlags0 x_ids0 r_idNames0 r_idKeys0 r_idSerials0 x_nonceFrom0 x_nonceTo0 x_status0 x_tellerSort0 x_tellerFrom0 x_tellerTo0 x_bodyFrom0 x_bodyTo0 x_bodySignature0 x_hasCert0 r_states0 r_whens0 r_whys0 r_fresh0 r_laters0 x_verdict r_find x_hasFind x_mayHold x_findOf x_findSerial (nI k) (nI V) (lN t) v5 v6) (LkR r_find x_hasFind x_mayHold x_findOf x_findSerial (nI k) (nI V) v (x_looks + 1) v o) := fun v o h => by
    unfold f_look
    rw [isA_y hc4 hk, Option.bind_some, if_neg i10, if_neg (nI_pos hV), z1, Option.bind_some, if_neg i10, s5.2, Option.bind_some, if_neg i10, s6.2, Option.bind_some, if_neg i10]
    refine ok.b h (fun y10 g10 => ?_)
    rw [bnd_eq, bnd_eq]
    refine ok.s ⟨⟨g10.1, rfl, rfl, g10.1⟩, ?_⟩
    cases o with
    | none => exact g10.2
    | some n => exact g10.2
  -- what the class makes of a verdict
  have hca := C_answer (f := r_tape) hf (n := n) (a := 0) (Nat.zero_le _) hn bodyEnd bodyPlace c_flags c_from c_innerEnd c_innerPlace c_issuerPlace c_issuerSize c_namePlace c_nameSize c_publicKey c_serial c_signature c_to FR hc cnt KH NH SE isB NX np nz RS sg SI ST status th tp ts 0 0 0 O
  rw [show nI 0 = 0 from rfl] at hca
  have hra := R_answer (f := r_tape) hf (n := n) (a := 0) (Nat.zero_le _) hn 0 (-1) x_start0 x_sort0 x_from0 x_to0 x_number0 x_signatureAt0 x_innerFrom0 x_innerTo0 x_certSignature0 x_issuerFrom0 x_issuerTo0 x_holderFrom0 x_holderTo0 x_certSerial0 x_certFrom0 x_certTo0 x_certKey0 x_certFlags0 x_ids0 r_idNames0 r_idKeys0 r_idSerials0 x_nonceFrom0 x_nonceTo0 x_status0 x_tellerSort0 x_tellerFrom0 x_tellerTo0 x_bodyFrom0 x_bodyTo0 x_bodySignature0 x_hasCert0 r_states0 r_whens0 r_whys0 r_fresh0 r_laters0
  rw [show nI 0 = 0 from rfl] at hra
  obtain ⟨y15, a1, a2⟩ := hca
  obtain ⟨yr, b1, b2⟩ := hra
  have hcls : ∀ (v : Int32) (o : Option FN) (pc vt : Int32), f_id_placeOf (y15.2.2.2.2.2.2.2.2.2.2.2.2.2.2.2.2.1) (y15.2.2.2.2.2.2.2.2.2.2.2.2.2.2.2.2.2.1) (y15.2.2.2.2.2.2.2.2.2.2.2.2.2.2.2.2.2.2.1) (y15.2.2.2.2.2.2.2.2.2.2.2.2.2.2.2.2.2.2.2.1) nh kh (nI V) = some pc → f_de_verdictOnText (y15.1) (y15.2.1) (y15.2.2.1) (y15.2.2.2.1) (y15.2.2.2.2.1) (y15.2.2.2.2.2.1) (y15.2.2.2.2.2.2.1) (y15.2.2.2.2.2.2.2.1) (y15.2.2.2.2.2.2.2.2.1) (y15.2.2.2.2.2.2.2.2.2.1) (y15.2.2.2.2.2.2.2.2.2.2.1) (y15.2.2.2.2.2.2.2.2.2.2.2.1) (y15.2.2.2.2.2.2.2.2.2.2.2.2.1) (y15.2.2.2.2.2.2.2.2.2.2.2.2.2.1) (y15.2.2.2.2.2.2.2.2.2.2.2.2.2.2.2.1) (y15.2.2.2.2.2.2.2.2.2.2.2.2.2.2.2.2.2.2.2.2.1) (y15.2.2.2.2.2.2.2.2.2.2.2.2.2.2.2.2.2.2.2.2.2.2.1) (y15.2.2.2.2.2.2.2.2.2.2.2.2.2.2.2.2.2.2.2.2.2.2.2.1) (y15.2.2.2.2.2.2.2.2.2.2.2.2.2.2.2.2.2.2.2.2.2.2.2.2.2.1) (y15.2.2.2.2.2.2.2.2.2.2.2.2.2.2.2.2.2.2.2.2.2.2.2.2.2.2.2.2.1) (y15.2.2.2.2.2.2.2.2.2.2.2.2.2.2.2.2.2.2.2.2.2.2.2.2.2.2.2.2.2.1) (y15.2.2.2.2.2.2.2.2.2.2.2.2.2.2.2.2.2.2.2.2.2.2.2.2.2.2.2.2.2.2.1) (y15.2.2.2.2.2.2.2.2.2.2.2.2.2.2.2.2.2.2.2.2.2.2.2.2.2.2.2.2.2.2.2.1) nd0 nl0 (y15.2.2.2.2.2.2.2.2.2.2.2.2.2.2.2.2.2.2.2.2.2.2.2.2.2.2.2.2.2.2.2.2.2.2.2.1) r_tape (nI n) miss kh nd nl pk S T (lN t) = some vt → (vt = 0 → f_an_verdictOnSingle (y15.2.2.2.2.2.2.2.2.2.2.2.2.2.2.1) (y15.2.2.2.2.2.2.2.2.2.2.2.2.2.2.2.2.1) (y15.2.2.2.2.2.2.2.2.2.2.2.2.2.2.2.2.2.2.2.2.2.1) (y15.2.2.2.2.2.2.2.2.2.2.2.2.2.2.2.2.2.2.2.2.2.2.2.2.2.2.2.1) pc (lN t) v5 v6 = some v) → (vt ≠ 0 → v = vt) → ((3 < v ∧ o = none) ∨ (¬ 3 < v ∧ ∃ g w, g < w ∧ w ≤ 8 ∧ pc = nI g ∧ y15.2.2.2.2.2.2.2.2.2.2.2.2.2.2.2.2.1 = nI w ∧ o = some (fnd v ((y15.2.2.2.2.2.2.2.2.2.2.2.2.2.2.2.2.2.2.2.2.2.2.2.2.2.2.1) g) ((y15.2.2.2.2.2.2.2.2.2.2.2.2.2.2.2.2.2.2.2.2.2.2.2.2.1) g) ((y15.2.2.2.2.2.2.2.2.2.2.2.2.2.2.1) g) ((y15.2.2.2.2.2.2.2.2.2.2.2.2.2.2.2.2.2.2.2.2.2.1) g) v6) ∧ v = (y15.2.2.2.2.2.2.2.2.2.2.2.2.2.2.2.2.2.2.2.2.2.2.2.2.2.2.2.1) g)) → ok (f_de_look miss kh nd nl nh pk S T bodyEnd bodyPlace c_flags c_from c_innerEnd c_innerPlace c_issuerPlace c_issuerSize c_namePlace c_nameSize c_publicKey c_serial c_signature c_to FR hc cnt KH NH SE isB NX np nz RS sg SI ST status th tp ts (nI c) fth la lf ln lr ls lsi lst cv lks nd0 nl0 u1 u2 u3 u4 u5 O u6 u7 r_tape (nI n) (nI k) (nI V) (lN t) v5 v6) (LkC fth la lf ln lr ls lsi lst (nI k) (nI V) v (lks + 1) v o) := fun v o pc vt h1 h2 h3 h4 h5 => by
    have tail : ok (j_de_look_118 miss kh nd nl nh pk S T (y15.1) (y15.2.1) (y15.2.2.1) (y15.2.2.2.1) (y15.2.2.2.2.1) (y15.2.2.2.2.2.1) (y15.2.2.2.2.2.2.1) (y15.2.2.2.2.2.2.2.1) (y15.2.2.2.2.2.2.2.2.1) (y15.2.2.2.2.2.2.2.2.2.1) (y15.2.2.2.2.2.2.2.2.2.2.1) (y15.2.2.2.2.2.2.2.2.2.2.2.1) (y15.2.2.2.2.2.2.2.2.2.2.2.2.1) (y15.2.2.2.2.2.2.2.2.2.2.2.2.2.1) (y15.2.2.2.2.2.2.2.2.2.2.2.2.2.2.1) (y15.2.2.2.2.2.2.2.2.2.2.2.2.2.2.2.1) (y15.2.2.2.2.2.2.2.2.2.2.2.2.2.2.2.2.1) (y15.2.2.2.2.2.2.2.2.2.2.2.2.2.2.2.2.2.1) (y15.2.2.2.2.2.2.2.2.2.2.2.2.2.2.2.2.2.2.1) (y15.2.2.2.2.2.2.2.2.2.2.2.2.2.2.2.2.2.2.2.1) (y15.2.2.2.2.2.2.2.2.2.2.2.2.2.2.2.2.2.2.2.2.1) (y15.2.2.2.2.2.2.2.2.2.2.2.2.2.2.2.2.2.2.2.2.2.1) (y15.2.2.2.2.2.2.2.2.2.2.2.2.2.2.2.2.2.2.2.2.2.2.1) (y15.2.2.2.2.2.2.2.2.2.2.2.2.2.2.2.2.2.2.2.2.2.2.2.1) (y15.2.2.2.2.2.2.2.2.2.2.2.2.2.2.2.2.2.2.2.2.2.2.2.2.1) (y15.2.2.2.2.2.2.2.2.2.2.2.2.2.2.2.2.2.2.2.2.2.2.2.2.2.1) (y15.2.2.2.2.2.2.2.2.2.2.2.2.2.2.2.2.2.2.2.2.2.2.2.2.2.2.1) (y15.2.2.2.2.2.2.2.2.2.2.2.2.2.2.2.2.2.2.2.2.2.2.2.2.2.2.2.1) (y15.2.2.2.2.2.2.2.2.2.2.2.2.2.2.2.2.2.2.2.2.2.2.2.2.2.2.2.2.1) (y15.2.2.2.2.2.2.2.2.2.2.2.2.2.2.2.2.2.2.2.2.2.2.2.2.2.2.2.2.2.1) (y15.2.2.2.2.2.2.2.2.2.2.2.2.2.2.2.2.2.2.2.2.2.2.2.2.2.2.2.2.2.2.1) (y15.2.2.2.2.2.2.2.2.2.2.2.2.2.2.2.2.2.2.2.2.2.2.2.2.2.2.2.2.2.2.2.1) (nI c) fth la lf ln lr ls lsi lst cv lks nd0 nl0 (y15.2.2.2.2.2.2.2.2.2.2.2.2.2.2.2.2.2.2.2.2.2.2.2.2.2.2.2.2.2.2.2.2.1) (y15.2.2.2.2.2.2.2.2.2.2.2.2.2.2.2.2.2.2.2.2.2.2.2.2.2.2.2.2.2.2.2.2.2.1) (y15.2.2.2.2.2.2.2.2.2.2.2.2.2.2.2.2.2.2.2.2.2.2.2.2.2.2.2.2.2.2.2.2.2.2.1) (y15.2.2.2.2.2.2.2.2.2.2.2.2.2.2.2.2.2.2.2.2.2.2.2.2.2.2.2.2.2.2.2.2.2.2.2.1) (y15.2.2.2.2.2.2.2.2.2.2.2.2.2.2.2.2.2.2.2.2.2.2.2.2.2.2.2.2.2.2.2.2.2.2.2.2.1) (y15.2.2.2.2.2.2.2.2.2.2.2.2.2.2.2.2.2.2.2.2.2.2.2.2.2.2.2.2.2.2.2.2.2.2.2.2.2.1) (y15.2.2.2.2.2.2.2.2.2.2.2.2.2.2.2.2.2.2.2.2.2.2.2.2.2.2.2.2.2.2.2.2.2.2.2.2.2.2.1) (y15.2.2.2.2.2.2.2.2.2.2.2.2.2.2.2.2.2.2.2.2.2.2.2.2.2.2.2.2.2.2.2.2.2.2.2.2.2.2.2) r_tape (nI n) (nI k) (nI V) v6 v pc) (LkC fth la lf ln lr ls lsi lst (nI k) (nI V) v (lks + 1) v o) := by
      unfold j_de_look_118
      rcases h5 with ⟨q1, rfl⟩ | ⟨q1, g, w, q2, q3, rfl, q4, rfl, q5⟩
      · rw [if_pos q1]
        unfold j_de_look_153 f_by_clear
        rw [bnd_eq, Option.bind_some]
        exact ok.s ⟨_, _, _, _, _, _, _, _, _, _, _, _, _, _, _, _, _, _, _, _, _, _, _, _, _, _, _, _, _, _, _, _, _, _, _, _, _, _, _, _, _, rfl⟩
      · rw [if_neg q1]
        unfold f_fi_begin
        rw [Option.bind_some, q4, tkS q2 q3, Option.bind_some]
        unfold j_de_look_153 f_by_clear
        rw [bnd_eq, Option.bind_some]
        dsimp only
        rw [← q5]
        exact ok.s ⟨_, _, _, _, _, _, _, _, _, _, _, _, _, _, _, _, _, _, _, _, _, _, _, _, _, _, _, _, _, _, _, _, _, _, _, _, _, _, _, _, _, rfl⟩
    unfold f_de_look f_sc_begin
    rw [if_pos (au_y hk hc4), chk_t (inN k4' (by omega)), if_neg (nI_pos hV), fits_w, z1, Option.bind_some, if_neg i10, s5.1, Option.bind_some, if_neg i10, s6.1, Option.bind_some, if_neg i10, bnd_eq, if_neg (show ¬ Int32.ofNat 1500 < nI n from nI_nlt (b := n) hn (by decide)), Option.bind_some]
    dsimp only
    rw [a1, Option.bind_some, h1, Option.bind_some, h2, Option.bind_some]
    by_cases hz : vt = 0
    · rw [if_pos hz, h3 hz, Option.bind_some]
      exact tail
    · rw [if_neg hz, ← h4 hz]
      exact tail
  cases hsa : s_answer r_tape n 0 0 with
  | inl pp =>
    rw [hsa] at a2 b2
    obtain ⟨a2, a3, w, a4, a5⟩ := a2
    have b3 : yr.1 = 0 := b2.1
    have hrd : f_reads r_tape (nI n) x_at0 x_items0 x_fault0 x_start0 x_sort0 x_from0 x_to0 x_number0 x_signatureAt0 x_innerFrom0 x_innerTo0 x_certSignature0 x_issuerFrom0 x_issuerTo0 x_holderFrom0 x_holderTo0 x_certSerial0 x_certFrom0 x_certTo0 x_certKey0 x_certFlags0 x_ids0 r_idNames0 r_idKeys0 r_idSerials0 x_nonceFrom0 x_nonceTo0 x_status0 x_tellerSort0 x_tellerFrom0 x_tellerTo0 x_bodyFrom0 x_bodyTo0 x_bodySignature0 x_hasCert0 r_states0 r_whens0 r_whys0 r_fresh0 r_laters0 2 = some (yr.1, yr.2.1, yr.2.2.1, yr.2.2.2.1, yr.2.2.2.2.1, yr.2.2.2.2.2.1, yr.2.2.2.2.2.2.1, yr.2.2.2.2.2.2.2.1, yr.2.2.2.2.2.2.2.2.1, yr.2.2.2.2.2.2.2.2.2.1, yr.2.2.2.2.2.2.2.2.2.2.1, yr.2.2.2.2.2.2.2.2.2.2.2.1, yr.2.2.2.2.2.2.2.2.2.2.2.2.1, yr.2.2.2.2.2.2.2.2.2.2.2.2.2.1, yr.2.2.2.2.2.2.2.2.2.2.2.2.2.2.1, yr.2.2.2.2.2.2.2.2.2.2.2.2.2.2.2.1, yr.2.2.2.2.2.2.2.2.2.2.2.2.2.2.2.2.1, yr.2.2.2.2.2.2.2.2.2.2.2.2.2.2.2.2.2.1, yr.2.2.2.2.2.2.2.2.2.2.2.2.2.2.2.2.2.2.1, yr.2.2.2.2.2.2.2.2.2.2.2.2.2.2.2.2.2.2.2.1, yr.2.2.2.2.2.2.2.2.2.2.2.2.2.2.2.2.2.2.2.2.1, yr.2.2.2.2.2.2.2.2.2.2.2.2.2.2.2.2.2.2.2.2.2.1, yr.2.2.2.2.2.2.2.2.2.2.2.2.2.2.2.2.2.2.2.2.2.2.1, yr.2.2.2.2.2.2.2.2.2.2.2.2.2.2.2.2.2.2.2.2.2.2.2.1, yr.2.2.2.2.2.2.2.2.2.2.2.2.2.2.2.2.2.2.2.2.2.2.2.2.1, yr.2.2.2.2.2.2.2.2.2.2.2.2.2.2.2.2.2.2.2.2.2.2.2.2.2.1, yr.2.2.2.2.2.2.2.2.2.2.2.2.2.2.2.2.2.2.2.2.2.2.2.2.2.2.1, yr.2.2.2.2.2.2.2.2.2.2.2.2.2.2.2.2.2.2.2.2.2.2.2.2.2.2.2.1, yr.2.2.2.2.2.2.2.2.2.2.2.2.2.2.2.2.2.2.2.2.2.2.2.2.2.2.2.2.1, yr.2.2.2.2.2.2.2.2.2.2.2.2.2.2.2.2.2.2.2.2.2.2.2.2.2.2.2.2.2.1, yr.2.2.2.2.2.2.2.2.2.2.2.2.2.2.2.2.2.2.2.2.2.2.2.2.2.2.2.2.2.2.1, yr.2.2.2.2.2.2.2.2.2.2.2.2.2.2.2.2.2.2.2.2.2.2.2.2.2.2.2.2.2.2.2.1, yr.2.2.2.2.2.2.2.2.2.2.2.2.2.2.2.2.2.2.2.2.2.2.2.2.2.2.2.2.2.2.2.2.1, yr.2.2.2.2.2.2.2.2.2.2.2.2.2.2.2.2.2.2.2.2.2.2.2.2.2.2.2.2.2.2.2.2.2.1, yr.2.2.2.2.2.2.2.2.2.2.2.2.2.2.2.2.2.2.2.2.2.2.2.2.2.2.2.2.2.2.2.2.2.2.1, yr.2.2.2.2.2.2.2.2.2.2.2.2.2.2.2.2.2.2.2.2.2.2.2.2.2.2.2.2.2.2.2.2.2.2.2.1, yr.2.2.2.2.2.2.2.2.2.2.2.2.2.2.2.2.2.2.2.2.2.2.2.2.2.2.2.2.2.2.2.2.2.2.2.2.1, yr.2.2.2.2.2.2.2.2.2.2.2.2.2.2.2.2.2.2.2.2.2.2.2.2.2.2.2.2.2.2.2.2.2.2.2.2.2.1, yr.2.2.2.2.2.2.2.2.2.2.2.2.2.2.2.2.2.2.2.2.2.2.2.2.2.2.2.2.2.2.2.2.2.2.2.2.2.2.1, yr.2.2.2.2.2.2.2.2.2.2.2.2.2.2.2.2.2.2.2.2.2.2.2.2.2.2.2.2.2.2.2.2.2.2.2.2.2.2.2.1, yr.2.2.2.2.2.2.2.2.2.2.2.2.2.2.2.2.2.2.2.2.2.2.2.2.2.2.2.2.2.2.2.2.2.2.2.2.2.2.2.2) := by
      unfold f_reads
      rw [if_neg (by decide), if_neg (by decide), b1, Option.bind_some, chk_t (by rw [b3]; rfl)]
    obtain ⟨pc, p1, -⟩ := pl_ex a4 (y15.2.2.2.2.2.2.2.2.2.2.2.2.2.2.2.2.2.1) (y15.2.2.2.2.2.2.2.2.2.2.2.2.2.2.2.2.2.2.1) (y15.2.2.2.2.2.2.2.2.2.2.2.2.2.2.2.2.2.2.2.1) nh kh (nI V)
    rw [← a5] at p1
    refine ⟨21, none, by decide, href 21 none ?_, hcls 21 none pc 21 p1 ?_ (fun h => absurd h (by decide)) (fun _ => rfl) (Or.inl ⟨by decide, rfl⟩)⟩
    · unfold f_verdictOf
      rw [hrd, Option.bind_some]
      dsimp only
      rw [if_pos b3]
      exact ok.s ⟨rfl, rfl, rfl, rfl, rfl, rfl⟩
    · unfold f_de_verdictOnText
      rw [if_neg (by rw [a3]; exact fl_nI (by omega))]
  | inr v =>
    rw [hsa] at a2 b2
    obtain ⟨⟨s, ob⟩, e', i'⟩ := v
    cases ob with
    | none =>
      obtain ⟨a2, -, a3, a4, a5⟩ := a2
      obtain ⟨b2, -, b3, b4, b5⟩ := b2
      have hrd : f_reads r_tape (nI n) x_at0 x_items0 x_fault0 x_start0 x_sort0 x_from0 x_to0 x_number0 x_signatureAt0 x_innerFrom0 x_innerTo0 x_certSignature0 x_issuerFrom0 x_issuerTo0 x_holderFrom0 x_holderTo0 x_certSerial0 x_certFrom0 x_certTo0 x_certKey0 x_certFlags0 x_ids0 r_idNames0 r_idKeys0 r_idSerials0 x_nonceFrom0 x_nonceTo0 x_status0 x_tellerSort0 x_tellerFrom0 x_tellerTo0 x_bodyFrom0 x_bodyTo0 x_bodySignature0 x_hasCert0 r_states0 r_whens0 r_whys0 r_fresh0 r_laters0 2 = some (yr.1, yr.2.1, yr.2.2.1, yr.2.2.2.1, yr.2.2.2.2.1, yr.2.2.2.2.2.1, yr.2.2.2.2.2.2.1, yr.2.2.2.2.2.2.2.1, yr.2.2.2.2.2.2.2.2.1, yr.2.2.2.2.2.2.2.2.2.1, yr.2.2.2.2.2.2.2.2.2.2.1, yr.2.2.2.2.2.2.2.2.2.2.2.1, yr.2.2.2.2.2.2.2.2.2.2.2.2.1, yr.2.2.2.2.2.2.2.2.2.2.2.2.2.1, yr.2.2.2.2.2.2.2.2.2.2.2.2.2.2.1, yr.2.2.2.2.2.2.2.2.2.2.2.2.2.2.2.1, yr.2.2.2.2.2.2.2.2.2.2.2.2.2.2.2.2.1, yr.2.2.2.2.2.2.2.2.2.2.2.2.2.2.2.2.2.1, yr.2.2.2.2.2.2.2.2.2.2.2.2.2.2.2.2.2.2.1, yr.2.2.2.2.2.2.2.2.2.2.2.2.2.2.2.2.2.2.2.1, yr.2.2.2.2.2.2.2.2.2.2.2.2.2.2.2.2.2.2.2.2.1, yr.2.2.2.2.2.2.2.2.2.2.2.2.2.2.2.2.2.2.2.2.2.1, yr.2.2.2.2.2.2.2.2.2.2.2.2.2.2.2.2.2.2.2.2.2.2.1, yr.2.2.2.2.2.2.2.2.2.2.2.2.2.2.2.2.2.2.2.2.2.2.2.1, yr.2.2.2.2.2.2.2.2.2.2.2.2.2.2.2.2.2.2.2.2.2.2.2.2.1, yr.2.2.2.2.2.2.2.2.2.2.2.2.2.2.2.2.2.2.2.2.2.2.2.2.2.1, yr.2.2.2.2.2.2.2.2.2.2.2.2.2.2.2.2.2.2.2.2.2.2.2.2.2.2.1, yr.2.2.2.2.2.2.2.2.2.2.2.2.2.2.2.2.2.2.2.2.2.2.2.2.2.2.2.1, yr.2.2.2.2.2.2.2.2.2.2.2.2.2.2.2.2.2.2.2.2.2.2.2.2.2.2.2.2.1, yr.2.2.2.2.2.2.2.2.2.2.2.2.2.2.2.2.2.2.2.2.2.2.2.2.2.2.2.2.2.1, yr.2.2.2.2.2.2.2.2.2.2.2.2.2.2.2.2.2.2.2.2.2.2.2.2.2.2.2.2.2.2.1, yr.2.2.2.2.2.2.2.2.2.2.2.2.2.2.2.2.2.2.2.2.2.2.2.2.2.2.2.2.2.2.2.1, yr.2.2.2.2.2.2.2.2.2.2.2.2.2.2.2.2.2.2.2.2.2.2.2.2.2.2.2.2.2.2.2.2.1, yr.2.2.2.2.2.2.2.2.2.2.2.2.2.2.2.2.2.2.2.2.2.2.2.2.2.2.2.2.2.2.2.2.2.1, yr.2.2.2.2.2.2.2.2.2.2.2.2.2.2.2.2.2.2.2.2.2.2.2.2.2.2.2.2.2.2.2.2.2.2.1, yr.2.2.2.2.2.2.2.2.2.2.2.2.2.2.2.2.2.2.2.2.2.2.2.2.2.2.2.2.2.2.2.2.2.2.2.1, yr.2.2.2.2.2.2.2.2.2.2.2.2.2.2.2.2.2.2.2.2.2.2.2.2.2.2.2.2.2.2.2.2.2.2.2.2.1, yr.2.2.2.2.2.2.2.2.2.2.2.2.2.2.2.2.2.2.2.2.2.2.2.2.2.2.2.2.2.2.2.2.2.2.2.2.2.1, yr.2.2.2.2.2.2.2.2.2.2.2.2.2.2.2.2.2.2.2.2.2.2.2.2.2.2.2.2.2.2.2.2.2.2.2.2.2.2.1, yr.2.2.2.2.2.2.2.2.2.2.2.2.2.2.2.2.2.2.2.2.2.2.2.2.2.2.2.2.2.2.2.2.2.2.2.2.2.2.2.1, yr.2.2.2.2.2.2.2.2.2.2.2.2.2.2.2.2.2.2.2.2.2.2.2.2.2.2.2.2.2.2.2.2.2.2.2.2.2.2.2.2) := by
        unfold f_reads
        rw [if_neg (by decide), if_neg (by decide), b1, Option.bind_some, chk_t (by rw [b2]; rfl)]
      obtain ⟨pc, p1, -⟩ := pl_ex (show 0 ≤ 8 by decide) (y15.2.2.2.2.2.2.2.2.2.2.2.2.2.2.2.2.2.1) (y15.2.2.2.2.2.2.2.2.2.2.2.2.2.2.2.2.2.2.1) (y15.2.2.2.2.2.2.2.2.2.2.2.2.2.2.2.2.2.2.2.1) nh kh (nI V)
      rw [← a5] at p1
      have s0 : ¬ nI s = 0 := fun e => b4 ((nI_eq (b := 0) (by omega) (by decide)).mp e)
      refine ⟨22, none, by decide, href 22 none ?_, hcls 22 none pc 22 p1 ?_ (fun h => absurd h (by decide)) (fun _ => rfl) (Or.inl ⟨by decide, rfl⟩)⟩
      · unfold f_verdictOf
        rw [hrd, Option.bind_some]
        dsimp only
        rw [if_neg (by rw [b2]; exact i10), if_neg (by rw [b3]; exact s0)]
        exact ok.s ⟨rfl, rfl, rfl, rfl, rfl, rfl⟩
      · unfold f_de_verdictOnText
        rw [if_pos a2, if_neg (by rw [a3]; exact s0)]
    | some bs =>
      obtain ⟨b, sx, ce⟩ := bs
      obtain ⟨-, c_flagsn, c_fromn, c_innerEndn, c_innerPlacen, c_issuerPlacen, c_issuerSizen, c_namePlacen, c_nameSizen, c_publicKeyn, c_serialn, c_signaturen, c_ton, FRn, hcn, KHn, NHn, SEn, isBn, NXn, npn, nsn, RSn, SIn, STn, thn, tpn, tsn, x1n, x2n, On, qn, rn, rfl, hBC, hTe, hNo, hs0, hcc⟩ := a2
      obtain ⟨-, x_faultn, x_startn, x_sortn, x_fromn, x_ton, x_numbern, x_signatureAtn, x_innerFromn, x_innerTon, x_certSignaturen, x_issuerFromn, x_issuerTon, x_holderFromn, x_holderTon, x_certSerialn, x_certFromn, x_certTon, x_certKeyn, x_certFlagsn, r_idNamesn, r_idKeysn, r_idSerialsn, x_hasCertn, r_statesn, r_whensn, r_whysn, r_freshn, r_latersn, rfl, hBR, ⟨hte, hb8, hnob, hb1, hb2⟩, hsx, hce⟩ := b2
      dsimp only at hcls
      have hrd : f_reads r_tape (nI n) x_at0 x_items0 x_fault0 x_start0 x_sort0 x_from0 x_to0 x_number0 x_signatureAt0 x_innerFrom0 x_innerTo0 x_certSignature0 x_issuerFrom0 x_issuerTo0 x_holderFrom0 x_holderTo0 x_certSerial0 x_certFrom0 x_certTo0 x_certKey0 x_certFlags0 x_ids0 r_idNames0 r_idKeys0 r_idSerials0 x_nonceFrom0 x_nonceTo0 x_status0 x_tellerSort0 x_tellerFrom0 x_tellerTo0 x_bodyFrom0 x_bodyTo0 x_bodySignature0 x_hasCert0 r_states0 r_whens0 r_whys0 r_fresh0 r_laters0 2 = some (1, nI e', i', x_faultn, x_startn, x_sortn, x_fromn, x_ton, x_numbern, x_signatureAtn, x_innerFromn, x_innerTon, x_certSignaturen, x_issuerFromn, x_issuerTon, x_holderFromn, x_holderTon, x_certSerialn, x_certFromn, x_certTon, x_certKeyn, x_certFlagsn, nI b.2.1.length, r_idNamesn, r_idKeysn, r_idSerialsn, nI b.2.2.1.1, nI b.2.2.1.2, 0, nI b.1.1, nI b.1.2.1, nI b.1.2.2, nI b.2.2.2.1, nI b.2.2.2.2, nI (sx + 1), x_hasCertn, r_statesn, r_whensn, r_whysn, r_freshn, r_latersn) := by
        unfold f_reads
        rw [if_neg (by decide), if_neg (by decide), b1, Option.bind_some]
        dsimp only
        rw [chk_t (by rfl)]
      obtain ⟨pc, p1, p2⟩ := pl_ex hb8 KHn NHn SEn nh kh (nI V)
      obtain ⟨vt, t1, t2, t3⟩ := vt_all (r_tape := r_tape) (x_taped := nI n) (r_names := r_names) (r_nameSizes := r_nameSizes) (r_keys := r_keys) (r_issued := r_issued) (r_serials := r_serials) (r_since := r_since) (r_nonce := r_nonce) (x_nonceSize := x_nonceSize) (x_at := (nI e')) (x_items := i') (x_fault := x_faultn) (x_start := x_startn) (x_sort := x_sortn) (x_from := x_fromn) (x_to := x_ton) (x_number := x_numbern) (x_signatureAt := x_signatureAtn) (x_innerFrom := x_innerFromn) (x_innerTo := x_innerTon) (x_certSignature := x_certSignaturen) (x_issuerFrom := x_issuerFromn) (x_issuerTo := x_issuerTon) (x_holderFrom := x_holderFromn) (x_holderTo := x_holderTon) (x_certSerial := x_certSerialn) (x_certFrom := x_certFromn) (x_certTo := x_certTon) (x_certKey := x_certKeyn) (x_certFlags := x_certFlagsn) (x_ids := (nI b.2.1.length)) (r_idNames := r_idNamesn) (r_idKeys := r_idKeysn) (r_idSerials := r_idSerialsn) (x_nonceFrom := (nI b.2.2.1.1)) (x_nonceTo := (nI b.2.2.1.2)) (x_status := 0) (x_tellerSort := (nI b.1.1)) (x_tellerFrom := (nI b.1.2.1)) (x_tellerTo := (nI b.1.2.2)) (x_bodyFrom := (nI b.2.2.2.1)) (x_bodyTo := (nI b.2.2.2.2)) (x_bodySignature := (nI (sx + 1))) (x_hasCert := x_hasCertn) (r_states := r_statesn) (r_whens := r_whensn) (r_whys := r_whysn) (r_fresh := r_freshn) (r_laters := r_latersn) (r_find := r_find) (x_hasFind := x_hasFind) (x_mayHold := x_mayHold) (x_findOf := x_findOf) (x_findSerial := x_findSerial)  (k := k) (V := V) (t := t) (n := n) (v5 := v5) (v6 := v6) (status := 0) (fault := -1) hf hn rfl k4' hT hr hms hA hA16 hnd hK hpk hns hky hkh hb1 hb2 rfl rfl rfl rfl hsx rfl rfl hs0 hnob rfl rfl hNo hB1 hB2 hB8 hte hTe rfl rfl rfl hce hcc rfl rfl rfl hrd x_hashed
      have hI : ∀ j, j < b.2.1.length → ∀ xh, ok (f_isOf r_tape r_names r_nameSizes r_keys xh r_idNamesn r_idKeysn (nI j) (nI k)) (fun y => y.1 = if NHn j = nh ∧ KHn j = kh then 1 else 0) := fun j hj xh => by
        obtain ⟨⟨e1, e2, e3, e4, e5, e6, e7⟩, -⟩ := hBR j _ (List.getElem?_eq_getElem hj)
        obtain ⟨c1, c2, c3, -⟩ := hBC j _ (List.getElem?_eq_getElem hj)
        rw [c1, c2, hnh, hkh, ← hky]
        exact p_isOf (by omega) k4' hA hA16 hns e1 e2 (by omega) (by omega) xh
      have hS : ∀ j, j < b.2.1.length → (r_idSerialsn j = (nI V).toInt64 ↔ SEn j = nI V) := fun j hj => by
        obtain ⟨⟨e1, e2, e3, e4, e5, e6, e7⟩, -⟩ := hBR j _ (List.getElem?_eq_getElem hj)
        obtain ⟨c1, c2, c3, -⟩ := hBC j _ (List.getElem?_eq_getElem hj)
        obtain ⟨Vs, hVs, eV⟩ := sn_of ⟨e6, e7⟩
        rw [e3, c3, eV, lN_i, nI_l hV, nI_eq hVs hV]
        constructor
        · intro h
          have := congrArg Int64.toInt h
          rw [lB_i (by omega), lB_i (by omega)] at this
          omega
        · rintro rfl; rfl
      -- the singles
      obtain ⟨v, o, s1, s2, s3, s4⟩ : ∃ v o, 1 ≤ v ∧ (∀ xh, ok (j_verdictOf_312 FU r_tape (nI n) r_names r_nameSizes r_keys r_issued r_serials r_since r_nonce x_nonceSize xh (nI e') i' x_faultn x_startn x_sortn x_fromn x_ton x_numbern x_signatureAtn x_innerFromn x_innerTon x_certSignaturen x_issuerFromn x_issuerTon x_holderFromn x_holderTon x_certSerialn x_certFromn x_certTon x_certKeyn x_certFlagsn (nI b.2.1.length) r_idNamesn r_idKeysn r_idSerialsn (nI b.2.2.1.1) (nI b.2.2.1.2) 0 (nI b.1.1) (nI b.1.2.1) (nI b.1.2.2) (nI b.2.2.2.1) (nI b.2.2.2.2) (nI (sx + 1)) x_hasCertn r_statesn r_whensn r_whysn r_freshn r_latersn r_find x_hasFind x_mayHold x_findOf x_findSerial (nI k) (nI V) (lN t) v5 v6 0) (RvG r_find x_hasFind x_mayHold x_findOf x_findSerial (nI k) (nI V) v o)) ∧ f_an_verdictOnSingle FRn (nI b.2.1.length) NXn STn pc (lN t) v5 v6 = some v ∧ ((3 < v ∧ o = none) ∨ (¬ 3 < v ∧ ∃ g w, g < w ∧ w ≤ 8 ∧ pc = nI g ∧ nI b.2.1.length = nI w ∧ o = some (fnd v (SIn g) (RSn g) (FRn g) (NXn g) v6) ∧ v = STn g)) := by
        rcases p2 with ⟨rfl, p3⟩ | ⟨g, p3, rfl, p4, p5⟩
        · refine ⟨30, none, by decide, fun xh => ?_, ?_, Or.inl ⟨by decide, rfl⟩⟩
          · have q := r312 (r_tape := r_tape) (x_taped := nI n) (r_names := r_names) (r_nameSizes := r_nameSizes) (r_keys := r_keys) (r_issued := r_issued) (r_serials := r_serials) (r_since := r_since) (r_nonce := r_nonce) (x_nonceSize := x_nonceSize) (x_at := (nI e')) (x_items := i') (x_fault := x_faultn) (x_start := x_startn) (x_sort := x_sortn) (x_from := x_fromn) (x_to := x_ton) (x_number := x_numbern) (x_signatureAt := x_signatureAtn) (x_innerFrom := x_innerFromn) (x_innerTo := x_innerTon) (x_certSignature := x_certSignaturen) (x_issuerFrom := x_issuerFromn) (x_issuerTo := x_issuerTon) (x_holderFrom := x_holderFromn) (x_holderTo := x_holderTon) (x_certSerial := x_certSerialn) (x_certFrom := x_certFromn) (x_certTo := x_certTon) (x_certKey := x_certKeyn) (x_certFlags := x_certFlagsn) (x_ids := (nI b.2.1.length)) (r_idNames := r_idNamesn) (r_idKeys := r_idKeysn) (r_idSerials := r_idSerialsn) (x_nonceFrom := (nI b.2.2.1.1)) (x_nonceTo := (nI b.2.2.1.2)) (x_status := 0) (x_tellerSort := (nI b.1.1)) (x_tellerFrom := (nI b.1.2.1)) (x_tellerTo := (nI b.1.2.2)) (x_bodyFrom := (nI b.2.2.2.1)) (x_bodyTo := (nI b.2.2.2.2)) (x_bodySignature := (nI (sx + 1))) (x_hasCert := x_hasCertn) (r_states := r_statesn) (r_whens := r_whensn) (r_whys := r_whysn) (r_fresh := r_freshn) (r_laters := r_latersn) (r_find := r_find) (x_hasFind := x_hasFind) (x_mayHold := x_mayHold) (x_findOf := x_findOf) (x_findSerial := x_findSerial) (k := k) (V := V) (v3 := lN t) (v5 := v5) (v6 := v6) (g := b.2.1.length) hb8 rfl hI hS (Or.inl ⟨rfl, p3⟩) (no_v rfl) b.2.1.length 0 FU xh (by unfold FU; omega) (by omega) (by omega)
            exact q
          · unfold f_an_verdictOnSingle
            rw [if_pos (by decide)]
        · obtain ⟨e0, f1, f2, f3, f4, f5, f6, f7⟩ := hBR g _ (List.getElem?_eq_getElem p3)
          obtain ⟨c1, c2, c3, c4, c5, c6, c7, c8⟩ := hBC g _ (List.getElem?_eq_getElem p3)
          obtain ⟨v, o, q1, q2, q3⟩ := one_v (r_tape := r_tape) (x_taped := nI n) (r_names := r_names) (r_nameSizes := r_nameSizes) (r_keys := r_keys) (r_issued := r_issued) (r_serials := r_serials) (r_since := r_since) (r_nonce := r_nonce) (x_nonceSize := x_nonceSize) (x_at := (nI e')) (x_items := i') (x_fault := x_faultn) (x_start := x_startn) (x_sort := x_sortn) (x_from := x_fromn) (x_to := x_ton) (x_number := x_numbern) (x_signatureAt := x_signatureAtn) (x_innerFrom := x_innerFromn) (x_innerTo := x_innerTon) (x_certSignature := x_certSignaturen) (x_issuerFrom := x_issuerFromn) (x_issuerTo := x_issuerTon) (x_holderFrom := x_holderFromn) (x_holderTo := x_holderTon) (x_certSerial := x_certSerialn) (x_certFrom := x_certFromn) (x_certTo := x_certTon) (x_certKey := x_certKeyn) (x_certFlags := x_certFlagsn) (x_ids := (nI b.2.1.length)) (r_idNames := r_idNamesn) (r_idKeys := r_idKeysn) (r_idSerials := r_idSerialsn) (x_nonceFrom := (nI b.2.2.1.1)) (x_nonceTo := (nI b.2.2.1.2)) (x_status := 0) (x_tellerSort := (nI b.1.1)) (x_tellerFrom := (nI b.1.2.1)) (x_tellerTo := (nI b.1.2.2)) (x_bodyFrom := (nI b.2.2.2.1)) (x_bodyTo := (nI b.2.2.2.2)) (x_bodySignature := (nI (sx + 1))) (x_hasCert := x_hasCertn) (r_states := r_statesn) (r_whens := r_whensn) (r_whys := r_whysn) (r_fresh := r_freshn) (r_laters := r_latersn) (r_find := r_find) (x_hasFind := x_hasFind) (x_mayHold := x_mayHold) (x_findOf := x_findOf) (x_findSerial := x_findSerial) (k := k) (V := V) (ST := STn) (SI := SIn) (RS := RSn) (FR := FRn) (NX := NXn) (w := b.2.1.length) (v3 := lN t) (v5 := v5) (v6 := v6) hb8 rfl p3 (by rw [c4]; exact ⟨nI_le (a := 1) f6 (by omega), nI_le (b := 3) f7 (by decide)⟩) (by rw [f1, c4]) (by rw [f2, c5]) (by rw [f3, c6]) (by rw [f4, c7]) (by rw [f5, c8])
          refine ⟨v, o, ?_, fun xh => ?_, q2, ?_⟩
          · rcases q3 with ⟨h, -⟩ | ⟨⟨h, -⟩, -⟩
            · exact Int32.le_of_lt (Int32.lt_trans (by decide) h)
            · exact h
          · exact r312 (r_tape := r_tape) (x_taped := nI n) (r_names := r_names) (r_nameSizes := r_nameSizes) (r_keys := r_keys) (r_issued := r_issued) (r_serials := r_serials) (r_since := r_since) (r_nonce := r_nonce) (x_nonceSize := x_nonceSize) (x_at := (nI e')) (x_items := i') (x_fault := x_faultn) (x_start := x_startn) (x_sort := x_sortn) (x_from := x_fromn) (x_to := x_ton) (x_number := x_numbern) (x_signatureAt := x_signatureAtn) (x_innerFrom := x_innerFromn) (x_innerTo := x_innerTon) (x_certSignature := x_certSignaturen) (x_issuerFrom := x_issuerFromn) (x_issuerTo := x_issuerTon) (x_holderFrom := x_holderFromn) (x_holderTo := x_holderTon) (x_certSerial := x_certSerialn) (x_certFrom := x_certFromn) (x_certTo := x_certTon) (x_certKey := x_certKeyn) (x_certFlags := x_certFlagsn) (x_ids := (nI b.2.1.length)) (r_idNames := r_idNamesn) (r_idKeys := r_idKeysn) (r_idSerials := r_idSerialsn) (x_nonceFrom := (nI b.2.2.1.1)) (x_nonceTo := (nI b.2.2.1.2)) (x_status := 0) (x_tellerSort := (nI b.1.1)) (x_tellerFrom := (nI b.1.2.1)) (x_tellerTo := (nI b.1.2.2)) (x_bodyFrom := (nI b.2.2.2.1)) (x_bodyTo := (nI b.2.2.2.2)) (x_bodySignature := (nI (sx + 1))) (x_hasCert := x_hasCertn) (r_states := r_statesn) (r_whens := r_whensn) (r_whys := r_whysn) (r_fresh := r_freshn) (r_laters := r_latersn) (r_find := r_find) (x_hasFind := x_hasFind) (x_mayHold := x_mayHold) (x_findOf := x_findOf) (x_findSerial := x_findSerial) (k := k) (V := V) (v3 := lN t) (v5 := v5) (v6 := v6) (g := g) hb8 rfl hI hS (Or.inr ⟨p3, p4, p5⟩) q1 b.2.1.length 0 FU xh (by unfold FU; omega) (by omega) (by omega)
          · rcases q3 with h | ⟨⟨h1, h2⟩, h3, h4⟩
            · exact Or.inl h
            · exact Or.inr ⟨h2, g, _, p3, hb8, rfl, rfl, h3, h4⟩
      rcases t2 with rfl | h3
      · exact ⟨v, o, s1, href v o (t3 v o (fun _ => s2) (fun h => absurd rfl h)), hcls v o pc 0 p1 t1 (fun _ => s3) (fun h => absurd rfl h) s4⟩
      · have hne : vt ≠ 0 := fun e => by rw [e] at h3; exact absurd h3 (by decide)
        exact ⟨vt, none, Int32.le_of_lt (Int32.lt_trans (by decide) h3), href vt none (t3 vt none (fun h => absurd h hne) (fun _ => ⟨rfl, rfl⟩)), hcls vt none pc vt p1 t1 (fun h => absurd h hne) (fun _ => rfl) (Or.inl ⟨h3, rfl⟩)⟩
end RH
