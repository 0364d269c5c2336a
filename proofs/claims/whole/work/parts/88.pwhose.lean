/-! PURE 38: whose ask is it; the reference's answer -/
theorem r_status {dr o : Nat → Int32} {dl ol el : Int32} (c : Int32) : ok (f_tellStatus o ol el dr dl c) (fun y => y.1 = c ∧ WW y.2.1 y.2.2.1 (itm 48 (itm 10 [BB c])) ∧ y.2.2.2.1 = el + 1) := by
  unfold f_tellStatus
  have l1 := itm_le (s := 10) (show [BB c].length ≤ 1 from Nat.le_refl _)
  refine ok.b (p_layCode c (WW_nil dr) (by decide)) (fun y1 g1 => ?_)
  rw [List.nil_append] at g1
  refine ok.b (p_wrap0 g1 (by omega) 48) (fun y2 g2 => ?_)
  have l2 := itm_le (s := 48) l1
  refine ok.b (p_tellDraft g2 (by omega) ol o) (fun y3 g3 => ?_)
  rw [bnd_eq, bnd_eq]
  exact ok.s ⟨rfl, g3.2, rfl⟩
theorem c_status {o : Nat → Int32} {ol : Int32} (c : Int32) : ok (f_de_writeStatusAlone o ol c) (fun y => WW y.1 y.2 (itm 48 (itm 10 [BB c]))) := by
  unfold f_de_writeStatusAlone f_by_clear
  have l1 := itm_le (s := 10) (show [BB c].length ≤ 1 from Nat.le_refl _)
  rw [Option.bind_some]
  refine ok.b (pu_open (by decide) (WW_nil o) (by decide) 48) (fun y2 g2 => ?_)
  rw [bnd_eq, g2.1]
  refine ok.b (pu_addCode (by decide) c g2.2 (by decide)) (fun y4 g4 => ?_)
  have q := pu_close (N := 1500) (L := []) (by decide) g4 (by rw [List.length_nil]; omega)
  refine ok.b q (fun y5 g5 => ok.s ?_)
  rw [List.nil_append] at g5
  exact g5
theorem stat_l (c : Int32) : (itm 48 (itm 10 [BB c])).length ≤ 1500 := Nat.le_trans (itm_le (itm_le (show [BB c].length ≤ 1 from Nat.le_refl _))) (by decide)
/-! the class's search -/
theorem c37 {KH NH : Nat → Int64} {SE : Nat → Int32} {np nz a1 a2 a3 a4 a5 : Int32} {O : Nat → Int32} {a6 a7 : Int32} {f : Nat → Int32} {tl : Int32} {kh nh : Int64} {w : Nat} (hw : w ≤ 8) : ∀ (i j fu : Nat), i < fu → j + i = w → ((∃ p, j ≤ p ∧ p < w ∧ NH p = nh ∧ KH p = kh) → j_de_statusFor_37 fu (nI w) KH NH SE np nz a1 a2 a3 a4 a5 O a6 a7 f tl kh nh (nI j) = some (0, nI w, KH, NH, SE, np, nz, a1, a2, a3, a4, a5, O, a6, a7)) ∧ ((∀ p, j ≤ p → p < w → ¬ (NH p = nh ∧ KH p = kh)) → j_de_statusFor_37 fu (nI w) KH NH SE np nz a1 a2 a3 a4 a5 O a6 a7 f tl kh nh (nI j) = some (6, nI w, KH, NH, SE, np, nz, a1, a2, a3, a4, a5, O, a6, a7)) := by
  intro i
  induction i with
  | zero =>
    intro j fu hfu hj
    obtain ⟨fu, rfl⟩ : ∃ g, fu = g + 1 := ⟨fu - 1, by omega⟩
    rw [j_de_statusFor_37, if_pos (nI_le (by omega) (by omega))]
    exact ⟨fun ⟨p, p1, p2, _⟩ => absurd p1 (by omega), fun _ => rfl⟩
  | succ i ih =>
    intro j fu hfu hj
    obtain ⟨fu, rfl⟩ : ∃ g, fu = g + 1 := ⟨fu - 1, by omega⟩
    obtain ⟨h1, h2⟩ := ih (j + 1) fu (by omega) (by omega)
    rw [j_de_statusFor_37, if_neg (nI_ge (by omega) (by omega)), u_isOf (by omega) hw, Option.bind_some]
    by_cases q : NH j = nh ∧ KH j = kh
    · rw [if_pos q, if_neg i10]
      exact ⟨fun _ => rfl, fun h => absurd q (h j (Nat.le_refl _) (by omega))⟩
    · rw [if_neg q, if_pos rfl, bnd_eq, nI_1]
      refine ⟨fun ⟨p, p1, p2, p3⟩ => h1 ⟨p, ?_, p2, p3⟩, fun h => h2 (fun p p1 p2 => h p (by omega) p2)⟩
      by_cases e : p = j
      · subst e; exact absurd p3 q
      · omega
section RB
set_option linter.unusedVariables false
variable {r_tape r_out r_names r_nameSizes r_issued r_serials r_reasons r_signerOf r_certs r_certSizes r_shown r_draft r_idNames r_idKeys r_states r_whys : (Nat → Int32)} {x_taped x_outs x_authorities x_signers x_answersFine x_answersElse x_drafted x_at x_items x_fault x_start x_sort x_from x_to x_signatureAt x_innerFrom x_innerTo x_certSignature x_issuerFrom x_issuerTo x_holderFrom x_holderTo x_certFlags x_ids x_nonceFrom x_nonceTo x_status x_tellerSort x_tellerFrom x_tellerTo x_bodyFrom x_bodyTo x_bodySignature x_hasCert : Int32} {r_secrets r_keys r_since r_signerSecrets r_signerKeys r_idSerials r_whens r_fresh r_laters : (Nat → Int64)} {x_hashed x_signedC x_signedZ x_number x_certSerial x_certFrom x_certTo x_certKey : Int64}
theorem a134e {k x : Nat} (hk : k < 4) (hx : x < QQ) (hse : r_secrets k = lN x) {An : List Int32} (hA : GG r_names (16 * k) An) (hA16 : An.length ≤ 16) (hns : r_nameSizes k = nI An.length) (p : Int32) {KH NH : Nat → Int64} {SE : Nat → Int32} {kh nh : Int64} {S : Nat → Int32} {T : Nat → Int64} {R : Nat → Int32} {m t l w n : Nat} {X : Nat → List Int32} {v : Nat × Nat} (hw : w ≤ 8) (hX : ∀ j, j < w → snG r_tape r_names r_nameSizes r_keys r_issued r_serials r_since r_reasons r_idNames r_idKeys r_idSerials KH NH SE kh nh S T R k m t l w j (X j)) (hf : TP r_tape) (hn : n ≤ 1500) (hv : nob n v) (e1 : x_ids = nI w) (e2 : x_nonceFrom = nI v.1) (e3 : x_nonceTo = nI v.2) (htp : x_taped = 0) (ht : t + l < 3155760000) (fu : Nat) : ok (j_answer_134 (fu + 1) r_tape x_taped r_out x_outs x_authorities r_names r_nameSizes r_secrets r_keys r_issued r_serials r_since r_reasons x_signers r_signerOf r_signerSecrets r_signerKeys r_certs r_certSizes x_answersFine x_answersElse x_hashed x_signedC x_signedZ r_shown r_draft x_drafted x_at x_items x_fault x_start x_sort x_from x_to x_number x_signatureAt x_innerFrom x_innerTo x_certSignature x_issuerFrom x_issuerTo x_holderFrom x_holderTo x_certSerial x_certFrom x_certTo x_certKey x_certFlags x_ids r_idNames r_idKeys r_idSerials x_nonceFrom x_nonceTo x_status x_tellerSort x_tellerFrom x_tellerTo x_bodyFrom x_bodyTo x_bodySignature x_hasCert r_states r_whens r_whys r_fresh r_laters p (lN t) (lN l) 0 (nI k) 1 (nI w)) (AnG 0 (x_answersFine + 1) x_answersElse (anL (bdL (itm 161 (itm 4 An)) t (catL X 0 w) (nonL 163 (sl r_tape v.1 (v.2 - v.1)))) x [])) := by
  have tel := encT_l t
  rw [j_answer_134, e1, if_pos (nI_le (by omega) (by omega)), if_neg i10]
  rw [if_pos rfl, chk_t (inN hk (by omega)), nI_clamp (by omega), hns, show (16 : Int32) * nI k = nI (16 * k) from pk_mul 16 k, nI_add]
  have hr := p_layRow (Ng := 64) (a := 16 * k) (g := r_names) (by decide) (m := An.length) (by unfold FU; omega) (by omega) (fun j hj => GG_at hA hj) (WW_nil r_draft) (by rw [List.length_nil]; omega)
  rw [sl_GG An _ hA, List.nil_append] at hr
  refine ok.b hr (fun y21 g21 => ?_)
  refine ok.b (p_wrap0 g21 (by omega) 4) (fun y22 g22 => ?_)
  have l1 := itm_le (s := 4) hA16
  refine ok.b (p_wrap0 g22 (by omega) 161) (fun y23 g23 => ?_)
  have l2 := itm_le (s := 161) l1
  refine ok.b (p_layTime (t := t) (by omega) r_shown g23 (by omega)) (fun y24 g24 => ?_)
  rw [bnd_eq, g24.1]
  have q := a275 (r_tape := r_tape) (x_taped := x_taped) (r_out := r_out) (x_outs := x_outs) (x_authorities := x_authorities) (r_names := r_names) (r_nameSizes := r_nameSizes) (r_secrets := r_secrets) (r_keys := r_keys) (r_issued := r_issued) (r_serials := r_serials) (r_since := r_since) (r_reasons := r_reasons) (x_signers := x_signers) (r_signerOf := r_signerOf) (r_signerSecrets := r_signerSecrets) (r_signerKeys := r_signerKeys) (r_certs := r_certs) (r_certSizes := r_certSizes) (x_answersFine := x_answersFine) (x_answersElse := x_answersElse) (x_signedC := x_signedC) (x_signedZ := x_signedZ) (x_at := x_at) (x_items := x_items) (x_fault := x_fault) (x_start := x_start) (x_sort := x_sort) (x_from := x_from) (x_to := x_to) (x_number := x_number) (x_signatureAt := x_signatureAt) (x_innerFrom := x_innerFrom) (x_innerTo := x_innerTo) (x_certSignature := x_certSignature) (x_issuerFrom := x_issuerFrom) (x_issuerTo := x_issuerTo) (x_holderFrom := x_holderFrom) (x_holderTo := x_holderTo) (x_certSerial := x_certSerial) (x_certFrom := x_certFrom) (x_certTo := x_certTo) (x_certKey := x_certKey) (x_certFlags := x_certFlags) (x_ids := nI w) (r_idNames := r_idNames) (r_idKeys := r_idKeys) (r_idSerials := r_idSerials) (x_nonceFrom := x_nonceFrom) (x_nonceTo := x_nonceTo) (x_status := x_status) (x_tellerSort := x_tellerSort) (x_tellerFrom := x_tellerFrom) (x_tellerTo := x_tellerTo) (x_bodyFrom := x_bodyFrom) (x_bodyTo := x_bodyTo) (x_bodySignature := x_bodySignature) (x_hasCert := x_hasCert) (r_states := r_states) (r_whens := r_whens) (r_whys := r_whys) (r_fresh := r_fresh) (r_laters := r_laters) hk hx hse p (Te := itm 161 (itm 4 An)) hw hX hf hn hv rfl e2 e3 (by omega) htp w 0 FU x_hashed y24.1 y24.2.1 y24.2.2 [] (by unfold FU; omega) (by omega) (by rw [List.append_nil]; exact g24) (by rw [List.length_nil]; omega)
  rw [List.nil_append, g24.1] at q
  exact q
theorem a134es {k x s : Nat} (hk : k < 4) (hx : x < QQ) (hs : s < 8) (hse : r_signerSecrets s = lN x) {sk : Int64} (hsk : hE (hL h0 (r_signerKeys s)) = sk) {Ct : List Int32} (hCt : GG r_certs (300 * s) Ct) (hC1 : Ct.length ≤ 128) (hC2 : r_certSizes s = nI Ct.length) {KH NH : Nat → Int64} {SE : Nat → Int32} {kh nh : Int64} {S : Nat → Int32} {T : Nat → Int64} {R : Nat → Int32} {m t l w n : Nat} {X : Nat → List Int32} {v : Nat × Nat} (hw : w ≤ 8) (hX : ∀ j, j < w → snG r_tape r_names r_nameSizes r_keys r_issued r_serials r_since r_reasons r_idNames r_idKeys r_idSerials KH NH SE kh nh S T R k m t l w j (X j)) (hf : TP r_tape) (hn : n ≤ 1500) (hv : nob n v) (e1 : x_ids = nI w) (e2 : x_nonceFrom = nI v.1) (e3 : x_nonceTo = nI v.2) (htp : x_taped = 0) (ht : t + l < 3155760000) (fu : Nat) : ok (j_answer_134 (fu + 1) r_tape x_taped r_out x_outs x_authorities r_names r_nameSizes r_secrets r_keys r_issued r_serials r_since r_reasons x_signers r_signerOf r_signerSecrets r_signerKeys r_certs r_certSizes x_answersFine x_answersElse x_hashed x_signedC x_signedZ r_shown r_draft x_drafted x_at x_items x_fault x_start x_sort x_from x_to x_number x_signatureAt x_innerFrom x_innerTo x_certSignature x_issuerFrom x_issuerTo x_holderFrom x_holderTo x_certSerial x_certFrom x_certTo x_certKey x_certFlags x_ids r_idNames r_idKeys r_idSerials x_nonceFrom x_nonceTo x_status x_tellerSort x_tellerFrom x_tellerTo x_bodyFrom x_bodyTo x_bodySignature x_hasCert r_states r_whens r_whys r_fresh r_laters (nI (s + 4)) (lN t) (lN l) 1 (nI k) 1 (nI w)) (AnG 0 (x_answersFine + 1) x_answersElse (anL (bdL (itm 162 (itm 4 (hbl sk 8))) t (catL X 0 w) (nonL 163 (sl r_tape v.1 (v.2 - v.1)))) x (itm 160 Ct))) := by
  have tel := encT_l t
  rw [j_answer_134, e1, if_pos (nI_le (by omega) (by omega)), if_neg i10]
  rw [if_neg i10, show (nI (s + 4) - 4 : Int32) = nI s from (by rw [show (4 : Int32) = nI 4 from rfl, sub_n (by omega), Nat.add_sub_cancel]), chk_t (inN hs (by omega)), nI_clamp (by omega), p_hashOfKey, Option.bind_some]
  dsimp only
  rw [hsk]
  have hr := p_layHash sk (WW_nil r_draft) (by decide)
  rw [List.nil_append] at hr
  refine ok.b hr (fun y28 g28 => ?_)
  have l1 := itm_le (s := 4) (Nat.le_of_eq (hbl_l sk 8))
  refine ok.b (p_wrap0 g28 (by omega) 162) (fun y29 g29 => ?_)
  have l2 := itm_le (s := 162) l1
  refine ok.b (p_layTime (t := t) (by omega) r_shown g29 (by omega)) (fun y30 g30 => ?_)
  rw [bnd_eq, g30.1]
  have q := a275s (r_tape := r_tape) (x_taped := x_taped) (r_out := r_out) (x_outs := x_outs) (x_authorities := x_authorities) (r_names := r_names) (r_nameSizes := r_nameSizes) (r_secrets := r_secrets) (r_keys := r_keys) (r_issued := r_issued) (r_serials := r_serials) (r_since := r_since) (r_reasons := r_reasons) (x_signers := x_signers) (r_signerOf := r_signerOf) (r_signerSecrets := r_signerSecrets) (r_signerKeys := r_signerKeys) (r_certs := r_certs) (r_certSizes := r_certSizes) (x_answersFine := x_answersFine) (x_answersElse := x_answersElse) (x_signedC := x_signedC) (x_signedZ := x_signedZ) (x_at := x_at) (x_items := x_items) (x_fault := x_fault) (x_start := x_start) (x_sort := x_sort) (x_from := x_from) (x_to := x_to) (x_number := x_number) (x_signatureAt := x_signatureAt) (x_innerFrom := x_innerFrom) (x_innerTo := x_innerTo) (x_certSignature := x_certSignature) (x_issuerFrom := x_issuerFrom) (x_issuerTo := x_issuerTo) (x_holderFrom := x_holderFrom) (x_holderTo := x_holderTo) (x_certSerial := x_certSerial) (x_certFrom := x_certFrom) (x_certTo := x_certTo) (x_certKey := x_certKey) (x_certFlags := x_certFlags) (x_ids := nI w) (r_idNames := r_idNames) (r_idKeys := r_idKeys) (r_idSerials := r_idSerials) (x_nonceFrom := x_nonceFrom) (x_nonceTo := x_nonceTo) (x_status := x_status) (x_tellerSort := x_tellerSort) (x_tellerFrom := x_tellerFrom) (x_tellerTo := x_tellerTo) (x_bodyFrom := x_bodyFrom) (x_bodyTo := x_bodyTo) (x_bodySignature := x_bodySignature) (x_hasCert := x_hasCert) (r_states := r_states) (r_whens := r_whens) (r_whys := r_whys) (r_fresh := r_fresh) (r_laters := r_laters) (k := k) hx hs hse hCt hC1 hC2 (Te := itm 162 (itm 4 (hbl sk 8))) hw hX hf hn hv rfl e2 e3 (by omega) htp w 0 FU (hL h0 (r_signerKeys s)) y30.1 y30.2.1 y30.2.2 [] (by unfold FU; omega) (by omega) (by rw [List.append_nil]; exact g30) (by rw [List.length_nil]; omega)
  rw [List.nil_append, g30.1] at q
  exact q
theorem a134 {k x : Nat} (hk : k < 4) (hx : x < QQ) (hse : r_secrets k = lN x) {An : List Int32} (hA : GG r_names (16 * k) An) (hA16 : An.length ≤ 16) (hns : r_nameSizes k = nI An.length) (p : Int32) {KH NH : Nat → Int64} {SE : Nat → Int32} {kh nh : Int64} {S : Nat → Int32} {T : Nat → Int64} {R : Nat → Int32} {m t l w n : Nat} {X : Nat → List Int32} {v : Nat × Nat} (hw : w ≤ 8) (hX : ∀ j, j < w → snG r_tape r_names r_nameSizes r_keys r_issued r_serials r_since r_reasons r_idNames r_idKeys r_idSerials KH NH SE kh nh S T R k m t l w j (X j)) (hf : TP r_tape) (hn : n ≤ 1500) (hv : nob n v) (e1 : x_ids = nI w) (e2 : x_nonceFrom = nI v.1) (e3 : x_nonceTo = nI v.2) (htp : x_taped = 0) (ht : t + l < 3155760000) (hI : ∀ j, j < w → ∀ xh, ok (f_isOf r_tape r_names r_nameSizes r_keys xh r_idNames r_idKeys (nI j) (nI k)) (fun y => y.1 = if NH j = nh ∧ KH j = kh then 1 else 0)) : ∀ (i j fu : Nat) (xh : Int64), i < fu → j + i = w → ok (j_answer_134 fu r_tape x_taped r_out x_outs x_authorities r_names r_nameSizes r_secrets r_keys r_issued r_serials r_since r_reasons x_signers r_signerOf r_signerSecrets r_signerKeys r_certs r_certSizes x_answersFine x_answersElse xh x_signedC x_signedZ r_shown r_draft x_drafted x_at x_items x_fault x_start x_sort x_from x_to x_number x_signatureAt x_innerFrom x_innerTo x_certSignature x_issuerFrom x_issuerTo x_holderFrom x_holderTo x_certSerial x_certFrom x_certTo x_certKey x_certFlags x_ids r_idNames r_idKeys r_idSerials x_nonceFrom x_nonceTo x_status x_tellerSort x_tellerFrom x_tellerTo x_bodyFrom x_bodyTo x_bodySignature x_hasCert r_states r_whens r_whys r_fresh r_laters p (lN t) (lN l) 0 (nI k) 1 (nI j)) (AnG 0 (x_answersFine + 1) x_answersElse (anL (bdL (itm 161 (itm 4 An)) t (catL X 0 w) (nonL 163 (sl r_tape v.1 (v.2 - v.1)))) x [])) ∧ ((∃ q, j ≤ q ∧ q < w ∧ NH q = nh ∧ KH q = kh) → ok (j_answer_134 fu r_tape x_taped r_out x_outs x_authorities r_names r_nameSizes r_secrets r_keys r_issued r_serials r_since r_reasons x_signers r_signerOf r_signerSecrets r_signerKeys r_certs r_certSizes x_answersFine x_answersElse xh x_signedC x_signedZ r_shown r_draft x_drafted x_at x_items x_fault x_start x_sort x_from x_to x_number x_signatureAt x_innerFrom x_innerTo x_certSignature x_issuerFrom x_issuerTo x_holderFrom x_holderTo x_certSerial x_certFrom x_certTo x_certKey x_certFlags x_ids r_idNames r_idKeys r_idSerials x_nonceFrom x_nonceTo x_status x_tellerSort x_tellerFrom x_tellerTo x_bodyFrom x_bodyTo x_bodySignature x_hasCert r_states r_whens r_whys r_fresh r_laters p (lN t) (lN l) 0 (nI k) 0 (nI j)) (AnG 0 (x_answersFine + 1) x_answersElse (anL (bdL (itm 161 (itm 4 An)) t (catL X 0 w) (nonL 163 (sl r_tape v.1 (v.2 - v.1)))) x []))) ∧ ((∀ q, j ≤ q → q < w → ¬ (NH q = nh ∧ KH q = kh)) → ok (j_answer_134 fu r_tape x_taped r_out x_outs x_authorities r_names r_nameSizes r_secrets r_keys r_issued r_serials r_since r_reasons x_signers r_signerOf r_signerSecrets r_signerKeys r_certs r_certSizes x_answersFine x_answersElse xh x_signedC x_signedZ r_shown r_draft x_drafted x_at x_items x_fault x_start x_sort x_from x_to x_number x_signatureAt x_innerFrom x_innerTo x_certSignature x_issuerFrom x_issuerTo x_holderFrom x_holderTo x_certSerial x_certFrom x_certTo x_certKey x_certFlags x_ids r_idNames r_idKeys r_idSerials x_nonceFrom x_nonceTo x_status x_tellerSort x_tellerFrom x_tellerTo x_bodyFrom x_bodyTo x_bodySignature x_hasCert r_states r_whens r_whys r_fresh r_laters p (lN t) (lN l) 0 (nI k) 0 (nI j)) (AnG 6 x_answersFine (x_answersElse + 1) (itm 48 (itm 10 [BB 6])))) := by
  intro i
  induction i with
  | zero =>
    intro j fu xh hfu hj
    obtain ⟨fu, rfl⟩ : ∃ g, fu = g + 1 := ⟨fu - 1, by omega⟩
    obtain rfl : j = w := by omega
    refine ⟨?_, fun ⟨p, p1, p2, _⟩ => absurd p1 (by omega), fun _ => ?_⟩
    · exact a134e hk hx hse hA hA16 hns p hw hX hf hn hv e1 e2 e3 htp ht fu
    · rw [j_answer_134, e1, if_pos (nI_le (by omega) (by omega)), if_pos rfl]
      exact ok.b (r_status 6) (fun y g => ok.s ⟨g.1, htp, g.2.1, rfl, g.2.2⟩)
  | succ i ih =>
    intro j fu xh hfu hj
    obtain ⟨fu, rfl⟩ : ∃ g, fu = g + 1 := ⟨fu - 1, by omega⟩
    have hg : ¬ nI w ≤ nI j := nI_ge (by omega) (by omega)
    refine ⟨?_, ?_⟩
    · rw [j_answer_134, e1, if_neg hg, if_neg i10, bnd_eq, nI_1, ← e1]
      exact (ih (j + 1) fu xh (by omega) (by omega)).1
    · obtain ⟨y35, a1, a2⟩ := hI j (by omega) xh
      obtain ⟨h0, h1, h2⟩ := ih (j + 1) fu y35.2 (by omega) (by omega)
      rw [j_answer_134, e1, if_neg hg, if_pos rfl, a1, Option.bind_some, a2]
      by_cases q : NH j = nh ∧ KH j = kh
      · rw [if_pos q, if_neg i10, bnd_eq, nI_1, ← e1]
        exact ⟨fun _ => h0, fun h => absurd q (h j (Nat.le_refl _) (by omega))⟩
      · rw [if_neg q, if_pos rfl, bnd_eq, nI_1, ← e1]
        refine ⟨fun ⟨p, p1, p2, p3⟩ => h1 ⟨p, ?_, p2, p3⟩, fun h => h2 (fun p p1 p2 => h p (by omega) p2)⟩
        by_cases e : p = j
        · subst e; exact absurd p3 q
        · omega
theorem a134s {k x s : Nat} (hk : k < 4) (hx : x < QQ) (hs : s < 8) (hse : r_signerSecrets s = lN x) {sk : Int64} (hsk : hE (hL h0 (r_signerKeys s)) = sk) {Ct : List Int32} (hCt : GG r_certs (300 * s) Ct) (hC1 : Ct.length ≤ 128) (hC2 : r_certSizes s = nI Ct.length) {KH NH : Nat → Int64} {SE : Nat → Int32} {kh nh : Int64} {S : Nat → Int32} {T : Nat → Int64} {R : Nat → Int32} {m t l w n : Nat} {X : Nat → List Int32} {v : Nat × Nat} (hw : w ≤ 8) (hX : ∀ j, j < w → snG r_tape r_names r_nameSizes r_keys r_issued r_serials r_since r_reasons r_idNames r_idKeys r_idSerials KH NH SE kh nh S T R k m t l w j (X j)) (hf : TP r_tape) (hn : n ≤ 1500) (hv : nob n v) (e1 : x_ids = nI w) (e2 : x_nonceFrom = nI v.1) (e3 : x_nonceTo = nI v.2) (htp : x_taped = 0) (ht : t + l < 3155760000) (hI : ∀ j, j < w → ∀ xh, ok (f_isOf r_tape r_names r_nameSizes r_keys xh r_idNames r_idKeys (nI j) (nI k)) (fun y => y.1 = if NH j = nh ∧ KH j = kh then 1 else 0)) : ∀ (i j fu : Nat) (xh : Int64), i < fu → j + i = w → ok (j_answer_134 fu r_tape x_taped r_out x_outs x_authorities r_names r_nameSizes r_secrets r_keys r_issued r_serials r_since r_reasons x_signers r_signerOf r_signerSecrets r_signerKeys r_certs r_certSizes x_answersFine x_answersElse xh x_signedC x_signedZ r_shown r_draft x_drafted x_at x_items x_fault x_start x_sort x_from x_to x_number x_signatureAt x_innerFrom x_innerTo x_certSignature x_issuerFrom x_issuerTo x_holderFrom x_holderTo x_certSerial x_certFrom x_certTo x_certKey x_certFlags x_ids r_idNames r_idKeys r_idSerials x_nonceFrom x_nonceTo x_status x_tellerSort x_tellerFrom x_tellerTo x_bodyFrom x_bodyTo x_bodySignature x_hasCert r_states r_whens r_whys r_fresh r_laters (nI (s + 4)) (lN t) (lN l) 1 (nI k) 1 (nI j)) (AnG 0 (x_answersFine + 1) x_answersElse (anL (bdL (itm 162 (itm 4 (hbl sk 8))) t (catL X 0 w) (nonL 163 (sl r_tape v.1 (v.2 - v.1)))) x (itm 160 Ct))) ∧ ((∃ q, j ≤ q ∧ q < w ∧ NH q = nh ∧ KH q = kh) → ok (j_answer_134 fu r_tape x_taped r_out x_outs x_authorities r_names r_nameSizes r_secrets r_keys r_issued r_serials r_since r_reasons x_signers r_signerOf r_signerSecrets r_signerKeys r_certs r_certSizes x_answersFine x_answersElse xh x_signedC x_signedZ r_shown r_draft x_drafted x_at x_items x_fault x_start x_sort x_from x_to x_number x_signatureAt x_innerFrom x_innerTo x_certSignature x_issuerFrom x_issuerTo x_holderFrom x_holderTo x_certSerial x_certFrom x_certTo x_certKey x_certFlags x_ids r_idNames r_idKeys r_idSerials x_nonceFrom x_nonceTo x_status x_tellerSort x_tellerFrom x_tellerTo x_bodyFrom x_bodyTo x_bodySignature x_hasCert r_states r_whens r_whys r_fresh r_laters (nI (s + 4)) (lN t) (lN l) 1 (nI k) 0 (nI j)) (AnG 0 (x_answersFine + 1) x_answersElse (anL (bdL (itm 162 (itm 4 (hbl sk 8))) t (catL X 0 w) (nonL 163 (sl r_tape v.1 (v.2 - v.1)))) x (itm 160 Ct)))) ∧ ((∀ q, j ≤ q → q < w → ¬ (NH q = nh ∧ KH q = kh)) → ok (j_answer_134 fu r_tape x_taped r_out x_outs x_authorities r_names r_nameSizes r_secrets r_keys r_issued r_serials r_since r_reasons x_signers r_signerOf r_signerSecrets r_signerKeys r_certs r_certSizes x_answersFine x_answersElse xh x_signedC x_signedZ r_shown r_draft x_drafted x_at x_items x_fault x_start x_sort x_from x_to x_number x_signatureAt x_innerFrom x_innerTo x_certSignature x_issuerFrom x_issuerTo x_holderFrom x_holderTo x_certSerial x_certFrom x_certTo x_certKey x_certFlags x_ids r_idNames r_idKeys r_idSerials x_nonceFrom x_nonceTo x_status x_tellerSort x_tellerFrom x_tellerTo x_bodyFrom x_bodyTo x_bodySignature x_hasCert r_states r_whens r_whys r_fresh r_laters (nI (s + 4)) (lN t) (lN l) 1 (nI k) 0 (nI j)) (AnG 6 x_answersFine (x_answersElse + 1) (itm 48 (itm 10 [BB 6])))) := by
  intro i
  induction i with
  | zero =>
    intro j fu xh hfu hj
    obtain ⟨fu, rfl⟩ : ∃ g, fu = g + 1 := ⟨fu - 1, by omega⟩
    obtain rfl : j = w := by omega
    refine ⟨?_, fun ⟨p, p1, p2, _⟩ => absurd p1 (by omega), fun _ => ?_⟩
    · exact a134es hk hx hs hse hsk hCt hC1 hC2 hw hX hf hn hv e1 e2 e3 htp ht fu
    · rw [j_answer_134, e1, if_pos (nI_le (by omega) (by omega)), if_pos rfl]
      exact ok.b (r_status 6) (fun y g => ok.s ⟨g.1, htp, g.2.1, rfl, g.2.2⟩)
  | succ i ih =>
    intro j fu xh hfu hj
    obtain ⟨fu, rfl⟩ : ∃ g, fu = g + 1 := ⟨fu - 1, by omega⟩
    have hg : ¬ nI w ≤ nI j := nI_ge (by omega) (by omega)
    refine ⟨?_, ?_⟩
    · rw [j_answer_134, e1, if_neg hg, if_neg i10, bnd_eq, nI_1, ← e1]
      exact (ih (j + 1) fu xh (by omega) (by omega)).1
    · obtain ⟨y35, a1, a2⟩ := hI j (by omega) xh
      obtain ⟨h0, h1, h2⟩ := ih (j + 1) fu y35.2 (by omega) (by omega)
      rw [j_answer_134, e1, if_neg hg, if_pos rfl, a1, Option.bind_some, a2]
      by_cases q : NH j = nh ∧ KH j = kh
      · rw [if_pos q, if_neg i10, bnd_eq, nI_1, ← e1]
        exact ⟨fun _ => h0, fun h => absurd q (h j (Nat.le_refl _) (by omega))⟩
      · rw [if_neg q, if_pos rfl, bnd_eq, nI_1, ← e1]
        refine ⟨fun ⟨p, p1, p2, p3⟩ => h1 ⟨p, ?_, p2, p3⟩, fun h => h2 (fun p p1 p2 => h p (by omega) p2)⟩
        by_cases e : p = j
        · subst e; exact absurd p3 q
        · omega
end RB
