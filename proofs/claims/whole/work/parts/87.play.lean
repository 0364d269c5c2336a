/-! PURE 37: the reference lays an answer -/
def AnG {β : Type} (s fi el : Int32) (A : List Int32) (y : Int32 × Int32 × (Nat → Int32) × Int32 × Int32 × Int32 × β) : Prop := y.1 = s ∧ y.2.1 = 0 ∧ WW y.2.2.1 y.2.2.2.1 A ∧ y.2.2.2.2.1 = fi ∧ y.2.2.2.2.2.1 = el
section RA
set_option linter.unusedVariables false
variable {r_tape r_out r_names r_nameSizes r_issued r_serials r_reasons r_signerOf r_certs r_certSizes r_shown r_draft r_idNames r_idKeys r_states r_whys : (Nat → Int32)} {x_taped x_outs x_authorities x_signers x_answersFine x_answersElse x_drafted x_at x_items x_fault x_start x_sort x_from x_to x_signatureAt x_innerFrom x_innerTo x_certSignature x_issuerFrom x_issuerTo x_holderFrom x_holderTo x_certFlags x_ids x_nonceFrom x_nonceTo x_status x_tellerSort x_tellerFrom x_tellerTo x_bodyFrom x_bodyTo x_bodySignature x_hasCert : Int32} {r_secrets r_keys r_since r_signerSecrets r_signerKeys r_idSerials r_whens r_fresh r_laters : (Nat → Int64)} {x_hashed x_signedC x_signedZ x_number x_certSerial x_certFrom x_certTo x_certKey : Int64}
theorem a467 : ∀ (m fu : Nat) (dr : Nat → Int32), m < fu → m + 3 ≤ 4000 → (∀ j, j < m → isb (dr j)) → ∃ F fu', j_answer_467 fu r_tape x_taped r_out x_outs x_authorities r_names r_nameSizes r_secrets r_keys r_issued r_serials r_since r_reasons x_signers r_signerOf r_signerSecrets r_signerKeys r_certs r_certSizes x_answersFine x_answersElse x_hashed x_signedC x_signedZ r_shown dr x_drafted x_at x_items x_fault x_start x_sort x_from x_to x_number x_signatureAt x_innerFrom x_innerTo x_certSignature x_issuerFrom x_issuerTo x_holderFrom x_holderTo x_certSerial x_certFrom x_certTo x_certKey x_certFlags x_ids r_idNames r_idKeys r_idSerials x_nonceFrom x_nonceTo x_status x_tellerSort x_tellerFrom x_tellerTo x_bodyFrom x_bodyTo x_bodySignature x_hasCert r_states r_whens r_whys r_fresh r_laters (nI m + (-1)) = j_answer_467 (fu' + 1) r_tape x_taped r_out x_outs x_authorities r_names r_nameSizes r_secrets r_keys r_issued r_serials r_since r_reasons x_signers r_signerOf r_signerSecrets r_signerKeys r_certs r_certSizes x_answersFine x_answersElse x_hashed x_signedC x_signedZ r_shown F x_drafted x_at x_items x_fault x_start x_sort x_from x_to x_number x_signatureAt x_innerFrom x_innerTo x_certSignature x_issuerFrom x_issuerTo x_holderFrom x_holderTo x_certSerial x_certFrom x_certTo x_certKey x_certFlags x_ids r_idNames r_idKeys r_idSerials x_nonceFrom x_nonceTo x_status x_tellerSort x_tellerFrom x_tellerTo x_bodyFrom x_bodyTo x_bodySignature x_hasCert r_states r_whens r_whys r_fresh r_laters (-1) ∧ (∀ j, m + 3 ≤ j → F j = dr j) ∧ (∀ j, j < m → F (3 + j) = dr j) := by
  intro m
  induction m with
  | zero =>
    intro fu dr hfu _ _
    obtain ⟨fu, rfl⟩ : ∃ g, fu = g + 1 := ⟨fu - 1, by omega⟩
    exact ⟨dr, fu, rfl, fun _ _ => rfl, fun j hj => absurd hj (by omega)⟩
  | succ m ih =>
    intro fu dr hfu hb hi
    obtain ⟨fu, rfl⟩ : ∃ g, fu = g + 1 := ⟨fu - 1, by omega⟩
    have hup : ∀ j, j ≠ m + 3 → upd dr (m + 3) (dr m) j = dr j := fun j hj => pk_un hj
    obtain ⟨F, fu', e, e1, e2⟩ := ih fu (upd dr (m + 3) (dr m)) (by omega) (by omega) (fun j hj => by rw [hup _ (by omega)]; exact hi j (by omega))
    refine ⟨F, fu', ?_, fun j hj => by rw [e1 j (by omega), hup _ (by omega)], fun j hj => ?_⟩
    · rw [← e, pk_m1, j_answer_467, if_neg (nI_pos (by omega)), chk_t (inN (by omega) (by omega)), show (nI m + 3 : Int32) = nI (m + 3) from nI_add m 3, chk_t (inN (by omega) (by omega)), nI_clamp (by omega), nI_clamp (by omega), bnd_eq, bnd_eq, BB_of (hi m (by omega))]
    · by_cases hjm : j = m
      · subst hjm
        rw [e1 _ (by omega), Nat.add_comm 3 j]
        exact pk_us
      · rw [e2 j (by omega), hup _ (by omega)]
theorem a467e {A : List Int32} {dr : Nat → Int32} {dl : Int32} (h : WW dr dl A) (hA : A.length ≤ 1400) (htp : x_taped = 0) : ok (j_answer_467 FU r_tape x_taped r_out x_outs x_authorities r_names r_nameSizes r_secrets r_keys r_issued r_serials r_since r_reasons x_signers r_signerOf r_signerSecrets r_signerKeys r_certs r_certSizes x_answersFine x_answersElse x_hashed x_signedC x_signedZ r_shown dr dl x_at x_items x_fault x_start x_sort x_from x_to x_number x_signatureAt x_innerFrom x_innerTo x_certSignature x_issuerFrom x_issuerTo x_holderFrom x_holderTo x_certSerial x_certFrom x_certTo x_certKey x_certFlags x_ids r_idNames r_idKeys r_idSerials x_nonceFrom x_nonceTo x_status x_tellerSort x_tellerFrom x_tellerTo x_bodyFrom x_bodyTo x_bodySignature x_hasCert r_states r_whens r_whys r_fresh r_laters (dl - 1)) (AnG 0 (x_answersFine + 1) x_answersElse (itm 48 (itm 10 [BB 0] ++ A))) := by
  obtain ⟨rfl, h⟩ := h
  rw [sub1]
  obtain ⟨F, fu', e, e1, e2⟩ := a467 (r_tape := r_tape) (x_taped := x_taped) (r_out := r_out) (x_outs := x_outs) (x_authorities := x_authorities) (r_names := r_names) (r_nameSizes := r_nameSizes) (r_secrets := r_secrets) (r_keys := r_keys) (r_issued := r_issued) (r_serials := r_serials) (r_since := r_since) (r_reasons := r_reasons) (x_signers := x_signers) (r_signerOf := r_signerOf) (r_signerSecrets := r_signerSecrets) (r_signerKeys := r_signerKeys) (r_certs := r_certs) (r_certSizes := r_certSizes) (x_answersFine := x_answersFine) (x_answersElse := x_answersElse) (x_hashed := x_hashed) (x_signedC := x_signedC) (x_signedZ := x_signedZ) (r_shown := r_shown) (x_drafted := nI A.length) (x_at := x_at) (x_items := x_items) (x_fault := x_fault) (x_start := x_start) (x_sort := x_sort) (x_from := x_from) (x_to := x_to) (x_number := x_number) (x_signatureAt := x_signatureAt) (x_innerFrom := x_innerFrom) (x_innerTo := x_innerTo) (x_certSignature := x_certSignature) (x_issuerFrom := x_issuerFrom) (x_issuerTo := x_issuerTo) (x_holderFrom := x_holderFrom) (x_holderTo := x_holderTo) (x_certSerial := x_certSerial) (x_certFrom := x_certFrom) (x_certTo := x_certTo) (x_certKey := x_certKey) (x_certFlags := x_certFlags) (x_ids := x_ids) (r_idNames := r_idNames) (r_idKeys := r_idKeys) (r_idSerials := r_idSerials) (x_nonceFrom := x_nonceFrom) (x_nonceTo := x_nonceTo) (x_status := x_status) (x_tellerSort := x_tellerSort) (x_tellerFrom := x_tellerFrom) (x_tellerTo := x_tellerTo) (x_bodyFrom := x_bodyFrom) (x_bodyTo := x_bodyTo) (x_bodySignature := x_bodySignature) (x_hasCert := x_hasCert) (r_states := r_states) (r_whens := r_whens) (r_whys := r_whys) (r_fresh := r_fresh) (r_laters := r_laters) A.length FU dr (by unfold FU; omega) (by omega) (fun j hj => by have := GG_at h hj; rwa [Nat.zero_add] at this)
  rw [e, j_answer_467, if_pos (by decide), chk_t (by decide), bnd_eq, chk_t (by decide), bnd_eq, chk_t (by decide), bnd_eq, bnd_eq, show (nI A.length + 3 : Int32) = nI (A.length + 3) from nI_add _ 3]
  have hA3 : GG F 3 A := GG_c h (fun j hj => by rw [e2 j hj, Nat.zero_add])
  have c10 : itm 10 [BB 0] = [BB 10, BB 1, BB 0] := rfl
  have hW : WW (upd (upd (upd F (0 : Int32).toNatClampNeg (vp_nar .byte (10 : Int32))) (1 : Int32).toNatClampNeg (vp_nar .byte (1 : Int32))) (2 : Int32).toNatClampNeg (vp_nar .byte (0 : Int32))) (nI (A.length + 3)) (itm 10 [BB 0] ++ A) := by
    refine ⟨by rw [List.length_append, c10]; exact congrArg nI (Nat.add_comm _ _), ?_⟩
    rw [c10, show (0 : Int32).toNatClampNeg = 0 from rfl, show (1 : Int32).toNatClampNeg = 1 from rfl, show (2 : Int32).toNatClampNeg = 2 from rfl]
    refine GG_cons (by rw [pk_un (by decide), pk_un (by decide), pk_us]; rfl) (BB_b _) (GG_cons (by rw [pk_un (by decide), pk_us]; rfl) (BB_b _) (GG_cons (by rw [pk_us]; rfl) (BB_b _) ?_))
    exact GG_u (GG_u (GG_u hA3 (by omega)) (by omega)) (by omega)
  have hl3 : (itm 10 [BB 0] ++ A).length ≤ 1403 := by rw [List.length_append, c10, show [BB 10, BB 1, BB 0].length = 3 from rfl]; omega
  refine ok.b (p_wrap0 hW (by omega) 48) (fun y69 g69 => ?_)
  rw [bnd_eq]
  have hl4 := itm_le (s := 48) hl3
  refine ok.b (p_tellDraft g69 (by omega) x_outs r_out) (fun y71 g71 => ?_)
  rw [bnd_eq]
  exact ok.s ⟨rfl, htp, g71.2, rfl, rfl⟩
theorem a444 {A : List Int32} {dr : Nat → Int32} {dl : Int32} (h : WW dr dl A) (hA : A.length ≤ 1390) (htp : x_taped = 0) : ok (j_answer_444 r_tape x_taped r_out x_outs x_authorities r_names r_nameSizes r_secrets r_keys r_issued r_serials r_since r_reasons x_signers r_signerOf r_signerSecrets r_signerKeys r_certs r_certSizes x_answersFine x_answersElse x_hashed x_signedC x_signedZ r_shown dr dl x_at x_items x_fault x_start x_sort x_from x_to x_number x_signatureAt x_innerFrom x_innerTo x_certSignature x_issuerFrom x_issuerTo x_holderFrom x_holderTo x_certSerial x_certFrom x_certTo x_certKey x_certFlags x_ids r_idNames r_idKeys r_idSerials x_nonceFrom x_nonceTo x_status x_tellerSort x_tellerFrom x_tellerTo x_bodyFrom x_bodyTo x_bodySignature x_hasCert r_states r_whens r_whys r_fresh r_laters) (AnG 0 (x_answersFine + 1) x_answersElse (itm 48 (itm 10 [BB 0] ++ itm 160 (itm 48 A)))) := by
  unfold j_answer_444
  refine ok.b (p_wrap0 h (by omega) 48) (fun y58 g58 => ?_)
  have l1 := itm_le (s := 48) hA
  refine ok.b (p_wrap0 g58 (by omega) 160) (fun y59 g59 => ?_)
  have l2 := itm_le (s := 160) l1
  rw [bnd_eq]
  exact a467e g59 (by omega) htp
theorem a385 {B : List Int32} {dr : Nat → Int32} {dl : Int32} (h : WW dr dl B) (hB : B.length ≤ 1200) (htp : x_taped = 0) {x : Nat} (hx : x < QQ) (p : Int32) : ok (j_answer_385 r_tape x_taped r_out x_outs x_authorities r_names r_nameSizes r_secrets r_keys r_issued r_serials r_since r_reasons x_signers r_signerOf r_signerSecrets r_signerKeys r_certs r_certSizes x_answersFine x_answersElse x_hashed x_signedC x_signedZ r_shown dr dl x_at x_items x_fault x_start x_sort x_from x_to x_number x_signatureAt x_innerFrom x_innerTo x_certSignature x_issuerFrom x_issuerTo x_holderFrom x_holderTo x_certSerial x_certFrom x_certTo x_certKey x_certFlags x_ids r_idNames r_idKeys r_idSerials x_nonceFrom x_nonceTo x_status x_tellerSort x_tellerFrom x_tellerTo x_bodyFrom x_bodyTo x_bodySignature x_hasCert r_states r_whens r_whys r_fresh r_laters p 0 (lN x)) (AnG 0 (x_answersFine + 1) x_answersElse (anL B x [])) := by
  unfold j_answer_385
  refine ok.b (p_laySig hx h (by omega) x_hashed x_signedC x_signedZ) (fun y52 g52 => ?_)
  rw [if_pos rfl]
  have gl := sig_l x (hl B)
  have q := a444 (r_tape := r_tape) (x_taped := x_taped) (r_out := r_out) (x_outs := x_outs) (x_authorities := x_authorities) (r_names := r_names) (r_nameSizes := r_nameSizes) (r_secrets := r_secrets) (r_keys := r_keys) (r_issued := r_issued) (r_serials := r_serials) (r_since := r_since) (r_reasons := r_reasons) (x_signers := x_signers) (r_signerOf := r_signerOf) (r_signerSecrets := r_signerSecrets) (r_signerKeys := r_signerKeys) (r_certs := r_certs) (r_certSizes := r_certSizes) (x_answersFine := x_answersFine) (x_answersElse := x_answersElse) (x_hashed := y52.1) (x_signedC := y52.2.1) (x_signedZ := y52.2.2.1) (r_shown := r_shown) (x_at := x_at) (x_items := x_items) (x_fault := x_fault) (x_start := x_start) (x_sort := x_sort) (x_from := x_from) (x_to := x_to) (x_number := x_number) (x_signatureAt := x_signatureAt) (x_innerFrom := x_innerFrom) (x_innerTo := x_innerTo) (x_certSignature := x_certSignature) (x_issuerFrom := x_issuerFrom) (x_issuerTo := x_issuerTo) (x_holderFrom := x_holderFrom) (x_holderTo := x_holderTo) (x_certSerial := x_certSerial) (x_certFrom := x_certFrom) (x_certTo := x_certTo) (x_certKey := x_certKey) (x_certFlags := x_certFlags) (x_ids := x_ids) (r_idNames := r_idNames) (r_idKeys := r_idKeys) (r_idSerials := r_idSerials) (x_nonceFrom := x_nonceFrom) (x_nonceTo := x_nonceTo) (x_status := x_status) (x_tellerSort := x_tellerSort) (x_tellerFrom := x_tellerFrom) (x_tellerTo := x_tellerTo) (x_bodyFrom := x_bodyFrom) (x_bodyTo := x_bodyTo) (x_bodySignature := x_bodySignature) (x_hasCert := x_hasCert) (r_states := r_states) (r_whens := r_whens) (r_whys := r_whys) (r_fresh := r_fresh) (r_laters := r_laters) g52 (by rw [List.length_append]; omega) htp
  unfold anL
  rw [List.append_nil]
  exact q
theorem a385s {B : List Int32} {dr : Nat → Int32} {dl : Int32} (h : WW dr dl B) (hB : B.length ≤ 1200) (htp : x_taped = 0) {x : Nat} (hx : x < QQ) {s : Nat} (hs : s < 8) {Ct : List Int32} (hCt : GG r_certs (300 * s) Ct) (hC1 : Ct.length ≤ 128) (hC2 : r_certSizes s = nI Ct.length) : ok (j_answer_385 r_tape x_taped r_out x_outs x_authorities r_names r_nameSizes r_secrets r_keys r_issued r_serials r_since r_reasons x_signers r_signerOf r_signerSecrets r_signerKeys r_certs r_certSizes x_answersFine x_answersElse x_hashed x_signedC x_signedZ r_shown dr dl x_at x_items x_fault x_start x_sort x_from x_to x_number x_signatureAt x_innerFrom x_innerTo x_certSignature x_issuerFrom x_issuerTo x_holderFrom x_holderTo x_certSerial x_certFrom x_certTo x_certKey x_certFlags x_ids r_idNames r_idKeys r_idSerials x_nonceFrom x_nonceTo x_status x_tellerSort x_tellerFrom x_tellerTo x_bodyFrom x_bodyTo x_bodySignature x_hasCert r_states r_whens r_whys r_fresh r_laters (nI (s + 4)) 1 (lN x)) (AnG 0 (x_answersFine + 1) x_answersElse (anL B x (itm 160 Ct))) := by
  unfold j_answer_385
  refine ok.b (p_laySig hx h (by omega) x_hashed x_signedC x_signedZ) (fun y52 g52 => ?_)
  have gl := sig_l x (hl B)
  rw [if_neg i10, bnd_eq, show (nI (s + 4) - 4 : Int32) = nI s from (by rw [show (4 : Int32) = nI 4 from rfl, sub_n (by omega), Nat.add_sub_cancel]), chk_t (inN hs (by omega)), nI_clamp (by omega), hC2, show (300 : Int32) * nI s = nI (300 * s) from pk_mul 300 s, nI_add]
  have hr := p_layRow (Ng := 2400) (a := 300 * s) (g := r_certs) (by decide) (m := Ct.length) (by unfold FU; omega) (by omega) (fun j hj => GG_at hCt hj) g52 (by rw [List.length_append]; omega)
  rw [sl_GG Ct _ hCt] at hr
  refine ok.b hr (fun y56 g56 => ?_)
  rw [g52.1]
  refine ok.b (p_wrap g56 (by rw [List.length_append]; omega) 160) (fun y57 g57 => ?_)
  have cl := itm_le (s := 160) hC1
  exact a444 (r_tape := r_tape) (x_taped := x_taped) (r_out := r_out) (x_outs := x_outs) (x_authorities := x_authorities) (r_names := r_names) (r_nameSizes := r_nameSizes) (r_secrets := r_secrets) (r_keys := r_keys) (r_issued := r_issued) (r_serials := r_serials) (r_since := r_since) (r_reasons := r_reasons) (x_signers := x_signers) (r_signerOf := r_signerOf) (r_signerSecrets := r_signerSecrets) (r_signerKeys := r_signerKeys) (r_certs := r_certs) (r_certSizes := r_certSizes) (x_answersFine := x_answersFine) (x_answersElse := x_answersElse) (x_hashed := y52.1) (x_signedC := y52.2.1) (x_signedZ := y52.2.2.1) (r_shown := r_shown) (x_at := x_at) (x_items := x_items) (x_fault := x_fault) (x_start := x_start) (x_sort := x_sort) (x_from := x_from) (x_to := x_to) (x_number := x_number) (x_signatureAt := x_signatureAt) (x_innerFrom := x_innerFrom) (x_innerTo := x_innerTo) (x_certSignature := x_certSignature) (x_issuerFrom := x_issuerFrom) (x_issuerTo := x_issuerTo) (x_holderFrom := x_holderFrom) (x_holderTo := x_holderTo) (x_certSerial := x_certSerial) (x_certFrom := x_certFrom) (x_certTo := x_certTo) (x_certKey := x_certKey) (x_certFlags := x_certFlags) (x_ids := x_ids) (r_idNames := r_idNames) (r_idKeys := r_idKeys) (r_idSerials := r_idSerials) (x_nonceFrom := x_nonceFrom) (x_nonceTo := x_nonceTo) (x_status := x_status) (x_tellerSort := x_tellerSort) (x_tellerFrom := x_tellerFrom) (x_tellerTo := x_tellerTo) (x_bodyFrom := x_bodyFrom) (x_bodyTo := x_bodyTo) (x_bodySignature := x_bodySignature) (x_hasCert := x_hasCert) (r_states := r_states) (r_whens := r_whens) (r_whys := r_whys) (r_fresh := r_fresh) (r_laters := r_laters) g57 (by rw [List.length_append, List.length_append]; omega) htp
theorem a354 {k x : Nat} (hk : k < 4) (hx : x < QQ) (hse : r_secrets k = lN x) (p : Int32) {C : List Int32} {dr : Nat → Int32} {dl : Int32} (h : WW dr dl C) (hC : C.length ≤ 1190) (htp : x_taped = 0) : ok (j_answer_354 r_tape x_taped r_out x_outs x_authorities r_names r_nameSizes r_secrets r_keys r_issued r_serials r_since r_reasons x_signers r_signerOf r_signerSecrets r_signerKeys r_certs r_certSizes x_answersFine x_answersElse x_hashed x_signedC x_signedZ r_shown dr dl x_at x_items x_fault x_start x_sort x_from x_to x_number x_signatureAt x_innerFrom x_innerTo x_certSignature x_issuerFrom x_issuerTo x_holderFrom x_holderTo x_certSerial x_certFrom x_certTo x_certKey x_certFlags x_ids r_idNames r_idKeys r_idSerials x_nonceFrom x_nonceTo x_status x_tellerSort x_tellerFrom x_tellerTo x_bodyFrom x_bodyTo x_bodySignature x_hasCert r_states r_whens r_whys r_fresh r_laters p 0 (nI k)) (AnG 0 (x_answersFine + 1) x_answersElse (anL (itm 48 C) x [])) := by
  unfold j_answer_354
  refine ok.b (p_wrap0 h (by omega) 48) (fun y48 g48 => ?_)
  have cl := itm_le (s := 48) hC
  rw [if_pos rfl, chk_t (inN hk (by omega)), nI_clamp (by omega), hse]
  exact a385 g48 (by omega) htp hx p
theorem a354s {k x s : Nat} (hx : x < QQ) (hs : s < 8) (hse : r_signerSecrets s = lN x) {Ct : List Int32} (hCt : GG r_certs (300 * s) Ct) (hC1 : Ct.length ≤ 128) (hC2 : r_certSizes s = nI Ct.length) {C : List Int32} {dr : Nat → Int32} {dl : Int32} (h : WW dr dl C) (hC : C.length ≤ 1190) (htp : x_taped = 0) : ok (j_answer_354 r_tape x_taped r_out x_outs x_authorities r_names r_nameSizes r_secrets r_keys r_issued r_serials r_since r_reasons x_signers r_signerOf r_signerSecrets r_signerKeys r_certs r_certSizes x_answersFine x_answersElse x_hashed x_signedC x_signedZ r_shown dr dl x_at x_items x_fault x_start x_sort x_from x_to x_number x_signatureAt x_innerFrom x_innerTo x_certSignature x_issuerFrom x_issuerTo x_holderFrom x_holderTo x_certSerial x_certFrom x_certTo x_certKey x_certFlags x_ids r_idNames r_idKeys r_idSerials x_nonceFrom x_nonceTo x_status x_tellerSort x_tellerFrom x_tellerTo x_bodyFrom x_bodyTo x_bodySignature x_hasCert r_states r_whens r_whys r_fresh r_laters (nI (s + 4)) 1 (nI k)) (AnG 0 (x_answersFine + 1) x_answersElse (anL (itm 48 C) x (itm 160 Ct))) := by
  unfold j_answer_354
  refine ok.b (p_wrap0 h (by omega) 48) (fun y48 g48 => ?_)
  have cl := itm_le (s := 48) hC
  rw [if_neg i10, show (nI (s + 4) - 4 : Int32) = nI s from (by rw [show (4 : Int32) = nI 4 from rfl, sub_n (by omega), Nat.add_sub_cancel]), chk_t (inN hs (by omega)), nI_clamp (by omega), hse]
  exact a385s g48 (by omega) htp hx hs hCt hC1 hC2
theorem a275 {k x : Nat} (hk : k < 4) (hx : x < QQ) (hse : r_secrets k = lN x) (p : Int32) {KH NH : Nat → Int64} {SE : Nat → Int32} {kh nh : Int64} {S : Nat → Int32} {T : Nat → Int64} {R : Nat → Int32} {m t l w n : Nat} {X : Nat → List Int32} {v : Nat × Nat} (hw : w ≤ 8) (hX : ∀ j, j < w → snG r_tape r_names r_nameSizes r_keys r_issued r_serials r_since r_reasons r_idNames r_idKeys r_idSerials KH NH SE kh nh S T R k m t l w j (X j)) (hf : TP r_tape) (hn : n ≤ 1500) (hv : nob n v) (e1 : x_ids = nI w) (e2 : x_nonceFrom = nI v.1) (e3 : x_nonceTo = nI v.2) {Te : List Int32} (hTe : Te.length ≤ 30) (htp : x_taped = 0) : ∀ (i j fu : Nat) (xh : Int64) (sw dr : Nat → Int32) (dl : Int32) (I : List Int32), i < fu → j + i = w → WW dr dl (Te ++ encT t ++ I) → I.length + 104 * i ≤ 832 → ok (j_answer_275 fu r_tape x_taped r_out x_outs x_authorities r_names r_nameSizes r_secrets r_keys r_issued r_serials r_since r_reasons x_signers r_signerOf r_signerSecrets r_signerKeys r_certs r_certSizes x_answersFine x_answersElse xh x_signedC x_signedZ sw dr dl x_at x_items x_fault x_start x_sort x_from x_to x_number x_signatureAt x_innerFrom x_innerTo x_certSignature x_issuerFrom x_issuerTo x_holderFrom x_holderTo x_certSerial x_certFrom x_certTo x_certKey x_certFlags x_ids r_idNames r_idKeys r_idSerials x_nonceFrom x_nonceTo x_status x_tellerSort x_tellerFrom x_tellerTo x_bodyFrom x_bodyTo x_bodySignature x_hasCert r_states r_whens r_whys r_fresh r_laters p (lN t) (lN l) 0 (nI k) (nI (Te ++ encT t).length) (nI j)) (AnG 0 (x_answersFine + 1) x_answersElse (anL (bdL Te t (I ++ catL X j i) (nonL 163 (sl r_tape v.1 (v.2 - v.1)))) x [])) := by
  have te := encT_l t
  have hP : (Te ++ encT t).length ≤ 47 := by rw [List.length_append]; omega
  intro i
  induction i with
  | zero =>
    intro j fu xh sw dr dl I hfu hj h hl
    obtain ⟨fu, rfl⟩ : ∃ g, fu = g + 1 := ⟨fu - 1, by omega⟩
    have hi := itm_le (s := 48) (show I.length ≤ 832 by omega)
    rw [j_answer_275, e1, if_pos (nI_le (by omega) (by omega)), catL, List.append_nil]
    refine ok.b (p_wrap h (by omega) 48) (fun y40 g40 => ?_)
    have hsl := sl_l r_tape (v.2 - v.1) v.1
    have b40 : (Te ++ encT t ++ itm 48 I).length ≤ 890 := by rw [List.length_append]; omega
    unfold bdL nonL
    rw [hsl, e3]
    rcases hv with rfl | ⟨v1, v2, v3, v4⟩
    · rw [if_pos (by decide), if_pos (by decide), List.append_nil]
      exact a354 hk hx hse p g40 (by omega) htp
    · rw [if_neg (nI_nle (by omega) (by omega)), if_neg (by omega), e2, bnd_eq]
      have hr := p_layRow (Ng := 1500) (a := v.1) (g := r_tape) (by decide) (m := v.2 - v.1) (by unfold FU; omega) (by omega) (fun j _ => hf _) g40 (by omega)
      rw [show v.1 + (v.2 - v.1) = v.2 by omega] at hr
      refine ok.b hr (fun y43 g43 => ?_)
      rw [g40.1]
      refine ok.b (p_wrap g43 (by omega) 4) (fun y44 g44 => ?_)
      have n1 := itm_le (s := 4) (show (sl r_tape v.1 (v.2 - v.1)).length ≤ 16 by rw [hsl]; omega)
      refine ok.b (p_wrap g44 (by omega) 163) (fun y45 g45 => ?_)
      have n2 := itm_le (s := 163) n1
      exact a354 hk hx hse p g45 (by rw [List.length_append]; omega) htp
  | succ i ih =>
    intro j fu xh sw dr dl I hfu hj h hl
    obtain ⟨fu, rfl⟩ : ∃ g, fu = g + 1 := ⟨fu - 1, by omega⟩
    obtain ⟨x1, x2, x3⟩ := hX j (by omega)
    rw [j_answer_275, e1, if_neg (nI_ge (by omega) (by omega))]
    refine ok.b (x3 xh sw dr dl _ h (by rw [List.length_append]; omega)) (fun y g => ?_)
    rw [bnd_eq, nI_1]
    rw [List.append_assoc] at g
    rw [← e1]
    refine ok.m (ih (j + 1) fu y.1 y.2.1 y.2.2.1 y.2.2.2 _ (by omega) (by omega) g (by rw [List.length_append]; omega)) (fun z hz => ?_)
    rw [List.append_assoc] at hz
    exact hz
theorem a275s {k x s : Nat} (hx : x < QQ) (hs : s < 8) (hse : r_signerSecrets s = lN x) {Ct : List Int32} (hCt : GG r_certs (300 * s) Ct) (hC1 : Ct.length ≤ 128) (hC2 : r_certSizes s = nI Ct.length) {KH NH : Nat → Int64} {SE : Nat → Int32} {kh nh : Int64} {S : Nat → Int32} {T : Nat → Int64} {R : Nat → Int32} {m t l w n : Nat} {X : Nat → List Int32} {v : Nat × Nat} (hw : w ≤ 8) (hX : ∀ j, j < w → snG r_tape r_names r_nameSizes r_keys r_issued r_serials r_since r_reasons r_idNames r_idKeys r_idSerials KH NH SE kh nh S T R k m t l w j (X j)) (hf : TP r_tape) (hn : n ≤ 1500) (hv : nob n v) (e1 : x_ids = nI w) (e2 : x_nonceFrom = nI v.1) (e3 : x_nonceTo = nI v.2) {Te : List Int32} (hTe : Te.length ≤ 30) (htp : x_taped = 0) : ∀ (i j fu : Nat) (xh : Int64) (sw dr : Nat → Int32) (dl : Int32) (I : List Int32), i < fu → j + i = w → WW dr dl (Te ++ encT t ++ I) → I.length + 104 * i ≤ 832 → ok (j_answer_275 fu r_tape x_taped r_out x_outs x_authorities r_names r_nameSizes r_secrets r_keys r_issued r_serials r_since r_reasons x_signers r_signerOf r_signerSecrets r_signerKeys r_certs r_certSizes x_answersFine x_answersElse xh x_signedC x_signedZ sw dr dl x_at x_items x_fault x_start x_sort x_from x_to x_number x_signatureAt x_innerFrom x_innerTo x_certSignature x_issuerFrom x_issuerTo x_holderFrom x_holderTo x_certSerial x_certFrom x_certTo x_certKey x_certFlags x_ids r_idNames r_idKeys r_idSerials x_nonceFrom x_nonceTo x_status x_tellerSort x_tellerFrom x_tellerTo x_bodyFrom x_bodyTo x_bodySignature x_hasCert r_states r_whens r_whys r_fresh r_laters (nI (s + 4)) (lN t) (lN l) 1 (nI k) (nI (Te ++ encT t).length) (nI j)) (AnG 0 (x_answersFine + 1) x_answersElse (anL (bdL Te t (I ++ catL X j i) (nonL 163 (sl r_tape v.1 (v.2 - v.1)))) x (itm 160 Ct))) := by
  have te := encT_l t
  have hP : (Te ++ encT t).length ≤ 47 := by rw [List.length_append]; omega
  intro i
  induction i with
  | zero =>
    intro j fu xh sw dr dl I hfu hj h hl
    obtain ⟨fu, rfl⟩ : ∃ g, fu = g + 1 := ⟨fu - 1, by omega⟩
    have hi := itm_le (s := 48) (show I.length ≤ 832 by omega)
    rw [j_answer_275, e1, if_pos (nI_le (by omega) (by omega)), catL, List.append_nil]
    refine ok.b (p_wrap h (by omega) 48) (fun y40 g40 => ?_)
    have hsl := sl_l r_tape (v.2 - v.1) v.1
    have b40 : (Te ++ encT t ++ itm 48 I).length ≤ 890 := by rw [List.length_append]; omega
    unfold bdL nonL
    rw [hsl, e3]
    rcases hv with rfl | ⟨v1, v2, v3, v4⟩
    · rw [if_pos (by decide), if_pos (by decide), List.append_nil]
      exact a354s (k := k) hx hs hse hCt hC1 hC2 g40 (by omega) htp
    · rw [if_neg (nI_nle (by omega) (by omega)), if_neg (by omega), e2, bnd_eq]
      have hr := p_layRow (Ng := 1500) (a := v.1) (g := r_tape) (by decide) (m := v.2 - v.1) (by unfold FU; omega) (by omega) (fun j _ => hf _) g40 (by omega)
      rw [show v.1 + (v.2 - v.1) = v.2 by omega] at hr
      refine ok.b hr (fun y43 g43 => ?_)
      rw [g40.1]
      refine ok.b (p_wrap g43 (by omega) 4) (fun y44 g44 => ?_)
      have n1 := itm_le (s := 4) (show (sl r_tape v.1 (v.2 - v.1)).length ≤ 16 by rw [hsl]; omega)
      refine ok.b (p_wrap g44 (by omega) 163) (fun y45 g45 => ?_)
      have n2 := itm_le (s := 163) n1
      exact a354s (k := k) hx hs hse hCt hC1 hC2 g45 (by rw [List.length_append]; omega) htp
  | succ i ih =>
    intro j fu xh sw dr dl I hfu hj h hl
    obtain ⟨fu, rfl⟩ : ∃ g, fu = g + 1 := ⟨fu - 1, by omega⟩
    obtain ⟨x1, x2, x3⟩ := hX j (by omega)
    rw [j_answer_275, e1, if_neg (nI_ge (by omega) (by omega))]
    refine ok.b (x3 xh sw dr dl _ h (by rw [List.length_append]; omega)) (fun y g => ?_)
    rw [bnd_eq, nI_1]
    rw [List.append_assoc] at g
    rw [← e1]
    refine ok.m (ih (j + 1) fu y.1 y.2.1 y.2.2.1 y.2.2.2 _ (by omega) (by omega) g (by rw [List.length_append]; omega)) (fun z hz => ?_)
    rw [List.append_assoc] at hz
    exact hz
end RA
