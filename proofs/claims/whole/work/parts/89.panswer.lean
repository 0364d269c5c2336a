/-! PURE 39: to answer -/
abbrev RdY := Int32 × Int32 × Int32 × Int32 × Int32 × Int32 × Int32 × Int32 × Int64 × Int32 × Int32 × Int32 × Int32 × Int32 × Int32 × Int32 × Int32 × Int64 × Int64 × Int64 × Int64 × Int32 × Int32 × ((Nat → Int32)) × ((Nat → Int32)) × ((Nat → Int64)) × Int32 × Int32 × Int32 × Int32 × Int32 × Int32 × Int32 × Int32 × Int32 × Int32 × ((Nat → Int32)) × ((Nat → Int64)) × ((Nat → Int32)) × ((Nat → Int64)) × ((Nat → Int64))
def Rd1 (n : Nat) (v : List (Nat × Nat × Int64) × Nat × Nat) (_a : Nat) (_i : Int32) (y : RdY) : Prop := y.1 = 1 ∧ y.2.2.2.2.2.2.2.2.2.2.2.2.2.2.2.2.2.2.2.2.2.2.1 = nI v.1.length ∧ AR n (y.2.2.2.2.2.2.2.2.2.2.2.2.2.2.2.2.2.2.2.2.2.2.2.1) (y.2.2.2.2.2.2.2.2.2.2.2.2.2.2.2.2.2.2.2.2.2.2.2.2.1) (y.2.2.2.2.2.2.2.2.2.2.2.2.2.2.2.2.2.2.2.2.2.2.2.2.2.1) v.1 ∧ y.2.2.2.2.2.2.2.2.2.2.2.2.2.2.2.2.2.2.2.2.2.2.2.2.2.2.1 = nI v.2.1 ∧ y.2.2.2.2.2.2.2.2.2.2.2.2.2.2.2.2.2.2.2.2.2.2.2.2.2.2.2.1 = nI v.2.2 ∧ v.1.length ≤ 8 ∧ nob n v.2
theorem k4 : ∀ k : Nat, k < 4 → ¬ (0 : Int32) ≤ nI k - 4 := by decide
theorem s4 (s : Nat) : (nI (s + 4) - 4 : Int32) = nI s := by rw [show (4 : Int32) = nI 4 from rfl, sub_n (by omega), Nat.add_sub_cancel]
theorem resp (c d : Nat) (hc : c ≤ 4) (hd : d ≤ 8) (p : Int32) : (∃ k, k < c ∧ p = nI k) ∨ (∃ s, s < d ∧ p = nI (s + 4)) ∨ (¬ (0 ≤ p ∧ p < nI c) ∧ ¬ (0 ≤ p - 4 ∧ p - 4 < nI d) ∧ (¬ p < 4 → f_within p.toInt64 (4 : Int64) ((3 + nI d : Int32).toInt64) = some 0)) := by
  by_cases h1 : 0 ≤ p ∧ p < nI c
  · obtain ⟨V, hV, rfl⟩ := nI_of (Int32.not_lt.mpr h1.1)
    exact Or.inl ⟨V, (nI_ltI hV (by omega)).mp h1.2, rfl⟩
  by_cases h2 : 0 ≤ p - 4 ∧ p - 4 < nI d
  · obtain ⟨V, hV, e⟩ := nI_of (Int32.not_lt.mpr h2.1)
    have hs : V < d := (nI_ltI hV (by omega)).mp (by rw [← e]; exact h2.2)
    refine Or.inr (Or.inl ⟨V, hs, ?_⟩)
    rw [← nI_add, ← e, show nI 4 = (4 : Int32) from rfl, Int32.sub_add_cancel]
  · refine Or.inr (Or.inr ⟨h1, h2, fun h4 => p_out (fun hw => h2 ?_)⟩)
    have h0 : ¬ p < 0 := fun q => h4 (Int32.lt_trans q (by decide))
    obtain ⟨V, hV, rfl⟩ := nI_of h0
    have hV4 : 4 ≤ V := Nat.not_lt.mp (fun q => h4 (nI_lt (b := 4) q (by decide)))
    obtain ⟨s, rfl⟩ : ∃ s, V = s + 4 := ⟨V - 4, by omega⟩
    rw [s4]
    have hw2 := hw.2
    rw [show (3 + nI d : Int32) = nI (3 + d) from nI_add 3 d, nI_l hV, nI_l (by omega), lB_le (by omega) (by omega)] at hw2
    exact ⟨nI_pos' (by omega), nI_lt (by omega) (by omega)⟩
section RC
set_option linter.unusedVariables false
variable {r_tape r_out r_names r_nameSizes r_issued r_serials r_reasons r_signerOf r_certs r_certSizes r_shown r_draft r_idNames r_idKeys r_states r_whys : (Nat → Int32)} {x_taped x_outs x_authorities x_signers x_answersFine x_answersElse x_drafted x_at x_items x_fault x_start x_sort x_from x_to x_signatureAt x_innerFrom x_innerTo x_certSignature x_issuerFrom x_issuerTo x_holderFrom x_holderTo x_certFlags x_ids x_nonceFrom x_nonceTo x_status x_tellerSort x_tellerFrom x_tellerTo x_bodyFrom x_bodyTo x_bodySignature x_hasCert : Int32} {r_secrets r_keys r_since r_signerSecrets r_signerKeys r_idSerials r_whens r_fresh r_laters : (Nat → Int64)} {x_hashed x_signedC x_signedZ x_number x_certSerial x_certFrom x_certTo x_certKey : Int64}
theorem r_reads1 {n : Nat} (hn : n ≤ 1500) (e0 : x_taped = nI n) : ok (f_reads r_tape x_taped x_at x_items x_fault x_start x_sort x_from x_to x_number x_signatureAt x_innerFrom x_innerTo x_certSignature x_issuerFrom x_issuerTo x_holderFrom x_holderTo x_certSerial x_certFrom x_certTo x_certKey x_certFlags x_ids r_idNames r_idKeys r_idSerials x_nonceFrom x_nonceTo x_status x_tellerSort x_tellerFrom x_tellerTo x_bodyFrom x_bodyTo x_bodySignature x_hasCert r_states r_whens r_whys r_fresh r_laters 1) (ro (Rd1 n) (fun _ y => y.1 = 0) (s_ask r_tape n 0 0)) := by
  subst e0
  unfold f_reads
  rw [if_neg (by decide), if_pos rfl]
  have h := R_ask (f := r_tape) (n := n) (a := 0) (Nat.zero_le _) hn 0 (-1) x_start x_sort x_from x_to x_number x_ids r_idNames r_idKeys r_idSerials x_nonceFrom x_nonceTo
  rw [show nI 0 = 0 from rfl] at h
  refine ok.b h (fun y5 g5 => ?_)
  cases hs : s_ask r_tape n 0 0 with
  | inl p =>
    rw [hs] at g5
    rw [g5.1, chk_t (by decide)]
    exact ok.s rfl
  | inr v =>
    rw [hs] at g5
    obtain ⟨⟨fa, x1, x2, x3, x4, x5, N, K, S, rfl, hAR⟩, h8, hno⟩ := g5
    dsimp only
    rw [chk_t (by decide)]
    exact ok.s ⟨rfl, rfl, hAR, rfl, rfl, h8, hno⟩
/-! the class reads the ask -/
def Sf (f : Nat → Int32) (kh nh : Int64) (v : List (Nat × Nat × Int64) × Nat × Nat) (_a : Nat) (_i : Int32) (y : Int32 × Int32 × (Nat → Int64) × (Nat → Int64) × (Nat → Int32) × Int32 × Int32 × Int32 × Int32 × Int32 × Int32 × Int32 × (Nat → Int32) × Int32 × Int32) : Prop := ∃ r KH NH SE np ns x1 x2 x3 x4 i' O q r', y = (r, nI v.1.length, KH, NH, SE, np, ns, x1, x2, x3, x4, i', O, q, r') ∧ AC f NH KH SE v.1 ∧ NoR v.2 np ns ∧ (r = 0 ∧ (∃ p, 0 ≤ p ∧ p < v.1.length ∧ NH p = nh ∧ KH p = kh) ∨ r = 6 ∧ ∀ p, 0 ≤ p → p < v.1.length → ¬ (NH p = nh ∧ KH p = kh))
theorem c_sf {f : Nat → Int32} {n : Nat} (hn : n ≤ 1500) (h8 : ∀ v, s_ask f n 0 0 = .inr v → v.1.1.length ≤ 8) (cnt : Int32) (KH NH : Nat → Int64) (SE : Nat → Int32) (np ns a1 a2 a3 a4 a5 : Int32) (O : Nat → Int32) (a6 a7 : Int32) (kh nh : Int64) : ok (f_de_statusFor cnt KH NH SE np ns a1 a2 a3 a4 a5 O a6 a7 f (nI n) kh nh) (ro (Sf f kh nh) (fun _ y => y.1 = 1) (s_ask f n 0 0)) := by
  unfold f_de_statusFor f_sc_begin
  rw [bnd_eq, if_neg (show ¬ Int32.ofNat 1500 < nI n from nI_nlt (b := n) hn (by decide)), Option.bind_some]
  dsimp only
  have h := C_ask (f := f) (n := n) (a := 0) (Nat.zero_le _) hn cnt KH NH SE np ns 0 0 0 O
  rw [show nI 0 = 0 from rfl] at h
  refine ok.b h (fun y2 g2 => ?_)
  cases hs : s_ask f n 0 0 with
  | inl p =>
    rw [hs] at g2
    rw [g2.2.1, if_neg (fl_nI (by have := g2.1; omega))]
    exact ok.s rfl
  | inr v =>
    rw [hs] at g2
    obtain ⟨KH', NH', SE', np', ns', x1, x2, x3, O', q, r, rfl, hAC, hNo⟩ := g2
    have hl := h8 v hs
    dsimp only
    rw [if_pos rfl]
    obtain ⟨c1, c2⟩ := c37 (KH := KH') (NH := NH') (SE := SE') (np := np') (nz := ns') (a1 := x1) (a2 := x2) (a3 := x3) (a4 := -1) (a5 := v.2.2) (O := O') (a6 := q) (a7 := r) (f := f) (tl := nI n) (kh := kh) (nh := nh) hl v.1.1.length 0 FU (by unfold FU; omega) (by omega)
    rw [show nI 0 = 0 from rfl] at c1 c2
    by_cases ho : ∃ p, 0 ≤ p ∧ p < v.1.1.length ∧ NH' p = nh ∧ KH' p = kh
    · exact ok.e (c1 ho) ⟨0, KH', NH', SE', np', ns', x1, x2, x3, -1, v.2.2, O', q, r, rfl, hAC, hNo, Or.inl ⟨rfl, ho⟩⟩
    · have hno : ∀ p, 0 ≤ p → p < v.1.1.length → ¬ (NH' p = nh ∧ KH' p = kh) := fun p p1 p2 p3 => ho ⟨p, p1, p2, p3⟩
      exact ok.e (c2 hno) ⟨6, KH', NH', SE', np', ns', x1, x2, x3, -1, v.2.2, O', q, r, rfl, hAC, hNo, Or.inr ⟨rfl, hno⟩⟩
def AcG (s fi el : Int32) (A : List Int32) (z : Int32 × Int32 × (Nat → Int64) × (Nat → Int64) × (Nat → Int32) × Int32 × Int32 × Int32 × (Nat → Int32) × Int32 × Int32 × Int32 × Int32 × Int32 × Int32 × Int32 × (Nat → Int32) × Int32 × Int32 × Int32 × Bool) : Prop := ∃ c K N E p1 p2 o' ol' q1 q2 q3 q4 q5 O' q6 q7 b, z = (s, c, K, N, E, p1, p2, el, o', ol', fi, q1, q2, q3, q4, q5, O', q6, q7, 0, b) ∧ WW o' ol' A
variable {cnt : Int32} {KH NH : Nat → Int64} {SE : Nat → Int32} {np nz : Int32} {od : Nat → Int32} {odl a1 a2 a3 a4 a5 a6 a7 : Int32} {O : Nat → Int32} {miss : Int32} {kh : Int64} {nd : Nat → Int32} {nl : Int32} {nh : Int64} {R : Nat → Int32} {se : Int32} {S : Nat → Int32} {T : Nat → Int64} {sk : Int64} {ow sse : Int32} {td : Nat → Int32} {tdl : Int32} {c d : Nat}
/-- nobody answers -/
theorem an_no (hc : c ≤ 4) (hd : d ≤ 8) (p : Int32) (p1 p2 : Int64) (h1 : ¬ (0 ≤ p ∧ p < nI c)) (h2 : ¬ (0 ≤ p - 4 ∧ p - 4 < nI d)) (h3 : ¬ p < 4 → f_within p.toInt64 (4 : Int64) ((3 + nI d : Int32).toInt64) = some 0) {A0 : List Int32} (w1 : WW r_out x_outs A0) (w2 : WW od odl A0) : ok (f_answer r_tape x_taped r_out x_outs (nI c) r_names r_nameSizes r_secrets r_keys r_issued r_serials r_since r_reasons (nI d) r_signerOf r_signerSecrets r_signerKeys r_certs r_certSizes x_answersFine x_answersElse x_hashed x_signedC x_signedZ r_shown r_draft x_drafted x_at x_items x_fault x_start x_sort x_from x_to x_number x_signatureAt x_innerFrom x_innerTo x_certSignature x_issuerFrom x_issuerTo x_holderFrom x_holderTo x_certSerial x_certFrom x_certTo x_certKey x_certFlags x_ids r_idNames r_idKeys r_idSerials x_nonceFrom x_nonceTo x_status x_tellerSort x_tellerFrom x_tellerTo x_bodyFrom x_bodyTo x_bodySignature x_hasCert r_states r_whens r_whys r_fresh r_laters p p1 p2) (AnG (-2) x_answersFine x_answersElse A0) ∧ ok (f_de_answer miss kh nd nl nh R se S T sk ow sse td tdl cnt KH NH SE np nz (nI c) x_answersElse od odl x_answersFine a1 a2 a3 a4 a5 O a6 a7 (nI d) r_tape x_taped p p1 p2) (AcG (-2) x_answersFine x_answersElse A0) := by
  constructor
  · unfold f_answer
    by_cases h4 : p < 4
    · rw [if_pos h4, j_answer_16, if_pos rfl, isA_n hc h1, Option.bind_some, j_answer_46, if_pos rfl]
      exact ok.s ⟨rfl, rfl, w1, rfl, rfl⟩
    · rw [if_neg h4, j_answer_16, if_neg i10, h3 h4, Option.bind_some, j_answer_46, if_pos rfl]
      exact ok.s ⟨rfl, rfl, w1, rfl, rfl⟩
  · unfold f_de_answer f_by_clear
    rw [if_neg h2, if_neg h1, Option.bind_some]
    exact ok.s ⟨_, _, _, _, _, _, _, _, _, _, _, _, _, _, _, _, _, rfl, w2⟩
/-- a time or a life that does not fit -/
theorem tl_cases (p1 p2 : Int64) : (¬ ((0 : Int64) ≤ p1 ∧ p1 ≤ 3155759999) ∧ f_within p1 0 3155759999 = some 0) ∨ (((0 : Int64) ≤ p1 ∧ p1 ≤ 3155759999) ∧ f_within p1 0 3155759999 = some 1 ∧ f_within p2 0 (3155759999 - p1) = some 0 ∧ (p2 < 0 ∨ ¬ p2 < 0 ∧ 3155759999 - p1 < p2)) ∨ ∃ t l : Nat, t + l < 3155760000 ∧ p1 = lN t ∧ p2 = lN l := by
  by_cases h1 : (0 : Int64) ≤ p1 ∧ p1 ≤ 3155759999
  · by_cases h2 : (0 : Int64) ≤ p2 ∧ p2 ≤ 3155759999 - p1
    · obtain ⟨t, ht, rfl⟩ := tm_of h1
      obtain ⟨h3, h4⟩ := h2
      rw [show (3155759999 : Int64) = lN 3155759999 from rfl, lN_sub (by omega)] at h4
      obtain ⟨l, hl, rfl⟩ := tm_of ⟨h3, Int64.le_trans h4 ((lB_le (a := 3155759999 - t) (b := 3155759999) (by omega) (by decide)).mpr (by omega))⟩
      have := (lB_le (by omega) (by omega)).mp h4
      exact Or.inr (Or.inr ⟨t, l, by omega, rfl, rfl⟩)
    · refine Or.inr (Or.inl ⟨h1, p_in h1, p_out h2, ?_⟩)
      by_cases h3 : p2 < 0
      · exact Or.inl h3
      · exact Or.inr ⟨h3, Int64.not_le.mp (fun q => h2 ⟨Int64.not_lt.mp h3, q⟩)⟩
  · exact Or.inl ⟨h1, p_out h1⟩
theorem an_y (hc : c ≤ 4) (hd : d ≤ 8) {k m : Nat} (hk : k < c) {n : Nat} (hn : n ≤ 1500) (hf : TP r_tape) {An : List Int32} (hA : GG r_names (16 * k) An) (hA16 : An.length ≤ 16) (hns : r_nameSizes k = nI An.length) (hnh : nh = hl An) (hkh : kh = hE (hL h0 (r_keys k))) (hT : TB k m S T R r_serials r_since r_reasons) (hr : r_issued k = nI m) {x : Nat} (hx : x < QQ) (hse : r_secrets k = lN x) (hsc : se = nI x) (hnd : WW nd nl An) (p1 p2 : Int64) {A0 : List Int32} (w1 : WW r_out x_outs A0) (w2 : WW od odl A0) (hA0 : A0.length ≤ 1500) : ∃ st fi el A, A.length ≤ 1500 ∧ ok (f_answer r_tape (nI n) r_out x_outs (nI c) r_names r_nameSizes r_secrets r_keys r_issued r_serials r_since r_reasons (nI d) r_signerOf r_signerSecrets r_signerKeys r_certs r_certSizes x_answersFine x_answersElse x_hashed x_signedC x_signedZ r_shown r_draft x_drafted x_at x_items x_fault x_start x_sort x_from x_to x_number x_signatureAt x_innerFrom x_innerTo x_certSignature x_issuerFrom x_issuerTo x_holderFrom x_holderTo x_certSerial x_certFrom x_certTo x_certKey x_certFlags x_ids r_idNames r_idKeys r_idSerials x_nonceFrom x_nonceTo x_status x_tellerSort x_tellerFrom x_tellerTo x_bodyFrom x_bodyTo x_bodySignature x_hasCert r_states r_whens r_whys r_fresh r_laters (nI k) p1 p2) (AnG st fi el A) ∧ ok (f_de_answer (nI m) kh nd nl nh R se S T sk ow sse td tdl cnt KH NH SE np nz (nI c) x_answersElse od odl x_answersFine a1 a2 a3 a4 a5 O a6 a7 (nI d) r_tape (nI n) (nI k) p1 p2) (AcG st fi el A) := by
  rcases tl_cases p1 p2 with ⟨q1, q2⟩ | ⟨q1, q2, q3, q4⟩ | ⟨t, l, ht, rfl, rfl⟩
  · refine ⟨-2, x_answersFine, x_answersElse, A0, hA0, ?_, ?_⟩
    · unfold f_answer
      rw [if_pos (show nI k < 4 from nI_lt (b := 4) (by omega) (by decide)), j_answer_16, if_pos rfl, isA_y hc hk, Option.bind_some, j_answer_46, if_neg i10, q2, Option.bind_some, if_pos rfl]
      exact ok.s ⟨rfl, rfl, w1, rfl, rfl⟩
    · unfold f_de_answer f_by_clear
      rw [if_neg (fun q => k4 k (by omega) q.1), if_pos (au_y hk hc), chk_t (inN (by omega) (by omega)), fits_w, q2, Option.bind_some, if_pos rfl, Option.bind_some]
      exact ok.s ⟨_, _, _, _, _, _, _, _, _, _, _, _, _, _, _, _, _, rfl, w2⟩
  · refine ⟨-2, x_answersFine, x_answersElse, A0, hA0, ?_, ?_⟩
    · unfold f_answer
      rw [if_pos (show nI k < 4 from nI_lt (b := 4) (by omega) (by decide)), j_answer_16, if_pos rfl, isA_y hc hk, Option.bind_some, j_answer_46, if_neg i10, q2, Option.bind_some, if_neg i10, q3, Option.bind_some, if_pos rfl]
      exact ok.s ⟨rfl, rfl, w1, rfl, rfl⟩
    · unfold f_de_answer f_by_clear
      rw [if_neg (fun q => k4 k (by omega) q.1), if_pos (au_y hk hc), chk_t (inN (by omega) (by omega)), fits_w, q2, Option.bind_some, if_neg i10]
      rcases q4 with q4 | ⟨q4, q5⟩
      · rw [if_pos q4, Option.bind_some]
        exact ok.s ⟨_, _, _, _, _, _, _, _, _, _, _, _, _, _, _, _, _, rfl, w2⟩
      · rw [if_neg q4, if_pos q5, Option.bind_some]
        exact ok.s ⟨_, _, _, _, _, _, _, _, _, _, _, _, _, _, _, _, _, rfl, w2⟩
  · have z1 : f_within (lN t) 0 3155759999 = some 1 := p_in ⟨(lB_le (a := 0) (by decide) (by omega)).mpr (by omega), (lB_le (b := 3155759999) (by omega) (by decide)).mpr (by omega)⟩
    have z0 : (3155759999 : Int64) - lN t = lN (3155759999 - t) := by rw [show (3155759999 : Int64) = lN 3155759999 from rfl, lN_sub (by omega)]
    have z2 : f_within (lN l) 0 (3155759999 - lN t) = some 1 := p_in ⟨(lB_le (a := 0) (by decide) (by omega)).mpr (by omega), by rw [z0]; exact (lB_le (by omega) (by omega)).mpr (by omega)⟩
    have z3 : ¬ lN l < 0 := fun q => by have := (lB_lt (b := 0) (by omega) (by decide)).mp q; omega
    have z4 : ¬ (3155759999 : Int64) - lN t < lN l := fun q => by rw [z0] at q; have := (lB_lt (by omega) (by omega)).mp q; omega
    have k4' : k < 4 := by omega
    obtain ⟨y10, b1, b2⟩ := r_reads1 (r_tape := r_tape) (x_taped := nI n) (x_at := x_at) (x_items := x_items) (x_fault := x_fault) (x_start := x_start) (x_sort := x_sort) (x_from := x_from) (x_to := x_to) (x_number := x_number) (x_signatureAt := x_signatureAt) (x_innerFrom := x_innerFrom) (x_innerTo := x_innerTo) (x_certSignature := x_certSignature) (x_issuerFrom := x_issuerFrom) (x_issuerTo := x_issuerTo) (x_holderFrom := x_holderFrom) (x_holderTo := x_holderTo) (x_certSerial := x_certSerial) (x_certFrom := x_certFrom) (x_certTo := x_certTo) (x_certKey := x_certKey) (x_certFlags := x_certFlags) (x_ids := x_ids) (r_idNames := r_idNames) (r_idKeys := r_idKeys) (r_idSerials := r_idSerials) (x_nonceFrom := x_nonceFrom) (x_nonceTo := x_nonceTo) (x_status := x_status) (x_tellerSort := x_tellerSort) (x_tellerFrom := x_tellerFrom) (x_tellerTo := x_tellerTo) (x_bodyFrom := x_bodyFrom) (x_bodyTo := x_bodyTo) (x_bodySignature := x_bodySignature) (x_hasCert := x_hasCert) (r_states := r_states) (r_whens := r_whens) (r_whys := r_whys) (r_fresh := r_fresh) (r_laters := r_laters) (n := n) hn rfl
    have hcs := fun h8 => c_sf (f := r_tape) (n := n) hn h8 cnt KH NH SE np nz a1 a2 a3 a4 a5 O a6 a7 kh nh
    cases hsa : s_ask r_tape n 0 0 with
    | inl pp =>
      rw [hsa] at b2 hcs
      obtain ⟨y12, d1, d2⟩ := hcs (fun v hv => by cases hv)
      refine ⟨1, x_answersFine, x_answersElse + 1, itm 48 (itm 10 [BB 1]), stat_l 1, ?_, ?_⟩
      · unfold f_answer
        rw [if_pos (show nI k < 4 from nI_lt (b := 4) (by omega) (by decide)), j_answer_16, if_pos rfl, isA_y hc hk, Option.bind_some, j_answer_46, if_neg i10, z1, Option.bind_some, if_neg i10, z2, Option.bind_some, if_neg i10, b1, Option.bind_some, bnd_eq, if_pos (show y10.1 = 0 from b2)]
        exact ok.b (r_status 1) (fun y g => ok.s ⟨g.1, rfl, g.2.1, rfl, g.2.2⟩)
      · have d3 : y12.1 = 1 := d2
        unfold f_de_answer f_by_clear
        rw [if_neg (fun q => k4 k (by omega) q.1), if_pos (au_y hk hc), chk_t (inN (by omega) (by omega)), fits_w, z1, Option.bind_some, if_neg i10, if_neg z3, if_neg z4, d1, Option.bind_some, bnd_eq, d3, if_neg i10, bnd_eq]
        refine ok.b (c_status 1) (fun y g => ?_)
        rw [Option.bind_some]
        exact ok.s ⟨_, _, _, _, _, _, _, _, _, _, _, _, _, _, _, _, _, rfl, g⟩
    | inr v =>
      rw [hsa] at b2 hcs
      obtain ⟨b2, b3, b4, b5, b6, h8, b7⟩ := b2
      obtain ⟨y12, d1, rr, KH', NH', SE', np', nz', x1, x2, x3, x4, i', O', qq, r', rfl, hAC, hNo, hown⟩ := hcs (fun u hu => by cases hu; exact h8)
      have hone : ∀ j, ∃ X, j < v.1.1.length → snG r_tape r_names r_nameSizes r_keys r_issued r_serials r_since r_reasons (y10.2.2.2.2.2.2.2.2.2.2.2.2.2.2.2.2.2.2.2.2.2.2.2.1) (y10.2.2.2.2.2.2.2.2.2.2.2.2.2.2.2.2.2.2.2.2.2.2.2.2.1) (y10.2.2.2.2.2.2.2.2.2.2.2.2.2.2.2.2.2.2.2.2.2.2.2.2.2.1) KH' NH' SE' kh nh S T R k m t l v.1.1.length j X := fun j => by
        by_cases hj : j < v.1.1.length
        · obtain ⟨e1, e2, e3, e4, e5, e6, e7⟩ := b4 j _ (List.getElem?_eq_getElem hj)
          obtain ⟨c1, c2, c3⟩ := hAC j _ (List.getElem?_eq_getElem hj)
          obtain ⟨X, hX⟩ := one (l := l) (t := t) hf k4' hT hr ht hA hA16 hns hnh hkh hj h8 ⟨Nat.le_trans e4 hn, Nat.le_trans e5 hn, e6, e7⟩ e1 e2 e3 c1 c2 c3
          exact ⟨X, fun _ => hX⟩
        · exact ⟨[], fun q => absurd q hj⟩
      obtain ⟨X, hX⟩ := Classical.skolem.mp hone
      have hI : ∀ j, j < v.1.1.length → ∀ xh, ok (f_isOf r_tape r_names r_nameSizes r_keys xh (y10.2.2.2.2.2.2.2.2.2.2.2.2.2.2.2.2.2.2.2.2.2.2.2.1) (y10.2.2.2.2.2.2.2.2.2.2.2.2.2.2.2.2.2.2.2.2.2.2.2.2.1) (nI j) (nI k)) (fun y => y.1 = if NH' j = nh ∧ KH' j = kh then 1 else 0) := fun j hj xh => by
        obtain ⟨e1, e2, e3, e4, e5, e6, e7⟩ := b4 j _ (List.getElem?_eq_getElem hj)
        obtain ⟨c1, c2, c3⟩ := hAC j _ (List.getElem?_eq_getElem hj)
        rw [c1, c2, hnh, hkh]
        exact p_isOf (by omega) k4' hA hA16 hns e1 e2 (Nat.le_trans e4 hn) (Nat.le_trans e5 hn) xh
      obtain ⟨-, g1, g2⟩ := a134 (r_tape := r_tape) (x_taped := 0) (r_out := r_out) (x_outs := x_outs) (x_authorities := nI c) (r_names := r_names) (r_nameSizes := r_nameSizes) (r_secrets := r_secrets) (r_keys := r_keys) (r_issued := r_issued) (r_serials := r_serials) (r_since := r_since) (r_reasons := r_reasons) (x_signers := nI d) (r_signerOf := r_signerOf) (r_signerSecrets := r_signerSecrets) (r_signerKeys := r_signerKeys) (r_certs := r_certs) (r_certSizes := r_certSizes) (x_answersFine := x_answersFine) (x_answersElse := x_answersElse) (x_signedC := x_signedC) (x_signedZ := x_signedZ) (r_shown := r_shown) (r_draft := r_draft) (x_drafted := x_drafted) (x_at := (y10.2.1)) (x_items := (y10.2.2.1)) (x_fault := (y10.2.2.2.1)) (x_start := (y10.2.2.2.2.1)) (x_sort := (y10.2.2.2.2.2.1)) (x_from := (y10.2.2.2.2.2.2.1)) (x_to := (y10.2.2.2.2.2.2.2.1)) (x_number := (y10.2.2.2.2.2.2.2.2.1)) (x_signatureAt := (y10.2.2.2.2.2.2.2.2.2.1)) (x_innerFrom := (y10.2.2.2.2.2.2.2.2.2.2.1)) (x_innerTo := (y10.2.2.2.2.2.2.2.2.2.2.2.1)) (x_certSignature := (y10.2.2.2.2.2.2.2.2.2.2.2.2.1)) (x_issuerFrom := (y10.2.2.2.2.2.2.2.2.2.2.2.2.2.1)) (x_issuerTo := (y10.2.2.2.2.2.2.2.2.2.2.2.2.2.2.1)) (x_holderFrom := (y10.2.2.2.2.2.2.2.2.2.2.2.2.2.2.2.1)) (x_holderTo := (y10.2.2.2.2.2.2.2.2.2.2.2.2.2.2.2.2.1)) (x_certSerial := (y10.2.2.2.2.2.2.2.2.2.2.2.2.2.2.2.2.2.1)) (x_certFrom := (y10.2.2.2.2.2.2.2.2.2.2.2.2.2.2.2.2.2.2.1)) (x_certTo := (y10.2.2.2.2.2.2.2.2.2.2.2.2.2.2.2.2.2.2.2.1)) (x_certKey := (y10.2.2.2.2.2.2.2.2.2.2.2.2.2.2.2.2.2.2.2.2.1)) (x_certFlags := (y10.2.2.2.2.2.2.2.2.2.2.2.2.2.2.2.2.2.2.2.2.2.1)) (x_ids := (y10.2.2.2.2.2.2.2.2.2.2.2.2.2.2.2.2.2.2.2.2.2.2.1)) (r_idNames := (y10.2.2.2.2.2.2.2.2.2.2.2.2.2.2.2.2.2.2.2.2.2.2.2.1)) (r_idKeys := (y10.2.2.2.2.2.2.2.2.2.2.2.2.2.2.2.2.2.2.2.2.2.2.2.2.1)) (r_idSerials := (y10.2.2.2.2.2.2.2.2.2.2.2.2.2.2.2.2.2.2.2.2.2.2.2.2.2.1)) (x_nonceFrom := (y10.2.2.2.2.2.2.2.2.2.2.2.2.2.2.2.2.2.2.2.2.2.2.2.2.2.2.1)) (x_nonceTo := (y10.2.2.2.2.2.2.2.2.2.2.2.2.2.2.2.2.2.2.2.2.2.2.2.2.2.2.2.1)) (x_status := (y10.2.2.2.2.2.2.2.2.2.2.2.2.2.2.2.2.2.2.2.2.2.2.2.2.2.2.2.2.1)) (x_tellerSort := (y10.2.2.2.2.2.2.2.2.2.2.2.2.2.2.2.2.2.2.2.2.2.2.2.2.2.2.2.2.2.1)) (x_tellerFrom := (y10.2.2.2.2.2.2.2.2.2.2.2.2.2.2.2.2.2.2.2.2.2.2.2.2.2.2.2.2.2.2.1)) (x_tellerTo := (y10.2.2.2.2.2.2.2.2.2.2.2.2.2.2.2.2.2.2.2.2.2.2.2.2.2.2.2.2.2.2.2.1)) (x_bodyFrom := (y10.2.2.2.2.2.2.2.2.2.2.2.2.2.2.2.2.2.2.2.2.2.2.2.2.2.2.2.2.2.2.2.2.1)) (x_bodyTo := (y10.2.2.2.2.2.2.2.2.2.2.2.2.2.2.2.2.2.2.2.2.2.2.2.2.2.2.2.2.2.2.2.2.2.1)) (x_bodySignature := (y10.2.2.2.2.2.2.2.2.2.2.2.2.2.2.2.2.2.2.2.2.2.2.2.2.2.2.2.2.2.2.2.2.2.2.1)) (x_hasCert := (y10.2.2.2.2.2.2.2.2.2.2.2.2.2.2.2.2.2.2.2.2.2.2.2.2.2.2.2.2.2.2.2.2.2.2.2.1)) (r_states := (y10.2.2.2.2.2.2.2.2.2.2.2.2.2.2.2.2.2.2.2.2.2.2.2.2.2.2.2.2.2.2.2.2.2.2.2.2.1)) (r_whens := (y10.2.2.2.2.2.2.2.2.2.2.2.2.2.2.2.2.2.2.2.2.2.2.2.2.2.2.2.2.2.2.2.2.2.2.2.2.2.1)) (r_whys := (y10.2.2.2.2.2.2.2.2.2.2.2.2.2.2.2.2.2.2.2.2.2.2.2.2.2.2.2.2.2.2.2.2.2.2.2.2.2.2.1)) (r_fresh := (y10.2.2.2.2.2.2.2.2.2.2.2.2.2.2.2.2.2.2.2.2.2.2.2.2.2.2.2.2.2.2.2.2.2.2.2.2.2.2.2.1)) (r_laters := (y10.2.2.2.2.2.2.2.2.2.2.2.2.2.2.2.2.2.2.2.2.2.2.2.2.2.2.2.2.2.2.2.2.2.2.2.2.2.2.2.2)) (show k < 4 by omega) hx hse hA hA16 hns (nI k) h8 hX hf hn b7 b3 b5 b6 rfl ht hI v.1.1.length 0 FU x_hashed (by unfold FU; omega) (by omega)
      rcases hown with ⟨rfl, hown⟩ | ⟨rfl, hown⟩
      · have g3 := g1 hown
        have g4 := w_answer_n1 hsc hx h8 hX b7 hNo hf hn ht hA16 hnd od odl
        generalize hL0 : anL (bdL (itm 161 (itm 4 An)) t (catL X 0 v.1.1.length) (nonL 163 (sl r_tape v.1.2.1 (v.1.2.2 - v.1.2.1)))) x [] = L0 at g3 g4
        have hlen : L0.length ≤ 1500 := by
          rw [← hL0]
          have l1 := cat_l (w := v.1.1.length) (b := 104) (X := X) (fun j hj => (hX j hj).1) v.1.1.length 0 (by omega)
          have l2 := itm_le (s := 48) l1
          have l3 := non_l (k := 163) (B := sl r_tape v.1.2.1 (v.1.2.2 - v.1.2.1)) (m := 16) (by rw [sl_l]; rcases b7 with e | e; rw [e]; decide; omega)
          have l4 := encT_l t
          have l5 : (itm 161 (itm 4 An)).length ≤ 30 := Nat.le_trans (itm_le (itm_le hA16)) (by decide)
          have l6 := itm_le (s := 48) (show ((itm 161 (itm 4 An)) ++ encT t ++ itm 48 (catL X 0 v.1.1.length) ++ nonL 163 (sl r_tape v.1.2.1 (v.1.2.2 - v.1.2.1))).length ≤ 920 by rw [List.length_append, List.length_append, List.length_append]; omega)
          have l7 := sig_l x (hl (bdL (itm 161 (itm 4 An)) t (catL X 0 v.1.1.length) (nonL 163 (sl r_tape v.1.2.1 (v.1.2.2 - v.1.2.1)))))
          have l8 : ([] : List Int32).length ≤ 132 := Nat.zero_le _
          have l9 := itm_le (s := 160) (itm_le (s := 48) (show (bdL (itm 161 (itm 4 An)) t (catL X 0 v.1.1.length) (nonL 163 (sl r_tape v.1.2.1 (v.1.2.2 - v.1.2.1))) ++ sigL x (hl (bdL (itm 161 (itm 4 An)) t (catL X 0 v.1.1.length) (nonL 163 (sl r_tape v.1.2.1 (v.1.2.2 - v.1.2.1))))) ++ []).length ≤ 1090 by rw [List.length_append, List.length_append]; unfold bdL at l7 ⊢; omega))
          have l10 := itm_le (s := 10) (show [BB 0].length ≤ 1 from Nat.le_refl _)
          refine Nat.le_trans (itm_le (n := 1103) ?_) (by decide)
          rw [List.length_append]
          omega
        clear hL0
        refine ⟨0, x_answersFine + 1, x_answersElse, L0, hlen, ?_, ?_⟩
        · unfold f_answer
          rw [if_pos (show nI k < 4 from nI_lt (b := 4) (by omega) (by decide)), j_answer_16, if_pos rfl, isA_y hc hk, Option.bind_some, j_answer_46, if_neg i10, z1, Option.bind_some, if_neg i10, z2, Option.bind_some, if_neg i10, b1, Option.bind_some, bnd_eq, if_neg (by rw [b2]; exact i10), if_pos rfl]
          exact g3
        · unfold f_de_answer f_by_clear
          rw [if_neg (fun q => k4 k (by omega) q.1), if_pos (au_y hk hc), chk_t (inN (by omega) (by omega)), fits_w, z1, Option.bind_some, if_neg i10, if_neg z3, if_neg z4, d1, Option.bind_some, bnd_eq]
          dsimp only
          rw [if_pos rfl, bnd_eq]
          unfold nxt at g4
          by_cases hl0 : l = 0
          · rw [if_pos hl0] at g4
            rw [if_pos (by rw [hl0]; decide)]
            refine ok.b g4 (fun y g => ?_)
            rw [Option.bind_some]
            exact ok.s ⟨_, _, _, _, _, _, _, _, _, _, _, _, _, _, _, _, _, rfl, g⟩
          · rw [if_neg hl0] at g4
            rw [if_neg (lN_n0 (by omega) hl0), lN_add]
            refine ok.b g4 (fun y g => ?_)
            rw [Option.bind_some]
            exact ok.s ⟨_, _, _, _, _, _, _, _, _, _, _, _, _, _, _, _, _, rfl, g⟩
      · have g3 := g2 hown
        refine ⟨6, x_answersFine, x_answersElse + 1, itm 48 (itm 10 [BB 6]), stat_l 6, ?_, ?_⟩
        · unfold f_answer
          rw [if_pos (show nI k < 4 from nI_lt (b := 4) (by omega) (by decide)), j_answer_16, if_pos rfl, isA_y hc hk, Option.bind_some, j_answer_46, if_neg i10, z1, Option.bind_some, if_neg i10, z2, Option.bind_some, if_neg i10, b1, Option.bind_some, bnd_eq, if_neg (by rw [b2]; exact i10), if_pos rfl]
          exact g3
        · unfold f_de_answer f_by_clear
          rw [if_neg (fun q => k4 k (by omega) q.1), if_pos (au_y hk hc), chk_t (inN (by omega) (by omega)), fits_w, z1, Option.bind_some, if_neg i10, if_neg z3, if_neg z4, d1, Option.bind_some, bnd_eq]
          dsimp only
          rw [if_neg (by decide), bnd_eq]
          refine ok.b (c_status 6) (fun y g => ?_)
          rw [Option.bind_some]
          exact ok.s ⟨_, _, _, _, _, _, _, _, _, _, _, _, _, _, _, _, _, rfl, g⟩
theorem an_ys (hc : c ≤ 4) (hd : d ≤ 8) {k m : Nat} (hk : k < c) {n : Nat} (hn : n ≤ 1500) (hf : TP r_tape) {An : List Int32} (hA : GG r_names (16 * k) An) (hA16 : An.length ≤ 16) (hns : r_nameSizes k = nI An.length) (hnh : nh = hl An) (hkh : kh = hE (hL h0 (r_keys k))) (hT : TB k m S T R r_serials r_since r_reasons) (hr : r_issued k = nI m) {x s : Nat} (hx : x < QQ) (hs : s < d) (hse : r_signerSecrets s = lN x) (hsc : sse = nI x) (hso : r_signerOf s = nI k) (hsk : hE (hL h0 (r_signerKeys s)) = sk) {Ct : List Int32} (hCt : GG r_certs (300 * s) Ct) (hC1 : Ct.length ≤ 128) (hC2 : r_certSizes s = nI Ct.length) (htd : WW td tdl Ct) (p1 p2 : Int64) {A0 : List Int32} (w1 : WW r_out x_outs A0) (w2 : WW od odl A0) (hA0 : A0.length ≤ 1500) : ∃ st fi el A, A.length ≤ 1500 ∧ ok (f_answer r_tape (nI n) r_out x_outs (nI c) r_names r_nameSizes r_secrets r_keys r_issued r_serials r_since r_reasons (nI d) r_signerOf r_signerSecrets r_signerKeys r_certs r_certSizes x_answersFine x_answersElse x_hashed x_signedC x_signedZ r_shown r_draft x_drafted x_at x_items x_fault x_start x_sort x_from x_to x_number x_signatureAt x_innerFrom x_innerTo x_certSignature x_issuerFrom x_issuerTo x_holderFrom x_holderTo x_certSerial x_certFrom x_certTo x_certKey x_certFlags x_ids r_idNames r_idKeys r_idSerials x_nonceFrom x_nonceTo x_status x_tellerSort x_tellerFrom x_tellerTo x_bodyFrom x_bodyTo x_bodySignature x_hasCert r_states r_whens r_whys r_fresh r_laters (nI (s + 4)) p1 p2) (AnG st fi el A) ∧ ok (f_de_answer (nI m) kh nd nl nh R se S T sk (nI k) sse td tdl cnt KH NH SE np nz (nI c) x_answersElse od odl x_answersFine a1 a2 a3 a4 a5 O a6 a7 (nI d) r_tape (nI n) (nI (s + 4)) p1 p2) (AcG st fi el A) := by
  have wr4 : f_within (nI (s + 4)).toInt64 (4 : Int64) ((3 + nI d : Int32).toInt64) = some 1 := by
    refine p_in ?_
    rw [show (3 + nI d : Int32) = nI (3 + d) from nI_add 3 d, nI_l (by omega), nI_l (by omega), show (4 : Int64) = lN 4 from rfl, lB_le (by omega) (by omega), lB_le (by omega) (by omega)]
    omega
  rcases tl_cases p1 p2 with ⟨q1, q2⟩ | ⟨q1, q2, q3, q4⟩ | ⟨t, l, ht, rfl, rfl⟩
  · refine ⟨-2, x_answersFine, x_answersElse, A0, hA0, ?_, ?_⟩
    · unfold f_answer
      rw [if_neg (show ¬ nI (s + 4) < 4 from nI_nlt (b := 4) (by omega) (by omega)), j_answer_16, if_neg i10, wr4, Option.bind_some, j_answer_46, if_neg i10, q2, Option.bind_some, if_pos rfl]
      exact ok.s ⟨rfl, rfl, w1, rfl, rfl⟩
    · unfold f_de_answer f_by_clear
      rw [s4, if_pos ⟨nI_pos' (by omega), nI_lt hs (by omega)⟩, chk_t (inN (by omega) (by omega)), if_pos (au_y hk hc), chk_t (inN (by omega) (by omega)), fits_w, q2, Option.bind_some, if_pos rfl, Option.bind_some]
      exact ok.s ⟨_, _, _, _, _, _, _, _, _, _, _, _, _, _, _, _, _, rfl, w2⟩
  · refine ⟨-2, x_answersFine, x_answersElse, A0, hA0, ?_, ?_⟩
    · unfold f_answer
      rw [if_neg (show ¬ nI (s + 4) < 4 from nI_nlt (b := 4) (by omega) (by omega)), j_answer_16, if_neg i10, wr4, Option.bind_some, j_answer_46, if_neg i10, q2, Option.bind_some, if_neg i10, q3, Option.bind_some, if_pos rfl]
      exact ok.s ⟨rfl, rfl, w1, rfl, rfl⟩
    · unfold f_de_answer f_by_clear
      rw [s4, if_pos ⟨nI_pos' (by omega), nI_lt hs (by omega)⟩, chk_t (inN (by omega) (by omega)), if_pos (au_y hk hc), chk_t (inN (by omega) (by omega)), fits_w, q2, Option.bind_some, if_neg i10]
      rcases q4 with q4 | ⟨q4, q5⟩
      · rw [if_pos q4, Option.bind_some]
        exact ok.s ⟨_, _, _, _, _, _, _, _, _, _, _, _, _, _, _, _, _, rfl, w2⟩
      · rw [if_neg q4, if_pos q5, Option.bind_some]
        exact ok.s ⟨_, _, _, _, _, _, _, _, _, _, _, _, _, _, _, _, _, rfl, w2⟩
  · have z1 : f_within (lN t) 0 3155759999 = some 1 := p_in ⟨(lB_le (a := 0) (by decide) (by omega)).mpr (by omega), (lB_le (b := 3155759999) (by omega) (by decide)).mpr (by omega)⟩
    have z0 : (3155759999 : Int64) - lN t = lN (3155759999 - t) := by rw [show (3155759999 : Int64) = lN 3155759999 from rfl, lN_sub (by omega)]
    have z2 : f_within (lN l) 0 (3155759999 - lN t) = some 1 := p_in ⟨(lB_le (a := 0) (by decide) (by omega)).mpr (by omega), by rw [z0]; exact (lB_le (by omega) (by omega)).mpr (by omega)⟩
    have z3 : ¬ lN l < 0 := fun q => by have := (lB_lt (b := 0) (by omega) (by decide)).mp q; omega
    have z4 : ¬ (3155759999 : Int64) - lN t < lN l := fun q => by rw [z0] at q; have := (lB_lt (by omega) (by omega)).mp q; omega
    have k4' : k < 4 := by omega
    obtain ⟨y10, b1, b2⟩ := r_reads1 (r_tape := r_tape) (x_taped := nI n) (x_at := x_at) (x_items := x_items) (x_fault := x_fault) (x_start := x_start) (x_sort := x_sort) (x_from := x_from) (x_to := x_to) (x_number := x_number) (x_signatureAt := x_signatureAt) (x_innerFrom := x_innerFrom) (x_innerTo := x_innerTo) (x_certSignature := x_certSignature) (x_issuerFrom := x_issuerFrom) (x_issuerTo := x_issuerTo) (x_holderFrom := x_holderFrom) (x_holderTo := x_holderTo) (x_certSerial := x_certSerial) (x_certFrom := x_certFrom) (x_certTo := x_certTo) (x_certKey := x_certKey) (x_certFlags := x_certFlags) (x_ids := x_ids) (r_idNames := r_idNames) (r_idKeys := r_idKeys) (r_idSerials := r_idSerials) (x_nonceFrom := x_nonceFrom) (x_nonceTo := x_nonceTo) (x_status := x_status) (x_tellerSort := x_tellerSort) (x_tellerFrom := x_tellerFrom) (x_tellerTo := x_tellerTo) (x_bodyFrom := x_bodyFrom) (x_bodyTo := x_bodyTo) (x_bodySignature := x_bodySignature) (x_hasCert := x_hasCert) (r_states := r_states) (r_whens := r_whens) (r_whys := r_whys) (r_fresh := r_fresh) (r_laters := r_laters) (n := n) hn rfl
    have hcs := fun h8 => c_sf (f := r_tape) (n := n) hn h8 cnt KH NH SE np nz a1 a2 a3 a4 a5 O a6 a7 kh nh
    cases hsa : s_ask r_tape n 0 0 with
    | inl pp =>
      rw [hsa] at b2 hcs
      obtain ⟨y12, d1, d2⟩ := hcs (fun v hv => by cases hv)
      refine ⟨1, x_answersFine, x_answersElse + 1, itm 48 (itm 10 [BB 1]), stat_l 1, ?_, ?_⟩
      · unfold f_answer
        rw [if_neg (show ¬ nI (s + 4) < 4 from nI_nlt (b := 4) (by omega) (by omega)), j_answer_16, if_neg i10, wr4, Option.bind_some, j_answer_46, if_neg i10, z1, Option.bind_some, if_neg i10, z2, Option.bind_some, if_neg i10, b1, Option.bind_some, bnd_eq, if_pos (show y10.1 = 0 from b2)]
        exact ok.b (r_status 1) (fun y g => ok.s ⟨g.1, rfl, g.2.1, rfl, g.2.2⟩)
      · have d3 : y12.1 = 1 := d2
        unfold f_de_answer f_by_clear
        rw [s4, if_pos ⟨nI_pos' (by omega), nI_lt hs (by omega)⟩, chk_t (inN (by omega) (by omega)), if_pos (au_y hk hc), chk_t (inN (by omega) (by omega)), fits_w, z1, Option.bind_some, if_neg i10, if_neg z3, if_neg z4, d1, Option.bind_some, bnd_eq, d3, if_neg i10, bnd_eq]
        refine ok.b (c_status 1) (fun y g => ?_)
        rw [Option.bind_some]
        exact ok.s ⟨_, _, _, _, _, _, _, _, _, _, _, _, _, _, _, _, _, rfl, g⟩
    | inr v =>
      rw [hsa] at b2 hcs
      obtain ⟨b2, b3, b4, b5, b6, h8, b7⟩ := b2
      obtain ⟨y12, d1, rr, KH', NH', SE', np', nz', x1, x2, x3, x4, i', O', qq, r', rfl, hAC, hNo, hown⟩ := hcs (fun u hu => by cases hu; exact h8)
      have hone : ∀ j, ∃ X, j < v.1.1.length → snG r_tape r_names r_nameSizes r_keys r_issued r_serials r_since r_reasons (y10.2.2.2.2.2.2.2.2.2.2.2.2.2.2.2.2.2.2.2.2.2.2.2.1) (y10.2.2.2.2.2.2.2.2.2.2.2.2.2.2.2.2.2.2.2.2.2.2.2.2.1) (y10.2.2.2.2.2.2.2.2.2.2.2.2.2.2.2.2.2.2.2.2.2.2.2.2.2.1) KH' NH' SE' kh nh S T R k m t l v.1.1.length j X := fun j => by
        by_cases hj : j < v.1.1.length
        · obtain ⟨e1, e2, e3, e4, e5, e6, e7⟩ := b4 j _ (List.getElem?_eq_getElem hj)
          obtain ⟨c1, c2, c3⟩ := hAC j _ (List.getElem?_eq_getElem hj)
          obtain ⟨X, hX⟩ := one (l := l) (t := t) hf k4' hT hr ht hA hA16 hns hnh hkh hj h8 ⟨Nat.le_trans e4 hn, Nat.le_trans e5 hn, e6, e7⟩ e1 e2 e3 c1 c2 c3
          exact ⟨X, fun _ => hX⟩
        · exact ⟨[], fun q => absurd q hj⟩
      obtain ⟨X, hX⟩ := Classical.skolem.mp hone
      have hI : ∀ j, j < v.1.1.length → ∀ xh, ok (f_isOf r_tape r_names r_nameSizes r_keys xh (y10.2.2.2.2.2.2.2.2.2.2.2.2.2.2.2.2.2.2.2.2.2.2.2.1) (y10.2.2.2.2.2.2.2.2.2.2.2.2.2.2.2.2.2.2.2.2.2.2.2.2.1) (nI j) (nI k)) (fun y => y.1 = if NH' j = nh ∧ KH' j = kh then 1 else 0) := fun j hj xh => by
        obtain ⟨e1, e2, e3, e4, e5, e6, e7⟩ := b4 j _ (List.getElem?_eq_getElem hj)
        obtain ⟨c1, c2, c3⟩ := hAC j _ (List.getElem?_eq_getElem hj)
        rw [c1, c2, hnh, hkh]
        exact p_isOf (by omega) k4' hA hA16 hns e1 e2 (Nat.le_trans e4 hn) (Nat.le_trans e5 hn) xh
      obtain ⟨-, g1, g2⟩ := a134s (r_tape := r_tape) (x_taped := 0) (r_out := r_out) (x_outs := x_outs) (x_authorities := nI c) (r_names := r_names) (r_nameSizes := r_nameSizes) (r_secrets := r_secrets) (r_keys := r_keys) (r_issued := r_issued) (r_serials := r_serials) (r_since := r_since) (r_reasons := r_reasons) (x_signers := nI d) (r_signerOf := r_signerOf) (r_signerSecrets := r_signerSecrets) (r_signerKeys := r_signerKeys) (r_certs := r_certs) (r_certSizes := r_certSizes) (x_answersFine := x_answersFine) (x_answersElse := x_answersElse) (x_signedC := x_signedC) (x_signedZ := x_signedZ) (r_shown := r_shown) (r_draft := r_draft) (x_drafted := x_drafted) (x_at := (y10.2.1)) (x_items := (y10.2.2.1)) (x_fault := (y10.2.2.2.1)) (x_start := (y10.2.2.2.2.1)) (x_sort := (y10.2.2.2.2.2.1)) (x_from := (y10.2.2.2.2.2.2.1)) (x_to := (y10.2.2.2.2.2.2.2.1)) (x_number := (y10.2.2.2.2.2.2.2.2.1)) (x_signatureAt := (y10.2.2.2.2.2.2.2.2.2.1)) (x_innerFrom := (y10.2.2.2.2.2.2.2.2.2.2.1)) (x_innerTo := (y10.2.2.2.2.2.2.2.2.2.2.2.1)) (x_certSignature := (y10.2.2.2.2.2.2.2.2.2.2.2.2.1)) (x_issuerFrom := (y10.2.2.2.2.2.2.2.2.2.2.2.2.2.1)) (x_issuerTo := (y10.2.2.2.2.2.2.2.2.2.2.2.2.2.2.1)) (x_holderFrom := (y10.2.2.2.2.2.2.2.2.2.2.2.2.2.2.2.1)) (x_holderTo := (y10.2.2.2.2.2.2.2.2.2.2.2.2.2.2.2.2.1)) (x_certSerial := (y10.2.2.2.2.2.2.2.2.2.2.2.2.2.2.2.2.2.1)) (x_certFrom := (y10.2.2.2.2.2.2.2.2.2.2.2.2.2.2.2.2.2.2.1)) (x_certTo := (y10.2.2.2.2.2.2.2.2.2.2.2.2.2.2.2.2.2.2.2.1)) (x_certKey := (y10.2.2.2.2.2.2.2.2.2.2.2.2.2.2.2.2.2.2.2.2.1)) (x_certFlags := (y10.2.2.2.2.2.2.2.2.2.2.2.2.2.2.2.2.2.2.2.2.2.1)) (x_ids := (y10.2.2.2.2.2.2.2.2.2.2.2.2.2.2.2.2.2.2.2.2.2.2.1)) (r_idNames := (y10.2.2.2.2.2.2.2.2.2.2.2.2.2.2.2.2.2.2.2.2.2.2.2.1)) (r_idKeys := (y10.2.2.2.2.2.2.2.2.2.2.2.2.2.2.2.2.2.2.2.2.2.2.2.2.1)) (r_idSerials := (y10.2.2.2.2.2.2.2.2.2.2.2.2.2.2.2.2.2.2.2.2.2.2.2.2.2.1)) (x_nonceFrom := (y10.2.2.2.2.2.2.2.2.2.2.2.2.2.2.2.2.2.2.2.2.2.2.2.2.2.2.1)) (x_nonceTo := (y10.2.2.2.2.2.2.2.2.2.2.2.2.2.2.2.2.2.2.2.2.2.2.2.2.2.2.2.1)) (x_status := (y10.2.2.2.2.2.2.2.2.2.2.2.2.2.2.2.2.2.2.2.2.2.2.2.2.2.2.2.2.1)) (x_tellerSort := (y10.2.2.2.2.2.2.2.2.2.2.2.2.2.2.2.2.2.2.2.2.2.2.2.2.2.2.2.2.2.1)) (x_tellerFrom := (y10.2.2.2.2.2.2.2.2.2.2.2.2.2.2.2.2.2.2.2.2.2.2.2.2.2.2.2.2.2.2.1)) (x_tellerTo := (y10.2.2.2.2.2.2.2.2.2.2.2.2.2.2.2.2.2.2.2.2.2.2.2.2.2.2.2.2.2.2.2.1)) (x_bodyFrom := (y10.2.2.2.2.2.2.2.2.2.2.2.2.2.2.2.2.2.2.2.2.2.2.2.2.2.2.2.2.2.2.2.2.1)) (x_bodyTo := (y10.2.2.2.2.2.2.2.2.2.2.2.2.2.2.2.2.2.2.2.2.2.2.2.2.2.2.2.2.2.2.2.2.2.1)) (x_bodySignature := (y10.2.2.2.2.2.2.2.2.2.2.2.2.2.2.2.2.2.2.2.2.2.2.2.2.2.2.2.2.2.2.2.2.2.2.1)) (x_hasCert := (y10.2.2.2.2.2.2.2.2.2.2.2.2.2.2.2.2.2.2.2.2.2.2.2.2.2.2.2.2.2.2.2.2.2.2.2.1)) (r_states := (y10.2.2.2.2.2.2.2.2.2.2.2.2.2.2.2.2.2.2.2.2.2.2.2.2.2.2.2.2.2.2.2.2.2.2.2.2.1)) (r_whens := (y10.2.2.2.2.2.2.2.2.2.2.2.2.2.2.2.2.2.2.2.2.2.2.2.2.2.2.2.2.2.2.2.2.2.2.2.2.2.1)) (r_whys := (y10.2.2.2.2.2.2.2.2.2.2.2.2.2.2.2.2.2.2.2.2.2.2.2.2.2.2.2.2.2.2.2.2.2.2.2.2.2.2.1)) (r_fresh := (y10.2.2.2.2.2.2.2.2.2.2.2.2.2.2.2.2.2.2.2.2.2.2.2.2.2.2.2.2.2.2.2.2.2.2.2.2.2.2.2.1)) (r_laters := (y10.2.2.2.2.2.2.2.2.2.2.2.2.2.2.2.2.2.2.2.2.2.2.2.2.2.2.2.2.2.2.2.2.2.2.2.2.2.2.2.2)) (show k < 4 by omega) hx (show s < 8 by omega) hse hsk hCt hC1 hC2 h8 hX hf hn b7 b3 b5 b6 rfl ht hI v.1.1.length 0 FU x_hashed (by unfold FU; omega) (by omega)
      rcases hown with ⟨rfl, hown⟩ | ⟨rfl, hown⟩
      · have g3 := g1 hown
        have g4 := w_answer (sk := sk) hsc htd hC1 hx h8 hX b7 hNo hf hn ht od odl
        generalize hL0 : anL (bdL (itm 162 (itm 4 (hbl sk 8))) t (catL X 0 v.1.1.length) (nonL 163 (sl r_tape v.1.2.1 (v.1.2.2 - v.1.2.1)))) x (itm 160 Ct) = L0 at g3 g4
        have hlen : L0.length ≤ 1500 := by
          rw [← hL0]
          have l1 := cat_l (w := v.1.1.length) (b := 104) (X := X) (fun j hj => (hX j hj).1) v.1.1.length 0 (by omega)
          have l2 := itm_le (s := 48) l1
          have l3 := non_l (k := 163) (B := sl r_tape v.1.2.1 (v.1.2.2 - v.1.2.1)) (m := 16) (by rw [sl_l]; rcases b7 with e | e; rw [e]; decide; omega)
          have l4 := encT_l t
          have l5 : (itm 162 (itm 4 (hbl sk 8))).length ≤ 30 := Nat.le_trans (itm_le (itm_le (Nat.le_of_eq (hbl_l sk 8)))) (by decide)
          have l6 := itm_le (s := 48) (show ((itm 162 (itm 4 (hbl sk 8))) ++ encT t ++ itm 48 (catL X 0 v.1.1.length) ++ nonL 163 (sl r_tape v.1.2.1 (v.1.2.2 - v.1.2.1))).length ≤ 920 by rw [List.length_append, List.length_append, List.length_append]; omega)
          have l7 := sig_l x (hl (bdL (itm 162 (itm 4 (hbl sk 8))) t (catL X 0 v.1.1.length) (nonL 163 (sl r_tape v.1.2.1 (v.1.2.2 - v.1.2.1)))))
          have l8 : ((itm 160 Ct) : List Int32).length ≤ 132 := itm_le hC1
          have l9 := itm_le (s := 160) (itm_le (s := 48) (show (bdL (itm 162 (itm 4 (hbl sk 8))) t (catL X 0 v.1.1.length) (nonL 163 (sl r_tape v.1.2.1 (v.1.2.2 - v.1.2.1))) ++ sigL x (hl (bdL (itm 162 (itm 4 (hbl sk 8))) t (catL X 0 v.1.1.length) (nonL 163 (sl r_tape v.1.2.1 (v.1.2.2 - v.1.2.1))))) ++ (itm 160 Ct)).length ≤ 1090 by rw [List.length_append, List.length_append]; unfold bdL at l7 ⊢; omega))
          have l10 := itm_le (s := 10) (show [BB 0].length ≤ 1 from Nat.le_refl _)
          refine Nat.le_trans (itm_le (n := 1103) ?_) (by decide)
          rw [List.length_append]
          omega
        clear hL0
        refine ⟨0, x_answersFine + 1, x_answersElse, L0, hlen, ?_, ?_⟩
        · unfold f_answer
          rw [if_neg (show ¬ nI (s + 4) < 4 from nI_nlt (b := 4) (by omega) (by omega)), j_answer_16, if_neg i10, wr4, Option.bind_some, j_answer_46, if_neg i10, z1, Option.bind_some, if_neg i10, z2, Option.bind_some, if_neg i10, b1, Option.bind_some, bnd_eq, if_neg (by rw [b2]; exact i10), if_neg i10, s4, chk_t (inN (by omega) (by omega)), bnd_eq, nI_clamp (by omega), hso]
          exact g3
        · unfold f_de_answer f_by_clear
          rw [s4, if_pos ⟨nI_pos' (by omega), nI_lt hs (by omega)⟩, chk_t (inN (by omega) (by omega)), if_pos (au_y hk hc), chk_t (inN (by omega) (by omega)), fits_w, z1, Option.bind_some, if_neg i10, if_neg z3, if_neg z4, d1, Option.bind_some, bnd_eq]
          dsimp only
          rw [if_pos rfl, bnd_eq]
          unfold nxt at g4
          by_cases hl0 : l = 0
          · rw [if_pos hl0] at g4
            rw [if_pos (by rw [hl0]; decide)]
            refine ok.b g4 (fun y g => ?_)
            rw [Option.bind_some]
            exact ok.s ⟨_, _, _, _, _, _, _, _, _, _, _, _, _, _, _, _, _, rfl, g⟩
          · rw [if_neg hl0] at g4
            rw [if_neg (lN_n0 (by omega) hl0), lN_add]
            refine ok.b g4 (fun y g => ?_)
            rw [Option.bind_some]
            exact ok.s ⟨_, _, _, _, _, _, _, _, _, _, _, _, _, _, _, _, _, rfl, g⟩
      · have g3 := g2 hown
        refine ⟨6, x_answersFine, x_answersElse + 1, itm 48 (itm 10 [BB 6]), stat_l 6, ?_, ?_⟩
        · unfold f_answer
          rw [if_neg (show ¬ nI (s + 4) < 4 from nI_nlt (b := 4) (by omega) (by omega)), j_answer_16, if_neg i10, wr4, Option.bind_some, j_answer_46, if_neg i10, z1, Option.bind_some, if_neg i10, z2, Option.bind_some, if_neg i10, b1, Option.bind_some, bnd_eq, if_neg (by rw [b2]; exact i10), if_neg i10, s4, chk_t (inN (by omega) (by omega)), bnd_eq, nI_clamp (by omega), hso]
          exact g3
        · unfold f_de_answer f_by_clear
          rw [s4, if_pos ⟨nI_pos' (by omega), nI_lt hs (by omega)⟩, chk_t (inN (by omega) (by omega)), if_pos (au_y hk hc), chk_t (inN (by omega) (by omega)), fits_w, z1, Option.bind_some, if_neg i10, if_neg z3, if_neg z4, d1, Option.bind_some, bnd_eq]
          dsimp only
          rw [if_neg (by decide), bnd_eq]
          refine ok.b (c_status 6) (fun y g => ?_)
          rw [Option.bind_some]
          exact ok.s ⟨_, _, _, _, _, _, _, _, _, _, _, _, _, _, _, _, _, rfl, g⟩
end RC
