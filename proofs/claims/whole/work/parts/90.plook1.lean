/-! PURE 40: the look at one single -/
abbrev VdY := Int32 × Int64 × Int32 × Int32 × Int32 × Int32 × Int32 × Int32 × Int32 × Int64 × Int32 × Int32 × Int32 × Int32 × Int32 × Int32 × Int32 × Int32 × Int64 × Int64 × Int64 × Int64 × Int32 × Int32 × ((Nat → Int32)) × ((Nat → Int32)) × ((Nat → Int64)) × Int32 × Int32 × Int32 × Int32 × Int32 × Int32 × Int32 × Int32 × Int32 × Int32 × ((Nat → Int32)) × ((Nat → Int64)) × ((Nat → Int32)) × ((Nat → Int64)) × ((Nat → Int64)) × ((Nat → Int64)) × Int32 × Int32 × Int32 × Int32
abbrev FN := Int32 × Int64 × Int32 × Int64 × Int64
/-- what the reference keeps of a find -/
def RvG (fd : Nat → Int64) (hf mh fo fs k s : Int32) (v : Int32) (o : Option FN) (y : VdY) : Prop := y.1 = v ∧ match o with
  | none => y.2.2.2.2.2.2.2.2.2.2.2.2.2.2.2.2.2.2.2.2.2.2.2.2.2.2.2.2.2.2.2.2.2.2.2.2.2.2.2.2.2.2.1 = fd ∧ y.2.2.2.2.2.2.2.2.2.2.2.2.2.2.2.2.2.2.2.2.2.2.2.2.2.2.2.2.2.2.2.2.2.2.2.2.2.2.2.2.2.2.2.1 = hf ∧ y.2.2.2.2.2.2.2.2.2.2.2.2.2.2.2.2.2.2.2.2.2.2.2.2.2.2.2.2.2.2.2.2.2.2.2.2.2.2.2.2.2.2.2.2.1 = mh ∧ y.2.2.2.2.2.2.2.2.2.2.2.2.2.2.2.2.2.2.2.2.2.2.2.2.2.2.2.2.2.2.2.2.2.2.2.2.2.2.2.2.2.2.2.2.2.1 = fo ∧ y.2.2.2.2.2.2.2.2.2.2.2.2.2.2.2.2.2.2.2.2.2.2.2.2.2.2.2.2.2.2.2.2.2.2.2.2.2.2.2.2.2.2.2.2.2.2 = fs
  | some n => (y.2.2.2.2.2.2.2.2.2.2.2.2.2.2.2.2.2.2.2.2.2.2.2.2.2.2.2.2.2.2.2.2.2.2.2.2.2.2.2.2.2.2.1) 0 = n.1.toInt64 ∧ (y.2.2.2.2.2.2.2.2.2.2.2.2.2.2.2.2.2.2.2.2.2.2.2.2.2.2.2.2.2.2.2.2.2.2.2.2.2.2.2.2.2.2.1) 1 = n.2.1 ∧ (y.2.2.2.2.2.2.2.2.2.2.2.2.2.2.2.2.2.2.2.2.2.2.2.2.2.2.2.2.2.2.2.2.2.2.2.2.2.2.2.2.2.2.1) 2 = n.2.2.1.toInt64 ∧ (y.2.2.2.2.2.2.2.2.2.2.2.2.2.2.2.2.2.2.2.2.2.2.2.2.2.2.2.2.2.2.2.2.2.2.2.2.2.2.2.2.2.2.1) 3 = n.2.2.2.1 ∧ (y.2.2.2.2.2.2.2.2.2.2.2.2.2.2.2.2.2.2.2.2.2.2.2.2.2.2.2.2.2.2.2.2.2.2.2.2.2.2.2.2.2.2.1) 4 = n.2.2.2.2 ∧ y.2.2.2.2.2.2.2.2.2.2.2.2.2.2.2.2.2.2.2.2.2.2.2.2.2.2.2.2.2.2.2.2.2.2.2.2.2.2.2.2.2.2.2.1 = 1 ∧ y.2.2.2.2.2.2.2.2.2.2.2.2.2.2.2.2.2.2.2.2.2.2.2.2.2.2.2.2.2.2.2.2.2.2.2.2.2.2.2.2.2.2.2.2.1 = 1 ∧ y.2.2.2.2.2.2.2.2.2.2.2.2.2.2.2.2.2.2.2.2.2.2.2.2.2.2.2.2.2.2.2.2.2.2.2.2.2.2.2.2.2.2.2.2.2.1 = k ∧ y.2.2.2.2.2.2.2.2.2.2.2.2.2.2.2.2.2.2.2.2.2.2.2.2.2.2.2.2.2.2.2.2.2.2.2.2.2.2.2.2.2.2.2.2.2.2 = s
/-! the class's search among ids -/
def MM (KH NH : Nat → Int64) (SE : Nat → Int32) (nh kh : Int64) (s : Int32) (j : Nat) : Prop := (NH j = nh ∧ KH j = kh) ∧ SE j = s
theorem pl_loop {KH NH : Nat → Int64} {SE : Nat → Int32} {nh kh : Int64} {s : Int32} {w : Nat} (hw : w ≤ 8) : ∀ (i j fu : Nat), i < fu → j + i = w → (∀ q, q < j → ¬ MM KH NH SE nh kh s q) → ∃ pc, j_id_placeOf_3 fu (nI w) KH NH SE nh kh s (nI j) = some pc ∧ ((pc = -1 ∧ ∀ q, q < w → ¬ MM KH NH SE nh kh s q) ∨ ∃ p, p < w ∧ pc = nI p ∧ MM KH NH SE nh kh s p ∧ ∀ q, q < p → ¬ MM KH NH SE nh kh s q) := by
  intro i
  induction i with
  | zero =>
    intro j fu hfu hj hq
    obtain ⟨fu, rfl⟩ : ∃ g, fu = g + 1 := ⟨fu - 1, by omega⟩
    rw [j_id_placeOf_3, if_pos (nI_le (by omega) (by omega))]
    exact ⟨_, rfl, Or.inl ⟨rfl, fun q h => hq q (by omega)⟩⟩
  | succ i ih =>
    intro j fu hfu hj hq
    obtain ⟨fu, rfl⟩ : ∃ g, fu = g + 1 := ⟨fu - 1, by omega⟩
    rw [j_id_placeOf_3, if_neg (nI_ge (by omega) (by omega)), u_isOf (by omega) hw, Option.bind_some]
    have nx : ¬ MM KH NH SE nh kh s j → ∀ q, q < j + 1 → ¬ MM KH NH SE nh kh s q := fun h q hq1 => by
      by_cases e : q = j
      · subst e; exact h
      · exact hq q (by omega)
    by_cases q1 : NH j = nh ∧ KH j = kh
    · rw [if_pos q1, if_neg i10, chk_t (inN (by omega) (by omega)), nI_clamp (by omega)]
      by_cases q2 : SE j = s
      · rw [if_pos q2]
        exact ⟨_, rfl, Or.inr ⟨j, by omega, rfl, ⟨q1, q2⟩, hq⟩⟩
      · rw [if_neg q2, bnd_eq, nI_1]
        exact ih (j + 1) fu (by omega) (by omega) (nx (fun h => q2 h.2))
    · rw [if_neg q1, if_pos rfl, bnd_eq, nI_1]
      exact ih (j + 1) fu (by omega) (by omega) (nx (fun h => q1 h.1))
theorem pl_ex {w : Nat} (hw : w ≤ 8) (KH NH : Nat → Int64) (SE : Nat → Int32) (nh kh : Int64) (s : Int32) : ∃ pc, f_id_placeOf (nI w) KH NH SE nh kh s = some pc ∧ ((pc = -1 ∧ ∀ q, q < w → ¬ MM KH NH SE nh kh s q) ∨ ∃ p, p < w ∧ pc = nI p ∧ MM KH NH SE nh kh s p ∧ ∀ q, q < p → ¬ MM KH NH SE nh kh s q) := pl_loop (KH := KH) (NH := NH) (SE := SE) (nh := nh) (kh := kh) (s := s) hw w 0 FU (by unfold FU; omega) (by omega) (fun q h => absurd h (by omega))
section RD
set_option linter.unusedVariables false
variable {r_tape r_names r_nameSizes r_issued r_serials r_nonce r_idNames r_idKeys r_states r_whys : (Nat → Int32)} {x_taped x_nonceSize x_at x_items x_fault x_start x_sort x_from x_to x_signatureAt x_innerFrom x_innerTo x_certSignature x_issuerFrom x_issuerTo x_holderFrom x_holderTo x_certFlags x_ids x_nonceFrom x_nonceTo x_status x_tellerSort x_tellerFrom x_tellerTo x_bodyFrom x_bodyTo x_bodySignature x_hasCert x_hasFind x_mayHold x_findOf x_findSerial : Int32} {r_keys r_since r_idSerials r_whens r_fresh r_laters r_find : (Nat → Int64)} {x_hashed x_number x_certSerial x_certFrom x_certTo x_certKey : Int64}
variable {KH NH : Nat → Int64} {SE ST : Nat → Int32} {SI : Nat → Int64} {RS : Nat → Int32} {FR NX : Nat → Int64} {kh nh : Int64} {w k V : Nat}
theorem r312 {v3 : Int64} {v5 v6 : Int32} {Q : VdY → Prop} (hw : w ≤ 8) (e1 : x_ids = nI w) (hI : ∀ j, j < w → ∀ xh, ok (f_isOf r_tape r_names r_nameSizes r_keys xh r_idNames r_idKeys (nI j) (nI k)) (fun y => y.1 = if NH j = nh ∧ KH j = kh then 1 else 0)) (hS : ∀ j, j < w → (r_idSerials j = (nI V).toInt64 ↔ SE j = nI V)) {g : Nat} (hg : (g = w ∧ ∀ q, q < w → ¬ MM KH NH SE nh kh (nI V) q) ∨ (g < w ∧ MM KH NH SE nh kh (nI V) g ∧ ∀ q, q < g → ¬ MM KH NH SE nh kh (nI V) q)) (hQ : ∀ xh, ok (j_verdictOf_350 r_tape x_taped r_names r_nameSizes r_keys r_issued r_serials r_since r_nonce x_nonceSize xh x_at x_items x_fault x_start x_sort x_from x_to x_number x_signatureAt x_innerFrom x_innerTo x_certSignature x_issuerFrom x_issuerTo x_holderFrom x_holderTo x_certSerial x_certFrom x_certTo x_certKey x_certFlags x_ids r_idNames r_idKeys r_idSerials x_nonceFrom x_nonceTo x_status x_tellerSort x_tellerFrom x_tellerTo x_bodyFrom x_bodyTo x_bodySignature x_hasCert r_states r_whens r_whys r_fresh r_laters r_find x_hasFind x_mayHold x_findOf x_findSerial (nI k) (nI V) v3 v5 v6 (nI g)) Q) : ∀ (i j fu : Nat) (xh : Int64), i < fu → j + i = w → j ≤ g → ok (j_verdictOf_312 fu r_tape x_taped r_names r_nameSizes r_keys r_issued r_serials r_since r_nonce x_nonceSize xh x_at x_items x_fault x_start x_sort x_from x_to x_number x_signatureAt x_innerFrom x_innerTo x_certSignature x_issuerFrom x_issuerTo x_holderFrom x_holderTo x_certSerial x_certFrom x_certTo x_certKey x_certFlags x_ids r_idNames r_idKeys r_idSerials x_nonceFrom x_nonceTo x_status x_tellerSort x_tellerFrom x_tellerTo x_bodyFrom x_bodyTo x_bodySignature x_hasCert r_states r_whens r_whys r_fresh r_laters r_find x_hasFind x_mayHold x_findOf x_findSerial (nI k) (nI V) v3 v5 v6 (nI j)) Q := by
  intro i
  induction i with
  | zero =>
    intro j fu xh hfu hj hjg
    obtain ⟨fu, rfl⟩ : ∃ g, fu = g + 1 := ⟨fu - 1, by omega⟩
    obtain rfl : j = g := by rcases hg with h | h <;> omega
    rw [j_verdictOf_312, if_pos (by rw [e1]; exact nI_le (by omega) (by omega))]
    exact hQ xh
  | succ i ih =>
    intro j fu xh hfu hj hjg
    obtain ⟨fu, rfl⟩ : ∃ g, fu = g + 1 := ⟨fu - 1, by omega⟩
    rw [j_verdictOf_312, if_neg (by rw [e1]; exact nI_ge (by omega) (by omega)), chk_t (inN (by omega) (by omega)), nI_clamp (by omega)]
    have ng : ¬ MM KH NH SE nh kh (nI V) j → j + 1 ≤ g := fun h => by
      rcases hg with ⟨h1, h2⟩ | ⟨h1, h2, h3⟩
      · omega
      · by_cases e : j = g
        · subst e; exact absurd h2 h
        · omega
    have yg : MM KH NH SE nh kh (nI V) j → j = g := fun h => by
      rcases hg with ⟨h1, h2⟩ | ⟨h1, h2, h3⟩
      · exact absurd h (h2 j (by omega))
      · by_cases e : j < g
        · exact absurd h (h3 j e)
        · omega
    by_cases q1 : r_idSerials j = (nI V).toInt64
    · rw [if_pos q1]
      refine ok.b (hI j (by omega) xh) (fun y40 g40 => ?_)
      by_cases q2 : NH j = nh ∧ KH j = kh
      · rw [g40, if_pos q2, if_neg i10]
        have := yg ⟨q2, (hS j (by omega)).mp q1⟩
        subst this
        exact hQ y40.2
      · rw [g40, if_neg q2, if_pos rfl, bnd_eq, nI_1]
        exact ih (j + 1) fu y40.2 (by omega) (by omega) (ng (fun h => q2 h.1))
    · rw [if_neg q1, bnd_eq, nI_1]
      exact ih (j + 1) fu xh (by omega) (by omega) (ng (fun h => q1 ((hS j (by omega)).mpr h.2)))
/-- the find of one single -/
def fnd (st : Int32) (si : Int64) (re : Int32) (fr nx : Int64) (ag : Int32) : FN := (st, si, re, fr, if nx = -1 then fr + ag.toInt64 else nx)
theorem r465 {v6 : Int32} {g : Nat} (hg : g < 8) : ok (j_verdictOf_465 r_tape x_taped r_names r_nameSizes r_keys r_issued r_serials r_since r_nonce x_nonceSize x_hashed x_at x_items x_fault x_start x_sort x_from x_to x_number x_signatureAt x_innerFrom x_innerTo x_certSignature x_issuerFrom x_issuerTo x_holderFrom x_holderTo x_certSerial x_certFrom x_certTo x_certKey x_certFlags x_ids r_idNames r_idKeys r_idSerials x_nonceFrom x_nonceTo x_status x_tellerSort x_tellerFrom x_tellerTo x_bodyFrom x_bodyTo x_bodySignature x_hasCert r_states r_whens r_whys r_fresh r_laters r_find x_hasFind x_mayHold x_findOf x_findSerial (nI k) (nI V) v6 (nI g)) (RvG r_find x_hasFind x_mayHold x_findOf x_findSerial (nI k) (nI V) (r_states g) (some (fnd (r_states g) (r_whens g) (r_whys g) (r_fresh g) (r_laters g) v6))) := by
  have c8 : ¬ (nI g < 0 ∨ 8 ≤ (nI g).toNatClampNeg) := inN hg (by omega)
  have h01 : ∀ (f : Nat → Int64) (a b : Nat) (x y : Int64), a ≠ b → vp_updL (vp_updL f a x) b y a = x := fun f a b x y h => by rw [pk_uLn h, pk_uLs]
  unfold j_verdictOf_465
  rw [chk_t c8, chk_t (by decide), bnd_eq, chk_t c8, chk_t (by decide), bnd_eq, chk_t c8, chk_t (by decide), bnd_eq, chk_t c8, chk_t (by decide), bnd_eq, chk_t c8, nI_clamp (by omega), show (0 : Int32).toNatClampNeg = 0 from rfl, show (1 : Int32).toNatClampNeg = 1 from rfl, show (2 : Int32).toNatClampNeg = 2 from rfl, show (3 : Int32).toNatClampNeg = 3 from rfl]
  have key : ∀ (x : Int64), x = (if r_laters g = -1 then r_fresh g + v6.toInt64 else r_laters g) → ok (j_verdictOf_559 r_tape x_taped r_names r_nameSizes r_keys r_issued r_serials r_since r_nonce x_nonceSize x_hashed x_at x_items x_fault x_start x_sort x_from x_to x_number x_signatureAt x_innerFrom x_innerTo x_certSignature x_issuerFrom x_issuerTo x_holderFrom x_holderTo x_certSerial x_certFrom x_certTo x_certKey x_certFlags x_ids r_idNames r_idKeys r_idSerials x_nonceFrom x_nonceTo x_status x_tellerSort x_tellerFrom x_tellerTo x_bodyFrom x_bodyTo x_bodySignature x_hasCert r_states r_whens r_whys r_fresh r_laters (vp_updL (vp_updL (vp_updL (vp_updL r_find 0 (r_states g).toInt64) 1 (r_whens g)) 2 (r_whys g).toInt64) 3 (r_fresh g)) x_hasFind x_mayHold x_findOf x_findSerial (nI k) (nI V) (nI g) x 4) (RvG r_find x_hasFind x_mayHold x_findOf x_findSerial (nI k) (nI V) (r_states g) (some (fnd (r_states g) (r_whens g) (r_whys g) (r_fresh g) (r_laters g) v6))) := fun x hx => by
    unfold j_verdictOf_559
    rw [chk_t (by decide), bnd_eq, chk_t c8, nI_clamp (by omega), show (4 : Int32).toNatClampNeg = 4 from rfl]
    refine ok.s ⟨rfl, ?_, ?_, ?_, ?_, ?_, rfl, rfl, rfl, rfl⟩
    · dsimp only
      rw [pk_uLn (by decide), pk_uLn (by decide), pk_uLn (by decide), pk_uLn (by decide), pk_uLs]
      rfl
    · dsimp only
      rw [pk_uLn (by decide), pk_uLn (by decide), pk_uLn (by decide), pk_uLs]
      rfl
    · dsimp only
      rw [pk_uLn (by decide), pk_uLn (by decide), pk_uLs]
      rfl
    · dsimp only
      rw [pk_uLn (by decide), pk_uLs]
      rfl
    · dsimp only
      rw [pk_uLs]
      exact hx
  by_cases h1 : r_laters g = -1
  · rw [if_pos h1]
    exact key _ (by rw [if_pos h1])
  · rw [if_neg h1]
    exact key _ (by rw [if_neg h1])
/-- the single at g: both sides tell the same of it -/
theorem one_v {v3 : Int64} {v5 v6 : Int32} (hw : w ≤ 8) (e1 : x_ids = nI w) {g : Nat} (hg : g < w) (hst : 1 ≤ ST g ∧ ST g ≤ 3) (h1 : r_states g = ST g) (h2 : r_whens g = SI g) (h3 : r_whys g = RS g) (h4 : r_fresh g = FR g) (h5 : r_laters g = NX g) : ∃ v o, (∀ xh, ok (j_verdictOf_350 r_tape x_taped r_names r_nameSizes r_keys r_issued r_serials r_since r_nonce x_nonceSize xh x_at x_items x_fault x_start x_sort x_from x_to x_number x_signatureAt x_innerFrom x_innerTo x_certSignature x_issuerFrom x_issuerTo x_holderFrom x_holderTo x_certSerial x_certFrom x_certTo x_certKey x_certFlags x_ids r_idNames r_idKeys r_idSerials x_nonceFrom x_nonceTo x_status x_tellerSort x_tellerFrom x_tellerTo x_bodyFrom x_bodyTo x_bodySignature x_hasCert r_states r_whens r_whys r_fresh r_laters r_find x_hasFind x_mayHold x_findOf x_findSerial (nI k) (nI V) v3 v5 v6 (nI g)) (RvG r_find x_hasFind x_mayHold x_findOf x_findSerial (nI k) (nI V) v o)) ∧ f_an_verdictOnSingle FR (nI w) NX ST (nI g) v3 v5 v6 = some v ∧ ((3 < v ∧ o = none) ∨ ((1 ≤ v ∧ ¬ 3 < v) ∧ o = some (fnd v (SI g) (RS g) (FR g) (NX g) v6) ∧ v = ST g)) := by
  have c8 : ¬ (nI g < 0 ∨ 8 ≤ (nI g).toNatClampNeg) := inN (by omega) (by omega)
  have r3 : ¬ (3 : Int32) < ST g := Int32.not_lt.mpr hst.2
  have hne : ¬ nI g = x_ids := fun e => by
    rw [e1] at e
    have := nI_ge (a := g) (b := w) (by omega) (by omega)
    rw [e] at this
    exact this (Int32.le_refl _)
  unfold f_an_verdictOnSingle j_verdictOf_350 j_verdictOf_432
  rw [if_neg (nI_pos (by omega)), if_pos (nI_lt hg (by omega)), chk_t c8, nI_clamp (by omega)]
  have fin : ∀ xh, ok (j_verdictOf_465 r_tape x_taped r_names r_nameSizes r_keys r_issued r_serials r_since r_nonce x_nonceSize xh x_at x_items x_fault x_start x_sort x_from x_to x_number x_signatureAt x_innerFrom x_innerTo x_certSignature x_issuerFrom x_issuerTo x_holderFrom x_holderTo x_certSerial x_certFrom x_certTo x_certKey x_certFlags x_ids r_idNames r_idKeys r_idSerials x_nonceFrom x_nonceTo x_status x_tellerSort x_tellerFrom x_tellerTo x_bodyFrom x_bodyTo x_bodySignature x_hasCert r_states r_whens r_whys r_fresh r_laters r_find x_hasFind x_mayHold x_findOf x_findSerial (nI k) (nI V) v6 (nI g)) (RvG r_find x_hasFind x_mayHold x_findOf x_findSerial (nI k) (nI V) (ST g) (some (fnd (ST g) (SI g) (RS g) (FR g) (NX g) v6))) := fun xh => by
    have q := r465 (r_tape := r_tape) (x_taped := x_taped) (r_names := r_names) (r_nameSizes := r_nameSizes) (r_keys := r_keys) (r_issued := r_issued) (r_serials := r_serials) (r_since := r_since) (r_nonce := r_nonce) (x_nonceSize := x_nonceSize) (x_hashed := xh) (x_at := x_at) (x_items := x_items) (x_fault := x_fault) (x_start := x_start) (x_sort := x_sort) (x_from := x_from) (x_to := x_to) (x_number := x_number) (x_signatureAt := x_signatureAt) (x_innerFrom := x_innerFrom) (x_innerTo := x_innerTo) (x_certSignature := x_certSignature) (x_issuerFrom := x_issuerFrom) (x_issuerTo := x_issuerTo) (x_holderFrom := x_holderFrom) (x_holderTo := x_holderTo) (x_certSerial := x_certSerial) (x_certFrom := x_certFrom) (x_certTo := x_certTo) (x_certKey := x_certKey) (x_certFlags := x_certFlags) (x_ids := x_ids) (r_idNames := r_idNames) (r_idKeys := r_idKeys) (r_idSerials := r_idSerials) (x_nonceFrom := x_nonceFrom) (x_nonceTo := x_nonceTo) (x_status := x_status) (x_tellerSort := x_tellerSort) (x_tellerFrom := x_tellerFrom) (x_tellerTo := x_tellerTo) (x_bodyFrom := x_bodyFrom) (x_bodyTo := x_bodyTo) (x_bodySignature := x_bodySignature) (x_hasCert := x_hasCert) (r_states := r_states) (r_whens := r_whens) (r_whys := r_whys) (r_fresh := r_fresh) (r_laters := r_laters) (r_find := r_find) (x_hasFind := x_hasFind) (x_mayHold := x_mayHold) (x_findOf := x_findOf) (x_findSerial := x_findSerial) (k := k) (V := V) (v6 := v6) (show g < 8 by omega)
    rw [h1, h2, h3, h4, h5] at q
    exact q
  by_cases a1 : FR g ≤ v3 + v5.toInt64
  · rw [if_pos a1, chk_t (by rintro (q | q); exact nI_pos (by omega) q; omega)]
    by_cases a2 : NX g = -1
    · rw [if_pos a2]
      by_cases a3 : v3 - v6.toInt64 ≤ FR g
      · rw [if_pos a3, chk_t (by rintro (q | q); exact nI_pos (by omega) q; omega)]
        refine ⟨_, _, fun xh => ?_, rfl, Or.inr ⟨⟨hst.1, r3⟩, rfl, rfl⟩⟩
        rw [if_neg hne, chk_t (by rintro (q | q); exact nI_pos (by omega) q; omega), h4, if_pos a1, chk_t (by rintro (q | q); exact nI_pos (by omega) q; omega), h5, if_pos a2, chk_t (by rintro (q | q); exact nI_pos (by omega) q; omega), if_pos a2, chk_t (by rintro (q | q); exact nI_pos (by omega) q; omega), if_pos a3]
        exact fin xh
      · rw [if_neg a3]
        refine ⟨33, none, fun xh => ?_, rfl, Or.inl ⟨by decide, rfl⟩⟩
        rw [if_neg hne, chk_t (by rintro (q | q); exact nI_pos (by omega) q; omega), h4, if_pos a1, chk_t (by rintro (q | q); exact nI_pos (by omega) q; omega), h5, if_pos a2, chk_t (by rintro (q | q); exact nI_pos (by omega) q; omega), if_pos a2, chk_t (by rintro (q | q); exact nI_pos (by omega) q; omega), if_neg a3]
        exact ok.s ⟨rfl, rfl, rfl, rfl, rfl, rfl⟩
    · rw [if_neg a2]
      by_cases a3 : NX g < v3 - v5.toInt64
      · rw [if_pos a3]
        refine ⟨32, none, fun xh => ?_, rfl, Or.inl ⟨by decide, rfl⟩⟩
        rw [if_neg hne, chk_t (by rintro (q | q); exact nI_pos (by omega) q; omega), h4, if_pos a1, chk_t (by rintro (q | q); exact nI_pos (by omega) q; omega), h5, if_neg a2, if_pos a3]
        exact ok.s ⟨rfl, rfl, rfl, rfl, rfl, rfl⟩
      · rw [if_neg a3]
        by_cases a4 : FR g ≤ NX g
        · rw [if_pos a4, chk_t (by rintro (q | q); exact nI_pos (by omega) q; omega)]
          refine ⟨_, _, fun xh => ?_, rfl, Or.inr ⟨⟨hst.1, r3⟩, rfl, rfl⟩⟩
          rw [if_neg hne, chk_t (by rintro (q | q); exact nI_pos (by omega) q; omega), h4, if_pos a1, chk_t (by rintro (q | q); exact nI_pos (by omega) q; omega), h5, if_neg a2, if_neg a3, if_pos a4, chk_t (by rintro (q | q); exact nI_pos (by omega) q; omega), if_neg a2]
          exact fin xh
        · rw [if_neg a4]
          refine ⟨32, none, fun xh => ?_, rfl, Or.inl ⟨by decide, rfl⟩⟩
          rw [if_neg hne, chk_t (by rintro (q | q); exact nI_pos (by omega) q; omega), h4, if_pos a1, chk_t (by rintro (q | q); exact nI_pos (by omega) q; omega), h5, if_neg a2, if_neg a3, if_neg a4]
          exact ok.s ⟨rfl, rfl, rfl, rfl, rfl, rfl⟩
  · rw [if_neg a1]
    refine ⟨31, none, fun xh => ?_, rfl, Or.inl ⟨by decide, rfl⟩⟩
    rw [if_neg hne, chk_t (by rintro (q | q); exact nI_pos (by omega) q; omega), h4, if_neg a1]
    exact ok.s ⟨rfl, rfl, rfl, rfl, rfl, rfl⟩
theorem no_v {v3 : Int64} {v5 v6 : Int32} (e1 : x_ids = nI w) : ∀ xh, ok (j_verdictOf_350 r_tape x_taped r_names r_nameSizes r_keys r_issued r_serials r_since r_nonce x_nonceSize xh x_at x_items x_fault x_start x_sort x_from x_to x_number x_signatureAt x_innerFrom x_innerTo x_certSignature x_issuerFrom x_issuerTo x_holderFrom x_holderTo x_certSerial x_certFrom x_certTo x_certKey x_certFlags x_ids r_idNames r_idKeys r_idSerials x_nonceFrom x_nonceTo x_status x_tellerSort x_tellerFrom x_tellerTo x_bodyFrom x_bodyTo x_bodySignature x_hasCert r_states r_whens r_whys r_fresh r_laters r_find x_hasFind x_mayHold x_findOf x_findSerial (nI k) (nI V) v3 v5 v6 (nI w)) (RvG r_find x_hasFind x_mayHold x_findOf x_findSerial (nI k) (nI V) 30 none) := fun xh => by
  unfold j_verdictOf_350
  rw [if_pos e1.symm]
  exact ok.s ⟨rfl, rfl, rfl, rfl, rfl, rfl⟩
end RD
