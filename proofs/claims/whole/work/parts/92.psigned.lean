/-! PURE 42: what is wrong before the singles are looked at -/
section RE
set_option linter.unusedVariables false
variable {r_tape r_names r_nameSizes r_issued r_serials r_nonce r_idNames r_idKeys r_states r_whys : (Nat → Int32)} {x_taped x_nonceSize x_at x_items x_fault x_start x_sort x_from x_to x_signatureAt x_innerFrom x_innerTo x_certSignature x_issuerFrom x_issuerTo x_holderFrom x_holderTo x_certFlags x_ids x_nonceFrom x_nonceTo x_status x_tellerSort x_tellerFrom x_tellerTo x_bodyFrom x_bodyTo x_bodySignature x_hasCert x_hasFind x_mayHold x_findOf x_findSerial : Int32} {r_keys r_since r_idSerials r_whens r_fresh r_laters r_find : (Nat → Int64)} {x_hashed x_number x_certSerial x_certFrom x_certTo x_certKey : Int64}
variable {bodyEnd bodyPlace c_flags c_innerEnd c_innerPlace c_issuerPlace c_issuerSize c_namePlace c_nameSize c_serial hc isB np nz status tp ts nl0 fault tln miss nl pk : Int32} {c_from c_publicKey c_signature c_to sg th kh : Int64} {nd0 nd S : (Nat → Int32)} {T : (Nat → Int64)}
variable {k V t n : Nat} {v5 v6 : Int32}
theorem bad3 {v : Int32} {o : Option FN} {w : Int32} (h3 : 3 < w) (h : w ≠ 0 → v = w ∧ o = none) : v = w ∧ o = none := h (fun e => by rw [e] at h3; exact absurd h3 (by decide))
theorem same_no {a b : Nat → Int32} {M Na Nb m : Nat} {x : Int32} (hm : m < 2 ^ 31) : f_by_isSame a (nI m) b (nI M) Na Nb x (nI 0) = some (if m = 0 then 1 else 0) := by
  unfold f_by_isSame
  by_cases h : m = 0
  · subst h
    rw [if_pos rfl, if_pos rfl, show FU = 4999 + 1 from rfl, j_by_isSame_13, if_pos (by decide)]
  · rw [if_neg (fun e => h ((nI_eq (by decide) hm).mp e).symm), if_neg h]
theorem v244 (hf : TP r_tape) (hn : n ≤ 1500) (htl : tln = nI n) {a0 z0 : Nat} (haz : a0 ≤ z0) (hz : z0 ≤ n) (e1 : x_bodyFrom = nI a0) (e2 : x_bodyTo = nI z0) (e3 : bodyPlace = nI a0) (e4 : bodyEnd = nI z0) {sx : Nat} (hsx : sx + 9 ≤ n) (e5 : x_bodySignature = nI (sx + 1)) (e6 : sg = nb r_tape 0 sx 9) (h6 : r_tape sx = 0) {v : Nat × Nat} (hv : nob n v) (e7 : x_nonceFrom = nI v.1) (e8 : x_nonceTo = nI v.2) (hno : NoR v np nz) {B : List Int32} (hB1 : WW r_nonce x_nonceSize B) (hB2 : WW nd0 nl0 B) (hB8 : B.length ≤ 8) {K : Nat} (hK : K < PP) : ∃ vt, j_de_verdictOnText_96 bodyEnd bodyPlace c_flags c_from c_innerEnd c_innerPlace c_issuerPlace c_issuerSize c_namePlace c_nameSize c_publicKey c_serial c_signature c_to hc isB np nz sg status th tp ts nd0 nl0 fault r_tape tln miss kh nd nl pk S T (lN K) = some vt ∧ (vt = 0 ∨ 3 < vt) ∧ ∀ v o, (vt = 0 → ∀ xh, ok (j_verdictOf_312 FU r_tape x_taped r_names r_nameSizes r_keys r_issued r_serials r_since r_nonce x_nonceSize xh x_at x_items x_fault x_start x_sort x_from x_to x_number x_signatureAt x_innerFrom x_innerTo x_certSignature x_issuerFrom x_issuerTo x_holderFrom x_holderTo x_certSerial x_certFrom x_certTo x_certKey x_certFlags x_ids r_idNames r_idKeys r_idSerials x_nonceFrom x_nonceTo x_status x_tellerSort x_tellerFrom x_tellerTo x_bodyFrom x_bodyTo x_bodySignature x_hasCert r_states r_whens r_whys r_fresh r_laters r_find x_hasFind x_mayHold x_findOf x_findSerial (nI k) (nI V) (lN t) v5 v6 0) (RvG r_find x_hasFind x_mayHold x_findOf x_findSerial (nI k) (nI V) v o)) → (vt ≠ 0 → v = vt ∧ o = none) → ∀ xh, ok (j_verdictOf_244 r_tape x_taped r_names r_nameSizes r_keys r_issued r_serials r_since r_nonce x_nonceSize xh x_at x_items x_fault x_start x_sort x_from x_to x_number x_signatureAt x_innerFrom x_innerTo x_certSignature x_issuerFrom x_issuerTo x_holderFrom x_holderTo x_certSerial x_certFrom x_certTo x_certKey x_certFlags x_ids r_idNames r_idKeys r_idSerials x_nonceFrom x_nonceTo x_status x_tellerSort x_tellerFrom x_tellerTo x_bodyFrom x_bodyTo x_bodySignature x_hasCert r_states r_whens r_whys r_fresh r_laters r_find x_hasFind x_mayHold x_findOf x_findSerial (nI k) (nI V) (lN t) v5 v6 (lN K)) (RvG r_find x_hasFind x_mayHold x_findOf x_findSerial (nI k) (nI V) v o) := by
  subst htl e1 e2 e3 e4 e5 e6 e7 e8
  have hsl := sl_l r_tape (z0 - a0) a0
  have hg := GG_sl hf a0 (z0 - a0)
  have q1 := pu_digest (N := 1500) (M := n) hg (by omega) hn (by omega) (by unfold FU; omega)
  have q2 := pu_isRight (f := r_tape) (x := sx + 1) hK (hl (sl r_tape a0 (z0 - a0)))
  have q3 := fun xh => p_isRight (f := r_tape) (x := sx + 1) (K := K) (show sx + 1 + 8 ≤ 1500 by omega) hK hg (by omega) xh
  rw [hsl, show a0 + (z0 - a0) = z0 by omega] at q1
  rw [hsl, show a0 + (z0 - a0) = z0 by omega] at q3
  unfold j_de_verdictOnText_96 j_verdictOf_244
  rw [q1, Option.bind_some, nb9 h6, q2, Option.bind_some]
  generalize irN (F4 r_tape (sx + 1)) (F4 r_tape (sx + 1 + 4)) K (hl (sl r_tape a0 (z0 - a0))) = ir at q3 ⊢
  by_cases hir : ir = 0
  · rw [if_pos hir]
    refine ⟨28, rfl, Or.inr (by decide), fun v o _ h2 xh => ?_⟩
    obtain ⟨rfl, rfl⟩ := h2 (by decide)
    refine ok.b (q3 xh) (fun y31 g31 => ?_)
    rw [g31, if_pos hir]
    exact ok.s ⟨rfl, rfl, rfl, rfl, rfl, rfl⟩
  · rw [if_neg hir]
    obtain ⟨n1, n2⟩ := hno
    obtain ⟨rfl, hB1⟩ := hB1
    obtain ⟨rfl, hB2⟩ := hB2
    -- the nonce
    have hcls : f_by_isSame nd0 (nI B.length) r_tape (nI n) 8 1500 np nz = some (if B = sl r_tape v.1 (v.2 - v.1) then 1 else 0) := by
      rw [n1]
      rcases hv with rfl | ⟨v1, v2, v3, v4⟩
      · refine (same_no (by omega)).trans (congrArg some ?_)
        show (if B.length = 0 then (1 : Int32) else 0) = if B = [] then 1 else 0
        by_cases h0 : B.length = 0
        · rw [if_pos h0, if_pos (List.eq_nil_of_length_eq_zero h0)]
        · rw [if_neg h0, if_neg (fun e => h0 (by rw [e]; rfl))]
      · have n3 : np = nI v.1 := by
          rcases n2 with e | e
          · rw [e] at v1; exact absurd v1 (by decide)
          · exact e
        have q := pu_isSame (a := nd0) (b := r_tape) (Na := 8) (Nb := 1500) (n := B.length) (q := v.1) (m := v.2 - v.1) (M := n) (by unfold FU; omega) hB8 (by omega) hn (by decide) (by decide) (fun j hj => by have := GG_at hB2 hj; rwa [Nat.zero_add] at this) hf
        rw [n3, q, sl_GG B 0 hB2]
    have href : f_isSame r_nonce 8 0 (nI B.length) r_tape 1500 (nI v.1) (nI v.2) = some (if B = sl r_tape v.1 (v.2 - v.1) then 1 else 0) := by
      have q := p_isSame (a := r_nonce) (b := r_tape) (Na := 8) (Nb := 1500) (p := 0) (n := B.length) (q := v.1) (m := v.2 - v.1) (by unfold FU; omega) (by omega) (by rcases hv with rfl | ⟨v1, v2, v3, v4⟩; decide; omega) (by decide) (by decide)
      rw [show v.1 + (v.2 - v.1) = v.2 from (by rcases hv with rfl | ⟨v1, v2, v3, v4⟩; rfl; omega), Nat.zero_add, sl_GG B 0 hB1] at q
      exact q
    rw [hcls, Option.bind_some]
    by_cases h0 : B.length = 0
    · rw [if_pos (show nI B.length ≤ 0 by rw [h0]; decide)]
      refine ⟨0, rfl, Or.inl rfl, fun v o h1 _ xh => ?_⟩
      refine ok.b (q3 xh) (fun y31 g31 => ?_)
      rw [g31, if_neg hir, if_pos (show nI B.length ≤ 0 by rw [h0]; decide)]
      exact h1 rfl y31.2
    · have hz0 : ¬ nI B.length ≤ 0 := nI_nle (by omega) (by omega)
      rw [if_neg hz0]
      by_cases hs : B = sl r_tape v.1 (v.2 - v.1)
      · rw [if_pos hs] at href ⊢
        rw [if_neg i10]
        refine ⟨0, rfl, Or.inl rfl, fun v o h1 _ xh => ?_⟩
        refine ok.b (q3 xh) (fun y31 g31 => ?_)
        rw [g31, if_neg hir, if_neg hz0, href, Option.bind_some, if_neg i10]
        exact h1 rfl y31.2
      · rw [if_neg hs] at href ⊢
        rw [if_pos rfl]
        refine ⟨29, rfl, Or.inr (by decide), fun v o _ h2 xh => ?_⟩
        obtain ⟨rfl, rfl⟩ := h2 (by decide)
        refine ok.b (q3 xh) (fun y31 g31 => ?_)
        rw [g31, if_neg hir, if_neg hz0, href, Option.bind_some, if_pos rfl]
        exact ok.s ⟨rfl, rfl, rfl, rfl, rfl, rfl⟩
end RE
