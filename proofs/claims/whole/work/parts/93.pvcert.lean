/-! PURE 43: the certificate in an answer, and the text -/
section RF
set_option linter.unusedVariables false
variable {r_tape r_names r_nameSizes r_issued r_serials r_nonce r_idNames r_idKeys r_states r_whys : (Nat → Int32)} {x_taped x_nonceSize x_at x_items x_fault x_start x_sort x_from x_to x_signatureAt x_innerFrom x_innerTo x_certSignature x_issuerFrom x_issuerTo x_holderFrom x_holderTo x_certFlags x_ids x_nonceFrom x_nonceTo x_status x_tellerSort x_tellerFrom x_tellerTo x_bodyFrom x_bodyTo x_bodySignature x_hasCert x_hasFind x_mayHold x_findOf x_findSerial : Int32} {r_keys r_since r_idSerials r_whens r_fresh r_laters r_find : (Nat → Int64)} {x_hashed x_number x_certSerial x_certFrom x_certTo x_certKey : Int64}
variable {bodyEnd bodyPlace c_flags c_innerEnd c_innerPlace c_issuerPlace c_issuerSize c_namePlace c_nameSize c_serial hc isB np nz status tp ts nl0 fault tln miss nl pk : Int32} {c_from c_publicKey c_signature c_to sg th kh : Int64} {nd0 nd S : (Nat → Int32)} {T : (Nat → Int64)}
variable {k V t n : Nat} {v5 v6 : Int32}
theorem vcert (hf : TP r_tape) (hn : n ≤ 1500) (htl : tln = nI n) (hk : k < 4) {m : Nat} {R rR : Nat → Int32} (hT : TB k m S T R r_serials r_since rR) (hr : r_issued k = nI m) (hms : miss = nI m) {An : List Int32} (hA : GG r_names (16 * k) An) (hA16 : An.length ≤ 16) (hnd : WW nd nl An) {K : Nat} (hK : K < PP) (hpk : pk = nI K) {te : Nat × Nat × Nat} (hte : teb n te) (hTe : TeR r_tape te isB th tp ts) (t1 : x_tellerSort = nI te.1) (t2 : x_tellerFrom = nI te.2.1) (t3 : x_tellerTo = nI te.2.2) {ce : Option CT} (hce : CeG n ce x_hasCert x_innerFrom x_innerTo x_certSignature x_issuerFrom x_issuerTo x_holderFrom x_holderTo x_certSerial x_certFrom x_certTo x_certKey x_certFlags) (hcc : CcG r_tape ce hc c_flags c_from c_innerEnd c_innerPlace c_issuerPlace c_issuerSize c_namePlace c_nameSize c_publicKey c_serial c_signature c_to) : ∃ vc, f_de_verdictOnCert c_flags c_from c_innerEnd c_innerPlace c_issuerPlace c_issuerSize c_namePlace c_nameSize c_publicKey c_serial c_signature c_to hc isB th tp ts r_tape tln miss nd nl pk S T (lN t) = some vc ∧ (vc = 0 ∨ 3 < vc) ∧ (vc = 0 → ∃ K', K' < PP ∧ c_publicKey = lN K' ∧ x_certKey = lN K') ∧ ∀ v o, (vc = 0 → ∀ xh, ok (j_verdictOf_244 r_tape x_taped r_names r_nameSizes r_keys r_issued r_serials r_since r_nonce x_nonceSize xh x_at x_items x_fault x_start x_sort x_from x_to x_number x_signatureAt x_innerFrom x_innerTo x_certSignature x_issuerFrom x_issuerTo x_holderFrom x_holderTo x_certSerial x_certFrom x_certTo x_certKey x_certFlags x_ids r_idNames r_idKeys r_idSerials x_nonceFrom x_nonceTo x_status x_tellerSort x_tellerFrom x_tellerTo x_bodyFrom x_bodyTo x_bodySignature x_hasCert r_states r_whens r_whys r_fresh r_laters r_find x_hasFind x_mayHold x_findOf x_findSerial (nI k) (nI V) (lN t) v5 v6 x_certKey) (RvG r_find x_hasFind x_mayHold x_findOf x_findSerial (nI k) (nI V) v o)) → (vc ≠ 0 → v = vc ∧ o = none) → ∀ xh, ok (if x_hasCert = 0 then (some ((23 : Int32), xh, x_at, x_items, x_fault, x_start, x_sort, x_from, x_to, x_number, x_signatureAt, x_innerFrom, x_innerTo, x_certSignature, x_issuerFrom, x_issuerTo, x_holderFrom, x_holderTo, x_certSerial, x_certFrom, x_certTo, x_certKey, x_certFlags, x_ids, r_idNames, r_idKeys, r_idSerials, x_nonceFrom, x_nonceTo, x_status, x_tellerSort, x_tellerFrom, x_tellerTo, x_bodyFrom, x_bodyTo, x_bodySignature, x_hasCert, r_states, r_whens, r_whys, r_fresh, r_laters, r_find, x_hasFind, x_mayHold, x_findOf, x_findSerial)) else ((f_isToldBy r_tape xh x_tellerSort x_tellerFrom x_tellerTo r_tape (1500) x_holderFrom x_holderTo x_certKey).bind fun y_12 => if y_12.1 = 0 then (some ((23 : Int32), y_12.2, x_at, x_items, x_fault, x_start, x_sort, x_from, x_to, x_number, x_signatureAt, x_innerFrom, x_innerTo, x_certSignature, x_issuerFrom, x_issuerTo, x_holderFrom, x_holderTo, x_certSerial, x_certFrom, x_certTo, x_certKey, x_certFlags, x_ids, r_idNames, r_idKeys, r_idSerials, x_nonceFrom, x_nonceTo, x_status, x_tellerSort, x_tellerFrom, x_tellerTo, x_bodyFrom, x_bodyTo, x_bodySignature, x_hasCert, r_states, r_whens, r_whys, r_fresh, r_laters, r_find, x_hasFind, x_mayHold, x_findOf, x_findSerial)) else ((f_isSame r_names (64) (nI (16 * k)) (nI (16 * k + An.length)) r_tape (1500) x_issuerFrom x_issuerTo).bind fun y_14 => if y_14 = 0 then (some ((24 : Int32), y_12.2, x_at, x_items, x_fault, x_start, x_sort, x_from, x_to, x_number, x_signatureAt, x_innerFrom, x_innerTo, x_certSignature, x_issuerFrom, x_issuerTo, x_holderFrom, x_holderTo, x_certSerial, x_certFrom, x_certTo, x_certKey, x_certFlags, x_ids, r_idNames, r_idKeys, r_idSerials, x_nonceFrom, x_nonceTo, x_status, x_tellerSort, x_tellerFrom, x_tellerTo, x_bodyFrom, x_bodyTo, x_bodySignature, x_hasCert, r_states, r_whens, r_whys, r_fresh, r_laters, r_find, x_hasFind, x_mayHold, x_findOf, x_findSerial)) else ((f_isRight y_12.2 (lN K) r_tape (1500) x_innerFrom x_innerTo x_certSignature).bind fun y_16 => if y_16.1 = 0 then (some ((24 : Int32), y_16.2, x_at, x_items, x_fault, x_start, x_sort, x_from, x_to, x_number, x_signatureAt, x_innerFrom, x_innerTo, x_certSignature, x_issuerFrom, x_issuerTo, x_holderFrom, x_holderTo, x_certSerial, x_certFrom, x_certTo, x_certKey, x_certFlags, x_ids, r_idNames, r_idKeys, r_idSerials, x_nonceFrom, x_nonceTo, x_status, x_tellerSort, x_tellerFrom, x_tellerTo, x_bodyFrom, x_bodyTo, x_bodySignature, x_hasCert, r_states, r_whens, r_whys, r_fresh, r_laters, r_find, x_hasFind, x_mayHold, x_findOf, x_findSerial)) else (if (x_certFlags &&& (1 : Int32)) = 0 then (some ((25 : Int32), y_16.2, x_at, x_items, x_fault, x_start, x_sort, x_from, x_to, x_number, x_signatureAt, x_innerFrom, x_innerTo, x_certSignature, x_issuerFrom, x_issuerTo, x_holderFrom, x_holderTo, x_certSerial, x_certFrom, x_certTo, x_certKey, x_certFlags, x_ids, r_idNames, r_idKeys, r_idSerials, x_nonceFrom, x_nonceTo, x_status, x_tellerSort, x_tellerFrom, x_tellerTo, x_bodyFrom, x_bodyTo, x_bodySignature, x_hasCert, r_states, r_whens, r_whys, r_fresh, r_laters, r_find, x_hasFind, x_mayHold, x_findOf, x_findSerial)) else (if (lN t) < x_certFrom then (some ((26 : Int32), y_16.2, x_at, x_items, x_fault, x_start, x_sort, x_from, x_to, x_number, x_signatureAt, x_innerFrom, x_innerTo, x_certSignature, x_issuerFrom, x_issuerTo, x_holderFrom, x_holderTo, x_certSerial, x_certFrom, x_certTo, x_certKey, x_certFlags, x_ids, r_idNames, r_idKeys, r_idSerials, x_nonceFrom, x_nonceTo, x_status, x_tellerSort, x_tellerFrom, x_tellerTo, x_bodyFrom, x_bodyTo, x_bodySignature, x_hasCert, r_states, r_whens, r_whys, r_fresh, r_laters, r_find, x_hasFind, x_mayHold, x_findOf, x_findSerial)) else (if (lN t) ≤ x_certTo then ((f_find r_issued r_serials (nI k) x_certSerial).bind fun y_21 => if (x_certFlags &&& (2 : Int32)) = 0 then (if y_21 = (-1 : Int32) then (bnd (x_certKey) fun v9_25 => j_verdictOf_244 r_tape x_taped r_names r_nameSizes r_keys r_issued r_serials r_since r_nonce x_nonceSize y_16.2 x_at x_items x_fault x_start x_sort x_from x_to x_number x_signatureAt x_innerFrom x_innerTo x_certSignature x_issuerFrom x_issuerTo x_holderFrom x_holderTo x_certSerial x_certFrom x_certTo x_certKey x_certFlags x_ids r_idNames r_idKeys r_idSerials x_nonceFrom x_nonceTo x_status x_tellerSort x_tellerFrom x_tellerTo x_bodyFrom x_bodyTo x_bodySignature x_hasCert r_states r_whens r_whys r_fresh r_laters r_find x_hasFind x_mayHold x_findOf x_findSerial (nI k) (nI V) (lN t) v5 v6 v9_25) else (chk (¬ (y_21 < 0 ∨ 128 ≤ y_21.toNatClampNeg)) <| if (r_since y_21.toNatClampNeg) = (-1 : Int64) then (bnd (x_certKey) fun v9_28 => j_verdictOf_244 r_tape x_taped r_names r_nameSizes r_keys r_issued r_serials r_since r_nonce x_nonceSize y_16.2 x_at x_items x_fault x_start x_sort x_from x_to x_number x_signatureAt x_innerFrom x_innerTo x_certSignature x_issuerFrom x_issuerTo x_holderFrom x_holderTo x_certSerial x_certFrom x_certTo x_certKey x_certFlags x_ids r_idNames r_idKeys r_idSerials x_nonceFrom x_nonceTo x_status x_tellerSort x_tellerFrom x_tellerTo x_bodyFrom x_bodyTo x_bodySignature x_hasCert r_states r_whens r_whys r_fresh r_laters r_find x_hasFind x_mayHold x_findOf x_findSerial (nI k) (nI V) (lN t) v5 v6 v9_28) else (if (lN t) < (r_since y_21.toNatClampNeg) then (bnd (x_certKey) fun v9_30 => j_verdictOf_244 r_tape x_taped r_names r_nameSizes r_keys r_issued r_serials r_since r_nonce x_nonceSize y_16.2 x_at x_items x_fault x_start x_sort x_from x_to x_number x_signatureAt x_innerFrom x_innerTo x_certSignature x_issuerFrom x_issuerTo x_holderFrom x_holderTo x_certSerial x_certFrom x_certTo x_certKey x_certFlags x_ids r_idNames r_idKeys r_idSerials x_nonceFrom x_nonceTo x_status x_tellerSort x_tellerFrom x_tellerTo x_bodyFrom x_bodyTo x_bodySignature x_hasCert r_states r_whens r_whys r_fresh r_laters r_find x_hasFind x_mayHold x_findOf x_findSerial (nI k) (nI V) (lN t) v5 v6 v9_30) else (some ((27 : Int32), y_16.2, x_at, x_items, x_fault, x_start, x_sort, x_from, x_to, x_number, x_signatureAt, x_innerFrom, x_innerTo, x_certSignature, x_issuerFrom, x_issuerTo, x_holderFrom, x_holderTo, x_certSerial, x_certFrom, x_certTo, x_certKey, x_certFlags, x_ids, r_idNames, r_idKeys, r_idSerials, x_nonceFrom, x_nonceTo, x_status, x_tellerSort, x_tellerFrom, x_tellerTo, x_bodyFrom, x_bodyTo, x_bodySignature, x_hasCert, r_states, r_whens, r_whys, r_fresh, r_laters, r_find, x_hasFind, x_mayHold, x_findOf, x_findSerial))))) else (bnd (x_certKey) fun v9_23 => j_verdictOf_244 r_tape x_taped r_names r_nameSizes r_keys r_issued r_serials r_since r_nonce x_nonceSize y_16.2 x_at x_items x_fault x_start x_sort x_from x_to x_number x_signatureAt x_innerFrom x_innerTo x_certSignature x_issuerFrom x_issuerTo x_holderFrom x_holderTo x_certSerial x_certFrom x_certTo x_certKey x_certFlags x_ids r_idNames r_idKeys r_idSerials x_nonceFrom x_nonceTo x_status x_tellerSort x_tellerFrom x_tellerTo x_bodyFrom x_bodyTo x_bodySignature x_hasCert r_states r_whens r_whys r_fresh r_laters r_find x_hasFind x_mayHold x_findOf x_findSerial (nI k) (nI V) (lN t) v5 v6 v9_23)) else (some ((26 : Int32), y_16.2, x_at, x_items, x_fault, x_start, x_sort, x_from, x_to, x_number, x_signatureAt, x_innerFrom, x_innerTo, x_certSignature, x_issuerFrom, x_issuerTo, x_holderFrom, x_holderTo, x_certSerial, x_certFrom, x_certTo, x_certKey, x_certFlags, x_ids, r_idNames, r_idKeys, r_idSerials, x_nonceFrom, x_nonceTo, x_status, x_tellerSort, x_tellerFrom, x_tellerTo, x_bodyFrom, x_bodyTo, x_bodySignature, x_hasCert, r_states, r_whens, r_whys, r_fresh, r_laters, r_find, x_hasFind, x_mayHold, x_findOf, x_findSerial))))))))) (RvG r_find x_hasFind x_mayHold x_findOf x_findSerial (nI k) (nI V) v o) := by
  subst htl hms t1 t2 t3 hpk
  have hK31 : K < 2 ^ 31 := Nat.lt_trans hK (by decide)
  unfold f_de_verdictOnCert
  cases ce with
  | none =>
    obtain rfl : x_hasCert = 0 := hce
    obtain rfl : hc = 0 := hcc
    rw [if_pos rfl]
    refine ⟨23, rfl, Or.inr (by decide), fun h => absurd h (by decide), fun v o _ h2 xh => ?_⟩
    obtain ⟨rfl, rfl⟩ := h2 (by decide)
    rw [if_pos rfl]
    exact ok.s ⟨rfl, rfl, rfl, rfl, rfl, rfl⟩
  | some c =>
    obtain ⟨rfl, rfl, rfl, rfl, rfl, rfl, rfl, rfl, rfl, rfl, rfl, rfl, rfl, hcb⟩ := hce
    obtain ⟨rfl, rfl, rfl, rfl, rfl, rfl, rfl, rfl, rfl, rfl, rfl, rfl, rfl, hc0⟩ := hcc
    obtain ⟨b1, b2, b3, ⟨b4, b5, b6⟩, ⟨b7, b8, b9⟩, ⟨b10, b11⟩, b12, b13⟩ := hcb
    obtain ⟨K', hK', eK⟩ := sn_of ⟨Int64.le_trans (by decide) b10, Int64.le_trans b11 (by decide)⟩
    have hK2 : K' < PP := by
      have := b11
      rw [eK] at this
      have := (lB_le (b := 2147483578) (by omega) (by decide)).mp this
      unfold PP
      omega
    obtain ⟨Vs, hVs, eV⟩ := sn_of b3
    -- told by the holder
    have hr1 := fun xh => r_told (f := r_tape) (g := r_tape) hn hte (a := c.2.2.2.2.2.1) (m := c.2.2.2.2.2.2.1 - c.2.2.2.2.2.1) (Ng := 1500) b9 (by omega) (by decide) c.2.2.2.2.2.2.2.2.2.1 xh
    rw [show c.2.2.2.2.2.1 + (c.2.2.2.2.2.2.1 - c.2.2.2.2.2.1) = c.2.2.2.2.2.2.1 by omega] at hr1
    have hc1 := c_toldc hf hn hte hTe b7 b8 b9 c.2.2.2.2.2.2.2.2.2.1
    rw [if_neg i10, hc1, Option.bind_some]
    by_cases q1 : told r_tape te (sl r_tape c.2.2.2.2.2.1 (c.2.2.2.2.2.2.1 - c.2.2.2.2.2.1)) (hE (hL h0 c.2.2.2.2.2.2.2.2.2.1))
    · rw [if_pos q1, if_neg i10]
      -- the issuer
      have hsl := sl_l r_tape (c.2.1 - c.1) c.1
      have hg := GG_sl hf c.1 (c.2.1 - c.1)
      have d1 := pu_digest (N := 1500) (M := n) hg (by omega) hn (by omega) (by unfold FU; omega)
      rw [hsl, show c.1 + (c.2.1 - c.1) = c.2.1 by omega] at d1
      have hndl := hnd.1
      have hnd2 := hnd.2
      have i1 := pu_isSame (a := nd) (b := r_tape) (Na := 16) (Nb := 1500) (n := An.length) (q := c.2.2.2.1) (m := c.2.2.2.2.1 - c.2.2.2.1) (M := n) (by unfold FU; omega) hA16 (by omega) hn (by decide) (by decide) (fun j hj => by have := GG_at hnd2 hj; rwa [Nat.zero_add] at this) hf
      rw [sl_GG An 0 hnd2] at i1
      have i2 := p_isSame (a := r_names) (b := r_tape) (Na := 64) (Nb := 1500) (p := 16 * k) (n := An.length) (q := c.2.2.2.1) (m := c.2.2.2.2.1 - c.2.2.2.1) (by unfold FU; omega) (by omega) (by omega) (by decide) (by decide)
      rw [sl_GG An _ hA, show c.2.2.2.1 + (c.2.2.2.2.1 - c.2.2.2.1) = c.2.2.2.2.1 by omega] at i2
      rw [d1, Option.bind_some, hndl, i1, Option.bind_some]
      by_cases q2 : An = sl r_tape c.2.2.2.1 (c.2.2.2.2.1 - c.2.2.2.1)
      · rw [if_pos q2] at i2 ⊢
        rw [if_neg i10]
        -- its signature
        have s1 := pu_isRight (f := r_tape) (x := c.2.2.2.2.2.2.2.2.2.2.2 + 1) hK (hl (sl r_tape c.1 (c.2.1 - c.1)))
        have s2 := fun xh => p_isRight (f := r_tape) (x := c.2.2.2.2.2.2.2.2.2.2.2 + 1) (K := K) (show c.2.2.2.2.2.2.2.2.2.2.2 + 1 + 8 ≤ 1500 by omega) hK hg (by omega) xh
        rw [hsl, show c.1 + (c.2.1 - c.1) = c.2.1 by omega] at s2
        rw [nb9 hc0, nI_l hK31, s1, Option.bind_some]
        generalize irN (F4 r_tape (c.2.2.2.2.2.2.2.2.2.2.2 + 1)) (F4 r_tape (c.2.2.2.2.2.2.2.2.2.2.2 + 1 + 4)) K (hl (sl r_tape c.1 (c.2.1 - c.1))) = ir at s2 ⊢
        by_cases q3 : ir = 0
        · rw [if_pos q3]
          refine ⟨24, rfl, Or.inr (by decide), fun h => absurd h (by decide), fun v o _ h2 xh => ?_⟩
          obtain ⟨rfl, rfl⟩ := h2 (by decide)
          rw [if_neg i10]
          refine ok.b (hr1 xh) (fun y12 g12 => ?_)
          rw [g12, if_pos q1, if_neg i10, i2, Option.bind_some, if_neg i10]
          refine ok.b (s2 y12.2) (fun y16 g16 => ?_)
          rw [g16, if_pos q3]
          exact ok.s ⟨rfl, rfl, rfl, rfl, rfl, rfl⟩
        · rw [if_neg q3]
          by_cases q4 : (c.2.2.2.2.2.2.2.2.2.2.1.toInt32 &&& 1) = 0
          · rw [if_pos q4]
            refine ⟨25, rfl, Or.inr (by decide), fun h => absurd h (by decide), fun v o _ h2 xh => ?_⟩
            obtain ⟨rfl, rfl⟩ := h2 (by decide)
            rw [if_neg i10]
            refine ok.b (hr1 xh) (fun y12 g12 => ?_)
            rw [g12, if_pos q1, if_neg i10, i2, Option.bind_some, if_neg i10]
            refine ok.b (s2 y12.2) (fun y16 g16 => ?_)
            rw [g16, if_neg q3, if_pos q4]
            exact ok.s ⟨rfl, rfl, rfl, rfl, rfl, rfl⟩
          · rw [if_neg q4]
            by_cases q5 : lN t < c.2.2.2.2.2.2.2.1
            · rw [if_pos q5]
              refine ⟨26, rfl, Or.inr (by decide), fun h => absurd h (by decide), fun v o _ h2 xh => ?_⟩
              obtain ⟨rfl, rfl⟩ := h2 (by decide)
              rw [if_neg i10]
              refine ok.b (hr1 xh) (fun y12 g12 => ?_)
              rw [g12, if_pos q1, if_neg i10, i2, Option.bind_some, if_neg i10]
              refine ok.b (s2 y12.2) (fun y16 g16 => ?_)
              rw [g16, if_neg q3, if_neg q4, if_pos q5]
              exact ok.s ⟨rfl, rfl, rfl, rfl, rfl, rfl⟩
            · rw [if_neg q5]
              by_cases q6 : lN t ≤ c.2.2.2.2.2.2.2.2.1
              · rw [if_pos q6]
                have hpl := place hk hT hr (nI Vs)
                rw [nI_l hVs] at hpl
                obtain ⟨pc, pr, e1, e2, e3⟩ : ∃ pc pr, f_au_placeOf (nI m) S (nI Vs) = some pc ∧ f_find r_issued r_serials (nI k) (lN Vs) = some pr ∧ ((pc = -1 ∧ pr = -1) ∨ ∃ p, p < m ∧ pc = nI p ∧ pr = nI (32 * k + p)) := by
                  rcases hpl with ⟨a1, a2, a3⟩ | ⟨p, a1, a2, a3, a4⟩
                  · exact ⟨_, _, a1, a2, Or.inl ⟨rfl, rfl⟩⟩
                  · exact ⟨_, _, a3, a4, Or.inr ⟨p, a1, rfl, rfl⟩⟩
                have m32 := hT.1
                by_cases q7 : (c.2.2.2.2.2.2.2.2.2.2.1.toInt32 &&& 2) = 0
                · rw [if_pos q7]
                  unfold j_de_verdictOnCert_151
                  rw [if_neg i10, eV, lN_i, e1, Option.bind_some]
                  by_cases q8 : ∃ p, p < m ∧ pc = nI p ∧ pr = nI (32 * k + p) ∧ ¬ T p = -1 ∧ ¬ lN t < T p
                  · obtain ⟨p, p1, rfl, rfl, p4, p5⟩ := q8
                    have tk : f_au_isTakenBack (nI m) T (nI p) (lN t) = some 1 := by
                      unfold f_au_isTakenBack
                      rw [if_neg (nI_pos (by omega)), if_neg (nI_ge p1 (by omega)), chk_t (inN (by omega) (by omega)), nI_clamp (by omega), if_neg p4, if_neg p5]
                    rw [tk, Option.bind_some, if_neg i10]
                    refine ⟨27, rfl, Or.inr (by decide), fun h => absurd h (by decide), fun v o _ h2 xh => ?_⟩
                    obtain ⟨rfl, rfl⟩ := h2 (by decide)
                    have hn2 : ¬ nI (32 * k + p) = -1 := fun e => by
                      have := nI_pos (n := 32 * k + p) (by omega)
                      rw [e] at this
                      exact this (by decide)
                    have e4 := (hT.2.1 p p1).2.1
                    rw [if_neg i10]
                    refine ok.b (hr1 xh) (fun y12 g12 => ?_)
                    rw [g12, if_pos q1, if_neg i10, i2, Option.bind_some, if_neg i10]
                    refine ok.b (s2 y12.2) (fun y16 g16 => ?_)
                    rw [g16, if_neg q3, if_neg q4, if_neg q5, if_pos q6, e2, Option.bind_some, if_pos q7, if_neg hn2, chk_t (inN (by omega) (by omega)), nI_clamp (by omega), e4, if_neg p4, if_neg p5]
                    exact ok.s ⟨rfl, rfl, rfl, rfl, rfl, rfl⟩
                  · have tk : f_au_isTakenBack (nI m) T pc (lN t) = some 0 := by
                      unfold f_au_isTakenBack
                      rcases e3 with ⟨rfl, rfl⟩ | ⟨p, p1, rfl, rfl⟩
                      · rw [if_pos (by decide)]
                      · rw [if_neg (nI_pos (by omega)), if_neg (nI_ge p1 (by omega)), chk_t (inN (by omega) (by omega)), nI_clamp (by omega)]
                        by_cases p4 : T p = -1
                        · rw [if_pos p4]
                        · rw [if_neg p4]
                          by_cases p5 : lN t < T p
                          · rw [if_pos p5]
                          · exact absurd ⟨p, p1, rfl, rfl, p4, p5⟩ q8
                    rw [tk, Option.bind_some, if_pos rfl]
                    refine ⟨0, rfl, Or.inl rfl, fun _ => ⟨K', hK2, eK, eK⟩, fun v o h1 _ xh => ?_⟩
                    rw [if_neg i10]
                    refine ok.b (hr1 xh) (fun y12 g12 => ?_)
                    rw [g12, if_pos q1, if_neg i10, i2, Option.bind_some, if_neg i10]
                    refine ok.b (s2 y12.2) (fun y16 g16 => ?_)
                    rw [g16, if_neg q3, if_neg q4, if_neg q5, if_pos q6, e2, Option.bind_some, if_pos q7]
                    rcases e3 with ⟨rfl, rfl⟩ | ⟨p, p1, rfl, rfl⟩
                    · rw [if_pos rfl, bnd_eq]
                      exact h1 rfl y16.2
                    · have hn2 : ¬ nI (32 * k + p) = -1 := fun e => by
                        have := nI_pos (n := 32 * k + p) (by omega)
                        rw [e] at this
                        exact this (by decide)
                      have e4 := (hT.2.1 p p1).2.1
                      rw [if_neg hn2, chk_t (inN (by omega) (by omega)), nI_clamp (by omega), e4]
                      by_cases p4 : T p = -1
                      · rw [if_pos p4, bnd_eq]
                        exact h1 rfl y16.2
                      · rw [if_neg p4]
                        by_cases p5 : lN t < T p
                        · rw [if_pos p5, bnd_eq]
                          exact h1 rfl y16.2
                        · exact absurd ⟨p, p1, rfl, rfl, p4, p5⟩ q8
                · rw [if_neg q7]
                  unfold j_de_verdictOnCert_151
                  rw [if_pos rfl]
                  refine ⟨0, rfl, Or.inl rfl, fun _ => ⟨K', hK2, eK, eK⟩, fun v o h1 _ xh => ?_⟩
                  rw [eV] at h1 ⊢
                  rw [if_neg i10]
                  refine ok.b (hr1 xh) (fun y12 g12 => ?_)
                  rw [g12, if_pos q1, if_neg i10, i2, Option.bind_some, if_neg i10]
                  refine ok.b (s2 y12.2) (fun y16 g16 => ?_)
                  rw [g16, if_neg q3, if_neg q4, if_neg q5, if_pos q6, e2, Option.bind_some, if_neg q7, bnd_eq]
                  exact h1 rfl y16.2
              · rw [if_neg q6]
                refine ⟨26, rfl, Or.inr (by decide), fun h => absurd h (by decide), fun v o _ h2 xh => ?_⟩
                obtain ⟨rfl, rfl⟩ := h2 (by decide)
                rw [if_neg i10]
                refine ok.b (hr1 xh) (fun y12 g12 => ?_)
                rw [g12, if_pos q1, if_neg i10, i2, Option.bind_some, if_neg i10]
                refine ok.b (s2 y12.2) (fun y16 g16 => ?_)
                rw [g16, if_neg q3, if_neg q4, if_neg q5, if_neg q6]
                exact ok.s ⟨rfl, rfl, rfl, rfl, rfl, rfl⟩
      · rw [if_neg q2] at i2 ⊢
        rw [if_pos rfl]
        refine ⟨24, rfl, Or.inr (by decide), fun h => absurd h (by decide), fun v o _ h2 xh => ?_⟩
        obtain ⟨rfl, rfl⟩ := h2 (by decide)
        rw [if_neg i10]
        refine ok.b (hr1 xh) (fun y12 g12 => ?_)
        rw [g12, if_pos q1, if_neg i10, i2, Option.bind_some, if_pos rfl]
        exact ok.s ⟨rfl, rfl, rfl, rfl, rfl, rfl⟩
    · rw [if_neg q1, if_pos rfl]
      refine ⟨23, rfl, Or.inr (by decide), fun h => absurd h (by decide), fun v o _ h2 xh => ?_⟩
      obtain ⟨rfl, rfl⟩ := h2 (by decide)
      rw [if_neg i10]
      refine ok.b (hr1 xh) (fun y12 g12 => ?_)
      rw [g12, if_neg q1, if_pos rfl]
      exact ok.s ⟨rfl, rfl, rfl, rfl, rfl, rfl⟩
end RF
