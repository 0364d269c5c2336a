/-! PURE 12: the answer, as the reference reads it -/
noncomputable def s_cer (f : Nat → Int32) (u a : Nat) (i : Int32) : Rs (Option CT) := if a = u then .inr (none, a, i) else rb (p_ent f 160 0 1500 u a i) fun w a7 i7 => rb (s_cert f w a7 i7) fun c a8 i8 => rb (p_ends w a8 i8) fun _ a9 i9 => .inr (some c, a9, i9)
abbrev AV := Nat × Option (BT × Nat × Option CT)
noncomputable def s_tail (f : Nat → Int32) (n z o u a : Nat) (i : Int32) (b : BT) (sx : Nat) (ce : Option CT) : Rs AV := rb (p_ends u a i) fun _ a8 i8 => rb (p_ends o a8 i8) fun _ a9 i9 => rb (p_ends z a9 i9) fun _ a10 i10 => rb (p_ends n a10 i10) fun _ a11 i11 => .inr ((0, some (b, sx, ce)), a11, i11)
noncomputable def s_right (f : Nat → Int32) (n z a : Nat) (i : Int32) : Rs AV := rb (p_ent f 160 0 1500 z a i) fun o a3 i3 => rb (p_ent f 48 0 1500 o a3 i3) fun u a4 i4 => rb (s_body f u a4 i4) fun b a5 i5 => rb (p_sig f u a5 i5) fun sx a6 i6 => rb (s_cer f u a6 i6) fun ce a7 i7 => s_tail f n z o u a7 i7 b sx ce
noncomputable def s_answer (f : Nat → Int32) (n a : Nat) (i : Int32) : Rs AV :=
  rb (p_ent f 48 0 1500 n a i) fun z a1 i1 => rb (p_code f z a1 i1) fun sc a2 i2 => if sc = 0 then s_right f n z a2 i2 else rb (p_ends z a2 i2) fun _ a3 i3 => rb (p_ends n a3 i3) fun _ a4 i4 => .inr ((sc, none), a4, i4)
abbrev Y41 := Int32 × Int32 × Int32 × Int32 × Int32 × Int32 × Int32 × Int32 × Int64 × Int32 × Int32 × Int32 × Int32 × Int32 × Int32 × Int32 × Int32 × Int64 × Int64 × Int64 × Int64 × Int32 × Int32 × (Nat → Int32) × (Nat → Int32) × (Nat → Int64) × Int32 × Int32 × Int32 × Int32 × Int32 × Int32 × Int32 × Int32 × Int32 × Int32 × (Nat → Int32) × (Nat → Int64) × (Nat → Int32) × (Nat → Int64) × (Nat → Int64)
def CeG (m : Nat) (ce : Option CT) (hc : Int32) (x_innerFrom : Int32) (x_innerTo : Int32) (x_certSignature : Int32) (x_issuerFrom : Int32) (x_issuerTo : Int32) (x_holderFrom : Int32) (x_holderTo : Int32) (x_certSerial : Int64) (x_certFrom : Int64) (x_certTo : Int64) (x_certKey : Int64) (x_certFlags : Int32) : Prop := match ce with
  | none => hc = 0
  | some c => hc = 1 ∧ x_innerFrom = nI c.1 ∧ x_innerTo = nI c.2.1 ∧ x_certSignature = nI (c.2.2.2.2.2.2.2.2.2.2.2 + 1) ∧ x_issuerFrom = nI c.2.2.2.1 ∧ x_issuerTo = nI c.2.2.2.2.1 ∧ x_holderFrom = nI c.2.2.2.2.2.1 ∧ x_holderTo = nI c.2.2.2.2.2.2.1 ∧ x_certSerial = c.2.2.1 ∧ x_certFrom = c.2.2.2.2.2.2.2.1 ∧ x_certTo = c.2.2.2.2.2.2.2.2.1 ∧ x_certKey = c.2.2.2.2.2.2.2.2.2.1 ∧ x_certFlags = c.2.2.2.2.2.2.2.2.2.2.1.toInt32 ∧ ctb m c
def AnsG (m : Nat) (v : AV) (a' : Nat) (i' : Int32) (y : Y41) : Prop := match v with
  | (s, none) => y.1 = 1 ∧ y.2.2.1 = i' ∧ y.2.2.2.2.2.2.2.2.2.2.2.2.2.2.2.2.2.2.2.2.2.2.2.2.2.2.2.2.1 = nI s ∧ s ≠ 0 ∧ s ≤ 10
  | (s, some (b, sx, ce)) => s = 0 ∧ ∃ (x_fault : Int32) (x_start : Int32) (x_sort : Int32) (x_from : Int32) (x_to : Int32) (x_number : Int64) (x_signatureAt : Int32) (x_innerFrom : Int32) (x_innerTo : Int32) (x_certSignature : Int32) (x_issuerFrom : Int32) (x_issuerTo : Int32) (x_holderFrom : Int32) (x_holderTo : Int32) (x_certSerial : Int64) (x_certFrom : Int64) (x_certTo : Int64) (x_certKey : Int64) (x_certFlags : Int32) (r_idNames : Nat → Int32) (r_idKeys : Nat → Int32) (r_idSerials : Nat → Int64) (x_hasCert : Int32) (r_states : Nat → Int32) (r_whens : Nat → Int64) (r_whys : Nat → Int32) (r_fresh : Nat → Int64) (r_laters : Nat → Int64), y = (1, nI a', i', x_fault, x_start, x_sort, x_from, x_to, x_number, x_signatureAt, x_innerFrom, x_innerTo, x_certSignature, x_issuerFrom, x_issuerTo, x_holderFrom, x_holderTo, x_certSerial, x_certFrom, x_certTo, x_certKey, x_certFlags, nI b.2.1.length, r_idNames, r_idKeys, r_idSerials, nI b.2.2.1.1, nI b.2.2.1.2, 0, nI b.1.1, nI b.1.2.1, nI b.1.2.2, nI b.2.2.2.1, nI b.2.2.2.2, nI (sx + 1), x_hasCert, r_states, r_whens, r_whys, r_fresh, r_laters) ∧ BR m r_idNames r_idKeys r_idSerials r_states r_whens r_whys r_fresh r_laters b.2.1 ∧ btb m b ∧ sx + 9 ≤ m ∧ CeG m ce x_hasCert x_innerFrom x_innerTo x_certSignature x_issuerFrom x_issuerTo x_holderFrom x_holderTo x_certSerial x_certFrom x_certTo x_certKey x_certFlags
theorem R_189 {f : Nat → Int32} {n z o u a : Nat} (hn : n ≤ 1500) (hz : z ≤ n) (ho : o ≤ z) (hu : u ≤ o) (ha : a ≤ u) {b : BT} {sx : Nat} {ce : Option CT} (i x_fault : Int32) (x_start : Int32) (x_sort : Int32) (x_from : Int32) (x_to : Int32) (x_number : Int64) (x_signatureAt : Int32) (x_innerFrom : Int32) (x_innerTo : Int32) (x_certSignature : Int32) (x_issuerFrom : Int32) (x_issuerTo : Int32) (x_holderFrom : Int32) (x_holderTo : Int32) (x_certSerial : Int64) (x_certFrom : Int64) (x_certTo : Int64) (x_certKey : Int64) (x_certFlags : Int32) (r_idNames : Nat → Int32) (r_idKeys : Nat → Int32) (r_idSerials : Nat → Int64) (x_hasCert : Int32) (r_states : Nat → Int32) (r_whens : Nat → Int64) (r_whys : Nat → Int32) (r_fresh : Nat → Int64) (r_laters : Nat → Int64) (hA : BR n r_idNames r_idKeys r_idSerials r_states r_whens r_whys r_fresh r_laters b.2.1) (hb : btb n b) (hs : sx + 9 ≤ n) (hc : CeG n ce x_hasCert x_innerFrom x_innerTo x_certSignature x_issuerFrom x_issuerTo x_holderFrom x_holderTo x_certSerial x_certFrom x_certTo x_certKey x_certFlags) : ok (j_readAnswer_189 f (nI n) (nI a) i x_fault x_start x_sort x_from x_to x_number x_signatureAt x_innerFrom x_innerTo x_certSignature x_issuerFrom x_issuerTo x_holderFrom x_holderTo x_certSerial x_certFrom x_certTo x_certKey x_certFlags (nI b.2.1.length) r_idNames r_idKeys r_idSerials (nI b.2.2.1.1) (nI b.2.2.1.2) 0 (nI b.1.1) (nI b.1.2.1) (nI b.1.2.2) (nI b.2.2.2.1) (nI b.2.2.2.2) (nI (sx + 1)) x_hasCert r_states r_whens r_whys r_fresh r_laters (nI z) (nI o) (nI u)) (ro (AnsG n) (fun p y => y.1 = 0 ∧ y.2.2.2.1 = nI p) (s_tail f n z o u a i b sx ce)) := by
  unfold j_readAnswer_189 s_tail
  refine st (R_ends ha (by omega) i _) (fun y p h => by rw [if_pos h.1]; exact ok.s ⟨rfl, h.2⟩) (fun y _ a8 i8 h => ?_)
  obtain ⟨rfl, rfl, rfl, o1⟩ := h
  dsimp only
  rw [if_neg (by decide)]
  refine st (R_ends (by omega) (by omega) i8 _) (fun y p h => by rw [if_pos h.1]; exact ok.s ⟨rfl, h.2⟩) (fun y _ a9 i9 h => ?_)
  obtain ⟨rfl, rfl, rfl, o2⟩ := h
  dsimp only
  rw [if_neg (by decide)]
  refine st (R_ends (by omega) (by omega) i9 _) (fun y p h => by rw [if_pos h.1]; exact ok.s ⟨rfl, h.2⟩) (fun y _ a10 i10 h => ?_)
  obtain ⟨rfl, rfl, rfl, o3⟩ := h
  dsimp only
  rw [if_neg (by decide)]
  refine st (R_ends (by omega) (by omega) i10 _) (fun y p h => by rw [if_pos h.1]; exact ok.s ⟨rfl, h.2⟩) (fun y _ a11 i11 h => ?_)
  obtain ⟨rfl, rfl, rfl, o4⟩ := h
  dsimp only
  rw [if_neg (by decide)]
  exact ok.s ⟨rfl, _, _, _, _, _, _, _, _, _, _, _, _, _, _, _, _, _, _, _, _, _, _, _, _, _, _, _, _, rfl, hA, hb, hs, hc⟩
theorem R_answer {f : Nat → Int32} (hB : ∀ j, isb (f j)) {n a : Nat} (han : a ≤ n) (hn : n ≤ 1500) (i x_fault : Int32) (x_start : Int32) (x_sort : Int32) (x_from : Int32) (x_to : Int32) (x_number : Int64) (x_signatureAt : Int32) (x_innerFrom : Int32) (x_innerTo : Int32) (x_certSignature : Int32) (x_issuerFrom : Int32) (x_issuerTo : Int32) (x_holderFrom : Int32) (x_holderTo : Int32) (x_certSerial : Int64) (x_certFrom : Int64) (x_certTo : Int64) (x_certKey : Int64) (x_certFlags : Int32) (x_ids : Int32) (r_idNames : Nat → Int32) (r_idKeys : Nat → Int32) (r_idSerials : Nat → Int64) (x_nonceFrom : Int32) (x_nonceTo : Int32) (x_status : Int32) (x_tellerSort : Int32) (x_tellerFrom : Int32) (x_tellerTo : Int32) (x_bodyFrom : Int32) (x_bodyTo : Int32) (x_bodySignature : Int32) (x_hasCert : Int32) (r_states : Nat → Int32) (r_whens : Nat → Int64) (r_whys : Nat → Int32) (r_fresh : Nat → Int64) (r_laters : Nat → Int64) : ok (f_readAnswer f (nI n) (nI a) i x_fault x_start x_sort x_from x_to x_number x_signatureAt x_innerFrom x_innerTo x_certSignature x_issuerFrom x_issuerTo x_holderFrom x_holderTo x_certSerial x_certFrom x_certTo x_certKey x_certFlags x_ids r_idNames r_idKeys r_idSerials x_nonceFrom x_nonceTo x_status x_tellerSort x_tellerFrom x_tellerTo x_bodyFrom x_bodyTo x_bodySignature x_hasCert r_states r_whens r_whys r_fresh r_laters) (ro (AnsG n) (fun p y => y.1 = 0 ∧ y.2.2.2.1 = nI p) (s_answer f n a i)) := by
  unfold f_readAnswer s_answer
  refine st (R_of han hn 48 i x_fault _ _ _ _) (fun y p h => by rw [if_pos h.1]; exact ok.s ⟨rfl, h.2.1⟩) (fun y z a1 i1 h => ?_)
  obtain ⟨rfl, b1, b2, b3⟩ := h
  dsimp only
  rw [if_neg (by decide), bnd_eq]
  refine st (R_code hB b2 (by omega) _ _ _ _ _ _ _) (fun y p h => by rw [if_pos h.1]; exact ok.s ⟨rfl, h.2⟩) (fun y sc a2 i2 h => ?_)
  obtain ⟨⟨_, rfl⟩, c1, c2, c3⟩ := h
  dsimp only
  rw [if_neg (by decide), lN_i, bnd_eq]
  by_cases hs : sc = 0
  · rw [if_pos (show nI sc = 0 by rw [hs]; rfl), if_pos hs, show nI sc = 0 by rw [hs]; rfl]
    unfold s_right
    refine st (R_of c2 (by omega) 160 _ _ _ _ _ _) (fun y p h => by rw [if_pos h.1]; exact ok.s ⟨rfl, h.2.1⟩) (fun y o a3 i3 h => ?_)
    obtain ⟨rfl, d1, d2, d3⟩ := h
    dsimp only
    rw [if_neg (by decide), bnd_eq]
    refine st (R_of d2 (by omega) 48 _ _ _ _ _ _) (fun y p h => by rw [if_pos h.1]; exact ok.s ⟨rfl, h.2.1⟩) (fun y u a4 i4 h => ?_)
    obtain ⟨rfl, e1, e2, e3⟩ := h
    dsimp only
    rw [if_neg (by decide), bnd_eq]
    refine st (R_body (m := n) hB e2 (by omega) (by omega) _ _ _ _ _ _ _ _ _ _ _ _ _ _ _ _ _ _ _ _ _ _ _) (fun y p h => by rw [if_pos h.1]; exact ok.s ⟨rfl, h.2⟩) (fun y b a5 i5 h => ?_)
    obtain ⟨⟨u1, u2, u3, u4, u5, N1, K1, S1, T1, W1, Y1, F1, L1, rfl, hA⟩, k1, k2, hb⟩ := h
    dsimp only
    rw [if_neg (by decide)]
    refine st (R_sig k2 (by omega) _ _ _ _ _ _ _) (fun y p h => by rw [if_pos h.1]; exact ok.s ⟨rfl, h.2⟩) (fun y sx a6 i6 h => ?_)
    obtain ⟨⟨_, rfl⟩, l1, l2, l3⟩ := h
    dsimp only
    rw [if_neg (by decide), bnd_eq]
    unfold s_cer
    by_cases hq : a6 = u
    · rw [if_pos (nI_le (by omega) (by omega)), if_pos hq, rb_inr]
      exact R_189 hn b3 d3 e3 l3 _ _ _ _ _ _ _ _ _ _ _ _ _ _ _ _ _ _ _ _ _ _ _ _ _ _ _ _ _ hA hb (by omega) rfl
    · rw [if_neg (nI_ge (by omega) (by omega)), if_neg hq, rb_assoc]
      refine st (R_of l3 (by omega) 160 _ _ _ _ _ _) (fun y p h => by rw [if_pos h.1]; exact ok.s ⟨rfl, h.2.1⟩) (fun y w a7 i7 h => ?_)
      obtain ⟨rfl, m1, m2, m3⟩ := h
      dsimp only
      rw [if_neg (by decide), bnd_eq, rb_assoc]
      refine st (R_cert hB m2 (by omega) _ _ _ _ _ _ _ _ _ _ _ _ _ _ _ _ _ _ _ _) (fun y p h => by rw [if_pos h.1]; exact ok.s ⟨rfl, h.2⟩) (fun y c a8 i8 h => ?_)
      obtain ⟨⟨v1, v2, v3, v4, v5, v6, rfl⟩, n1, n2, n3⟩ := h
      dsimp only
      rw [if_neg (by decide), rb_assoc]
      refine st (R_ends n2 (by omega) i8 _) (fun y p h => by rw [if_pos h.1]; exact ok.s ⟨rfl, h.2⟩) (fun y _ a9 i9 h => ?_)
      obtain ⟨rfl, rfl, rfl, o3⟩ := h
      dsimp only
      rw [if_neg (by decide), rb_inr]
      exact R_189 hn b3 d3 e3 (by omega) _ _ _ _ _ _ _ _ _ _ _ _ _ _ _ _ _ _ _ _ _ _ _ _ _ _ _ _ _ hA hb (by omega) ⟨rfl, rfl, rfl, rfl, rfl, rfl, rfl, rfl, rfl, rfl, rfl, rfl, rfl, ctb_m n3 (by omega)⟩
  · rw [if_neg (show ¬ nI sc = 0 from nI_ne0 (by omega) (by omega)), if_neg hs]
    refine st (R_ends c2 (by omega) i2 _) (fun y p h => by rw [if_pos h.1]; exact ok.s ⟨rfl, h.2⟩) (fun y _ a3 i3 h => ?_)
    obtain ⟨rfl, rfl, rfl, o3⟩ := h
    dsimp only
    rw [if_neg (by decide)]
    refine st (R_ends (by omega) (by omega) i3 _) (fun y p h => by rw [if_pos h.1]; exact ok.s ⟨rfl, h.2⟩) (fun y _ a4 i4 h => ?_)
    obtain ⟨rfl, rfl, rfl, o4⟩ := h
    dsimp only
    rw [if_neg (by decide)]
    exact ok.s ⟨rfl, rfl, rfl, hs, c3⟩
