/-! PURE 10: asks and answers, as the reference reads them -/
theorem rb_inr {α β : Type} (v : α) (a : Nat) (i : Int32) (k : α → Nat → Int32 → Rs β) : rb (.inr (v, a, i)) k = k v a i := rfl
theorem rb_inl {α β : Type} (p : Nat) (k : α → Nat → Int32 → Rs β) : rb (.inl p) k = .inl p := rfl
theorem ids8 {f : Nat → Int32} {a c : Nat} (hc : c = 8) (i fa st0 so fr to : Int32) (nu : Int64) (N K : Nat → Int32) (S : Nat → Int64) (p0 : Int32) : f_readId f (nI a) i fa st0 so fr to nu (nI c) N K S p0 = some (0, nI a, i, nI a, st0, so, fr, to, nu, nI c, N, K, S) := by
  unfold f_readId
  rw [if_pos (by rw [hc]; rfl), wr_b]
def s_ask (f : Nat → Int32) (n a : Nat) (i : Int32) : Rs (List (Nat × Nat × Int64) × Nat × Nat) :=
  rb (p_ent f 48 0 1500 n a i) fun z a1 i1 => rb (p_ent f 48 0 1500 z a1 i1) fun w a2 i2 => rb (s_id f w a2 i2) fun d a3 i3 => rb (s_ids f w 7 a3 i3) fun l a4 i4 => rb (s_nonce f 162 z a4 i4) fun no a5 i5 => rb (p_ends z a5 i5) fun _ a6 i6 => rb (p_ends n a6 i6) fun _ a7 i7 => .inr ((d :: l, no), a7, i7)
def AskG (m : Nat) (v : List (Nat × Nat × Int64) × Nat × Nat) (a' : Nat) (i' : Int32) (y : Int32 × Int32 × Int32 × Int32 × Int32 × Int32 × Int32 × Int32 × Int64 × Int32 × (Nat → Int32) × (Nat → Int32) × (Nat → Int64) × Int32 × Int32) : Prop := (∃ fa x1 x2 x3 x4 x5 N K S, y = (1, nI a', i', fa, x1, x2, x3, x4, x5, nI v.1.length, N, K, S, nI v.2.1, nI v.2.2) ∧ AR m N K S v.1) ∧ v.1.length ≤ 8 ∧ nob m v.2
theorem R_72 {f : Nat → Int32} {n z a : Nat} {L : List (Nat × Nat × Int64)} {N K : Nat → Int32} {S : Nat → Int64} (hn : n ≤ 1500) (hz : z ≤ n) (haz : a ≤ z) (hL : L.length ≤ 8) (hA : AR n N K S L) (i fa st0 so fr to g1 g2 : Int32) (nu : Int64) : ok (j_readAsk_72 f (nI n) (nI a) i fa st0 so fr to nu (nI L.length) N K S g1 g2 (nI z) 1) (ro (AskG n) (fun p y => y.1 = 0 ∧ y.2.2.2.1 = nI p) (rb (s_nonce f 162 z a i) fun no a5 i5 => rb (p_ends z a5 i5) fun _ a6 i6 => rb (p_ends n a6 i6) fun _ a7 i7 => .inr ((L, no), a7, i7))) := by
  unfold j_readAsk_72
  rw [if_neg (by decide)]
  refine st (R_nonce haz (by omega) 162 _ _ _ _ _ _ _ _) (fun y p h => by rw [if_pos h.1]; exact ok.s ⟨rfl, h.2⟩) (fun y no a5 i5 h => ?_)
  obtain ⟨⟨_, _, _, _, rfl⟩, b1, b2, b3⟩ := h
  dsimp only
  rw [if_neg (by decide)]
  refine st (R_ends b2 (by omega) i5 _) (fun y p h => by rw [if_pos h.1]; exact ok.s ⟨rfl, h.2⟩) (fun y _ a6 i6 h => ?_)
  obtain ⟨rfl, rfl, rfl, o1⟩ := h
  dsimp only
  rw [if_neg (by decide)]
  refine st (R_ends (by omega) (by omega) i6 _) (fun y p h => by rw [if_pos h.1]; exact ok.s ⟨rfl, h.2⟩) (fun y _ a7 i7 h => ?_)
  obtain ⟨rfl, rfl, rfl, o2⟩ := h
  dsimp only
  rw [if_neg (by decide)]
  exact ok.s ⟨⟨_, _, _, _, _, _, _, _, _, rfl, hA⟩, hL, nob_m b3 hz⟩
theorem rb_assoc {α β γ : Type} (m : Rs α) (k : α → Nat → Int32 → Rs β) (l : β → Nat → Int32 → Rs γ) : rb (rb m k) l = rb m fun v a i => rb (k v a i) l := by cases m <;> rfl
theorem R_44 {f : Nat → Int32} {n z w : Nat} (hn : n ≤ 1500) (hz : z ≤ n) (hw : w ≤ z) (g1 g2 : Int32) : ∀ (r fu a : Nat) (i fa st0 so fr to : Int32) (nu : Int64) (L : List (Nat × Nat × Int64)) (N K : Nat → Int32) (S : Nat → Int64), r + 1 < fu → L.length + r = 8 → 1 ≤ L.length → a ≤ w → AR n N K S L → ok (j_readAsk_44 fu f (nI n) (nI a) i fa st0 so fr to nu (nI L.length) N K S g1 g2 (nI z) (nI w) 1) (ro (AskG n) (fun p y => y.1 = 0 ∧ y.2.2.2.1 = nI p) (rb (s_ids f w r a i) fun l a4 i4 => rb (s_nonce f 162 z a4 i4) fun no a5 i5 => rb (p_ends z a5 i5) fun _ a6 i6 => rb (p_ends n a6 i6) fun _ a7 i7 => .inr ((L ++ l, no), a7, i7))) := by
  intro r
  induction r with
  | zero =>
    intro fu a i fa st0 so fr to nu L N K S hfu hL h1 ha hA
    obtain ⟨fu, rfl⟩ : ∃ g, fu = g + 1 + 1 := ⟨fu - 2, by omega⟩
    rw [j_readAsk_44, if_neg (by decide), if_neg (nI_ne0 (by omega) (by omega))]
    unfold s_ids
    by_cases hq : a = w
    · subst hq
      rw [if_pos (Int32.le_refl _), if_pos rfl]
      have := R_72 (f := f) (L := L) hn hz hw (by omega) hA i fa st0 so fr to g1 g2 nu
      simp only [rb, List.append_nil] at this ⊢
      exact this
    · rw [if_neg (nI_ge (by omega) (by omega)), if_neg hq, ids8 (by omega), Option.bind_some]
      dsimp only
      rw [bnd_eq, j_readAsk_44, if_pos rfl]
      unfold j_readAsk_72
      rw [if_pos rfl]
      exact ok.s ⟨rfl, rfl⟩
  | succ r ih =>
    intro fu a i fa st0 so fr to nu L N K S hfu hL h1 ha hA
    obtain ⟨fu, rfl⟩ : ∃ g, fu = g + 1 + 1 := ⟨fu - 2, by omega⟩
    rw [j_readAsk_44, if_neg (by decide), if_neg (nI_ne0 (by omega) (by omega))]
    unfold s_ids
    by_cases hq : a = w
    · subst hq
      rw [if_pos (Int32.le_refl _), if_pos rfl]
      have := R_72 (f := f) (L := L) hn hz hw (by omega) hA i fa st0 so fr to g1 g2 nu
      simp only [rb, List.append_nil] at this ⊢
      exact this
    · rw [if_neg (nI_ge (by omega) (by omega)), if_neg hq, rb_assoc]
      refine st (R_id ha (by omega) (by omega) i fa st0 so fr to nu N K S) (fun y p h => ?_) (fun y d a' i' h => ?_)
      · rw [bnd_eq, h.1, j_readAsk_44, if_pos rfl]
        unfold j_readAsk_72
        rw [if_pos rfl]
        exact ok.s ⟨rfl, h.2⟩
      · obtain ⟨⟨u1, u2, u3, u4, u5, rfl⟩, b1, b2, b3⟩ := h
        dsimp only
        rw [bnd_eq, rb_assoc]
        have := ih (fu + 1) a' i' fa u1 u2 u3 u4 u5 (L ++ [d]) _ _ _ (by omega) (by simp; omega) (by simp) b2 (AR_snoc hA (idb_m b3 (by omega)))
        simp only [List.length_append, List.length_cons, List.length_nil, Nat.zero_add, List.append_assoc, List.cons_append, List.nil_append] at this
        exact this
theorem R_ask {f : Nat → Int32} {n a : Nat} (han : a ≤ n) (hn : n ≤ 1500) (i fa st0 so fr to : Int32) (nu : Int64) (c : Int32) (N K : Nat → Int32) (S : Nat → Int64) (g1 g2 : Int32) : ok (f_readAsk f (nI n) (nI a) i fa st0 so fr to nu c N K S g1 g2) (ro (AskG n) (fun p y => y.1 = 0 ∧ y.2.2.2.1 = nI p) (s_ask f n a i)) := by
  unfold f_readAsk s_ask
  refine st (R_of han hn 48 i fa st0 so fr to) (fun y p h => by rw [if_pos h.1]; exact ok.s ⟨rfl, h.2.1⟩) (fun y z a1 i1 h => ?_)
  obtain ⟨rfl, b1, b2, b3⟩ := h
  dsimp only
  rw [if_neg (by decide), bnd_eq]
  refine st (R_of b2 (by omega) 48 _ _ _ _ _ _) (fun y p h => by rw [if_pos h.1]; exact ok.s ⟨rfl, h.2.1⟩) (fun y w a2 i2 h => ?_)
  obtain ⟨rfl, c1, c2, c3⟩ := h
  dsimp only
  rw [if_neg (by decide), bnd_eq, show FU = 4999 + 1 from rfl, j_readAsk_44, if_neg (by decide), if_pos rfl]
  refine st (R_id (c := 0) c2 (by omega) (by decide) _ _ _ _ _ _ _ N K S) (fun y p h => ?_) (fun y d a' i' h => ?_)
  · rw [bnd_eq, h.1, j_readAsk_44, if_pos rfl]
    unfold j_readAsk_72
    rw [if_pos rfl]
    exact ok.s ⟨rfl, h.2⟩
  · obtain ⟨⟨_, _, _, _, _, rfl⟩, d1, d2, d3⟩ := h
    dsimp only
    rw [bnd_eq]
    exact R_44 hn b3 c3 g1 g2 7 4999 a' i' fa _ _ _ _ _ [d] _ _ _ (by decide) rfl (Nat.le_refl 1) d2 (AR_snoc (L := []) (fun j d h => by simp at h) (idb_m d3 (by omega)))
/-! the answer -/
noncomputable def s_state (f : Nat → Int32) (e a : Nat) (i : Int32) : Rs (Nat × Int64 × Int32) :=
  if f a &&& 255 = 161 then rb (p_ent f 161 0 1500 e a i) fun z a1 i1 => rb (p_time f z a1 i1) fun t a2 i2 => rb (p_code f z a2 i2) fun c a3 i3 => rb (p_ends z a3 i3) fun _ a4 i4 => .inr ((2, t, nI c), a4, i4)
  else if f a &&& 255 = 130 then rb (p_ent f 130 0 0 e a i) fun _ a1 i1 => .inr ((3, -1, -1), a1, i1)
  else rb (p_ent f 128 0 0 e a i) fun _ a1 i1 => .inr ((1, -1, -1), a1, i1)
theorem st_161 {f : Nat → Int32} {e a : Nat} {i : Int32} (h : f a &&& 255 = 161) : s_state f e a i = rb (p_ent f 161 0 1500 e a i) fun z a1 i1 => rb (p_time f z a1 i1) fun t a2 i2 => rb (p_code f z a2 i2) fun c a3 i3 => rb (p_ends z a3 i3) fun _ a4 i4 => .inr ((2, t, nI c), a4, i4) := if_pos h
theorem st_130 {f : Nat → Int32} {e a : Nat} {i : Int32} (h : f a &&& 255 = 130) : s_state f e a i = rb (p_ent f 130 0 0 e a i) fun _ a1 i1 => .inr ((3, -1, -1), a1, i1) := by
  unfold s_state
  rw [if_neg (by rw [h]; decide), if_pos h]
theorem st_128 {f : Nat → Int32} {e a : Nat} {i : Int32} (h1 : ¬ f a &&& 255 = 161) (h2 : ¬ f a &&& 255 = 130) : s_state f e a i = rb (p_ent f 128 0 0 e a i) fun _ a1 i1 => .inr ((1, -1, -1), a1, i1) := by
  unfold s_state
  rw [if_neg h1, if_neg h2]
theorem ent_no {f : Nat → Int32} {k : Int32} {lo hi e a : Nat} {i : Int32} (h : ¬ f a &&& 255 = k) : p_ent f k lo hi e a i = .inl a := if_neg h
theorem R_state {f : Nat → Int32} {a e c : Nat} (hB : ∀ j, isb (f j)) (hae : a ≤ e) (he : e ≤ 1500) (hc : c < 8) (i fa st0 so fr to : Int32) (nu : Int64) (T Y : Nat → Int32) (W : Nat → Int64) : ok (f_readState f (nI a) i fa st0 so fr to nu T W Y (nI c) (nI e)) (ro (fun v a' i' y => (∃ x1 x2 x3 x4 x5 W1 Y1, y = (1, nI a', i', fa, x1, x2, x3, x4, x5, upd T c (nI v.1), W1, Y1) ∧ W1 c = v.2.1 ∧ Y1 c = v.2.2 ∧ (∀ j, j ≠ c → W1 j = W j ∧ Y1 j = Y j)) ∧ a ≤ a' ∧ a' ≤ e ∧ 1 ≤ v.1 ∧ v.1 ≤ 3) (fun p y => y.1 = 0 ∧ y.2.2.2.1 = nI p) (s_state f e a i)) := by
  unfold f_readState
  refine ok.b (R_item hae he i fa st0 so fr to) (fun y hy => ?_)
  unfold p_item at hy
  cases ht : it f a e with
  | none =>
    have e0 : ∀ k lo hi, p_ent f k lo hi e a i = .inl a := fun k lo hi => by
      unfold p_ent
      rw [ht]
      split <;> rfl
    rw [ht] at hy
    have e1 : s_state f e a i = .inl a := by
      unfold s_state
      rw [e0, e0, e0]
      simp only [rb_inl, ite_self]
    rw [if_pos hy.1, e1]
    exact ok.s ⟨rfl, hy.2⟩
  | some p =>
    obtain ⟨x, z⟩ := p
    rw [ht] at hy
    obtain ⟨rfl, b1, b2, b3⟩ := hy
    dsimp only at *
    rw [if_neg (by decide), chk_t (inN (by omega) (by omega)), nI_clamp (by omega), bnd_eq, chk_t (by rintro (q | q); exact nI_pos (by omega) q; omega), bnd_eq]
    unfold j_readState_60
    have hb8 : ¬ (nI c < 0 ∨ 8 ≤ c) := by rintro (q | q); exact nI_pos (by omega) q; omega
    rw [nI_clamp (by omega), chk_t hb8, chk_t hb8, chk_t hb8, bnd_eq, bnd_eq, bnd_eq]
    have hpe : ∀ k lo hi, f a &&& 255 = k → p_ent f k lo hi e a i = if lo ≤ z - x ∧ z - x ≤ hi then .inr (z, x, i + 1) else .inl a := fun k lo hi hk => by
      unfold p_ent
      rw [if_pos hk, ht]
    have hW : ∀ (k : Int32) (j : Nat), j ≠ c → vp_updL W c (-1) j = W j ∧ upd Y c (-1) j = Y j := fun k j hj => ⟨pk_uLn hj, pk_un hj⟩
    by_cases h1 : f a &&& 255 = 161
    · rw [st_161 h1, hpe 161 0 1500 h1, h1, if_neg (show ¬ (161 : Int32) = 128 by decide), if_pos rfl, if_neg (show ¬ (161 : Int32) = 128 by decide), if_neg (show ¬ (161 : Int32) = 130 by decide), if_pos rfl, if_pos (show 0 ≤ z - x ∧ z - x ≤ 1500 by omega), rb_inr]
      refine st (R_time hB b2 (by omega) _ _ _ _ _ _ _) (fun y p h => by rw [if_pos h.1]; exact ok.s ⟨rfl, h.2⟩) (fun y t a2 i2 h => ?_)
      obtain ⟨⟨_, rfl⟩, c1, c2, c3⟩ := h
      dsimp only
      rw [if_neg (by decide), chk_t hb8, bnd_eq]
      refine st (R_code hB c2 (by omega) _ _ _ _ _ _ _) (fun y p h => by rw [if_pos h.1]; exact ok.s ⟨rfl, h.2⟩) (fun y co a3 i3 h => ?_)
      obtain ⟨⟨_, rfl⟩, d1, d2, d3⟩ := h
      dsimp only
      rw [if_neg (by decide), chk_t hb8, bnd_eq, lN_i]
      refine st (R_ends d2 (by omega) i3 _) (fun y p h => by rw [h.1, chk_t nb0]; exact ok.s ⟨rfl, h.2⟩) (fun y _ a4 i4 h => ?_)
      obtain ⟨rfl, rfl, rfl, r1⟩ := h
      dsimp only
      rw [chk_t nb11]
      exact ok.s ⟨⟨_, _, _, _, _, _, _, rfl, pk_uLs, pk_us, fun j hj => ⟨by rw [pk_uLn hj, pk_uLn hj], by rw [pk_un hj, pk_un hj]⟩⟩, by simp only; omega, by simp only; omega, Nat.le_of_ble_eq_true rfl, Nat.le_of_ble_eq_true rfl⟩
    · unfold j_readState_81
      by_cases h0 : f a &&& 255 = 130
      · rw [st_130 h0, hpe 130 0 0 h0, h0, if_neg (show ¬ (130 : Int32) = 128 by decide), if_neg (show ¬ (130 : Int32) = 161 by decide), if_neg (show ¬ (130 : Int32) = 128 by decide), if_pos rfl]
        by_cases hz : z = x
        · rw [if_pos (show nI z = nI x by rw [hz]), if_pos (show 0 ≤ z - x ∧ z - x ≤ 0 by omega), rb_inr]
          exact ok.s ⟨⟨_, _, _, _, _, _, _, rfl, pk_uLs, pk_us, fun j hj => ⟨pk_uLn hj, pk_un hj⟩⟩, by simp only; omega, by simp only; omega, Nat.le_of_ble_eq_true rfl, Nat.le_of_ble_eq_true rfl⟩
        · rw [if_neg (show ¬ nI z = nI x from fun q => hz ((nI_eq (by omega) (by omega)).mp q)), if_neg (show ¬ (0 ≤ z - x ∧ z - x ≤ 0) by omega), rb_inl]
          exact ok.s ⟨rfl, rfl⟩
      · rw [st_128 h1 h0]
        by_cases h8 : f a &&& 255 = 128
        · rw [hpe 128 0 0 h8, h8, if_pos rfl, if_pos rfl]
          by_cases hz : z = x
          · rw [if_pos (show nI z = nI x by rw [hz]), if_pos (show 0 ≤ z - x ∧ z - x ≤ 0 by omega), rb_inr]
            exact ok.s ⟨⟨_, _, _, _, _, _, _, rfl, pk_uLs, pk_us, fun j hj => ⟨pk_uLn hj, pk_un hj⟩⟩, by simp only; omega, by simp only; omega, Nat.le_of_ble_eq_true rfl, Nat.le_of_ble_eq_true rfl⟩
          · rw [if_neg (show ¬ nI z = nI x from fun q => hz ((nI_eq (by omega) (by omega)).mp q)), if_neg (show ¬ (0 ≤ z - x ∧ z - x ≤ 0) by omega), rb_inl]
            exact ok.s ⟨rfl, rfl⟩
        · rw [if_neg h8, if_neg h1, if_neg h8, if_neg h0, ent_no h8, rb_inl]
          rw [if_neg h1, wr_b]
          exact ok.s ⟨rfl, rfl⟩
