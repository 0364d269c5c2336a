/-! PURE 17: the ask, as the class reads it -/
abbrev AkY := Int32 × (Nat → Int64) × (Nat → Int64) × (Nat → Int32) × Int32 × Int32 × Int32 × Int32 × Int32 × Int32 × Int32 × (Nat → Int32) × Int32 × Int32
def AC (f : Nat → Int32) (NH KH : Nat → Int64) (SE : Nat → Int32) (L : List (Nat × Nat × Int64)) : Prop := ∀ j v, L[j]? = some v → NH j = nb f 0 v.1 8 ∧ KH j = nb f 0 v.2.1 8 ∧ SE j = v.2.2.toInt32
theorem AC_snoc {f : Nat → Int32} {NH KH : Nat → Int64} {SE : Nat → Int32} {L : List (Nat × Nat × Int64)} (v : Nat × Nat × Int64) (h : AC f NH KH SE L) : AC f (vp_updL NH L.length (nb f 0 v.1 8)) (vp_updL KH L.length (nb f 0 v.2.1 8)) (upd SE L.length v.2.2.toInt32) (L ++ [v]) := by
  intro j d hd
  rcases snoc_get hd with ⟨g1, g2⟩ | ⟨rfl, rfl⟩
  · rw [pk_uLn g1, pk_uLn g1, pk_un g1]
    exact h j d g2
  · rw [pk_uLs, pk_uLs, pk_us]
    exact ⟨rfl, rfl, rfl⟩
def AkB (p : Nat) (y : AkY) : Prop := p ≤ 1500 ∧ y.2.2.2.2.2.2.2.2.2.1 = nI p ∧ ∃ c', c' ≤ 8 ∧ y.1 = nI c'
def AkC (f : Nat → Int32) (v : List (Nat × Nat × Int64) × Nat × Nat) (_a' : Nat) (i' : Int32) (y : AkY) : Prop := ∃ KH NH SE np ns x1 x2 x3 O q r, y = (nI v.1.length, KH, NH, SE, np, ns, x1, x2, x3, -1, i', O, q, r) ∧ AC f NH KH SE v.1 ∧ NoR v.2 np ns
theorem S_58 {F : Int32} (hF : ¬ F = -1) (cnt : Int32) (KH NH : Nat → Int64) (SE : Nat → Int32) (np ns at' d e i pl sz : Int32) (f O : Nat → Int32) (n : Nat) : ok (j_ak_read_58 cnt KH NH SE np ns at' f d e F i O pl sz n) (fun y => y.2.2.2.2.2.2.2.2.2.1 = F ∧ y.1 = cnt) := by
  unfold j_ak_read_58
  rw [S_close hF, Option.bind_some, S_more hF, Option.bind_some, if_pos rfl, S_close hF, Option.bind_some, S_endText hF, Option.bind_some]
  exact ok.s ⟨rfl, rfl⟩
theorem S_27 {F : Int32} (hF : ¬ F = -1) {k : Nat} (hk1 : 1 ≤ k) (hk : k ≤ 8) (fu : Nat) (cnt : Int32) (KH NH : Nat → Int64) (SE : Nat → Int32) (np ns at' d e i pl sz : Int32) (f O : Nat → Int32) (n : Nat) : ok (j_ak_read_27 (fu + 1) cnt KH NH SE np ns at' f d e F i O pl sz n (nI k)) (fun y => y.2.2.2.2.2.2.2.2.2.1 = F ∧ y.1 = cnt) := by
  rw [j_ak_read_27]
  by_cases h8 : k = 8
  · rw [if_pos (show (8 : Int32) ≤ nI k from nI_le (a := 8) (by omega) (by omega))]
    exact S_58 hF _ _ _ _ _ _ _ _ _ _ _ _ _ _ _
  · rw [if_neg (show ¬ (8 : Int32) ≤ nI k from nI_ge (b := 8) (by omega) (by decide)), if_neg (nI_ne0 (by omega) (by omega)), S_more hF, Option.bind_some, if_pos (show (0 : Int32) = 0 from rfl)]
    exact S_58 hF _ _ _ _ _ _ _ _ _ _ _ _ _ _ _
def s_aft2 (f : Nat → Int32) (n z : Nat) (L : List (Nat × Nat × Int64)) (a : Nat) (i : Int32) : Rs (List (Nat × Nat × Int64) × Nat × Nat) := rb (s_nonce f 162 z a i) fun no a5 i5 => rb (p_ends z a5 i5) fun _ a6 i6 => rb (p_ends n a6 i6) fun _ a7 i7 => .inr ((L, no), a7, i7)
theorem C_58 {f : Nat → Int32} {n z w a : Nat} {O : Nat → Int32} (hn : n ≤ 1500) (hz : z ≤ n) (hw : w ≤ z) (ha : a ≤ w) (hO1 : O 1 = nI z) (hO0 : O 0 = nI n) {L : List (Nat × Nat × Int64)} (hL8 : L.length ≤ 8) (KH NH : Nat → Int64) (SE : Nat → Int32) (hL : AC f NH KH SE L) (np i pl sz : Int32) : ok (j_ak_read_58 (nI L.length) KH NH SE np 0 (nI a) f (nI 2) (nI w) (-1) i O pl sz 1500) (ro (AkC f) AkB (rb (p_ends w a i) fun _ a1 i1 => s_aft2 f n z L a1 i1)) := by
  unfold j_ak_read_58 s_aft2 s_nonce
  refine st (C_close (d := 1) ha (by omega) (by omega) i _ _) (fun y p h => by obtain ⟨rfl, rfl⟩ := h; have hF := fl_nI (p := p) (by omega); dsimp only; rw [S_more hF, Option.bind_some, if_pos rfl, S_close hF, Option.bind_some, S_endText hF, Option.bind_some]; exact ok.s ⟨by omega, rfl, _, hL8, rfl⟩) (fun y _ a1 i1 h => ?_)
  obtain ⟨rfl, rfl, rfl, b1⟩ := h
  dsimp only
  rw [hO1, C_more (by omega) (by omega), Option.bind_some]
  by_cases hq : a1 = z
  · rw [if_pos hq, if_pos (show (0 : Int32) = 0 from rfl), if_pos hq, rb_inr]
    refine st (C_close (d := 0) (by omega) (by omega) (by omega) i1 _ _) (fun y p h => by obtain ⟨rfl, rfl⟩ := h; have hF := fl_nI (p := p) (by omega); (try dsimp only); (try simp only [bnd_eq, S_open (k := 48) hF (by decide), S_open (k := 160) hF (by decide), S_open (k := 161) hF (by decide), S_open (k := 162) hF (by decide), S_open (k := 163) hF (by decide), S_ent (k := 128) hF (by decide), S_ent (k := 130) hF (by decide), S_bytes hF, S_hash hF, S_int hF, S_code hF, S_sig hF, S_time hF, S_close hF, S_endText hF, S_more hF, S_sort hF, Option.bind_some]); exact ok.s ⟨by omega, rfl, _, hL8, rfl⟩) (fun y _ a3 i3 h => ?_)
    obtain ⟨rfl, rfl, rfl, r1⟩ := h
    dsimp only
    rw [hO0]
    refine st (C_endText (by omega) (by omega) i3 _ _) (fun y p h => by obtain ⟨rfl, rfl⟩ := h; exact ok.s ⟨by omega, rfl, _, hL8, rfl⟩) (fun y _ a4 i4 h => ?_)
    obtain ⟨rfl, rfl, rfl, e4⟩ := h
    exact ok.s ⟨_, _, _, _, _, _, _, _, _, _, _, rfl, hL, rfl, Or.inl rfl⟩
  · rw [if_neg hq, if_neg (show ¬ (1 : Int32) = 0 by decide), if_neg hq, rb_assoc]
    refine st (C_open (d := 1) (by omega) (by omega) (by decide) (by omega) _ _ _) (fun y p h => by obtain ⟨⟨at', q0, r0, rfl⟩, rfl⟩ := h; have hF := fl_nI (p := p) (by omega); (try dsimp only); (try simp only [bnd_eq, S_open (k := 48) hF (by decide), S_open (k := 160) hF (by decide), S_open (k := 161) hF (by decide), S_open (k := 162) hF (by decide), S_open (k := 163) hF (by decide), S_ent (k := 128) hF (by decide), S_ent (k := 130) hF (by decide), S_bytes hF, S_hash hF, S_int hF, S_code hF, S_sig hF, S_time hF, S_close hF, S_endText hF, S_more hF, S_sort hF, Option.bind_some]); exact ok.s ⟨by omega, rfl, _, hL8, rfl⟩) (fun y k a2 i2 h => ?_)
    obtain ⟨⟨q, r, rfl⟩, c1, c2, c3⟩ := h
    dsimp only
    rw [rb_assoc]
    refine st (C_bytes (lo := 1) (hi := 16) c2 (by omega) (by decide) (by decide) _ _ _) (fun y p h => by obtain ⟨⟨x0, at', q0, r0, rfl⟩, rfl⟩ := h; have hF := fl_nI (p := p) (by omega); (try dsimp only); (try simp only [bnd_eq, S_open (k := 48) hF (by decide), S_open (k := 160) hF (by decide), S_open (k := 161) hF (by decide), S_open (k := 162) hF (by decide), S_open (k := 163) hF (by decide), S_ent (k := 128) hF (by decide), S_ent (k := 130) hF (by decide), S_bytes hF, S_hash hF, S_int hF, S_code hF, S_sig hF, S_time hF, S_close hF, S_endText hF, S_more hF, S_sort hF, Option.bind_some]); exact ok.s ⟨by omega, rfl, _, hL8, rfl⟩) (fun y m a3 i3 h => ?_)
    obtain ⟨⟨q, rfl⟩, d1, d2, d3, d4, d5⟩ := h
    dsimp only
    rw [bnd_eq, bnd_eq, rb_assoc]
    refine st (C_close (d := 1) d3 (by omega) (by omega) i3 _ _) (fun y p h => by obtain ⟨rfl, rfl⟩ := h; have hF := fl_nI (p := p) (by omega); (try dsimp only); (try simp only [bnd_eq, S_open (k := 48) hF (by decide), S_open (k := 160) hF (by decide), S_open (k := 161) hF (by decide), S_open (k := 162) hF (by decide), S_open (k := 163) hF (by decide), S_ent (k := 128) hF (by decide), S_ent (k := 130) hF (by decide), S_bytes hF, S_hash hF, S_int hF, S_code hF, S_sig hF, S_time hF, S_close hF, S_endText hF, S_more hF, S_sort hF, Option.bind_some]); exact ok.s ⟨by omega, rfl, _, hL8, rfl⟩) (fun y _ a4 i4 h => ?_)
    obtain ⟨rfl, rfl, rfl, e1⟩ := h
    dsimp only
    rw [pk_us, rb_inr]
    refine st (C_close (d := 0) (by omega) (by omega) (by omega) i4 _ _) (fun y p h => by obtain ⟨rfl, rfl⟩ := h; have hF := fl_nI (p := p) (by omega); (try dsimp only); (try simp only [bnd_eq, S_open (k := 48) hF (by decide), S_open (k := 160) hF (by decide), S_open (k := 161) hF (by decide), S_open (k := 162) hF (by decide), S_open (k := 163) hF (by decide), S_ent (k := 128) hF (by decide), S_ent (k := 130) hF (by decide), S_bytes hF, S_hash hF, S_int hF, S_code hF, S_sig hF, S_time hF, S_close hF, S_endText hF, S_more hF, S_sort hF, Option.bind_some]); exact ok.s ⟨by omega, rfl, _, hL8, rfl⟩) (fun y _ a5 i5 h => ?_)
    obtain ⟨rfl, rfl, rfl, k1⟩ := h
    dsimp only
    rw [pk_un (by omega), hO0]
    refine st (C_endText (by omega) (by omega) i5 _ _) (fun y p h => by obtain ⟨rfl, rfl⟩ := h; exact ok.s ⟨by omega, rfl, _, hL8, rfl⟩) (fun y _ a6 i6 h => ?_)
    obtain ⟨rfl, rfl, rfl, e4⟩ := h
    exact ok.s ⟨_, _, _, _, _, _, _, _, _, _, _, rfl, hL, rfl, Or.inr rfl⟩
theorem C_27 {f : Nat → Int32} {n z w : Nat} (hn : n ≤ 1500) (hz : z ≤ n) (hw : w ≤ z) (np : Int32) : ∀ (r fu a : Nat) (i pl sz : Int32) (O : Nat → Int32) (L : List (Nat × Nat × Int64)) (KH NH : Nat → Int64) (SE : Nat → Int32), r + 1 < fu → L.length + r = 8 → 1 ≤ L.length → a ≤ w → O 1 = nI z → O 0 = nI n → AC f NH KH SE L → ok (j_ak_read_27 fu (nI L.length) KH NH SE np 0 (nI a) f (nI 2) (nI w) (-1) i O pl sz 1500 (nI L.length)) (ro (AkC f) AkB (rb (s_ids f w r a i) fun l a6 i6 => s_aft2 f n z (L ++ l) a6 i6)) := by
  intro r
  induction r with
  | zero =>
    intro fu a i pl sz O L KH NH SE hfu hL h1 ha hO1 hO0 hA
    obtain ⟨fu, rfl⟩ : ∃ g, fu = g + 1 + 1 := ⟨fu - 2, by omega⟩
    rw [j_ak_read_27, if_pos (show (8 : Int32) ≤ nI L.length from nI_le (a := 8) (by omega) (by omega))]
    have := C_58 hn hz hw ha hO1 hO0 (by omega) KH NH SE hA np i pl sz
    unfold s_ids
    by_cases hq : a = w
    · rw [show p_ends w a i = .inr ((), a, i) from if_pos hq, rb_inr] at this
      rw [if_pos hq, rb_inr, List.append_nil]
      exact this
    · rw [show p_ends w a i = .inl a from if_neg hq, rb_inl] at this
      rw [if_neg hq, rb_inl]
      exact this
  | succ r ih =>
    intro fu a i pl sz O L KH NH SE hfu hL h1 ha hO1 hO0 hA
    obtain ⟨fu, rfl⟩ : ∃ g, fu = g + 1 + 1 := ⟨fu - 2, by omega⟩
    rw [j_ak_read_27, if_neg (show ¬ (8 : Int32) ≤ nI L.length from nI_ge (b := 8) (by omega) (by decide)), if_neg (nI_ne0 (by omega) (by omega)), C_more ha (by omega), Option.bind_some]
    unfold s_ids
    by_cases hq : a = w
    · have := C_58 hn hz hw ha hO1 hO0 (by omega) KH NH SE hA np i pl sz
      rw [show p_ends w a i = .inr ((), a, i) from if_pos hq, rb_inr] at this
      rw [if_pos hq, if_pos (show (0 : Int32) = 0 from rfl), if_pos hq, rb_inr, List.append_nil]
      exact this
    · rw [if_neg hq, if_neg (show ¬ (1 : Int32) = 0 by decide), if_neg hq, rb_assoc]
      refine st (C_id ha (by omega) (by omega) (by decide) i pl sz KH NH SE) (fun y p h => ?_) (fun y d a' i' h => ?_)
      · obtain ⟨x1, x2, x3, x4, x5, x6, x7, F1, x9, x10, x11, x12⟩ := y
        obtain ⟨hp, hy, c', hc1, hc2⟩ := h
        dsimp only at hy hc2 ⊢
        subst hy
        have hF := fl_nI (p := p) (by omega)
        rw [bnd_eq, nI_1]
        refine ok.m (S_27 hF (k := L.length + 1) (by omega) (by omega) fu _ _ _ _ _ _ _ _ _ _ _ _ _ _ _) (fun y h => ⟨hp, h.1, c', hc1, ?_⟩)
        rw [h.2, hc2]
      · obtain ⟨⟨q, r0, rfl⟩, b1, b2, b3⟩ := h
        dsimp only
        rw [bnd_eq, nI_1, rb_assoc]
        have := ih (fu + 1) a' i' q r0 (upd O 2 (nI w)) (L ++ [d]) _ _ _ (by omega) (by simp; omega) (by simp) b2 (by rw [pk_un (by decide)]; exact hO1) (by rw [pk_un (by decide)]; exact hO0) (AC_snoc d hA)
        simp only [List.length_append, List.length_cons, List.length_nil, Nat.zero_add, List.append_assoc, List.cons_append, List.nil_append] at this
        exact this
theorem C_ask {f : Nat → Int32} {n a : Nat} (han : a ≤ n) (hn : n ≤ 1500) (cnt : Int32) (KH NH : Nat → Int64) (SE : Nat → Int32) (np ns i pl sz : Int32) (O : Nat → Int32) : ok (f_ak_read cnt KH NH SE np ns (nI a) f (nI 0) (nI n) (-1) i O pl sz 1500) (ro (AkC f) AkB (s_ask f n a i)) := by
  unfold f_ak_read s_ask
  have stick : ∀ {F at' d e i0 q r : Int32} {O0 : Nat → Int32} {p : Nat}, p ≤ 1500 → F = nI p → ok (j_ak_read_27 FU 0 KH NH SE np 0 at' f d e F i0 O0 q r 1500 0) (AkB p) := fun {F _ _ _ _ _ _ _ p} hp hFp => by
    have hF : ¬ F = -1 := by rw [hFp]; exact fl_nI (by omega)
    rw [show FU = 4998 + 1 + 1 from rfl, j_ak_read_27, if_neg (by decide), if_pos rfl]
    refine ok.b (S_id (c := 0) (by decide) hF _ _ _ _ _ _ _ _ _ _ _ _) (fun y h => ?_)
    obtain ⟨x1, x2, x3, x4, x5, x6, x7, F1, x9, x10, x11, x12⟩ := y
    obtain ⟨hy, c', hc1, hc2⟩ := h
    dsimp only at hy hc2 ⊢
    subst hy
    rw [bnd_eq]
    refine ok.m (S_27 hF (k := 1) (by decide) (by decide) 4998 _ _ _ _ _ _ _ _ _ _ _ _ _ _ _) (fun y h => ⟨hp, by rw [h.1]; exact hFp, c', hc1, ?_⟩)
    rw [h.2, hc2]
  refine st (C_open (d := 0) han hn (by decide) (by decide) i pl sz) (fun y p h => ?_) (fun y z a1 i1 h => ?_)
  · obtain ⟨⟨at', q0, r0, rfl⟩, rfl⟩ := h
    have hF := fl_nI (p := p) (by omega)
    dsimp only
    rw [S_open (k := 48) hF (by decide), Option.bind_some]
    exact stick (by omega) rfl
  obtain ⟨⟨q, r, rfl⟩, b1, b2, b3⟩ := h
  dsimp only
  refine st (C_open (d := 1) b2 (by omega) (by decide) (by decide) _ _ _) (fun y p h => ?_) (fun y w a2 i2 h => ?_)
  · obtain ⟨⟨at', q0, r0, rfl⟩, rfl⟩ := h
    dsimp only
    exact stick (by omega) rfl
  obtain ⟨⟨q, r, rfl⟩, c1, c2, c3⟩ := h
  dsimp only
  rw [show FU = 4999 + 1 from rfl, j_ak_read_27, if_neg (by decide), if_pos (show (0 : Int32) = 0 from rfl)]
  refine st (C_id (c := 0) c2 (by omega) (by decide) (by decide) _ _ _ KH NH SE) (fun y p h => ?_) (fun y d a' i' h => ?_)
  · obtain ⟨x1, x2, x3, x4, x5, x6, x7, F1, x9, x10, x11, x12⟩ := y
    obtain ⟨hp, hy, c', hc1, hc2⟩ := h
    dsimp only at hy hc2 ⊢
    subst hy
    have hF := fl_nI (p := p) (by omega)
    rw [bnd_eq]
    refine ok.m (S_27 hF (k := 1) (by decide) (by decide) 4998 _ _ _ _ _ _ _ _ _ _ _ _ _ _ _) (fun y h => ⟨hp, h.1, c', hc1, ?_⟩)
    rw [h.2, hc2]
  · obtain ⟨⟨q, r0, rfl⟩, d1, d2, d3⟩ := h
    dsimp only
    rw [bnd_eq]
    exact C_27 hn b3 c3 np 7 4999 a' i' q r0 _ [d] _ _ _ (by decide) rfl (Nat.le_refl 1) d2 (by rw [pk_un (by decide), pk_us]) (by rw [pk_un (by decide), pk_un (by decide), pk_us]) (AC_snoc (L := []) d (fun j d h => by simp at h))
