/-! PURE 14: states, singles, the teller, as the class reads them -/
theorem C_sort {f : Nat → Int32} {a e : Nat} (hae : a ≤ e) (he : e ≤ 1500) : f_sc_sortAhead (nI a) f (nI e) (-1) 1500 = some (if a = e then -1 else f a &&& 255) := by
  unfold f_sc_sortAhead
  rw [if_pos rfl]
  by_cases h : a = e
  · rw [if_pos (nI_le (by omega) (by omega)), if_pos h]
  · rw [if_neg (nI_ge (by omega) (by omega)), if_neg h, chk_t (inN (by omega) (by omega)), nI_clamp (by omega)]
theorem ent_end {f : Nat → Int32} {k : Int32} {lo hi a : Nat} {i : Int32} : p_ent f k lo hi a a i = .inl a := by
  unfold p_ent
  rw [it_0 (by omega)]
  split <;> rfl
theorem state_end {f : Nat → Int32} {a : Nat} {i : Int32} : s_state f a a i = .inl a := by
  unfold s_state
  rw [ent_end, ent_end, ent_end]
  simp only [rb_inl, ite_self]
theorem teller_end {f : Nat → Int32} {a : Nat} {i : Int32} : s_teller f a a i = .inl a := by
  unfold s_teller
  rw [ent_end, ent_end]
  simp only [rb_inl, ite_self]
abbrev StY := (Nat → Int32) × (Nat → Int64) × (Nat → Int32) × Int32 × Int32 × Int32 × Int32 × Int32 × (Nat → Int32) × Int32 × Int32
def StS (d e c : Nat) (O RS ST : Nat → Int32) (SI : Nat → Int64) (a : Nat) (v : Nat × Int64 × Int32) (a' : Nat) (i' : Int32) (y : StY) : Prop := (∃ R1 S1 O1 q r, y = (R1, S1, upd ST c (nI v.1), nI a', nI d, nI e, -1, i', O1, q, r) ∧ R1 c = v.2.2 ∧ S1 c = v.2.1 ∧ (∀ j, j ≠ c → R1 j = RS j ∧ S1 j = SI j) ∧ (∀ j, j < d → O1 j = O j)) ∧ a ≤ a' ∧ a' ≤ e
theorem S_state {c : Nat} (hc : c < 8) {F : Int32} (hF : ¬ F = -1) (RS ST : Nat → Int32) (SI : Nat → Int64) (at' d e i pl sz : Int32) (f O : Nat → Int32) (n : Nat) : ok (f_an_readState RS SI ST at' f d e F i O pl sz n (nI c)) (fun y => y.2.2.2.2.2.2.1 = F) := by
  unfold f_an_readState
  have hb8 : ¬ (nI c < 0 ∨ 8 ≤ (nI c).toNatClampNeg) := inN hc (by omega)
  rw [if_neg (nI_pos (by omega)), if_pos (show nI c < 8 from nI_lt (b := 8) hc (by decide)), S_sort hF, Option.bind_some, chk_t hb8, bnd_eq, chk_t hb8, bnd_eq, if_neg (by decide), if_neg (by decide), chk_t hb8, bnd_eq, S_ent (k := 128) hF (by decide), Option.bind_some]
  exact ok.s rfl
theorem C_state {f : Nat → Int32} (hB : ∀ j, isb (f j)) {a e d c : Nat} {O : Nat → Int32} (hae : a ≤ e) (he : e ≤ 1500) (hd : d < 12) (hc : c < 8) (i pl sz : Int32) (RS ST : Nat → Int32) (SI : Nat → Int64) : ok (f_an_readState RS SI ST (nI a) f (nI d) (nI e) (-1) i O pl sz 1500 (nI c)) (ro (StS d e c O RS ST SI a) (fun p y => p ≤ 1500 ∧ y.2.2.2.2.2.2.1 = nI p) (s_state f e a i)) := by
  unfold f_an_readState
  have hb8 : ¬ (nI c < 0 ∨ 8 ≤ (nI c).toNatClampNeg) := inN hc (by omega)
  rw [if_neg (nI_pos (by omega)), if_pos (show nI c < 8 from nI_lt (b := 8) hc (by decide)), C_sort hae he, Option.bind_some, chk_t hb8, bnd_eq, chk_t hb8, bnd_eq, chk_t hb8, bnd_eq, chk_t hb8, bnd_eq, chk_t hb8, bnd_eq, nI_clamp (by omega)]
  by_cases hq : a = e
  · subst hq
    rw [state_end, if_pos rfl, if_neg (by decide), if_neg (by decide)]
    refine ok.b (C_ent (lo := 0) (hi := 0) hae he (by decide) (by decide) (by decide) i pl sz) (fun y hy => ?_)
    rw [ent_end] at hy
    obtain ⟨⟨x, rfl⟩, -⟩ := hy
    exact ok.s ⟨by omega, rfl⟩
  · rw [if_neg hq]
    by_cases h1 : f a &&& 255 = 161
    · rw [st_161 h1, h1, if_pos rfl]
      refine st (C_open hae he (by decide) hd i pl sz) (fun y p h => by obtain ⟨⟨at', q0, r0, rfl⟩, rfl⟩ := h; have hF := fl_nI (p := p) (by omega); (try dsimp only); simp only [bnd_eq, S_open (k := 48) hF (by decide), S_open (k := 160) hF (by decide), S_open (k := 161) hF (by decide), S_open (k := 162) hF (by decide), S_open (k := 163) hF (by decide), S_ent (k := 128) hF (by decide), S_ent (k := 130) hF (by decide), S_bytes hF, S_hash hF, S_int hF, S_code hF, S_sig hF, S_time hF, S_close hF, S_endText hF, S_more hF, S_sort hF, Option.bind_some]; exact ok.s ⟨by omega, rfl⟩) (fun y z a1 i1 h => ?_)
      obtain ⟨⟨q, r, rfl⟩, b1, b2, b3⟩ := h
      dsimp only
      refine st (C_time hB b2 (by omega) _ _ _) (fun y p h => by obtain ⟨⟨x0, at', i0, q0, r0, rfl⟩, rfl⟩ := h; have hF := fl_nI (p := p) (by omega); (try dsimp only); simp only [bnd_eq, S_open (k := 48) hF (by decide), S_open (k := 160) hF (by decide), S_open (k := 161) hF (by decide), S_open (k := 162) hF (by decide), S_open (k := 163) hF (by decide), S_ent (k := 128) hF (by decide), S_ent (k := 130) hF (by decide), S_bytes hF, S_hash hF, S_int hF, S_code hF, S_sig hF, S_time hF, S_close hF, S_endText hF, S_more hF, S_sort hF, Option.bind_some]; exact ok.s ⟨by omega, rfl⟩) (fun y t a2 i2 h => ?_)
      obtain ⟨⟨q, r, rfl⟩, k1, k2, k3⟩ := h
      dsimp only
      rw [bnd_eq]
      refine st (C_code k2 (by omega) _ _ _) (fun y p h => by obtain ⟨⟨x0, at', i0, q0, r0, rfl⟩, rfl⟩ := h; have hF := fl_nI (p := p) (by omega); (try dsimp only); simp only [bnd_eq, S_open (k := 48) hF (by decide), S_open (k := 160) hF (by decide), S_open (k := 161) hF (by decide), S_open (k := 162) hF (by decide), S_open (k := 163) hF (by decide), S_ent (k := 128) hF (by decide), S_ent (k := 130) hF (by decide), S_bytes hF, S_hash hF, S_int hF, S_code hF, S_sig hF, S_time hF, S_close hF, S_endText hF, S_more hF, S_sort hF, Option.bind_some]; exact ok.s ⟨by omega, rfl⟩) (fun y co a3 i3 h => ?_)
      obtain ⟨⟨q, r, rfl⟩, l1, l2, l3⟩ := h
      dsimp only
      rw [bnd_eq]
      refine st (C_close l2 (by omega) hd i3 _ _) (fun y p h => by obtain ⟨rfl, rfl⟩ := h; exact ok.s ⟨by omega, rfl⟩) (fun y _ a4 i4 h => ?_)
      obtain ⟨rfl, rfl, rfl, r1⟩ := h
      dsimp only
      rw [pk_us]
      exact ok.s ⟨⟨_, _, _, _, _, rfl, pk_us, pk_uLs, fun j hj => ⟨by rw [pk_un hj, pk_un hj], by rw [pk_uLn hj, pk_uLn hj]⟩, fun j hj => pk_un (by omega)⟩, by simp only; omega, by simp only; omega⟩
    · rw [if_neg h1]
      by_cases h0 : f a &&& 255 = 130
      · rw [st_130 h0, h0, if_pos rfl]
        refine st (C_ent (lo := 0) (hi := 0) hae he (by decide) (by decide) (by decide) i pl sz) (fun y p h => by obtain ⟨⟨x, rfl⟩, rfl⟩ := h; exact ok.s ⟨by omega, rfl⟩) (fun y z a1 i1 h => ?_)
        obtain ⟨rfl, b0, b1, b2, b3, b4, b5⟩ := h
        exact ok.s ⟨⟨_, _, _, _, _, rfl, pk_us, pk_uLs, fun j hj => ⟨pk_un hj, pk_uLn hj⟩, fun j hj => rfl⟩, by simp only; omega, by simp only; omega⟩
      · rw [st_128 h1 h0, if_neg h0]
        refine st (C_ent (lo := 0) (hi := 0) hae he (by decide) (by decide) (by decide) i pl sz) (fun y p h => by obtain ⟨⟨x, rfl⟩, rfl⟩ := h; exact ok.s ⟨by omega, rfl⟩) (fun y z a1 i1 h => ?_)
        obtain ⟨rfl, b0, b1, b2, b3, b4, b5⟩ := h
        exact ok.s ⟨⟨_, _, _, _, _, rfl, pk_us, pk_uLs, fun j hj => ⟨pk_un hj, pk_uLn hj⟩, fun j hj => rfl⟩, by simp only; omega, by simp only; omega⟩
/-- the rows of singles that the class keeps -/
def BC (f : Nat → Int32) (NH KH : Nat → Int64) (SE ST : Nat → Int32) (SI : Nat → Int64) (RS : Nat → Int32) (FR NX : Nat → Int64) (L : List SG) : Prop := ∀ j v, L[j]? = some v → NH j = nb f 0 v.1.1 8 ∧ KH j = nb f 0 v.1.2.1 8 ∧ SE j = v.1.2.2.toInt32 ∧ ST j = nI v.2.1.1 ∧ SI j = v.2.1.2.1 ∧ RS j = v.2.1.2.2 ∧ FR j = v.2.2.1 ∧ NX j = v.2.2.2
theorem BC_snoc {f : Nat → Int32} {NH KH : Nat → Int64} {SE ST : Nat → Int32} {SI : Nat → Int64} {RS : Nat → Int32} {FR NX : Nat → Int64} {L : List SG} {v : SG} {SI1 : Nat → Int64} {RS1 : Nat → Int32} {FR1 NX1 : Nat → Int64} (h : BC f NH KH SE ST SI RS FR NX L) (hS : SI1 L.length = v.2.1.2.1) (hR : RS1 L.length = v.2.1.2.2) (hF : FR1 L.length = v.2.2.1) (hN : NX1 L.length = v.2.2.2) (hO : ∀ j, j ≠ L.length → SI1 j = SI j ∧ RS1 j = RS j ∧ FR1 j = FR j ∧ NX1 j = NX j) : BC f (vp_updL NH L.length (nb f 0 v.1.1 8)) (vp_updL KH L.length (nb f 0 v.1.2.1 8)) (upd SE L.length v.1.2.2.toInt32) (upd ST L.length (nI v.2.1.1)) SI1 RS1 FR1 NX1 (L ++ [v]) := by
  intro j d hd
  rcases snoc_get hd with ⟨g1, g2⟩ | ⟨rfl, rfl⟩
  · obtain ⟨o1, o2, o3, o4⟩ := hO j g1
    rw [pk_uLn g1, pk_uLn g1, pk_un g1, pk_un g1, o1, o2, o3, o4]
    exact h j d g2
  · rw [pk_uLs, pk_uLs, pk_us, pk_us]
    exact ⟨rfl, rfl, rfl, rfl, hS, hR, hF, hN⟩
abbrev SiY := (Nat → Int64) × Int32 × (Nat → Int64) × (Nat → Int64) × (Nat → Int32) × (Nat → Int64) × (Nat → Int32) × (Nat → Int64) × (Nat → Int32) × Int32 × Int32 × Int32 × Int32 × Int32 × (Nat → Int32) × Int32 × Int32
def SiB (p : Nat) (y : SiY) : Prop := p ≤ 1500 ∧ y.2.2.2.2.2.2.2.2.2.2.2.2.1 = nI p ∧ ∃ c', c' ≤ 8 ∧ y.2.1 = nI c'
def SiS (f : Nat → Int32) (d e : Nat) (O : Nat → Int32) (L : List SG) (a : Nat) (v : SG) (a' : Nat) (i' : Int32) (y : SiY) : Prop := (∃ FR KH NH SE NX RS SI ST O' q r, y = (FR, nI (L.length + 1), KH, NH, SE, NX, RS, SI, ST, nI a', nI d, nI e, -1, i', O', q, r) ∧ BC f NH KH SE ST SI RS FR NX (L ++ [v]) ∧ (∀ j, j < d → O' j = O j)) ∧ a ≤ a' ∧ a' ≤ e
theorem S_single {c k : Nat} (hc : c ≤ 8) (hk : k < 8) {F : Int32} (hF : ¬ F = -1) (FR KH NH : Nat → Int64) (SE : Nat → Int32) (NX : Nat → Int64) (RS : Nat → Int32) (SI : Nat → Int64) (ST : Nat → Int32) (at' d e i pl sz : Int32) (f O : Nat → Int32) (n : Nat) : ok (f_an_readSingle FR (nI c) KH NH SE NX RS SI ST at' f d e F i O pl sz n (nI k)) (fun y => y.2.2.2.2.2.2.2.2.2.2.2.2.1 = F ∧ ∃ c', c' ≤ 8 ∧ y.2.1 = nI c') := by
  unfold f_an_readSingle
  have hb8 : ¬ (nI k < 0 ∨ 8 ≤ (nI k).toNatClampNeg) := inN hk (by omega)
  rw [if_neg (nI_pos (by omega)), if_pos (show nI k < 8 from nI_lt (b := 8) hk (by decide)), S_open (k := 48) hF (by decide), Option.bind_some]
  refine ok.b (S_id hc hF _ _ _ _ _ _ _ _ _ _ _ _) (fun y h => ?_)
  obtain ⟨c0, k0, n0, s0, at0, d0, e0, F0, i0, O0, q0, r0⟩ := y
  obtain ⟨rfl, h2⟩ := h
  dsimp only at hF h2 ⊢
  refine ok.b (S_state hk hF _ _ _ _ _ _ _ _ _ _ _ _) (fun y h => ?_)
  obtain ⟨x1, x2, x3, x4, x5, x6, F1, x8, x9, x10, x11⟩ := y
  obtain rfl := h
  dsimp only at hF ⊢
  rw [S_time hF, Option.bind_some, chk_t hb8, bnd_eq, chk_t hb8, bnd_eq, S_more hF, Option.bind_some, if_pos rfl, S_close hF, Option.bind_some]
  exact ok.s ⟨rfl, h2⟩
set_option maxHeartbeats 2000000 in
theorem C_single {f : Nat → Int32} (hB : ∀ j, isb (f j)) {a e d : Nat} {O : Nat → Int32} (hae : a ≤ e) (he : e ≤ 1500) (hd : d < 11) {L : List SG} (hc : L.length < 8) (i pl sz : Int32) {FR KH NH : Nat → Int64} {SE : Nat → Int32} {NX : Nat → Int64} {RS : Nat → Int32} {SI : Nat → Int64} {ST : Nat → Int32} (hL : BC f NH KH SE ST SI RS FR NX L) : ok (f_an_readSingle FR (nI L.length) KH NH SE NX RS SI ST (nI a) f (nI d) (nI e) (-1) i O pl sz 1500 (nI L.length)) (ro (SiS f d e O L a) SiB (s_single f e a i)) := by
  have hb8 : ¬ (nI L.length < 0 ∨ 8 ≤ (nI L.length).toNatClampNeg) := inN hc (by omega)
  have tail : ∀ {F at' d0 e0 i0 q0 r0 : Int32} {O0 : Nat → Int32} {c0 : Nat} {k0 n0 : Nat → Int64} {s0 : Nat → Int32} {p : Nat}, p ≤ 1500 → F = nI p → c0 ≤ 8 → ok ((f_an_readState RS SI ST at' f d0 e0 F i0 O0 q0 r0 1500 (nI L.length)).bind fun y_5 => (f_sc_readTime y_5.2.2.2.1 f y_5.2.2.2.2.2.1 y_5.2.2.2.2.2.2.1 y_5.2.2.2.2.2.2.2.1 y_5.2.2.2.2.2.2.2.2.2.1 y_5.2.2.2.2.2.2.2.2.2.2 1500).bind fun y_6 => chk (¬ (nI L.length < 0 ∨ 8 ≤ (nI L.length).toNatClampNeg)) <| bnd (vp_updL FR (nI L.length).toNatClampNeg y_6.1) fun r_o_from_8 => chk (¬ (nI L.length < 0 ∨ 8 ≤ (nI L.length).toNatClampNeg)) <| bnd (vp_updL NX (nI L.length).toNatClampNeg (-1 : Int64)) fun r_o_next_10 => (f_sc_hasMore y_6.2.1 y_5.2.2.2.2.2.1 y_6.2.2.1).bind fun y_11 => if y_11 = 0 then ((f_sc_close y_6.2.1 y_5.2.2.2.2.1 y_5.2.2.2.2.2.1 y_6.2.2.1 y_5.2.2.2.2.2.2.2.2.1 y_6.2.2.2.2.1 y_6.2.2.2.2.2).bind fun y_13 => some (r_o_from_8, nI c0, k0, n0, s0, r_o_next_10, y_5.1, y_5.2.1, y_5.2.2.1, y_6.2.1, y_13.1, y_13.2.1, y_13.2.2.1, y_6.2.2.2.1, y_5.2.2.2.2.2.2.2.2.1, y_13.2.2.2.1, y_13.2.2.2.2)) else ((f_sc_open y_6.2.1 f y_5.2.2.2.2.1 y_5.2.2.2.2.2.1 y_6.2.2.1 y_6.2.2.2.1 y_5.2.2.2.2.2.2.2.2.1 y_6.2.2.2.2.1 y_6.2.2.2.2.2 1500 (160 : Int32)).bind fun y_14 => (f_sc_readTime y_14.1 f y_14.2.2.1 y_14.2.2.2.1 y_14.2.2.2.2.1 y_14.2.2.2.2.2.2.1 y_14.2.2.2.2.2.2.2 1500).bind fun y_15 => bnd (vp_updL r_o_next_10 (nI L.length).toNatClampNeg y_15.1) fun r_o_next_16 => (f_sc_close y_15.2.1 y_14.2.1 y_14.2.2.1 y_15.2.2.1 y_14.2.2.2.2.2.1 y_15.2.2.2.2.1 y_15.2.2.2.2.2).bind fun y_17 => (f_sc_close y_15.2.1 y_17.1 y_17.2.1 y_17.2.2.1 y_14.2.2.2.2.2.1 y_17.2.2.2.1 y_17.2.2.2.2).bind fun y_18 => some (r_o_from_8, nI c0, k0, n0, s0, r_o_next_16, y_5.1, y_5.2.1, y_5.2.2.1, y_15.2.1, y_18.1, y_18.2.1, y_18.2.2.1, y_15.2.2.2.1, y_14.2.2.2.2.2.1, y_18.2.2.2.1, y_18.2.2.2.2))) (SiB p) := fun {F _ _ _ _ _ _ _ _ _ _ _ _} hp hFp hc0 => by
    have hF : ¬ F = -1 := by rw [hFp]; exact fl_nI (by omega)
    refine ok.b (S_state hc hF _ _ _ _ _ _ _ _ _ _ _ _) (fun y h => ?_)
    obtain ⟨x1, x2, x3, x4, x5, x6, F1, x8, x9, x10, x11⟩ := y
    obtain rfl := h
    dsimp only at hF hFp ⊢
    rw [S_time hF, Option.bind_some, chk_t hb8, bnd_eq, chk_t hb8, bnd_eq, S_more hF, Option.bind_some, if_pos rfl, S_close hF, Option.bind_some]
    exact ok.s ⟨hp, hFp, _, hc0, rfl⟩
  unfold f_an_readSingle s_single
  rw [if_neg (nI_pos (by omega)), if_pos (show nI L.length < 8 from nI_lt (b := 8) hc (by decide))]
  refine st (C_open hae he (by decide) (by omega) i pl sz) (fun y p h => ?_) (fun y z a1 i1 h => ?_)
  · obtain ⟨⟨at', q0, r0, rfl⟩, rfl⟩ := h
    have hF := fl_nI (p := p) (by omega)
    dsimp only
    refine ok.b (S_id (Nat.le_of_lt hc) hF _ _ _ _ _ _ _ _ _ _ _ _) (fun y h => ?_)
    obtain ⟨c0, k0, n0, s0, at0, d0, e0, F0, i0, O0, q0, r0⟩ := y
    obtain ⟨h1, c', h2, h3⟩ := h
    dsimp only at h1 h3 ⊢
    subst h3
    exact tail (p := p) (by omega) h1 h2
  obtain ⟨⟨q, r, rfl⟩, b1, b2, b3⟩ := h
  dsimp only
  refine st (C_id b2 (by omega) hc (by omega) _ _ _ KH NH SE) (fun y p h => ?_) (fun y v a2 i2 h => ?_)
  · obtain ⟨c0, k0, n0, s0, at0, d0, e0, F0, i0, O0, q0, r0⟩ := y
    obtain ⟨hp, h1, c', h2, h3⟩ := h
    dsimp only at h1 h3 ⊢
    subst h3
    exact tail hp h1 h2
  obtain ⟨⟨q, r, rfl⟩, c1, c2, c3⟩ := h
  dsimp only
  refine st (C_state hB c2 (by omega) (by omega) hc _ _ _ RS ST SI) (fun y p h => ?_) (fun y s a3 i3 h => ?_)
  · obtain ⟨x1, x2, x3, x4, x5, x6, F1, x8, x9, x10, x11⟩ := y
    obtain ⟨hp, h1⟩ := h
    dsimp only at h1 ⊢
    have hF : ¬ F1 = -1 := by rw [h1]; exact fl_nI (by omega)
    rw [S_time hF, Option.bind_some, chk_t hb8, bnd_eq, chk_t hb8, bnd_eq, S_more hF, Option.bind_some, if_pos rfl, S_close hF, Option.bind_some]
    exact ok.s ⟨hp, h1, _, hc, rfl⟩
  obtain ⟨⟨R1, S1, O1, q, r, rfl, d1, d2, d3, d4⟩, d5, d6⟩ := h
  dsimp only
  refine st (C_time hB d6 (by omega) _ _ _) (fun y p h => ?_) (fun y t a4 i4 h => ?_)
  · obtain ⟨⟨x0, at', i0, q0, r0, rfl⟩, rfl⟩ := h
    have hF := fl_nI (p := p) (by omega)
    dsimp only
    rw [chk_t hb8, bnd_eq, chk_t hb8, bnd_eq, S_more hF, Option.bind_some, if_pos rfl, S_close hF, Option.bind_some]
    exact ok.s ⟨by omega, rfl, _, hc, rfl⟩
  obtain ⟨⟨q, r, rfl⟩, e1, e2, e3⟩ := h
  dsimp only
  rw [chk_t hb8, bnd_eq, chk_t hb8, bnd_eq, C_more e2 (by omega), Option.bind_some, nI_clamp (by omega)]
  have hO1 : O1 d = nI e := by rw [d4 d (by omega), pk_un (by omega), pk_us]
  have hO1' : ∀ j, j < d → O1 j = O j := fun j hj => by rw [d4 j (by omega), pk_un (by omega), pk_un (by omega)]
  by_cases hz : a4 = z
  · rw [if_pos hz, if_pos (show (0 : Int32) = 0 from rfl), if_pos hz]
    refine ok.b (C_close (i := i4) e2 (by omega) (by omega) _ _) (fun y hy => ?_)
    unfold p_ends at hy
    rw [if_pos hz] at hy
    obtain ⟨rfl, -⟩ := hy
    dsimp only
    rw [hO1]
    exact ok.s ⟨⟨_, _, _, _, _, _, _, _, _, _, _, rfl, BC_snoc (v := (v, s, t, -1)) hL d2 d1 pk_uLs pk_uLs (fun j hj => ⟨(d3 j hj).2, (d3 j hj).1, pk_uLn hj, pk_uLn hj⟩), hO1'⟩, by simp only; omega, by simp only; omega⟩
  · rw [if_neg hz, if_neg (by decide), if_neg hz]
    refine st (C_open e2 (by omega) (by decide) (by omega) _ _ _) (fun y p h => by obtain ⟨⟨at', q0, r0, rfl⟩, rfl⟩ := h; have hF := fl_nI (p := p) (by omega); (try dsimp only); simp only [bnd_eq, S_open (k := 48) hF (by decide), S_open (k := 160) hF (by decide), S_open (k := 161) hF (by decide), S_open (k := 162) hF (by decide), S_open (k := 163) hF (by decide), S_ent (k := 128) hF (by decide), S_ent (k := 130) hF (by decide), S_bytes hF, S_hash hF, S_int hF, S_code hF, S_sig hF, S_time hF, S_close hF, S_endText hF, S_more hF, S_sort hF, Option.bind_some]; exact ok.s ⟨by omega, rfl, _, hc, rfl⟩) (fun y w a5 i5 h => ?_)
    obtain ⟨⟨q, r, rfl⟩, k1, k2, k3⟩ := h
    dsimp only
    refine st (C_time hB k2 (by omega) _ _ _) (fun y p h => by obtain ⟨⟨x0, at', i0, q0, r0, rfl⟩, rfl⟩ := h; have hF := fl_nI (p := p) (by omega); (try dsimp only); simp only [bnd_eq, S_open (k := 48) hF (by decide), S_open (k := 160) hF (by decide), S_open (k := 161) hF (by decide), S_open (k := 162) hF (by decide), S_open (k := 163) hF (by decide), S_ent (k := 128) hF (by decide), S_ent (k := 130) hF (by decide), S_bytes hF, S_hash hF, S_int hF, S_code hF, S_sig hF, S_time hF, S_close hF, S_endText hF, S_more hF, S_sort hF, Option.bind_some]; exact ok.s ⟨by omega, rfl, _, hc, rfl⟩) (fun y t2 a6 i6 h => ?_)
    obtain ⟨⟨q, r, rfl⟩, l1, l2, l3⟩ := h
    dsimp only
    rw [bnd_eq]
    refine st (C_close l2 (by omega) (by omega) i6 _ _) (fun y p h => by obtain ⟨rfl, rfl⟩ := h; have hF := fl_nI (p := p) (by omega); (try dsimp only); simp only [bnd_eq, S_open (k := 48) hF (by decide), S_open (k := 160) hF (by decide), S_open (k := 161) hF (by decide), S_open (k := 162) hF (by decide), S_open (k := 163) hF (by decide), S_ent (k := 128) hF (by decide), S_ent (k := 130) hF (by decide), S_bytes hF, S_hash hF, S_int hF, S_code hF, S_sig hF, S_time hF, S_close hF, S_endText hF, S_more hF, S_sort hF, Option.bind_some]; exact ok.s ⟨by omega, rfl, _, hc, rfl⟩) (fun y _ a7 i7 h => ?_)
    obtain ⟨rfl, rfl, rfl, m1⟩ := h
    dsimp only
    rw [pk_us]
    refine st (C_close (by omega) (by omega) (by omega) i7 _ _) (fun y p h => by obtain ⟨rfl, rfl⟩ := h; exact ok.s ⟨by omega, rfl, _, hc, rfl⟩) (fun y _ a8 i8 h => ?_)
    obtain ⟨rfl, rfl, rfl, n1⟩ := h
    dsimp only
    rw [pk_un (by omega), hO1]
    exact ok.s ⟨⟨_, _, _, _, _, _, _, _, _, _, _, rfl, BC_snoc (v := (v, s, t, t2)) hL d2 d1 pk_uLs pk_uLs (fun j hj => ⟨(d3 j hj).2, (d3 j hj).1, pk_uLn hj, by rw [pk_uLn hj, pk_uLn hj]⟩), fun j hj => by rw [pk_un (by omega), hO1' j hj]⟩, by simp only; omega, by simp only; omega⟩
