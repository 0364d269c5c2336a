/-! PURE 15: teller, body, certificate of an answer, as the class reads them -/
theorem nbf0 : narrow .boolean (.int (0 : Int32)) = .int 0 ∧ fits .boolean (.int (0 : Int32)) = true := ⟨nb0, by decide⟩
theorem nbf1 : narrow .boolean (.int (1 : Int32)) = .int 1 ∧ fits .boolean (.int (1 : Int32)) = true := ⟨nb11, by decide⟩
abbrev TeY := Int32 × Int64 × Int32 × Int32 × Int32 × Int32 × Int32 × Int32 × Int32 × (Nat → Int32) × Int32 × Int32
def TeR (f : Nat → Int32) (v : Nat × Nat × Nat) (b : Int32) (h : Int64) (tp ts : Int32) : Prop := (v.1 = 2 ∧ b = 0 ∧ h = nb f 0 v.2.1 8) ∨ (v.1 = 1 ∧ b = 1 ∧ tp = nI v.2.1 ∧ ts = nI (v.2.2 - v.2.1))
def TeS (f : Nat → Int32) (d e : Nat) (O : Nat → Int32) (a : Nat) (v : Nat × Nat × Nat) (a' : Nat) (i' : Int32) (y : TeY) : Prop := (∃ b h tp ts O' q r, y = (b, h, tp, ts, nI a', nI d, nI e, -1, i', O', q, r) ∧ TeR f v b h tp ts ∧ (∀ j, j < d → O' j = O j)) ∧ a ≤ a' ∧ a' ≤ e
theorem S_teller {F : Int32} (hF : ¬ F = -1) (b : Int32) (h : Int64) (tp ts at' d e i pl sz : Int32) (f O : Nat → Int32) (n : Nat) : ok (f_an_readTeller b h tp ts at' f d e F i O pl sz n) (fun y => y.2.2.2.2.2.2.2.1 = F) := by
  unfold f_an_readTeller j_an_readTeller_16
  rw [S_sort hF, Option.bind_some, if_neg (by decide), chk_t nbf1, if_neg (by decide)]
  (try dsimp only); (try simp only [bnd_eq, S_open (k := 48) hF (by decide), S_open (k := 160) hF (by decide), S_open (k := 161) hF (by decide), S_open (k := 162) hF (by decide), S_open (k := 163) hF (by decide), S_ent (k := 128) hF (by decide), S_ent (k := 130) hF (by decide), S_bytes hF, S_hash hF, S_int hF, S_code hF, S_sig hF, S_time hF, S_close hF, S_endText hF, S_more hF, S_sort hF, Option.bind_some])
  exact ok.s rfl
theorem C_teller {f : Nat → Int32} {a e d : Nat} {O : Nat → Int32} (hae : a ≤ e) (he : e ≤ 1500) (hd : d < 12) (b : Int32) (h : Int64) (tp ts i pl sz : Int32) : ok (f_an_readTeller b h tp ts (nI a) f (nI d) (nI e) (-1) i O pl sz 1500) (ro (TeS f d e O a) (fun p y => p ≤ 1500 ∧ y.2.2.2.2.2.2.2.1 = nI p) (s_teller f e a i)) := by
  unfold f_an_readTeller j_an_readTeller_16
  rw [C_sort hae he, Option.bind_some, chk_t nbf1, chk_t nbf0, if_neg (show ¬ (1 : Int32) = 0 by decide), if_pos (show (0 : Int32) = 0 from rfl)]
  by_cases hq : a = e
  · subst hq
    rw [teller_end, if_pos rfl, if_neg (by decide)]
    refine ok.b (C_open hae he (by decide) hd i pl sz) (fun y hy => ?_)
    rw [ent_end] at hy
    obtain ⟨⟨at', q0, r0, rfl⟩, -⟩ := hy
    have hF := fl_nI (p := a) (by omega)
    (try dsimp only); (try simp only [bnd_eq, S_open (k := 48) hF (by decide), S_open (k := 160) hF (by decide), S_open (k := 161) hF (by decide), S_open (k := 162) hF (by decide), S_open (k := 163) hF (by decide), S_ent (k := 128) hF (by decide), S_ent (k := 130) hF (by decide), S_bytes hF, S_hash hF, S_int hF, S_code hF, S_sig hF, S_time hF, S_close hF, S_endText hF, S_more hF, S_sort hF, Option.bind_some])
    exact ok.s ⟨by omega, rfl⟩
  · rw [if_neg hq]
    by_cases h2 : f a &&& 255 = 162
    · rw [te_162 h2, if_pos h2]
      refine st (C_open hae he (by decide) hd i pl sz) (fun y p h => by obtain ⟨⟨at', q0, r0, rfl⟩, rfl⟩ := h; have hF := fl_nI (p := p) (by omega); (try dsimp only); (try simp only [bnd_eq, S_open (k := 48) hF (by decide), S_open (k := 160) hF (by decide), S_open (k := 161) hF (by decide), S_open (k := 162) hF (by decide), S_open (k := 163) hF (by decide), S_ent (k := 128) hF (by decide), S_ent (k := 130) hF (by decide), S_bytes hF, S_hash hF, S_int hF, S_code hF, S_sig hF, S_time hF, S_close hF, S_endText hF, S_more hF, S_sort hF, Option.bind_some]); exact ok.s ⟨by omega, rfl⟩) (fun y z a1 i1 h => ?_)
      obtain ⟨⟨q, r, rfl⟩, b1, b2, b3⟩ := h
      dsimp only
      refine st (C_hash b2 (by omega) _ _ _) (fun y p h => by obtain ⟨⟨x0, at', q0, r0, rfl⟩, rfl⟩ := h; have hF := fl_nI (p := p) (by omega); (try dsimp only); (try simp only [bnd_eq, S_open (k := 48) hF (by decide), S_open (k := 160) hF (by decide), S_open (k := 161) hF (by decide), S_open (k := 162) hF (by decide), S_open (k := 163) hF (by decide), S_ent (k := 128) hF (by decide), S_ent (k := 130) hF (by decide), S_bytes hF, S_hash hF, S_int hF, S_code hF, S_sig hF, S_time hF, S_close hF, S_endText hF, S_more hF, S_sort hF, Option.bind_some]); exact ok.s ⟨by omega, rfl⟩) (fun y n a2 i2 h => ?_)
      obtain ⟨⟨q, r, rfl⟩, c1, c2, c3⟩ := h
      dsimp only
      rw [bnd_eq]
      refine st (C_close c3 (by omega) hd i2 _ _) (fun y p h => by obtain ⟨rfl, rfl⟩ := h; exact ok.s ⟨by omega, rfl⟩) (fun y _ a3 i3 h => ?_)
      obtain ⟨rfl, rfl, rfl, r1⟩ := h
      dsimp only
      rw [pk_us]
      exact ok.s ⟨⟨_, _, _, _, _, _, _, rfl, Or.inl ⟨rfl, rfl, rfl⟩, fun j hj => pk_un (by omega)⟩, by simp only; omega, by simp only; omega⟩
    · rw [te_161 h2, if_neg h2]
      refine st (C_open hae he (by decide) hd i pl sz) (fun y p h => by obtain ⟨⟨at', q0, r0, rfl⟩, rfl⟩ := h; have hF := fl_nI (p := p) (by omega); (try dsimp only); (try simp only [bnd_eq, S_open (k := 48) hF (by decide), S_open (k := 160) hF (by decide), S_open (k := 161) hF (by decide), S_open (k := 162) hF (by decide), S_open (k := 163) hF (by decide), S_ent (k := 128) hF (by decide), S_ent (k := 130) hF (by decide), S_bytes hF, S_hash hF, S_int hF, S_code hF, S_sig hF, S_time hF, S_close hF, S_endText hF, S_more hF, S_sort hF, Option.bind_some]); exact ok.s ⟨by omega, rfl⟩) (fun y z a1 i1 h => ?_)
      obtain ⟨⟨q, r, rfl⟩, b1, b2, b3⟩ := h
      dsimp only
      refine st (C_bytes (lo := 1) (hi := 16) b2 (by omega) (by decide) (by decide) _ _ _) (fun y p h => by obtain ⟨⟨x0, at', q0, r0, rfl⟩, rfl⟩ := h; have hF := fl_nI (p := p) (by omega); (try dsimp only); (try simp only [bnd_eq, S_open (k := 48) hF (by decide), S_open (k := 160) hF (by decide), S_open (k := 161) hF (by decide), S_open (k := 162) hF (by decide), S_open (k := 163) hF (by decide), S_ent (k := 128) hF (by decide), S_ent (k := 130) hF (by decide), S_bytes hF, S_hash hF, S_int hF, S_code hF, S_sig hF, S_time hF, S_close hF, S_endText hF, S_more hF, S_sort hF, Option.bind_some]); exact ok.s ⟨by omega, rfl⟩) (fun y n a2 i2 h => ?_)
      obtain ⟨⟨q, rfl⟩, c1, c2, c3, c4, c5⟩ := h
      dsimp only
      rw [bnd_eq, bnd_eq]
      refine st (C_close c3 (by omega) hd i2 _ _) (fun y p h => by obtain ⟨rfl, rfl⟩ := h; exact ok.s ⟨by omega, rfl⟩) (fun y _ a3 i3 h => ?_)
      obtain ⟨rfl, rfl, rfl, r1⟩ := h
      dsimp only
      rw [pk_us]
      exact ok.s ⟨⟨_, _, _, _, _, _, _, rfl, Or.inr ⟨rfl, rfl, rfl, rfl⟩, fun j hj => pk_un (by omega)⟩, by simp only; omega, by simp only; omega⟩
noncomputable def s_top (f : Nat → Int32) (e a : Nat) (i : Int32) : Rs ((Nat × Nat × Nat) × Nat × Nat) := rb (p_ent f 48 0 1500 e a i) fun z a1 i1 => rb (s_teller f z a1 i1) fun te a2 i2 => rb (p_time f z a2 i2) fun _ a3 i3 => rb (p_ent f 48 0 1500 z a3 i3) fun w a4 i4 => .inr ((te, z, w), a4, i4)
def s_rest (f : Nat → Int32) (w z a : Nat) (i : Int32) : Rs (Nat × Nat) := rb (p_ends w a i) fun _ a1 i1 => rb (s_nonce f 163 z a1 i1) fun no a2 i2 => rb (p_ends z a2 i2) fun _ a3 i3 => .inr (no, a3, i3)
abbrev ToY := Int32 × Int32 × Int64 × Int32 × Int32 × Int32 × Int32 × Int32 × Int32 × Int32 × (Nat → Int32) × Int32 × Int32
def ToS (f : Nat → Int32) (d e : Nat) (O : Nat → Int32) (a : Nat) (v : (Nat × Nat × Nat) × Nat × Nat) (a' : Nat) (i' : Int32) (y : ToY) : Prop := (∃ b h tp ts O' q r, y = (nI a, b, h, tp, ts, nI a', nI (d + 2), nI v.2.2, -1, i', O', q, r) ∧ TeR f v.1 b h tp ts ∧ (∀ j, j < d → O' j = O j) ∧ O' d = nI e ∧ O' (d + 1) = nI v.2.1) ∧ a ≤ a' ∧ a' ≤ v.2.2 ∧ v.2.2 ≤ v.2.1 ∧ v.2.1 ≤ e
theorem S_top {F : Int32} (hF : ¬ F = -1) (bp b : Int32) (h : Int64) (tp ts at' d e i pl sz : Int32) (f O : Nat → Int32) (n : Nat) : ok (f_an_readBodyTop bp b h tp ts at' f d e F i O pl sz n) (fun y => y.2.2.2.2.2.2.2.2.1 = F) := by
  unfold f_an_readBodyTop
  rw [S_open (k := 48) hF (by decide), Option.bind_some]
  refine ok.b (S_teller hF _ _ _ _ _ _ _ _ _ _ _ _ _) (fun y hy => ?_)
  obtain ⟨x1, x2, x3, x4, x5, x6, x7, F1, x9, x10, x11, x12⟩ := y
  obtain rfl := hy
  dsimp only at hF ⊢
  rw [S_time hF, Option.bind_some, S_open (k := 48) hF (by decide), Option.bind_some]
  exact ok.s rfl
theorem C_top {f : Nat → Int32} (hB : ∀ j, isb (f j)) {a e d : Nat} {O : Nat → Int32} (hae : a ≤ e) (he : e ≤ 1500) (hd : d < 10) (bp b : Int32) (h : Int64) (tp ts i pl sz : Int32) : ok (f_an_readBodyTop bp b h tp ts (nI a) f (nI d) (nI e) (-1) i O pl sz 1500) (ro (ToS f d e O a) (fun p y => p ≤ 1500 ∧ y.2.2.2.2.2.2.2.2.1 = nI p) (s_top f e a i)) := by
  unfold f_an_readBodyTop s_top
  refine st (C_open hae he (by decide) (by omega) i pl sz) (fun y p h => ?_) (fun y z a1 i1 h => ?_)
  · obtain ⟨⟨at', q0, r0, rfl⟩, rfl⟩ := h
    have hF := fl_nI (p := p) (by omega)
    dsimp only
    refine ok.b (S_teller hF _ _ _ _ _ _ _ _ _ _ _ _ _) (fun y hy => ?_)
    obtain ⟨x1, x2, x3, x4, x5, x6, x7, F1, x9, x10, x11, x12⟩ := y
    dsimp only at hy ⊢
    subst hy
    rw [S_time hF, Option.bind_some, S_open (k := 48) hF (by decide), Option.bind_some]
    exact ok.s ⟨by omega, rfl⟩
  obtain ⟨⟨q, r, rfl⟩, b1, b2, b3⟩ := h
  dsimp only
  refine st (C_teller b2 (by omega) (by omega) _ _ _ _ _ _ _) (fun y p h => ?_) (fun y te a2 i2 h => ?_)
  · obtain ⟨x1, x2, x3, x4, x5, x6, x7, F1, x9, x10, x11, x12⟩ := y
    obtain ⟨hp, hy⟩ := h
    dsimp only at hy ⊢
    subst hy
    have hF := fl_nI (p := p) (by omega)
    rw [S_time hF, Option.bind_some, S_open (k := 48) hF (by decide), Option.bind_some]
    exact ok.s ⟨hp, rfl⟩
  obtain ⟨⟨tb, th, tp', ts', O1, q, r, rfl, t1, t2⟩, c1, c2⟩ := h
  dsimp only
  refine st (C_time hB c2 (by omega) _ _ _) (fun y p h => by obtain ⟨⟨x0, at', i0, q0, r0, rfl⟩, rfl⟩ := h; have hF := fl_nI (p := p) (by omega); (try dsimp only); (try simp only [bnd_eq, S_open (k := 48) hF (by decide), S_open (k := 160) hF (by decide), S_open (k := 161) hF (by decide), S_open (k := 162) hF (by decide), S_open (k := 163) hF (by decide), S_ent (k := 128) hF (by decide), S_ent (k := 130) hF (by decide), S_bytes hF, S_hash hF, S_int hF, S_code hF, S_sig hF, S_time hF, S_close hF, S_endText hF, S_more hF, S_sort hF, Option.bind_some]); exact ok.s ⟨by omega, rfl⟩) (fun y t a3 i3 h => ?_)
  obtain ⟨⟨q, r, rfl⟩, d1, d2, d3⟩ := h
  dsimp only
  refine st (C_open d2 (by omega) (by decide) (by omega) _ _ _) (fun y p h => by obtain ⟨⟨at', q0, r0, rfl⟩, rfl⟩ := h; have hF := fl_nI (p := p) (by omega); (try dsimp only); (try simp only [bnd_eq, S_open (k := 48) hF (by decide), S_open (k := 160) hF (by decide), S_open (k := 161) hF (by decide), S_open (k := 162) hF (by decide), S_open (k := 163) hF (by decide), S_ent (k := 128) hF (by decide), S_ent (k := 130) hF (by decide), S_bytes hF, S_hash hF, S_int hF, S_code hF, S_sig hF, S_time hF, S_close hF, S_endText hF, S_more hF, S_sort hF, Option.bind_some]); exact ok.s ⟨by omega, rfl⟩) (fun y w a4 i4 h => ?_)
  obtain ⟨⟨q, r, rfl⟩, e1, e2, e3⟩ := h
  dsimp only
  exact ok.s ⟨⟨_, _, _, _, _, _, _, rfl, t1, fun j hj => by rw [pk_un (by omega), t2 j (by omega), pk_un (by omega)], by rw [pk_un (by omega), t2 d (by omega), pk_us], pk_us⟩, by simp only; omega, by simp only; omega, by simp only; omega, by simp only; omega⟩
abbrev ReY := Int32 × Int32 × Int32 × Int32 × Int32 × Int32 × Int32 × Int32 × (Nat → Int32) × Int32 × Int32
def NoR (v : Nat × Nat) (np ns : Int32) : Prop := ns = nI (v.2 - v.1) ∧ (v = (0, 0) ∨ np = nI v.1)
def ReS (z d e : Nat) (O : Nat → Int32) (a : Nat) (v : Nat × Nat) (a' : Nat) (i' : Int32) (y : ReY) : Prop := (∃ np ns O' q r, y = (nI z, np, ns, nI a', nI d, nI e, -1, i', O', q, r) ∧ NoR v np ns ∧ (∀ j, j < d → O' j = O j)) ∧ a ≤ a' ∧ a' = z
theorem S_rest {F : Int32} (hF : ¬ F = -1) (be np ns at' d e i pl sz : Int32) (f O : Nat → Int32) (n : Nat) : ok (f_an_readBodyRest be np ns at' f d e F i O pl sz n) (fun y => y.2.2.2.2.2.2.1 = F) := by
  unfold f_an_readBodyRest
  rw [S_close hF, Option.bind_some, S_more hF, Option.bind_some, if_pos rfl, S_close hF, Option.bind_some]
  exact ok.s rfl
theorem C_rest {f : Nat → Int32} {a e d w z : Nat} {O : Nat → Int32} (haw : a ≤ w) (hwz : w ≤ z) (hze : z ≤ e) (he : e ≤ 1500) (hd : d < 9) (hO1 : O (d + 1) = nI z) (hO0 : O d = nI e) (be np i pl sz : Int32) : ok (f_an_readBodyRest be np 0 (nI a) f (nI (d + 2)) (nI w) (-1) i O pl sz 1500) (ro (ReS z d e O a) (fun p y => p ≤ 1500 ∧ y.2.2.2.2.2.2.1 = nI p) (s_rest f w z a i)) := by
  unfold f_an_readBodyRest s_rest s_nonce
  refine st (C_close haw (by omega) (by omega) i _ _) (fun y p h => by obtain ⟨rfl, rfl⟩ := h; have hF := fl_nI (p := p) (by omega); dsimp only; rw [S_more hF, Option.bind_some, if_pos rfl, S_close hF, Option.bind_some]; exact ok.s ⟨by omega, rfl⟩) (fun y _ a1 i1 h => ?_)
  obtain ⟨rfl, rfl, rfl, b1⟩ := h
  dsimp only
  rw [hO1, C_more (by omega) (by omega), Option.bind_some]
  by_cases hq : a1 = z
  · rw [if_pos hq, if_pos (show (0 : Int32) = 0 from rfl), if_pos hq, rb_inr]
    refine st (C_close (by omega) (by omega) (by omega) i1 _ _) (fun y p h => by obtain ⟨rfl, rfl⟩ := h; exact ok.s ⟨by omega, rfl⟩) (fun y _ a3 i3 h => ?_)
    obtain ⟨rfl, rfl, rfl, r1⟩ := h
    dsimp only
    rw [hO0, hq]
    exact ok.s ⟨⟨_, _, _, _, _, rfl, ⟨rfl, Or.inl rfl⟩, fun j hj => rfl⟩, by simp only; omega, by first | rfl | exact hq | omega⟩
  · rw [if_neg hq, if_neg (show ¬ (1 : Int32) = 0 by decide), if_neg hq, rb_assoc]
    refine st (C_open (by omega) (by omega) (by decide) (by omega) _ _ _) (fun y p h => by obtain ⟨⟨at', q0, r0, rfl⟩, rfl⟩ := h; have hF := fl_nI (p := p) (by omega); (try dsimp only); (try simp only [bnd_eq, S_open (k := 48) hF (by decide), S_open (k := 160) hF (by decide), S_open (k := 161) hF (by decide), S_open (k := 162) hF (by decide), S_open (k := 163) hF (by decide), S_ent (k := 128) hF (by decide), S_ent (k := 130) hF (by decide), S_bytes hF, S_hash hF, S_int hF, S_code hF, S_sig hF, S_time hF, S_close hF, S_endText hF, S_more hF, S_sort hF, Option.bind_some]); exact ok.s ⟨by omega, rfl⟩) (fun y k a2 i2 h => ?_)
    obtain ⟨⟨q, r, rfl⟩, c1, c2, c3⟩ := h
    dsimp only
    rw [rb_assoc]
    refine st (C_bytes (lo := 1) (hi := 16) c2 (by omega) (by decide) (by decide) _ _ _) (fun y p h => by obtain ⟨⟨x0, at', q0, r0, rfl⟩, rfl⟩ := h; have hF := fl_nI (p := p) (by omega); (try dsimp only); (try simp only [bnd_eq, S_open (k := 48) hF (by decide), S_open (k := 160) hF (by decide), S_open (k := 161) hF (by decide), S_open (k := 162) hF (by decide), S_open (k := 163) hF (by decide), S_ent (k := 128) hF (by decide), S_ent (k := 130) hF (by decide), S_bytes hF, S_hash hF, S_int hF, S_code hF, S_sig hF, S_time hF, S_close hF, S_endText hF, S_more hF, S_sort hF, Option.bind_some]); exact ok.s ⟨by omega, rfl⟩) (fun y n a3 i3 h => ?_)
    obtain ⟨⟨q, rfl⟩, d1, d2, d3, d4, d5⟩ := h
    dsimp only
    rw [bnd_eq, bnd_eq, rb_assoc]
    refine st (C_close d3 (by omega) (by omega) i3 _ _) (fun y p h => by obtain ⟨rfl, rfl⟩ := h; have hF := fl_nI (p := p) (by omega); (try dsimp only); (try simp only [bnd_eq, S_open (k := 48) hF (by decide), S_open (k := 160) hF (by decide), S_open (k := 161) hF (by decide), S_open (k := 162) hF (by decide), S_open (k := 163) hF (by decide), S_ent (k := 128) hF (by decide), S_ent (k := 130) hF (by decide), S_bytes hF, S_hash hF, S_int hF, S_code hF, S_sig hF, S_time hF, S_close hF, S_endText hF, S_more hF, S_sort hF, Option.bind_some]); exact ok.s ⟨by omega, rfl⟩) (fun y _ a4 i4 h => ?_)
    obtain ⟨rfl, rfl, rfl, e1⟩ := h
    dsimp only
    rw [pk_us, rb_inr]
    refine st (C_close (by omega) (by omega) (by omega) i4 _ _) (fun y p h => by obtain ⟨rfl, rfl⟩ := h; exact ok.s ⟨by omega, rfl⟩) (fun y _ a5 i5 h => ?_)
    obtain ⟨rfl, rfl, rfl, k1⟩ := h
    dsimp only
    rw [bnd_eq, pk_un (by omega), hO0, k1]
    exact ok.s ⟨⟨_, _, _, _, _, rfl, ⟨rfl, Or.inr rfl⟩, fun j hj => pk_un (by omega)⟩, by simp only; omega, by first | rfl | exact k1 | omega⟩
abbrev XcY := Int32 × Int64 × Int32 × Int32 × Int32 × Int32 × Int32 × Int32 × Int64 × Int32 × Int64 × Int64 × Int32 × Int32 × Int32 × Int32 × Int32 × Int32 × (Nat → Int32) × Int32 × Int32
def CcG (f : Nat → Int32) (ce : Option CT) (hc : Int32) (c_flags : Int32) (c_from : Int64) (c_innerEnd : Int32) (c_innerPlace : Int32) (c_issuerPlace : Int32) (c_issuerSize : Int32) (c_namePlace : Int32) (c_nameSize : Int32) (c_publicKey : Int64) (c_serial : Int32) (c_signature : Int64) (c_to : Int64) : Prop := match ce with
  | none => hc = 0
  | some v => hc = 1 ∧ c_flags = v.2.2.2.2.2.2.2.2.2.2.1.toInt32 ∧ c_from = v.2.2.2.2.2.2.2.1 ∧ c_innerEnd = nI v.2.1 ∧ c_innerPlace = nI v.1 ∧ c_issuerPlace = nI v.2.2.2.1 ∧ c_issuerSize = nI (v.2.2.2.2.1 - v.2.2.2.1) ∧ c_namePlace = nI v.2.2.2.2.2.1 ∧ c_nameSize = nI (v.2.2.2.2.2.2.1 - v.2.2.2.2.2.1) ∧ c_publicKey = v.2.2.2.2.2.2.2.2.2.1 ∧ c_serial = v.2.2.1.toInt32 ∧ c_signature = nb f 0 v.2.2.2.2.2.2.2.2.2.2.2 9 ∧ c_to = v.2.2.2.2.2.2.2.2.1 ∧ f v.2.2.2.2.2.2.2.2.2.2.2 = 0
def XcS (f : Nat → Int32) (d e : Nat) (O : Nat → Int32) (a : Nat) (v : Option CT) (a' : Nat) (i' : Int32) (y : XcY) : Prop := (∃ (c_flags : Int32) (c_from : Int64) (c_innerEnd : Int32) (c_innerPlace : Int32) (c_issuerPlace : Int32) (c_issuerSize : Int32) (c_namePlace : Int32) (c_nameSize : Int32) (c_publicKey : Int64) (c_serial : Int32) (c_signature : Int64) (c_to : Int64) (hc : Int32) (O' : Nat → Int32) (q r : Int32), y = (c_flags, c_from, c_innerEnd, c_innerPlace, c_issuerPlace, c_issuerSize, c_namePlace, c_nameSize, c_publicKey, c_serial, c_signature, c_to, hc, nI a', nI d, nI e, -1, i', O', q, r) ∧ CcG f v hc c_flags c_from c_innerEnd c_innerPlace c_issuerPlace c_issuerSize c_namePlace c_nameSize c_publicKey c_serial c_signature c_to ∧ (∀ j, j < d → O' j = O j)) ∧ a ≤ a' ∧ a' ≤ e
theorem S_cer {F : Int32} (hF : ¬ F = -1) (c_flags : Int32) (c_from : Int64) (c_innerEnd : Int32) (c_innerPlace : Int32) (c_issuerPlace : Int32) (c_issuerSize : Int32) (c_namePlace : Int32) (c_nameSize : Int32) (c_publicKey : Int64) (c_serial : Int32) (c_signature : Int64) (c_to : Int64) (hc at' d e i pl sz : Int32) (f O : Nat → Int32) (n : Nat) : ok (f_an_readCert c_flags c_from c_innerEnd c_innerPlace c_issuerPlace c_issuerSize c_namePlace c_nameSize c_publicKey c_serial c_signature c_to hc at' f d e F i O pl sz n) (fun y => y.2.2.2.2.2.2.2.2.2.2.2.2.2.2.2.2.1 = F) := by
  unfold f_an_readCert
  rw [S_more hF, Option.bind_some, chk_t nbf0, if_pos rfl]
  exact ok.s rfl
theorem C_cer {f : Nat → Int32} (hB : ∀ j, isb (f j)) {a e d : Nat} {O : Nat → Int32} (hae : a ≤ e) (he : e ≤ 1500) (hd : d < 10) (c_flags : Int32) (c_from : Int64) (c_innerEnd : Int32) (c_innerPlace : Int32) (c_issuerPlace : Int32) (c_issuerSize : Int32) (c_namePlace : Int32) (c_nameSize : Int32) (c_publicKey : Int64) (c_serial : Int32) (c_signature : Int64) (c_to : Int64) (hc i pl sz : Int32) : ok (f_an_readCert c_flags c_from c_innerEnd c_innerPlace c_issuerPlace c_issuerSize c_namePlace c_nameSize c_publicKey c_serial c_signature c_to hc (nI a) f (nI d) (nI e) (-1) i O pl sz 1500) (ro (XcS f d e O a) (fun p y => p ≤ 1500 ∧ y.2.2.2.2.2.2.2.2.2.2.2.2.2.2.2.2.1 = nI p) (s_cer f e a i)) := by
  unfold f_an_readCert s_cer
  rw [C_more hae he, Option.bind_some]
  by_cases hq : a = e
  · rw [if_pos hq, if_pos hq, chk_t nbf0, if_pos (show (0 : Int32) = 0 from rfl)]
    exact ok.s ⟨⟨_, _, _, _, _, _, _, _, _, _, _, _, _, _, _, _, rfl, rfl, fun j hj => rfl⟩, Nat.le_refl _, hae⟩
  · rw [if_neg hq, if_neg hq, chk_t nbf1, if_neg (show ¬ (1 : Int32) = 0 by decide)]
    refine st (C_open hae he (by decide) (by omega) i pl sz) (fun y p h => ?_) (fun y w a1 i1 h => ?_)
    · obtain ⟨⟨at', q0, r0, rfl⟩, rfl⟩ := h
      have hF := fl_nI (p := p) (by omega)
      dsimp only
      refine ok.b (S_cert hF _ _ _ _ _ _ _ _ _ _ _ _ _ _ _ _ _ _ _ _ _) (fun y hy => ?_)
      obtain ⟨x1, x2, x3, x4, x5, x6, x7, x8, x9, x10, x11, x12, x13, x14, x15, F1, x17, x18, x19, x20⟩ := y
      dsimp only at hy ⊢
      subst hy
      rw [S_close hF, Option.bind_some]
      exact ok.s ⟨by omega, rfl⟩
    obtain ⟨⟨q, r, rfl⟩, b1, b2, b3⟩ := h
    dsimp only
    refine st (C_cert hB b2 (by omega) (by omega) _ _ _ _ _ _ _ _ _ _ _ _ _ _ _) (fun y p h => ?_) (fun y v a2 i2 h => ?_)
    · obtain ⟨x1, x2, x3, x4, x5, x6, x7, x8, x9, x10, x11, x12, x13, x14, x15, F1, x17, x18, x19, x20⟩ := y
      obtain ⟨hp, hy⟩ := h
      dsimp only at hy ⊢
      subst hy
      have hF := fl_nI (p := p) (by omega)
      rw [S_close hF, Option.bind_some]
      exact ok.s ⟨hp, rfl⟩
    obtain ⟨⟨q, r, O1, rfl, c1⟩, c2, c3, c4⟩ := h
    dsimp only
    refine st (C_close c3 (by omega) (by omega) i2 _ _) (fun y p h => by obtain ⟨rfl, rfl⟩ := h; exact ok.s ⟨by omega, rfl⟩) (fun y _ a3 i3 h => ?_)
    obtain ⟨rfl, rfl, rfl, r1⟩ := h
    dsimp only
    rw [c1 d (by omega), pk_us]
    exact ok.s ⟨⟨_, _, _, _, _, _, _, _, _, _, _, _, _, _, _, _, rfl, ⟨rfl, rfl, rfl, rfl, rfl, rfl, rfl, rfl, rfl, rfl, rfl, rfl, rfl, c4⟩, fun j hj => by rw [c1 j (by omega), pk_un (by omega)]⟩, by simp only; omega, by simp only; omega⟩
