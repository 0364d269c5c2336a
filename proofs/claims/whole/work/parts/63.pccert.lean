/-! PURE 13: ids, certificates, states, as the class reads them -/
theorem add_ok {c : Nat} (hc : c < 8) (KH NH : Nat → Int64) (SE : Nat → Int32) (h1 h2 : Int64) (s : Int32) : f_id_add (nI c) KH NH SE h1 h2 s = some (nI (c + 1), vp_updL KH c h2, vp_updL NH c h1, upd SE c s) := by
  have hb8 : ¬ (nI c < 0 ∨ 8 ≤ c) := by rintro (q | q); exact nI_pos (by omega) q; omega
  unfold f_id_add
  rw [if_neg (show ¬ (8 : Int32) ≤ nI c from nI_ge (b := 8) hc (by decide)), nI_clamp (by omega), chk_t hb8, bnd_eq, chk_t hb8, bnd_eq, chk_t hb8, bnd_eq, bnd_eq, nI_1]
theorem add_8 (KH NH : Nat → Int64) (SE : Nat → Int32) (h1 h2 : Int64) (s : Int32) : f_id_add (nI 8) KH NH SE h1 h2 s = some (nI 8, KH, NH, SE) := if_pos (by decide)
theorem add_le {c : Nat} (hc : c ≤ 8) (KH NH : Nat → Int64) (SE : Nat → Int32) (h1 h2 : Int64) (s : Int32) : ok (f_id_add (nI c) KH NH SE h1 h2 s) (fun y => ∃ c', c' ≤ 8 ∧ y.1 = nI c') := by
  by_cases h : c < 8
  · exact ok.e (add_ok h KH NH SE h1 h2 s) ⟨c + 1, by omega, rfl⟩
  · rw [show c = 8 by omega]
    exact ok.e (add_8 KH NH SE h1 h2 s) ⟨8, Nat.le_refl _, rfl⟩
abbrev IdY := Int32 × (Nat → Int64) × (Nat → Int64) × (Nat → Int32) × Int32 × Int32 × Int32 × Int32 × Int32 × (Nat → Int32) × Int32 × Int32
def IdB (p : Nat) (y : IdY) : Prop := p ≤ 1500 ∧ y.2.2.2.2.2.2.2.1 = nI p ∧ ∃ c', c' ≤ 8 ∧ y.1 = nI c'
theorem S_id {c : Nat} (hc : c ≤ 8) {F : Int32} (hF : ¬ F = -1) (KH NH : Nat → Int64) (SE : Nat → Int32) (at' d e i pl sz : Int32) (f O : Nat → Int32) (n : Nat) : ok (f_id_read (nI c) KH NH SE at' f d e F i O pl sz n) (fun y => y.2.2.2.2.2.2.2.1 = F ∧ ∃ c', c' ≤ 8 ∧ y.1 = nI c') := by
  unfold f_id_read
  (try dsimp only); simp only [bnd_eq, S_open (k := 48) hF (by decide), S_open (k := 160) hF (by decide), S_open (k := 161) hF (by decide), S_open (k := 162) hF (by decide), S_open (k := 163) hF (by decide), S_ent (k := 128) hF (by decide), S_ent (k := 130) hF (by decide), S_bytes hF, S_hash hF, S_int hF, S_code hF, S_sig hF, S_time hF, S_close hF, S_endText hF, S_more hF, S_sort hF, Option.bind_some]
  exact ok.b (add_le hc KH NH SE _ _ _) (fun y h => ok.s ⟨rfl, h⟩)
theorem C_id {f : Nat → Int32} {a e c d : Nat} {O : Nat → Int32} (hae : a ≤ e) (he : e ≤ 1500) (hc : c < 8) (hd : d < 12) (i pl sz : Int32) (KH NH : Nat → Int64) (SE : Nat → Int32) : ok (f_id_read (nI c) KH NH SE (nI a) f (nI d) (nI e) (-1) i O pl sz 1500) (ro (fun v a' i' y => (∃ q r, y = (nI (c + 1), vp_updL KH c (nb f 0 v.2.1 8), vp_updL NH c (nb f 0 v.1 8), upd SE c v.2.2.toInt32, nI a', nI d, nI e, -1, i', upd O d (nI e), q, r)) ∧ a ≤ a' ∧ a' ≤ e ∧ idb e v) IdB (s_id f e a i)) := by
  unfold f_id_read s_id
  have fin : ∀ {p : Nat} {x1 x2 : Int64} {x3 x4 x5 x6 x8 x9 x10 x11 : Int32} {O' : Nat → Int32}, p ≤ 1500 → ok ((f_id_add (nI c) KH NH SE x1 x2 x3).bind fun y_9 => some (y_9.1, y_9.2.1, y_9.2.2.1, y_9.2.2.2, x4, x5, x6, nI p, x9, O', x10, x11)) (IdB p) := fun hp => by
    rw [add_ok hc]
    exact ok.s ⟨hp, rfl, c + 1, by omega, rfl⟩
  refine st (C_open hae he (by decide) hd i pl sz) (fun y p h => by obtain ⟨⟨at', q0, r0, rfl⟩, rfl⟩ := h; have hF := fl_nI (p := p) (by omega); (try dsimp only); simp only [bnd_eq, S_open (k := 48) hF (by decide), S_open (k := 160) hF (by decide), S_open (k := 161) hF (by decide), S_open (k := 162) hF (by decide), S_open (k := 163) hF (by decide), S_ent (k := 128) hF (by decide), S_ent (k := 130) hF (by decide), S_bytes hF, S_hash hF, S_int hF, S_code hF, S_sig hF, S_time hF, S_close hF, S_endText hF, S_more hF, S_sort hF, Option.bind_some]; exact fin (x8 := 0) (by omega)) (fun y z a1 i1 h => ?_)
  obtain ⟨⟨q, r, rfl⟩, b1, b2, b3⟩ := h
  dsimp only
  refine st (C_hash b2 (by omega) _ _ _) (fun y p h => by obtain ⟨⟨x0, at', q0, r0, rfl⟩, rfl⟩ := h; have hF := fl_nI (p := p) (by omega); (try dsimp only); simp only [bnd_eq, S_open (k := 48) hF (by decide), S_open (k := 160) hF (by decide), S_open (k := 161) hF (by decide), S_open (k := 162) hF (by decide), S_open (k := 163) hF (by decide), S_ent (k := 128) hF (by decide), S_ent (k := 130) hF (by decide), S_bytes hF, S_hash hF, S_int hF, S_code hF, S_sig hF, S_time hF, S_close hF, S_endText hF, S_more hF, S_sort hF, Option.bind_some]; exact fin (x8 := 0) (by omega)) (fun y n a2 i2 h => ?_)
  obtain ⟨⟨q, r, rfl⟩, c1, c2, c3⟩ := h
  dsimp only
  rw [bnd_eq]
  refine st (C_hash c3 (by omega) _ _ _) (fun y p h => by obtain ⟨⟨x0, at', q0, r0, rfl⟩, rfl⟩ := h; have hF := fl_nI (p := p) (by omega); (try dsimp only); simp only [bnd_eq, S_open (k := 48) hF (by decide), S_open (k := 160) hF (by decide), S_open (k := 161) hF (by decide), S_open (k := 162) hF (by decide), S_open (k := 163) hF (by decide), S_ent (k := 128) hF (by decide), S_ent (k := 130) hF (by decide), S_bytes hF, S_hash hF, S_int hF, S_code hF, S_sig hF, S_time hF, S_close hF, S_endText hF, S_more hF, S_sort hF, Option.bind_some]; exact fin (x8 := 0) (by omega)) (fun y k a3 i3 h => ?_)
  obtain ⟨⟨q, r, rfl⟩, d1, d2, d3⟩ := h
  dsimp only
  rw [bnd_eq]
  refine st (C_int d3 (by omega) _ _ _) (fun y p h => by obtain ⟨⟨x0, at', i0, q0, r0, rfl⟩, rfl⟩ := h; have hF := fl_nI (p := p) (by omega); (try dsimp only); simp only [bnd_eq, S_open (k := 48) hF (by decide), S_open (k := 160) hF (by decide), S_open (k := 161) hF (by decide), S_open (k := 162) hF (by decide), S_open (k := 163) hF (by decide), S_ent (k := 128) hF (by decide), S_ent (k := 130) hF (by decide), S_bytes hF, S_hash hF, S_int hF, S_code hF, S_sig hF, S_time hF, S_close hF, S_endText hF, S_more hF, S_sort hF, Option.bind_some]; exact fin (x8 := 0) (by omega)) (fun y v a4 i4 h => ?_)
  obtain ⟨⟨q, r, rfl⟩, e1, e2, e3, e4⟩ := h
  dsimp only
  rw [bnd_eq]
  refine st (C_close e2 (by omega) hd i4 _ _) (fun y p h => by obtain ⟨rfl, rfl⟩ := h; dsimp only; exact fin (x8 := 0) (by omega)) (fun y _ a5 i5 h => ?_)
  obtain ⟨rfl, rfl, rfl, g⟩ := h
  dsimp only
  rw [add_ok hc, pk_us]
  exact ok.s ⟨⟨_, _, rfl⟩, by simp only; omega, by simp only; omega, by simp only; omega, by simp only; omega, e3, e4⟩
abbrev CeY := Int32 × Int64 × Int32 × Int32 × Int32 × Int32 × Int32 × Int32 × Int64 × Int32 × Int64 × Int64 × Int32 × Int32 × Int32 × Int32 × Int32 × (Nat → Int32) × Int32 × Int32
def CeB (p : Nat) (y : CeY) : Prop := p ≤ 1500 ∧ y.2.2.2.2.2.2.2.2.2.2.2.2.2.2.2.1 = nI p
def CeS (f : Nat → Int32) (d e : Nat) (O : Nat → Int32) (a : Nat) (v : CT) (a' : Nat) (i' : Int32) (y : CeY) : Prop := (∃ q r O', y = (v.2.2.2.2.2.2.2.2.2.2.1.toInt32, v.2.2.2.2.2.2.2.1, nI v.2.1, nI v.1, nI v.2.2.2.1, nI (v.2.2.2.2.1 - v.2.2.2.1), nI v.2.2.2.2.2.1, nI (v.2.2.2.2.2.2.1 - v.2.2.2.2.2.1), v.2.2.2.2.2.2.2.2.2.1, v.2.2.1.toInt32, nb f 0 v.2.2.2.2.2.2.2.2.2.2.2 9, v.2.2.2.2.2.2.2.2.1, nI a', nI d, nI e, -1, i', O', q, r) ∧ (∀ j, j < d → O' j = O j)) ∧ a ≤ a' ∧ a' ≤ e ∧ f v.2.2.2.2.2.2.2.2.2.2.2 = 0
theorem C_cert {f : Nat → Int32} (hB : ∀ j, isb (f j)) {a e d : Nat} {O : Nat → Int32} (hae : a ≤ e) (he : e ≤ 1500) (hd : d < 11) (i pl sz : Int32) (g1 : Int32) (g2 : Int64) (g3 g4 g5 g6 g7 g8 : Int32) (g9 : Int64) (g10 : Int32) (g11 g12 : Int64) : ok (f_ce_read g1 g2 g3 g4 g5 g6 g7 g8 g9 g10 g11 g12 (nI a) f (nI d) (nI e) (-1) i O pl sz 1500) (ro (CeS f d e O a) CeB (s_cert f e a i)) := by
  unfold f_ce_read s_cert
  refine st (C_open hae he (by decide) (by omega) i pl sz) (fun y p h => by obtain ⟨⟨at', q0, r0, rfl⟩, rfl⟩ := h; have hF := fl_nI (p := p) (by omega); (try dsimp only); simp only [bnd_eq, S_open (k := 48) hF (by decide), S_open (k := 160) hF (by decide), S_open (k := 161) hF (by decide), S_open (k := 162) hF (by decide), S_open (k := 163) hF (by decide), S_ent (k := 128) hF (by decide), S_ent (k := 130) hF (by decide), S_bytes hF, S_hash hF, S_int hF, S_code hF, S_sig hF, S_time hF, S_close hF, S_endText hF, S_more hF, S_sort hF, Option.bind_some]; exact ok.s ⟨by omega, rfl⟩) (fun y z1 a1 i1 h => ?_)
  obtain ⟨⟨q, r, rfl⟩, b1, b2, b3⟩ := h
  dsimp only
  rw [bnd_eq]
  refine st (C_open b2 (by omega) (by decide) (by omega) _ _ _) (fun y p h => by obtain ⟨⟨at', q0, r0, rfl⟩, rfl⟩ := h; have hF := fl_nI (p := p) (by omega); (try dsimp only); simp only [bnd_eq, S_open (k := 48) hF (by decide), S_open (k := 160) hF (by decide), S_open (k := 161) hF (by decide), S_open (k := 162) hF (by decide), S_open (k := 163) hF (by decide), S_ent (k := 128) hF (by decide), S_ent (k := 130) hF (by decide), S_bytes hF, S_hash hF, S_int hF, S_code hF, S_sig hF, S_time hF, S_close hF, S_endText hF, S_more hF, S_sort hF, Option.bind_some]; exact ok.s ⟨by omega, rfl⟩) (fun y z2 a2 i2 h => ?_)
  obtain ⟨⟨q, r, rfl⟩, c1, c2, c3⟩ := h
  dsimp only
  refine st (C_int c2 (by omega) _ _ _) (fun y p h => by obtain ⟨⟨x0, at', i0, q0, r0, rfl⟩, rfl⟩ := h; have hF := fl_nI (p := p) (by omega); (try dsimp only); simp only [bnd_eq, S_open (k := 48) hF (by decide), S_open (k := 160) hF (by decide), S_open (k := 161) hF (by decide), S_open (k := 162) hF (by decide), S_open (k := 163) hF (by decide), S_ent (k := 128) hF (by decide), S_ent (k := 130) hF (by decide), S_bytes hF, S_hash hF, S_int hF, S_code hF, S_sig hF, S_time hF, S_close hF, S_endText hF, S_more hF, S_sort hF, Option.bind_some]; exact ok.s ⟨by omega, rfl⟩) (fun y sv a3 i3 h => ?_)
  obtain ⟨⟨q, r, rfl⟩, d1, d2, d3, d4⟩ := h
  dsimp only
  rw [bnd_eq]
  refine st (C_bytes (lo := 1) (hi := 16) d2 (by omega) (by decide) (by decide) _ _ _) (fun y p h => by obtain ⟨⟨x0, at', q0, r0, rfl⟩, rfl⟩ := h; have hF := fl_nI (p := p) (by omega); (try dsimp only); simp only [bnd_eq, S_open (k := 48) hF (by decide), S_open (k := 160) hF (by decide), S_open (k := 161) hF (by decide), S_open (k := 162) hF (by decide), S_open (k := 163) hF (by decide), S_ent (k := 128) hF (by decide), S_ent (k := 130) hF (by decide), S_bytes hF, S_hash hF, S_int hF, S_code hF, S_sig hF, S_time hF, S_close hF, S_endText hF, S_more hF, S_sort hF, Option.bind_some]; exact ok.s ⟨by omega, rfl⟩) (fun y q1 a4 i4 h => ?_)
  obtain ⟨⟨q, rfl⟩, e1, e2, e3, e4, e5⟩ := h
  dsimp only
  rw [bnd_eq, bnd_eq]
  refine st (C_bytes (lo := 1) (hi := 16) e3 (by omega) (by decide) (by decide) _ _ _) (fun y p h => by obtain ⟨⟨x0, at', q0, r0, rfl⟩, rfl⟩ := h; have hF := fl_nI (p := p) (by omega); (try dsimp only); simp only [bnd_eq, S_open (k := 48) hF (by decide), S_open (k := 160) hF (by decide), S_open (k := 161) hF (by decide), S_open (k := 162) hF (by decide), S_open (k := 163) hF (by decide), S_ent (k := 128) hF (by decide), S_ent (k := 130) hF (by decide), S_bytes hF, S_hash hF, S_int hF, S_code hF, S_sig hF, S_time hF, S_close hF, S_endText hF, S_more hF, S_sort hF, Option.bind_some]; exact ok.s ⟨by omega, rfl⟩) (fun y q2 a5 i5 h => ?_)
  obtain ⟨⟨q, rfl⟩, f1, f2, f3, f4, f5⟩ := h
  dsimp only
  rw [bnd_eq, bnd_eq]
  refine st (C_time hB f3 (by omega) _ _ _) (fun y p h => by obtain ⟨⟨x0, at', i0, q0, r0, rfl⟩, rfl⟩ := h; have hF := fl_nI (p := p) (by omega); (try dsimp only); simp only [bnd_eq, S_open (k := 48) hF (by decide), S_open (k := 160) hF (by decide), S_open (k := 161) hF (by decide), S_open (k := 162) hF (by decide), S_open (k := 163) hF (by decide), S_ent (k := 128) hF (by decide), S_ent (k := 130) hF (by decide), S_bytes hF, S_hash hF, S_int hF, S_code hF, S_sig hF, S_time hF, S_close hF, S_endText hF, S_more hF, S_sort hF, Option.bind_some]; exact ok.s ⟨by omega, rfl⟩) (fun y t1 a6 i6 h => ?_)
  obtain ⟨⟨q, r, rfl⟩, k1, k2, k3⟩ := h
  dsimp only
  rw [bnd_eq]
  refine st (C_time hB k2 (by omega) _ _ _) (fun y p h => by obtain ⟨⟨x0, at', i0, q0, r0, rfl⟩, rfl⟩ := h; have hF := fl_nI (p := p) (by omega); (try dsimp only); simp only [bnd_eq, S_open (k := 48) hF (by decide), S_open (k := 160) hF (by decide), S_open (k := 161) hF (by decide), S_open (k := 162) hF (by decide), S_open (k := 163) hF (by decide), S_ent (k := 128) hF (by decide), S_ent (k := 130) hF (by decide), S_bytes hF, S_hash hF, S_int hF, S_code hF, S_sig hF, S_time hF, S_close hF, S_endText hF, S_more hF, S_sort hF, Option.bind_some]; exact ok.s ⟨by omega, rfl⟩) (fun y t2 a7 i7 h => ?_)
  obtain ⟨⟨q, r, rfl⟩, l1, l2, l3⟩ := h
  dsimp only
  rw [bnd_eq]
  refine st (C_int l2 (by omega) _ _ _) (fun y p h => by obtain ⟨⟨x0, at', i0, q0, r0, rfl⟩, rfl⟩ := h; have hF := fl_nI (p := p) (by omega); (try dsimp only); simp only [bnd_eq, S_open (k := 48) hF (by decide), S_open (k := 160) hF (by decide), S_open (k := 161) hF (by decide), S_open (k := 162) hF (by decide), S_open (k := 163) hF (by decide), S_ent (k := 128) hF (by decide), S_ent (k := 130) hF (by decide), S_bytes hF, S_hash hF, S_int hF, S_code hF, S_sig hF, S_time hF, S_close hF, S_endText hF, S_more hF, S_sort hF, Option.bind_some]; exact ok.s ⟨by omega, rfl⟩) (fun y kv a8 i8 h => ?_)
  obtain ⟨⟨q, r, rfl⟩, m1, m2, m3, m4⟩ := h
  dsimp only
  rw [bnd_eq]
  refine st (C_int m2 (by omega) _ _ _) (fun y p h => by obtain ⟨⟨x0, at', i0, q0, r0, rfl⟩, rfl⟩ := h; have hF := fl_nI (p := p) (by omega); (try dsimp only); simp only [bnd_eq, S_open (k := 48) hF (by decide), S_open (k := 160) hF (by decide), S_open (k := 161) hF (by decide), S_open (k := 162) hF (by decide), S_open (k := 163) hF (by decide), S_ent (k := 128) hF (by decide), S_ent (k := 130) hF (by decide), S_bytes hF, S_hash hF, S_int hF, S_code hF, S_sig hF, S_time hF, S_close hF, S_endText hF, S_more hF, S_sort hF, Option.bind_some]; exact ok.s ⟨by omega, rfl⟩) (fun y fv a9 i9 h => ?_)
  obtain ⟨⟨q, r, rfl⟩, n1, n2, n3, n4⟩ := h
  dsimp only
  rw [bnd_eq]
  refine st (C_close n2 (by omega) (by omega) i9 _ _) (fun y p h => by obtain ⟨rfl, rfl⟩ := h; have hF := fl_nI (p := p) (by omega); (try dsimp only); simp only [bnd_eq, S_open (k := 48) hF (by decide), S_open (k := 160) hF (by decide), S_open (k := 161) hF (by decide), S_open (k := 162) hF (by decide), S_open (k := 163) hF (by decide), S_ent (k := 128) hF (by decide), S_ent (k := 130) hF (by decide), S_bytes hF, S_hash hF, S_int hF, S_code hF, S_sig hF, S_time hF, S_close hF, S_endText hF, S_more hF, S_sort hF, Option.bind_some]; exact ok.s ⟨by omega, rfl⟩) (fun y _ a10 i10 h => ?_)
  obtain ⟨rfl, rfl, rfl, o1⟩ := h
  dsimp only
  rw [bnd_eq, pk_us]
  refine st (C_sig (by omega) (by omega) _ _ _) (fun y p h => by obtain ⟨⟨x0, at', i0, q0, r0, rfl⟩, rfl⟩ := h; have hF := fl_nI (p := p) (by omega); (try dsimp only); simp only [bnd_eq, S_open (k := 48) hF (by decide), S_open (k := 160) hF (by decide), S_open (k := 161) hF (by decide), S_open (k := 162) hF (by decide), S_open (k := 163) hF (by decide), S_ent (k := 128) hF (by decide), S_ent (k := 130) hF (by decide), S_bytes hF, S_hash hF, S_int hF, S_code hF, S_sig hF, S_time hF, S_close hF, S_endText hF, S_more hF, S_sort hF, Option.bind_some]; exact ok.s ⟨by omega, rfl⟩) (fun y sx a11 i11 h => ?_)
  obtain ⟨⟨q, r, rfl⟩, p0, p1, p2, p3⟩ := h
  dsimp only
  rw [bnd_eq]
  refine st (C_close p3 (by omega) (by omega) i11 _ _) (fun y p h => by obtain ⟨rfl, rfl⟩ := h; exact ok.s ⟨by omega, rfl⟩) (fun y _ a12 i12 h => ?_)
  obtain ⟨rfl, rfl, rfl, r1⟩ := h
  dsimp only
  rw [pk_un (by omega), pk_us]
  subst o1
  exact ok.s ⟨⟨_, _, _, rfl, fun j hj => by rw [pk_un (by omega), pk_un (by omega)]⟩, by simp only; omega, by simp only; omega, p0⟩
theorem S_cert {F : Int32} (hF : ¬ F = -1) (g1 : Int32) (g2 : Int64) (g3 g4 g5 g6 g7 g8 : Int32) (g9 : Int64) (g10 : Int32) (g11 g12 : Int64) (at' d e i pl sz : Int32) (f O : Nat → Int32) (n : Nat) : ok (f_ce_read g1 g2 g3 g4 g5 g6 g7 g8 g9 g10 g11 g12 at' f d e F i O pl sz n) (fun y => y.2.2.2.2.2.2.2.2.2.2.2.2.2.2.2.1 = F) := by
  unfold f_ce_read
  (try dsimp only); simp only [bnd_eq, S_open (k := 48) hF (by decide), S_open (k := 160) hF (by decide), S_open (k := 161) hF (by decide), S_open (k := 162) hF (by decide), S_open (k := 163) hF (by decide), S_ent (k := 128) hF (by decide), S_ent (k := 130) hF (by decide), S_bytes hF, S_hash hF, S_int hF, S_code hF, S_sig hF, S_time hF, S_close hF, S_endText hF, S_more hF, S_sort hF, Option.bind_some]
  exact ok.s rfl
