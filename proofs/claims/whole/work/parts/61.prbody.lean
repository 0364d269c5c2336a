/-! PURE 11: singles, the teller, the body, as the reference reads them -/
abbrev SG := (Nat × Nat × Int64) × (Nat × Int64 × Int32) × Int64 × Int64
noncomputable def s_single (f : Nat → Int32) (e a : Nat) (i : Int32) : Rs SG :=
  rb (p_ent f 48 0 1500 e a i) fun z a1 i1 => rb (s_id f z a1 i1) fun d a2 i2 => rb (s_state f z a2 i2) fun s a3 i3 => rb (p_time f z a3 i3) fun t a4 i4 => if a4 = z then .inr ((d, s, t, -1), a4, i4) else rb (p_ent f 160 0 1500 z a4 i4) fun w a5 i5 => rb (p_time f w a5 i5) fun t2 a6 i6 => rb (p_ends w a6 i6) fun _ a7 i7 => rb (p_ends z a7 i7) fun _ a8 i8 => .inr ((d, s, t, t2), a8, i8)
def BR (m : Nat) (N K : Nat → Int32) (S : Nat → Int64) (T : Nat → Int32) (W : Nat → Int64) (Y : Nat → Int32) (F La : Nat → Int64) (L : List SG) : Prop := ∀ j v, L[j]? = some v → (N j = nI v.1.1 ∧ K j = nI v.1.2.1 ∧ S j = v.1.2.2 ∧ idb m v.1) ∧ T j = nI v.2.1.1 ∧ W j = v.2.1.2.1 ∧ Y j = v.2.1.2.2 ∧ F j = v.2.2.1 ∧ La j = v.2.2.2 ∧ 1 ≤ v.2.1.1 ∧ v.2.1.1 ≤ 3
theorem BR_snoc {m : Nat} {N K : Nat → Int32} {S : Nat → Int64} {T : Nat → Int32} {W : Nat → Int64} {Y : Nat → Int32} {F La : Nat → Int64} {L : List SG} {v : SG} {W1 : Nat → Int64} {Y1 : Nat → Int32} {F1 La1 : Nat → Int64} (h : BR m N K S T W Y F La L) (hv : idb m v.1) (h1 : 1 ≤ v.2.1.1) (h3 : v.2.1.1 ≤ 3) (hW : W1 L.length = v.2.1.2.1) (hY : Y1 L.length = v.2.1.2.2) (hF : F1 L.length = v.2.2.1) (hLa : La1 L.length = v.2.2.2) (hO : ∀ j, j ≠ L.length → W1 j = W j ∧ Y1 j = Y j ∧ F1 j = F j ∧ La1 j = La j) : BR m (upd N L.length (nI v.1.1)) (upd K L.length (nI v.1.2.1)) (vp_updL S L.length v.1.2.2) (upd T L.length (nI v.2.1.1)) W1 Y1 F1 La1 (L ++ [v]) := by
  intro j d hd
  rcases snoc_get hd with ⟨g1, g2⟩ | ⟨rfl, rfl⟩
  · obtain ⟨o1, o2, o3, o4⟩ := hO j g1
    rw [pk_un g1, pk_un g1, pk_uLn g1, pk_un g1, o1, o2, o3, o4]
    exact h j d g2
  · rw [pk_us, pk_us, pk_uLs, pk_us]
    exact ⟨⟨rfl, rfl, rfl, hv⟩, rfl, hW, hY, hF, hLa, h1, h3⟩
def SinG (m : Nat) (fa : Int32) (e a : Nat) (N K : Nat → Int32) (S : Nat → Int64) (T : Nat → Int32) (W : Nat → Int64) (Y : Nat → Int32) (F La : Nat → Int64) (L : List SG) (v : SG) (a' : Nat) (i' : Int32) (y : Int32 × Int32 × Int32 × Int32 × Int32 × Int32 × Int32 × Int32 × Int64 × Int32 × (Nat → Int32) × (Nat → Int32) × (Nat → Int64) × (Nat → Int32) × (Nat → Int64) × (Nat → Int32) × (Nat → Int64) × (Nat → Int64)) : Prop :=
  (∃ x1 x2 x3 x4 x5 N1 K1 S1 T1 W1 Y1 F1 L1, y = (1, nI a', i', fa, x1, x2, x3, x4, x5, nI (L.length + 1), N1, K1, S1, T1, W1, Y1, F1, L1) ∧ BR m N1 K1 S1 T1 W1 Y1 F1 L1 (L ++ [v])) ∧ a ≤ a' ∧ a' ≤ e
theorem R_single {f : Nat → Int32} {a e m : Nat} (hB : ∀ j, isb (f j)) (hae : a ≤ e) (he : e ≤ 1500) (hm : e ≤ m) {L : List SG} (hc : L.length < 8) {N K : Nat → Int32} {S : Nat → Int64} {T : Nat → Int32} {W : Nat → Int64} {Y : Nat → Int32} {F La : Nat → Int64} (h : BR m N K S T W Y F La L) (i fa st0 so fr to : Int32) (nu : Int64) : ok (f_readSingle f (nI a) i fa st0 so fr to nu (nI L.length) N K S T W Y F La (nI e)) (ro (SinG m fa e a N K S T W Y F La L) (fun p y => y.1 = 0 ∧ y.2.2.2.1 = nI p) (s_single f e a i)) := by
  unfold f_readSingle s_single
  have hb8 : ¬ (nI L.length < 0 ∨ 8 ≤ L.length) := by rintro (q | q); exact nI_pos (by omega) q; omega
  rw [if_neg (cnz hc)]
  refine st (R_of hae he 48 i fa st0 so fr to) (fun y p h => by rw [if_pos h.1]; exact ok.s ⟨rfl, h.2.1⟩) (fun y z a1 i1 h => ?_)
  obtain ⟨rfl, b1, b2, b3⟩ := h
  dsimp only
  rw [if_neg (by decide), bnd_eq]
  refine st (R_id b2 (by omega) hc _ _ _ _ _ _ _ N K S) (fun y p h => by rw [if_pos h.1]; exact ok.s ⟨rfl, h.2⟩) (fun y d a2 i2 h => ?_)
  obtain ⟨⟨_, _, _, _, _, rfl⟩, c1, c2, c3⟩ := h
  dsimp only
  rw [if_neg (by decide)]
  refine st (R_state hB c2 (by omega) hc _ _ _ _ _ _ _ T Y W) (fun y p h => by rw [if_pos h.1]; exact ok.s ⟨rfl, h.2⟩) (fun y s a3 i3 h => ?_)
  obtain ⟨⟨_, _, _, _, _, W1, Y1, rfl, d1, d2, d3⟩, d4, d5, d6, d7⟩ := h
  dsimp only
  rw [if_neg (by decide)]
  refine st (R_time hB d5 (by omega) _ _ _ _ _ _ _) (fun y p h => by rw [if_pos h.1]; exact ok.s ⟨rfl, h.2⟩) (fun y t a4 i4 h => ?_)
  obtain ⟨⟨_, rfl⟩, e1, e2, e3⟩ := h
  dsimp only
  rw [if_neg (by decide), nI_clamp (by omega), chk_t hb8, bnd_eq, chk_t hb8, bnd_eq]
  by_cases hz : a4 = z
  · rw [if_pos (by rw [hz]), if_pos hz]
    refine ok.s ⟨⟨_, _, _, _, _, _, _, _, _, _, _, _, _, rfl, ?_⟩, by simp only; omega, by simp only; omega⟩
    exact BR_snoc h (idb_m c3 (by omega)) d6 d7 d1 d2 pk_uLs pk_uLs (fun j hj => ⟨(d3 j hj).1, (d3 j hj).2, pk_uLn hj, pk_uLn hj⟩)
  · rw [if_neg (fun q => hz ((nI_eq (by omega) (by omega)).mp q)), if_neg hz]
    refine st (R_of e2 (by omega) 160 _ _ _ _ _ _) (fun y p h => by rw [if_pos h.1]; exact ok.s ⟨rfl, h.2.1⟩) (fun y w a5 i5 h => ?_)
    obtain ⟨rfl, k1, k2, k3⟩ := h
    dsimp only
    rw [if_neg (by decide), bnd_eq]
    refine st (R_time hB k2 (by omega) _ _ _ _ _ _ _) (fun y p h => by rw [if_pos h.1]; exact ok.s ⟨rfl, h.2⟩) (fun y t2 a6 i6 h => ?_)
    obtain ⟨⟨_, rfl⟩, l1, l2, l3⟩ := h
    dsimp only
    rw [if_neg (by decide), bnd_eq]
    refine st (R_ends l2 (by omega) i6 _) (fun y p h => by rw [if_pos h.1]; exact ok.s ⟨rfl, h.2⟩) (fun y _ a7 i7 h => ?_)
    obtain ⟨rfl, rfl, rfl, m1⟩ := h
    dsimp only
    rw [if_neg (by decide)]
    refine st (R_ends (by omega) (by omega) i7 _) (fun y p h => by rw [if_pos h.1]; exact ok.s ⟨rfl, h.2⟩) (fun y _ a8 i8 h => ?_)
    obtain ⟨rfl, rfl, rfl, n1⟩ := h
    dsimp only
    rw [if_neg (by decide)]
    refine ok.s ⟨⟨_, _, _, _, _, _, _, _, _, _, _, _, _, rfl, ?_⟩, by simp only; omega, by simp only; omega⟩
    exact BR_snoc h (idb_m c3 (by omega)) d6 d7 d1 d2 pk_uLs pk_uLs (fun j hj => ⟨(d3 j hj).1, (d3 j hj).2, pk_uLn hj, by rw [pk_uLn hj, pk_uLn hj]⟩)
def s_teller (f : Nat → Int32) (e a : Nat) (i : Int32) : Rs (Nat × Nat × Nat) :=
  if f a &&& 255 = 162 then rb (p_ent f 162 0 1500 e a i) fun z a1 i1 => rb (p_bytes f 8 8 z a1 i1) fun q a2 i2 => rb (p_ends z a2 i2) fun _ a3 i3 => .inr ((2, q, a2), a3, i3)
  else rb (p_ent f 161 0 1500 e a i) fun z a1 i1 => rb (p_bytes f 1 16 z a1 i1) fun q a2 i2 => rb (p_ends z a2 i2) fun _ a3 i3 => .inr ((1, q, a2), a3, i3)
def teb (m : Nat) (v : Nat × Nat × Nat) : Prop := v.2.2 ≤ m ∧ ((v.1 = 1 ∧ v.2.1 < v.2.2 ∧ v.2.2 - v.2.1 ≤ 16) ∨ (v.1 = 2 ∧ v.2.2 = v.2.1 + 8))
theorem teb_m {a b : Nat} {v : Nat × Nat × Nat} (h : teb a v) (hb : a ≤ b) : teb b v := ⟨Nat.le_trans h.1 hb, h.2⟩
theorem te_162 {f : Nat → Int32} {e a : Nat} {i : Int32} (h : f a &&& 255 = 162) : s_teller f e a i = rb (p_ent f 162 0 1500 e a i) fun z a1 i1 => rb (p_bytes f 8 8 z a1 i1) fun q a2 i2 => rb (p_ends z a2 i2) fun _ a3 i3 => .inr ((2, q, a2), a3, i3) := if_pos h
theorem te_161 {f : Nat → Int32} {e a : Nat} {i : Int32} (h : ¬ f a &&& 255 = 162) : s_teller f e a i = rb (p_ent f 161 0 1500 e a i) fun z a1 i1 => rb (p_bytes f 1 16 z a1 i1) fun q a2 i2 => rb (p_ends z a2 i2) fun _ a3 i3 => .inr ((1, q, a2), a3, i3) := if_neg h
theorem R_teller {f : Nat → Int32} {a e : Nat} (hae : a ≤ e) (he : e ≤ 1500) (i fa st0 so fr to g1 g2 g3 : Int32) : ok (f_readTeller f (nI a) i fa st0 so fr to g1 g2 g3 (nI e)) (ro (fun v a' i' y => (∃ x1 x2 x3 x4, y = (1, nI a', i', fa, x1, x2, x3, x4, nI v.1, nI v.2.1, nI v.2.2)) ∧ a ≤ a' ∧ a' ≤ e ∧ teb e v) (fun p y => y.1 = 0 ∧ y.2.2.2.1 = nI p) (s_teller f e a i)) := by
  unfold f_readTeller
  refine ok.b (R_item hae he i fa st0 so fr to) (fun y hy => ?_)
  unfold p_item at hy
  cases ht : it f a e with
  | none =>
    have e0 : ∀ k lo hi, p_ent f k lo hi e a i = .inl a := fun k lo hi => by
      unfold p_ent
      rw [ht]
      split <;> rfl
    have e1 : s_teller f e a i = .inl a := by
      unfold s_teller
      rw [e0, e0]
      simp only [rb_inl, ite_self]
    rw [ht] at hy
    rw [if_pos hy.1, e1]
    exact ok.s ⟨rfl, hy.2⟩
  | some p =>
    obtain ⟨x, z⟩ := p
    rw [ht] at hy
    obtain ⟨rfl, b1, b2, b3⟩ := hy
    dsimp only at *
    have hpe : ∀ k lo hi, f a &&& 255 = k → p_ent f k lo hi e a i = if lo ≤ z - x ∧ z - x ≤ hi then .inr (z, x, i + 1) else .inl a := fun k lo hi hk => by
      unfold p_ent
      rw [if_pos hk, ht]
    rw [if_neg (by decide)]
    unfold j_readTeller_39 j_readTeller_86
    by_cases h2 : f a &&& 255 = 162
    · rw [te_162 h2, hpe 162 0 1500 h2, h2, if_neg (show ¬ (162 : Int32) = 161 by decide), if_pos rfl, if_pos (show 0 ≤ z - x ∧ z - x ≤ 1500 by omega), rb_inr, bnd_eq, if_neg (show ¬ (162 - 160 : Int32) = 1 by decide), if_neg (show ¬ (162 - 160 : Int32) = 1 by decide)]
      refine st (R_bytes (lo := 8) (hi := 8) b2 (by omega) (by decide) (by decide) _ _ _ _ _ _) (fun y p h => by rw [if_pos h.1]; exact ok.s ⟨rfl, h.2⟩) (fun y q1 a2 i2 h => ?_)
      obtain ⟨rfl, e1, e2, e3, e4, e5⟩ := h
      dsimp only
      rw [if_neg (by decide), bnd_eq, bnd_eq]
      refine st (R_ends e3 (by omega) i2 _) (fun y p h => by rw [h.1, chk_t nb0]; exact ok.s ⟨rfl, h.2⟩) (fun y _ a12 i12 h => ?_)
      obtain ⟨rfl, rfl, rfl, r1⟩ := h
      dsimp only
      rw [chk_t nb11, show (162 - 160 : Int32) = nI 2 by decide]
      exact ok.s ⟨⟨_, _, _, _, rfl⟩, by simp only; omega, by simp only; omega, by simp only; omega, Or.inr ⟨rfl, by simp only; omega⟩⟩
    · rw [te_161 h2]
      by_cases h1 : f a &&& 255 = 161
      · rw [hpe 161 0 1500 h1, h1, if_pos rfl, if_pos (show 0 ≤ z - x ∧ z - x ≤ 1500 by omega), rb_inr, bnd_eq, if_pos (show (161 - 160 : Int32) = 1 by decide), if_pos (show (161 - 160 : Int32) = 1 by decide)]
        refine st (R_bytes (lo := 1) (hi := 16) b2 (by omega) (by decide) (by decide) _ _ _ _ _ _) (fun y p h => by rw [if_pos h.1]; exact ok.s ⟨rfl, h.2⟩) (fun y q1 a2 i2 h => ?_)
        obtain ⟨rfl, e1, e2, e3, e4, e5⟩ := h
        dsimp only
        rw [if_neg (by decide), bnd_eq, bnd_eq]
        refine st (R_ends e3 (by omega) i2 _) (fun y p h => by rw [h.1, chk_t nb0]; exact ok.s ⟨rfl, h.2⟩) (fun y _ a12 i12 h => ?_)
        obtain ⟨rfl, rfl, rfl, r1⟩ := h
        dsimp only
        rw [chk_t nb11, show (161 - 160 : Int32) = nI 1 by decide]
        exact ok.s ⟨⟨_, _, _, _, rfl⟩, by simp only; omega, by simp only; omega, by simp only; omega, Or.inl ⟨rfl, by simp only; omega, by simp only; omega⟩⟩
      · rw [if_neg h1, if_neg h2, wr_b, ent_no h1, rb_inl]
        exact ok.s ⟨rfl, rfl⟩
noncomputable def s_sings (f : Nat → Int32) (e : Nat) : Nat → Nat → Int32 → Rs (List SG)
  | 0, a, i => if a = e then .inr ([], a, i) else .inl a
  | r + 1, a, i => if a = e then .inr ([], a, i) else rb (s_single f e a i) fun d a' i' => rb (s_sings f e r a' i') fun l a2 i2 => .inr (d :: l, a2, i2)
/-- what a body has: teller, singles, nonce, its place, its end -/
abbrev BT := (Nat × Nat × Nat) × List SG × (Nat × Nat) × Nat × Nat
noncomputable def s_body (f : Nat → Int32) (e a : Nat) (i : Int32) : Rs BT :=
  rb (p_ent f 48 0 1500 e a i) fun z a1 i1 => rb (s_teller f z a1 i1) fun te a2 i2 => rb (p_time f z a2 i2) fun _ a3 i3 => rb (p_ent f 48 0 1500 z a3 i3) fun w a4 i4 => rb (s_single f w a4 i4) fun d a5 i5 => rb (s_sings f w 7 a5 i5) fun l a6 i6 => rb (s_nonce f 163 z a6 i6) fun no a7 i7 => rb (p_ends z a7 i7) fun _ a8 i8 => .inr ((te, d :: l, no, a, z), a8, i8)
abbrev Y25 := Int32 × Int32 × Int32 × Int32 × Int32 × Int32 × Int32 × Int32 × Int64 × Int32 × (Nat → Int32) × (Nat → Int32) × (Nat → Int64) × Int32 × Int32 × Int32 × Int32 × Int32 × Int32 × Int32 × (Nat → Int32) × (Nat → Int64) × (Nat → Int32) × (Nat → Int64) × (Nat → Int64)
def btb (m : Nat) (v : BT) : Prop := teb m v.1 ∧ v.2.1.length ≤ 8 ∧ nob m v.2.2.1 ∧ v.2.2.2.1 ≤ v.2.2.2.2 ∧ v.2.2.2.2 ≤ m
def BodG (m : Nat) (fa : Int32) (e a : Nat) (v : BT) (a' : Nat) (i' : Int32) (y : Y25) : Prop :=
  (∃ x1 x2 x3 x4 x5 N1 K1 S1 T1 W1 Y1 F1 L1, y = (1, nI a', i', fa, x1, x2, x3, x4, x5, nI v.2.1.length, N1, K1, S1, nI v.2.2.1.1, nI v.2.2.1.2, nI v.1.1, nI v.1.2.1, nI v.1.2.2, nI v.2.2.2.1, nI v.2.2.2.2, T1, W1, Y1, F1, L1) ∧ BR m N1 K1 S1 T1 W1 Y1 F1 L1 v.2.1) ∧ a ≤ a' ∧ a' ≤ e ∧ btb m v
theorem R_105 {f : Nat → Int32} {e a0 z a b m : Nat} {L : List SG} {te : Nat × Nat × Nat} {N K : Nat → Int32} {S : Nat → Int64} {T : Nat → Int32} {W : Nat → Int64} {Y : Nat → Int32} {F La : Nat → Int64} (he : e ≤ 1500) (hm : e ≤ m) (hz : z ≤ e) (haz : a ≤ z) (ha0 : a0 ≤ a) (hb : b ≤ z) (hL : L.length ≤ 8) (hte : teb m te) (hA : BR m N K S T W Y F La L) (i fa st0 so fr to g1 g2 : Int32) (nu : Int64) : ok (j_readBody_105 f (nI a) i fa st0 so fr to nu (nI L.length) N K S g1 g2 (nI te.1) (nI te.2.1) (nI te.2.2) (nI b) (nI z) T W Y F La 1) (ro (BodG m fa e a0) (fun p y => y.1 = 0 ∧ y.2.2.2.1 = nI p) (rb (s_nonce f 163 z a i) fun no a7 i7 => rb (p_ends z a7 i7) fun _ a8 i8 => .inr ((te, L, no, b, z), a8, i8))) := by
  unfold j_readBody_105
  rw [if_neg (by decide)]
  refine st (R_nonce haz (by omega) 163 _ _ _ _ _ _ _ _) (fun y p h => by rw [if_pos h.1]; exact ok.s ⟨rfl, h.2⟩) (fun y no a5 i5 h => ?_)
  obtain ⟨⟨_, _, _, _, rfl⟩, b1, b2, b3⟩ := h
  dsimp only
  rw [if_neg (by decide)]
  refine st (R_ends b2 (by omega) i5 _) (fun y p h => by rw [if_pos h.1]; exact ok.s ⟨rfl, h.2⟩) (fun y _ a6 i6 h => ?_)
  obtain ⟨rfl, rfl, rfl, o1⟩ := h
  dsimp only
  rw [if_neg (by decide)]
  exact ok.s ⟨⟨_, _, _, _, _, _, _, _, _, _, _, _, _, rfl, hA⟩, by simp only; omega, by simp only; omega, hte, hL, nob_m b3 (by omega), hb, by simp only; omega⟩
theorem sin8 {f : Nat → Int32} {a c : Nat} (hc : c = 8) (i fa st0 so fr to : Int32) (nu : Int64) (N K : Nat → Int32) (S : Nat → Int64) (T : Nat → Int32) (W : Nat → Int64) (Y : Nat → Int32) (F La : Nat → Int64) (p0 : Int32) : f_readSingle f (nI a) i fa st0 so fr to nu (nI c) N K S T W Y F La p0 = some (0, nI a, i, nI a, st0, so, fr, to, nu, nI c, N, K, S, T, W, Y, F, La) := by
  unfold f_readSingle
  rw [if_pos (by rw [hc]; rfl), wr_b]
theorem R_77 {f : Nat → Int32} (hB : ∀ j, isb (f j)) {e a0 z w b m : Nat} {te : Nat × Nat × Nat} (he : e ≤ 1500) (hm : e ≤ m) (hz : z ≤ e) (hw : w ≤ z) (hb : b ≤ z) (hte : teb m te) (g1 g2 : Int32) : ∀ (r fu a : Nat) (i fa st0 so fr to : Int32) (nu : Int64) (L : List SG) (N K : Nat → Int32) (S : Nat → Int64) (T : Nat → Int32) (W : Nat → Int64) (Y : Nat → Int32) (F La : Nat → Int64), r + 1 < fu → L.length + r = 8 → 1 ≤ L.length → a0 ≤ a → a ≤ w → BR m N K S T W Y F La L → ok (j_readBody_77 fu f (nI a) i fa st0 so fr to nu (nI L.length) N K S g1 g2 (nI te.1) (nI te.2.1) (nI te.2.2) (nI b) (nI z) T W Y F La (nI w) 1) (ro (BodG m fa e a0) (fun p y => y.1 = 0 ∧ y.2.2.2.1 = nI p) (rb (s_sings f w r a i) fun l a6 i6 => rb (s_nonce f 163 z a6 i6) fun no a7 i7 => rb (p_ends z a7 i7) fun _ a8 i8 => .inr ((te, L ++ l, no, b, z), a8, i8))) := by
  intro r
  induction r with
  | zero =>
    intro fu a i fa st0 so fr to nu L N K S T W Y F La hfu hL h1 h0 ha hA
    obtain ⟨fu, rfl⟩ : ∃ g, fu = g + 1 + 1 := ⟨fu - 2, by omega⟩
    rw [j_readBody_77, if_neg (by decide), if_neg (nI_ne0 (by omega) (by omega))]
    unfold s_sings
    by_cases hq : a = w
    · subst hq
      rw [if_pos (Int32.le_refl _), if_pos rfl, rb_inr]
      have := R_105 (f := f) (L := L) (te := te) (a0 := a0) he hm hz hw h0 hb (by omega) hte hA i fa st0 so fr to g1 g2 nu
      simp only [List.append_nil]
      exact this
    · rw [if_neg (nI_ge (by omega) (by omega)), if_neg hq, sin8 (by omega), Option.bind_some]
      dsimp only
      rw [bnd_eq, j_readBody_77, if_pos rfl]
      unfold j_readBody_105
      rw [if_pos rfl]
      exact ok.s ⟨rfl, rfl⟩
  | succ r ih =>
    intro fu a i fa st0 so fr to nu L N K S T W Y F La hfu hL h1 h0 ha hA
    obtain ⟨fu, rfl⟩ : ∃ g, fu = g + 1 + 1 := ⟨fu - 2, by omega⟩
    rw [j_readBody_77, if_neg (by decide), if_neg (nI_ne0 (by omega) (by omega))]
    unfold s_sings
    by_cases hq : a = w
    · subst hq
      rw [if_pos (Int32.le_refl _), if_pos rfl, rb_inr]
      have := R_105 (f := f) (L := L) (te := te) (a0 := a0) he hm hz hw h0 hb (by omega) hte hA i fa st0 so fr to g1 g2 nu
      simp only [List.append_nil]
      exact this
    · rw [if_neg (nI_ge (by omega) (by omega)), if_neg hq, rb_assoc]
      refine st (R_single hB ha (by omega) (show w ≤ m by omega) (by omega) hA i fa st0 so fr to nu) (fun y p h => ?_) (fun y d a' i' h => ?_)
      · rw [bnd_eq, h.1, j_readBody_77, if_pos rfl]
        unfold j_readBody_105
        rw [if_pos rfl]
        exact ok.s ⟨rfl, h.2⟩
      · obtain ⟨⟨u1, u2, u3, u4, u5, N1, K1, S1, T1, W1, Y1, F1, L1, rfl, hA1⟩, b1, b2⟩ := h
        dsimp only
        rw [bnd_eq, rb_assoc]
        have := ih (fu + 1) a' i' fa u1 u2 u3 u4 u5 (L ++ [d]) _ _ _ _ _ _ _ _ (by omega) (by simp; omega) (by simp) (by omega) b2 hA1
        simp only [List.length_append, List.length_cons, List.length_nil, Nat.zero_add, List.append_assoc, List.cons_append, List.nil_append] at this
        exact this
theorem R_body {f : Nat → Int32} (hB : ∀ j, isb (f j)) {a e m : Nat} (hae : a ≤ e) (he : e ≤ 1500) (hm : e ≤ m) (i fa st0 so fr to : Int32) (nu : Int64) (c : Int32) (N K : Nat → Int32) (S : Nat → Int64) (g1 g2 g3 g4 g5 g6 g7 : Int32) (T : Nat → Int32) (W : Nat → Int64) (Y : Nat → Int32) (F La : Nat → Int64) : ok (f_readBody f (nI a) i fa st0 so fr to nu c N K S g1 g2 g3 g4 g5 g6 g7 T W Y F La (nI e)) (ro (BodG m fa e a) (fun p y => y.1 = 0 ∧ y.2.2.2.1 = nI p) (s_body f e a i)) := by
  unfold f_readBody s_body
  refine st (R_of hae he 48 i fa st0 so fr to) (fun y p h => by rw [if_pos h.1]; exact ok.s ⟨rfl, h.2.1⟩) (fun y z a1 i1 h => ?_)
  obtain ⟨rfl, b1, b2, b3⟩ := h
  dsimp only
  rw [if_neg (by decide), bnd_eq, bnd_eq]
  refine st (R_teller b2 (by omega) _ _ _ _ _ _ _ _ _) (fun y p h => by rw [if_pos h.1]; exact ok.s ⟨rfl, h.2⟩) (fun y te a2 i2 h => ?_)
  obtain ⟨⟨_, _, _, _, rfl⟩, c1, c2, c3⟩ := h
  dsimp only
  rw [if_neg (by decide)]
  refine st (R_time hB c2 (by omega) _ _ _ _ _ _ _) (fun y p h => by rw [if_pos h.1]; exact ok.s ⟨rfl, h.2⟩) (fun y t a3 i3 h => ?_)
  obtain ⟨⟨_, rfl⟩, d1, d2, d3⟩ := h
  dsimp only
  rw [if_neg (by decide)]
  refine st (R_of d2 (by omega) 48 _ _ _ _ _ _) (fun y p h => by rw [if_pos h.1]; exact ok.s ⟨rfl, h.2.1⟩) (fun y w a4 i4 h => ?_)
  obtain ⟨rfl, e1, e2, e3⟩ := h
  dsimp only
  rw [if_neg (by decide), bnd_eq, show FU = 4999 + 1 from rfl, j_readBody_77, if_neg (by decide), if_pos rfl]
  refine st (R_single (L := []) (m := m) hB e2 (by omega) (by omega) (by decide) (fun j d h => by simp at h) _ _ _ _ _ _ _) (fun y p h => ?_) (fun y d a' i' h => ?_)
  · rw [bnd_eq, h.1, j_readBody_77, if_pos rfl]
    unfold j_readBody_105
    rw [if_pos rfl]
    exact ok.s ⟨rfl, h.2⟩
  · obtain ⟨⟨u1, u2, u3, u4, u5, N1, K1, S1, T1, W1, Y1, F1, L1, rfl, hA1⟩, k1, k2⟩ := h
    dsimp only
    rw [bnd_eq]
    exact R_77 hB he hm b3 e3 (by omega) (teb_m c3 (by omega)) g1 g2 7 4999 a' i' fa u1 u2 u3 u4 u5 [d] _ _ _ _ _ _ _ _ (by decide) rfl (Nat.le_refl 1) (by omega) k2 hA1
