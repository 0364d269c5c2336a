/-! PURE 9: texts, as they are read: the reference's side -/
theorem st {α β A C : Type} {x : Option A} {k : A → Option C} {m : Rs α} {kk : α → Nat → Int32 → Rs β} {G : α → Nat → Int32 → A → Prop} {B : Nat → A → Prop} {G' : β → Nat → Int32 → C → Prop} {B' : Nat → C → Prop} (h : ok x (ro G B m)) (hf : ∀ y p, B p y → ok (k y) (B' p)) (hs : ∀ y v a' i', G v a' i' y → ok (k y) (ro G' B' (kk v a' i'))) : ok (x.bind k) (ro G' B' (rb m kk)) := by
  refine ok.b h (fun y hy => ?_)
  cases hm : m with
  | inl p => rw [hm] at hy; exact hf y p hy
  | inr v => rw [hm] at hy; exact hs y v.1 v.2.1 v.2.2 hy
def s_id (f : Nat → Int32) (e a : Nat) (i : Int32) : Rs (Nat × Nat × Int64) :=
  rb (p_ent f 48 0 1500 e a i) fun z a1 i1 => rb (p_bytes f 8 8 z a1 i1) fun n a2 i2 => rb (p_bytes f 8 8 z a2 i2) fun k a3 i3 => rb (p_int f 0 2147483647 z a3 i3) fun v a4 i4 => rb (p_ends z a4 i4) fun _ a5 i5 => .inr ((n, k, v), a5, i5)
def idb (m : Nat) (d : Nat × Nat × Int64) : Prop := d.1 + 8 ≤ m ∧ d.2.1 + 8 ≤ m ∧ 0 ≤ d.2.2 ∧ d.2.2 ≤ 2147483647
theorem idb_m {a b : Nat} {d : Nat × Nat × Int64} (h : idb a d) (hb : a ≤ b) : idb b d := ⟨Nat.le_trans h.1 hb, Nat.le_trans h.2.1 hb, h.2.2⟩
theorem nb0 : narrow .boolean (.int (0 : Int32)) = .int 0 := nb1 0 (Or.inl rfl)
theorem nb11 : narrow .boolean (.int (1 : Int32)) = .int 1 := nb1 1 (Or.inr rfl)
theorem cnz {c : Nat} (h : c < 8) : ¬ nI c = 8 := fun q => by have := (nI_eq (b := 8) (by omega) (by decide)).mp q; omega
theorem R_id {f : Nat → Int32} {a e c : Nat} (hae : a ≤ e) (he : e ≤ 1500) (hc : c < 8) (i fa st0 so fr to : Int32) (nu : Int64) (N K : Nat → Int32) (S : Nat → Int64) : ok (f_readId f (nI a) i fa st0 so fr to nu (nI c) N K S (nI e)) (ro (fun v a' i' y => (∃ x1 x2 x3 x4 x5, y = (1, nI a', i', fa, x1, x2, x3, x4, x5, nI (c + 1), upd N c (nI v.1), upd K c (nI v.2.1), vp_updL S c v.2.2)) ∧ a + 2 ≤ a' ∧ a' ≤ e ∧ idb e v) (fun p y => y.1 = 0 ∧ y.2.2.2.1 = nI p) (s_id f e a i)) := by
  unfold f_readId s_id
  rw [if_neg (cnz hc)]
  refine st (R_of hae he 48 i fa st0 so fr to) (fun y p h => by rw [if_pos h.1]; exact ok.s ⟨rfl, h.2.1⟩) (fun y z a1 i1 h => ?_)
  obtain ⟨rfl, b1, b2, b3⟩ := h
  dsimp only
  rw [if_neg (by decide), bnd_eq]
  refine st (R_bytes (lo := 8) (hi := 8) b2 (by omega) (by decide) (by decide) _ _ _ _ _ _) (fun y p h => by rw [if_pos h.1]; exact ok.s ⟨rfl, h.2⟩) (fun y n a2 i2 h => ?_)
  obtain ⟨rfl, c1, c2, c3, c4, c5⟩ := h
  dsimp only
  rw [if_neg (by decide), chk_t (inN (by omega) (by omega)), nI_clamp (by omega), bnd_eq]
  refine st (R_bytes (lo := 8) (hi := 8) c3 (by omega) (by decide) (by decide) _ _ _ _ _ _) (fun y p h => by rw [if_pos h.1]; exact ok.s ⟨rfl, h.2⟩) (fun y k a3 i3 h => ?_)
  obtain ⟨rfl, d1, d2, d3, d4, d5⟩ := h
  dsimp only
  rw [if_neg (by decide), chk_t (by rintro (q | q); exact nI_pos (by omega) q; omega), bnd_eq]
  refine st (R_int d3 (by omega) _ _ _ _ _ _ _ _ _) (fun y p h => by rw [if_pos h.1]; exact ok.s ⟨rfl, h.2⟩) (fun y v a4 i4 h => ?_)
  obtain ⟨⟨x, rfl⟩, e1, e2, e3, e4⟩ := h
  dsimp only
  rw [if_neg (by decide), chk_t (by rintro (q | q); exact nI_pos (by omega) q; omega), bnd_eq, bnd_eq, nI_1]
  refine st (R_ends e2 (by omega) i4 _) (fun y p h => by rw [h.1, chk_t nb0]; exact ok.s ⟨rfl, h.2⟩) (fun y _ a5 i5 h => ?_)
  obtain ⟨rfl, rfl, rfl, g⟩ := h
  dsimp only
  rw [chk_t nb11]
  exact ok.s ⟨⟨_, _, _, _, _, rfl⟩, by simp only; omega, by simp only; omega, by simp only; omega, by simp only; omega, e3, e4⟩
/-- what a certificate's text has: inner from, inner to, serial, issuer from, to, holder from, to, from, to, key, flags, signature's place -/
abbrev CT := Nat × Nat × Int64 × Nat × Nat × Nat × Nat × Int64 × Int64 × Int64 × Int64 × Nat
noncomputable def s_cert (f : Nat → Int32) (e a : Nat) (i : Int32) : Rs CT :=
  rb (p_ent f 48 0 1500 e a i) fun z1 a1 i1 => rb (p_ent f 48 0 1500 z1 a1 i1) fun z2 a2 i2 => rb (p_int f 0 2147483647 z2 a2 i2) fun sv a3 i3 => rb (p_bytes f 1 16 z2 a3 i3) fun q1 a4 i4 => rb (p_bytes f 1 16 z2 a4 i4) fun q2 a5 i5 => rb (p_time f z2 a5 i5) fun t1 a6 i6 => rb (p_time f z2 a6 i6) fun t2 a7 i7 => rb (p_int f 2 2147483578 z2 a7 i7) fun kv a8 i8 => rb (p_int f 0 3 z2 a8 i8) fun fv a9 i9 => rb (p_ends z2 a9 i9) fun _ a10 i10 => rb (p_sig f z1 a10 i10) fun sx a11 i11 => rb (p_ends z1 a11 i11) fun _ a12 i12 => .inr ((a1, z2, sv, q1, a4, q2, a5, t1, t2, kv, fv, sx), a12, i12)
def ctb (m : Nat) (v : CT) : Prop := v.1 ≤ v.2.1 ∧ v.2.1 ≤ m ∧ (0 ≤ v.2.2.1 ∧ v.2.2.1 ≤ 2147483647) ∧ (v.2.2.2.1 < v.2.2.2.2.1 ∧ v.2.2.2.2.1 ≤ m ∧ v.2.2.2.2.1 - v.2.2.2.1 ≤ 16) ∧ (v.2.2.2.2.2.1 < v.2.2.2.2.2.2.1 ∧ v.2.2.2.2.2.2.1 ≤ m ∧ v.2.2.2.2.2.2.1 - v.2.2.2.2.2.1 ≤ 16) ∧ (2 ≤ v.2.2.2.2.2.2.2.2.2.1 ∧ v.2.2.2.2.2.2.2.2.2.1 ≤ 2147483578) ∧ (0 ≤ v.2.2.2.2.2.2.2.2.2.2.1 ∧ v.2.2.2.2.2.2.2.2.2.2.1 ≤ 3) ∧ v.2.2.2.2.2.2.2.2.2.2.2 + 9 ≤ m
theorem ctb_m {a b : Nat} {v : CT} (h : ctb a v) (hb : a ≤ b) : ctb b v := by
  unfold ctb at *
  obtain ⟨h1, h2, h3, ⟨h4, h5, h6⟩, ⟨h7, h8, h9⟩, h10, h11, h12⟩ := h
  exact ⟨h1, by omega, h3, ⟨h4, by omega, h6⟩, ⟨h7, by omega, h9⟩, h10, h11, by omega⟩
theorem R_cert {f : Nat → Int32} {a e : Nat} (hB : ∀ j, isb (f j)) (hae : a ≤ e) (he : e ≤ 1500) (i fa st0 so fr to : Int32) (nu : Int64) (g1 g2 g3 g4 g5 g6 g7 g8 : Int32) (g9 g10 g11 g12 : Int64) (g13 : Int32) : ok (f_readCert f (nI a) i fa st0 so fr to nu g1 g2 g3 g4 g5 g6 g7 g8 g9 g10 g11 g12 g13 (nI e)) (ro (fun v a' i' y => (∃ x1 x2 x3 x4 x5 x6, y = (1, nI a', i', fa, x1, x2, x3, x4, x5, x6, nI v.1, nI v.2.1, nI (v.2.2.2.2.2.2.2.2.2.2.2 + 1), nI v.2.2.2.1, nI v.2.2.2.2.1, nI v.2.2.2.2.2.1, nI v.2.2.2.2.2.2.1, v.2.2.1, v.2.2.2.2.2.2.2.1, v.2.2.2.2.2.2.2.2.1, v.2.2.2.2.2.2.2.2.2.1, v.2.2.2.2.2.2.2.2.2.2.1.toInt32)) ∧ a + 2 ≤ a' ∧ a' ≤ e ∧ ctb e v) (fun p y => y.1 = 0 ∧ y.2.2.2.1 = nI p) (s_cert f e a i)) := by
  unfold f_readCert s_cert
  refine st (R_of hae he 48 i fa st0 so fr to) (fun y p h => by rw [if_pos h.1]; exact ok.s ⟨rfl, h.2.1⟩) (fun y z1 a1 i1 h => ?_)
  obtain ⟨rfl, b1, b2, b3⟩ := h
  dsimp only
  rw [if_neg (by decide), bnd_eq]
  refine st (R_of b2 (by omega) 48 _ _ _ _ _ _) (fun y p h => by rw [if_pos h.1]; exact ok.s ⟨rfl, h.2.1⟩) (fun y z2 a2 i2 h => ?_)
  obtain ⟨rfl, c1, c2, c3⟩ := h
  dsimp only
  rw [if_neg (by decide), bnd_eq, bnd_eq]
  refine st (R_int c2 (by omega) _ _ _ _ _ _ _ _ _) (fun y p h => by rw [if_pos h.1]; exact ok.s ⟨rfl, h.2⟩) (fun y sv a3 i3 h => ?_)
  obtain ⟨⟨_, rfl⟩, d1, d2, d3, d4⟩ := h
  dsimp only
  rw [if_neg (by decide), bnd_eq]
  refine st (R_bytes (lo := 1) (hi := 16) d2 (by omega) (by decide) (by decide) _ _ _ _ _ _) (fun y p h => by rw [if_pos h.1]; exact ok.s ⟨rfl, h.2⟩) (fun y q1 a4 i4 h => ?_)
  obtain ⟨rfl, e1, e2, e3, e4, e5⟩ := h
  dsimp only
  rw [if_neg (by decide), bnd_eq, bnd_eq]
  refine st (R_bytes (lo := 1) (hi := 16) e3 (by omega) (by decide) (by decide) _ _ _ _ _ _) (fun y p h => by rw [if_pos h.1]; exact ok.s ⟨rfl, h.2⟩) (fun y q2 a5 i5 h => ?_)
  obtain ⟨rfl, f1, f2, f3, f4, f5⟩ := h
  dsimp only
  rw [if_neg (by decide), bnd_eq, bnd_eq]
  refine st (R_time hB f3 (by omega) _ _ _ _ _ _ _) (fun y p h => by rw [if_pos h.1]; exact ok.s ⟨rfl, h.2⟩) (fun y t1 a6 i6 h => ?_)
  obtain ⟨⟨_, rfl⟩, k1, k2, k3⟩ := h
  dsimp only
  rw [if_neg (by decide), bnd_eq]
  refine st (R_time hB k2 (by omega) _ _ _ _ _ _ _) (fun y p h => by rw [if_pos h.1]; exact ok.s ⟨rfl, h.2⟩) (fun y t2 a7 i7 h => ?_)
  obtain ⟨⟨_, rfl⟩, l1, l2, l3⟩ := h
  dsimp only
  rw [if_neg (by decide), bnd_eq]
  refine st (R_int l2 (by omega) _ _ _ _ _ _ _ _ _) (fun y p h => by rw [if_pos h.1]; exact ok.s ⟨rfl, h.2⟩) (fun y kv a8 i8 h => ?_)
  obtain ⟨⟨_, rfl⟩, m1, m2, m3, m4⟩ := h
  dsimp only
  rw [if_neg (by decide), bnd_eq]
  refine st (R_int m2 (by omega) _ _ _ _ _ _ _ _ _) (fun y p h => by rw [if_pos h.1]; exact ok.s ⟨rfl, h.2⟩) (fun y fv a9 i9 h => ?_)
  obtain ⟨⟨_, rfl⟩, n1, n2, n3, n4⟩ := h
  dsimp only
  rw [if_neg (by decide), bnd_eq]
  refine st (R_ends n2 (by omega) i9 _) (fun y p h => by rw [if_pos h.1]; exact ok.s ⟨rfl, h.2⟩) (fun y _ a10 i10 h => ?_)
  obtain ⟨rfl, rfl, rfl, o1⟩ := h
  dsimp only
  rw [if_neg (by decide)]
  refine st (R_sig (by omega) (by omega) _ _ _ _ _ _ _) (fun y p h => by rw [if_pos h.1]; exact ok.s ⟨rfl, h.2⟩) (fun y sx a11 i11 h => ?_)
  obtain ⟨⟨_, rfl⟩, p1, p2, p3⟩ := h
  dsimp only
  rw [if_neg (by decide), bnd_eq]
  refine st (R_ends p3 (by omega) i11 _) (fun y p h => by rw [h.1, chk_t nb0]; exact ok.s ⟨rfl, h.2⟩) (fun y _ a12 i12 h => ?_)
  obtain ⟨rfl, rfl, rfl, r1⟩ := h
  dsimp only
  rw [chk_t nb11]
  refine ok.s ⟨⟨_, _, _, _, _, _, rfl⟩, ?_, ?_, ?_⟩
  · simp only; omega
  · simp only; omega
  · exact ⟨by simp only; omega, by simp only; omega, ⟨d3, d4⟩, ⟨by simp only; omega, by simp only; omega, e5⟩, ⟨by simp only; omega, by simp only; omega, f5⟩, ⟨m3, m4⟩, ⟨n3, n4⟩, by simp only; omega⟩
def s_nonce (f : Nat → Int32) (k : Int32) (e a : Nat) (i : Int32) : Rs (Nat × Nat) :=
  if a = e then .inr ((0, 0), a, i) else rb (p_ent f k 0 1500 e a i) fun z a1 i1 => rb (p_bytes f 1 16 z a1 i1) fun q a2 i2 => rb (p_ends z a2 i2) fun _ a3 i3 => .inr ((q, a2), a3, i3)
def nob (m : Nat) (v : Nat × Nat) : Prop := v = (0, 0) ∨ (1 ≤ v.1 ∧ v.1 < v.2 ∧ v.2 ≤ m ∧ v.2 - v.1 ≤ 16)
theorem nob_m {a b : Nat} {v : Nat × Nat} (h : nob a v) (hb : a ≤ b) : nob b v := by
  rcases h with h | ⟨h1, h2, h3, h4⟩
  · exact Or.inl h
  · exact Or.inr ⟨h1, h2, Nat.le_trans h3 hb, h4⟩
theorem R_nonce {f : Nat → Int32} {a e : Nat} (hae : a ≤ e) (he : e ≤ 1500) (k i fa st0 so fr to g1 g2 : Int32) : ok (f_readNonce f (nI a) i fa st0 so fr to g1 g2 k (nI e)) (ro (fun v a' i' y => (∃ x1 x2 x3 x4, y = (1, nI a', i', fa, x1, x2, x3, x4, nI v.1, nI v.2)) ∧ a ≤ a' ∧ a' ≤ e ∧ nob e v) (fun p y => y.1 = 0 ∧ y.2.2.2.1 = nI p) (s_nonce f k e a i)) := by
  unfold f_readNonce s_nonce
  by_cases h : a = e
  · rw [if_pos (by rw [h]), if_pos h]
    exact ok.s ⟨⟨_, _, _, _, rfl⟩, Nat.le_refl _, hae, Or.inl rfl⟩
  · rw [if_neg (fun q => h ((nI_eq (by omega) (by omega)).mp q)), if_neg h]
    refine st (R_of hae he k i fa st0 so fr to) (fun y p h => by rw [if_pos h.1]; exact ok.s ⟨rfl, h.2.1⟩) (fun y z a1 i1 h => ?_)
    obtain ⟨rfl, b1, b2, b3⟩ := h
    dsimp only
    rw [if_neg (by decide), bnd_eq]
    refine st (R_bytes (lo := 1) (hi := 16) b2 (by omega) (by decide) (by decide) _ _ _ _ _ _) (fun y p h => by rw [if_pos h.1]; exact ok.s ⟨rfl, h.2⟩) (fun y q1 a2 i2 h => ?_)
    obtain ⟨rfl, e1, e2, e3, e4, e5⟩ := h
    dsimp only
    rw [if_neg (by decide), bnd_eq, bnd_eq]
    refine st (R_ends e3 (by omega) i2 _) (fun y p h => by rw [h.1, chk_t nb0]; exact ok.s ⟨rfl, h.2⟩) (fun y _ a12 i12 h => ?_)
    obtain ⟨rfl, rfl, rfl, r1⟩ := h
    dsimp only
    rw [chk_t nb11]
    exact ok.s ⟨⟨_, _, _, _, rfl⟩, by simp only; omega, by simp only; omega, Or.inr ⟨by simp only; omega, by simp only; omega, by simp only; omega, e5⟩⟩
/-- the rows of ids that the reference keeps -/
def AR (m : Nat) (N K : Nat → Int32) (S : Nat → Int64) (L : List (Nat × Nat × Int64)) : Prop := ∀ j d, L[j]? = some d → N j = nI d.1 ∧ K j = nI d.2.1 ∧ S j = d.2.2 ∧ idb m d
theorem snoc_get {α : Type} {L : List α} {x d : α} {j : Nat} (h : (L ++ [x])[j]? = some d) : (j ≠ L.length ∧ L[j]? = some d) ∨ (j = L.length ∧ d = x) := by
  by_cases hj : j < L.length
  · rw [List.getElem?_append_left hj] at h
    exact Or.inl ⟨by omega, h⟩
  · rw [List.getElem?_append_right (by omega)] at h
    by_cases he : j = L.length
    · subst he
      simp only [Nat.sub_self, List.getElem?_cons_zero, Option.some.injEq] at h
      exact Or.inr ⟨rfl, h.symm⟩
    · obtain ⟨n, hn⟩ : ∃ n, j - L.length = n + 1 := ⟨j - L.length - 1, by omega⟩
      rw [hn] at h
      simp at h
theorem AR_snoc {m : Nat} {N K : Nat → Int32} {S : Nat → Int64} {L : List (Nat × Nat × Int64)} {v : Nat × Nat × Int64} (h : AR m N K S L) (hv : idb m v) : AR m (upd N L.length (nI v.1)) (upd K L.length (nI v.2.1)) (vp_updL S L.length v.2.2) (L ++ [v]) := by
  intro j d hd
  rcases snoc_get hd with ⟨h1, h2⟩ | ⟨rfl, rfl⟩
  · rw [pk_un h1, pk_un h1, pk_uLn h1]
    exact h j d h2
  · rw [pk_us, pk_us, pk_uLs]
    exact ⟨rfl, rfl, rfl, hv⟩
def s_ids (f : Nat → Int32) (e : Nat) : Nat → Nat → Int32 → Rs (List (Nat × Nat × Int64))
  | 0, a, i => if a = e then .inr ([], a, i) else .inl a
  | r + 1, a, i => if a = e then .inr ([], a, i) else rb (s_id f e a i) fun d a' i' => rb (s_ids f e r a' i') fun l a2 i2 => .inr (d :: l, a2, i2)
