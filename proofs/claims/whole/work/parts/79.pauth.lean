/-! PURE 29: a new authority -/
def upF (g : Nat → Nat → Int32) (k : Nat) (x : Nat → Int32) : Nat → Nat → Int32 := fun j => if j = k then x else g j
def kyN (s : Nat) : Nat := 4 ^ s % PP
theorem kyN_lt (s : Nat) : kyN s < PP := Nat.mod_lt _ (by decide)
def khN (s : Nat) : Int64 := hE (hL h0 (lN (kyN s)))
theorem sec_y {s : Nat} (h1 : 1 ≤ s) (h2 : s < QQ) : f_within (nI s).toInt64 (1 : Int64) (1073741788 : Int64) = some 1 ∧ f_nu_isSecret (nI s) = some 1 := by
  unfold QQ at h2
  refine ⟨w_in (lo := 1) (hi := 1073741788) (by omega) h1 (by omega) (by decide), ?_⟩
  unfold f_nu_isSecret
  rw [if_neg (show ¬ nI s < 1 from nI_nlt (b := 1) h1 (by omega)), nI_l (by omega), if_neg (show ¬ (1073741789 : Int64) ≤ lN s from fun q => by have := (pk_lLE (a := 1073741789) (by decide) (by omega)).mp q; omega)]
theorem sec_cases (p : Int32) : (f_within p.toInt64 (1 : Int64) (1073741788 : Int64) = some 0 ∧ f_nu_isSecret p = some 0) ∨ ∃ s, 1 ≤ s ∧ s < QQ ∧ p = nI s := by
  rcases ix_cases p (n := 1) (by decide) with ⟨h, -⟩ | ⟨j, h1, h2, rfl⟩ | ⟨j, h1, rfl⟩
  · refine Or.inl ⟨w_neg (lo := 1) h _ (by decide), ?_⟩
    unfold f_nu_isSecret
    rw [if_pos (Int32.lt_trans h (by decide))]
  · by_cases hq : j < QQ
    · exact Or.inr ⟨j, h1, hq, rfl⟩
    · unfold QQ at hq
      refine Or.inl ⟨w_out (lo := 1) (hi := 1073741788) h2 (Or.inr (by omega)) (by decide) (by decide), ?_⟩
      unfold f_nu_isSecret
      rw [if_neg (show ¬ nI j < 1 from nI_nlt (b := 1) h1 h2), nI_l h2, if_pos (show (1073741789 : Int64) ≤ lN j from (pk_lLE (a := 1073741789) (by decide) (by omega)).mpr (by omega))]
  · refine Or.inl ⟨w_out (lo := 1) (hi := 1073741788) (by omega) (Or.inl h1) (by decide) (by decide), ?_⟩
    unfold f_nu_isSecret
    rw [if_pos (show nI j < 1 from nI_lt (b := 1) h1 (by decide))]
theorem isName_y {n : Nat} (h1 : 1 ≤ n) (h2 : n ≤ 16) : f_within (nI n).toInt64 (1 : Int64) (16 : Int64) = some 1 ∧ f_de_isName (nI n) = some 1 := by
  refine ⟨w_in (lo := 1) (hi := 16) (by omega) h1 h2 (by decide), ?_⟩
  unfold f_de_isName
  rw [if_neg (show ¬ nI n < 1 from nI_nlt (b := 1) h1 (by omega)), if_neg (show ¬ (16 : Int32) < nI n from nI_nlt (a := 16) h2 (by decide))]
theorem isName_n {n : Nat} (hn : n < 2 ^ 31) (h : ¬ (1 ≤ n ∧ n ≤ 16)) : f_within (nI n).toInt64 (1 : Int64) (16 : Int64) = some 0 ∧ f_de_isName (nI n) = some 0 := by
  refine ⟨w_out (lo := 1) (hi := 16) hn (by omega) (by decide) (by decide), ?_⟩
  unfold f_de_isName
  by_cases h1 : n < 1
  · rw [if_pos (show nI n < 1 from nI_lt (b := 1) h1 (by decide))]
  · rw [if_neg (show ¬ nI n < 1 from nI_nlt (b := 1) (by omega) hn), if_pos (show (16 : Int32) < nI n from nI_lt (a := 16) (by omega) hn)]
theorem pub {s : Nat} (hs : s < QQ) : f_nu_publicKey (nI s) = some (nI (kyN s)) ∧ f_power (4 : Int64) (nI s).toInt64 = some (lN (kyN s)) := by
  unfold QQ at hs
  constructor
  · unfold f_nu_publicKey
    rw [nI_l (by omega), ir1 (by omega), Option.bind_some, lN_i, kyN]
  · rw [nI_l (by omega), ir2 (by omega), kyN]
theorem beg {f : Nat → Int32} (hf : TP f) {n s : Nat} (hn : n ≤ 16) (hs : s < QQ) (kh : Int64) (nd : Nat → Int32) (nl : Int32) (nh : Int64) (pk se : Int32) : ∃ g, f_au_begin kh nd nl nh pk se f (nI n) 1500 (nI s) = some (khN s, g, nI n, hl (sl f 0 n), nI (kyN s), nI s) ∧ WW g (nI n) (sl f 0 n) := by
  have hW : WW f (nI n) (sl f 0 n) := ⟨by rw [sl_l], GG_sl hf 0 n⟩
  obtain ⟨y, e1, e2⟩ := pu_copyOf (N := 16) (Ng := 1500) (by decide) (by decide) hW (by rw [sl_l]; omega) (by rw [sl_l]; omega) (by rw [sl_l]; unfold FU; omega) nd nl
  obtain ⟨g, k⟩ := y
  have hk : k = nI n := by have := e2.1; rwa [sl_l] at this
  subst hk
  have hd := pu_digest (N := 16) (M := n) e2.2 (by rw [sl_l]; omega) hn (by omega) (by rw [sl_l]; unfold FU; omega)
  rw [sl_l, Nat.zero_add, show nI 0 = 0 from rfl] at hd
  have hk := kyN_lt s
  unfold PP at hk
  refine ⟨g, ?_, e2⟩
  unfold f_au_begin
  rw [e1, Option.bind_some, (pub hs).1, Option.bind_some, hd, Option.bind_some, nI_l (by omega), pu_hashOf, Option.bind_some, khN]
section NA
variable {c : Nat} {f : Nat → Int32} {n : Nat} {kh : Nat → Int64} {nd : Nat → Nat → Int32} {nl : Nat → Int32} {nh : Nat → Int64} {pk se : Nat → Int32} {An : Nat → List Int32} {nm ns : Nat → Int32}
/-- a name that both sides know -/
def NR (A : List Int32) (nd : Nat → Int32) (nl : Int32) (nm : Nat → Int32) (sz : Int32) (k : Nat) : Prop := WW nd nl A ∧ 1 ≤ A.length ∧ A.length ≤ 16 ∧ GG nm (16 * k) A ∧ sz = nI A.length
theorem cmpN (hf : TP f) (hn : n ≤ 16) {k : Nat} (hk : k < 4) {A : List Int32} {d : Nat → Int32} {l sz : Int32} (h : NR A d l nm sz k) : f_by_isSame d l f (nI n) 16 1500 0 (nI n) = some (if A = sl f 0 n then 1 else 0) ∧ f_isSame nm 64 ((16 : Int32) * nI k) ((16 : Int32) * nI k + sz) f 1500 0 (nI n) = some (if A = sl f 0 n then 1 else 0) := by
  obtain ⟨⟨rfl, h1⟩, h2, h3, h4, rfl⟩ := h
  constructor
  · have := pu_isSame (a := d) (b := f) (Na := 16) (Nb := 1500) (n := A.length) (q := 0) (m := n) (M := n) (by unfold FU; omega) h3 (by omega) (by omega) (by decide) (by decide) (fun j hj => by have := GG_at h1 hj; rwa [Nat.zero_add] at this) hf
    rw [sl_GG A 0 h1, show nI 0 = 0 from rfl] at this
    exact this
  · have := p_isSame (a := nm) (b := f) (Na := 64) (Nb := 1500) (p := 16 * k) (n := A.length) (q := 0) (m := n) (by unfold FU; omega) (by omega) (by omega) (by decide) (by decide)
    rw [sl_GG A (16 * k) h4, Nat.zero_add, show nI 0 = 0 from rfl] at this
    rw [show (16 : Int32) * nI k = nI (16 * k) from pk_mul 16 k, nI_add]
    exact this
/-- the class goes over the names -/
theorem nw_loop (hf : TP f) (hn : n ≤ 16) (hc : c < 4) (hA : ∀ k, k < c → NR (An k) (nd k) (nl k) nm (ns k) k) {s : Nat} (hs : s < QQ) : ∀ (m j fu : Nat), m < fu → j + m = c → ((∃ k, j ≤ k ∧ k < c ∧ An k = sl f 0 n) → j_de_newAuthority_33 fu (kh 0) (nd 0) (nl 0) (nh 0) (pk 0) (se 0) (kh 1) (nd 1) (nl 1) (nh 1) (pk 1) (se 1) (kh 2) (nd 2) (nl 2) (nh 2) (pk 2) (se 2) (kh 3) (nd 3) (nl 3) (nh 3) (pk 3) (se 3) (nI c) f (nI n) (nI s) (nI j) = some (-3, kh 0, nd 0, nl 0, nh 0, pk 0, se 0, kh 1, nd 1, nl 1, nh 1, pk 1, se 1, kh 2, nd 2, nl 2, nh 2, pk 2, se 2, kh 3, nd 3, nl 3, nh 3, pk 3, se 3, nI c)) ∧ ((∀ k, j ≤ k → k < c → An k ≠ sl f 0 n) → ∃ g v1 v3 v4 v5 v6, j_de_newAuthority_33 fu (kh 0) (nd 0) (nl 0) (nh 0) (pk 0) (se 0) (kh 1) (nd 1) (nl 1) (nh 1) (pk 1) (se 1) (kh 2) (nd 2) (nl 2) (nh 2) (pk 2) (se 2) (kh 3) (nd 3) (nl 3) (nh 3) (pk 3) (se 3) (nI c) f (nI n) (nI s) (nI j) = some (nI c, (vp_updL kh c v1) 0, (upF nd c g) 0, (upd nl c v3) 0, (vp_updL nh c v4) 0, (upd pk c v5) 0, (upd se c v6) 0, (vp_updL kh c v1) 1, (upF nd c g) 1, (upd nl c v3) 1, (vp_updL nh c v4) 1, (upd pk c v5) 1, (upd se c v6) 1, (vp_updL kh c v1) 2, (upF nd c g) 2, (upd nl c v3) 2, (vp_updL nh c v4) 2, (upd pk c v5) 2, (upd se c v6) 2, (vp_updL kh c v1) 3, (upF nd c g) 3, (upd nl c v3) 3, (vp_updL nh c v4) 3, (upd pk c v5) 3, (upd se c v6) 3, nI (c + 1)) ∧ WW g v3 (sl f 0 n) ∧ v1 = khN s ∧ v3 = nI n ∧ v4 = hl (sl f 0 n) ∧ v5 = nI (kyN s) ∧ v6 = nI s) := by
  intro m
  induction m with
  | zero =>
    intro j fu hfu hj
    obtain ⟨fu, rfl⟩ : ∃ g, fu = g + 1 := ⟨fu - 1, by omega⟩
    refine ⟨fun ⟨k, h1, h2, _⟩ => absurd h1 (by omega), fun _ => ?_⟩
    rw [j_de_newAuthority_33, if_pos (nI_le (by omega) (by omega)), chk_t (inN (by omega) (by omega))]
    match c, hc with
    | 0, _ =>
      obtain ⟨g, e1, e2⟩ := beg hf hn hs (kh 0) (nd 0) (nl 0) (nh 0) (pk 0) (se 0)
      rw [if_pos (show nI 0 = 0 from rfl), e1, Option.bind_some, bnd_eq, nI_1, nI_pred]
      exact ⟨g, khN s, nI n, hl (sl f 0 n), nI (kyN s), nI s, rfl, e2, rfl, rfl, rfl, rfl, rfl⟩
    | 1, _ =>
      obtain ⟨g, e1, e2⟩ := beg hf hn hs (kh 1) (nd 1) (nl 1) (nh 1) (pk 1) (se 1)
      rw [if_neg (show ¬ nI 1 = 0 by decide), if_pos (show nI 1 = 1 from rfl), e1, Option.bind_some, bnd_eq, nI_1, nI_pred]
      exact ⟨g, khN s, nI n, hl (sl f 0 n), nI (kyN s), nI s, rfl, e2, rfl, rfl, rfl, rfl, rfl⟩
    | 2, _ =>
      obtain ⟨g, e1, e2⟩ := beg hf hn hs (kh 2) (nd 2) (nl 2) (nh 2) (pk 2) (se 2)
      rw [if_neg (show ¬ nI 2 = 0 by decide), if_neg (show ¬ nI 2 = 1 by decide), if_pos (show nI 2 = 2 from rfl), e1, Option.bind_some, bnd_eq, nI_1, nI_pred]
      exact ⟨g, khN s, nI n, hl (sl f 0 n), nI (kyN s), nI s, rfl, e2, rfl, rfl, rfl, rfl, rfl⟩
    | 3, _ =>
      obtain ⟨g, e1, e2⟩ := beg hf hn hs (kh 3) (nd 3) (nl 3) (nh 3) (pk 3) (se 3)
      rw [if_neg (show ¬ nI 3 = 0 by decide), if_neg (show ¬ nI 3 = 1 by decide), if_neg (show ¬ nI 3 = 2 by decide), e1, Option.bind_some, bnd_eq, nI_1, nI_pred]
      exact ⟨g, khN s, nI n, hl (sl f 0 n), nI (kyN s), nI s, rfl, e2, rfl, rfl, rfl, rfl, rfl⟩
    | q + 4, h => exact absurd h (by omega)
  | succ m ih =>
    intro j fu hfu hj
    obtain ⟨fu, rfl⟩ : ∃ g, fu = g + 1 := ⟨fu - 1, by omega⟩
    have hcm := (cmpN hf hn (k := j) (by omega) (hA j (by omega))).1
    have st : j_de_newAuthority_33 (fu + 1) (kh 0) (nd 0) (nl 0) (nh 0) (pk 0) (se 0) (kh 1) (nd 1) (nl 1) (nh 1) (pk 1) (se 1) (kh 2) (nd 2) (nl 2) (nh 2) (pk 2) (se 2) (kh 3) (nd 3) (nl 3) (nh 3) (pk 3) (se 3) (nI c) f (nI n) (nI s) (nI j) = if An j = sl f 0 n then some (-3, kh 0, nd 0, nl 0, nh 0, pk 0, se 0, kh 1, nd 1, nl 1, nh 1, pk 1, se 1, kh 2, nd 2, nl 2, nh 2, pk 2, se 2, kh 3, nd 3, nl 3, nh 3, pk 3, se 3, nI c) else j_de_newAuthority_33 fu (kh 0) (nd 0) (nl 0) (nh 0) (pk 0) (se 0) (kh 1) (nd 1) (nl 1) (nh 1) (pk 1) (se 1) (kh 2) (nd 2) (nl 2) (nh 2) (pk 2) (se 2) (kh 3) (nd 3) (nl 3) (nh 3) (pk 3) (se 3) (nI c) f (nI n) (nI s) (nI (j + 1)) := by
      have fin : ∀ (x : Option Int32), x = some (if An j = sl f 0 n then 1 else 0) → (x.bind fun y_23 => if y_23 = 0 then (bnd (nI j + (1 : Int32)) fun v2_25 => j_de_newAuthority_33 fu (kh 0) (nd 0) (nl 0) (nh 0) (pk 0) (se 0) (kh 1) (nd 1) (nl 1) (nh 1) (pk 1) (se 1) (kh 2) (nd 2) (nl 2) (nh 2) (pk 2) (se 2) (kh 3) (nd 3) (nl 3) (nh 3) (pk 3) (se 3) (nI c) f (nI n) (nI s) v2_25) else (some ((-3 : Int32), kh 0, nd 0, nl 0, nh 0, pk 0, se 0, kh 1, nd 1, nl 1, nh 1, pk 1, se 1, kh 2, nd 2, nl 2, nh 2, pk 2, se 2, kh 3, nd 3, nl 3, nh 3, pk 3, se 3, nI c))) = if An j = sl f 0 n then some (-3, kh 0, nd 0, nl 0, nh 0, pk 0, se 0, kh 1, nd 1, nl 1, nh 1, pk 1, se 1, kh 2, nd 2, nl 2, nh 2, pk 2, se 2, kh 3, nd 3, nl 3, nh 3, pk 3, se 3, nI c) else j_de_newAuthority_33 fu (kh 0) (nd 0) (nl 0) (nh 0) (pk 0) (se 0) (kh 1) (nd 1) (nl 1) (nh 1) (pk 1) (se 1) (kh 2) (nd 2) (nl 2) (nh 2) (pk 2) (se 2) (kh 3) (nd 3) (nl 3) (nh 3) (pk 3) (se 3) (nI c) f (nI n) (nI s) (nI (j + 1)) := fun x hx => by
        rw [hx, Option.bind_some]
        by_cases hq : An j = sl f 0 n
        · rw [if_pos hq, if_pos hq, if_neg (by decide)]
        · rw [if_neg hq, if_neg hq, if_pos rfl, bnd_eq, nI_1]
      rw [j_de_newAuthority_33, if_neg (nI_ge (by omega) (by omega)), chk_t (inN (by omega) (by omega))]
      match j, hj, hcm, fin with
      | 0, _, hcm, fin => rw [if_pos (show nI 0 = 0 from rfl)]; exact fin _ hcm
      | 1, _, hcm, fin => rw [if_neg (show ¬ nI 1 = 0 by decide), if_pos (show nI 1 = 1 from rfl)]; exact fin _ hcm
      | 2, _, hcm, fin => rw [if_neg (show ¬ nI 2 = 0 by decide), if_neg (show ¬ nI 2 = 1 by decide), if_pos (show nI 2 = 2 from rfl)]; exact fin _ hcm
      | q + 3, hj, _, _ => exact absurd hj (by omega)
    rw [st]
    refine ⟨fun ⟨k, h1, h2, h3⟩ => ?_, fun h => ?_⟩
    · by_cases hq : An j = sl f 0 n
      · rw [if_pos hq]
      · rw [if_neg hq]
        refine (ih (j + 1) fu (by omega) (by omega)).1 ⟨k, ?_, h2, h3⟩
        by_cases hkj : k = j
        · subst hkj; exact absurd h3 hq
        · omega
    · rw [if_neg (h j (by omega) (by omega))]
      exact (ih (j + 1) fu (by omega) (by omega)).2 (fun k hk => h k (by omega))
/-- the reference goes over the names -/
theorem a54 (hf : TP f) (hn : n ≤ 16) (hc : c ≤ 4) (hA : ∀ k, k < c → NR (An k) (nd k) (nl k) nm (ns k) k) (tp : Int32) (sc ky : Nat → Int64) (p : Int32) : ∀ (m j fu : Nat), m < fu → j + m = c → (j_authority_54 fu f tp (nI c) nm ns sc ky p (nI n) 1 (nI j) = some (-3, tp, nI c, nm, ns, sc, ky)) ∧ ((∃ k, j ≤ k ∧ k < c ∧ An k = sl f 0 n) → j_authority_54 fu f tp (nI c) nm ns sc ky p (nI n) 0 (nI j) = some (-3, tp, nI c, nm, ns, sc, ky)) ∧ ((∀ k, j ≤ k → k < c → An k ≠ sl f 0 n) → j_authority_54 fu f tp (nI c) nm ns sc ky p (nI n) 0 (nI j) = j_authority_123 FU f tp (nI c) nm ns sc ky p (nI n) 0) := by
  intro m
  induction m with
  | zero =>
    intro j fu hfu hj
    obtain ⟨fu, rfl⟩ : ∃ g, fu = g + 1 := ⟨fu - 1, by omega⟩
    refine ⟨?_, fun ⟨k, h1, h2, _⟩ => absurd h1 (by omega), fun _ => ?_⟩
    · rw [j_authority_54, if_pos (nI_le (by omega) (by omega)), if_neg (by decide)]
    · rw [j_authority_54, if_pos (nI_le (by omega) (by omega)), if_pos rfl]
  | succ m ih =>
    intro j fu hfu hj
    obtain ⟨fu, rfl⟩ : ∃ g, fu = g + 1 := ⟨fu - 1, by omega⟩
    obtain ⟨i1, i2, i3⟩ := ih (j + 1) fu (by omega) (by omega)
    have hcm := (cmpN hf hn (k := j) (by omega) (hA j (by omega))).2
    have st : j_authority_54 (fu + 1) f tp (nI c) nm ns sc ky p (nI n) 0 (nI j) = if An j = sl f 0 n then j_authority_54 fu f tp (nI c) nm ns sc ky p (nI n) 1 (nI (j + 1)) else j_authority_54 fu f tp (nI c) nm ns sc ky p (nI n) 0 (nI (j + 1)) := by
      rw [j_authority_54, if_neg (nI_ge (by omega) (by omega)), if_pos rfl, chk_t (inN (by omega) (by omega)), nI_clamp (by omega), hcm, Option.bind_some, bnd_eq, bnd_eq, nI_1]
      by_cases hq : An j = sl f 0 n
      · rw [if_pos hq, if_pos hq, if_neg (by decide)]
      · rw [if_neg hq, if_neg hq, if_pos rfl]
    refine ⟨?_, fun ⟨k, h1, h2, h3⟩ => ?_, fun h => ?_⟩
    · rw [j_authority_54, if_neg (nI_ge (by omega) (by omega)), if_neg (by decide), bnd_eq, nI_1, i1]
    · rw [st]
      by_cases hq : An j = sl f 0 n
      · rw [if_pos hq, i1]
      · rw [if_neg hq]
        refine i2 ⟨k, ?_, h2, h3⟩
        by_cases hkj : k = j
        · subst hkj; exact absurd h3 hq
        · omega
    · rw [st, if_neg (h j (by omega) (by omega))]
      exact i3 (fun k hk => h k (by omega))
theorem a123 (hf : TP f) (hn : n ≤ 16) (hc : c < 4) {s : Nat} (hs : s < QQ) (tp : Int32) (sc ky : Nat → Int64) : ∀ (m j fu : Nat) (nm' : Nat → Int32), m < fu → j + m = n → GG nm' (16 * c) (sl f 0 j) → (∀ i, (i < 16 * c ∨ 16 * c + 16 ≤ i) → nm' i = nm i) → ∃ nm2, j_authority_123 fu f tp (nI c) nm' ns sc ky (nI s) (nI n) (nI j) = some (nI c, tp, nI (c + 1), nm2, upd ns c (nI n), vp_updL sc c (lN s), vp_updL ky c (lN (kyN s))) ∧ GG nm2 (16 * c) (sl f 0 n) ∧ (∀ i, (i < 16 * c ∨ 16 * c + 16 ≤ i) → nm2 i = nm i) := by
  have snoc : ∀ (j a : Nat), sl f a (j + 1) = sl f a j ++ [f (a + j)] := by
    intro j
    induction j with
    | zero => intro a; rfl
    | succ j ih => intro a; rw [sl, ih (a + 1), sl, show a + 1 + j = a + (j + 1) by omega]; rfl
  intro m
  induction m with
  | zero =>
    intro j fu nm' hfu hj h1 h2
    obtain ⟨fu, rfl⟩ : ∃ g, fu = g + 1 := ⟨fu - 1, by omega⟩
    have : j = n := by omega
    subst this
    refine ⟨nm', ?_, h1, h2⟩
    unfold QQ at hs
    rw [j_authority_123, if_pos (Int32.le_refl _), chk_t (inN (by omega) (by omega)), nI_clamp (by omega), bnd_eq, chk_t (by rintro (q | q); exact nI_pos (by omega) q; omega), bnd_eq, (pub (by unfold QQ; omega)).2, Option.bind_some, chk_t (by rintro (q | q); exact nI_pos (by omega) q; omega), bnd_eq, bnd_eq, nI_1, nI_pred, nI_l (by omega)]
  | succ m ih =>
    intro j fu nm' hfu hj h1 h2
    obtain ⟨fu, rfl⟩ : ∃ g, fu = g + 1 := ⟨fu - 1, by omega⟩
    rw [j_authority_123, if_neg (nI_ge (by omega) (by omega)), chk_t (inN (by omega) (by omega)), show (16 : Int32) * nI c = nI (16 * c) from pk_mul 16 c, nI_add, chk_t (inN (by omega) (by omega)), nI_clamp (by omega), nI_clamp (by omega), bnd_eq, bnd_eq, nar_isb (hf j), nI_1]
    refine ih (j + 1) fu _ (by omega) (by omega) ?_ (fun i hi => by rw [pk_un (by omega)]; exact h2 i hi)
    rw [snoc]
    refine GG_app (GG_u h1 (Or.inr (by rw [sl_l]; omega))) (GG_cons ?_ (hf _) (GG_nil _ _))
    rw [sl_l, Nat.zero_add]
    exact pk_us
end NA
theorem P_authority {c : Nat} (hc : c ≤ 4) {f : Nat → Int32} (hf : TP f) {n : Nat} (hn : n ≤ 1500) {kh : Nat → Int64} {nd : Nat → Nat → Int32} {nl : Nat → Int32} {nh : Nat → Int64} {pk se : Nat → Int32} {An : Nat → List Int32} {nm ns : Nat → Int32} (hA : ∀ k, k < c → NR (An k) (nd k) (nl k) nm (ns k) k) (sc ky : Nat → Int64) (p : Int32) :
    (∃ r, f_authority f (nI n) (nI c) nm ns sc ky p = some (r, 0, nI c, nm, ns, sc, ky) ∧ f_de_authority (kh 0) (nd 0) (nl 0) (nh 0) (pk 0) (se 0) (kh 1) (nd 1) (nl 1) (nh 1) (pk 1) (se 1) (kh 2) (nd 2) (nl 2) (nh 2) (pk 2) (se 2) (kh 3) (nd 3) (nl 3) (nh 3) (pk 3) (se 3) (nI c) f (nI n) p = some (r, kh 0, nd 0, nl 0, nh 0, pk 0, se 0, kh 1, nd 1, nl 1, nh 1, pk 1, se 1, kh 2, nd 2, nl 2, nh 2, pk 2, se 2, kh 3, nd 3, nl 3, nh 3, pk 3, se 3, nI c, 0)) ∨
    (∃ s nm2 g v1 v3 v4 v5 v6, c < 4 ∧ 1 ≤ s ∧ s < QQ ∧ p = nI s ∧ 1 ≤ n ∧ n ≤ 16 ∧ f_authority f (nI n) (nI c) nm ns sc ky p = some (nI c, 0, nI (c + 1), nm2, upd ns c (nI n), vp_updL sc c (lN s), vp_updL ky c (lN (kyN s))) ∧ f_de_authority (kh 0) (nd 0) (nl 0) (nh 0) (pk 0) (se 0) (kh 1) (nd 1) (nl 1) (nh 1) (pk 1) (se 1) (kh 2) (nd 2) (nl 2) (nh 2) (pk 2) (se 2) (kh 3) (nd 3) (nl 3) (nh 3) (pk 3) (se 3) (nI c) f (nI n) p = some (nI c, (vp_updL kh c v1) 0, (upF nd c g) 0, (upd nl c v3) 0, (vp_updL nh c v4) 0, (upd pk c v5) 0, (upd se c v6) 0, (vp_updL kh c v1) 1, (upF nd c g) 1, (upd nl c v3) 1, (vp_updL nh c v4) 1, (upd pk c v5) 1, (upd se c v6) 1, (vp_updL kh c v1) 2, (upF nd c g) 2, (upd nl c v3) 2, (vp_updL nh c v4) 2, (upd pk c v5) 2, (upd se c v6) 2, (vp_updL kh c v1) 3, (upF nd c g) 3, (upd nl c v3) 3, (vp_updL nh c v4) 3, (upd pk c v5) 3, (upd se c v6) 3, nI (c + 1), 0) ∧ GG nm2 (16 * c) (sl f 0 n) ∧ (∀ i, (i < 16 * c ∨ 16 * c + 16 ≤ i) → nm2 i = nm i) ∧ WW g v3 (sl f 0 n) ∧ v1 = khN s ∧ v3 = nI n ∧ v4 = hl (sl f 0 n) ∧ v5 = nI (kyN s) ∧ v6 = nI s) := by
  unfold f_authority f_de_authority f_de_newAuthority f_by_clear
  by_cases h16 : 1 ≤ n ∧ n ≤ 16
  · obtain ⟨e1, e2⟩ := isName_y h16.1 h16.2
    rw [e1, Option.bind_some, if_neg (show ¬ (1 : Int32) = 0 by decide), e2, Option.bind_some, if_neg (show ¬ (1 : Int32) = 0 by decide)]
    rcases sec_cases p with ⟨k1, k2⟩ | ⟨s, hs1, hs2, rfl⟩
    · rw [k1, Option.bind_some, if_pos rfl, k2, Option.bind_some, if_pos rfl]
      exact Or.inl ⟨_, rfl, rfl⟩
    · obtain ⟨k1, k2⟩ := sec_y hs1 hs2
      rw [k1, Option.bind_some, if_neg (show ¬ (1 : Int32) = 0 by decide), k2, Option.bind_some, if_neg (show ¬ (1 : Int32) = 0 by decide)]
      by_cases h4 : c = 4
      · subst h4
        have := (a54 (An := An) (nd := nd) (nl := nl) hf h16.2 hc hA 0 sc ky (nI s) 4 0 FU (by decide) rfl).1
        rw [show nI 0 = 0 from rfl] at this
        rw [if_pos (show nI 4 = 4 from rfl), this, if_neg (show ¬ nI 4 < 4 by decide)]
        exact Or.inl ⟨_, rfl, rfl⟩
      · have hc4 : c < 4 := by omega
        rw [if_neg (show ¬ nI c = 4 from fun q => h4 ((nI_eq (b := 4) (by omega) (by decide)).mp q)), if_pos (show nI c < 4 from nI_lt (b := 4) hc4 (by decide))]
        have a1 := (a54 (An := An) (nd := nd) (nl := nl) hf h16.2 hc hA 0 sc ky (nI s) c 0 FU (by unfold FU; omega) (by omega)).2
        have b1 := nw_loop (An := An) (nm := nm) (ns := ns) (kh := kh) (nh := nh) (pk := pk) (se := se) hf h16.2 hc4 hA hs2 c 0 FU (by unfold FU; omega) (by omega)
        rw [show nI 0 = 0 from rfl] at a1 b1
        by_cases hx : ∃ k, 0 ≤ k ∧ k < c ∧ An k = sl f 0 n
        · rw [a1.1 hx, b1.1 hx]
          exact Or.inl ⟨_, rfl, rfl⟩
        · have hx2 : ∀ k, 0 ≤ k → k < c → An k ≠ sl f 0 n := fun k h1 h2 h3 => hx ⟨k, h1, h2, h3⟩
          obtain ⟨g, v1, v3, v4, v5, v6, q1, q2, q3⟩ := b1.2 hx2
          obtain ⟨nm2, r1, r2, r3⟩ := a123 (nm := nm) (ns := ns) hf h16.2 hc4 hs2 0 sc ky n 0 FU nm (by unfold FU; omega) (by omega) (GG_nil _ _) (fun _ _ => rfl)
          rw [show nI 0 = 0 from rfl] at r1
          rw [a1.2 hx2, r1, q1]
          exact Or.inr ⟨s, nm2, g, v1, v3, v4, v5, v6, hc4, hs1, hs2, rfl, h16.1, h16.2, rfl, rfl, r2, r3, q2, q3⟩
  · obtain ⟨e1, e2⟩ := isName_n (by omega) h16
    rw [e1, Option.bind_some, if_pos rfl, e2, Option.bind_some, if_pos rfl]
    exact Or.inl ⟨_, rfl, rfl⟩
