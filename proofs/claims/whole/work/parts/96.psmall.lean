/-! PURE 46: small operations; to check -/
theorem P_held {c h : Nat} (hc : c ≤ 4) (hh : h ≤ 16) {O S T ga gs gt : Nat → Int32} {L gn : Nat → Int64} (hR : ∀ j, j < h → O j = ga j ∧ S j = gs j ∧ T j = gt j ∧ L j = gn j) (p0 p1 : Int32) (p2 : Int64) : f_held (nI c) (nI h) O S T L p0 p1 p2 = some (if (0 ≤ p0 ∧ p0 < nI c) ∧ 0 ≤ p1 ∧ f_ti_fits p2 = some 1 then held_lp ga gs gt gn p0 p1 p2 h else -2) := by
  have loop : ∀ (i j fu : Nat) (v5 : Int32), i < fu → j + i = h → ((v5 = -1 ∧ held_lp ga gs gt gn p0 p1 p2 j = 0) ∨ ∃ e, e < j ∧ v5 = nI e ∧ held_lp ga gs gt gn p0 p1 p2 j = if p2 ≤ gn e then gt e else 0) → j_held_32 fu (nI c) (nI h) O S T L p0 p1 p2 v5 (nI j) = some (held_lp ga gs gt gn p0 p1 p2 h) := by
    intro i
    induction i with
    | zero =>
      intro j fu v5 hfu hj hv
      obtain ⟨fu, rfl⟩ : ∃ g, fu = g + 1 := ⟨fu - 1, by omega⟩
      obtain rfl : j = h := by omega
      rw [j_held_32, if_pos (nI_le (by omega) (by omega))]
      rcases hv with ⟨rfl, e⟩ | ⟨e, he, rfl, ee⟩
      · rw [if_pos rfl, e]
      · rw [if_neg (show ¬ nI e = -1 from fun q => by have := nI_pos (n := e) (by omega); rw [q] at this; exact this (by decide)), chk_t (inN (by omega) (by omega)), nI_clamp (by omega), (hR e he).2.2.2, (hR e he).2.2.1, ee]
        by_cases q : p2 ≤ gn e
        · rw [if_pos q, if_pos q, chk_t (by rintro (q | q); exact nI_pos (by omega) q; omega)]
        · rw [if_neg q, if_neg q]
    | succ i ih =>
      intro j fu v5 hfu hj hv
      obtain ⟨fu, rfl⟩ : ∃ g, fu = g + 1 := ⟨fu - 1, by omega⟩
      obtain ⟨r1, r2, r3, r4⟩ := hR j (by omega)
      rw [j_held_32, if_neg (nI_ge (by omega) (by omega)), chk_t (inN (by omega) (by omega)), nI_clamp (by omega), r1, r2]
      have keep : held_lp ga gs gt gn p0 p1 p2 (j + 1) = held_lp ga gs gt gn p0 p1 p2 j → j_held_32 fu (nI c) (nI h) O S T L p0 p1 p2 v5 (nI (j + 1)) = some (held_lp ga gs gt gn p0 p1 p2 h) := fun e => by
        refine ih (j + 1) fu v5 (by omega) (by omega) ?_
        rw [e]
        rcases hv with hv | ⟨x, x1, x2, x3⟩
        · exact Or.inl hv
        · exact Or.inr ⟨x, by omega, x2, x3⟩
      by_cases q1 : ga j = p0
      · rw [if_pos q1, chk_t (by rintro (q | q); exact nI_pos (by omega) q; omega)]
        by_cases q2 : gs j = p1
        · rw [if_pos q2, bnd_eq, nI_1]
          exact ih (j + 1) fu (nI j) (by omega) (by omega) (Or.inr ⟨j, by omega, rfl, by rw [held_lp, if_pos q1, if_pos q2]⟩)
        · rw [if_neg q2, bnd_eq, nI_1]
          exact keep (by rw [held_lp, if_pos q1, if_neg q2])
      · rw [if_neg q1, bnd_eq, nI_1]
        exact keep (by rw [held_lp, if_neg q1])
  unfold f_held
  rw [w_isAuth hc, Option.bind_some, fits_w]
  by_cases h1 : 0 ≤ p0 ∧ p0 < nI c
  · rw [if_pos h1, if_neg i10]
    by_cases h2 : p1 < 0
    · rw [if_pos h2, if_neg (fun q => Int32.not_le.mpr h2 q.2.1)]
    · rw [if_neg h2, p_within]
      by_cases h3 : (0 : Int64) ≤ p2 ∧ p2 ≤ 3155759999
      · rw [if_pos h3, Option.bind_some, if_neg i10, if_pos ⟨h1, Int32.not_lt.mp h2, rfl⟩]
        exact loop h 0 FU (-1) (by unfold FU; omega) (by omega) (Or.inl ⟨rfl, rfl⟩)
      · rw [if_neg h3, Option.bind_some, if_pos rfl, if_neg (fun q => by have := q.2.2; exact absurd (Option.some.inj this) (by decide))]
  · rw [if_neg h1, if_pos rfl, if_neg (fun q => h1 q.1)]
/-! hold -/
def HR (h : Nat) (O S T : Nat → Int32) (L : Nat → Int64) (ga gs gt : Nat → Int32) (gn : Nat → Int64) : Prop := ∀ j, j < h → O j = ga j ∧ S j = gs j ∧ T j = gt j ∧ L j = gn j
theorem va_us {α : Type} {f : Nat → α} {k : Nat} {v : α} : va_up f k v k = v := if_pos rfl
theorem va_un {α : Type} {f : Nat → α} {k j : Nat} {v : α} (h : j ≠ k) : va_up f k v j = f j := if_neg h
theorem h103 {h : Nat} (hh : h < 16) {fd : Nat → Int64} {mh fo fs : Int32} {O S T : Nat → Int32} {L : Nat → Int64} : j_hold_103 fd mh fo fs (nI h) O S T L = some (nI h + 1, mh, nI h + 1, upd O h fo, upd S h fs, upd T h (fd 0).toInt32, vp_updL L h (fd 4)) := by
  have c16 : ¬ (nI h < 0 ∨ 16 ≤ (nI h).toNatClampNeg) := inN hh (by omega)
  unfold j_hold_103
  rw [chk_t c16, bnd_eq, chk_t c16, bnd_eq, chk_t (by decide), chk_t c16, bnd_eq, chk_t (by decide), chk_t c16, bnd_eq, bnd_eq, nI_clamp (by omega)]
  rfl
theorem HR_up {h : Nat} {O S T : Nat → Int32} {L : Nat → Int64} {ga gs gt : Nat → Int32} {gn : Nat → Int64} (hR : HR h O S T L ga gs gt gn) (a b c : Int32) (d : Int64) : HR (h + 1) (upd O h a) (upd S h b) (upd T h c) (vp_updL L h d) (va_up ga h a) (va_up gs h b) (va_up gt h c) (va_up gn h d) := by
  intro j hj
  by_cases e : j = h
  · subst e
    rw [pk_us, pk_us, pk_us, pk_uLs, va_us, va_us, va_us, va_us]
    exact ⟨rfl, rfl, rfl, rfl⟩
  · rw [pk_un e, pk_un e, pk_un e, pk_uLn e, va_un e, va_un e, va_un e, va_un e]
    exact hR j (by omega)
theorem P_hold_a {h : Nat} (hh : h < 16) {fd : Nat → Int64} {mh fo fs : Int32} {O S T : Nat → Int32} {L : Nat → Int64} (hm : ¬ mh = 0) : f_hold fd mh fo fs (nI h) O S T L = some (nI h + 1, 0, nI h + 1, upd O h fo, upd S h fs, upd T h (fd 0).toInt32, vp_updL L h (fd 4)) := by
  unfold f_hold
  rw [if_neg hm, if_neg (show ¬ nI h = 16 from fun e => by have := (nI_eq (b := 16) (by omega) (by decide)).mp e; omega)]
  exact h103 hh
theorem P_hold_n {hn : Int32} {fd : Nat → Int64} {fo fs : Int32} {O S T : Nat → Int32} {L : Nat → Int64} : f_hold fd 0 fo fs hn O S T L = some (-1, 0, hn, O, S, T, L) := by
  unfold f_hold
  rw [if_pos rfl]
theorem P_hold_r {fd : Nat → Int64} {mh fo fs : Int32} {O S T : Nat → Int32} {L : Nat → Int64} {ga gs gt : Nat → Int32} {gn : Nat → Int64} (hm : ¬ mh = 0) (hR : HR 16 O S T L ga gs gt gn) : ∃ O' S' T' L', f_hold fd mh fo fs (nI 16) O S T L = some (nI 16, 0, nI 16, O', S', T', L') ∧ HR 16 O' S' T' L' (va_up (rot ga) 15 fo) (va_up (rot gs) 15 fs) (va_up (rot gt) 15 (fd 0).toInt32) (va_up (rot gn) 15 (fd 4)) := by
  have loop : ∀ (i j fu : Nat) (O1 S1 T1 : Nat → Int32) (L1 : Nat → Int64), i < fu → j + i = 15 → HR j O1 S1 T1 L1 (rot ga) (rot gs) (rot gt) (rot gn) → (∀ x, j ≤ x → O1 x = O x ∧ S1 x = S x ∧ T1 x = T x ∧ L1 x = L x) → ∃ O' S' T' L', j_hold_35 fu fd 0 fo fs (nI 15) O1 S1 T1 L1 (nI j) = some (nI 16, 0, nI 16, O', S', T', L') ∧ HR 16 O' S' T' L' (va_up (rot ga) 15 fo) (va_up (rot gs) 15 fs) (va_up (rot gt) 15 (fd 0).toInt32) (va_up (rot gn) 15 (fd 4)) := by
    intro i
    induction i with
    | zero =>
      intro j fu O1 S1 T1 L1 hfu hj h1 h2
      obtain ⟨fu, rfl⟩ : ∃ g, fu = g + 1 := ⟨fu - 1, by omega⟩
      obtain rfl : j = 15 := by omega
      rw [j_hold_35, if_pos (by decide), h103 (by decide), nI_1]
      exact ⟨_, _, _, _, rfl, HR_up h1 _ _ _ _⟩
    | succ i ih =>
      intro j fu O1 S1 T1 L1 hfu hj h1 h2
      obtain ⟨fu, rfl⟩ : ∃ g, fu = g + 1 := ⟨fu - 1, by omega⟩
      have ca : ¬ (nI (j + 1) < 0 ∨ 16 ≤ (nI (j + 1)).toNatClampNeg) := inN (by omega) (by omega)
      have cb : ¬ (nI j < 0 ∨ 16 ≤ (nI j).toNatClampNeg) := inN (by omega) (by omega)
      have e15 : ¬ (15 : Int32) ≤ nI j := nI_ge (b := 15) (by omega) (by decide)
      rw [j_hold_35, if_neg e15, nI_1, chk_t ca, chk_t cb, bnd_eq, chk_t ca, chk_t cb, bnd_eq, chk_t ca, chk_t cb, bnd_eq, chk_t ca, chk_t cb, bnd_eq, bnd_eq, nI_clamp (n := j) (by omega), nI_clamp (n := j + 1) (by omega)]
      obtain ⟨g1, g2, g3, g4⟩ := h2 (j + 1) (by omega)
      obtain ⟨r1, r2, r3, r4⟩ := hR (j + 1) (by omega)
      refine ih (j + 1) fu _ _ _ _ (by omega) (by omega) ?_ ?_
      · intro x hx
        by_cases e : x = j
        · subst e
          rw [pk_us, pk_us, pk_us, pk_uLs, g1, g2, g3, g4, r1, r2, r3, r4]
          unfold rot
          rw [if_neg (by omega), if_neg (by omega), if_neg (by omega), if_neg (by omega)]
          exact ⟨rfl, rfl, rfl, rfl⟩
        · rw [pk_un e, pk_un e, pk_un e, pk_uLn e]
          exact h1 x (by omega)
      · intro x hx
        rw [pk_un (by omega), pk_un (by omega), pk_un (by omega), pk_uLn (by omega)]
        exact h2 x (by omega)
  unfold f_hold
  rw [if_neg hm, if_pos (show nI 16 = 16 from rfl), bnd_eq, show nI 16 - 1 = nI 15 from rfl]
  exact loop 15 0 FU O S T L (by unfold FU; omega) (by omega) (fun j hj => absurd hj (by omega)) (fun x _ => ⟨rfl, rfl, rfl, rfl⟩)
/-! found, passes, key, told -/
def FDR (hf : Int32) (fd : Nat → Int64) (lst : Int32) (lsi : Int64) (lr : Int32) (lf ln : Int64) : Prop := (hf = 0 ∧ lst = -1 ∧ lsi = -1 ∧ lr = -1 ∧ lf = -1 ∧ ln = -1) ∨ (hf = 1 ∧ fd 0 = lst.toInt64 ∧ fd 1 = lsi ∧ fd 2 = lr.toInt64 ∧ fd 3 = lf ∧ fd 4 = ln)
theorem i5_cases (p : Int32) : (f_within p.toInt64 0 4 = some 0 ∧ ¬ p = 0 ∧ ¬ p = 1 ∧ ¬ p = 2 ∧ ¬ p = 3 ∧ ¬ p = 4) ∨ p = 0 ∨ p = 1 ∨ p = 2 ∨ p = 3 ∨ p = 4 := by
  by_cases h0 : p = 0; exact Or.inr (Or.inl h0)
  by_cases h1 : p = 1; exact Or.inr (Or.inr (Or.inl h1))
  by_cases h2 : p = 2; exact Or.inr (Or.inr (Or.inr (Or.inl h2)))
  by_cases h3 : p = 3; exact Or.inr (Or.inr (Or.inr (Or.inr (Or.inl h3))))
  by_cases h4 : p = 4; exact Or.inr (Or.inr (Or.inr (Or.inr (Or.inr h4))))
  refine Or.inl ⟨p_out (fun q => ?_), h0, h1, h2, h3, h4⟩
  have q1 := Int64.le_iff_toInt_le.mp q.1
  have q2 := Int64.le_iff_toInt_le.mp q.2
  rw [Int32.toInt_toInt64] at q1 q2
  rw [show (0 : Int64).toInt = 0 from rfl] at q1
  rw [show (4 : Int64).toInt = 4 from rfl] at q2
  have n0 : p.toInt ≠ 0 := fun e => h0 (Int32.toInt_inj.mp e)
  have n1 : p.toInt ≠ 1 := fun e => h1 (Int32.toInt_inj.mp e)
  have n2 : p.toInt ≠ 2 := fun e => h2 (Int32.toInt_inj.mp e)
  have n3 : p.toInt ≠ 3 := fun e => h3 (Int32.toInt_inj.mp e)
  have n4 : p.toInt ≠ 4 := fun e => h4 (Int32.toInt_inj.mp e)
  omega
theorem P_found {hf : Int32} {fd : Nat → Int64} {lst : Int32} {lsi : Int64} {lr : Int32} {lf ln : Int64} (h : FDR hf fd lst lsi lr lf ln) (p : Int32) : ∃ r, f_found fd hf p = some r ∧ f_de_found lf ln lr lsi lst p = some r := by
  unfold f_found f_de_found
  rcases i5_cases p with ⟨e, h0, h1, h2, h3, h4⟩ | hp
  · rw [e, Option.bind_some, if_pos rfl, if_neg h0, if_neg h1, if_neg h2, if_neg h3, if_neg h4]
    exact ⟨_, rfl, rfl⟩
  · rcases h with ⟨rfl, rfl, rfl, rfl, rfl, rfl⟩ | ⟨rfl, h0, h1, h2, h3, h4⟩
    · rcases hp with rfl | rfl | rfl | rfl | rfl <;> exact ⟨-1, rfl, rfl⟩
    · rcases hp with rfl | rfl | rfl | rfl | rfl
      · exact ⟨lst.toInt64, congrArg some h0, rfl⟩
      · exact ⟨lsi, congrArg some h1, rfl⟩
      · exact ⟨lr.toInt64, congrArg some h2, rfl⟩
      · exact ⟨lf, congrArg some h3, rfl⟩
      · exact ⟨ln, congrArg some h4, rfl⟩
theorem P_passes {vr vc : Int32} (h : (vr = -1 ∧ vc = 0) ∨ (vr = vc ∧ 1 ≤ vc)) (p : Int32) : ∃ r, f_passes vr p = some r ∧ f_de_passes vc p = some r := by
  unfold f_passes f_de_passes
  rcases h with ⟨rfl, rfl⟩ | ⟨rfl, h⟩
  · rw [if_pos rfl]
    by_cases h0 : p = 0
    · rw [if_pos h0, if_pos rfl, if_neg (by decide)]
      exact ⟨_, rfl, rfl⟩
    · rw [if_neg h0, if_neg (by decide)]
      exact ⟨_, rfl, rfl⟩
  · have hp : ¬ vr = -1 := fun e => by rw [e] at h; exact absurd h (by decide)
    have hz : ¬ vr = 0 := fun e => by rw [e] at h; exact absurd h (by decide)
    rw [if_neg hp, if_neg hz]
    by_cases h0 : p = 0
    · rw [if_pos h0, if_pos h0]
      by_cases h2 : vr = 2
      · rw [if_pos h2, if_pos h2]; exact ⟨_, rfl, rfl⟩
      · rw [if_neg h2, if_neg h2]
        by_cases h3 : vr = 22
        · rw [if_pos h3, if_pos h3]; exact ⟨_, rfl, rfl⟩
        · rw [if_neg h3, if_neg h3, p_within, Option.bind_some]
          have e1 : (24 : Int64) ≤ vr.toInt64 ↔ ¬ vr < 24 := by
            rw [Int64.le_iff_toInt_le, Int32.lt_iff_toInt_lt, Int32.toInt_toInt64, show (24 : Int64).toInt = 24 from rfl, show (24 : Int32).toInt = 24 from rfl]
            omega
          have e2 : vr.toInt64 ≤ (28 : Int64) ↔ vr ≤ 28 := by
            rw [Int64.le_iff_toInt_le, Int32.le_iff_toInt_le, Int32.toInt_toInt64]
            rfl
          by_cases q1 : vr < 24
          · rw [if_pos q1, show (if (24 : Int64) ≤ vr.toInt64 ∧ vr.toInt64 ≤ 28 then (1 : Int32) else 0) = 0 from if_neg (fun q => e1.mp q.1 q1), if_pos rfl]; exact ⟨_, rfl, rfl⟩
          · rw [if_neg q1]
            by_cases q2 : vr ≤ 28
            · rw [if_pos q2, show (if (24 : Int64) ≤ vr.toInt64 ∧ vr.toInt64 ≤ 28 then (1 : Int32) else 0) = 1 from if_pos ⟨e1.mpr q1, e2.mpr q2⟩, if_neg i10]; exact ⟨_, rfl, rfl⟩
            · rw [if_neg q2, show (if (24 : Int64) ≤ vr.toInt64 ∧ vr.toInt64 ≤ 28 then (1 : Int32) else 0) = 0 from if_neg (fun q => q2 (e2.mp q.2)), if_pos rfl]; exact ⟨_, rfl, rfl⟩
    · rw [if_neg h0, if_neg h0]
      by_cases h1 : vr = 1
      · rw [if_pos h1]; exact ⟨_, rfl, rfl⟩
      · rw [if_neg h1]; exact ⟨_, rfl, rfl⟩
theorem P_key {c d : Nat} (hc : c ≤ 4) (hd : d ≤ 8) {ky sk : Nat → Int64} {apk spk : Int32} (p0 p1 : Int32) (hA : ∀ k, k < c → p1 = nI k → (ky k).toInt32 = apk) (hS : ∀ k, k < d → p1 = nI k → (sk k).toInt32 = spk) : ∃ r, f_key (nI c) ky (nI d) sk p0 p1 = some r ∧ f_de_key apk spk (nI c) (nI d) p0 p1 = some r := by
  have hj : ∃ r, j_key_20 (nI c) ky (nI d) sk p0 p1 = some r ∧ (if p0 = 1 then (if 0 ≤ p1 ∧ p1 < nI d then (chk (¬ (p1 < 0 ∨ 8 ≤ p1.toNatClampNeg)) <| some spk) else (some (-2))) else (some (-2))) = some r := by
    unfold j_key_20
    by_cases h1 : p0 = 1
    · rw [if_pos h1, if_pos h1]
      by_cases h2 : 0 ≤ p1 ∧ p1 < nI d
      · rw [w_ixy (by omega) h2, Option.bind_some, if_neg i10, if_pos h2]
        obtain ⟨P, hP, rfl⟩ := nI_of (Int32.not_lt.mpr h2.1)
        have hPd : P < d := (nI_ltI hP (by omega)).mp h2.2
        rw [chk_t (inN (by omega) (by omega)), chk_t (inN (by omega) (by omega)), nI_clamp (by omega), hS P hPd rfl]
        exact ⟨_, rfl, rfl⟩
      · rw [w_ixn (by omega) h2, Option.bind_some, if_pos rfl, if_neg h2]
        exact ⟨_, rfl, rfl⟩
    · rw [if_neg h1, if_neg h1]
      exact ⟨_, rfl, rfl⟩
  unfold f_key f_de_key
  by_cases h0 : p0 = 0
  · rw [if_pos h0, if_pos h0, w_isAuth hc, Option.bind_some]
    by_cases h2 : 0 ≤ p1 ∧ p1 < nI c
    · rw [if_pos h2, if_neg i10, if_pos h2, if_neg (show ¬ p0 = 1 by rw [h0]; decide)]
      obtain ⟨P, hP, rfl⟩ := nI_of (Int32.not_lt.mpr h2.1)
      have hPd : P < c := (nI_ltI hP (by omega)).mp h2.2
      rw [chk_t (inN (by omega) (by omega)), chk_t (inN (by omega) (by omega)), nI_clamp (by omega), hA P hPd rfl]
      exact ⟨_, rfl, rfl⟩
    · rw [if_neg h2, if_pos rfl, if_neg h2]
      exact hj
  · rw [if_neg h0, if_neg h0]
    exact hj
/-! lists, of nobody -/
theorem P_issue_no {c : Nat} (hc : c ≤ 4) {p : Int32} (h : ¬ (0 ≤ p ∧ p < nI c)) (iss rS rR : Nat → Int32) (rT T : Nat → Int64) (m : Int32) (S : Nat → Int32) (s : Int32) : f_issue (nI c) iss rS rT rR p s = some (-2, iss, rS, rT, rR) ∧ f_de_issue m S T (nI c) p s = some (-2, m, S, T) := by
  unfold f_issue f_de_issue
  rw [isA_n hc h, Option.bind_some, if_pos rfl, if_neg h]
  exact ⟨rfl, rfl⟩
theorem P_takeBack_no {c : Nat} (hc : c ≤ 4) {p : Int32} (h : ¬ (0 ≤ p ∧ p < nI c)) (iss rS rR : Nat → Int32) (rT T : Nat → Int64) (m b : Int32) (S R : Nat → Int32) (s : Int32) (t : Int64) (w : Int32) : f_takeBack (nI c) iss rS rT rR p s t w = some (-2, rT, rR) ∧ f_de_takeBack m R S T b (nI c) p s t w = some (-2, R, T, b) := by
  unfold f_takeBack f_de_takeBack
  rw [isA_n hc h, Option.bind_some, if_pos rfl, if_neg h]
  exact ⟨rfl, rfl⟩
theorem P_lift_no {c : Nat} (hc : c ≤ 4) {p : Int32} (h : ¬ (0 ≤ p ∧ p < nI c)) (iss rS rR : Nat → Int32) (rT T : Nat → Int64) (m b : Int32) (S R : Nat → Int32) (s : Int32) : f_lift (nI c) iss rS rT rR p s = some (0, rT, rR) ∧ f_de_lift m R S T b (nI c) p s = some (0, T, b) := by
  unfold f_lift f_de_lift
  rw [isA_n hc h, Option.bind_some, if_pos rfl, if_neg h]
  unfold j_lift_19
  exact ⟨by rw [if_pos rfl], rfl⟩
/-! to check -/
set_option maxHeartbeats 2000000 in
theorem P_check {f : Nat → Int32} (hf : TP f) {n : Nat} (hn : n ≤ 1500) (p : Int32) (x_at : Int32) (x_items : Int32) (x_fault : Int32) (x_start : Int32) (x_sort : Int32) (x_from : Int32) (x_to : Int32) (x_number : Int64) (x_signatureAt : Int32) (x_innerFrom : Int32) (x_innerTo : Int32) (x_certSignature : Int32) (x_issuerFrom : Int32) (x_issuerTo : Int32) (x_holderFrom : Int32) (x_holderTo : Int32) (x_certSerial : Int64) (x_certFrom : Int64) (x_certTo : Int64) (x_certKey : Int64) (x_certFlags : Int32) (x_ids : Int32) (r_idNames : (Nat → Int32)) (r_idKeys : (Nat → Int32)) (r_idSerials : (Nat → Int64)) (x_nonceFrom : Int32) (x_nonceTo : Int32) (x_status : Int32) (x_tellerSort : Int32) (x_tellerFrom : Int32) (x_tellerTo : Int32) (x_bodyFrom : Int32) (x_bodyTo : Int32) (x_bodySignature : Int32) (x_hasCert : Int32) (r_states : (Nat → Int32)) (r_whens : (Nat → Int64)) (r_whys : (Nat → Int32)) (r_fresh : (Nat → Int64)) (r_laters : (Nat → Int64)) (bodyEnd : Int32) (bodyPlace : Int32) (c_flags : Int32) (c_from : Int64) (c_innerEnd : Int32) (c_innerPlace : Int32) (c_issuerPlace : Int32) (c_issuerSize : Int32) (c_namePlace : Int32) (c_nameSize : Int32) (c_publicKey : Int64) (c_serial : Int32) (c_signature : Int64) (c_to : Int64) (FR : Nat → Int64) (hc : Int32) (cnt : Int32) (KH : Nat → Int64) (NH : Nat → Int64) (SE : Nat → Int32) (isB : Int32) (NX : Nat → Int64) (np : Int32) (nz : Int32) (RS : Nat → Int32) (sg : Int64) (SI : Nat → Int64) (ST : Nat → Int32) (status : Int32) (th : Int64) (tp : Int32) (ts : Int32) (kcnt : Int32) (kKH : Nat → Int64) (kNH : Nat → Int64) (kSE : Nat → Int32) (knp : Int32) (knz : Int32) (u1 : Int32) (u2 : Int32) (u3 : Int32) (u4 : Int32) (u5 : Int32) (O : Nat → Int32) (u6 : Int32) (u7 : Int32) : ∃ y z, f_check f (nI n) x_at x_items x_fault x_start x_sort x_from x_to x_number x_signatureAt x_innerFrom x_innerTo x_certSignature x_issuerFrom x_issuerTo x_holderFrom x_holderTo x_certSerial x_certFrom x_certTo x_certKey x_certFlags x_ids r_idNames r_idKeys r_idSerials x_nonceFrom x_nonceTo x_status x_tellerSort x_tellerFrom x_tellerTo x_bodyFrom x_bodyTo x_bodySignature x_hasCert r_states r_whens r_whys r_fresh r_laters p = some y ∧ f_de_check bodyEnd bodyPlace c_flags c_from c_innerEnd c_innerPlace c_issuerPlace c_issuerSize c_namePlace c_nameSize c_publicKey c_serial c_signature c_to FR hc cnt KH NH SE isB NX np nz RS sg SI ST status th tp ts kcnt kKH kNH kSE knp knz u1 u2 u3 u4 u5 O u6 u7 f (nI n) p = some z ∧ y.1 = z.1 := by
  unfold f_check f_de_check f_sc_begin
  rw [bnd_eq, if_neg (show ¬ Int32.ofNat 1500 < nI n from nI_nlt (b := n) hn (by decide)), Option.bind_some]
  dsimp only
  by_cases h0 : p = 0
  · subst h0
    rw [if_pos rfl, show f_within (0 : Int32).toInt64 0 2 = some 1 from p_in (by decide), Option.bind_some, if_neg i10]
    obtain ⟨y5, a1, a2⟩ := C_cert hf (a := 0) (e := n) (d := 0) (O := O) (Nat.zero_le _) hn (by decide) 0 0 0 c_flags c_from c_innerEnd c_innerPlace c_issuerPlace c_issuerSize c_namePlace c_nameSize c_publicKey c_serial c_signature c_to
    obtain ⟨y7, b1, b2⟩ := R_cert hf (a := 0) (e := n) (Nat.zero_le _) hn 0 (-1) x_start x_sort x_from x_to x_number x_signatureAt x_innerFrom x_innerTo x_certSignature x_issuerFrom x_issuerTo x_holderFrom x_holderTo x_certSerial x_certFrom x_certTo x_certKey x_certFlags
    rw [show nI 0 = 0 from rfl] at a1 b1
    unfold f_reads
    rw [if_pos rfl, a1, Option.bind_some, b1, Option.bind_some]
    cases hs : s_cert f n 0 0 with
    | inl pp =>
      rw [hs] at a2 b2
      obtain ⟨a2, a3⟩ := a2
      obtain ⟨b2, b3⟩ := b2
      have hF : ¬ y5.2.2.2.2.2.2.2.2.2.2.2.2.2.2.2.1 = -1 := by rw [a3]; exact fl_nI (by omega)
      rw [S_endText hF, Option.bind_some, if_pos b2, Option.bind_some]
      dsimp only
      unfold j_de_check_95
      rw [if_pos rfl, if_neg hF, b3, a3]
      exact ⟨_, _, rfl, rfl, rfl⟩
    | inr v =>
      rw [hs] at a2 b2
      obtain ⟨⟨q, r, O', rfl, -⟩, a3, a4, -⟩ := a2
      obtain ⟨⟨x1, x2, x3, x4, x5, x6, rfl⟩, b3, b4, -⟩ := b2
      dsimp only
      rw [if_neg i10]
      obtain ⟨y6, c1, c2⟩ := C_endText (a := v.2.1) (e := n) a4 hn v.2.2 q r
      obtain ⟨y9, d1, d2⟩ := R_ends (a := v.2.1) (e := n) a4 hn v.2.2 (-1)
      rw [c1, Option.bind_some, d1, Option.bind_some]
      cases he : p_ends n v.2.1 v.2.2 with
      | inl pp =>
        rw [he] at c2 d2
        obtain ⟨rfl, hpp⟩ := c2
        obtain ⟨d2, d3⟩ := d2
        rw [if_pos d2, Option.bind_some]
        dsimp only
        unfold j_de_check_95
        rw [if_pos rfl, if_neg (fl_nI (by omega)), d3]
        exact ⟨_, _, rfl, rfl, rfl⟩
      | inr w =>
        rw [he] at c2 d2
        obtain ⟨rfl, -⟩ := c2
        obtain ⟨rfl, -⟩ := d2
        dsimp only
        rw [if_neg i10, Option.bind_some]
        dsimp only
        unfold j_de_check_95
        rw [if_neg i10, if_pos rfl]
        exact ⟨_, _, rfl, rfl, rfl⟩
  · by_cases h1 : p = 1
    · subst h1
      rw [if_neg i10, if_pos rfl, show f_within (1 : Int32).toInt64 0 2 = some 1 from p_in (by decide), Option.bind_some, if_neg i10]
      obtain ⟨y5, a1, a2⟩ := C_ask (f := f) (n := n) (a := 0) (Nat.zero_le _) hn kcnt kKH kNH kSE knp knz 0 0 0 O
      obtain ⟨y7, b1, b2⟩ := R_ask (f := f) (n := n) (a := 0) (Nat.zero_le _) hn 0 (-1) x_start x_sort x_from x_to x_number x_ids r_idNames r_idKeys r_idSerials x_nonceFrom x_nonceTo
      rw [show nI 0 = 0 from rfl] at a1 b1
      unfold f_reads
      rw [if_neg i10, if_pos rfl, a1, Option.bind_some, b1, Option.bind_some]
      cases hs : s_ask f n 0 0 with
      | inl pp =>
        rw [hs] at a2 b2
        obtain ⟨a2, a3, -⟩ := a2
        obtain ⟨b2, b3⟩ := b2
        have hF : ¬ y5.2.2.2.2.2.2.2.2.2.1 = -1 := by rw [a3]; exact fl_nI (by omega)
        unfold j_de_check_95
        rw [chk_t (by rw [b2]; rfl), Option.bind_some, if_neg hF]
        dsimp only
        rw [if_pos b2, b3, a3]
        exact ⟨_, _, rfl, rfl, rfl⟩
      | inr v =>
        rw [hs] at a2 b2
        obtain ⟨KH', NH', SE', np', ns', x1, x2, x3, O', q, r, rfl, -, -⟩ := a2
        obtain ⟨⟨fa, y1, y2, y3, y4, y5, N, K, S, rfl, -⟩, -, -⟩ := b2
        unfold j_de_check_95
        dsimp only
        rw [chk_t (by rfl), Option.bind_some, if_pos rfl, if_neg i10]
        exact ⟨_, _, rfl, rfl, rfl⟩
    · by_cases h2 : p = 2
      · subst h2
        have h20 : ¬ (2 : Int32) = 0 := by decide
        have h21 : ¬ (2 : Int32) = 1 := by decide
        rw [if_neg h20, if_neg h21, if_pos rfl, show f_within (2 : Int32).toInt64 0 2 = some 1 from p_in (by decide), Option.bind_some, if_neg i10]
        obtain ⟨y5, a1, a2⟩ := C_answer (f := f) hf (n := n) (a := 0) (Nat.zero_le _) hn bodyEnd bodyPlace c_flags c_from c_innerEnd c_innerPlace c_issuerPlace c_issuerSize c_namePlace c_nameSize c_publicKey c_serial c_signature c_to FR hc cnt KH NH SE isB NX np nz RS sg SI ST status th tp ts 0 0 0 O
        obtain ⟨y7, b1, b2⟩ := R_answer (f := f) hf (n := n) (a := 0) (Nat.zero_le _) hn 0 (-1) x_start x_sort x_from x_to x_number x_signatureAt x_innerFrom x_innerTo x_certSignature x_issuerFrom x_issuerTo x_holderFrom x_holderTo x_certSerial x_certFrom x_certTo x_certKey x_certFlags x_ids r_idNames r_idKeys r_idSerials x_nonceFrom x_nonceTo x_status x_tellerSort x_tellerFrom x_tellerTo x_bodyFrom x_bodyTo x_bodySignature x_hasCert r_states r_whens r_whys r_fresh r_laters
        rw [show nI 0 = 0 from rfl] at a1 b1
        unfold f_reads
        rw [if_neg h20, if_neg h21, a1, Option.bind_some, b1, Option.bind_some]
        cases hs : s_answer f n 0 0 with
        | inl pp =>
          rw [hs] at a2 b2
          obtain ⟨a2, a3, -⟩ := a2
          obtain ⟨b2, b3⟩ := b2
          have hF : ¬ y5.2.2.2.2.2.2.2.2.2.2.2.2.2.2.2.2.2.2.2.2.2.2.2.2.2.2.2.2.2.2.2.2.2.2.2.1 = -1 := by rw [a3]; exact fl_nI (by omega)
          unfold j_de_check_95
          rw [chk_t (by rw [b2]; rfl), Option.bind_some, if_neg hF]
          dsimp only
          rw [if_pos b2, b3, a3]
          exact ⟨_, _, rfl, rfl, rfl⟩
        | inr v =>
          rw [hs] at a2 b2
          obtain ⟨⟨s, ob⟩, e', i'⟩ := v
          cases ob with
          | none =>
            obtain ⟨a2, a3, -⟩ := a2
            obtain ⟨b2, b3, -⟩ := b2
            unfold j_de_check_95
            rw [chk_t (by rw [b2]; rfl), Option.bind_some, if_pos a2]
            dsimp only
            rw [if_neg (by rw [b2]; exact i10), b3, a3]
            exact ⟨_, _, rfl, rfl, rfl⟩
          | some bs =>
            obtain ⟨b, sx, ce⟩ := bs
            obtain ⟨-, n0, n1, n2, n3, n4, n5, n6, n7, n8, n9, n10, n11, n12, n13, n14, n15, n16, n17, n18, n19, n20, n21, n22, n23, n24, n25, n26, n27, n28, n29, n30, n31, rfl, -⟩ := a2
            obtain ⟨-, m0, m1, m2, m3, m4, m5, m6, m7, m8, m9, m10, m11, m12, m13, m14, m15, m16, m17, m18, m19, m20, m21, m22, m23, m24, m25, m26, m27, rfl, -⟩ := b2
            unfold j_de_check_95
            dsimp only
            rw [chk_t (by rfl), Option.bind_some, if_pos rfl, if_neg i10]
            exact ⟨_, _, rfl, rfl, rfl⟩
      · have hw : f_within p.toInt64 0 2 = some 0 := p_out (fun q => by
          have q1 := Int64.le_iff_toInt_le.mp q.1
          have q2 := Int64.le_iff_toInt_le.mp q.2
          rw [Int32.toInt_toInt64] at q1 q2
          rw [show (0 : Int64).toInt = 0 from rfl] at q1
          rw [show (2 : Int64).toInt = 2 from rfl] at q2
          have n0 : p.toInt ≠ 0 := fun e => h0 (Int32.toInt_inj.mp e)
          have n1 : p.toInt ≠ 1 := fun e => h1 (Int32.toInt_inj.mp e)
          have n2 : p.toInt ≠ 2 := fun e => h2 (Int32.toInt_inj.mp e)
          omega)
        rw [if_neg h0, if_neg h1, if_neg h2, hw, Option.bind_some, if_pos rfl]
        exact ⟨_, _, rfl, rfl, rfl⟩
