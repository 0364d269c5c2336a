/-! PURE 27: the operations on bytes -/
def TP (f : Nat → Int32) : Prop := ∀ j, isb (f j)
theorem TP_u {f : Nat → Int32} (h : TP f) (k : Nat) {x : Int32} (hx : isb x) : TP (upd f k x) := fun j => by
  by_cases hj : j = k
  · subst hj; rw [pk_us]; exact hx
  · rw [pk_un hj]; exact h j
theorem ix_cases (x : Int32) {n : Nat} (hn : n < 2 ^ 31) : (x < 0 ∧ ∀ j : Nat, x ≠ nI j ∨ 2 ^ 31 ≤ j) ∨ (∃ j : Nat, n ≤ j ∧ j < 2 ^ 31 ∧ x = nI j) ∨ ∃ j : Nat, j < n ∧ x = nI j := by
  by_cases h0 : x < 0
  · refine Or.inl ⟨h0, fun j => ?_⟩
    by_cases hj : j < 2 ^ 31
    · exact Or.inl (fun e => by rw [e] at h0; exact nI_pos hj h0)
    · exact Or.inr (by omega)
  · obtain ⟨j, hj, rfl⟩ := nI_of h0
    by_cases hjn : j < n
    · exact Or.inr (Or.inr ⟨j, hjn, rfl⟩)
    · exact Or.inr (Or.inl ⟨j, by omega, hj, rfl⟩)
theorem neg_l {x : Int32} (h : x < 0) : x.toInt64 < 0 := by
  rw [Int64.lt_iff_toInt_lt, Int32.toInt_toInt64]
  exact Int32.lt_iff_toInt_lt.mp h
/-- within, for an int -/
theorem w_neg {x : Int32} (h : x < 0) {lo : Nat} (hi : Int64) (hlo : lo < 2 ^ 31) : f_within x.toInt64 (lN lo) hi = some 0 := p_out (fun g => by
  have h1 := neg_l h
  have : (0 : Int64) ≤ lN lo := (pk_lLE (a := 0) (by decide) (by omega)).mpr (by omega)
  exact Int64.not_le.mpr h1 (Int64.le_trans this g.1))
theorem w_in {j lo hi : Nat} (hj : j < 2 ^ 31) (hlo : lo ≤ j) (hhi : j ≤ hi) (h31 : hi < 2 ^ 31) : f_within (nI j).toInt64 (lN lo) (lN hi) = some 1 := by
  rw [nI_l hj]
  exact p_in ⟨(pk_lLE (by omega) (by omega)).mpr hlo, (pk_lLE (by omega) (by omega)).mpr hhi⟩
theorem w_out {j lo hi : Nat} (hj : j < 2 ^ 31) (h : j < lo ∨ hi < j) (hlo : lo < 2 ^ 31) (h31 : hi < 2 ^ 31) : f_within (nI j).toInt64 (lN lo) (lN hi) = some 0 := by
  rw [nI_l hj]
  refine p_out (fun g => ?_)
  have h1 := (pk_lLE (by omega) (by omega)).mp g.1
  have h2 := (pk_lLE (by omega) (by omega)).mp g.2
  omega
theorem w_outm {j : Nat} (hj : j < 2 ^ 31) : f_within (nI j).toInt64 (lN 0) ((nI 0 - 1).toInt64) = some 0 := by
  rw [nI_l hj]
  refine p_out (fun g => ?_)
  have : (lN j) ≤ -1 := g.2
  have h2 := Int64.le_iff_toInt_le.mp this
  rw [pk_lT (by omega), show (-1 : Int64).toInt = -1 from rfl] at h2
  omega
/-- a place in a row of n: 0 .. n-1 -/
theorem w_ix (x : Int32) {n : Nat} (hn : n < 2 ^ 31) : f_within x.toInt64 (0 : Int64) ((nI n - 1).toInt64) = some (if 0 ≤ x ∧ x < nI n then 1 else 0) := by
  rw [show (0 : Int64) = lN 0 from rfl]
  rcases ix_cases x hn with ⟨h, -⟩ | ⟨j, h1, h2, rfl⟩ | ⟨j, h1, rfl⟩
  · rw [w_neg h _ (by decide), if_neg (fun g => Int32.not_le.mpr h g.1)]
  · rw [if_neg (fun g => by have := (nI_ltI h2 hn).mp g.2; omega)]
    cases n with
    | zero => exact w_outm h2
    | succ n => rw [nI_pred, nI_l (n := n) (by omega)]; exact w_out h2 (Or.inr (by omega)) (by decide) (by omega)
  · rw [if_pos ⟨nI_pos' (by omega), (nI_ltI (by omega) hn).mpr h1⟩]
    cases n with
    | zero => omega
    | succ n => rw [nI_pred, nI_l (n := n) (by omega)]; exact w_in (by omega) (by omega) (by omega) (by omega)
theorem w_ixn {x : Int32} {n : Nat} (hn : n < 2 ^ 31) (h : ¬ (0 ≤ x ∧ x < nI n)) : f_within x.toInt64 (0 : Int64) ((nI n - 1).toInt64) = some 0 := by rw [w_ix x hn, if_neg h]
theorem w_ixy {x : Int32} {n : Nat} (hn : n < 2 ^ 31) (h : 0 ≤ x ∧ x < nI n) : f_within x.toInt64 (0 : Int64) ((nI n - 1).toInt64) = some 1 := by rw [w_ix x hn, if_pos h]
theorem fits_w (t : Int64) : f_ti_fits t = f_within t 0 3155759999 := rfl
theorem tm_of {t : Int64} (h : (0 : Int64) ≤ t ∧ t ≤ 3155759999) : ∃ T : Nat, T < 3155760000 ∧ t = lN T := by
  obtain ⟨T, hT, rfl⟩ := pk_lOf (Int64.not_lt.mpr h.1)
  have := (pk_lLE (b := 3155759999) hT (by decide)).mp h.2
  exact ⟨T, by omega, rfl⟩
/-! feed -/
theorem feed_j {v : Int64} {m : Nat} (hm : m ≤ 8) : ∀ (k j fu fv : Nat) (f : Nat → Int32) (n : Nat), k < fu → k < fv → j + k = m → n + k ≤ 1500 → TP f → ∃ g, j_feed_33 fu f (nI n) v (nI m) (nI j) = some (nI (n + k), g, nI (n + k)) ∧ j_by_addLowestFirst_3 fv f (nI n) 1500 v (nI m) (nI j) = some (g, nI (n + k)) ∧ TP g := by
  intro k
  induction k with
  | zero =>
    intro j fu fv f n hfu hfv hj hn hf
    obtain ⟨fu, rfl⟩ : ∃ g, fu = g + 1 := ⟨fu - 1, by omega⟩
    obtain ⟨fv, rfl⟩ : ∃ g, fv = g + 1 := ⟨fv - 1, by omega⟩
    exact ⟨f, by rw [j_feed_33, if_pos (nI_le (by omega) (by omega))]; rfl, by rw [j_by_addLowestFirst_3, if_pos (nI_le (by omega) (by omega))]; rfl, hf⟩
  | succ k ih =>
    intro j fu fv f n hfu hfv hj hn hf
    obtain ⟨fu, rfl⟩ : ∃ g, fu = g + 1 := ⟨fu - 1, by omega⟩
    obtain ⟨fv, rfl⟩ : ∃ g, fv = g + 1 := ⟨fv - 1, by omega⟩
    obtain ⟨g, e1, e2, e3⟩ := ih (j + 1) fu fv (upd f n (byt v j)) (n + 1) (by omega) (by omega) (by omega) (by omega) (TP_u hf n (BB_b _))
    rw [show n + 1 + k = n + (k + 1) by omega] at e1 e2
    refine ⟨g, ?_, ?_, e3⟩
    · rw [j_feed_33, if_neg (nI_ge (by omega) (by omega)), chk_t (inN (by omega) (by omega)), nI_clamp (by omega), bnd_eq, bnd_eq, bnd_eq, m8, BB8, bt_L v (by omega), nI_1, nI_1]
      exact e1
    · rw [j_by_addLowestFirst_3, if_neg (nI_ge (by omega) (by omega)), m8]
      unfold f_by_add
      rw [if_neg (show ¬ Int32.ofNat 1500 ≤ nI n from nI_ge (b := 1500) (by omega) (by decide)), chk_t (inN (by omega) (by omega)), nI_clamp (by omega), bnd_eq, bnd_eq, BB8, bt_U v (by omega), Option.bind_some, bnd_eq, nI_1, nI_1]
      exact e2
theorem P_feed {f : Nat → Int32} {n : Nat} (hn : n ≤ 1500) (hf : TP f) (v : Int64) (m : Int32) : ∃ (r : Int32) (g : Nat → Int32) (n' : Nat), f_feed f (nI n) v m = some (r, g, nI n') ∧ f_de_feed f (nI n) v m = some (r, g, nI n') ∧ n' ≤ 1500 ∧ TP g := by
  unfold f_feed f_de_feed
  rw [show (1 : Int64) = lN 1 from rfl, show (8 : Int64) = lN 8 from rfl]
  rcases ix_cases m (n := 1) (by decide) with ⟨h, -⟩ | ⟨j, h1, h2, rfl⟩ | ⟨j, h1, rfl⟩
  · rw [w_neg h _ (by decide), Option.bind_some, if_pos rfl, if_pos (show m < 1 from Int32.lt_trans h (by decide))]
    exact ⟨_, _, n, rfl, rfl, hn, hf⟩
  · rw [if_neg (show ¬ nI j < 1 from nI_nlt (b := 1) h1 h2)]
    by_cases h8 : j ≤ 8
    · rw [w_in h2 h1 h8 (by decide), Option.bind_some, if_neg (by decide), if_pos (show nI j ≤ 8 from nI_le (b := 8) h8 (by decide)), nI_add]
      by_cases hr : n + j ≤ 1500
      · obtain ⟨g, e1, e2, e3⟩ := feed_j (v := v) h8 j 0 FU FU f n (by unfold FU; omega) (by unfold FU; omega) (by omega) hr hf
        rw [show nI 0 = 0 from rfl] at e1 e2
        unfold f_by_addLowestFirst
        rw [if_pos (show nI (n + j) ≤ 1500 from nI_le (b := 1500) hr (by decide)), if_pos (show nI (n + j) ≤ 1500 from nI_le (b := 1500) hr (by decide)), e1, e2]
        exact ⟨_, _, n + j, rfl, rfl, hr, e3⟩
      · rw [if_neg (show ¬ nI (n + j) ≤ 1500 from nI_ge (a := 1500) (by omega) (by omega)), if_neg (show ¬ nI (n + j) ≤ 1500 from nI_ge (a := 1500) (by omega) (by omega))]
        exact ⟨_, _, n, rfl, rfl, hn, hf⟩
    · rw [w_out h2 (Or.inr (by omega)) (by decide) (by decide), Option.bind_some, if_pos rfl, if_neg (show ¬ nI j ≤ 8 from nI_ge (a := 8) (by omega) h2)]
      exact ⟨_, _, n, rfl, rfl, hn, hf⟩
  · rw [w_out (by omega) (Or.inl h1) (by decide) (by decide), Option.bind_some, if_pos rfl, if_pos (show nI j < 1 from nI_lt (b := 1) h1 (by decide))]
    exact ⟨_, _, n, rfl, rfl, hn, hf⟩
/-! take -/
theorem take_j {o p : Nat → Int32} {m : Nat} (hm : m ≤ 1500) (x : Int32) (ho : ∀ j, j < m → o j = p j ∧ isb (p j)) : ∀ (k j fu fv : Nat) (f : Nat → Int32), k < fu → k < fv → j + k = m → TP f → ∃ g, j_take_2 fu f x p (nI m) (nI j) = some (nI m, g, nI m) ∧ j_by_addAll_3 fv f (nI j) o (nI m) 1500 1500 (nI 0) (nI m) (nI j) = some (g, nI m) ∧ TP g := by
  intro k
  induction k with
  | zero =>
    intro j fu fv f hfu hfv hj hf
    obtain ⟨fu, rfl⟩ : ∃ g, fu = g + 1 := ⟨fu - 1, by omega⟩
    obtain ⟨fv, rfl⟩ : ∃ g, fv = g + 1 := ⟨fv - 1, by omega⟩
    have : j = m := by omega
    subst this
    exact ⟨f, by rw [j_take_2, if_pos (Int32.le_refl _)], by rw [j_by_addAll_3, if_pos (Int32.le_refl _)], hf⟩
  | succ k ih =>
    intro j fu fv f hfu hfv hj hf
    obtain ⟨fu, rfl⟩ : ∃ g, fu = g + 1 := ⟨fu - 1, by omega⟩
    obtain ⟨fv, rfl⟩ : ∃ g, fv = g + 1 := ⟨fv - 1, by omega⟩
    obtain ⟨h1, h2⟩ := ho j (by omega)
    obtain ⟨g, e1, e2, e3⟩ := ih (j + 1) fu fv (upd f j (p j)) (by omega) (by omega) (by omega) (TP_u hf j h2)
    refine ⟨g, ?_, ?_, e3⟩
    · rw [j_take_2, if_neg (nI_ge (by omega) (by omega)), chk_t (inN (by omega) (by omega)), chk_t (inN (by omega) (by omega)), nI_clamp (by omega), bnd_eq, bnd_eq, nar_isb h2, nI_1]
      exact e1
    · rw [j_by_addAll_3, if_neg (nI_ge (by omega) (by omega)), nI_add, Nat.zero_add, p_byteAt (by omega) hm (by omega), Option.bind_some]
      unfold f_by_add
      rw [if_neg (show ¬ Int32.ofNat 1500 ≤ nI j from nI_ge (b := 1500) (by omega) (by decide)), chk_t (inN (by omega) (by omega)), nI_clamp (by omega), bnd_eq, bnd_eq, BB8, h1, BB_and h2, Option.bind_some, bnd_eq, nI_1]
      exact e2
theorem P_take {f : Nat → Int32} (hf : TP f) (n : Int32) {o p : Nat → Int32} {a b : Int32} {A : List Int32} (ho : WW o a A) (hp : WW p b A) (hA : A.length ≤ 1500) : ∃ g, f_take f n p b = some (nI A.length, g, nI A.length) ∧ f_de_take o a f n = some (nI A.length, g, nI A.length) ∧ TP g := by
  obtain ⟨rfl, ho⟩ := ho
  obtain ⟨rfl, hp⟩ := hp
  obtain ⟨g, e1, e2, e3⟩ := take_j (o := o) (p := p) hA n (fun j hj => by
    have h1 := ho j A[j] (List.getElem?_eq_getElem hj)
    have h2 := hp j A[j] (List.getElem?_eq_getElem hj)
    rw [Nat.zero_add] at h1 h2
    exact ⟨by rw [h1.1, h2.1], by rw [h2.1]; exact h2.2⟩) A.length 0 FU FU f (by unfold FU; omega) (by unfold FU; omega) (by omega) hf
  rw [show nI 0 = 0 from rfl] at e1 e2
  unfold f_take f_de_take f_by_copyOf f_by_clear f_by_addAll
  rw [e1, Option.bind_some, e2]
  exact ⟨g, rfl, rfl, e3⟩
theorem xor8 (x y : Int32) : ((x ^^^ y.toInt8.toInt32).toInt8.toInt32) = ((x ^^^ y).toInt8.toInt32) := by
  have h : u8 (x ^^^ y.toInt8.toInt32) = u8 (x ^^^ y) := by
    have e : ∀ a b : Int32, u8 (a ^^^ b) = u8 a ^^^ u8 b := fun a b => by
      unfold u8
      rw [Int32.toBitVec_xor, BitVec.toNat_xor, show (256 : Nat) = 2 ^ 8 from rfl, Nat.xor_mod_two_pow]
    rw [e, e]
    have := u8_nar y
    rw [vp_nar_byte] at this
    rw [this]
  exact nar_congr h
theorem P_spoil {f : Nat → Int32} {n : Nat} (hn : n ≤ 1500) (hf : TP f) (i m : Int32) : ∃ (r : Int32) (g : Nat → Int32), f_spoil f (nI n) i m = some (r, g) ∧ f_de_spoil f (nI n) i m = some (r, g) ∧ TP g := by
  unfold f_spoil f_de_spoil
  rcases ix_cases i (n := n) (by omega) with ⟨h, -⟩ | ⟨j, h1, h2, rfl⟩ | ⟨j, h1, rfl⟩
  · rw [w_ixn (by omega) (fun g => Int32.not_le.mpr h g.1), Option.bind_some, if_pos rfl, if_pos h]
    exact ⟨_, _, rfl, rfl, hf⟩
  · rw [w_ixn (by omega) (fun g => by have := (nI_ltI h2 (by omega)).mp g.2; omega), Option.bind_some, if_pos rfl, if_neg (nI_pos h2), if_neg (nI_nlt h1 h2)]
    exact ⟨_, _, rfl, rfl, hf⟩
  · rw [w_ixy (by omega) ⟨nI_pos' (by omega), (nI_ltI (by omega) (by omega)).mpr h1⟩, Option.bind_some, if_neg (by decide), if_neg (nI_pos (by omega)), if_pos (nI_lt h1 (by omega)), chk_t (inN (by omega) (by omega)), chk_t (inN (by omega) (by omega)), nI_clamp (by omega), xor8, bnd_eq, bnd_eq, p_byteAt h1 hn (by omega), Option.bind_some]
    exact ⟨_, _, rfl, rfl, TP_u hf j (by rw [BB8]; exact BB_b _)⟩
theorem P_cut {n : Nat} (hn : n ≤ 1500) (i : Int32) : ∃ (r : Int32) (n' : Nat), f_cut (nI n) i = some (r, nI n') ∧ f_de_cut (nI n) i = some (r, nI n') ∧ n' ≤ n := by
  unfold f_cut f_de_cut
  rw [show (0 : Int64) = lN 0 from rfl, nI_l (n := n) (by omega)]
  rcases ix_cases i (n := n + 1) (by omega) with ⟨h, -⟩ | ⟨j, h1, h2, rfl⟩ | ⟨j, h1, rfl⟩
  · rw [w_neg h _ (by decide), Option.bind_some, if_pos rfl, if_pos h]
    exact ⟨_, n, rfl, rfl, Nat.le_refl _⟩
  · rw [w_out h2 (Or.inr (by omega)) (by decide) (by omega), Option.bind_some, if_pos rfl, if_neg (nI_pos h2), if_neg (nI_ge (by omega) h2)]
    exact ⟨_, n, rfl, rfl, Nat.le_refl _⟩
  · rw [w_in (by omega) (by omega) (by omega) (by omega), Option.bind_some, if_neg (by decide), if_neg (nI_pos (by omega)), if_pos (nI_le (by omega) (by omega))]
    exact ⟨_, j, rfl, rfl, by omega⟩
theorem P_out {o p : Nat → Int32} {a b : Int32} {A : List Int32} (ho : WW o a A) (hp : WW p b A) (hA : A.length ≤ 1500) (i : Int32) : ∃ r, f_out p b i = some r ∧ f_de_out o a i = some r := by
  obtain ⟨rfl, ho⟩ := ho
  obtain ⟨rfl, hp⟩ := hp
  unfold f_out f_de_out
  rcases ix_cases i (n := A.length) (by omega) with ⟨h, -⟩ | ⟨j, h1, h2, rfl⟩ | ⟨j, h1, rfl⟩
  · rw [w_ixn (by omega) (fun g => Int32.not_le.mpr h g.1), Option.bind_some, if_pos rfl]
    unfold f_by_byteAt
    rw [if_pos h]
    exact ⟨_, rfl, rfl⟩
  · rw [w_ixn (by omega) (fun g => by have := (nI_ltI h2 (by omega)).mp g.2; omega), Option.bind_some, if_pos rfl]
    unfold f_by_byteAt
    rw [if_neg (nI_pos h2), if_pos (nI_le h1 h2)]
    exact ⟨_, rfl, rfl⟩
  · rw [w_ixy (by omega) ⟨nI_pos' (by omega), (nI_ltI (by omega) (by omega)).mpr h1⟩, Option.bind_some, if_neg (by decide), chk_t (inN (by omega) (by omega)), nI_clamp (by omega), p_byteAt h1 hA (by omega), Option.bind_some]
    have e1 := (ho j A[j] (List.getElem?_eq_getElem h1)).1
    have e2 := (hp j A[j] (List.getElem?_eq_getElem h1)).1
    rw [Nat.zero_add] at e1 e2
    rw [e1, e2]
    exact ⟨_, rfl, rfl⟩
/-! nonce -/
theorem non_j {v : Int64} {m : Nat} (hm : m ≤ 8) (x : Int32) : ∀ (k j fu : Nat) (f : Nat → Int32), k < fu → j + k = m → GG f 0 (lbl v 0 j) → ok (j_nonce_18 fu f x v (nI m) (nI j)) (fun y => y.1 = nI m ∧ WW y.2.1 y.2.2 (lbl v 0 m)) := by
  have snoc : ∀ (j a : Nat), lbl v a (j + 1) = lbl v a j ++ [byt v (a + j)] := by
    intro j
    induction j with
    | zero => intro a; rfl
    | succ j ih => intro a; rw [lbl, ih (a + 1), lbl, show a + 1 + j = a + (j + 1) by omega]; rfl
  intro k
  induction k with
  | zero =>
    intro j fu f hfu hj h
    obtain ⟨fu, rfl⟩ : ∃ g, fu = g + 1 := ⟨fu - 1, by omega⟩
    have : j = m := by omega
    subst this
    rw [j_nonce_18, if_pos (Int32.le_refl _)]
    exact ok.s ⟨rfl, by rw [lbl_l], h⟩
  | succ k ih =>
    intro j fu f hfu hj h
    obtain ⟨fu, rfl⟩ : ∃ g, fu = g + 1 := ⟨fu - 1, by omega⟩
    rw [j_nonce_18, if_neg (nI_ge (by omega) (by omega)), chk_t (inN (by omega) (by omega)), nI_clamp (by omega), bnd_eq, bnd_eq, m8, BB8, bt_L v (by omega), nI_1]
    refine ih (j + 1) fu _ (by omega) (by omega) ?_
    rw [snoc]
    refine GG_app (GG_u h (Or.inr (by rw [lbl_l]; omega))) (GG_cons ?_ (BB_b _) (GG_nil _ _))
    rw [lbl_l, Nat.zero_add]
    exact pk_us
theorem pu_low {N : Nat} (hN : N < 2 ^ 31) (v : Int64) {c : Nat} (hc : c ≤ 8) : ∀ (m k fu : Nat) (f : Nat → Int32) (n : Int32) (L : List Int32), m < fu → k + m = c → WW f n L → L.length + m ≤ N → ok (j_by_addLowestFirst_3 fu f n N v (nI c) (nI k)) (fun y => WW y.1 y.2 (L ++ lbl v k m)) := by
  intro m
  induction m with
  | zero =>
    intro k fu f n L hfu hk h hl
    obtain ⟨fu, rfl⟩ : ∃ g, fu = g + 1 := ⟨fu - 1, by omega⟩
    rw [j_by_addLowestFirst_3, if_pos (nI_le (by omega) (by omega))]
    refine ok.s ?_
    unfold lbl
    rw [List.append_nil]
    exact h
  | succ m ih =>
    intro k fu f n L hfu hk h hl
    obtain ⟨fu, rfl⟩ : ∃ g, fu = g + 1 := ⟨fu - 1, by omega⟩
    rw [j_by_addLowestFirst_3, if_neg (nI_ge (by omega) (by omega)), m8]
    refine ok.b (pu_add hN h (by omega) _) (fun y hy => ?_)
    rw [bnd_eq, nI_1]
    rw [bt_U v (by omega)] at hy
    have := ih (k + 1) fu y.1 y.2 _ (by omega) (by omega) hy (by simp; omega)
    rw [app1] at this
    exact this
theorem P_nonce {o p : Nat → Int32} {a b : Int32} {A : List Int32} (ho : WW o a A) (hp : WW p b A) (hA : A.length ≤ 8) (v : Int64) (i : Int32) : ∃ y z, f_nonce p b v i = some y ∧ f_de_nonce o a v i = some z ∧ y.1 = z.1 ∧ ∃ B, WW y.2.1 y.2.2 B ∧ WW z.2.1 z.2.2 B ∧ B.length ≤ 8 := by
  unfold f_nonce f_de_nonce
  rw [show (0 : Int64) = lN 0 from rfl, show (8 : Int64) = lN 8 from rfl]
  rcases ix_cases i (n := 9) (by decide) with ⟨h, -⟩ | ⟨j, h1, h2, rfl⟩ | ⟨j, h1, rfl⟩
  · rw [w_neg h _ (by decide), Option.bind_some, if_pos rfl, if_pos h]
    exact ⟨_, _, rfl, rfl, rfl, A, hp, ho, hA⟩
  · rw [w_out h2 (Or.inr (by omega)) (by decide) (by decide), Option.bind_some, if_pos rfl, if_neg (nI_pos h2), if_neg (show ¬ nI j ≤ 8 from nI_ge (a := 8) (by omega) h2)]
    exact ⟨_, _, rfl, rfl, rfl, A, hp, ho, hA⟩
  · obtain ⟨y, e1, e2, e3⟩ := non_j (v := v) (m := j) (by omega) b j 0 FU p (by unfold FU; omega) (by omega) (GG_nil _ _)
    obtain ⟨z, k1, k2⟩ := pu_low (N := 8) (by decide) v (c := j) (by omega) j 0 FU o 0 [] (by unfold FU; omega) (by omega) (WW_nil o) (by simp; omega)
    rw [show nI 0 = 0 from rfl] at e1 k1
    rw [List.nil_append] at k2
    unfold f_by_clear f_by_addLowestFirst
    rw [w_in (by omega) (by omega) (by omega) (by decide), Option.bind_some, if_neg (by decide), if_neg (nI_pos (by omega)), if_pos (show nI j ≤ 8 from nI_le (b := 8) (by omega) (by decide)), e1, Option.bind_some, k1, Option.bind_some]
    exact ⟨_, _, rfl, rfl, e2, _, e3, k2, by rw [lbl_l]; omega⟩
theorem P_clock (g : Nat → Int32) (t : Int64) (i : Int32) : ∃ r g', f_clock g t i = some (r, g') ∧ f_de_clock t i = some r := by
  unfold f_clock f_de_clock
  rw [fits_w]
  by_cases ht : (0 : Int64) ≤ t ∧ t ≤ 3155759999
  · obtain ⟨T, hT, rfl⟩ := tm_of ht
    rw [p_in ht, Option.bind_some, if_neg (by decide), Option.bind_some, if_neg (by decide), show (0 : Int64) = lN 0 from rfl, show (14 : Int64) = lN 14 from rfl]
    rcases ix_cases i (n := 15) (by decide) with ⟨h, -⟩ | ⟨j, h1, h2, rfl⟩ | ⟨j, h1, rfl⟩
    · rw [w_neg h _ (by decide), Option.bind_some, if_pos rfl, if_pos h]
      exact ⟨_, _, rfl, rfl⟩
    · rw [w_out h2 (Or.inr (by omega)) (by decide) (by decide), Option.bind_some, if_pos rfl, if_neg (nI_pos h2), if_neg (show ¬ nI j < 15 from nI_nlt (b := 15) h1 h2)]
      exact ⟨_, _, rfl, rfl⟩
    · rw [w_in (by omega) (by omega) (by omega) (by decide), Option.bind_some, if_neg (by decide), if_neg (nI_pos (by omega)), if_pos (show nI j < 15 from nI_lt (b := 15) h1 (by decide)), p_show hT, Option.bind_some, p_char hT g h1, Option.bind_some, p_stamp hT, Option.bind_some, pu_char hT h1, Option.bind_some]
      exact ⟨_, _, rfl, rfl⟩
  · rw [p_out ht, Option.bind_some, if_pos rfl, Option.bind_some, if_pos rfl]
    exact ⟨_, _, rfl, rfl⟩
theorem GG_sl {f : Nat → Int32} (hf : TP f) (a n : Nat) : GG f a (sl f a n) := by
  induction n generalizing a with
  | zero => exact GG_nil _ _
  | succ n ih => exact GG_cons rfl (hf _) (ih (a + 1))
theorem P_hash {f : Nat → Int32} {n : Nat} (hn : n ≤ 1500) (hf : TP f) (x : Int64) : ∃ r x', f_hash f (nI n) x = some (r, x') ∧ f_de_hash f (nI n) = some r := by
  have hg := GG_sl hf 0 n
  have e1 := p_hashOf (N := 1500) hg (by rw [sl_l]; omega) (by decide) (by rw [sl_l]; unfold FU; omega) x
  have e2 := pu_digest (N := 1500) (M := n) hg (by rw [sl_l]; omega) hn (by omega) (by rw [sl_l]; unfold FU; omega)
  rw [sl_l, Nat.zero_add, show nI 0 = 0 from rfl] at e1 e2
  unfold f_hash f_de_hash
  rw [e1, e2]
  exact ⟨_, _, rfl, rfl⟩
