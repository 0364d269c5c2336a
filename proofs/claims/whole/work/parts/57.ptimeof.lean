/-! PURE 7: times that are read -/
def dm (y m : Nat) : Nat := if m = 2 then (if y % 4 = 0 then 29 else 28) else if m = 4 ∨ m = 6 ∨ m = 9 ∨ m = 11 then 30 else 31
theorem dm_lt (y m : Nat) : dm y m ≤ 31 ∧ 28 ≤ dm y m := by
  unfold dm
  repeat' split
  all_goals omega
theorem p_daysOf {y m : Nat} (hy : y < 2 ^ 31) (hm : m < 2 ^ 31) : f_daysOf (nI y) (nI m) = some (nI (dm y m)) := by
  have e : ∀ k : Nat, k < 2 ^ 31 → (nI m = nI k ↔ m = k) := fun k hk => nI_eq hm hk
  have r : nI y - nI y / 4 * 4 = nI (y % 4) := pk_rem (d := 4) hy (by decide) (by decide)
  have r0 : (nI (y % 4) = 0) ↔ y % 4 = 0 := nI_eq (b := 0) (by omega) (by decide)
  unfold f_daysOf j_daysOf_40 dm
  rw [r]
  have e2 : (nI m = 2) ↔ m = 2 := e 2 (by decide)
  have e4 : (nI m = 4) ↔ m = 4 := e 4 (by decide)
  have e6 : (nI m = 6) ↔ m = 6 := e 6 (by decide)
  have e9 : (nI m = 9) ↔ m = 9 := e 9 (by decide)
  have e11 : (nI m = 11) ↔ m = 11 := e 11 (by decide)
  simp only [e2, e4, e6, e9, e11, r0]
  by_cases h2 : m = 2
  · simp only [h2, if_true]
    by_cases h4 : y % 4 = 0
    · simp only [h4, if_true]; rfl
    · simp only [h4, if_false]; rfl
  · simp only [h2, if_false]
    by_cases h4 : m = 4
    · simp only [h4, if_true, true_or]; rfl
    · by_cases h6 : m = 6
      · simp only [h6, if_true, true_or, or_true]; simp; rfl
      · by_cases h9 : m = 9
        · simp only [h9]; simp; rfl
        · by_cases h11 : m = 11
          · simp only [h11]; simp; rfl
          · simp only [h4, h6, h9, h11, if_false, false_or]; rfl
def yd (y : Nat) : Nat := y * 365 + (y + 3) / 4
def ms (y : Nat) : Nat → Nat
  | 0 => 0
  | n + 1 => ms y n + dm y (n + 1)
theorem ms_le (y n : Nat) : ms y n ≤ 31 * n := by
  induction n with
  | zero => exact Nat.le_refl _
  | succ n ih => have := dm_lt y (n + 1); unfold ms; omega
/-- two digits -/
def w2 (f : Nat → Int32) (k : Nat) : Nat := 10 * (u8 (f k) - 48) + (u8 (f (k + 1)) - 48)
def dig (f : Nat → Int32) (k : Nat) : Prop := 48 ≤ u8 (f k) ∧ u8 (f k) ≤ 57
theorem dig_v {f : Nat → Int32} (hB : ∀ j, isb (f j)) {k : Nat} (h : dig f k) : f k = nI (u8 (f k)) := ((isb_code (hB k)).2 (by have := h.2; omega)).2
theorem dig_in {x : Int32} (h : isb x) : ((48 : Int64) ≤ x.toInt64 ∧ x.toInt64 ≤ 57) ↔ (48 ≤ u8 x ∧ u8 x ≤ 57) := by
  have hv := isb_v h
  have hl := u8_lt x
  rw [Int64.le_iff_toInt_le, Int64.le_iff_toInt_le, Int32.toInt_toInt64, show (48 : Int64).toInt = 48 from rfl, show (57 : Int64).toInt = 57 from rfl]
  split at hv <;> omega
theorem p_two {f : Nat → Int32} (hB : ∀ j, isb (f j)) {k : Nat} (hk : k + 1 < 1500) (h1 : dig f k) (h2 : dig f (k + 1)) : f_two f 1500 (nI k) = some (nI (w2 f k)) := by
  unfold f_two
  rw [chk_t (inN (by omega) (by omega)), nI_1, chk_t (inN (by omega) (by omega)), nI_clamp (by omega), nI_clamp (by omega), dig_v hB h1, dig_v hB h2, show (48 : Int32) = nI 48 from rfl, sub_n h1.1, show (10 : Int32) = nI 10 from rfl, pk_mul, nI_add, sub_n (by have := h2.1; omega)]
  congr 2
  unfold w2
  have := h2.1
  omega
theorem w2_lt {f : Nat → Int32} {k : Nat} (h1 : dig f k) (h2 : dig f (k + 1)) : w2 f k < 100 := by
  unfold w2
  have := h1.2
  have := h2.2
  omega
/-- the seconds of the fifteen characters at x, or -1 -/
def tok (f : Nat → Int32) (x : Nat) : Prop := w2 f x = 20 ∧ 1 ≤ w2 f (x + 4) ∧ w2 f (x + 4) ≤ 12 ∧ 1 ≤ w2 f (x + 6) ∧ w2 f (x + 6) ≤ dm (w2 f (x + 2)) (w2 f (x + 4)) ∧ w2 f (x + 8) ≤ 23 ∧ w2 f (x + 10) ≤ 59 ∧ w2 f (x + 12) ≤ 59
def tn (f : Nat → Int32) (x : Nat) : Nat := 86400 * (yd (w2 f (x + 2)) + ms (w2 f (x + 2)) (w2 f (x + 4) - 1) + (w2 f (x + 6) - 1)) + 3600 * w2 f (x + 8) + 60 * w2 f (x + 10) + w2 f (x + 12)
noncomputable def tv (f : Nat → Int32) (x : Nat) : Int64 := @ite Int64 ((∀ k, k < 14 → dig f (x + k)) ∧ u8 (f (x + 14)) = 90 ∧ tok f x) (Classical.propDecidable _) (lN (tn f x)) (-1)
theorem t196 {f : Nat → Int32} (hB : ∀ j, isb (f j)) {x y m d : Nat} (hx : x + 15 ≤ 1500) (hy : y < 100) (hm : m ≤ 12) (hd : 1 ≤ d) (hdd : d < 100) (hg : ∀ k, k < 14 → dig f (x + k)) : ∀ (n j A fu : Nat), n < fu → j + n = m → 1 ≤ j → A < 2 ^ 40 → j_timeOf_196 fu f 1500 (nI x) (nI y) (nI m) (nI d) (lN (A + ms y (j - 1))) (nI j) = some (lN (86400 * (A + ms y (m - 1) + (d - 1)) + 3600 * w2 f (x + 8) + 60 * w2 f (x + 10) + w2 f (x + 12))) := by
  have q8 : f_two f 1500 (nI x + 8) = some (nI (w2 f (x + 8))) := by
    rw [show nI x + 8 = nI (x + 8) from nI_add x 8]; exact p_two hB (by omega) (hg 8 (by decide)) (hg 9 (by decide))
  have q10 : f_two f 1500 (nI x + 10) = some (nI (w2 f (x + 10))) := by
    rw [show nI x + 10 = nI (x + 10) from nI_add x 10]; exact p_two hB (by omega) (hg 10 (by decide)) (hg 11 (by decide))
  have q12 : f_two f 1500 (nI x + 12) = some (nI (w2 f (x + 12))) := by
    rw [show nI x + 12 = nI (x + 12) from nI_add x 12]; exact p_two hB (by omega) (hg 12 (by decide)) (hg 13 (by decide))
  have l8 := w2_lt (hg 8 (by decide)) (hg 9 (by decide))
  have l10 := w2_lt (hg 10 (by decide)) (hg 11 (by decide))
  have l12 := w2_lt (hg 12 (by decide)) (hg 13 (by decide))
  intro n
  induction n with
  | zero =>
    intro j A fu hfu hj h1 hA
    obtain ⟨fu, rfl⟩ : ∃ g, fu = g + 1 := ⟨fu - 1, by omega⟩
    have : j = m := by omega
    subst this
    rw [j_timeOf_196, if_pos (Int32.le_refl _), q8, q10, q12, show nI d - 1 = nI (d - 1) from sub_n (x := 1) hd, nI_l (by omega), lN_add, bnd_eq, Option.bind_some, Option.bind_some, Option.bind_some, nI_l (by omega), nI_l (by omega), nI_l (by omega), show (86400 : Int64) = lN 86400 from rfl, show (3600 : Int64) = lN 3600 from rfl, show (60 : Int64) = lN 60 from rfl, lN_mul, lN_mul, lN_mul, lN_add, lN_add, lN_add]
  | succ n ih =>
    intro j A fu hfu hj h1 hA
    obtain ⟨fu, rfl⟩ : ∃ g, fu = g + 1 := ⟨fu - 1, by omega⟩
    have := dm_lt y j
    rw [j_timeOf_196, if_neg (nI_ge (by omega) (by omega)), p_daysOf (by omega) (by omega), Option.bind_some, nI_l (by omega), bnd_eq, bnd_eq, nI_1, lN_add]
    have hs : A + ms y (j - 1) + dm y j = A + ms y (j + 1 - 1) := by
      obtain ⟨j, rfl⟩ : ∃ g, j = g + 1 := ⟨j - 1, by omega⟩
      rw [show j + 1 + 1 - 1 = j + 1 from rfl, show j + 1 - 1 = j from rfl]
      show _ = A + (ms y j + dm y (j + 1))
      omega
    rw [hs, ih (j + 1) A fu (by omega) (by omega) (by omega) hA]
theorem t160 {f : Nat → Int32} (hB : ∀ j, isb (f j)) {x y m d : Nat} (hx : x + 15 ≤ 1500) (hy : y < 100) (h1m : 1 ≤ m) (hm : m ≤ 12) (hd : 1 ≤ d) (hdd : d < 100) (hg : ∀ k, k < 14 → dig f (x + k)) : ∀ (n k fu : Nat), n < fu → k + n = y → j_timeOf_160 fu f 1500 (nI x) (nI y) (nI m) (nI d) (lN (yd k)) (nI k) = some (lN (86400 * (yd y + ms y (m - 1) + (d - 1)) + 3600 * w2 f (x + 8) + 60 * w2 f (x + 10) + w2 f (x + 12))) := by
  intro n
  induction n with
  | zero =>
    intro k fu hfu hk
    obtain ⟨fu, rfl⟩ : ∃ g, fu = g + 1 := ⟨fu - 1, by omega⟩
    have : k = y := by omega
    subst this
    rw [j_timeOf_160, if_pos (Int32.le_refl _)]
    have := t196 hB hx hy hm hd hdd hg (m - 1) 1 (yd k) FU (by unfold FU; omega) (by omega) (by decide) (by unfold yd; omega)
    rw [show ms k (1 - 1) = 0 from rfl, Nat.add_zero, show nI 1 = 1 from rfl] at this
    exact this
  | succ n ih =>
    intro k fu hfu hk
    obtain ⟨fu, rfl⟩ : ∃ g, fu = g + 1 := ⟨fu - 1, by omega⟩
    rw [j_timeOf_160, if_neg (nI_ge (by omega) (by omega)), show nI k - nI k / 4 * 4 = nI (k % 4) from pk_rem (d := 4) (by omega) (by decide) (by decide), bnd_eq, bnd_eq, bnd_eq, bnd_eq, nI_1, show (366 : Int64) = lN 366 from rfl, show (365 : Int64) = lN 365 from rfl, lN_add, lN_add]
    by_cases h4 : k % 4 = 0
    · rw [if_pos (by rw [h4]; rfl), show yd k + 366 = yd (k + 1) by unfold yd; omega, ih (k + 1) fu (by omega) (by omega)]
    · rw [if_neg (show ¬ nI (k % 4) = 0 from fun q => h4 ((nI_eq (b := 0) (by omega) (by decide)).mp q)), show yd k + 365 = yd (k + 1) by unfold yd; omega, ih (k + 1) fu (by omega) (by omega)]
theorem p_tok {f : Nat → Int32} (hB : ∀ j, isb (f j)) {x : Nat} (hx : x + 15 ≤ 1500) (hg : ∀ k, k < 14 → dig f (x + k)) (fu : Nat) : j_timeOf_2 (fu + 1) f 1500 (nI x) (nI 14) = some (tv f x) := by
  have g2 := fun k (h : k + 1 < 14) => p_two hB (k := x + k) (by omega) (hg k (by omega)) (by have := hg (k + 1) h; rwa [← Nat.add_assoc] at this)
  have l2 := fun k (h : k + 1 < 14) => w2_lt (f := f) (k := x + k) (hg k (by omega)) (by have := hg (k + 1) h; rwa [← Nat.add_assoc] at this)
  have s : ∀ k : Nat, nI x + nI k = nI (x + k) := fun k => nI_add x k
  rw [j_timeOf_2, if_pos (show (14 : Int32) ≤ nI 14 by decide), show (2 : Int32) = nI 2 from rfl, show (4 : Int32) = nI 4 from rfl, show (6 : Int32) = nI 6 from rfl, show (8 : Int32) = nI 8 from rfl, show (10 : Int32) = nI 10 from rfl, show (12 : Int32) = nI 12 from rfl, show (14 : Int32) = nI 14 from rfl, s, s, s, s, s, s, s, g2 2 (by decide), g2 4 (by decide), g2 6 (by decide), g2 8 (by decide), g2 10 (by decide), g2 12 (by decide), show f_two f 1500 (nI x) = _ from g2 0 (by decide)]
  simp only [Option.bind_some]
  rw [chk_t (inN (by omega) (by omega)), nI_clamp (by omega)]
  have l0 := l2 0 (by decide)
  have l2' := l2 2 (by decide)
  have l4 := l2 4 (by decide)
  have l6 := l2 6 (by decide)
  have l8 := l2 8 (by decide)
  have l10 := l2 10 (by decide)
  have l12 := l2 12 (by decide)
  rw [Nat.add_zero] at l0 ⊢
  have hdm := dm_lt (w2 f (x + 2)) (w2 f (x + 4))
  have ez : (f (x + 14) = 90) ↔ u8 (f (x + 14)) = 90 := isb_eq (y := 90) (hB _) (by unfold isb; decide)
  unfold tv tok
  by_cases c0 : w2 f x = 20
  · rw [if_pos (by rw [c0]; rfl)]
    by_cases cz : u8 (f (x + 14)) = 90
    · rw [if_pos (ez.mpr cz)]
      by_cases cm : 1 ≤ w2 f (x + 4) ∧ w2 f (x + 4) ≤ 12
      · rw [nI_l (by omega), p_in (lo := 1) (hi := 12) ⟨(pk_lLE (a := 1) (by decide) (by omega)).mpr cm.1, (pk_lLE (b := 12) (by omega) (by decide)).mpr cm.2⟩, Option.bind_some, if_neg (by decide)]
        by_cases cd : 1 ≤ w2 f (x + 6)
        · rw [if_neg (show ¬ nI (w2 f (x + 6)) < 1 from nI_nlt (b := 1) cd (by omega)), p_daysOf (by omega) (by omega), Option.bind_some]
          by_cases ce : w2 f (x + 6) ≤ dm (w2 f (x + 2)) (w2 f (x + 4))
          · rw [if_neg (nI_nlt ce (by omega))]
            by_cases c8 : w2 f (x + 8) ≤ 23
            · rw [if_neg (show ¬ (23 : Int32) < nI (w2 f (x + 8)) from nI_nlt (a := 23) c8 (by decide))]
              by_cases c10 : w2 f (x + 10) ≤ 59
              · rw [if_neg (show ¬ (59 : Int32) < nI (w2 f (x + 10)) from nI_nlt (a := 59) c10 (by decide))]
                by_cases c12 : w2 f (x + 12) ≤ 59
                · rw [if_pos (show nI (w2 f (x + 12)) ≤ 59 from nI_le (b := 59) c12 (by decide)), if_pos ⟨hg, cz, c0, cm.1, cm.2, cd, ce, c8, c10, c12⟩]
                  exact t160 hB hx l2' cm.1 cm.2 cd l6 hg (w2 f (x + 2)) 0 FU (by unfold FU; omega) (by omega)
                · rw [if_neg (show ¬ nI (w2 f (x + 12)) ≤ 59 from nI_ge (a := 59) (by omega) (by omega)), if_neg (fun q => c12 q.2.2.2.2.2.2.2.2.2)]
              · rw [if_pos (show (59 : Int32) < nI (w2 f (x + 10)) from nI_lt (a := 59) (by omega) (by omega)), if_neg (fun q => c10 q.2.2.2.2.2.2.2.2.1)]
            · rw [if_pos (show (23 : Int32) < nI (w2 f (x + 8)) from nI_lt (a := 23) (by omega) (by omega)), if_neg (fun q => c8 q.2.2.2.2.2.2.2.1)]
          · rw [if_pos (nI_lt (by omega) (by omega)), if_neg (fun q => ce q.2.2.2.2.2.2.1)]
        · rw [if_pos (show nI (w2 f (x + 6)) < 1 from nI_lt (b := 1) (by omega) (by decide)), if_neg (fun q => cd q.2.2.2.2.2.1)]
      · rw [nI_l (by omega), p_out (lo := 1) (hi := 12) (fun q => cm ⟨(pk_lLE (a := 1) (by decide) (by omega)).mp q.1, (pk_lLE (b := 12) (by omega) (by decide)).mp q.2⟩), Option.bind_some, if_pos rfl, if_neg (fun q => cm ⟨q.2.2.2.1, q.2.2.2.2.1⟩)]
    · rw [if_neg (fun q => cz (ez.mp q)), if_neg (fun q => cz q.2.1)]
  · rw [if_neg (show ¬ nI (w2 f x) = 20 from fun q => c0 ((nI_eq (b := 20) (by omega) (by decide)).mp q)), if_neg (fun q => c0 q.2.2.1)]
theorem p_timeOf {f : Nat → Int32} (hB : ∀ j, isb (f j)) {x : Nat} (hx : x + 15 ≤ 1500) : f_timeOf f 1500 (nI x) = some (tv f x) := by
  unfold f_timeOf
  have main : ∀ (n k fu : Nat), n < fu → k + n = 14 → (∀ j, j < k → dig f (x + j)) → j_timeOf_2 fu f 1500 (nI x) (nI k) = some (tv f x) := by
    intro n
    induction n with
    | zero =>
      intro k fu hfu hk hg
      obtain ⟨fu, rfl⟩ : ∃ g, fu = g + 1 := ⟨fu - 1, by omega⟩
      have : k = 14 := by omega
      subst this
      exact p_tok hB hx hg fu
    | succ n ih =>
      intro k fu hfu hk hg
      obtain ⟨fu, rfl⟩ : ∃ g, fu = g + 1 := ⟨fu - 1, by omega⟩
      rw [j_timeOf_2, if_neg (show ¬ (14 : Int32) ≤ nI k from nI_ge (b := 14) (by omega) (by decide)), nI_add, chk_t (inN (by omega) (by omega)), nI_clamp (by omega)]
      by_cases hc : dig f (x + k)
      · rw [p_in ((dig_in (hB _)).mpr hc), Option.bind_some, if_neg (by decide), bnd_eq, nI_1, ih (k + 1) fu (by omega) (by omega) (fun j hj => by
          by_cases h : j < k
          · exact hg j h
          · rw [show j = k by omega]; exact hc)]
      · rw [p_out (fun q => hc ((dig_in (hB _)).mp q)), Option.bind_some, if_pos rfl]
        unfold tv
        rw [if_neg (fun q => hc (q.1 k (by omega)))]
  exact main 14 0 FU (by decide) rfl (fun j hj => absurd hj (by omega))
