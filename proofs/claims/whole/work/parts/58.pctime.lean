/-! PURE 8: times that are read, by the class -/
def SN (f : Nat → Int32) (x : Nat) : Nat → Nat
  | 0 => 0
  | k + 1 => SN f x k * 10 + (u8 (f (x + k)) - 48)
theorem SN_14 {f : Nat → Int32} {x : Nat} : SN f x 14 = w2 f x * 10 ^ 12 + w2 f (x + 2) * 10 ^ 10 + w2 f (x + 4) * 10 ^ 8 + w2 f (x + 6) * 10 ^ 6 + w2 f (x + 8) * 10 ^ 4 + w2 f (x + 10) * 100 + w2 f (x + 12) := by
  simp only [SN, w2, Nat.add_zero, Nat.add_assoc, Nat.reduceAdd]
  omega
theorem SN_lt {f : Nat → Int32} {x : Nat} : ∀ k, (∀ j, j < k → dig f (x + j)) → SN f x k < 10 ^ k := by
  intro k
  induction k with
  | zero => intro _; exact Nat.one_pos
  | succ k ih =>
    intro h
    have h1 := ih (fun j hj => h j (by omega))
    have h2 := h k (by omega)
    unfold dig at h2
    unfold SN
    rw [Nat.pow_succ]
    omega
theorem lsub_neg {a b : Nat} (ha : a < b) (hb : b < 2 ^ 31) : lN a - lN b < 0 := by
  rw [Int64.lt_iff_toInt_lt, Int64.toInt_sub, pk_lT (by omega), pk_lT (by omega), show (0 : Int64).toInt = 0 from rfl, Int.bmod]
  split <;> omega
def mtb (j : Nat) : Nat := [31, 28, 31, 30, 31, 30, 31, 31, 30, 31, 30, 31].getD j 0
theorem mdays_mt : ∀ j : Fin 12, mdays j.val = nI (mtb j.val) := by decide +kernel
theorem mt_lt : ∀ j : Fin 12, mtb j.val ≤ 31 := by decide +kernel
def cs : Nat → Nat
  | 0 => 0
  | n + 1 => cs n + mtb n
theorem cs_ms : ∀ (y : Fin 100) (m : Fin 12), ms y.val m.val = cs m.val + (if 2 ≤ m.val then (if y.val % 4 = 0 then 1 else 0) else 0) := by decide +kernel
theorem dm_mt : ∀ (y : Fin 100) (m : Fin 12), dm y.val (m.val + 1) = mtb m.val + (if m.val = 1 then (if y.val % 4 = 0 then 1 else 0) else 0) := by decide +kernel
theorem cs_le : ∀ m : Fin 13, cs m.val ≤ 365 := by decide +kernel
theorem s220 {m : Nat} (hm : m < 12) (h mi s : Int64) : ∀ (n j A fu : Nat), n < fu → j + n = m → j_ti_seconds_220 fu (nI m) h mi s (lN (A + cs j)) (nI j) = some ((((lN (A + cs m) * 86400) + (h * 3600)) + (mi * 60)) + s) := by
  intro n
  induction n with
  | zero =>
    intro j A fu hfu hj
    obtain ⟨fu, rfl⟩ : ∃ g, fu = g + 1 := ⟨fu - 1, by omega⟩
    have : j = m := by omega
    subst this
    rw [j_ti_seconds_220, if_pos (Int32.le_refl _)]
  | succ n ih =>
    intro j A fu hfu hj
    obtain ⟨fu, rfl⟩ : ∃ g, fu = g + 1 := ⟨fu - 1, by omega⟩
    have := mt_lt ⟨j, by omega⟩
    simp only at this
    rw [j_ti_seconds_220, if_neg (nI_ge (by omega) (by omega)), chk_t (inN (by omega) (by omega)), nI_clamp (by omega), show mdays j = nI (mtb j) from mdays_mt ⟨j, by omega⟩, nI_l (by omega), bnd_eq, bnd_eq, lN_add, nI_1]
    have := ih (j + 1) A fu (by omega) (by omega)
    rw [show A + cs (j + 1) = A + cs j + mtb j from (Nat.add_assoc _ _ _).symm] at this
    exact this
def secok (y m d h mi s : Nat) : Prop := y < 100 ∧ 1 ≤ m ∧ m ≤ 12 ∧ 1 ≤ d ∧ d ≤ dm y m ∧ h ≤ 23 ∧ mi ≤ 59 ∧ s ≤ 59
theorem s133 {y m d h mi s lp s0 s1 : Nat} (hy : y < 100) (hm : m < 12) (hd : d < 100) (hh : h < 100) (hmi : mi < 100) (hs : s < 100) (hlp : lp = if y % 4 = 0 then 1 else 0) (hs0 : s0 = if m = 1 then lp else 0) (hs1 : s1 = mtb m) (D : Int64) (hD : (d = 0 ∧ D < 0) ∨ (1 ≤ d ∧ D = lN (d - 1))) : (1 ≤ d ∧ d ≤ dm y (m + 1) ∧ h ≤ 23 ∧ mi ≤ 59 ∧ s ≤ 59 → j_ti_seconds_133 (lN y) (nI m) D (lN h) (lN mi) (lN s) (nI lp) (nI s0) (nI s1) = some (lN (86400 * (yd y + ms y m + (d - 1)) + 3600 * h + 60 * mi + s))) ∧ (¬ (1 ≤ d ∧ d ≤ dm y (m + 1) ∧ h ≤ 23 ∧ mi ≤ 59 ∧ s ≤ 59) → j_ti_seconds_133 (lN y) (nI m) D (lN h) (lN mi) (lN s) (nI lp) (nI s0) (nI s1) = some (-1)) := by
  have hlen := dm_mt ⟨y, hy⟩ ⟨m, hm⟩
  have hms := cs_ms ⟨y, hy⟩ ⟨m, hm⟩
  have hmt := mt_lt ⟨m, hm⟩
  have hcs := cs_le ⟨m, by omega⟩
  simp only at hlen hms hmt hcs
  rw [← hlp] at hlen hms
  rw [← hs0, ← hs1] at hlen
  have hlp1 : lp ≤ 1 := by rw [hlp]; split <;> omega
  have hs01 : s0 ≤ 1 := by rw [hs0]; split <;> omega
  have hdm := dm_lt y (m + 1)
  unfold j_ti_seconds_133
  rw [nI_add, show s1 + s0 = dm y (m + 1) from hlen.symm, bnd_eq, nI_l (by omega)]
  rcases hD with ⟨h0, hD⟩ | ⟨h0, hD⟩
  · rw [if_pos hD]
    exact ⟨fun q => by omega, fun _ => rfl⟩
  · subst hD
    rw [if_neg (show ¬ lN (d - 1) < 0 from fun q => by have := (pk_lLT (b := 0) (by omega) (by decide)).mp q; omega)]
    by_cases c1 : d ≤ dm y (m + 1)
    · rw [if_neg (fun q => by have := (pk_lLE (by omega) (by omega)).mp q; omega)]
      by_cases c2 : h ≤ 23
      · rw [if_neg (show ¬ (23 : Int64) < lN h from fun q => by have := (pk_lLT (a := 23) (by decide) (by omega)).mp q; omega)]
        by_cases c3 : mi ≤ 59
        · rw [if_neg (show ¬ (59 : Int64) < lN mi from fun q => by have := (pk_lLT (a := 59) (by decide) (by omega)).mp q; omega)]
          by_cases c4 : s ≤ 59
          · rw [if_pos (show lN s ≤ (59 : Int64) from (pk_lLE (b := 59) (by omega) (by decide)).mpr c4)]
            refine ⟨fun _ => ?_, fun q => absurd ⟨h0, c1, c2, c3, c4⟩ q⟩
            have k3 : lN y + 3 = lN (y + 3) := lN_add y 3
            have k4 : lN (y + 3) / 4 = lN ((y + 3) / 4) := pk_lDiv (b := 4) (by omega) (by decide) (by decide)
            have k5 : lN y * 365 = lN (y * 365) := lN_mul y 365
            rw [k3, k4, k5, lN_add, lN_add]
            have fin : ∀ A : Nat, A + cs m = yd y + ms y m + (d - 1) → j_ti_seconds_220 FU (nI m) (lN h) (lN mi) (lN s) (lN A) 0 = some (lN (86400 * (yd y + ms y m + (d - 1)) + 3600 * h + 60 * mi + s)) := fun A hA => by
              have := s220 hm (lN h) (lN mi) (lN s) m 0 A FU (by unfold FU; omega) (by omega)
              rw [show A + cs 0 = A from rfl, show nI 0 = 0 from rfl, hA] at this
              rw [this, show (86400 : Int64) = lN 86400 from rfl, show (3600 : Int64) = lN 3600 from rfl, show (60 : Int64) = lN 60 from rfl, lN_mul, lN_mul, lN_mul, lN_add, lN_add, lN_add]
              congr 2
              omega
            by_cases c5 : m ≤ 1
            · rw [if_pos (show nI m ≤ 1 from nI_le (b := 1) c5 (by decide)), bnd_eq]
              rw [if_neg (by omega)] at hms
              rw [show ((0 : Int32).toInt64) = lN 0 from rfl, lN_add]
              exact fin _ (by unfold yd; omega)
            · rw [if_neg (show ¬ nI m ≤ 1 from nI_ge (a := 1) (by omega) (by omega)), bnd_eq, nI_l (by omega), lN_add]
              rw [if_pos (by omega)] at hms
              exact fin _ (by unfold yd; omega)
          · rw [if_neg (show ¬ lN s ≤ (59 : Int64) from fun q => c4 ((pk_lLE (b := 59) (by omega) (by decide)).mp q))]
            exact ⟨fun q => absurd q.2.2.2.2 c4, fun _ => rfl⟩
        · rw [if_pos (show (59 : Int64) < lN mi from (pk_lLT (a := 59) (by decide) (by omega)).mpr (by omega))]
          exact ⟨fun q => absurd q.2.2.2.1 c3, fun _ => rfl⟩
      · rw [if_pos (show (23 : Int64) < lN h from (pk_lLT (a := 23) (by decide) (by omega)).mpr (by omega))]
        exact ⟨fun q => absurd q.2.2.1 c2, fun _ => rfl⟩
    · rw [if_pos ((pk_lLE (by omega) (by omega)).mpr (by omega))]
      exact ⟨fun q => absurd q.2.1 c1, fun _ => rfl⟩
theorem p_seconds {f : Nat → Int32} {x : Nat} (hg : ∀ k, k < 14 → dig f (x + k)) (hz : u8 (f (x + 14)) = 90) : f_ti_seconds (lN (SN f x 14)) = some (tv f x) := by
  have l2 := fun k (h : k + 1 < 14) => w2_lt (f := f) (k := x + k) (hg k (by omega)) (by have := hg (k + 1) h; rwa [← Nat.add_assoc] at this)
  have l0 := l2 0 (by decide)
  have l2' := l2 2 (by decide)
  have l4 := l2 4 (by decide)
  have l6 := l2 6 (by decide)
  have l8 := l2 8 (by decide)
  have l10 := l2 10 (by decide)
  have l12 := l2 12 (by decide)
  rw [Nat.add_zero] at l0
  have hS := SN_14 (f := f) (x := x)
  generalize hSS : SN f x 14 = S at hS
  unfold tv tok tn
  generalize w2 f x = c at *
  generalize w2 f (x + 2) = y at *
  generalize w2 f (x + 4) = m at *
  generalize w2 f (x + 6) = d at *
  generalize w2 f (x + 8) = h at *
  generalize w2 f (x + 10) = mi at *
  generalize w2 f (x + 12) = s at *
  have hSl : S < 2 ^ 63 := by omega
  have q1 : lN S / 10000000000 = lN (c * 100 + y) := by
    rw [show (10000000000 : Int64) = lN 10000000000 from rfl, pk_lDiv hSl (by decide) (by decide)]
    congr 1; omega
  have rem2 : ∀ (u v : Nat), 0 < u → u < 2 ^ 63 → S / u % 100 = v → lN S / lN u - lN S / lN u / 100 * 100 = lN v := fun u v h0 hu hv => by
    rw [pk_lDiv hSl h0 hu, show (100 : Int64) = lN 100 from rfl, pk_lRem (Nat.lt_of_le_of_lt (Nat.div_le_self _ _) hSl) (by decide) (by decide), hv]
  have q2 : lN S / 100000000 - lN S / 100000000 / 100 * 100 = lN m := rem2 100000000 m (by decide) (by decide) (by omega)
  have q3 : lN S / 1000000 - lN S / 1000000 / 100 * 100 = lN d := rem2 1000000 d (by decide) (by decide) (by omega)
  have q4 : lN S / 10000 - lN S / 10000 / 100 * 100 = lN h := rem2 10000 h (by decide) (by decide) (by omega)
  have q5 : lN S / 100 - lN S / 100 / 100 * 100 = lN mi := rem2 100 mi (by decide) (by decide) (by omega)
  have q6 : lN S - lN S / 100 * 100 = lN s := by
    rw [show (100 : Int64) = lN 100 from rfl, pk_lRem hSl (by decide) (by decide)]
    congr 1; omega
  unfold f_ti_seconds
  rw [q1, q2, q3, q4, q5, q6, bnd_eq, bnd_eq, bnd_eq, bnd_eq, bnd_eq, bnd_eq, lN_i]
  by_cases cc : c * 100 + y < 2000
  · rw [if_pos (show lN (c * 100 + y) - 2000 < 0 from lsub_neg (b := 2000) cc (by decide)), if_neg (fun q => by have := q.2.2.1; omega)]
  · rw [show lN (c * 100 + y) - 2000 = lN (c * 100 + y - 2000) from lN_sub (b := 2000) (by omega)]
    rw [if_neg (show ¬ lN (c * 100 + y - 2000) < 0 from fun q => by have := (pk_lLT (b := 0) (by omega) (by decide)).mp q; omega)]
    by_cases cy : 99 < c * 100 + y - 2000
    · rw [if_pos (show (99 : Int64) < lN (c * 100 + y - 2000) from (pk_lLT (a := 99) (by decide) (by omega)).mpr cy), if_neg (fun q => by have := q.2.2.1; omega)]
    · rw [if_neg (show ¬ (99 : Int64) < lN (c * 100 + y - 2000) from fun q => cy ((pk_lLT (a := 99) (by decide) (by omega)).mp q))]
      have hc : c = 20 := by omega
      rw [show c * 100 + y - 2000 = y by omega]
      by_cases cm : m = 0
      · subst cm
        rw [if_pos (by decide), if_neg (fun q => by have := q.2.2.2.1; omega)]
      · obtain ⟨m, rfl⟩ : ∃ g, m = g + 1 := ⟨m - 1, by omega⟩
        rw [show nI (m + 1) - 1 = nI m from nI_pred m, if_neg (nI_pos (by omega))]
        by_cases cm2 : m < 12
        · rw [if_pos (show nI m < 12 from nI_lt (b := 12) cm2 (by decide)), chk_t (inN (by omega) (by omega)), nI_clamp (by omega), show mdays m = nI (mtb m) from mdays_mt ⟨m, cm2⟩, show lN y - lN y / 4 * 4 = lN (y % 4) from pk_lRem (b := 4) (by omega) (by decide) (by decide)]
          have y4 : (lN (y % 4) = 0) ↔ y % 4 = 0 := pk_lEQ (b := 0) (by omega) (by decide)
          have e1 : (nI m = 1) ↔ m = 1 := nI_eq (b := 1) (by omega) (by decide)
          have hD : (d = 0 ∧ lN d - 1 < 0) ∨ (1 ≤ d ∧ lN d - 1 = lN (d - 1)) := by
            by_cases hd : d = 0
            · exact Or.inl ⟨hd, by rw [hd]; decide⟩
            · exact Or.inr ⟨by omega, lN_sub (b := 1) (by omega)⟩
          have fin : ∀ lp s0 : Nat, lp = (if y % 4 = 0 then 1 else 0) → s0 = (if m = 1 then lp else 0) → j_ti_seconds_133 (lN y) (nI m) (lN d - 1) (lN h) (lN mi) (lN s) (nI lp) (nI s0) (nI (mtb m)) = some (@ite Int64 ((∀ k, k < 14 → dig f (x + k)) ∧ u8 (f (x + 14)) = 90 ∧ c = 20 ∧ 1 ≤ m + 1 ∧ m + 1 ≤ 12 ∧ 1 ≤ d ∧ d ≤ dm y (m + 1) ∧ h ≤ 23 ∧ mi ≤ 59 ∧ s ≤ 59) (Classical.propDecidable _) (lN (86400 * (yd y + ms y (m + 1 - 1) + (d - 1)) + 3600 * h + 60 * mi + s)) (-1)) := fun lp s0 h1 h2 => by
            obtain ⟨k1, k2⟩ := s133 l2' cm2 l6 l8 l10 l12 h1 h2 rfl (lN d - 1) hD
            by_cases hall : 1 ≤ d ∧ d ≤ dm y (m + 1) ∧ h ≤ 23 ∧ mi ≤ 59 ∧ s ≤ 59
            · rw [k1 hall, if_pos ⟨hg, hz, hc, by omega, by omega, hall⟩]
              rfl
            · rw [k2 hall, if_neg (fun q => hall q.2.2.2.2.2)]
          by_cases h4 : y % 4 = 0
          · rw [if_pos (y4.mpr h4)]
            by_cases h1 : m = 1
            · rw [if_pos (e1.mpr h1)]
              exact fin 1 1 (by rw [if_pos h4]) (by rw [if_pos h1])
            · rw [if_neg (fun q => h1 (e1.mp q))]
              exact fin 1 0 (by rw [if_pos h4]) (by rw [if_neg h1])
          · rw [if_neg (fun q => h4 (y4.mp q)), ite_self, chk_t (by rintro (q | q); exact nI_pos (by omega) q; omega)]
            exact fin 0 0 (by rw [if_neg h4]) (by split <;> rfl)
        · rw [if_neg (show ¬ nI m < 12 from nI_nlt (b := 12) (by omega) (by omega)), if_neg (fun q => by have := q.2.2.2.2.1; omega)]
theorem rt_no {f : Nat → Int32} {x : Nat} (hx : x + 15 ≤ 1500) (e i pl : Int32) : ∀ (n k fu : Nat) (v : Int64), n < fu → k + n = 14 → j_sc_readTime_45 fu (nI x) f e (-1) i pl (nI 15) 1500 v 0 (nI k) = some (-1, nI (x + 15), pl, i, pl, 0) := by
  intro n
  induction n with
  | zero =>
    intro k fu v hfu hk
    obtain ⟨fu, rfl⟩ : ∃ g, fu = g + 1 := ⟨fu - 1, by omega⟩
    rw [j_sc_readTime_45, if_pos (show (14 : Int32) ≤ nI k from nI_le (a := 14) (by omega) (by omega)), bnd_eq, if_pos rfl, if_pos rfl, fl_f, nI_add]
    rfl
  | succ n ih =>
    intro k fu v hfu hk
    obtain ⟨fu, rfl⟩ : ∃ g, fu = g + 1 := ⟨fu - 1, by omega⟩
    rw [j_sc_readTime_45, if_neg (show ¬ (14 : Int32) ≤ nI k from nI_ge (b := 14) (by omega) (by decide)), nI_add, chk_t (inN (by omega) (by omega)), bnd_eq, if_pos rfl, bnd_eq, bnd_eq, nI_1, ih (k + 1) fu _ (by omega) (by omega)]
theorem rt_yes {f : Nat → Int32} (hB : ∀ j, isb (f j)) {x : Nat} (hx : x + 15 ≤ 1500) (hz : u8 (f (x + 14)) = 90) (e i pl : Int32) : ∀ (n k fu : Nat), n < fu → k + n = 14 → (∀ j, j < k → dig f (x + j)) → j_sc_readTime_45 fu (nI x) f e (-1) i pl (nI 15) 1500 (lN (SN f x k)) 1 (nI k) = if tv f x = -1 then some (-1, nI (x + 15), pl, i, pl, 0) else some (tv f x, nI (x + 15), -1, i, pl, nI 15) := by
  intro n
  induction n with
  | zero =>
    intro k fu hfu hk hg
    obtain ⟨fu, rfl⟩ : ∃ g, fu = g + 1 := ⟨fu - 1, by omega⟩
    have : k = 14 := by omega
    subst this
    rw [j_sc_readTime_45, if_pos (by decide), bnd_eq, if_neg (by decide), p_seconds hg hz, Option.bind_some, fl_f, nI_add]
    by_cases h : tv f x = -1
    · rw [if_pos h, if_pos h, h]
      rfl
    · rw [if_neg h, if_neg h]
  | succ n ih =>
    intro k fu hfu hk hg
    obtain ⟨fu, rfl⟩ : ∃ g, fu = g + 1 := ⟨fu - 1, by omega⟩
    rw [j_sc_readTime_45, if_neg (show ¬ (14 : Int32) ≤ nI k from nI_ge (b := 14) (by omega) (by decide)), nI_add, chk_t (inN (by omega) (by omega)), nI_clamp (by omega), bnd_eq, if_neg (by decide), nI_1]
    have hv := isb_v (hB (x + k))
    have hu := u8_lt (f (x + k))
    by_cases hd : dig f (x + k)
    · have e1 : f (x + k) - 48 = nI (u8 (f (x + k)) - 48) := by
        conv => lhs; rw [dig_v hB hd]
        exact sub_n (x := 48) hd.1
      have := hd.2
      rw [e1, if_neg (nI_pos (by omega)), if_neg (show ¬ (9 : Int32) < nI (u8 (f (x + k)) - 48) from nI_nlt (a := 9) (by omega) (by decide)), bnd_eq, bnd_eq, nI_l (by omega), show lN (SN f x k) * 10 = lN (SN f x k * 10) from lN_mul _ 10, lN_add]
      exact ih (k + 1) fu (by omega) (by omega) (fun j hj => by
          by_cases h : j < k
          · exact hg j h
          · rw [show j = k by omega]; exact hd)
    · have hn : tv f x = -1 := by
        unfold tv
        rw [if_neg (fun q => hd (q.1 k (by omega)))]
      have no : ∀ v : Int64, j_sc_readTime_45 fu (nI x) f e (-1) i pl (nI 15) 1500 v 0 (nI (k + 1)) = if tv f x = -1 then some (-1, nI (x + 15), pl, i, pl, 0) else some (tv f x, nI (x + 15), -1, i, pl, nI 15) := fun v => by
        rw [if_pos hn, rt_no hx e i pl n (k + 1) fu v (by omega) (by omega)]
      rw [bnd_eq, bnd_eq, bnd_eq, bnd_eq, no]
      by_cases c1 : f (x + k) - 48 < 0
      · rw [if_pos c1]
      · rw [if_neg c1, if_pos]
        have hs : (f (x + k) - 48).toInt = (f (x + k)).toInt - 48 := by
          rw [Int32.toInt_sub, show (48 : Int32).toInt = 48 from rfl, Int.bmod]
          split at hv <;> split <;> omega
        rw [Int32.lt_iff_toInt_lt, hs, show (0 : Int32).toInt = 0 from rfl] at c1
        rw [Int32.lt_iff_toInt_lt, hs, show (9 : Int32).toInt = 9 from rfl]
        unfold dig at hd
        split at hv <;> omega
noncomputable def p_time (f : Nat → Int32) (e a : Nat) (i : Int32) : Rs Int64 := rb (p_ent f 24 15 15 e a i) fun z x i' => if tv f x = -1 then .inl a else .inr (tv f x, z, i')
theorem R_time {f : Nat → Int32} {a e : Nat} (hB : ∀ j, isb (f j)) (hae : a ≤ e) (he : e ≤ 1500) (i fa st so fr to : Int32) (nu : Int64) : ok (f_time f (nI a) i fa st so fr to nu (nI e)) (ro (fun v a' i' y => (∃ x, y = (1, nI a', i', fa, nI a, 24, x, nI a', v)) ∧ a + 2 ≤ a' ∧ a' ≤ e ∧ ¬ v = -1) (fun p y => y.1 = 0 ∧ y.2.2.2.1 = nI p) (p_time f e a i)) := by
  unfold f_time p_time
  refine R_head hae he 24 i fa st so fr to (fun y h0 h1 => ?_) (fun x z h1 h2 h3 hc => ?_) (fun x z h1 h2 h3 h4 h5 _ => ?_)
  · rw [if_pos h0]
    exact ok.s ⟨rfl, h1⟩
  all_goals dsimp only
  all_goals rw [if_neg (by decide), sub_n h2]
  · rw [if_neg (show ¬ nI (z - x) = 15 from fun g => by have := (nI_eq (b := 15) (by omega) (by decide)).mp g; omega)]
    unfold j_time_44
    rw [if_pos rfl]
    exact ok.s ⟨rfl, rfl⟩
  · rw [if_pos (by rw [show z - x = 15 by omega]; rfl), p_timeOf hB (by omega), Option.bind_some]
    unfold j_time_44
    by_cases hc : tv f x = -1
    · rw [if_pos hc, if_pos hc]
      exact ok.s ⟨rfl, rfl⟩
    · rw [if_neg hc, if_neg hc]
      exact ok.s ⟨⟨_, rfl⟩, by simp only; omega, h3, hc⟩
theorem C_time {f : Nat → Int32} {a e : Nat} (hB : ∀ j, isb (f j)) (hae : a ≤ e) (he : e ≤ 1500) (i pl sz : Int32) : ok (f_sc_readTime (nI a) f (nI e) (-1) i pl sz 1500) (ro (fun v a' i' y => (∃ q r, y = (v, nI a', -1, i', q, r)) ∧ a + 2 ≤ a' ∧ a' ≤ e ∧ ¬ v = -1) (fun p y => (∃ x at' i' q r, y = (x, at', nI p, i', q, r)) ∧ p = a) (p_time f e a i)) := by
  unfold f_sc_readTime p_time
  refine C_head (lo := 15) (hi := 15) hae he (by decide) (by decide) (by decide) i pl sz (fun x => ?_) (fun x z h1 h2 h3 h4 h5 => ?_)
  · dsimp only
    rw [if_pos rfl]
    exact ok.s ⟨⟨_, _, _, _, _, rfl⟩, rfl⟩
  · dsimp only
    have ez : (f (x + 14) = 90) ↔ u8 (f (x + 14)) = 90 := isb_eq (y := 90) (hB _) (by unfold isb; decide)
    rw [if_neg (by decide), show (nI x + 15 : Int32) = nI (x + 15) from nI_add x 15, show nI (x + 15) - 1 = nI (x + 14) from nI_pred (x + 14), chk_t (inN (by omega) (by omega)), nI_clamp (by omega), show z - x = 15 by omega]
    by_cases hz : u8 (f (x + 14)) = 90
    · rw [if_pos (ez.mpr hz)]
      have := rt_yes hB (by omega) hz (nI e) (i + 1) (nI a) 14 0 FU (by decide) rfl (fun j hj => absurd hj (by omega))
      rw [show SN f x 0 = 0 from rfl, show lN 0 = 0 from rfl, show nI 0 = 0 from rfl] at this
      rw [this, show x + 15 = z by omega]
      by_cases hc : tv f x = -1
      · rw [if_pos hc, if_pos hc]
        exact ok.s ⟨⟨_, _, _, _, _, rfl⟩, rfl⟩
      · rw [if_neg hc, if_neg hc]
        exact ok.s ⟨⟨_, _, rfl⟩, by simp only; omega, h3, hc⟩
    · rw [if_neg (fun q => hz (ez.mp q))]
      have hc : tv f x = -1 := by
        unfold tv
        rw [if_neg (fun q => hz q.2.1)]
      have := rt_no (f := f) (x := x) (by omega) (nI e) (i + 1) (nI a) 14 0 FU 0 (by decide) rfl
      rw [show nI 0 = 0 from rfl] at this
      rw [this, if_pos hc]
      exact ok.s ⟨⟨_, _, _, _, _, rfl⟩, rfl⟩
