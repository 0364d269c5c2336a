/-! PURE 19: times that are written, by the class -/
theorem cm_b {y : Nat} : ∀ n i m d, m ≤ i → (cmL y n i m d).1 ≤ i + n ∧ (cmL y n i m d).2 ≤ d := by
  intro n
  induction n with
  | zero => intro i m d h; exact ⟨by show m ≤ _; omega, Nat.le_refl _⟩
  | succ n ih =>
    intro i m d h
    rw [cmL]
    split
    · have := ih (i + 1) (m + 1) (d - ln y i) (by omega)
      omega
    · have := ih (i + 1) m d (by omega)
      omega
theorem ln_b {y i : Nat} (h : i < 12) : ln y i ≤ 32 := by
  have := mt_lt ⟨i, h⟩
  simp only at this
  unfold ln
  split <;> omega
theorem s64 {t D y : Nat} (ht : t < 2 ^ 40) (hD : D < 2 ^ 20) (hy : y ≤ 3) : ∀ (n i m d fu : Nat), n < fu → i + n = 11 → m ≤ i → d < 1000 → j_ti_stamp_64 fu (lN t) (lN D) (lN y) (lN d) (nI m) (nI i) = some (lN (((2000 + D / 1461 * 4 + y) * 10000 + ((cmL y n i m d).1 + 1) * 100 + (cmL y n i m d).2 + 1) * 1000000 + t % 86400 / 3600 * 10000 + t % 86400 / 60 % 60 * 100 + t % 86400 % 60)) := by
  intro n
  induction n with
  | zero =>
    intro i m d fu hfu hi hm hd
    obtain ⟨fu, rfl⟩ : ∃ g, fu = g + 1 := ⟨fu - 1, by omega⟩
    have hs : t % 86400 < 86400 := Nat.mod_lt _ (by decide)
    rw [j_ti_stamp_64, if_pos (show (11 : Int32) ≤ nI i from nI_le (a := 11) (by omega) (by omega))]
    rw [show lN t - lN t / 86400 * 86400 = lN (t % 86400) from pk_lRem (b := 86400) (by omega) (by decide) (by decide), bnd_eq, bnd_eq]
    rw [show lN D / 1461 = lN (D / 1461) from pk_lDiv (b := 1461) (by omega) (by decide) (by decide), show lN (D / 1461) * 4 = lN (D / 1461 * 4) from lN_mul _ 4, show (2000 : Int64) + lN (D / 1461 * 4) = lN (2000 + D / 1461 * 4) from lN_add 2000 _, lN_add, show lN (2000 + D / 1461 * 4 + y) * 10000 = lN ((2000 + D / 1461 * 4 + y) * 10000) from lN_mul _ 10000, nI_1, show nI (m + 1) * 100 = nI ((m + 1) * 100) from pk_mul _ 100, nI_l (by omega), lN_add, lN_add, lN_1, show lN (t % 86400) / 3600 = lN (t % 86400 / 3600) from pk_lDiv (b := 3600) (by omega) (by decide) (by decide), show lN (t % 86400) / 60 = lN (t % 86400 / 60) from pk_lDiv (b := 60) (by omega) (by decide) (by decide)]
    rw [show lN (t % 86400 / 60) - lN (t % 86400 / 60) / 60 * 60 = lN (t % 86400 / 60 % 60) from pk_lRem (b := 60) (by omega) (by decide) (by decide), show lN (t % 86400) - lN (t % 86400 / 60) * 60 = lN (t % 86400 % 60) from (by rw [show lN (t % 86400 / 60) * 60 = lN (t % 86400 / 60 * 60) from lN_mul _ 60, lN_sub (by omega)]; congr 1; omega)]
    rw [show (1000000 : Int64) = lN 1000000 from rfl, show (10000 : Int64) = lN 10000 from rfl, show (100 : Int64) = lN 100 from rfl, lN_mul, lN_mul, lN_mul, lN_add, lN_add, lN_add]
    rfl
  | succ n ih =>
    intro i m d fu hfu hi hm hd
    obtain ⟨fu, rfl⟩ : ∃ g, fu = g + 1 := ⟨fu - 1, by omega⟩
    have hl := ln_b (y := y) (i := i) (by omega)
    have e1 : (nI i = 1) ↔ i = 1 := nI_eq (b := 1) (by omega) (by decide)
    have ey : (lN y = 0) ↔ y = 0 := pk_lEQ (b := 0) (by omega) (by decide)
    have em : (nI m = nI i) ↔ m = i := nI_eq (by omega) (by omega)
    have hmd : mdays i = nI (mtb i) := mdays_mt ⟨i, by omega⟩
    have fin : ∀ l : Nat, l = ln y i → (bnd (nI l) fun v12_28 => if nI m = nI i then (if lN d < v12_28.toInt64 then (bnd (nI i + 1) fun v11_32 => j_ti_stamp_64 fu (lN t) (lN D) (lN y) (lN d) (nI m) v11_32) else (bnd (lN d - v12_28.toInt64) fun v8_33 => bnd (nI m + 1) fun v10_34 => bnd (nI i + 1) fun v11_35 => j_ti_stamp_64 fu (lN t) (lN D) (lN y) v8_33 v10_34 v11_35)) else (bnd (nI i + 1) fun v11_30 => j_ti_stamp_64 fu (lN t) (lN D) (lN y) (lN d) (nI m) v11_30)) = some (lN (((2000 + D / 1461 * 4 + y) * 10000 + ((cmL y (n + 1) i m d).1 + 1) * 100 + (cmL y (n + 1) i m d).2 + 1) * 1000000 + t % 86400 / 3600 * 10000 + t % 86400 / 60 % 60 * 100 + t % 86400 % 60)) := fun l hll => by
      rw [bnd_eq, bnd_eq, bnd_eq, bnd_eq, bnd_eq, nI_1, nI_1, nI_l (by omega), cmL]
      by_cases hmi : m = i
      · rw [if_pos (em.mpr hmi)]
        by_cases hdl : d < l
        · rw [if_pos ((pk_lLT (by omega) (by omega)).mpr hdl), if_neg (fun q => by omega)]
          exact ih (i + 1) m d fu (by omega) (by omega) (by omega) hd
        · rw [if_neg (fun q => hdl ((pk_lLT (by omega) (by omega)).mp q)), if_pos ⟨hmi, by omega⟩, lN_sub (by omega), hll]
          exact ih (i + 1) (m + 1) (d - ln y i) fu (by omega) (by omega) (by omega) (by omega)
      · rw [if_neg (fun q => hmi (em.mp q)), if_neg (fun q => hmi q.1)]
        exact ih (i + 1) m d fu (by omega) (by omega) (by omega) hd
    rw [j_ti_stamp_64, if_neg (show ¬ (11 : Int32) ≤ nI i from nI_ge (b := 11) (by omega) (by decide)), chk_t (inN (by omega) (by omega)), nI_clamp (by omega), hmd]
    by_cases h1 : i = 1
    · rw [if_pos (e1.mpr h1)]
      by_cases hy0 : y = 0
      · rw [if_pos (ey.mpr hy0), nI_1]
        exact fin _ (by unfold ln; rw [if_pos ⟨h1, hy0⟩])
      · rw [if_neg (fun q => hy0 (ey.mp q)), Int32.add_zero]
        exact fin _ (by unfold ln; rw [if_neg (fun q => hy0 q.2)]; rfl)
    · rw [if_neg (fun q => h1 (e1.mp q)), Int32.add_zero]
      exact fin _ (by unfold ln; rw [if_neg (fun q => h1 q.1)]; rfl)
theorem p_stamp {t : Nat} (ht : t < 3155760000) : f_ti_stamp (lN t) = some (lN (SS t)) := by
  unfold f_ti_stamp j_ti_stamp_34
  have hx : t / 86400 % 1461 < 1461 := Nat.mod_lt _ (by decide)
  have hyf := (sh_all ⟨t / 86400 % 1461, hx⟩).2.2.2
  simp only at hyf
  rw [show lN t / 86400 = lN (t / 86400) from pk_lDiv (b := 86400) (by omega) (by decide) (by decide), bnd_eq, show lN (t / 86400) - lN (t / 86400) / 1461 * 1461 = lN (t / 86400 % 1461) from pk_lRem (b := 1461) (by omega) (by decide) (by decide), bnd_eq, bnd_eq, bnd_eq]
  have key : ∀ d, d = df (t / 86400 % 1461) → d < 1000 → j_ti_stamp_64 FU (lN t) (lN (t / 86400)) (lN (yf (t / 86400 % 1461))) (lN d) 0 0 = some (lN (SS t)) := fun d hd hd2 => by
    have := s64 (t := t) (D := t / 86400) (y := yf (t / 86400 % 1461)) (by omega) (by omega) hyf 11 0 0 d FU (by decide) rfl (by decide) hd2
    rw [show nI 0 = 0 from rfl] at this
    rw [this, hd]
    unfold SS yN mN dN
    generalize cmL (yf (t / 86400 % 1461)) 11 0 0 (df (t / 86400 % 1461)) = c
    generalize yf (t / 86400 % 1461) = y
    rw [show 2000 + t / 86400 / 1461 * 4 + y = 2000 + 4 * (t / 86400 / 1461) + y by omega]
  by_cases h : t / 86400 % 1461 < 366
  · have hy : yf (t / 86400 % 1461) = 0 := by unfold yf; rw [if_pos h]
    rw [if_neg (show ¬ (366 : Int64) ≤ lN (t / 86400 % 1461) from fun q => by have := (pk_lLE (a := 366) (by decide) (by omega)).mp q; omega), if_pos rfl]
    have := key (t / 86400 % 1461) (by unfold df; rw [if_pos hy]) (by omega)
    rw [hy] at this
    exact this
  · have hy : yf (t / 86400 % 1461) = (t / 86400 % 1461 - 1) / 365 := by unfold yf; rw [if_neg h]
    rw [if_pos (show (366 : Int64) ≤ lN (t / 86400 % 1461) from (pk_lLE (a := 366) (by decide) (by omega)).mpr (by omega)), show lN (t / 86400 % 1461) - 1 = lN (t / 86400 % 1461 - 1) from lN_sub (b := 1) (by omega), show lN (t / 86400 % 1461 - 1) / 365 = lN ((t / 86400 % 1461 - 1) / 365) from pk_lDiv (b := 365) (by omega) (by decide) (by decide)]
    rw [if_neg (show ¬ lN ((t / 86400 % 1461 - 1) / 365) = 0 from fun q => by have := (pk_lEQ (b := 0) (by omega) (by decide)).mp q; omega), show lN (t / 86400 % 1461 - 1) - lN ((t / 86400 % 1461 - 1) / 365) * 365 = lN ((t / 86400 % 1461 - 1) % 365) from (by rw [show lN ((t / 86400 % 1461 - 1) / 365) * 365 = lN ((t / 86400 % 1461 - 1) / 365 * 365) from lN_mul _ 365, lN_sub (by omega)]; congr 1; omega), ← hy]
    exact key _ (by unfold df; rw [if_neg (by omega)]) (by omega)
theorem SS_lt {t : Nat} (ht : t < 3155760000) : SS t < 10 ^ 14 := by
  obtain ⟨y1, y2, m1, d1⟩ := date_b (D := t / 86400) (by omega)
  have hs : t % 86400 < 86400 := Nat.mod_lt _ (by decide)
  unfold SS
  generalize yN (t / 86400) = Y at *
  generalize mN (t / 86400) = M at *
  generalize dN (t / 86400) = D at *
  generalize t % 86400 = s at *
  omega
theorem c32 {S k : Nat} (hS : S < 10 ^ 14) (hk0 : 0 < k) (hk : k < 2 ^ 63) : j_ti_character_32 (lN S) (lN k) = some (nI (48 + S / k % 10)) := by
  unfold j_ti_character_32
  have : S / k ≤ S := Nat.div_le_self _ _
  have hz : ¬ lN k = 0 := fun q => by have := (pk_lEQ (b := 0) hk (by decide)).mp q; omega
  rw [if_neg hz, chk_t hz, pk_lDiv (by omega) hk0 hk, show lN (S / k) - lN (S / k) / 10 * 10 = lN (S / k % 10) from pk_lRem (b := 10) (by omega) (by decide) (by decide), show (48 : Int64) + lN (S / k % 10) = lN (48 + S / k % 10) from lN_add 48 _, lN_i]
theorem c7 {S i : Nat} (hS : S < 10 ^ 14) (hi : i < 14) : ∀ (n k fu : Nat), n < fu → k + n = i → j_ti_character_7 fu (lN S) (nI i) (lN (10 ^ (13 - k))) (nI k) = some (nI (48 + S / 10 ^ (13 - i) % 10)) := by
  intro n
  induction n with
  | zero =>
    intro k fu hfu hk
    obtain ⟨fu, rfl⟩ : ∃ g, fu = g + 1 := ⟨fu - 1, by omega⟩
    have : k = i := by omega
    subst this
    rw [j_ti_character_7, if_pos (Int32.le_refl _), c32 hS (Nat.pow_pos (by decide)) (Nat.lt_of_le_of_lt (Nat.pow_le_pow_right (by decide) (show 13 - k ≤ 13 by omega)) (by decide))]
  | succ n ih =>
    intro k fu hfu hk
    obtain ⟨fu, rfl⟩ : ∃ g, fu = g + 1 := ⟨fu - 1, by omega⟩
    rw [j_ti_character_7, if_neg (nI_ge (by omega) (by omega)), if_neg (show ¬ (15 : Int32) ≤ nI k from nI_ge (b := 15) (by omega) (by decide)), bnd_eq, bnd_eq, nI_1, show lN (10 ^ (13 - k)) / 10 = lN (10 ^ (13 - k) / 10) from pk_lDiv (b := 10) (Nat.lt_of_le_of_lt (Nat.pow_le_pow_right (by decide) (show 13 - k ≤ 13 by omega)) (by decide)) (by decide) (by decide)]
    have : 10 ^ (13 - k) / 10 = 10 ^ (13 - (k + 1)) := by
      rw [show 13 - k = 13 - (k + 1) + 1 by omega, Nat.pow_succ, Nat.mul_div_cancel _ (by decide)]
    rw [this, ih (k + 1) fu (by omega) (by omega)]
theorem c7z {S : Int64} : ∀ (n k fu : Nat), n + 1 < fu → k + n = 13 → j_ti_character_7 fu S (nI 14) (lN (10 ^ (13 - k))) (nI k) = some 90 := by
  intro n
  induction n with
  | zero =>
    intro k fu hfu hk
    obtain ⟨fu, rfl⟩ : ∃ g, fu = g + 1 + 1 := ⟨fu - 2, by omega⟩
    have : k = 13 := by omega
    subst this
    rw [j_ti_character_7, if_neg (by decide), if_neg (by decide), bnd_eq, bnd_eq, j_ti_character_7, if_pos (by decide)]
    unfold j_ti_character_32
    rw [if_pos (by decide)]
  | succ n ih =>
    intro k fu hfu hk
    obtain ⟨fu, rfl⟩ : ∃ g, fu = g + 1 := ⟨fu - 1, by omega⟩
    rw [j_ti_character_7, if_neg (nI_ge (by omega) (by decide)), if_neg (show ¬ (15 : Int32) ≤ nI k from nI_ge (b := 15) (by omega) (by decide)), bnd_eq, bnd_eq, nI_1, show lN (10 ^ (13 - k)) / 10 = lN (10 ^ (13 - k) / 10) from pk_lDiv (b := 10) (Nat.lt_of_le_of_lt (Nat.pow_le_pow_right (by decide) (show 13 - k ≤ 13 by omega)) (by decide)) (by decide) (by decide)]
    have : 10 ^ (13 - k) / 10 = 10 ^ (13 - (k + 1)) := by
      rw [show 13 - k = 13 - (k + 1) + 1 by omega, Nat.pow_succ, Nat.mul_div_cancel _ (by decide)]
    rw [this, ih (k + 1) fu (by omega) (by omega)]
theorem pu_char {t : Nat} (ht : t < 3155760000) {i : Nat} (hi : i < 15) : f_ti_character (lN (SS t)) (nI i) = some (nI (tmC t i)) := by
  unfold f_ti_character tmC
  by_cases h14 : i = 14
  · subst h14
    rw [if_pos rfl]
    have := c7z (S := lN (SS t)) 13 0 FU (by decide) rfl
    rw [show lN (10 ^ (13 - 0)) = 10000000000000 by decide, show nI 0 = 0 from rfl] at this
    exact this
  · rw [if_neg h14]
    have := c7 (SS_lt ht) (show i < 14 by omega) i 0 FU (by unfold FU; omega) (by omega)
    rw [show lN (10 ^ (13 - 0)) = 10000000000000 by decide, show nI 0 = 0 from rfl] at this
    exact this
