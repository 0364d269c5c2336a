/-! PURE 18: times that are written -/
def shN : Nat → Nat → Nat → Nat → Option (Nat × Nat × Nat)
  | 0, _, _, _ => none
  | n + 1, d, y, m => if d < dm y m then some (y, m, d) else shN n (d - dm y m) (if m = 12 then y + 1 else y) (if m = 12 then 1 else m + 1)
theorem sh_m {n d y m L : Nat} (hL : dm y m = L) (hm : m ≠ 12) : shN (n + 1) (d + L) y m = shN n d y (m + 1) := by
  rw [shN, if_neg (by omega), if_neg hm, if_neg hm, hL, Nat.add_sub_cancel]
theorem sh_12 {n d y : Nat} : shN (n + 1) (d + 31) y 12 = shN n d (y + 1) 1 := by
  rw [shN, show dm y 12 = 31 from rfl, if_neg (by omega), if_pos rfl, if_pos rfl, Nat.add_sub_cancel]
theorem sh_y {n d y L : Nat} (h2 : dm y 2 = L) : shN (n + 12) (d + (337 + L)) y 1 = shN n d (y + 1) 1 := by
  rw [show d + (337 + L) = d + 31 + 30 + 31 + 30 + 31 + 31 + 30 + 31 + 30 + 31 + L + 31 by omega, show n + 12 = n + 1 + 1 + 1 + 1 + 1 + 1 + 1 + 1 + 1 + 1 + 1 + 1 from rfl]
  rw [sh_m (L := 31) rfl (by decide), sh_m h2 (by decide), sh_m (L := 31) rfl (by decide), sh_m (L := 30) rfl (by decide), sh_m (L := 31) rfl (by decide), sh_m (L := 30) rfl (by decide), sh_m (L := 31) rfl (by decide), sh_m (L := 31) rfl (by decide), sh_m (L := 30) rfl (by decide), sh_m (L := 31) rfl (by decide), sh_m (L := 30) rfl (by decide), sh_12]
theorem dm2_0 {y : Nat} (h : y % 4 = 0) : dm y 2 = 29 := by
  unfold dm
  rw [if_pos rfl, if_pos h]
theorem dm2_1 {y : Nat} (h : ¬ y % 4 = 0) : dm y 2 = 28 := by
  unfold dm
  rw [if_pos rfl, if_neg h]
theorem sh_4 {n d y : Nat} (h : y % 4 = 0) : shN (n + 48) (d + 1461) y 1 = shN n d (y + 4) 1 := by
  rw [show d + 1461 = d + (337 + 28) + (337 + 28) + (337 + 28) + (337 + 29) by omega, show n + 48 = n + 12 + 12 + 12 + 12 from rfl, sh_y (dm2_0 h), sh_y (dm2_1 (by omega)), sh_y (dm2_1 (by omega)), sh_y (dm2_1 (by omega))]
theorem sh_k {n d y : Nat} (h : y % 4 = 0) : ∀ k, shN (n + 48 * k) (d + 1461 * k) y 1 = shN n d (y + 4 * k) 1 := by
  intro k
  induction k generalizing n d y with
  | zero => rfl
  | succ k ih =>
    rw [show n + 48 * (k + 1) = n + 48 * k + 48 by omega, show d + 1461 * (k + 1) = d + 1461 * k + 1461 by omega, sh_4 h, ih (by omega), show y + 4 + 4 * k = y + 4 * (k + 1) by omega]
theorem sh_off {k : Nat} : ∀ n d y m r, shN n d y m = some r → shN n d (y + 4 * k) m = some (r.1 + 4 * k, r.2.1, r.2.2) := by
  intro n
  induction n with
  | zero => intro d y m r h; cases h
  | succ n ih =>
    intro d y m r h
    have e : dm (y + 4 * k) m = dm y m := by
      unfold dm
      rw [show (y + 4 * k) % 4 = y % 4 by omega]
    rw [shN] at h ⊢
    rw [e]
    by_cases hc : d < dm y m
    · rw [if_pos hc] at h ⊢
      obtain rfl := Option.some.inj h
      rfl
    · rw [if_neg hc] at h ⊢
      have := ih _ _ _ r h
      rw [← this]
      by_cases h12 : m = 12
      · simp only [if_pos h12]
        rw [show y + 4 * k + 1 = y + 1 + 4 * k by omega]
      · simp only [if_neg h12]
theorem sh_mono {j : Nat} : ∀ n d y m r, shN n d y m = some r → shN (n + j) d y m = some r := by
  intro n
  induction n with
  | zero => intro d y m r h; cases h
  | succ n ih =>
    intro d y m r h
    rw [show n + 1 + j = n + j + 1 by omega]
    rw [shN] at h ⊢
    by_cases hc : d < dm y m
    · rw [if_pos hc] at h ⊢; exact h
    · rw [if_neg hc] at h ⊢; exact ih _ _ _ _ h
def yf (x : Nat) : Nat := if x < 366 then 0 else (x - 1) / 365
def df (x : Nat) : Nat := if yf x = 0 then x else (x - 1) % 365
def ln (y i : Nat) : Nat := mtb i + (if i = 1 ∧ y = 0 then 1 else 0)
def cmL (y : Nat) : Nat → Nat → Nat → Nat → Nat × Nat
  | 0, _, m, d => (m, d)
  | n + 1, i, m, d => if m = i ∧ ln y i ≤ d then cmL y n (i + 1) (m + 1) (d - ln y i) else cmL y n (i + 1) m d
theorem sh_all : ∀ x : Fin 1461, shN 60 x.val 0 1 = some (yf x.val, (cmL (yf x.val) 11 0 0 (df x.val)).1 + 1, (cmL (yf x.val) 11 0 0 (df x.val)).2) ∧ (cmL (yf x.val) 11 0 0 (df x.val)).1 ≤ 11 ∧ (cmL (yf x.val) 11 0 0 (df x.val)).2 ≤ 30 ∧ yf x.val ≤ 3 := by decide +kernel
/-- year, month less one, day less one -/
def yN (D : Nat) : Nat := 2000 + 4 * (D / 1461) + yf (D % 1461)
def mN (D : Nat) : Nat := (cmL (yf (D % 1461)) 11 0 0 (df (D % 1461))).1
def dN (D : Nat) : Nat := (cmL (yf (D % 1461)) 11 0 0 (df (D % 1461))).2
theorem date_b {D : Nat} (h : D < 36525) : 2000 ≤ yN D ∧ yN D ≤ 2099 ∧ mN D ≤ 11 ∧ dN D ≤ 30 := by
  obtain ⟨-, h1, h2, h3⟩ := sh_all ⟨D % 1461, Nat.mod_lt _ (by decide)⟩
  simp only at h1 h2 h3
  unfold yN mN dN
  omega
theorem sh_D {D : Nat} (h : D < 36525) : shN FU D 2000 1 = some (yN D, mN D + 1, dN D) := by
  have h1 := (sh_all ⟨D % 1461, Nat.mod_lt _ (by decide)⟩).1
  simp only at h1
  have h2 := sh_off (k := 500 + D / 1461) _ _ _ _ _ h1
  have h3 := sh_mono (j := 4940 - 48 * (D / 1461)) _ _ _ _ _ h2
  rw [show (0 : Nat) + 4 * (500 + D / 1461) = 2000 + 4 * (D / 1461) by omega, ← sh_k (by decide)] at h3
  rw [show 60 + (4940 - 48 * (D / 1461)) + 48 * (D / 1461) = FU by unfold FU; omega, show D % 1461 + 1461 * (D / 1461) = D by omega] at h3
  rw [h3]
  congr 2
  unfold yN
  omega
/-! the reference -/
def shw (f : Nat → Int32) (D s : Nat) : Nat → Int32 := upd (upd (upd (upd (upd (upd f 0 (nI (yN D))) 1 (nI (mN D + 1))) 2 (nI (dN D + 1))) 3 (nI (s / 3600))) 4 (nI (s / 60 % 60))) 5 (nI (s % 60))
theorem j23 {s : Nat} (hs : s < 86400) (f : Nat → Int32) : ∀ (n d y m : Nat) (r : Nat × Nat × Nat), d < 2 ^ 20 → y + n < 2 ^ 30 → 1 ≤ m → m ≤ 12 → shN n d y m = some r → j_show_23 n f (nI d) (nI s) (nI y) (nI m) = some (upd (upd (upd (upd (upd (upd f 0 (nI r.1)) 1 (nI r.2.1)) 2 (nI (r.2.2 + 1))) 3 (nI (s / 3600))) 4 (nI (s / 60 % 60))) 5 (nI (s % 60))) := by
  intro n
  induction n with
  | zero => intro d y m r _ _ _ _ h; cases h
  | succ n ih =>
    intro d y m r hd hy h1 h12 h
    have hdm := dm_lt y m
    rw [shN] at h
    rw [j_show_23, p_daysOf (by omega) (by omega), Option.bind_some]
    by_cases hc : d < dm y m
    · rw [if_pos hc] at h
      obtain rfl := Option.some.inj h
      rw [if_pos (nI_lt hc (by omega)), chk_t (by decide), bnd_eq, chk_t (by decide), bnd_eq, chk_t (by decide), bnd_eq, chk_t (by decide), bnd_eq, chk_t (by decide), bnd_eq, chk_t (by decide), bnd_eq, nI_1, show nI s / 3600 = nI (s / 3600) from pk_div (d := 3600) (by omega) (by decide) (by decide), show nI s / 60 = nI (s / 60) from pk_div (d := 60) (by omega) (by decide) (by decide), show nI (s / 60) - nI (s / 60) / 60 * 60 = nI (s / 60 % 60) from pk_rem (d := 60) (by omega) (by decide) (by decide), show nI s - nI (s / 60) * 60 = nI (s % 60) from (by rw [show nI (s / 60) * 60 = nI (s / 60 * 60) from pk_mul _ 60, pk_sub (by omega)]; congr 1; omega)]
      rfl
    · rw [if_neg hc] at h
      rw [if_neg (nI_nlt (by omega) (by omega)), Option.bind_some, sub_n (by omega), bnd_eq]
      by_cases e12 : m = 12
      · subst e12
        rw [if_pos rfl, if_pos rfl] at h
        rw [if_pos (show nI 12 = 12 from rfl), if_pos rfl, bnd_eq, nI_1]
        exact ih _ _ 1 r (by omega) (by omega) (by omega) (by omega) h
      · rw [if_neg e12, if_neg e12] at h
        rw [if_neg (show ¬ nI m = 12 from fun q => e12 ((nI_eq (b := 12) (by omega) (by decide)).mp q)), bnd_eq, nI_1, if_neg (show ¬ nI (m + 1) = 1 from fun q => by have := (nI_eq (b := 1) (by omega) (by decide)).mp q; omega), bnd_eq, show nI y + 0 = nI y from Int32.add_zero _]
        exact ih _ _ _ r (by omega) (by omega) (by omega) (by omega) h
theorem p_show {t : Nat} (ht : t < 3155760000) (f : Nat → Int32) : f_show f (lN t) = some (shw f (t / 86400) (t % 86400)) := by
  unfold f_show
  rw [show lN t / 86400 = lN (t / 86400) from pk_lDiv (b := 86400) (by omega) (by decide) (by decide), show lN t - lN (t / 86400) * 86400 = lN (t % 86400) from (by rw [show lN (t / 86400) * 86400 = lN (t / 86400 * 86400) from lN_mul _ 86400, lN_sub (by omega)]; congr 1; omega), lN_i, lN_i, bnd_eq, bnd_eq]
  have h1 := sh_D (D := t / 86400) (by omega)
  have h2 : 2000 + FU < 2 ^ 30 := by decide
  generalize FU = n at *
  exact j23 (s := t % 86400) (Nat.mod_lt _ (by decide)) f n (t / 86400) 2000 1 (yN (t / 86400), mN (t / 86400) + 1, dN (t / 86400)) (by omega) h2 (by decide) (by decide) h1
/-- the number that a time's fourteen digits make; its characters -/
def SS (t : Nat) : Nat := ((yN (t / 86400) * 10000 + (mN (t / 86400) + 1) * 100 + dN (t / 86400) + 1) * 1000000 + t % 86400 / 3600 * 10000 + t % 86400 / 60 % 60 * 100 + t % 86400 % 60)
def tmC (t i : Nat) : Nat := if i = 14 then 90 else 48 + SS t / 10 ^ (13 - i) % 10
theorem dig2 {v : Nat} (h : v < 100) : (48 : Int32) + nI v / 10 = nI (48 + v / 10) ∧ (48 : Int32) + (nI v - nI v / 10 * 10) = nI (48 + v % 10) := by
  constructor
  · rw [show nI v / 10 = nI (v / 10) from pk_div (d := 10) (by omega) (by decide) (by decide)]
    exact nI_add 48 _
  · rw [show nI v - nI v / 10 * 10 = nI (v % 10) from pk_rem (d := 10) (by omega) (by decide) (by decide)]
    exact nI_add 48 _
theorem digY {v k : Nat} (h : v < 10000) (h0 : 0 < k) (hk : k < 10000) : (48 : Int32) + (nI v / nI k - nI v / nI k / 10 * 10) = nI (48 + v / k % 10) := by
  have : v / k ≤ v := Nat.div_le_self _ _
  rw [pk_div (by omega) h0 (by omega), show nI (v / k) - nI (v / k) / 10 * 10 = nI (v / k % 10) from pk_rem (d := 10) (by omega) (by decide) (by decide)]
  exact nI_add 48 _
theorem p_char {t : Nat} (ht : t < 3155760000) (f : Nat → Int32) {i : Nat} (hi : i < 15) : f_character (shw f (t / 86400) (t % 86400)) (nI i) = some (nI (tmC t i)) := by
  obtain ⟨y1, y2, m1, d1⟩ := date_b (D := t / 86400) (by omega)
  unfold f_character tmC SS shw
  generalize yN (t / 86400) = Y at *
  generalize mN (t / 86400) = M at *
  generalize dN (t / 86400) = D at *
  have hs : t % 86400 < 86400 := Nat.mod_lt _ (by decide)
  generalize t % 86400 = s at *
  have a3 : s / 3600 < 24 := by omega
  have a4 : s / 60 % 60 < 60 := Nat.mod_lt _ (by decide)
  have a5 : s % 60 < 60 := Nat.mod_lt _ (by decide)
  generalize s / 3600 = h at *
  generalize s / 60 % 60 = mi at *
  generalize s % 60 = se at *
  match i, hi with
  | 0, _ => rw [if_neg (by decide), if_neg (by decide), chk_t (by decide), if_pos (by decide)]; exact congrArg some ((digY (k := 1000) (by omega) (by decide) (by decide)).trans (congrArg nI (by simp only [Nat.reduceEqDiff, if_false, Nat.reduceSub, Nat.reducePow]; omega)))
  | 1, _ => rw [if_neg (by decide), if_neg (by decide), chk_t (by decide), if_neg (by decide), if_pos (by decide)]; exact congrArg some ((digY (k := 100) (by omega) (by decide) (by decide)).trans (congrArg nI (by simp only [Nat.reduceEqDiff, if_false, Nat.reduceSub, Nat.reducePow]; omega)))
  | 2, _ => rw [if_neg (by decide), if_neg (by decide), chk_t (by decide), if_neg (by decide), if_neg (by decide), if_pos (by decide)]; exact congrArg some ((digY (k := 10) (by omega) (by decide) (by decide)).trans (congrArg nI (by simp only [Nat.reduceEqDiff, if_false, Nat.reduceSub, Nat.reducePow]; omega)))
  | 3, _ => rw [if_neg (by decide), if_neg (by decide), chk_t (by decide), if_neg (by decide), if_neg (by decide), if_neg (by decide)]; exact congrArg some ((digY (k := 1) (by omega) (by decide) (by decide)).trans (congrArg nI (by simp only [Nat.reduceEqDiff, if_false, Nat.reduceSub, Nat.reducePow]; omega)))
  | 4, _ => rw [if_neg (by decide), if_pos (by decide), chk_t (by decide), bnd_eq, if_pos (by decide)]; exact congrArg some ((dig2 (v := M + 1) (by omega)).1.trans (congrArg nI (by simp only [Nat.reduceEqDiff, if_false, Nat.reduceSub, Nat.reducePow]; omega)))
  | 5, _ => rw [if_neg (by decide), if_pos (by decide), chk_t (by decide), bnd_eq, if_neg (by decide)]; exact congrArg some ((dig2 (v := M + 1) (by omega)).2.trans (congrArg nI (by simp only [Nat.reduceEqDiff, if_false, Nat.reduceSub, Nat.reducePow]; omega)))
  | 6, _ => rw [if_neg (by decide), if_pos (by decide), chk_t (by decide), bnd_eq, if_pos (by decide)]; exact congrArg some ((dig2 (v := D + 1) (by omega)).1.trans (congrArg nI (by simp only [Nat.reduceEqDiff, if_false, Nat.reduceSub, Nat.reducePow]; omega)))
  | 7, _ => rw [if_neg (by decide), if_pos (by decide), chk_t (by decide), bnd_eq, if_neg (by decide)]; exact congrArg some ((dig2 (v := D + 1) (by omega)).2.trans (congrArg nI (by simp only [Nat.reduceEqDiff, if_false, Nat.reduceSub, Nat.reducePow]; omega)))
  | 8, _ => rw [if_neg (by decide), if_pos (by decide), chk_t (by decide), bnd_eq, if_pos (by decide)]; exact congrArg some ((dig2 (v := h) (by omega)).1.trans (congrArg nI (by simp only [Nat.reduceEqDiff, if_false, Nat.reduceSub, Nat.reducePow]; omega)))
  | 9, _ => rw [if_neg (by decide), if_pos (by decide), chk_t (by decide), bnd_eq, if_neg (by decide)]; exact congrArg some ((dig2 (v := h) (by omega)).2.trans (congrArg nI (by simp only [Nat.reduceEqDiff, if_false, Nat.reduceSub, Nat.reducePow]; omega)))
  | 10, _ => rw [if_neg (by decide), if_pos (by decide), chk_t (by decide), bnd_eq, if_pos (by decide)]; exact congrArg some ((dig2 (v := mi) (by omega)).1.trans (congrArg nI (by simp only [Nat.reduceEqDiff, if_false, Nat.reduceSub, Nat.reducePow]; omega)))
  | 11, _ => rw [if_neg (by decide), if_pos (by decide), chk_t (by decide), bnd_eq, if_neg (by decide)]; exact congrArg some ((dig2 (v := mi) (by omega)).2.trans (congrArg nI (by simp only [Nat.reduceEqDiff, if_false, Nat.reduceSub, Nat.reducePow]; omega)))
  | 12, _ => rw [if_neg (by decide), if_pos (by decide), chk_t (by decide), bnd_eq, if_pos (by decide)]; exact congrArg some ((dig2 (v := se) (by omega)).1.trans (congrArg nI (by simp only [Nat.reduceEqDiff, if_false, Nat.reduceSub, Nat.reducePow]; omega)))
  | 13, _ => rw [if_neg (by decide), if_pos (by decide), chk_t (by decide), bnd_eq, if_neg (by decide)]; exact congrArg some ((dig2 (v := se) (by omega)).2.trans (congrArg nI (by simp only [Nat.reduceEqDiff, if_false, Nat.reduceSub, Nat.reducePow]; omega)))
  | 14, _ => rfl
  | n + 15, h => exact absurd h (by omega)
