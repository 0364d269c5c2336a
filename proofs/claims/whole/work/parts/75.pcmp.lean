/-! PURE 25: hashes in a text, compared -/
def nbn (f : Nat → Int32) : Nat → Nat → Nat → Nat
  | V, _, 0 => V
  | V, x, n + 1 => nbn f (V * 256 + u8 (f x)) (x + 1) n
theorem nb_s {V b : Nat} (hb : b < 256) (h : V * 256 + b < 2 ^ 64) {x : Int32} (hx : u8 x = b) : (lN V <<< ((8 : Int32).toInt64 &&& 63)) ||| (x &&& 255).toInt64 = lN (V * 256 + b) := by
  rw [show lN V <<< ((8 : Int32).toInt64 &&& 63) = lN (V * 2 ^ 8) from wb_shl V (k := 8) (by decide), u8_eq, hx, nI_l (by omega)]
  exact g_or (k := 8) (p := 256) rfl hb h
theorem nb_n (f : Nat → Int32) : ∀ (n k V x : Nat), V < 256 ^ k → k + n ≤ 8 → nb f (lN V) x n = lN (nbn f V x n) ∧ nbn f V x n < 256 ^ (k + n) := by
  intro n
  induction n with
  | zero => intro k V x h _; exact ⟨rfl, h⟩
  | succ n ih =>
    intro k V x h hk
    have hu := u8_lt (f x)
    have h1 : V * 256 + u8 (f x) < 256 ^ (k + 1) := by rw [Nat.pow_succ]; omega
    have h8 : 256 ^ (k + 1) ≤ 256 ^ 8 := Nat.pow_le_pow_right (by decide) (by omega)
    have := ih (k + 1) (V * 256 + u8 (f x)) (x + 1) h1 (by omega)
    rw [show k + 1 + n = k + (n + 1) by omega] at this
    rw [nb, nb_s hu (Nat.lt_of_lt_of_le h1 h8) rfl]
    exact this
def NB (f : Nat → Int32) (x : Nat) : Nat := nbn f 0 x 8
theorem nb8 (f : Nat → Int32) (x : Nat) : nb f 0 x 8 = lN (NB f x) ∧ NB f x < 2 ^ 64 := nb_n f 8 0 0 x (by decide) (by decide)
theorem uw_lN {n : Nat} (h : n < 2 ^ 64) : uw (lN n) = n := wb_tn h
theorem uw_nb (f : Nat → Int32) (x : Nat) : uw (nb f 0 x 8) = NB f x := by
  rw [(nb8 f x).1, uw_lN (nb8 f x).2]
theorem NB_e (f : Nat → Int32) (x : Nat) : NB f x = (((((((u8 (f x) * 256 + u8 (f (x + 1))) * 256 + u8 (f (x + 2))) * 256 + u8 (f (x + 3))) * 256 + u8 (f (x + 4))) * 256 + u8 (f (x + 5))) * 256 + u8 (f (x + 6))) * 256 + u8 (f (x + 7))) := by
  unfold NB
  simp only [nbn, Nat.zero_mul, Nat.zero_add, Nat.add_assoc, Nat.reduceAdd]
theorem NB_d (f : Nat → Int32) (x : Nat) : ∀ k, k < 8 → NB f x / 256 ^ (7 - k) % 256 = u8 (f (x + k)) := by
  intro k hk
  have e := NB_e f x
  have h0 := u8_lt (f x)
  have h1 := u8_lt (f (x + 1))
  have h2 := u8_lt (f (x + 2))
  have h3 := u8_lt (f (x + 3))
  have h4 := u8_lt (f (x + 4))
  have h5 := u8_lt (f (x + 5))
  have h6 := u8_lt (f (x + 6))
  have h7 := u8_lt (f (x + 7))
  match k, hk with
  | 0, _ => simp only [Nat.sub_zero, Nat.reducePow, Nat.add_zero]; omega
  | 1, _ => simp only [Nat.reduceSub, Nat.reducePow]; omega
  | 2, _ => simp only [Nat.reduceSub, Nat.reducePow]; omega
  | 3, _ => simp only [Nat.reduceSub, Nat.reducePow]; omega
  | 4, _ => simp only [Nat.reduceSub, Nat.reducePow]; omega
  | 5, _ => simp only [Nat.reduceSub, Nat.reducePow]; omega
  | 6, _ => simp only [Nat.reduceSub, Nat.reducePow]; omega
  | 7, _ => simp only [Nat.reduceSub, Nat.reducePow]; omega
  | n + 8, h => exact absurd h (by omega)
theorem hbl_nb {f : Nat → Int32} (hB : ∀ j, isb (f j)) (x : Nat) : hbl (nb f 0 x 8) 8 = sl f x 8 := by
  have hb : ∀ k, k < 8 → byt (nb f 0 x 8) (7 - k) = f (x + k) := fun k hk => by
    unfold byt
    rw [uw_nb, NB_d f x k hk]
    have : BB (nI (u8 (f (x + k)))) = BB (f (x + k)) := nar_congr (by rw [u8_nI]; have := u8_lt (f (x + k)); omega)
    rw [this]
    exact nar_isb (hB _)
  show [byt _ 7, byt _ 6, byt _ 5, byt _ 4, byt _ 3, byt _ 2, byt _ 1, byt _ 0] = [f x, f (x + 1), f (x + 2), f (x + 3), f (x + 4), f (x + 5), f (x + 6), f (x + 7)]
  rw [show byt (nb f 0 x 8) 7 = f x from hb 0 (by decide), show byt (nb f 0 x 8) 6 = _ from hb 1 (by decide), show byt (nb f 0 x 8) 5 = _ from hb 2 (by decide), show byt (nb f 0 x 8) 4 = _ from hb 3 (by decide), show byt (nb f 0 x 8) 3 = _ from hb 4 (by decide), show byt (nb f 0 x 8) 2 = _ from hb 5 (by decide), show byt (nb f 0 x 8) 1 = _ from hb 6 (by decide), show byt (nb f 0 x 8) 0 = _ from hb 7 (by decide)]
theorem dig_all {a b : Nat} (ha : a < 2 ^ 64) (hb : b < 2 ^ 64) (h : ∀ k, k < 8 → a / 256 ^ (7 - k) % 256 = b / 256 ^ (7 - k) % 256) : a = b := by
  have h0 := h 0 (by decide)
  have h1 := h 1 (by decide)
  have h2 := h 2 (by decide)
  have h3 := h 3 (by decide)
  have h4 := h 4 (by decide)
  have h5 := h 5 (by decide)
  have h6 := h 6 (by decide)
  have h7 := h 7 (by decide)
  simp only [Nat.sub_zero, Nat.reduceSub, Nat.reducePow] at h0 h1 h2 h3 h4 h5 h6 h7
  omega
/-- the eight bytes at x make v -/
theorem nb_iff {f : Nat → Int32} {x : Nat} {v : Int64} : nb f 0 x 8 = v ↔ ∀ k, k < 8 → u8 (f (x + k)) = uw v / 256 ^ (7 - k) % 256 := by
  constructor
  · intro h k hk
    rw [← h, uw_nb, NB_d f x k hk]
  · intro h
    have : NB f x = uw v := dig_all (nb8 f x).2 (uw_lt v) (fun k hk => by rw [NB_d f x k hk, h k hk])
    rw [(nb8 f x).1, this, ← uw_eq]
theorem and255L (x : Int64) : x &&& 255 = lN (uw x % 256) := by
  conv => lhs; rw [uw_eq x]
  exact wb_mask (k := 8) (uw_lt x) (by decide)
theorem sh_u8 (v : Int64) {k : Nat} (hk : k < 8) : (v >>> (((56 : Int32) - (8 : Int32) * nI k).toInt64 &&& 63)) &&& 255 = lN (uw v / 256 ^ (7 - k) % 256) := by
  rw [m8, show (56 : Int32) - nI (8 * k) = nI (8 * (7 - k)) from (by rw [show (56 : Int32) = nI 56 from rfl, pk_sub (by omega)]; congr 1; omega), and255L, ← u8_64]
  have := bt_L v (k := 7 - k) (by omega)
  have h2 : u8 (BB ((v >>> ((nI (8 * (7 - k))).toInt64 &&& 63)).toInt32)) = u8 (byt v (7 - k)) := by rw [this]
  unfold byt BB at h2
  rw [u8_nar, u8_nar, u8_nI] at h2
  rw [h2]
  congr 1
  omega
theorem j6_0 {f : Nat → Int32} {x : Int32} {v : Int64} : ∀ (n k fu : Nat), n < fu → k + n = 8 → j_isHash_6 fu f x v 0 (nI k) = some 0 := by
  intro n
  induction n with
  | zero =>
    intro k fu hfu hk
    obtain ⟨fu, rfl⟩ : ∃ g, fu = g + 1 := ⟨fu - 1, by omega⟩
    rw [j_isHash_6, if_pos (show (8 : Int32) ≤ nI k from nI_le (a := 8) (by omega) (by omega)), chk_t nb0]
  | succ n ih =>
    intro k fu hfu hk
    obtain ⟨fu, rfl⟩ : ∃ g, fu = g + 1 := ⟨fu - 1, by omega⟩
    rw [j_isHash_6, if_neg (show ¬ (8 : Int32) ≤ nI k from nI_ge (b := 8) (by omega) (by decide)), if_pos rfl, bnd_eq, nI_1, ih (k + 1) fu (by omega) (by omega)]
theorem p_isHash {f : Nat → Int32} {x : Nat} (hx : x + 8 ≤ 1500) (v : Int64) : f_isHash f (nI x) v = some (if nb f 0 x 8 = v then 1 else 0) := by
  unfold f_isHash
  have main : ∀ (n k fu : Nat), n < fu → k + n = 8 → (∀ j, j < k → u8 (f (x + j)) = uw v / 256 ^ (7 - j) % 256) → j_isHash_6 fu f (nI x) v 1 (nI k) = some (if nb f 0 x 8 = v then 1 else 0) := by
    intro n
    induction n with
    | zero =>
      intro k fu hfu hk h
      obtain ⟨fu, rfl⟩ : ∃ g, fu = g + 1 := ⟨fu - 1, by omega⟩
      rw [j_isHash_6, if_pos (show (8 : Int32) ≤ nI k from nI_le (a := 8) (by omega) (by omega)), chk_t nb11, if_pos (nb_iff.mpr (fun j hj => h j (by omega)))]
    | succ n ih =>
      intro k fu hfu hk h
      obtain ⟨fu, rfl⟩ : ∃ g, fu = g + 1 := ⟨fu - 1, by omega⟩
      have hu := u8_lt (f (x + k))
      have hv : uw v / 256 ^ (7 - k) % 256 < 256 := Nat.mod_lt _ (by decide)
      rw [j_isHash_6, if_neg (show ¬ (8 : Int32) ≤ nI k from nI_ge (b := 8) (by omega) (by decide)), if_neg (by decide), nI_add, chk_t (inN (by omega) (by omega)), nI_clamp (by omega), sh_u8 v (by omega), u8_eq, nI_l (by omega), bnd_eq, bnd_eq, nI_1]
      by_cases hc : u8 (f (x + k)) = uw v / 256 ^ (7 - k) % 256
      · rw [if_pos (by rw [hc]), ih (k + 1) fu (by omega) (by omega) (fun j hj => by
          by_cases hjk : j = k
          · rw [hjk]; exact hc
          · exact h j (by omega))]
      · rw [if_neg (fun q => hc ((pk_lEQ (by omega) (by omega)).mp q)), j6_0 n (k + 1) fu (by omega) (by omega), if_neg (fun q => hc (nb_iff.mp q k (by omega)))]
  exact main 8 0 FU (by decide) rfl (fun j hj => absurd hj (by omega))
/-! rows, compared -/
theorem sl_ne {a b : Nat → Int32} {n : Nat} : ∀ p q, sl a p n = sl b q n ↔ ∀ j, j < n → a (p + j) = b (q + j) := by
  induction n with
  | zero => intro p q; exact ⟨fun _ j hj => absurd hj (by omega), fun _ => rfl⟩
  | succ n ih =>
    intro p q
    unfold sl
    rw [List.cons.injEq, ih]
    constructor
    · intro ⟨h1, h2⟩ j hj
      cases j with
      | zero => exact h1
      | succ j => rw [show p + (j + 1) = p + 1 + j by omega, show q + (j + 1) = q + 1 + j by omega]; exact h2 j (by omega)
    · intro h
      exact ⟨h 0 (by omega), fun j hj => by rw [show p + 1 + j = p + (j + 1) by omega, show q + 1 + j = q + (j + 1) by omega]; exact h (j + 1) (by omega)⟩
theorem j21_0 {a b : Nat → Int32} {Na Nb : Nat} {p q r s : Int32} (fu : Nat) : j_isSame_21 (fu + 1) a Na b Nb p q r 0 s = some 0 := by
  rw [j_isSame_21, if_pos rfl, chk_t nb0, ite_self]
theorem p_isSame {a b : Nat → Int32} {Na Nb p n q m : Nat} (hn : n < FU - 1) (ha : p + n ≤ Na) (hb : q + m ≤ Nb) (hNa : Na < 2 ^ 31) (hNb : Nb < 2 ^ 31) : f_isSame a Na (nI p) (nI (p + n)) b Nb (nI q) (nI (q + m)) = some (if sl a p n = sl b q m then 1 else 0) := by
  unfold f_isSame
  rw [sub_n (by omega), sub_n (by omega), show p + n - p = n by omega, show q + m - q = m by omega]
  by_cases hnm : n = m
  · subst hnm
    rw [if_pos rfl]
    have main : ∀ (k j fu : Nat), k + 1 < fu → j + k = n → (∀ i, i < j → a (p + i) = b (q + i)) → j_isSame_21 fu a Na b Nb (nI p) (nI (p + n)) (nI q) 1 (nI j) = some (if sl a p n = sl b q n then 1 else 0) := by
      intro k
      induction k with
      | zero =>
        intro j fu hfu hj h
        obtain ⟨fu, rfl⟩ : ∃ g, fu = g + 1 := ⟨fu - 1, by omega⟩
        rw [j_isSame_21, sub_n (by omega), if_pos (nI_le (by omega) (by omega)), chk_t nb11, if_pos ((sl_ne p q).mpr (fun i hi => h i (by omega)))]
      | succ k ih =>
        intro j fu hfu hj h
        obtain ⟨fu, rfl⟩ : ∃ g, fu = g + 1 + 1 := ⟨fu - 2, by omega⟩
        rw [j_isSame_21, sub_n (by omega), if_neg (nI_ge (by omega) (by omega)), if_neg (by decide), nI_add, nI_add, chk_t (inN (by omega) (by omega)), chk_t (inN (by omega) (by omega)), nI_clamp (by omega), nI_clamp (by omega), bnd_eq, bnd_eq, nI_1]
        by_cases hc : a (p + j) = b (q + j)
        · rw [if_pos hc, ih (j + 1) (fu + 1) (by omega) (by omega) (fun i hi => by
            by_cases hij : i = j
            · rw [hij]; exact hc
            · exact h i (by omega))]
        · rw [if_neg hc, j21_0, if_neg (fun e => hc ((sl_ne p q).mp e j (by omega)))]
    exact main n 0 FU (by omega) (by omega) (fun i hi => absurd hi (by omega))
  · rw [if_neg (fun e => hnm ((nI_eq (by omega) (by omega)).mp e)), show FU = 4999 + 1 from rfl, j21_0, if_neg (fun e => hnm (by have := congrArg List.length e; rwa [sl_l, sl_l] at this))]
theorem pu_isSame {a b : Nat → Int32} {Na Nb n q m M : Nat} (hn : n < FU - 1) (ha : n ≤ Na) (hb : q + m ≤ M) (hM : M ≤ Nb) (hNa : Na < 2 ^ 31) (hNb : Nb < 2 ^ 31) (ia : ∀ j, j < n → isb (a j)) (ib : ∀ j, isb (b j)) : f_by_isSame a (nI n) b (nI M) Na Nb (nI q) (nI m) = some (if sl a 0 n = sl b q m then 1 else 0) := by
  unfold f_by_isSame
  by_cases hnm : m = n
  · subst hnm
    rw [if_pos rfl]
    have main : ∀ (k j fu : Nat), k < fu → j + k = m → (∀ i, i < j → a i = b (q + i)) → j_by_isSame_13 fu a (nI m) b (nI M) Na Nb (nI q) (nI j) = some (if sl a 0 m = sl b q m then 1 else 0) := by
      intro k
      induction k with
      | zero =>
        intro j fu hfu hj h
        obtain ⟨fu, rfl⟩ : ∃ g, fu = g + 1 := ⟨fu - 1, by omega⟩
        rw [j_by_isSame_13, if_pos (nI_le (by omega) (by omega)), if_pos ((sl_ne 0 q).mpr (fun i hi => by rw [Nat.zero_add]; exact h i (by omega)))]
      | succ k ih =>
        intro j fu hfu hj h
        obtain ⟨fu, rfl⟩ : ∃ g, fu = g + 1 := ⟨fu - 1, by omega⟩
        have e : (a j &&& 255 = b (q + j) &&& 255) ↔ a j = b (q + j) := by
          rw [isb_eq (ia j (by omega)) (ib _)]
          exact ⟨fun h => u8_and h, fun h => by rw [u8_eq, u8_eq, h]⟩
        rw [j_by_isSame_13, if_neg (nI_ge (by omega) (by omega)), p_byteAt (by omega) ha (by omega), Option.bind_some, nI_add, p_byteAt (by omega) hM (by omega), Option.bind_some, bnd_eq, nI_1]
        by_cases hc : a j = b (q + j)
        · rw [if_pos (e.mpr hc), ih (j + 1) fu (by omega) (by omega) (fun i hi => by
            by_cases hij : i = j
            · rw [hij]; exact hc
            · exact h i (by omega))]
        · rw [if_neg (fun x => hc (e.mp x)), if_neg (fun x => hc (by have := (sl_ne 0 q).mp x j (by omega); rwa [Nat.zero_add] at this))]
    exact main m 0 FU (by omega) (by omega) (fun i hi => absurd hi (by omega))
  · rw [if_neg (fun e => hnm ((nI_eq (by omega) (by omega)).mp e)), if_neg (fun e => hnm (by have := congrArg List.length e; rw [sl_l, sl_l] at this; exact this.symm))]
