/-! PURE 4: reading one item, on both sides -/
theorem p_within (x lo hi : Int64) : f_within x lo hi = some (if lo ≤ x ∧ x ≤ hi then 1 else 0) := by
  unfold f_within
  by_cases h1 : x < lo
  · rw [if_pos h1, if_neg (fun g => Int64.not_le.mpr h1 g.1)]
  · by_cases h2 : hi < x
    · rw [if_neg h1, if_pos h2, if_neg (fun g => Int64.not_le.mpr h2 g.2)]
    · rw [if_neg h1, if_neg h2, if_pos ⟨Int64.not_lt.mp h1, Int64.not_lt.mp h2⟩]
theorem p_in {x lo hi : Int64} (h : lo ≤ x ∧ x ≤ hi) : f_within x lo hi = some 1 := by rw [p_within, if_pos h]
theorem p_out {x lo hi : Int64} (h : ¬ (lo ≤ x ∧ x ≤ hi)) : f_within x lo hi = some 0 := by rw [p_within, if_neg h]
def nb (f : Nat → Int32) (v : Int64) : Nat → Nat → Int64
  | _, 0 => v
  | x, n + 1 => nb f ((v <<< ((8 : Int32).toInt64 &&& 63)) ||| ((f x &&& 255).toInt64)) (x + 1) n
theorem and255l (x : Int32) : x.toInt64 &&& (255 : Int64) = (x &&& 255).toInt64 := by
  rw [Int32.toInt64_and]
  rfl
theorem p_int100 (f : Nat → Int32) (at' i fa st so fr : Int32) (z : Nat) (lo hi : Int64) (hz : z ≤ 1500) : ∀ (m k : Nat) (v : Int64) (fu : Nat), m < fu → k + m = z → j_integer_100 fu f at' i fa st so fr (nI z) v lo hi (nI k) = if lo ≤ nb f v k m ∧ nb f v k m ≤ hi then some (1, nI z, i, fa, st, so, fr, nI z, nb f v k m) else some (0, nI z, i, st, st, so, fr, nI z, nb f v k m) := by
  intro m
  induction m with
  | zero =>
    intro k v fu hfu hk
    obtain ⟨fu, rfl⟩ : ∃ g, fu = g + 1 := ⟨fu - 1, by omega⟩
    rw [j_integer_100, if_pos (nI_le (by omega) (by omega)), p_within, Option.bind_some]
    unfold nb
    by_cases h : lo ≤ v ∧ v ≤ hi
    · rw [if_pos h, if_pos h, if_neg (by decide)]
    · rw [if_neg h, if_neg h, if_pos rfl]
      rfl
  | succ m ih =>
    intro k v fu hfu hk
    obtain ⟨fu, rfl⟩ : ∃ g, fu = g + 1 := ⟨fu - 1, by omega⟩
    rw [j_integer_100, if_neg (nI_ge (by omega) (by omega)), chk_t (inN (by omega) (by omega)), bnd_eq, bnd_eq, nI_clamp (by omega), nI_1, and255l, ih (k + 1) _ fu (by omega) (by omega)]
    rfl
theorem p_number (f : Nat → Int32) (x n : Nat) (hx : x + n ≤ 1500) : ∀ (m j : Nat) (v : Int64) (fu : Nat), m < fu → j + m = n → j_sc_number_4 fu (nI x) f (nI n) 1500 v (nI j) = some (nb f v (x + j) m, nI (x + n)) := by
  intro m
  induction m with
  | zero =>
    intro j v fu hfu hj
    obtain ⟨fu, rfl⟩ : ∃ g, fu = g + 1 := ⟨fu - 1, by omega⟩
    rw [j_sc_number_4, if_pos (nI_le (by omega) (by omega)), bnd_eq, nI_add]
    rfl
  | succ m ih =>
    intro j v fu hfu hj
    obtain ⟨fu, rfl⟩ : ∃ g, fu = g + 1 := ⟨fu - 1, by omega⟩
    rw [j_sc_number_4, if_neg (nI_ge (by omega) (by omega)), nI_add, chk_t (inN (by omega) (by omega)), bnd_eq, bnd_eq, nI_clamp (by omega), nI_1, ih (j + 1) _ fu (by omega) (by omega)]
    rfl
theorem p_number' (f : Nat → Int32) {x n : Nat} (hx : x + n ≤ 1500) : f_sc_number (nI x) f (nI n) 1500 = some (nb f 0 x n, nI (x + n)) := by
  unfold f_sc_number
  rw [show (0 : Int32) = nI 0 from rfl, p_number f x n hx n 0 0 FU (by unfold FU; omega) (by omega), Nat.add_zero]
/-! the reads -/
def p_bytes (f : Nat → Int32) (lo hi e a : Nat) (i : Int32) : Rs Nat := rb (p_ent f 4 lo hi e a i) fun z x i' => .inr (x, z, i')
def p_int (f : Nat → Int32) (lo hi : Int64) (e a : Nat) (i : Int32) : Rs Int64 := rb (p_ent f 2 1 8 e a i) fun z x i' => if (¬ f x < 0 ∧ (z - x = 1 ∨ ¬ f x = 0 ∨ f (x + 1) < 0)) ∧ lo ≤ nb f 0 x (z - x) ∧ nb f 0 x (z - x) ≤ hi then .inr (nb f 0 x (z - x), z, i') else .inl a
def p_code (f : Nat → Int32) (e a : Nat) (i : Int32) : Rs Nat := rb (p_ent f 10 1 1 e a i) fun z x i' => if u8 (f x) ≤ 10 then .inr (u8 (f x), z, i') else .inl a
def p_sig (f : Nat → Int32) (e a : Nat) (i : Int32) : Rs Nat := rb (p_ent f 3 9 9 e a i) fun z x i' => if f x = 0 then .inr (x, z, i') else .inl a
def p_ends (e a : Nat) (i : Int32) : Rs Unit := if a = e then .inr ((), a, i) else .inl a
/-! the reference's -/
theorem R_of {f : Nat → Int32} {a e : Nat} (hae : a ≤ e) (he : e ≤ 1500) (k i fa st so fr to : Int32) : ok (f_of f (nI a) i fa st so fr to k (nI e)) (ro (fun v a' i' y => y = (1, nI a', i', fa, nI a, k, nI a', nI v) ∧ a + 2 ≤ a' ∧ a' ≤ v ∧ v ≤ e) (fun p y => y.1 = 0 ∧ y.2.2.2.1 = nI p ∧ p = a) (p_ent f k 0 1500 e a i)) := by
  unfold f_of
  refine ok.b (R_item hae he i fa st so fr to) (fun y hy => ?_)
  rw [ent_wide he]
  unfold p_item at hy ⊢
  cases hi : it f a e with
  | none =>
    rw [hi] at hy
    obtain ⟨h0, h1⟩ := hy
    rw [if_pos h0, ite_self]
    exact ok.s ⟨rfl, h1, rfl⟩
  | some p =>
    rw [hi] at hy
    obtain ⟨rfl, h1⟩ := hy
    dsimp only
    rw [if_neg (by decide)]
    by_cases hk : f a &&& 255 = k
    · rw [if_pos hk, if_pos hk, ← hk]
      exact ok.s ⟨rfl, h1⟩
    · rw [if_neg hk, if_neg hk]
      exact ok.s ⟨rfl, rfl, rfl⟩
theorem sub_n {x z : Nat} (h : x ≤ z) : nI z - nI x = nI (z - x) := pk_sub h
/-- behind a head that the reference has read -/
theorem R_head {β : Type} {f : Nat → Int32} {a e lo hi : Nat} (hae : a ≤ e) (he : e ≤ 1500) (k i fa st so fr to : Int32) {A : Type} {K : Int32 × Int32 × Int32 × Int32 × Int32 × Int32 × Int32 × Int32 → Option A} {G : β → Nat → Int32 → A → Prop} {B : Nat → A → Prop} {kk : Nat → Nat → Int32 → Rs β}
    (hf : ∀ y, y.1 = 0 → y.2.2.2.1 = nI a → ok (K y) (B a))
    (hn : ∀ x z, a + 2 ≤ x → x ≤ z → z ≤ e → ¬ (lo ≤ z - x ∧ z - x ≤ hi) → ok (K (1, nI x, i + 1, fa, nI a, k, nI x, nI z)) (B a))
    (hs : ∀ x z, a + 2 ≤ x → x ≤ z → z ≤ e → lo ≤ z - x → z - x ≤ hi → p_ent f k lo hi e a i = .inr (z, x, i + 1) → ok (K (1, nI x, i + 1, fa, nI a, k, nI x, nI z)) (ro G B (kk z x (i + 1)))) : ok ((f_of f (nI a) i fa st so fr to k (nI e)).bind K) (ro G B (rb (p_ent f k lo hi e a i) kk)) := by
  refine ok.b (R_of hae he k i fa st so fr to) (fun y hy => ?_)
  rw [ent_wide he] at hy
  unfold p_ent p_item at *
  by_cases hk : f a &&& 255 = k
  · rw [if_pos hk] at hy
    rw [if_pos hk] at hs ⊢
    cases ht : it f a e with
    | none =>
      rw [ht] at hy
      obtain ⟨h0, h1, h2⟩ := hy
      exact hf y h0 h1
    | some p =>
      rw [ht] at hy
      obtain ⟨x, z⟩ := p
      obtain ⟨rfl, h1, h2, h3⟩ := hy
      dsimp only at *
      by_cases hc : lo ≤ z - x ∧ z - x ≤ hi
      · rw [if_pos hc]
        exact hs x z h1 h2 h3 hc.1 hc.2 (by rw [ht]; exact if_pos hc)
      · rw [if_neg hc]
        exact hn x z h1 h2 h3 hc
  · rw [if_neg hk] at hy
    rw [if_neg hk]
    obtain ⟨h0, h1, h2⟩ := hy
    exact hf y h0 h1
theorem R_bytes {f : Nat → Int32} {a e lo hi : Nat} (hae : a ≤ e) (he : e ≤ 1500) (hlo : lo < 2 ^ 31) (hhi : hi < 2 ^ 31) (i fa st so fr to : Int32) : ok (f_bytes f (nI a) i fa st so fr to (nI lo) (nI hi) (nI e)) (ro (fun v a' i' y => y = (1, nI a', i', fa, nI a, 4, nI v, nI a') ∧ a + 2 ≤ v ∧ v ≤ a' ∧ a' ≤ e ∧ lo ≤ a' - v ∧ a' - v ≤ hi) (fun p y => y.1 = 0 ∧ y.2.2.2.1 = nI p) (p_bytes f lo hi e a i)) := by
  unfold f_bytes p_bytes
  refine R_head hae he 4 i fa st so fr to (fun y h0 h1 => ?_) (fun x z h1 h2 h3 hc => ?_) (fun x z h1 h2 h3 h4 h5 _ => ?_)
  · rw [if_pos h0]
    exact ok.s ⟨rfl, h1⟩
  · dsimp only
    rw [if_neg (by decide), sub_n (by omega), nI_l (n := z - x) (by omega), nI_l hlo, nI_l hhi, p_out (fun g => hc ⟨(pk_lLE (by omega) (by omega)).mp g.1, (pk_lLE (by omega) (by omega)).mp g.2⟩), Option.bind_some, if_pos rfl]
    exact ok.s ⟨rfl, rfl⟩
  · dsimp only
    rw [if_neg (by decide), sub_n (by omega), nI_l (n := z - x) (by omega), nI_l hlo, nI_l hhi, p_in ⟨(pk_lLE (by omega) (by omega)).mpr h4, (pk_lLE (by omega) (by omega)).mpr h5⟩, Option.bind_some, if_neg (by decide), bnd_eq]
    exact ok.s ⟨rfl, h1, h2, h3, h4, h5⟩
theorem R_int {f : Nat → Int32} {a e : Nat} (hae : a ≤ e) (he : e ≤ 1500) (i fa st so fr to : Int32) (nu lo hi : Int64) : ok (f_integer f (nI a) i fa st so fr to nu lo hi (nI e)) (ro (fun v a' i' y => (∃ x, y = (1, nI a', i', fa, nI a, 2, x, nI a', v)) ∧ a + 2 ≤ a' ∧ a' ≤ e ∧ lo ≤ v ∧ v ≤ hi) (fun p y => y.1 = 0 ∧ y.2.2.2.1 = nI p) (p_int f lo hi e a i)) := by
  unfold f_integer p_int
  refine R_head hae he 2 i fa st so fr to (fun y h0 h1 => ?_) (fun x z h1 h2 h3 hc => ?_) (fun x z h1 h2 h3 h4 h5 _ => ?_)
  · rw [if_pos h0]
    exact ok.s ⟨rfl, h1⟩
  all_goals dsimp only
  all_goals rw [if_neg (by decide), sub_n h2, bnd_eq]
  all_goals generalize hn : z - x = n at *
  all_goals have l1 : (nI n < 1) ↔ n < 1 := nI_ltI (b := 1) (by omega) (by decide)
  all_goals have l8 : (8 < nI n) ↔ 8 < n := nI_ltI (a := 8) (by decide) (by omega)
  · by_cases c1 : n < 1
    · rw [if_pos (l1.mpr c1), wr_b]
      exact ok.s ⟨rfl, rfl⟩
    · rw [if_neg (fun g => c1 (l1.mp g)), if_pos (l8.mpr (by omega)), wr_b]
      exact ok.s ⟨rfl, rfl⟩
  · have e1 : (nI n ≤ 1) ↔ n ≤ 1 := nI_leI (b := 1) (by omega) (by decide)
    have hz : z = x + n := by omega
    rw [if_neg (fun g => by have := l1.mp g; omega), if_neg (fun g => by have := l8.mp g; omega), chk_t (inN (by omega) (by omega)), nI_clamp (by omega)]
    by_cases hneg : f x < 0
    · rw [if_pos hneg, if_neg (fun g => g.1.1 hneg), wr_b]
      exact ok.s ⟨rfl, rfl⟩
    · rw [if_neg hneg]
      have fin : (n = 1 ∨ ¬ f x = 0 ∨ f (x + 1) < 0) → ok (bnd (nI x) fun v7_15 => j_integer_100 FU f (nI x) (i + 1) fa (nI a) 2 (nI x) (nI z) 0 lo hi v7_15) (ro (fun v a' i' y => (∃ x, y = (1, nI a', i', fa, nI a, 2, x, nI a', v)) ∧ a + 2 ≤ a' ∧ a' ≤ e ∧ lo ≤ v ∧ v ≤ hi) (fun p y => y.1 = 0 ∧ y.2.2.2.1 = nI p) (if (¬ f x < 0 ∧ (n = 1 ∨ ¬ f x = 0 ∨ f (x + 1) < 0)) ∧ lo ≤ nb f 0 x n ∧ nb f 0 x n ≤ hi then Sum.inr (nb f 0 x n, z, i + 1) else Sum.inl a)) := fun hp => by
        rw [bnd_eq, p_int100 f _ _ _ _ _ _ _ lo hi (by omega) n x 0 FU (by unfold FU; omega) (by omega)]
        by_cases hc : lo ≤ nb f 0 x n ∧ nb f 0 x n ≤ hi
        · rw [if_pos hc, if_pos ⟨⟨hneg, hp⟩, hc⟩]
          exact ok.s ⟨⟨_, rfl⟩, by simp only; omega, by simp only; omega, hc⟩
        · rw [if_neg hc, if_neg (fun g => hc g.2)]
          exact ok.s ⟨rfl, rfl⟩
      by_cases hn1 : n = 1
      · rw [if_pos (e1.mpr (by omega))]
        exact fin (Or.inl hn1)
      · rw [if_neg (fun g => by have := e1.mp g; omega)]
        by_cases h00 : f x = 0
        · rw [if_pos h00, nI_1, chk_t (inN (by omega) (by omega)), nI_clamp (by omega)]
          by_cases hl : f (x + 1) < 0
          · rw [if_pos hl]
            exact fin (Or.inr (Or.inr hl))
          · rw [if_neg hl, if_neg (fun g => by rcases g.1.2 with g | g | g; exact hn1 g; exact g h00; exact hl g), wr_b]
            exact ok.s ⟨rfl, rfl⟩
        · rw [if_neg h00]
          exact fin (Or.inr (Or.inl h00))
