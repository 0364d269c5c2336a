/-! PURE 6: the class's reads while there is no fault -/
section CR
variable {f : Nat → Int32} {a e : Nat}
/-- behind a head that the class has read -/
theorem C_head {β A : Type} {lo hi : Nat} {k : Int32} (hae : a ≤ e) (he : e ≤ 1500) (hk : ¬ -1 = k) (hlo : lo < 2 ^ 31) (hhi : hi < 2 ^ 31) (i pl sz : Int32) {K : Int32 × Int32 × Int32 × Int32 × Int32 × Int32 → Option A} {G : β → Nat → Int32 → A → Prop} {B : Nat → A → Prop} {kk : Nat → Nat → Int32 → Rs β}
    (hf : ∀ x, ok (K (0, x, nI a, i, nI a, 0)) (B a))
    (hs : ∀ x z, a + 2 ≤ x → x ≤ z → z ≤ e → lo ≤ z - x → z - x ≤ hi → ok (K (1, nI x, -1, i + 1, nI a, nI (z - x))) (ro G B (kk z x (i + 1)))) : ok ((f_sc_enter (nI a) f (nI e) (-1) i pl sz 1500 k (nI lo) (nI hi)).bind K) (ro G B (rb (p_ent f k lo hi e a i) kk)) := by
  refine ok.b (C_ent hae he hk hlo hhi i pl sz) (fun y hy => ?_)
  cases hm : p_ent f k lo hi e a i with
  | inl p =>
    rw [hm] at hy
    obtain ⟨⟨x, rfl⟩, rfl⟩ := hy
    exact hf x
  | inr v =>
    obtain ⟨z, x, i'⟩ := v
    rw [hm] at hy
    obtain ⟨rfl, rfl, h1, h2, h3, h4, h5⟩ := hy
    exact hs x z h1 h2 h3 h4 h5
theorem C_open {d : Nat} {k : Int32} {O : Nat → Int32} (hae : a ≤ e) (he : e ≤ 1500) (hk : ¬ -1 = k) (hd : d < 12) (i pl sz : Int32) : ok (f_sc_open (nI a) f (nI d) (nI e) (-1) i O pl sz 1500 k) (ro (fun v a' i' y => (∃ q r, y = (nI a', nI (d + 1), nI v, -1, i', upd O d (nI e), q, r)) ∧ a + 2 ≤ a' ∧ a' ≤ v ∧ v ≤ e) (fun p y => (∃ at' q r, y = (at', nI d, nI e, nI p, i, O, q, r)) ∧ p = a) (p_ent f k 0 1500 e a i)) := by
  unfold f_sc_open
  refine ok.b (C_ent (lo := 0) (hi := 1500) hae he hk (by decide) (by decide) i pl sz) (fun y hy => ?_)
  cases hm : p_ent f k 0 1500 e a i with
  | inl p =>
    rw [hm] at hy
    obtain ⟨⟨x, rfl⟩, rfl⟩ := hy
    exact ok.s ⟨⟨_, _, _, rfl⟩, rfl⟩
  | inr v =>
    obtain ⟨z, x, i'⟩ := v
    rw [hm] at hy
    obtain ⟨rfl, rfl, h1, h2, h3, h4, h5⟩ := hy
    dsimp only at *
    rw [if_neg (by decide), if_pos (show nI d < 12 from nI_lt (b := 12) hd (by decide)), chk_t (inN (by omega) (by omega)), nI_clamp (by omega), bnd_eq, bnd_eq, bnd_eq, nI_1, nI_add, show x + (z - x) = z by omega]
    exact ok.s ⟨⟨_, _, rfl⟩, h1, h2, h3⟩
theorem C_bytes {lo hi : Nat} (hae : a ≤ e) (he : e ≤ 1500) (hlo : lo < 2 ^ 31) (hhi : hi < 2 ^ 31) (i pl sz : Int32) : ok (f_sc_readBytes (nI a) f (nI e) (-1) i pl sz 1500 (nI lo) (nI hi)) (ro (fun v a' i' y => (∃ q, y = (nI v, nI a', -1, i', q, nI (a' - v))) ∧ a + 2 ≤ v ∧ v ≤ a' ∧ a' ≤ e ∧ lo ≤ a' - v ∧ a' - v ≤ hi) (fun p y => (∃ x at' q r, y = (x, at', nI p, i, q, r)) ∧ p = a) (p_bytes f lo hi e a i)) := by
  unfold f_sc_readBytes p_bytes
  refine C_head hae he (by decide) hlo hhi i pl sz (fun x => ok.s ⟨⟨_, _, _, _, rfl⟩, rfl⟩) (fun x z h1 h2 h3 h4 h5 => ?_)
  dsimp only
  rw [bnd_eq, bnd_eq, nI_add, show x + (z - x) = z by omega]
  exact ok.s ⟨⟨_, rfl⟩, h1, h2, h3, h4, h5⟩
theorem C_hash (hae : a ≤ e) (he : e ≤ 1500) (i pl sz : Int32) : ok (f_sc_readHash (nI a) f (nI e) (-1) i pl sz 1500) (ro (fun v a' i' y => (∃ q r, y = (nb f 0 v 8, nI a', -1, i', q, r)) ∧ a + 2 ≤ v ∧ a' = v + 8 ∧ a' ≤ e) (fun p y => (∃ x at' q r, y = (x, at', nI p, i, q, r)) ∧ p = a) (p_bytes f 8 8 e a i)) := by
  unfold f_sc_readHash p_bytes
  refine C_head (lo := 8) (hi := 8) hae he (by decide) (by decide) (by decide) i pl sz (fun x => ?_) (fun x z h1 h2 h3 h4 h5 => ?_)
  · dsimp only
    rw [if_pos rfl]
    exact ok.s ⟨⟨_, _, _, _, rfl⟩, rfl⟩
  · dsimp only
    rw [if_neg (by decide), p_number' f (by omega), Option.bind_some, show z - x = 8 by omega, show x + 8 = z by omega]
    exact ok.s ⟨⟨_, _, rfl⟩, h1, by simp only; omega, h3⟩
theorem fl_f (q s : Int32) : f_sc_fail (-1) q s = some (q, 0) := if_pos rfl
theorem C_int {lo hi : Int64} (hae : a ≤ e) (he : e ≤ 1500) (i pl sz : Int32) : ok (f_sc_readInteger (nI a) f (nI e) (-1) i pl sz 1500 lo hi) (ro (fun v a' i' y => (∃ q r, y = (v, nI a', -1, i', q, r)) ∧ a + 2 ≤ a' ∧ a' ≤ e ∧ lo ≤ v ∧ v ≤ hi) (fun p y => (∃ x at' i' q r, y = (x, at', nI p, i', q, r)) ∧ p = a) (p_int f lo hi e a i)) := by
  unfold f_sc_readInteger p_int
  refine C_head (lo := 1) (hi := 8) hae he (by decide) (by decide) (by decide) i pl sz (fun x => ?_) (fun x z h1 h2 h3 h4 h5 => ?_)
  · dsimp only
    rw [if_pos rfl]
    exact ok.s ⟨⟨_, _, _, _, _, rfl⟩, rfl⟩
  · dsimp only
    unfold j_sc_readInteger_64
    generalize hn : z - x = n at *
    have hz : z = x + n := by omega
    have e1 : (nI n = 1) ↔ n = 1 := nI_eq (b := 1) (by omega) (by decide)
    rw [if_neg (by decide), chk_t (inN (by omega) (by omega)), nI_clamp (by omega), p_number' f (by omega), Option.bind_some, Option.bind_some, bnd_eq, bnd_eq, fl_f, Option.bind_some]
    rw [← hz, if_pos (show (0 : Int32) = 0 from rfl), if_neg (show ¬ (1 : Int32) = 0 by decide)]
    by_cases hneg : f x < 0
    · rw [if_pos hneg, if_neg (fun g => g.1.1 hneg)]
      exact ok.s ⟨⟨_, _, _, _, _, rfl⟩, rfl⟩
    · rw [if_neg hneg]
      have fin : (n = 1 ∨ ¬ f x = 0 ∨ f (x + 1) < 0) → ok (if nb f 0 x n < lo then some (nb f 0 x n, nI z, nI a, i + 1, nI a, (0 : Int32)) else if nb f 0 x n ≤ hi then some (nb f 0 x n, nI z, -1, i + 1, nI a, nI n) else some (nb f 0 x n, nI z, nI a, i + 1, nI a, 0)) (ro (fun v a' i' y => (∃ q r, y = (v, nI a', -1, i', q, r)) ∧ a + 2 ≤ a' ∧ a' ≤ e ∧ lo ≤ v ∧ v ≤ hi) (fun p y => (∃ x at' i' q r, y = (x, at', nI p, i', q, r)) ∧ p = a) (if (¬ f x < 0 ∧ (n = 1 ∨ ¬ f x = 0 ∨ f (x + 1) < 0)) ∧ lo ≤ nb f 0 x n ∧ nb f 0 x n ≤ hi then Sum.inr (nb f 0 x n, z, i + 1) else Sum.inl a)) := fun hp => by
        by_cases c1 : nb f 0 x n < lo
        · rw [if_pos c1, if_neg (fun g => Int64.not_le.mpr c1 g.2.1)]
          exact ok.s ⟨⟨_, _, _, _, _, rfl⟩, rfl⟩
        · rw [if_neg c1]
          by_cases c2 : nb f 0 x n ≤ hi
          · rw [if_pos c2, if_pos ⟨⟨hneg, hp⟩, Int64.not_lt.mp c1, c2⟩]
            exact ok.s ⟨⟨_, _, rfl⟩, by simp only; omega, h3, Int64.not_lt.mp c1, c2⟩
          · rw [if_neg c2, if_neg (fun g => c2 g.2.2)]
            exact ok.s ⟨⟨_, _, _, _, _, rfl⟩, rfl⟩
      by_cases hn1 : n = 1
      · rw [if_pos (e1.mpr hn1)]
        exact fin (Or.inl hn1)
      · rw [if_neg (fun g => hn1 (e1.mp g))]
        by_cases h00 : f x = 0
        · rw [if_pos h00, nI_1, chk_t (inN (by omega) (by omega)), nI_clamp (by omega)]
          by_cases hl : f (x + 1) < 0
          · rw [if_neg (fun g => Int32.not_le.mpr hl g)]
            exact fin (Or.inr (Or.inr hl))
          · rw [if_pos (Int32.not_lt.mp hl), if_neg (fun g => by rcases g.1.2 with g | g | g; exact hn1 g; exact g h00; exact hl g)]
            exact ok.s ⟨⟨_, _, _, _, _, rfl⟩, rfl⟩
        · rw [if_neg h00]
          exact fin (Or.inr (Or.inl h00))
theorem nb_1 (x : Nat) : (nb f 0 x 1).toInt32 = nI (u8 (f x)) := by
  show (((0 : Int64) <<< ((8 : Int32).toInt64 &&& 63)) ||| ((f x &&& 255).toInt64)).toInt32 = _
  have hu := u8_lt (f x)
  rw [u8_eq, nI_l (by omega), show ((0 : Int64) <<< ((8 : Int32).toInt64 &&& 63)) = 0 from rfl, Int64.zero_or, lN_i]
theorem C_code (hae : a ≤ e) (he : e ≤ 1500) (i pl sz : Int32) : ok (f_sc_readCode (nI a) f (nI e) (-1) i pl sz 1500) (ro (fun v a' i' y => (∃ q r, y = (nI v, nI a', -1, i', q, r)) ∧ a + 2 ≤ a' ∧ a' ≤ e ∧ v ≤ 10) (fun p y => (∃ x at' i' q r, y = (x, at', nI p, i', q, r)) ∧ p = a) (p_code f e a i)) := by
  unfold f_sc_readCode p_code
  refine C_head (lo := 1) (hi := 1) hae he (by decide) (by decide) (by decide) i pl sz (fun x => ?_) (fun x z h1 h2 h3 h4 h5 => ?_)
  · dsimp only
    rw [if_pos rfl]
    exact ok.s ⟨⟨_, _, _, _, _, rfl⟩, rfl⟩
  · dsimp only
    have hu := u8_lt (f x)
    rw [if_neg (by decide), p_number' f (by omega), Option.bind_some, show z - x = 1 by omega, show x + 1 = z by omega]
    dsimp only
    rw [nb_1, bnd_eq, fl_f, Option.bind_some]
    by_cases hc : u8 (f x) ≤ 10
    · rw [if_pos (show nI (u8 (f x)) ≤ 10 from nI_le (b := 10) hc (by decide)), if_pos hc]
      exact ok.s ⟨⟨_, _, rfl⟩, by simp only; omega, h3, hc⟩
    · rw [if_neg (show ¬ nI (u8 (f x)) ≤ 10 from nI_ge (a := 10) (by omega) (by omega)), if_neg hc]
      exact ok.s ⟨⟨_, _, _, _, _, rfl⟩, rfl⟩
theorem C_sig (hae : a ≤ e) (he : e ≤ 1500) (i pl sz : Int32) : ok (f_sc_readSignature (nI a) f (nI e) (-1) i pl sz 1500) (ro (fun v a' i' y => (∃ q r, y = (nb f 0 v 9, nI a', -1, i', q, r)) ∧ f v = 0 ∧ a + 2 ≤ v ∧ a' = v + 9 ∧ a' ≤ e) (fun p y => (∃ x at' i' q r, y = (x, at', nI p, i', q, r)) ∧ p = a) (p_sig f e a i)) := by
  unfold f_sc_readSignature p_sig
  refine C_head (lo := 9) (hi := 9) hae he (by decide) (by decide) (by decide) i pl sz (fun x => ?_) (fun x z h1 h2 h3 h4 h5 => ?_)
  · dsimp only
    rw [if_pos rfl]
    exact ok.s ⟨⟨_, _, _, _, _, rfl⟩, rfl⟩
  · dsimp only
    rw [if_neg (by decide), chk_t (inN (by omega) (by omega)), nI_clamp (by omega)]
    by_cases hc : f x = 0
    · rw [if_pos hc, if_pos hc, p_number' f (by omega), Option.bind_some, show z - x = 9 by omega, show x + 9 = z by omega]
      exact ok.s ⟨⟨_, _, rfl⟩, hc, h1, by simp only; omega, h3⟩
    · rw [if_neg hc, if_neg hc, fl_f, Option.bind_some]
      dsimp only
      rw [show (0 : Int32) = nI 0 from rfl, p_number' f (by omega), Option.bind_some]
      exact ok.s ⟨⟨_, _, _, _, _, rfl⟩, rfl⟩
theorem C_more (hae : a ≤ e) (he : e ≤ 1500) : f_sc_hasMore (nI a) (nI e) (-1) = some (if a = e then 0 else 1) := by
  unfold f_sc_hasMore
  rw [if_pos rfl]
  by_cases h : a = e
  · rw [if_pos (nI_le (by omega) (by omega)), if_pos h]
  · rw [if_neg (nI_ge (by omega) (by omega)), if_neg h]
theorem C_endText (hae : a ≤ e) (he : e ≤ 1500) (i pl sz : Int32) : ok (f_sc_endText (nI a) (nI e) (-1) pl sz) (ro (fun _ a' i' y => y = (-1, pl, sz) ∧ a' = a ∧ i' = i ∧ a = e) (fun p y => y = (nI p, nI p, 0) ∧ p = a) (p_ends e a i)) := by
  unfold f_sc_endText p_ends
  rw [C_more hae he, Option.bind_some]
  by_cases h : a = e
  · rw [if_pos h, if_pos h, if_pos rfl]
    exact ok.s ⟨rfl, rfl, rfl, h⟩
  · rw [if_neg h, if_neg h, if_neg (by decide), fl_f]
    exact ok.s ⟨rfl, rfl⟩
theorem C_close {d : Nat} {O : Nat → Int32} (hae : a ≤ e) (he : e ≤ 1500) (hd : d < 12) (i pl sz : Int32) : ok (f_sc_close (nI a) (nI (d + 1)) (nI e) (-1) O pl sz) (ro (fun _ a' i' y => y = (nI d, O d, -1, pl, sz) ∧ a' = a ∧ i' = i ∧ a = e) (fun p y => y = (nI (d + 1), nI e, nI p, nI p, 0) ∧ p = a) (p_ends e a i)) := by
  unfold f_sc_close
  refine ok.b (C_endText hae he i pl sz) (fun y hy => ?_)
  cases hm : p_ends e a i with
  | inl p =>
    rw [hm] at hy
    obtain ⟨rfl, h1⟩ := hy
    dsimp only
    have : p ≤ a := by omega
    rw [if_neg (fl_nI (by omega))]
    exact ok.s ⟨rfl, h1⟩
  | inr v =>
    rw [hm] at hy
    obtain ⟨rfl, h1⟩ := hy
    dsimp only
    rw [if_pos rfl, if_neg (nI_nle (by omega) (by omega)), nI_pred, bnd_eq, chk_t (inN (by omega) (by omega)), nI_clamp (by omega), bnd_eq]
    exact ok.s ⟨rfl, h1⟩
end CR
