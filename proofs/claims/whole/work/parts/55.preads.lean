/-! PURE 5: the rest of the reads: the reference's, then the class's -/
theorem isb_code {x : Int32} (h : isb x) : ((0 : Int64) ≤ x.toInt64 ∧ x.toInt64 ≤ 10 ↔ u8 x ≤ 10) ∧ (u8 x < 128 → x.toInt64 = lN (u8 x) ∧ x = nI (u8 x)) := by
  have hv := isb_v h
  have hl := u8_lt x
  constructor
  · rw [Int64.le_iff_toInt_le, Int64.le_iff_toInt_le, Int32.toInt_toInt64, show (0 : Int64).toInt = 0 from rfl, show (10 : Int64).toInt = 10 from rfl]
    split at hv <;> omega
  · intro h1
    rw [if_pos h1] at hv
    have e : x = nI (u8 x) := Int32.toInt_inj.mp (by rw [nI_toInt (by omega)]; exact hv)
    exact ⟨by rw [← nI_l (by omega), ← e], e⟩
theorem R_code {f : Nat → Int32} {a e : Nat} (hB : ∀ j, isb (f j)) (hae : a ≤ e) (he : e ≤ 1500) (i fa st so fr to : Int32) (nu : Int64) : ok (f_code f (nI a) i fa st so fr to nu (nI e)) (ro (fun v a' i' y => (∃ x, y = (1, nI a', i', fa, nI a, 10, x, nI a', lN v)) ∧ a + 2 ≤ a' ∧ a' ≤ e ∧ v ≤ 10) (fun p y => y.1 = 0 ∧ y.2.2.2.1 = nI p) (p_code f e a i)) := by
  unfold f_code p_code
  refine R_head hae he 10 i fa st so fr to (fun y h0 h1 => ?_) (fun x z h1 h2 h3 hc => ?_) (fun x z h1 h2 h3 h4 h5 _ => ?_)
  · rw [if_pos h0]
    exact ok.s ⟨rfl, h1⟩
  all_goals dsimp only
  all_goals rw [if_neg (by decide), sub_n h2]
  · rw [if_neg (show ¬ nI (z - x) = 1 from fun g => by have := (nI_eq (b := 1) (by omega) (by decide)).mp g; omega), wr_b]
    exact ok.s ⟨rfl, rfl⟩
  · obtain ⟨k1, k2⟩ := isb_code (hB x)
    rw [if_pos (by rw [show z - x = 1 by omega]; rfl), chk_t (inN (by omega) (by omega)), nI_clamp (by omega)]
    by_cases hc : u8 (f x) ≤ 10
    · rw [p_in (k1.mpr hc), Option.bind_some, if_neg (by decide), bnd_eq, bnd_eq, if_pos hc, (k2 (by omega)).1]
      exact ok.s ⟨⟨_, rfl⟩, by simp only; omega, h3, hc⟩
    · rw [p_out (fun g => hc (k1.mp g)), Option.bind_some, if_pos rfl, wr_b, if_neg hc]
      exact ok.s ⟨rfl, rfl⟩
theorem R_sig {f : Nat → Int32} {a e : Nat} (hae : a ≤ e) (he : e ≤ 1500) (i fa st so fr to sg : Int32) : ok (f_signature f (nI a) i fa st so fr to sg (nI e)) (ro (fun v a' i' y => (∃ x, y = (1, nI a', i', fa, nI a, 3, x, nI a', nI (v + 1))) ∧ a + 2 ≤ v ∧ a' = v + 9 ∧ a' ≤ e) (fun p y => y.1 = 0 ∧ y.2.2.2.1 = nI p) (p_sig f e a i)) := by
  unfold f_signature p_sig
  refine R_head hae he 3 i fa st so fr to (fun y h0 h1 => ?_) (fun x z h1 h2 h3 hc => ?_) (fun x z h1 h2 h3 h4 h5 _ => ?_)
  · rw [if_pos h0]
    exact ok.s ⟨rfl, h1⟩
  all_goals dsimp only
  all_goals rw [if_neg (by decide), sub_n h2]
  · rw [if_neg (show ¬ nI (z - x) = 9 from fun g => by have := (nI_eq (b := 9) (by omega) (by decide)).mp g; omega), wr_b]
    exact ok.s ⟨rfl, rfl⟩
  · rw [if_pos (by rw [show z - x = 9 by omega]; rfl), chk_t (inN (by omega) (by omega)), nI_clamp (by omega)]
    by_cases hc : f x = 0
    · rw [if_pos hc, if_pos hc, bnd_eq, bnd_eq, nI_1]
      exact ok.s ⟨⟨_, rfl⟩, h1, by simp only; omega, h3⟩
    · rw [if_neg hc, if_neg hc, wr_b]
      exact ok.s ⟨rfl, rfl⟩
theorem R_ends {a e : Nat} (hae : a ≤ e) (he : e ≤ 1500) (i fa : Int32) : ok (f_ends (nI a) fa (nI e)) (ro (fun _ a' i' y => y = (1, fa) ∧ a' = a ∧ i' = i ∧ a = e) (fun p y => y.1 = 0 ∧ y.2 = nI p) (p_ends e a i)) := by
  unfold f_ends p_ends
  by_cases h : a = e
  · subst h
    rw [if_pos rfl, if_pos rfl]
    exact ok.s ⟨rfl, rfl, rfl, rfl⟩
  · rw [if_neg (fun g => h ((nI_eq (by omega) (by omega)).mp g)), if_neg h]
    exact ok.s ⟨rfl, rfl⟩
/-! the class's: once there is a fault nothing is read -/
section ST
variable {at' e F i pl sz d k lo hi : Int32} {f O : Nat → Int32} {n : Nat}
theorem S_sort (h : ¬ F = -1) : f_sc_sortAhead at' f e F n = some (-1) := if_neg h
theorem S_more (h : ¬ F = -1) : f_sc_hasMore at' e F = some 0 := if_neg h
theorem S_endText (h : ¬ F = -1) : f_sc_endText at' e F pl sz = some (F, pl, sz) := by
  rw [f_sc_endText, S_more h]
  rfl
theorem S_close (h : ¬ F = -1) : f_sc_close at' d e F O pl sz = some (d, e, F, pl, sz) := by
  rw [f_sc_close, S_endText h, Option.bind_some, if_neg h]
theorem S_ent (h : ¬ F = -1) (hk : ¬ -1 = k) : f_sc_enter at' f e F i pl sz n k lo hi = some (0, at', F, i, at', 0) := by
  rw [f_sc_enter, S_sort h, Option.bind_some, if_neg hk, f_sc_fail, if_neg h]
  rfl
theorem S_open (h : ¬ F = -1) (hk : ¬ -1 = k) : f_sc_open at' f d e F i O pl sz n k = some (at', d, e, F, i, O, at', 0) := by
  rw [f_sc_open, S_ent h hk]
  rfl
theorem S_bytes (h : ¬ F = -1) : f_sc_readBytes at' f e F i pl sz n lo hi = some (at', at' + 0, F, i, at', 0) := by
  rw [f_sc_readBytes, S_ent h (by decide)]
  rfl
theorem S_hash (h : ¬ F = -1) : f_sc_readHash at' f e F i pl sz n = some (0, at', F, i, at', 0) := by
  rw [f_sc_readHash, S_ent h (by decide)]
  rfl
theorem S_int {x y : Int64} (h : ¬ F = -1) : f_sc_readInteger at' f e F i pl sz n x y = some (0, at', F, i, at', 0) := by
  rw [f_sc_readInteger, S_ent h (by decide)]
  rfl
theorem S_code (h : ¬ F = -1) : f_sc_readCode at' f e F i pl sz n = some (0, at', F, i, at', 0) := by
  rw [f_sc_readCode, S_ent h (by decide)]
  rfl
theorem S_sig (h : ¬ F = -1) : f_sc_readSignature at' f e F i pl sz n = some (0, at', F, i, at', 0) := by
  rw [f_sc_readSignature, S_ent h (by decide)]
  rfl
theorem S_time (h : ¬ F = -1) : f_sc_readTime at' f e F i pl sz n = some (0, at', F, i, at', 0) := by
  rw [f_sc_readTime, S_ent h (by decide)]
  rfl
end ST
theorem fl_nI {p : Nat} (h : p < 2 ^ 31) : ¬ nI p = -1 := fun g => by
  have := congrArg Int32.toInt g
  rw [nI_toInt h, show (-1 : Int32).toInt = -1 from rfl] at this
  omega
/-! and while there is none -/
theorem C_pass {f : Nat → Int32} {a e : Nat} (hae : a ≤ e) (he : e ≤ 1500) (sz : Int32) : f_sc_passLength (nI a) f (nI e) sz 1500 = some ((it f a e).elim (0, nI a, sz) (fun p => (1, nI p.1, nI (p.2 - p.1)))) := by
  unfold f_sc_passLength
  rw [show (nI a + 2 : Int32) = nI (a + 2) from nI_add a 2, bnd_eq]
  by_cases h1 : a + 2 ≤ e
  · rw [if_pos (nI_le h1 (by omega)), nI_1, chk_t (inN (by omega) (by omega)), nI_clamp (by omega), u8_eq (f (a + 1)), bnd_eq]
    have hu := u8_lt (f (a + 1))
    have e128 : ((128 : Int32) ≤ nI (u8 (f (a + 1)))) ↔ 128 ≤ u8 (f (a + 1)) := nI_leI (a := 128) (by decide) (by omega)
    unfold j_sc_passLength_49 j_sc_passLength_131 j_sc_passLength_153
    by_cases g : 128 ≤ u8 (f (a + 1))
    · rw [if_pos (e128.mpr g), show nI (u8 (f (a + 1))) - 128 = nI (u8 (f (a + 1)) - 128) from sub_n g, nI_add]
      by_cases g8 : u8 (f (a + 1)) = 128
      · rw [if_pos (by rw [g8]; rfl), it_no (by omega) (by omega) (by omega)]
        rfl
      · rw [if_neg (show ¬ nI (u8 (f (a + 1))) = 128 from fun q => g8 ((nI_eq (b := 128) (by omega) (by decide)).mp q))]
        by_cases g9 : u8 (f (a + 1)) = 129
        · rw [it_129 h1 g9, g9, if_neg (show ¬ (2 : Int32) < nI (129 - 128) by decide)]
          by_cases g3 : a + 3 ≤ e
          · rw [if_pos (nI_le (show a + 2 + (129 - 128) ≤ e by omega) (by omega)), if_pos (show nI (129 - 128) = 1 from rfl), chk_t (inN (by omega) (by omega)), nI_clamp (by omega), u8_eq (f (a + 2)), bnd_eq, if_neg (show ¬ nI (129 - 128) = 0 by decide), if_pos (show nI (129 - 128) = 1 from rfl)]
            have hu2 := u8_lt (f (a + 2))
            by_cases g4 : 128 ≤ u8 (f (a + 2))
            · rw [if_neg (show ¬ nI (u8 (f (a + 2))) < 128 from nI_nlt (b := 128) g4 (by omega)), nI_add]
              by_cases g5 : a + 3 + u8 (f (a + 2)) ≤ e
              · rw [if_pos (nI_le (by omega) (by omega)), if_pos ⟨g3, g4, g5⟩, bnd_eq]
                simp only [Option.elim]
                rw [show a + 3 + u8 (f (a + 2)) - (a + 3) = u8 (f (a + 2)) by omega]
              · rw [if_neg (nI_ge (by omega) (by omega)), if_neg (fun q => g5 q.2.2)]
                rfl
            · rw [if_pos (show nI (u8 (f (a + 2))) < 128 from nI_lt (b := 128) (by omega) (by decide)), if_neg (fun q => g4 q.2.1)]
              rfl
          · rw [if_neg (nI_ge (show e < a + 2 + (129 - 128) by omega) (by omega)), if_neg (fun q => g3 q.1)]
            rfl
        · by_cases g0 : u8 (f (a + 1)) = 130
          · rw [it_130 h1 g0, g0, if_neg (show ¬ (2 : Int32) < nI (130 - 128) by decide)]
            by_cases g3 : a + 4 ≤ e
            · rw [if_pos (nI_le (show a + 2 + (130 - 128) ≤ e by omega) (by omega)), if_neg (show ¬ nI (130 - 128) = 1 by decide), if_pos (show nI (130 - 128) = 2 from rfl), chk_t (inN (by omega) (by omega)), nI_clamp (by omega), nI_1, chk_t (inN (by omega) (by omega)), nI_clamp (by omega), show a + 2 + 1 = a + 3 from rfl, u8_eq (f (a + 2)), u8_eq (f (a + 3)), bnd_eq, if_neg (show ¬ nI (130 - 128) = 0 by decide), if_neg (show ¬ nI (130 - 128) = 1 by decide), show nI (u8 (f (a + 2))) * 256 = nI (u8 (f (a + 2)) * 256) from pk_mul _ 256, nI_add]
              have hu2 := u8_lt (f (a + 2))
              have hu3 := u8_lt (f (a + 3))
              by_cases g4 : 256 ≤ u8 (f (a + 2)) * 256 + u8 (f (a + 3))
              · rw [if_neg (show ¬ nI (u8 (f (a + 2)) * 256 + u8 (f (a + 3))) < 256 from nI_nlt (b := 256) g4 (by omega)), nI_add]
                by_cases g5 : a + 4 + (u8 (f (a + 2)) * 256 + u8 (f (a + 3))) ≤ e
                · rw [if_pos (nI_le (by omega) (by omega)), if_pos ⟨g3, g4, g5⟩, bnd_eq]
                  simp only [Option.elim]
                  rw [show a + 4 + (u8 (f (a + 2)) * 256 + u8 (f (a + 3))) - (a + 4) = u8 (f (a + 2)) * 256 + u8 (f (a + 3)) by omega]
                · rw [if_neg (nI_ge (by omega) (by omega)), if_neg (fun q => g5 q.2.2)]
                  rfl
              · rw [if_pos (show nI (u8 (f (a + 2)) * 256 + u8 (f (a + 3))) < 256 from nI_lt (b := 256) (by omega) (by decide)), if_neg (fun q => g4 q.2.1)]
                rfl
            · rw [if_neg (nI_ge (show e < a + 2 + (130 - 128) by omega) (by omega)), if_neg (fun q => g3 q.1)]
              rfl
          · rw [if_pos (show (2 : Int32) < nI (u8 (f (a + 1)) - 128) from nI_lt (a := 2) (by omega) (by omega)), it_no (by omega) g9 g0]
            rfl
    · rw [if_neg (fun q => g (e128.mp q)), if_neg (show ¬ nI (u8 (f (a + 1))) = 128 from fun q => by have := (nI_eq (b := 128) (by omega) (by decide)).mp q; omega), if_neg (by decide), Int32.add_zero, if_pos (nI_le h1 (by omega)), if_neg (by decide), if_neg (by decide), if_pos rfl, if_neg (nI_pos (by omega)), it_127 h1 (by omega), nI_add]
      by_cases g5 : a + 2 + u8 (f (a + 1)) ≤ e
      · rw [if_pos (nI_le g5 (by omega)), if_pos g5, bnd_eq]
        simp only [Option.elim]
        rw [show a + 2 + u8 (f (a + 1)) - (a + 2) = u8 (f (a + 1)) by omega]
      · rw [if_neg (nI_ge (by omega) (by omega)), if_neg g5]
        rfl
  · rw [if_neg (nI_ge (by omega) (by omega)), it_0 h1]
    rfl
theorem C_pn {f : Nat → Int32} {a e : Nat} (hae : a ≤ e) (he : e ≤ 1500) {sz : Int32} (ht : it f a e = none) : f_sc_passLength (nI a) f (nI e) sz 1500 = some (0, nI a, sz) := by
  rw [C_pass hae he, ht]
  rfl
theorem C_ps {f : Nat → Int32} {a e : Nat} (hae : a ≤ e) (he : e ≤ 1500) {sz : Int32} {p : Nat × Nat} (ht : it f a e = some p) : f_sc_passLength (nI a) f (nI e) sz 1500 = some (1, nI p.1, nI (p.2 - p.1)) := by
  rw [C_pass hae he, ht]
  rfl
theorem C_ent {f : Nat → Int32} {a e lo hi : Nat} {k : Int32} (hae : a ≤ e) (he : e ≤ 1500) (hk : ¬ -1 = k) (hlo : lo < 2 ^ 31) (hhi : hi < 2 ^ 31) (i pl sz : Int32) : ok (f_sc_enter (nI a) f (nI e) (-1) i pl sz 1500 k (nI lo) (nI hi)) (ro (fun v a' i' y => y = (1, nI a', -1, i', nI a, nI (v - a')) ∧ i' = i + 1 ∧ a + 2 ≤ a' ∧ a' ≤ v ∧ v ≤ e ∧ lo ≤ v - a' ∧ v - a' ≤ hi) (fun p y => (∃ x, y = (0, x, nI p, i, nI p, 0)) ∧ p = a) (p_ent f k lo hi e a i)) := by
  unfold f_sc_enter p_ent
  have fail : ∀ s : Int32, f_sc_fail (-1) (nI a) s = some (nI a, 0) := fun s => if_pos rfl
  by_cases h0 : a < e
  · have hs : f_sc_sortAhead (nI a) f (nI e) (-1) 1500 = some (f a &&& 255) := by
      unfold f_sc_sortAhead
      rw [if_pos rfl, if_neg (nI_ge h0 (by omega)), chk_t (inN (by omega) (by omega)), nI_clamp (by omega)]
    rw [hs, Option.bind_some]
    by_cases hk : f a &&& 255 = k
    · rw [if_pos hk, if_pos hk]
      cases ht : it f a e with
      | none =>
        rw [C_pn hae he ht, Option.bind_some]
        dsimp only
        rw [if_pos rfl, fail]
        exact ok.s ⟨⟨_, rfl⟩, rfl⟩
      | some p =>
        have hb := it_b ht
        rw [C_ps hae he ht, Option.bind_some]
        dsimp only
        rw [if_neg (by decide), fail]
        by_cases h1 : p.2 - p.1 < lo
        · rw [if_pos (nI_lt h1 hlo), if_neg (by omega)]
          exact ok.s ⟨⟨_, rfl⟩, rfl⟩
        · rw [if_neg (nI_nlt (by omega) (by omega))]
          by_cases h2 : p.2 - p.1 ≤ hi
          · rw [if_pos (nI_le h2 hhi), if_pos (by omega)]
            exact ok.s ⟨rfl, rfl, hb.1, hb.2.1, hb.2.2, Nat.not_lt.mp h1, h2⟩
          · rw [if_neg (nI_ge (by omega) (by omega)), if_neg (by omega)]
            exact ok.s ⟨⟨_, rfl⟩, rfl⟩
    · rw [if_neg hk, if_neg hk, fail]
      exact ok.s ⟨⟨_, rfl⟩, rfl⟩
  · have hs : f_sc_sortAhead (nI a) f (nI e) (-1) 1500 = some (-1) := by
      unfold f_sc_sortAhead
      rw [if_pos rfl, if_pos (nI_le (by omega) (by omega))]
    rw [hs, Option.bind_some, if_neg hk, fail, it_0 (by omega)]
    split
    · exact ok.s ⟨⟨_, rfl⟩, rfl⟩
    · exact ok.s ⟨⟨_, rfl⟩, rfl⟩
