/-! PURE 26: signatures, made and looked at -/
def F4 (f : Nat → Int32) (x : Nat) : Nat := ((u8 (f x) * 256 + u8 (f (x + 1))) * 256 + u8 (f (x + 2))) * 256 + u8 (f (x + 3))
theorem F4_lt (f : Nat → Int32) (x : Nat) : F4 f x < 4294967296 := by
  have h0 := u8_lt (f x)
  have h1 := u8_lt (f (x + 1))
  have h2 := u8_lt (f (x + 2))
  have h3 := u8_lt (f (x + 3))
  unfold F4
  omega
theorem NB_F4 (f : Nat → Int32) (x : Nat) : NB f x = F4 f x * 4294967296 + F4 f (x + 4) := by
  rw [NB_e]
  unfold F4
  simp only [Nat.add_assoc, Nat.reduceAdd]
  omega
theorem b4 {a b c d : Nat} (ha : a < 256) (hb : b < 256) (hc : c < 256) (hd : d < 256) : (((lN a <<< ((24 : Int32).toInt64 &&& 63)) ||| (lN b <<< ((16 : Int32).toInt64 &&& 63))) ||| (lN c <<< ((8 : Int32).toInt64 &&& 63))) ||| lN d = lN (((a * 256 + b) * 256 + c) * 256 + d) := by
  rw [show lN a <<< ((24 : Int32).toInt64 &&& 63) = lN (a * 2 ^ 24) from wb_shl a (k := 24) (by decide), show lN b <<< ((16 : Int32).toInt64 &&& 63) = lN (b * 2 ^ 16) from wb_shl b (k := 16) (by decide), show lN c <<< ((8 : Int32).toInt64 &&& 63) = lN (c * 2 ^ 8) from wb_shl c (k := 8) (by decide)]
  rw [g_or (k := 24) (p := 2 ^ 24) rfl (by omega) (by omega), show a * 2 ^ 24 + b * 2 ^ 16 = (a * 256 + b) * 2 ^ 16 by omega, g_or (k := 16) (p := 2 ^ 16) rfl (by omega) (by omega), show (a * 256 + b) * 2 ^ 16 + c * 2 ^ 8 = ((a * 256 + b) * 256 + c) * 2 ^ 8 by omega, g_or (k := 8) (p := 2 ^ 8) rfl (by omega) (by omega)]
theorem p_four {f : Nat → Int32} {x : Nat} (hx : x + 4 ≤ 1500) : f_four f 1500 (nI x) = some (lN (F4 f x)) := by
  unfold f_four F4
  rw [show (nI x + 2 : Int32) = nI (x + 2) from nI_add x 2, show (nI x + 3 : Int32) = nI (x + 3) from nI_add x 3, nI_1, chk_t (inN (by omega) (by omega)), chk_t (inN (by omega) (by omega)), chk_t (inN (by omega) (by omega)), chk_t (inN (by omega) (by omega)), nI_clamp (by omega), nI_clamp (by omega), nI_clamp (by omega), nI_clamp (by omega), and255l, and255l, and255l, and255l, u8_eq, u8_eq, u8_eq, u8_eq]
  have h0 := u8_lt (f x)
  have h1 := u8_lt (f (x + 1))
  have h2 := u8_lt (f (x + 2))
  have h3 := u8_lt (f (x + 3))
  rw [nI_l (by omega), nI_l (by omega), nI_l (by omega), nI_l (by omega), b4 h0 h1 h2 h3]
def pwN (c z K : Nat) : Nat := 4 ^ z % PP * (K ^ (1073741789 - c) % PP) % PP
def rrN (c z K : Nat) (d : Int64) : Nat := uw (hE (hL (hL h0 (lN (pwN c z K))) d)) % 1073741789
theorem pw_e {c z K : Nat} : lN (4 ^ z % PP) * lN (K ^ (1073741789 - c) % PP) - lN (4 ^ z % PP) * lN (K ^ (1073741789 - c) % PP) / (2147483579 : Int64) * (2147483579 : Int64) = lN (pwN c z K) := by
  rw [lN_mul, lrem (mulPP (Nat.mod_lt _ (by decide)) (Nat.mod_lt _ (by decide))), pwN]
theorem ir1 {z : Nat} (hz : z < 2 ^ 31) : f_nu_power (4 : Int64) (lN z) = some (lN (4 ^ z % PP)) := by rw [l4, pu_power (by decide) hz]
theorem ir2 {z : Nat} (hz : z < 2 ^ 31) : f_power (4 : Int64) (lN z) = some (lN (4 ^ z % PP)) := by rw [l4, p_power (by decide) (by omega)]
theorem ir3 {c : Nat} (hc : c < 1073741789) : (1073741789 : Int64) - lN c = lN (1073741789 - c) := by rw [l789, lN_sub (by omega)]
theorem ir4 {K c : Nat} (hK : K < PP) (hc : c < 1073741789) : f_nu_power (lN K) ((1073741789 : Int64) - lN c) = some (lN (K ^ (1073741789 - c) % PP)) := by rw [ir3 hc, pu_power hK (by omega)]
theorem ir5 {K c : Nat} (hK : K < PP) (hc : c < 1073741789) : f_power (lN K) ((1073741789 : Int64) - lN c) = some (lN (K ^ (1073741789 - c) % PP)) := by rw [ir3 hc, p_power hK (by omega)]
theorem ir6 (c z K : Nat) (d : Int64) : f_nu_remainder (hE (hL (hL h0 (lN (pwN c z K))) d)) (1073741789 : Int64) = some (lN (rrN c z K d)) := by
  rw [l789, purem' _ (by decide) (by decide), rrN]
theorem ir7 (c z K : Nat) (d : Int64) : f_rest (hE (hL (hL h0 (lN (pwN c z K))) d)) (1073741789 : Int64) = some (lN (rrN c z K d)) := by
  rw [l789, prest' _ (by decide) (by decide), rrN]
theorem rrN_lt (c z K : Nat) (d : Int64) : rrN c z K d < 1073741789 := Nat.mod_lt _ (by decide)
/-- is c, z a signature by the key K of the digest d -/
def irN (c z K : Nat) (d : Int64) : Int32 := if c < 1073741789 ∧ z < 1073741789 ∧ rrN c z K d = c then 1 else 0
theorem pu_isRight {f : Nat → Int32} {x K : Nat} (hK : K < PP) (d : Int64) : f_nu_isRight (nb f 0 x 8) (lN K) d = some (irN (F4 f x) (F4 f (x + 4)) K d) := by
  have hc := F4_lt f x
  have hz := F4_lt f (x + 4)
  have hs := NB_F4 f x
  have hN := (nb8 f x).2
  unfold f_nu_isRight irN
  rw [(nb8 f x).1, show ((lN (NB f x)).toUInt64 >>> ((32 : Int32).toInt64.toUInt64 &&& Int64.toUInt64 63)).toInt64 = lN (NB f x / 2 ^ 32) from wb_shr (k := 32) hN (by decide), show lN (NB f x) &&& (4294967295 : Int64) = lN (NB f x % 2 ^ 32) from wb_mask (k := 32) hN (by decide), show NB f x / 2 ^ 32 = F4 f x by omega, show NB f x % 2 ^ 32 = F4 f (x + 4) by omega, bnd_eq, bnd_eq]
  generalize F4 f x = c at *
  generalize F4 f (x + 4) = z at *
  by_cases c1 : c < 1073741789
  · rw [if_neg (show ¬ (1073741789 : Int64) ≤ lN c from fun q => by have := (pk_lLE (a := 1073741789) (by decide) (by omega)).mp q; omega)]
    by_cases c2 : z < 1073741789
    · have hr := rrN_lt c z K d
      rw [if_pos (show lN z < (1073741789 : Int64) from (pk_lLT (b := 1073741789) (by omega) (by decide)).mpr c2), ir1 (by omega), Option.bind_some, ir4 hK c1, Option.bind_some, pw_e, bnd_eq, pu_hashOfBoth, Option.bind_some, ir6, Option.bind_some]
      by_cases c3 : rrN c z K d = c
      · rw [if_pos (by rw [c3]), if_pos ⟨c1, c2, c3⟩]
      · rw [if_neg (fun q => c3 ((pk_lEQ (by omega) (by omega)).mp q).symm), if_neg (fun q => c3 q.2.2)]
    · rw [if_neg (show ¬ lN z < (1073741789 : Int64) from fun q => c2 ((pk_lLT (b := 1073741789) (by omega) (by decide)).mp q)), if_neg (fun q => c2 q.2.1)]
  · rw [if_pos (show (1073741789 : Int64) ≤ lN c from (pk_lLE (a := 1073741789) (by decide) (by omega)).mpr (by omega)), if_neg (fun q => c1 q.1)]
theorem p_isRight {f : Nat → Int32} {x a K : Nat} {A : List Int32} (hx : x + 8 ≤ 1500) (hK : K < PP) (hg : GG f a A) (hA : a + A.length ≤ 1500) (xh : Int64) : ok (f_isRight xh (lN K) f 1500 (nI a) (nI (a + A.length)) (nI x)) (fun y => y.1 = irN (F4 f x) (F4 f (x + 4)) K (hl A)) := by
  have hc := F4_lt f x
  have hz := F4_lt f (x + 4)
  unfold f_isRight irN
  rw [p_four (by omega), Option.bind_some, show (nI x + 4 : Int32) = nI (x + 4) from nI_add x 4, p_four (by omega), Option.bind_some]
  generalize F4 f x = c at *
  generalize F4 f (x + 4) = z at *
  by_cases c1 : c < 1073741789
  · rw [if_neg (show ¬ (1073741789 : Int64) ≤ lN c from fun q => by have := (pk_lLE (a := 1073741789) (by decide) (by omega)).mp q; omega)]
    by_cases c2 : z < 1073741789
    · have hr := rrN_lt c z K (hl A)
      rw [if_pos (show lN z < (1073741789 : Int64) from (pk_lLT (b := 1073741789) (by omega) (by decide)).mpr c2), p_hashOf hg hA (by decide) (by unfold FU; omega), Option.bind_some]
      dsimp only
      rw [bnd_eq, ir2 (by omega), Option.bind_some, ir5 hK c1, Option.bind_some, pw_e, bnd_eq, p_hashOfTwo, Option.bind_some]
      dsimp only
      rw [ir7, Option.bind_some]
      by_cases c3 : rrN c z K (hl A) = c
      · rw [if_pos (by rw [c3]), if_pos ⟨c1, c2, c3⟩]
        exact ok.s rfl
      · rw [if_neg (fun q => c3 ((pk_lEQ (by omega) (by omega)).mp q)), if_neg (fun q => c3 q.2.2)]
        exact ok.s rfl
    · rw [if_neg (show ¬ lN z < (1073741789 : Int64) from fun q => c2 ((pk_lLT (b := 1073741789) (by omega) (by decide)).mp q)), if_neg (fun q => c2 q.2.1)]
      exact ok.s rfl
  · rw [if_pos (show (1073741789 : Int64) ≤ lN c from (pk_lLE (a := 1073741789) (by decide) (by omega)).mpr (by omega)), if_neg (fun q => c1 q.1)]
    exact ok.s rfl
/-! signatures, made -/
theorem sr_e4 (x : Nat) (d : Int64) : f_rest (hE (hL (hL h0 (lN (4 ^ sgK x d % PP))) d)) (1073741789 : Int64) = some (lN (sgC x d)) := by
  rw [l789, prest' _ (by decide) (by decide), sgC]
theorem sr_e5 (x : Nat) (d : Int64) : f_rest (hE (hL (hL h0 (lN x)) d)) (1073741788 : Int64) = some (lN (uw (hE (hL (hL h0 (lN x)) d)) % 1073741788)) := by
  rw [l788, prest' _ (by decide) (by decide)]
theorem sr_z {k c x : Nat} (hk : k < 1073741789) (hc : c < 1073741789) (hx : x < 1073741789) : (lN k + (lN c * lN x - lN c * lN x / (1073741789 : Int64) * (1073741789 : Int64))) - (lN k + (lN c * lN x - lN c * lN x / (1073741789 : Int64) * (1073741789 : Int64))) / (1073741789 : Int64) * (1073741789 : Int64) = lN ((k + c * x) % 1073741789) := by
  have hm : c * x ≤ 1073741788 * 1073741788 := Nat.mul_le_mul (by omega) (by omega)
  have h1 : c * x % 1073741789 < 1073741789 := Nat.mod_lt _ (by decide)
  rw [lN_mul, l789, pk_lRem (by omega) (by decide) (by decide), lN_add, pk_lRem (by omega) (by decide) (by decide)]
  congr 1
  rw [Nat.add_mod k (c * x), Nat.add_mod k (c * x % 1073741789), Nat.mod_mod]
theorem p_sign {x : Nat} (hx : x < QQ) {f : Nat → Int32} {N a : Nat} {A : List Int32} (hg : GG f a A) (hN : a + A.length ≤ N) (h31 : N < 2 ^ 31) (hA : A.length < FU) (xh c z : Int64) : ok (f_sign xh c z (lN x) f N (nI a) (nI (a + A.length))) (fun y => y.2.1 = lN (sgC x (hl A)) ∧ y.2.2 = lN (sgZ x (hl A))) := by
  have hk := sgK_lt x (hl A)
  have hc := sgC_lt x (hl A)
  unfold f_sign
  rw [p_hashOf hg hN h31 hA, Option.bind_some]
  dsimp only
  rw [bnd_eq, p_hashOfTwo, Option.bind_some]
  dsimp only
  rw [sr_e5, Option.bind_some, sgK_eq, bnd_eq, ir2 (by unfold QQ at hk; omega), Option.bind_some, p_hashOfTwo, Option.bind_some]
  dsimp only
  rw [sr_e4, Option.bind_some, sr_z (by unfold QQ at hk; omega) (by unfold QQ at hc; omega) (by unfold QQ at hx; omega), bnd_eq]
  exact ok.s ⟨rfl, by rw [sgZ]⟩
/-- the bytes of a signature by x of the digest d -/
def sigL (x : Nat) (d : Int64) : List Int32 := itm 3 (BB 0 :: (hbl (lN (sgC x d)) 4 ++ hbl (lN (sgZ x d)) 4))
theorem cz_bytes {c z : Nat} (hc : c < 1073741789) (hz : z < 1073741789) : hbl ((lN c <<< ((32 : Int32).toInt64 &&& 63)) ||| lN z) 8 = hbl (lN c) 4 ++ hbl (lN z) 4 := by
  rw [show lN c <<< ((32 : Int32).toInt64 &&& 63) = lN (c * 2 ^ 32) from wb_shl c (k := 32) (by decide), g_or (k := 32) (p := 2 ^ 32) rfl (by omega) (by omega)]
  show [byt _ 7, byt _ 6, byt _ 5, byt _ 4, byt _ 3, byt _ 2, byt _ 1, byt _ 0] = [byt (lN c) 3, byt (lN c) 2, byt (lN c) 1, byt (lN c) 0, byt (lN z) 3, byt (lN z) 2, byt (lN z) 1, byt (lN z) 0]
  unfold byt
  rw [uw_lN (by omega), uw_lN (by omega), uw_lN (by omega)]
  simp only [Nat.reducePow]
  rw [show (c * 4294967296 + z) / 72057594037927936 % 256 = c / 16777216 % 256 by omega, show (c * 4294967296 + z) / 281474976710656 % 256 = c / 65536 % 256 by omega, show (c * 4294967296 + z) / 1099511627776 % 256 = c / 256 % 256 by omega, show (c * 4294967296 + z) / 4294967296 % 256 = c / 1 % 256 by omega, show (c * 4294967296 + z) / 16777216 % 256 = z / 16777216 % 256 by omega, show (c * 4294967296 + z) / 65536 % 256 = z / 65536 % 256 by omega, show (c * 4294967296 + z) / 256 % 256 = z / 256 % 256 by omega, show (c * 4294967296 + z) / 1 % 256 = z / 1 % 256 by omega]
