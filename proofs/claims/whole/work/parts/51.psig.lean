/-! PURE 2: rests, signatures -/
theorem rest_val {n b : Nat} (hn : n < 2 ^ 64) (hb0 : 0 < b) (hb : b < 2 ^ 31) : ((((((lN n).toUInt64 >>> ((1 : Int32).toInt64.toUInt64 &&& Int64.toUInt64 63)).toInt64) - (((lN n).toUInt64 >>> ((1 : Int32).toInt64.toUInt64 &&& Int64.toUInt64 63)).toInt64) / lN b * lN b) * (2 : Int64)) + (lN n &&& (1 : Int64))) - ((((((lN n).toUInt64 >>> ((1 : Int32).toInt64.toUInt64 &&& Int64.toUInt64 63)).toInt64) - (((lN n).toUInt64 >>> ((1 : Int32).toInt64.toUInt64 &&& Int64.toUInt64 63)).toInt64) / lN b * lN b) * (2 : Int64)) + (lN n &&& (1 : Int64))) / lN b * lN b = lN (n % b) := by
  have h1 : ((lN n).toUInt64 >>> ((1 : Int32).toInt64.toUInt64 &&& Int64.toUInt64 63)).toInt64 = lN (n / 2) := wb_shr (k := 1) hn (by decide)
  have hm : n / 2 % b < b := Nat.mod_lt _ hb0
  rw [h1, wb_a1 hn, pk_lRem (by omega) hb0 (by omega), show (2 : Int64) = lN 2 from rfl, lN_mul, lN_add, pk_lRem (by omega) hb0 (by omega)]
  congr 1
  have e : n = n / 2 * 2 + n % 2 := by omega
  conv => rhs; rw [e]
  rw [Nat.add_mod, Nat.mul_mod (n / 2 % b), Nat.mod_mod, ← Nat.mul_mod, ← Nat.add_mod]
theorem nz {b : Nat} (hb0 : 0 < b) (hb : b < 2 ^ 31) : ¬ lN b = 0 := fun h => by
  have := (pk_lEQ (a := b) (b := 0) (by omega) (by decide)).mp h
  omega
theorem p_rest {n b : Nat} (hn : n < 2 ^ 64) (hb0 : 0 < b) (hb : b < 2 ^ 31) : f_rest (lN n) (lN b) = some (lN (n % b)) := by
  unfold f_rest
  rw [chk_t (nz hb0 hb), chk_t (nz hb0 hb), rest_val hn hb0 hb]
theorem pu_remainder {n b : Nat} (hn : n < 2 ^ 64) (hb0 : 0 < b) (hb : b < 2 ^ 31) : f_nu_remainder (lN n) (lN b) = some (lN (n % b)) := by
  unfold f_nu_remainder
  rw [if_pos (show (0 : Int64) < lN b from (pk_lLT (a := 0) (by decide) (by omega)).mpr hb0), chk_t (nz hb0 hb), chk_t (nz hb0 hb), rest_val hn hb0 hb]
def QQ : Nat := 1073741789
def uw (x : Int64) : Nat := x.toBitVec.toNat
theorem uw_lt (x : Int64) : uw x < 2 ^ 64 := x.toBitVec.isLt
theorem uw_eq (x : Int64) : x = lN (uw x) := wb_inj (by rw [wb_tb]; unfold uw; simp)
/-- the pieces of a signature by a secret x of a digest d: k, c, z -/
def sgK (x : Nat) (d : Int64) : Nat := 1 + uw (hE (hL (hL h0 (lN x)) d)) % 1073741788
def sgC (x : Nat) (d : Int64) : Nat := uw (hE (hL (hL h0 (lN (4 ^ sgK x d % PP))) d)) % 1073741789
def sgZ (x : Nat) (d : Int64) : Nat := (sgK x d + sgC x d * x) % 1073741789
theorem sgK_lt (x : Nat) (d : Int64) : sgK x d < QQ := by
  have := Nat.mod_lt (uw (hE (hL (hL h0 (lN x)) d))) (show 0 < 1073741788 by decide)
  unfold sgK
  unfold QQ at *
  omega
theorem sgC_lt (x : Nat) (d : Int64) : sgC x d < QQ := Nat.mod_lt _ (by decide)
theorem sgZ_lt (x : Nat) (d : Int64) : sgZ x d < QQ := Nat.mod_lt _ (by decide)
theorem prest' (v : Int64) {b : Nat} (hb0 : 0 < b) (hb : b < 2 ^ 31) : f_rest v (lN b) = some (lN (uw v % b)) := by
  conv => lhs; rw [uw_eq v]
  exact p_rest (uw_lt v) hb0 hb
theorem purem' (v : Int64) {b : Nat} (hb0 : 0 < b) (hb : b < 2 ^ 31) : f_nu_remainder v (lN b) = some (lN (uw v % b)) := by
  conv => lhs; rw [uw_eq v]
  exact pu_remainder (uw_lt v) hb0 hb
theorem sgK_eq (x : Nat) (d : Int64) : (1 : Int64) + lN (uw (hE (hL (hL h0 (lN x)) d)) % 1073741788) = lN (sgK x d) := by
  unfold sgK
  exact lN_add 1 _
