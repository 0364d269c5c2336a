theorem l788 : (1073741788 : Int64) = lN 1073741788 := rfl
theorem l789 : (1073741789 : Int64) = lN 1073741789 := rfl
theorem sg_e4 (x : Nat) (d : Int64) : f_nu_remainder (hE (hL (hL h0 (lN (4 ^ sgK x d % PP))) d)) (1073741789 : Int64) = some (lN (sgC x d)) := by
  rw [l789, purem' _ (by decide) (by decide)]
  unfold sgC
  rfl
theorem sg_e5 (x : Nat) (d : Int64) : f_nu_remainder (hE (hL (hL h0 (lN x)) d)) (1073741788 : Int64) = some (lN (uw (hE (hL (hL h0 (lN x)) d)) % 1073741788)) := by
  rw [l788, purem' _ (by decide) (by decide)]
theorem sg_e7 {x : Nat} {d : Int64} (h : sgK x d + sgC x d * x < 2 ^ 63) : lN (sgK x d + sgC x d * x) - lN (sgK x d + sgC x d * x) / (1073741789 : Int64) * (1073741789 : Int64) = lN (sgZ x d) := by
  rw [l789, pk_lRem h (by decide) (by decide)]
  unfold sgZ
  rfl
theorem l4 : (4 : Int64) = lN 4 := rfl
theorem sg_e6 {x : Nat} {d : Int64} (hk : sgK x d < 2 ^ 31) : f_nu_power (4 : Int64) (lN (sgK x d)) = some (lN (4 ^ sgK x d % PP)) := by
  rw [l4, pu_power (by decide) hk]
theorem sg_m {x : Nat} {d : Int64} (hx : x < QQ) : sgK x d + sgC x d * x < 2 ^ 63 := by
  have hk := sgK_lt x d
  have hc := sgC_lt x d
  have : sgC x d * x ≤ 1073741788 * 1073741788 := Nat.mul_le_mul (by unfold QQ at hc; omega) (by unfold QQ at hx; omega)
  unfold QQ at hk
  omega
theorem bnd_eq {α β : Type} (a : α) (k : α → β) : bnd a k = k a := rfl
theorem pu_signature {x : Nat} (hx : x < QQ) (d : Int64) : f_nu_signature (nI x) d = some ((lN (sgC x d) <<< ((32 : Int32).toInt64 &&& 63)) ||| lN (sgZ x d)) := by
  have hx2 : x < 2 ^ 31 := by unfold QQ at hx; omega
  have hk : sgK x d < 2 ^ 31 := by
    have := sgK_lt x d
    unfold QQ at this
    omega
  unfold f_nu_signature
  rw [nI_l hx2, pu_hashOfBoth, Option.bind_some, sg_e5, Option.bind_some, sgK_eq, bnd_eq, sg_e6 hk, Option.bind_some, pu_hashOfBoth, Option.bind_some, sg_e4, Option.bind_some, lN_mul, lN_add, sg_e7 (sg_m hx), bnd_eq]
