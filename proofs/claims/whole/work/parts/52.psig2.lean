theorem l788 : (1073741788 : Int64) = lN 1073741788 := rfl
theorem l789 : (1073741789 : Int64) = lN 1073741789 := rfl
theorem sg_e4 (x : Nat) (d : Int64) : f_nu_remainder (hE (hL (hL h0 (lN (4 ^ sgK x d % PP))) d)) (1073741789 : Int64) = some (lN (sgC x d)) := by
  rw [l789, purem' _ (by decide) (by decide)]
  unfold sgC
  rfl
theorem sg_e5 (x : Nat) (d : Int64) : f_nu_remainder (hE (hL (hL h0 (lN x)) d)) (1073741788 : Int64) = some (lN (uw (hE (hL (hL h0 (lN x)) d)) % 1073741788)) := by
  rw [l788, purem' _ (by decide) (by decide)]
theorem sg_e7 {x : Nat} {d : Int64} (h : sgK x d + sgC x d * x < 2 ^ 63) : lN (sgK x d + sgC x d * x) - lN (sgK x d + sgC x d * x) / (1073741789 : Int64) * (1073741789 : Int64) = lN (sgZ x d) := by
  rw [l789, pk_lRem h (by decide) (by decide)]
  unfold sgZ
  rfl
