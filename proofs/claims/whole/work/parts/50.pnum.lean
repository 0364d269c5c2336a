/-! PURE 1: hash -/
def hS (h : Int64) (b : Int32) : Int64 := ((h ^^^ ((b &&& (255 : Int32)).toInt64)) * (-7046029254386353131 : Int64)) ^^^ ((((h ^^^ ((b &&& (255 : Int32)).toInt64)) * (-7046029254386353131 : Int64)).toUInt64 >>> ((29 : Int32).toInt64.toUInt64 &&& Int64.toUInt64 63)).toInt64)
def hE (h : Int64) : Int64 := (h * (-4658895280553007687 : Int64)) ^^^ (((h * (-4658895280553007687 : Int64)).toUInt64 >>> ((32 : Int32).toInt64.toUInt64 &&& Int64.toUInt64 63)).toInt64)
def h0 : Int64 := 7640891576956012809
theorem p_hashByte (h : Int64) (b : Int32) : f_hashByte h b = some (hS h b) := rfl
theorem p_hashStep (h : Int64) (b : Int32) : f_nu_hashStep h b = some (hS h b) := rfl
theorem p_endHash (h : Int64) : f_endHash h = some (hE h) := rfl
theorem p_hashEnd (h : Int64) : f_nu_hashEnd h = some (hE h) := rfl
theorem and255 (b : Int32) : (b &&& 255) &&& 255 = b &&& 255 := by rw [Int32.and_assoc]; rfl
theorem hS_and (h : Int64) (b : Int32) : hS h (b &&& 255) = hS h b := by unfold hS; rw [and255]
theorem hS_congr {h : Int64} {a b : Int32} (e : a &&& 255 = b &&& 255) : hS h a = hS h b := by unfold hS; rw [e]
/-- eight bytes of a long, the highest first -/
def shA (v : Int64) (k : Int32) : Int32 := (v >>> (k.toInt64 &&& 63)).toInt32
def shU (v : Int64) (k : Int32) : Int32 := ((v.toUInt64 >>> (k.toInt64.toUInt64 &&& Int64.toUInt64 63)).toInt64).toInt32
def hL (h v : Int64) : Int64 := hS (hS (hS (hS (hS (hS (hS (hS h (shA v 56)) (shA v 48)) (shA v 40)) (shA v 32)) (shA v 24)) (shA v 16)) (shA v 8)) (shA v 0)
theorem st_hashLong {n : Nat} {h v : Int64} {k k' : Int32} (hk : ¬ k < 0) (hk' : k + (-8) = k') : j_hashLong_3 (n + 1) h v k = j_hashLong_3 n (hS h (shA v k)) v k' := by
  rw [j_hashLong_3, if_neg hk, p_hashByte, ← hk']
  rfl
theorem en_hashLong {n : Nat} {h v : Int64} {k : Int32} (hk : k < 0) : j_hashLong_3 (n + 1) h v k = some h := by
  rw [j_hashLong_3, if_pos hk]
theorem p_hashLong (h v : Int64) : f_hashLong h v = some (hL h v) := by
  unfold f_hashLong
  rw [show FU = 4991 + 1 + 1 + 1 + 1 + 1 + 1 + 1 + 1 + 1 from rfl, st_hashLong (k' := 48) (by decide) (by decide), st_hashLong (k' := 40) (by decide) (by decide), st_hashLong (k' := 32) (by decide) (by decide), st_hashLong (k' := 24) (by decide) (by decide), st_hashLong (k' := 16) (by decide) (by decide), st_hashLong (k' := 8) (by decide) (by decide), st_hashLong (k' := 0) (by decide) (by decide), st_hashLong (k' := -8) (by decide) (by decide), en_hashLong (by decide)]
  rfl
theorem su_hashLong {n : Nat} {h v : Int64} {k k' : Int32} (hk : ¬ k < 0) (hk' : k + (-8) = k') : j_nu_hashLong_7 (n + 1) v h k = j_nu_hashLong_7 n v (hS h (shU v k)) k' := by
  rw [j_nu_hashLong_7, if_neg hk, p_hashStep, ← hk']
  rfl
theorem eu_hashLong {n : Nat} {h v : Int64} {k : Int32} (hk : k < 0) : j_nu_hashLong_7 (n + 1) v h k = some h := by
  rw [j_nu_hashLong_7, if_pos hk]
theorem lo8 {a b : Int64} (h : ∀ i, i < 8 → a.toBitVec.getLsbD i = b.toBitVec.getLsbD i) : a.toInt32 &&& 255 = b.toInt32 &&& 255 := by
  apply Int32.toBitVec_inj.mp
  apply BitVec.eq_of_getLsbD_eq
  intro i hi
  rw [Int32.toBitVec_and, Int32.toBitVec_and, BitVec.getLsbD_and, BitVec.getLsbD_and]
  by_cases h8 : i < 8
  · have e : ∀ x : Int64, x.toInt32.toBitVec.getLsbD i = x.toBitVec.getLsbD i := fun x => by
      rw [Int64.toBitVec_toInt32, BitVec.getLsbD_signExtend]
      simp [show i < 32 by omega, show i < 64 by omega]
    rw [e, e, h i h8]
  · have e : (255 : Int32).toBitVec.getLsbD i = false := by
      have : ∀ j : Fin 32, ¬ j.val < 8 → (255 : Int32).toBitVec.getLsbD j.val = false := by decide +kernel
      exact this ⟨i, hi⟩ h8
    rw [e, Bool.and_false, Bool.and_false]
theorem sh_same (v : Int64) (k : Nat) (hk : k ≤ 56) {D : Int64} {E : UInt64} (hD : (v >>> D).toBitVec = v.toBitVec.sshiftRight k) (hE : ((v.toUInt64 >>> E).toInt64).toBitVec = v.toBitVec >>> k) : (v >>> D).toInt32 &&& 255 = ((v.toUInt64 >>> E).toInt64).toInt32 &&& 255 := by
  refine lo8 (fun i hi => ?_)
  rw [hD, hE, BitVec.getLsbD_sshiftRight, BitVec.getLsbD_ushiftRight]
  simp [show k + i < 64 by omega, show ¬ 64 ≤ i by omega]
theorem sh_eq (v : Int64) : (shA v 56 &&& 255 = shU v 56 &&& 255) ∧ (shA v 48 &&& 255 = shU v 48 &&& 255) ∧ (shA v 40 &&& 255 = shU v 40 &&& 255) ∧ (shA v 32 &&& 255 = shU v 32 &&& 255) ∧ (shA v 24 &&& 255 = shU v 24 &&& 255) ∧ (shA v 16 &&& 255 = shU v 16 &&& 255) ∧ (shA v 8 &&& 255 = shU v 8 &&& 255) ∧ (shA v 0 &&& 255 = shU v 0 &&& 255) :=
  ⟨sh_same v 56 (by decide) rfl rfl, sh_same v 48 (by decide) rfl rfl, sh_same v 40 (by decide) rfl rfl, sh_same v 32 (by decide) rfl rfl, sh_same v 24 (by decide) rfl rfl, sh_same v 16 (by decide) rfl rfl, sh_same v 8 (by decide) rfl rfl, sh_same v 0 (by decide) rfl rfl⟩
theorem pu_hashLong (h v : Int64) : f_nu_hashLong h v = some (hL h v) := by
  unfold f_nu_hashLong
  rw [show FU = 4991 + 1 + 1 + 1 + 1 + 1 + 1 + 1 + 1 + 1 from rfl, su_hashLong (k' := 48) (by decide) (by decide), su_hashLong (k' := 40) (by decide) (by decide), su_hashLong (k' := 32) (by decide) (by decide), su_hashLong (k' := 24) (by decide) (by decide), su_hashLong (k' := 16) (by decide) (by decide), su_hashLong (k' := 8) (by decide) (by decide), su_hashLong (k' := 0) (by decide) (by decide), su_hashLong (k' := -8) (by decide) (by decide), eu_hashLong (by decide)]
  obtain ⟨e0, e1, e2, e3, e4, e5, e6, e7⟩ := sh_eq v
  unfold hL
  rw [hS_congr e0, hS_congr e1, hS_congr e2, hS_congr e3, hS_congr e4, hS_congr e5, hS_congr e6, hS_congr e7]
theorem p_hashOfTwo (x a b : Int64) : f_hashOfTwo x a b = some (hE (hL (hL h0 a) b), hL (hL h0 a) b) := by
  simp only [f_hashOfTwo, f_beginHash, Option.bind_some, p_hashLong, p_endHash, h0]
theorem p_hashOfKey (x a : Int64) : f_hashOfKey x a = some (hE (hL h0 a), hL h0 a) := by
  simp only [f_hashOfKey, f_beginHash, Option.bind_some, p_hashLong, p_endHash, h0]
theorem pu_hashOf (a : Int64) : f_nu_hashOf a = some (hE (hL h0 a)) := by
  simp only [f_nu_hashOf, Option.bind_some, pu_hashLong, p_hashEnd, h0]
theorem pu_hashOfBoth (a b : Int64) : f_nu_hashOfBoth a b = some (hE (hL (hL h0 a) b)) := by
  simp only [f_nu_hashOfBoth, Option.bind_some, pu_hashLong, p_hashEnd, h0]
/-- hash of n bytes of a row from a place on -/
def hB (f : Nat → Int32) (h : Int64) : Nat → Nat → Int64
  | _, 0 => h
  | i, n + 1 => hB f (hS h (f i)) (i + 1) n
theorem chk_t {α : Type} {c : Prop} [Decidable c] {x : Option α} (h : c) : chk c x = x := if_pos h
theorem inN {i N : Nat} (h : i < N) (hi : i < 2 ^ 31) : ¬ (nI i < 0 ∨ N ≤ (nI i).toNatClampNeg) := by
  rw [nI_clamp hi]
  rintro (h1 | h1)
  · exact nI_pos hi h1
  · omega
theorem p_hashRow (f : Nat → Int32) (N : Nat) : ∀ (n i : Nat) (h : Int64) (fu : Nat), n < fu → i + n ≤ N → i + n < 2 ^ 31 → j_hashRow_3 fu h f N (nI (i + n)) (nI i) = some (hB f h i n) := by
  intro n
  induction n with
  | zero =>
    intro i h fu hfu h1 h2
    obtain ⟨fu, rfl⟩ : ∃ g, fu = g + 1 := ⟨fu - 1, by omega⟩
    rw [j_hashRow_3, if_pos (show nI (i + 0) ≤ nI i from Int32.le_refl _)]
    rfl
  | succ n ih =>
    intro i h fu hfu h1 h2
    obtain ⟨fu, rfl⟩ : ∃ g, fu = g + 1 := ⟨fu - 1, by omega⟩
    rw [j_hashRow_3, if_neg (nI_ge (by omega) (by omega)), chk_t (inN (by omega) (by omega)), p_hashByte, nI_clamp (by omega)]
    show j_hashRow_3 fu (hS h (f i)) f N (nI (i + (n + 1))) (nI i + 1) = _
    rw [nI_1, show i + (n + 1) = i + 1 + n by omega, ih (i + 1) _ fu (by omega) (by omega) (by omega)]
    rfl
theorem p_byteAt {f : Nat → Int32} {len N i : Nat} (h1 : i < len) (h2 : len ≤ N) (h3 : len < 2 ^ 31) : f_by_byteAt f (nI len) N (nI i) = some (f i &&& 255) := by
  unfold f_by_byteAt
  rw [if_neg (nI_pos (by omega)), if_neg (nI_ge h1 h3), chk_t (inN (by omega) (by omega)), nI_clamp (by omega)]
theorem p_digest (f : Nat → Int32) (len N : Nat) (hN : len ≤ N) (h31 : len < 2 ^ 31) : ∀ (n i : Nat) (h : Int64) (fu : Nat), n < fu → i + n ≤ len → j_by_digest_7 fu f (nI len) N (nI (i + n)) h (nI i) = some (hE (hB f h i n)) := by
  intro n
  induction n with
  | zero =>
    intro i h fu hfu h1
    obtain ⟨fu, rfl⟩ : ∃ g, fu = g + 1 := ⟨fu - 1, by omega⟩
    rw [j_by_digest_7, if_pos (show nI (i + 0) ≤ nI i from Int32.le_refl _)]
    rfl
  | succ n ih =>
    intro i h fu hfu h1
    obtain ⟨fu, rfl⟩ : ∃ g, fu = g + 1 := ⟨fu - 1, by omega⟩
    rw [j_by_digest_7, if_neg (nI_ge (by omega) (by omega)), p_byteAt (by omega) hN h31, Option.bind_some, p_hashStep, hS_and, Option.bind_some]
    show j_by_digest_7 fu f (nI len) N (nI (i + (n + 1))) (hS h (f i)) (nI i + 1) = _
    rw [nI_1, show i + (n + 1) = i + 1 + n by omega, ih (i + 1) _ fu (by omega) (by omega)]
    rfl
/-- two rows that hold the same bytes have the same hash -/
theorem hB_congr {f g : Nat → Int32} : ∀ (n i j : Nat) (h : Int64), (∀ k, k < n → f (i + k) = g (j + k)) → hB f h i n = hB g h j n := by
  intro n
  induction n with
  | zero => intro i j h _; rfl
  | succ n ih =>
    intro i j h e
    have e0 := e 0 (by omega)
    rw [Nat.add_zero, Nat.add_zero] at e0
    show hB f (hS h (f i)) (i + 1) n = hB g (hS h (g j)) (j + 1) n
    rw [e0]
    exact ih (i + 1) (j + 1) _ (fun k hk => by rw [show i + 1 + k = i + (k + 1) by omega, show j + 1 + k = j + (k + 1) by omega]; exact e (k + 1) (by omega))
/-! PURE 1: powers -/
def PP : Nat := 2147483579
theorem lrem {a : Nat} (h : a < 2 ^ 63) : lN a - lN a / (2147483579 : Int64) * (2147483579 : Int64) = lN (a % PP) := pk_lRem (b := 2147483579) h (by decide) (by decide)
theorem mulPP {a b : Nat} (ha : a < PP) (hb : b < PP) : a * b < 2 ^ 63 := by
  have : a * b ≤ 2147483578 * 2147483578 := Nat.mul_le_mul (by unfold PP at ha; omega) (by unfold PP at hb; omega)
  omega
theorem bitA {e k : Nat} (he : e < 2 ^ 62) (hk : k < 64) : (lN e >>> ((nI k).toInt64 &&& 63)) &&& (1 : Int64) = lN (e / 2 ^ k % 2) := by
  rw [wb_c k hk, pf_shr (d := k) (by rw [wb_tb, wb_sm k hk]; exact Nat.mod_eq_of_lt (by omega)) he, wb_a1 (Nat.lt_of_le_of_lt (Nat.div_le_self _ _) (by omega))]
theorem bitU {e k : Nat} (he : e < 2 ^ 62) (hk : k < 64) : ((lN e).toUInt64 >>> ((nI k).toInt64.toUInt64 &&& Int64.toUInt64 63)).toInt64 &&& (1 : Int64) = lN (e / 2 ^ k % 2) := wb_bit (by omega) hk
theorem lone {a : Nat} (h : a < 2) : lN a = (1 : Int64) ↔ a = 1 := by
  rw [show (1 : Int64) = lN 1 from rfl, pk_lEQ (by omega) (by decide)]
theorem mod_pow2 (e k : Nat) : e % 2 ^ (k + 1) = e % 2 ^ k + e / 2 ^ k % 2 * 2 ^ k := by
  rw [Nat.pow_succ, Nat.mod_mul, Nat.mul_comm (2 ^ k)]
theorem pm1 (a n : Nat) : (a % PP) ^ n % PP = a ^ n % PP := (Nat.pow_mod a n PP).symm
theorem mmL (a b : Nat) : a % PP * b % PP = a * b % PP := Nat.mod_mul_mod a b PP
theorem p_power7 (b e : Nat) (hb : b < PP) (he : e < 2 ^ 62) : ∀ (k r fu : Nat), k ≤ 32 → k < fu → r < PP → j_power_7 fu (lN b) (lN e) (lN r) (nI k + (-1)) = some (lN (r ^ 2 ^ k * b ^ (e % 2 ^ k) % PP)) := by
  intro k
  induction k with
  | zero =>
    intro r fu _ hfu hr
    obtain ⟨fu, rfl⟩ : ∃ g, fu = g + 1 := ⟨fu - 1, by omega⟩
    rw [j_power_7, if_pos (by decide)]
    simp [Nat.mod_one, Nat.mod_eq_of_lt hr]
  | succ k ih =>
    intro r fu hk hfu hr
    obtain ⟨fu, rfl⟩ : ∃ g, fu = g + 1 := ⟨fu - 1, by omega⟩
    have hq : r * r % PP < PP := Nat.mod_lt _ (by decide)
    rw [j_power_7, pk_m1, if_neg (nI_pos (by omega)), lN_mul, lrem (mulPP hr hr)]
    simp only [bnd]
    rw [bitA he (by omega), lN_mul, lrem (mulPP hq hb)]
    have h2 : e / 2 ^ k % 2 < 2 := Nat.mod_lt _ (by decide)
    have hm := mod_pow2 e k
    by_cases h1 : e / 2 ^ k % 2 = 1
    · rw [if_pos ((lone h2).mpr h1), ih _ fu (by omega) (by omega) (Nat.mod_lt _ (by decide))]
      rw [h1, Nat.one_mul] at hm
      congr 2
      rw [hm, ← mmL, pm1, mmL, Nat.mul_pow, ← mmL, ← mmL ((r * r % PP) ^ 2 ^ k), pm1, mmL, Nat.mul_assoc, mmL]
      congr 1
      rw [Nat.pow_add b, Nat.pow_succ, Nat.mul_comm (2 ^ k) 2, Nat.pow_mul r 2, Nat.pow_two, Nat.mul_comm (b ^ 2 ^ k)]
    · rw [if_neg (fun h => h1 ((lone h2).mp h)), ih _ fu (by omega) (by omega) hq]
      rw [show e / 2 ^ k % 2 = 0 by omega, Nat.zero_mul, Nat.add_zero] at hm
      congr 2
      rw [hm, ← mmL, pm1, mmL, Nat.pow_succ, Nat.mul_comm (2 ^ k) 2, Nat.pow_mul r 2, Nat.pow_two, Nat.add_zero]
theorem p_power {b e : Nat} (hb : b < PP) (he : e < 2 ^ 32) : f_power (lN b) (lN e) = some (lN (b ^ e % PP)) := by
  unfold f_power
  rw [show (31 : Int32) = nI 32 + (-1) from rfl, show (1 : Int64) = lN 1 from rfl, p_power7 b e hb (by omega) 32 1 FU (by decide) (by decide) (by decide), Nat.one_pow, Nat.one_mul, Nat.mod_eq_of_lt he]
theorem pu_power13 (e : Nat) (he : e < 2 ^ 62) : ∀ (j k r q fu : Nat), k + j = 31 → j < fu → r < PP → q < PP → j_nu_power_13 fu (lN e) (lN r) (lN q) (nI k) = some (lN (r * q ^ (e / 2 ^ k % 2 ^ j) % PP)) := by
  intro j
  induction j with
  | zero =>
    intro k r q fu hk hfu hr hq
    obtain ⟨fu, rfl⟩ : ∃ g, fu = g + 1 := ⟨fu - 1, by omega⟩
    rw [j_nu_power_13, if_pos (by rw [show k = 31 by omega]; decide)]
    simp [Nat.mod_one, Nat.mod_eq_of_lt hr]
  | succ j ih =>
    intro k r q fu hk hfu hr hq
    obtain ⟨fu, rfl⟩ : ∃ g, fu = g + 1 := ⟨fu - 1, by omega⟩
    rw [j_nu_power_13, if_neg (show ¬ (31 : Int32) ≤ nI k from nI_ge (b := 31) (by omega) (by decide)), bitU he (by omega), lN_mul, lN_mul, lrem (mulPP hr hq), lrem (mulPP hq hq), nI_1]
    simp only [bnd]
    have h2 : e / 2 ^ k % 2 < 2 := Nat.mod_lt _ (by decide)
    have hs : e / 2 ^ (k + 1) = e / 2 ^ k / 2 := by rw [Nat.pow_succ, Nat.div_div_eq_div_mul]
    have hm : e / 2 ^ k % 2 ^ (j + 1) = e / 2 ^ k % 2 + 2 * (e / 2 ^ (k + 1) % 2 ^ j) := by
      rw [hs, Nat.pow_succ, Nat.mul_comm (2 ^ j) 2, Nat.mod_mul]
    by_cases h1 : e / 2 ^ k % 2 = 1
    · rw [if_pos ((lone h2).mpr h1), ih (k + 1) _ _ fu (by omega) (by omega) (Nat.mod_lt _ (by decide)) (Nat.mod_lt _ (by decide))]
      congr 2
      rw [hm, h1, mmL, Nat.mul_comm (r * q), ← mmL, pm1, mmL, Nat.pow_add q, Nat.pow_one, Nat.pow_mul q, Nat.pow_two, Nat.mul_comm ((q * q) ^ _), Nat.mul_assoc]
    · rw [if_neg (fun h => h1 ((lone h2).mp h)), ih (k + 1) _ _ fu (by omega) (by omega) hr (Nat.mod_lt _ (by decide))]
      congr 2
      rw [hm, show e / 2 ^ k % 2 = 0 by omega, Nat.zero_add, Nat.mul_comm r, ← mmL, pm1, mmL, Nat.pow_mul q, Nat.pow_two, Nat.mul_comm r]
theorem pu_power {b e : Nat} (hb : b < PP) (he : e < 2 ^ 31) : f_nu_power (lN b) (lN e) = some (lN (b ^ e % PP)) := by
  simp only [f_nu_power, bnd]
  rw [lrem (by unfold PP at hb; omega), Nat.mod_eq_of_lt hb, show (1 : Int64) = lN 1 from rfl, show (0 : Int32) = nI 0 from rfl, pu_power13 e (by omega) 31 0 1 b FU (by decide) (by decide) (by decide) hb, Nat.one_mul, Nat.pow_zero, Nat.div_one, Nat.mod_eq_of_lt he]
