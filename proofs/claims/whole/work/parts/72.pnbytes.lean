/-! PURE 22: numbers as bytes -/
def byt (v : Int64) (k : Nat) : Int32 := BB (nI (uw v / 256 ^ k % 256))
theorem u8_64 (v : Int64) : u8 v.toInt32 = uw v % 256 := by
  unfold u8 uw
  rw [Int64.toBitVec_toInt32, BitVec.toNat_signExtend]
  have h := v.toBitVec.isLt
  simp only [BitVec.toNat_setWidth]
  have e : (v.toBitVec.toNat % 2 ^ 32 + if v.toBitVec.msb = true then 2 ^ 32 - 2 ^ 64 else 0) % 256 = v.toBitVec.toNat % 256 := by
    split <;> omega
  exact e
theorem uw_shU (v : Int64) (k : Nat) {E : UInt64} (hE : ((v.toUInt64 >>> E).toInt64).toBitVec = v.toBitVec >>> k) : uw ((v.toUInt64 >>> E).toInt64) = uw v / 2 ^ k := by
  unfold uw
  rw [hE, BitVec.toNat_ushiftRight, Nat.shiftRight_eq_div_pow]
theorem bt_of {x : Int32} {v : Int64} {k : Nat} (h : u8 x = uw v / 256 ^ k % 256) : BB x = byt v k := nar_congr (by rw [h, u8_nI]; omega)
theorem p256 (k : Nat) : 256 ^ k = 2 ^ (8 * k) := by rw [show 256 = 2 ^ 8 from rfl, ← Nat.pow_mul]
theorem bt_U1 (v : Int64) (k : Nat) {E : UInt64} (hE : ((v.toUInt64 >>> E).toInt64).toBitVec = v.toBitVec >>> (8 * k)) : BB (((v.toUInt64 >>> E).toInt64).toInt32) = byt v k := bt_of (by rw [u8_64, uw_shU v (8 * k) hE, p256])
theorem u8_and {x y : Int32} (h : x &&& 255 = y &&& 255) : u8 x = u8 y := by
  rw [u8_eq, u8_eq] at h
  exact (nI_eq (by have := u8_lt x; omega) (by have := u8_lt y; omega)).mp h
theorem bt_A1 (v : Int64) (k : Nat) (hk : k < 8) {D : Int64} {E : UInt64} (hD : (v >>> D).toBitVec = v.toBitVec.sshiftRight (8 * k)) (hE : ((v.toUInt64 >>> E).toInt64).toBitVec = v.toBitVec >>> (8 * k)) : BB ((v >>> D).toInt32) = byt v k := by
  rw [← bt_U1 v k hE]
  exact nar_congr (u8_and (sh_same v (8 * k) (by omega) hD hE))
theorem bt_L (v : Int64) {k : Nat} (hk : k < 8) : BB ((v >>> ((nI (8 * k)).toInt64 &&& 63)).toInt32) = byt v k := by
  match k, hk with
  | 0, _ => exact bt_A1 v 0 (by decide) (E := (0 : Int32).toInt64.toUInt64 &&& Int64.toUInt64 63) rfl rfl
  | 1, _ => exact bt_A1 v 1 (by decide) (E := (8 : Int32).toInt64.toUInt64 &&& Int64.toUInt64 63) rfl rfl
  | 2, _ => exact bt_A1 v 2 (by decide) (E := (16 : Int32).toInt64.toUInt64 &&& Int64.toUInt64 63) rfl rfl
  | 3, _ => exact bt_A1 v 3 (by decide) (E := (24 : Int32).toInt64.toUInt64 &&& Int64.toUInt64 63) rfl rfl
  | 4, _ => exact bt_A1 v 4 (by decide) (E := (32 : Int32).toInt64.toUInt64 &&& Int64.toUInt64 63) rfl rfl
  | 5, _ => exact bt_A1 v 5 (by decide) (E := (40 : Int32).toInt64.toUInt64 &&& Int64.toUInt64 63) rfl rfl
  | 6, _ => exact bt_A1 v 6 (by decide) (E := (48 : Int32).toInt64.toUInt64 &&& Int64.toUInt64 63) rfl rfl
  | 7, _ => exact bt_A1 v 7 (by decide) (E := (56 : Int32).toInt64.toUInt64 &&& Int64.toUInt64 63) rfl rfl
  | n + 8, h => exact absurd h (by omega)
theorem bt_U (v : Int64) {k : Nat} (hk : k < 8) : BB (((v.toUInt64 >>> ((nI (8 * k)).toInt64.toUInt64 &&& Int64.toUInt64 63)).toInt64).toInt32) = byt v k := by
  match k, hk with
  | 0, _ => exact bt_U1 v 0 rfl
  | 1, _ => exact bt_U1 v 1 rfl
  | 2, _ => exact bt_U1 v 2 rfl
  | 3, _ => exact bt_U1 v 3 rfl
  | 4, _ => exact bt_U1 v 4 rfl
  | 5, _ => exact bt_U1 v 5 rfl
  | 6, _ => exact bt_U1 v 6 rfl
  | 7, _ => exact bt_U1 v 7 rfl
  | n + 8, h => exact absurd h (by omega)
theorem m8 (k : Nat) : (8 : Int32) * nI k = nI (8 * k) := pk_mul 8 k
/-- the n lowest bytes, the highest first -/
def hbl (v : Int64) : Nat → List Int32
  | 0 => []
  | n + 1 => byt v n :: hbl v n
theorem hbl_l (v : Int64) (n : Nat) : (hbl v n).length = n := by
  induction n with
  | zero => rfl
  | succ n ih => unfold hbl; rw [List.length_cons, ih]
/-- the n lowest bytes, the lowest first, from k on -/
def lbl (v : Int64) : Nat → Nat → List Int32
  | _, 0 => []
  | k, n + 1 => byt v k :: lbl v (k + 1) n
theorem lbl_l (v : Int64) (n : Nat) : ∀ k, (lbl v k n).length = n := by
  induction n with
  | zero => intro k; rfl
  | succ n ih => intro k; unfold lbl; rw [List.length_cons, ih]
theorem app1 {α : Type} (L : List α) (x : α) (M : List α) : L ++ [x] ++ M = L ++ x :: M := by rw [List.append_assoc]; rfl
theorem pu_high {N : Nat} (hN : N < 2 ^ 31) (v : Int64) : ∀ (m fu : Nat) (f : Nat → Int32) (n : Int32) (L : List Int32), m ≤ 8 → m < fu → WW f n L → L.length + m ≤ N → ok (j_by_addHighestFirst_5 fu f n N v (nI m + (-1))) (fun y => WW y.1 y.2 (L ++ hbl v m)) := by
  intro m
  induction m with
  | zero =>
    intro fu f n L _ hfu h hl
    obtain ⟨fu, rfl⟩ : ∃ g, fu = g + 1 := ⟨fu - 1, by omega⟩
    rw [j_by_addHighestFirst_5, if_pos (by decide)]
    refine ok.s ?_
    unfold hbl
    rw [List.append_nil]
    exact h
  | succ m ih =>
    intro fu f n L hm hfu h hl
    obtain ⟨fu, rfl⟩ : ∃ g, fu = g + 1 := ⟨fu - 1, by omega⟩
    rw [j_by_addHighestFirst_5, pk_m1, if_neg (nI_pos (by omega)), m8]
    refine ok.b (pu_add hN h (by omega) _) (fun y hy => ?_)
    rw [bnd_eq]
    rw [bt_U v (by omega)] at hy
    have := ih fu y.1 y.2 _ (by omega) (by omega) hy (by simp; omega)
    rw [app1] at this
    exact this
theorem pu_highF {N : Nat} (hN : N < 2 ^ 31) (v : Int64) {m : Nat} (hm : m ≤ 8) {f : Nat → Int32} {n : Int32} {L : List Int32} (h : WW f n L) (hl : L.length + m ≤ N) : ok (f_by_addHighestFirst f n N v (nI m)) (fun y => WW y.1 y.2 (L ++ hbl v m)) := by
  unfold f_by_addHighestFirst
  rw [bnd_eq, sub1]
  exact pu_high hN v m FU f n L hm (by unfold FU; omega) h hl
theorem m_m8 (m : Nat) : nI (8 * (m + 1)) + (-8) = nI (8 * m) := by
  rw [show (-8 : Int32) = -nI 8 from rfl, ← Int32.sub_eq_add_neg, pk_sub (by omega), show 8 * (m + 1) - 8 = 8 * m by omega]
theorem p_long (v : Int64) : ∀ (m fu : Nat) (f : Nat → Int32) (n : Int32) (L : List Int32), m ≤ 8 → m < fu → WW f n L → L.length + m ≤ 4000 → ok (j_layLong_3 fu f n v (nI (8 * m) + (-8))) (fun y => WW y.1 y.2 (L ++ hbl v m)) := by
  intro m
  induction m with
  | zero =>
    intro fu f n L _ hfu h hl
    obtain ⟨fu, rfl⟩ : ∃ g, fu = g + 1 := ⟨fu - 1, by omega⟩
    rw [j_layLong_3, if_pos (by decide)]
    refine ok.s ?_
    unfold hbl
    rw [List.append_nil]
    exact h
  | succ m ih =>
    intro fu f n L hm hfu h hl
    obtain ⟨fu, rfl⟩ : ∃ g, fu = g + 1 := ⟨fu - 1, by omega⟩
    rw [j_layLong_3, m_m8, if_neg (nI_pos (by omega))]
    refine ok.b (p_lay h (by omega) _) (fun y hy => ?_)
    rw [bnd_eq]
    rw [bt_L v (by omega)] at hy
    have := ih fu y.1 y.2 _ (by omega) (by omega) hy (by simp; omega)
    rw [app1] at this
    exact this
theorem p_layLong (v : Int64) {f : Nat → Int32} {n : Int32} {L : List Int32} (h : WW f n L) (hl : L.length + 8 ≤ 4000) : ok (f_layLong f n v) (fun y => WW y.1 y.2 (L ++ hbl v 8)) := by
  unfold f_layLong
  exact p_long v 8 FU f n L (by decide) (by decide) h hl
/-! integers -/
def il (V : Nat) : Nat := if V < 128 then 1 else if V < 32768 then 2 else if V < 8388608 then 3 else 4
theorem il_b (V : Nat) : 1 ≤ il V ∧ il V ≤ 4 := by
  unfold il
  repeat' split
  all_goals omega
def encI (V : Nat) : List Int32 := itm 2 (hbl (lN V) (il V))
theorem shi {V : Nat} (hV : V < 2 ^ 31) : lN V >>> ((((8 : Int32) * nI 1) - 1).toInt64 &&& 63) = lN (V / 128) ∧ lN V >>> ((((8 : Int32) * nI 2) - 1).toInt64 &&& 63) = lN (V / 32768) ∧ lN V >>> ((((8 : Int32) * nI 3) - 1).toInt64 &&& 63) = lN (V / 8388608) ∧ lN V >>> ((((8 : Int32) * nI 4) - 1).toInt64 &&& 63) = lN (V / 2147483648) := by
  refine ⟨?_, ?_, ?_, ?_⟩
  · exact pf_shr (d := 7) (by rfl) (by omega)
  · exact pf_shr (d := 15) (by rfl) (by omega)
  · exact pf_shr (d := 23) (by rfl) (by omega)
  · exact pf_shr (d := 31) (by rfl) (by omega)
