/-! PURE 3: what a function tells (ok), bytes, items -/
def ok {α : Type} (x : Option α) (R : α → Prop) : Prop := ∃ y, x = some y ∧ R y
section OK
variable {α β : Type} {x z : Option α} {R P : α → Prop} {S : β → Prop}
theorem ok.s {a : α} (h : R a) : ok (some a) R := ⟨a, rfl, h⟩
theorem ok.b {k : α → Option β} (h : ok x P) (g : ∀ a, P a → ok (k a) S) : ok (x.bind k) S := by
  obtain ⟨a, rfl, ha⟩ := h
  exact g a ha
theorem ok.n {a : β} {k : β → Option α} (h : ok (k a) R) : ok (bnd a k) R := h
theorem ok.c {c : Prop} [Decidable c] (hc : c) (h : ok x R) : ok (chk c x) R := by rw [chk_t hc]; exact h
theorem ok.t {c : Prop} [Decidable c] (hc : c) (h : ok x R) : ok (if c then x else z) R := by rw [if_pos hc]; exact h
theorem ok.f {c : Prop} [Decidable c] (hc : ¬ c) (h : ok z R) : ok (if c then x else z) R := by rw [if_neg hc]; exact h
theorem ok.i {c : Prop} [Decidable c] (h : c → ok x R) (g : ¬ c → ok z R) : ok (if c then x else z) R := by
  by_cases hc : c
  · exact ok.t hc (h hc)
  · exact ok.f hc (g hc)
theorem ok.m (h : ok x P) (g : ∀ a, P a → R a) : ok x R := by
  obtain ⟨a, e, ha⟩ := h
  exact ⟨a, e, g a ha⟩
theorem ok.e {a : α} (e : x = some a) (h : R a) : ok x R := ⟨a, e, h⟩
end OK
/-! bytes -/
def u8 (x : Int32) : Nat := x.toBitVec.toNat % 256
theorem u8_lt (x : Int32) : u8 x < 256 := Nat.mod_lt _ (by decide)
theorem u8_eq (x : Int32) : x &&& 255 = nI (u8 x) := pk_and x 8 rfl
def isb (x : Int32) : Prop := -128 ≤ x.toInt ∧ x.toInt ≤ 127
theorem tI_c (x : Int32) : x.toInt = if 2 * x.toBitVec.toNat < 2 ^ 32 then (x.toBitVec.toNat : Int) else (x.toBitVec.toNat : Int) - 2 ^ 32 := by
  show x.toBitVec.toInt = _
  rw [BitVec.toInt_eq_toNat_cond]
  rfl
theorem isb_v {x : Int32} (h : isb x) : x.toInt = if u8 x < 128 then (u8 x : Int) else (u8 x : Int) - 256 := by
  have h1 := tI_c x
  have h2 := x.toBitVec.isLt
  unfold isb at h
  unfold u8
  split at h1 <;> split <;> omega
theorem isb_neg {x : Int32} (h : isb x) : x < 0 ↔ 128 ≤ u8 x := by
  have := isb_v h
  have := u8_lt x
  rw [Int32.lt_iff_toInt_lt, show (0 : Int32).toInt = 0 from rfl]
  split at * <;> omega
theorem isb_eq {x y : Int32} (h : isb x) (g : isb y) : x = y ↔ u8 x = u8 y := by
  have h1 := isb_v h
  have g1 := isb_v g
  refine ⟨fun e => by rw [e], fun e => Int32.toInt_inj.mp ?_⟩
  rw [h1, g1, e]
theorem isb_nar (x : Int32) : isb (vp_nar .byte x) := by
  rw [vp_nar_byte]
  unfold isb
  rw [Int8.toInt_toInt32]
  have h1 := x.toInt8.le_toInt
  have h2 := x.toInt8.toInt_lt
  omega
theorem i8_n (x : Int32) : x.toInt8.toInt = Int.bmod x.toInt 256 := Int32.toInt_toInt8 x
theorem u8_i (x : Int32) : (u8 x : Int) = x.toInt % 256 := by
  have h1 := tI_c x
  have h2 := x.toBitVec.isLt
  unfold u8
  split at h1 <;> omega
theorem nar_toInt (x : Int32) : (vp_nar .byte x).toInt = Int.bmod x.toInt 256 := by
  rw [vp_nar_byte, Int8.toInt_toInt32, i8_n]
theorem u8_nar (x : Int32) : u8 (vp_nar .byte x) = u8 x := by
  have h1 := u8_i (vp_nar .byte x)
  have h2 := u8_i x
  rw [nar_toInt, show Int.bmod x.toInt 256 % 256 = x.toInt % 256 from Int.bmod_emod (m := 256)] at h1
  omega
theorem nar_isb {x : Int32} (h : isb x) : vp_nar .byte x = x := (isb_eq (isb_nar x) h).mpr (u8_nar x)
theorem nar8 (x : Int32) : vp_nar .byte x.toInt8.toInt32 = vp_nar .byte x := by rw [pk_vb, vp_nar_byte]
theorem u8_nI (n : Nat) : u8 (nI n) = n % 256 := by
  unfold u8 nI
  have : (Int32.ofNat n).toBitVec.toNat = n % 2 ^ 32 := rfl
  rw [this]
  omega
theorem u8_small {x : Int32} (h0 : 0 ≤ x.toInt) (h1 : x.toInt < 256) : x = nI (u8 x) := by
  refine Int32.toInt_inj.mp ?_
  have := u8_lt x
  rw [nI_toInt (by omega), u8_i]
  omega
theorem nar_congr {x y : Int32} (h : u8 x = u8 y) : vp_nar .byte x = vp_nar .byte y := (isb_eq (isb_nar x) (isb_nar y)).mpr (by rw [u8_nar, u8_nar, h])
/-! what a read tells: a fault at a place, or a value, the place behind it, how many items -/
abbrev Rs (α : Type) := Nat ⊕ (α × Nat × Int32)
def ro {α A : Type} (G : α → Nat → Int32 → A → Prop) (B : Nat → A → Prop) : Rs α → A → Prop
  | .inl p, y => B p y
  | .inr v, y => G v.1 v.2.1 v.2.2 y
def rb {α β : Type} (m : Rs α) (k : α → Nat → Int32 → Rs β) : Rs β := match m with
  | .inl p => .inl p
  | .inr v => k v.1 v.2.1 v.2.2
def it (f : Nat → Int32) (a e : Nat) : Option (Nat × Nat) :=
  if a + 2 ≤ e then
    if u8 (f (a + 1)) < 128 then (if a + 2 + u8 (f (a + 1)) ≤ e then some (a + 2, a + 2 + u8 (f (a + 1))) else none)
    else if u8 (f (a + 1)) = 129 then (if a + 3 ≤ e ∧ 128 ≤ u8 (f (a + 2)) ∧ a + 3 + u8 (f (a + 2)) ≤ e then some (a + 3, a + 3 + u8 (f (a + 2))) else none)
    else if u8 (f (a + 1)) = 130 then (if a + 4 ≤ e ∧ 256 ≤ u8 (f (a + 2)) * 256 + u8 (f (a + 3)) ∧ a + 4 + (u8 (f (a + 2)) * 256 + u8 (f (a + 3))) ≤ e then some (a + 4, a + 4 + (u8 (f (a + 2)) * 256 + u8 (f (a + 3)))) else none)
    else none
  else none
theorem it_129 {f : Nat → Int32} {a e : Nat} (h : a + 2 ≤ e) (g : u8 (f (a + 1)) = 129) : it f a e = if a + 3 ≤ e ∧ 128 ≤ u8 (f (a + 2)) ∧ a + 3 + u8 (f (a + 2)) ≤ e then some (a + 3, a + 3 + u8 (f (a + 2))) else none := by
  unfold it
  rw [if_pos h, if_neg (by omega), if_pos g]
theorem it_130 {f : Nat → Int32} {a e : Nat} (h : a + 2 ≤ e) (g : u8 (f (a + 1)) = 130) : it f a e = if a + 4 ≤ e ∧ 256 ≤ u8 (f (a + 2)) * 256 + u8 (f (a + 3)) ∧ a + 4 + (u8 (f (a + 2)) * 256 + u8 (f (a + 3))) ≤ e then some (a + 4, a + 4 + (u8 (f (a + 2)) * 256 + u8 (f (a + 3)))) else none := by
  unfold it
  rw [if_pos h, if_neg (by omega), if_neg (by omega), if_pos g]
theorem it_127 {f : Nat → Int32} {a e : Nat} (h : a + 2 ≤ e) (g : u8 (f (a + 1)) < 128) : it f a e = if a + 2 + u8 (f (a + 1)) ≤ e then some (a + 2, a + 2 + u8 (f (a + 1))) else none := by
  unfold it
  rw [if_pos h, if_pos g]
theorem it_no {f : Nat → Int32} {a e : Nat} (h1 : ¬ u8 (f (a + 1)) < 128) (h2 : u8 (f (a + 1)) ≠ 129) (h3 : u8 (f (a + 1)) ≠ 130) : it f a e = none := by
  unfold it
  simp [h1, h2, h3]
theorem it_0 {f : Nat → Int32} {a e : Nat} (h : ¬ a + 2 ≤ e) : it f a e = none := by
  unfold it
  rw [if_neg h]
theorem it_b {f : Nat → Int32} {a e : Nat} {p : Nat × Nat} (h : it f a e = some p) : a + 2 ≤ p.1 ∧ p.1 ≤ p.2 ∧ p.2 ≤ e := by
  unfold it at h
  repeat' split at h
  all_goals first | cases h; done | skip
  all_goals (obtain rfl := Option.some.inj h; simp only; omega)
/-- an item of this sort, whose length is within lo and hi: its end; the place behind is its first byte -/
def p_ent (f : Nat → Int32) (k : Int32) (lo hi e a : Nat) (i : Int32) : Rs Nat :=
  if f a &&& 255 = k then match it f a e with
    | some p => if lo ≤ p.2 - p.1 ∧ p.2 - p.1 ≤ hi then .inr (p.2, p.1, i + 1) else .inl a
    | none => .inl a
  else .inl a
def p_item (f : Nat → Int32) (e a : Nat) (i : Int32) : Rs Nat := match it f a e with
    | some p => .inr (p.2, p.1, i + 1)
    | none => .inl a
theorem ent_wide {f : Nat → Int32} {k : Int32} {e a : Nat} {i : Int32} (he : e ≤ 1500) : p_ent f k 0 1500 e a i = if f a &&& 255 = k then p_item f e a i else .inl a := by
  unfold p_ent p_item
  split
  · cases h : it f a e with
    | none => rfl
    | some p => have := it_b h; simp only; rw [if_pos (by omega)]
  · rfl
theorem ent_cut {f : Nat → Int32} {k : Int32} {lo hi e a : Nat} {i : Int32} (he : e ≤ 1500) : p_ent f k lo hi e a i = rb (p_ent f k 0 1500 e a i) fun z a' i' => if lo ≤ z - a' ∧ z - a' ≤ hi then .inr (z, a', i') else .inl a := by
  rw [ent_wide he]
  unfold p_ent p_item
  split
  · cases h : it f a e with
    | none => rfl
    | some p => rfl
  · rfl
theorem nb1 (v : Int32) (h : v = 0 ∨ v = 1) : narrow .boolean (.int v) = .int v := by rcases h with rfl | rfl <;> rfl
theorem wr_b {α : Type} (fa p : Int32) (k : Int32 × Int32 → Option α) : ((f_wrong fa p).bind fun y => chk (narrow .boolean (.int y.1) = .int y.1) (k y)) = k (0, p) := by
  rw [f_wrong, Option.bind_some]
  exact chk_t (nb1 _ (Or.inl rfl))
theorem j216 {f : Nat → Int32} {a hd n e : Nat} {i fa st so fr to : Int32} (ha : a + hd + n < 2 ^ 31) (he : e < 2 ^ 31) : j_item_216 f (nI a) i fa st so fr to (nI e) (nI hd) (nI n) = if a + hd + n ≤ e then some (1, nI (a + hd), i + 1, fa, st, so, nI (a + hd), nI (a + hd + n)) else some (0, nI a, i, st, st, so, nI (a + hd), nI (a + hd + n)) := by
  unfold j_item_216
  rw [bnd_eq, bnd_eq, nI_add, nI_add]
  by_cases h : a + hd + n ≤ e
  · rw [if_pos h, if_pos ((nI_leI ha he).mpr h)]
    rfl
  · rw [if_neg h, if_neg (fun g => h ((nI_leI ha he).mp g)), wr_b]
theorem shl8 {a b : Nat} (ha : a < 256) (hb : b < 256) : (nI a <<< ((8 : Int32) &&& 31)) ||| nI b = nI (a * 256 + b) := by
  have : ∀ a : Fin 256, nI a.val <<< ((8 : Int32) &&& 31) = nI (a.val * 256) := by decide +kernel
  rw [this ⟨a, ha⟩]
  refine Int32.toBitVec_inj.mp (BitVec.eq_of_toNat_eq ?_)
  rw [Int32.toBitVec_or, BitVec.toNat_or, pk_tn (by simp only; omega), pk_tn (by omega), pk_tn (by omega)]
  have h := Nat.two_pow_add_eq_or_of_lt (i := 8) (b := b) (by omega) a
  simp only at h ⊢
  rw [Nat.mul_comm a 256]
  exact h.symm
theorem R_item {f : Nat → Int32} {a e : Nat} (hae : a ≤ e) (he : e ≤ 1500) (i fa st so fr to : Int32) : ok (f_item f (nI a) i fa st so fr to (nI e)) (ro (fun v a' i' y => y = (1, nI a', i', fa, nI a, f a &&& 255, nI a', nI v) ∧ a + 2 ≤ a' ∧ a' ≤ v ∧ v ≤ e) (fun p y => y.1 = 0 ∧ y.2.2.2.1 = nI p) (p_item f e a i)) := by
  unfold f_item
  by_cases h0 : a < e
  · refine ok.t ((nI_ltI (by omega) (by omega)).mpr h0) (ok.c (inN (by omega) (by omega)) (ok.n ?_))
    rw [nI_clamp (by omega), nI_1]
    have hb := fun (p : Nat × Nat) => it_b (f := f) (a := a) (e := e) (p := p)
    unfold p_item
    by_cases h1 : a + 2 ≤ e
    · refine ok.f (fun g => ?_) (ok.c (inN (by omega) (by omega)) ?_)
      · have := (nI_leI (by omega) (by omega)).mp g; omega
      rw [nI_clamp (by omega), u8_eq (f (a + 1))]
      have hu := u8_lt (f (a + 1))
      have e129 : (nI (u8 (f (a + 1))) = 129) ↔ u8 (f (a + 1)) = 129 := nI_eq (b := 129) (by omega) (by decide)
      have e130 : (nI (u8 (f (a + 1))) = 130) ↔ u8 (f (a + 1)) = 130 := nI_eq (b := 130) (by omega) (by decide)
      have e127 : (nI (u8 (f (a + 1))) ≤ 127) ↔ u8 (f (a + 1)) ≤ 127 := nI_leI (b := 127) (by omega) (by decide)
      unfold j_item_72
      rw [show (nI a + 2 : Int32) = nI (a + 2) from nI_add a 2, show (nI a + 3 : Int32) = nI (a + 3) from nI_add a 3, show (2 : Int32) = nI 2 from rfl, show (3 : Int32) = nI 3 from rfl, show (4 : Int32) = nI 4 from rfl, show (100000 : Int32) = nI 100000 from rfl]
      by_cases g129 : u8 (f (a + 1)) = 129
      · refine ok.t (e129.mpr g129) ?_
        rw [it_129 h1 g129] at hb ⊢
        unfold j_item_111
        rw [show (5000 : Int32) = nI 5000 from rfl]
        by_cases g3 : a + 3 ≤ e
        · refine ok.f (fun g => ?_) (ok.c (inN (by omega) (by omega)) ?_)
          · have := (nI_leI (by omega) (by omega)).mp g; omega
          rw [nI_clamp (by omega), u8_eq (f (a + 2))]
          have hu2 := u8_lt (f (a + 2))
          by_cases g4 : 128 ≤ u8 (f (a + 2))
          · refine ok.t ((nI_leI (a := 128) (by decide) (by omega)).mpr g4) ?_
            rw [j216 (by omega) (by omega)]
            by_cases g5 : a + 3 + u8 (f (a + 2)) ≤ e
            · rw [if_pos g5]
              rw [if_pos ⟨g3, g4, g5⟩] at hb ⊢
              exact ok.s ⟨rfl, by simpa using hb _ rfl⟩
            · rw [if_neg g5, if_neg (fun g => g5 g.2.2)]
              exact ok.s ⟨rfl, rfl⟩
          · refine ok.f (fun g => g4 ((nI_leI (a := 128) (by decide) (by omega)).mp g)) ?_
            rw [j216 (by omega) (by omega), if_neg (by omega), if_neg (fun g => g4 g.2.1)]
            exact ok.s ⟨rfl, rfl⟩
        · refine ok.t (nI_le (by omega) (by omega)) (ok.f (by decide) ?_)
          rw [j216 (by omega) (by omega), if_neg (by omega), if_neg (fun g => g3 g.1)]
          exact ok.s ⟨rfl, rfl⟩
      · refine ok.f (fun g => g129 (e129.mp g)) ?_
        by_cases g130 : u8 (f (a + 1)) = 130
        · refine ok.t (e130.mpr g130) ?_
          rw [it_130 h1 g130] at hb ⊢
          unfold j_item_187
          rw [show (100000 : Int32) = nI 100000 from rfl]
          by_cases g3 : a + 4 ≤ e
          · refine ok.f (fun g => ?_) (ok.c (inN (by omega) (by omega)) (ok.c (inN (by omega) (by omega)) ?_))
            · have := (nI_leI (by omega) (by omega)).mp g; omega
            rw [nI_clamp (by omega), nI_clamp (by omega), u8_eq (f (a + 2)), u8_eq (f (a + 3)), shl8 (u8_lt _) (u8_lt _)]
            have hu2 := u8_lt (f (a + 2))
            have hu3 := u8_lt (f (a + 3))
            by_cases g4 : 256 ≤ u8 (f (a + 2)) * 256 + u8 (f (a + 3))
            · refine ok.t ((nI_leI (a := 256) (by decide) (by omega)).mpr g4) ?_
              rw [j216 (by omega) (by omega)]
              by_cases g5 : a + 4 + (u8 (f (a + 2)) * 256 + u8 (f (a + 3))) ≤ e
              · rw [if_pos g5]
                rw [if_pos ⟨g3, g4, g5⟩] at hb ⊢
                exact ok.s ⟨rfl, by simpa using hb _ rfl⟩
              · rw [if_neg g5, if_neg (fun g => g5 g.2.2)]
                exact ok.s ⟨rfl, rfl⟩
            · refine ok.f (fun g => g4 ((nI_leI (a := 256) (by decide) (by omega)).mp g)) ?_
              rw [j216 (by omega) (by omega), if_neg (by omega), if_neg (fun g => g4 g.2.1)]
              exact ok.s ⟨rfl, rfl⟩
          · refine ok.t (nI_le (by omega) (by omega)) (ok.f (by decide) ?_)
            rw [j216 (by omega) (by omega), if_neg (by omega), if_neg (fun g => g3 g.1)]
            exact ok.s ⟨rfl, rfl⟩
        · refine ok.f (fun g => g130 (e130.mp g)) ?_
          by_cases g127 : u8 (f (a + 1)) ≤ 127
          · refine ok.t (e127.mpr g127) ?_
            rw [it_127 h1 (by omega)] at hb ⊢
            rw [j216 (by omega) (by omega)]
            by_cases g5 : a + 2 + u8 (f (a + 1)) ≤ e
            · rw [if_pos g5]
              rw [if_pos g5] at hb ⊢
              exact ok.s ⟨rfl, by simpa using hb _ rfl⟩
            · rw [if_neg g5, if_neg g5]
              exact ok.s ⟨rfl, rfl⟩
          · refine ok.f (fun g => g127 (e127.mp g)) ?_
            rw [j216 (by omega) (by omega), if_neg (by omega), it_no (by omega) g129 g130]
            exact ok.s ⟨rfl, rfl⟩
    · refine ok.t (nI_le (by omega) (by omega)) ?_
      rw [it_0 h1]
      unfold j_item_72
      rw [if_neg (by decide), if_neg (by decide), if_neg (by decide), show (2 : Int32) = nI 2 from rfl, show (100000 : Int32) = nI 100000 from rfl, j216 (by omega) (by omega), if_neg (by omega)]
      exact ok.s ⟨rfl, rfl⟩
  · have : a = e := by omega
    subst this
    refine ok.f (nI_nlt (Nat.le_refl _) (by omega)) ?_
    unfold p_item
    rw [it_0 (by omega), wr_b]
    exact ok.s ⟨rfl, rfl⟩
