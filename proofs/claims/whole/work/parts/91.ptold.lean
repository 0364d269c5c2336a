/-! PURE 41: who told it, is it signed -/
theorem nb9 {f : Nat → Int32} {x : Nat} (h : f x = 0) : nb f 0 x 9 = nb f 0 (x + 1) 8 := by
  rw [nb, h]
  rfl
theorem bool_n (c : Prop) [Decidable c] : narrow .boolean (.int (if c then (1 : Int32) else 0)) = .int (if c then (1 : Int32) else 0) := by
  split <;> rfl
/-- told by the one whose name stands in g at a, and whose key has the hash h -/
abbrev told (f : Nat → Int32) (v : Nat × Nat × Nat) (N : List Int32) (h : Int64) : Prop := (v.1 = 1 ∧ N = sl f v.2.1 (v.2.2 - v.2.1)) ∨ (v.1 = 2 ∧ nb f 0 v.2.1 8 = h)
section TO
theorem r_told {f g : Nat → Int32} {n : Nat} (hn : n ≤ 1500) {v : Nat × Nat × Nat} (hv : teb n v) {a m Ng : Nat} (hm : m ≤ 16) (hg : a + m ≤ Ng) (hN : Ng < 2 ^ 31) (K : Int64) (xh : Int64) : ok (f_isToldBy f xh (nI v.1) (nI v.2.1) (nI v.2.2) g Ng (nI a) (nI (a + m)) K) (fun y => y.1 = if told f v (sl g a m) (hE (hL h0 K)) then 1 else 0) := by
  obtain ⟨v1, v2⟩ := hv
  unfold f_isToldBy
  rcases v2 with ⟨e1, e2, e3⟩ | ⟨e1, e2⟩
  · have q := p_isSame (a := g) (b := f) (Na := Ng) (Nb := 1500) (p := a) (n := m) (q := v.2.1) (m := v.2.2 - v.2.1) (by unfold FU; omega) hg (by omega) hN (by decide)
    rw [show v.2.1 + (v.2.2 - v.2.1) = v.2.2 by omega] at q
    rw [if_pos (by rw [e1]; rfl), q, Option.bind_some, chk_t (bool_n _)]
    refine ok.s ?_
    dsimp only
    by_cases h : sl g a m = sl f v.2.1 (v.2.2 - v.2.1)
    · rw [if_pos h, if_pos (Or.inl ⟨e1, h⟩)]
    · rw [if_neg h, if_neg]
      rintro (q | q)
      · exact h q.2
      · have := q.1; omega
  · rw [if_neg (by rw [e1]; decide), p_hashOfKey, Option.bind_some]
    dsimp only
    rw [p_isHash (by omega), Option.bind_some, chk_t (bool_n _)]
    refine ok.s ?_
    dsimp only
    by_cases h : nb f 0 v.2.1 8 = hE (hL h0 K)
    · rw [if_pos h, if_pos (Or.inr ⟨e1, h⟩)]
    · rw [if_neg h, if_neg]
      rintro (q | q)
      · have := q.1; omega
      · exact h q.2
theorem u_told {f : Nat → Int32} (hf : TP f) {n : Nat} (hn : n ≤ 1500) {v : Nat × Nat × Nat} (hv : teb n v) {b : Int32} {th : Int64} {tp ts : Int32} (hT : TeR f v b th tp ts) {nd : Nat → Int32} {nl : Int32} {An : List Int32} (hA : WW nd nl An) (hA16 : An.length ≤ 16) (kh : Int64) : f_an_isToldBy b th tp ts f (nI n) nd nl 1500 16 kh = some (if told f v An kh then 1 else 0) := by
  obtain ⟨v1, v2⟩ := hv
  unfold f_an_isToldBy
  rcases hT with ⟨a1, rfl, rfl⟩ | ⟨a1, rfl, rfl, rfl⟩
  · rw [if_pos rfl]
    by_cases h : nb f 0 v.2.1 8 = kh
    · rw [if_pos h, if_pos (Or.inr ⟨a1, h⟩)]
    · rw [if_neg h, if_neg]
      rintro (q | q)
      · have := q.1; omega
      · exact h q.2
  · have e2 : v.2.1 < v.2.2 := by rcases v2 with q | q <;> omega
    obtain ⟨rfl, hA⟩ := hA
    have q := pu_isSame (a := nd) (b := f) (Na := 16) (Nb := 1500) (n := An.length) (q := v.2.1) (m := v.2.2 - v.2.1) (M := n) (by unfold FU; omega) hA16 (by omega) hn (by decide) (by decide) (fun j hj => by have := GG_at hA hj; rwa [Nat.zero_add] at this) hf
    rw [if_neg i10, q, Option.bind_some, chk_t (bool_n _), sl_GG An 0 hA]
    by_cases h : An = sl f v.2.1 (v.2.2 - v.2.1)
    · rw [if_pos h, if_pos (Or.inl ⟨a1, h⟩)]
    · rw [if_neg h, if_neg]
      rintro (q | q)
      · exact h q.2
      · have := q.1; omega
theorem c53 {f : Nat → Int32} (hf : TP f) {n : Nat} (hn : n ≤ 1500) {p q m : Nat} (hp : p + m ≤ n) (hq : q + m ≤ n) (ns : Int32) (pk : Int64) (b : Int32) (th : Int64) : ∀ (i j fu : Nat), i + 1 < fu → j + i = m → j_an_isToldByCert_53 fu (nI p) ns pk b th (nI q) (nI m) f (nI n) 1500 1 (nI j) = some (if sl f (q + j) i = sl f (p + j) i then 1 else 0) := by
  intro i
  induction i with
  | zero =>
    intro j fu hfu hj
    obtain ⟨fu, rfl⟩ : ∃ g, fu = g + 1 := ⟨fu - 1, by omega⟩
    rw [j_an_isToldByCert_53, if_neg i10, if_pos (nI_le (by omega) (by omega)), chk_t (by rfl), if_pos (by rw [sl, sl])]
  | succ i ih =>
    intro j fu hfu hj
    obtain ⟨fu, rfl⟩ : ∃ g, fu = g + 1 := ⟨fu - 1, by omega⟩
    rw [j_an_isToldByCert_53, if_neg i10, if_neg (nI_ge (by omega) (by omega)), nI_add, p_byteAt (by omega) hn (by omega), Option.bind_some, nI_add, p_byteAt (by omega) hn (by omega), Option.bind_some, sl, sl]
    by_cases h : f (q + j) = f (p + j)
    · rw [if_pos (by rw [h]), bnd_eq, nI_1, ih (j + 1) fu (by omega) (by omega), h]
      refine congrArg some ?_
      rw [← Nat.add_assoc, ← Nat.add_assoc]
      by_cases h2 : sl f (q + j + 1) i = sl f (p + j + 1) i
      · rw [if_pos h2, if_pos (by rw [h2])]
      · rw [if_neg h2, if_neg (fun h3 => h2 (List.cons.inj h3).2)]
    · have hne : ¬ (f (q + j) &&& 255) = (f (p + j) &&& 255) := fun e => h ((isb_eq (hf _) (hf _)).mpr (u8_and e))
      rw [if_neg hne, bnd_eq, if_neg (fun h3 => h (List.cons.inj h3).1)]
      obtain ⟨fu, rfl⟩ : ∃ g, fu = g + 1 := ⟨fu - 1, by omega⟩
      rw [j_an_isToldByCert_53, if_pos rfl, chk_t (by rfl)]
theorem c_toldc {f : Nat → Int32} (hf : TP f) {n : Nat} (hn : n ≤ 1500) {v : Nat × Nat × Nat} (hv : teb n v) {b : Int32} {th : Int64} {tp ts : Int32} (hT : TeR f v b th tp ts) {p z : Nat} (hp : p < z) (hz : z ≤ n) (hz16 : z - p ≤ 16) (K : Int64) : f_an_isToldByCert (nI p) (nI (z - p)) K b th tp ts f (nI n) 1500 = some (if told f v (sl f p (z - p)) (hE (hL h0 K)) then 1 else 0) := by
  obtain ⟨v1, v2⟩ := hv
  unfold f_an_isToldByCert
  rcases hT with ⟨a1, rfl, rfl⟩ | ⟨a1, rfl, rfl, rfl⟩
  · rw [if_pos rfl, pu_hashOf, Option.bind_some]
    by_cases h : nb f 0 v.2.1 8 = hE (hL h0 K)
    · rw [if_pos h, if_pos (Or.inr ⟨a1, h⟩)]
    · rw [if_neg h, if_neg]
      rintro (q | q)
      · have := q.1; omega
      · exact h q.2
  · have e2 : v.2.1 < v.2.2 ∧ v.2.2 - v.2.1 ≤ 16 := by rcases v2 with q | q <;> omega
    rw [if_neg i10]
    by_cases hl1 : v.2.2 - v.2.1 = z - p
    · rw [if_pos (congrArg nI hl1), show nI (v.2.2 - v.2.1) = nI (z - p) from congrArg nI hl1]
      have q := c53 hf hn (p := p) (q := v.2.1) (m := z - p) (by omega) (by omega) (nI (z - p)) K 1 th (z - p) 0 FU (by unfold FU; omega) (by omega)
      rw [show nI 0 = 0 from rfl] at q
      rw [q, Nat.add_zero, Nat.add_zero]
      refine congrArg some ?_
      by_cases h : sl f v.2.1 (z - p) = sl f p (z - p)
      · rw [if_pos h, if_pos (Or.inl ⟨a1, by rw [hl1]; exact h.symm⟩)]
      · rw [if_neg h, if_neg]
        rintro (⟨-, h3⟩ | ⟨h3, -⟩)
        · rw [hl1] at h3
          exact h h3.symm
        · omega
    · rw [if_neg (fun e => hl1 ((nI_eq (by omega) (by omega)).mp e)), show FU = 4999 + 1 from rfl, j_an_isToldByCert_53, if_pos rfl, chk_t (by rfl), if_neg]
      rintro (⟨-, h⟩ | ⟨h, -⟩)
      · have := congrArg List.length h
        rw [sl_l, sl_l] at this
        omega
      · omega
end TO
