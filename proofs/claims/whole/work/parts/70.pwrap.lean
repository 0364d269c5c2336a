/-! PURE 20: bytes that are written -/
def BB (x : Int32) : Int32 := vp_nar .byte x
theorem BB8 (x : Int32) : vp_nar .byte x.toInt8.toInt32 = BB x := nar8 x
theorem BB_b (x : Int32) : isb (BB x) := isb_nar x
theorem BB_of {x : Int32} (h : isb x) : vp_nar .byte x = x := nar_isb h
/-- the bytes A stand in f from a on -/
def GG (f : Nat → Int32) (a : Nat) (A : List Int32) : Prop := ∀ j d, A[j]? = some d → f (a + j) = d ∧ isb d
theorem GG_nil (f : Nat → Int32) (a : Nat) : GG f a [] := fun j d h => by simp at h
theorem GG_cons {f : Nat → Int32} {a : Nat} {x : Int32} {A : List Int32} (h0 : f a = x) (hx : isb x) (h : GG f (a + 1) A) : GG f a (x :: A) := by
  intro j d hd
  cases j with
  | zero => rw [List.getElem?_cons_zero] at hd; obtain rfl := Option.some.inj hd; exact ⟨h0, hx⟩
  | succ j =>
    rw [List.getElem?_cons_succ] at hd
    have := h j d hd
    rw [show a + 1 + j = a + (j + 1) by omega] at this
    exact this
theorem GG_hd {f : Nat → Int32} {a : Nat} {x : Int32} {A : List Int32} (h : GG f a (x :: A)) : f a = x ∧ isb x := h 0 x rfl
theorem GG_tl {f : Nat → Int32} {a : Nat} {x : Int32} {A : List Int32} (h : GG f a (x :: A)) : GG f (a + 1) A := fun j d hd => by
  have := h (j + 1) d (by rw [List.getElem?_cons_succ]; exact hd)
  rw [show a + (j + 1) = a + 1 + j by omega] at this
  exact this
theorem GG_app {f : Nat → Int32} {a : Nat} {A C : List Int32} (h1 : GG f a A) (h2 : GG f (a + A.length) C) : GG f a (A ++ C) := by
  intro j d hd
  by_cases hj : j < A.length
  · rw [List.getElem?_append_left hj] at hd
    exact h1 j d hd
  · rw [List.getElem?_append_right (by omega)] at hd
    have := h2 _ d hd
    rw [show a + A.length + (j - A.length) = a + j by omega] at this
    exact this
theorem GG_l {f : Nat → Int32} {a : Nat} {A C : List Int32} (h : GG f a (A ++ C)) : GG f a A := fun j d hd => by
  have hj : j < A.length := by
    by_cases hj : j < A.length
    · exact hj
    · rw [List.getElem?_eq_none (by omega)] at hd; cases hd
  exact h j d (by rw [List.getElem?_append_left hj]; exact hd)
theorem GG_r {f : Nat → Int32} {a : Nat} {A C : List Int32} (h : GG f a (A ++ C)) : GG f (a + A.length) C := fun j d hd => by
  have := h (A.length + j) d (by rw [List.getElem?_append_right (by omega), show A.length + j - A.length = j by omega]; exact hd)
  rw [show a + (A.length + j) = a + A.length + j by omega] at this
  exact this
theorem GG_c {f g : Nat → Int32} {a b : Nat} {A : List Int32} (h : GG f a A) (e : ∀ j, j < A.length → g (b + j) = f (a + j)) : GG g b A := fun j d hd => by
  have hj : j < A.length := by
    by_cases hj : j < A.length
    · exact hj
    · rw [List.getElem?_eq_none (by omega)] at hd; cases hd
  rw [e j hj]
  exact h j d hd
theorem GG_u {f : Nat → Int32} {a k : Nat} {x : Int32} {A : List Int32} (h : GG f a A) (hk : k < a ∨ a + A.length ≤ k) : GG (upd f k x) a A := GG_c h (fun j hj => pk_un (by omega))
theorem GG_at {f : Nat → Int32} {a : Nat} {A : List Int32} (h : GG f a A) {j : Nat} (hj : j < A.length) : isb (f (a + j)) := by
  have := h j A[j] (List.getElem?_eq_getElem hj)
  rw [this.1]
  exact this.2
def WW (f : Nat → Int32) (n : Int32) (L : List Int32) : Prop := n = nI L.length ∧ GG f 0 L
theorem WW_nil (f : Nat → Int32) : WW f 0 [] := ⟨rfl, GG_nil f 0⟩
def lenB (n : Nat) : List Int32 := if n < 128 then [BB (nI n)] else if n < 256 then [BB 129, BB (nI n)] else [BB 130, BB (nI (n / 256)), BB (nI n)]
theorem lenB_l (n : Nat) : (lenB n).length = if n < 128 then 1 else if n < 256 then 2 else 3 := by
  unfold lenB
  repeat' split
  all_goals rfl
/-- an item: its sort, its length, what it has -/
def itm (s : Int32) (C : List Int32) : List Int32 := BB s :: (lenB C.length ++ C)
theorem itm_l (s : Int32) (C : List Int32) : (itm s C).length ≤ C.length + 4 ∧ C.length + 2 ≤ (itm s C).length := by
  unfold itm
  rw [List.length_cons, List.length_append, lenB_l]
  repeat' split
  all_goals omega
/-! the reference -/
theorem p_lay {f : Nat → Int32} {n : Int32} {L : List Int32} (h : WW f n L) (hl : L.length < 4000) (b : Int32) : ok (f_lay f n b) (fun y => WW y.1 y.2 (L ++ [BB b])) := by
  obtain ⟨rfl, h⟩ := h
  unfold f_lay
  rw [chk_t (inN hl (by omega)), nI_clamp (by omega), bnd_eq, bnd_eq, nI_1, BB8]
  refine ok.s ⟨by simp, GG_app (GG_u h (by omega)) (GG_cons ?_ (BB_b b) (GG_nil _ _))⟩
  rw [Nat.zero_add]
  exact pk_us
theorem sub1 (n : Nat) : nI n - 1 = nI n + (-1) := Int32.sub_eq_add_neg _ _
theorem m1_lt (n : Nat) (h : n < 2 ^ 31) : nI n + (-1) < nI n := by
  cases n with
  | zero => decide
  | succ n => rw [pk_m1]; exact nI_lt (by omega) h
theorem wr_loop {a h : Nat} (hh : h ≤ 4) (n s v : Int32) : ∀ (m fu : Nat) (f : Nat → Int32), m < fu → a + m + h ≤ 4000 → (∀ j, j < m → isb (f (a + j))) → ∃ F fu', j_wrap_40 fu f n (nI a) s v (nI h) (nI (a + m) + (-1)) = j_wrap_40 (fu' + 1) F n (nI a) s v (nI h) (nI a + (-1)) ∧ (∀ j, j < a + h → F j = f j) ∧ (∀ j, a + h + m ≤ j → F j = f j) ∧ (∀ j, j < m → F (a + h + j) = f (a + j)) := by
  intro m
  induction m with
  | zero =>
    intro fu f hfu _ _
    obtain ⟨fu, rfl⟩ : ∃ g, fu = g + 1 := ⟨fu - 1, by omega⟩
    exact ⟨f, fu, rfl, fun _ _ => rfl, fun _ _ => rfl, fun j hj => absurd hj (by omega)⟩
  | succ m ih =>
    intro fu f hfu hb hi
    obtain ⟨fu, rfl⟩ : ∃ g, fu = g + 1 := ⟨fu - 1, by omega⟩
    have hup : ∀ j, j ≠ a + m + h → upd f (a + m + h) (f (a + m)) j = f j := fun j hj => pk_un hj
    obtain ⟨F, fu', e, e1, e2, e3⟩ := ih fu (upd f (a + m + h) (f (a + m))) (by omega) (by omega) (fun j hj => by rw [hup _ (by omega)]; exact hi j (by omega))
    refine ⟨F, fu', ?_, fun j hj => by rw [e1 j hj, hup _ (by omega)], fun j hj => by rw [e2 j (by omega), hup _ (by omega)], fun j hj => ?_⟩
    · rw [← e, j_wrap_40, show a + (m + 1) = a + m + 1 by omega, pk_m1, if_neg (nI_nlt (by omega) (by omega)), chk_t (inN (by omega) (by omega)), nI_add, chk_t (inN (by omega) (by omega)), nI_clamp (by omega), nI_clamp (by omega), bnd_eq, bnd_eq, BB_of (hi m (by omega))]
    · by_cases hjm : j = m
      · subst hjm
        rw [e2 _ (by omega), show a + h + j = a + j + h by omega]
        exact pk_us
      · rw [e3 j (by omega), hup _ (by omega)]
theorem shr8 {n : Nat} (h : n < 2 ^ 31) : nI n >>> ((8 : Int32) &&& 31) = nI (n / 256) := pk_shrN h _ 8 (by decide)
theorem BB_m127 : vp_nar .byte (-127) = BB 129 := by decide
theorem BB_m126 : vp_nar .byte (-126) = BB 130 := by decide
theorem p_wrap {f : Nat → Int32} {n : Int32} {L C : List Int32} (h : WW f n (L ++ C)) (hl : L.length + C.length + 4 ≤ 4000) (s : Int32) : ok (f_wrap f n (nI L.length) s) (fun y => WW y.1 y.2 (L ++ itm s C)) := by
  obtain ⟨rfl, h⟩ := h
  rw [List.length_append]
  have hL := GG_l h
  have hC := GG_r h
  rw [Nat.zero_add] at hC
  unfold f_wrap
  rw [sub_n (by omega), show L.length + C.length - L.length = C.length by omega, bnd_eq, bnd_eq, bnd_eq, bnd_eq, sub1]
  have key : ∀ (hd : Nat), hd ≤ 4 → hd = (lenB C.length).length + 1 → ok (j_wrap_40 FU f (nI (L.length + C.length)) (nI L.length) s (nI C.length) (nI hd) (nI (L.length + C.length) + (-1))) (fun y => WW y.1 y.2 (L ++ itm s C)) := fun hd hd4 hdl => by
    obtain ⟨F, fu', e, e1, e2, e3⟩ := wr_loop hd4 (nI (L.length + C.length)) s (nI C.length) C.length FU f (by unfold FU; omega) (by omega) (fun j hj => GG_at hC hj)
    have gL : GG F 0 L := GG_c hL (fun j hj => e1 _ (by omega))
    have gC : GG F (L.length + hd) C := GG_c hC (fun j hj => e3 j hj)
    have hlen : nI (L.length + C.length + hd) = nI (L ++ itm s C).length := by
      unfold itm
      rw [List.length_append, List.length_cons, List.length_append, show L.length + ((lenB C.length).length + C.length + 1) = L.length + C.length + hd by omega]
    rw [e, j_wrap_40, if_pos (m1_lt _ (by omega)), chk_t (inN (by omega) (by omega)), nI_clamp (by omega), bnd_eq, BB8, BB8, shr8 (by omega), BB8, BB_m127, BB_m126]
    rw [show (nI L.length + 2 : Int32) = nI (L.length + 2) from nI_add _ 2, show (nI L.length + 3 : Int32) = nI (L.length + 3) from nI_add _ 3, nI_1, nI_clamp (by omega), nI_clamp (by omega), nI_clamp (by omega), nI_add]
    unfold lenB at hdl
    unfold itm lenB
    by_cases c1 : C.length < 128
    · rw [if_pos c1] at hdl ⊢
      have : hd = 2 := hdl
      subst this
      rw [if_pos (show nI 2 = 2 from rfl), chk_t (by rintro (q | q); exact nI_pos (by omega) q; omega), bnd_eq, bnd_eq]
      refine ok.s ⟨by simp only [List.length_append, List.length_cons, List.length_nil]; rw [show L.length + (0 + 1 + C.length + 1) = L.length + C.length + 2 by omega], ?_⟩
      refine GG_app (GG_u (GG_u gL (by omega)) (by omega)) ?_
      rw [Nat.zero_add]
      dsimp only
      refine GG_cons (by rw [pk_un (by omega), pk_us]) (BB_b _) (GG_cons pk_us (BB_b _) ?_)
      exact GG_u (GG_u gC (by omega)) (by omega)
    · rw [if_neg c1] at hdl ⊢
      by_cases c2 : C.length < 256
      · rw [if_pos c2] at hdl ⊢
        have : hd = 3 := hdl
        subst this
        rw [if_neg (show ¬ nI 3 = 2 by decide), if_pos (show nI 3 = 3 from rfl), chk_t (by rintro (q | q); exact nI_pos (by omega) q; omega), bnd_eq, chk_t (by rintro (q | q); exact nI_pos (by omega) q; omega), bnd_eq, bnd_eq]
        refine ok.s ⟨by simp only [List.length_append, List.length_cons, List.length_nil]; rw [show L.length + (0 + 1 + 1 + C.length + 1) = L.length + C.length + 3 by omega], ?_⟩
        refine GG_app (GG_u (GG_u (GG_u gL (by omega)) (by omega)) (by omega)) ?_
        rw [Nat.zero_add]
        dsimp only
        refine GG_cons (by rw [pk_un (by omega), pk_un (by omega), pk_us]) (BB_b _) (GG_cons (by rw [pk_un (by omega), pk_us]) (BB_b _) (GG_cons pk_us (BB_b _) ?_))
        exact GG_u (GG_u (GG_u gC (by omega)) (by omega)) (by omega)
      · rw [if_neg c2] at hdl ⊢
        have : hd = 4 := hdl
        subst this
        rw [if_neg (show ¬ nI 4 = 2 by decide), if_neg (show ¬ nI 4 = 3 by decide), chk_t (by rintro (q | q); exact nI_pos (by omega) q; omega), bnd_eq, chk_t (by rintro (q | q); exact nI_pos (by omega) q; omega), bnd_eq, chk_t (by rintro (q | q); exact nI_pos (by omega) q; omega), bnd_eq, bnd_eq]
        refine ok.s ⟨by simp only [List.length_append, List.length_cons, List.length_nil]; rw [show L.length + (0 + 1 + 1 + 1 + C.length + 1) = L.length + C.length + 4 by omega], ?_⟩
        refine GG_app (GG_u (GG_u (GG_u (GG_u gL (by omega)) (by omega)) (by omega)) (by omega)) ?_
        rw [Nat.zero_add]
        dsimp only
        refine GG_cons (by rw [pk_un (by omega), pk_un (by omega), pk_un (by omega), pk_us]) (BB_b _) (GG_cons (by rw [pk_un (by omega), pk_un (by omega), pk_us]) (BB_b _) (GG_cons (by rw [pk_un (by omega), pk_us]) (BB_b _) (GG_cons pk_us (BB_b _) ?_)))
        exact GG_u (GG_u (GG_u (GG_u gC (by omega)) (by omega)) (by omega)) (by omega)
  have hll := lenB_l C.length
  by_cases c1 : C.length < 128
  · rw [if_neg (show ¬ (128 : Int32) ≤ nI C.length from nI_ge (b := 128) c1 (by decide))]
    exact key 2 (by decide) (by rw [hll, if_pos c1])
  · rw [if_pos (show (128 : Int32) ≤ nI C.length from nI_le (a := 128) (by omega) (by omega))]
    by_cases c2 : C.length < 256
    · rw [if_neg (show ¬ (256 : Int32) ≤ nI C.length from nI_ge (b := 256) c2 (by decide))]
      exact key 3 (by decide) (by rw [hll, if_neg c1, if_pos c2])
    · rw [if_pos (show (256 : Int32) ≤ nI C.length from nI_le (a := 256) (by omega) (by omega))]
      exact key 4 (by decide) (by rw [hll, if_neg c1, if_neg c2])
