/-! PURE 21: bytes that the class writes -/
section CW
variable {N : Nat}
theorem pu_add {f : Nat → Int32} {n : Int32} {L : List Int32} (hN : N < 2 ^ 31) (h : WW f n L) (hl : L.length < N) (b : Int32) : ok (f_by_add f n N b) (fun y => WW y.1 y.2 (L ++ [BB b])) := by
  obtain ⟨rfl, h⟩ := h
  unfold f_by_add
  rw [if_neg (show ¬ Int32.ofNat N ≤ nI L.length from nI_ge hl hN), chk_t (inN hl (by omega)), nI_clamp (by omega), bnd_eq, bnd_eq, nI_1, BB8]
  refine ok.s ⟨by simp, GG_app (GG_u h (by omega)) (GG_cons ?_ (BB_b b) (GG_nil _ _))⟩
  rw [Nat.zero_add]
  exact pk_us
theorem pu_open {f : Nat → Int32} {n : Int32} {L : List Int32} (hN : N < 2 ^ 31) (h : WW f n L) (hl : L.length < N) (b : Int32) : ok (f_by_open f n N b) (fun y => y.1 = nI L.length ∧ WW y.2.1 y.2.2 (L ++ [BB b])) := by
  unfold f_by_open
  refine ok.b (pu_add hN h hl b) (fun y hy => ok.s ⟨h.1, hy⟩)
theorem cl_loop (hN : N < 2 ^ 31) {a h : Nat} (hh : h ≤ 3) (n v : Int32) : ∀ (m fu : Nat) (f : Nat → Int32), m < fu → a + 1 + m + h ≤ N → (∀ j, j < m → isb (f (a + 1 + j))) → ∃ F fu', j_by_close_64 fu f n N (nI a) v (nI h) (nI (a + 1 + m) + (-1)) = j_by_close_64 (fu' + 1) F n N (nI a) v (nI h) (nI a) ∧ (∀ j, j < a + 1 + h → F j = f j) ∧ (∀ j, a + 1 + h + m ≤ j → F j = f j) ∧ (∀ j, j < m → F (a + 1 + h + j) = f (a + 1 + j)) := by
  intro m
  induction m with
  | zero =>
    intro fu f hfu _ _
    obtain ⟨fu, rfl⟩ : ∃ g, fu = g + 1 := ⟨fu - 1, by omega⟩
    refine ⟨f, fu, ?_, fun _ _ => rfl, fun _ _ => rfl, fun j hj => absurd hj (by omega)⟩
    rw [Nat.add_zero, pk_m1]
  | succ m ih =>
    intro fu f hfu hb hi
    obtain ⟨fu, rfl⟩ : ∃ g, fu = g + 1 := ⟨fu - 1, by omega⟩
    have hup : ∀ j, j ≠ a + 1 + m + h → upd f (a + 1 + m + h) (f (a + 1 + m)) j = f j := fun j hj => pk_un hj
    obtain ⟨F, fu', e, e1, e2, e3⟩ := ih fu (upd f (a + 1 + m + h) (f (a + 1 + m))) (by omega) (by omega) (fun j hj => by rw [hup _ (by omega)]; exact hi j (by omega))
    refine ⟨F, fu', ?_, fun j hj => by rw [e1 j hj, hup _ (by omega)], fun j hj => by rw [e2 j (by omega), hup _ (by omega)], fun j hj => ?_⟩
    · rw [← e, j_by_close_64, show a + 1 + (m + 1) = a + 1 + m + 1 by omega, pk_m1, if_neg (nI_ge (by omega) (by omega)), chk_t (inN (by omega) (by omega)), nI_add, chk_t (inN (by omega) (by omega)), nI_clamp (by omega), nI_clamp (by omega), bnd_eq, bnd_eq, BB_of (hi m (by omega))]
    · by_cases hjm : j = m
      · subst hjm
        rw [e2 _ (by omega), show a + 1 + h + j = a + 1 + j + h by omega]
        exact pk_us
      · rw [e3 j (by omega), hup _ (by omega)]
theorem pu_close {f : Nat → Int32} {n : Int32} {L C : List Int32} {s : Int32} (hN : N ≤ 4000) (h : WW f n (L ++ [BB s] ++ C)) (hl : L.length + C.length + 4 ≤ N) : ok (f_by_close f n N (nI L.length)) (fun y => WW y.1 y.2 (L ++ itm s C)) := by
  obtain ⟨rfl, h⟩ := h
  have hLl : (L ++ [BB s] ++ C).length = L.length + 1 + C.length := by simp; omega
  rw [hLl]
  have hL1 := GG_l h
  have hL := GG_l hL1
  have hS := GG_hd (GG_r hL1)
  rw [Nat.zero_add] at hS
  have hC := GG_r h
  rw [Nat.zero_add, show (L ++ [BB s]).length = L.length + 1 by simp] at hC
  unfold f_by_close j_by_close_32
  rw [sub_n (by omega), show nI (L.length + 1 + C.length - L.length) - 1 = nI C.length from (by rw [show L.length + 1 + C.length - L.length = C.length + 1 by omega]; exact nI_pred _), bnd_eq, if_neg (nI_pos (by omega)), if_neg (nI_pos (by omega)), if_neg (nI_pos (by omega)), if_neg (nI_pos (by omega)), if_neg (nI_pos (by omega)), if_neg (nI_pos (by omega))]
  have key : ∀ (hd : Nat), hd ≤ 3 → hd = (lenB C.length).length → ok (if nI (L.length + 1 + C.length) + nI hd ≤ Int32.ofNat N then (bnd (nI (L.length + 1 + C.length) - 1) fun v4_7 => j_by_close_64 FU f (nI (L.length + 1 + C.length)) N (nI L.length) (nI C.length) (nI hd) v4_7) else some (f, nI (L.length + 1 + C.length))) (fun y => WW y.1 y.2 (L ++ itm s C)) := fun hd hd4 hdl => by
    obtain ⟨F, fu', e, e1, e2, e3⟩ := cl_loop (N := N) (by omega) hd4 (nI (L.length + 1 + C.length)) (nI C.length) C.length FU f (by unfold FU; omega) (by omega) (fun j hj => GG_at hC hj)
    have gL : GG F 0 L := GG_c hL (fun j hj => e1 _ (by omega))
    have gS : F L.length = BB s := by rw [e1 _ (by omega)]; exact hS.1
    have gC : GG F (L.length + 1 + hd) C := GG_c hC (fun j hj => e3 j hj)
    rw [nI_add, if_pos (show nI (L.length + 1 + C.length + hd) ≤ Int32.ofNat N from nI_le (by omega) (by omega)), bnd_eq, sub1, e, j_by_close_64, if_pos (Int32.le_refl _), bnd_eq, nI_add]
    unfold j_by_close_120
    rw [BB8, BB8, shr8 (by omega), BB8, nI_add, show (nI L.length + 2 : Int32) = nI (L.length + 2) from nI_add _ 2, nI_1, nI_clamp (by omega), nI_clamp (by omega), nI_clamp (by omega)]
    have hi1 : ¬ (nI (L.length + 1) < 0 ∨ N ≤ L.length + 1) := by rintro (q | q); exact nI_pos (by omega) q; omega
    have hi2 : ¬ (nI (L.length + 2) < 0 ∨ N ≤ L.length + 2) := by rintro (q | q); exact nI_pos (by omega) q; omega
    have hi3 : ¬ (nI (L.length + hd) < 0 ∨ N ≤ L.length + hd) := by rintro (q | q); exact nI_pos (by omega) q; omega
    unfold lenB at hdl
    unfold itm lenB
    by_cases c1 : C.length < 128
    · rw [if_pos c1] at hdl ⊢
      have : hd = 1 := hdl
      subst this
      rw [if_pos (show nI 1 ≤ 1 by decide), if_pos (show nI 1 ≤ 2 by decide), chk_t hi3, bnd_eq]
      refine ok.s ⟨by simp only [List.length_append, List.length_cons, List.length_nil]; rw [show L.length + (0 + 1 + C.length + 1) = L.length + 1 + C.length + 1 by omega], ?_⟩
      refine GG_app (GG_u gL (by omega)) ?_
      rw [Nat.zero_add]
      dsimp only
      exact GG_cons (by rw [pk_un (by omega)]; exact gS) (BB_b _) (GG_cons pk_us (BB_b _) (GG_u gC (by omega)))
    · rw [if_neg c1] at hdl ⊢
      by_cases c2 : C.length < 256
      · rw [if_pos c2] at hdl ⊢
        have : hd = 2 := hdl
        subst this
        rw [if_neg (show ¬ nI 2 ≤ 1 by decide), chk_t hi1, bnd_eq, if_pos (show nI 2 ≤ 2 by decide), chk_t hi3, bnd_eq, show BB (127 + nI 2) = BB 129 by decide]
        refine ok.s ⟨by simp only [List.length_append, List.length_cons, List.length_nil]; rw [show L.length + (0 + 1 + 1 + C.length + 1) = L.length + 1 + C.length + 2 by omega], ?_⟩
        refine GG_app (GG_u (GG_u gL (by omega)) (by omega)) ?_
        rw [Nat.zero_add]
        dsimp only
        exact GG_cons (by rw [pk_un (by omega), pk_un (by omega)]; exact gS) (BB_b _) (GG_cons (by rw [pk_un (by omega), pk_us]) (BB_b _) (GG_cons pk_us (BB_b _) (GG_u (GG_u gC (by omega)) (by omega))))
      · rw [if_neg c2] at hdl ⊢
        have : hd = 3 := hdl
        subst this
        rw [if_neg (show ¬ nI 3 ≤ 1 by decide), chk_t hi1, bnd_eq, if_neg (show ¬ nI 3 ≤ 2 by decide), chk_t hi2, bnd_eq, chk_t hi3, bnd_eq, show BB (127 + nI 3) = BB 130 by decide]
        refine ok.s ⟨by simp only [List.length_append, List.length_cons, List.length_nil]; rw [show L.length + (0 + 1 + 1 + 1 + C.length + 1) = L.length + 1 + C.length + 3 by omega], ?_⟩
        refine GG_app (GG_u (GG_u (GG_u gL (by omega)) (by omega)) (by omega)) ?_
        rw [Nat.zero_add]
        dsimp only
        exact GG_cons (by rw [pk_un (by omega), pk_un (by omega), pk_un (by omega)]; exact gS) (BB_b _) (GG_cons (by rw [pk_un (by omega), pk_un (by omega), pk_us]) (BB_b _) (GG_cons (by rw [pk_un (by omega), pk_us]) (BB_b _) (GG_cons pk_us (BB_b _) (GG_u (GG_u (GG_u gC (by omega)) (by omega)) (by omega)))))
  have hll := lenB_l C.length
  by_cases c1 : C.length < 128
  · rw [if_neg (show ¬ (128 : Int32) ≤ nI C.length from nI_ge (b := 128) c1 (by decide))]
    exact key 1 (by decide) (by rw [hll, if_pos c1])
  · rw [if_pos (show (128 : Int32) ≤ nI C.length from nI_le (a := 128) (by omega) (by omega))]
    by_cases c2 : C.length < 256
    · rw [if_neg (show ¬ (256 : Int32) ≤ nI C.length from nI_ge (b := 256) c2 (by decide))]
      exact key 2 (by decide) (by rw [hll, if_neg c1, if_pos c2])
    · rw [if_pos (show (256 : Int32) ≤ nI C.length from nI_le (a := 256) (by omega) (by omega))]
      exact key 3 (by decide) (by rw [hll, if_neg c1, if_neg c2])
end CW
