/-! PURE 34: singles of an answer -/
theorem lB_i {a : Nat} (h : a < 2 ^ 62) : (lN a).toInt = a := by rw [lN_ti (by omega), if_pos (by omega)]
theorem lB_lt {a b : Nat} (ha : a < 2 ^ 62) (hb : b < 2 ^ 62) : lN a < lN b ↔ a < b := by
  rw [Int64.lt_iff_toInt_lt, lB_i ha, lB_i hb]
  omega
theorem lB_le {a b : Nat} (ha : a < 2 ^ 62) (hb : b < 2 ^ 62) : lN a ≤ lN b ↔ a ≤ b := by
  rw [Int64.le_iff_toInt_le, lB_i ha, lB_i hb]
  omega
theorem lB_m1 {a : Nat} (ha : a < 2 ^ 62) : ¬ lN a = -1 := fun e => by
  have := congrArg Int64.toInt e
  rw [lB_i ha, show (-1 : Int64).toInt = -1 from rfl] at this
  omega
theorem lN_n0 {a : Nat} (ha : a < 2 ^ 62) (h : ¬ a = 0) : ¬ lN a ≤ 0 := fun e => by
  have := (lB_le ha (b := 0) (by decide)).mp e
  omega
def stL : Option (Option (Nat × Int32)) → List Int32
  | none => itm 130 []
  | some none => itm 128 []
  | some (some (t, r)) => itm 161 (encT t ++ itm 10 [BB r])
theorem stL_l (s : Option (Option (Nat × Int32))) : (stL s).length ≤ 26 := by
  match s with
  | none => exact Nat.le_trans (itm_le (n := 0) (Nat.le_refl _)) (by decide)
  | some none => exact Nat.le_trans (itm_le (n := 0) (Nat.le_refl _)) (by decide)
  | some (some (t, r)) =>
    have h1 := encT_l t
    have h2 := itm_le (s := 10) (show [BB r].length ≤ 1 from Nat.le_refl _)
    exact itm_le (n := 22) (by rw [List.length_append]; omega)
def nxL (t l : Nat) : List Int32 := if l = 0 then [] else itm 160 (encT (t + l))
theorem nxL_l (t l : Nat) : (nxL t l).length ≤ 21 := by
  unfold nxL
  split
  · exact Nat.zero_le _
  · exact itm_le (Nat.le_of_eq (encT_l _))
def snL (I S : List Int32) (t l : Nat) : List Int32 := itm 48 (I ++ S ++ encT t ++ nxL t l)
theorem snL_l {I S : List Int32} (hI : I.length ≤ 36) (hS : S.length ≤ 26) (t l : Nat) : (I ++ S ++ encT t ++ nxL t l).length ≤ 100 ∧ (snL I S t l).length ≤ 104 := by
  have h1 := encT_l t
  have h2 := nxL_l t l
  have h3 : (I ++ S ++ encT t ++ nxL t l).length ≤ 100 := by rw [List.length_append, List.length_append, List.length_append]; omega
  exact ⟨h3, itm_le h3⟩
theorem r215 {tp nm ns : Nat → Int32} {ky : Nat → Int64} {iss rS : Nat → Int32} {rT : Nat → Int64} {rR : Nat → Int32} {xh : Int64} {sw dr : Nat → Int32} {dl : Int32} {iN iK : Nat → Int32} {iS : Nat → Int64} {A C : List Int32} (h : WW dr dl (A ++ C)) {t l : Nat} (ht : t + l < 3155760000) (hl1 : A.length + C.length + 50 ≤ 4000) : ok (j_laySingle_215 tp nm ns ky iss rS rT rR xh sw dr dl iN iK iS (lN t) (lN l) (nI A.length)) (fun y => WW y.2.2.1 y.2.2.2 (A ++ itm 48 (C ++ encT t ++ nxL t l))) := by
  have e1 := encT_l t
  have e2 := nxL_l t l
  unfold j_laySingle_215
  refine ok.b (p_layTime (t := t) (by omega) sw h (by rw [List.length_append]; omega)) (fun y25 g25 => ?_)
  unfold nxL at e2 ⊢
  by_cases h0 : l = 0
  · subst h0
    rw [if_pos (by decide)]
    rw [List.append_assoc] at g25
    refine ok.b (p_wrap g25 (by rw [List.length_append]; omega) 48) (fun y27 g27 => ok.s ?_)
    rw [if_pos rfl, List.append_nil]
    exact g27
  · rw [if_neg h0] at e2
    rw [if_neg (show ¬ lN l ≤ 0 from lN_n0 (by omega) h0), bnd_eq, lN_add, if_neg h0]
    refine ok.b (p_layTime (t := t + l) (by omega) y25.1 g25 (by rw [List.length_append, List.length_append]; omega)) (fun y29 g29 => ?_)
    rw [g25.1]
    refine ok.b (p_wrap g29 (by rw [List.length_append, List.length_append, encT_l, encT_l]; omega) 160) (fun y30 g30 => ?_)
    rw [List.append_assoc, List.append_assoc] at g30
    refine ok.b (p_wrap g30 (by rw [List.length_append, List.length_append]; omega) 48) (fun y31 g31 => ok.s ?_)
    rw [← List.append_assoc] at g31
    exact g31

/-! the state of a serial: both sides -/
section ST
variable {tp nm ns : Nat → Int32} {ky : Nat → Int64} {iss rS : Nat → Int32} {rT : Nat → Int64} {rR : Nat → Int32} {iN iK : Nat → Int32} {iS : Nat → Int64} {cnt : Int32} {KH NH : Nat → Int64} {SE : Nat → Int32} {kh nh : Int64} {S : Nat → Int32} {T : Nat → Int64} {R : Nat → Int32} {k m t l : Nat}
/-- what both sides write at the place c (class), r (reference) -/
def stG (tp nm ns : Nat → Int32) (ky : Nat → Int64) (iss rS : Nat → Int32) (rT : Nat → Int64) (rR : Nat → Int32) (iN iK : Nat → Int32) (iS : Nat → Int64) (cnt : Int32) (KH NH : Nat → Int64) (SE : Nat → Int32) (kh nh : Int64) (S : Nat → Int32) (T : Nat → Int64) (R : Nat → Int32) (m t l : Nat) (c r : Int32) (X : List Int32) : Prop := X.length ≤ 26 ∧ (∀ (o : Nat → Int32) (n : Int32) (L : List Int32), WW o n L → L.length + 30 ≤ 1500 → ok (j_de_writeState_46 cnt KH NH SE o n (nI m) kh nh R S T (lN t) c) (fun y => WW y.1 y.2 (L ++ X))) ∧ (∀ (xh : Int64) (sw dr : Nat → Int32) (dl : Int32) (A C : List Int32), WW dr dl (A ++ C) → A.length + C.length + 90 ≤ 4000 → ok (j_laySingle_120 tp nm ns ky iss rS rT rR xh sw dr dl iN iK iS (lN t) (lN l) (nI A.length) r) (fun y => WW y.2.2.1 y.2.2.2 (A ++ itm 48 (C ++ X ++ encT t ++ nxL t l))))
theorem w_empty {o : Nat → Int32} {n : Int32} {L : List Int32} (h : WW o n L) (hl : L.length + 30 ≤ 1500) (b : Int32) : ok ((f_by_open o n 1500 b).bind fun y_17 => (f_by_close y_17.2.1 y_17.2.2 1500 y_17.1).bind fun y_18 => some (y_18.1, y_18.2)) (fun y => WW y.1 y.2 (L ++ itm b [])) := by
  refine ok.b (pu_open (by decide) h (by omega) b) (fun y17 g17 => ?_)
  rw [g17.1]
  have q := pu_close (N := 1500) (C := []) (by decide) (by rw [List.append_nil]; exact g17.2) (by rw [List.length_nil]; omega)
  exact ok.b q (fun y18 g18 => ok.s g18)
theorem r_empty {dr : Nat → Int32} {dl : Int32} {A C : List Int32} (h : WW dr dl (A ++ C)) (hl : A.length + C.length + 90 ≤ 4000) (b : Int32) (ht : t + l < 3155760000) (xh : Int64) (sw : Nat → Int32) : ok ((f_wrap dr dl dl b).bind fun y_24 => j_laySingle_215 tp nm ns ky iss rS rT rR xh sw y_24.1 y_24.2 iN iK iS (lN t) (lN l) (nI A.length)) (fun y => WW y.2.2.1 y.2.2.2 (A ++ itm 48 (C ++ itm b [] ++ encT t ++ nxL t l))) := by
  have q := p_wrap (L := A ++ C) (C := []) (by rw [List.append_nil]; exact h) (by rw [List.length_append, List.length_nil]; omega) b
  rw [← h.1] at q
  refine ok.b q (fun y g => ?_)
  rw [List.append_assoc] at g
  have hb := itm_le (s := b) (show ([] : List Int32).length ≤ 0 from Nat.le_refl _)
  exact r215 g ht (by rw [List.length_append]; omega)
theorem st_no (ht : t + l < 3155760000) : stG tp nm ns ky iss rS rT rR iN iK iS cnt KH NH SE kh nh S T R m t l (-1) (-1) (itm 130 []) := by
  refine ⟨stL_l none, fun o n L h hl => ?_, fun xh sw dr dl A C h hl => ?_⟩
  · unfold j_de_writeState_46
    rw [if_pos rfl]
    exact w_empty h hl 130
  · unfold j_laySingle_120
    rw [if_pos rfl]
    exact r_empty h hl 130 ht xh sw
theorem st_at (hk : k < 4) (h : TB k m S T R rS rT rR) {p : Nat} (hp : p < m) (ht : t + l < 3155760000) : ∃ X, stG tp nm ns ky iss rS rT rR iN iK iS cnt KH NH SE kh nh S T R m t l (nI p) (nI (32 * k + p)) X := by
  obtain ⟨hm, h1, h2⟩ := h
  obtain ⟨e1, e2, e3⟩ := h1 p hp
  have tk : f_au_isTakenBack (nI m) T (nI p) (lN t) = (if T p = -1 then some 0 else if lN t < T p then some 0 else some 1) := by
    unfold f_au_isTakenBack
    rw [if_neg (nI_pos (by omega)), if_neg (nI_ge hp (by omega)), chk_t (inN (by omega) (by omega)), nI_clamp (by omega)]
  have hn1 : ¬ nI p = -1 := fun e => by
    have := nI_pos (n := p) (by omega)
    rw [e] at this
    exact this (by decide)
  have hn2 : ¬ nI (32 * k + p) = -1 := fun e => by
    have := nI_pos (n := 32 * k + p) (by omega)
    rw [e] at this
    exact this (by decide)
  by_cases hb : T p = -1 ∨ lN t < T p
  · refine ⟨itm 128 [], stL_l (some none), fun o n L h hl => ?_, fun xh sw dr dl A C h hl => ?_⟩
    · unfold j_de_writeState_46
      rw [if_neg hn1, tk, show (if T p = -1 then some (0 : Int32) else if lN t < T p then some 0 else some 1) = some 0 by rcases hb with q | q <;> simp [q], Option.bind_some, if_pos rfl]
      exact w_empty h hl 128
    · unfold j_laySingle_120
      rw [if_neg hn2, chk_t (inN (by omega) (by omega)), nI_clamp (by omega), e2]
      by_cases hq : T p = -1
      · rw [if_pos hq]
        exact r_empty h hl 128 ht xh sw
      · rw [if_neg hq, if_pos (by rcases hb with q | q; exact absurd q hq; exact q)]
        exact r_empty h hl 128 ht xh sw
  · have hq : ¬ T p = -1 := fun q => hb (Or.inl q)
    have hq2 : ¬ lN t < T p := fun q => hb (Or.inr q)
    obtain ⟨e4, ⟨C0, hC0, e5⟩, V, hV, e6⟩ := e3 hq
    have el := encT_l V
    have cl := itm_le (s := 10) (show [BB (nI C0)].length ≤ 1 from Nat.le_refl _)
    refine ⟨itm 161 (encT V ++ itm 10 [BB (nI C0)]), stL_l (some (some (V, nI C0))), fun o n L h hl => ?_, fun xh sw dr dl A C h hl => ?_⟩
    · unfold j_de_writeState_46
      rw [if_neg hn1, tk, if_neg hq, if_neg hq2, Option.bind_some, if_neg i10]
      refine ok.b (pu_open (by decide) h (by omega) 161) (fun y10 g10 => ?_)
      rw [bnd_eq, chk_t (inN (by omega) (by omega)), nI_clamp (by omega), e6, e5, g10.1]
      refine ok.b (pu_addTime (by decide) hV g10.2 (by rw [List.length_append, List.length_singleton]; omega)) (fun y13 g13 => ?_)
      rw [chk_t (by rintro (q | q); exact nI_pos (by omega) q; omega)]
      refine ok.b (pu_addCode (by decide) (nI C0) g13 (by rw [List.length_append, List.length_append, List.length_singleton]; omega)) (fun y15 g15 => ?_)
      rw [List.append_assoc (L ++ [BB 161])] at g15
      refine ok.b (pu_close (by decide) g15 (by rw [List.length_append]; omega)) (fun y16 g16 => ok.s g16)
    · unfold j_laySingle_120
      rw [if_neg hn2, chk_t (inN (by omega) (by omega)), nI_clamp (by omega), e2, if_neg hq, if_neg hq2, e6]
      refine ok.b (p_layTime hV sw h (by rw [List.length_append]; omega)) (fun y20 g20 => ?_)
      rw [chk_t (by rintro (q | q); exact nI_pos (by omega) q; omega), e4, e5]
      refine ok.b (p_layCode (nI C0) g20 (by rw [List.length_append, List.length_append]; omega)) (fun y22 g22 => ?_)
      rw [List.append_assoc (A ++ C)] at g22
      rw [h.1]
      refine ok.b (p_wrap g22 (by rw [List.length_append, List.length_append]; omega) 161) (fun y23 g23 => ?_)
      rw [List.append_assoc] at g23
      have hb := itm_le (s := 161) (show (encT V ++ itm 10 [BB (nI C0)]).length ≤ 22 by rw [List.length_append]; omega)
      exact r215 g23 ht (by rw [List.length_append]; omega)
theorem st_of (hk : k < 4) (h : TB k m S T R rS rT rR) (hr : iss k = nI m) (ht : t + l < 3155760000) (s : Int32) : ∃ c r X, f_au_placeOf (nI m) S s = some c ∧ f_find iss rS (nI k) s.toInt64 = some r ∧ stG tp nm ns ky iss rS rT rR iN iK iS cnt KH NH SE kh nh S T R m t l c r X := by
  rcases place hk h hr s with ⟨a1, a2, a3⟩ | ⟨p, a1, a2, a3, a4⟩
  · exact ⟨_, _, _, a1, a2, st_no ht⟩
  · obtain ⟨X, hX⟩ := st_at (tp := tp) (nm := nm) (ns := ns) (ky := ky) (iss := iss) (iN := iN) (iK := iK) (iS := iS) (cnt := cnt) (KH := KH) (NH := NH) (SE := SE) (kh := kh) (nh := nh) (l := l) hk h a1 ht
    exact ⟨_, _, X, a3, a4, hX⟩
end ST
