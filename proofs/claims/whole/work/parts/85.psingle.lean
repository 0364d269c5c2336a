/-! PURE 35: is an id of this authority; one single -/
theorem sn_of {v : Int64} (h : (0 : Int64) ≤ v ∧ v ≤ 2147483647) : ∃ V : Nat, V < 2 ^ 31 ∧ v = lN V := by
  obtain ⟨V, hV, rfl⟩ := tm_of ⟨h.1, Int64.le_trans h.2 (by decide)⟩
  exact ⟨V, by have := (lB_le (a := V) (b := 2147483647) (by omega) (by decide)).mp h.2; omega, rfl⟩
theorem p_isOf {f nm ns : Nat → Int32} {ky : Nat → Int64} {iN iK : Nat → Int32} {j k a b : Nat} (hj : j < 8) (hk : k < 4) {A : List Int32} (hA : GG nm (16 * k) A) (hA16 : A.length ≤ 16) (hns : ns k = nI A.length) (h1 : iN j = nI a) (h2 : iK j = nI b) (ha : a + 8 ≤ 1500) (hb : b + 8 ≤ 1500) (xh : Int64) : ok (f_isOf f nm ns ky xh iN iK (nI j) (nI k)) (fun y => y.1 = if nb f 0 a 8 = hl A ∧ nb f 0 b 8 = hE (hL h0 (ky k)) then 1 else 0) := by
  have c8 : ¬ (nI j < 0 ∨ 8 ≤ (nI j).toNatClampNeg) := inN hj (by omega)
  have c4 : ¬ (nI k < 0 ∨ 4 ≤ (nI k).toNatClampNeg) := inN hk (by omega)
  unfold f_isOf
  rw [chk_t c8, chk_t c4, nI_clamp (n := k) (by omega), hns, show (16 : Int32) * nI k = nI (16 * k) from pk_mul 16 k, nI_add, p_hashOf hA (by omega) (by decide) (by unfold FU; omega), Option.bind_some]
  dsimp only
  rw [nI_clamp (n := j) (by omega), h1, p_isHash ha, Option.bind_some]
  by_cases q1 : nb f 0 a 8 = hl A
  · rw [if_pos q1, if_neg i10, chk_t (by rintro (q | q); exact nI_pos (by omega) q; omega), chk_t (by rintro (q | q); exact nI_pos (by omega) q; omega), p_hashOfKey, Option.bind_some]
    dsimp only
    rw [h2, p_isHash hb, Option.bind_some]
    by_cases q2 : nb f 0 b 8 = hE (hL h0 (ky k))
    · rw [if_pos q2, if_neg i10]
      exact ok.s (by rw [if_pos ⟨q1, q2⟩])
    · rw [if_neg q2, if_pos rfl]
      exact ok.s (by rw [if_neg (fun q => q2 q.2)])
  · rw [if_neg q1, if_pos rfl]
    exact ok.s (by rw [if_neg (fun q => q1 q.1)])
theorem u_isOf {KH NH : Nat → Int64} {w j : Nat} (hj : j < w) (hw : w ≤ 8) (nh kh : Int64) : f_id_isOf (nI w) KH NH (nI j) nh kh = some (if NH j = nh ∧ KH j = kh then 1 else 0) := by
  have c8 : ¬ (nI j < 0 ∨ 8 ≤ (nI j).toNatClampNeg) := inN (by omega) (by omega)
  unfold f_id_isOf
  rw [if_neg (nI_pos (by omega)), if_neg (nI_ge hj (by omega)), chk_t c8, nI_clamp (by omega)]
  by_cases q1 : NH j = nh
  · rw [if_pos q1, chk_t (by rintro (q | q); exact nI_pos (by omega) q; omega)]
    by_cases q2 : KH j = kh
    · rw [if_pos q2, if_pos ⟨q1, q2⟩]
    · rw [if_neg q2, if_neg (fun q => q2 q.2)]
  · rw [if_neg q1, if_neg (fun q => q1 q.1)]
def nxt (t l : Nat) : Int64 := if l = 0 then -1 else lN (t + l)
section SN
variable {f nm ns : Nat → Int32} {ky : Nat → Int64} {iss rS : Nat → Int32} {rT : Nat → Int64} {rR : Nat → Int32} {iN iK : Nat → Int32} {iS : Nat → Int64} {KH NH : Nat → Int64} {SE : Nat → Int32} {kh nh : Int64} {S : Nat → Int32} {T : Nat → Int64} {R : Nat → Int32} {k m t l w : Nat}
def snG (f nm ns : Nat → Int32) (ky : Nat → Int64) (iss rS : Nat → Int32) (rT : Nat → Int64) (rR : Nat → Int32) (iN iK : Nat → Int32) (iS : Nat → Int64) (KH NH : Nat → Int64) (SE : Nat → Int32) (kh nh : Int64) (S : Nat → Int32) (T : Nat → Int64) (R : Nat → Int32) (k m t l w j : Nat) (X : List Int32) : Prop := X.length ≤ 104 ∧ (∀ (o : Nat → Int32) (n : Int32) (L : List Int32), WW o n L → L.length + 130 ≤ 1500 → ok (f_de_writeSingle (nI w) KH NH SE o n (nI m) kh nh R S T (nI j) (lN t) (nxt t l)) (fun y => WW y.1 y.2 (L ++ X))) ∧ (∀ (xh : Int64) (sw dr : Nat → Int32) (dl : Int32) (A : List Int32), WW dr dl A → A.length + 140 ≤ 4000 → ok (f_laySingle f nm ns ky iss rS rT rR xh sw dr dl iN iK iS (nI j) (nI k) (lN t) (lN l)) (fun y => WW y.2.2.1 y.2.2.2 (A ++ X)))
theorem one {d : Nat × Nat × Int64} (hf : TP f) (hk : k < 4) (hT : TB k m S T R rS rT rR) (hr : iss k = nI m) (ht : t + l < 3155760000) {A : List Int32} (hA : GG nm (16 * k) A) (hA16 : A.length ≤ 16) (hns : ns k = nI A.length) (hnh : nh = hl A) (hkh : kh = hE (hL h0 (ky k))) {j : Nat} (hj : j < w) (hw : w ≤ 8) (hd : idb 1500 d) (h1 : iN j = nI d.1) (h2 : iK j = nI d.2.1) (h3 : iS j = d.2.2) (g1 : NH j = nb f 0 d.1 8) (g2 : KH j = nb f 0 d.2.1 8) (g3 : SE j = d.2.2.toInt32) : ∃ X, snG f nm ns ky iss rS rT rR iN iK iS KH NH SE kh nh S T R k m t l w j X := by
  obtain ⟨d1, d2, d3, d4⟩ := hd
  obtain ⟨V, hV, e⟩ := sn_of ⟨d3, d4⟩
  rw [e] at h3
  rw [e, lN_i] at g3
  obtain ⟨b1, b2, b3, b4, b5⟩ := id_in (nb f 0 d.1 8) (nb f 0 d.2.1 8) V
  have c8 : ¬ (nI j < 0 ∨ 8 ≤ (nI j).toNatClampNeg) := inN (by omega) (by omega)
  -- the state
  have hs : ∃ X, X.length ≤ 26 ∧ (∀ (o : Nat → Int32) (n : Int32) (L : List Int32), WW o n L → L.length + 30 ≤ 1500 → ok (f_de_writeState (nI w) KH NH SE o n (nI m) kh nh R S T (nI j) (lN t)) (fun y => WW y.1 y.2 (L ++ X))) ∧ (∀ (xh : Int64) (sw dr : Nat → Int32) (dl : Int32) (A C : List Int32), WW dr dl (A ++ C) → A.length + C.length + 90 ≤ 4000 → ok ((f_isOf f nm ns ky xh iN iK (nI j) (nI k)).bind fun y_11 => if y_11.1 = 0 then (j_laySingle_120 f nm ns ky iss rS rT rR y_11.2 sw dr dl iN iK iS (lN t) (lN l) (nI A.length) (-1)) else ((f_find iss rS (nI k) (iS (nI j).toNatClampNeg)).bind fun y_13 => j_laySingle_120 f nm ns ky iss rS rT rR y_11.2 sw dr dl iN iK iS (lN t) (lN l) (nI A.length) y_13)) (fun y => WW y.2.2.1 y.2.2.2 (A ++ itm 48 (C ++ X ++ encT t ++ nxL t l)))) := by
    have hi := fun xh => p_isOf (f := f) (ky := ky) (show j < 8 by omega) hk hA hA16 hns h1 h2 d1 d2 xh
    have hu := u_isOf (KH := KH) (NH := NH) hj hw nh kh
    rw [g1, g2, hnh, hkh] at hu
    unfold f_de_writeState
    rw [hnh, hkh, hu, nI_clamp (by omega), h3, g3]
    by_cases ho : nb f 0 d.1 8 = hl A ∧ nb f 0 d.2.1 8 = hE (hL h0 (ky k))
    · obtain ⟨c, r, X, q1, q2, q3, q4, q5⟩ := st_of (tp := f) (nm := nm) (ns := ns) (ky := ky) (iss := iss) (iN := iN) (iK := iK) (iS := iS) (cnt := nI w) (KH := KH) (NH := NH) (SE := SE) (kh := hE (hL h0 (ky k))) (nh := hl A) (l := l) (t := t) hk hT hr ht (nI V)
      rw [nI_l hV] at q2
      refine ⟨X, q3, fun o n L h hl => ?_, fun xh sw dr dl A C h hl => ?_⟩
      · rw [if_pos ho, Option.bind_some, if_neg i10, chk_t (by rintro (q | q); exact nI_pos (by omega) q; omega), q1, Option.bind_some]
        exact q4 o n L h hl
      · refine ok.b (hi xh) (fun y11 g11 => ?_)
        rw [g11, if_pos ho, if_neg i10, q2, Option.bind_some]
        exact q5 _ sw dr dl A C h hl
    · obtain ⟨q3, q4, q5⟩ := st_no (tp := f) (nm := nm) (ns := ns) (ky := ky) (iss := iss) (rS := rS) (rT := rT) (rR := rR) (iN := iN) (iK := iK) (iS := iS) (cnt := nI w) (KH := KH) (NH := NH) (SE := SE) (kh := hE (hL h0 (ky k))) (nh := hl A) (S := S) (T := T) (R := R) (m := m) (l := l) (t := t) ht
      refine ⟨_, q3, fun o n L h hl => ?_, fun xh sw dr dl A C h hl => ?_⟩
      · rw [if_neg ho, Option.bind_some, if_pos rfl]
        exact q4 o n L h hl
      · refine ok.b (hi xh) (fun y11 g11 => ?_)
        rw [g11, if_neg ho, if_pos rfl]
        exact q5 _ sw dr dl A C h hl
  obtain ⟨X, x1, x2, x3⟩ := hs
  obtain ⟨l1, l2⟩ := snL_l b5 x1 t l
  refine ⟨snL (idL (nb f 0 d.1 8) (nb f 0 d.2.1 8) V) X t l, l2, fun o n L h hl => ?_, fun xh sw dr dl A h hl => ?_⟩
  · have te := encT_l t
    have hnx := nxL_l t l
    unfold f_de_writeSingle
    refine ok.b (pu_open (by decide) h (by omega) 48) (fun y1 p1 => ?_)
    rw [bnd_eq, p1.1]
    refine ok.b (pu_addId (by decide) hj hw hV g1 g2 g3 p1.2 (by rw [List.length_append, List.length_singleton]; omega)) (fun y3 p3 => ?_)
    refine ok.b (x2 _ _ _ p3 (by rw [List.length_append, List.length_append, List.length_singleton]; omega)) (fun y4 p4 => ?_)
    refine ok.b (pu_addTime (by decide) (t := t) (by omega) p4 (by rw [List.length_append, List.length_append, List.length_append, List.length_singleton]; omega)) (fun y5 p5 => ?_)
    rw [List.append_assoc (L ++ [BB 48]), List.append_assoc (L ++ [BB 48])] at p5
    unfold snL
    unfold nxt
    unfold nxL at hnx l1 ⊢
    by_cases h0 : l = 0
    · rw [if_pos h0, List.append_nil] at l1
      rw [if_pos h0, if_pos rfl, if_pos h0, List.append_nil]
      exact ok.b (pu_close (by decide) p5 (by omega)) (fun y p => ok.s p)
    · rw [if_neg h0] at hnx l1
      rw [if_neg h0, if_neg (lB_m1 (by omega)), if_neg h0]
      rw [List.length_append] at l1
      refine ok.b (pu_open (by decide) p5 (by rw [List.length_append, List.length_append, List.length_singleton]; omega) 160) (fun y8 p8 => ?_)
      rw [bnd_eq, p8.1]
      refine ok.b (pu_addTime (by decide) (t := t + l) (by omega) p8.2 (by rw [List.length_append, List.length_append, List.length_append, List.length_singleton, List.length_singleton]; omega)) (fun y10 p10 => ?_)
      have tl := encT_l (t + l)
      refine ok.b (pu_close (by decide) p10 (by rw [List.length_append, List.length_append, List.length_singleton]; omega)) (fun y11 p11 => ?_)
      rw [List.append_assoc (L ++ [BB 48])] at p11
      exact ok.b (pu_close (by decide) p11 (by rw [List.length_append]; omega)) (fun y p => ok.s p)
  · have s8 : ∀ a, (sl f a 8).length = 8 := sl_l f 8
    have i4 : ∀ a, (itm 4 (sl f a 8)).length ≤ 12 := fun a => itm_le (Nat.le_of_eq (s8 a))
    have r1 := i4 d.1
    have r2 := i4 d.2.1
    have ib : ∀ a j, j < 8 → isb (f (a + j)) := fun a j _ => hf _
    unfold f_laySingle
    rw [chk_t c8, nI_clamp (n := j) (by omega), h1, show (nI d.1 + 8 : Int32) = nI (d.1 + 8) from nI_add _ 8]
    refine ok.b (p_layRow (by decide) (by unfold FU; omega) d1 (ib d.1) h (by omega)) (fun y2 p2 => ?_)
    rw [h.1]
    refine ok.b (p_wrap p2 (by rw [s8]; omega) 4) (fun y3 p3 => ?_)
    rw [bnd_eq, chk_t (by rintro (q | q); exact nI_pos (by omega) q; omega), h2, show (nI d.2.1 + 8 : Int32) = nI (d.2.1 + 8) from nI_add _ 8]
    refine ok.b (p_layRow (by decide) (by unfold FU; omega) d2 (ib d.2.1) p3 (by rw [List.length_append]; omega)) (fun y6 p6 => ?_)
    rw [p3.1]
    refine ok.b (p_wrap p6 (by rw [s8, List.length_append]; omega) 4) (fun y7 p7 => ?_)
    rw [chk_t (by rintro (q | q); exact nI_pos (by omega) q; omega), h3]
    refine ok.b (p_layInt hV p7 (by rw [List.length_append, List.length_append]; omega)) (fun y9 p9 => ?_)
    have p9' : WW y9.1 y9.2 (A ++ (itm 4 (hbl (nb f 0 d.1 8) 8) ++ itm 4 (hbl (nb f 0 d.2.1 8) 8) ++ encI V)) := by
      rw [hbl_nb hf, hbl_nb hf, ← List.append_assoc, ← List.append_assoc]
      exact p9
    refine ok.b (p_wrap p9' (by omega) 48) (fun y10 p10 => ?_)
    have hx := x3 xh sw y10.1 y10.2 A _ p10 (by unfold idL at b5; omega)
    rw [nI_clamp (n := j) (by omega), h3] at hx
    exact hx
end SN
