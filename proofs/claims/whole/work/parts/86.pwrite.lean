/-! PURE 36: the class writes an answer -/
def catL (X : Nat → List Int32) : Nat → Nat → List Int32
  | _, 0 => []
  | j, m + 1 => X j ++ catL X (j + 1) m
theorem cat_l {X : Nat → List Int32} {w b : Nat} (h : ∀ j, j < w → (X j).length ≤ b) : ∀ m j, j + m ≤ w → (catL X j m).length ≤ b * m := by
  intro m
  induction m with
  | zero => intro j _; exact Nat.zero_le _
  | succ m ih =>
    intro j hj
    have h1 := h j (by omega)
    have h2 := ih (j + 1) (by omega)
    rw [catL, List.length_append, Nat.mul_succ]
    omega
def bdL (Te : List Int32) (t : Nat) (X Nn : List Int32) : List Int32 := itm 48 (Te ++ encT t ++ itm 48 X ++ Nn)
def anL (B : List Int32) (x : Nat) (Ct : List Int32) : List Int32 := itm 48 (itm 10 [BB 0] ++ itm 160 (itm 48 (B ++ sigL x (hl B) ++ Ct)))
def Q1 : List Int32 := [] ++ [BB 48] ++ itm 10 [BB 0]
def Q2 : List Int32 := Q1 ++ [BB 160]
def Q3 : List Int32 := Q2 ++ [BB 48]
theorem Q_l : Q1.length = 4 ∧ Q2.length = 5 ∧ Q3.length = 6 := by decide
theorem close3 {o : Nat → Int32} {n : Int32} {B : List Int32} {x : Nat} {Ct : List Int32} (h : WW o n (Q3 ++ B ++ sigL x (hl B) ++ Ct)) (hb : B.length + Ct.length + 40 ≤ 1500) : ok ((f_by_close o n 1500 (nI 5)).bind fun y_29 => (f_by_close y_29.1 y_29.2 1500 (nI 4)).bind fun y_30 => (f_by_close y_30.1 y_30.2 1500 (nI 0)).bind fun y_31 => some (y_31.1, y_31.2)) (fun y => WW y.1 y.2 (anL B x Ct)) := by
  have sl1 := sig_l x (hl B)
  have c10 := itm_le (s := 10) (show [BB 0].length ≤ 1 from Nat.le_refl _)
  generalize hG : sigL x (hl B) = G at *
  have h1 : WW o n (Q2 ++ [BB 48] ++ (B ++ G ++ Ct)) := by
    rw [← List.append_assoc, ← List.append_assoc]
    exact h
  have b1 : (B ++ G ++ Ct).length ≤ 1500 - 27 := by rw [List.length_append, List.length_append]; omega
  have q1 := pu_close (N := 1500) (by decide) h1 (by rw [Q_l.2.1]; omega)
  rw [Q_l.2.1] at q1
  refine ok.b q1 (fun y1 g1 => ?_)
  have b2 := itm_le (s := 48) b1
  have h2 : WW y1.1 y1.2 (Q1 ++ [BB 160] ++ itm 48 (B ++ G ++ Ct)) := g1
  have q2 := pu_close (N := 1500) (by decide) h2 (by rw [Q_l.1]; omega)
  rw [Q_l.1] at q2
  refine ok.b q2 (fun y2 g2 => ?_)
  have b3 := itm_le (s := 160) b2
  have h3 : WW y2.1 y2.2 ([] ++ [BB 48] ++ (itm 10 [BB 0] ++ itm 160 (itm 48 (B ++ G ++ Ct)))) := by
    rw [← List.append_assoc]
    exact g2
  have q3 := pu_close (N := 1500) (L := []) (by decide) h3 (by rw [List.length_nil, List.length_append]; omega)
  rw [show nI ([] : List Int32).length = nI 0 from rfl] at q3
  refine ok.b q3 (fun y3 g3 => ok.s ?_)
  rw [List.nil_append] at g3
  unfold anL
  rw [hG]
  exact g3

section WN
variable {f nm ns : Nat → Int32} {ky : Nat → Int64} {iss rS : Nat → Int32} {rT : Nat → Int64} {rR : Nat → Int32} {iN iK : Nat → Int32} {iS : Nat → Int64} {KH NH : Nat → Int64} {SE : Nat → Int32} {kh nh : Int64} {S : Nat → Int32} {T : Nat → Int64} {R : Nat → Int32} {k m t l w n : Nat} {np nz : Int32} {v : Nat × Nat} {X : Nat → List Int32}
variable {nd : Nat → Int32} {nl se : Int32}
theorem w164_n1 {x : Nat} (hse : se = nI x) (hx : x < QQ) {o : Nat → Int32} {n0 : Int32} {C : List Int32} (h : WW o n0 (Q3 ++ [BB 48] ++ C)) (hb : C.length + 200 ≤ 1500) : ok (j_de_writeAnswer_n1_164 (nI w) KH NH SE np nz o n0 f (nI n) (nI m) kh nd nl nh R se S T (nI 0) (nI 4) (nI 5) (nI 6)) (fun y => WW y.1 y.2 (anL (itm 48 C) x [])) := by
  have cl := itm_le (s := 48) (Nat.le_refl C.length)
  have gl := sig_l x (hl (itm 48 C))
  subst hse
  unfold j_de_writeAnswer_n1_164 j_de_writeAnswer_n1_188
  have q := pu_close (N := 1500) (by decide) h (by rw [Q_l.2.2]; omega)
  rw [Q_l.2.2] at q
  refine ok.b q (fun y21 g21 => ?_)
  have qs := fun {α : Type} {K : (Nat → Int32) × Int32 → Option α} {R : α → Prop} hk => pu_sig (x := x) hx (N := 1500) (by decide) (K := K) (R := R) g21 (by rw [Q_l.2.2]; omega) hk
  rw [Q_l.2.2] at qs
  refine qs (fun y24 g24 => ?_)
  unfold j_de_writeAnswer_n1_262
  refine close3 (Ct := []) ?_ (by rw [List.length_nil]; omega)
  rw [List.append_nil]
  exact g24
theorem w88_n1 {x : Nat} (hse : se = nI x) (hx : x < QQ) (hw : w ≤ 8) (hX : ∀ j, j < w → snG f nm ns ky iss rS rT rR iN iK iS KH NH SE kh nh S T R k m t l w j (X j)) (hv : nob n v) (hno : NoR v np nz) (hf : TP f) (hn : n ≤ 1500) {Te : List Int32} (hTe : Te.length ≤ 30) : ∀ (i j fu : Nat) (o : Nat → Int32) (n0 : Int32) (I : List Int32), i < fu → j + i = w → WW o n0 (Q3 ++ [BB 48] ++ Te ++ encT t ++ [BB 48] ++ I) → I.length + 104 * i ≤ 832 → ok (j_de_writeAnswer_n1_88 fu (nI w) KH NH SE np nz o n0 f (nI n) (nI m) kh nd nl nh R se S T (lN t) (nxt t l) (nI 0) (nI 4) (nI 5) (nI 6) (nI (Q3 ++ [BB 48] ++ Te ++ encT t).length) (nI j)) (fun y => WW y.1 y.2 (anL (bdL Te t (I ++ catL X j i) (nonL 163 (sl f v.1 (v.2 - v.1)))) x [])) := by
  have te := encT_l t
  have hP : (Q3 ++ [BB 48] ++ Te ++ encT t).length ≤ 54 := by rw [List.length_append, List.length_append, List.length_append, Q_l.2.2, List.length_singleton]; omega
  intro i
  induction i with
  | zero =>
    intro j fu o n0 I hfu hj h hl
    obtain ⟨fu, rfl⟩ : ∃ g, fu = g + 1 := ⟨fu - 1, by omega⟩
    have hi := itm_le (s := 48) (show I.length ≤ 832 by omega)
    rw [j_de_writeAnswer_n1_88, if_pos (nI_le (by omega) (by omega)), catL, List.append_nil]
    refine ok.b (pu_close (by decide) h (by omega)) (fun y16 g16 => ?_)
    have hs := sl_l f (v.2 - v.1) v.1
    have g17 : WW y16.1 y16.2 (Q3 ++ [BB 48] ++ (Te ++ encT t ++ itm 48 I)) := by
      rw [← List.append_assoc, ← List.append_assoc]
      exact g16
    have b17 : (Te ++ encT t ++ itm 48 I).length ≤ 890 := by rw [List.length_append, List.length_append]; omega
    unfold bdL nonL
    obtain ⟨n1, n2⟩ := hno
    rw [hs, n1]
    rcases hv with rfl | ⟨v1, v2, v3, v4⟩
    · rw [if_pos (by decide), if_pos (by decide), List.append_nil]
      exact w164_n1 hse hx g17 (by omega)
    · have n3 : np = nI v.1 := by
        rcases n2 with e | e
        · rw [e] at v1; exact absurd v1 (by decide)
        · exact e
      rw [if_neg (nI_nle (by omega) (by omega)), if_neg (by omega), n3]
      have ht := pu_tagged (N := 1500) (Ng := 1500) (M := n) (a := v.1) (c := v.2 - v.1) (by decide) hn (by omega) (by omega) (by unfold FU; omega) (fun j _ => hf _) 3 g17 (by rw [List.length_append, List.length_append, Q_l.2.2, List.length_singleton]; omega)
      rw [show (160 : Int32) + 3 = 163 from rfl] at ht
      refine ok.b ht (fun y18 g18 => ?_)
      rw [List.append_assoc (Q3 ++ [BB 48])] at g18
      have hnl := itm_le (s := 163) (itm_le (s := 4) (show (sl f v.1 (v.2 - v.1)).length ≤ 16 by rw [hs]; omega))
      exact w164_n1 hse hx g18 (by rw [List.length_append]; omega)
  | succ i ih =>
    intro j fu o n0 I hfu hj h hl
    obtain ⟨fu, rfl⟩ : ∃ g, fu = g + 1 := ⟨fu - 1, by omega⟩
    obtain ⟨x1, x2, x3⟩ := hX j (by omega)
    rw [j_de_writeAnswer_n1_88, if_neg (nI_ge (by omega) (by omega))]
    refine ok.b (x2 o n0 _ h (by rw [List.length_append, List.length_append, List.length_singleton]; omega)) (fun y g => ?_)
    rw [bnd_eq, nI_1]
    rw [List.append_assoc] at g
    refine ok.m (ih (j + 1) fu y.1 y.2 _ (by omega) (by omega) g (by rw [List.length_append]; omega)) (fun z hz => ?_)
    rw [List.append_assoc] at hz
    exact hz
theorem w_answer_n1 {x : Nat} (hse : se = nI x) (hx : x < QQ) (hw : w ≤ 8) (hX : ∀ j, j < w → snG f nm ns ky iss rS rT rR iN iK iS KH NH SE kh nh S T R k m t l w j (X j)) (hv : nob n v) (hno : NoR v np nz) (hf : TP f) (hn : n ≤ 1500) (ht : t + l < 3155760000) {An : List Int32} (hA16 : An.length ≤ 16) (hnd : WW nd nl An) (o : Nat → Int32) (n0 : Int32) : ok (f_de_writeAnswer_n1 (nI w) KH NH SE np nz o n0 f (nI n) (nI m) kh nd nl nh R se S T (lN t) (nxt t l)) (fun y => WW y.1 y.2 (anL (bdL (itm 161 (itm 4 An)) t (catL X 0 w) (nonL 163 (sl f v.1 (v.2 - v.1)))) x [])) := by
  have te := encT_l t
  have c10 := itm_le (s := 10) (show [BB 0].length ≤ 1 from Nat.le_refl _)
  have tl : (itm 161 (itm 4 An)).length ≤ 30 := Nat.le_trans (itm_le (itm_le hA16)) (by decide)
  unfold f_de_writeAnswer_n1 f_by_clear
  rw [Option.bind_some]
  refine ok.b (pu_open (by decide) (WW_nil o) (by decide) 48) (fun y2 g2 => ?_)
  rw [bnd_eq, g2.1, show nI ([] : List Int32).length = nI 0 from rfl]
  refine ok.b (pu_addCode (by decide) 0 g2.2 (by decide)) (fun y4 g4 => ?_)
  have h4 : WW y4.1 y4.2 Q1 := g4
  refine ok.b (pu_open (by decide) h4 (by rw [Q_l.1]; decide) 160) (fun y5 g5 => ?_)
  rw [bnd_eq, g5.1, Q_l.1]
  have h5 : WW y5.2.1 y5.2.2 Q2 := g5.2
  refine ok.b (pu_open (by decide) h5 (by rw [Q_l.2.1]; decide) 48) (fun y7 g7 => ?_)
  rw [bnd_eq, g7.1, Q_l.2.1]
  have h7 : WW y7.2.1 y7.2.2 Q3 := g7.2
  refine ok.b (pu_open (by decide) h7 (by rw [Q_l.2.2]; decide) 48) (fun y9 g9 => ?_)
  rw [bnd_eq, g9.1, Q_l.2.2]
  have l9 : (Q3 ++ [BB 48]).length = 7 := by rw [List.length_append, Q_l.2.2, List.length_singleton]
  unfold f_de_writeTeller_n1
  rw [hnd.1]
  have ht := pu_tagged (N := 1500) (Ng := 16) (M := An.length) (a := 0) (c := An.length) (g := nd) (by decide) hA16 (by omega) (by omega) (by unfold FU; omega) (fun j hj => GG_at hnd.2 hj) 1 g9.2 (by rw [l9]; omega)
  rw [sl_GG An 0 hnd.2, show nI 0 = 0 from rfl] at ht
  rw [show nI 0 = 0 from rfl]
  refine ok.b (ok.b ht (fun y g => ok.s g) : ok _ (fun y : (Nat → Int32) × Int32 => WW y.1 y.2 (Q3 ++ [BB 48] ++ itm 161 (itm 4 An)))) (fun y11 g11 => ?_)
  refine ok.b (pu_addTime (by decide) (t := t) (by omega) g11 (by rw [List.length_append, l9]; omega)) (fun y12 g12 => ?_)
  refine ok.b (pu_open (by decide) g12 (by rw [List.length_append, List.length_append, l9]; omega) 48) (fun y13 g13 => ?_)
  rw [bnd_eq, g13.1]
  have q := w88_n1 (nd := nd) (nl := nI An.length) hse hx hw hX hv hno hf hn tl w 0 FU y13.2.1 y13.2.2 [] (by unfold FU; omega) (by omega) (by rw [List.append_nil]; exact g13.2) (by rw [List.length_nil]; omega)
  rw [List.nil_append] at q
  exact q
end WN

section WS
variable {f nm ns : Nat → Int32} {ky : Nat → Int64} {iss rS : Nat → Int32} {rT : Nat → Int64} {rR : Nat → Int32} {iN iK : Nat → Int32} {iS : Nat → Int64} {KH NH : Nat → Int64} {SE : Nat → Int32} {kh nh : Int64} {S : Nat → Int32} {T : Nat → Int64} {R : Nat → Int32} {k m t l w n : Nat} {np nz : Int32} {v : Nat × Nat} {X : Nat → List Int32}
variable {sk : Int64} {td : Nat → Int32} {se tl : Int32} {Ct : List Int32}
theorem w164 {x : Nat} (hse : se = nI x) (htd : WW td tl Ct) (hCt : Ct.length ≤ 128) (hx : x < QQ) {o : Nat → Int32} {n0 : Int32} {C : List Int32} (h : WW o n0 (Q3 ++ [BB 48] ++ C)) (hb : C.length + 200 ≤ 1500) : ok (j_de_writeAnswer_164 (nI w) KH NH SE np nz o n0 f (nI n) (nI m) kh nh R S T sk se td tl (nI 0) (nI 4) (nI 5) (nI 6)) (fun y => WW y.1 y.2 (anL (itm 48 C) x (itm 160 Ct))) := by
  have cl := itm_le (s := 48) (Nat.le_refl C.length)
  have gl := sig_l x (hl (itm 48 C))
  subst hse
  unfold j_de_writeAnswer_164 j_de_writeAnswer_188
  have q := pu_close (N := 1500) (by decide) h (by rw [Q_l.2.2]; omega)
  rw [Q_l.2.2] at q
  refine ok.b q (fun y21 g21 => ?_)
  have qs := fun {α : Type} {K : (Nat → Int32) × Int32 → Option α} {R : α → Prop} hk => pu_sig (x := x) hx (N := 1500) (by decide) (K := K) (R := R) g21 (by rw [Q_l.2.2]; omega) hk
  rw [Q_l.2.2] at qs
  refine qs (fun y24 g24 => ?_)
  have b24 : (Q3 ++ itm 48 C ++ sigL x (hl (itm 48 C))).length ≤ C.length + 30 := by rw [List.length_append, List.length_append, Q_l.2.2]; omega
  refine ok.b (pu_open (by decide) g24 (by omega) 160) (fun y25 g25 => ?_)
  rw [bnd_eq, g25.1, htd.1]
  have ha := pu_addAll (N := 1500) (Ng := 128) (M := Ct.length) (a := 0) (c := Ct.length) (g := td) (by decide) hCt (by omega) (by omega) (by unfold FU; omega) (fun j hj => GG_at htd.2 hj) g25.2 (by rw [List.length_append, List.length_singleton]; omega)
  rw [sl_GG Ct 0 htd.2, show nI 0 = 0 from rfl] at ha
  refine ok.b ha (fun y27 g27 => ?_)
  refine ok.b (pu_close (by decide) g27 (by omega)) (fun y28 g28 => ?_)
  have hc := itm_le (s := 160) hCt
  unfold j_de_writeAnswer_262
  exact close3 g28 (by omega)
theorem w88 {x : Nat} (hse : se = nI x) (htd : WW td tl Ct) (hCt : Ct.length ≤ 128) (hx : x < QQ) (hw : w ≤ 8) (hX : ∀ j, j < w → snG f nm ns ky iss rS rT rR iN iK iS KH NH SE kh nh S T R k m t l w j (X j)) (hv : nob n v) (hno : NoR v np nz) (hf : TP f) (hn : n ≤ 1500) {Te : List Int32} (hTe : Te.length ≤ 30) : ∀ (i j fu : Nat) (o : Nat → Int32) (n0 : Int32) (I : List Int32), i < fu → j + i = w → WW o n0 (Q3 ++ [BB 48] ++ Te ++ encT t ++ [BB 48] ++ I) → I.length + 104 * i ≤ 832 → ok (j_de_writeAnswer_88 fu (nI w) KH NH SE np nz o n0 f (nI n) (nI m) kh nh R S T sk se td tl (lN t) (nxt t l) (nI 0) (nI 4) (nI 5) (nI 6) (nI (Q3 ++ [BB 48] ++ Te ++ encT t).length) (nI j)) (fun y => WW y.1 y.2 (anL (bdL Te t (I ++ catL X j i) (nonL 163 (sl f v.1 (v.2 - v.1)))) x (itm 160 Ct))) := by
  have te := encT_l t
  have hP : (Q3 ++ [BB 48] ++ Te ++ encT t).length ≤ 54 := by rw [List.length_append, List.length_append, List.length_append, Q_l.2.2, List.length_singleton]; omega
  intro i
  induction i with
  | zero =>
    intro j fu o n0 I hfu hj h hl
    obtain ⟨fu, rfl⟩ : ∃ g, fu = g + 1 := ⟨fu - 1, by omega⟩
    have hi := itm_le (s := 48) (show I.length ≤ 832 by omega)
    rw [j_de_writeAnswer_88, if_pos (nI_le (by omega) (by omega)), catL, List.append_nil]
    refine ok.b (pu_close (by decide) h (by omega)) (fun y16 g16 => ?_)
    have hs := sl_l f (v.2 - v.1) v.1
    have g17 : WW y16.1 y16.2 (Q3 ++ [BB 48] ++ (Te ++ encT t ++ itm 48 I)) := by
      rw [← List.append_assoc, ← List.append_assoc]
      exact g16
    have b17 : (Te ++ encT t ++ itm 48 I).length ≤ 890 := by rw [List.length_append, List.length_append]; omega
    unfold bdL nonL
    obtain ⟨n1, n2⟩ := hno
    rw [hs, n1]
    rcases hv with rfl | ⟨v1, v2, v3, v4⟩
    · rw [if_pos (by decide), if_pos (by decide), List.append_nil]
      exact w164 hse htd hCt hx g17 (by omega)
    · have n3 : np = nI v.1 := by
        rcases n2 with e | e
        · rw [e] at v1; exact absurd v1 (by decide)
        · exact e
      rw [if_neg (nI_nle (by omega) (by omega)), if_neg (by omega), n3]
      have ht := pu_tagged (N := 1500) (Ng := 1500) (M := n) (a := v.1) (c := v.2 - v.1) (by decide) hn (by omega) (by omega) (by unfold FU; omega) (fun j _ => hf _) 3 g17 (by rw [List.length_append, List.length_append, Q_l.2.2, List.length_singleton]; omega)
      rw [show (160 : Int32) + 3 = 163 from rfl] at ht
      refine ok.b ht (fun y18 g18 => ?_)
      rw [List.append_assoc (Q3 ++ [BB 48])] at g18
      have hnl := itm_le (s := 163) (itm_le (s := 4) (show (sl f v.1 (v.2 - v.1)).length ≤ 16 by rw [hs]; omega))
      exact w164 hse htd hCt hx g18 (by rw [List.length_append]; omega)
  | succ i ih =>
    intro j fu o n0 I hfu hj h hl
    obtain ⟨fu, rfl⟩ : ∃ g, fu = g + 1 := ⟨fu - 1, by omega⟩
    obtain ⟨x1, x2, x3⟩ := hX j (by omega)
    rw [j_de_writeAnswer_88, if_neg (nI_ge (by omega) (by omega))]
    refine ok.b (x2 o n0 _ h (by rw [List.length_append, List.length_append, List.length_singleton]; omega)) (fun y g => ?_)
    rw [bnd_eq, nI_1]
    rw [List.append_assoc] at g
    refine ok.m (ih (j + 1) fu y.1 y.2 _ (by omega) (by omega) g (by rw [List.length_append]; omega)) (fun z hz => ?_)
    rw [List.append_assoc] at hz
    exact hz
theorem w_answer {x : Nat} (hse : se = nI x) (htd : WW td tl Ct) (hCt : Ct.length ≤ 128) (hx : x < QQ) (hw : w ≤ 8) (hX : ∀ j, j < w → snG f nm ns ky iss rS rT rR iN iK iS KH NH SE kh nh S T R k m t l w j (X j)) (hv : nob n v) (hno : NoR v np nz) (hf : TP f) (hn : n ≤ 1500) (ht : t + l < 3155760000)  (o : Nat → Int32) (n0 : Int32) : ok (f_de_writeAnswer (nI w) KH NH SE np nz o n0 f (nI n) (nI m) kh nh R S T sk se td tl (lN t) (nxt t l)) (fun y => WW y.1 y.2 (anL (bdL (itm 162 (itm 4 (hbl sk 8))) t (catL X 0 w) (nonL 163 (sl f v.1 (v.2 - v.1)))) x (itm 160 Ct))) := by
  have te := encT_l t
  have c10 := itm_le (s := 10) (show [BB 0].length ≤ 1 from Nat.le_refl _)
  have tl : (itm 162 (itm 4 (hbl sk 8))).length ≤ 30 := Nat.le_trans (itm_le (itm_le (Nat.le_of_eq (hbl_l sk 8)))) (by decide)
  unfold f_de_writeAnswer f_by_clear
  rw [Option.bind_some]
  refine ok.b (pu_open (by decide) (WW_nil o) (by decide) 48) (fun y2 g2 => ?_)
  rw [bnd_eq, g2.1, show nI ([] : List Int32).length = nI 0 from rfl]
  refine ok.b (pu_addCode (by decide) 0 g2.2 (by decide)) (fun y4 g4 => ?_)
  have h4 : WW y4.1 y4.2 Q1 := g4
  refine ok.b (pu_open (by decide) h4 (by rw [Q_l.1]; decide) 160) (fun y5 g5 => ?_)
  rw [bnd_eq, g5.1, Q_l.1]
  have h5 : WW y5.2.1 y5.2.2 Q2 := g5.2
  refine ok.b (pu_open (by decide) h5 (by rw [Q_l.2.1]; decide) 48) (fun y7 g7 => ?_)
  rw [bnd_eq, g7.1, Q_l.2.1]
  have h7 : WW y7.2.1 y7.2.2 Q3 := g7.2
  refine ok.b (pu_open (by decide) h7 (by rw [Q_l.2.2]; decide) 48) (fun y9 g9 => ?_)
  rw [bnd_eq, g9.1, Q_l.2.2]
  have l9 : (Q3 ++ [BB 48]).length = 7 := by rw [List.length_append, Q_l.2.2, List.length_singleton]
  unfold f_de_writeTeller
  have ht : ok ((f_by_open y9.2.1 y9.2.2 1500 162).bind fun y_1 => bnd (y_1.1) fun v3_2 => (f_by_addHash y_1.2.1 y_1.2.2 1500 sk).bind fun y_3 => (f_by_close y_3.1 y_3.2 1500 v3_2).bind fun y_4 => some (y_4.1, y_4.2)) (fun y => WW y.1 y.2 (Q3 ++ [BB 48] ++ itm 162 (itm 4 (hbl sk 8)))) := by
    have hb := itm_le (s := 4) (Nat.le_of_eq (hbl_l sk 8))
    refine ok.b (pu_open (by decide) g9.2 (by rw [l9]; omega) 162) (fun y1 g1 => ?_)
    rw [bnd_eq, g1.1]
    refine ok.b (pu_addHash (by decide) sk g1.2 (by rw [List.length_append, l9, List.length_singleton]; omega)) (fun y3 g3 => ?_)
    exact ok.b (pu_close (by decide) g3 (by rw [l9]; omega)) (fun y4 g4 => ok.s g4)
  refine ok.b ht (fun y11 g11 => ?_)
  refine ok.b (pu_addTime (by decide) (t := t) (by omega) g11 (by rw [List.length_append, l9]; omega)) (fun y12 g12 => ?_)
  refine ok.b (pu_open (by decide) g12 (by rw [List.length_append, List.length_append, l9]; omega) 48) (fun y13 g13 => ?_)
  rw [bnd_eq, g13.1]
  have q := w88 (sk := sk) hse htd hCt hx hw hX hv hno hf hn tl w 0 FU y13.2.1 y13.2.2 [] (by unfold FU; omega) (by omega) (by rw [List.append_nil]; exact g13.2) (by rw [List.length_nil]; omega)
  rw [List.nil_append] at q
  exact q
end WS
