/-! PURE 30: a certificate's text -/
theorem p_54 {C Z xh : Int64} {L0 : List Int32} : ∀ (m fu : Nat) (f : Nat → Int32) (n : Int32) (A : List Int32), m ≤ 4 → m < fu → WW f n (L0 ++ A) → L0.length + A.length + m + 4 ≤ 4000 → ok (j_laySignature_54 fu xh C Z f n (nI L0.length) (nI (8 * m) + (-8))) (fun y => WW y.2.2.2.1 y.2.2.2.2 (L0 ++ itm 3 (A ++ hbl Z m))) := by
  intro m
  induction m with
  | zero =>
    intro fu f n A _ hfu h hl
    obtain ⟨fu, rfl⟩ : ∃ g, fu = g + 1 := ⟨fu - 1, by omega⟩
    rw [j_laySignature_54, if_pos (by decide)]
    unfold hbl
    rw [List.append_nil]
    exact ok.b (p_wrap h (by omega) 3) (fun y hy => ok.s hy)
  | succ m ih =>
    intro fu f n A hm hfu h hl
    obtain ⟨fu, rfl⟩ : ∃ g, fu = g + 1 := ⟨fu - 1, by omega⟩
    rw [j_laySignature_54, m_m8, if_neg (nI_pos (by omega))]
    refine ok.b (p_lay h (by simp; omega) _) (fun y hy => ?_)
    rw [bnd_eq]
    rw [bt_L Z (by omega), List.append_assoc] at hy
    have := ih fu y.1 y.2 _ (by omega) (by omega) hy (by simp; omega)
    rw [app1] at this
    exact this
theorem p_27 {C Z xh : Int64} {L0 : List Int32} : ∀ (m fu : Nat) (f : Nat → Int32) (n : Int32) (A : List Int32), m ≤ 4 → m < fu → WW f n (L0 ++ A) → L0.length + A.length + m + 8 ≤ 4000 → ok (j_laySignature_27 fu xh C Z f n (nI L0.length) (nI (8 * m) + (-8))) (fun y => WW y.2.2.2.1 y.2.2.2.2 (L0 ++ itm 3 (A ++ hbl C m ++ hbl Z 4))) := by
  intro m
  induction m with
  | zero =>
    intro fu f n A _ hfu h hl
    obtain ⟨fu, rfl⟩ : ∃ g, fu = g + 1 := ⟨fu - 1, by omega⟩
    rw [j_laySignature_27, if_pos (by decide)]
    have e : hbl C 0 = [] := rfl
    rw [e, List.append_nil]
    exact p_54 (C := C) (Z := Z) (xh := xh) 4 FU f n A (by decide) (by decide) h (by omega)
  | succ m ih =>
    intro fu f n A hm hfu h hl
    obtain ⟨fu, rfl⟩ : ∃ g, fu = g + 1 := ⟨fu - 1, by omega⟩
    rw [j_laySignature_27, m_m8, if_neg (nI_pos (by omega))]
    refine ok.b (p_lay h (by simp; omega) _) (fun y hy => ?_)
    rw [bnd_eq]
    rw [bt_L C (by omega), List.append_assoc] at hy
    have := ih fu y.1 y.2 _ (by omega) (by omega) hy (by simp; omega)
    rw [app1] at this
    exact this
theorem p_laySig {x : Nat} (hx : x < QQ) {f : Nat → Int32} {n : Int32} {L : List Int32} (h : WW f n L) (hl1 : L.length + 20 ≤ 4000) (xh c z : Int64) : ok (f_laySignature xh c z f n (lN x) 0 n) (fun y => WW y.2.2.2.1 y.2.2.2.2 (L ++ sigL x (hl L))) := by
  unfold f_laySignature
  obtain ⟨hn, hg⟩ := id h
  have hs := p_sign hx (N := 4000) hg (by omega) (by decide) (by unfold FU; omega) xh c z
  rw [Nat.zero_add, show nI 0 = 0 from rfl, ← hn] at hs
  refine ok.b hs (fun y hy => ?_)
  obtain ⟨y1, y2, y3⟩ := y
  obtain ⟨e1, e2⟩ := hy
  dsimp only at e1 e2
  subst e1
  subst e2
  refine ok.b (p_lay h (by omega) 0) (fun w hw => ?_)
  have := p_27 (C := lN (sgC x (hl L))) (Z := lN (sgZ x (hl L))) (xh := y1) (L0 := L) 4 FU w.1 w.2 [BB 0] (by decide) (by decide) hw (by simp; omega)
  rw [← hn] at this
  unfold sigL
  rw [show [BB 0] ++ hbl (lN (sgC x (hl L))) 4 ++ hbl (lN (sgZ x (hl L))) 4 = BB 0 :: (hbl (lN (sgC x (hl L))) 4 ++ hbl (lN (sgZ x (hl L))) 4) by rw [List.append_assoc]; rfl] at this
  exact this
theorem sig_l (x : Nat) (d : Int64) : (sigL x d).length ≤ 13 := by
  have := (itm_l 3 (BB 0 :: (hbl (lN (sgC x d)) 4 ++ hbl (lN (sgZ x d)) 4))).1
  rw [List.length_cons, List.length_append, hbl_l, hbl_l] at this
  exact this
/-- the class signs what stands from a place on -/
theorem pu_sig {x : Nat} (hx : x < QQ) {N : Nat} (hN : N ≤ 4000) {f : Nat → Int32} {n : Int32} {L A : List Int32} (h : WW f n (L ++ A)) (hl1 : L.length + A.length + 13 ≤ N) {α : Type} {K : (Nat → Int32) × Int32 → Option α} {R : α → Prop} (hk : ∀ y, WW y.1 y.2 (L ++ A ++ sigL x (hl A)) → ok (K y) R) : ok ((f_by_digest f n N (nI L.length) n).bind fun y_14 => (f_nu_signature (nI x) y_14).bind fun y_15 => (f_by_addSignature f n N y_15).bind K) R := by
  obtain ⟨hn, hg⟩ := id h
  have hg2 := GG_r hg
  rw [Nat.zero_add] at hg2
  have hd := pu_digest (N := N) (M := (L ++ A).length) hg2 (by simp) (by simp; omega) (by simp; omega) (by unfold FU; omega)
  rw [show L.length + A.length = (L ++ A).length by simp, ← hn] at hd
  have c1 := sgC_lt x (hl A)
  have c2 := sgZ_lt x (hl A)
  unfold QQ at c1 c2
  rw [hd, Option.bind_some, pu_signature hx, Option.bind_some]
  refine ok.b (pu_addSig hN _ h (by simp; omega)) (fun y hy => ?_)
  rw [cz_bytes c1 c2] at hy
  exact hk y hy
theorem encI_l (V : Nat) : (encI V).length ≤ 8 := by
  have h1 := (itm_l 2 (hbl (lN V) (il V))).1
  have h2 := il_b V
  rw [hbl_l] at h1
  unfold encI
  omega
theorem itm_le {s : Int32} {C : List Int32} {n : Nat} (h : C.length ≤ n) : (itm s C).length ≤ n + 4 := by
  have := (itm_l s C).1
  omega
def inL (V : Nat) (An H : List Int32) (F T K G : Nat) : List Int32 := encI V ++ itm 4 An ++ itm 4 H ++ encT F ++ encT T ++ encI K ++ encI G
def rowL (V : Nat) (An H : List Int32) (F T K G : Nat) : List Int32 := itm 48 (inL V An H F T K G)
def crtL (s V : Nat) (An H : List Int32) (F T K G : Nat) : List Int32 := itm 48 (rowL V An H F T K G ++ sigL s (hl (rowL V An H F T K G)))
theorem in_l {V : Nat} {An H : List Int32} {F T K G : Nat} (h1 : An.length ≤ 16) (h2 : H.length ≤ 16) : (inL V An H F T K G).length ≤ 98 := by
  have a1 := encI_l V
  have a2 := itm_le (s := 4) h1
  have a3 := itm_le (s := 4) h2
  have a4 := encT_l F
  have a5 := encT_l T
  have a6 := encI_l K
  have a7 := encI_l G
  unfold inL
  simp only [List.length_append]
  omega
theorem crt_l {s V : Nat} {An H : List Int32} {F T K G : Nat} (h1 : An.length ≤ 16) (h2 : H.length ≤ 16) : (rowL V An H F T K G).length ≤ 102 ∧ (crtL s V An H F T K G).length ≤ 119 := by
  have a1 : (rowL V An H F T K G).length ≤ 102 := itm_le (in_l h1 h2)
  refine ⟨a1, itm_le ?_⟩
  have := sig_l s (hl (rowL V An H F T K G))
  rw [List.length_append]
  omega
theorem pu_writeCert {s V F T K G : Nat} (hs : s < QQ) (hV : V < 2 ^ 31) (hF : F < 3155760000) (hT : T < 3155760000) (hK : K < 2 ^ 31) (hG : G < 2 ^ 31) {An : List Int32} {nd : Nat → Int32} {nl : Int32} (hA : WW nd nl An) (hA16 : An.length ≤ 16) {f : Nat → Int32} (hf : TP f) {n : Nat} (hn : n ≤ 16) (d : Nat → Int32) (e : Int32) : ok (f_si_writeCert (nI K) d e nd nl (nI s) f (nI n) 1500 (nI V) (lN F) (lN T) (nI G)) (fun y => WW y.1 y.2 (crtL s V An (sl f 0 n) F T K G)) := by
  obtain ⟨rfl, hA⟩ := hA
  have b1 := encI_l V
  have b2 := itm_le (s := 4) hA16
  have b3 := itm_le (s := 4) (show (sl f 0 n).length ≤ 16 by rw [sl_l]; omega)
  have b4 := encT_l F
  have b5 := encT_l T
  have b6 := encI_l K
  have b7 := encI_l G
  have b8 := in_l (V := V) (F := F) (T := T) (K := K) (G := G) hA16 (show (sl f 0 n).length ≤ 16 by rw [sl_l]; omega)
  have b9 := (crt_l (s := s) (V := V) (F := F) (T := T) (K := K) (G := G) hA16 (show (sl f 0 n).length ≤ 16 by rw [sl_l]; omega)).1
  have b10 := sig_l s (hl (rowL V An (sl f 0 n) F T K G))
  unfold f_si_writeCert f_by_clear
  rw [Option.bind_some]
  refine ok.b (pu_open (N := 128) (by decide) (WW_nil d) (by decide) 48) (fun y2 h2 => ?_)
  rw [bnd_eq, h2.1]
  refine ok.b (pu_open (N := 128) (by decide) h2.2 (by simp) 48) (fun y4 h4 => ?_)
  rw [bnd_eq, h4.1, nI_l hV, nI_l hK, nI_l hG]
  have w4 := h4.2
  simp only [List.nil_append] at w4 ⊢
  refine ok.b (pu_addInt (N := 128) (by decide) hV w4 (by simp)) (fun y6 h6 => ?_)
  refine ok.b (pu_addBytes (N := 128) (a := 0) (c := An.length) (by decide) hA16 (by omega) (by omega) (by unfold FU; omega) (fun j hj => GG_at hA hj) h6 (by simp; omega)) (fun y7 h7 => ?_)
  rw [sl_GG An 0 hA] at h7
  refine ok.b (pu_addBytes (N := 128) (a := 0) (c := n) (by decide) (show n ≤ 1500 by omega) (by omega) (by omega) (by unfold FU; omega) (fun j hj => hf _) h7 (by simp; omega)) (fun y8 h8 => ?_)
  refine ok.b (pu_addTime (N := 128) (by decide) hF h8 (by simp; omega)) (fun y9 h9 => ?_)
  refine ok.b (pu_addTime (N := 128) (by decide) hT h9 (by simp; omega)) (fun y10 h10 => ?_)
  refine ok.b (pu_addInt (N := 128) (by decide) hK h10 (by simp; omega)) (fun y11 h11 => ?_)
  refine ok.b (pu_addInt (N := 128) (by decide) hG h11 (by simp; omega)) (fun y12 h12 => ?_)
  have w12 : WW y12.1 y12.2 ([BB 48] ++ [BB 48] ++ inL V An (sl f 0 n) F T K G) := by
    unfold inL
    simpa only [List.append_assoc] using h12
  refine ok.b (pu_close (N := 128) (L := [BB 48]) (s := 48) (by decide) w12 (by simp; omega)) (fun y13 h13 => ?_)
  have w13 : WW y13.1 y13.2 ([BB 48] ++ rowL V An (sl f 0 n) F T K G) := h13
  refine pu_sig (L := [BB 48]) hs (by decide) w13 (by simp; omega) (fun y16 h16 => ?_)
  have w16 : WW y16.1 y16.2 ([] ++ [BB 48] ++ (rowL V An (sl f 0 n) F T K G ++ sigL s (hl (rowL V An (sl f 0 n) F T K G)))) := by
    simpa only [List.append_assoc, List.nil_append] using h16
  refine ok.b (pu_close (N := 128) (L := []) (s := 48) (by decide) w16 (by simp; omega)) (fun y17 h17 => ok.s ?_)
  rw [List.nil_append] at h17
  exact h17
