/-! PURE 31: a signer -/
theorem gg_of {g : Nat → Int32} {a n : Nat} (h : ∀ j, j < n → isb (g (a + j))) : GG g a (sl g a n) := by
  induction n generalizing a with
  | zero => exact GG_nil _ _
  | succ n ih =>
    refine GG_cons rfl (by have := h 0 (by omega); rwa [Nat.add_zero] at this) (ih (fun j hj => ?_))
    rw [show a + 1 + j = a + (j + 1) by omega]
    exact h (j + 1) (by omega)
/-- the reference copies the text into its row of certificates -/
theorem c318 {f : Nat → Int32} {tp : Int32} {o : Nat → Int32} {ol au : Int32} {nm ns : Nat → Int32} {sc : Nat → Int64} {iss rS : Nat → Int32} {rT : Nat → Int64} {rR : Nat → Int32} {d : Nat} (hd : d < 8) {so : Nat → Int32} {ss sk : Nat → Int64} {ct cz : Nat → Int32} {xh xc xz : Int64} {sw dr : Nat → Int32} {dl : Int32} {A : List Int32} (hA : WW dr dl A) (hl : A.length ≤ 128) : ∀ (m j fu : Nat) (ct' : Nat → Int32), m < fu → j + m = A.length → (∀ i, i < j → ct' (300 * d + i) = dr i) → (∀ i, (i < 300 * d ∨ 300 * d + 300 ≤ i) → ct' i = ct i) → ok (j_signer_318 fu f tp o ol au nm ns sc iss rS rT rR (nI d) so ss sk ct' cz xh xc xz sw dr dl (nI j)) (fun y => ∃ o' ct2, y = (nI d, tp, o', nI A.length, iss, rS, rT, rR, nI (d + 1), so, ss, sk, ct2, upd cz d (nI A.length), xh, xc, xz, sw, dr, dl) ∧ WW o' (nI A.length) A ∧ GG ct2 (300 * d) A ∧ (∀ i, (i < 300 * d ∨ 300 * d + 300 ≤ i) → ct2 i = ct i)) := by
  obtain ⟨rfl, hg⟩ := hA
  intro m
  induction m with
  | zero =>
    intro j fu ct' hfu hj h1 h2
    obtain ⟨fu, rfl⟩ : ∃ g, fu = g + 1 := ⟨fu - 1, by omega⟩
    have : j = A.length := by omega
    subst this
    rw [j_signer_318, if_pos (Int32.le_refl _), chk_t (inN (by omega) (by omega)), nI_clamp (by omega), bnd_eq, bnd_eq, nI_1]
    refine ok.b (p_tellDraft (A := A) ⟨rfl, hg⟩ (by omega) ol o) (fun y hy => ?_)
    obtain ⟨y1, y2, y3⟩ := y
    obtain ⟨-, e2, e3⟩ := hy
    dsimp only at e2 e3 ⊢
    subst e2
    rw [bnd_eq, nI_pred]
    refine ok.s ⟨y2, ct', rfl, ⟨rfl, e3⟩, GG_c hg (fun i hi => ?_), h2⟩
    rw [Nat.zero_add]
    exact h1 i hi
  | succ m ih =>
    intro j fu ct' hfu hj h1 h2
    obtain ⟨fu, rfl⟩ : ∃ g, fu = g + 1 := ⟨fu - 1, by omega⟩
    have hb : isb (dr j) := by have := GG_at hg (j := j) (by omega); rwa [Nat.zero_add] at this
    rw [j_signer_318, if_neg (nI_ge (by omega) (by omega)), chk_t (inN (by omega) (by omega)), show (300 : Int32) * nI d = nI (300 * d) from pk_mul 300 d, nI_add, chk_t (inN (by omega) (by omega)), nI_clamp (by omega), nI_clamp (by omega), bnd_eq, bnd_eq, nI_1, nar_isb hb]
    refine ih (j + 1) fu _ (by omega) (by omega) (fun i hi => ?_) (fun i hi => by rw [pk_un (by omega)]; exact h2 i hi)
    by_cases hij : i = j
    · subst hij; exact pk_us
    · rw [pk_un (by omega)]; exact h1 i (by omega)
theorem p_145 {f : Nat → Int32} (hf : TP f) {n : Nat} (hn : n ≤ 16) {tp : Int32} {o : Nat → Int32} {ol au : Int32} {nm ns : Nat → Int32} {sc : Nat → Int64} {iss rS : Nat → Int32} {rT : Nat → Int64} {rR : Nat → Int32} {d k : Nat} (hd : d < 8) (hk : k < 4) {so : Nat → Int32} {ss sk : Nat → Int64} {ct cz : Nat → Int32} {xh xc xz : Int64} {sw dr : Nat → Int32} {dl : Int32} {An : List Int32} (hA16 : An.length ≤ 16) (hA : GG nm (16 * k) An) (hns : ns k = nI An.length) {x : Nat} (hx : x < QQ) (hsc : sc k = lN x) {s V F T G : Nat} (hs : s < QQ) (hV : V < 2 ^ 31) (hF : F < 3155760000) (hT : T < 3155760000) (hG : G < 2 ^ 31) : ok (j_signer_145 f tp o ol au nm ns sc iss rS rT rR (nI d) so ss sk ct cz xh xc xz sw dr dl (nI k) (nI s) (nI V) (lN F) (lN T) (nI G) (nI n)) (fun y => ∃ o' ct2 xh' xc' xz' sw' dr' dl', y = (nI d, tp, o', nI (crtL x V An (sl f 0 n) F T (kyN s) G).length, iss, rS, rT, rR, nI (d + 1), upd so d (nI k), vp_updL ss d (lN s), vp_updL sk d (lN (kyN s)), ct2, upd cz d (nI (crtL x V An (sl f 0 n) F T (kyN s) G).length), xh', xc', xz', sw', dr', dl') ∧ WW o' (nI (crtL x V An (sl f 0 n) F T (kyN s) G).length) (crtL x V An (sl f 0 n) F T (kyN s) G) ∧ GG ct2 (300 * d) (crtL x V An (sl f 0 n) F T (kyN s) G) ∧ (∀ i, (i < 300 * d ∨ 300 * d + 300 ≤ i) → ct2 i = ct i)) := by
  have hK := kyN_lt s
  unfold PP at hK
  have hs2 : s < 2 ^ 31 := by unfold QQ at hs; omega
  have b1 := encI_l V
  have b2 := itm_le (s := 4) hA16
  have b3 := itm_le (s := 4) (show (sl f 0 n).length ≤ 16 by rw [sl_l]; omega)
  have b4 := encT_l F
  have b5 := encT_l T
  have b6 := encI_l (kyN s)
  have b7 := encI_l G
  have b8 := in_l (V := V) (F := F) (T := T) (K := kyN s) (G := G) hA16 (show (sl f 0 n).length ≤ 16 by rw [sl_l]; omega)
  obtain ⟨b9, b11⟩ := crt_l (s := x) (V := V) (F := F) (T := T) (K := kyN s) (G := G) hA16 (show (sl f 0 n).length ≤ 16 by rw [sl_l]; omega)
  have b10 := sig_l x (hl (rowL V An (sl f 0 n) F T (kyN s) G))
  have h8 : ¬ (nI d < 0 ∨ 8 ≤ (nI d).toNatClampNeg) := inN hd (by omega)
  have h4 : ¬ (nI k < 0 ∨ 4 ≤ (nI k).toNatClampNeg) := inN hk (by omega)
  unfold j_signer_145
  rw [chk_t h8, bnd_eq, chk_t h8, bnd_eq, (pub hs).2, Option.bind_some, chk_t h8, bnd_eq, nI_clamp (n := d) (by omega), nI_l hV, nI_l hs2, pk_uLs]
  refine ok.b (p_layInt hV (WW_nil dr) (by decide)) (fun y31 h31 => ?_)
  rw [bnd_eq, chk_t h4, nI_clamp (n := k) (by omega), hns, show (16 : Int32) * nI k = nI (16 * k) from pk_mul 16 k, nI_add]
  refine ok.b (p_layRow (Ng := 64) (by decide) (m := An.length) (by unfold FU; omega) (by omega) (fun j hj => GG_at hA hj) h31 (by simp; omega)) (fun y34 h34 => ?_)
  rw [sl_GG An _ hA] at h34
  rw [h31.1]
  refine ok.b (p_wrap h34 (by simp; omega) 4) (fun y35 h35 => ?_)
  rw [bnd_eq]
  have hr := p_layRow (Ng := 1500) (a := 0) (g := f) (by decide) (m := n) (by unfold FU; omega) (by omega) (fun j hj => hf _) h35 (by simp; omega)
  rw [Nat.zero_add, show nI 0 = 0 from rfl] at hr
  refine ok.b hr (fun y37 h37 => ?_)
  rw [h35.1]
  refine ok.b (p_wrap h37 (by rw [sl_l]; simp; omega) 4) (fun y38 h38 => ?_)
  refine ok.b (p_layTime hF sw h38 (by simp; omega)) (fun y39 h39 => ?_)
  refine ok.b (p_layTime hT y39.1 h39 (by simp; omega)) (fun y40 h40 => ?_)
  refine ok.b (p_layInt (V := kyN s) (by omega) h40 (by simp; omega)) (fun y41 h41 => ?_)
  rw [nI_l hG]
  refine ok.b (p_layInt hG h41 (by simp; omega)) (fun y42 h42 => ?_)
  have w42 : WW y42.1 y42.2 ([] ++ inL V An (sl f 0 n) F T (kyN s) G) := by
    rw [List.nil_append] at h42 ⊢
    unfold inL
    exact h42
  have q42 := p_wrap (L := []) w42 (by rw [List.length_nil]; omega) 48
  rw [show nI ([] : List Int32).length = 0 from rfl] at q42
  refine ok.b q42 (fun y43 h43 => ?_)
  rw [List.nil_append] at h43
  have w43 : WW y43.1 y43.2 (rowL V An (sl f 0 n) F T (kyN s) G) := by
    unfold rowL
    exact h43
  clear h43
  rw [chk_t (by rintro (q | q); exact nI_pos (by omega) q; omega), hsc]
  refine ok.b (p_laySig hx w43 (by omega) xh xc xz) (fun y45 h45 => ?_)
  have w45 : WW y45.2.2.2.1 y45.2.2.2.2 ([] ++ (rowL V An (sl f 0 n) F T (kyN s) G ++ sigL x (hl (rowL V An (sl f 0 n) F T (kyN s) G)))) := by
    rw [List.nil_append]
    exact h45
  have q45 := p_wrap (L := []) w45 (by rw [List.length_nil, List.length_append]; omega) 48
  rw [show nI ([] : List Int32).length = 0 from rfl] at q45
  refine ok.b q45 (fun y46 h46 => ?_)
  rw [List.nil_append] at h46
  have w46 : WW y46.1 y46.2 (crtL x V An (sl f 0 n) F T (kyN s) G) := by
    unfold crtL
    exact h46
  clear h46
  generalize crtL x V An (sl f 0 n) F T (kyN s) G = CL at *
  have q46 := fun (xh xc xz : Int64) (sw : Nat → Int32) => c318 (f := f) (tp := tp) (o := o) (ol := ol) (au := au) (nm := nm) (ns := ns) (sc := sc) (iss := iss) (rS := rS) (rT := rT) (rR := rR) (so := upd so d (nI k)) (ss := vp_updL ss d (lN s)) (sk := vp_updL sk d (lN (kyN s))) (cz := cz) (xh := xh) (xc := xc) (xz := xz) (sw := sw) (ct := ct) hd w46 (by omega) CL.length 0 FU ct (by unfold FU; omega) (by omega) (fun i hi => absurd hi (by omega)) (fun _ _ => rfl)
  rw [show nI 0 = 0 from rfl] at q46
  refine ok.m (q46 _ _ _ _) (fun y hy => ?_)
  obtain ⟨o', ct2, rfl, g1, g2, g3⟩ := hy
  exact ⟨o', ct2, _, _, _, _, _, _, rfl, g1, g2, g3⟩
