/-! PURE 33: want and ask -/
theorem P_want {c k w : Nat} (hc : c ≤ 4) (hk : k < c) (hw : w ≤ 8) (kh nh : Int64) (KH NH : Nat → Int64) (SE wo ws : Nat → Int32) (s : Int32) : (∃ r, f_want (nI c) (nI w) wo ws (nI k) s = some (r, nI w, wo, ws) ∧ f_de_want kh nh (nI c) (nI w) KH NH SE (nI k) s = some (r, nI w, KH, NH, SE)) ∨ (w < 8 ∧ ∃ V, V < 2 ^ 31 ∧ s = nI V ∧ f_want (nI c) (nI w) wo ws (nI k) s = some (nI (w + 1), nI (w + 1), upd wo w (nI k), upd ws w s) ∧ f_de_want kh nh (nI c) (nI w) KH NH SE (nI k) s = some (nI (w + 1), nI (w + 1), vp_updL KH w kh, vp_updL NH w nh, upd SE w s)) := by
  unfold f_want f_de_want
  rw [isA_y hc hk, Option.bind_some, if_neg i10, if_pos (au_y hk hc), chk_t (show ¬ (nI k < 0 ∨ 4 ≤ (nI k).toNatClampNeg) from inN (by omega) (by omega))]
  by_cases hs : 0 ≤ s
  · obtain ⟨V, hV, rfl⟩ := nI_of (Int32.not_lt.mpr hs)
    rw [if_pos hs, if_pos hs]
    by_cases h8 : w = 8
    · subst h8
      rw [if_pos (by decide), if_neg (by decide)]
      exact Or.inl ⟨_, rfl, rfl⟩
    · have hw8 : w < 8 := by omega
      rw [if_neg (cnz hw8), if_pos (show nI w < 8 from nI_lt (b := 8) hw8 (by decide)), chk_t (inN (by omega) (by omega)), nI_clamp (by omega), bnd_eq, chk_t (by rintro (q | q); exact nI_pos (by omega) q; omega), bnd_eq, bnd_eq, nI_1, add_ok hw8, Option.bind_some]
      exact Or.inr ⟨hw8, V, hV, rfl, rfl, rfl⟩
  · rw [if_neg hs, if_neg hs]
    exact Or.inl ⟨_, rfl, rfl⟩
theorem P_want_no {c w : Nat} (hc : c ≤ 4) {p : Int32} (h : ¬ (0 ≤ p ∧ p < nI c)) (kh nh : Int64) (KH NH : Nat → Int64) (SE wo ws : Nat → Int32) (s : Int32) : f_want (nI c) (nI w) wo ws p s = some (-2, nI w, wo, ws) ∧ f_de_want kh nh (nI c) (nI w) KH NH SE p s = some (-2, nI w, KH, NH, SE) := by
  unfold f_want f_de_want
  rw [isA_n hc h, Option.bind_some, if_pos rfl, if_neg h]
  exact ⟨rfl, rfl⟩
/-! ids -/
def idL (a b : Int64) (V : Nat) : List Int32 := itm 48 (itm 4 (hbl a 8) ++ itm 4 (hbl b 8) ++ encI V)
theorem id_in (a b : Int64) (V : Nat) : (itm 4 (hbl a 8)).length ≤ 12 ∧ (itm 4 (hbl b 8)).length ≤ 12 ∧ (encI V).length ≤ 8 ∧ (itm 4 (hbl a 8) ++ itm 4 (hbl b 8) ++ encI V).length ≤ 32 ∧ (idL a b V).length ≤ 36 := by
  have h1 := itm_le (s := 4) (show (hbl a 8).length ≤ 8 by rw [hbl_l]; omega)
  have h2 := itm_le (s := 4) (show (hbl b 8).length ≤ 8 by rw [hbl_l]; omega)
  have h3 := encI_l V
  have h4 : (itm 4 (hbl a 8) ++ itm 4 (hbl b 8) ++ encI V).length ≤ 32 := by rw [List.length_append, List.length_append]; omega
  exact ⟨h1, h2, h3, h4, itm_le h4⟩
def idsL (hn hk : Nat → Int64) (V : Nat → Nat) : Nat → Nat → List Int32
  | _, 0 => []
  | j, m + 1 => idL (hn j) (hk j) (V j) ++ idsL hn hk V (j + 1) m
theorem ids_l (hn hk : Nat → Int64) (V : Nat → Nat) : ∀ m j, (idsL hn hk V j m).length ≤ 36 * m := by
  intro m
  induction m with
  | zero => intro j; exact Nat.le_refl _
  | succ m ih =>
    intro j
    have h1 := (id_in (hn j) (hk j) (V j)).2.2.2.2
    have h2 := ih (j + 1)
    rw [idsL, List.length_append]
    omega
theorem p_wrap0 {f : Nat → Int32} {n : Int32} {C : List Int32} (h : WW f n C) (hl : C.length + 4 ≤ 4000) (s : Int32) : ok (f_wrap f n 0 s) (fun y => WW y.1 y.2 (itm s C)) := by
  have q := p_wrap (L := []) (C := C) (by rw [List.nil_append]; exact h) (by rw [List.length_nil]; omega) s
  rw [show nI ([] : List Int32).length = 0 from rfl] at q
  refine ok.m q (fun y hy => ?_)
  rw [List.nil_append] at hy
  exact hy
theorem pu_addId {N : Nat} (hN : N ≤ 4000) {w j : Nat} (hj : j < w) (hw : w ≤ 8) {NH KH : Nat → Int64} {SE : Nat → Int32} {a b : Int64} {V : Nat} (hV : V < 2 ^ 31) (h1 : NH j = a) (h2 : KH j = b) (h3 : SE j = nI V) {f : Nat → Int32} {n : Int32} {L : List Int32} (h : WW f n L) (hl : L.length + 40 ≤ N) : ok (f_by_addId f n (nI w) KH NH SE N (nI j)) (fun y => WW y.1 y.2 (L ++ idL a b V)) := by
  obtain ⟨b1, b2, b3, b4, b5⟩ := id_in a b V
  have h8 : ¬ (nI j < 0 ∨ 8 ≤ (nI j).toNatClampNeg) := inN (by omega) (by omega)
  unfold f_by_addId
  rw [if_neg (nI_pos (by omega)), if_pos (nI_lt hj (by omega))]
  refine ok.b (pu_open (by omega) h (by omega) 48) (fun y3 g3 => ?_)
  rw [bnd_eq, g3.1, chk_t h8, nI_clamp (by omega), h1, h2, h3, nI_l hV]
  refine ok.b (pu_addHash hN a g3.2 (by simp; omega)) (fun y6 g6 => ?_)
  rw [chk_t (by rintro (q | q); exact nI_pos (by omega) q; omega)]
  refine ok.b (pu_addHash hN b g6 (by simp; omega)) (fun y8 g8 => ?_)
  rw [chk_t (by rintro (q | q); exact nI_pos (by omega) q; omega)]
  refine ok.b (pu_addInt hN hV g8 (by simp; omega)) (fun y10 g10 => ?_)
  have g11 : WW y10.1 y10.2 (L ++ [BB 48] ++ (itm 4 (hbl a 8) ++ itm 4 (hbl b 8) ++ encI V)) := by
    rw [← List.append_assoc, ← List.append_assoc]
    exact g10
  refine ok.b (pu_close hN g11 (by omega)) (fun y g => ok.s ?_)
  rw [idL]
  exact g
theorem p_layId {nm ns : Nat → Int32} {ky : Nat → Int64} {a V : Nat} (ha : a < 4) {A : List Int32} (hA : GG nm (16 * a) A) (hA16 : A.length ≤ 16) (hns : ns a = nI A.length) (hV : V < 2 ^ 31) {f : Nat → Int32} {n : Int32} {L : List Int32} (h : WW f n L) (hl1 : L.length + 40 ≤ 4000) (xh : Int64) : ok (f_layId nm ns ky xh f n (nI a) (lN V)) (fun y => WW y.2.1 y.2.2 (L ++ idL (hl A) (hE (hL h0 (ky a))) V)) := by
  obtain ⟨b1, b2, b3, b4, b5⟩ := id_in (hl A) (hE (hL h0 (ky a))) V
  have h4 : ¬ (nI a < 0 ∨ 4 ≤ (nI a).toNatClampNeg) := inN ha (by omega)
  unfold f_layId
  rw [chk_t h4, nI_clamp (n := a) (by omega), hns, show (16 : Int32) * nI a = nI (16 * a) from pk_mul 16 a, nI_add, p_hashOf hA (by omega) (by decide) (by unfold FU; omega), Option.bind_some]
  dsimp only
  refine ok.b (p_layHash (hl A) h (by omega)) (fun y3 g3 => ?_)
  rw [chk_t (by rintro (q | q); exact nI_pos (by omega) q; omega), p_hashOfKey, Option.bind_some]
  dsimp only
  refine ok.b (p_layHash _ g3 (by simp; omega)) (fun y6 g6 => ?_)
  refine ok.b (p_layInt hV g6 (by simp; omega)) (fun y7 g7 => ?_)
  have g8 : WW y7.1 y7.2 (L ++ (itm 4 (hbl (hl A) 8) ++ itm 4 (hbl (hE (hL h0 (ky a))) 8) ++ encI V)) := by
    rw [← List.append_assoc, ← List.append_assoc]
    exact g7
  rw [h.1]
  refine ok.b (p_wrap g8 (by omega) 48) (fun y g => ok.s ?_)
  rw [idL]
  exact g
/-- the text of an ask -/
def nonL (k : Int32) (B : List Int32) : List Int32 := if B.length = 0 then [] else itm k (itm 4 B)
def askL (I B : List Int32) : List Int32 := itm 48 (itm 48 I ++ nonL 162 B)
theorem non_l {k : Int32} {B : List Int32} {m : Nat} (h : B.length ≤ m) : (nonL k B).length ≤ m + 8 := by
  unfold nonL
  split
  · exact Nat.zero_le _
  · exact itm_le (itm_le h)
theorem a41 {w : Nat} (hw : w ≤ 8) {NH KH : Nat → Int64} {SE : Nat → Int32} {hn hk : Nat → Int64} {V : Nat → Nat} (hC : ∀ j, j < w → NH j = hn j ∧ KH j = hk j ∧ SE j = nI (V j) ∧ V j < 2 ^ 31) {nd : Nat → Int32} {nl : Int32} {B : List Int32} (hB : WW nd nl B) (hB8 : B.length ≤ 8) : ∀ (m j fu : Nat) (f : Nat → Int32) (n : Int32) (I : List Int32), m < fu → j + m = w → WW f n ([] ++ [BB 48] ++ [BB 48] ++ I) → I.length + 36 * m ≤ 288 → ok (j_de_ask_41 fu f n nd nl (nI w) KH NH SE (nI 0) (nI 1) (nI j)) (fun y => y.1 = y.2.2.1 ∧ y.2.2.2 = 0 ∧ WW y.2.1 y.2.2.1 (askL (I ++ idsL hn hk V j m) B)) := by
  obtain ⟨rfl, hB⟩ := hB
  intro m
  induction m with
  | zero =>
    intro j fu f n I hfu hj h hl
    obtain ⟨fu, rfl⟩ : ∃ g, fu = g + 1 := ⟨fu - 1, by omega⟩
    have hi := itm_le (s := 48) (show I.length ≤ 288 by omega)
    rw [j_de_ask_41, if_pos (nI_le (by omega) (by omega)), idsL, List.append_nil]
    have q8 := pu_close (N := 1500) (L := [] ++ [BB 48]) (s := 48) (by decide) h (by simp; omega)
    rw [show (([] : List Int32) ++ [BB 48]).length = 1 from rfl] at q8
    refine ok.b q8 (fun y8 g8 => ?_)
    clear q8
    by_cases h0 : B.length = 0
    · rw [h0, if_pos (by decide)]
      have q10 := pu_close (N := 1500) (L := []) (C := itm 48 I) (s := 48) (by decide) g8 (by rw [List.length_nil]; omega)
      rw [show ([] : List Int32).length = 0 from rfl] at q10
      refine ok.b q10 (fun y10 g10 => ok.s ⟨rfl, rfl, ?_⟩)
      rw [askL, nonL, if_pos h0, List.append_nil]
      rw [List.nil_append] at g10
      exact g10
    · have hnl := itm_le (s := 160 + 2) (itm_le (s := 4) hB8)
      rw [if_neg (nI_nle (by omega) (by omega))]
      have ht := pu_tagged (N := 1500) (Ng := 8) (a := 0) (c := B.length) (by decide) hB8 (by omega) (by omega) (by unfold FU; omega) (fun j hj => GG_at hB hj) 2 g8 (by simp; omega)
      rw [sl_GG B 0 hB, show nI 0 = 0 from rfl] at ht
      refine ok.b ht (fun y11 g11 => ?_)
      have g12 : WW y11.1 y11.2 ([] ++ [BB 48] ++ (itm 48 I ++ itm (160 + 2) (itm 4 B))) := by
        rw [← List.append_assoc]
        exact g11
      have q13 := pu_close (N := 1500) (L := []) (s := 48) (by decide) g12 (by rw [List.length_nil, List.length_append]; omega)
      rw [show ([] : List Int32).length = 0 from rfl] at q13
      refine ok.b q13 (fun y13 g13 => ok.s ⟨rfl, rfl, ?_⟩)
      rw [askL, nonL, if_neg h0]
      rw [List.nil_append] at g13
      exact g13
  | succ m ih =>
    intro j fu f n I hfu hj h hl
    obtain ⟨fu, rfl⟩ : ∃ g, fu = g + 1 := ⟨fu - 1, by omega⟩
    obtain ⟨c1, c2, c3, c4⟩ := hC j (by omega)
    have hb := (id_in (hn j) (hk j) (V j)).2.2.2.2
    rw [j_de_ask_41, if_neg (nI_ge (by omega) (by omega))]
    refine ok.b (pu_addId (N := 1500) (by decide) (by omega) hw c4 c1 c2 c3 h (by simp; omega)) (fun y g => ?_)
    rw [bnd_eq, nI_1]
    rw [List.append_assoc] at g
    refine ok.m (ih (j + 1) fu y.1 y.2 _ (by omega) (by omega) g (by rw [List.length_append]; omega)) (fun z hz => ?_)
    rw [List.append_assoc] at hz
    exact hz
theorem r16 {w : Nat} (hw : w ≤ 8) {nm ns wo ws : Nat → Int32} {ky : Nat → Int64} {hn hk : Nat → Int64} {V : Nat → Nat} (hR : ∀ j, j < w → ∃ a A, a < 4 ∧ wo j = nI a ∧ ws j = nI (V j) ∧ V j < 2 ^ 31 ∧ GG nm (16 * a) A ∧ A.length ≤ 16 ∧ ns a = nI A.length ∧ hl A = hn j ∧ hE (hL h0 (ky a)) = hk j) {no : Nat → Int32} {nz : Int32} {B : List Int32} (hB : WW no nz B) (hB8 : B.length ≤ 8) (o : Nat → Int32) (ol : Int32) : ∀ (m j fu : Nat) (f : Nat → Int32) (n : Int32) (I : List Int32) (xh : Int64), m < fu → j + m = w → WW f n I → I.length + 36 * m ≤ 288 → ok (j_ask_16 fu o ol nm ns ky (nI w) wo ws no nz xh f n (nI j)) (fun y => y.1 = y.2.2.1 ∧ y.2.2.2.1 = 0 ∧ WW y.2.1 y.2.2.1 (askL (I ++ idsL hn hk V j m) B)) := by
  obtain ⟨rfl, hB⟩ := hB
  intro m
  induction m with
  | zero =>
    intro j fu f n I xh hfu hj h hl
    obtain ⟨fu, rfl⟩ : ∃ g, fu = g + 1 := ⟨fu - 1, by omega⟩
    have hi := itm_le (s := 48) (show I.length ≤ 288 by omega)
    rw [j_ask_16, if_pos (nI_le (by omega) (by omega)), idsL, List.append_nil]
    refine ok.b (p_wrap0 h (by omega) 48) (fun y3 g3 => ?_)
    by_cases h0 : B.length = 0
    · rw [h0, if_pos (by decide)]
      refine ok.b (p_wrap0 g3 (by omega) 48) (fun y5 g5 => ?_)
      have hll := itm_le (s := 48) hi
      refine ok.b (p_tellDraft g5 (by omega) ol o) (fun y6 g6 => ok.s ⟨by rw [g6.1]; exact g6.2.1.symm, rfl, ?_⟩)
      rw [askL, nonL, if_pos h0, List.append_nil]
      exact g6.2
    · have hnl := itm_le (s := 162) (itm_le (s := 4) hB8)
      rw [if_neg (nI_nle (by omega) (by omega)), bnd_eq]
      have hr := p_layRow (Ng := 8) (a := 0) (g := no) (by decide) (m := B.length) (by unfold FU; omega) (by omega) (fun j hj => GG_at hB hj) g3 (by omega)
      rw [Nat.zero_add, show nI 0 = 0 from rfl, sl_GG B 0 hB] at hr
      refine ok.b hr (fun y8 g8 => ?_)
      rw [g3.1]
      refine ok.b (p_wrap g8 (by omega) 4) (fun y9 g9 => ?_)
      have h4 := itm_le (s := 4) hB8
      refine ok.b (p_wrap g9 (by omega) 162) (fun y10 g10 => ?_)
      have hl3 : (itm 48 I ++ itm 162 (itm 4 B)).length ≤ 308 := by rw [List.length_append]; omega
      refine ok.b (p_wrap0 g10 (by omega) 48) (fun y11 g11 => ?_)
      have hl4 := itm_le (s := 48) hl3
      refine ok.b (p_tellDraft g11 (by omega) ol o) (fun y12 g12 => ok.s ⟨by rw [g12.1]; exact g12.2.1.symm, rfl, ?_⟩)
      rw [askL, nonL, if_neg h0]
      exact g12.2
  | succ m ih =>
    intro j fu f n I xh hfu hj h hl1
    obtain ⟨fu, rfl⟩ : ∃ g, fu = g + 1 := ⟨fu - 1, by omega⟩
    obtain ⟨a, A, c1, c2, c3, c4, c5, c6, c7, c8, c9⟩ := hR j (by omega)
    have hb := (id_in (hn j) (hk j) (V j)).2.2.2.2
    have h8 : ¬ (nI j < 0 ∨ 8 ≤ (nI j).toNatClampNeg) := inN (by omega) (by omega)
    rw [j_ask_16, if_neg (nI_ge (by omega) (by omega)), chk_t h8, chk_t h8, nI_clamp (by omega), c2, c3, nI_l c4]
    refine ok.b (p_layId (ky := ky) c1 c5 c6 c7 c4 h (by omega) xh) (fun y g => ?_)
    rw [bnd_eq, nI_1]
    rw [c8, c9] at g
    refine ok.m (ih (j + 1) fu y.2.1 y.2.2 _ y.1 (by omega) (by omega) g (by rw [List.length_append]; omega)) (fun z hz => ?_)
    rw [List.append_assoc] at hz
    exact hz
theorem ask_l {I B : List Int32} (hI : I.length ≤ 288) (hB : B.length ≤ 8) : (askL I B).length ≤ 1500 := by
  have h1 := itm_le (s := 48) hI
  have h2 := non_l (k := 162) hB
  have h3 : (itm 48 I ++ nonL 162 B).length ≤ 308 := by rw [List.length_append]; omega
  have := itm_le (s := 48) h3
  unfold askL
  omega
theorem P_ask {w : Nat} (hw : w ≤ 8) {NH KH : Nat → Int64} {SE : Nat → Int32} {hn hk : Nat → Int64} {V : Nat → Nat} (hC : ∀ j, j < w → NH j = hn j ∧ KH j = hk j ∧ SE j = nI (V j) ∧ V j < 2 ^ 31) {nm ns wo ws : Nat → Int32} {ky : Nat → Int64} (hR : ∀ j, j < w → ∃ a A, a < 4 ∧ wo j = nI a ∧ ws j = nI (V j) ∧ V j < 2 ^ 31 ∧ GG nm (16 * a) A ∧ A.length ≤ 16 ∧ ns a = nI A.length ∧ hl A = hn j ∧ hE (hL h0 (ky a)) = hk j) {nd no : Nat → Int32} {nl nz : Int32} {B : List Int32} (hB1 : WW nd nl B) (hB2 : WW no nz B) (hB8 : B.length ≤ 8) {o od : Nat → Int32} {ol odl : Int32} {A0 : List Int32} (h1 : WW o ol A0) (h2 : WW od odl A0) (hA0 : A0.length ≤ 1500) (xh : Int64) (dr : Nat → Int32) (dl : Int32) : ∃ y z, f_ask o ol nm ns ky (nI w) wo ws no nz xh dr dl = some y ∧ f_de_ask od odl nd nl (nI w) KH NH SE = some z ∧ y.1 = z.1 ∧ y.2.2.2.1 = z.2.2.2 ∧ (z.2.2.2 = nI w ∨ z.2.2.2 = 0) ∧ ∃ A, WW y.2.1 y.2.2.1 A ∧ WW z.2.1 z.2.2.1 A ∧ A.length ≤ 1500 := by
  unfold f_ask f_de_ask
  by_cases hw0 : w = 0
  · subst hw0
    rw [if_pos (by decide), if_pos (by decide)]
    exact ⟨_, _, rfl, rfl, rfl, rfl, Or.inl rfl, A0, h1, h2, hA0⟩
  · rw [if_neg (nI_ne0 (by omega) (by omega)), if_neg (nI_ne0 (by omega) (by omega))]
    have hl := ids_l hn hk V w 0
    obtain ⟨y, e1, e2, e3, e4⟩ := r16 hw hR hB2 hB8 o ol w 0 FU dr 0 [] xh (by unfold FU; omega) (by omega) (WW_nil dr) (by simp; omega)
    rw [show nI 0 = 0 from rfl] at e1
    obtain ⟨y3, k1, k2⟩ := pu_open (N := 1500) (by decide) (WW_nil od) (by decide) 48
    obtain ⟨y5, k3, k4⟩ := pu_open (N := 1500) (by decide) k2.2 (by simp) 48
    obtain ⟨z, k5, k6, k7, k8⟩ := a41 hw hC hB1 hB8 w 0 FU y5.2.1 y5.2.2 [] (by unfold FU; omega) (by omega) (by rw [List.append_nil]; exact k4.2) (by simp; omega)
    unfold f_by_clear
    rw [Option.bind_some, k1, Option.bind_some, bnd_eq, k3, Option.bind_some, bnd_eq, k2.1, k4.1]
    rw [show nI 0 = 0 from rfl] at k5
    rw [show nI ([] : List Int32).length = 0 from rfl, show nI (([] : List Int32) ++ [BB 48]).length = nI 1 from rfl]
    refine ⟨y, z, e1, k5, ?_, by rw [e3, k7], Or.inr k7, _, e4, k8, ?_⟩
    · rw [e2, k6, e4.1, k8.1]
    · rw [List.nil_append]
      exact ask_l (by omega) hB8
