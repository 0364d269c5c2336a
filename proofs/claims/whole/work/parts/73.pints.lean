/-! PURE 23: integers, rows, hashes, times that are written -/
theorem pu_intF {N : Nat} (hN : N ≤ 4000) (v : Int64) {m : Nat} (hm : m ≤ 8) {f : Nat → Int32} {n : Int32} {L : List Int32} (h : WW f n L) (hl : L.length + m + 4 ≤ N) : ok ((f_by_open f n N 2).bind fun y_2 => bnd (y_2.1) fun v4_3 => (f_by_addHighestFirst y_2.2.1 y_2.2.2 N v (nI m)).bind fun y_4 => (f_by_close y_4.1 y_4.2 N v4_3).bind fun y_5 => some (y_5.1, y_5.2)) (fun y => WW y.1 y.2 (L ++ itm 2 (hbl v m))) := by
  refine ok.b (pu_open (by omega) h (by omega) 2) (fun y hy => ?_)
  rw [bnd_eq, hy.1]
  refine ok.b (pu_highF (by omega) v hm hy.2 (by simp; omega)) (fun z hz => ?_)
  refine ok.b (pu_close hN hz (by rw [hbl_l]; omega)) (fun w hw => ok.s hw)
theorem pu_addInt {N : Nat} (hN : N ≤ 4000) {V : Nat} (hV : V < 2 ^ 31) {f : Nat → Int32} {n : Int32} {L : List Int32} (h : WW f n L) (hl : L.length + 8 ≤ N) : ok (f_by_addInteger f n N (lN V)) (fun y => WW y.1 y.2 (L ++ encI V)) := by
  obtain ⟨e1, e2, e3, e4⟩ := shi hV
  have z : ∀ {a : Nat}, a < 2 ^ 31 → ((lN a = 0) ↔ a = 0) := fun {a} ha => pk_lEQ (b := 0) (by omega) (by decide)
  unfold f_by_addInteger encI il
  rw [show FU = 4996 + 1 + 1 + 1 + 1 from rfl, show (1 : Int32) = nI 1 from rfl, j_by_addInteger_2, if_neg (by decide), e1]
  by_cases c1 : V < 128
  · rw [if_pos c1, if_pos ((z (by omega)).mpr (by omega))]
    exact pu_intF hN _ (by decide) h (by omega)
  · rw [if_neg c1, if_neg (fun q => by have := (z (by omega)).mp q; omega), bnd_eq, nI_1, j_by_addInteger_2, if_neg (by decide), e2]
    by_cases c2 : V < 32768
    · rw [if_pos c2, if_pos ((z (by omega)).mpr (by omega))]
      exact pu_intF hN _ (by decide) h (by omega)
    · rw [if_neg c2, if_neg (fun q => by have := (z (by omega)).mp q; omega), bnd_eq, nI_1, j_by_addInteger_2, if_neg (by decide), e3]
      by_cases c3 : V < 8388608
      · rw [if_pos c3, if_pos ((z (by omega)).mpr (by omega))]
        exact pu_intF hN _ (by decide) h (by omega)
      · rw [if_neg c3, if_neg (fun q => by have := (z (by omega)).mp q; omega), bnd_eq, nI_1, j_by_addInteger_2, if_neg (by decide), e4, if_pos ((z (by omega)).mpr (by omega))]
        exact pu_intF hN _ (by decide) h (by omega)
theorem p_41 (v : Int64) {L0 : List Int32} : ∀ (m fu : Nat) (f : Nat → Int32) (n : Int32) (C : List Int32), m ≤ 8 → m < fu → WW f n (L0 ++ C) → L0.length + C.length + m + 4 ≤ 4000 → ok (j_layInteger_41 fu f n v (nI L0.length) (nI m + (-1))) (fun y => WW y.1 y.2 (L0 ++ itm 2 (C ++ hbl v m))) := by
  intro m
  induction m with
  | zero =>
    intro fu f n C _ hfu h hl
    obtain ⟨fu, rfl⟩ : ∃ g, fu = g + 1 := ⟨fu - 1, by omega⟩
    rw [j_layInteger_41, if_pos (by decide)]
    unfold hbl
    rw [List.append_nil]
    exact ok.b (p_wrap h (by omega) 2) (fun y hy => ok.s hy)
  | succ m ih =>
    intro fu f n C hm hfu h hl
    obtain ⟨fu, rfl⟩ : ∃ g, fu = g + 1 := ⟨fu - 1, by omega⟩
    rw [j_layInteger_41, pk_m1, if_neg (nI_pos (by omega)), m8]
    refine ok.b (p_lay h (by simp; omega) _) (fun y hy => ?_)
    rw [bnd_eq]
    rw [bt_L v (by omega), List.append_assoc] at hy
    have := ih fu y.1 y.2 _ (by omega) (by omega) hy (by simp; omega)
    rw [app1] at this
    exact this
theorem p_layInt {V : Nat} (hV : V < 2 ^ 31) {f : Nat → Int32} {n : Int32} {L : List Int32} (h : WW f n L) (hl : L.length + 8 ≤ 4000) : ok (f_layInteger f n (lN V)) (fun y => WW y.1 y.2 (L ++ encI V)) := by
  obtain ⟨e1, e2, e3, e4⟩ := shi hV
  have z : ∀ {a : Nat}, a < 2 ^ 31 → ((lN a ≤ 0) ↔ a = 0) := fun {a} ha => by
    rw [show (lN a ≤ 0) ↔ a ≤ 0 from pk_lLE (b := 0) (by omega) (by decide)]
    omega
  have fin : ∀ m, 1 ≤ m → m ≤ 4 → ok (bnd (nI m - 1) fun v5_2 => j_layInteger_41 FU f n (lN V) n v5_2) (fun y => WW y.1 y.2 (L ++ itm 2 (hbl (lN V) m))) := fun m h1 h4 => by
    have := p_41 (lN V) (L0 := L) m FU f n [] (by omega) (by unfold FU; omega) (by rw [List.append_nil]; exact h) (by simp; omega)
    rw [List.nil_append, ← h.1] at this
    rw [bnd_eq, sub1]
    exact this
  unfold f_layInteger encI il
  rw [show FU = 4996 + 1 + 1 + 1 + 1 from rfl, show (1 : Int32) = nI 1 from rfl, j_layInteger_8, if_neg (by decide), e1]
  by_cases c1 : V < 128
  · rw [if_pos c1, if_pos ((z (by omega)).mpr (by omega))]
    exact fin 1 (by decide) (by decide)
  · rw [if_neg c1, if_neg (fun q => by have := (z (by omega)).mp q; omega), bnd_eq, nI_1, j_layInteger_8, if_neg (by decide), e2]
    by_cases c2 : V < 32768
    · rw [if_pos c2, if_pos ((z (by omega)).mpr (by omega))]
      exact fin 2 (by decide) (by decide)
    · rw [if_neg c2, if_neg (fun q => by have := (z (by omega)).mp q; omega), bnd_eq, nI_1, j_layInteger_8, if_neg (by decide), e3]
      by_cases c3 : V < 8388608
      · rw [if_pos c3, if_pos ((z (by omega)).mpr (by omega))]
        exact fin 3 (by decide) (by decide)
      · rw [if_neg c3, if_neg (fun q => by have := (z (by omega)).mp q; omega), bnd_eq, nI_1, j_layInteger_8, if_neg (by decide), e4, if_pos ((z (by omega)).mpr (by omega))]
        exact fin 4 (by decide) (by decide)
/-! rows -/
def sl (g : Nat → Int32) : Nat → Nat → List Int32
  | _, 0 => []
  | a, n + 1 => g a :: sl g (a + 1) n
theorem sl_l (g : Nat → Int32) (n : Nat) : ∀ a, (sl g a n).length = n := by
  induction n with
  | zero => intro a; rfl
  | succ n ih => intro a; unfold sl; rw [List.length_cons, ih]
theorem sl_c {g g' : Nat → Int32} (n : Nat) : ∀ a b, (∀ j, j < n → g (a + j) = g' (b + j)) → sl g a n = sl g' b n := by
  induction n with
  | zero => intro a b _; rfl
  | succ n ih =>
    intro a b h
    unfold sl
    have h0 := h 0 (by omega)
    rw [Nat.add_zero, Nat.add_zero] at h0
    rw [h0, ih (a + 1) (b + 1) (fun j hj => by rw [show a + 1 + j = a + (j + 1) by omega, show b + 1 + j = b + (j + 1) by omega]; exact h (j + 1) (by omega))]
theorem sl_GG {f : Nat → Int32} : ∀ (A : List Int32) (a : Nat), GG f a A → sl f a A.length = A := by
  intro A
  induction A with
  | nil => intro a _; rfl
  | cons x A ih =>
    intro a h
    rw [List.length_cons]
    unfold sl
    rw [(GG_hd h).1, ih (a + 1) (GG_tl h)]
theorem BB_and {x : Int32} (h : isb x) : BB (x &&& 255) = x := by
  have : BB (x &&& 255) = BB x := nar_congr (by
    rw [u8_eq x, u8_nI]
    have := u8_lt x
    omega)
  rw [this]
  exact nar_isb h
theorem pu_all {N M Ng : Nat} (hN : N < 2 ^ 31) {g : Nat → Int32} (hM : M ≤ Ng) (hM2 : M < 2 ^ 31) {a c : Nat} (hac : a + c ≤ M) (hg : ∀ j, j < c → isb (g (a + j))) : ∀ (m k fu : Nat) (f : Nat → Int32) (n : Int32) (L : List Int32), m < fu → k + m = c → WW f n L → L.length + m ≤ N → ok (j_by_addAll_3 fu f n g (nI M) N Ng (nI a) (nI c) (nI k)) (fun y => WW y.1 y.2 (L ++ sl g (a + k) m)) := by
  intro m
  induction m with
  | zero =>
    intro k fu f n L hfu hk h hl
    obtain ⟨fu, rfl⟩ : ∃ g, fu = g + 1 := ⟨fu - 1, by omega⟩
    rw [j_by_addAll_3, if_pos (nI_le (by omega) (by omega))]
    refine ok.s ?_
    unfold sl
    rw [List.append_nil]
    exact h
  | succ m ih =>
    intro k fu f n L hfu hk h hl
    obtain ⟨fu, rfl⟩ : ∃ g, fu = g + 1 := ⟨fu - 1, by omega⟩
    rw [j_by_addAll_3, if_neg (nI_ge (by omega) (by omega)), nI_add, p_byteAt (by omega) hM hM2, Option.bind_some]
    refine ok.b (pu_add hN h (by omega) _) (fun y hy => ?_)
    rw [bnd_eq, nI_1]
    rw [BB_and (hg k (by omega))] at hy
    have := ih (k + 1) fu y.1 y.2 _ (by omega) (by omega) hy (by simp; omega)
    rw [app1] at this
    exact this
theorem pu_addAll {N M Ng : Nat} (hN : N < 2 ^ 31) {g : Nat → Int32} (hM : M ≤ Ng) (hM2 : M < 2 ^ 31) {a c : Nat} (hac : a + c ≤ M) (hc : c < FU) (hg : ∀ j, j < c → isb (g (a + j))) {f : Nat → Int32} {n : Int32} {L : List Int32} (h : WW f n L) (hl : L.length + c ≤ N) : ok (f_by_addAll f n g (nI M) N Ng (nI a) (nI c)) (fun y => WW y.1 y.2 (L ++ sl g a c)) := by
  unfold f_by_addAll
  exact pu_all hN hM hM2 hac hg c 0 FU f n L hc (by omega) h hl
theorem p_row {Ng : Nat} (hNg : Ng < 2 ^ 31) {g : Nat → Int32} : ∀ (m a fu : Nat) (f : Nat → Int32) (n : Int32) (L : List Int32), m < fu → a + m ≤ Ng → (∀ j, j < m → isb (g (a + j))) → WW f n L → L.length + m ≤ 4000 → ok (j_layRow_3 fu f n g Ng (nI (a + m)) (nI a)) (fun y => WW y.1 y.2 (L ++ sl g a m)) := by
  intro m
  induction m with
  | zero =>
    intro a fu f n L hfu _ _ h hl
    obtain ⟨fu, rfl⟩ : ∃ g, fu = g + 1 := ⟨fu - 1, by omega⟩
    rw [j_layRow_3, if_pos (nI_le (by omega) (by omega))]
    refine ok.s ?_
    unfold sl
    rw [List.append_nil]
    exact h
  | succ m ih =>
    intro a fu f n L hfu hb hg h hl
    obtain ⟨fu, rfl⟩ : ∃ g, fu = g + 1 := ⟨fu - 1, by omega⟩
    rw [j_layRow_3, if_neg (nI_ge (by omega) (by omega)), chk_t (inN (by omega) (by omega)), nI_clamp (by omega)]
    refine ok.b (p_lay h (by omega) _) (fun y hy => ?_)
    rw [bnd_eq, nI_1]
    have h0 := hg 0 (by omega)
    rw [Nat.add_zero] at h0
    rw [show BB (g a) = g a from nar_isb h0] at hy
    have := ih (a + 1) fu y.1 y.2 _ (by omega) (by omega) (fun j hj => by rw [show a + 1 + j = a + (j + 1) by omega]; exact hg (j + 1) (by omega)) hy (by simp; omega)
    rw [app1, show a + 1 + m = a + (m + 1) by omega] at this
    exact this
theorem p_layRow {Ng : Nat} (hNg : Ng < 2 ^ 31) {g : Nat → Int32} {m a : Nat} (hm : m < FU) (hb : a + m ≤ Ng) (hg : ∀ j, j < m → isb (g (a + j))) {f : Nat → Int32} {n : Int32} {L : List Int32} (h : WW f n L) (hl : L.length + m ≤ 4000) : ok (f_layRow f n g Ng (nI a) (nI (a + m))) (fun y => WW y.1 y.2 (L ++ sl g a m)) := by
  unfold f_layRow
  exact p_row hNg m a FU f n L hm hb hg h hl
theorem pu_copyOf {N Ng : Nat} (hN : N < 2 ^ 31) (hNg : Ng < 2 ^ 31) {g : Nat → Int32} {k : Int32} {A : List Int32} (h : WW g k A) (hl : A.length ≤ N) (hg : A.length ≤ Ng) (hF : A.length < FU) (f : Nat → Int32) (n : Int32) : ok (f_by_copyOf f n g k N Ng) (fun y => WW y.1 y.2 A) := by
  unfold f_by_copyOf f_by_clear
  rw [Option.bind_some]
  obtain ⟨rfl, h⟩ := h
  refine ok.b (pu_addAll hN hg (by omega) (a := 0) (c := A.length) (by omega) hF (fun j hj => GG_at h hj) (WW_nil f) (by simp; omega)) (fun y hy => ok.s ?_)
  rw [sl_GG A 0 h, List.nil_append] at hy
  exact hy
theorem p_tell {g : Nat → Int32} {k : Int32} {A : List Int32} (h : WW g k A) (hl : A.length ≤ 4000) (o : Int32) : ∀ (m j fu : Nat) (f : Nat → Int32), m < fu → j + m = A.length → (∀ i, i < j → f i = g i) → ok (j_tellDraft_2 fu f o g k (nI j)) (fun y => y.1 = nI A.length ∧ WW y.2.1 y.2.2 A) := by
  obtain ⟨rfl, h⟩ := h
  intro m
  induction m with
  | zero =>
    intro j fu f hfu hj hf
    obtain ⟨fu, rfl⟩ : ∃ g, fu = g + 1 := ⟨fu - 1, by omega⟩
    rw [j_tellDraft_2, if_pos (nI_le (by omega) (by omega))]
    exact ok.s ⟨rfl, rfl, GG_c h (fun i hi => hf _ (by omega))⟩
  | succ m ih =>
    intro j fu f hfu hj hf
    obtain ⟨fu, rfl⟩ : ∃ g, fu = g + 1 := ⟨fu - 1, by omega⟩
    have hb : isb (g j) := by have := GG_at h (j := j) (by omega); rwa [Nat.zero_add] at this
    rw [j_tellDraft_2, if_neg (nI_ge (by omega) (by omega)), chk_t (inN (by omega) (by omega)), chk_t (inN (by omega) (by omega)), nI_clamp (by omega), bnd_eq, bnd_eq, nI_1, nar_isb hb]
    refine ih (j + 1) fu _ (by omega) (by omega) (fun i hi => ?_)
    by_cases hij : i = j
    · subst hij; exact pk_us
    · rw [pk_un hij]; exact hf i (by omega)
theorem p_tellDraft {g : Nat → Int32} {k : Int32} {A : List Int32} (h : WW g k A) (hl : A.length ≤ 4000) (o : Int32) (f : Nat → Int32) : ok (f_tellDraft f o g k) (fun y => y.1 = nI A.length ∧ WW y.2.1 y.2.2 A) := by
  unfold f_tellDraft
  exact p_tell h hl o A.length 0 FU f (by unfold FU; omega) (by omega) (fun i hi => absurd hi (by omega))
