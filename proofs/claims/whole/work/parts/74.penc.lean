/-! PURE 24: what is written: bytes, hashes, codes, times; digests and signatures -/
section CX
variable {N : Nat} {f : Nat → Int32} {n : Int32} {L : List Int32}
theorem pu_addBytes (hN : N ≤ 4000) {M Ng : Nat} {g : Nat → Int32} (hM : M ≤ Ng) (hM2 : M < 2 ^ 31) {a c : Nat} (hac : a + c ≤ M) (hc : c < FU) (hg : ∀ j, j < c → isb (g (a + j))) (h : WW f n L) (hl : L.length + c + 4 ≤ N) : ok (f_by_addBytes f n g (nI M) N Ng (nI a) (nI c)) (fun y => WW y.1 y.2 (L ++ itm 4 (sl g a c))) := by
  unfold f_by_addBytes
  refine ok.b (pu_open (by omega) h (by omega) 4) (fun y hy => ?_)
  rw [bnd_eq, hy.1]
  refine ok.b (pu_addAll (by omega) hM hM2 hac hc hg hy.2 (by simp; omega)) (fun z hz => ?_)
  exact ok.b (pu_close hN hz (by rw [sl_l]; omega)) (fun w hw => ok.s hw)
theorem pu_tagged (hN : N ≤ 4000) {M Ng : Nat} {g : Nat → Int32} (hM : M ≤ Ng) (hM2 : M < 2 ^ 31) {a c : Nat} (hac : a + c ≤ M) (hc : c < FU) (hg : ∀ j, j < c → isb (g (a + j))) (tag : Int32) (h : WW f n L) (hl : L.length + c + 8 ≤ N) : ok (f_by_addTaggedBytes f n g (nI M) N Ng tag (nI a) (nI c)) (fun y => WW y.1 y.2 (L ++ itm (160 + tag) (itm 4 (sl g a c)))) := by
  unfold f_by_addTaggedBytes
  have := (itm_l 4 (sl g a c)).1
  rw [sl_l] at this
  refine ok.b (pu_open (by omega) h (by omega) (160 + tag)) (fun y hy => ?_)
  rw [bnd_eq, hy.1]
  refine ok.b (pu_addBytes hN hM hM2 hac hc hg hy.2 (by simp; omega)) (fun z hz => ?_)
  exact ok.b (pu_close hN hz (by omega)) (fun w hw => ok.s hw)
theorem pu_addHash (hN : N ≤ 4000) (v : Int64) (h : WW f n L) (hl : L.length + 12 ≤ N) : ok (f_by_addHash f n N v) (fun y => WW y.1 y.2 (L ++ itm 4 (hbl v 8))) := by
  unfold f_by_addHash
  refine ok.b (pu_open (by omega) h (by omega) 4) (fun y hy => ?_)
  rw [bnd_eq, hy.1]
  refine ok.b (pu_highF (m := 8) (by omega) v (by decide) hy.2 (by simp; omega)) (fun z hz => ?_)
  exact ok.b (pu_close hN hz (by rw [hbl_l]; omega)) (fun w hw => ok.s hw)
theorem pu_addCode (hN : N ≤ 4000) (c : Int32) (h : WW f n L) (hl : L.length + 5 ≤ N) : ok (f_by_addCode f n N c) (fun y => WW y.1 y.2 (L ++ itm 10 [BB c])) := by
  unfold f_by_addCode
  refine ok.b (pu_open (by omega) h (by omega) 10) (fun y hy => ?_)
  rw [bnd_eq, hy.1]
  refine ok.b (pu_add (by omega) hy.2 (by simp; omega) c) (fun z hz => ?_)
  exact ok.b (pu_close hN hz (by simp; omega)) (fun w hw => ok.s hw)
theorem pu_addSig (hN : N ≤ 4000) (v : Int64) (h : WW f n L) (hl : L.length + 13 ≤ N) : ok (f_by_addSignature f n N v) (fun y => WW y.1 y.2 (L ++ itm 3 (BB 0 :: hbl v 8))) := by
  unfold f_by_addSignature
  refine ok.b (pu_open (by omega) h (by omega) 3) (fun y hy => ?_)
  rw [bnd_eq, hy.1]
  refine ok.b (pu_add (by omega) hy.2 (by simp; omega) 0) (fun z hz => ?_)
  refine ok.b (pu_highF (m := 8) (by omega) v (by decide) hz (by simp; omega)) (fun w hw => ?_)
  rw [app1] at hw
  exact ok.b (pu_close hN hw (by rw [List.length_cons, hbl_l]; omega)) (fun w hw => ok.s hw)
/-! times -/
def tml (t : Nat) : Nat → Nat → List Int32
  | _, 0 => []
  | k, m + 1 => BB (nI (tmC t k)) :: tml t (k + 1) m
theorem tml_l (t m : Nat) : ∀ k, (tml t k m).length = m := by
  induction m with
  | zero => intro k; rfl
  | succ m ih => intro k; unfold tml; rw [List.length_cons, ih]
def encT (t : Nat) : List Int32 := itm 24 (tml t 0 15)
theorem encT_l (t : Nat) : (encT t).length = 17 := by
  unfold encT itm lenB
  rw [tml_l, if_pos (by decide), List.length_cons, List.length_append, tml_l]
  rfl
theorem pu_t16 (hN : N ≤ 4000) {t : Nat} (ht : t < 3155760000) {L0 : List Int32} : ∀ (m k fu : Nat) (f : Nat → Int32) (n : Int32) (C : List Int32), m < fu → k + m = 15 → WW f n (L0 ++ [BB 24] ++ C) → L0.length + C.length + m + 4 ≤ N → ok (j_by_addTime_16 fu f n N (lN (SS t)) (nI L0.length) (nI k)) (fun y => WW y.1 y.2 (L0 ++ itm 24 (C ++ tml t k m))) := by
  intro m
  induction m with
  | zero =>
    intro k fu f n C hfu hk h hl
    obtain ⟨fu, rfl⟩ : ∃ g, fu = g + 1 := ⟨fu - 1, by omega⟩
    rw [j_by_addTime_16, if_pos (show (15 : Int32) ≤ nI k from nI_le (a := 15) (by omega) (by omega))]
    unfold tml
    rw [List.append_nil]
    exact ok.b (pu_close hN h (by omega)) (fun w hw => ok.s hw)
  | succ m ih =>
    intro k fu f n C hfu hk h hl
    obtain ⟨fu, rfl⟩ : ∃ g, fu = g + 1 := ⟨fu - 1, by omega⟩
    rw [j_by_addTime_16, if_neg (show ¬ (15 : Int32) ≤ nI k from nI_ge (b := 15) (by omega) (by decide)), pu_char ht (by omega), Option.bind_some]
    refine ok.b (pu_add (by omega) h (by simp; omega) _) (fun y hy => ?_)
    rw [bnd_eq, nI_1]
    rw [List.append_assoc] at hy
    have := ih (k + 1) fu y.1 y.2 _ (by omega) (by omega) hy (by simp; omega)
    rw [app1] at this
    exact this
theorem pu_addTime (hN : N ≤ 4000) {t : Nat} (ht : t < 3155760000) (h : WW f n L) (hl : L.length + 19 ≤ N) : ok (f_by_addTime f n N (lN t)) (fun y => WW y.1 y.2 (L ++ encT t)) := by
  unfold f_by_addTime
  rw [p_stamp ht, Option.bind_some]
  refine ok.b (pu_open (by omega) h (by omega) 24) (fun y hy => ?_)
  rw [bnd_eq, hy.1]
  have e := hy.2
  rw [← List.append_nil (L ++ [BB 24])] at e
  have r := pu_t16 hN ht (L0 := L) 15 0 FU y.2.1 y.2.2 [] (by decide) rfl e (by simp; omega)
  rw [List.nil_append] at r
  unfold encT
  exact r
theorem p_t13 {t : Nat} (ht : t < 3155760000) (g : Nat → Int32) {L0 : List Int32} : ∀ (m k fu : Nat) (f : Nat → Int32) (n : Int32) (C : List Int32), m < fu → k + m = 15 → WW f n (L0 ++ C) → L0.length + C.length + m + 4 ≤ 4000 → ok (j_layTime_13 fu (shw g (t / 86400) (t % 86400)) f n (nI L0.length) (nI k)) (fun y => WW y.2.1 y.2.2 (L0 ++ itm 24 (C ++ tml t k m))) := by
  intro m
  induction m with
  | zero =>
    intro k fu f n C hfu hk h hl
    obtain ⟨fu, rfl⟩ : ∃ g, fu = g + 1 := ⟨fu - 1, by omega⟩
    rw [j_layTime_13, if_pos (show (15 : Int32) ≤ nI k from nI_le (a := 15) (by omega) (by omega))]
    unfold tml
    rw [List.append_nil]
    exact ok.b (p_wrap h (by omega) 24) (fun w hw => ok.s hw)
  | succ m ih =>
    intro k fu f n C hfu hk h hl
    obtain ⟨fu, rfl⟩ : ∃ g, fu = g + 1 := ⟨fu - 1, by omega⟩
    rw [j_layTime_13, if_neg (show ¬ (15 : Int32) ≤ nI k from nI_ge (b := 15) (by omega) (by decide)), p_char ht g (by omega), Option.bind_some]
    refine ok.b (p_lay h (by simp; omega) _) (fun y hy => ?_)
    rw [bnd_eq, nI_1]
    rw [List.append_assoc] at hy
    have := ih (k + 1) fu y.1 y.2 _ (by omega) (by omega) hy (by simp; omega)
    rw [app1] at this
    exact this
theorem p_layTime {t : Nat} (ht : t < 3155760000) (g : Nat → Int32) (h : WW f n L) (hl : L.length + 19 ≤ 4000) : ok (f_layTime g f n (lN t)) (fun y => WW y.2.1 y.2.2 (L ++ encT t)) := by
  unfold f_layTime
  rw [p_show ht, Option.bind_some]
  have e := h
  rw [← List.append_nil L] at e
  have := p_t13 ht g (L0 := L) 15 0 FU f n [] (by decide) rfl e (by simp; omega)
  rw [← h.1, List.nil_append] at this
  unfold encT
  exact this
theorem p_layHash (v : Int64) (h : WW f n L) (hl : L.length + 12 ≤ 4000) : ok (f_layHash f n v) (fun y => WW y.1 y.2 (L ++ itm 4 (hbl v 8))) := by
  unfold f_layHash
  refine ok.b (p_layLong v h (by omega)) (fun y hy => ?_)
  rw [h.1]
  exact ok.b (p_wrap hy (by rw [hbl_l]; omega) 4) (fun w hw => ok.s hw)
theorem p_layCode (c : Int32) (h : WW f n L) (hl : L.length + 5 ≤ 4000) : ok (f_layCode f n c) (fun y => WW y.1 y.2 (L ++ itm 10 [BB c])) := by
  unfold f_layCode
  refine ok.b (p_lay h (by omega) c) (fun y hy => ?_)
  rw [h.1]
  exact ok.b (p_wrap hy (by simp; omega) 10) (fun w hw => ok.s hw)
end CX
/-! digests of lists -/
def hF (A : List Int32) (h : Int64) : Int64 := A.foldl hS h
theorem hB_GG {f : Nat → Int32} : ∀ (A : List Int32) (a : Nat) (h : Int64), GG f a A → hB f h a A.length = hF A h := by
  intro A
  induction A with
  | nil => intro a h _; rw [List.length_nil, hB, hF, List.foldl_nil]
  | cons x A ih =>
    intro a h hg
    rw [List.length_cons, hB, (GG_hd hg).1, ih (a + 1) _ (GG_tl hg), hF, hF, List.foldl_cons]
def hl (A : List Int32) : Int64 := hE (hF A h0)
theorem p_hashOf {f : Nat → Int32} {N a : Nat} {A : List Int32} (hg : GG f a A) (hN : a + A.length ≤ N) (h31 : N < 2 ^ 31) (hA : A.length < FU) (x : Int64) : f_hashOf x f N (nI a) (nI (a + A.length)) = some (hl A, hF A h0) := by
  unfold f_hashOf f_beginHash f_hashRow
  rw [Option.bind_some, show (7640891576956012809 : Int64) = h0 from rfl, p_hashRow f N A.length a h0 FU hA hN (by omega), Option.bind_some, hB_GG A a h0 hg, p_endHash, Option.bind_some]
  rfl
theorem pu_digest {f : Nat → Int32} {N M a : Nat} {A : List Int32} (hg : GG f a A) (hM : a + A.length ≤ M) (hN : M ≤ N) (h31 : M < 2 ^ 31) (hA : A.length < FU) : f_by_digest f (nI M) N (nI a) (nI (a + A.length)) = some (hl A) := by
  unfold f_by_digest
  rw [show (7640891576956012809 : Int64) = h0 from rfl, p_digest f M N hN h31 A.length a h0 FU hA hM, hB_GG A a h0 hg]
  rfl
