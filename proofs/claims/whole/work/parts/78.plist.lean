/-! PURE 28: an authority's list -/
def tmok (t : Int64) : Prop := ∃ T : Nat, T < 3155760000 ∧ t = lN T
def cdok (c : Int32) : Prop := ∃ C : Nat, C ≤ 10 ∧ c = nI C
def TB (k m : Nat) (S : Nat → Int32) (T : Nat → Int64) (R rS : Nat → Int32) (rT : Nat → Int64) (rR : Nat → Int32) : Prop := m ≤ 32 ∧ (∀ j, j < m → rS (32 * k + j) = S j ∧ rT (32 * k + j) = T j ∧ (¬ T j = -1 → rR (32 * k + j) = R j ∧ cdok (R j) ∧ tmok (T j))) ∧ (∀ i j, i < j → j < m → S i ≠ S j)
def cn (T : Nat → Int64) : Nat → Nat
  | 0 => 0
  | m + 1 => cn T m + (if T m = -1 then 0 else 1)
theorem cn_le (T : Nat → Int64) (m : Nat) : cn T m ≤ m := by
  induction m with
  | zero => exact Nat.le_refl _
  | succ m ih => unfold cn; split <;> omega
theorem cn_c {T T' : Nat → Int64} (m : Nat) (h : ∀ j, j < m → T j = T' j) : cn T m = cn T' m := by
  induction m with
  | zero => rfl
  | succ m ih => unfold cn; rw [ih (fun j hj => h j (by omega)), h m (by omega)]
theorem cn_up {T : Nat → Int64} {k : Nat} {x : Int64} (hk : T k = -1) (hx : ¬ x = -1) : ∀ m, cn (vp_updL T k x) m = cn T m + (if k < m then 1 else 0) := by
  intro m
  induction m with
  | zero => rfl
  | succ m ih =>
    unfold cn
    rw [ih]
    by_cases hm : m = k
    · subst hm
      rw [pk_uLs, if_neg hx, hk, if_pos rfl, if_neg (show ¬ m < m by omega), if_pos (show m < m + 1 by omega)]
    · rw [pk_uLn hm]
      by_cases hkm : k < m
      · rw [if_pos hkm, if_pos (show k < m + 1 by omega)]; omega
      · rw [if_neg hkm, if_neg (show ¬ k < m + 1 by omega)]; omega
theorem cn_dn {T : Nat → Int64} {k : Nat} (hk : ¬ T k = -1) : ∀ m, cn T m = cn (vp_updL T k (-1)) m + (if k < m then 1 else 0) := by
  intro m
  induction m with
  | zero => rfl
  | succ m ih =>
    unfold cn
    rw [ih]
    by_cases hm : m = k
    · subst hm
      rw [pk_uLs, if_neg hk, if_pos rfl, if_neg (show ¬ m < m by omega), if_pos (show m < m + 1 by omega)]
    · rw [pk_uLn hm]
      by_cases hkm : k < m
      · rw [if_pos hkm, if_pos (show k < m + 1 by omega)]; omega
      · rw [if_neg hkm, if_neg (show ¬ k < m + 1 by omega)]; omega
theorem l_inj {x y : Int32} : x.toInt64 = y.toInt64 ↔ x = y := by
  refine ⟨fun h => Int32.toInt_inj.mp ?_, fun h => by rw [h]⟩
  have := congrArg Int64.toInt h
  rwa [Int32.toInt_toInt64, Int32.toInt_toInt64] at this
section PL
variable {k m : Nat} {S rS riss : Nat → Int32}
theorem pl_none (hm : m ≤ 32) {s : Int32} (h : ∀ j, j < m → S j ≠ s) : f_au_placeOf (nI m) S s = some (-1) := by
  unfold f_au_placeOf
  have main : ∀ (n j fu : Nat), n < fu → j + n = m → j_au_placeOf_2 fu (nI m) S s (nI j) = some (-1) := by
    intro n
    induction n with
    | zero =>
      intro j fu hfu hj
      obtain ⟨fu, rfl⟩ : ∃ g, fu = g + 1 := ⟨fu - 1, by omega⟩
      rw [j_au_placeOf_2, if_pos (nI_le (by omega) (by omega))]
    | succ n ih =>
      intro j fu hfu hj
      obtain ⟨fu, rfl⟩ : ∃ g, fu = g + 1 := ⟨fu - 1, by omega⟩
      rw [j_au_placeOf_2, if_neg (nI_ge (by omega) (by omega)), chk_t (inN (by omega) (by omega)), nI_clamp (by omega), if_neg (h j (by omega)), bnd_eq, nI_1, ih (j + 1) fu (by omega) (by omega)]
  exact main m 0 FU (by unfold FU; omega) (by omega)
theorem pl_some (hm : m ≤ 32) {s : Int32} {p : Nat} (hp : p < m) (hs : S p = s) (h : ∀ j, j < p → S j ≠ s) : f_au_placeOf (nI m) S s = some (nI p) := by
  unfold f_au_placeOf
  have main : ∀ (n j fu : Nat), n < fu → j + n = p → j_au_placeOf_2 fu (nI m) S s (nI j) = some (nI p) := by
    intro n
    induction n with
    | zero =>
      intro j fu hfu hj
      obtain ⟨fu, rfl⟩ : ∃ g, fu = g + 1 := ⟨fu - 1, by omega⟩
      have : j = p := by omega
      subst this
      rw [j_au_placeOf_2, if_neg (nI_ge (by omega) (by omega)), chk_t (inN (by omega) (by omega)), nI_clamp (by omega), if_pos hs]
    | succ n ih =>
      intro j fu hfu hj
      obtain ⟨fu, rfl⟩ : ∃ g, fu = g + 1 := ⟨fu - 1, by omega⟩
      rw [j_au_placeOf_2, if_neg (nI_ge (by omega) (by omega)), chk_t (inN (by omega) (by omega)), nI_clamp (by omega), if_neg (h j (by omega)), bnd_eq, nI_1, ih (j + 1) fu (by omega) (by omega)]
  exact main p 0 FU (by unfold FU; omega) (by omega)
theorem m32 (k : Nat) : (32 : Int32) * nI k = nI (32 * k) := pk_mul 32 k
theorem fd (hk : k < 4) (hm : m ≤ 32) (hr : riss k = nI m) (hS : ∀ j, j < m → rS (32 * k + j) = S j) (s : Int32) : ∀ (n j fu : Nat) (v : Int32), n < fu → j + n = m → ((∀ i, j ≤ i → i < m → S i ≠ s) → j_find_9 fu riss rS (nI k) s.toInt64 v (nI (32 * k + j)) = some v) ∧ (∀ p, j ≤ p → p < m → S p = s → (∀ i, p < i → i < m → S i ≠ s) → j_find_9 fu riss rS (nI k) s.toInt64 v (nI (32 * k + j)) = some (nI (32 * k + p))) := by
  intro n
  induction n with
  | zero =>
    intro j fu v hfu hj
    obtain ⟨fu, rfl⟩ : ∃ g, fu = g + 1 := ⟨fu - 1, by omega⟩
    refine ⟨fun _ => ?_, fun p h1 h2 => absurd h1 (by omega)⟩
    rw [j_find_9, chk_t (inN (by omega) (by omega)), nI_clamp (by omega), hr, m32, nI_add, if_pos (nI_le (by omega) (by omega))]
  | succ n ih =>
    intro j fu v hfu hj
    obtain ⟨fu, rfl⟩ : ∃ g, fu = g + 1 := ⟨fu - 1, by omega⟩
    have hst : ∀ v, j_find_9 (fu + 1) riss rS (nI k) s.toInt64 v (nI (32 * k + j)) = j_find_9 fu riss rS (nI k) s.toInt64 (if S j = s then nI (32 * k + j) else v) (nI (32 * k + (j + 1))) := fun v => by
      rw [j_find_9, chk_t (inN (by omega) (by omega)), nI_clamp (by omega), hr, m32, nI_add, if_neg (nI_ge (by omega) (by omega)), chk_t (inN (by omega) (by omega)), nI_clamp (by omega), hS j (by omega), bnd_eq, bnd_eq, nI_1]
      by_cases hc : S j = s
      · rw [if_pos (by rw [hc]), if_pos hc]; rfl
      · rw [if_neg (fun q => hc (l_inj.mp q)), if_neg hc]; rfl
    refine ⟨fun h => ?_, fun p h1 h2 h3 h4 => ?_⟩
    · rw [hst, if_neg (h j (by omega) (by omega))]
      exact (ih (j + 1) fu v (by omega) (by omega)).1 (fun i hi => h i (by omega))
    · rw [hst]
      by_cases hpj : p = j
      · subst hpj
        rw [if_pos h3]
        exact (ih (p + 1) fu _ (by omega) (by omega)).1 (fun i hi => h4 i (by omega))
      · exact (ih (j + 1) fu _ (by omega) (by omega)).2 p (by omega) h2 h3 h4
theorem fi_none (hk : k < 4) (hm : m ≤ 32) (hr : riss k = nI m) (hS : ∀ j, j < m → rS (32 * k + j) = S j) {s : Int32} (h : ∀ j, j < m → S j ≠ s) : f_find riss rS (nI k) s.toInt64 = some (-1) := by
  unfold f_find
  rw [m32, bnd_eq]
  exact (fd hk hm hr hS s m 0 FU (-1) (by unfold FU; omega) (by omega)).1 (fun i _ hi => h i hi)
theorem fi_some (hk : k < 4) (hm : m ≤ 32) (hr : riss k = nI m) (hS : ∀ j, j < m → rS (32 * k + j) = S j) {s : Int32} {p : Nat} (hp : p < m) (hs : S p = s) (h : ∀ i, p < i → i < m → S i ≠ s) : f_find riss rS (nI k) s.toInt64 = some (nI (32 * k + p)) := by
  unfold f_find
  rw [m32, bnd_eq]
  exact (fd hk hm hr hS s m 0 FU (-1) (by unfold FU; omega) (by omega)).2 p (by omega) hp hs h
end PL
/-- a serial in a list: nowhere, or at one place; both sides find it there -/
theorem place {k m : Nat} {S : Nat → Int32} {T : Nat → Int64} {R rS : Nat → Int32} {rT : Nat → Int64} {rR riss : Nat → Int32} (hk : k < 4) (h : TB k m S T R rS rT rR) (hr : riss k = nI m) (s : Int32) : (f_au_placeOf (nI m) S s = some (-1) ∧ f_find riss rS (nI k) s.toInt64 = some (-1) ∧ ∀ j, j < m → S j ≠ s) ∨ ∃ p, p < m ∧ S p = s ∧ f_au_placeOf (nI m) S s = some (nI p) ∧ f_find riss rS (nI k) s.toInt64 = some (nI (32 * k + p)) := by
  obtain ⟨hm, h1, h2⟩ := h
  by_cases hx : ∃ p, p < m ∧ S p = s
  · obtain ⟨p, hp, hs⟩ := hx
    refine Or.inr ⟨p, hp, hs, pl_some hm hp hs (fun j hj e => h2 j p hj hp (by rw [e, hs])), fi_some hk hm hr (fun j hj => (h1 j hj).1) hp hs (fun i hi him e => h2 p i hi him (by rw [e, hs]))⟩
  · have hn : ∀ j, j < m → S j ≠ s := fun j hj e => hx ⟨j, hj, e⟩
    exact Or.inl ⟨pl_none hm hn, fi_none hk hm hr (fun j hj => (h1 j hj).1) hn, hn⟩
/-- what an operation on the list k leaves of the others -/
def FR (k : Nat) (rS : Nat → Int32) (rT : Nat → Int64) (rR riss rS' : Nat → Int32) (rT' : Nat → Int64) (rR' riss' : Nat → Int32) : Prop := (∀ i, (i < 32 * k ∨ 32 * k + 32 ≤ i) → rS' i = rS i ∧ rT' i = rT i ∧ rR' i = rR i) ∧ ∀ i, i ≠ k → riss' i = riss i
theorem FR_r {k : Nat} {rS : Nat → Int32} {rT : Nat → Int64} {rR riss : Nat → Int32} : FR k rS rT rR riss rS rT rR riss := ⟨fun _ _ => ⟨rfl, rfl, rfl⟩, fun _ _ => rfl⟩
theorem TB_o {k k' m : Nat} {S : Nat → Int32} {T : Nat → Int64} {R rS : Nat → Int32} {rT : Nat → Int64} {rR riss rS' : Nat → Int32} {rT' : Nat → Int64} {rR' riss' : Nat → Int32} (h : TB k' m S T R rS rT rR) (hf : FR k rS rT rR riss rS' rT' rR' riss') (hk : k' ≠ k) : TB k' m S T R rS' rT' rR' := by
  obtain ⟨hm, h1, h2⟩ := h
  refine ⟨hm, fun j hj => ?_, h2⟩
  obtain ⟨e1, e2, e3⟩ := hf.1 (32 * k' + j) (by omega)
  rw [e1, e2, e3]
  exact h1 j hj
theorem w_isAuth {c : Nat} (hc : c ≤ 4) (p : Int32) : f_isAuthority (nI c) p = some (if 0 ≤ p ∧ p < nI c then 1 else 0) := by
  unfold f_isAuthority
  rw [w_ix p (by omega), Option.bind_some]
  split
  · rfl
  · rfl
theorem isA_n {c : Nat} (hc : c ≤ 4) {p : Int32} (h : ¬ (0 ≤ p ∧ p < nI c)) : f_isAuthority (nI c) p = some 0 := by rw [w_isAuth hc, if_neg h]
theorem isA_y {c k : Nat} (hc : c ≤ 4) (hk : k < c) : f_isAuthority (nI c) (nI k) = some 1 := by rw [w_isAuth hc, if_pos ⟨nI_pos' (by omega), nI_lt hk (by omega)⟩]
theorem au_ix {c : Nat} (hc : c ≤ 4) {p : Int32} (h : 0 ≤ p ∧ p < nI c) : ∃ k, k < c ∧ p = nI k := by
  obtain ⟨j, hj, rfl⟩ := nI_of (Int32.not_lt.mpr h.1)
  exact ⟨j, (nI_ltI hj (by omega)).mp h.2, rfl⟩
section IS
variable {c k m : Nat} {S : Nat → Int32} {T : Nat → Int64} {R rS : Nat → Int32} {rT : Nat → Int64} {rR riss : Nat → Int32}
theorem au_y (hk : k < c) (hc : c ≤ 4) : 0 ≤ nI k ∧ nI k < nI c := ⟨nI_pos' (by omega), nI_lt hk (by omega)⟩
/-- a serial is entered -/
theorem P_enter (hk : k < 4) (h : TB k m S T R rS rT rR) (hr : riss k = nI m) (hm : m < 32) {s : Int32} (hn : ∀ j, j < m → S j ≠ s) : ∃ rS' rT' rR' riss', f_enter riss rS rT rR (nI k) s = some (riss', rS', rT', rR') ∧ f_au_enlist (nI m) S T s = some (nI (m + 1), upd S m s, vp_updL T m (-1)) ∧ TB k (m + 1) (upd S m s) (vp_updL T m (-1)) R rS' rT' rR' ∧ riss' k = nI (m + 1) ∧ FR k rS rT rR riss rS' rT' rR' riss' ∧ cn (vp_updL T m (-1)) (m + 1) = cn T m := by
  obtain ⟨hm2, h1, h2⟩ := h
  unfold f_enter f_au_enlist
  rw [chk_t (inN (by omega) (by omega)), nI_clamp (by omega), hr, m32, nI_add, bnd_eq, chk_t (inN (by omega) (by omega)), nI_clamp (by omega), bnd_eq, chk_t (by rintro (q | q); exact nI_pos (by omega) q; omega), bnd_eq, chk_t (by rintro (q | q); exact nI_pos (by omega) q; omega), bnd_eq, bnd_eq]
  rw [if_neg (show ¬ (32 : Int32) ≤ nI m from nI_ge (b := 32) hm (by decide)), pl_none (by omega) hn, Option.bind_some, if_pos rfl, chk_t (inN (by omega) (by omega)), nI_clamp (by omega), bnd_eq, chk_t (by rintro (q | q); exact nI_pos (by omega) q; omega), bnd_eq, bnd_eq, nI_1]
  refine ⟨_, _, _, _, rfl, rfl, ⟨by omega, fun j hj => ?_, fun i j hij hj => ?_⟩, pk_us, ⟨fun i hi => ⟨pk_un (by omega), pk_uLn (by omega), pk_un (by omega)⟩, fun i hi => pk_un hi⟩, ?_⟩
  · by_cases hjm : j = m
    · subst hjm
      rw [pk_us, pk_us, pk_uLs, pk_uLs]
      exact ⟨rfl, rfl, fun q => absurd rfl q⟩
    · rw [pk_un (by omega), pk_un hjm, pk_uLn (by omega), pk_uLn hjm, pk_un (by omega)]
      exact h1 j (by omega)
  · by_cases hjm : j = m
    · subst hjm
      rw [pk_us, pk_un (by omega)]
      exact hn i hij
    · rw [pk_un hjm, pk_un (by omega)]
      exact h2 i j hij (by omega)
  · rw [show cn (vp_updL T m (-1)) (m + 1) = cn (vp_updL T m (-1)) m + (if vp_updL T m (-1) m = -1 then 0 else 1) from rfl, pk_uLs, if_pos rfl, Nat.add_zero]
    exact cn_c (T := vp_updL T m (-1)) (T' := T) m (fun j hj => pk_uLn (show j ≠ m by omega))
theorem P_issue (hc : c ≤ 4) (hk : k < c) (h : TB k m S T R rS rT rR) (hr : riss k = nI m) (s : Int32) : ∃ r m' S' T' rS' rT' rR' riss', f_issue (nI c) riss rS rT rR (nI k) s = some (r, riss', rS', rT', rR') ∧ f_de_issue (nI m) S T (nI c) (nI k) s = some (r, nI m', S', T') ∧ TB k m' S' T' R rS' rT' rR' ∧ riss' k = nI m' ∧ FR k rS rT rR riss rS' rT' rR' riss' ∧ cn T' m' = cn T m := by
  unfold f_issue f_de_issue
  rw [isA_y hc hk, Option.bind_some, if_neg (by decide), if_pos (au_y hk hc), chk_t (inN (by omega) (by omega)), chk_t (inN (by omega) (by omega))]
  by_cases hs : 0 ≤ s
  · rw [if_pos hs, if_pos hs, nI_clamp (by omega), hr]
    by_cases h32 : m = 32
    · subst h32
      rw [if_pos (show nI 32 = 32 from rfl), if_neg (show ¬ nI 32 < 32 by decide)]
      rcases place (by omega) h hr s with ⟨e1, -, -⟩ | ⟨p, -, -, e1, -⟩
      · rw [e1, Option.bind_some, if_pos rfl]
        exact ⟨_, 32, _, _, _, _, _, _, rfl, rfl, h, hr, FR_r, rfl⟩
      · rw [e1, Option.bind_some, ite_self]
        exact ⟨_, 32, _, _, _, _, _, _, rfl, rfl, h, hr, FR_r, rfl⟩
    · have hm : m < 32 := by have := h.1; omega
      rw [if_neg (show ¬ nI m = 32 from fun q => h32 ((nI_eq (b := 32) (by omega) (by decide)).mp q)), if_pos (show nI m < 32 from nI_lt (b := 32) hm (by decide))]
      rcases place (by omega) h hr s with ⟨e1, e2, e3⟩ | ⟨p, hp, -, e1, e2⟩
      · obtain ⟨rS', rT', rR', riss', g1, g2, g3, g4, g5, g6⟩ := P_enter (by omega) h hr hm e3
        rw [e2, Option.bind_some, if_pos rfl, g1, Option.bind_some, e1, Option.bind_some, if_pos rfl, g2, Option.bind_some]
        exact ⟨_, m + 1, _, _, _, _, _, _, by dsimp only; rw [g4], rfl, g3, g4, g5, g6⟩
      · rw [e2, Option.bind_some, if_neg (fl_nI (by omega)), e1, Option.bind_some, if_neg (fl_nI (by omega))]
        exact ⟨_, m, _, _, _, _, _, _, rfl, rfl, h, hr, FR_r, rfl⟩
  · rw [if_neg hs, if_neg hs]
    exact ⟨_, m, _, _, _, _, _, _, rfl, rfl, h, hr, FR_r, rfl⟩
theorem tb_count (hk : k < 4) (hm : m ≤ 32) (hr : riss k = nI m) (hT : ∀ j, j < m → rT (32 * k + j) = T j) (a : Int32) : ∀ (n j fu : Nat), n < fu → j + n = m → j_takeBack_99 fu a riss rS rT rR (nI k) (nI (cn T j)) (nI (32 * k + j)) = some (nI (cn T m), rT, rR) := by
  intro n
  induction n with
  | zero =>
    intro j fu hfu hj
    obtain ⟨fu, rfl⟩ : ∃ g, fu = g + 1 := ⟨fu - 1, by omega⟩
    have : j = m := by omega
    subst this
    rw [j_takeBack_99, chk_t (inN (by omega) (by omega)), nI_clamp (by omega), hr, m32, nI_add, if_pos (Int32.le_refl _)]
  | succ n ih =>
    intro j fu hfu hj
    obtain ⟨fu, rfl⟩ : ∃ g, fu = g + 1 := ⟨fu - 1, by omega⟩
    have := ih (j + 1) fu (by omega) (by omega)
    rw [j_takeBack_99, chk_t (inN (by omega) (by omega)), nI_clamp (by omega), hr, m32, nI_add, if_neg (nI_ge (by omega) (by omega)), chk_t (inN (by omega) (by omega)), nI_clamp (by omega), hT j (by omega), bnd_eq, bnd_eq, bnd_eq, bnd_eq, nI_1, nI_1]
    rw [show cn T (j + 1) = cn T j + (if T j = -1 then 0 else 1) from rfl] at this
    by_cases hc : T j = -1
    · rw [if_pos hc] at this ⊢
      rw [show nI (cn T j) + 0 = nI (cn T j) from Int32.add_zero _]
      exact this
    · rw [if_neg hc] at this ⊢
      exact this
theorem P_takeBack (hc : c ≤ 4) (hk : k < c) (h : TB k m S T R rS rT rR) (hr : riss k = nI m) (s : Int32) (t : Int64) (w : Int32) : ∃ r R' T' b rT' rR', f_takeBack (nI c) riss rS rT rR (nI k) s t w = some (r, rT', rR') ∧ f_de_takeBack (nI m) R S T (nI (cn T m)) (nI c) (nI k) s t w = some (r, R', T', nI b) ∧ TB k m S T' R' rS rT' rR' ∧ FR k rS rT rR riss rS rT' rR' riss ∧ b = cn T' m := by
  unfold f_takeBack f_de_takeBack
  rw [isA_y hc hk, Option.bind_some, if_neg (by decide), if_pos (au_y hk hc), chk_t (inN (by omega) (by omega)), fits_w]
  have same : ∀ r : Int32, ∃ r' R' T' b rT' rR', some (r, rT, rR) = some (r', rT', rR') ∧ some (r, R, T, nI (cn T m)) = some (r', R', T', nI b) ∧ TB k m S T' R' rS rT' rR' ∧ FR k rS rT rR riss rS rT' rR' riss ∧ b = cn T' m := fun r => ⟨r, R, T, cn T m, rT, rR, rfl, rfl, h, FR_r, rfl⟩
  by_cases hs : s < 0
  · rw [if_pos hs, if_pos hs]
    exact same _
  · rw [if_neg hs, if_neg hs]
    by_cases ht : (0 : Int64) ≤ t ∧ t ≤ 3155759999
    · rw [p_in ht, Option.bind_some, if_neg (by decide), Option.bind_some, if_neg (by decide), show (0 : Int64) = lN 0 from rfl, show (10 : Int64) = lN 10 from rfl]
      rcases ix_cases w (n := 11) (by decide) with ⟨hw, -⟩ | ⟨j, h1, h2, rfl⟩ | ⟨j, hj, rfl⟩
      · rw [w_neg hw _ (by decide), Option.bind_some, if_pos rfl, if_pos hw]
        exact same _
      · rw [w_out h2 (Or.inr (by omega)) (by decide) (by decide), Option.bind_some, if_pos rfl, if_neg (nI_pos h2), if_neg (show ¬ nI j ≤ 10 from nI_ge (a := 10) (by omega) h2)]
        exact same _
      · rw [w_in (by omega) (by omega) (by omega) (by decide), Option.bind_some, if_neg (by decide), if_neg (nI_pos (by omega)), if_pos (show nI j ≤ 10 from nI_le (b := 10) (by omega) (by decide))]
        rcases place (by omega) h hr s with ⟨e1, e2, -⟩ | ⟨p, hp, -, e1, e2⟩
        · rw [e2, Option.bind_some, if_pos rfl, e1, Option.bind_some, if_pos rfl]
          exact same _
        · obtain ⟨hm, h1, h2⟩ := id h
          obtain ⟨q1, q2, q3⟩ := h1 p hp
          rw [e2, Option.bind_some, if_neg (fl_nI (by omega)), e1, Option.bind_some, if_neg (fl_nI (by omega)), chk_t (inN (by omega) (by omega)), chk_t (inN (by omega) (by omega)), nI_clamp (by omega), nI_clamp (by omega), q2]
          by_cases hT : T p = -1
          · obtain ⟨t', ht', rfl⟩ := tm_of ht
            have htn : ¬ lN t' = -1 := fun q => by
              have := congrArg Int64.toInt q
              rw [pk_lT (by omega), show (-1 : Int64).toInt = -1 from rfl] at this
              omega
            have hup := cn_up (T := T) (k := p) (x := lN t') hT htn
            have hTB : TB k m S (vp_updL T p (lN t')) (upd R p (nI j)) rS (vp_updL rT (32 * k + p) (lN t')) (upd rR (32 * k + p) (nI j)) := by
              refine ⟨hm, fun i hi => ?_, h2⟩
              by_cases hip : i = p
              · subst hip
                rw [pk_uLs, pk_uLs, pk_us, pk_us]
                exact ⟨q1, rfl, fun _ => ⟨rfl, ⟨j, by omega, rfl⟩, t', ht', rfl⟩⟩
              · rw [pk_uLn (by omega), pk_uLn hip, pk_un (by omega), pk_un hip]
                exact h1 i hi
            rw [if_pos hT, if_pos hT, bnd_eq, chk_t (by rintro (q | q); exact nI_pos (by omega) q; omega), bnd_eq, m32, bnd_eq, bnd_eq, chk_t (by rintro (q | q); exact nI_pos (by omega) q; omega), bnd_eq, bnd_eq, nI_1]
            have hcnt := tb_count (rS := rS) (rR := upd rR (32 * k + p) (nI j)) (k := k) (by omega) hm hr (fun i hi => (hTB.2.1 i hi).2.1) (nI c) m 0 FU (by unfold FU; omega) (by omega)
            rw [show nI (cn (vp_updL T p (lN t')) 0) = 0 from rfl, Nat.add_zero] at hcnt
            have hb : cn (vp_updL T p (lN t')) m = cn T m + 1 := by rw [hup m, if_pos hp]
            rw [hcnt, hb]
            exact ⟨_, _, _, cn T m + 1, _, _, rfl, rfl, hTB, ⟨fun i hi => ⟨rfl, pk_uLn (by omega), pk_un (by omega)⟩, fun i hi => rfl⟩, hb.symm⟩
          · rw [if_neg hT, if_neg hT]
            exact same _
    · rw [p_out ht, Option.bind_some, if_pos rfl, Option.bind_some, if_pos rfl]
      exact same _
theorem P_lift (hc : c ≤ 4) (hk : k < c) (h : TB k m S T R rS rT rR) (hr : riss k = nI m) (s : Int32) : ∃ r T' b rT' rR', f_lift (nI c) riss rS rT rR (nI k) s = some (r, rT', rR') ∧ f_de_lift (nI m) R S T (nI (cn T m)) (nI c) (nI k) s = some (r, T', nI b) ∧ TB k m S T' R rS rT' rR' ∧ FR k rS rT rR riss rS rT' rR' riss ∧ b = cn T' m := by
  unfold f_lift f_de_lift j_lift_19
  rw [isA_y hc hk, Option.bind_some, if_neg (by decide), if_pos (au_y hk hc), chk_t (inN (by omega) (by omega))]
  have same : ∃ r' T' b rT' rR', some ((0 : Int32), rT, rR) = some (r', rT', rR') ∧ some ((0 : Int32), T, nI (cn T m)) = some (r', T', nI b) ∧ TB k m S T' R rS rT' rR' ∧ FR k rS rT rR riss rS rT' rR' riss ∧ b = cn T' m := ⟨0, T, cn T m, rT, rR, rfl, rfl, h, FR_r, rfl⟩
  rcases place (by omega) h hr s with ⟨e1, e2, -⟩ | ⟨p, hp, -, e1, e2⟩
  · rw [e2, Option.bind_some, if_pos rfl, e1, Option.bind_some, if_pos rfl]
    exact same
  · obtain ⟨hm, h1, h2⟩ := id h
    obtain ⟨q1, q2, q3⟩ := h1 p hp
    rw [e2, Option.bind_some, if_neg (fl_nI (by omega)), e1, Option.bind_some, if_neg (fl_nI (by omega)), chk_t (inN (by omega) (by omega)), nI_clamp (by omega), nI_clamp (by omega), q2, chk_t (show ¬ (nI p < 0 ∨ 32 ≤ p) by rintro (q | q); exact nI_pos (by omega) q; omega)]
    by_cases hT : T p = -1
    · rw [if_pos hT, if_pos hT]
      exact same
    · rw [if_neg hT, if_neg hT, chk_t (by rintro (q | q); exact nI_pos (by omega) q; omega), chk_t (by rintro (q | q); exact nI_pos (by omega) q; omega), (q3 hT).1]
      by_cases h6 : R p = 6
      · rw [if_pos h6, if_pos h6, bnd_eq, bnd_eq, bnd_eq, bnd_eq]
        have hdn := cn_dn (T := T) (k := p) hT m
        rw [if_pos hp] at hdn
        have hTB : TB k m S (vp_updL T p (-1)) R rS (vp_updL rT (32 * k + p) (-1)) (upd rR (32 * k + p) (-1)) := by
          refine ⟨hm, fun i hi => ?_, h2⟩
          by_cases hip : i = p
          · subst hip
            rw [pk_uLs, pk_uLs]
            exact ⟨q1, rfl, fun q => absurd rfl q⟩
          · rw [pk_uLn (by omega), pk_uLn hip, pk_un (by omega)]
            exact h1 i hi
        refine ⟨_, _, cn (vp_updL T p (-1)) m, _, _, rfl, ?_, hTB, ⟨fun i hi => ⟨rfl, pk_uLn (by omega), pk_un (by omega)⟩, fun i hi => rfl⟩, rfl⟩
        rw [hdn, nI_pred]
      · rw [if_neg h6, if_neg h6]
        exact same
end IS
