/-! FRAME: contracts over a world in another order, with more cells -/
theorem perm_ix {α : Type} {l1 l2 : List α} (h : l1.Perm l2) : ∃ is : List Nat, is.Nodup ∧ is.map (fun i => l1[i]?) = l2.map some := by
  induction h with
  | nil => exact ⟨[], List.nodup_nil, rfl⟩
  | @cons x a b h ih =>
    obtain ⟨is, h1, h2⟩ := ih
    refine ⟨0 :: is.map (fun i => i + 1), ?_, ?_⟩
    · refine List.nodup_cons.mpr ⟨fun hm => ?_, ?_⟩
      · obtain ⟨b, -, e⟩ := List.mem_map.mp hm
        omega
      · exact List.pairwise_map.mpr (List.Pairwise.imp (fun hne e => hne (by omega)) h1)
    · rw [List.map_cons, List.map_map, List.map_cons, ← h2]
      rfl
  | swap x y l =>
    refine ⟨1 :: 0 :: (List.range l.length).map (fun i => i + 2), ?_, ?_⟩
    · refine List.nodup_cons.mpr ⟨fun hm => ?_, List.nodup_cons.mpr ⟨fun hm => ?_, ?_⟩⟩
      · rcases List.mem_cons.mp hm with e | hm
        · omega
        · obtain ⟨b, -, e⟩ := List.mem_map.mp hm
          omega
      · obtain ⟨b, -, e⟩ := List.mem_map.mp hm
        omega
      · exact List.pairwise_map.mpr (List.Pairwise.imp (fun hne e => hne (by omega)) List.nodup_range)
    · rw [List.map_cons, List.map_cons, List.map_map, List.map_cons, List.map_cons]
      refine congrArg (fun z => some x :: some y :: z) ?_
      refine List.ext_getElem? (fun i => ?_)
      rw [List.getElem?_map, List.getElem?_map]
      by_cases hi : i < l.length
      · rw [List.getElem?_range hi]
        show some l[i]? = (l[i]?).map some
        rw [List.getElem?_eq_getElem hi]
        rfl
      · rw [List.getElem?_eq_none (by rw [List.length_range]; omega), List.getElem?_eq_none (by omega)]
        rfl
  | @trans a b c h1 h2 ih1 ih2 =>
    obtain ⟨u, u1, u2⟩ := ih1
    obtain ⟨v, v1, v2⟩ := ih2
    have at_u : ∀ j : Nat, j < b.length → ∃ i, u[j]? = some i ∧ a[i]? = b[j]? := fun j hj => by
      have e : (u.map (fun i => a[i]?))[j]? = (b.map some)[j]? := by rw [u2]
      rw [List.getElem?_map, List.getElem?_map, List.getElem?_eq_getElem hj] at e
      cases hu : u[j]? with
      | none => rw [hu] at e; cases e
      | some i => rw [hu] at e; exact ⟨i, rfl, by rw [List.getElem?_eq_getElem hj]; exact Option.some.inj e⟩
    have in_v : ∀ j, j ∈ v → j < b.length := fun j hj => by
      obtain ⟨n, hn⟩ := List.getElem?_of_mem hj
      have e : (v.map (fun i => b[i]?))[n]? = (c.map some)[n]? := by rw [v2]
      rw [List.getElem?_map, List.getElem?_map, hn] at e
      cases hc : c[n]? with
      | none => rw [hc] at e; cases e
      | some z =>
        rw [hc] at e
        have e2 : b[j]? = some z := Option.some.inj e
        exact (List.getElem?_eq_some_iff.mp e2).1
    refine ⟨v.map (fun j => u[j]?.getD 0), ?_, ?_⟩
    · refine List.pairwise_map.mpr (List.Pairwise.imp_of_mem (fun {x y} hx hy hne e => hne ?_) v1)
      obtain ⟨i, i1, i2⟩ := at_u x (in_v x hx)
      obtain ⟨k, k1, k2⟩ := at_u y (in_v y hy)
      rw [i1, k1] at e
      have e : i = k := e
      subst e
      exact va_nd_inj u (nd_of u1) x y i i1 k1
    · rw [List.map_map, ← v2]
      refine List.map_congr_left (fun j hj => ?_)
      obtain ⟨i, i1, i2⟩ := at_u j (in_v j hj)
      show a[u[j]?.getD 0]? = b[j]?
      rw [i1]
      exact i2
section PM
variable {l : Launch} {y : MethodName} {ws : List Cond} {rm : Room} {D : va_G} {q : Nat → ClassId} {t : Nat} {av : List Value} {w wc wr wc' w' : va_W}
theorem perm_cut (hw : w.Perm (wc ++ wr)) : ∃ isC isR : List Nat, isC.map (fun i => w[i]?) = wc.map some ∧ va_nd isC = true ∧ isR.map (fun i => w[i]?) = wr.map some ∧ va_nd isR = true ∧ ∀ i ∈ isR, i ∉ isC := by
  obtain ⟨is, h1, h2⟩ := perm_ix hw
  refine ⟨is.take wc.length, is.drop wc.length, ?_, nd_of (h1.sublist (List.take_sublist _ _)), ?_, nd_of (h1.sublist (List.drop_sublist _ _)), fun i hi hc => ?_⟩
  · rw [List.map_take, h2, List.map_append]
    exact List.take_left' (List.length_map _)
  · rw [List.map_drop, h2, List.map_append]
    exact List.drop_left' (List.length_map _)
  · have hn : (is.take wc.length ++ is.drop wc.length).Nodup := by rw [List.take_append_drop]; exact h1
    exact (List.nodup_append.mp hn).2.2 i hc i hi rfl
theorem perm_fit (hw : w'.Perm (wc' ++ wr)) : ∃ perm : List Nat, va_nd perm = true ∧ perm.map (fun i => (wr ++ wc')[i]?) = w'.map some := by
  obtain ⟨is, h1, h2⟩ := perm_ix ((hw.trans List.perm_append_comm).symm)
  exact ⟨is, nd_of h1, h2⟩
theorem cu_pi {r : Int32} (h : cu l y ws rm D q t av wc (qI D q r wc')) (hw : w.Perm (wc ++ wr)) (hw' : w'.Perm (wc' ++ wr)) : cu l y ws rm D q t av w (qI D q r w') := by
  obtain ⟨isC, isR, a1, a2, a3, a4, a5⟩ := perm_cut hw
  obtain ⟨pm, b1, b2⟩ := perm_fit hw'
  exact cu_i isC isR pm h a1 a2 a3 a4 a5 b1 b2
theorem cu_pl {r : Int64} (h : cu l y ws rm D q t av wc (qL D q r wc')) (hw : w.Perm (wc ++ wr)) (hw' : w'.Perm (wc' ++ wr)) : cu l y ws rm D q t av w (qL D q r w') := by
  obtain ⟨isC, isR, a1, a2, a3, a4, a5⟩ := perm_cut hw
  obtain ⟨pm, b1, b2⟩ := perm_fit hw'
  exact cu_l isC isR pm h a1 a2 a3 a4 a5 b1 b2
end PM
/-! blocks -/
def ctW (f : Nat → va_W) : Nat → va_W
  | 0 => []
  | n + 1 => ctW f n ++ f n
def rsW (f : Nat → va_W) (k : Nat) : Nat → va_W
  | 0 => []
  | n + 1 => rsW f k n ++ (if n = k then [] else f n)
theorem rsW_all {f : Nat → va_W} {k : Nat} : ∀ n, n ≤ k → rsW f k n = ctW f n := by
  intro n
  induction n with
  | zero => intro _; rfl
  | succ n ih => intro h; rw [rsW, ctW, ih (by omega), if_neg (by omega)]
theorem ctW_p {f : Nat → va_W} {k : Nat} : ∀ n, k < n → (ctW f n).Perm (f k ++ rsW f k n) := by
  intro n
  induction n with
  | zero => intro h; omega
  | succ n ih =>
    intro h
    by_cases e : k = n
    · subst e
      rw [ctW, rsW, if_pos rfl, List.append_nil, rsW_all k (Nat.le_refl _)]
      exact List.perm_append_comm
    · rw [ctW, rsW, if_neg (fun q => e q.symm), ← List.append_assoc]
      exact (ih (by omega)).append_right _
theorem rsW_c {f g : Nat → va_W} {k : Nat} (h : ∀ j, j ≠ k → g j = f j) : ∀ n, rsW g k n = rsW f k n := by
  intro n
  induction n with
  | zero => rfl
  | succ n ih =>
    rw [rsW, rsW, ih]
    by_cases e : n = k
    · rw [if_pos e, if_pos e]
    · rw [if_neg e, if_neg e, h n e]
def WD (Dk : va_W) (F G : Nat → va_W) (P : va_W) : va_W := Dk ++ (ctW F 4 ++ (ctW G 8 ++ P))
section UP
variable {l : Launch} {y : MethodName} {ws : List Cond} {rm : Room} {D : va_G} {q : Nat → ClassId} {t : Nat} {av : List Value} {Dk Dk' : va_W} {F F' G G' : Nat → va_W} {P P' : va_W} {r : Int32}
theorem up_D (h : cu l y ws rm D q t av Dk (qI D q r Dk')) : cu l y ws rm D q t av (WD Dk F G P) (qI D q r (WD Dk' F G P)) := cu_pi h (List.Perm.refl _) (List.Perm.refl _)
theorem up_Dl {r : Int64} (h : cu l y ws rm D q t av Dk (qL D q r Dk')) : cu l y ws rm D q t av (WD Dk F G P) (qL D q r (WD Dk' F G P)) := cu_pl h (List.Perm.refl _) (List.Perm.refl _)
theorem pA {k : Nat} (hk : k < 4) (Dk : va_W) (F G : Nat → va_W) (P : va_W) : (WD Dk F G P).Perm ((F k ++ Dk) ++ (rsW F k 4 ++ (ctW G 8 ++ P))) := by
  unfold WD
  refine (((ctW_p 4 hk).append_right _).append_left Dk).trans ?_
  rw [List.append_assoc, List.append_assoc]
  exact List.perm_append_comm_assoc _ _ _
theorem up_A {k : Nat} (hk : k < 4) (h : cu l y ws rm D q t av (F k ++ Dk) (qI D q r (F' k ++ Dk'))) (hF : ∀ j, j ≠ k → F' j = F j) : cu l y ws rm D q t av (WD Dk F G P) (qI D q r (WD Dk' F' G P)) := by
  refine cu_pi h (pA hk Dk F G P) ?_
  rw [← rsW_c hF 4]
  exact pA hk Dk' F' G P
theorem pS {s : Nat} (hs : s < 8) (Dk : va_W) (F G : Nat → va_W) (P : va_W) : (WD Dk F G P).Perm ((G s ++ Dk) ++ (ctW F 4 ++ (rsW G s 8 ++ P))) := by
  unfold WD
  refine ((((ctW_p 8 hs).append_right P).append_left _).append_left Dk).trans ?_
  rw [List.append_assoc (G s), List.append_assoc (G s)]
  refine (List.Perm.append_left Dk (List.perm_append_comm_assoc _ _ _)).trans ?_
  exact List.perm_append_comm_assoc _ _ _
theorem up_S {s : Nat} (hs : s < 8) (h : cu l y ws rm D q t av (G s ++ Dk) (qI D q r (G' s ++ Dk'))) (hG : ∀ j, j ≠ s → G' j = G j) : cu l y ws rm D q t av (WD Dk F G P) (qI D q r (WD Dk' F G' P)) := by
  refine cu_pi h (pS hs Dk F G P) ?_
  rw [← rsW_c hG 8]
  exact pS hs Dk' F G' P
theorem pAS {k s : Nat} (hk : k < 4) (hs : s < 8) (Dk : va_W) (F G : Nat → va_W) (P : va_W) : (WD Dk F G P).Perm ((F k ++ (G s ++ Dk)) ++ (rsW F k 4 ++ (rsW G s 8 ++ P))) := by
  unfold WD
  refine (List.Perm.append_left Dk (((ctW_p 4 hk).append_right _).trans (List.Perm.append_left _ ((ctW_p 8 hs).append_right P)))).trans ?_
  rw [List.append_assoc (F k), List.append_assoc (G s), List.append_assoc (F k), List.append_assoc (G s)]
  refine (List.Perm.append_left Dk (List.Perm.append_left (F k) (List.perm_append_comm_assoc _ _ _))).trans ?_
  refine (List.perm_append_comm_assoc _ _ _).trans (List.Perm.append_left (F k) ?_)
  exact List.perm_append_comm_assoc _ _ _
theorem up_AS {k s : Nat} (hk : k < 4) (hs : s < 8) (h : cu l y ws rm D q t av (F k ++ (G s ++ Dk)) (qI D q r (F' k ++ (G' s ++ Dk')))) (hF : ∀ j, j ≠ k → F' j = F j) (hG : ∀ j, j ≠ s → G' j = G j) : cu l y ws rm D q t av (WD Dk F G P) (qI D q r (WD Dk' F' G' P)) := by
  refine cu_pi h (pAS hk hs Dk F G P) ?_
  rw [← rsW_c hF 4, ← rsW_c hG 8]
  exact pAS hk hs Dk' F' G' P
theorem pP (Dk : va_W) (F G : Nat → va_W) (P : va_W) : (WD Dk F G P).Perm ((Dk ++ P) ++ (ctW F 4 ++ ctW G 8)) := by
  unfold WD
  rw [← List.append_assoc (ctW F 4), List.append_assoc Dk]
  exact List.Perm.append_left Dk List.perm_append_comm
theorem up_P (h : cu l y ws rm D q t av (Dk ++ P) (qI D q r (Dk' ++ P'))) : cu l y ws rm D q t av (WD Dk F G P) (qI D q r (WD Dk' F G P')) := cu_pi h (pP Dk F G P) (pP Dk' F G P')
theorem p4 (Dk : va_W) (F G : Nat → va_W) (P : va_W) : (WD Dk F G P).Perm ((ctW F 4 ++ Dk) ++ (ctW G 8 ++ P)) := by
  unfold WD
  rw [List.append_assoc]
  exact List.perm_append_comm_assoc _ _ _
theorem up_4 (h : cu l y ws rm D q t av (ctW F 4 ++ Dk) (qI D q r (ctW F' 4 ++ Dk'))) : cu l y ws rm D q t av (WD Dk F G P) (qI D q r (WD Dk' F' G P)) := cu_pi h (p4 Dk F G P) (p4 Dk' F' G P)
end UP
