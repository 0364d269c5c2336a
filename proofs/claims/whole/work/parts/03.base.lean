/-! BASE: what a walk is laid with. Pure words (bnd, chk), a method's fixed facts (cx), contracts of methods that make no cell (ct), calls, returns. -/
def bnd {α β : Type} (a : α) (k : α → β) : β := k a
theorem bnd_d {α β : Type} {a x : α} {k : α → Option β} {y : β} (h : bnd a k = some y) (e : x = a) : k x = some y := by rw [e]; exact h
def chk {α : Type} (c : Prop) [Decidable c] (x : Option α) : Option α := if c then x else none
theorem chk_d {α : Type} {c : Prop} [Decidable c] {x : Option α} {y : α} (h : chk c x = some y) : c ∧ x = some y := by
  unfold chk at h
  split at h
  · exact ⟨by assumption, h⟩
  · cases h
theorem ite_t {α : Type} {c : Prop} [Decidable c] {x z : Option α} {y : α} (h : (if c then x else z) = some y) (hc : c) : x = some y := by rw [if_pos hc] at h; exact h
theorem ite_f {α : Type} {c : Prop} [Decidable c] {x z : Option α} {y : α} (h : (if c then x else z) = some y) (hc : ¬ c) : z = some y := by rw [if_neg hc] at h; exact h
theorem cal_d {α β : Type} {x : Option α} {k : α → Option β} {y : β} (h : x.bind k = some y) : ∃ a, x = some a ∧ k a = some y := Option.bind_eq_some_iff.mp h
/-- the tables' good words; every method's words: its own code, then these -/
def wg : List Cond := lw_tbl.filter goodWord
theorem wg_in {w : Cond} (i : Nat) (h : lw_tbl[i]? = some w) (hg : goodWord w = true) : w ∈ wg := List.mem_filter.mpr ⟨List.mem_of_getElem? h, hg⟩
theorem wg_of {w : Cond} {t : List Cond} (i : Nat) (ht : ∀ w ∈ t, w ∈ lw_tbl) (h : t[i]? = some w) (hg : goodWord w = true) : w ∈ wg := List.mem_filter.mpr ⟨ht _ (List.mem_of_getElem? h), hg⟩
theorem wg_in0 {w : Cond} (i : Nat) (h : (k2_sels lw_privs)[i]? = some w) (hg : goodWord w = true) : w ∈ wg := wg_of i (fun _ h => List.mem_append_left _ h) h hg
theorem wg_in1 {w : Cond} (i : Nat) (h : tables_1_1[i]? = some w) (hg : goodWord w = true) : w ∈ wg := wg_of i (fun _ h => List.mem_append_right _ (List.mem_append_left _ h)) h hg
theorem wg_in2 {w : Cond} (i : Nat) (h : tables_1_2[i]? = some w) (hg : goodWord w = true) : w ∈ wg := wg_of i (fun _ h => List.mem_append_right _ (List.mem_append_right _ (List.mem_append_left _ h))) h hg
theorem wg_in3 {w : Cond} (i : Nat) (h : tables_1_3[i]? = some w) (hg : goodWord w = true) : w ∈ wg := wg_of i (fun _ h => List.mem_append_right _ (List.mem_append_right _ (List.mem_append_right _ (List.mem_append_left _ h)))) h hg
theorem wg_in4 {w : Cond} (i : Nat) (h : tables_1_4[i]? = some w) (hg : goodWord w = true) : w ∈ wg := wg_of i (fun _ h => List.mem_append_right _ (List.mem_append_right _ (List.mem_append_right _ (List.mem_append_right _ (List.mem_append_left _ h))))) h hg
theorem wg_in5 {w : Cond} (i : Nat) (h : tables_1_5[i]? = some w) (hg : goodWord w = true) : w ∈ wg := wg_of i (fun _ h => List.mem_append_right _ (List.mem_append_right _ (List.mem_append_right _ (List.mem_append_right _ (List.mem_append_right _ (List.mem_append_left _ h)))))) h hg
theorem wg_in6 {w : Cond} (i : Nat) (h : tables_1_6[i]? = some w) (hg : goodWord w = true) : w ∈ wg := wg_of i (fun _ h => List.mem_append_right _ (List.mem_append_right _ (List.mem_append_right _ (List.mem_append_right _ (List.mem_append_right _ (List.mem_append_right _ (List.mem_append_left _ h))))))) h hg
theorem wg_in7 {w : Cond} (i : Nat) (h : tables_1_7[i]? = some w) (hg : goodWord w = true) : w ∈ wg := wg_of i (fun _ h => List.mem_append_right _ (List.mem_append_right _ (List.mem_append_right _ (List.mem_append_right _ (List.mem_append_right _ (List.mem_append_right _ (List.mem_append_right _ h))))))) h hg
theorem wg_sub {ws : List Cond} (h : ws.all (fun w => decide (w ∈ lw_tbl) && goodWord w) = true) : ∀ w ∈ ws, w ∈ wg := fun w hw => by
  have h1 := List.all_eq_true.mp h w hw
  simp only [Bool.and_eq_true, decide_eq_true_eq] at h1
  exact List.mem_filter.mpr h1
theorem iw_of {C : String} {T : u_T} {N : Nat} (h : ∀ k, k < N → u_lay C T k ∈ wg) : ∀ w ∈ u_ws C T N, w ∈ wg := fun w hw => by
  obtain ⟨k, hk, rfl⟩ := List.mem_map.mp hw
  exact h k (List.mem_range.mp hk)
def vs (y : MethodName) (c : ByteArray) (n : Nat) (r : Option FieldType) : List Cond := Cond.code y c n r :: wg
theorem wg_good : GoodIn wg wg := fun w h => ⟨h, good_of_word (List.mem_filter.mp h).2⟩
theorem g_vs {y : MethodName} {c : ByteArray} {n : Nat} {r : Option FieldType} (h : Cond.code y c n r ∈ wg) : GoodIn wg (vs y c n r) := fun w hw => (List.mem_cons.mp hw).elim (fun e => by rw [e]; exact wg_good _ h) (fun h => wg_good w h)
theorem g_V {own C : String} {idx : Nat} {y : MethodName} {c : ByteArray} {n : Nat} {r : Option FieldType} (h1 : Cond.methodLink own idx y ∈ wg) (h2 : Cond.instanceMethod y ∈ wg) (h3 : Cond.selects C y y ∈ wg) (h4 : Cond.initialized C ∈ wg) (h5 : Cond.code y c n r ∈ wg) : GoodIn wg (wsV own idx C y (vs y c n r)) := by
  intro w hw
  rcases List.mem_append.mp hw with h | h
  · simp only [List.mem_cons, List.not_mem_nil, or_false] at h
    rcases h with rfl | rfl | rfl | rfl
    · exact wg_good _ h1
    · exact wg_good _ h2
    · exact wg_good _ h3
    · exact wg_good _ h4
  · exact g_vs h5 w h
theorem g_S {own : String} {idx : Nat} {y : MethodName} {c : ByteArray} {n : Nat} {r : Option FieldType} (h1 : Cond.methodLink own idx y ∈ wg) (h2 : Cond.static y ∈ wg) (h3 : Cond.initialized y.cls ∈ wg) (h5 : Cond.code y c n r ∈ wg) : GoodIn wg (va_wsS own idx y (vs y c n r)) := by
  intro w hw
  rcases List.mem_append.mp hw with h | h
  · simp only [List.mem_cons, List.not_mem_nil, or_false] at h
    rcases h with rfl | rfl | rfl
    · exact wg_good _ h1
    · exact wg_good _ h2
    · exact wg_good _ h3
  · exact g_vs h5 w h
/-- the array classes that the worlds speak of -/
abbrev tY (q : Nat → ClassId) : List (ClassId × FieldType) := [(q 0, .byte), (q 1, .int), (q 2, .long), (q 3, .object "StatusDesk$Authority"), (q 4, .object "StatusDesk$Find"), (q 5, .object "StatusDesk$Signer")]
/-- a method's fixed facts -/
def cx (p : Program) (s : State) (m : MethodId) (args : Array Value) (meth : Method) (c : Code) (cc : ByteArray) (ret : Option FieldType) (nL : Nat) (own : String) (D : va_G) (q : Nat → ClassId) (A : Nat → Prop) : Prop :=
  p.tables.exec = Jvm.exec ∧ c.code = cc ∧ meth.sig.returnType = ret ∧ c.maxLocals = nL ∧ s.vm.findClass own = some m.cls ∧ (∀ w ∈ wg, w.before args s = true) ∧ meth.locks = false ∧ va_K D vwCl (tY q) s ∧ (∀ r : Nat, s.heap.size ≤ r → A r)
abbrev qW (D : va_G) (q : Nat → ClassId) (A : Nat → Prop) (w : va_W) (t : State) : Prop := va_P D vwCl w t.heap ∧ va_K D vwCl (tY q) t ∧ va_D A w
def qI (D : va_G) (q : Nat → ClassId) (r : Int32) (w : va_W) (A : Nat → Prop) : Array Value → State → Outcome → State → Prop := va_Qi (S := Unit) (fun r' _ => r' = r) (fun _ t => qW D q A w t) A
def qL (D : va_G) (q : Nat → ClassId) (r : Int64) (w : va_W) (A : Nat → Prop) : Array Value → State → Outcome → State → Prop := va_Ql (S := Unit) (fun r' _ => r' = r) (fun _ t => qW D q A w t) A
def qV (D : va_G) (q : Nat → ClassId) (w : va_W) (A : Nat → Prop) : Array Value → State → Outcome → State → Prop := va_Qv (S := Unit) (fun _ => True) (fun _ t => qW D q A w t) A
abbrev ctP (D : va_G) (q : Nat → ClassId) (av : List Value) (w : va_W) (sz : Nat) : Array Value → State → Prop := va_Pc av (fun U => U.heap.size = sz ∧ va_P D vwCl w U.heap ∧ va_K D vwCl (tY q) U ∧ va_D (fun _ => True) w)
/-- a contract: from the world w, with these arguments, to what Qf says; no cell is made -/
def ct (l : Launch) (y : MethodName) (ws : List Cond) (rm : Room) (D : va_G) (q : Nat → ClassId) (av : List Value) (w : va_W) (Qf : (Nat → Prop) → Array Value → State → Outcome → State → Prop) : Prop :=
  ∀ sz : Nat, Met l y ws rm (ctP D q av w sz) (Qf (va_A w sz)) 0 0 (va_A w sz)
theorem ct_of {l : Launch} {y : MethodName} {rm : Room} {D : va_G} {q : Nat → ClassId} {av : List Value} {w : va_W} {Qf : (Nat → Prop) → Array Value → State → Outcome → State → Prop} {cc : ByteArray} {nL : Nat} {ret : Option FieldType}
    (hy : plainName y.cls = true) (hlen : (lg_sl av).length ≤ nL)
    (body : ∀ {p : Program} {e : Env} {s : State} {m : MethodId} {args : Array Value} {below : List Frame} {meth : Method} {c : Code} {A : Nat → Prop}, cx p s m args meth c cc ret nL y.cls D q A →
      ∀ (H : Heap) (locs : List Loc) (ls : Array Slot), va_P D vwCl w H → va_D A w → va_S A s.heap H locs → lv_has ls nL (lv_args 0 av) → W p l e rm s m args below meth c H locs 0 0 (MQ below (Qf A) args s 0 0 A) (F0 m 0 ls [])) : ct l y (vs y cc nL ret) rm D q av w Qf := by
  intro sz
  refine Met.ofW (cc := cc) (maxL := nL) (ret := ret) hy rfl ?_
  intro p e s m args below meth c s₁ B hml hv
  obtain ⟨rfl, hsz, hP, hK, hD0⟩ := hv
  have hts := atoms_spec (ws := vs y cc nL ret) B.pre
  have hown : s.vm.findClass y.cls = some m.cls := findClass_of_methodNamed B.named
  subst hsz
  have hD := hD0.self (sz := s.heap.size)
  have hl := lv_entry av (n := nL) hlen
  rw [lg_entry_eq]
  exact body ⟨B.exec, B.bytes, B.returns, hml, hown, fun w h => hts w (List.mem_cons_of_mem _ h), B.notSynchronized, hK, fun _ h => Or.inr h⟩ s.heap [] _ hP hD va_S.rf hl
section RT
variable {p : Program} {l : Launch} {e : Env} {R : Room} {s : State} {m : MethodId} {args : Array Value} {below : List Frame} {meth : Method} {c : Code} {H : Heap} {locs : List Loc} {Q : State → Prop} {cc : ByteArray} {ret : Option FieldType} {nL : Nat} {own : String} {D : va_G} {q : Nat → ClassId} {A : Nat → Prop} {w : va_W} {pc : Nat} {ls : Array Slot}
theorem rt_i {v : Int32} (C : cx p s m args meth c cc (some .int) nL own D q A) (hP : va_P D vwCl w H) (hD : va_D A w) (hS : va_S A s.heap H locs) (hdg : decode cc pc = .ok (.ireturn, 1)) : W p l e R s m args below meth c H locs 0 0 (MQ below (qI D q v w A) args s 0 0 A) (F0 m pc ls [.int v]) := by
  obtain ⟨hx, hb, hr, hml, hown, hts, hlocks, hK, hA⟩ := C
  exact W.iret hx hb hr (fun t ht hW => ⟨⟨v, (), rfl, rfl, by rw [ht]; exact hP, va_K.moved hW.alike hK, hD⟩, hS.F ht⟩) hS.2.2 hdg hlocks
theorem rt_z {v : Int32} (C : cx p s m args meth c cc (some .boolean) nL own D q A) (hn : narrow .boolean (.int v) = .int v) (hP : va_P D vwCl w H) (hD : va_D A w) (hS : va_S A s.heap H locs) (hdg : decode cc pc = .ok (.ireturn, 1)) : W p l e R s m args below meth c H locs 0 0 (MQ below (qI D q v w A) args s 0 0 A) (F0 m pc ls [.int v]) := by
  obtain ⟨hx, hb, hr, hml, hown, hts, hlocks, hK, hA⟩ := C
  exact W.zret hx hb hr hn (fun t ht hW => ⟨⟨v, (), rfl, rfl, by rw [ht]; exact hP, va_K.moved hW.alike hK, hD⟩, hS.F ht⟩) hS.2.2 hdg hlocks
theorem rt_l {v : Int64} (C : cx p s m args meth c cc (some .long) nL own D q A) (hP : va_P D vwCl w H) (hD : va_D A w) (hS : va_S A s.heap H locs) (hdg : decode cc pc = .ok (.lreturn, 1)) : W p l e R s m args below meth c H locs 0 0 (MQ below (qL D q v w A) args s 0 0 A) (F0 m pc ls [.long v]) := by
  obtain ⟨hx, hb, hr, hml, hown, hts, hlocks, hK, hA⟩ := C
  exact W.lret hx hb hr (fun t ht hW => ⟨⟨v, (), rfl, rfl, by rw [ht]; exact hP, va_K.moved hW.alike hK, hD⟩, hS.F ht⟩) hS.2.2 hdg hlocks
theorem rt_v (C : cx p s m args meth c cc none nL own D q A) (hP : va_P D vwCl w H) (hD : va_D A w) (hS : va_S A s.heap H locs) (hdg : decode cc pc = .ok (.return_, 1)) : W p l e R s m args below meth c H locs 0 0 (MQ below (qV D q w A) args s 0 0 A) (F0 m pc ls []) := by
  obtain ⟨hx, hb, hr, hml, hown, hts, hlocks, hK, hA⟩ := C
  exact W.vret hx hb hr (fun t ht hW => ⟨⟨(), rfl, trivial, by rw [ht]; exact hP, va_K.moved hW.alike hK, hD⟩, hS.F ht⟩) hS.2.2 hdg hlocks
/-- a call on an object: the callee's world wc stands in H -/
theorem rn_V {y : MethodName} {ws : List Cond} {rm : Room} {bytes : ByteArray} {maxL n index ci q0 b : Nat} {ret' : Option FieldType} {Cn : String} {As rest : List Value} {wc : va_W} {fs : List Value} {q1 : vw_C} {lv : List (Nat × Value)} {Qf : (Nat → Prop) → Array Value → State → Outcome → State → Prop}
    (C : cx p s m args meth c cc ret nL own D q A) (hM : ct l y ws rm D q (.ref b :: As) wc Qf) (cw : CallW R s args own Cn index y bytes maxL ret' ws rm 0 0 n)
    (hP : va_P D vwCl wc H) (hD : va_D (fun _ => True) wc) (hcl : vwCl[ci]? = some q1) (he : wc[q0]? = some (b, .inr (ci, fs))) (hCn : q1.1 = Cn) (hn : As.length = n) (hl : lv_has ls nL lv) (hroom : (rest.map fun v => v.category).sum ≤ 8) (hdg : decode cc pc = .ok (.invokevirtual index, 3)) :
    va_Run p l e R s m args below meth c H locs 0 0 0 0 (F0 m pc ls (As.reverse ++ .ref b :: rest)) rest (Qf (va_A wc H.size) (Value.ref b :: As).toArray) (va_A wc H.size) := by
  obtain ⟨hx, hb, hr, hml, hown, hts, hlocks, hK, hA⟩ := C
  subst hCn
  exact va_runV ⟨hx, hb, hml, hown, hts⟩ (hM H.size) cw ⟨fun a U g mk q => by obtain ⟨z0, z1, qP, qK, qD⟩ := q; exact ⟨z0, z1, qP, va_K.moved (u := U) (U := U.calling g mk a) (Vm.Alike.refl U.vm) qK, qD⟩, va_recv hK hP hcl he, fun U hU hW => ⟨rfl, by rw [hU], by rw [hU]; exact hP, va_K.moved hW.alike hK, hD⟩⟩ rfl hn hl.1 rfl (lv_room hroom) hdg ⟨Nat.zero_le _, Nat.zero_le _⟩
theorem rn_S {y : MethodName} {ws : List Cond} {rm : Room} {bytes : ByteArray} {maxL n index : Nat} {ret' : Option FieldType} {As rest : List Value} {wc : va_W} {lv : List (Nat × Value)} {Qf : (Nat → Prop) → Array Value → State → Outcome → State → Prop}
    (C : cx p s m args meth c cc ret nL own D q A) (hM : ct l y ws rm D q As wc Qf) (cw : CallB R s args own index y bytes maxL ret' ws rm 0 0 n ∧ (Cond.static y).before args s = true)
    (hP : va_P D vwCl wc H) (hD : va_D (fun _ => True) wc) (hn : As.length = n) (hl : lv_has ls nL lv) (hroom : (rest.map fun v => v.category).sum ≤ 8) (hdg : decode cc pc = .ok (.invokestatic index, 3)) :
    va_Run p l e R s m args below meth c H locs 0 0 0 0 (F0 m pc ls (As.reverse ++ rest)) rest (Qf (va_A wc H.size) As.toArray) (va_A wc H.size) := by
  obtain ⟨hx, hb, hr, hml, hown, hts, hlocks, hK, hA⟩ := C
  exact va_runS ⟨hx, hb, hml, hown, hts⟩ (hM H.size) cw ⟨fun a U g mk q => by obtain ⟨z0, z1, qP, qK, qD⟩ := q; exact ⟨z0, z1, qP, va_K.moved (u := U) (U := U.calling g mk a) (Vm.Alike.refl U.vm) qK, qD⟩, fun U hU hW => ⟨rfl, by rw [hU], by rw [hU]; exact hP, va_K.moved hW.alike hK, hD⟩⟩ rfl hn hl.1 rfl (lv_room hroom) hdg ⟨Nat.zero_le _, Nat.zero_le _⟩
theorem all_free (hD : va_D A w) (hS : va_S A s.heap H locs) (hA : ∀ r : Nat, s.heap.size ≤ r → A r) : ∀ r, va_A w H.size r → A r := by
  intro r h
  rcases h with ⟨k, z, h⟩ | h
  · exact hD.2 k _ h
  · exact hA r (Nat.le_trans hS.1 h)
/-- behind a call whose world is all of the caller's -/
theorem cl_i {r : Int32} {w' : va_W} {st0 rest : List Value} {av : Array Value} (C : cx p s m args meth c cc ret nL own D q A) (hD : va_D A w) (hS : va_S A s.heap H locs)
    (hr : va_Run p l e R s m args below meth c H locs 0 0 0 0 (F0 m pc ls st0) rest (qI D q r w' (va_A w H.size) av) (va_A w H.size))
    (kk : ∀ (H1 : Heap) (locs1 : List Loc), va_P D vwCl w' H1 → va_D A w' → va_S A s.heap H1 locs1 → W p l e R s m args below meth c H1 locs1 0 0 Q (F0 m (pc + 3) ls (.int r :: rest))) : W p l e R s m args below meth c H locs 0 0 Q (F0 m pc ls st0) := by
  have hF := all_free hD hS C.2.2.2.2.2.2.2.2
  refine va_calli hr hS (fun z _ h => hF z h) hF (fun r2 u t H1 locs1 ht hvm hw hB hz1 hk1 hS1 => ?_)
  obtain ⟨hP1, hK1, hD1⟩ := hB
  rw [ht] at hP1
  subst hw
  exact kk H1 locs1 hP1 (hD1.weaken (fun k z _ h => hF z.1 h)) hS1
theorem cl_l {r : Int64} {w' : va_W} {st0 rest : List Value} {av : Array Value} (C : cx p s m args meth c cc ret nL own D q A) (hD : va_D A w) (hS : va_S A s.heap H locs)
    (hr : va_Run p l e R s m args below meth c H locs 0 0 0 0 (F0 m pc ls st0) rest (qL D q r w' (va_A w H.size) av) (va_A w H.size))
    (kk : ∀ (H1 : Heap) (locs1 : List Loc), va_P D vwCl w' H1 → va_D A w' → va_S A s.heap H1 locs1 → W p l e R s m args below meth c H1 locs1 0 0 Q (F0 m (pc + 3) ls (.long r :: rest))) : W p l e R s m args below meth c H locs 0 0 Q (F0 m pc ls st0) := by
  have hF := all_free hD hS C.2.2.2.2.2.2.2.2
  refine va_calll hr hS (fun z _ h => hF z h) hF (fun r2 u t H1 locs1 ht hvm hw hB hz1 hk1 hS1 => ?_)
  obtain ⟨hP1, hK1, hD1⟩ := hB
  rw [ht] at hP1
  subst hw
  exact kk H1 locs1 hP1 (hD1.weaken (fun k z _ h => hF z.1 h)) hS1
theorem cl_v {w' : va_W} {st0 rest : List Value} {av : Array Value} (C : cx p s m args meth c cc ret nL own D q A) (hD : va_D A w) (hS : va_S A s.heap H locs)
    (hr : va_Run p l e R s m args below meth c H locs 0 0 0 0 (F0 m pc ls st0) rest (qV D q w' (va_A w H.size) av) (va_A w H.size))
    (kk : ∀ (H1 : Heap) (locs1 : List Loc), va_P D vwCl w' H1 → va_D A w' → va_S A s.heap H1 locs1 → W p l e R s m args below meth c H1 locs1 0 0 Q (F0 m (pc + 3) ls rest)) : W p l e R s m args below meth c H locs 0 0 Q (F0 m pc ls st0) := by
  have hF := all_free hD hS C.2.2.2.2.2.2.2.2
  refine va_callv hr hS (fun z _ h => hF z h) hF (fun u t H1 locs1 ht hvm hw hB hz1 hk1 hS1 => ?_)
  obtain ⟨hP1, hK1, hD1⟩ := hB
  rw [ht] at hP1
  exact kk H1 locs1 hP1 (hD1.weaken (fun k z _ h => hF z.1 h)) hS1
/-- behind a call whose world is a part of the caller's: the places isC; the rest isR stays; the new world w' in the order that perm tells -/
theorem jn {wc wr wc' w' : va_W} {H1 : Heap} (C : cx p s m args meth c cc ret nL own D q A) (hP : va_P D vwCl w H) (hD : va_D A w) (hS : va_S A s.heap H locs) (isC isR : List Nat) (hC : isC.map (fun i => w[i]?) = wc.map some) (hR : isR.map (fun i => w[i]?) = wr.map some) (hn : va_nd isR = true) (hdis : ∀ i ∈ isR, i ∉ isC) (perm : List Nat) (hq : va_nd perm = true) (hp : perm.map (fun i => (wr ++ wc')[i]?) = w'.map some)
    (hk : ∀ z : Nat, z < H.size → ¬ va_A wc H.size z → H1[z]? = H[z]?) (hP1 : va_P D vwCl wc' H1) (hD1 : va_D (va_A wc H.size) wc') : va_P D vwCl w' H1 ∧ va_D A w' := by
  have hF := va_free hD hS C.2.2.2.2.2.2.2.2 isC hC
  obtain ⟨h1, h2⟩ := va_join hP hD isC isR hC hR hn hdis hk hF hP1 hD1
  refine ⟨h1.sub perm ?_, h2.sub perm hq hp⟩
  have := congrArg (fun l : List (Option (Nat × va_E)) => l.filterMap id) hp
  simpa [List.filterMap_map, Function.comp_def] using this
theorem cf_i {r : Int32} {wc wr wc' w' : va_W} {st0 rest : List Value} {av : Array Value} (C : cx p s m args meth c cc ret nL own D q A) (hP : va_P D vwCl w H) (hD : va_D A w) (hS : va_S A s.heap H locs) (isC isR perm : List Nat) (hC : isC.map (fun i => w[i]?) = wc.map some) (hR : isR.map (fun i => w[i]?) = wr.map some) (hn : va_nd isR = true) (hdis : ∀ i ∈ isR, i ∉ isC) (hq : va_nd perm = true) (hp : perm.map (fun i => (wr ++ wc')[i]?) = w'.map some)
    (hr : va_Run p l e R s m args below meth c H locs 0 0 0 0 (F0 m pc ls st0) rest (qI D q r wc' (va_A wc H.size) av) (va_A wc H.size))
    (kk : ∀ (H1 : Heap) (locs1 : List Loc), va_P D vwCl w' H1 → va_D A w' → va_S A s.heap H1 locs1 → W p l e R s m args below meth c H1 locs1 0 0 Q (F0 m (pc + 3) ls (.int r :: rest))) : W p l e R s m args below meth c H locs 0 0 Q (F0 m pc ls st0) := by
  have hF := va_free hD hS C.2.2.2.2.2.2.2.2 isC hC
  refine va_calli hr hS (fun z _ h => hF z h) hF (fun r2 u t H1 locs1 ht hvm hw hB hz1 hk1 hS1 => ?_)
  obtain ⟨hP1, hK1, hD1⟩ := hB
  rw [ht] at hP1
  subst hw
  obtain ⟨g1, g2⟩ := jn C hP hD hS isC isR hC hR hn hdis perm hq hp hk1 hP1 hD1
  exact kk H1 locs1 g1 g2 hS1
theorem cf_l {r : Int64} {wc wr wc' w' : va_W} {st0 rest : List Value} {av : Array Value} (C : cx p s m args meth c cc ret nL own D q A) (hP : va_P D vwCl w H) (hD : va_D A w) (hS : va_S A s.heap H locs) (isC isR perm : List Nat) (hC : isC.map (fun i => w[i]?) = wc.map some) (hR : isR.map (fun i => w[i]?) = wr.map some) (hn : va_nd isR = true) (hdis : ∀ i ∈ isR, i ∉ isC) (hq : va_nd perm = true) (hp : perm.map (fun i => (wr ++ wc')[i]?) = w'.map some)
    (hr : va_Run p l e R s m args below meth c H locs 0 0 0 0 (F0 m pc ls st0) rest (qL D q r wc' (va_A wc H.size) av) (va_A wc H.size))
    (kk : ∀ (H1 : Heap) (locs1 : List Loc), va_P D vwCl w' H1 → va_D A w' → va_S A s.heap H1 locs1 → W p l e R s m args below meth c H1 locs1 0 0 Q (F0 m (pc + 3) ls (.long r :: rest))) : W p l e R s m args below meth c H locs 0 0 Q (F0 m pc ls st0) := by
  have hF := va_free hD hS C.2.2.2.2.2.2.2.2 isC hC
  refine va_calll hr hS (fun z _ h => hF z h) hF (fun r2 u t H1 locs1 ht hvm hw hB hz1 hk1 hS1 => ?_)
  obtain ⟨hP1, hK1, hD1⟩ := hB
  rw [ht] at hP1
  subst hw
  obtain ⟨g1, g2⟩ := jn C hP hD hS isC isR hC hR hn hdis perm hq hp hk1 hP1 hD1
  exact kk H1 locs1 g1 g2 hS1
theorem cf_v {wc wr wc' w' : va_W} {st0 rest : List Value} {av : Array Value} (C : cx p s m args meth c cc ret nL own D q A) (hP : va_P D vwCl w H) (hD : va_D A w) (hS : va_S A s.heap H locs) (isC isR perm : List Nat) (hC : isC.map (fun i => w[i]?) = wc.map some) (hR : isR.map (fun i => w[i]?) = wr.map some) (hn : va_nd isR = true) (hdis : ∀ i ∈ isR, i ∉ isC) (hq : va_nd perm = true) (hp : perm.map (fun i => (wr ++ wc')[i]?) = w'.map some)
    (hr : va_Run p l e R s m args below meth c H locs 0 0 0 0 (F0 m pc ls st0) rest (qV D q wc' (va_A wc H.size) av) (va_A wc H.size))
    (kk : ∀ (H1 : Heap) (locs1 : List Loc), va_P D vwCl w' H1 → va_D A w' → va_S A s.heap H1 locs1 → W p l e R s m args below meth c H1 locs1 0 0 Q (F0 m (pc + 3) ls rest)) : W p l e R s m args below meth c H locs 0 0 Q (F0 m pc ls st0) := by
  have hF := va_free hD hS C.2.2.2.2.2.2.2.2 isC hC
  refine va_callv hr hS (fun z _ h => hF z h) hF (fun u t H1 locs1 ht hvm hw hB hz1 hk1 hS1 => ?_)
  obtain ⟨hP1, hK1, hD1⟩ := hB
  rw [ht] at hP1
  obtain ⟨g1, g2⟩ := jn C hP hD hS isC isR hC hR hn hdis perm hq hp hk1 hP1 hD1
  exact kk H1 locs1 g1 g2 hS1
end RT
