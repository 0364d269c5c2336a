/-! BASE 2: contracts of the class's methods: beside the cells, the one static row (the months' days), which nobody writes -/
def mdays (j : Nat) : Int32 := ([31, 28, 31, 30, 31, 30, 31, 31, 30, 31, 30, 31] : List Int32).getD j 0
def gs (t : Nat) (A : Nat → Prop) (U : State) (H : Heap) : Prop := va_Z "StatusDesk$Times" "MONTH_DAYS" "[I" (.ref t) A U H ∧ va_T .int t 12 (fun j => .int (mdays j)) A U H
theorem gs.moved {t : Nat} {A : Nat → Prop} {u U : State} {H : Heap} (hvm : u.vm.Alike U.vm) (h : gs t A u H) : gs t A U H := ⟨h.1.moved hvm, h.2.moved hvm⟩
theorem gs.kept {t : Nat} {A : Nat → Prop} {U : State} {H H1 : Heap} (h : gs t A U H) (hq : ∀ a : Nat, a < H.size → ¬ A a → H1[a]? = H[a]?) : gs t A U H1 := ⟨h.1.kept hq, h.2.kept hq⟩
theorem gs.narrow {t : Nat} {A B : Nat → Prop} {U : State} {H : Heap} (h : gs t A U H) (hAB : ∀ q, B q → A q) : gs t B U H := ⟨h.1.narrow hAB, h.2.narrow hAB⟩
def cy (p : Program) (s : State) (m : MethodId) (args : Array Value) (meth : Method) (c : Code) (cc : ByteArray) (ret : Option FieldType) (nL : Nat) (own : String) (D : va_G) (q : Nat → ClassId) (t : Nat) (A : Nat → Prop) : Prop := cx p s m args meth c cc ret nL own D q A ∧ gs t A s s.heap
abbrev cuP (D : va_G) (q : Nat → ClassId) (t : Nat) (av : List Value) (w : va_W) (sz : Nat) : Array Value → State → Prop := va_Pc av (fun U => U.heap.size = sz ∧ va_P D vwCl w U.heap ∧ va_K D vwCl (tY q) U ∧ va_D (fun _ => True) w ∧ gs t (va_A w sz) U U.heap)
def cu (l : Launch) (y : MethodName) (ws : List Cond) (rm : Room) (D : va_G) (q : Nat → ClassId) (t : Nat) (av : List Value) (w : va_W) (Qf : (Nat → Prop) → Array Value → State → Outcome → State → Prop) : Prop :=
  ∀ sz : Nat, Met l y ws rm (cuP D q t av w sz) (Qf (va_A w sz)) 0 0 (va_A w sz)
theorem cu_of {l : Launch} {y : MethodName} {rm : Room} {D : va_G} {q : Nat → ClassId} {t : Nat} {av : List Value} {w : va_W} {Qf : (Nat → Prop) → Array Value → State → Outcome → State → Prop} {cc : ByteArray} {nL : Nat} {ret : Option FieldType}
    (hy : plainName y.cls = true) (hlen : (lg_sl av).length ≤ nL)
    (body : ∀ {p : Program} {e : Env} {s : State} {m : MethodId} {args : Array Value} {below : List Frame} {meth : Method} {c : Code} {A : Nat → Prop}, cy p s m args meth c cc ret nL y.cls D q t A →
      ∀ (H : Heap) (locs : List Loc) (ls : Array Slot), va_P D vwCl w H → va_D A w → va_S A s.heap H locs → lv_has ls nL (lv_args 0 av) → W p l e rm s m args below meth c H locs 0 0 (MQ below (Qf A) args s 0 0 A) (F0 m 0 ls [])) : cu l y (vs y cc nL ret) rm D q t av w Qf := by
  intro sz
  refine Met.ofW (cc := cc) (maxL := nL) (ret := ret) hy rfl ?_
  intro p e s m args below meth c s₁ B hml hv
  obtain ⟨rfl, hsz, hP, hK, hD0, hG⟩ := hv
  have hts := atoms_spec (ws := vs y cc nL ret) B.pre
  have hown : s.vm.findClass y.cls = some m.cls := findClass_of_methodNamed B.named
  subst hsz
  have hD := hD0.self (sz := s.heap.size)
  have hl := lv_entry av (n := nL) hlen
  rw [lg_entry_eq]
  exact body ⟨⟨B.exec, B.bytes, B.returns, hml, hown, fun w h => hts w (List.mem_cons_of_mem _ h), B.notSynchronized, hK, fun _ h => Or.inr h⟩, hG⟩ s.heap [] _ hP hD va_S.rf hl
def qQ (D : va_G) (q : Nat → ClassId) (r : Option Nat) (w : va_W) (A : Nat → Prop) : Array Value → State → Outcome → State → Prop := va_Qq (S := Unit) (fun r' _ => r' = r) (fun _ t => qW D q A w t) A
theorem in4 {e : Int32} (h : ¬ (e < 0 ∨ 4 ≤ e.toNatClampNeg)) (h0 : ¬ e = 0) (h1 : ¬ e = 1) (h2 : ¬ e = 2) : e = 3 := by
  have hv : vp_in e 4 := h
  obtain ⟨j, hj, rfl⟩ := vp_in_of hv (by decide)
  match j, hj with
  | 0, _ => exact absurd rfl h0
  | 1, _ => exact absurd rfl h1
  | 2, _ => exact absurd rfl h2
  | 3, _ => rfl
section RT2
variable {p : Program} {l : Launch} {e : Env} {R : Room} {s : State} {m : MethodId} {args : Array Value} {below : List Frame} {meth : Method} {c : Code} {H : Heap} {locs : List Loc} {Q : State → Prop} {cc : ByteArray} {ret : Option FieldType} {nL : Nat} {own : String} {D : va_G} {q : Nat → ClassId} {t : Nat} {A : Nat → Prop} {w : va_W} {pc : Nat} {ls : Array Slot}
theorem cy_pre {wc : va_W} {av : List Value} (C : cy p s m args meth c cc ret nL own D q t A) (hP : va_P D vwCl w H) (hD : va_D A w) (hS : va_S A s.heap H locs) (isC : List Nat) (hC : isC.map (fun i => w[i]?) = wc.map some) (hn : va_nd isC = true) : FrameBlind (cuP D q t av wc H.size) ∧ ∀ U : State, U.heap = H → s.WarmedH U.vm → cuP D q t av wc H.size av.toArray U := by
  obtain ⟨⟨hx, hb, hr, hml, hown, hts, hlocks, hK, hA⟩, hG⟩ := C
  have hF := va_free hD hS hA isC hC
  have hPc : va_P D vwCl wc H := by
    refine hP.sub isC ?_
    have := congrArg (fun l : List (Option (Nat × va_E)) => l.filterMap id) hC
    simpa [List.filterMap_map, Function.comp_def] using this
  refine ⟨fun a U g mk z => ?_, fun U hU hW => ⟨rfl, by rw [hU], by rw [hU]; exact hPc, va_K.moved hW.alike hK, (hD.sub isC hn hC).weaken (fun _ _ _ _ => trivial), ?_⟩⟩
  · obtain ⟨z0, z1, qP, qK, qD, qG⟩ := z
    exact ⟨z0, z1, qP, va_K.moved (u := U) (U := U.calling g mk a) (Vm.Alike.refl U.vm) qK, qD, gs.moved (u := U) (U := U.calling g mk a) (Vm.Alike.refl U.vm) qG⟩
  · rw [hU]
    exact ((hG.kept (fun a h1 h2 => hS.2.1 a h1 h2)).narrow hF).moved hW.alike
/-- a call on an object of the class: the callee's world stands at the places isC of the caller's -/
theorem sn_V {y : MethodName} {ws : List Cond} {rm : Room} {bytes : ByteArray} {maxL n index ci q0 b : Nat} {ret' : Option FieldType} {Cn : String} {As rest : List Value} {wc : va_W} {fs : List Value} {q1 : vw_C} {lv : List (Nat × Value)} {Qf : (Nat → Prop) → Array Value → State → Outcome → State → Prop}
    (C : cy p s m args meth c cc ret nL own D q t A) (hM : cu l y ws rm D q t (.ref b :: As) wc Qf) (cw : CallW R s args own Cn index y bytes maxL ret' ws rm 0 0 n)
    (hP : va_P D vwCl w H) (hD : va_D A w) (hS : va_S A s.heap H locs) (isC : List Nat) (hC : isC.map (fun i => w[i]?) = wc.map some) (hnd : va_nd isC = true) (hcl : vwCl[ci]? = some q1) (he : w[q0]? = some (b, .inr (ci, fs))) (hCn : q1.1 = Cn) (hn : As.length = n) (hl : lv_has ls nL lv) (hroom : (rest.map fun v => v.category).sum ≤ 8) (hdg : decode cc pc = .ok (.invokevirtual index, 3)) :
    va_Run p l e R s m args below meth c H locs 0 0 0 0 (F0 m pc ls (As.reverse ++ .ref b :: rest)) rest (Qf (va_A wc H.size) (Value.ref b :: As).toArray) (va_A wc H.size) := by
  have hp := cy_pre (av := .ref b :: As) C hP hD hS isC hC hnd
  obtain ⟨⟨hx, hb, hr, hml, hown, hts, hlocks, hK, hA⟩, hG⟩ := C
  subst hCn
  exact va_runV ⟨hx, hb, hml, hown, hts⟩ (hM H.size) cw ⟨hp.1, va_recv hK hP hcl he, hp.2⟩ rfl hn hl.1 rfl (lv_room hroom) hdg ⟨Nat.zero_le _, Nat.zero_le _⟩
theorem sn_S {y : MethodName} {ws : List Cond} {rm : Room} {bytes : ByteArray} {maxL n index : Nat} {ret' : Option FieldType} {As rest : List Value} {wc : va_W} {lv : List (Nat × Value)} {Qf : (Nat → Prop) → Array Value → State → Outcome → State → Prop}
    (C : cy p s m args meth c cc ret nL own D q t A) (hM : cu l y ws rm D q t As wc Qf) (cw : CallB R s args own index y bytes maxL ret' ws rm 0 0 n ∧ (Cond.static y).before args s = true)
    (hP : va_P D vwCl w H) (hD : va_D A w) (hS : va_S A s.heap H locs) (isC : List Nat) (hC : isC.map (fun i => w[i]?) = wc.map some) (hnd : va_nd isC = true) (hn : As.length = n) (hl : lv_has ls nL lv) (hroom : (rest.map fun v => v.category).sum ≤ 8) (hdg : decode cc pc = .ok (.invokestatic index, 3)) :
    va_Run p l e R s m args below meth c H locs 0 0 0 0 (F0 m pc ls (As.reverse ++ rest)) rest (Qf (va_A wc H.size) As.toArray) (va_A wc H.size) := by
  have hp := cy_pre (av := As) C hP hD hS isC hC hnd
  obtain ⟨⟨hx, hb, hr, hml, hown, hts, hlocks, hK, hA⟩, hG⟩ := C
  exact va_runS ⟨hx, hb, hml, hown, hts⟩ (hM H.size) cw hp rfl hn hl.1 rfl (lv_room hroom) hdg ⟨Nat.zero_le _, Nat.zero_le _⟩
/-- a call that answers a reference, or null -/
theorem cf_r {r : Nat} {wc wr wc' w' : va_W} {st0 rest : List Value} {av : Array Value} (C : cx p s m args meth c cc ret nL own D q A) (hP : va_P D vwCl w H) (hD : va_D A w) (hS : va_S A s.heap H locs) (isC isR perm : List Nat) (hC : isC.map (fun i => w[i]?) = wc.map some) (hR : isR.map (fun i => w[i]?) = wr.map some) (hn : va_nd isR = true) (hdis : ∀ i ∈ isR, i ∉ isC) (hq : va_nd perm = true) (hp : perm.map (fun i => (wr ++ wc')[i]?) = w'.map some)
    (hr : va_Run p l e R s m args below meth c H locs 0 0 0 0 (F0 m pc ls st0) rest (qQ D q (some r) wc' (va_A wc H.size) av) (va_A wc H.size))
    (kk : ∀ (H1 : Heap) (locs1 : List Loc), va_P D vwCl w' H1 → va_D A w' → va_S A s.heap H1 locs1 → W p l e R s m args below meth c H1 locs1 0 0 Q (F0 m (pc + 3) ls (.ref r :: rest))) : W p l e R s m args below meth c H locs 0 0 Q (F0 m pc ls st0) := by
  have hF := va_free hD hS C.2.2.2.2.2.2.2.2 isC hC
  refine va_callq hr hS (fun z _ h => hF z h) hF (fun r2 u t H1 locs1 ht hvm hw hB hz1 hk1 hS1 => ?_)
  obtain ⟨hP1, hK1, hD1⟩ := hB
  rw [ht] at hP1
  subst hw
  obtain ⟨g1, g2⟩ := jn C hP hD hS isC isR hC hR hn hdis perm hq hp hk1 hP1 hD1
  exact kk H1 locs1 g1 g2 hS1
theorem cf_n {wc wr wc' w' : va_W} {st0 rest : List Value} {av : Array Value} (C : cx p s m args meth c cc ret nL own D q A) (hP : va_P D vwCl w H) (hD : va_D A w) (hS : va_S A s.heap H locs) (isC isR perm : List Nat) (hC : isC.map (fun i => w[i]?) = wc.map some) (hR : isR.map (fun i => w[i]?) = wr.map some) (hn : va_nd isR = true) (hdis : ∀ i ∈ isR, i ∉ isC) (hq : va_nd perm = true) (hp : perm.map (fun i => (wr ++ wc')[i]?) = w'.map some)
    (hr : va_Run p l e R s m args below meth c H locs 0 0 0 0 (F0 m pc ls st0) rest (qQ D q none wc' (va_A wc H.size) av) (va_A wc H.size))
    (kk : ∀ (H1 : Heap) (locs1 : List Loc), va_P D vwCl w' H1 → va_D A w' → va_S A s.heap H1 locs1 → W p l e R s m args below meth c H1 locs1 0 0 Q (F0 m (pc + 3) ls (.null :: rest))) : W p l e R s m args below meth c H locs 0 0 Q (F0 m pc ls st0) := by
  have hF := va_free hD hS C.2.2.2.2.2.2.2.2 isC hC
  refine va_callq hr hS (fun z _ h => hF z h) hF (fun r2 u t H1 locs1 ht hvm hw hB hz1 hk1 hS1 => ?_)
  obtain ⟨hP1, hK1, hD1⟩ := hB
  rw [ht] at hP1
  subst hw
  obtain ⟨g1, g2⟩ := jn C hP hD hS isC isR hC hR hn hdis perm hq hp hk1 hP1 hD1
  exact kk H1 locs1 g1 g2 hS1
theorem rt_q {r : Option Nat} {v : Value} {K : String} (C : cx p s m args meth c cc (some (.object K)) nL own D q A) (hv : va_rf r = v) (hP : va_P D vwCl w H) (hD : va_D A w) (hS : va_S A s.heap H locs) (hdg : decode cc pc = .ok (.areturn, 1)) : W p l e R s m args below meth c H locs 0 0 (MQ below (qQ D q r w A) args s 0 0 A) (F0 m pc ls [v]) := by
  obtain ⟨hx, hb, hr, hml, hown, hts, hlocks, hK, hA⟩ := C
  subst hv
  exact W.aret hx hb hr (Or.inl ⟨_, rfl⟩) (by cases r with | none => exact Or.inl rfl | some a => exact Or.inr ⟨a, rfl⟩) (fun t ht hW => ⟨⟨r, (), rfl, rfl, by rw [ht]; exact hP, va_K.moved hW.alike hK, hD⟩, hS.F ht⟩) hS.2.2 hdg hlocks
end RT2
