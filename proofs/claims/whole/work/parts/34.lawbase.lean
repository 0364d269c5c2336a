/-! LAW BASE: contracts over larger worlds (frame), calls whose world is the left part of the caller's, the law's fixed facts -/
theorem Met_mono {l : Launch} {y : MethodName} {ws : List Cond} {rm : Room} {P P' : Array Value → State → Prop} {Q Q' : Array Value → State → Outcome → State → Prop} {mc ms : Nat} {free free' : Addr → Prop} (h : Met l y ws rm P Q mc ms free) (hP : ∀ a s, P' a s → P a s) (hQ : ∀ a s o t, P' a s → Q a s o t → Q' a s o t) (hf : ∀ a, free a → free' a) : Met l y ws rm P' Q' mc ms free' := by
  intro p e h1 h2 h3 s m args below hfr happ hp hk
  obtain ⟨n, o, g1, g2, g3, g4, L, g5, g6⟩ := h p e h1 h2 h3 s m args below hfr happ (hP _ _ hp) hk
  exact ⟨n, o, g1, g2, g3, hQ _ _ _ _ hp g4, L, g5, fun q hq => hf _ (g6 q hq)⟩
theorem pick_sub {w wc : va_W} {isC : List Nat} (hC : isC.map (fun i => w[i]?) = wc.map some) : isC.filterMap (fun i => w[i]?) = wc := by
  have := congrArg (fun l : List (Option (Nat × va_E)) => l.filterMap id) hC
  simpa [List.filterMap_map, Function.comp_def] using this
theorem pick_A {w wc : va_W} {isC : List Nat} {sz : Nat} (hC : isC.map (fun i => w[i]?) = wc.map some) : ∀ r, va_A wc sz r → va_A w sz r := by
  intro r h
  rcases h with ⟨k, z, h⟩ | h
  · have h1 : (isC.map (fun i => w[i]?))[k]? = some (some (r, z)) := by rw [hC, List.getElem?_map, h]; rfl
    rw [List.getElem?_map] at h1
    cases hi : isC[k]? with
    | none => rw [hi] at h1; cases h1
    | some i => rw [hi] at h1; exact Or.inl ⟨i, z, Option.some.inj h1⟩
  · exact Or.inr h
theorem cu_pre {D : va_G} {q : Nat → ClassId} {t : Nat} {av : List Value} {w wc : va_W} {isC : List Nat} {sz : Nat} (hC : isC.map (fun i => w[i]?) = wc.map some) (hnC : va_nd isC = true) : ∀ a s, cuP D q t av w sz a s → cuP D q t av wc sz a s := by
  intro a s ⟨h0, h1, h2, h3, h4, h5⟩
  exact ⟨h0, h1, h2.sub isC (pick_sub hC), h3, h4.sub isC hnC hC, h5.narrow (pick_A hC)⟩
theorem cu_post {D : va_G} {q : Nat → ClassId} {t : Nat} {av : List Value} {w wc wr wc' w' : va_W} {isC isR perm : List Nat} {sz : Nat} (hC : isC.map (fun i => w[i]?) = wc.map some) (hR : isR.map (fun i => w[i]?) = wr.map some) (hn : va_nd isR = true) (hdis : ∀ i ∈ isR, i ∉ isC) (hq : va_nd perm = true) (hp : perm.map (fun i => (wr ++ wc')[i]?) = w'.map some) {a : Array Value} {s u : State} (hv : cuP D q t av w sz a s) (hF : va_F (va_A wc sz) s u) (h : qW D q (va_A wc sz) wc' u) : qW D q (va_A w sz) w' u ∧ va_F (va_A w sz) s u := by
  obtain ⟨h0, h1, h2, h3, h4, h5⟩ := hv
  obtain ⟨g1, g2, g3⟩ := h
  have hD : va_D (va_A w sz) w := h4.self
  subst h1
  obtain ⟨k1, k2⟩ := va_join h2 hD isC isR hC hR hn hdis (fun z hz hA => hF.2 z hz hA) (pick_A hC) g1 g3
  exact ⟨⟨k1.sub perm (pick_sub hp), g2, k2.sub perm hq hp⟩, hF.1, fun z hz hA => hF.2 z hz (fun x => hA (pick_A hC z x))⟩
theorem cu_i {l : Launch} {y : MethodName} {ws : List Cond} {rm : Room} {D : va_G} {q : Nat → ClassId} {t : Nat} {av : List Value} {w wc wr wc' w' : va_W} {r : Int32} (isC isR perm : List Nat) (h : cu l y ws rm D q t av wc (qI D q r wc')) (hC : isC.map (fun i => w[i]?) = wc.map some) (hnC : va_nd isC = true) (hR : isR.map (fun i => w[i]?) = wr.map some) (hn : va_nd isR = true) (hdis : ∀ i ∈ isR, i ∉ isC) (hq : va_nd perm = true) (hp : perm.map (fun i => (wr ++ wc')[i]?) = w'.map some) : cu l y ws rm D q t av w (qI D q r w') := by
  intro sz
  refine Met_mono (h sz) (cu_pre hC hnC) (fun a s o u hv hQ => ?_) (pick_A hC)
  obtain ⟨⟨r', z, h1, h2, h3⟩, hF⟩ := hQ
  obtain ⟨k1, k2⟩ := cu_post hC hR hn hdis hq hp hv hF h3
  exact ⟨⟨r', z, h1, h2, k1⟩, k2⟩
theorem cu_l {l : Launch} {y : MethodName} {ws : List Cond} {rm : Room} {D : va_G} {q : Nat → ClassId} {t : Nat} {av : List Value} {w wc wr wc' w' : va_W} {r : Int64} (isC isR perm : List Nat) (h : cu l y ws rm D q t av wc (qL D q r wc')) (hC : isC.map (fun i => w[i]?) = wc.map some) (hnC : va_nd isC = true) (hR : isR.map (fun i => w[i]?) = wr.map some) (hn : va_nd isR = true) (hdis : ∀ i ∈ isR, i ∉ isC) (hq : va_nd perm = true) (hp : perm.map (fun i => (wr ++ wc')[i]?) = w'.map some) : cu l y ws rm D q t av w (qL D q r w') := by
  intro sz
  refine Met_mono (h sz) (cu_pre hC hnC) (fun a s o u hv hQ => ?_) (pick_A hC)
  obtain ⟨⟨r', z, h1, h2, h3⟩, hF⟩ := hQ
  obtain ⟨k1, k2⟩ := cu_post hC hR hn hdis hq hp hv hF h3
  exact ⟨⟨r', z, h1, h2, k1⟩, k2⟩
/-! the left part of a world -/
theorem nd_of {l : List Nat} (h : l.Nodup) : va_nd l = true := by
  induction l with
  | nil => rfl
  | cons a l ih =>
    rw [List.nodup_cons] at h
    simp [va_nd, h.1, ih h.2]
theorem ap_C (a b : va_W) : (List.range a.length).map (fun i => (a ++ b)[i]?) = a.map some := by
  refine List.ext_getElem? (fun i => ?_)
  simp only [List.getElem?_map]
  by_cases hi : i < a.length
  · rw [List.getElem?_range hi]
    simp [List.getElem?_append_left hi, List.getElem?_eq_getElem hi]
  · rw [List.getElem?_eq_none (by simpa using hi), List.getElem?_eq_none (by simpa using hi)]
    rfl
theorem ap_R (a b : va_W) : ((List.range b.length).map (fun i => a.length + i)).map (fun i => (a ++ b)[i]?) = b.map some := by
  refine List.ext_getElem? (fun i => ?_)
  simp only [List.getElem?_map]
  by_cases hi : i < b.length
  · rw [List.getElem?_range hi]
    simp [List.getElem?_append_right, List.getElem?_eq_getElem hi]
  · rw [List.getElem?_eq_none (by simpa using hi), List.getElem?_eq_none (by simpa using hi)]
    rfl
theorem ap_nC (n : Nat) : va_nd (List.range n) = true := nd_of List.nodup_range
theorem nd_map {l : List Nat} {k : Nat} (h : va_nd l = true) : va_nd (l.map (fun i => k + i)) = true := by
  induction l with
  | nil => rfl
  | cons a l ih =>
    simp only [va_nd, Bool.and_eq_true, decide_eq_true_eq] at h
    simp only [List.map_cons, va_nd, Bool.and_eq_true, decide_eq_true_eq]
    refine ⟨fun hm => ?_, ih h.2⟩
    obtain ⟨b, hb, e⟩ := List.mem_map.mp hm
    have e2 : b = a := by omega
    exact h.1 (e2 ▸ hb)
theorem ap_nR (n k : Nat) : va_nd ((List.range n).map (fun i => k + i)) = true := nd_map (ap_nC n)
theorem ap_dis (n k : Nat) : ∀ i ∈ (List.range n).map (fun i => k + i), i ∉ List.range k := by
  intro i hi h
  obtain ⟨j, -, rfl⟩ := List.mem_map.mp hi
  have := List.mem_range.mp h
  omega
section LC
variable {p : Program} {l : Launch} {e : Env} {R : Room} {s : State} {m : MethodId} {args : Array Value} {below : List Frame} {meth : Method} {c : Code} {H : Heap} {locs : List Loc} {Q : State → Prop} {cc : ByteArray} {ret : Option FieldType} {nL : Nat} {own : String} {D : va_G} {q : Nat → ClassId} {t : Nat} {A : Nat → Prop} {wa wb wa' : va_W} {pc : Nat} {ls : Array Slot} {cells slots : Nat} {rest : List Value}
theorem lf_join {H1 : Heap} (hP : va_P D vwCl (wa ++ wb) H) (hD : va_D A (wa ++ wb)) (hS : va_S A s.heap H locs) (hA : ∀ r : Nat, s.heap.size ≤ r → A r) (hk : ∀ z : Nat, z < H.size → ¬ va_A wa H.size z → H1[z]? = H[z]?) (hP1 : va_P D vwCl wa' H1) (hD1 : va_D (va_A wa H.size) wa') : va_P D vwCl (wb ++ wa') H1 ∧ va_D A (wb ++ wa') :=
  va_join hP hD (List.range wa.length) ((List.range wb.length).map (fun i => wa.length + i)) (ap_C wa wb) (ap_R wa wb) (ap_nR _ _) (ap_dis _ _) hk (va_free hD hS hA _ (ap_C wa wb)) hP1 hD1
/-- a call on the class's object: its world is the left part; behind it the parts have changed sides -/
theorem lx_run {y : MethodName} {ws : List Cond} {rm : Room} {bytes : ByteArray} {maxL n index ci b : Nat} {ret' : Option FieldType} {Cn : String} {As : List Value} {fs : List Value} {q1 : vw_C} {lv : List (Nat × Value)} {Qf : (Nat → Prop) → Array Value → State → Outcome → State → Prop}
    (C : cy p s m args meth c cc ret nL own D q t A) (hM : cu l y ws rm D q t (.ref b :: As) wa Qf) (cw : CallW R s args own Cn index y bytes maxL ret' ws rm 0 0 n)
    (hP : va_P D vwCl (wa ++ wb) H) (hD : va_D A (wa ++ wb)) (hS : va_S A s.heap H locs) (hcl : vwCl[ci]? = some q1) (he : wa[0]? = some (b, .inr (ci, fs))) (hCn : q1.1 = Cn) (hn : As.length = n) (hl : lv_has ls nL lv) (hroom : (rest.map fun v => v.category).sum ≤ 8) (hdg : decode cc pc = .ok (.invokevirtual index, 3)) (hf : cells ≤ R.cells ∧ slots ≤ R.slots) :
    va_Run p l e R s m args below meth c H locs cells slots 0 0 (F0 m pc ls (As.reverse ++ .ref b :: rest)) rest (Qf (va_A wa H.size) (Value.ref b :: As).toArray) (va_A wa H.size) := by
  have hp := cy_pre (av := .ref b :: As) C hP hD hS (List.range wa.length) (ap_C wa wb) (ap_nC _)
  obtain ⟨⟨hx, hb, hr, hml, hown, hts, hlocks, hK, hA⟩, hG⟩ := C
  subst hCn
  have hPa : va_P D vwCl wa H := hP.sub (List.range wa.length) (pick_sub (ap_C wa wb))
  exact va_runV ⟨hx, hb, hml, hown, hts⟩ (hM H.size) cw ⟨hp.1, va_recv hK hPa hcl he, hp.2⟩ rfl hn hl.1 rfl (lv_room hroom) hdg hf
theorem lm_run {y : MethodName} {ws : List Cond} {rm : Room} {bytes : ByteArray} {maxL n index ci b : Nat} {ret' : Option FieldType} {Cn : String} {As : List Value} {fs : List Value} {q1 : vw_C} {lv : List (Nat × Value)} {Qf : (Nat → Prop) → Array Value → State → Outcome → State → Prop}
    (C : cy p s m args meth c cc ret nL own D q t A) (hM : ct l y ws rm D q (.ref b :: As) wa Qf) (cw : CallW R s args own Cn index y bytes maxL ret' ws rm 0 0 n)
    (hP : va_P D vwCl (wa ++ wb) H) (hD : va_D A (wa ++ wb)) (_hS : va_S A s.heap H locs) (hcl : vwCl[ci]? = some q1) (he : wa[0]? = some (b, .inr (ci, fs))) (hCn : q1.1 = Cn) (hn : As.length = n) (hl : lv_has ls nL lv) (hroom : (rest.map fun v => v.category).sum ≤ 8) (hdg : decode cc pc = .ok (.invokevirtual index, 3)) (hf : cells ≤ R.cells ∧ slots ≤ R.slots) :
    va_Run p l e R s m args below meth c H locs cells slots 0 0 (F0 m pc ls (As.reverse ++ .ref b :: rest)) rest (Qf (va_A wa H.size) (Value.ref b :: As).toArray) (va_A wa H.size) := by
  obtain ⟨⟨hx, hb, hr, hml, hown, hts, hlocks, hK, hA⟩, hG⟩ := C
  subst hCn
  have hPa : va_P D vwCl wa H := hP.sub (List.range wa.length) (pick_sub (ap_C wa wb))
  have hDa : va_D (fun _ => True) wa := (hD.sub (List.range wa.length) (ap_nC _) (ap_C wa wb)).weaken (fun _ _ _ _ => trivial)
  exact va_runV ⟨hx, hb, hml, hown, hts⟩ (hM H.size) cw ⟨fun a U g mk z => by obtain ⟨z0, z1, qP, qK, qD⟩ := z; exact ⟨z0, z1, qP, va_K.moved (u := U) (U := U.calling g mk a) (Vm.Alike.refl U.vm) qK, qD⟩, va_recv hK hPa hcl he, fun U hU hW => ⟨rfl, by rw [hU], by rw [hU]; exact hPa, va_K.moved hW.alike hK, hDa⟩⟩ rfl hn hl.1 rfl (lv_room hroom) hdg hf
theorem lf_i {r : Int32} {st0 : List Value} {av : Array Value} (C : cy p s m args meth c cc ret nL own D q t A) (hP : va_P D vwCl (wa ++ wb) H) (hD : va_D A (wa ++ wb)) (hS : va_S A s.heap H locs)
    (hr : va_Run p l e R s m args below meth c H locs cells slots 0 0 (F0 m pc ls st0) rest (qI D q r wa' (va_A wa H.size) av) (va_A wa H.size))
    (kk : ∀ (H1 : Heap) (locs1 : List Loc), va_P D vwCl (wb ++ wa') H1 → va_D A (wb ++ wa') → va_S A s.heap H1 locs1 → W p l e R s m args below meth c H1 locs1 cells slots Q (F0 m (pc + 3) ls (.int r :: rest))) : W p l e R s m args below meth c H locs cells slots Q (F0 m pc ls st0) := by
  have hF := va_free hD hS C.1.2.2.2.2.2.2.2.2 (List.range wa.length) (ap_C wa wb)
  refine va_calli hr hS (fun z _ h => hF z h) hF (fun r2 u t H1 locs1 ht hvm hw hB hz1 hk1 hS1 => ?_)
  obtain ⟨hP1, hK1, hD1⟩ := hB
  rw [ht] at hP1
  subst hw
  obtain ⟨g1, g2⟩ := lf_join hP hD hS C.1.2.2.2.2.2.2.2.2 hk1 hP1 hD1
  exact kk H1 locs1 g1 g2 hS1
theorem lf_l {r : Int64} {st0 : List Value} {av : Array Value} (C : cy p s m args meth c cc ret nL own D q t A) (hP : va_P D vwCl (wa ++ wb) H) (hD : va_D A (wa ++ wb)) (hS : va_S A s.heap H locs)
    (hr : va_Run p l e R s m args below meth c H locs cells slots 0 0 (F0 m pc ls st0) rest (qL D q r wa' (va_A wa H.size) av) (va_A wa H.size))
    (kk : ∀ (H1 : Heap) (locs1 : List Loc), va_P D vwCl (wb ++ wa') H1 → va_D A (wb ++ wa') → va_S A s.heap H1 locs1 → W p l e R s m args below meth c H1 locs1 cells slots Q (F0 m (pc + 3) ls (.long r :: rest))) : W p l e R s m args below meth c H locs cells slots Q (F0 m pc ls st0) := by
  have hF := va_free hD hS C.1.2.2.2.2.2.2.2.2 (List.range wa.length) (ap_C wa wb)
  refine va_calll hr hS (fun z _ h => hF z h) hF (fun r2 u t H1 locs1 ht hvm hw hB hz1 hk1 hS1 => ?_)
  obtain ⟨hP1, hK1, hD1⟩ := hB
  rw [ht] at hP1
  subst hw
  obtain ⟨g1, g2⟩ := lf_join hP hD hS C.1.2.2.2.2.2.2.2.2 hk1 hP1 hD1
  exact kk H1 locs1 g1 g2 hS1
end LC
