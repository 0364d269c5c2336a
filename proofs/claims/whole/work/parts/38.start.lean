set_option maxRecDepth 20000 in
theorem kw_86 : Cond.classLink RL 7 RX11 ∈ wg := wg_in1 15 rfl rfl
set_option maxRecDepth 20000 in
theorem kw_87 : Cond.instantiable RX11 19 ∈ wg := wg_in1 16 rfl rfl
set_option maxRecDepth 20000 in
theorem kw_88 : Cond.methodLink RL 9 yX11_init ∈ wg := wg_in1 17 rfl rfl
set_option maxRecDepth 20000 in
theorem kw_89 : Cond.instanceMethod yX11_init ∈ wg := wg_in1 18 rfl rfl
set_option maxRecDepth 20000 in
theorem kw_90 : Cond.code yX11_init cX11_init 2 none ∈ wg := wg_in1 19 rfl rfl
set_option maxRecDepth 20000 in
theorem kw_1065 : Cond.classLink RL 10 RX12 ∈ wg := wg_in5 34 rfl rfl
set_option maxRecDepth 20000 in
theorem kw_1066 : Cond.instantiable RX12 84 ∈ wg := wg_in5 35 rfl rfl
set_option maxRecDepth 20000 in
theorem kw_1067 : Cond.methodLink RL 12 yX12_init ∈ wg := wg_in5 36 rfl rfl
set_option maxRecDepth 20000 in
theorem kw_1068 : Cond.instanceMethod yX12_init ∈ wg := wg_in5 37 rfl rfl
set_option maxRecDepth 20000 in
theorem kw_1069 : Cond.code yX12_init cX12_init 1 none ∈ wg := wg_in5 38 rfl rfl
/-- the cells of a new desk at x, its others at a -/
def dk (q : Nat → ClassId) (x : Nat) (a : Nat → Nat) : va_W := [(x, .inr (9, [.ref (a 0), .ref (a 2), .ref (a 4), .ref (a 6), .ref (a 7), .ref (a 8), .ref (a 9), .ref (a 10), .ref (a 14), .ref (a 17), .ref (a 22), .int 0, .int 0, .int 0, .int 0, .int 0, .int 0, .int 0, .int 0])), ((a 0), .inr (3, [.ref (a 1), .int 0])), rB q (a 1) 1500 (fun _ => 0), ((a 2), .inr (3, [.ref (a 3), .int 0])), rB q (a 3) 1500 (fun _ => 0), ((a 4), .inr (3, [.ref (a 5), .int 0])), rB q (a 5) 8 (fun _ => 0), rO q 3 (a 6) 4 (fun i => some (a (40 + 6 * i))), rO q 5 (a 7) 8 (fun i => some (a (70 + 3 * i))), rO q 4 (a 8) 16 (fun i => some (a (100 + i))), ((a 9), .inr (5, [.int (-1 : Int32), .int (-1 : Int32), .int (-1 : Int32), .long (-1 : Int64), .int (-1 : Int32), .long (-1 : Int64), .long (-1 : Int64)])), ((a 10), .inr (6, [.ref (a 11), .ref (a 12), .ref (a 13), .int 0])), rJ q (a 11) 8 (fun _ => 0), rJ q (a 12) 8 (fun _ => 0), rI q (a 13) 8 (fun _ => 0), ((a 14), .inr (7, [.ref (a 15), .ref (a 16), .int 0, .int 0, .int 0, .int 0, .int 0, .int 0, .int 0])), rI q (a 15) 12 (fun _ => 0), rB q (a 16) 0 (fun _ => 0), ((a 17), .inr (1, [.ref (a 18), .int 0, .int 0])), ((a 18), .inr (6, [.ref (a 19), .ref (a 20), .ref (a 21), .int 0])), rJ q (a 19) 8 (fun _ => 0), rJ q (a 20) 8 (fun _ => 0), rI q (a 21) 8 (fun _ => 0), ((a 22), .inr (0, [.ref (a 23), .ref (a 27), .ref (a 28), .ref (a 29), .ref (a 30), .ref (a 31), .ref (a 32), .int 0, .int 0, .int 0, .int 0, .long 0, .int 0, .int 0, .int 0, .long 0, .int 0, .int 0])), ((a 23), .inr (6, [.ref (a 24), .ref (a 25), .ref (a 26), .int 0])), rJ q (a 24) 8 (fun _ => 0), rJ q (a 25) 8 (fun _ => 0), rI q (a 26) 8 (fun _ => 0), rI q (a 27) 8 (fun _ => 0), rJ q (a 28) 8 (fun _ => 0), rI q (a 29) 8 (fun _ => 0), rJ q (a 30) 8 (fun _ => 0), rJ q (a 31) 8 (fun _ => 0), ((a 32), .inr (4, [.int 0, .int 0, .int 0, .int 0, .int 0, .int 0, .int 0, .long 0, .long 0, .long 0, .int 0, .long 0])), ((a 40), .inr (2, [.ref (a 41), .ref (a 43), .ref (a 44), .ref (a 45), .int 0, .int 0, .long 0, .long 0, .int 0, .int 0])), ((a 41), .inr (3, [.ref (a 42), .int 0])), rB q (a 42) 16 (fun _ => 0), rI q (a 43) 32 (fun _ => 0), rJ q (a 44) 32 (fun _ => 0), rI q (a 45) 32 (fun _ => 0), ((a 46), .inr (2, [.ref (a 47), .ref (a 49), .ref (a 50), .ref (a 51), .int 0, .int 0, .long 0, .long 0, .int 0, .int 0])), ((a 47), .inr (3, [.ref (a 48), .int 0])), rB q (a 48) 16 (fun _ => 0), rI q (a 49) 32 (fun _ => 0), rJ q (a 50) 32 (fun _ => 0), rI q (a 51) 32 (fun _ => 0), ((a 52), .inr (2, [.ref (a 53), .ref (a 55), .ref (a 56), .ref (a 57), .int 0, .int 0, .long 0, .long 0, .int 0, .int 0])), ((a 53), .inr (3, [.ref (a 54), .int 0])), rB q (a 54) 16 (fun _ => 0), rI q (a 55) 32 (fun _ => 0), rJ q (a 56) 32 (fun _ => 0), rI q (a 57) 32 (fun _ => 0), ((a 58), .inr (2, [.ref (a 59), .ref (a 61), .ref (a 62), .ref (a 63), .int 0, .int 0, .long 0, .long 0, .int 0, .int 0])), ((a 59), .inr (3, [.ref (a 60), .int 0])), rB q (a 60) 16 (fun _ => 0), rI q (a 61) 32 (fun _ => 0), rJ q (a 62) 32 (fun _ => 0), rI q (a 63) 32 (fun _ => 0), ((a 70), .inr (8, [.ref (a 71), .int 0, .int 0, .int 0, .long 0])), ((a 71), .inr (3, [.ref (a 72), .int 0])), rB q (a 72) 128 (fun _ => 0), ((a 73), .inr (8, [.ref (a 74), .int 0, .int 0, .int 0, .long 0])), ((a 74), .inr (3, [.ref (a 75), .int 0])), rB q (a 75) 128 (fun _ => 0), ((a 76), .inr (8, [.ref (a 77), .int 0, .int 0, .int 0, .long 0])), ((a 77), .inr (3, [.ref (a 78), .int 0])), rB q (a 78) 128 (fun _ => 0), ((a 79), .inr (8, [.ref (a 80), .int 0, .int 0, .int 0, .long 0])), ((a 80), .inr (3, [.ref (a 81), .int 0])), rB q (a 81) 128 (fun _ => 0), ((a 82), .inr (8, [.ref (a 83), .int 0, .int 0, .int 0, .long 0])), ((a 83), .inr (3, [.ref (a 84), .int 0])), rB q (a 84) 128 (fun _ => 0), ((a 85), .inr (8, [.ref (a 86), .int 0, .int 0, .int 0, .long 0])), ((a 86), .inr (3, [.ref (a 87), .int 0])), rB q (a 87) 128 (fun _ => 0), ((a 88), .inr (8, [.ref (a 89), .int 0, .int 0, .int 0, .long 0])), ((a 89), .inr (3, [.ref (a 90), .int 0])), rB q (a 90) 128 (fun _ => 0), ((a 91), .inr (8, [.ref (a 92), .int 0, .int 0, .int 0, .long 0])), ((a 92), .inr (3, [.ref (a 93), .int 0])), rB q (a 93) 128 (fun _ => 0), ((a 100), .inr (5, [.int (-1 : Int32), .int (-1 : Int32), .int (-1 : Int32), .long (-1 : Int64), .int (-1 : Int32), .long (-1 : Int64), .long (-1 : Int64)])), ((a 101), .inr (5, [.int (-1 : Int32), .int (-1 : Int32), .int (-1 : Int32), .long (-1 : Int64), .int (-1 : Int32), .long (-1 : Int64), .long (-1 : Int64)])), ((a 102), .inr (5, [.int (-1 : Int32), .int (-1 : Int32), .int (-1 : Int32), .long (-1 : Int64), .int (-1 : Int32), .long (-1 : Int64), .long (-1 : Int64)])), ((a 103), .inr (5, [.int (-1 : Int32), .int (-1 : Int32), .int (-1 : Int32), .long (-1 : Int64), .int (-1 : Int32), .long (-1 : Int64), .long (-1 : Int64)])), ((a 104), .inr (5, [.int (-1 : Int32), .int (-1 : Int32), .int (-1 : Int32), .long (-1 : Int64), .int (-1 : Int32), .long (-1 : Int64), .long (-1 : Int64)])), ((a 105), .inr (5, [.int (-1 : Int32), .int (-1 : Int32), .int (-1 : Int32), .long (-1 : Int64), .int (-1 : Int32), .long (-1 : Int64), .long (-1 : Int64)])), ((a 106), .inr (5, [.int (-1 : Int32), .int (-1 : Int32), .int (-1 : Int32), .long (-1 : Int64), .int (-1 : Int32), .long (-1 : Int64), .long (-1 : Int64)])), ((a 107), .inr (5, [.int (-1 : Int32), .int (-1 : Int32), .int (-1 : Int32), .long (-1 : Int64), .int (-1 : Int32), .long (-1 : Int64), .long (-1 : Int64)])), ((a 108), .inr (5, [.int (-1 : Int32), .int (-1 : Int32), .int (-1 : Int32), .long (-1 : Int64), .int (-1 : Int32), .long (-1 : Int64), .long (-1 : Int64)])), ((a 109), .inr (5, [.int (-1 : Int32), .int (-1 : Int32), .int (-1 : Int32), .long (-1 : Int64), .int (-1 : Int32), .long (-1 : Int64), .long (-1 : Int64)])), ((a 110), .inr (5, [.int (-1 : Int32), .int (-1 : Int32), .int (-1 : Int32), .long (-1 : Int64), .int (-1 : Int32), .long (-1 : Int64), .long (-1 : Int64)])), ((a 111), .inr (5, [.int (-1 : Int32), .int (-1 : Int32), .int (-1 : Int32), .long (-1 : Int64), .int (-1 : Int32), .long (-1 : Int64), .long (-1 : Int64)])), ((a 112), .inr (5, [.int (-1 : Int32), .int (-1 : Int32), .int (-1 : Int32), .long (-1 : Int64), .int (-1 : Int32), .long (-1 : Int64), .long (-1 : Int64)])), ((a 113), .inr (5, [.int (-1 : Int32), .int (-1 : Int32), .int (-1 : Int32), .long (-1 : Int64), .int (-1 : Int32), .long (-1 : Int64), .long (-1 : Int64)])), ((a 114), .inr (5, [.int (-1 : Int32), .int (-1 : Int32), .int (-1 : Int32), .long (-1 : Int64), .int (-1 : Int32), .long (-1 : Int64), .long (-1 : Int64)])), ((a 115), .inr (5, [.int (-1 : Int32), .int (-1 : Int32), .int (-1 : Int32), .long (-1 : Int64), .int (-1 : Int32), .long (-1 : Int64), .long (-1 : Int64)]))]
def AllOps (l : Launch) : Prop := ∀ (D : va_G) (q : Nat → ClassId) (t x mm : Nat) (a am : Nat → Nat), ∃ Inv : va_W → va_W → Prop, Inv (dk q x a) (mw q (cA mm am) (fun _ => 0) 0 (fun _ => 0) 0 0 (fun _ => 0) (fun _ => 0) (fun _ => 0) (fun _ => 0) (fun _ => 0) (fun _ => 0) (fun _ => 0) (fun _ => 0) 0 (fun _ => 0) (fun _ => 0) (fun _ => 0) (fun _ => 0) (fun _ => 0) 0 (fun _ => 0) (fun _ => 0) (fun _ => 0) 0 0 0 0 0 0 0 (fun _ => 0) (fun _ => 0) 0 0 0 0 0 0 0 0 0 0 0 0 0 0 0 0 0 0 0 0 0 0 0 (fun _ => 0) (fun _ => 0) (fun _ => 0) 0 0 0 0 0 0 0 0 0 0 (fun _ => 0) (fun _ => 0) (fun _ => 0) (fun _ => 0) (fun _ => 0) (-1) (fun _ => 0) 0 0 0 0 0 (fun _ => 0) (fun _ => 0) (fun _ => 0) (fun _ => 0)) ∧ (∀ wx wm, Inv wx wm → (∃ fs, wx[0]? = some (x, .inr (9, fs))) ∧ ∃ fs, wm[0]? = some (mm, .inr (10, fs))) ∧ op_feed l D q t x mm Inv ∧ op_take l D q t x mm Inv ∧ op_spoil l D q t x mm Inv ∧ op_cut l D q t x mm Inv ∧ op_size l D q t x mm Inv ∧ op_out l D q t x mm Inv ∧ op_authority l D q t x mm Inv ∧ op_issue l D q t x mm Inv ∧ op_takeBack l D q t x mm Inv ∧ op_lift l D q t x mm Inv ∧ op_signer l D q t x mm Inv ∧ op_cert l D q t x mm Inv ∧ op_want l D q t x mm Inv ∧ op_nonce l D q t x mm Inv ∧ op_ask l D q t x mm Inv ∧ op_answer l D q t x mm Inv ∧ op_look l D q t x mm Inv ∧ op_passes l D q t x mm Inv ∧ op_found l D q t x mm Inv ∧ op_hold l D q t x mm Inv ∧ op_held l D q t x mm Inv ∧ op_check l D q t x mm Inv ∧ op_clock l D q t x mm Inv ∧ op_hash l D q t x mm Inv ∧ op_key l D q t x mm Inv ∧ op_told l D q t x mm Inv
theorem lw_arr {s : State} {args : Array Value} {ty : FieldType} (h : (Cond.arrayClass ty).before args s = true) : ∃ cA, ArrOfT s cA ty ∧ s.vm.findClass ("[" ++ ty.toString) = some cA := by
  obtain ⟨cA, kA, comp, h1, h2, h3⟩ := Cond.arrayClass_spec h
  exact ⟨cA, fun n z => ⟨fun k h => (by cases h), kA, h2, comp, h3⟩, h1⟩
theorem lw_ovr {s : State} {args : Array Value} {K : String} (h : (Cond.arrayOver (.object K)).before args s = true) : ∃ cA, ArrOfT s cA (.object K) ∧ va_RA s cA (.object K) := by
  obtain ⟨comp, c, k, h1, h2, h3, h4, h5⟩ := Cond.arrayOver_spec h
  exact ⟨c, fun n z => ⟨fun k h => (by cases h), k, h3, comp, h4⟩, k, comp, h3, h4, h1, h5⟩
set_option maxHeartbeats 4000000 in
set_option maxRecDepth 100000 in
theorem lw_entry {p : Program} {s : State} {m : MethodId} {meth : Method} {c : Code} {b L : Nat} {xs : Nat → Int32} (C0 : lw_At p s m meth c b L xs) : ∃ (D : va_G) (q : Nat → ClassId) (t : Nat), cy p s m #[Value.ref b] meth c code ret 4 RL D q t (fun r : Nat => s.heap.size ≤ r) ∧ nw s := by
  obtain ⟨hx, hb, hr, hml, hown, hts0, hX, hbl, hlocks, hgv⟩ := C0
  have hts : ∀ w ∈ wg, w.before #[Value.ref b] s = true := fun w h => hts0 w (List.mem_filter.mp h).1
  obtain ⟨c0, i0, h0⟩ := u_known (C := RX0) (T := TX0) (N := 18) (n := 18) hts iw_X0 (hts _ kw_251)
  obtain ⟨c1, i1, h1⟩ := u_known (C := RX1) (T := TX1) (N := 3) (n := 3) hts iw_X1 (hts _ kw_230)
  obtain ⟨c2, i2, h2⟩ := u_known (C := RX2) (T := TX2) (N := 10) (n := 10) hts iw_X2 (hts _ kw_384)
  obtain ⟨c3, i3, h3⟩ := u_known (C := RX3) (T := TX3) (N := 2) (n := 2) hts iw_X3 (hts _ kw_95)
  obtain ⟨c4, i4, h4⟩ := u_known (C := RX4) (T := TX4) (N := 12) (n := 12) hts iw_X4 (hts _ kw_259)
  obtain ⟨c5, i5, h5⟩ := u_known (C := RX5) (T := TX5) (N := 7) (n := 7) hts iw_X5 (hts _ kw_123)
  obtain ⟨c6, i6, h6⟩ := u_known (C := RX6) (T := TX6) (N := 4) (n := 4) hts iw_X6 (hts _ kw_159)
  obtain ⟨c7, i7, h7⟩ := u_known (C := RX8) (T := TX8) (N := 9) (n := 9) hts iw_X8 (hts _ kw_189)
  obtain ⟨c8, i8, h8⟩ := u_known (C := RX9) (T := TX9) (N := 5) (n := 5) hts iw_X9 (hts _ kw_432)
  obtain ⟨c9, i9, h9⟩ := u_known (C := RX11) (T := TX11) (N := 19) (n := 19) hts iw_X11 (hts _ kw_87)
  obtain ⟨c10, i10, h10⟩ := u_known (C := RX12) (T := TX12) (N := 84) (n := 84) hts iw_X12 (hts _ kw_1066)
  obtain ⟨aB, gB, fB⟩ := lw_arr (hts _ ac_B)
  obtain ⟨aI, gI, fI⟩ := lw_arr (hts _ ac_I)
  obtain ⟨aJ, gJ, fJ⟩ := lw_arr (hts _ ac_J)
  obtain ⟨aA, gA, fA⟩ := lw_ovr (K := "StatusDesk$Authority") (hts0 _ (by decide +kernel))
  obtain ⟨aF, gF, fF⟩ := lw_ovr (K := "StatusDesk$Find") (hts0 _ (by decide +kernel))
  obtain ⟨aS, gS, fS⟩ := lw_ovr (K := "StatusDesk$Signer") (hts0 _ (by decide +kernel))
  have hs := flat_of_before _ hgv
  have hA : ∀ z : Nat, z < s.heap.size → ¬ s.heap.size ≤ z := fun z h => Nat.not_le.mpr h
  have hS1 : (Cond.arrayOf (.static "StatusDesk$Times" "MONTH_DAYS" "[I") .int).before #[Value.ref b] s = true := hs _ (by decide +kernel)
  have hS2 : (Cond.eq (.length (.static "StatusDesk$Times" "MONTH_DAYS" "[I")) (.int 12)).before #[Value.ref b] s = true := hs _ (by decide +kernel)
  have e0 : (Cond.eq (.elem (.static "StatusDesk$Times" "MONTH_DAYS" "[I") (.int 0)) (.int 31)).before #[Value.ref b] s = true := hs _ (by decide +kernel)
  have e1 : (Cond.eq (.elem (.static "StatusDesk$Times" "MONTH_DAYS" "[I") (.int 1)) (.int 28)).before #[Value.ref b] s = true := hs _ (by decide +kernel)
  have e2 : (Cond.eq (.elem (.static "StatusDesk$Times" "MONTH_DAYS" "[I") (.int 2)) (.int 31)).before #[Value.ref b] s = true := hs _ (by decide +kernel)
  have e3 : (Cond.eq (.elem (.static "StatusDesk$Times" "MONTH_DAYS" "[I") (.int 3)) (.int 30)).before #[Value.ref b] s = true := hs _ (by decide +kernel)
  have e4 : (Cond.eq (.elem (.static "StatusDesk$Times" "MONTH_DAYS" "[I") (.int 4)) (.int 31)).before #[Value.ref b] s = true := hs _ (by decide +kernel)
  have e5 : (Cond.eq (.elem (.static "StatusDesk$Times" "MONTH_DAYS" "[I") (.int 5)) (.int 30)).before #[Value.ref b] s = true := hs _ (by decide +kernel)
  have e6 : (Cond.eq (.elem (.static "StatusDesk$Times" "MONTH_DAYS" "[I") (.int 6)) (.int 31)).before #[Value.ref b] s = true := hs _ (by decide +kernel)
  have e7 : (Cond.eq (.elem (.static "StatusDesk$Times" "MONTH_DAYS" "[I") (.int 7)) (.int 31)).before #[Value.ref b] s = true := hs _ (by decide +kernel)
  have e8 : (Cond.eq (.elem (.static "StatusDesk$Times" "MONTH_DAYS" "[I") (.int 8)) (.int 30)).before #[Value.ref b] s = true := hs _ (by decide +kernel)
  have e9 : (Cond.eq (.elem (.static "StatusDesk$Times" "MONTH_DAYS" "[I") (.int 9)) (.int 31)).before #[Value.ref b] s = true := hs _ (by decide +kernel)
  have e10 : (Cond.eq (.elem (.static "StatusDesk$Times" "MONTH_DAYS" "[I") (.int 10)) (.int 30)).before #[Value.ref b] s = true := hs _ (by decide +kernel)
  have e11 : (Cond.eq (.elem (.static "StatusDesk$Times" "MONTH_DAYS" "[I") (.int 11)) (.int 31)).before #[Value.ref b] s = true := hs _ (by decide +kernel)
  obtain ⟨t, hv, hT⟩ := va_Tof (tm := (.static "StatusDesk$Times" "MONTH_DAYS" "[I")) (N := 12) (f := fun j => .int (mdays j)) (A := fun r : Nat => s.heap.size ≤ r) (by decide) hS1 (va_eqt hS2) (fun j hj => by match j, hj with | 0, _ => exact va_eqt e0 | 1, _ => exact va_eqt e1 | 2, _ => exact va_eqt e2 | 3, _ => exact va_eqt e3 | 4, _ => exact va_eqt e4 | 5, _ => exact va_eqt e5 | 6, _ => exact va_eqt e6 | 7, _ => exact va_eqt e7 | 8, _ => exact va_eqt e8 | 9, _ => exact va_eqt e9 | 10, _ => exact va_eqt e10 | 11, _ => exact va_eqt e11 | n + 12, h => exact absurd h (by omega)) hA
  have hZ := va_Zof (A := fun r : Nat => s.heap.size ≤ r) (hts0 (.laysStatic "StatusDesk$Times" "MONTH_DAYS" "[I") (by decide +kernel)) (hts _ kw_85) hv hA
  refine ⟨(fun k => ([c0, c1, c2, c3, c4, c5, c6, c7, c8, c9, c10] : List ClassId).getD k 0, fun k => ([i0, i1, i2, i3, i4, i5, i6, i7, i8, i9, i10] : List (Nat → Nat)).getD k (fun _ => 0)), fun k => ([aB, aI, aJ, aA, aF, aS] : List ClassId).getD k 0, t, ⟨⟨hx, hb, hr, hml, hown, hts, hlocks, ⟨fun k z hz => ?_, fun k z hz => ?_⟩, fun _ h => h⟩, hZ, hT⟩, va_Nw.of rfl (hts0 _ (by decide +kernel)), va_Nw.of rfl (hts0 _ (by decide +kernel)), va_Nw.of rfl (hts0 _ (by decide +kernel)), va_Nw.of rfl (hts0 _ (by decide +kernel)), va_Nw.of rfl (hts0 _ (by decide +kernel)), va_Nw.of rfl (hts0 _ (by decide +kernel)), va_Nw.of rfl (hts0 _ (by decide +kernel)), va_Nw.of rfl (hts0 _ (by decide +kernel)), va_Nw.of rfl (hts0 _ (by decide +kernel)), va_Nw.of rfl (hts0 _ (by decide +kernel)), va_AO.of (hts0 _ (by decide +kernel)), va_AO.of (hts0 _ (by decide +kernel)), va_AO.of (hts0 _ (by decide +kernel))⟩
  · match k, hz with
    | 0, hz => cases hz; exact h0
    | 1, hz => cases hz; exact h1
    | 2, hz => cases hz; exact h2
    | 3, hz => cases hz; exact h3
    | 4, hz => cases hz; exact h4
    | 5, hz => cases hz; exact h5
    | 6, hz => cases hz; exact h6
    | 7, hz => cases hz; exact h7
    | 8, hz => cases hz; exact h8
    | 9, hz => cases hz; exact h9
    | 10, hz => cases hz; exact h10
    | k + 11, hz => simp [vwCl] at hz
  · match k, hz with
    | 0, hz => cases hz; exact ⟨gB, fB⟩
    | 1, hz => cases hz; exact ⟨gI, fI⟩
    | 2, hz => cases hz; exact ⟨gJ, fJ⟩
    | 3, hz => cases hz; exact ⟨gA, fA⟩
    | 4, hz => cases hz; exact ⟨gF, fF⟩
    | 5, hz => cases hz; exact ⟨gS, fS⟩
    | k + 6, hz => simp [tY] at hz
section KL
variable {p : Program} {l : Launch} {e : Env} {R : Room} {s : State} {m : MethodId} {args : Array Value} {below : List Frame} {meth : Method} {c : Code} {H : Heap} {locs : List Loc} {Q : State → Prop} {cc : ByteArray} {ret' : Option FieldType} {nL : Nat} {own : String} {D : va_G} {q : Nat → ClassId} {A : Nat → Prop} {w : va_W} {pc : Nat} {ls : Array Slot} {cells slots : Nat} {rest : List Value}
theorem kl_I {y : MethodName} {ws : List Cond} {rm : Room} {bytes : ByteArray} {maxL n index b mc ms : Nat} {As : List Value} {wc : va_W} {w1 : (Nat → Nat) → va_W} {lv : List (Nat × Value)}
    (C : cx p s m args meth c cc ret' nL own D q A) (hN : nw s) (hM : ck l y ws rm D q (.ref b :: As) wc mc ms w1) (cw : CallB R s args own index y bytes maxL none ws rm mc ms n ∧ y.name = "<init>" ∧ (Cond.instanceMethod y).before args s = true)
    (hP : va_P D vwCl w H) (hD : va_D A w) (isC : List Nat) (hC : isC.map (fun i => w[i]?) = wc.map some) (hnd : va_nd isC = true) (hn : As.length = n) (hl : lv_has ls nL lv) (hroom : (rest.map fun v => v.category).sum ≤ 8) (hdg : decode cc pc = .ok (.invokespecial index, 3)) (hf : cells + mc ≤ R.cells ∧ slots + ms ≤ R.slots) :
    va_Run p l e R s m args below meth c H locs cells slots mc ms (F0 m pc ls (As.reverse ++ .ref b :: rest)) rest (qC D q w1 (va_A wc H.size) (Value.ref b :: As).toArray) (va_A wc H.size) := by
  obtain ⟨hx, hb, hr, hml, hown, hts, hlocks, hK, hA⟩ := C
  have hPc : va_P D vwCl wc H := hP.sub isC (pick_sub hC)
  have hp : PreS s H (ckP D q (.ref b :: As) wc H.size) (.ref b :: As) := by
    refine ⟨fun a U g mk z => ?_, fun U hU hW => ⟨rfl, by rw [hU], by rw [hU]; exact hPc, va_K.moved hW.alike hK, (hD.sub isC hnd hC).weaken (fun _ _ _ _ => trivial), hN.warm hW⟩⟩
    obtain ⟨z0, z1, qP, qK, qD, qN⟩ := z
    exact ⟨z0, z1, qP, va_K.moved (u := U) (U := U.calling g mk a) (Vm.Alike.refl U.vm) qK, qD, nw.same (s := U) (U := U.calling g mk a) rfl qN⟩
  exact va_runI ⟨hx, hb, hml, hown, hts⟩ (hM H.size) cw hp rfl hn hl.1 rfl (lv_room hroom) hdg hf
end KL
set_option maxHeartbeats 4000000 in
set_option maxRecDepth 100000 in
theorem start_open {p : Program} {e : Env} {s : State} {m : MethodId} {below : List Frame} {meth : Method} {c : Code} (l : Launch) (hall : AllOps l) {b L : Nat} {xs : Nat → Int32} (hL : L ≤ 4608) (C0 : lw_At p s m meth c b L xs) : W p l e room_1 s m #[Value.ref b] below meth c s.heap [] 0 0 (lw_Z below #[Value.ref b] s) (entryFrame m ([Value.ref b] : List Value).toArray 4) := by
  obtain ⟨D, q, t, C1, hN⟩ := lw_entry C0
  obtain ⟨hx, hb, hr, hml, hown, hts0, hX, hbl, hlocks, hgv⟩ := id C0
  have hown : s.vm.findClass RL = some m.cls := hown
  obtain ⟨⟨-, -, -, -, -, hts, -, hK, hA⟩, hG⟩ := id C1
  have hS : va_S (fun r : Nat => s.heap.size ≤ r) s.heap s.heap [] := va_S.rf
  have hP : va_P D vwCl [] s.heap := fun k z h => by simp at h
  have hD : va_D (fun r : Nat => s.heap.size ≤ r) [] := ⟨fun i j p q h => by simp at h, fun k q h => by simp at h⟩
  have hl := lv_entry ([.ref b]) (n := 4) (Nat.le_of_ble_eq_true rfl)
  rw [lg_entry_eq]
  generalize (lg_sl ([.ref b]) ++ List.replicate (4 - (lg_sl ([.ref b])).length) Slot.unset).toArray = ls at hl ⊢
  have hl : lv_has ls 4 [(0, .ref b)] := hl
  refine va_new (ci := 9) (fs := [.null, .null, .null, .null, .null, .null, .null, .null, .null, .null, .null, .int 0, .int 0, .int 0, .int 0, .int 0, .int 0, .int 0, .int 0]) (C := RX11) (T := TX11) (N := 19) hx hb hts iw_X11 tyX11 tyX11_ok hown (hts _ kw_86) (hts _ kw_87) (hts _ kw_72) hK hP hD hS hA rfl (fun j hj => by rcases (show j = 0 ∨ j = 1 ∨ j = 2 ∨ j = 3 ∨ j = 4 ∨ j = 5 ∨ j = 6 ∨ j = 7 ∨ j = 8 ∨ j = 9 ∨ j = 10 ∨ j = 11 ∨ j = 12 ∨ j = 13 ∨ j = 14 ∨ j = 15 ∨ j = 16 ∨ j = 17 ∨ j = 18 by omega) with rfl | rfl | rfl | rfl | rfl | rfl | rfl | rfl | rfl | rfl | rfl | rfl | rfl | rfl | rfl | rfl | rfl | rfl | rfl <;> rfl) (Nat.le_of_ble_eq_true rfl) (Nat.le_of_ble_eq_true rfl) dL_law_0 (fun x H hP hD hS => ?_)
  have hP : va_P D vwCl [(x, .inr (9, [.null, .null, .null, .null, .null, .null, .null, .null, .null, .null, .null, .int 0, .int 0, .int 0, .int 0, .int 0, .int 0, .int 0, .int 0]))] H := hP
  have hD : va_D (fun r : Nat => s.heap.size ≤ r) [(x, .inr (9, [.null, .null, .null, .null, .null, .null, .null, .null, .null, .null, .null, .int 0, .int 0, .int 0, .int 0, .int 0, .int 0, .int 0, .int 0]))] := hD
  refine W.widen (k := 1) (n := 19) (by decide) (by decide) ?_
  refine lv_dup hx hb dL_law_3 rfl ?_
  refine cf_c (wr := []) C1.1 hP hD hS [0] [] rfl rfl rfl (by decide) (kl_I (As := []) (rest := [.ref x]) C1.1 hN (k_X11 l D q x) (cwI 0 hts (g_vs kw_90) rfl rfl rfl (hts _ kw_72) (hts _ kw_88) (hts _ kw_89) rfl hd_X11_init ⟨Nat.le_of_ble_eq_true rfl, Nat.le_of_ble_eq_true rfl⟩) hP hD [0] rfl rfl rfl hl (Nat.le_of_ble_eq_true rfl) dL_law_4 ⟨Nat.le_of_ble_eq_true rfl, Nat.le_of_ble_eq_true rfl⟩) (fun a H locs hP hD hS => ?_)
  have hP : va_P D vwCl (dk q x a) H := hP
  have hD : va_D (fun r : Nat => s.heap.size ≤ r) (dk q x a) := hD
  refine W.widen (k := 98) (n := 4934) (by decide) (by decide) ?_
  refine lv_astore_n (lv' := [(1, .ref x), (0, .ref b)]) hx hb dL_law_7 rfl hl (by decide) rfl (fun ls hl => ?_)
  refine va_new (ci := 10) (fs := [.null, .int 0, .null, .int 0, .int 0, .null, .null, .null, .null, .null, .null, .null, .null, .int 0, .null, .null, .null, .null, .null, .int 0, .null, .null, .null, .int 0, .int 0, .int 0, .int 0, .long 0, .long 0, .long 0, .null, .null, .int 0, .int 0, .int 0, .int 0, .int 0, .int 0, .int 0, .int 0, .long 0, .int 0, .int 0, .int 0, .int 0, .int 0, .int 0, .int 0, .int 0, .long 0, .long 0, .long 0, .long 0, .int 0, .int 0, .null, .null, .null, .int 0, .int 0, .int 0, .int 0, .int 0, .int 0, .int 0, .int 0, .int 0, .int 0, .null, .null, .null, .null, .null, .int 0, .null, .int 0, .int 0, .int 0, .int 0, .int 0, .null, .null, .null, .null]) (C := RX12) (T := TX12) (N := 84) hx hb hts iw_X12 tyX12 tyX12_ok hown (hts _ kw_1065) (hts _ kw_1066) (hts _ kw_83) hK hP hD hS hA rfl (fun j hj => by rcases (show j = 0 ∨ j = 1 ∨ j = 2 ∨ j = 3 ∨ j = 4 ∨ j = 5 ∨ j = 6 ∨ j = 7 ∨ j = 8 ∨ j = 9 ∨ j = 10 ∨ j = 11 ∨ j = 12 ∨ j = 13 ∨ j = 14 ∨ j = 15 ∨ j = 16 ∨ j = 17 ∨ j = 18 ∨ j = 19 ∨ j = 20 ∨ j = 21 ∨ j = 22 ∨ j = 23 ∨ j = 24 ∨ j = 25 ∨ j = 26 ∨ j = 27 ∨ j = 28 ∨ j = 29 ∨ j = 30 ∨ j = 31 ∨ j = 32 ∨ j = 33 ∨ j = 34 ∨ j = 35 ∨ j = 36 ∨ j = 37 ∨ j = 38 ∨ j = 39 ∨ j = 40 ∨ j = 41 ∨ j = 42 ∨ j = 43 ∨ j = 44 ∨ j = 45 ∨ j = 46 ∨ j = 47 ∨ j = 48 ∨ j = 49 ∨ j = 50 ∨ j = 51 ∨ j = 52 ∨ j = 53 ∨ j = 54 ∨ j = 55 ∨ j = 56 ∨ j = 57 ∨ j = 58 ∨ j = 59 ∨ j = 60 ∨ j = 61 ∨ j = 62 ∨ j = 63 ∨ j = 64 ∨ j = 65 ∨ j = 66 ∨ j = 67 ∨ j = 68 ∨ j = 69 ∨ j = 70 ∨ j = 71 ∨ j = 72 ∨ j = 73 ∨ j = 74 ∨ j = 75 ∨ j = 76 ∨ j = 77 ∨ j = 78 ∨ j = 79 ∨ j = 80 ∨ j = 81 ∨ j = 82 ∨ j = 83 by omega) with rfl | rfl | rfl | rfl | rfl | rfl | rfl | rfl | rfl | rfl | rfl | rfl | rfl | rfl | rfl | rfl | rfl | rfl | rfl | rfl | rfl | rfl | rfl | rfl | rfl | rfl | rfl | rfl | rfl | rfl | rfl | rfl | rfl | rfl | rfl | rfl | rfl | rfl | rfl | rfl | rfl | rfl | rfl | rfl | rfl | rfl | rfl | rfl | rfl | rfl | rfl | rfl | rfl | rfl | rfl | rfl | rfl | rfl | rfl | rfl | rfl | rfl | rfl | rfl | rfl | rfl | rfl | rfl | rfl | rfl | rfl | rfl | rfl | rfl | rfl | rfl | rfl | rfl | rfl | rfl | rfl | rfl | rfl | rfl <;> rfl) (Nat.le_of_ble_eq_true rfl) (Nat.le_of_ble_eq_true rfl) dL_law_8 (fun mm H hP hD hS => ?_)
  refine W.widen (k := 99) (n := 5018) (by decide) (by decide) ?_
  refine lv_dup hx hb dL_law_11 rfl ?_
  refine cf_c (wr := dk q x a) C1.1 hP hD hS [98] (List.range 98) rfl rfl (by decide) (by decide) (kl_I (As := []) (rest := [.ref mm]) C1.1 hN (k_X12 l D q mm) (cwI 0 hts (g_vs kw_1069) rfl rfl rfl (hts _ kw_83) (hts _ kw_1067) (hts _ kw_1068) rfl hd_X12_init ⟨Nat.le_of_ble_eq_true rfl, Nat.le_of_ble_eq_true rfl⟩) hP hD [98] rfl rfl rfl hl (Nat.le_of_ble_eq_true rfl) dL_law_12 ⟨Nat.le_of_ble_eq_true rfl, Nat.le_of_ble_eq_true rfl⟩) (fun am H locs hP hD hS => ?_)
  refine W.widen (k := 132) (n := 30000) (by decide) (by decide) ?_
  refine lv_astore_n (lv' := [(2, .ref mm), (1, .ref x), (0, .ref b)]) hx hb dL_law_15 rfl hl (by decide) rfl (fun ls hl => ?_)
  refine lv_iconst (v := (0 : Int32)) hx hb dL_law_16 (by decide) ?_
  refine lv_istore_n (lv' := [(3, .int (0 : Int32)), (2, .ref mm), (1, .ref x), (0, .ref b)]) hx hb dL_law_17 rfl hl (by decide) rfl (fun ls hl => ?_)
  obtain ⟨Inv, hI, hI0, o_feed, o_take, o_spoil, o_cut, o_size, o_out, o_authority, o_issue, o_takeBack, o_lift, o_signer, o_cert, o_want, o_nonce, o_ask, o_answer, o_look, o_passes, o_found, o_hold, o_held, o_check, o_clock, o_hash, o_key, o_told⟩ := hall D q t x mm a am
  exact law_loop l hL C0 C1 x mm Inv hI0 o_feed o_take o_spoil o_cut o_size o_out o_authority o_issue o_takeBack o_lift o_signer o_cert o_want o_nonce o_ask o_answer o_look o_passes o_found o_hold o_held o_check o_clock o_hash o_key o_told (L + 10) 0 (by omega) (by omega) (dk q x a) _ hI H locs ls hP hD hS (lv_sub hl [3, 2, 1, 0] rfl)
