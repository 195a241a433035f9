def sX1_makeThing (A : IA) (p0 : Int32) (p1 : Int32) (p2 : Int32) : Option (IA) :=
  ck p0 32 (bd (wr A 4 p0.toNatClampNeg p1) fun A1 => ck (2 * p0) 64 (bd (wr A1 7 ((2 * p0).toNatClampNeg) (-5)) fun A2 => ck ((2 * p0) + 1) 64 (bd (wr A2 7 (((2 * p0) + 1).toNatClampNeg) (-5)) fun A3 => ck p0 32 (bd (wr A3 8 p0.toNatClampNeg 2) fun A4 => if p1 ≤ 4 then (ck p2 10 (bd (wr A4 0 p2.toNatClampNeg 1) fun A5 => bd (sc A5 13 p2) fun A6 => (sX1_layAtTop A6 p0 p2).bind fun z1 => some z1)) else ((sX1_regionsFor A4 p1).bind fun x1 => (sX1_takeRegions A4 p2 x1).bind fun z2 => ck p0 32 (bd (wr z2 5 p0.toNatClampNeg p2) fun A7 => ck p0 32 (bd (wr A7 6 p0.toNatClampNeg 0) fun A8 => some A8)))))))
abbrev rmX1_makeThing : Room := { frames := 1, cells := 0, slots := 0, locals := 23 }
theorem hdX1_makeThing : yX1_makeThing.cls = RX1 ∧ yX1_makeThing.cls ≠ "java/lang/invoke/MethodHandle" ∧ yX1_makeThing.cls ≠ "java/lang/invoke/VarHandle" ∧ (parseMethodDescriptor yX1_makeThing.desc).map (fun d => d.parameters.length) = some 3 := by decide +kernel
set_option maxHeartbeats 4000000 in
set_option maxRecDepth 100000 in
theorem kX1_makeThing {l : Launch} {g : GG} {sz : Nat} {ad : Nat → Nat} {A : IA} {F : FA} {p0 p1 p2 : Int32} {b : IA} (hsem : sX1_makeThing A p0 p1 p2 = some b) : MetV l yX1_makeThing wsX1_makeThing rmX1_makeThing g [.ref (ad 0), .int p0, .int p1, .int p2] (wH g ad A F) sz (wH g ad b F) := by
  refine Met.ofW (cc := cX1_makeThing) (maxL := 4) (ret := none) (by decide) rfl ?_
  intro p e s m args below meth c s₁ B hml hv
  obtain ⟨rfl, hsz, hP, hD0, hKK⟩ := hv
  subst hsz
  have hx := B.exec
  have hb := B.bytes
  have hr := B.returns
  have hts := atoms_spec (ws := wsX1_makeThing) B.pre
  have hown : s.vm.findClass RX1 = some m.cls := findClass_of_methodNamed B.named
  have hlocks := B.notSynchronized
  have hK := hKK.1
  have hD := hD0.self (sz := s.heap.size)
  generalize hZe : va_A (wH g ad A F) s.heap.size = Z at hD ⊢
  have hZ : ∀ q : Nat, s.heap.size ≤ q → Z q := fun q h => by rw [← hZe]; exact Or.inr h
  have hS : va_S Z s.heap s.heap [] := va_S.rf
  have hP : va_P g.1 vwCl (wH g ad A F) s.heap := hP
  have hD : va_D Z (wH g ad A F) := hD
  have hl := lv_entry ([.ref (ad 0), .int p0, .int p1, .int p2]) (n := 4) (Nat.le_of_ble_eq_true rfl)
  rw [lg_entry_eq]
  generalize (lg_sl ([.ref (ad 0), .int p0, .int p1, .int p2]) ++ List.replicate (4 - (lg_sl ([.ref (ad 0), .int p0, .int p1, .int p2])).length) Slot.unset).toArray = ls at hl ⊢
  have hl : lv_has ls 4 [(0, .ref (ad 0)), (1, .int p0), (2, .int p1), (3, .int p2)] := hl
  unfold sX1_makeThing at hsem
  refine lv_aload_n hx hb dX1_makeThing_0 rfl (lv_at hl 0 rfl) ?_
  refine va_get (D := g.1) (ci := 1) (v := .ref (ad 5)) (C := RX1) (T := TX1) (N := 18) hx hb hts (fun w h => List.mem_cons_of_mem _ (List.mem_append_right _ h)) hown hK hP 0 rfl rfl 4 (by decide) (hts (.fieldLink RX1 24 "PauseRegions$Heap" "size" "[I") (List.mem_of_getElem? (i := 1) rfl)) (fun _ h9 => h9) rfl dX1_makeThing_1 ?_
  refine lv_iload_n hx hb dX1_makeThing_4 rfl (lv_at hl 1 rfl) ?_
  refine lv_iload_n hx hb dX1_makeThing_5 rfl (lv_at hl 2 rfl) ?_
  obtain ⟨h1, hsem⟩ := ck_some hsem
  refine va_iast (D := g.1) hx hb hK hP hD hS 5 0 rfl rfl h1 dX1_makeThing_6 (fun H locs hP hD hS => ?_)
  obtain ⟨A1, eA1, hsem⟩ := bd_some hsem
  have hP : va_P g.1 vwCl (wH g ad A1 F) H := by rw [eA1]; exact hP
  have hD : va_D Z (wH g ad A1 F) := by rw [eA1]; exact hD
  refine lv_aload_n hx hb dX1_makeThing_7 rfl (lv_at hl 0 rfl) ?_
  refine va_get (D := g.1) (ci := 1) (v := .ref (ad 8)) (C := RX1) (T := TX1) (N := 18) hx hb hts (fun w h => List.mem_cons_of_mem _ (List.mem_append_right _ h)) hown hK hP 0 rfl rfl 7 (by decide) (hts (.fieldLink RX1 33 "PauseRegions$Heap" "fields" "[I") (List.mem_of_getElem? (i := 2) rfl)) (fun _ h9 => h9) rfl dX1_makeThing_8 ?_
  refine lv_iconst (v := 2) hx hb dX1_makeThing_11 (by decide) ?_
  refine lv_iload_n hx hb dX1_makeThing_12 rfl (lv_at hl 1 rfl) ?_
  refine lv_imul hx hb dX1_makeThing_13 ?_
  refine lv_bipush (v := (-5)) hx hb dX1_makeThing_14 (by decide) ?_
  obtain ⟨h2, hsem⟩ := ck_some hsem
  refine va_iast (D := g.1) hx hb hK hP hD hS 8 0 rfl rfl h2 dX1_makeThing_16 (fun H locs hP hD hS => ?_)
  obtain ⟨A2, eA2, hsem⟩ := bd_some hsem
  have hP : va_P g.1 vwCl (wH g ad A2 F) H := by rw [eA2]; exact hP
  have hD : va_D Z (wH g ad A2 F) := by rw [eA2]; exact hD
  refine lv_aload_n hx hb dX1_makeThing_17 rfl (lv_at hl 0 rfl) ?_
  refine va_get (D := g.1) (ci := 1) (v := .ref (ad 8)) (C := RX1) (T := TX1) (N := 18) hx hb hts (fun w h => List.mem_cons_of_mem _ (List.mem_append_right _ h)) hown hK hP 0 rfl rfl 7 (by decide) (hts (.fieldLink RX1 33 "PauseRegions$Heap" "fields" "[I") (List.mem_of_getElem? (i := 2) rfl)) (fun _ h9 => h9) rfl dX1_makeThing_18 ?_
  refine lv_iconst (v := 2) hx hb dX1_makeThing_21 (by decide) ?_
  refine lv_iload_n hx hb dX1_makeThing_22 rfl (lv_at hl 1 rfl) ?_
  refine lv_imul hx hb dX1_makeThing_23 ?_
  refine lv_iconst (v := 1) hx hb dX1_makeThing_24 (by decide) ?_
  refine lv_iadd hx hb dX1_makeThing_25 ?_
  refine lv_bipush (v := (-5)) hx hb dX1_makeThing_26 (by decide) ?_
  obtain ⟨h3, hsem⟩ := ck_some hsem
  refine va_iast (D := g.1) hx hb hK hP hD hS 8 0 rfl rfl h3 dX1_makeThing_28 (fun H locs hP hD hS => ?_)
  obtain ⟨A3, eA3, hsem⟩ := bd_some hsem
  have hP : va_P g.1 vwCl (wH g ad A3 F) H := by rw [eA3]; exact hP
  have hD : va_D Z (wH g ad A3 F) := by rw [eA3]; exact hD
  refine lv_aload_n hx hb dX1_makeThing_29 rfl (lv_at hl 0 rfl) ?_
  refine va_get (D := g.1) (ci := 1) (v := .ref (ad 9)) (C := RX1) (T := TX1) (N := 18) hx hb hts (fun w h => List.mem_cons_of_mem _ (List.mem_append_right _ h)) hown hK hP 0 rfl rfl 8 (by decide) (hts (.fieldLink RX1 36 "PauseRegions$Heap" "colour" "[I") (List.mem_of_getElem? (i := 3) rfl)) (fun _ h9 => h9) rfl dX1_makeThing_30 ?_
  refine lv_iload_n hx hb dX1_makeThing_33 rfl (lv_at hl 1 rfl) ?_
  refine lv_iconst (v := 2) hx hb dX1_makeThing_34 (by decide) ?_
  obtain ⟨h4, hsem⟩ := ck_some hsem
  refine va_iast (D := g.1) hx hb hK hP hD hS 9 0 rfl rfl h4 dX1_makeThing_35 (fun H locs hP hD hS => ?_)
  obtain ⟨A4, eA4, hsem⟩ := bd_some hsem
  have hP : va_P g.1 vwCl (wH g ad A4 F) H := by rw [eA4]; exact hP
  have hD : va_D Z (wH g ad A4 F) := by rw [eA4]; exact hD
  refine lv_iload_n hx hb dX1_makeThing_36 rfl (lv_at hl 2 rfl) ?_
  refine lv_iconst (v := 4) hx hb dX1_makeThing_37 (by decide) ?_
  refine lv_icmp_le (tgt := 66) hx hb dX1_makeThing_38 (by decide) (fun c1 => ?_) (fun c1 => ?_)
  · rw [if_pos c1] at hsem
    refine lv_aload_n hx hb dX1_makeThing_66 rfl (lv_at hl 0 rfl) ?_
    refine va_get (D := g.1) (ci := 1) (v := .ref (ad 1)) (C := RX1) (T := TX1) (N := 18) hx hb hts (fun w h => List.mem_cons_of_mem _ (List.mem_append_right _ h)) hown hK hP 0 rfl rfl 0 (by decide) (hts (.fieldLink RX1 9 "PauseRegions$Heap" "kind" "[I") (List.mem_of_getElem? (i := 6) rfl)) (fun _ h9 => h9) rfl dX1_makeThing_67 ?_
    refine lv_iload_n hx hb dX1_makeThing_70 rfl (lv_at hl 3 rfl) ?_
    refine lv_iconst (v := 1) hx hb dX1_makeThing_71 (by decide) ?_
    obtain ⟨h5, hsem⟩ := ck_some hsem
    refine va_iast (D := g.1) hx hb hK hP hD hS 1 0 rfl rfl h5 dX1_makeThing_72 (fun H locs hP hD hS => ?_)
    obtain ⟨A5, eA5, hsem⟩ := bd_some hsem
    have hP : va_P g.1 vwCl (wH g ad A5 F) H := by rw [eA5]; exact hP
    have hD : va_D Z (wH g ad A5 F) := by rw [eA5]; exact hD
    refine lv_aload_n hx hb dX1_makeThing_73 rfl (lv_at hl 0 rfl) ?_
    refine lv_iload_n hx hb dX1_makeThing_74 rfl (lv_at hl 3 rfl) ?_
    refine va_put (D := g.1) (ci := 1) (v := .int p2) (ty := .int) (C := RX1) (T := TX1) (N := 18) hx hb hts (fun w h => List.mem_cons_of_mem _ (List.mem_append_right _ h)) tyX1 tyX1_ok nmX1 hown hK hP hD hS 0 rfl rfl 13 (by decide) (hts (.fieldLink RX1 52 "PauseRegions$Heap" "latestYoung" "I") (List.mem_of_getElem? (i := 7) rfl)) (fun _ h9 => h9) rfl (by decide +kernel) rfl rfl (Nat.le_of_ble_eq_true rfl) dX1_makeThing_75 (fun H locs hP hD hS => ?_)
    obtain ⟨A6, eA6, hsem⟩ := bd_some hsem
    have hP : va_P g.1 vwCl (wH g ad A6 F) H := by rw [eA6]; exact hP
    have hD : va_D Z (wH g ad A6 F) := by rw [eA6]; exact hD
    refine lv_aload_n hx hb dX1_makeThing_78 rfl (lv_at hl 0 rfl) ?_
    refine lv_iload_n hx hb dX1_makeThing_79 rfl (lv_at hl 1 rfl) ?_
    refine lv_iload_n hx hb dX1_makeThing_80 rfl (lv_at hl 3 rfl) ?_
    obtain ⟨z1, hc1, hsem⟩ := bn_some hsem
    refine mcV (C := RX1) (As := [.int p0, .int p2]) (rest := []) ⟨hx, hb, hml, hown, hts⟩ hKK hP hD hS hZ (cwV 2 hts gX1_makeThing_X1_layAtTop rfl rfl rfl hdX1_layAtTop ⟨Nat.le_of_ble_eq_true rfl, Nat.le_of_ble_eq_true rfl⟩) (kX1_layAtTop (l := l) (g := g) (ad := ad) (A := A6) (F := F) hc1) (va_recv hK hP (ci := 1) (q0 := 0) rfl rfl) rfl hl.1 rfl (Nat.le_of_ble_eq_true rfl) dX1_makeThing_81 ⟨Nat.zero_le _, Nat.zero_le _⟩ (fun H locs hP hD hS => ?_)
    have hP : va_P g.1 vwCl (wH g ad z1 F) H := hP
    have hD : va_D Z (wH g ad z1 F) := hD
    have eo := (Option.some.inj hsem).symm.symm
    subst eo
    exact W.vret hx hb hr (fun t ht hW => ⟨⟨(), rfl, trivial, ⟨by rw [ht]; exact hP, hD⟩⟩, hS.F ht⟩) hS.2.2 dX1_makeThing_84
  · rw [if_neg c1] at hsem
    refine lv_aload_n hx hb dX1_makeThing_41 rfl (lv_at hl 0 rfl) ?_
    refine lv_iload_n hx hb dX1_makeThing_42 rfl (lv_at hl 3 rfl) ?_
    refine lv_aload_n hx hb dX1_makeThing_43 rfl (lv_at hl 0 rfl) ?_
    refine lv_iload_n hx hb dX1_makeThing_44 rfl (lv_at hl 2 rfl) ?_
    obtain ⟨x1, hc2, hsem⟩ := bn_some hsem
    refine pcV (C := RX1) (As := [.int p1]) (rest := [.int p2, .ref (ad 0)]) ⟨hx, hb, hml, hown, hts⟩ hKK (cwV 1 hts gX1_makeThing_X1_regionsFor rfl rfl rfl hdX1_regionsFor ⟨Nat.le_of_ble_eq_true rfl, Nat.le_of_ble_eq_true rfl⟩) (kX1_regionsFor (l := l) (g := g) hP hc2) (va_recv hK hP (ci := 1) (q0 := 0) rfl rfl) rfl hl.1 rfl (Nat.le_of_ble_eq_true rfl) dX1_makeThing_45 ⟨Nat.zero_le _, Nat.zero_le _⟩ ?_
    obtain ⟨z2, hc3, hsem⟩ := bn_some hsem
    refine mcV (C := RX1) (As := [.int p2, .int x1]) (rest := []) ⟨hx, hb, hml, hown, hts⟩ hKK hP hD hS hZ (cwV 2 hts gX1_makeThing_X1_takeRegions rfl rfl rfl hdX1_takeRegions ⟨Nat.le_of_ble_eq_true rfl, Nat.le_of_ble_eq_true rfl⟩) (kX1_takeRegions (l := l) (g := g) (ad := ad) (A := A4) (F := F) hc3) (va_recv hK hP (ci := 1) (q0 := 0) rfl rfl) rfl hl.1 rfl (Nat.le_of_ble_eq_true rfl) dX1_makeThing_48 ⟨Nat.zero_le _, Nat.zero_le _⟩ (fun H locs hP hD hS => ?_)
    have hP : va_P g.1 vwCl (wH g ad z2 F) H := hP
    have hD : va_D Z (wH g ad z2 F) := hD
    refine lv_aload_n hx hb dX1_makeThing_51 rfl (lv_at hl 0 rfl) ?_
    refine va_get (D := g.1) (ci := 1) (v := .ref (ad 6)) (C := RX1) (T := TX1) (N := 18) hx hb hts (fun w h => List.mem_cons_of_mem _ (List.mem_append_right _ h)) hown hK hP 0 rfl rfl 5 (by decide) (hts (.fieldLink RX1 27 "PauseRegions$Heap" "place" "[I") (List.mem_of_getElem? (i := 4) rfl)) (fun _ h9 => h9) rfl dX1_makeThing_52 ?_
    refine lv_iload_n hx hb dX1_makeThing_55 rfl (lv_at hl 1 rfl) ?_
    refine lv_iload_n hx hb dX1_makeThing_56 rfl (lv_at hl 3 rfl) ?_
    obtain ⟨h6, hsem⟩ := ck_some hsem
    refine va_iast (D := g.1) hx hb hK hP hD hS 6 0 rfl rfl h6 dX1_makeThing_57 (fun H locs hP hD hS => ?_)
    obtain ⟨A7, eA7, hsem⟩ := bd_some hsem
    have hP : va_P g.1 vwCl (wH g ad A7 F) H := by rw [eA7]; exact hP
    have hD : va_D Z (wH g ad A7 F) := by rw [eA7]; exact hD
    refine lv_aload_n hx hb dX1_makeThing_58 rfl (lv_at hl 0 rfl) ?_
    refine va_get (D := g.1) (ci := 1) (v := .ref (ad 7)) (C := RX1) (T := TX1) (N := 18) hx hb hts (fun w h => List.mem_cons_of_mem _ (List.mem_append_right _ h)) hown hK hP 0 rfl rfl 6 (by decide) (hts (.fieldLink RX1 30 "PauseRegions$Heap" "cell" "[I") (List.mem_of_getElem? (i := 5) rfl)) (fun _ h9 => h9) rfl dX1_makeThing_59 ?_
    refine lv_iload_n hx hb dX1_makeThing_62 rfl (lv_at hl 1 rfl) ?_
    refine lv_iconst (v := 0) hx hb dX1_makeThing_63 (by decide) ?_
    obtain ⟨h7, hsem⟩ := ck_some hsem
    refine va_iast (D := g.1) hx hb hK hP hD hS 7 0 rfl rfl h7 dX1_makeThing_64 (fun H locs hP hD hS => ?_)
    obtain ⟨A8, eA8, hsem⟩ := bd_some hsem
    have hP : va_P g.1 vwCl (wH g ad A8 F) H := by rw [eA8]; exact hP
    have hD : va_D Z (wH g ad A8 F) := by rw [eA8]; exact hD
    have eo := (Option.some.inj hsem).symm.symm
    subst eo
    exact W.vret hx hb hr (fun t ht hW => ⟨⟨(), rfl, trivial, ⟨by rw [ht]; exact hP, hD⟩⟩, hS.F ht⟩) hS.2.2 dX1_makeThing_65
def sX1_markOldest (A : IA) : Option (IA) :=
  (sX5_itemAt (A 11) (A 19 0) 0).bind fun x1 => if x1 = (-9) then ((sX1_endMarkingIfNoneGrey A).bind fun z1 => some z1) else ((sX5_drop (A 11) (A 19 0) x1).bind fun z2 => bd (sc (setR A 11 z2.1) 19 z2.2) fun A1 => ck x1 32 (bd (wr A1 8 x1.toNatClampNeg 2) fun A2 => (sX1_fieldOf A2 x1 0).bind fun x2 => (sX1_becomeGrey A2 x2).bind fun z3 => (sX1_fieldOf z3 x1 1).bind fun x3 => (sX1_becomeGrey z3 x3).bind fun z4 => (sX1_endMarkingIfNoneGrey z4).bind fun z5 => some z5))
abbrev rmX1_markOldest : Room := { frames := 4, cells := 0, slots := 0, locals := 89 }
theorem hdX1_markOldest : yX1_markOldest.cls = RX1 ∧ yX1_markOldest.cls ≠ "java/lang/invoke/MethodHandle" ∧ yX1_markOldest.cls ≠ "java/lang/invoke/VarHandle" ∧ (parseMethodDescriptor yX1_markOldest.desc).map (fun d => d.parameters.length) = some 0 := by decide +kernel
set_option maxHeartbeats 4000000 in
set_option maxRecDepth 100000 in
theorem kX1_markOldest {l : Launch} {g : GG} {sz : Nat} {ad : Nat → Nat} {A : IA} {F : FA} {b : IA} (hsem : sX1_markOldest A = some b) : MetV l yX1_markOldest wsX1_markOldest rmX1_markOldest g [.ref (ad 0)] (wH g ad A F) sz (wH g ad b F) := by
  refine Met.ofW (cc := cX1_markOldest) (maxL := 2) (ret := none) (by decide) rfl ?_
  intro p e s m args below meth c s₁ B hml hv
  obtain ⟨rfl, hsz, hP, hD0, hKK⟩ := hv
  subst hsz
  have hx := B.exec
  have hb := B.bytes
  have hr := B.returns
  have hts := atoms_spec (ws := wsX1_markOldest) B.pre
  have hown : s.vm.findClass RX1 = some m.cls := findClass_of_methodNamed B.named
  have hlocks := B.notSynchronized
  have hK := hKK.1
  have hD := hD0.self (sz := s.heap.size)
  generalize hZe : va_A (wH g ad A F) s.heap.size = Z at hD ⊢
  have hZ : ∀ q : Nat, s.heap.size ≤ q → Z q := fun q h => by rw [← hZe]; exact Or.inr h
  have hS : va_S Z s.heap s.heap [] := va_S.rf
  have hP : va_P g.1 vwCl (wH g ad A F) s.heap := hP
  have hD : va_D Z (wH g ad A F) := hD
  have hl := lv_entry ([.ref (ad 0)]) (n := 2) (Nat.le_of_ble_eq_true rfl)
  rw [lg_entry_eq]
  generalize (lg_sl ([.ref (ad 0)]) ++ List.replicate (2 - (lg_sl ([.ref (ad 0)])).length) Slot.unset).toArray = ls at hl ⊢
  have hl : lv_has ls 2 [(0, .ref (ad 0))] := hl
  unfold sX1_markOldest at hsem
  refine lv_aload_n hx hb dX1_markOldest_0 rfl (lv_at hl 0 rfl) ?_
  refine va_get (D := g.1) (ci := 1) (v := .ref (ad 13)) (C := RX1) (T := TX1) (N := 18) hx hb hts (fun w h => List.mem_cons_of_mem _ (List.mem_append_left _ (List.mem_append_right _ h))) hown hK hP 0 rfl rfl 11 (by decide) (hts (.fieldLink RX1 49 "PauseRegions$Heap" "greyThings" "LPauseRegions$Row;") (List.mem_of_getElem? (i := 1) rfl)) (fun _ h9 => h9) rfl dX1_markOldest_1 ?_
  refine lv_iconst (v := 0) hx hb dX1_markOldest_4 (by decide) ?_
  obtain ⟨x1, hc1, hsem⟩ := bn_some hsem
  refine pcV (C := RX5) (As := [.int 0]) (rest := []) ⟨hx, hb, hml, hown, hts⟩ hKK (cwV 1 hts gX1_markOldest_X5_itemAt rfl rfl rfl hdX5_itemAt ⟨Nat.le_of_ble_eq_true rfl, Nat.le_of_ble_eq_true rfl⟩) (kX5_itemAt (l := l) (g := g) (hP.sub (ws' := wRow g (ad 13) (ad 14) (A 11) (A 19 0)) [13, 14] rfl) hc1) (va_recv hK hP (ci := 5) (q0 := 13) rfl rfl) rfl hl.1 rfl (Nat.le_of_ble_eq_true rfl) dX1_markOldest_5 ⟨Nat.zero_le _, Nat.zero_le _⟩ ?_
  refine lv_istore_n (lv' := [(1, .int x1), (0, .ref (ad 0))]) hx hb dX1_markOldest_8 rfl hl (by decide) rfl (fun ls hl => ?_)
  refine lv_iload_n hx hb dX1_markOldest_9 rfl (lv_at hl 0 rfl) ?_
  refine lv_bipush (v := (-9)) hx hb dX1_markOldest_10 (by decide) ?_
  refine lv_icmp_eq (tgt := 50) hx hb dX1_markOldest_12 (by decide) (fun c1 => ?_) (fun c1 => ?_)
  · rw [if_pos c1] at hsem
    refine lv_aload_n hx hb dX1_markOldest_50 rfl (lv_at hl 1 rfl) ?_
    obtain ⟨z1, hc2, hsem⟩ := bn_some hsem
    refine mcV (C := RX1) (As := []) (rest := []) ⟨hx, hb, hml, hown, hts⟩ hKK hP hD hS hZ (cwV 0 hts gX1_markOldest_X1_endMarkingIfNoneGrey rfl rfl rfl hdX1_endMarkingIfNoneGrey ⟨Nat.le_of_ble_eq_true rfl, Nat.le_of_ble_eq_true rfl⟩) (kX1_endMarkingIfNoneGrey (l := l) (g := g) (ad := ad) (A := A) (F := F) hc2) (va_recv hK hP (ci := 1) (q0 := 0) rfl rfl) rfl hl.1 rfl (Nat.le_of_ble_eq_true rfl) dX1_markOldest_51 ⟨Nat.zero_le _, Nat.zero_le _⟩ (fun H locs hP hD hS => ?_)
    have hP : va_P g.1 vwCl (wH g ad z1 F) H := hP
    have hD : va_D Z (wH g ad z1 F) := hD
    have eo := (Option.some.inj hsem).symm.symm
    subst eo
    exact W.vret hx hb hr (fun t ht hW => ⟨⟨(), rfl, trivial, ⟨by rw [ht]; exact hP, hD⟩⟩, hS.F ht⟩) hS.2.2 dX1_markOldest_54
  · rw [if_neg c1] at hsem
    refine lv_aload_n hx hb dX1_markOldest_15 rfl (lv_at hl 1 rfl) ?_
    refine va_get (D := g.1) (ci := 1) (v := .ref (ad 13)) (C := RX1) (T := TX1) (N := 18) hx hb hts (fun w h => List.mem_cons_of_mem _ (List.mem_append_left _ (List.mem_append_right _ h))) hown hK hP 0 rfl rfl 11 (by decide) (hts (.fieldLink RX1 49 "PauseRegions$Heap" "greyThings" "LPauseRegions$Row;") (List.mem_of_getElem? (i := 1) rfl)) (fun _ h9 => h9) rfl dX1_markOldest_16 ?_
    refine lv_iload_n hx hb dX1_markOldest_19 rfl (lv_at hl 0 rfl) ?_
    obtain ⟨z2, hc3, hsem⟩ := bn_some hsem
    refine mcVs (C := RX5) (As := [.int x1]) (rest := []) (wr := (wH_13_14 g ad A F)) ⟨hx, hb, hml, hown, hts⟩ hKK hP hD hS hZ [13, 14] [0, 1, 2, 3, 4, 5, 6, 7, 8, 9, 10, 11, 12] rfl rfl (by decide) (by decide) (by decide) (cwV 1 hts gX1_markOldest_X5_drop rfl rfl rfl hdX5_drop ⟨Nat.le_of_ble_eq_true rfl, Nat.le_of_ble_eq_true rfl⟩) (kX5_drop (l := l) (g := g) (a0 := (ad 13)) (a1 := (ad 14)) (f := (A 11)) (n := (A 19 0)) hc3) (va_recv hK hP (ci := 5) (q0 := 13) rfl rfl) rfl hl.1 rfl (Nat.le_of_ble_eq_true rfl) dX1_markOldest_20 ⟨Nat.zero_le _, Nat.zero_le _⟩ (fun H locs hP hD hS => ?_)
    obtain ⟨A1, eA1, hsem⟩ := bd_some hsem
    have hP : va_P g.1 vwCl (wH g ad A1 F) H := by rw [eA1]; exact hP.sub [0, 1, 2, 3, 4, 5, 6, 7, 8, 9, 10, 11, 12, 13, 14] rfl
    have hD : va_D Z (wH g ad A1 F) := by rw [eA1]; exact hD.sub [0, 1, 2, 3, 4, 5, 6, 7, 8, 9, 10, 11, 12, 13, 14] (by decide) rfl
    refine lv_aload_n hx hb dX1_markOldest_23 rfl (lv_at hl 1 rfl) ?_
    refine va_get (D := g.1) (ci := 1) (v := .ref (ad 9)) (C := RX1) (T := TX1) (N := 18) hx hb hts (fun w h => List.mem_cons_of_mem _ (List.mem_append_left _ (List.mem_append_right _ h))) hown hK hP 0 rfl rfl 8 (by decide) (hts (.fieldLink RX1 36 "PauseRegions$Heap" "colour" "[I") (List.mem_of_getElem? (i := 2) rfl)) (fun _ h9 => h9) rfl dX1_markOldest_24 ?_
    refine lv_iload_n hx hb dX1_markOldest_27 rfl (lv_at hl 0 rfl) ?_
    refine lv_iconst (v := 2) hx hb dX1_markOldest_28 (by decide) ?_
    obtain ⟨h1, hsem⟩ := ck_some hsem
    refine va_iast (D := g.1) hx hb hK hP hD hS 9 0 rfl rfl h1 dX1_markOldest_29 (fun H locs hP hD hS => ?_)
    obtain ⟨A2, eA2, hsem⟩ := bd_some hsem
    have hP : va_P g.1 vwCl (wH g ad A2 F) H := by rw [eA2]; exact hP
    have hD : va_D Z (wH g ad A2 F) := by rw [eA2]; exact hD
    refine lv_aload_n hx hb dX1_markOldest_30 rfl (lv_at hl 1 rfl) ?_
    refine lv_aload_n hx hb dX1_markOldest_31 rfl (lv_at hl 1 rfl) ?_
    refine lv_iload_n hx hb dX1_markOldest_32 rfl (lv_at hl 0 rfl) ?_
    refine lv_iconst (v := 0) hx hb dX1_markOldest_33 (by decide) ?_
    obtain ⟨x2, hc4, hsem⟩ := bn_some hsem
    refine pcV (C := RX1) (As := [.int x1, .int 0]) (rest := [.ref (ad 0)]) ⟨hx, hb, hml, hown, hts⟩ hKK (cwV 2 hts gX1_markOldest_X1_fieldOf rfl rfl rfl hdX1_fieldOf ⟨Nat.le_of_ble_eq_true rfl, Nat.le_of_ble_eq_true rfl⟩) (kX1_fieldOf (l := l) (g := g) hP hc4) (va_recv hK hP (ci := 1) (q0 := 0) rfl rfl) rfl hl.1 rfl (Nat.le_of_ble_eq_true rfl) dX1_markOldest_34 ⟨Nat.zero_le _, Nat.zero_le _⟩ ?_
    obtain ⟨z3, hc5, hsem⟩ := bn_some hsem
    refine mcV (C := RX1) (As := [.int x2]) (rest := []) ⟨hx, hb, hml, hown, hts⟩ hKK hP hD hS hZ (cwV 1 hts gX1_markOldest_X1_becomeGrey rfl rfl rfl hdX1_becomeGrey ⟨Nat.le_of_ble_eq_true rfl, Nat.le_of_ble_eq_true rfl⟩) (kX1_becomeGrey (l := l) (g := g) (ad := ad) (A := A2) (F := F) hc5) (va_recv hK hP (ci := 1) (q0 := 0) rfl rfl) rfl hl.1 rfl (Nat.le_of_ble_eq_true rfl) dX1_markOldest_37 ⟨Nat.zero_le _, Nat.zero_le _⟩ (fun H locs hP hD hS => ?_)
    have hP : va_P g.1 vwCl (wH g ad z3 F) H := hP
    have hD : va_D Z (wH g ad z3 F) := hD
    refine lv_aload_n hx hb dX1_markOldest_40 rfl (lv_at hl 1 rfl) ?_
    refine lv_aload_n hx hb dX1_markOldest_41 rfl (lv_at hl 1 rfl) ?_
    refine lv_iload_n hx hb dX1_markOldest_42 rfl (lv_at hl 0 rfl) ?_
    refine lv_iconst (v := 1) hx hb dX1_markOldest_43 (by decide) ?_
    obtain ⟨x3, hc6, hsem⟩ := bn_some hsem
    refine pcV (C := RX1) (As := [.int x1, .int 1]) (rest := [.ref (ad 0)]) ⟨hx, hb, hml, hown, hts⟩ hKK (cwV 2 hts gX1_markOldest_X1_fieldOf rfl rfl rfl hdX1_fieldOf ⟨Nat.le_of_ble_eq_true rfl, Nat.le_of_ble_eq_true rfl⟩) (kX1_fieldOf (l := l) (g := g) hP hc6) (va_recv hK hP (ci := 1) (q0 := 0) rfl rfl) rfl hl.1 rfl (Nat.le_of_ble_eq_true rfl) dX1_markOldest_44 ⟨Nat.zero_le _, Nat.zero_le _⟩ ?_
    obtain ⟨z4, hc7, hsem⟩ := bn_some hsem
    refine mcV (C := RX1) (As := [.int x3]) (rest := []) ⟨hx, hb, hml, hown, hts⟩ hKK hP hD hS hZ (cwV 1 hts gX1_markOldest_X1_becomeGrey rfl rfl rfl hdX1_becomeGrey ⟨Nat.le_of_ble_eq_true rfl, Nat.le_of_ble_eq_true rfl⟩) (kX1_becomeGrey (l := l) (g := g) (ad := ad) (A := z3) (F := F) hc7) (va_recv hK hP (ci := 1) (q0 := 0) rfl rfl) rfl hl.1 rfl (Nat.le_of_ble_eq_true rfl) dX1_markOldest_47 ⟨Nat.zero_le _, Nat.zero_le _⟩ (fun H locs hP hD hS => ?_)
    have hP : va_P g.1 vwCl (wH g ad z4 F) H := hP
    have hD : va_D Z (wH g ad z4 F) := hD
    refine lv_aload_n hx hb dX1_markOldest_50 rfl (lv_at hl 1 rfl) ?_
    obtain ⟨z5, hc8, hsem⟩ := bn_some hsem
    refine mcV (C := RX1) (As := []) (rest := []) ⟨hx, hb, hml, hown, hts⟩ hKK hP hD hS hZ (cwV 0 hts gX1_markOldest_X1_endMarkingIfNoneGrey rfl rfl rfl hdX1_endMarkingIfNoneGrey ⟨Nat.le_of_ble_eq_true rfl, Nat.le_of_ble_eq_true rfl⟩) (kX1_endMarkingIfNoneGrey (l := l) (g := g) (ad := ad) (A := z4) (F := F) hc8) (va_recv hK hP (ci := 1) (q0 := 0) rfl rfl) rfl hl.1 rfl (Nat.le_of_ble_eq_true rfl) dX1_markOldest_51 ⟨Nat.zero_le _, Nat.zero_le _⟩ (fun H locs hP hD hS => ?_)
    have hP : va_P g.1 vwCl (wH g ad z5 F) H := hP
    have hD : va_D Z (wH g ad z5 F) := hD
    have eo := (Option.some.inj hsem).symm.symm
    subst eo
    exact W.vret hx hb hr (fun t ht hW => ⟨⟨(), rfl, trivial, ⟨by rw [ht]; exact hP, hD⟩⟩, hS.F ht⟩) hS.2.2 dX1_markOldest_54
def sX1_noteField (A : IA) (p0 : Int32) (p1 : Int32) : Option (IA) :=
  if p1 = (-5) then (some A) else (ck p1 32 ((sX6_regionOfCard p0).bind fun x1 => if ((A 5) p1.toNatClampNeg) = x1 then (some A) else (ck p1 32 (ck ((A 5) p1.toNatClampNeg) 10 (ck ((A 5) p1.toNatClampNeg) 10 (bd (wr A 3 (((A 5) p1.toNatClampNeg).toNatClampNeg) (((A 3) ((A 5) p1.toNatClampNeg).toNatClampNeg) ||| (1 <<< (p0 &&& 31)))) fun A1 => some A1))))))
abbrev rmX1_noteField : Room := { frames := 1, cells := 0, slots := 0, locals := 20 }
theorem hdX1_noteField : yX1_noteField.cls = RX1 ∧ yX1_noteField.cls ≠ "java/lang/invoke/MethodHandle" ∧ yX1_noteField.cls ≠ "java/lang/invoke/VarHandle" ∧ (parseMethodDescriptor yX1_noteField.desc).map (fun d => d.parameters.length) = some 2 := by decide +kernel
set_option maxHeartbeats 4000000 in
set_option maxRecDepth 100000 in
theorem kX1_noteField {l : Launch} {g : GG} {sz : Nat} {ad : Nat → Nat} {A : IA} {F : FA} {p0 p1 : Int32} {b : IA} (hsem : sX1_noteField A p0 p1 = some b) : MetV l yX1_noteField wsX1_noteField rmX1_noteField g [.ref (ad 0), .int p0, .int p1] (wH g ad A F) sz (wH g ad b F) := by
  refine Met.ofW (cc := cX1_noteField) (maxL := 3) (ret := none) (by decide) rfl ?_
  intro p e s m args below meth c s₁ B hml hv
  obtain ⟨rfl, hsz, hP, hD0, hKK⟩ := hv
  subst hsz
  have hx := B.exec
  have hb := B.bytes
  have hr := B.returns
  have hts := atoms_spec (ws := wsX1_noteField) B.pre
  have hown : s.vm.findClass RX1 = some m.cls := findClass_of_methodNamed B.named
  have hlocks := B.notSynchronized
  have hK := hKK.1
  have hD := hD0.self (sz := s.heap.size)
  generalize hZe : va_A (wH g ad A F) s.heap.size = Z at hD ⊢
  have hZ : ∀ q : Nat, s.heap.size ≤ q → Z q := fun q h => by rw [← hZe]; exact Or.inr h
  have hS : va_S Z s.heap s.heap [] := va_S.rf
  have hP : va_P g.1 vwCl (wH g ad A F) s.heap := hP
  have hD : va_D Z (wH g ad A F) := hD
  have hl := lv_entry ([.ref (ad 0), .int p0, .int p1]) (n := 3) (Nat.le_of_ble_eq_true rfl)
  rw [lg_entry_eq]
  generalize (lg_sl ([.ref (ad 0), .int p0, .int p1]) ++ List.replicate (3 - (lg_sl ([.ref (ad 0), .int p0, .int p1])).length) Slot.unset).toArray = ls at hl ⊢
  have hl : lv_has ls 3 [(0, .ref (ad 0)), (1, .int p0), (2, .int p1)] := hl
  unfold sX1_noteField at hsem
  refine lv_iload_n hx hb dX1_noteField_0 rfl (lv_at hl 2 rfl) ?_
  refine lv_bipush (v := (-5)) hx hb dX1_noteField_1 (by decide) ?_
  refine lv_icmp_eq (tgt := 36) hx hb dX1_noteField_3 (by decide) (fun c1 => ?_) (fun c1 => ?_)
  · rw [if_pos c1] at hsem
    have eo := (Option.some.inj hsem).symm.symm
    subst eo
    exact W.vret hx hb hr (fun t ht hW => ⟨⟨(), rfl, trivial, ⟨by rw [ht]; exact hP, hD⟩⟩, hS.F ht⟩) hS.2.2 dX1_noteField_36
  · rw [if_neg c1] at hsem
    refine lv_aload_n hx hb dX1_noteField_6 rfl (lv_at hl 0 rfl) ?_
    refine va_get (D := g.1) (ci := 1) (v := .ref (ad 6)) (C := RX1) (T := TX1) (N := 18) hx hb hts (fun w h => List.mem_cons_of_mem _ (List.mem_append_right _ h)) hown hK hP 0 rfl rfl 5 (by decide) (hts (.fieldLink RX1 27 "PauseRegions$Heap" "place" "[I") (List.mem_of_getElem? (i := 1) rfl)) (fun _ h9 => h9) rfl dX1_noteField_7 ?_
    refine lv_iload_n hx hb dX1_noteField_10 rfl (lv_at hl 2 rfl) ?_
    obtain ⟨h1, hsem⟩ := ck_some hsem
    refine va_iald (D := g.1) hx hb hK hP 6 0 rfl rfl h1 dX1_noteField_11 ?_
    refine lv_iload_n hx hb dX1_noteField_12 rfl (lv_at hl 1 rfl) ?_
    obtain ⟨x1, hc1, hsem⟩ := bn_some hsem
    refine pcN (As := [.int p0]) (rest := [.int ((A 5) p1.toNatClampNeg)]) ⟨hx, hb, hml, hown, hts⟩ hKK ⟨va_cnB 1 hts gX1_noteField_X6_regionOfCard_n150 rfl rfl rfl (hKK.2 5 _ rfl) (hts (.initialized RX6) (List.mem_of_getElem? (i := 4) rfl)) hdX6_regionOfCard ⟨Nat.le_of_ble_eq_true rfl, Nat.le_of_ble_eq_true rfl⟩, (hts (.static yX6_regionOfCard) (List.mem_of_getElem? (i := 3) rfl)), trivial⟩ (kX6_regionOfCard (l := l) (g := g) hc1) rfl hl.1 rfl (Nat.le_of_ble_eq_true rfl) dX1_noteField_13 ⟨Nat.zero_le _, Nat.zero_le _⟩ ?_
    refine lv_icmp_eq (tgt := 36) hx hb dX1_noteField_16 (by decide) (fun c2 => ?_) (fun c2 => ?_)
    · rw [if_pos c2] at hsem
      have eo := (Option.some.inj hsem).symm.symm
      subst eo
      exact W.vret hx hb hr (fun t ht hW => ⟨⟨(), rfl, trivial, ⟨by rw [ht]; exact hP, hD⟩⟩, hS.F ht⟩) hS.2.2 dX1_noteField_36
    · rw [if_neg c2] at hsem
      refine lv_aload_n hx hb dX1_noteField_19 rfl (lv_at hl 0 rfl) ?_
      refine va_get (D := g.1) (ci := 1) (v := .ref (ad 4)) (C := RX1) (T := TX1) (N := 18) hx hb hts (fun w h => List.mem_cons_of_mem _ (List.mem_append_right _ h)) hown hK hP 0 rfl rfl 3 (by decide) (hts (.fieldLink RX1 21 "PauseRegions$Heap" "memory" "[I") (List.mem_of_getElem? (i := 2) rfl)) (fun _ h9 => h9) rfl dX1_noteField_20 ?_
      refine lv_aload_n hx hb dX1_noteField_23 rfl (lv_at hl 0 rfl) ?_
      refine va_get (D := g.1) (ci := 1) (v := .ref (ad 6)) (C := RX1) (T := TX1) (N := 18) hx hb hts (fun w h => List.mem_cons_of_mem _ (List.mem_append_right _ h)) hown hK hP 0 rfl rfl 5 (by decide) (hts (.fieldLink RX1 27 "PauseRegions$Heap" "place" "[I") (List.mem_of_getElem? (i := 1) rfl)) (fun _ h9 => h9) rfl dX1_noteField_24 ?_
      refine lv_iload_n hx hb dX1_noteField_27 rfl (lv_at hl 2 rfl) ?_
      obtain ⟨h2, hsem⟩ := ck_some hsem
      refine va_iald (D := g.1) hx hb hK hP 6 0 rfl rfl h2 dX1_noteField_28 ?_
      refine lv_dup2_11 hx hb dX1_noteField_29 rfl rfl ?_
      obtain ⟨h3, hsem⟩ := ck_some hsem
      refine va_iald (D := g.1) hx hb hK hP 4 0 rfl rfl h3 dX1_noteField_30 ?_
      refine lv_iconst (v := 1) hx hb dX1_noteField_31 (by decide) ?_
      refine lv_iload_n hx hb dX1_noteField_32 rfl (lv_at hl 1 rfl) ?_
      refine lv_ishl hx hb dX1_noteField_33 ?_
      refine lv_ior hx hb dX1_noteField_34 ?_
      obtain ⟨h4, hsem⟩ := ck_some hsem
      refine va_iast (D := g.1) hx hb hK hP hD hS 4 0 rfl rfl h4 dX1_noteField_35 (fun H locs hP hD hS => ?_)
      obtain ⟨A1, eA1, hsem⟩ := bd_some hsem
      have hP : va_P g.1 vwCl (wH g ad A1 F) H := by rw [eA1]; exact hP
      have hD : va_D Z (wH g ad A1 F) := by rw [eA1]; exact hD
      have eo := (Option.some.inj hsem).symm.symm
      subst eo
      exact W.vret hx hb hr (fun t ht hW => ⟨⟨(), rfl, trivial, ⟨by rw [ht]; exact hP, hD⟩⟩, hS.F ht⟩) hS.2.2 dX1_noteField_36
def sX1_ofRoot (A : IA) (p0 : Int32) : Option (Int32) :=
  if 0 ≤ p0 then (ck p0 6 (some ((A 9) p0.toNatClampNeg))) else (some (-5))
abbrev rmX1_ofRoot : Room := { frames := 0, cells := 0, slots := 0, locals := 0 }
theorem hdX1_ofRoot : yX1_ofRoot.cls = RX1 ∧ yX1_ofRoot.cls ≠ "java/lang/invoke/MethodHandle" ∧ yX1_ofRoot.cls ≠ "java/lang/invoke/VarHandle" ∧ (parseMethodDescriptor yX1_ofRoot.desc).map (fun d => d.parameters.length) = some 1 := by decide +kernel
set_option maxHeartbeats 4000000 in
set_option maxRecDepth 100000 in
theorem kX1_ofRoot {l : Launch} {g : GG} {H0 : Heap} {ad : Nat → Nat} {A : IA} {F : FA} {p0 : Int32} {b : Int32} (hP : va_P g.1 vwCl (wH g ad A F) H0) (hsem : sX1_ofRoot A p0 = some b) : MetP l yX1_ofRoot wsX1_ofRoot rmX1_ofRoot g H0 [.ref (ad 0), .int p0] b := by
  refine Met.ofW (cc := cX1_ofRoot) (maxL := 2) (ret := (some .int)) (by decide) rfl ?_
  intro p e s m args below meth c s₁ B hml hv
  obtain ⟨rfl, hH, hKK⟩ := hv
  subst hH
  have hx := B.exec
  have hb := B.bytes
  have hr := B.returns
  have hts := atoms_spec (ws := wsX1_ofRoot) B.pre
  have hown : s.vm.findClass RX1 = some m.cls := findClass_of_methodNamed B.named
  have hlocks := B.notSynchronized
  have hK := hKK.1
  have hl := lv_entry ([.ref (ad 0), .int p0]) (n := 2) (Nat.le_of_ble_eq_true rfl)
  rw [lg_entry_eq]
  generalize (lg_sl ([.ref (ad 0), .int p0]) ++ List.replicate (2 - (lg_sl ([.ref (ad 0), .int p0])).length) Slot.unset).toArray = ls at hl ⊢
  have hl : lv_has ls 2 [(0, .ref (ad 0)), (1, .int p0)] := hl
  unfold sX1_ofRoot at hsem
  refine lv_iload_n hx hb dX1_ofRoot_0 rfl (lv_at hl 1 rfl) ?_
  refine lv_if_ge (tgt := 9) hx hb dX1_ofRoot_1 (by decide) (fun c1 => ?_) (fun c1 => ?_)
  · rw [if_pos c1] at hsem
    refine lv_aload_n hx hb dX1_ofRoot_9 rfl (lv_at hl 0 rfl) ?_
    refine va_get (D := g.1) (ci := 1) (v := .ref (ad 10)) (C := RX1) (T := TX1) (N := 18) hx hb hts (fun w h => List.mem_cons_of_mem _ (List.mem_append_right _ h)) hown hK hP 0 rfl rfl 9 (by decide) (hts (.fieldLink RX1 39 "PauseRegions$Heap" "roots" "[I") (List.mem_of_getElem? (i := 1) rfl)) (fun _ h9 => h9) rfl dX1_ofRoot_10 ?_
    refine lv_iload_n hx hb dX1_ofRoot_13 rfl (lv_at hl 1 rfl) ?_
    obtain ⟨h1, hsem⟩ := ck_some hsem
    refine va_iald (D := g.1) hx hb hK hP 10 0 rfl rfl h1 dX1_ofRoot_14 ?_
    have eo := (Option.some.inj hsem).symm.symm
    exact W.iret (v := (A 9) p0.toNatClampNeg) hx hb hr (fun t ht hW => ⟨⟨_, (), rfl, eo, ht⟩, (va_S.rf (A := fun _ => False) (H0 := s.heap)).F ht⟩) (fun q hq => absurd hq List.not_mem_nil) dX1_ofRoot_15
  · rw [if_neg c1] at hsem
    refine lv_bipush (v := (-5)) hx hb dX1_ofRoot_4 (by decide) ?_
    refine lv_goto (tgt := 15) hx hb dX1_ofRoot_6 (by decide) ?_
    have eo := (Option.some.inj hsem).symm.symm
    exact W.iret (v := (-5)) hx hb hr (fun t ht hW => ⟨⟨_, (), rfl, eo, ht⟩, (va_S.rf (A := fun _ => False) (H0 := s.heap)).F ht⟩) (fun q hq => absurd hq List.not_mem_nil) dX1_ofRoot_15
def sX1_refineCard_L10 (p0 : Int32) (q1 : Int32 × IA) : Option ((Int32 × IA) ⊕ (IA)) :=
  if 32 ≤ q1.1 then (some (.inr q1.2)) else ((sX1_isOn q1.2 q1.1 p0).bind fun x1 => if x1 = 0 then (some (.inl (q1.1 + 1, q1.2))) else ((sX1_fieldOf q1.2 q1.1 0).bind fun x2 => (sX1_noteField q1.2 p0 x2).bind fun z2 => (sX1_fieldOf z2 q1.1 1).bind fun x3 => (sX1_noteField z2 p0 x3).bind fun z3 => some (.inl (q1.1 + 1, z3))))
def sX1_refineCard (A : IA) (p0 : Int32) : Option (IA) :=
  (sX5_drop (A 10) (A 18 0) p0).bind fun z1 => bd (sc (setR A 10 z1.1) 18 z1.2) fun A1 => (loopN (sX1_refineCard_L10 p0) 2000 (0, A1)).bind fun q2 => some q2
abbrev rmX1_refineCard : Room := { frames := 3, cells := 0, slots := 0, locals := 64 }
theorem hdX1_refineCard : yX1_refineCard.cls = RX1 ∧ yX1_refineCard.cls ≠ "java/lang/invoke/MethodHandle" ∧ yX1_refineCard.cls ≠ "java/lang/invoke/VarHandle" ∧ (parseMethodDescriptor yX1_refineCard.desc).map (fun d => d.parameters.length) = some 1 := by decide +kernel
set_option maxHeartbeats 4000000 in
set_option maxRecDepth 100000 in
theorem kX1_refineCard {l : Launch} {g : GG} {sz : Nat} {ad : Nat → Nat} {A : IA} {F : FA} {p0 : Int32} {b : IA} (hsem : sX1_refineCard A p0 = some b) : MetV l yX1_refineCard wsX1_refineCard rmX1_refineCard g [.ref (ad 0), .int p0] (wH g ad A F) sz (wH g ad b F) := by
  refine Met.ofW (cc := cX1_refineCard) (maxL := 3) (ret := none) (by decide) rfl ?_
  intro p e s m args below meth c s₁ B hml hv
  obtain ⟨rfl, hsz, hP, hD0, hKK⟩ := hv
  subst hsz
  have hx := B.exec
  have hb := B.bytes
  have hr := B.returns
  have hts := atoms_spec (ws := wsX1_refineCard) B.pre
  have hown : s.vm.findClass RX1 = some m.cls := findClass_of_methodNamed B.named
  have hlocks := B.notSynchronized
  have hK := hKK.1
  have hD := hD0.self (sz := s.heap.size)
  generalize hZe : va_A (wH g ad A F) s.heap.size = Z at hD ⊢
  have hZ : ∀ q : Nat, s.heap.size ≤ q → Z q := fun q h => by rw [← hZe]; exact Or.inr h
  have hS : va_S Z s.heap s.heap [] := va_S.rf
  have hP : va_P g.1 vwCl (wH g ad A F) s.heap := hP
  have hD : va_D Z (wH g ad A F) := hD
  have hl := lv_entry ([.ref (ad 0), .int p0]) (n := 3) (Nat.le_of_ble_eq_true rfl)
  rw [lg_entry_eq]
  generalize (lg_sl ([.ref (ad 0), .int p0]) ++ List.replicate (3 - (lg_sl ([.ref (ad 0), .int p0])).length) Slot.unset).toArray = ls at hl ⊢
  have hl : lv_has ls 3 [(0, .ref (ad 0)), (1, .int p0)] := hl
  unfold sX1_refineCard at hsem
  refine lv_aload_n hx hb dX1_refineCard_0 rfl (lv_at hl 0 rfl) ?_
  refine va_get (D := g.1) (ci := 1) (v := .ref (ad 11)) (C := RX1) (T := TX1) (N := 18) hx hb hts (fun w h => List.mem_cons_of_mem _ (List.mem_append_left _ (List.mem_append_right _ h))) hown hK hP 0 rfl rfl 10 (by decide) (hts (.fieldLink RX1 45 "PauseRegions$Heap" "dirtyCards" "LPauseRegions$Row;") (List.mem_of_getElem? (i := 1) rfl)) (fun _ h9 => h9) rfl dX1_refineCard_1 ?_
  refine lv_iload_n hx hb dX1_refineCard_4 rfl (lv_at hl 1 rfl) ?_
  obtain ⟨z1, hc1, hsem⟩ := bn_some hsem
  refine mcVs (C := RX5) (As := [.int p0]) (rest := []) (wr := (wH_11_12 g ad A F)) ⟨hx, hb, hml, hown, hts⟩ hKK hP hD hS hZ [11, 12] [0, 1, 2, 3, 4, 5, 6, 7, 8, 9, 10, 13, 14] rfl rfl (by decide) (by decide) (by decide) (cwV 1 hts gX1_refineCard_X5_drop rfl rfl rfl hdX5_drop ⟨Nat.le_of_ble_eq_true rfl, Nat.le_of_ble_eq_true rfl⟩) (kX5_drop (l := l) (g := g) (a0 := (ad 11)) (a1 := (ad 12)) (f := (A 10)) (n := (A 18 0)) hc1) (va_recv hK hP (ci := 5) (q0 := 11) rfl rfl) rfl hl.1 rfl (Nat.le_of_ble_eq_true rfl) dX1_refineCard_5 ⟨Nat.zero_le _, Nat.zero_le _⟩ (fun H locs hP hD hS => ?_)
  obtain ⟨A1, eA1, hsem⟩ := bd_some hsem
  have hP : va_P g.1 vwCl (wH g ad A1 F) H := by rw [eA1]; exact hP.sub [0, 1, 2, 3, 4, 5, 6, 7, 8, 9, 10, 13, 14, 11, 12] rfl
  have hD : va_D Z (wH g ad A1 F) := by rw [eA1]; exact hD.sub [0, 1, 2, 3, 4, 5, 6, 7, 8, 9, 10, 13, 14, 11, 12] (by decide) rfl
  refine lv_iconst (v := 0) hx hb dX1_refineCard_8 (by decide) ?_
  refine lv_istore_n (lv' := [(2, .int 0), (0, .ref (ad 0)), (1, .int p0)]) hx hb dX1_refineCard_9 rfl hl (by decide) rfl (fun ls hl => ?_)
  obtain ⟨q2, hc7, hsem⟩ := bn_some hsem
  refine loopM (g := g) hc7 (fun (q1 : Int32 × IA) => [(2, .int q1.1), (0, .ref (ad 0)), (1, .int p0)]) (fun (q1 : IA) => []) (exit := 53) (fun (q1 : Int32 × IA) => wH g ad q1.2 F) (fun (q1 : IA) => wH g ad q1 F) hP hD hS (lv_sub hl [0, 1, 2] rfl) (fun H locs ls hP hD hS hl => ?_) (fun q1 r hst1 hin1 hout1 H locs ls hP hD hS hl => ?_)
  · have hP : va_P g.1 vwCl (wH g ad q2 F) H := hP
    have hD : va_D Z (wH g ad q2 F) := hD
    have eo := (Option.some.inj hsem).symm.symm
    subst eo
    exact W.vret hx hb hr (fun t ht hW => ⟨⟨(), rfl, trivial, ⟨by rw [ht]; exact hP, hD⟩⟩, hS.F ht⟩) hS.2.2 dX1_refineCard_53
  · unfold sX1_refineCard_L10 at hst1
    have hP : va_P g.1 vwCl (wH g ad q1.2 F) H := hP
    have hD : va_D Z (wH g ad q1.2 F) := hD
    refine lv_iload_n hx hb dX1_refineCard_10 rfl (lv_at hl 0 rfl) ?_
    refine lv_bipush (v := 32) hx hb dX1_refineCard_11 (by decide) ?_
    refine lv_icmp_ge (tgt := 53) hx hb dX1_refineCard_13 (by decide) (fun c1 => ?_) (fun c1 => ?_)
    · rw [if_pos c1] at hst1
      exact hout1 H locs ls _ (Option.some.inj hst1).symm hP hD hS (lv_sub hl [] rfl)
    · rw [if_neg c1] at hst1
      refine lv_aload_n hx hb dX1_refineCard_16 rfl (lv_at hl 1 rfl) ?_
      refine lv_iload_n hx hb dX1_refineCard_17 rfl (lv_at hl 0 rfl) ?_
      refine lv_iload_n hx hb dX1_refineCard_18 rfl (lv_at hl 2 rfl) ?_
      obtain ⟨x1, hc2, hst1⟩ := bn_some hst1
      refine pcV (C := RX1) (As := [.int q1.1, .int p0]) (rest := []) ⟨hx, hb, hml, hown, hts⟩ hKK (cwV 2 hts gX1_refineCard_X1_isOn rfl rfl rfl hdX1_isOn ⟨Nat.le_of_ble_eq_true rfl, Nat.le_of_ble_eq_true rfl⟩) (kX1_isOn (l := l) (g := g) hP hc2) (va_recv hK hP (ci := 1) (q0 := 0) rfl rfl) rfl hl.1 rfl (Nat.le_of_ble_eq_true rfl) dX1_refineCard_19 ⟨Nat.zero_le _, Nat.zero_le _⟩ ?_
      refine lv_if_eq (tgt := 47) hx hb dX1_refineCard_22 (by decide) (fun c2 => ?_) (fun c2 => ?_)
      · rw [if_pos c2] at hst1
        refine lv_iinc (v := q1.1 + 1) (lv' := [(2, .int (q1.1 + 1)), (0, .ref (ad 0)), (1, .int p0)]) hx hb dX1_refineCard_47 hl (k := 0) rfl rfl (by decide) rfl (fun ls hl => ?_)
        refine lv_goto (tgt := 10) hx hb dX1_refineCard_50 (by decide) ?_
        exact hin1 H locs ls _ (Option.some.inj hst1).symm hP hD hS (lv_sub hl [0, 1, 2] rfl)
      · rw [if_neg c2] at hst1
        refine lv_aload_n hx hb dX1_refineCard_25 rfl (lv_at hl 1 rfl) ?_
        refine lv_iload_n hx hb dX1_refineCard_26 rfl (lv_at hl 2 rfl) ?_
        refine lv_aload_n hx hb dX1_refineCard_27 rfl (lv_at hl 1 rfl) ?_
        refine lv_iload_n hx hb dX1_refineCard_28 rfl (lv_at hl 0 rfl) ?_
        refine lv_iconst (v := 0) hx hb dX1_refineCard_29 (by decide) ?_
        obtain ⟨x2, hc3, hst1⟩ := bn_some hst1
        refine pcV (C := RX1) (As := [.int q1.1, .int 0]) (rest := [.int p0, .ref (ad 0)]) ⟨hx, hb, hml, hown, hts⟩ hKK (cwV 2 hts gX1_refineCard_X1_fieldOf rfl rfl rfl hdX1_fieldOf ⟨Nat.le_of_ble_eq_true rfl, Nat.le_of_ble_eq_true rfl⟩) (kX1_fieldOf (l := l) (g := g) hP hc3) (va_recv hK hP (ci := 1) (q0 := 0) rfl rfl) rfl hl.1 rfl (Nat.le_of_ble_eq_true rfl) dX1_refineCard_30 ⟨Nat.zero_le _, Nat.zero_le _⟩ ?_
        obtain ⟨z2, hc4, hst1⟩ := bn_some hst1
        refine mcV (C := RX1) (As := [.int p0, .int x2]) (rest := []) ⟨hx, hb, hml, hown, hts⟩ hKK hP hD hS hZ (cwV 2 hts gX1_refineCard_X1_noteField rfl rfl rfl hdX1_noteField ⟨Nat.le_of_ble_eq_true rfl, Nat.le_of_ble_eq_true rfl⟩) (kX1_noteField (l := l) (g := g) (ad := ad) (A := q1.2) (F := F) hc4) (va_recv hK hP (ci := 1) (q0 := 0) rfl rfl) rfl hl.1 rfl (Nat.le_of_ble_eq_true rfl) dX1_refineCard_33 ⟨Nat.zero_le _, Nat.zero_le _⟩ (fun H locs hP hD hS => ?_)
        have hP : va_P g.1 vwCl (wH g ad z2 F) H := hP
        have hD : va_D Z (wH g ad z2 F) := hD
        refine lv_aload_n hx hb dX1_refineCard_36 rfl (lv_at hl 1 rfl) ?_
        refine lv_iload_n hx hb dX1_refineCard_37 rfl (lv_at hl 2 rfl) ?_
        refine lv_aload_n hx hb dX1_refineCard_38 rfl (lv_at hl 1 rfl) ?_
        refine lv_iload_n hx hb dX1_refineCard_39 rfl (lv_at hl 0 rfl) ?_
        refine lv_iconst (v := 1) hx hb dX1_refineCard_40 (by decide) ?_
        obtain ⟨x3, hc5, hst1⟩ := bn_some hst1
        refine pcV (C := RX1) (As := [.int q1.1, .int 1]) (rest := [.int p0, .ref (ad 0)]) ⟨hx, hb, hml, hown, hts⟩ hKK (cwV 2 hts gX1_refineCard_X1_fieldOf rfl rfl rfl hdX1_fieldOf ⟨Nat.le_of_ble_eq_true rfl, Nat.le_of_ble_eq_true rfl⟩) (kX1_fieldOf (l := l) (g := g) hP hc5) (va_recv hK hP (ci := 1) (q0 := 0) rfl rfl) rfl hl.1 rfl (Nat.le_of_ble_eq_true rfl) dX1_refineCard_41 ⟨Nat.zero_le _, Nat.zero_le _⟩ ?_
        obtain ⟨z3, hc6, hst1⟩ := bn_some hst1
        refine mcV (C := RX1) (As := [.int p0, .int x3]) (rest := []) ⟨hx, hb, hml, hown, hts⟩ hKK hP hD hS hZ (cwV 2 hts gX1_refineCard_X1_noteField rfl rfl rfl hdX1_noteField ⟨Nat.le_of_ble_eq_true rfl, Nat.le_of_ble_eq_true rfl⟩) (kX1_noteField (l := l) (g := g) (ad := ad) (A := z2) (F := F) hc6) (va_recv hK hP (ci := 1) (q0 := 0) rfl rfl) rfl hl.1 rfl (Nat.le_of_ble_eq_true rfl) dX1_refineCard_44 ⟨Nat.zero_le _, Nat.zero_le _⟩ (fun H locs hP hD hS => ?_)
        have hP : va_P g.1 vwCl (wH g ad z3 F) H := hP
        have hD : va_D Z (wH g ad z3 F) := hD
        refine lv_iinc (v := q1.1 + 1) (lv' := [(2, .int (q1.1 + 1)), (0, .ref (ad 0)), (1, .int p0)]) hx hb dX1_refineCard_47 hl (k := 0) rfl rfl (by decide) rfl (fun ls hl => ?_)
        refine lv_goto (tgt := 10) hx hb dX1_refineCard_50 (by decide) ?_
        exact hin1 H locs ls _ (Option.some.inj hst1).symm hP hD hS (lv_sub hl [0, 1, 2] rfl)
def sX1_refineOldest_L4 (p0 : Int32) (q1 : Int32 × Int32 × IA) : Option ((Int32 × Int32 × IA) ⊕ (Int32 × IA)) :=
  if p0 ≤ q1.2.1 then (some (.inr (q1.1, q1.2.2))) else (if (q1.2.2 18 0) ≤ 0 then (some (.inr (q1.1, q1.2.2))) else ((sX5_itemAt (q1.2.2 10) (q1.2.2 18 0) 0).bind fun x1 => (sX1_refineCard q1.2.2 x1).bind fun z1 => some (.inl (q1.1 + 1, q1.2.1 + 1, z1))))
def sX1_refineOldest (A : IA) (p0 : Int32) : Option (Int32 × IA) :=
  (loopN (sX1_refineOldest_L4 p0) 2000 (0, 0, A)).bind fun q2 => some (q2.1, q2.2)
abbrev rmX1_refineOldest : Room := { frames := 4, cells := 0, slots := 0, locals := 86 }
theorem hdX1_refineOldest : yX1_refineOldest.cls = RX1 ∧ yX1_refineOldest.cls ≠ "java/lang/invoke/MethodHandle" ∧ yX1_refineOldest.cls ≠ "java/lang/invoke/VarHandle" ∧ (parseMethodDescriptor yX1_refineOldest.desc).map (fun d => d.parameters.length) = some 1 := by decide +kernel
set_option maxHeartbeats 4000000 in
set_option maxRecDepth 100000 in
theorem kX1_refineOldest {l : Launch} {g : GG} {sz : Nat} {ad : Nat → Nat} {A : IA} {F : FA} {p0 : Int32} {b : Int32 × IA} (hsem : sX1_refineOldest A p0 = some b) : MetI l yX1_refineOldest wsX1_refineOldest rmX1_refineOldest g [.ref (ad 0), .int p0] (wH g ad A F) sz b.1 (wH g ad b.2 F) := by
  refine Met.ofW (cc := cX1_refineOldest) (maxL := 4) (ret := (some .int)) (by decide) rfl ?_
  intro p e s m args below meth c s₁ B hml hv
  obtain ⟨rfl, hsz, hP, hD0, hKK⟩ := hv
  subst hsz
  have hx := B.exec
  have hb := B.bytes
  have hr := B.returns
  have hts := atoms_spec (ws := wsX1_refineOldest) B.pre
  have hown : s.vm.findClass RX1 = some m.cls := findClass_of_methodNamed B.named
  have hlocks := B.notSynchronized
  have hK := hKK.1
  have hD := hD0.self (sz := s.heap.size)
  generalize hZe : va_A (wH g ad A F) s.heap.size = Z at hD ⊢
  have hZ : ∀ q : Nat, s.heap.size ≤ q → Z q := fun q h => by rw [← hZe]; exact Or.inr h
  have hS : va_S Z s.heap s.heap [] := va_S.rf
  have hP : va_P g.1 vwCl (wH g ad A F) s.heap := hP
  have hD : va_D Z (wH g ad A F) := hD
  have hl := lv_entry ([.ref (ad 0), .int p0]) (n := 4) (Nat.le_of_ble_eq_true rfl)
  rw [lg_entry_eq]
  generalize (lg_sl ([.ref (ad 0), .int p0]) ++ List.replicate (4 - (lg_sl ([.ref (ad 0), .int p0])).length) Slot.unset).toArray = ls at hl ⊢
  have hl : lv_has ls 4 [(0, .ref (ad 0)), (1, .int p0)] := hl
  unfold sX1_refineOldest at hsem
  refine lv_iconst (v := 0) hx hb dX1_refineOldest_0 (by decide) ?_
  refine lv_istore_n (lv' := [(2, .int 0), (0, .ref (ad 0)), (1, .int p0)]) hx hb dX1_refineOldest_1 rfl hl (by decide) rfl (fun ls hl => ?_)
  refine lv_iconst (v := 0) hx hb dX1_refineOldest_2 (by decide) ?_
  refine lv_istore_n (lv' := [(3, .int 0), (2, .int 0), (0, .ref (ad 0)), (1, .int p0)]) hx hb dX1_refineOldest_3 rfl hl (by decide) rfl (fun ls hl => ?_)
  obtain ⟨q2, hc3, hsem⟩ := bn_some hsem
  refine loopM (g := g) hc3 (fun (q1 : Int32 × Int32 × IA) => [(3, .int q1.2.1), (2, .int q1.1), (0, .ref (ad 0)), (1, .int p0)]) (fun (q1 : Int32 × IA) => [(2, .int q1.1)]) (exit := 40) (fun (q1 : Int32 × Int32 × IA) => wH g ad q1.2.2 F) (fun (q1 : Int32 × IA) => wH g ad q1.2 F) hP hD hS (lv_sub hl [0, 1, 2, 3] rfl) (fun H locs ls hP hD hS hl => ?_) (fun q1 r hst1 hin1 hout1 H locs ls hP hD hS hl => ?_)
  · have hP : va_P g.1 vwCl (wH g ad q2.2 F) H := hP
    have hD : va_D Z (wH g ad q2.2 F) := hD
    refine lv_iload_n hx hb dX1_refineOldest_40 rfl (lv_at hl 0 rfl) ?_
    have eo := (Option.some.inj hsem).symm.symm
    subst eo
    exact W.iret (v := q2.1) hx hb hr (fun t ht hW => ⟨⟨_, (), rfl, rfl, ⟨by rw [ht]; exact hP, hD⟩⟩, hS.F ht⟩) hS.2.2 dX1_refineOldest_41
  · unfold sX1_refineOldest_L4 at hst1
    have hP : va_P g.1 vwCl (wH g ad q1.2.2 F) H := hP
    have hD : va_D Z (wH g ad q1.2.2 F) := hD
    refine lv_iload_n hx hb dX1_refineOldest_4 rfl (lv_at hl 0 rfl) ?_
    refine lv_iload_n hx hb dX1_refineOldest_5 rfl (lv_at hl 3 rfl) ?_
    refine lv_icmp_ge (tgt := 40) hx hb dX1_refineOldest_6 (by decide) (fun c1 => ?_) (fun c1 => ?_)
    · rw [if_pos c1] at hst1
      exact hout1 H locs ls _ (Option.some.inj hst1).symm hP hD hS (lv_sub hl [1] rfl)
    · rw [if_neg c1] at hst1
      refine lv_aload_n hx hb dX1_refineOldest_9 rfl (lv_at hl 2 rfl) ?_
      refine va_get (D := g.1) (ci := 1) (v := .ref (ad 11)) (C := RX1) (T := TX1) (N := 18) hx hb hts (fun w h => List.mem_cons_of_mem _ (List.mem_append_left _ (List.mem_append_right _ h))) hown hK hP 0 rfl rfl 10 (by decide) (hts (.fieldLink RX1 45 "PauseRegions$Heap" "dirtyCards" "LPauseRegions$Row;") (List.mem_of_getElem? (i := 1) rfl)) (fun _ h9 => h9) rfl dX1_refineOldest_10 ?_
      refine va_get (D := g.1) (ci := 5) (v := .int (q1.2.2 18 0)) (C := RX5) (T := TX5) (N := 2) hx hb hts (fun w h => List.mem_cons_of_mem _ (List.mem_append_right _ h)) hown hK hP 11 rfl rfl 1 (by decide) (hts (.fieldLink RX1 132 "PauseRegions$Row" "length" "I") (List.mem_of_getElem? (i := 2) rfl)) (fun _ h9 => h9) rfl dX1_refineOldest_13 ?_
      refine lv_if_le (tgt := 40) hx hb dX1_refineOldest_16 (by decide) (fun c2 => ?_) (fun c2 => ?_)
      · rw [if_pos c2] at hst1
        exact hout1 H locs ls _ (Option.some.inj hst1).symm hP hD hS (lv_sub hl [1] rfl)
      · rw [if_neg c2] at hst1
        refine lv_aload_n hx hb dX1_refineOldest_19 rfl (lv_at hl 2 rfl) ?_
        refine lv_aload_n hx hb dX1_refineOldest_20 rfl (lv_at hl 2 rfl) ?_
        refine va_get (D := g.1) (ci := 1) (v := .ref (ad 11)) (C := RX1) (T := TX1) (N := 18) hx hb hts (fun w h => List.mem_cons_of_mem _ (List.mem_append_left _ (List.mem_append_right _ h))) hown hK hP 0 rfl rfl 10 (by decide) (hts (.fieldLink RX1 45 "PauseRegions$Heap" "dirtyCards" "LPauseRegions$Row;") (List.mem_of_getElem? (i := 1) rfl)) (fun _ h9 => h9) rfl dX1_refineOldest_21 ?_
        refine lv_iconst (v := 0) hx hb dX1_refineOldest_24 (by decide) ?_
        obtain ⟨x1, hc1, hst1⟩ := bn_some hst1
        refine pcV (C := RX5) (As := [.int 0]) (rest := [.ref (ad 0)]) ⟨hx, hb, hml, hown, hts⟩ hKK (cwV 1 hts gX1_refineOldest_X5_itemAt rfl rfl rfl hdX5_itemAt ⟨Nat.le_of_ble_eq_true rfl, Nat.le_of_ble_eq_true rfl⟩) (kX5_itemAt (l := l) (g := g) (hP.sub (ws' := wRow g (ad 11) (ad 12) (q1.2.2 10) (q1.2.2 18 0)) [11, 12] rfl) hc1) (va_recv hK hP (ci := 5) (q0 := 11) rfl rfl) rfl hl.1 rfl (Nat.le_of_ble_eq_true rfl) dX1_refineOldest_25 ⟨Nat.zero_le _, Nat.zero_le _⟩ ?_
        obtain ⟨z1, hc2, hst1⟩ := bn_some hst1
        refine mcV (C := RX1) (As := [.int x1]) (rest := []) ⟨hx, hb, hml, hown, hts⟩ hKK hP hD hS hZ (cwV 1 hts gX1_refineOldest_X1_refineCard rfl rfl rfl hdX1_refineCard ⟨Nat.le_of_ble_eq_true rfl, Nat.le_of_ble_eq_true rfl⟩) (kX1_refineCard (l := l) (g := g) (ad := ad) (A := q1.2.2) (F := F) hc2) (va_recv hK hP (ci := 1) (q0 := 0) rfl rfl) rfl hl.1 rfl (Nat.le_of_ble_eq_true rfl) dX1_refineOldest_28 ⟨Nat.zero_le _, Nat.zero_le _⟩ (fun H locs hP hD hS => ?_)
        have hP : va_P g.1 vwCl (wH g ad z1 F) H := hP
        have hD : va_D Z (wH g ad z1 F) := hD
        refine lv_iinc (v := q1.1 + 1) (lv' := [(2, .int (q1.1 + 1)), (3, .int q1.2.1), (0, .ref (ad 0)), (1, .int p0)]) hx hb dX1_refineOldest_31 hl (k := 1) rfl rfl (by decide) rfl (fun ls hl => ?_)
        refine lv_iinc (v := q1.2.1 + 1) (lv' := [(3, .int (q1.2.1 + 1)), (2, .int (q1.1 + 1)), (0, .ref (ad 0)), (1, .int p0)]) hx hb dX1_refineOldest_34 hl (k := 1) rfl rfl (by decide) rfl (fun ls hl => ?_)
        refine lv_goto (tgt := 4) hx hb dX1_refineOldest_37 (by decide) ?_
        exact hin1 H locs ls _ (Option.some.inj hst1).symm hP hD hS (lv_sub hl [0, 1, 2, 3] rfl)
def sX1_regionsOfKind_L4 (A : IA) (p0 : Int32) (q1 : Int32 × Int32) : Option ((Int32 × Int32) ⊕ (Int32)) :=
  if 10 ≤ q1.2 then (some (.inr q1.1)) else (ck q1.2 10 (if ((A 0) q1.2.toNatClampNeg) = p0 then (some (.inl (q1.1 + 1, q1.2 + 1))) else (some (.inl (q1.1, q1.2 + 1)))))
def sX1_regionsOfKind (A : IA) (p0 : Int32) : Option (Int32) :=
  (loopN (sX1_regionsOfKind_L4 A p0) 2000 (0, 0)).bind fun q2 => some q2
abbrev rmX1_regionsOfKind : Room := { frames := 0, cells := 0, slots := 0, locals := 0 }
theorem hdX1_regionsOfKind : yX1_regionsOfKind.cls = RX1 ∧ yX1_regionsOfKind.cls ≠ "java/lang/invoke/MethodHandle" ∧ yX1_regionsOfKind.cls ≠ "java/lang/invoke/VarHandle" ∧ (parseMethodDescriptor yX1_regionsOfKind.desc).map (fun d => d.parameters.length) = some 1 := by decide +kernel
set_option maxHeartbeats 4000000 in
set_option maxRecDepth 100000 in
theorem kX1_regionsOfKind {l : Launch} {g : GG} {H0 : Heap} {ad : Nat → Nat} {A : IA} {F : FA} {p0 : Int32} {b : Int32} (hP : va_P g.1 vwCl (wH g ad A F) H0) (hsem : sX1_regionsOfKind A p0 = some b) : MetP l yX1_regionsOfKind wsX1_regionsOfKind rmX1_regionsOfKind g H0 [.ref (ad 0), .int p0] b := by
  refine Met.ofW (cc := cX1_regionsOfKind) (maxL := 4) (ret := (some .int)) (by decide) rfl ?_
  intro p e s m args below meth c s₁ B hml hv
  obtain ⟨rfl, hH, hKK⟩ := hv
  subst hH
  have hx := B.exec
  have hb := B.bytes
  have hr := B.returns
  have hts := atoms_spec (ws := wsX1_regionsOfKind) B.pre
  have hown : s.vm.findClass RX1 = some m.cls := findClass_of_methodNamed B.named
  have hlocks := B.notSynchronized
  have hK := hKK.1
  have hl := lv_entry ([.ref (ad 0), .int p0]) (n := 4) (Nat.le_of_ble_eq_true rfl)
  rw [lg_entry_eq]
  generalize (lg_sl ([.ref (ad 0), .int p0]) ++ List.replicate (4 - (lg_sl ([.ref (ad 0), .int p0])).length) Slot.unset).toArray = ls at hl ⊢
  have hl : lv_has ls 4 [(0, .ref (ad 0)), (1, .int p0)] := hl
  unfold sX1_regionsOfKind at hsem
  refine lv_iconst (v := 0) hx hb dX1_regionsOfKind_0 (by decide) ?_
  refine lv_istore_n (lv' := [(2, .int 0), (0, .ref (ad 0)), (1, .int p0)]) hx hb dX1_regionsOfKind_1 rfl hl (by decide) rfl (fun ls hl => ?_)
  refine lv_iconst (v := 0) hx hb dX1_regionsOfKind_2 (by decide) ?_
  refine lv_istore_n (lv' := [(3, .int 0), (2, .int 0), (0, .ref (ad 0)), (1, .int p0)]) hx hb dX1_regionsOfKind_3 rfl hl (by decide) rfl (fun ls hl => ?_)
  obtain ⟨q2, hc1, hsem⟩ := bn_some hsem
  refine loopP hc1 (fun (q1 : Int32 × Int32) => [(3, .int q1.2), (2, .int q1.1), (0, .ref (ad 0)), (1, .int p0)]) (fun (q1 : Int32) => [(2, .int q1)]) (exit := 29) (lv_sub hl [0, 1, 2, 3] rfl) (fun ls hl => ?_) (fun q1 r hst1 hin1 hout1 ls hl => ?_)
  · skip
    refine lv_iload_n hx hb dX1_regionsOfKind_29 rfl (lv_at hl 0 rfl) ?_
    have eo := (Option.some.inj hsem).symm.symm
    exact W.iret (v := q2) hx hb hr (fun t ht hW => ⟨⟨_, (), rfl, eo, ht⟩, (va_S.rf (A := fun _ => False) (H0 := s.heap)).F ht⟩) (fun q hq => absurd hq List.not_mem_nil) dX1_regionsOfKind_30
  · unfold sX1_regionsOfKind_L4 at hst1
    refine lv_iload_n hx hb dX1_regionsOfKind_4 rfl (lv_at hl 0 rfl) ?_
    refine lv_bipush (v := 10) hx hb dX1_regionsOfKind_5 (by decide) ?_
    refine lv_icmp_ge (tgt := 29) hx hb dX1_regionsOfKind_7 (by decide) (fun c1 => ?_) (fun c1 => ?_)
    · rw [if_pos c1] at hst1
      exact hout1 ls _ (Option.some.inj hst1).symm (lv_sub hl [1] rfl)
    · rw [if_neg c1] at hst1
      refine lv_aload_n hx hb dX1_regionsOfKind_10 rfl (lv_at hl 2 rfl) ?_
      refine va_get (D := g.1) (ci := 1) (v := .ref (ad 1)) (C := RX1) (T := TX1) (N := 18) hx hb hts (fun w h => List.mem_cons_of_mem _ (List.mem_append_right _ h)) hown hK hP 0 rfl rfl 0 (by decide) (hts (.fieldLink RX1 9 "PauseRegions$Heap" "kind" "[I") (List.mem_of_getElem? (i := 1) rfl)) (fun _ h9 => h9) rfl dX1_regionsOfKind_11 ?_
      refine lv_iload_n hx hb dX1_regionsOfKind_14 rfl (lv_at hl 0 rfl) ?_
      obtain ⟨h1, hst1⟩ := ck_some hst1
      refine va_iald (D := g.1) hx hb hK hP 1 0 rfl rfl h1 dX1_regionsOfKind_15 ?_
      refine lv_iload_n hx hb dX1_regionsOfKind_16 rfl (lv_at hl 3 rfl) ?_
      refine lv_icmp_ne (tgt := 23) hx hb dX1_regionsOfKind_17 (by decide) (fun c2 => ?_) (fun c2 => ?_)
      · rw [if_neg c2] at hst1
        refine lv_iinc (v := q1.2 + 1) (lv' := [(3, .int (q1.2 + 1)), (2, .int q1.1), (0, .ref (ad 0)), (1, .int p0)]) hx hb dX1_regionsOfKind_23 hl (k := 0) rfl rfl (by decide) rfl (fun ls hl => ?_)
        refine lv_goto (tgt := 4) hx hb dX1_regionsOfKind_26 (by decide) ?_
        exact hin1 ls _ (Option.some.inj hst1).symm (lv_sub hl [0, 1, 2, 3] rfl)
      · rw [if_pos c2] at hst1
        refine lv_iinc (v := q1.1 + 1) (lv' := [(2, .int (q1.1 + 1)), (3, .int q1.2), (0, .ref (ad 0)), (1, .int p0)]) hx hb dX1_regionsOfKind_20 hl (k := 1) rfl rfl (by decide) rfl (fun ls hl => ?_)
        refine lv_iinc (v := q1.2 + 1) (lv' := [(3, .int (q1.2 + 1)), (2, .int (q1.1 + 1)), (0, .ref (ad 0)), (1, .int p0)]) hx hb dX1_regionsOfKind_23 hl (k := 1) rfl rfl (by decide) rfl (fun ls hl => ?_)
        refine lv_goto (tgt := 4) hx hb dX1_regionsOfKind_26 (by decide) ?_
        exact hin1 ls _ (Option.some.inj hst1).symm (lv_sub hl [0, 1, 2, 3] rfl)
def sX1_roomFor (A : IA) (p0 : Int32) : Option (Int32) :=
  if p0 ≤ 4 then ((sX1_hasRoom A (A 13 0) p0).bind fun x1 => if x1 = 0 then ((sX1_freeRow A 1).bind fun x2 => some x2) else (some (A 13 0))) else ((sX1_regionsFor A p0).bind fun x3 => (sX1_freeRow A x3).bind fun x4 => some x4)
abbrev rmX1_roomFor : Room := { frames := 1, cells := 0, slots := 0, locals := 23 }
theorem hdX1_roomFor : yX1_roomFor.cls = RX1 ∧ yX1_roomFor.cls ≠ "java/lang/invoke/MethodHandle" ∧ yX1_roomFor.cls ≠ "java/lang/invoke/VarHandle" ∧ (parseMethodDescriptor yX1_roomFor.desc).map (fun d => d.parameters.length) = some 1 := by decide +kernel
set_option maxHeartbeats 4000000 in
set_option maxRecDepth 100000 in
theorem kX1_roomFor {l : Launch} {g : GG} {H0 : Heap} {ad : Nat → Nat} {A : IA} {F : FA} {p0 : Int32} {b : Int32} (hP : va_P g.1 vwCl (wH g ad A F) H0) (hsem : sX1_roomFor A p0 = some b) : MetP l yX1_roomFor wsX1_roomFor rmX1_roomFor g H0 [.ref (ad 0), .int p0] b := by
  refine Met.ofW (cc := cX1_roomFor) (maxL := 2) (ret := (some .int)) (by decide) rfl ?_
  intro p e s m args below meth c s₁ B hml hv
  obtain ⟨rfl, hH, hKK⟩ := hv
  subst hH
  have hx := B.exec
  have hb := B.bytes
  have hr := B.returns
  have hts := atoms_spec (ws := wsX1_roomFor) B.pre
  have hown : s.vm.findClass RX1 = some m.cls := findClass_of_methodNamed B.named
  have hlocks := B.notSynchronized
  have hK := hKK.1
  have hl := lv_entry ([.ref (ad 0), .int p0]) (n := 2) (Nat.le_of_ble_eq_true rfl)
  rw [lg_entry_eq]
  generalize (lg_sl ([.ref (ad 0), .int p0]) ++ List.replicate (2 - (lg_sl ([.ref (ad 0), .int p0])).length) Slot.unset).toArray = ls at hl ⊢
  have hl : lv_has ls 2 [(0, .ref (ad 0)), (1, .int p0)] := hl
  unfold sX1_roomFor at hsem
  refine lv_iload_n hx hb dX1_roomFor_0 rfl (lv_at hl 1 rfl) ?_
  refine lv_iconst (v := 4) hx hb dX1_roomFor_1 (by decide) ?_
  refine lv_icmp_le (tgt := 15) hx hb dX1_roomFor_2 (by decide) (fun c1 => ?_) (fun c1 => ?_)
  · rw [if_pos c1] at hsem
    refine lv_aload_n hx hb dX1_roomFor_15 rfl (lv_at hl 0 rfl) ?_
    refine lv_aload_n hx hb dX1_roomFor_16 rfl (lv_at hl 0 rfl) ?_
    refine va_get (D := g.1) (ci := 1) (v := .int (A 13 0)) (C := RX1) (T := TX1) (N := 18) hx hb hts (fun w h => List.mem_cons_of_mem _ (List.mem_append_right _ h)) hown hK hP 0 rfl rfl 13 (by decide) (hts (.fieldLink RX1 52 "PauseRegions$Heap" "latestYoung" "I") (List.mem_of_getElem? (i := 1) rfl)) (fun _ h9 => h9) rfl dX1_roomFor_17 ?_
    refine lv_iload_n hx hb dX1_roomFor_20 rfl (lv_at hl 1 rfl) ?_
    obtain ⟨x1, hc1, hsem⟩ := bn_some hsem
    refine pcV (C := RX1) (As := [.int (A 13 0), .int p0]) (rest := []) ⟨hx, hb, hml, hown, hts⟩ hKK (cwV 2 hts gX1_roomFor_X1_hasRoom rfl rfl rfl hdX1_hasRoom ⟨Nat.le_of_ble_eq_true rfl, Nat.le_of_ble_eq_true rfl⟩) (kX1_hasRoom (l := l) (g := g) hP hc1) (va_recv hK hP (ci := 1) (q0 := 0) rfl rfl) rfl hl.1 rfl (Nat.le_of_ble_eq_true rfl) dX1_roomFor_21 ⟨Nat.zero_le _, Nat.zero_le _⟩ ?_
    refine lv_if_eq (tgt := 34) hx hb dX1_roomFor_24 (by decide) (fun c2 => ?_) (fun c2 => ?_)
    · rw [if_pos c2] at hsem
      refine lv_aload_n hx hb dX1_roomFor_34 rfl (lv_at hl 0 rfl) ?_
      refine lv_iconst (v := 1) hx hb dX1_roomFor_35 (by decide) ?_
      obtain ⟨x2, hc2, hsem⟩ := bn_some hsem
      refine pcV (C := RX1) (As := [.int 1]) (rest := []) ⟨hx, hb, hml, hown, hts⟩ hKK (cwV 1 hts gX1_roomFor_X1_freeRow rfl rfl rfl hdX1_freeRow ⟨Nat.le_of_ble_eq_true rfl, Nat.le_of_ble_eq_true rfl⟩) (kX1_freeRow (l := l) (g := g) hP hc2) (va_recv hK hP (ci := 1) (q0 := 0) rfl rfl) rfl hl.1 rfl (Nat.le_of_ble_eq_true rfl) dX1_roomFor_36 ⟨Nat.zero_le _, Nat.zero_le _⟩ ?_
      have eo := (Option.some.inj hsem).symm.symm
      exact W.iret (v := x2) hx hb hr (fun t ht hW => ⟨⟨_, (), rfl, eo, ht⟩, (va_S.rf (A := fun _ => False) (H0 := s.heap)).F ht⟩) (fun q hq => absurd hq List.not_mem_nil) dX1_roomFor_39
    · rw [if_neg c2] at hsem
      refine lv_aload_n hx hb dX1_roomFor_27 rfl (lv_at hl 0 rfl) ?_
      refine va_get (D := g.1) (ci := 1) (v := .int (A 13 0)) (C := RX1) (T := TX1) (N := 18) hx hb hts (fun w h => List.mem_cons_of_mem _ (List.mem_append_right _ h)) hown hK hP 0 rfl rfl 13 (by decide) (hts (.fieldLink RX1 52 "PauseRegions$Heap" "latestYoung" "I") (List.mem_of_getElem? (i := 1) rfl)) (fun _ h9 => h9) rfl dX1_roomFor_28 ?_
      refine lv_goto (tgt := 39) hx hb dX1_roomFor_31 (by decide) ?_
      have eo := (Option.some.inj hsem).symm.symm
      exact W.iret (v := (A 13 0)) hx hb hr (fun t ht hW => ⟨⟨_, (), rfl, eo, ht⟩, (va_S.rf (A := fun _ => False) (H0 := s.heap)).F ht⟩) (fun q hq => absurd hq List.not_mem_nil) dX1_roomFor_39
  · rw [if_neg c1] at hsem
    refine lv_aload_n hx hb dX1_roomFor_5 rfl (lv_at hl 0 rfl) ?_
    refine lv_aload_n hx hb dX1_roomFor_6 rfl (lv_at hl 0 rfl) ?_
    refine lv_iload_n hx hb dX1_roomFor_7 rfl (lv_at hl 1 rfl) ?_
    obtain ⟨x3, hc3, hsem⟩ := bn_some hsem
    refine pcV (C := RX1) (As := [.int p0]) (rest := [.ref (ad 0)]) ⟨hx, hb, hml, hown, hts⟩ hKK (cwV 1 hts gX1_roomFor_X1_regionsFor rfl rfl rfl hdX1_regionsFor ⟨Nat.le_of_ble_eq_true rfl, Nat.le_of_ble_eq_true rfl⟩) (kX1_regionsFor (l := l) (g := g) hP hc3) (va_recv hK hP (ci := 1) (q0 := 0) rfl rfl) rfl hl.1 rfl (Nat.le_of_ble_eq_true rfl) dX1_roomFor_8 ⟨Nat.zero_le _, Nat.zero_le _⟩ ?_
    obtain ⟨x4, hc4, hsem⟩ := bn_some hsem
    refine pcV (C := RX1) (As := [.int x3]) (rest := []) ⟨hx, hb, hml, hown, hts⟩ hKK (cwV 1 hts gX1_roomFor_X1_freeRow rfl rfl rfl hdX1_freeRow ⟨Nat.le_of_ble_eq_true rfl, Nat.le_of_ble_eq_true rfl⟩) (kX1_freeRow (l := l) (g := g) hP hc4) (va_recv hK hP (ci := 1) (q0 := 0) rfl rfl) rfl hl.1 rfl (Nat.le_of_ble_eq_true rfl) dX1_roomFor_11 ⟨Nat.zero_le _, Nat.zero_le _⟩ ?_
    have eo := (Option.some.inj hsem).symm.symm
    exact W.iret (v := x4) hx hb hr (fun t ht hW => ⟨⟨_, (), rfl, eo, ht⟩, (va_S.rf (A := fun _ => False) (H0 := s.heap)).F ht⟩) (fun q hq => absurd hq List.not_mem_nil) dX1_roomFor_14
def sX1_thingAt_L2 (A : IA) (p0 : Int32) (p1 : Int32) (q1 : Int32) : Option ((Int32) ⊕ (Int32)) :=
  if 32 ≤ q1 then (some (.inr (-9))) else ((sX1_isIn A q1 p0).bind fun x1 => if x1 = 0 then (some (.inl (q1 + 1))) else (ck q1 32 (if ((A 6) q1.toNatClampNeg) = p1 then (some (.inr q1)) else (some (.inl (q1 + 1))))))
def sX1_thingAt (A : IA) (p0 : Int32) (p1 : Int32) : Option (Int32) :=
  loopN (sX1_thingAt_L2 A p0 p1) 2000 0
abbrev rmX1_thingAt : Room := { frames := 2, cells := 0, slots := 0, locals := 43 }
theorem hdX1_thingAt : yX1_thingAt.cls = RX1 ∧ yX1_thingAt.cls ≠ "java/lang/invoke/MethodHandle" ∧ yX1_thingAt.cls ≠ "java/lang/invoke/VarHandle" ∧ (parseMethodDescriptor yX1_thingAt.desc).map (fun d => d.parameters.length) = some 2 := by decide +kernel
set_option maxHeartbeats 4000000 in
set_option maxRecDepth 100000 in
theorem kX1_thingAt {l : Launch} {g : GG} {H0 : Heap} {ad : Nat → Nat} {A : IA} {F : FA} {p0 p1 : Int32} {b : Int32} (hP : va_P g.1 vwCl (wH g ad A F) H0) (hsem : sX1_thingAt A p0 p1 = some b) : MetP l yX1_thingAt wsX1_thingAt rmX1_thingAt g H0 [.ref (ad 0), .int p0, .int p1] b := by
  refine Met.ofW (cc := cX1_thingAt) (maxL := 4) (ret := (some .int)) (by decide) rfl ?_
  intro p e s m args below meth c s₁ B hml hv
  obtain ⟨rfl, hH, hKK⟩ := hv
  subst hH
  have hx := B.exec
  have hb := B.bytes
  have hr := B.returns
  have hts := atoms_spec (ws := wsX1_thingAt) B.pre
  have hown : s.vm.findClass RX1 = some m.cls := findClass_of_methodNamed B.named
  have hlocks := B.notSynchronized
  have hK := hKK.1
  have hl := lv_entry ([.ref (ad 0), .int p0, .int p1]) (n := 4) (Nat.le_of_ble_eq_true rfl)
  rw [lg_entry_eq]
  generalize (lg_sl ([.ref (ad 0), .int p0, .int p1]) ++ List.replicate (4 - (lg_sl ([.ref (ad 0), .int p0, .int p1])).length) Slot.unset).toArray = ls at hl ⊢
  have hl : lv_has ls 4 [(0, .ref (ad 0)), (1, .int p0), (2, .int p1)] := hl
  unfold sX1_thingAt at hsem
  refine lv_iconst (v := 0) hx hb dX1_thingAt_0 (by decide) ?_
  refine lv_istore_n (lv' := [(3, .int 0), (0, .ref (ad 0)), (1, .int p0), (2, .int p1)]) hx hb dX1_thingAt_1 rfl hl (by decide) rfl (fun ls hl => ?_)
  refine loopPe hsem (fun (q1 : Int32) => [(3, .int q1), (0, .ref (ad 0)), (1, .int p0), (2, .int p1)]) (lv_sub hl [0, 1, 2, 3] rfl) (fun q1 r hst1 hin1 hout1 ls hl => ?_)
  unfold sX1_thingAt_L2 at hst1
  refine lv_iload_n hx hb dX1_thingAt_2 rfl (lv_at hl 0 rfl) ?_
  refine lv_bipush (v := 32) hx hb dX1_thingAt_3 (by decide) ?_
  refine lv_icmp_ge (tgt := 35) hx hb dX1_thingAt_5 (by decide) (fun c1 => ?_) (fun c1 => ?_)
  · rw [if_pos c1] at hst1
    refine lv_bipush (v := (-9)) hx hb dX1_thingAt_35 (by decide) ?_
    have eo := (hout1 _ (Option.some.inj hst1).symm).symm.symm
    exact W.iret (v := (-9)) hx hb hr (fun t ht hW => ⟨⟨_, (), rfl, eo, ht⟩, (va_S.rf (A := fun _ => False) (H0 := s.heap)).F ht⟩) (fun q hq => absurd hq List.not_mem_nil) dX1_thingAt_37
  · rw [if_neg c1] at hst1
    refine lv_aload_n hx hb dX1_thingAt_8 rfl (lv_at hl 1 rfl) ?_
    refine lv_iload_n hx hb dX1_thingAt_9 rfl (lv_at hl 0 rfl) ?_
    refine lv_iload_n hx hb dX1_thingAt_10 rfl (lv_at hl 2 rfl) ?_
    obtain ⟨x1, hc1, hst1⟩ := bn_some hst1
    refine pcV (C := RX1) (As := [.int q1, .int p0]) (rest := []) ⟨hx, hb, hml, hown, hts⟩ hKK (cwV 2 hts gX1_thingAt_X1_isIn rfl rfl rfl hdX1_isIn ⟨Nat.le_of_ble_eq_true rfl, Nat.le_of_ble_eq_true rfl⟩) (kX1_isIn (l := l) (g := g) hP hc1) (va_recv hK hP (ci := 1) (q0 := 0) rfl rfl) rfl hl.1 rfl (Nat.le_of_ble_eq_true rfl) dX1_thingAt_11 ⟨Nat.zero_le _, Nat.zero_le _⟩ ?_
    refine lv_if_eq (tgt := 29) hx hb dX1_thingAt_14 (by decide) (fun c2 => ?_) (fun c2 => ?_)
    · rw [if_pos c2] at hst1
      refine lv_iinc (v := q1 + 1) (lv' := [(3, .int (q1 + 1)), (0, .ref (ad 0)), (1, .int p0), (2, .int p1)]) hx hb dX1_thingAt_29 hl (k := 0) rfl rfl (by decide) rfl (fun ls hl => ?_)
      refine lv_goto (tgt := 2) hx hb dX1_thingAt_32 (by decide) ?_
      exact hin1 ls _ (Option.some.inj hst1).symm (lv_sub hl [0, 1, 2, 3] rfl)
    · rw [if_neg c2] at hst1
      refine lv_aload_n hx hb dX1_thingAt_17 rfl (lv_at hl 1 rfl) ?_
      refine va_get (D := g.1) (ci := 1) (v := .ref (ad 7)) (C := RX1) (T := TX1) (N := 18) hx hb hts (fun w h => List.mem_cons_of_mem _ (List.mem_append_right _ h)) hown hK hP 0 rfl rfl 6 (by decide) (hts (.fieldLink RX1 30 "PauseRegions$Heap" "cell" "[I") (List.mem_of_getElem? (i := 1) rfl)) (fun _ h9 => h9) rfl dX1_thingAt_18 ?_
      refine lv_iload_n hx hb dX1_thingAt_21 rfl (lv_at hl 0 rfl) ?_
      obtain ⟨h1, hst1⟩ := ck_some hst1
      refine va_iald (D := g.1) hx hb hK hP 7 0 rfl rfl h1 dX1_thingAt_22 ?_
      refine lv_iload_n hx hb dX1_thingAt_23 rfl (lv_at hl 3 rfl) ?_
      refine lv_icmp_ne (tgt := 29) hx hb dX1_thingAt_24 (by decide) (fun c3 => ?_) (fun c3 => ?_)
      · rw [if_neg c3] at hst1
        refine lv_iinc (v := q1 + 1) (lv' := [(3, .int (q1 + 1)), (0, .ref (ad 0)), (1, .int p0), (2, .int p1)]) hx hb dX1_thingAt_29 hl (k := 0) rfl rfl (by decide) rfl (fun ls hl => ?_)
        refine lv_goto (tgt := 2) hx hb dX1_thingAt_32 (by decide) ?_
        exact hin1 ls _ (Option.some.inj hst1).symm (lv_sub hl [0, 1, 2, 3] rfl)
      · rw [if_pos c3] at hst1
        refine lv_iload_n hx hb dX1_thingAt_27 rfl (lv_at hl 0 rfl) ?_
        have eo := (hout1 _ (Option.some.inj hst1).symm).symm.symm
        exact W.iret (v := q1) hx hb hr (fun t ht hW => ⟨⟨_, (), rfl, eo, ht⟩, (va_S.rf (A := fun _ => False) (H0 := s.heap)).F ht⟩) (fun q hq => absurd hq List.not_mem_nil) dX1_thingAt_28
def sX1_thingCount_L4 (A : IA) (q1 : Int32 × Int32) : Option ((Int32 × Int32) ⊕ (Int32)) :=
  if 32 ≤ q1.2 then (some (.inr q1.1)) else ((sX1_isThere A q1.2).bind fun x1 => if x1 = 0 then (some (.inl (q1.1, q1.2 + 1))) else (some (.inl (q1.1 + 1, q1.2 + 1))))
def sX1_thingCount (A : IA) : Option (Int32) :=
  (loopN (sX1_thingCount_L4 A) 2000 (0, 0)).bind fun q2 => some q2
abbrev rmX1_thingCount : Room := { frames := 1, cells := 0, slots := 0, locals := 21 }
theorem hdX1_thingCount : yX1_thingCount.cls = RX1 ∧ yX1_thingCount.cls ≠ "java/lang/invoke/MethodHandle" ∧ yX1_thingCount.cls ≠ "java/lang/invoke/VarHandle" ∧ (parseMethodDescriptor yX1_thingCount.desc).map (fun d => d.parameters.length) = some 0 := by decide +kernel
set_option maxHeartbeats 4000000 in
set_option maxRecDepth 100000 in
theorem kX1_thingCount {l : Launch} {g : GG} {H0 : Heap} {ad : Nat → Nat} {A : IA} {F : FA} {b : Int32} (hP : va_P g.1 vwCl (wH g ad A F) H0) (hsem : sX1_thingCount A = some b) : MetP l yX1_thingCount wsX1_thingCount rmX1_thingCount g H0 [.ref (ad 0)] b := by
  refine Met.ofW (cc := cX1_thingCount) (maxL := 3) (ret := (some .int)) (by decide) rfl ?_
  intro p e s m args below meth c s₁ B hml hv
  obtain ⟨rfl, hH, hKK⟩ := hv
  subst hH
  have hx := B.exec
  have hb := B.bytes
  have hr := B.returns
  have hts := atoms_spec (ws := wsX1_thingCount) B.pre
  have hown : s.vm.findClass RX1 = some m.cls := findClass_of_methodNamed B.named
  have hlocks := B.notSynchronized
  have hK := hKK.1
  have hl := lv_entry ([.ref (ad 0)]) (n := 3) (Nat.le_of_ble_eq_true rfl)
  rw [lg_entry_eq]
  generalize (lg_sl ([.ref (ad 0)]) ++ List.replicate (3 - (lg_sl ([.ref (ad 0)])).length) Slot.unset).toArray = ls at hl ⊢
  have hl : lv_has ls 3 [(0, .ref (ad 0))] := hl
  unfold sX1_thingCount at hsem
  refine lv_iconst (v := 0) hx hb dX1_thingCount_0 (by decide) ?_
  refine lv_istore_n (lv' := [(1, .int 0), (0, .ref (ad 0))]) hx hb dX1_thingCount_1 rfl hl (by decide) rfl (fun ls hl => ?_)
  refine lv_iconst (v := 0) hx hb dX1_thingCount_2 (by decide) ?_
  refine lv_istore_n (lv' := [(2, .int 0), (1, .int 0), (0, .ref (ad 0))]) hx hb dX1_thingCount_3 rfl hl (by decide) rfl (fun ls hl => ?_)
  obtain ⟨q2, hc2, hsem⟩ := bn_some hsem
  refine loopP hc2 (fun (q1 : Int32 × Int32) => [(2, .int q1.2), (1, .int q1.1), (0, .ref (ad 0))]) (fun (q1 : Int32) => [(1, .int q1)]) (exit := 27) (lv_sub hl [0, 1, 2] rfl) (fun ls hl => ?_) (fun q1 r hst1 hin1 hout1 ls hl => ?_)
  · skip
    refine lv_iload_n hx hb dX1_thingCount_27 rfl (lv_at hl 0 rfl) ?_
    have eo := (Option.some.inj hsem).symm.symm
    exact W.iret (v := q2) hx hb hr (fun t ht hW => ⟨⟨_, (), rfl, eo, ht⟩, (va_S.rf (A := fun _ => False) (H0 := s.heap)).F ht⟩) (fun q hq => absurd hq List.not_mem_nil) dX1_thingCount_28
  · unfold sX1_thingCount_L4 at hst1
    refine lv_iload_n hx hb dX1_thingCount_4 rfl (lv_at hl 0 rfl) ?_
    refine lv_bipush (v := 32) hx hb dX1_thingCount_5 (by decide) ?_
    refine lv_icmp_ge (tgt := 27) hx hb dX1_thingCount_7 (by decide) (fun c1 => ?_) (fun c1 => ?_)
    · rw [if_pos c1] at hst1
      exact hout1 ls _ (Option.some.inj hst1).symm (lv_sub hl [1] rfl)
    · rw [if_neg c1] at hst1
      refine lv_aload_n hx hb dX1_thingCount_10 rfl (lv_at hl 2 rfl) ?_
      refine lv_iload_n hx hb dX1_thingCount_11 rfl (lv_at hl 0 rfl) ?_
      obtain ⟨x1, hc1, hst1⟩ := bn_some hst1
      refine pcV (C := RX1) (As := [.int q1.2]) (rest := []) ⟨hx, hb, hml, hown, hts⟩ hKK (cwV 1 hts gX1_thingCount_X1_isThere rfl rfl rfl hdX1_isThere ⟨Nat.le_of_ble_eq_true rfl, Nat.le_of_ble_eq_true rfl⟩) (kX1_isThere (l := l) (g := g) hP hc1) (va_recv hK hP (ci := 1) (q0 := 0) rfl rfl) rfl hl.1 rfl (Nat.le_of_ble_eq_true rfl) dX1_thingCount_12 ⟨Nat.zero_le _, Nat.zero_le _⟩ ?_
      refine lv_if_eq (tgt := 21) hx hb dX1_thingCount_15 (by decide) (fun c2 => ?_) (fun c2 => ?_)
      · rw [if_pos c2] at hst1
        refine lv_iinc (v := q1.2 + 1) (lv' := [(2, .int (q1.2 + 1)), (1, .int q1.1), (0, .ref (ad 0))]) hx hb dX1_thingCount_21 hl (k := 0) rfl rfl (by decide) rfl (fun ls hl => ?_)
        refine lv_goto (tgt := 4) hx hb dX1_thingCount_24 (by decide) ?_
        exact hin1 ls _ (Option.some.inj hst1).symm (lv_sub hl [0, 1, 2] rfl)
      · rw [if_neg c2] at hst1
        refine lv_iinc (v := q1.1 + 1) (lv' := [(1, .int (q1.1 + 1)), (2, .int q1.2), (0, .ref (ad 0))]) hx hb dX1_thingCount_18 hl (k := 1) rfl rfl (by decide) rfl (fun ls hl => ?_)
        refine lv_iinc (v := q1.2 + 1) (lv' := [(2, .int (q1.2 + 1)), (1, .int (q1.1 + 1)), (0, .ref (ad 0))]) hx hb dX1_thingCount_21 hl (k := 1) rfl rfl (by decide) rfl (fun ls hl => ?_)
        refine lv_goto (tgt := 4) hx hb dX1_thingCount_24 (by decide) ?_
        exact hin1 ls _ (Option.some.inj hst1).symm (lv_sub hl [0, 1, 2] rfl)
def sX1_thingsIn_L4 (A : IA) (p0 : Int32) (q1 : Int32 × Int32) : Option ((Int32 × Int32) ⊕ (Int32)) :=
  if 32 ≤ q1.2 then (some (.inr q1.1)) else ((sX1_isIn A q1.2 p0).bind fun x1 => if x1 = 0 then (some (.inl (q1.1, q1.2 + 1))) else (some (.inl (q1.1 + 1, q1.2 + 1))))
def sX1_thingsIn (A : IA) (p0 : Int32) : Option (Int32) :=
  (loopN (sX1_thingsIn_L4 A p0) 2000 (0, 0)).bind fun q2 => some q2
abbrev rmX1_thingsIn : Room := { frames := 2, cells := 0, slots := 0, locals := 43 }
theorem hdX1_thingsIn : yX1_thingsIn.cls = RX1 ∧ yX1_thingsIn.cls ≠ "java/lang/invoke/MethodHandle" ∧ yX1_thingsIn.cls ≠ "java/lang/invoke/VarHandle" ∧ (parseMethodDescriptor yX1_thingsIn.desc).map (fun d => d.parameters.length) = some 1 := by decide +kernel
set_option maxHeartbeats 4000000 in
set_option maxRecDepth 100000 in
theorem kX1_thingsIn {l : Launch} {g : GG} {H0 : Heap} {ad : Nat → Nat} {A : IA} {F : FA} {p0 : Int32} {b : Int32} (hP : va_P g.1 vwCl (wH g ad A F) H0) (hsem : sX1_thingsIn A p0 = some b) : MetP l yX1_thingsIn wsX1_thingsIn rmX1_thingsIn g H0 [.ref (ad 0), .int p0] b := by
  refine Met.ofW (cc := cX1_thingsIn) (maxL := 4) (ret := (some .int)) (by decide) rfl ?_
  intro p e s m args below meth c s₁ B hml hv
  obtain ⟨rfl, hH, hKK⟩ := hv
  subst hH
  have hx := B.exec
  have hb := B.bytes
  have hr := B.returns
  have hts := atoms_spec (ws := wsX1_thingsIn) B.pre
  have hown : s.vm.findClass RX1 = some m.cls := findClass_of_methodNamed B.named
  have hlocks := B.notSynchronized
  have hK := hKK.1
  have hl := lv_entry ([.ref (ad 0), .int p0]) (n := 4) (Nat.le_of_ble_eq_true rfl)
  rw [lg_entry_eq]
  generalize (lg_sl ([.ref (ad 0), .int p0]) ++ List.replicate (4 - (lg_sl ([.ref (ad 0), .int p0])).length) Slot.unset).toArray = ls at hl ⊢
  have hl : lv_has ls 4 [(0, .ref (ad 0)), (1, .int p0)] := hl
  unfold sX1_thingsIn at hsem
  refine lv_iconst (v := 0) hx hb dX1_thingsIn_0 (by decide) ?_
  refine lv_istore_n (lv' := [(2, .int 0), (0, .ref (ad 0)), (1, .int p0)]) hx hb dX1_thingsIn_1 rfl hl (by decide) rfl (fun ls hl => ?_)
  refine lv_iconst (v := 0) hx hb dX1_thingsIn_2 (by decide) ?_
  refine lv_istore_n (lv' := [(3, .int 0), (2, .int 0), (0, .ref (ad 0)), (1, .int p0)]) hx hb dX1_thingsIn_3 rfl hl (by decide) rfl (fun ls hl => ?_)
  obtain ⟨q2, hc2, hsem⟩ := bn_some hsem
  refine loopP hc2 (fun (q1 : Int32 × Int32) => [(3, .int q1.2), (2, .int q1.1), (0, .ref (ad 0)), (1, .int p0)]) (fun (q1 : Int32) => [(2, .int q1)]) (exit := 28) (lv_sub hl [0, 1, 2, 3] rfl) (fun ls hl => ?_) (fun q1 r hst1 hin1 hout1 ls hl => ?_)
  · skip
    refine lv_iload_n hx hb dX1_thingsIn_28 rfl (lv_at hl 0 rfl) ?_
    have eo := (Option.some.inj hsem).symm.symm
    exact W.iret (v := q2) hx hb hr (fun t ht hW => ⟨⟨_, (), rfl, eo, ht⟩, (va_S.rf (A := fun _ => False) (H0 := s.heap)).F ht⟩) (fun q hq => absurd hq List.not_mem_nil) dX1_thingsIn_29
  · unfold sX1_thingsIn_L4 at hst1
    refine lv_iload_n hx hb dX1_thingsIn_4 rfl (lv_at hl 0 rfl) ?_
    refine lv_bipush (v := 32) hx hb dX1_thingsIn_5 (by decide) ?_
    refine lv_icmp_ge (tgt := 28) hx hb dX1_thingsIn_7 (by decide) (fun c1 => ?_) (fun c1 => ?_)
    · rw [if_pos c1] at hst1
      exact hout1 ls _ (Option.some.inj hst1).symm (lv_sub hl [1] rfl)
    · rw [if_neg c1] at hst1
      refine lv_aload_n hx hb dX1_thingsIn_10 rfl (lv_at hl 2 rfl) ?_
      refine lv_iload_n hx hb dX1_thingsIn_11 rfl (lv_at hl 0 rfl) ?_
      refine lv_iload_n hx hb dX1_thingsIn_12 rfl (lv_at hl 3 rfl) ?_
      obtain ⟨x1, hc1, hst1⟩ := bn_some hst1
      refine pcV (C := RX1) (As := [.int q1.2, .int p0]) (rest := []) ⟨hx, hb, hml, hown, hts⟩ hKK (cwV 2 hts gX1_thingsIn_X1_isIn rfl rfl rfl hdX1_isIn ⟨Nat.le_of_ble_eq_true rfl, Nat.le_of_ble_eq_true rfl⟩) (kX1_isIn (l := l) (g := g) hP hc1) (va_recv hK hP (ci := 1) (q0 := 0) rfl rfl) rfl hl.1 rfl (Nat.le_of_ble_eq_true rfl) dX1_thingsIn_13 ⟨Nat.zero_le _, Nat.zero_le _⟩ ?_
      refine lv_if_eq (tgt := 22) hx hb dX1_thingsIn_16 (by decide) (fun c2 => ?_) (fun c2 => ?_)
      · rw [if_pos c2] at hst1
        refine lv_iinc (v := q1.2 + 1) (lv' := [(3, .int (q1.2 + 1)), (2, .int q1.1), (0, .ref (ad 0)), (1, .int p0)]) hx hb dX1_thingsIn_22 hl (k := 0) rfl rfl (by decide) rfl (fun ls hl => ?_)
        refine lv_goto (tgt := 4) hx hb dX1_thingsIn_25 (by decide) ?_
        exact hin1 ls _ (Option.some.inj hst1).symm (lv_sub hl [0, 1, 2, 3] rfl)
      · rw [if_neg c2] at hst1
        refine lv_iinc (v := q1.1 + 1) (lv' := [(2, .int (q1.1 + 1)), (3, .int q1.2), (0, .ref (ad 0)), (1, .int p0)]) hx hb dX1_thingsIn_19 hl (k := 1) rfl rfl (by decide) rfl (fun ls hl => ?_)
        refine lv_iinc (v := q1.2 + 1) (lv' := [(3, .int (q1.2 + 1)), (2, .int (q1.1 + 1)), (0, .ref (ad 0)), (1, .int p0)]) hx hb dX1_thingsIn_22 hl (k := 1) rfl rfl (by decide) rfl (fun ls hl => ?_)
        refine lv_goto (tgt := 4) hx hb dX1_thingsIn_25 (by decide) ?_
        exact hin1 ls _ (Option.some.inj hst1).symm (lv_sub hl [0, 1, 2, 3] rfl)
def sX1_unusedNumber_L2 (A : IA) (q1 : Int32) : Option ((Int32) ⊕ (Int32)) :=
  if 32 ≤ q1 then (some (.inr (-9))) else ((sX1_isThere A q1).bind fun x1 => if x1 = 0 then (some (.inr q1)) else (some (.inl (q1 + 1))))
def sX1_unusedNumber (A : IA) : Option (Int32) :=
  loopN (sX1_unusedNumber_L2 A) 2000 0
abbrev rmX1_unusedNumber : Room := { frames := 1, cells := 0, slots := 0, locals := 21 }
theorem hdX1_unusedNumber : yX1_unusedNumber.cls = RX1 ∧ yX1_unusedNumber.cls ≠ "java/lang/invoke/MethodHandle" ∧ yX1_unusedNumber.cls ≠ "java/lang/invoke/VarHandle" ∧ (parseMethodDescriptor yX1_unusedNumber.desc).map (fun d => d.parameters.length) = some 0 := by decide +kernel
set_option maxHeartbeats 4000000 in
set_option maxRecDepth 100000 in
theorem kX1_unusedNumber {l : Launch} {g : GG} {H0 : Heap} {ad : Nat → Nat} {A : IA} {F : FA} {b : Int32} (hP : va_P g.1 vwCl (wH g ad A F) H0) (hsem : sX1_unusedNumber A = some b) : MetP l yX1_unusedNumber wsX1_unusedNumber rmX1_unusedNumber g H0 [.ref (ad 0)] b := by
  refine Met.ofW (cc := cX1_unusedNumber) (maxL := 2) (ret := (some .int)) (by decide) rfl ?_
  intro p e s m args below meth c s₁ B hml hv
  obtain ⟨rfl, hH, hKK⟩ := hv
  subst hH
  have hx := B.exec
  have hb := B.bytes
  have hr := B.returns
  have hts := atoms_spec (ws := wsX1_unusedNumber) B.pre
  have hown : s.vm.findClass RX1 = some m.cls := findClass_of_methodNamed B.named
  have hlocks := B.notSynchronized
  have hK := hKK.1
  have hl := lv_entry ([.ref (ad 0)]) (n := 2) (Nat.le_of_ble_eq_true rfl)
  rw [lg_entry_eq]
  generalize (lg_sl ([.ref (ad 0)]) ++ List.replicate (2 - (lg_sl ([.ref (ad 0)])).length) Slot.unset).toArray = ls at hl ⊢
  have hl : lv_has ls 2 [(0, .ref (ad 0))] := hl
  unfold sX1_unusedNumber at hsem
  refine lv_iconst (v := 0) hx hb dX1_unusedNumber_0 (by decide) ?_
  refine lv_istore_n (lv' := [(1, .int 0), (0, .ref (ad 0))]) hx hb dX1_unusedNumber_1 rfl hl (by decide) rfl (fun ls hl => ?_)
  refine loopPe hsem (fun (q1 : Int32) => [(1, .int q1), (0, .ref (ad 0))]) (lv_sub hl [0, 1] rfl) (fun q1 r hst1 hin1 hout1 ls hl => ?_)
  unfold sX1_unusedNumber_L2 at hst1
  refine lv_iload_n hx hb dX1_unusedNumber_2 rfl (lv_at hl 0 rfl) ?_
  refine lv_bipush (v := 32) hx hb dX1_unusedNumber_3 (by decide) ?_
  refine lv_icmp_ge (tgt := 24) hx hb dX1_unusedNumber_5 (by decide) (fun c1 => ?_) (fun c1 => ?_)
  · rw [if_pos c1] at hst1
    refine lv_bipush (v := (-9)) hx hb dX1_unusedNumber_24 (by decide) ?_
    have eo := (hout1 _ (Option.some.inj hst1).symm).symm.symm
    exact W.iret (v := (-9)) hx hb hr (fun t ht hW => ⟨⟨_, (), rfl, eo, ht⟩, (va_S.rf (A := fun _ => False) (H0 := s.heap)).F ht⟩) (fun q hq => absurd hq List.not_mem_nil) dX1_unusedNumber_26
  · rw [if_neg c1] at hst1
    refine lv_aload_n hx hb dX1_unusedNumber_8 rfl (lv_at hl 1 rfl) ?_
    refine lv_iload_n hx hb dX1_unusedNumber_9 rfl (lv_at hl 0 rfl) ?_
    obtain ⟨x1, hc1, hst1⟩ := bn_some hst1
    refine pcV (C := RX1) (As := [.int q1]) (rest := []) ⟨hx, hb, hml, hown, hts⟩ hKK (cwV 1 hts gX1_unusedNumber_X1_isThere rfl rfl rfl hdX1_isThere ⟨Nat.le_of_ble_eq_true rfl, Nat.le_of_ble_eq_true rfl⟩) (kX1_isThere (l := l) (g := g) hP hc1) (va_recv hK hP (ci := 1) (q0 := 0) rfl rfl) rfl hl.1 rfl (Nat.le_of_ble_eq_true rfl) dX1_unusedNumber_10 ⟨Nat.zero_le _, Nat.zero_le _⟩ ?_
    refine lv_if_ne (tgt := 18) hx hb dX1_unusedNumber_13 (by decide) (fun c2 => ?_) (fun c2 => ?_)
    · rw [if_neg c2] at hst1
      refine lv_iinc (v := q1 + 1) (lv' := [(1, .int (q1 + 1)), (0, .ref (ad 0))]) hx hb dX1_unusedNumber_18 hl (k := 0) rfl rfl (by decide) rfl (fun ls hl => ?_)
      refine lv_goto (tgt := 2) hx hb dX1_unusedNumber_21 (by decide) ?_
      exact hin1 ls _ (Option.some.inj hst1).symm (lv_sub hl [0, 1] rfl)
    · rw [if_pos c2] at hst1
      refine lv_iload_n hx hb dX1_unusedNumber_16 rfl (lv_at hl 0 rfl) ?_
      have eo := (hout1 _ (Option.some.inj hst1).symm).symm.symm
      exact W.iret (v := q1) hx hb hr (fun t ht hW => ⟨⟨_, (), rfl, eo, ht⟩, (va_S.rf (A := fun _ => False) (H0 := s.heap)).F ht⟩) (fun q hq => absurd hq List.not_mem_nil) dX1_unusedNumber_17
def sX1_writeField (A : IA) (p0 : Int32) (p1 : Int32) (p2 : Int32) : Option (Int32 × IA) :=
  (sX1_fieldOf A p0 p1).bind fun x1 => if (A 12 0) = 0 then (ck ((2 * p0) + p1) 64 (bd (wr A 7 (((2 * p0) + p1).toNatClampNeg) p2) fun A1 => if p2 = (-5) then (some (0, A1)) else (ck p2 32 (ck p0 32 (if ((A1 5) p2.toNatClampNeg) = ((A1 5) p0.toNatClampNeg) then (some (0, A1)) else (ck p0 32 (ck ((A1 5) p0.toNatClampNeg) 10 (if ((A1 0) ((A1 5) p0.toNatClampNeg).toNatClampNeg) = 1 then (some (0, A1)) else ((sX1_cardOfThing A1 p0).bind fun x2 => (sX5_append (A1 10) (A1 18 0) x2).bind fun z1 => bd (sc (setR A1 10 z1.2.1) 18 z1.2.2) fun A2 => ckb z1.1 (some (z1.1, A2))))))))))) else ((sX1_becomeGrey A x1).bind fun z2 => ck ((2 * p0) + p1) 64 (bd (wr z2 7 (((2 * p0) + p1).toNatClampNeg) p2) fun A3 => if p2 = (-5) then (some (0, A3)) else (ck p2 32 (ck p0 32 (if ((A3 5) p2.toNatClampNeg) = ((A3 5) p0.toNatClampNeg) then (some (0, A3)) else (ck p0 32 (ck ((A3 5) p0.toNatClampNeg) 10 (if ((A3 0) ((A3 5) p0.toNatClampNeg).toNatClampNeg) = 1 then (some (0, A3)) else ((sX1_cardOfThing A3 p0).bind fun x3 => (sX5_append (A3 10) (A3 18 0) x3).bind fun z3 => bd (sc (setR A3 10 z3.2.1) 18 z3.2.2) fun A4 => ckb z3.1 (some (z3.1, A4)))))))))))
abbrev rmX1_writeField : Room := { frames := 2, cells := 0, slots := 0, locals := 43 }
theorem hdX1_writeField : yX1_writeField.cls = RX1 ∧ yX1_writeField.cls ≠ "java/lang/invoke/MethodHandle" ∧ yX1_writeField.cls ≠ "java/lang/invoke/VarHandle" ∧ (parseMethodDescriptor yX1_writeField.desc).map (fun d => d.parameters.length) = some 3 := by decide +kernel
set_option maxHeartbeats 4000000 in
set_option maxRecDepth 100000 in
theorem kX1_writeField {l : Launch} {g : GG} {sz : Nat} {ad : Nat → Nat} {A : IA} {F : FA} {p0 p1 p2 : Int32} {b : Int32 × IA} (hsem : sX1_writeField A p0 p1 p2 = some b) : MetI l yX1_writeField wsX1_writeField rmX1_writeField g [.ref (ad 0), .int p0, .int p1, .int p2] (wH g ad A F) sz b.1 (wH g ad b.2 F) := by
  refine Met.ofW (cc := cX1_writeField) (maxL := 5) (ret := (some .boolean)) (by decide) rfl ?_
  intro p e s m args below meth c s₁ B hml hv
  obtain ⟨rfl, hsz, hP, hD0, hKK⟩ := hv
  subst hsz
  have hx := B.exec
  have hb := B.bytes
  have hr := B.returns
  have hts := atoms_spec (ws := wsX1_writeField) B.pre
  have hown : s.vm.findClass RX1 = some m.cls := findClass_of_methodNamed B.named
  have hlocks := B.notSynchronized
  have hK := hKK.1
  have hD := hD0.self (sz := s.heap.size)
  generalize hZe : va_A (wH g ad A F) s.heap.size = Z at hD ⊢
  have hZ : ∀ q : Nat, s.heap.size ≤ q → Z q := fun q h => by rw [← hZe]; exact Or.inr h
  have hS : va_S Z s.heap s.heap [] := va_S.rf
  have hP : va_P g.1 vwCl (wH g ad A F) s.heap := hP
  have hD : va_D Z (wH g ad A F) := hD
  have hl := lv_entry ([.ref (ad 0), .int p0, .int p1, .int p2]) (n := 5) (Nat.le_of_ble_eq_true rfl)
  rw [lg_entry_eq]
  generalize (lg_sl ([.ref (ad 0), .int p0, .int p1, .int p2]) ++ List.replicate (5 - (lg_sl ([.ref (ad 0), .int p0, .int p1, .int p2])).length) Slot.unset).toArray = ls at hl ⊢
  have hl : lv_has ls 5 [(0, .ref (ad 0)), (1, .int p0), (2, .int p1), (3, .int p2)] := hl
  unfold sX1_writeField at hsem
  refine lv_aload_n hx hb dX1_writeField_0 rfl (lv_at hl 0 rfl) ?_
  refine lv_iload_n hx hb dX1_writeField_1 rfl (lv_at hl 1 rfl) ?_
  refine lv_iload_n hx hb dX1_writeField_2 rfl (lv_at hl 2 rfl) ?_
  obtain ⟨x1, hc1, hsem⟩ := bn_some hsem
  refine pcV (C := RX1) (As := [.int p0, .int p1]) (rest := []) ⟨hx, hb, hml, hown, hts⟩ hKK (cwV 2 hts gX1_writeField_X1_fieldOf rfl rfl rfl hdX1_fieldOf ⟨Nat.le_of_ble_eq_true rfl, Nat.le_of_ble_eq_true rfl⟩) (kX1_fieldOf (l := l) (g := g) hP hc1) (va_recv hK hP (ci := 1) (q0 := 0) rfl rfl) rfl hl.1 rfl (Nat.le_of_ble_eq_true rfl) dX1_writeField_3 ⟨Nat.zero_le _, Nat.zero_le _⟩ ?_
  refine lv_istore (lv' := [(4, .int x1), (0, .ref (ad 0)), (1, .int p0), (2, .int p1), (3, .int p2)]) hx hb dX1_writeField_6 hl (by decide) rfl (fun ls hl => ?_)
  refine lv_aload_n hx hb dX1_writeField_8 rfl (lv_at hl 1 rfl) ?_
  refine va_get (D := g.1) (ci := 1) (v := .int (A 12 0)) (C := RX1) (T := TX1) (N := 18) hx hb hts (fun w h => List.mem_cons_of_mem _ (List.mem_append_left _ (List.mem_append_right _ h))) hown hK hP 0 rfl rfl 12 (by decide) (hts (.fieldLink RX1 83 "PauseRegions$Heap" "marking" "Z") (List.mem_of_getElem? (i := 1) rfl)) (fun _ h9 => h9) rfl dX1_writeField_9 ?_
  refine lv_if_eq (tgt := 21) hx hb dX1_writeField_12 (by decide) (fun c1 => ?_) (fun c1 => ?_)
  · rw [if_pos c1] at hsem
    refine lv_aload_n hx hb dX1_writeField_21 rfl (lv_at hl 1 rfl) ?_
    refine va_get (D := g.1) (ci := 1) (v := .ref (ad 8)) (C := RX1) (T := TX1) (N := 18) hx hb hts (fun w h => List.mem_cons_of_mem _ (List.mem_append_left _ (List.mem_append_right _ h))) hown hK hP 0 rfl rfl 7 (by decide) (hts (.fieldLink RX1 33 "PauseRegions$Heap" "fields" "[I") (List.mem_of_getElem? (i := 2) rfl)) (fun _ h9 => h9) rfl dX1_writeField_22 ?_
    refine lv_iconst (v := 2) hx hb dX1_writeField_25 (by decide) ?_
    refine lv_iload_n hx hb dX1_writeField_26 rfl (lv_at hl 2 rfl) ?_
    refine lv_imul hx hb dX1_writeField_27 ?_
    refine lv_iload_n hx hb dX1_writeField_28 rfl (lv_at hl 3 rfl) ?_
    refine lv_iadd hx hb dX1_writeField_29 ?_
    refine lv_iload_n hx hb dX1_writeField_30 rfl (lv_at hl 4 rfl) ?_
    obtain ⟨h1, hsem⟩ := ck_some hsem
    refine va_iast (D := g.1) hx hb hK hP hD hS 8 0 rfl rfl h1 dX1_writeField_31 (fun H locs hP hD hS => ?_)
    obtain ⟨A1, eA1, hsem⟩ := bd_some hsem
    have hP : va_P g.1 vwCl (wH g ad A1 F) H := by rw [eA1]; exact hP
    have hD : va_D Z (wH g ad A1 F) := by rw [eA1]; exact hD
    refine lv_iload_n hx hb dX1_writeField_32 rfl (lv_at hl 4 rfl) ?_
    refine lv_bipush (v := (-5)) hx hb dX1_writeField_33 (by decide) ?_
    refine lv_icmp_eq (tgt := 68) hx hb dX1_writeField_35 (by decide) (fun c2 => ?_) (fun c2 => ?_)
    · rw [if_pos c2] at hsem
      refine lv_iconst (v := 0) hx hb dX1_writeField_68 (by decide) ?_
      have eo := (Option.some.inj hsem).symm.symm
      subst eo
      exact W.zret (v := 0) hx hb hr rfl (fun t ht hW => ⟨⟨_, (), rfl, rfl, ⟨by rw [ht]; exact hP, hD⟩⟩, hS.F ht⟩) hS.2.2 dX1_writeField_69
    · rw [if_neg c2] at hsem
      refine lv_aload_n hx hb dX1_writeField_38 rfl (lv_at hl 1 rfl) ?_
      refine va_get (D := g.1) (ci := 1) (v := .ref (ad 6)) (C := RX1) (T := TX1) (N := 18) hx hb hts (fun w h => List.mem_cons_of_mem _ (List.mem_append_left _ (List.mem_append_right _ h))) hown hK hP 0 rfl rfl 5 (by decide) (hts (.fieldLink RX1 27 "PauseRegions$Heap" "place" "[I") (List.mem_of_getElem? (i := 3) rfl)) (fun _ h9 => h9) rfl dX1_writeField_39 ?_
      refine lv_iload_n hx hb dX1_writeField_42 rfl (lv_at hl 4 rfl) ?_
      obtain ⟨h2, hsem⟩ := ck_some hsem
      refine va_iald (D := g.1) hx hb hK hP 6 0 rfl rfl h2 dX1_writeField_43 ?_
      refine lv_aload_n hx hb dX1_writeField_44 rfl (lv_at hl 1 rfl) ?_
      refine va_get (D := g.1) (ci := 1) (v := .ref (ad 6)) (C := RX1) (T := TX1) (N := 18) hx hb hts (fun w h => List.mem_cons_of_mem _ (List.mem_append_left _ (List.mem_append_right _ h))) hown hK hP 0 rfl rfl 5 (by decide) (hts (.fieldLink RX1 27 "PauseRegions$Heap" "place" "[I") (List.mem_of_getElem? (i := 3) rfl)) (fun _ h9 => h9) rfl dX1_writeField_45 ?_
      refine lv_iload_n hx hb dX1_writeField_48 rfl (lv_at hl 2 rfl) ?_
      obtain ⟨h3, hsem⟩ := ck_some hsem
      refine va_iald (D := g.1) hx hb hK hP 6 0 rfl rfl h3 dX1_writeField_49 ?_
      refine lv_icmp_eq (tgt := 68) hx hb dX1_writeField_50 (by decide) (fun c3 => ?_) (fun c3 => ?_)
      · rw [if_pos c3] at hsem
        refine lv_iconst (v := 0) hx hb dX1_writeField_68 (by decide) ?_
        have eo := (Option.some.inj hsem).symm.symm
        subst eo
        exact W.zret (v := 0) hx hb hr rfl (fun t ht hW => ⟨⟨_, (), rfl, rfl, ⟨by rw [ht]; exact hP, hD⟩⟩, hS.F ht⟩) hS.2.2 dX1_writeField_69
      · rw [if_neg c3] at hsem
        refine lv_aload_n hx hb dX1_writeField_53 rfl (lv_at hl 1 rfl) ?_
        refine va_get (D := g.1) (ci := 1) (v := .ref (ad 1)) (C := RX1) (T := TX1) (N := 18) hx hb hts (fun w h => List.mem_cons_of_mem _ (List.mem_append_left _ (List.mem_append_right _ h))) hown hK hP 0 rfl rfl 0 (by decide) (hts (.fieldLink RX1 9 "PauseRegions$Heap" "kind" "[I") (List.mem_of_getElem? (i := 4) rfl)) (fun _ h9 => h9) rfl dX1_writeField_54 ?_
        refine lv_aload_n hx hb dX1_writeField_57 rfl (lv_at hl 1 rfl) ?_
        refine va_get (D := g.1) (ci := 1) (v := .ref (ad 6)) (C := RX1) (T := TX1) (N := 18) hx hb hts (fun w h => List.mem_cons_of_mem _ (List.mem_append_left _ (List.mem_append_right _ h))) hown hK hP 0 rfl rfl 5 (by decide) (hts (.fieldLink RX1 27 "PauseRegions$Heap" "place" "[I") (List.mem_of_getElem? (i := 3) rfl)) (fun _ h9 => h9) rfl dX1_writeField_58 ?_
        refine lv_iload_n hx hb dX1_writeField_61 rfl (lv_at hl 2 rfl) ?_
        obtain ⟨h4, hsem⟩ := ck_some hsem
        refine va_iald (D := g.1) hx hb hK hP 6 0 rfl rfl h4 dX1_writeField_62 ?_
        obtain ⟨h5, hsem⟩ := ck_some hsem
        refine va_iald (D := g.1) hx hb hK hP 1 0 rfl rfl h5 dX1_writeField_63 ?_
        refine lv_iconst (v := 1) hx hb dX1_writeField_64 (by decide) ?_
        refine lv_icmp_ne (tgt := 70) hx hb dX1_writeField_65 (by decide) (fun c4 => ?_) (fun c4 => ?_)
        · rw [if_neg c4] at hsem
          refine lv_aload_n hx hb dX1_writeField_70 rfl (lv_at hl 1 rfl) ?_
          refine va_get (D := g.1) (ci := 1) (v := .ref (ad 11)) (C := RX1) (T := TX1) (N := 18) hx hb hts (fun w h => List.mem_cons_of_mem _ (List.mem_append_left _ (List.mem_append_right _ h))) hown hK hP 0 rfl rfl 10 (by decide) (hts (.fieldLink RX1 45 "PauseRegions$Heap" "dirtyCards" "LPauseRegions$Row;") (List.mem_of_getElem? (i := 5) rfl)) (fun _ h9 => h9) rfl dX1_writeField_71 ?_
          refine lv_aload_n hx hb dX1_writeField_74 rfl (lv_at hl 1 rfl) ?_
          refine lv_iload_n hx hb dX1_writeField_75 rfl (lv_at hl 2 rfl) ?_
          obtain ⟨x2, hc2, hsem⟩ := bn_some hsem
          refine pcV (C := RX1) (As := [.int p0]) (rest := [.ref (ad 11)]) ⟨hx, hb, hml, hown, hts⟩ hKK (cwV 1 hts gX1_writeField_X1_cardOfThing rfl rfl rfl hdX1_cardOfThing ⟨Nat.le_of_ble_eq_true rfl, Nat.le_of_ble_eq_true rfl⟩) (kX1_cardOfThing (l := l) (g := g) hP hc2) (va_recv hK hP (ci := 1) (q0 := 0) rfl rfl) rfl hl.1 rfl (Nat.le_of_ble_eq_true rfl) dX1_writeField_76 ⟨Nat.zero_le _, Nat.zero_le _⟩ ?_
          obtain ⟨z1, hc3, hsem⟩ := bn_some hsem
          refine mcIs (C := RX5) (As := [.int x2]) (rest := []) (wr := (wH_11_12 g ad A1 F)) ⟨hx, hb, hml, hown, hts⟩ hKK hP hD hS hZ [11, 12] [0, 1, 2, 3, 4, 5, 6, 7, 8, 9, 10, 13, 14] rfl rfl (by decide) (by decide) (by decide) (cwV 1 hts gX1_writeField_X5_append rfl rfl rfl hdX5_append ⟨Nat.le_of_ble_eq_true rfl, Nat.le_of_ble_eq_true rfl⟩) (kX5_append (l := l) (g := g) (a0 := (ad 11)) (a1 := (ad 12)) (f := (A1 10)) (n := (A1 18 0)) hc3) (va_recv hK hP (ci := 5) (q0 := 11) rfl rfl) rfl hl.1 rfl (Nat.le_of_ble_eq_true rfl) dX1_writeField_79 ⟨Nat.zero_le _, Nat.zero_le _⟩ (fun H locs hP hD hS => ?_)
          obtain ⟨A2, eA2, hsem⟩ := bd_some hsem
          have hP : va_P g.1 vwCl (wH g ad A2 F) H := by rw [eA2]; exact hP.sub [0, 1, 2, 3, 4, 5, 6, 7, 8, 9, 10, 13, 14, 11, 12] rfl
          have hD : va_D Z (wH g ad A2 F) := by rw [eA2]; exact hD.sub [0, 1, 2, 3, 4, 5, 6, 7, 8, 9, 10, 13, 14, 11, 12] (by decide) rfl
          obtain ⟨h6, hsem⟩ := ckb_some hsem
          have eo := (Option.some.inj hsem).symm.symm
          subst eo
          exact W.zret (v := z1.1) hx hb hr (nar_bool h6) (fun t ht hW => ⟨⟨_, (), rfl, rfl, ⟨by rw [ht]; exact hP, hD⟩⟩, hS.F ht⟩) hS.2.2 dX1_writeField_82
        · rw [if_pos c4] at hsem
          refine lv_iconst (v := 0) hx hb dX1_writeField_68 (by decide) ?_
          have eo := (Option.some.inj hsem).symm.symm
          subst eo
          exact W.zret (v := 0) hx hb hr rfl (fun t ht hW => ⟨⟨_, (), rfl, rfl, ⟨by rw [ht]; exact hP, hD⟩⟩, hS.F ht⟩) hS.2.2 dX1_writeField_69
  · rw [if_neg c1] at hsem
    refine lv_aload_n hx hb dX1_writeField_15 rfl (lv_at hl 1 rfl) ?_
    refine lv_iload hx hb dX1_writeField_16 (lv_at hl 0 rfl) ?_
    obtain ⟨z2, hc4, hsem⟩ := bn_some hsem
    refine mcV (C := RX1) (As := [.int x1]) (rest := []) ⟨hx, hb, hml, hown, hts⟩ hKK hP hD hS hZ (cwV 1 hts gX1_writeField_X1_becomeGrey rfl rfl rfl hdX1_becomeGrey ⟨Nat.le_of_ble_eq_true rfl, Nat.le_of_ble_eq_true rfl⟩) (kX1_becomeGrey (l := l) (g := g) (ad := ad) (A := A) (F := F) hc4) (va_recv hK hP (ci := 1) (q0 := 0) rfl rfl) rfl hl.1 rfl (Nat.le_of_ble_eq_true rfl) dX1_writeField_18 ⟨Nat.zero_le _, Nat.zero_le _⟩ (fun H locs hP hD hS => ?_)
    have hP : va_P g.1 vwCl (wH g ad z2 F) H := hP
    have hD : va_D Z (wH g ad z2 F) := hD
    refine lv_aload_n hx hb dX1_writeField_21 rfl (lv_at hl 1 rfl) ?_
    refine va_get (D := g.1) (ci := 1) (v := .ref (ad 8)) (C := RX1) (T := TX1) (N := 18) hx hb hts (fun w h => List.mem_cons_of_mem _ (List.mem_append_left _ (List.mem_append_right _ h))) hown hK hP 0 rfl rfl 7 (by decide) (hts (.fieldLink RX1 33 "PauseRegions$Heap" "fields" "[I") (List.mem_of_getElem? (i := 2) rfl)) (fun _ h9 => h9) rfl dX1_writeField_22 ?_
    refine lv_iconst (v := 2) hx hb dX1_writeField_25 (by decide) ?_
    refine lv_iload_n hx hb dX1_writeField_26 rfl (lv_at hl 2 rfl) ?_
    refine lv_imul hx hb dX1_writeField_27 ?_
    refine lv_iload_n hx hb dX1_writeField_28 rfl (lv_at hl 3 rfl) ?_
    refine lv_iadd hx hb dX1_writeField_29 ?_
    refine lv_iload_n hx hb dX1_writeField_30 rfl (lv_at hl 4 rfl) ?_
    obtain ⟨h7, hsem⟩ := ck_some hsem
    refine va_iast (D := g.1) hx hb hK hP hD hS 8 0 rfl rfl h7 dX1_writeField_31 (fun H locs hP hD hS => ?_)
    obtain ⟨A3, eA3, hsem⟩ := bd_some hsem
    have hP : va_P g.1 vwCl (wH g ad A3 F) H := by rw [eA3]; exact hP
    have hD : va_D Z (wH g ad A3 F) := by rw [eA3]; exact hD
    refine lv_iload_n hx hb dX1_writeField_32 rfl (lv_at hl 4 rfl) ?_
    refine lv_bipush (v := (-5)) hx hb dX1_writeField_33 (by decide) ?_
    refine lv_icmp_eq (tgt := 68) hx hb dX1_writeField_35 (by decide) (fun c5 => ?_) (fun c5 => ?_)
    · rw [if_pos c5] at hsem
      refine lv_iconst (v := 0) hx hb dX1_writeField_68 (by decide) ?_
      have eo := (Option.some.inj hsem).symm.symm
      subst eo
      exact W.zret (v := 0) hx hb hr rfl (fun t ht hW => ⟨⟨_, (), rfl, rfl, ⟨by rw [ht]; exact hP, hD⟩⟩, hS.F ht⟩) hS.2.2 dX1_writeField_69
    · rw [if_neg c5] at hsem
      refine lv_aload_n hx hb dX1_writeField_38 rfl (lv_at hl 1 rfl) ?_
      refine va_get (D := g.1) (ci := 1) (v := .ref (ad 6)) (C := RX1) (T := TX1) (N := 18) hx hb hts (fun w h => List.mem_cons_of_mem _ (List.mem_append_left _ (List.mem_append_right _ h))) hown hK hP 0 rfl rfl 5 (by decide) (hts (.fieldLink RX1 27 "PauseRegions$Heap" "place" "[I") (List.mem_of_getElem? (i := 3) rfl)) (fun _ h9 => h9) rfl dX1_writeField_39 ?_
      refine lv_iload_n hx hb dX1_writeField_42 rfl (lv_at hl 4 rfl) ?_
      obtain ⟨h8, hsem⟩ := ck_some hsem
      refine va_iald (D := g.1) hx hb hK hP 6 0 rfl rfl h8 dX1_writeField_43 ?_
      refine lv_aload_n hx hb dX1_writeField_44 rfl (lv_at hl 1 rfl) ?_
      refine va_get (D := g.1) (ci := 1) (v := .ref (ad 6)) (C := RX1) (T := TX1) (N := 18) hx hb hts (fun w h => List.mem_cons_of_mem _ (List.mem_append_left _ (List.mem_append_right _ h))) hown hK hP 0 rfl rfl 5 (by decide) (hts (.fieldLink RX1 27 "PauseRegions$Heap" "place" "[I") (List.mem_of_getElem? (i := 3) rfl)) (fun _ h9 => h9) rfl dX1_writeField_45 ?_
      refine lv_iload_n hx hb dX1_writeField_48 rfl (lv_at hl 2 rfl) ?_
      obtain ⟨h9, hsem⟩ := ck_some hsem
      refine va_iald (D := g.1) hx hb hK hP 6 0 rfl rfl h9 dX1_writeField_49 ?_
      refine lv_icmp_eq (tgt := 68) hx hb dX1_writeField_50 (by decide) (fun c6 => ?_) (fun c6 => ?_)
      · rw [if_pos c6] at hsem
        refine lv_iconst (v := 0) hx hb dX1_writeField_68 (by decide) ?_
        have eo := (Option.some.inj hsem).symm.symm
        subst eo
        exact W.zret (v := 0) hx hb hr rfl (fun t ht hW => ⟨⟨_, (), rfl, rfl, ⟨by rw [ht]; exact hP, hD⟩⟩, hS.F ht⟩) hS.2.2 dX1_writeField_69
      · rw [if_neg c6] at hsem
        refine lv_aload_n hx hb dX1_writeField_53 rfl (lv_at hl 1 rfl) ?_
        refine va_get (D := g.1) (ci := 1) (v := .ref (ad 1)) (C := RX1) (T := TX1) (N := 18) hx hb hts (fun w h => List.mem_cons_of_mem _ (List.mem_append_left _ (List.mem_append_right _ h))) hown hK hP 0 rfl rfl 0 (by decide) (hts (.fieldLink RX1 9 "PauseRegions$Heap" "kind" "[I") (List.mem_of_getElem? (i := 4) rfl)) (fun _ h9 => h9) rfl dX1_writeField_54 ?_
        refine lv_aload_n hx hb dX1_writeField_57 rfl (lv_at hl 1 rfl) ?_
        refine va_get (D := g.1) (ci := 1) (v := .ref (ad 6)) (C := RX1) (T := TX1) (N := 18) hx hb hts (fun w h => List.mem_cons_of_mem _ (List.mem_append_left _ (List.mem_append_right _ h))) hown hK hP 0 rfl rfl 5 (by decide) (hts (.fieldLink RX1 27 "PauseRegions$Heap" "place" "[I") (List.mem_of_getElem? (i := 3) rfl)) (fun _ h9 => h9) rfl dX1_writeField_58 ?_
        refine lv_iload_n hx hb dX1_writeField_61 rfl (lv_at hl 2 rfl) ?_
        obtain ⟨h10, hsem⟩ := ck_some hsem
        refine va_iald (D := g.1) hx hb hK hP 6 0 rfl rfl h10 dX1_writeField_62 ?_
        obtain ⟨h11, hsem⟩ := ck_some hsem
        refine va_iald (D := g.1) hx hb hK hP 1 0 rfl rfl h11 dX1_writeField_63 ?_
        refine lv_iconst (v := 1) hx hb dX1_writeField_64 (by decide) ?_
        refine lv_icmp_ne (tgt := 70) hx hb dX1_writeField_65 (by decide) (fun c7 => ?_) (fun c7 => ?_)
        · rw [if_neg c7] at hsem
          refine lv_aload_n hx hb dX1_writeField_70 rfl (lv_at hl 1 rfl) ?_
          refine va_get (D := g.1) (ci := 1) (v := .ref (ad 11)) (C := RX1) (T := TX1) (N := 18) hx hb hts (fun w h => List.mem_cons_of_mem _ (List.mem_append_left _ (List.mem_append_right _ h))) hown hK hP 0 rfl rfl 10 (by decide) (hts (.fieldLink RX1 45 "PauseRegions$Heap" "dirtyCards" "LPauseRegions$Row;") (List.mem_of_getElem? (i := 5) rfl)) (fun _ h9 => h9) rfl dX1_writeField_71 ?_
          refine lv_aload_n hx hb dX1_writeField_74 rfl (lv_at hl 1 rfl) ?_
          refine lv_iload_n hx hb dX1_writeField_75 rfl (lv_at hl 2 rfl) ?_
          obtain ⟨x3, hc5, hsem⟩ := bn_some hsem
          refine pcV (C := RX1) (As := [.int p0]) (rest := [.ref (ad 11)]) ⟨hx, hb, hml, hown, hts⟩ hKK (cwV 1 hts gX1_writeField_X1_cardOfThing rfl rfl rfl hdX1_cardOfThing ⟨Nat.le_of_ble_eq_true rfl, Nat.le_of_ble_eq_true rfl⟩) (kX1_cardOfThing (l := l) (g := g) hP hc5) (va_recv hK hP (ci := 1) (q0 := 0) rfl rfl) rfl hl.1 rfl (Nat.le_of_ble_eq_true rfl) dX1_writeField_76 ⟨Nat.zero_le _, Nat.zero_le _⟩ ?_
          obtain ⟨z3, hc6, hsem⟩ := bn_some hsem
          refine mcIs (C := RX5) (As := [.int x3]) (rest := []) (wr := (wH_11_12 g ad A3 F)) ⟨hx, hb, hml, hown, hts⟩ hKK hP hD hS hZ [11, 12] [0, 1, 2, 3, 4, 5, 6, 7, 8, 9, 10, 13, 14] rfl rfl (by decide) (by decide) (by decide) (cwV 1 hts gX1_writeField_X5_append rfl rfl rfl hdX5_append ⟨Nat.le_of_ble_eq_true rfl, Nat.le_of_ble_eq_true rfl⟩) (kX5_append (l := l) (g := g) (a0 := (ad 11)) (a1 := (ad 12)) (f := (A3 10)) (n := (A3 18 0)) hc6) (va_recv hK hP (ci := 5) (q0 := 11) rfl rfl) rfl hl.1 rfl (Nat.le_of_ble_eq_true rfl) dX1_writeField_79 ⟨Nat.zero_le _, Nat.zero_le _⟩ (fun H locs hP hD hS => ?_)
          obtain ⟨A4, eA4, hsem⟩ := bd_some hsem
          have hP : va_P g.1 vwCl (wH g ad A4 F) H := by rw [eA4]; exact hP.sub [0, 1, 2, 3, 4, 5, 6, 7, 8, 9, 10, 13, 14, 11, 12] rfl
          have hD : va_D Z (wH g ad A4 F) := by rw [eA4]; exact hD.sub [0, 1, 2, 3, 4, 5, 6, 7, 8, 9, 10, 13, 14, 11, 12] (by decide) rfl
          obtain ⟨h12, hsem⟩ := ckb_some hsem
          have eo := (Option.some.inj hsem).symm.symm
          subst eo
          exact W.zret (v := z3.1) hx hb hr (nar_bool h12) (fun t ht hW => ⟨⟨_, (), rfl, rfl, ⟨by rw [ht]; exact hP, hD⟩⟩, hS.F ht⟩) hS.2.2 dX1_writeField_82
        · rw [if_pos c7] at hsem
          refine lv_iconst (v := 0) hx hb dX1_writeField_68 (by decide) ?_
          have eo := (Option.some.inj hsem).symm.symm
          subst eo
          exact W.zret (v := 0) hx hb hr rfl (fun t ht hW => ⟨⟨_, (), rfl, rfl, ⟨by rw [ht]; exact hP, hD⟩⟩, hS.F ht⟩) hS.2.2 dX1_writeField_69
