def sX1_becomeGrey (A : IA) (p0 : Int32) : Option (IA) :=
  if p0 = (-5) then (some A) else (ck p0 32 (if ((A 8) p0.toNatClampNeg) = 0 then (ck p0 32 (bd (wr A 8 p0.toNatClampNeg 1) fun A1 => (sX5_append (A1 11) (A1 19 0) p0).bind fun z1 => bd (sc (setR A1 11 z1.2.1) 19 z1.2.2) fun A2 => some A2)) else (some A)))
abbrev rmX1_becomeGrey : Room := { frames := 1, cells := 0, slots := 0, locals := 22 }
theorem hdX1_becomeGrey : yX1_becomeGrey.cls = RX1 ∧ yX1_becomeGrey.cls ≠ "java/lang/invoke/MethodHandle" ∧ yX1_becomeGrey.cls ≠ "java/lang/invoke/VarHandle" ∧ (parseMethodDescriptor yX1_becomeGrey.desc).map (fun d => d.parameters.length) = some 1 := by decide +kernel
set_option maxHeartbeats 4000000 in
set_option maxRecDepth 100000 in
theorem kX1_becomeGrey {l : Launch} {g : GG} {sz : Nat} {ad : Nat → Nat} {A : IA} {F : FA} {p0 : Int32} {b : IA} (hsem : sX1_becomeGrey A p0 = some b) : MetV l yX1_becomeGrey wsX1_becomeGrey rmX1_becomeGrey g [.ref (ad 0), .int p0] (wH g ad A F) sz (wH g ad b F) := by
  refine Met.ofW (cc := cX1_becomeGrey) (maxL := 2) (ret := none) (by decide) rfl ?_
  intro p e s m args below meth c s₁ B hml hv
  obtain ⟨rfl, hsz, hP, hD0, hKK⟩ := hv
  subst hsz
  have hx := B.exec
  have hb := B.bytes
  have hr := B.returns
  have hts := atoms_spec (ws := wsX1_becomeGrey) B.pre
  have hown : s.vm.findClass RX1 = some m.cls := findClass_of_methodNamed B.named
  have hlocks := B.notSynchronized
  have hK := hKK.1
  have hD := hD0.self (sz := s.heap.size)
  generalize hZe : va_A (wH g ad A F) s.heap.size = Z at hD ⊢
  have hZ : ∀ q : Nat, s.heap.size ≤ q → Z q := fun q h => by rw [← hZe]; exact Or.inr h
  have hS : va_S Z s.heap s.heap [] := va_S.rf
  have hP : va_P g.1 vwCl (wH g ad A F) s.heap := hP
  have hD : va_D Z (wH g ad A F) := hD
  have hl := lv_entry ([.ref (ad 0), .int p0]) (n := 2) (Nat.le_of_ble_eq_true rfl)
  rw [lg_entry_eq]
  generalize (lg_sl ([.ref (ad 0), .int p0]) ++ List.replicate (2 - (lg_sl ([.ref (ad 0), .int p0])).length) Slot.unset).toArray = ls at hl ⊢
  have hl : lv_has ls 2 [(0, .ref (ad 0)), (1, .int p0)] := hl
  unfold sX1_becomeGrey at hsem
  refine lv_iload_n hx hb dX1_becomeGrey_0 rfl (lv_at hl 1 rfl) ?_
  refine lv_bipush (v := (-5)) hx hb dX1_becomeGrey_1 (by decide) ?_
  refine lv_icmp_eq (tgt := 31) hx hb dX1_becomeGrey_3 (by decide) (fun c1 => ?_) (fun c1 => ?_)
  · rw [if_pos c1] at hsem
    have eo := (Option.some.inj hsem).symm.symm
    subst eo
    exact W.vret hx hb hr (fun t ht hW => ⟨⟨(), rfl, trivial, ⟨by rw [ht]; exact hP, hD⟩⟩, hS.F ht⟩) hS.2.2 dX1_becomeGrey_31
  · rw [if_neg c1] at hsem
    refine lv_aload_n hx hb dX1_becomeGrey_6 rfl (lv_at hl 0 rfl) ?_
    refine va_get (D := g.1) (ci := 1) (v := .ref (ad 9)) (C := RX1) (T := TX1) (N := 18) hx hb hts (fun w h => List.mem_cons_of_mem _ (List.mem_append_left _ (List.mem_append_right _ h))) hown hK hP 0 rfl rfl 8 (by decide) (hts (.fieldLink RX1 36 "PauseRegions$Heap" "colour" "[I") (List.mem_of_getElem? (i := 1) rfl)) (fun _ h9 => h9) rfl dX1_becomeGrey_7 ?_
    refine lv_iload_n hx hb dX1_becomeGrey_10 rfl (lv_at hl 1 rfl) ?_
    obtain ⟨h1, hsem⟩ := ck_some hsem
    refine va_iald (D := g.1) hx hb hK hP 9 0 rfl rfl h1 dX1_becomeGrey_11 ?_
    refine lv_if_ne (tgt := 31) hx hb dX1_becomeGrey_12 (by decide) (fun c2 => ?_) (fun c2 => ?_)
    · rw [if_neg c2] at hsem
      have eo := (Option.some.inj hsem).symm.symm
      subst eo
      exact W.vret hx hb hr (fun t ht hW => ⟨⟨(), rfl, trivial, ⟨by rw [ht]; exact hP, hD⟩⟩, hS.F ht⟩) hS.2.2 dX1_becomeGrey_31
    · rw [if_pos c2] at hsem
      refine lv_aload_n hx hb dX1_becomeGrey_15 rfl (lv_at hl 0 rfl) ?_
      refine va_get (D := g.1) (ci := 1) (v := .ref (ad 9)) (C := RX1) (T := TX1) (N := 18) hx hb hts (fun w h => List.mem_cons_of_mem _ (List.mem_append_left _ (List.mem_append_right _ h))) hown hK hP 0 rfl rfl 8 (by decide) (hts (.fieldLink RX1 36 "PauseRegions$Heap" "colour" "[I") (List.mem_of_getElem? (i := 1) rfl)) (fun _ h9 => h9) rfl dX1_becomeGrey_16 ?_
      refine lv_iload_n hx hb dX1_becomeGrey_19 rfl (lv_at hl 1 rfl) ?_
      refine lv_iconst (v := 1) hx hb dX1_becomeGrey_20 (by decide) ?_
      obtain ⟨h2, hsem⟩ := ck_some hsem
      refine va_iast (D := g.1) hx hb hK hP hD hS 9 0 rfl rfl h2 dX1_becomeGrey_21 (fun H locs hP hD hS => ?_)
      obtain ⟨A1, eA1, hsem⟩ := bd_some hsem
      have hP : va_P g.1 vwCl (wH g ad A1 F) H := by rw [eA1]; exact hP
      have hD : va_D Z (wH g ad A1 F) := by rw [eA1]; exact hD
      refine lv_aload_n hx hb dX1_becomeGrey_22 rfl (lv_at hl 0 rfl) ?_
      refine va_get (D := g.1) (ci := 1) (v := .ref (ad 13)) (C := RX1) (T := TX1) (N := 18) hx hb hts (fun w h => List.mem_cons_of_mem _ (List.mem_append_left _ (List.mem_append_right _ h))) hown hK hP 0 rfl rfl 11 (by decide) (hts (.fieldLink RX1 49 "PauseRegions$Heap" "greyThings" "LPauseRegions$Row;") (List.mem_of_getElem? (i := 2) rfl)) (fun _ h9 => h9) rfl dX1_becomeGrey_23 ?_
      refine lv_iload_n hx hb dX1_becomeGrey_26 rfl (lv_at hl 1 rfl) ?_
      obtain ⟨z1, hc1, hsem⟩ := bn_some hsem
      refine mcIs (C := RX5) (As := [.int p0]) (rest := []) (wr := (wH_13_14 g ad A1 F)) ⟨hx, hb, hml, hown, hts⟩ hKK hP hD hS hZ [13, 14] [0, 1, 2, 3, 4, 5, 6, 7, 8, 9, 10, 11, 12] rfl rfl (by decide) (by decide) (by decide) (cwV 1 hts gX1_becomeGrey_X5_append rfl rfl rfl hdX5_append ⟨Nat.le_of_ble_eq_true rfl, Nat.le_of_ble_eq_true rfl⟩) (kX5_append (l := l) (g := g) (a0 := (ad 13)) (a1 := (ad 14)) (f := (A1 11)) (n := (A1 19 0)) hc1) (va_recv hK hP (ci := 5) (q0 := 13) rfl rfl) rfl hl.1 rfl (Nat.le_of_ble_eq_true rfl) dX1_becomeGrey_27 ⟨Nat.zero_le _, Nat.zero_le _⟩ (fun H locs hP hD hS => ?_)
      obtain ⟨A2, eA2, hsem⟩ := bd_some hsem
      have hP : va_P g.1 vwCl (wH g ad A2 F) H := by rw [eA2]; exact hP.sub [0, 1, 2, 3, 4, 5, 6, 7, 8, 9, 10, 11, 12, 13, 14] rfl
      have hD : va_D Z (wH g ad A2 F) := by rw [eA2]; exact hD.sub [0, 1, 2, 3, 4, 5, 6, 7, 8, 9, 10, 11, 12, 13, 14] (by decide) rfl
      refine lv_pop hx hb dX1_becomeGrey_30 rfl ?_
      have eo := (Option.some.inj hsem).symm.symm
      subst eo
      exact W.vret hx hb hr (fun t ht hW => ⟨⟨(), rfl, trivial, ⟨by rw [ht]; exact hP, hD⟩⟩, hS.F ht⟩) hS.2.2 dX1_becomeGrey_31
def sX1_becomeLike (A : IA) (Fc : FA) (Ah : IA) (Fhc : FA) : Option (IA × FA) :=
  bd (setR A 0 (va_cpy (Ah 0) (A 0) (Int32.toNatClampNeg 0) (Int32.toNatClampNeg 0) (Int32.toNatClampNeg 10))) fun A1 => bd (setR A1 1 (va_cpy (Ah 1) (A1 1) (Int32.toNatClampNeg 0) (Int32.toNatClampNeg 0) (Int32.toNatClampNeg 10))) fun A2 => bd (setR A2 2 (va_cpy (Ah 2) (A2 2) (Int32.toNatClampNeg 0) (Int32.toNatClampNeg 0) (Int32.toNatClampNeg 10))) fun A3 => bd (setR A3 3 (va_cpy (Ah 3) (A3 3) (Int32.toNatClampNeg 0) (Int32.toNatClampNeg 0) (Int32.toNatClampNeg 10))) fun A4 => bd (setR A4 4 (va_cpy (Ah 4) (A4 4) (Int32.toNatClampNeg 0) (Int32.toNatClampNeg 0) (Int32.toNatClampNeg 32))) fun A5 => bd (setR A5 5 (va_cpy (Ah 5) (A5 5) (Int32.toNatClampNeg 0) (Int32.toNatClampNeg 0) (Int32.toNatClampNeg 32))) fun A6 => bd (setR A6 6 (va_cpy (Ah 6) (A6 6) (Int32.toNatClampNeg 0) (Int32.toNatClampNeg 0) (Int32.toNatClampNeg 32))) fun A7 => bd (setR A7 7 (va_cpy (Ah 7) (A7 7) (Int32.toNatClampNeg 0) (Int32.toNatClampNeg 0) (Int32.toNatClampNeg 64))) fun A8 => bd (setR A8 8 (va_cpy (Ah 8) (A8 8) (Int32.toNatClampNeg 0) (Int32.toNatClampNeg 0) (Int32.toNatClampNeg 32))) fun A9 => bd (setR A9 9 (va_cpy (Ah 9) (A9 9) (Int32.toNatClampNeg 0) (Int32.toNatClampNeg 0) (Int32.toNatClampNeg 6))) fun A10 => (sX5_becomeLike (A10 10) (A10 18 0) (Ah 10) (Ah 18 0)).bind fun z1 => bd (sc (setR A10 10 z1.1) 18 z1.2) fun A11 => (sX5_becomeLike (A11 11) (A11 19 0) (Ah 11) (Ah 19 0)).bind fun z2 => bd (sc (setR A11 11 z2.1) 19 z2.2) fun A12 => ckb (Ah 12 0) (bd (sc A12 12 (Ah 12 0)) fun A13 => bd (sc A13 13 (Ah 13 0)) fun A14 => bd (scF Fc 14 (Fhc 14 0)) fun F1c => bd (scF F1c 15 (Fhc 15 0)) fun F2c => bd (sc A14 16 (Ah 16 0)) fun A15 => bd (sc A15 17 (Ah 17 0)) fun A16 => some (A16, F2c))
abbrev rmX1_becomeLike : Room := { frames := 2, cells := 0, slots := 0, locals := 61 }
theorem hdX1_becomeLike : yX1_becomeLike.cls = RX1 ∧ yX1_becomeLike.cls ≠ "java/lang/invoke/MethodHandle" ∧ yX1_becomeLike.cls ≠ "java/lang/invoke/VarHandle" ∧ (parseMethodDescriptor yX1_becomeLike.desc).map (fun d => d.parameters.length) = some 1 := by decide +kernel
set_option maxHeartbeats 4000000 in
set_option maxRecDepth 100000 in
theorem kX1_becomeLike {l : Launch} {g : GG} {sz : Nat} {ad : Nat → Nat} {A : IA} {F : FA} {adh : Nat → Nat} {Ah : IA} {Fh : FA} {Fc : FA} (hAL : AL F Fc) {Fhc : FA} (hALh : AL Fh Fhc) {b : IA × FA} (hsem : sX1_becomeLike A Fc Ah Fhc = some b) : MetDV l yX1_becomeLike wsX1_becomeLike rmX1_becomeLike g [.ref (ad 0), .ref (adh 0)] ((wH g ad A F) ++ (wH g adh Ah Fh)) sz (φ := FA) (fun u => AL u b.2) (fun u => (wH g ad b.1 u) ++ (wH g adh Ah Fh)) := by
  refine MetD.ofW (cc := cX1_becomeLike) (maxL := 2) (ret := none) (by decide) rfl ?_
  intro p e s m args below meth c s₁ B hml hv hdr
  obtain ⟨rfl, hsz, hP, hD0, hKK⟩ := hv
  subst hsz
  have hx := B.exec
  have hb := B.bytes
  have hr := B.returns
  have hts := atoms_spec (ws := wsX1_becomeLike) B.pre
  have hown : ∀ d, (s.setDrawn d).vm.findClass RX1 = some m.cls := fun _ => findClass_of_methodNamed B.named
  have hlocks := B.notSynchronized
  have hK : ∀ d, va_K g.1 vwCl (KT g) (s.setDrawn d) := fun d => (hKK.drawn d).1
  have hD := hD0.self (sz := s.heap.size)
  generalize hZe : va_A ((wH g ad A F) ++ (wH g adh Ah Fh)) s.heap.size = Z at hD ⊢
  have hZ : ∀ q : Nat, s.heap.size ≤ q → Z q := fun q h => by rw [← hZe]; exact Or.inr h
  have hS : va_S Z s.heap s.heap [] := va_S.rf
  have hP : va_P g.1 vwCl ((wH g ad A F) ++ (wH g adh Ah Fh)) s.heap := hP
  have hD : va_D Z ((wH g ad A F) ++ (wH g adh Ah Fh)) := hD
  obtain ⟨d, hdr, hdd⟩ : ∃ d, s.drawn.sameBut d lw_cs ∧ s.drawn = d := ⟨_, hdr, rfl⟩
  rw [hdd]
  have hl := lv_entry ([.ref (ad 0), .ref (adh 0)]) (n := 2) (Nat.le_of_ble_eq_true rfl)
  rw [lg_entry_eq]
  generalize (lg_sl ([.ref (ad 0), .ref (adh 0)]) ++ List.replicate (2 - (lg_sl ([.ref (ad 0), .ref (adh 0)])).length) Slot.unset).toArray = ls at hl ⊢
  have hl : lv_has ls 2 [(0, .ref (ad 0)), (1, .ref (adh 0))] := hl
  unfold sX1_becomeLike at hsem
  refine lv_aload_n hx hb dX1_becomeLike_0 rfl (lv_at hl 1 rfl) ?_
  refine va_get (D := g.1) (ci := 1) (v := .ref (adh 1)) (C := RX1) (T := TX1) (N := 18) hx hb (dr_words hts d) (fun w h => List.mem_cons_of_mem _ (List.mem_append_left _ (List.mem_append_right _ h))) (hown d) (hK d) hP 15 rfl rfl 0 (by decide) ((dr_words hts d) (.fieldLink RX1 9 "PauseRegions$Heap" "kind" "[I") (List.mem_of_getElem? (i := 1) rfl)) (fun _ h9 => h9) rfl dX1_becomeLike_1 ?_
  refine lv_iconst (v := 0) hx hb dX1_becomeLike_4 (by decide) ?_
  refine lv_aload_n hx hb dX1_becomeLike_5 rfl (lv_at hl 0 rfl) ?_
  refine va_get (D := g.1) (ci := 1) (v := .ref (ad 1)) (C := RX1) (T := TX1) (N := 18) hx hb (dr_words hts d) (fun w h => List.mem_cons_of_mem _ (List.mem_append_left _ (List.mem_append_right _ h))) (hown d) (hK d) hP 0 rfl rfl 0 (by decide) ((dr_words hts d) (.fieldLink RX1 9 "PauseRegions$Heap" "kind" "[I") (List.mem_of_getElem? (i := 1) rfl)) (fun _ h9 => h9) rfl dX1_becomeLike_6 ?_
  refine lv_iconst (v := 0) hx hb dX1_becomeLike_9 (by decide) ?_
  refine lv_bipush (v := 10) hx hb dX1_becomeLike_10 (by decide) ?_
  refine va_copyi (D := g.1) (ty := .int) hx hb (hml.trans hl.1.symm) (hown d) ((dr_words hts d) (.methodLink RX1 73 arraycopyName) (List.mem_of_getElem? (i := 2) rfl)) ((dr_words hts d) (.native arraycopyName) (List.mem_of_getElem? (i := 3) rfl)) ((dr_words hts d) (.static arraycopyName) (List.mem_of_getElem? (i := 4) rfl)) ((dr_words hts d) (.initialized "java/lang/System") (List.mem_of_getElem? (i := 5) rfl)) (hK d) hP hD hS 16 1 0 0 rfl rfl rfl rfl rfl (by decide) (by decide) (by decide) (by decide) (by decide) (fun _ _ => rfl) (Nat.le_of_ble_eq_true rfl) (Nat.le_of_ble_eq_true rfl) dX1_becomeLike_12 (fun H locs hP hD hS => ?_)
  obtain ⟨A1, eA1, hsem⟩ := bd_some hsem
  have hP : va_P g.1 vwCl ((wH g ad A1 F) ++ (wH g adh Ah Fh)) H := by rw [eA1]; exact hP
  have hD : va_D Z ((wH g ad A1 F) ++ (wH g adh Ah Fh)) := by rw [eA1]; exact hD
  refine lv_aload_n hx hb dX1_becomeLike_15 rfl (lv_at hl 1 rfl) ?_
  refine va_get (D := g.1) (ci := 1) (v := .ref (adh 2)) (C := RX1) (T := TX1) (N := 18) hx hb (dr_words hts d) (fun w h => List.mem_cons_of_mem _ (List.mem_append_left _ (List.mem_append_right _ h))) (hown d) (hK d) hP 15 rfl rfl 1 (by decide) ((dr_words hts d) (.fieldLink RX1 15 "PauseRegions$Heap" "top" "[I") (List.mem_of_getElem? (i := 6) rfl)) (fun _ h9 => h9) rfl dX1_becomeLike_16 ?_
  refine lv_iconst (v := 0) hx hb dX1_becomeLike_19 (by decide) ?_
  refine lv_aload_n hx hb dX1_becomeLike_20 rfl (lv_at hl 0 rfl) ?_
  refine va_get (D := g.1) (ci := 1) (v := .ref (ad 2)) (C := RX1) (T := TX1) (N := 18) hx hb (dr_words hts d) (fun w h => List.mem_cons_of_mem _ (List.mem_append_left _ (List.mem_append_right _ h))) (hown d) (hK d) hP 0 rfl rfl 1 (by decide) ((dr_words hts d) (.fieldLink RX1 15 "PauseRegions$Heap" "top" "[I") (List.mem_of_getElem? (i := 6) rfl)) (fun _ h9 => h9) rfl dX1_becomeLike_21 ?_
  refine lv_iconst (v := 0) hx hb dX1_becomeLike_24 (by decide) ?_
  refine lv_bipush (v := 10) hx hb dX1_becomeLike_25 (by decide) ?_
  refine va_copyi (D := g.1) (ty := .int) hx hb (hml.trans hl.1.symm) (hown d) ((dr_words hts d) (.methodLink RX1 73 arraycopyName) (List.mem_of_getElem? (i := 2) rfl)) ((dr_words hts d) (.native arraycopyName) (List.mem_of_getElem? (i := 3) rfl)) ((dr_words hts d) (.static arraycopyName) (List.mem_of_getElem? (i := 4) rfl)) ((dr_words hts d) (.initialized "java/lang/System") (List.mem_of_getElem? (i := 5) rfl)) (hK d) hP hD hS 17 2 0 0 rfl rfl rfl rfl rfl (by decide) (by decide) (by decide) (by decide) (by decide) (fun _ _ => rfl) (Nat.le_of_ble_eq_true rfl) (Nat.le_of_ble_eq_true rfl) dX1_becomeLike_27 (fun H locs hP hD hS => ?_)
  obtain ⟨A2, eA2, hsem⟩ := bd_some hsem
  have hP : va_P g.1 vwCl ((wH g ad A2 F) ++ (wH g adh Ah Fh)) H := by rw [eA2]; exact hP
  have hD : va_D Z ((wH g ad A2 F) ++ (wH g adh Ah Fh)) := by rw [eA2]; exact hD
  refine lv_aload_n hx hb dX1_becomeLike_30 rfl (lv_at hl 1 rfl) ?_
  refine va_get (D := g.1) (ci := 1) (v := .ref (adh 3)) (C := RX1) (T := TX1) (N := 18) hx hb (dr_words hts d) (fun w h => List.mem_cons_of_mem _ (List.mem_append_left _ (List.mem_append_right _ h))) (hown d) (hK d) hP 15 rfl rfl 2 (by decide) ((dr_words hts d) (.fieldLink RX1 18 "PauseRegions$Heap" "live" "[I") (List.mem_of_getElem? (i := 7) rfl)) (fun _ h9 => h9) rfl dX1_becomeLike_31 ?_
  refine lv_iconst (v := 0) hx hb dX1_becomeLike_34 (by decide) ?_
  refine lv_aload_n hx hb dX1_becomeLike_35 rfl (lv_at hl 0 rfl) ?_
  refine va_get (D := g.1) (ci := 1) (v := .ref (ad 3)) (C := RX1) (T := TX1) (N := 18) hx hb (dr_words hts d) (fun w h => List.mem_cons_of_mem _ (List.mem_append_left _ (List.mem_append_right _ h))) (hown d) (hK d) hP 0 rfl rfl 2 (by decide) ((dr_words hts d) (.fieldLink RX1 18 "PauseRegions$Heap" "live" "[I") (List.mem_of_getElem? (i := 7) rfl)) (fun _ h9 => h9) rfl dX1_becomeLike_36 ?_
  refine lv_iconst (v := 0) hx hb dX1_becomeLike_39 (by decide) ?_
  refine lv_bipush (v := 10) hx hb dX1_becomeLike_40 (by decide) ?_
  refine va_copyi (D := g.1) (ty := .int) hx hb (hml.trans hl.1.symm) (hown d) ((dr_words hts d) (.methodLink RX1 73 arraycopyName) (List.mem_of_getElem? (i := 2) rfl)) ((dr_words hts d) (.native arraycopyName) (List.mem_of_getElem? (i := 3) rfl)) ((dr_words hts d) (.static arraycopyName) (List.mem_of_getElem? (i := 4) rfl)) ((dr_words hts d) (.initialized "java/lang/System") (List.mem_of_getElem? (i := 5) rfl)) (hK d) hP hD hS 18 3 0 0 rfl rfl rfl rfl rfl (by decide) (by decide) (by decide) (by decide) (by decide) (fun _ _ => rfl) (Nat.le_of_ble_eq_true rfl) (Nat.le_of_ble_eq_true rfl) dX1_becomeLike_42 (fun H locs hP hD hS => ?_)
  obtain ⟨A3, eA3, hsem⟩ := bd_some hsem
  have hP : va_P g.1 vwCl ((wH g ad A3 F) ++ (wH g adh Ah Fh)) H := by rw [eA3]; exact hP
  have hD : va_D Z ((wH g ad A3 F) ++ (wH g adh Ah Fh)) := by rw [eA3]; exact hD
  refine lv_aload_n hx hb dX1_becomeLike_45 rfl (lv_at hl 1 rfl) ?_
  refine va_get (D := g.1) (ci := 1) (v := .ref (adh 4)) (C := RX1) (T := TX1) (N := 18) hx hb (dr_words hts d) (fun w h => List.mem_cons_of_mem _ (List.mem_append_left _ (List.mem_append_right _ h))) (hown d) (hK d) hP 15 rfl rfl 3 (by decide) ((dr_words hts d) (.fieldLink RX1 21 "PauseRegions$Heap" "memory" "[I") (List.mem_of_getElem? (i := 8) rfl)) (fun _ h9 => h9) rfl dX1_becomeLike_46 ?_
  refine lv_iconst (v := 0) hx hb dX1_becomeLike_49 (by decide) ?_
  refine lv_aload_n hx hb dX1_becomeLike_50 rfl (lv_at hl 0 rfl) ?_
  refine va_get (D := g.1) (ci := 1) (v := .ref (ad 4)) (C := RX1) (T := TX1) (N := 18) hx hb (dr_words hts d) (fun w h => List.mem_cons_of_mem _ (List.mem_append_left _ (List.mem_append_right _ h))) (hown d) (hK d) hP 0 rfl rfl 3 (by decide) ((dr_words hts d) (.fieldLink RX1 21 "PauseRegions$Heap" "memory" "[I") (List.mem_of_getElem? (i := 8) rfl)) (fun _ h9 => h9) rfl dX1_becomeLike_51 ?_
  refine lv_iconst (v := 0) hx hb dX1_becomeLike_54 (by decide) ?_
  refine lv_bipush (v := 10) hx hb dX1_becomeLike_55 (by decide) ?_
  refine va_copyi (D := g.1) (ty := .int) hx hb (hml.trans hl.1.symm) (hown d) ((dr_words hts d) (.methodLink RX1 73 arraycopyName) (List.mem_of_getElem? (i := 2) rfl)) ((dr_words hts d) (.native arraycopyName) (List.mem_of_getElem? (i := 3) rfl)) ((dr_words hts d) (.static arraycopyName) (List.mem_of_getElem? (i := 4) rfl)) ((dr_words hts d) (.initialized "java/lang/System") (List.mem_of_getElem? (i := 5) rfl)) (hK d) hP hD hS 19 4 0 0 rfl rfl rfl rfl rfl (by decide) (by decide) (by decide) (by decide) (by decide) (fun _ _ => rfl) (Nat.le_of_ble_eq_true rfl) (Nat.le_of_ble_eq_true rfl) dX1_becomeLike_57 (fun H locs hP hD hS => ?_)
  obtain ⟨A4, eA4, hsem⟩ := bd_some hsem
  have hP : va_P g.1 vwCl ((wH g ad A4 F) ++ (wH g adh Ah Fh)) H := by rw [eA4]; exact hP
  have hD : va_D Z ((wH g ad A4 F) ++ (wH g adh Ah Fh)) := by rw [eA4]; exact hD
  refine lv_aload_n hx hb dX1_becomeLike_60 rfl (lv_at hl 1 rfl) ?_
  refine va_get (D := g.1) (ci := 1) (v := .ref (adh 5)) (C := RX1) (T := TX1) (N := 18) hx hb (dr_words hts d) (fun w h => List.mem_cons_of_mem _ (List.mem_append_left _ (List.mem_append_right _ h))) (hown d) (hK d) hP 15 rfl rfl 4 (by decide) ((dr_words hts d) (.fieldLink RX1 24 "PauseRegions$Heap" "size" "[I") (List.mem_of_getElem? (i := 9) rfl)) (fun _ h9 => h9) rfl dX1_becomeLike_61 ?_
  refine lv_iconst (v := 0) hx hb dX1_becomeLike_64 (by decide) ?_
  refine lv_aload_n hx hb dX1_becomeLike_65 rfl (lv_at hl 0 rfl) ?_
  refine va_get (D := g.1) (ci := 1) (v := .ref (ad 5)) (C := RX1) (T := TX1) (N := 18) hx hb (dr_words hts d) (fun w h => List.mem_cons_of_mem _ (List.mem_append_left _ (List.mem_append_right _ h))) (hown d) (hK d) hP 0 rfl rfl 4 (by decide) ((dr_words hts d) (.fieldLink RX1 24 "PauseRegions$Heap" "size" "[I") (List.mem_of_getElem? (i := 9) rfl)) (fun _ h9 => h9) rfl dX1_becomeLike_66 ?_
  refine lv_iconst (v := 0) hx hb dX1_becomeLike_69 (by decide) ?_
  refine lv_bipush (v := 32) hx hb dX1_becomeLike_70 (by decide) ?_
  refine va_copyi (D := g.1) (ty := .int) hx hb (hml.trans hl.1.symm) (hown d) ((dr_words hts d) (.methodLink RX1 73 arraycopyName) (List.mem_of_getElem? (i := 2) rfl)) ((dr_words hts d) (.native arraycopyName) (List.mem_of_getElem? (i := 3) rfl)) ((dr_words hts d) (.static arraycopyName) (List.mem_of_getElem? (i := 4) rfl)) ((dr_words hts d) (.initialized "java/lang/System") (List.mem_of_getElem? (i := 5) rfl)) (hK d) hP hD hS 20 5 0 0 rfl rfl rfl rfl rfl (by decide) (by decide) (by decide) (by decide) (by decide) (fun _ _ => rfl) (Nat.le_of_ble_eq_true rfl) (Nat.le_of_ble_eq_true rfl) dX1_becomeLike_72 (fun H locs hP hD hS => ?_)
  obtain ⟨A5, eA5, hsem⟩ := bd_some hsem
  have hP : va_P g.1 vwCl ((wH g ad A5 F) ++ (wH g adh Ah Fh)) H := by rw [eA5]; exact hP
  have hD : va_D Z ((wH g ad A5 F) ++ (wH g adh Ah Fh)) := by rw [eA5]; exact hD
  refine lv_aload_n hx hb dX1_becomeLike_75 rfl (lv_at hl 1 rfl) ?_
  refine va_get (D := g.1) (ci := 1) (v := .ref (adh 6)) (C := RX1) (T := TX1) (N := 18) hx hb (dr_words hts d) (fun w h => List.mem_cons_of_mem _ (List.mem_append_left _ (List.mem_append_right _ h))) (hown d) (hK d) hP 15 rfl rfl 5 (by decide) ((dr_words hts d) (.fieldLink RX1 27 "PauseRegions$Heap" "place" "[I") (List.mem_of_getElem? (i := 10) rfl)) (fun _ h9 => h9) rfl dX1_becomeLike_76 ?_
  refine lv_iconst (v := 0) hx hb dX1_becomeLike_79 (by decide) ?_
  refine lv_aload_n hx hb dX1_becomeLike_80 rfl (lv_at hl 0 rfl) ?_
  refine va_get (D := g.1) (ci := 1) (v := .ref (ad 6)) (C := RX1) (T := TX1) (N := 18) hx hb (dr_words hts d) (fun w h => List.mem_cons_of_mem _ (List.mem_append_left _ (List.mem_append_right _ h))) (hown d) (hK d) hP 0 rfl rfl 5 (by decide) ((dr_words hts d) (.fieldLink RX1 27 "PauseRegions$Heap" "place" "[I") (List.mem_of_getElem? (i := 10) rfl)) (fun _ h9 => h9) rfl dX1_becomeLike_81 ?_
  refine lv_iconst (v := 0) hx hb dX1_becomeLike_84 (by decide) ?_
  refine lv_bipush (v := 32) hx hb dX1_becomeLike_85 (by decide) ?_
  refine va_copyi (D := g.1) (ty := .int) hx hb (hml.trans hl.1.symm) (hown d) ((dr_words hts d) (.methodLink RX1 73 arraycopyName) (List.mem_of_getElem? (i := 2) rfl)) ((dr_words hts d) (.native arraycopyName) (List.mem_of_getElem? (i := 3) rfl)) ((dr_words hts d) (.static arraycopyName) (List.mem_of_getElem? (i := 4) rfl)) ((dr_words hts d) (.initialized "java/lang/System") (List.mem_of_getElem? (i := 5) rfl)) (hK d) hP hD hS 21 6 0 0 rfl rfl rfl rfl rfl (by decide) (by decide) (by decide) (by decide) (by decide) (fun _ _ => rfl) (Nat.le_of_ble_eq_true rfl) (Nat.le_of_ble_eq_true rfl) dX1_becomeLike_87 (fun H locs hP hD hS => ?_)
  obtain ⟨A6, eA6, hsem⟩ := bd_some hsem
  have hP : va_P g.1 vwCl ((wH g ad A6 F) ++ (wH g adh Ah Fh)) H := by rw [eA6]; exact hP
  have hD : va_D Z ((wH g ad A6 F) ++ (wH g adh Ah Fh)) := by rw [eA6]; exact hD
  refine lv_aload_n hx hb dX1_becomeLike_90 rfl (lv_at hl 1 rfl) ?_
  refine va_get (D := g.1) (ci := 1) (v := .ref (adh 7)) (C := RX1) (T := TX1) (N := 18) hx hb (dr_words hts d) (fun w h => List.mem_cons_of_mem _ (List.mem_append_left _ (List.mem_append_right _ h))) (hown d) (hK d) hP 15 rfl rfl 6 (by decide) ((dr_words hts d) (.fieldLink RX1 30 "PauseRegions$Heap" "cell" "[I") (List.mem_of_getElem? (i := 11) rfl)) (fun _ h9 => h9) rfl dX1_becomeLike_91 ?_
  refine lv_iconst (v := 0) hx hb dX1_becomeLike_94 (by decide) ?_
  refine lv_aload_n hx hb dX1_becomeLike_95 rfl (lv_at hl 0 rfl) ?_
  refine va_get (D := g.1) (ci := 1) (v := .ref (ad 7)) (C := RX1) (T := TX1) (N := 18) hx hb (dr_words hts d) (fun w h => List.mem_cons_of_mem _ (List.mem_append_left _ (List.mem_append_right _ h))) (hown d) (hK d) hP 0 rfl rfl 6 (by decide) ((dr_words hts d) (.fieldLink RX1 30 "PauseRegions$Heap" "cell" "[I") (List.mem_of_getElem? (i := 11) rfl)) (fun _ h9 => h9) rfl dX1_becomeLike_96 ?_
  refine lv_iconst (v := 0) hx hb dX1_becomeLike_99 (by decide) ?_
  refine lv_bipush (v := 32) hx hb dX1_becomeLike_100 (by decide) ?_
  refine va_copyi (D := g.1) (ty := .int) hx hb (hml.trans hl.1.symm) (hown d) ((dr_words hts d) (.methodLink RX1 73 arraycopyName) (List.mem_of_getElem? (i := 2) rfl)) ((dr_words hts d) (.native arraycopyName) (List.mem_of_getElem? (i := 3) rfl)) ((dr_words hts d) (.static arraycopyName) (List.mem_of_getElem? (i := 4) rfl)) ((dr_words hts d) (.initialized "java/lang/System") (List.mem_of_getElem? (i := 5) rfl)) (hK d) hP hD hS 22 7 0 0 rfl rfl rfl rfl rfl (by decide) (by decide) (by decide) (by decide) (by decide) (fun _ _ => rfl) (Nat.le_of_ble_eq_true rfl) (Nat.le_of_ble_eq_true rfl) dX1_becomeLike_102 (fun H locs hP hD hS => ?_)
  obtain ⟨A7, eA7, hsem⟩ := bd_some hsem
  have hP : va_P g.1 vwCl ((wH g ad A7 F) ++ (wH g adh Ah Fh)) H := by rw [eA7]; exact hP
  have hD : va_D Z ((wH g ad A7 F) ++ (wH g adh Ah Fh)) := by rw [eA7]; exact hD
  refine lv_aload_n hx hb dX1_becomeLike_105 rfl (lv_at hl 1 rfl) ?_
  refine va_get (D := g.1) (ci := 1) (v := .ref (adh 8)) (C := RX1) (T := TX1) (N := 18) hx hb (dr_words hts d) (fun w h => List.mem_cons_of_mem _ (List.mem_append_left _ (List.mem_append_right _ h))) (hown d) (hK d) hP 15 rfl rfl 7 (by decide) ((dr_words hts d) (.fieldLink RX1 33 "PauseRegions$Heap" "fields" "[I") (List.mem_of_getElem? (i := 12) rfl)) (fun _ h9 => h9) rfl dX1_becomeLike_106 ?_
  refine lv_iconst (v := 0) hx hb dX1_becomeLike_109 (by decide) ?_
  refine lv_aload_n hx hb dX1_becomeLike_110 rfl (lv_at hl 0 rfl) ?_
  refine va_get (D := g.1) (ci := 1) (v := .ref (ad 8)) (C := RX1) (T := TX1) (N := 18) hx hb (dr_words hts d) (fun w h => List.mem_cons_of_mem _ (List.mem_append_left _ (List.mem_append_right _ h))) (hown d) (hK d) hP 0 rfl rfl 7 (by decide) ((dr_words hts d) (.fieldLink RX1 33 "PauseRegions$Heap" "fields" "[I") (List.mem_of_getElem? (i := 12) rfl)) (fun _ h9 => h9) rfl dX1_becomeLike_111 ?_
  refine lv_iconst (v := 0) hx hb dX1_becomeLike_114 (by decide) ?_
  refine lv_bipush (v := 64) hx hb dX1_becomeLike_115 (by decide) ?_
  refine va_copyi (D := g.1) (ty := .int) hx hb (hml.trans hl.1.symm) (hown d) ((dr_words hts d) (.methodLink RX1 73 arraycopyName) (List.mem_of_getElem? (i := 2) rfl)) ((dr_words hts d) (.native arraycopyName) (List.mem_of_getElem? (i := 3) rfl)) ((dr_words hts d) (.static arraycopyName) (List.mem_of_getElem? (i := 4) rfl)) ((dr_words hts d) (.initialized "java/lang/System") (List.mem_of_getElem? (i := 5) rfl)) (hK d) hP hD hS 23 8 0 0 rfl rfl rfl rfl rfl (by decide) (by decide) (by decide) (by decide) (by decide) (fun _ _ => rfl) (Nat.le_of_ble_eq_true rfl) (Nat.le_of_ble_eq_true rfl) dX1_becomeLike_117 (fun H locs hP hD hS => ?_)
  obtain ⟨A8, eA8, hsem⟩ := bd_some hsem
  have hP : va_P g.1 vwCl ((wH g ad A8 F) ++ (wH g adh Ah Fh)) H := by rw [eA8]; exact hP
  have hD : va_D Z ((wH g ad A8 F) ++ (wH g adh Ah Fh)) := by rw [eA8]; exact hD
  refine lv_aload_n hx hb dX1_becomeLike_120 rfl (lv_at hl 1 rfl) ?_
  refine va_get (D := g.1) (ci := 1) (v := .ref (adh 9)) (C := RX1) (T := TX1) (N := 18) hx hb (dr_words hts d) (fun w h => List.mem_cons_of_mem _ (List.mem_append_left _ (List.mem_append_right _ h))) (hown d) (hK d) hP 15 rfl rfl 8 (by decide) ((dr_words hts d) (.fieldLink RX1 36 "PauseRegions$Heap" "colour" "[I") (List.mem_of_getElem? (i := 13) rfl)) (fun _ h9 => h9) rfl dX1_becomeLike_121 ?_
  refine lv_iconst (v := 0) hx hb dX1_becomeLike_124 (by decide) ?_
  refine lv_aload_n hx hb dX1_becomeLike_125 rfl (lv_at hl 0 rfl) ?_
  refine va_get (D := g.1) (ci := 1) (v := .ref (ad 9)) (C := RX1) (T := TX1) (N := 18) hx hb (dr_words hts d) (fun w h => List.mem_cons_of_mem _ (List.mem_append_left _ (List.mem_append_right _ h))) (hown d) (hK d) hP 0 rfl rfl 8 (by decide) ((dr_words hts d) (.fieldLink RX1 36 "PauseRegions$Heap" "colour" "[I") (List.mem_of_getElem? (i := 13) rfl)) (fun _ h9 => h9) rfl dX1_becomeLike_126 ?_
  refine lv_iconst (v := 0) hx hb dX1_becomeLike_129 (by decide) ?_
  refine lv_bipush (v := 32) hx hb dX1_becomeLike_130 (by decide) ?_
  refine va_copyi (D := g.1) (ty := .int) hx hb (hml.trans hl.1.symm) (hown d) ((dr_words hts d) (.methodLink RX1 73 arraycopyName) (List.mem_of_getElem? (i := 2) rfl)) ((dr_words hts d) (.native arraycopyName) (List.mem_of_getElem? (i := 3) rfl)) ((dr_words hts d) (.static arraycopyName) (List.mem_of_getElem? (i := 4) rfl)) ((dr_words hts d) (.initialized "java/lang/System") (List.mem_of_getElem? (i := 5) rfl)) (hK d) hP hD hS 24 9 0 0 rfl rfl rfl rfl rfl (by decide) (by decide) (by decide) (by decide) (by decide) (fun _ _ => rfl) (Nat.le_of_ble_eq_true rfl) (Nat.le_of_ble_eq_true rfl) dX1_becomeLike_132 (fun H locs hP hD hS => ?_)
  obtain ⟨A9, eA9, hsem⟩ := bd_some hsem
  have hP : va_P g.1 vwCl ((wH g ad A9 F) ++ (wH g adh Ah Fh)) H := by rw [eA9]; exact hP
  have hD : va_D Z ((wH g ad A9 F) ++ (wH g adh Ah Fh)) := by rw [eA9]; exact hD
  refine lv_aload_n hx hb dX1_becomeLike_135 rfl (lv_at hl 1 rfl) ?_
  refine va_get (D := g.1) (ci := 1) (v := .ref (adh 10)) (C := RX1) (T := TX1) (N := 18) hx hb (dr_words hts d) (fun w h => List.mem_cons_of_mem _ (List.mem_append_left _ (List.mem_append_right _ h))) (hown d) (hK d) hP 15 rfl rfl 9 (by decide) ((dr_words hts d) (.fieldLink RX1 39 "PauseRegions$Heap" "roots" "[I") (List.mem_of_getElem? (i := 14) rfl)) (fun _ h9 => h9) rfl dX1_becomeLike_136 ?_
  refine lv_iconst (v := 0) hx hb dX1_becomeLike_139 (by decide) ?_
  refine lv_aload_n hx hb dX1_becomeLike_140 rfl (lv_at hl 0 rfl) ?_
  refine va_get (D := g.1) (ci := 1) (v := .ref (ad 10)) (C := RX1) (T := TX1) (N := 18) hx hb (dr_words hts d) (fun w h => List.mem_cons_of_mem _ (List.mem_append_left _ (List.mem_append_right _ h))) (hown d) (hK d) hP 0 rfl rfl 9 (by decide) ((dr_words hts d) (.fieldLink RX1 39 "PauseRegions$Heap" "roots" "[I") (List.mem_of_getElem? (i := 14) rfl)) (fun _ h9 => h9) rfl dX1_becomeLike_141 ?_
  refine lv_iconst (v := 0) hx hb dX1_becomeLike_144 (by decide) ?_
  refine lv_bipush (v := 6) hx hb dX1_becomeLike_145 (by decide) ?_
  refine va_copyi (D := g.1) (ty := .int) hx hb (hml.trans hl.1.symm) (hown d) ((dr_words hts d) (.methodLink RX1 73 arraycopyName) (List.mem_of_getElem? (i := 2) rfl)) ((dr_words hts d) (.native arraycopyName) (List.mem_of_getElem? (i := 3) rfl)) ((dr_words hts d) (.static arraycopyName) (List.mem_of_getElem? (i := 4) rfl)) ((dr_words hts d) (.initialized "java/lang/System") (List.mem_of_getElem? (i := 5) rfl)) (hK d) hP hD hS 25 10 0 0 rfl rfl rfl rfl rfl (by decide) (by decide) (by decide) (by decide) (by decide) (fun _ _ => rfl) (Nat.le_of_ble_eq_true rfl) (Nat.le_of_ble_eq_true rfl) dX1_becomeLike_147 (fun H locs hP hD hS => ?_)
  obtain ⟨A10, eA10, hsem⟩ := bd_some hsem
  have hP : va_P g.1 vwCl ((wH g ad A10 F) ++ (wH g adh Ah Fh)) H := by rw [eA10]; exact hP
  have hD : va_D Z ((wH g ad A10 F) ++ (wH g adh Ah Fh)) := by rw [eA10]; exact hD
  refine lv_aload_n hx hb dX1_becomeLike_150 rfl (lv_at hl 0 rfl) ?_
  refine va_get (D := g.1) (ci := 1) (v := .ref (ad 11)) (C := RX1) (T := TX1) (N := 18) hx hb (dr_words hts d) (fun w h => List.mem_cons_of_mem _ (List.mem_append_left _ (List.mem_append_right _ h))) (hown d) (hK d) hP 0 rfl rfl 10 (by decide) ((dr_words hts d) (.fieldLink RX1 45 "PauseRegions$Heap" "dirtyCards" "LPauseRegions$Row;") (List.mem_of_getElem? (i := 15) rfl)) (fun _ h9 => h9) rfl dX1_becomeLike_151 ?_
  refine lv_aload_n hx hb dX1_becomeLike_154 rfl (lv_at hl 1 rfl) ?_
  refine va_get (D := g.1) (ci := 1) (v := .ref (adh 11)) (C := RX1) (T := TX1) (N := 18) hx hb (dr_words hts d) (fun w h => List.mem_cons_of_mem _ (List.mem_append_left _ (List.mem_append_right _ h))) (hown d) (hK d) hP 15 rfl rfl 10 (by decide) ((dr_words hts d) (.fieldLink RX1 45 "PauseRegions$Heap" "dirtyCards" "LPauseRegions$Row;") (List.mem_of_getElem? (i := 15) rfl)) (fun _ h9 => h9) rfl dX1_becomeLike_155 ?_
  obtain ⟨z1, hc1, hsem⟩ := bn_some hsem
  refine mcVs (C := RX5) (As := [.ref (adh 11)]) (rest := []) (wr := (wH_11_12 g ad A10 F) ++ (wH_11_12 g adh Ah Fh)) ⟨hx, hb, hml, (hown d), (dr_words hts d)⟩ (hKK.drawn d) hP hD hS hZ [11, 12, 26, 27] [0, 1, 2, 3, 4, 5, 6, 7, 8, 9, 10, 13, 14, 15, 16, 17, 18, 19, 20, 21, 22, 23, 24, 25, 28, 29] rfl rfl (by decide) (by decide) (by decide) (cwV 1 (dr_words hts d) gX1_becomeLike_X5_becomeLike rfl rfl rfl hdX5_becomeLike ⟨Nat.le_of_ble_eq_true rfl, Nat.le_of_ble_eq_true rfl⟩) (kX5_becomeLike (l := l) (g := g) (a0 := (ad 11)) (a1 := (ad 12)) (f := (A10 10)) (n := (A10 18 0)) (a0h := (adh 11)) (a1h := (adh 12)) (fh := (Ah 10)) (nh := (Ah 18 0)) hc1) (va_recv (hK d) hP (ci := 5) (q0 := 11) rfl rfl) rfl hl.1 rfl (Nat.le_of_ble_eq_true rfl) dX1_becomeLike_158 ⟨Nat.zero_le _, Nat.zero_le _⟩ (fun H locs hP hD hS => ?_)
  obtain ⟨A11, eA11, hsem⟩ := bd_some hsem
  have hP : va_P g.1 vwCl ((wH g ad A11 F) ++ (wH g adh Ah Fh)) H := by rw [eA11]; exact hP.sub [0, 1, 2, 3, 4, 5, 6, 7, 8, 9, 10, 26, 27, 11, 12, 13, 14, 15, 16, 17, 18, 19, 20, 21, 22, 23, 28, 29, 24, 25] rfl
  have hD : va_D Z ((wH g ad A11 F) ++ (wH g adh Ah Fh)) := by rw [eA11]; exact hD.sub [0, 1, 2, 3, 4, 5, 6, 7, 8, 9, 10, 26, 27, 11, 12, 13, 14, 15, 16, 17, 18, 19, 20, 21, 22, 23, 28, 29, 24, 25] (by decide) rfl
  refine lv_aload_n hx hb dX1_becomeLike_161 rfl (lv_at hl 0 rfl) ?_
  refine va_get (D := g.1) (ci := 1) (v := .ref (ad 13)) (C := RX1) (T := TX1) (N := 18) hx hb (dr_words hts d) (fun w h => List.mem_cons_of_mem _ (List.mem_append_left _ (List.mem_append_right _ h))) (hown d) (hK d) hP 0 rfl rfl 11 (by decide) ((dr_words hts d) (.fieldLink RX1 49 "PauseRegions$Heap" "greyThings" "LPauseRegions$Row;") (List.mem_of_getElem? (i := 16) rfl)) (fun _ h9 => h9) rfl dX1_becomeLike_162 ?_
  refine lv_aload_n hx hb dX1_becomeLike_165 rfl (lv_at hl 1 rfl) ?_
  refine va_get (D := g.1) (ci := 1) (v := .ref (adh 13)) (C := RX1) (T := TX1) (N := 18) hx hb (dr_words hts d) (fun w h => List.mem_cons_of_mem _ (List.mem_append_left _ (List.mem_append_right _ h))) (hown d) (hK d) hP 15 rfl rfl 11 (by decide) ((dr_words hts d) (.fieldLink RX1 49 "PauseRegions$Heap" "greyThings" "LPauseRegions$Row;") (List.mem_of_getElem? (i := 16) rfl)) (fun _ h9 => h9) rfl dX1_becomeLike_166 ?_
  obtain ⟨z2, hc2, hsem⟩ := bn_some hsem
  refine mcVs (C := RX5) (As := [.ref (adh 13)]) (rest := []) (wr := (wH_13_14 g ad A11 F) ++ (wH_13_14 g adh Ah Fh)) ⟨hx, hb, hml, (hown d), (dr_words hts d)⟩ (hKK.drawn d) hP hD hS hZ [13, 14, 28, 29] [0, 1, 2, 3, 4, 5, 6, 7, 8, 9, 10, 11, 12, 15, 16, 17, 18, 19, 20, 21, 22, 23, 24, 25, 26, 27] rfl rfl (by decide) (by decide) (by decide) (cwV 1 (dr_words hts d) gX1_becomeLike_X5_becomeLike rfl rfl rfl hdX5_becomeLike ⟨Nat.le_of_ble_eq_true rfl, Nat.le_of_ble_eq_true rfl⟩) (kX5_becomeLike (l := l) (g := g) (a0 := (ad 13)) (a1 := (ad 14)) (f := (A11 11)) (n := (A11 19 0)) (a0h := (adh 13)) (a1h := (adh 14)) (fh := (Ah 11)) (nh := (Ah 19 0)) hc2) (va_recv (hK d) hP (ci := 5) (q0 := 13) rfl rfl) rfl hl.1 rfl (Nat.le_of_ble_eq_true rfl) dX1_becomeLike_169 ⟨Nat.zero_le _, Nat.zero_le _⟩ (fun H locs hP hD hS => ?_)
  obtain ⟨A12, eA12, hsem⟩ := bd_some hsem
  have hP : va_P g.1 vwCl ((wH g ad A12 F) ++ (wH g adh Ah Fh)) H := by rw [eA12]; exact hP.sub [0, 1, 2, 3, 4, 5, 6, 7, 8, 9, 10, 11, 12, 26, 27, 13, 14, 15, 16, 17, 18, 19, 20, 21, 22, 23, 24, 25, 28, 29] rfl
  have hD : va_D Z ((wH g ad A12 F) ++ (wH g adh Ah Fh)) := by rw [eA12]; exact hD.sub [0, 1, 2, 3, 4, 5, 6, 7, 8, 9, 10, 11, 12, 26, 27, 13, 14, 15, 16, 17, 18, 19, 20, 21, 22, 23, 24, 25, 28, 29] (by decide) rfl
  refine lv_aload_n hx hb dX1_becomeLike_172 rfl (lv_at hl 0 rfl) ?_
  refine lv_aload_n hx hb dX1_becomeLike_173 rfl (lv_at hl 1 rfl) ?_
  refine va_get (D := g.1) (ci := 1) (v := .int (Ah 12 0)) (C := RX1) (T := TX1) (N := 18) hx hb (dr_words hts d) (fun w h => List.mem_cons_of_mem _ (List.mem_append_left _ (List.mem_append_right _ h))) (hown d) (hK d) hP 15 rfl rfl 12 (by decide) ((dr_words hts d) (.fieldLink RX1 83 "PauseRegions$Heap" "marking" "Z") (List.mem_of_getElem? (i := 17) rfl)) (fun _ h9 => h9) rfl dX1_becomeLike_174 ?_
  obtain ⟨h1, hsem⟩ := ckb_some hsem
  refine va_put (D := g.1) (ci := 1) (v := .int (Ah 12 0)) (ty := .boolean) (C := RX1) (T := TX1) (N := 18) hx hb (dr_words hts d) (fun w h => List.mem_cons_of_mem _ (List.mem_append_left _ (List.mem_append_right _ h))) tyX1 tyX1_ok nmX1 (hown d) (hK d) hP hD hS 0 rfl rfl 12 (by decide) ((dr_words hts d) (.fieldLink RX1 83 "PauseRegions$Heap" "marking" "Z") (List.mem_of_getElem? (i := 17) rfl)) (fun _ h9 => h9) rfl (by decide +kernel) (nar_bool h1) (fit_bool h1) (Nat.le_of_ble_eq_true rfl) dX1_becomeLike_177 (fun H locs hP hD hS => ?_)
  obtain ⟨A13, eA13, hsem⟩ := bd_some hsem
  have hP : va_P g.1 vwCl ((wH g ad A13 F) ++ (wH g adh Ah Fh)) H := by rw [eA13]; exact hP
  have hD : va_D Z ((wH g ad A13 F) ++ (wH g adh Ah Fh)) := by rw [eA13]; exact hD
  refine lv_aload_n hx hb dX1_becomeLike_180 rfl (lv_at hl 0 rfl) ?_
  refine lv_aload_n hx hb dX1_becomeLike_181 rfl (lv_at hl 1 rfl) ?_
  refine va_get (D := g.1) (ci := 1) (v := .int (Ah 13 0)) (C := RX1) (T := TX1) (N := 18) hx hb (dr_words hts d) (fun w h => List.mem_cons_of_mem _ (List.mem_append_left _ (List.mem_append_right _ h))) (hown d) (hK d) hP 15 rfl rfl 13 (by decide) ((dr_words hts d) (.fieldLink RX1 52 "PauseRegions$Heap" "latestYoung" "I") (List.mem_of_getElem? (i := 18) rfl)) (fun _ h9 => h9) rfl dX1_becomeLike_182 ?_
  refine va_put (D := g.1) (ci := 1) (v := .int (Ah 13 0)) (ty := .int) (C := RX1) (T := TX1) (N := 18) hx hb (dr_words hts d) (fun w h => List.mem_cons_of_mem _ (List.mem_append_left _ (List.mem_append_right _ h))) tyX1 tyX1_ok nmX1 (hown d) (hK d) hP hD hS 0 rfl rfl 13 (by decide) ((dr_words hts d) (.fieldLink RX1 52 "PauseRegions$Heap" "latestYoung" "I") (List.mem_of_getElem? (i := 18) rfl)) (fun _ h9 => h9) rfl (by decide +kernel) rfl rfl (Nat.le_of_ble_eq_true rfl) dX1_becomeLike_185 (fun H locs hP hD hS => ?_)
  obtain ⟨A14, eA14, hsem⟩ := bd_some hsem
  have hP : va_P g.1 vwCl ((wH g ad A14 F) ++ (wH g adh Ah Fh)) H := by rw [eA14]; exact hP
  have hD : va_D Z ((wH g ad A14 F) ++ (wH g adh Ah Fh)) := by rw [eA14]; exact hD
  refine lv_aload_n hx hb dX1_becomeLike_188 rfl (lv_at hl 0 rfl) ?_
  refine lv_aload_n hx hb dX1_becomeLike_189 rfl (lv_at hl 1 rfl) ?_
  refine va_get (D := g.1) (ci := 1) (v := .float (Fh 14 0)) (C := RX1) (T := TX1) (N := 18) hx hb (dr_words hts d) (fun w h => List.mem_cons_of_mem _ (List.mem_append_left _ (List.mem_append_right _ h))) (hown d) (hK d) hP 15 rfl rfl 14 (by decide) ((dr_words hts d) (.fieldLink RX1 56 "PauseRegions$Heap" "rate" "F") (List.mem_of_getElem? (i := 19) rfl)) (fun _ h9 => h9) rfl dX1_becomeLike_190 ?_
  refine va_put (D := g.1) (ci := 1) (v := .float (Fh 14 0)) (ty := .float) (C := RX1) (T := TX1) (N := 18) hx hb (dr_words hts d) (fun w h => List.mem_cons_of_mem _ (List.mem_append_left _ (List.mem_append_right _ h))) tyX1 tyX1_ok nmX1 (hown d) (hK d) hP hD hS 0 rfl rfl 14 (by decide) ((dr_words hts d) (.fieldLink RX1 56 "PauseRegions$Heap" "rate" "F") (List.mem_of_getElem? (i := 19) rfl)) (fun _ h9 => h9) rfl (by decide +kernel) rfl rfl (Nat.le_of_ble_eq_true rfl) dX1_becomeLike_193 (fun H locs hP hD hS => ?_)
  obtain ⟨F1, eF1⟩ : ∃ z, z = scF F 14 (Fh 14 0) := ⟨_, rfl⟩
  obtain ⟨F1c, eF1c, hsem⟩ := bd_some hsem
  have haF1 : AL F1 F1c := by rw [eF1, eF1c]; exact AL.sc hAL (hALh 14 0)
  have hP : va_P g.1 vwCl ((wH g ad A14 F1) ++ (wH g adh Ah Fh)) H := by rw [eF1]; exact hP
  have hD : va_D Z ((wH g ad A14 F1) ++ (wH g adh Ah Fh)) := by rw [eF1]; exact hD
  refine lv_aload_n hx hb dX1_becomeLike_196 rfl (lv_at hl 0 rfl) ?_
  refine lv_aload_n hx hb dX1_becomeLike_197 rfl (lv_at hl 1 rfl) ?_
  refine va_get (D := g.1) (ci := 1) (v := .float (Fh 15 0)) (C := RX1) (T := TX1) (N := 18) hx hb (dr_words hts d) (fun w h => List.mem_cons_of_mem _ (List.mem_append_left _ (List.mem_append_right _ h))) (hown d) (hK d) hP 15 rfl rfl 15 (by decide) ((dr_words hts d) (.fieldLink RX1 61 "PauseRegions$Heap" "yielded" "F") (List.mem_of_getElem? (i := 20) rfl)) (fun _ h9 => h9) rfl dX1_becomeLike_198 ?_
  refine va_put (D := g.1) (ci := 1) (v := .float (Fh 15 0)) (ty := .float) (C := RX1) (T := TX1) (N := 18) hx hb (dr_words hts d) (fun w h => List.mem_cons_of_mem _ (List.mem_append_left _ (List.mem_append_right _ h))) tyX1 tyX1_ok nmX1 (hown d) (hK d) hP hD hS 0 rfl rfl 15 (by decide) ((dr_words hts d) (.fieldLink RX1 61 "PauseRegions$Heap" "yielded" "F") (List.mem_of_getElem? (i := 20) rfl)) (fun _ h9 => h9) rfl (by decide +kernel) rfl rfl (Nat.le_of_ble_eq_true rfl) dX1_becomeLike_201 (fun H locs hP hD hS => ?_)
  obtain ⟨F2, eF2⟩ : ∃ z, z = scF F1 15 (Fh 15 0) := ⟨_, rfl⟩
  obtain ⟨F2c, eF2c, hsem⟩ := bd_some hsem
  have haF2 : AL F2 F2c := by rw [eF2, eF2c]; exact AL.sc haF1 (hALh 15 0)
  have hP : va_P g.1 vwCl ((wH g ad A14 F2) ++ (wH g adh Ah Fh)) H := by rw [eF2]; exact hP
  have hD : va_D Z ((wH g ad A14 F2) ++ (wH g adh Ah Fh)) := by rw [eF2]; exact hD
  refine lv_aload_n hx hb dX1_becomeLike_204 rfl (lv_at hl 0 rfl) ?_
  refine lv_aload_n hx hb dX1_becomeLike_205 rfl (lv_at hl 1 rfl) ?_
  refine va_get (D := g.1) (ci := 1) (v := .int (Ah 16 0)) (C := RX1) (T := TX1) (N := 18) hx hb (dr_words hts d) (fun w h => List.mem_cons_of_mem _ (List.mem_append_left _ (List.mem_append_right _ h))) (hown d) (hK d) hP 15 rfl rfl 16 (by decide) ((dr_words hts d) (.fieldLink RX1 87 "PauseRegions$Heap" "pauseCount" "I") (List.mem_of_getElem? (i := 21) rfl)) (fun _ h9 => h9) rfl dX1_becomeLike_206 ?_
  refine va_put (D := g.1) (ci := 1) (v := .int (Ah 16 0)) (ty := .int) (C := RX1) (T := TX1) (N := 18) hx hb (dr_words hts d) (fun w h => List.mem_cons_of_mem _ (List.mem_append_left _ (List.mem_append_right _ h))) tyX1 tyX1_ok nmX1 (hown d) (hK d) hP hD hS 0 rfl rfl 16 (by decide) ((dr_words hts d) (.fieldLink RX1 87 "PauseRegions$Heap" "pauseCount" "I") (List.mem_of_getElem? (i := 21) rfl)) (fun _ h9 => h9) rfl (by decide +kernel) rfl rfl (Nat.le_of_ble_eq_true rfl) dX1_becomeLike_209 (fun H locs hP hD hS => ?_)
  obtain ⟨A15, eA15, hsem⟩ := bd_some hsem
  have hP : va_P g.1 vwCl ((wH g ad A15 F2) ++ (wH g adh Ah Fh)) H := by rw [eA15]; exact hP
  have hD : va_D Z ((wH g ad A15 F2) ++ (wH g adh Ah Fh)) := by rw [eA15]; exact hD
  refine lv_aload_n hx hb dX1_becomeLike_212 rfl (lv_at hl 0 rfl) ?_
  refine lv_aload_n hx hb dX1_becomeLike_213 rfl (lv_at hl 1 rfl) ?_
  refine va_get (D := g.1) (ci := 1) (v := .int (Ah 17 0)) (C := RX1) (T := TX1) (N := 18) hx hb (dr_words hts d) (fun w h => List.mem_cons_of_mem _ (List.mem_append_left _ (List.mem_append_right _ h))) (hown d) (hK d) hP 15 rfl rfl 17 (by decide) ((dr_words hts d) (.fieldLink RX1 64 "PauseRegions$Heap" "lastCost" "I") (List.mem_of_getElem? (i := 22) rfl)) (fun _ h9 => h9) rfl dX1_becomeLike_214 ?_
  refine va_put (D := g.1) (ci := 1) (v := .int (Ah 17 0)) (ty := .int) (C := RX1) (T := TX1) (N := 18) hx hb (dr_words hts d) (fun w h => List.mem_cons_of_mem _ (List.mem_append_left _ (List.mem_append_right _ h))) tyX1 tyX1_ok nmX1 (hown d) (hK d) hP hD hS 0 rfl rfl 17 (by decide) ((dr_words hts d) (.fieldLink RX1 64 "PauseRegions$Heap" "lastCost" "I") (List.mem_of_getElem? (i := 22) rfl)) (fun _ h9 => h9) rfl (by decide +kernel) rfl rfl (Nat.le_of_ble_eq_true rfl) dX1_becomeLike_217 (fun H locs hP hD hS => ?_)
  obtain ⟨A16, eA16, hsem⟩ := bd_some hsem
  have hP : va_P g.1 vwCl ((wH g ad A16 F2) ++ (wH g adh Ah Fh)) H := by rw [eA16]; exact hP
  have hD : va_D Z ((wH g ad A16 F2) ++ (wH g adh Ah Fh)) := by rw [eA16]; exact hD
  have eo := (Option.some.inj hsem).symm.symm
  refine W.endD hdr ?_
  subst eo
  exact W.vret hx hb hr (fun t ht hW => ⟨⟨F2, rfl, haF2, ⟨by rw [ht]; exact hP, hD⟩⟩, hS.F ht⟩) hS.2.2 dX1_becomeLike_220
def sX1_isThere (A : IA) (p0 : Int32) : Option (Int32) :=
  ck p0 32 (if ((A 4) p0.toNatClampNeg) ≤ 0 then (some 0) else (some 1))
abbrev rmX1_isThere : Room := { frames := 0, cells := 0, slots := 0, locals := 0 }
theorem hdX1_isThere : yX1_isThere.cls = RX1 ∧ yX1_isThere.cls ≠ "java/lang/invoke/MethodHandle" ∧ yX1_isThere.cls ≠ "java/lang/invoke/VarHandle" ∧ (parseMethodDescriptor yX1_isThere.desc).map (fun d => d.parameters.length) = some 1 := by decide +kernel
set_option maxHeartbeats 4000000 in
set_option maxRecDepth 100000 in
theorem kX1_isThere {l : Launch} {g : GG} {H0 : Heap} {ad : Nat → Nat} {A : IA} {F : FA} {p0 : Int32} {b : Int32} (hP : va_P g.1 vwCl (wH g ad A F) H0) (hsem : sX1_isThere A p0 = some b) : MetP l yX1_isThere wsX1_isThere rmX1_isThere g H0 [.ref (ad 0), .int p0] b := by
  refine Met.ofW (cc := cX1_isThere) (maxL := 2) (ret := (some .boolean)) (by decide) rfl ?_
  intro p e s m args below meth c s₁ B hml hv
  obtain ⟨rfl, hH, hKK⟩ := hv
  subst hH
  have hx := B.exec
  have hb := B.bytes
  have hr := B.returns
  have hts := atoms_spec (ws := wsX1_isThere) B.pre
  have hown : s.vm.findClass RX1 = some m.cls := findClass_of_methodNamed B.named
  have hlocks := B.notSynchronized
  have hK := hKK.1
  have hl := lv_entry ([.ref (ad 0), .int p0]) (n := 2) (Nat.le_of_ble_eq_true rfl)
  rw [lg_entry_eq]
  generalize (lg_sl ([.ref (ad 0), .int p0]) ++ List.replicate (2 - (lg_sl ([.ref (ad 0), .int p0])).length) Slot.unset).toArray = ls at hl ⊢
  have hl : lv_has ls 2 [(0, .ref (ad 0)), (1, .int p0)] := hl
  unfold sX1_isThere at hsem
  refine lv_aload_n hx hb dX1_isThere_0 rfl (lv_at hl 0 rfl) ?_
  refine va_get (D := g.1) (ci := 1) (v := .ref (ad 5)) (C := RX1) (T := TX1) (N := 18) hx hb hts (fun w h => List.mem_cons_of_mem _ (List.mem_append_right _ h)) hown hK hP 0 rfl rfl 4 (by decide) (hts (.fieldLink RX1 24 "PauseRegions$Heap" "size" "[I") (List.mem_of_getElem? (i := 1) rfl)) (fun _ h9 => h9) rfl dX1_isThere_1 ?_
  refine lv_iload_n hx hb dX1_isThere_4 rfl (lv_at hl 1 rfl) ?_
  obtain ⟨h1, hsem⟩ := ck_some hsem
  refine va_iald (D := g.1) hx hb hK hP 5 0 rfl rfl h1 dX1_isThere_5 ?_
  refine lv_if_le (tgt := 13) hx hb dX1_isThere_6 (by decide) (fun c1 => ?_) (fun c1 => ?_)
  · rw [if_pos c1] at hsem
    refine lv_iconst (v := 0) hx hb dX1_isThere_13 (by decide) ?_
    have eo := (Option.some.inj hsem).symm.symm
    exact W.zret (v := 0) hx hb hr rfl (fun t ht hW => ⟨⟨_, (), rfl, eo, ht⟩, (va_S.rf (A := fun _ => False) (H0 := s.heap)).F ht⟩) (fun q hq => absurd hq List.not_mem_nil) dX1_isThere_14
  · rw [if_neg c1] at hsem
    refine lv_iconst (v := 1) hx hb dX1_isThere_9 (by decide) ?_
    refine lv_goto (tgt := 14) hx hb dX1_isThere_10 (by decide) ?_
    have eo := (Option.some.inj hsem).symm.symm
    exact W.zret (v := 1) hx hb hr rfl (fun t ht hW => ⟨⟨_, (), rfl, eo, ht⟩, (va_S.rf (A := fun _ => False) (H0 := s.heap)).F ht⟩) (fun q hq => absurd hq List.not_mem_nil) dX1_isThere_14
def sX1_isIn (A : IA) (p0 : Int32) (p1 : Int32) : Option (Int32) :=
  (sX1_isThere A p0).bind fun x1 => if x1 = 0 then (some 0) else (ck p0 32 (if ((A 5) p0.toNatClampNeg) = p1 then (some 1) else (some 0)))
abbrev rmX1_isIn : Room := { frames := 1, cells := 0, slots := 0, locals := 21 }
theorem hdX1_isIn : yX1_isIn.cls = RX1 ∧ yX1_isIn.cls ≠ "java/lang/invoke/MethodHandle" ∧ yX1_isIn.cls ≠ "java/lang/invoke/VarHandle" ∧ (parseMethodDescriptor yX1_isIn.desc).map (fun d => d.parameters.length) = some 2 := by decide +kernel
set_option maxHeartbeats 4000000 in
set_option maxRecDepth 100000 in
theorem kX1_isIn {l : Launch} {g : GG} {H0 : Heap} {ad : Nat → Nat} {A : IA} {F : FA} {p0 p1 : Int32} {b : Int32} (hP : va_P g.1 vwCl (wH g ad A F) H0) (hsem : sX1_isIn A p0 p1 = some b) : MetP l yX1_isIn wsX1_isIn rmX1_isIn g H0 [.ref (ad 0), .int p0, .int p1] b := by
  refine Met.ofW (cc := cX1_isIn) (maxL := 3) (ret := (some .boolean)) (by decide) rfl ?_
  intro p e s m args below meth c s₁ B hml hv
  obtain ⟨rfl, hH, hKK⟩ := hv
  subst hH
  have hx := B.exec
  have hb := B.bytes
  have hr := B.returns
  have hts := atoms_spec (ws := wsX1_isIn) B.pre
  have hown : s.vm.findClass RX1 = some m.cls := findClass_of_methodNamed B.named
  have hlocks := B.notSynchronized
  have hK := hKK.1
  have hl := lv_entry ([.ref (ad 0), .int p0, .int p1]) (n := 3) (Nat.le_of_ble_eq_true rfl)
  rw [lg_entry_eq]
  generalize (lg_sl ([.ref (ad 0), .int p0, .int p1]) ++ List.replicate (3 - (lg_sl ([.ref (ad 0), .int p0, .int p1])).length) Slot.unset).toArray = ls at hl ⊢
  have hl : lv_has ls 3 [(0, .ref (ad 0)), (1, .int p0), (2, .int p1)] := hl
  unfold sX1_isIn at hsem
  refine lv_aload_n hx hb dX1_isIn_0 rfl (lv_at hl 0 rfl) ?_
  refine lv_iload_n hx hb dX1_isIn_1 rfl (lv_at hl 1 rfl) ?_
  obtain ⟨x1, hc1, hsem⟩ := bn_some hsem
  refine pcV (C := RX1) (As := [.int p0]) (rest := []) ⟨hx, hb, hml, hown, hts⟩ hKK (cwV 1 hts gX1_isIn_X1_isThere rfl rfl rfl hdX1_isThere ⟨Nat.le_of_ble_eq_true rfl, Nat.le_of_ble_eq_true rfl⟩) (kX1_isThere (l := l) (g := g) hP hc1) (va_recv hK hP (ci := 1) (q0 := 0) rfl rfl) rfl hl.1 rfl (Nat.le_of_ble_eq_true rfl) dX1_isIn_2 ⟨Nat.zero_le _, Nat.zero_le _⟩ ?_
  refine lv_if_eq (tgt := 22) hx hb dX1_isIn_5 (by decide) (fun c1 => ?_) (fun c1 => ?_)
  · rw [if_pos c1] at hsem
    refine lv_iconst (v := 0) hx hb dX1_isIn_22 (by decide) ?_
    have eo := (Option.some.inj hsem).symm.symm
    exact W.zret (v := 0) hx hb hr rfl (fun t ht hW => ⟨⟨_, (), rfl, eo, ht⟩, (va_S.rf (A := fun _ => False) (H0 := s.heap)).F ht⟩) (fun q hq => absurd hq List.not_mem_nil) dX1_isIn_23
  · rw [if_neg c1] at hsem
    refine lv_aload_n hx hb dX1_isIn_8 rfl (lv_at hl 0 rfl) ?_
    refine va_get (D := g.1) (ci := 1) (v := .ref (ad 6)) (C := RX1) (T := TX1) (N := 18) hx hb hts (fun w h => List.mem_cons_of_mem _ (List.mem_append_right _ h)) hown hK hP 0 rfl rfl 5 (by decide) (hts (.fieldLink RX1 27 "PauseRegions$Heap" "place" "[I") (List.mem_of_getElem? (i := 1) rfl)) (fun _ h9 => h9) rfl dX1_isIn_9 ?_
    refine lv_iload_n hx hb dX1_isIn_12 rfl (lv_at hl 1 rfl) ?_
    obtain ⟨h1, hsem⟩ := ck_some hsem
    refine va_iald (D := g.1) hx hb hK hP 6 0 rfl rfl h1 dX1_isIn_13 ?_
    refine lv_iload_n hx hb dX1_isIn_14 rfl (lv_at hl 2 rfl) ?_
    refine lv_icmp_ne (tgt := 22) hx hb dX1_isIn_15 (by decide) (fun c2 => ?_) (fun c2 => ?_)
    · rw [if_neg c2] at hsem
      refine lv_iconst (v := 0) hx hb dX1_isIn_22 (by decide) ?_
      have eo := (Option.some.inj hsem).symm.symm
      exact W.zret (v := 0) hx hb hr rfl (fun t ht hW => ⟨⟨_, (), rfl, eo, ht⟩, (va_S.rf (A := fun _ => False) (H0 := s.heap)).F ht⟩) (fun q hq => absurd hq List.not_mem_nil) dX1_isIn_23
    · rw [if_pos c2] at hsem
      refine lv_iconst (v := 1) hx hb dX1_isIn_18 (by decide) ?_
      refine lv_goto (tgt := 23) hx hb dX1_isIn_19 (by decide) ?_
      have eo := (Option.some.inj hsem).symm.symm
      exact W.zret (v := 1) hx hb hr rfl (fun t ht hW => ⟨⟨_, (), rfl, eo, ht⟩, (va_S.rf (A := fun _ => False) (H0 := s.heap)).F ht⟩) (fun q hq => absurd hq List.not_mem_nil) dX1_isIn_23
def sX1_blackCells_L4 (A : IA) (p0 : Int32) (q1 : Int32 × Int32) : Option ((Int32 × Int32) ⊕ (Int32)) :=
  if 32 ≤ q1.2 then (some (.inr q1.1)) else ((sX1_isIn A q1.2 p0).bind fun x1 => if x1 = 0 then (some (.inl (q1.1, q1.2 + 1))) else (ck q1.2 32 (if ((A 8) q1.2.toNatClampNeg) = 2 then (ck q1.2 32 (bd (q1.1 + ((A 4) q1.2.toNatClampNeg)) fun x2 => some (.inl (x2, q1.2 + 1)))) else (some (.inl (q1.1, q1.2 + 1))))))
def sX1_blackCells (A : IA) (p0 : Int32) : Option (Int32) :=
  (loopN (sX1_blackCells_L4 A p0) 2000 (0, 0)).bind fun q2 => some q2
abbrev rmX1_blackCells : Room := { frames := 2, cells := 0, slots := 0, locals := 43 }
theorem hdX1_blackCells : yX1_blackCells.cls = RX1 ∧ yX1_blackCells.cls ≠ "java/lang/invoke/MethodHandle" ∧ yX1_blackCells.cls ≠ "java/lang/invoke/VarHandle" ∧ (parseMethodDescriptor yX1_blackCells.desc).map (fun d => d.parameters.length) = some 1 := by decide +kernel
set_option maxHeartbeats 4000000 in
set_option maxRecDepth 100000 in
theorem kX1_blackCells {l : Launch} {g : GG} {H0 : Heap} {ad : Nat → Nat} {A : IA} {F : FA} {p0 : Int32} {b : Int32} (hP : va_P g.1 vwCl (wH g ad A F) H0) (hsem : sX1_blackCells A p0 = some b) : MetP l yX1_blackCells wsX1_blackCells rmX1_blackCells g H0 [.ref (ad 0), .int p0] b := by
  refine Met.ofW (cc := cX1_blackCells) (maxL := 4) (ret := (some .int)) (by decide) rfl ?_
  intro p e s m args below meth c s₁ B hml hv
  obtain ⟨rfl, hH, hKK⟩ := hv
  subst hH
  have hx := B.exec
  have hb := B.bytes
  have hr := B.returns
  have hts := atoms_spec (ws := wsX1_blackCells) B.pre
  have hown : s.vm.findClass RX1 = some m.cls := findClass_of_methodNamed B.named
  have hlocks := B.notSynchronized
  have hK := hKK.1
  have hl := lv_entry ([.ref (ad 0), .int p0]) (n := 4) (Nat.le_of_ble_eq_true rfl)
  rw [lg_entry_eq]
  generalize (lg_sl ([.ref (ad 0), .int p0]) ++ List.replicate (4 - (lg_sl ([.ref (ad 0), .int p0])).length) Slot.unset).toArray = ls at hl ⊢
  have hl : lv_has ls 4 [(0, .ref (ad 0)), (1, .int p0)] := hl
  unfold sX1_blackCells at hsem
  refine lv_iconst (v := 0) hx hb dX1_blackCells_0 (by decide) ?_
  refine lv_istore_n (lv' := [(2, .int 0), (0, .ref (ad 0)), (1, .int p0)]) hx hb dX1_blackCells_1 rfl hl (by decide) rfl (fun ls hl => ?_)
  refine lv_iconst (v := 0) hx hb dX1_blackCells_2 (by decide) ?_
  refine lv_istore_n (lv' := [(3, .int 0), (2, .int 0), (0, .ref (ad 0)), (1, .int p0)]) hx hb dX1_blackCells_3 rfl hl (by decide) rfl (fun ls hl => ?_)
  obtain ⟨q2, hc2, hsem⟩ := bn_some hsem
  refine loopP hc2 (fun (q1 : Int32 × Int32) => [(3, .int q1.2), (2, .int q1.1), (0, .ref (ad 0)), (1, .int p0)]) (fun (q1 : Int32) => [(2, .int q1)]) (exit := 44) (lv_sub hl [0, 1, 2, 3] rfl) (fun ls hl => ?_) (fun q1 r hst1 hin1 hout1 ls hl => ?_)
  · skip
    refine lv_iload_n hx hb dX1_blackCells_44 rfl (lv_at hl 0 rfl) ?_
    have eo := (Option.some.inj hsem).symm.symm
    exact W.iret (v := q2) hx hb hr (fun t ht hW => ⟨⟨_, (), rfl, eo, ht⟩, (va_S.rf (A := fun _ => False) (H0 := s.heap)).F ht⟩) (fun q hq => absurd hq List.not_mem_nil) dX1_blackCells_45
  · unfold sX1_blackCells_L4 at hst1
    refine lv_iload_n hx hb dX1_blackCells_4 rfl (lv_at hl 0 rfl) ?_
    refine lv_bipush (v := 32) hx hb dX1_blackCells_5 (by decide) ?_
    refine lv_icmp_ge (tgt := 44) hx hb dX1_blackCells_7 (by decide) (fun c1 => ?_) (fun c1 => ?_)
    · rw [if_pos c1] at hst1
      exact hout1 ls _ (Option.some.inj hst1).symm (lv_sub hl [1] rfl)
    · rw [if_neg c1] at hst1
      refine lv_aload_n hx hb dX1_blackCells_10 rfl (lv_at hl 2 rfl) ?_
      refine lv_iload_n hx hb dX1_blackCells_11 rfl (lv_at hl 0 rfl) ?_
      refine lv_iload_n hx hb dX1_blackCells_12 rfl (lv_at hl 3 rfl) ?_
      obtain ⟨x1, hc1, hst1⟩ := bn_some hst1
      refine pcV (C := RX1) (As := [.int q1.2, .int p0]) (rest := []) ⟨hx, hb, hml, hown, hts⟩ hKK (cwV 2 hts gX1_blackCells_X1_isIn rfl rfl rfl hdX1_isIn ⟨Nat.le_of_ble_eq_true rfl, Nat.le_of_ble_eq_true rfl⟩) (kX1_isIn (l := l) (g := g) hP hc1) (va_recv hK hP (ci := 1) (q0 := 0) rfl rfl) rfl hl.1 rfl (Nat.le_of_ble_eq_true rfl) dX1_blackCells_13 ⟨Nat.zero_le _, Nat.zero_le _⟩ ?_
      refine lv_if_eq (tgt := 38) hx hb dX1_blackCells_16 (by decide) (fun c2 => ?_) (fun c2 => ?_)
      · rw [if_pos c2] at hst1
        refine lv_iinc (v := q1.2 + 1) (lv' := [(3, .int (q1.2 + 1)), (2, .int q1.1), (0, .ref (ad 0)), (1, .int p0)]) hx hb dX1_blackCells_38 hl (k := 0) rfl rfl (by decide) rfl (fun ls hl => ?_)
        refine lv_goto (tgt := 4) hx hb dX1_blackCells_41 (by decide) ?_
        exact hin1 ls _ (Option.some.inj hst1).symm (lv_sub hl [0, 1, 2, 3] rfl)
      · rw [if_neg c2] at hst1
        refine lv_aload_n hx hb dX1_blackCells_19 rfl (lv_at hl 2 rfl) ?_
        refine va_get (D := g.1) (ci := 1) (v := .ref (ad 9)) (C := RX1) (T := TX1) (N := 18) hx hb hts (fun w h => List.mem_cons_of_mem _ (List.mem_append_right _ h)) hown hK hP 0 rfl rfl 8 (by decide) (hts (.fieldLink RX1 36 "PauseRegions$Heap" "colour" "[I") (List.mem_of_getElem? (i := 1) rfl)) (fun _ h9 => h9) rfl dX1_blackCells_20 ?_
        refine lv_iload_n hx hb dX1_blackCells_23 rfl (lv_at hl 0 rfl) ?_
        obtain ⟨h1, hst1⟩ := ck_some hst1
        refine va_iald (D := g.1) hx hb hK hP 9 0 rfl rfl h1 dX1_blackCells_24 ?_
        refine lv_iconst (v := 2) hx hb dX1_blackCells_25 (by decide) ?_
        refine lv_icmp_ne (tgt := 38) hx hb dX1_blackCells_26 (by decide) (fun c3 => ?_) (fun c3 => ?_)
        · rw [if_neg c3] at hst1
          refine lv_iinc (v := q1.2 + 1) (lv' := [(3, .int (q1.2 + 1)), (2, .int q1.1), (0, .ref (ad 0)), (1, .int p0)]) hx hb dX1_blackCells_38 hl (k := 0) rfl rfl (by decide) rfl (fun ls hl => ?_)
          refine lv_goto (tgt := 4) hx hb dX1_blackCells_41 (by decide) ?_
          exact hin1 ls _ (Option.some.inj hst1).symm (lv_sub hl [0, 1, 2, 3] rfl)
        · rw [if_pos c3] at hst1
          refine lv_iload_n hx hb dX1_blackCells_29 rfl (lv_at hl 1 rfl) ?_
          refine lv_aload_n hx hb dX1_blackCells_30 rfl (lv_at hl 2 rfl) ?_
          refine va_get (D := g.1) (ci := 1) (v := .ref (ad 5)) (C := RX1) (T := TX1) (N := 18) hx hb hts (fun w h => List.mem_cons_of_mem _ (List.mem_append_right _ h)) hown hK hP 0 rfl rfl 4 (by decide) (hts (.fieldLink RX1 24 "PauseRegions$Heap" "size" "[I") (List.mem_of_getElem? (i := 2) rfl)) (fun _ h9 => h9) rfl dX1_blackCells_31 ?_
          refine lv_iload_n hx hb dX1_blackCells_34 rfl (lv_at hl 0 rfl) ?_
          obtain ⟨h2, hst1⟩ := ck_some hst1
          refine va_iald (D := g.1) hx hb hK hP 5 0 rfl rfl h2 dX1_blackCells_35 ?_
          refine lv_iadd hx hb dX1_blackCells_36 ?_
          obtain ⟨x2, ex2, hst1⟩ := bd_some hst1
          rw [← ex2]
          refine lv_istore_n (lv' := [(2, .int x2), (3, .int q1.2), (0, .ref (ad 0)), (1, .int p0)]) hx hb dX1_blackCells_37 rfl hl (by decide) rfl (fun ls hl => ?_)
          refine lv_iinc (v := q1.2 + 1) (lv' := [(3, .int (q1.2 + 1)), (2, .int x2), (0, .ref (ad 0)), (1, .int p0)]) hx hb dX1_blackCells_38 hl (k := 1) rfl rfl (by decide) rfl (fun ls hl => ?_)
          refine lv_goto (tgt := 4) hx hb dX1_blackCells_41 (by decide) ?_
          exact hin1 ls _ (Option.some.inj hst1).symm (lv_sub hl [0, 1, 2, 3] rfl)
def sX1_endThing_L9 (p0 : Int32) (q1 : Int32 × IA) : Option ((Int32 × IA) ⊕ (IA)) :=
  if 64 ≤ q1.1 then (some (.inr q1.2)) else (ck q1.1 64 (if ((q1.2 7) q1.1.toNatClampNeg) = p0 then (ck q1.1 64 (bd (wr q1.2 7 q1.1.toNatClampNeg (-5)) fun A2 => some (.inl (q1.1 + 1, A2)))) else (some (.inl (q1.1 + 1, q1.2)))))
def sX1_endThing (A : IA) (p0 : Int32) : Option (IA) :=
  ck p0 32 (bd (wr A 4 p0.toNatClampNeg 0) fun A1 => (loopN (sX1_endThing_L9 p0) 2000 (0, A1)).bind fun q2 => some q2)
abbrev rmX1_endThing : Room := { frames := 0, cells := 0, slots := 0, locals := 0 }
theorem hdX1_endThing : yX1_endThing.cls = RX1 ∧ yX1_endThing.cls ≠ "java/lang/invoke/MethodHandle" ∧ yX1_endThing.cls ≠ "java/lang/invoke/VarHandle" ∧ (parseMethodDescriptor yX1_endThing.desc).map (fun d => d.parameters.length) = some 1 := by decide +kernel
set_option maxHeartbeats 4000000 in
set_option maxRecDepth 100000 in
theorem kX1_endThing {l : Launch} {g : GG} {sz : Nat} {ad : Nat → Nat} {A : IA} {F : FA} {p0 : Int32} {b : IA} (hsem : sX1_endThing A p0 = some b) : MetV l yX1_endThing wsX1_endThing rmX1_endThing g [.ref (ad 0), .int p0] (wH g ad A F) sz (wH g ad b F) := by
  refine Met.ofW (cc := cX1_endThing) (maxL := 3) (ret := none) (by decide) rfl ?_
  intro p e s m args below meth c s₁ B hml hv
  obtain ⟨rfl, hsz, hP, hD0, hKK⟩ := hv
  subst hsz
  have hx := B.exec
  have hb := B.bytes
  have hr := B.returns
  have hts := atoms_spec (ws := wsX1_endThing) B.pre
  have hown : s.vm.findClass RX1 = some m.cls := findClass_of_methodNamed B.named
  have hlocks := B.notSynchronized
  have hK := hKK.1
  have hD := hD0.self (sz := s.heap.size)
  generalize hZe : va_A (wH g ad A F) s.heap.size = Z at hD ⊢
  have hZ : ∀ q : Nat, s.heap.size ≤ q → Z q := fun q h => by rw [← hZe]; exact Or.inr h
  have hS : va_S Z s.heap s.heap [] := va_S.rf
  have hP : va_P g.1 vwCl (wH g ad A F) s.heap := hP
  have hD : va_D Z (wH g ad A F) := hD
  have hl := lv_entry ([.ref (ad 0), .int p0]) (n := 3) (Nat.le_of_ble_eq_true rfl)
  rw [lg_entry_eq]
  generalize (lg_sl ([.ref (ad 0), .int p0]) ++ List.replicate (3 - (lg_sl ([.ref (ad 0), .int p0])).length) Slot.unset).toArray = ls at hl ⊢
  have hl : lv_has ls 3 [(0, .ref (ad 0)), (1, .int p0)] := hl
  unfold sX1_endThing at hsem
  refine lv_aload_n hx hb dX1_endThing_0 rfl (lv_at hl 0 rfl) ?_
  refine va_get (D := g.1) (ci := 1) (v := .ref (ad 5)) (C := RX1) (T := TX1) (N := 18) hx hb hts (fun w h => List.mem_cons_of_mem _ (List.mem_append_right _ h)) hown hK hP 0 rfl rfl 4 (by decide) (hts (.fieldLink RX1 24 "PauseRegions$Heap" "size" "[I") (List.mem_of_getElem? (i := 1) rfl)) (fun _ h9 => h9) rfl dX1_endThing_1 ?_
  refine lv_iload_n hx hb dX1_endThing_4 rfl (lv_at hl 1 rfl) ?_
  refine lv_iconst (v := 0) hx hb dX1_endThing_5 (by decide) ?_
  obtain ⟨h1, hsem⟩ := ck_some hsem
  refine va_iast (D := g.1) hx hb hK hP hD hS 5 0 rfl rfl h1 dX1_endThing_6 (fun H locs hP hD hS => ?_)
  obtain ⟨A1, eA1, hsem⟩ := bd_some hsem
  have hP : va_P g.1 vwCl (wH g ad A1 F) H := by rw [eA1]; exact hP
  have hD : va_D Z (wH g ad A1 F) := by rw [eA1]; exact hD
  refine lv_iconst (v := 0) hx hb dX1_endThing_7 (by decide) ?_
  refine lv_istore_n (lv' := [(2, .int 0), (0, .ref (ad 0)), (1, .int p0)]) hx hb dX1_endThing_8 rfl hl (by decide) rfl (fun ls hl => ?_)
  obtain ⟨q2, hc1, hsem⟩ := bn_some hsem
  refine loopM (g := g) hc1 (fun (q1 : Int32 × IA) => [(2, .int q1.1), (0, .ref (ad 0)), (1, .int p0)]) (fun (q1 : IA) => []) (exit := 39) (fun (q1 : Int32 × IA) => wH g ad q1.2 F) (fun (q1 : IA) => wH g ad q1 F) hP hD hS (lv_sub hl [0, 1, 2] rfl) (fun H locs ls hP hD hS hl => ?_) (fun q1 r hst1 hin1 hout1 H locs ls hP hD hS hl => ?_)
  · have hP : va_P g.1 vwCl (wH g ad q2 F) H := hP
    have hD : va_D Z (wH g ad q2 F) := hD
    have eo := (Option.some.inj hsem).symm.symm
    subst eo
    exact W.vret hx hb hr (fun t ht hW => ⟨⟨(), rfl, trivial, ⟨by rw [ht]; exact hP, hD⟩⟩, hS.F ht⟩) hS.2.2 dX1_endThing_39
  · unfold sX1_endThing_L9 at hst1
    have hP : va_P g.1 vwCl (wH g ad q1.2 F) H := hP
    have hD : va_D Z (wH g ad q1.2 F) := hD
    refine lv_iload_n hx hb dX1_endThing_9 rfl (lv_at hl 0 rfl) ?_
    refine lv_bipush (v := 64) hx hb dX1_endThing_10 (by decide) ?_
    refine lv_icmp_ge (tgt := 39) hx hb dX1_endThing_12 (by decide) (fun c1 => ?_) (fun c1 => ?_)
    · rw [if_pos c1] at hst1
      exact hout1 H locs ls _ (Option.some.inj hst1).symm hP hD hS (lv_sub hl [] rfl)
    · rw [if_neg c1] at hst1
      refine lv_aload_n hx hb dX1_endThing_15 rfl (lv_at hl 1 rfl) ?_
      refine va_get (D := g.1) (ci := 1) (v := .ref (ad 8)) (C := RX1) (T := TX1) (N := 18) hx hb hts (fun w h => List.mem_cons_of_mem _ (List.mem_append_right _ h)) hown hK hP 0 rfl rfl 7 (by decide) (hts (.fieldLink RX1 33 "PauseRegions$Heap" "fields" "[I") (List.mem_of_getElem? (i := 2) rfl)) (fun _ h9 => h9) rfl dX1_endThing_16 ?_
      refine lv_iload_n hx hb dX1_endThing_19 rfl (lv_at hl 0 rfl) ?_
      obtain ⟨h2, hst1⟩ := ck_some hst1
      refine va_iald (D := g.1) hx hb hK hP 8 0 rfl rfl h2 dX1_endThing_20 ?_
      refine lv_iload_n hx hb dX1_endThing_21 rfl (lv_at hl 2 rfl) ?_
      refine lv_icmp_ne (tgt := 33) hx hb dX1_endThing_22 (by decide) (fun c2 => ?_) (fun c2 => ?_)
      · rw [if_neg c2] at hst1
        refine lv_iinc (v := q1.1 + 1) (lv' := [(2, .int (q1.1 + 1)), (0, .ref (ad 0)), (1, .int p0)]) hx hb dX1_endThing_33 hl (k := 0) rfl rfl (by decide) rfl (fun ls hl => ?_)
        refine lv_goto (tgt := 9) hx hb dX1_endThing_36 (by decide) ?_
        exact hin1 H locs ls _ (Option.some.inj hst1).symm hP hD hS (lv_sub hl [0, 1, 2] rfl)
      · rw [if_pos c2] at hst1
        refine lv_aload_n hx hb dX1_endThing_25 rfl (lv_at hl 1 rfl) ?_
        refine va_get (D := g.1) (ci := 1) (v := .ref (ad 8)) (C := RX1) (T := TX1) (N := 18) hx hb hts (fun w h => List.mem_cons_of_mem _ (List.mem_append_right _ h)) hown hK hP 0 rfl rfl 7 (by decide) (hts (.fieldLink RX1 33 "PauseRegions$Heap" "fields" "[I") (List.mem_of_getElem? (i := 2) rfl)) (fun _ h9 => h9) rfl dX1_endThing_26 ?_
        refine lv_iload_n hx hb dX1_endThing_29 rfl (lv_at hl 0 rfl) ?_
        refine lv_bipush (v := (-5)) hx hb dX1_endThing_30 (by decide) ?_
        obtain ⟨h3, hst1⟩ := ck_some hst1
        refine va_iast (D := g.1) hx hb hK hP hD hS 8 0 rfl rfl h3 dX1_endThing_32 (fun H locs hP hD hS => ?_)
        obtain ⟨A2, eA2, hst1⟩ := bd_some hst1
        have hP : va_P g.1 vwCl (wH g ad A2 F) H := by rw [eA2]; exact hP
        have hD : va_D Z (wH g ad A2 F) := by rw [eA2]; exact hD
        refine lv_iinc (v := q1.1 + 1) (lv' := [(2, .int (q1.1 + 1)), (0, .ref (ad 0)), (1, .int p0)]) hx hb dX1_endThing_33 hl (k := 0) rfl rfl (by decide) rfl (fun ls hl => ?_)
        refine lv_goto (tgt := 9) hx hb dX1_endThing_36 (by decide) ?_
        exact hin1 H locs ls _ (Option.some.inj hst1).symm hP hD hS (lv_sub hl [0, 1, 2] rfl)
def sX1_endThingsIn_L2 (p0 : Int32) (q1 : Int32 × IA) : Option ((Int32 × IA) ⊕ (IA)) :=
  if 32 ≤ q1.1 then (some (.inr q1.2)) else ((sX1_isIn q1.2 q1.1 p0).bind fun x1 => if x1 = 0 then (some (.inl (q1.1 + 1, q1.2))) else ((sX1_endThing q1.2 q1.1).bind fun z1 => some (.inl (q1.1 + 1, z1))))
def sX1_endThingsIn (A : IA) (p0 : Int32) : Option (IA) :=
  (loopN (sX1_endThingsIn_L2 p0) 2000 (0, A)).bind fun q2 => some q2
abbrev rmX1_endThingsIn : Room := { frames := 2, cells := 0, slots := 0, locals := 43 }
theorem hdX1_endThingsIn : yX1_endThingsIn.cls = RX1 ∧ yX1_endThingsIn.cls ≠ "java/lang/invoke/MethodHandle" ∧ yX1_endThingsIn.cls ≠ "java/lang/invoke/VarHandle" ∧ (parseMethodDescriptor yX1_endThingsIn.desc).map (fun d => d.parameters.length) = some 1 := by decide +kernel
set_option maxHeartbeats 4000000 in
set_option maxRecDepth 100000 in
theorem kX1_endThingsIn {l : Launch} {g : GG} {sz : Nat} {ad : Nat → Nat} {A : IA} {F : FA} {p0 : Int32} {b : IA} (hsem : sX1_endThingsIn A p0 = some b) : MetV l yX1_endThingsIn wsX1_endThingsIn rmX1_endThingsIn g [.ref (ad 0), .int p0] (wH g ad A F) sz (wH g ad b F) := by
  refine Met.ofW (cc := cX1_endThingsIn) (maxL := 3) (ret := none) (by decide) rfl ?_
  intro p e s m args below meth c s₁ B hml hv
  obtain ⟨rfl, hsz, hP, hD0, hKK⟩ := hv
  subst hsz
  have hx := B.exec
  have hb := B.bytes
  have hr := B.returns
  have hts := atoms_spec (ws := wsX1_endThingsIn) B.pre
  have hown : s.vm.findClass RX1 = some m.cls := findClass_of_methodNamed B.named
  have hlocks := B.notSynchronized
  have hK := hKK.1
  have hD := hD0.self (sz := s.heap.size)
  generalize hZe : va_A (wH g ad A F) s.heap.size = Z at hD ⊢
  have hZ : ∀ q : Nat, s.heap.size ≤ q → Z q := fun q h => by rw [← hZe]; exact Or.inr h
  have hS : va_S Z s.heap s.heap [] := va_S.rf
  have hP : va_P g.1 vwCl (wH g ad A F) s.heap := hP
  have hD : va_D Z (wH g ad A F) := hD
  have hl := lv_entry ([.ref (ad 0), .int p0]) (n := 3) (Nat.le_of_ble_eq_true rfl)
  rw [lg_entry_eq]
  generalize (lg_sl ([.ref (ad 0), .int p0]) ++ List.replicate (3 - (lg_sl ([.ref (ad 0), .int p0])).length) Slot.unset).toArray = ls at hl ⊢
  have hl : lv_has ls 3 [(0, .ref (ad 0)), (1, .int p0)] := hl
  unfold sX1_endThingsIn at hsem
  refine lv_iconst (v := 0) hx hb dX1_endThingsIn_0 (by decide) ?_
  refine lv_istore_n (lv' := [(2, .int 0), (0, .ref (ad 0)), (1, .int p0)]) hx hb dX1_endThingsIn_1 rfl hl (by decide) rfl (fun ls hl => ?_)
  obtain ⟨q2, hc3, hsem⟩ := bn_some hsem
  refine loopM (g := g) hc3 (fun (q1 : Int32 × IA) => [(2, .int q1.1), (0, .ref (ad 0)), (1, .int p0)]) (fun (q1 : IA) => []) (exit := 28) (fun (q1 : Int32 × IA) => wH g ad q1.2 F) (fun (q1 : IA) => wH g ad q1 F) hP hD hS (lv_sub hl [0, 1, 2] rfl) (fun H locs ls hP hD hS hl => ?_) (fun q1 r hst1 hin1 hout1 H locs ls hP hD hS hl => ?_)
  · have hP : va_P g.1 vwCl (wH g ad q2 F) H := hP
    have hD : va_D Z (wH g ad q2 F) := hD
    have eo := (Option.some.inj hsem).symm.symm
    subst eo
    exact W.vret hx hb hr (fun t ht hW => ⟨⟨(), rfl, trivial, ⟨by rw [ht]; exact hP, hD⟩⟩, hS.F ht⟩) hS.2.2 dX1_endThingsIn_28
  · unfold sX1_endThingsIn_L2 at hst1
    have hP : va_P g.1 vwCl (wH g ad q1.2 F) H := hP
    have hD : va_D Z (wH g ad q1.2 F) := hD
    refine lv_iload_n hx hb dX1_endThingsIn_2 rfl (lv_at hl 0 rfl) ?_
    refine lv_bipush (v := 32) hx hb dX1_endThingsIn_3 (by decide) ?_
    refine lv_icmp_ge (tgt := 28) hx hb dX1_endThingsIn_5 (by decide) (fun c1 => ?_) (fun c1 => ?_)
    · rw [if_pos c1] at hst1
      exact hout1 H locs ls _ (Option.some.inj hst1).symm hP hD hS (lv_sub hl [] rfl)
    · rw [if_neg c1] at hst1
      refine lv_aload_n hx hb dX1_endThingsIn_8 rfl (lv_at hl 1 rfl) ?_
      refine lv_iload_n hx hb dX1_endThingsIn_9 rfl (lv_at hl 0 rfl) ?_
      refine lv_iload_n hx hb dX1_endThingsIn_10 rfl (lv_at hl 2 rfl) ?_
      obtain ⟨x1, hc1, hst1⟩ := bn_some hst1
      refine pcV (C := RX1) (As := [.int q1.1, .int p0]) (rest := []) ⟨hx, hb, hml, hown, hts⟩ hKK (cwV 2 hts gX1_endThingsIn_X1_isIn rfl rfl rfl hdX1_isIn ⟨Nat.le_of_ble_eq_true rfl, Nat.le_of_ble_eq_true rfl⟩) (kX1_isIn (l := l) (g := g) hP hc1) (va_recv hK hP (ci := 1) (q0 := 0) rfl rfl) rfl hl.1 rfl (Nat.le_of_ble_eq_true rfl) dX1_endThingsIn_11 ⟨Nat.zero_le _, Nat.zero_le _⟩ ?_
      refine lv_if_eq (tgt := 22) hx hb dX1_endThingsIn_14 (by decide) (fun c2 => ?_) (fun c2 => ?_)
      · rw [if_pos c2] at hst1
        refine lv_iinc (v := q1.1 + 1) (lv' := [(2, .int (q1.1 + 1)), (0, .ref (ad 0)), (1, .int p0)]) hx hb dX1_endThingsIn_22 hl (k := 0) rfl rfl (by decide) rfl (fun ls hl => ?_)
        refine lv_goto (tgt := 2) hx hb dX1_endThingsIn_25 (by decide) ?_
        exact hin1 H locs ls _ (Option.some.inj hst1).symm hP hD hS (lv_sub hl [0, 1, 2] rfl)
      · rw [if_neg c2] at hst1
        refine lv_aload_n hx hb dX1_endThingsIn_17 rfl (lv_at hl 1 rfl) ?_
        refine lv_iload_n hx hb dX1_endThingsIn_18 rfl (lv_at hl 0 rfl) ?_
        obtain ⟨z1, hc2, hst1⟩ := bn_some hst1
        refine mcV (C := RX1) (As := [.int q1.1]) (rest := []) ⟨hx, hb, hml, hown, hts⟩ hKK hP hD hS hZ (cwV 1 hts gX1_endThingsIn_X1_endThing rfl rfl rfl hdX1_endThing ⟨Nat.le_of_ble_eq_true rfl, Nat.le_of_ble_eq_true rfl⟩) (kX1_endThing (l := l) (g := g) (ad := ad) (A := q1.2) (F := F) hc2) (va_recv hK hP (ci := 1) (q0 := 0) rfl rfl) rfl hl.1 rfl (Nat.le_of_ble_eq_true rfl) dX1_endThingsIn_19 ⟨Nat.zero_le _, Nat.zero_le _⟩ (fun H locs hP hD hS => ?_)
        have hP : va_P g.1 vwCl (wH g ad z1 F) H := hP
        have hD : va_D Z (wH g ad z1 F) := hD
        refine lv_iinc (v := q1.1 + 1) (lv' := [(2, .int (q1.1 + 1)), (0, .ref (ad 0)), (1, .int p0)]) hx hb dX1_endThingsIn_22 hl (k := 0) rfl rfl (by decide) rfl (fun ls hl => ?_)
        refine lv_goto (tgt := 2) hx hb dX1_endThingsIn_25 (by decide) ?_
        exact hin1 H locs ls _ (Option.some.inj hst1).symm hP hD hS (lv_sub hl [0, 1, 2] rfl)
def sX1_freeOne_L55 (p0 : Int32) (q1 : Int32 × IA) : Option ((Int32 × IA) ⊕ (IA)) :=
  if 10 ≤ q1.1 then (some (.inr q1.2)) else (ck q1.1 10 ((sX6_cardsOf p0).bind fun x3 => ck q1.1 10 (bd (wr q1.2 3 q1.1.toNatClampNeg (((q1.2 3) q1.1.toNatClampNeg) &&& (x3 ^^^ (-1)))) fun A7 => some (.inl (q1.1 + 1, A7)))))
def sX1_freeOne (A : IA) (p0 : Int32) : Option (IA) :=
  ck p0 10 (bd (wr A 0 p0.toNatClampNeg 0) fun A1 => ck p0 10 (bd (wr A1 1 p0.toNatClampNeg 0) fun A2 => ck p0 10 (bd (wr A2 2 p0.toNatClampNeg (-9)) fun A3 => ck p0 10 (bd (wr A3 3 p0.toNatClampNeg 0) fun A4 => (sX6_cardOf p0 0).bind fun x1 => (sX5_drop (A4 10) (A4 18 0) x1).bind fun z1 => bd (sc (setR A4 10 z1.1) 18 z1.2) fun A5 => (sX6_cardOf p0 4).bind fun x2 => (sX5_drop (A5 10) (A5 18 0) x2).bind fun z2 => bd (sc (setR A5 10 z2.1) 18 z2.2) fun A6 => (loopN (sX1_freeOne_L55 p0) 2000 (0, A6)).bind fun q2 => some q2))))
abbrev rmX1_freeOne : Room := { frames := 1, cells := 0, slots := 0, locals := 23 }
theorem hdX1_freeOne : yX1_freeOne.cls = RX1 ∧ yX1_freeOne.cls ≠ "java/lang/invoke/MethodHandle" ∧ yX1_freeOne.cls ≠ "java/lang/invoke/VarHandle" ∧ (parseMethodDescriptor yX1_freeOne.desc).map (fun d => d.parameters.length) = some 1 := by decide +kernel
set_option maxHeartbeats 4000000 in
set_option maxRecDepth 100000 in
theorem kX1_freeOne {l : Launch} {g : GG} {sz : Nat} {ad : Nat → Nat} {A : IA} {F : FA} {p0 : Int32} {b : IA} (hsem : sX1_freeOne A p0 = some b) : MetV l yX1_freeOne wsX1_freeOne rmX1_freeOne g [.ref (ad 0), .int p0] (wH g ad A F) sz (wH g ad b F) := by
  refine Met.ofW (cc := cX1_freeOne) (maxL := 3) (ret := none) (by decide) rfl ?_
  intro p e s m args below meth c s₁ B hml hv
  obtain ⟨rfl, hsz, hP, hD0, hKK⟩ := hv
  subst hsz
  have hx := B.exec
  have hb := B.bytes
  have hr := B.returns
  have hts := atoms_spec (ws := wsX1_freeOne) B.pre
  have hown : s.vm.findClass RX1 = some m.cls := findClass_of_methodNamed B.named
  have hlocks := B.notSynchronized
  have hK := hKK.1
  have hD := hD0.self (sz := s.heap.size)
  generalize hZe : va_A (wH g ad A F) s.heap.size = Z at hD ⊢
  have hZ : ∀ q : Nat, s.heap.size ≤ q → Z q := fun q h => by rw [← hZe]; exact Or.inr h
  have hS : va_S Z s.heap s.heap [] := va_S.rf
  have hP : va_P g.1 vwCl (wH g ad A F) s.heap := hP
  have hD : va_D Z (wH g ad A F) := hD
  have hl := lv_entry ([.ref (ad 0), .int p0]) (n := 3) (Nat.le_of_ble_eq_true rfl)
  rw [lg_entry_eq]
  generalize (lg_sl ([.ref (ad 0), .int p0]) ++ List.replicate (3 - (lg_sl ([.ref (ad 0), .int p0])).length) Slot.unset).toArray = ls at hl ⊢
  have hl : lv_has ls 3 [(0, .ref (ad 0)), (1, .int p0)] := hl
  unfold sX1_freeOne at hsem
  refine lv_aload_n hx hb dX1_freeOne_0 rfl (lv_at hl 0 rfl) ?_
  refine va_get (D := g.1) (ci := 1) (v := .ref (ad 1)) (C := RX1) (T := TX1) (N := 18) hx hb hts (fun w h => List.mem_cons_of_mem _ (List.mem_append_left _ (List.mem_append_right _ h))) hown hK hP 0 rfl rfl 0 (by decide) (hts (.fieldLink RX1 9 "PauseRegions$Heap" "kind" "[I") (List.mem_of_getElem? (i := 1) rfl)) (fun _ h9 => h9) rfl dX1_freeOne_1 ?_
  refine lv_iload_n hx hb dX1_freeOne_4 rfl (lv_at hl 1 rfl) ?_
  refine lv_iconst (v := 0) hx hb dX1_freeOne_5 (by decide) ?_
  obtain ⟨h1, hsem⟩ := ck_some hsem
  refine va_iast (D := g.1) hx hb hK hP hD hS 1 0 rfl rfl h1 dX1_freeOne_6 (fun H locs hP hD hS => ?_)
  obtain ⟨A1, eA1, hsem⟩ := bd_some hsem
  have hP : va_P g.1 vwCl (wH g ad A1 F) H := by rw [eA1]; exact hP
  have hD : va_D Z (wH g ad A1 F) := by rw [eA1]; exact hD
  refine lv_aload_n hx hb dX1_freeOne_7 rfl (lv_at hl 0 rfl) ?_
  refine va_get (D := g.1) (ci := 1) (v := .ref (ad 2)) (C := RX1) (T := TX1) (N := 18) hx hb hts (fun w h => List.mem_cons_of_mem _ (List.mem_append_left _ (List.mem_append_right _ h))) hown hK hP 0 rfl rfl 1 (by decide) (hts (.fieldLink RX1 15 "PauseRegions$Heap" "top" "[I") (List.mem_of_getElem? (i := 2) rfl)) (fun _ h9 => h9) rfl dX1_freeOne_8 ?_
  refine lv_iload_n hx hb dX1_freeOne_11 rfl (lv_at hl 1 rfl) ?_
  refine lv_iconst (v := 0) hx hb dX1_freeOne_12 (by decide) ?_
  obtain ⟨h2, hsem⟩ := ck_some hsem
  refine va_iast (D := g.1) hx hb hK hP hD hS 2 0 rfl rfl h2 dX1_freeOne_13 (fun H locs hP hD hS => ?_)
  obtain ⟨A2, eA2, hsem⟩ := bd_some hsem
  have hP : va_P g.1 vwCl (wH g ad A2 F) H := by rw [eA2]; exact hP
  have hD : va_D Z (wH g ad A2 F) := by rw [eA2]; exact hD
  refine lv_aload_n hx hb dX1_freeOne_14 rfl (lv_at hl 0 rfl) ?_
  refine va_get (D := g.1) (ci := 1) (v := .ref (ad 3)) (C := RX1) (T := TX1) (N := 18) hx hb hts (fun w h => List.mem_cons_of_mem _ (List.mem_append_left _ (List.mem_append_right _ h))) hown hK hP 0 rfl rfl 2 (by decide) (hts (.fieldLink RX1 18 "PauseRegions$Heap" "live" "[I") (List.mem_of_getElem? (i := 3) rfl)) (fun _ h9 => h9) rfl dX1_freeOne_15 ?_
  refine lv_iload_n hx hb dX1_freeOne_18 rfl (lv_at hl 1 rfl) ?_
  refine lv_bipush (v := (-9)) hx hb dX1_freeOne_19 (by decide) ?_
  obtain ⟨h3, hsem⟩ := ck_some hsem
  refine va_iast (D := g.1) hx hb hK hP hD hS 3 0 rfl rfl h3 dX1_freeOne_21 (fun H locs hP hD hS => ?_)
  obtain ⟨A3, eA3, hsem⟩ := bd_some hsem
  have hP : va_P g.1 vwCl (wH g ad A3 F) H := by rw [eA3]; exact hP
  have hD : va_D Z (wH g ad A3 F) := by rw [eA3]; exact hD
  refine lv_aload_n hx hb dX1_freeOne_22 rfl (lv_at hl 0 rfl) ?_
  refine va_get (D := g.1) (ci := 1) (v := .ref (ad 4)) (C := RX1) (T := TX1) (N := 18) hx hb hts (fun w h => List.mem_cons_of_mem _ (List.mem_append_left _ (List.mem_append_right _ h))) hown hK hP 0 rfl rfl 3 (by decide) (hts (.fieldLink RX1 21 "PauseRegions$Heap" "memory" "[I") (List.mem_of_getElem? (i := 4) rfl)) (fun _ h9 => h9) rfl dX1_freeOne_23 ?_
  refine lv_iload_n hx hb dX1_freeOne_26 rfl (lv_at hl 1 rfl) ?_
  refine lv_iconst (v := 0) hx hb dX1_freeOne_27 (by decide) ?_
  obtain ⟨h4, hsem⟩ := ck_some hsem
  refine va_iast (D := g.1) hx hb hK hP hD hS 4 0 rfl rfl h4 dX1_freeOne_28 (fun H locs hP hD hS => ?_)
  obtain ⟨A4, eA4, hsem⟩ := bd_some hsem
  have hP : va_P g.1 vwCl (wH g ad A4 F) H := by rw [eA4]; exact hP
  have hD : va_D Z (wH g ad A4 F) := by rw [eA4]; exact hD
  refine lv_aload_n hx hb dX1_freeOne_29 rfl (lv_at hl 0 rfl) ?_
  refine va_get (D := g.1) (ci := 1) (v := .ref (ad 11)) (C := RX1) (T := TX1) (N := 18) hx hb hts (fun w h => List.mem_cons_of_mem _ (List.mem_append_left _ (List.mem_append_right _ h))) hown hK hP 0 rfl rfl 10 (by decide) (hts (.fieldLink RX1 45 "PauseRegions$Heap" "dirtyCards" "LPauseRegions$Row;") (List.mem_of_getElem? (i := 5) rfl)) (fun _ h9 => h9) rfl dX1_freeOne_30 ?_
  refine lv_iload_n hx hb dX1_freeOne_33 rfl (lv_at hl 1 rfl) ?_
  refine lv_iconst (v := 0) hx hb dX1_freeOne_34 (by decide) ?_
  obtain ⟨x1, hc1, hsem⟩ := bn_some hsem
  refine pcN (As := [.int p0, .int 0]) (rest := [.ref (ad 11)]) ⟨hx, hb, hml, hown, hts⟩ hKK ⟨va_cnB 2 hts gX1_freeOne_X6_cardOf_n129 rfl rfl rfl (hKK.2 4 _ rfl) (hts (.initialized RX6) (List.mem_of_getElem? (i := 7) rfl)) hdX6_cardOf ⟨Nat.le_of_ble_eq_true rfl, Nat.le_of_ble_eq_true rfl⟩, (hts (.static yX6_cardOf) (List.mem_of_getElem? (i := 6) rfl)), trivial⟩ (kX6_cardOf (l := l) (g := g) hc1) rfl hl.1 rfl (Nat.le_of_ble_eq_true rfl) dX1_freeOne_35 ⟨Nat.zero_le _, Nat.zero_le _⟩ ?_
  obtain ⟨z1, hc2, hsem⟩ := bn_some hsem
  refine mcVs (C := RX5) (As := [.int x1]) (rest := []) (wr := (wH_11_12 g ad A4 F)) ⟨hx, hb, hml, hown, hts⟩ hKK hP hD hS hZ [11, 12] [0, 1, 2, 3, 4, 5, 6, 7, 8, 9, 10, 13, 14] rfl rfl (by decide) (by decide) (by decide) (cwV 1 hts gX1_freeOne_X5_drop rfl rfl rfl hdX5_drop ⟨Nat.le_of_ble_eq_true rfl, Nat.le_of_ble_eq_true rfl⟩) (kX5_drop (l := l) (g := g) (a0 := (ad 11)) (a1 := (ad 12)) (f := (A4 10)) (n := (A4 18 0)) hc2) (va_recv hK hP (ci := 5) (q0 := 11) rfl rfl) rfl hl.1 rfl (Nat.le_of_ble_eq_true rfl) dX1_freeOne_38 ⟨Nat.zero_le _, Nat.zero_le _⟩ (fun H locs hP hD hS => ?_)
  obtain ⟨A5, eA5, hsem⟩ := bd_some hsem
  have hP : va_P g.1 vwCl (wH g ad A5 F) H := by rw [eA5]; exact hP.sub [0, 1, 2, 3, 4, 5, 6, 7, 8, 9, 10, 13, 14, 11, 12] rfl
  have hD : va_D Z (wH g ad A5 F) := by rw [eA5]; exact hD.sub [0, 1, 2, 3, 4, 5, 6, 7, 8, 9, 10, 13, 14, 11, 12] (by decide) rfl
  refine lv_aload_n hx hb dX1_freeOne_41 rfl (lv_at hl 0 rfl) ?_
  refine va_get (D := g.1) (ci := 1) (v := .ref (ad 11)) (C := RX1) (T := TX1) (N := 18) hx hb hts (fun w h => List.mem_cons_of_mem _ (List.mem_append_left _ (List.mem_append_right _ h))) hown hK hP 0 rfl rfl 10 (by decide) (hts (.fieldLink RX1 45 "PauseRegions$Heap" "dirtyCards" "LPauseRegions$Row;") (List.mem_of_getElem? (i := 5) rfl)) (fun _ h9 => h9) rfl dX1_freeOne_42 ?_
  refine lv_iload_n hx hb dX1_freeOne_45 rfl (lv_at hl 1 rfl) ?_
  refine lv_iconst (v := 4) hx hb dX1_freeOne_46 (by decide) ?_
  obtain ⟨x2, hc3, hsem⟩ := bn_some hsem
  refine pcN (As := [.int p0, .int 4]) (rest := [.ref (ad 11)]) ⟨hx, hb, hml, hown, hts⟩ hKK ⟨va_cnB 2 hts gX1_freeOne_X6_cardOf_n129 rfl rfl rfl (hKK.2 4 _ rfl) (hts (.initialized RX6) (List.mem_of_getElem? (i := 7) rfl)) hdX6_cardOf ⟨Nat.le_of_ble_eq_true rfl, Nat.le_of_ble_eq_true rfl⟩, (hts (.static yX6_cardOf) (List.mem_of_getElem? (i := 6) rfl)), trivial⟩ (kX6_cardOf (l := l) (g := g) hc3) rfl hl.1 rfl (Nat.le_of_ble_eq_true rfl) dX1_freeOne_47 ⟨Nat.zero_le _, Nat.zero_le _⟩ ?_
  obtain ⟨z2, hc4, hsem⟩ := bn_some hsem
  refine mcVs (C := RX5) (As := [.int x2]) (rest := []) (wr := (wH_11_12 g ad A5 F)) ⟨hx, hb, hml, hown, hts⟩ hKK hP hD hS hZ [11, 12] [0, 1, 2, 3, 4, 5, 6, 7, 8, 9, 10, 13, 14] rfl rfl (by decide) (by decide) (by decide) (cwV 1 hts gX1_freeOne_X5_drop rfl rfl rfl hdX5_drop ⟨Nat.le_of_ble_eq_true rfl, Nat.le_of_ble_eq_true rfl⟩) (kX5_drop (l := l) (g := g) (a0 := (ad 11)) (a1 := (ad 12)) (f := (A5 10)) (n := (A5 18 0)) hc4) (va_recv hK hP (ci := 5) (q0 := 11) rfl rfl) rfl hl.1 rfl (Nat.le_of_ble_eq_true rfl) dX1_freeOne_50 ⟨Nat.zero_le _, Nat.zero_le _⟩ (fun H locs hP hD hS => ?_)
  obtain ⟨A6, eA6, hsem⟩ := bd_some hsem
  have hP : va_P g.1 vwCl (wH g ad A6 F) H := by rw [eA6]; exact hP.sub [0, 1, 2, 3, 4, 5, 6, 7, 8, 9, 10, 13, 14, 11, 12] rfl
  have hD : va_D Z (wH g ad A6 F) := by rw [eA6]; exact hD.sub [0, 1, 2, 3, 4, 5, 6, 7, 8, 9, 10, 13, 14, 11, 12] (by decide) rfl
  refine lv_iconst (v := 0) hx hb dX1_freeOne_53 (by decide) ?_
  refine lv_istore_n (lv' := [(2, .int 0), (0, .ref (ad 0)), (1, .int p0)]) hx hb dX1_freeOne_54 rfl hl (by decide) rfl (fun ls hl => ?_)
  obtain ⟨q2, hc6, hsem⟩ := bn_some hsem
  refine loopM (g := g) hc6 (fun (q1 : Int32 × IA) => [(2, .int q1.1), (0, .ref (ad 0)), (1, .int p0)]) (fun (q1 : IA) => []) (exit := 82) (fun (q1 : Int32 × IA) => wH g ad q1.2 F) (fun (q1 : IA) => wH g ad q1 F) hP hD hS (lv_sub hl [0, 1, 2] rfl) (fun H locs ls hP hD hS hl => ?_) (fun q1 r hst1 hin1 hout1 H locs ls hP hD hS hl => ?_)
  · have hP : va_P g.1 vwCl (wH g ad q2 F) H := hP
    have hD : va_D Z (wH g ad q2 F) := hD
    have eo := (Option.some.inj hsem).symm.symm
    subst eo
    exact W.vret hx hb hr (fun t ht hW => ⟨⟨(), rfl, trivial, ⟨by rw [ht]; exact hP, hD⟩⟩, hS.F ht⟩) hS.2.2 dX1_freeOne_82
  · unfold sX1_freeOne_L55 at hst1
    have hP : va_P g.1 vwCl (wH g ad q1.2 F) H := hP
    have hD : va_D Z (wH g ad q1.2 F) := hD
    refine lv_iload_n hx hb dX1_freeOne_55 rfl (lv_at hl 0 rfl) ?_
    refine lv_bipush (v := 10) hx hb dX1_freeOne_56 (by decide) ?_
    refine lv_icmp_ge (tgt := 82) hx hb dX1_freeOne_58 (by decide) (fun c1 => ?_) (fun c1 => ?_)
    · rw [if_pos c1] at hst1
      exact hout1 H locs ls _ (Option.some.inj hst1).symm hP hD hS (lv_sub hl [] rfl)
    · rw [if_neg c1] at hst1
      refine lv_aload_n hx hb dX1_freeOne_61 rfl (lv_at hl 1 rfl) ?_
      refine va_get (D := g.1) (ci := 1) (v := .ref (ad 4)) (C := RX1) (T := TX1) (N := 18) hx hb hts (fun w h => List.mem_cons_of_mem _ (List.mem_append_left _ (List.mem_append_right _ h))) hown hK hP 0 rfl rfl 3 (by decide) (hts (.fieldLink RX1 21 "PauseRegions$Heap" "memory" "[I") (List.mem_of_getElem? (i := 4) rfl)) (fun _ h9 => h9) rfl dX1_freeOne_62 ?_
      refine lv_iload_n hx hb dX1_freeOne_65 rfl (lv_at hl 0 rfl) ?_
      refine lv_dup2_11 hx hb dX1_freeOne_66 rfl rfl ?_
      obtain ⟨h5, hst1⟩ := ck_some hst1
      refine va_iald (D := g.1) hx hb hK hP 4 0 rfl rfl h5 dX1_freeOne_67 ?_
      refine lv_iload_n hx hb dX1_freeOne_68 rfl (lv_at hl 2 rfl) ?_
      obtain ⟨x3, hc5, hst1⟩ := bn_some hst1
      refine pcN (As := [.int p0]) (rest := [.int ((q1.2 3) q1.1.toNatClampNeg), .int q1.1, .ref (ad 4)]) ⟨hx, hb, hml, hown, hts⟩ hKK ⟨va_cnB 1 hts gX1_freeOne_X6_cardsOf_n156 rfl rfl rfl (hKK.2 6 _ rfl) (hts (.initialized RX6) (List.mem_of_getElem? (i := 7) rfl)) hdX6_cardsOf ⟨Nat.le_of_ble_eq_true rfl, Nat.le_of_ble_eq_true rfl⟩, (hts (.static yX6_cardsOf) (List.mem_of_getElem? (i := 16) rfl)), trivial⟩ (kX6_cardsOf (l := l) (g := g) hc5) rfl hl.1 rfl (Nat.le_of_ble_eq_true rfl) dX1_freeOne_69 ⟨Nat.zero_le _, Nat.zero_le _⟩ ?_
      refine lv_iconst (v := (-1)) hx hb dX1_freeOne_72 (by decide) ?_
      refine lv_ixor hx hb dX1_freeOne_73 ?_
      refine lv_iand hx hb dX1_freeOne_74 ?_
      obtain ⟨h6, hst1⟩ := ck_some hst1
      refine va_iast (D := g.1) hx hb hK hP hD hS 4 0 rfl rfl h6 dX1_freeOne_75 (fun H locs hP hD hS => ?_)
      obtain ⟨A7, eA7, hst1⟩ := bd_some hst1
      have hP : va_P g.1 vwCl (wH g ad A7 F) H := by rw [eA7]; exact hP
      have hD : va_D Z (wH g ad A7 F) := by rw [eA7]; exact hD
      refine lv_iinc (v := q1.1 + 1) (lv' := [(2, .int (q1.1 + 1)), (0, .ref (ad 0)), (1, .int p0)]) hx hb dX1_freeOne_76 hl (k := 0) rfl rfl (by decide) rfl (fun ls hl => ?_)
      refine lv_goto (tgt := 55) hx hb dX1_freeOne_79 (by decide) ?_
      exact hin1 H locs ls _ (Option.some.inj hst1).symm hP hD hS (lv_sub hl [0, 1, 2] rfl)
def sX1_freeWithRests_L25 (q1 : Int32) : Option ((Int32) ⊕ (Unit)) :=
  some (.inr ())
def sX1_freeWithRests_L25a (q3 : Int32 × IA) : Option ((Int32 × IA) ⊕ (IA)) :=
  if 10 ≤ q3.1 then (some (.inr q3.2)) else (ck q3.1 10 (if ((q3.2 0) q3.1.toNatClampNeg) = 4 then ((sX1_freeOne q3.2 q3.1).bind fun z3 => some (.inl (q3.1 + 1, z3))) else (some (.inr q3.2))))
def sX1_freeWithRests (A : IA) (p0 : Int32) : Option (IA) :=
  ck p0 10 (if ((A 0) p0.toNatClampNeg) = 3 then ((sX1_freeOne A p0).bind fun z2 => bd (p0 + 1) fun x2 => (loopN (sX1_freeWithRests_L25a) 2000 (x2, z2)).bind fun q4 => some q4) else ((sX1_freeOne A p0).bind fun z1 => bd (p0 + 1) fun x1 => (loopN (sX1_freeWithRests_L25) 2000 x1).bind fun q2 => some z1))
abbrev rmX1_freeWithRests : Room := { frames := 2, cells := 0, slots := 0, locals := 45 }
theorem hdX1_freeWithRests : yX1_freeWithRests.cls = RX1 ∧ yX1_freeWithRests.cls ≠ "java/lang/invoke/MethodHandle" ∧ yX1_freeWithRests.cls ≠ "java/lang/invoke/VarHandle" ∧ (parseMethodDescriptor yX1_freeWithRests.desc).map (fun d => d.parameters.length) = some 1 := by decide +kernel
set_option maxHeartbeats 4000000 in
set_option maxRecDepth 100000 in
theorem kX1_freeWithRests {l : Launch} {g : GG} {sz : Nat} {ad : Nat → Nat} {A : IA} {F : FA} {p0 : Int32} {b : IA} (hsem : sX1_freeWithRests A p0 = some b) : MetV l yX1_freeWithRests wsX1_freeWithRests rmX1_freeWithRests g [.ref (ad 0), .int p0] (wH g ad A F) sz (wH g ad b F) := by
  refine Met.ofW (cc := cX1_freeWithRests) (maxL := 4) (ret := none) (by decide) rfl ?_
  intro p e s m args below meth c s₁ B hml hv
  obtain ⟨rfl, hsz, hP, hD0, hKK⟩ := hv
  subst hsz
  have hx := B.exec
  have hb := B.bytes
  have hr := B.returns
  have hts := atoms_spec (ws := wsX1_freeWithRests) B.pre
  have hown : s.vm.findClass RX1 = some m.cls := findClass_of_methodNamed B.named
  have hlocks := B.notSynchronized
  have hK := hKK.1
  have hD := hD0.self (sz := s.heap.size)
  generalize hZe : va_A (wH g ad A F) s.heap.size = Z at hD ⊢
  have hZ : ∀ q : Nat, s.heap.size ≤ q → Z q := fun q h => by rw [← hZe]; exact Or.inr h
  have hS : va_S Z s.heap s.heap [] := va_S.rf
  have hP : va_P g.1 vwCl (wH g ad A F) s.heap := hP
  have hD : va_D Z (wH g ad A F) := hD
  have hl := lv_entry ([.ref (ad 0), .int p0]) (n := 4) (Nat.le_of_ble_eq_true rfl)
  rw [lg_entry_eq]
  generalize (lg_sl ([.ref (ad 0), .int p0]) ++ List.replicate (4 - (lg_sl ([.ref (ad 0), .int p0])).length) Slot.unset).toArray = ls at hl ⊢
  have hl : lv_has ls 4 [(0, .ref (ad 0)), (1, .int p0)] := hl
  unfold sX1_freeWithRests at hsem
  refine lv_aload_n hx hb dX1_freeWithRests_0 rfl (lv_at hl 0 rfl) ?_
  refine va_get (D := g.1) (ci := 1) (v := .ref (ad 1)) (C := RX1) (T := TX1) (N := 18) hx hb hts (fun w h => List.mem_cons_of_mem _ (List.mem_append_left _ (List.mem_append_right _ h))) hown hK hP 0 rfl rfl 0 (by decide) (hts (.fieldLink RX1 9 "PauseRegions$Heap" "kind" "[I") (List.mem_of_getElem? (i := 1) rfl)) (fun _ h9 => h9) rfl dX1_freeWithRests_1 ?_
  refine lv_iload_n hx hb dX1_freeWithRests_4 rfl (lv_at hl 1 rfl) ?_
  obtain ⟨h1, hsem⟩ := ck_some hsem
  refine va_iald (D := g.1) hx hb hK hP 1 0 rfl rfl h1 dX1_freeWithRests_5 ?_
  refine lv_iconst (v := 3) hx hb dX1_freeWithRests_6 (by decide) ?_
  refine lv_icmp_ne (tgt := 14) hx hb dX1_freeWithRests_7 (by decide) (fun c1 => ?_) (fun c1 => ?_)
  · rw [if_neg c1] at hsem
    refine lv_iconst (v := 0) hx hb dX1_freeWithRests_14 (by decide) ?_
    refine lv_istore_n (lv' := [(2, .int 0), (0, .ref (ad 0)), (1, .int p0)]) hx hb dX1_freeWithRests_15 rfl hl (by decide) rfl (fun ls hl => ?_)
    refine lv_aload_n hx hb dX1_freeWithRests_16 rfl (lv_at hl 1 rfl) ?_
    refine lv_iload_n hx hb dX1_freeWithRests_17 rfl (lv_at hl 2 rfl) ?_
    obtain ⟨z1, hc1, hsem⟩ := bn_some hsem
    refine mcV (C := RX1) (As := [.int p0]) (rest := []) ⟨hx, hb, hml, hown, hts⟩ hKK hP hD hS hZ (cwV 1 hts gX1_freeWithRests_X1_freeOne rfl rfl rfl hdX1_freeOne ⟨Nat.le_of_ble_eq_true rfl, Nat.le_of_ble_eq_true rfl⟩) (kX1_freeOne (l := l) (g := g) (ad := ad) (A := A) (F := F) hc1) (va_recv hK hP (ci := 1) (q0 := 0) rfl rfl) rfl hl.1 rfl (Nat.le_of_ble_eq_true rfl) dX1_freeWithRests_18 ⟨Nat.zero_le _, Nat.zero_le _⟩ (fun H locs hP hD hS => ?_)
    have hP : va_P g.1 vwCl (wH g ad z1 F) H := hP
    have hD : va_D Z (wH g ad z1 F) := hD
    refine lv_iload_n hx hb dX1_freeWithRests_21 rfl (lv_at hl 2 rfl) ?_
    refine lv_iconst (v := 1) hx hb dX1_freeWithRests_22 (by decide) ?_
    refine lv_iadd hx hb dX1_freeWithRests_23 ?_
    obtain ⟨x1, ex1, hsem⟩ := bd_some hsem
    rw [← ex1]
    refine lv_istore_n (lv' := [(3, .int x1), (2, .int 0), (0, .ref (ad 0)), (1, .int p0)]) hx hb dX1_freeWithRests_24 rfl hl (by decide) rfl (fun ls hl => ?_)
    obtain ⟨q2, hc2, hsem⟩ := bn_some hsem
    refine loopM (g := g) hc2 (fun (q1 : Int32) => [(3, .int q1), (2, .int 0), (0, .ref (ad 0))]) (fun (q1 : Unit) => []) (exit := 56) (fun (q1 : Int32) => wH g ad z1 F) (fun (q1 : Unit) => wH g ad z1 F) hP hD hS (lv_sub hl [0, 1, 2] rfl) (fun H locs ls hP hD hS hl => ?_) (fun q1 r hst1 hin1 hout1 H locs ls hP hD hS hl => ?_)
    · have hP : va_P g.1 vwCl (wH g ad z1 F) H := hP
      have hD : va_D Z (wH g ad z1 F) := hD
      have eo := (Option.some.inj hsem).symm.symm
      subst eo
      exact W.vret hx hb hr (fun t ht hW => ⟨⟨(), rfl, trivial, ⟨by rw [ht]; exact hP, hD⟩⟩, hS.F ht⟩) hS.2.2 dX1_freeWithRests_56
    · unfold sX1_freeWithRests_L25 at hst1
      have hP : va_P g.1 vwCl (wH g ad z1 F) H := hP
      have hD : va_D Z (wH g ad z1 F) := hD
      refine lv_iload_n hx hb dX1_freeWithRests_25 rfl (lv_at hl 1 rfl) ?_
      refine lv_if_eq (tgt := 56) hx hb dX1_freeWithRests_26 (by decide) (fun cc => ?_) (fun cc => absurd cc (by decide))
      exact hout1 H locs ls _ (Option.some.inj hst1).symm hP hD hS (lv_sub hl [] rfl)
  · rw [if_pos c1] at hsem
    refine lv_iconst (v := 1) hx hb dX1_freeWithRests_10 (by decide) ?_
    refine lv_goto (tgt := 15) hx hb dX1_freeWithRests_11 (by decide) ?_
    refine lv_istore_n (lv' := [(2, .int 1), (0, .ref (ad 0)), (1, .int p0)]) hx hb dX1_freeWithRests_15 rfl hl (by decide) rfl (fun ls hl => ?_)
    refine lv_aload_n hx hb dX1_freeWithRests_16 rfl (lv_at hl 1 rfl) ?_
    refine lv_iload_n hx hb dX1_freeWithRests_17 rfl (lv_at hl 2 rfl) ?_
    obtain ⟨z2, hc3, hsem⟩ := bn_some hsem
    refine mcV (C := RX1) (As := [.int p0]) (rest := []) ⟨hx, hb, hml, hown, hts⟩ hKK hP hD hS hZ (cwV 1 hts gX1_freeWithRests_X1_freeOne rfl rfl rfl hdX1_freeOne ⟨Nat.le_of_ble_eq_true rfl, Nat.le_of_ble_eq_true rfl⟩) (kX1_freeOne (l := l) (g := g) (ad := ad) (A := A) (F := F) hc3) (va_recv hK hP (ci := 1) (q0 := 0) rfl rfl) rfl hl.1 rfl (Nat.le_of_ble_eq_true rfl) dX1_freeWithRests_18 ⟨Nat.zero_le _, Nat.zero_le _⟩ (fun H locs hP hD hS => ?_)
    have hP : va_P g.1 vwCl (wH g ad z2 F) H := hP
    have hD : va_D Z (wH g ad z2 F) := hD
    refine lv_iload_n hx hb dX1_freeWithRests_21 rfl (lv_at hl 2 rfl) ?_
    refine lv_iconst (v := 1) hx hb dX1_freeWithRests_22 (by decide) ?_
    refine lv_iadd hx hb dX1_freeWithRests_23 ?_
    obtain ⟨x2, ex2, hsem⟩ := bd_some hsem
    rw [← ex2]
    refine lv_istore_n (lv' := [(3, .int x2), (2, .int 1), (0, .ref (ad 0)), (1, .int p0)]) hx hb dX1_freeWithRests_24 rfl hl (by decide) rfl (fun ls hl => ?_)
    obtain ⟨q4, hc5, hsem⟩ := bn_some hsem
    refine loopM (g := g) hc5 (fun (q3 : Int32 × IA) => [(3, .int q3.1), (2, .int 1), (0, .ref (ad 0))]) (fun (q3 : IA) => []) (exit := 56) (fun (q3 : Int32 × IA) => wH g ad q3.2 F) (fun (q3 : IA) => wH g ad q3 F) hP hD hS (lv_sub hl [0, 1, 2] rfl) (fun H locs ls hP hD hS hl => ?_) (fun q3 r hst1 hin1 hout1 H locs ls hP hD hS hl => ?_)
    · have hP : va_P g.1 vwCl (wH g ad q4 F) H := hP
      have hD : va_D Z (wH g ad q4 F) := hD
      have eo := (Option.some.inj hsem).symm.symm
      subst eo
      exact W.vret hx hb hr (fun t ht hW => ⟨⟨(), rfl, trivial, ⟨by rw [ht]; exact hP, hD⟩⟩, hS.F ht⟩) hS.2.2 dX1_freeWithRests_56
    · unfold sX1_freeWithRests_L25a at hst1
      have hP : va_P g.1 vwCl (wH g ad q3.2 F) H := hP
      have hD : va_D Z (wH g ad q3.2 F) := hD
      refine lv_iload_n hx hb dX1_freeWithRests_25 rfl (lv_at hl 1 rfl) ?_
      refine lv_if_eq (tgt := 56) hx hb dX1_freeWithRests_26 (by decide) (fun cc => absurd cc (by decide)) (fun cc => ?_)
      refine lv_iload_n hx hb dX1_freeWithRests_29 rfl (lv_at hl 0 rfl) ?_
      refine lv_bipush (v := 10) hx hb dX1_freeWithRests_30 (by decide) ?_
      refine lv_icmp_ge (tgt := 56) hx hb dX1_freeWithRests_32 (by decide) (fun c2 => ?_) (fun c2 => ?_)
      · rw [if_pos c2] at hst1
        exact hout1 H locs ls _ (Option.some.inj hst1).symm hP hD hS (lv_sub hl [] rfl)
      · rw [if_neg c2] at hst1
        refine lv_aload_n hx hb dX1_freeWithRests_35 rfl (lv_at hl 2 rfl) ?_
        refine va_get (D := g.1) (ci := 1) (v := .ref (ad 1)) (C := RX1) (T := TX1) (N := 18) hx hb hts (fun w h => List.mem_cons_of_mem _ (List.mem_append_left _ (List.mem_append_right _ h))) hown hK hP 0 rfl rfl 0 (by decide) (hts (.fieldLink RX1 9 "PauseRegions$Heap" "kind" "[I") (List.mem_of_getElem? (i := 1) rfl)) (fun _ h9 => h9) rfl dX1_freeWithRests_36 ?_
        refine lv_iload_n hx hb dX1_freeWithRests_39 rfl (lv_at hl 0 rfl) ?_
        obtain ⟨h2, hst1⟩ := ck_some hst1
        refine va_iald (D := g.1) hx hb hK hP 1 0 rfl rfl h2 dX1_freeWithRests_40 ?_
        refine lv_iconst (v := 4) hx hb dX1_freeWithRests_41 (by decide) ?_
        refine lv_icmp_ne (tgt := 56) hx hb dX1_freeWithRests_42 (by decide) (fun c3 => ?_) (fun c3 => ?_)
        · rw [if_neg c3] at hst1
          exact hout1 H locs ls _ (Option.some.inj hst1).symm hP hD hS (lv_sub hl [] rfl)
        · rw [if_pos c3] at hst1
          refine lv_aload_n hx hb dX1_freeWithRests_45 rfl (lv_at hl 2 rfl) ?_
          refine lv_iload_n hx hb dX1_freeWithRests_46 rfl (lv_at hl 0 rfl) ?_
          obtain ⟨z3, hc4, hst1⟩ := bn_some hst1
          refine mcV (C := RX1) (As := [.int q3.1]) (rest := []) ⟨hx, hb, hml, hown, hts⟩ hKK hP hD hS hZ (cwV 1 hts gX1_freeWithRests_X1_freeOne rfl rfl rfl hdX1_freeOne ⟨Nat.le_of_ble_eq_true rfl, Nat.le_of_ble_eq_true rfl⟩) (kX1_freeOne (l := l) (g := g) (ad := ad) (A := q3.2) (F := F) hc4) (va_recv hK hP (ci := 1) (q0 := 0) rfl rfl) rfl hl.1 rfl (Nat.le_of_ble_eq_true rfl) dX1_freeWithRests_47 ⟨Nat.zero_le _, Nat.zero_le _⟩ (fun H locs hP hD hS => ?_)
          have hP : va_P g.1 vwCl (wH g ad z3 F) H := hP
          have hD : va_D Z (wH g ad z3 F) := hD
          refine lv_iinc (v := q3.1 + 1) (lv' := [(3, .int (q3.1 + 1)), (2, .int 1), (0, .ref (ad 0))]) hx hb dX1_freeWithRests_50 hl (k := 0) rfl rfl (by decide) rfl (fun ls hl => ?_)
          refine lv_goto (tgt := 25) hx hb dX1_freeWithRests_53 (by decide) ?_
          exact hin1 H locs ls _ (Option.some.inj hst1).symm hP hD hS (lv_sub hl [0, 1, 2] rfl)
def sX1_endMarkingIfNoneGrey_L18 (q1 : Int32 × IA) : Option ((Int32 × IA) ⊕ (IA)) :=
  if 10 ≤ q1.1 then (some (.inr q1.2)) else (ck q1.1 10 (if ((q1.2 0) q1.1.toNatClampNeg) = 2 then ((sX1_blackCells q1.2 q1.1).bind fun x1 => ck q1.1 10 (bd (wr q1.2 2 q1.1.toNatClampNeg x1) fun A2 => some (.inl (q1.1 + 1, A2)))) else (some (.inl (q1.1 + 1, q1.2)))))
def sX1_endMarkingIfNoneGrey_L53 (q3 : Int32 × IA) : Option ((Int32 × IA) ⊕ (IA)) :=
  if 10 ≤ q3.1 then (some (.inr q3.2)) else (ck q3.1 10 (if ((q3.2 0) q3.1.toNatClampNeg) = 2 then ((sX1_blackCells q3.2 q3.1).bind fun x2 => if x2 = 0 then ((sX1_endThingsIn q3.2 q3.1).bind fun z1 => (sX1_freeWithRests z1 q3.1).bind fun z2 => some (.inl (q3.1 + 1, z2))) else (some (.inl (q3.1 + 1, q3.2)))) else (ck q3.1 10 (if ((q3.2 0) q3.1.toNatClampNeg) = 3 then ((sX1_blackCells q3.2 q3.1).bind fun x3 => if x3 = 0 then ((sX1_endThingsIn q3.2 q3.1).bind fun z3 => (sX1_freeWithRests z3 q3.1).bind fun z4 => some (.inl (q3.1 + 1, z4))) else (some (.inl (q3.1 + 1, q3.2)))) else (some (.inl (q3.1 + 1, q3.2)))))))
def sX1_endMarkingIfNoneGrey (A : IA) : Option (IA) :=
  if (A 19 0) ≤ 0 then (bd (sc A 12 0) fun A1 => (loopN (sX1_endMarkingIfNoneGrey_L18) 2000 (0, A1)).bind fun q2 => (loopN (sX1_endMarkingIfNoneGrey_L53) 2000 (0, q2)).bind fun q4 => some q4) else (some A)
abbrev rmX1_endMarkingIfNoneGrey : Room := { frames := 3, cells := 0, slots := 0, locals := 68 }
theorem hdX1_endMarkingIfNoneGrey : yX1_endMarkingIfNoneGrey.cls = RX1 ∧ yX1_endMarkingIfNoneGrey.cls ≠ "java/lang/invoke/MethodHandle" ∧ yX1_endMarkingIfNoneGrey.cls ≠ "java/lang/invoke/VarHandle" ∧ (parseMethodDescriptor yX1_endMarkingIfNoneGrey.desc).map (fun d => d.parameters.length) = some 0 := by decide +kernel
set_option maxHeartbeats 4000000 in
set_option maxRecDepth 100000 in
theorem kX1_endMarkingIfNoneGrey {l : Launch} {g : GG} {sz : Nat} {ad : Nat → Nat} {A : IA} {F : FA} {b : IA} (hsem : sX1_endMarkingIfNoneGrey A = some b) : MetV l yX1_endMarkingIfNoneGrey wsX1_endMarkingIfNoneGrey rmX1_endMarkingIfNoneGrey g [.ref (ad 0)] (wH g ad A F) sz (wH g ad b F) := by
  refine Met.ofW (cc := cX1_endMarkingIfNoneGrey) (maxL := 2) (ret := none) (by decide) rfl ?_
  intro p e s m args below meth c s₁ B hml hv
  obtain ⟨rfl, hsz, hP, hD0, hKK⟩ := hv
  subst hsz
  have hx := B.exec
  have hb := B.bytes
  have hr := B.returns
  have hts := atoms_spec (ws := wsX1_endMarkingIfNoneGrey) B.pre
  have hown : s.vm.findClass RX1 = some m.cls := findClass_of_methodNamed B.named
  have hlocks := B.notSynchronized
  have hK := hKK.1
  have hD := hD0.self (sz := s.heap.size)
  generalize hZe : va_A (wH g ad A F) s.heap.size = Z at hD ⊢
  have hZ : ∀ q : Nat, s.heap.size ≤ q → Z q := fun q h => by rw [← hZe]; exact Or.inr h
  have hS : va_S Z s.heap s.heap [] := va_S.rf
  have hP : va_P g.1 vwCl (wH g ad A F) s.heap := hP
  have hD : va_D Z (wH g ad A F) := hD
  have hl := lv_entry ([.ref (ad 0)]) (n := 2) (Nat.le_of_ble_eq_true rfl)
  rw [lg_entry_eq]
  generalize (lg_sl ([.ref (ad 0)]) ++ List.replicate (2 - (lg_sl ([.ref (ad 0)])).length) Slot.unset).toArray = ls at hl ⊢
  have hl : lv_has ls 2 [(0, .ref (ad 0))] := hl
  unfold sX1_endMarkingIfNoneGrey at hsem
  refine lv_aload_n hx hb dX1_endMarkingIfNoneGrey_0 rfl (lv_at hl 0 rfl) ?_
  refine va_get (D := g.1) (ci := 1) (v := .ref (ad 13)) (C := RX1) (T := TX1) (N := 18) hx hb hts (fun w h => List.mem_cons_of_mem _ (List.mem_append_left _ (List.mem_append_right _ h))) hown hK hP 0 rfl rfl 11 (by decide) (hts (.fieldLink RX1 49 "PauseRegions$Heap" "greyThings" "LPauseRegions$Row;") (List.mem_of_getElem? (i := 1) rfl)) (fun _ h9 => h9) rfl dX1_endMarkingIfNoneGrey_1 ?_
  refine va_get (D := g.1) (ci := 5) (v := .int (A 19 0)) (C := RX5) (T := TX5) (N := 2) hx hb hts (fun w h => List.mem_cons_of_mem _ (List.mem_append_right _ h)) hown hK hP 13 rfl rfl 1 (by decide) (hts (.fieldLink RX1 132 "PauseRegions$Row" "length" "I") (List.mem_of_getElem? (i := 2) rfl)) (fun _ h9 => h9) rfl dX1_endMarkingIfNoneGrey_4 ?_
  refine lv_if_le (tgt := 11) hx hb dX1_endMarkingIfNoneGrey_7 (by decide) (fun c1 => ?_) (fun c1 => ?_)
  · rw [if_pos c1] at hsem
    refine lv_aload_n hx hb dX1_endMarkingIfNoneGrey_11 rfl (lv_at hl 0 rfl) ?_
    refine lv_iconst (v := 0) hx hb dX1_endMarkingIfNoneGrey_12 (by decide) ?_
    refine va_put (D := g.1) (ci := 1) (v := .int 0) (ty := .boolean) (C := RX1) (T := TX1) (N := 18) hx hb hts (fun w h => List.mem_cons_of_mem _ (List.mem_append_left _ (List.mem_append_right _ h))) tyX1 tyX1_ok nmX1 hown hK hP hD hS 0 rfl rfl 12 (by decide) (hts (.fieldLink RX1 83 "PauseRegions$Heap" "marking" "Z") (List.mem_of_getElem? (i := 3) rfl)) (fun _ h9 => h9) rfl (by decide +kernel) rfl rfl (Nat.le_of_ble_eq_true rfl) dX1_endMarkingIfNoneGrey_13 (fun H locs hP hD hS => ?_)
    obtain ⟨A1, eA1, hsem⟩ := bd_some hsem
    have hP : va_P g.1 vwCl (wH g ad A1 F) H := by rw [eA1]; exact hP
    have hD : va_D Z (wH g ad A1 F) := by rw [eA1]; exact hD
    refine lv_iconst (v := 0) hx hb dX1_endMarkingIfNoneGrey_16 (by decide) ?_
    refine lv_istore_n (lv' := [(1, .int 0), (0, .ref (ad 0))]) hx hb dX1_endMarkingIfNoneGrey_17 rfl hl (by decide) rfl (fun ls hl => ?_)
    obtain ⟨q2, hc2, hsem⟩ := bn_some hsem
    refine loopM (g := g) hc2 (fun (q1 : Int32 × IA) => [(1, .int q1.1), (0, .ref (ad 0))]) (fun (q1 : IA) => [(0, .ref (ad 0))]) (exit := 51) (fun (q1 : Int32 × IA) => wH g ad q1.2 F) (fun (q1 : IA) => wH g ad q1 F) hP hD hS (lv_sub hl [0, 1] rfl) (fun H locs ls hP hD hS hl => ?_) (fun q1 r hst1 hin1 hout1 H locs ls hP hD hS hl => ?_)
    · have hP : va_P g.1 vwCl (wH g ad q2 F) H := hP
      have hD : va_D Z (wH g ad q2 F) := hD
      refine lv_iconst (v := 0) hx hb dX1_endMarkingIfNoneGrey_51 (by decide) ?_
      refine lv_istore_n (lv' := [(1, .int 0), (0, .ref (ad 0))]) hx hb dX1_endMarkingIfNoneGrey_52 rfl hl (by decide) rfl (fun ls hl => ?_)
      obtain ⟨q4, hc9, hsem⟩ := bn_some hsem
      refine loopM (g := g) hc9 (fun (q3 : Int32 × IA) => [(1, .int q3.1), (0, .ref (ad 0))]) (fun (q3 : IA) => []) (exit := 103) (fun (q3 : Int32 × IA) => wH g ad q3.2 F) (fun (q3 : IA) => wH g ad q3 F) hP hD hS (lv_sub hl [0, 1] rfl) (fun H locs ls hP hD hS hl => ?_) (fun q3 r hst1 hin1 hout1 H locs ls hP hD hS hl => ?_)
      · have hP : va_P g.1 vwCl (wH g ad q4 F) H := hP
        have hD : va_D Z (wH g ad q4 F) := hD
        have eo := (Option.some.inj hsem).symm.symm
        subst eo
        exact W.vret hx hb hr (fun t ht hW => ⟨⟨(), rfl, trivial, ⟨by rw [ht]; exact hP, hD⟩⟩, hS.F ht⟩) hS.2.2 dX1_endMarkingIfNoneGrey_103
      · unfold sX1_endMarkingIfNoneGrey_L53 at hst1
        have hP : va_P g.1 vwCl (wH g ad q3.2 F) H := hP
        have hD : va_D Z (wH g ad q3.2 F) := hD
        refine lv_iload_n hx hb dX1_endMarkingIfNoneGrey_53 rfl (lv_at hl 0 rfl) ?_
        refine lv_bipush (v := 10) hx hb dX1_endMarkingIfNoneGrey_54 (by decide) ?_
        refine lv_icmp_ge (tgt := 103) hx hb dX1_endMarkingIfNoneGrey_56 (by decide) (fun c4 => ?_) (fun c4 => ?_)
        · rw [if_pos c4] at hst1
          exact hout1 H locs ls _ (Option.some.inj hst1).symm hP hD hS (lv_sub hl [] rfl)
        · rw [if_neg c4] at hst1
          refine lv_aload_n hx hb dX1_endMarkingIfNoneGrey_59 rfl (lv_at hl 1 rfl) ?_
          refine va_get (D := g.1) (ci := 1) (v := .ref (ad 1)) (C := RX1) (T := TX1) (N := 18) hx hb hts (fun w h => List.mem_cons_of_mem _ (List.mem_append_left _ (List.mem_append_right _ h))) hown hK hP 0 rfl rfl 0 (by decide) (hts (.fieldLink RX1 9 "PauseRegions$Heap" "kind" "[I") (List.mem_of_getElem? (i := 4) rfl)) (fun _ h9 => h9) rfl dX1_endMarkingIfNoneGrey_60 ?_
          refine lv_iload_n hx hb dX1_endMarkingIfNoneGrey_63 rfl (lv_at hl 0 rfl) ?_
          obtain ⟨h3, hst1⟩ := ck_some hst1
          refine va_iald (D := g.1) hx hb hK hP 1 0 rfl rfl h3 dX1_endMarkingIfNoneGrey_64 ?_
          refine lv_iconst (v := 2) hx hb dX1_endMarkingIfNoneGrey_65 (by decide) ?_
          refine lv_icmp_eq (tgt := 79) hx hb dX1_endMarkingIfNoneGrey_66 (by decide) (fun c5 => ?_) (fun c5 => ?_)
          · rw [if_pos c5] at hst1
            refine lv_aload_n hx hb dX1_endMarkingIfNoneGrey_79 rfl (lv_at hl 1 rfl) ?_
            refine lv_iload_n hx hb dX1_endMarkingIfNoneGrey_80 rfl (lv_at hl 0 rfl) ?_
            obtain ⟨x2, hc3, hst1⟩ := bn_some hst1
            refine pcV (C := RX1) (As := [.int q3.1]) (rest := []) ⟨hx, hb, hml, hown, hts⟩ hKK (cwV 1 hts gX1_endMarkingIfNoneGrey_X1_blackCells rfl rfl rfl hdX1_blackCells ⟨Nat.le_of_ble_eq_true rfl, Nat.le_of_ble_eq_true rfl⟩) (kX1_blackCells (l := l) (g := g) hP hc3) (va_recv hK hP (ci := 1) (q0 := 0) rfl rfl) rfl hl.1 rfl (Nat.le_of_ble_eq_true rfl) dX1_endMarkingIfNoneGrey_81 ⟨Nat.zero_le _, Nat.zero_le _⟩ ?_
            refine lv_if_ne (tgt := 97) hx hb dX1_endMarkingIfNoneGrey_84 (by decide) (fun c6 => ?_) (fun c6 => ?_)
            · rw [if_neg c6] at hst1
              refine lv_iinc (v := q3.1 + 1) (lv' := [(1, .int (q3.1 + 1)), (0, .ref (ad 0))]) hx hb dX1_endMarkingIfNoneGrey_97 hl (k := 0) rfl rfl (by decide) rfl (fun ls hl => ?_)
              refine lv_goto (tgt := 53) hx hb dX1_endMarkingIfNoneGrey_100 (by decide) ?_
              exact hin1 H locs ls _ (Option.some.inj hst1).symm hP hD hS (lv_sub hl [0, 1] rfl)
            · rw [if_pos c6] at hst1
              refine lv_aload_n hx hb dX1_endMarkingIfNoneGrey_87 rfl (lv_at hl 1 rfl) ?_
              refine lv_iload_n hx hb dX1_endMarkingIfNoneGrey_88 rfl (lv_at hl 0 rfl) ?_
              obtain ⟨z1, hc4, hst1⟩ := bn_some hst1
              refine mcV (C := RX1) (As := [.int q3.1]) (rest := []) ⟨hx, hb, hml, hown, hts⟩ hKK hP hD hS hZ (cwV 1 hts gX1_endMarkingIfNoneGrey_X1_endThingsIn rfl rfl rfl hdX1_endThingsIn ⟨Nat.le_of_ble_eq_true rfl, Nat.le_of_ble_eq_true rfl⟩) (kX1_endThingsIn (l := l) (g := g) (ad := ad) (A := q3.2) (F := F) hc4) (va_recv hK hP (ci := 1) (q0 := 0) rfl rfl) rfl hl.1 rfl (Nat.le_of_ble_eq_true rfl) dX1_endMarkingIfNoneGrey_89 ⟨Nat.zero_le _, Nat.zero_le _⟩ (fun H locs hP hD hS => ?_)
              have hP : va_P g.1 vwCl (wH g ad z1 F) H := hP
              have hD : va_D Z (wH g ad z1 F) := hD
              refine lv_aload_n hx hb dX1_endMarkingIfNoneGrey_92 rfl (lv_at hl 1 rfl) ?_
              refine lv_iload_n hx hb dX1_endMarkingIfNoneGrey_93 rfl (lv_at hl 0 rfl) ?_
              obtain ⟨z2, hc5, hst1⟩ := bn_some hst1
              refine mcV (C := RX1) (As := [.int q3.1]) (rest := []) ⟨hx, hb, hml, hown, hts⟩ hKK hP hD hS hZ (cwV 1 hts gX1_endMarkingIfNoneGrey_X1_freeWithRests rfl rfl rfl hdX1_freeWithRests ⟨Nat.le_of_ble_eq_true rfl, Nat.le_of_ble_eq_true rfl⟩) (kX1_freeWithRests (l := l) (g := g) (ad := ad) (A := z1) (F := F) hc5) (va_recv hK hP (ci := 1) (q0 := 0) rfl rfl) rfl hl.1 rfl (Nat.le_of_ble_eq_true rfl) dX1_endMarkingIfNoneGrey_94 ⟨Nat.zero_le _, Nat.zero_le _⟩ (fun H locs hP hD hS => ?_)
              have hP : va_P g.1 vwCl (wH g ad z2 F) H := hP
              have hD : va_D Z (wH g ad z2 F) := hD
              refine lv_iinc (v := q3.1 + 1) (lv' := [(1, .int (q3.1 + 1)), (0, .ref (ad 0))]) hx hb dX1_endMarkingIfNoneGrey_97 hl (k := 0) rfl rfl (by decide) rfl (fun ls hl => ?_)
              refine lv_goto (tgt := 53) hx hb dX1_endMarkingIfNoneGrey_100 (by decide) ?_
              exact hin1 H locs ls _ (Option.some.inj hst1).symm hP hD hS (lv_sub hl [0, 1] rfl)
          · rw [if_neg c5] at hst1
            refine lv_aload_n hx hb dX1_endMarkingIfNoneGrey_69 rfl (lv_at hl 1 rfl) ?_
            refine va_get (D := g.1) (ci := 1) (v := .ref (ad 1)) (C := RX1) (T := TX1) (N := 18) hx hb hts (fun w h => List.mem_cons_of_mem _ (List.mem_append_left _ (List.mem_append_right _ h))) hown hK hP 0 rfl rfl 0 (by decide) (hts (.fieldLink RX1 9 "PauseRegions$Heap" "kind" "[I") (List.mem_of_getElem? (i := 4) rfl)) (fun _ h9 => h9) rfl dX1_endMarkingIfNoneGrey_70 ?_
            refine lv_iload_n hx hb dX1_endMarkingIfNoneGrey_73 rfl (lv_at hl 0 rfl) ?_
            obtain ⟨h4, hst1⟩ := ck_some hst1
            refine va_iald (D := g.1) hx hb hK hP 1 0 rfl rfl h4 dX1_endMarkingIfNoneGrey_74 ?_
            refine lv_iconst (v := 3) hx hb dX1_endMarkingIfNoneGrey_75 (by decide) ?_
            refine lv_icmp_ne (tgt := 97) hx hb dX1_endMarkingIfNoneGrey_76 (by decide) (fun c7 => ?_) (fun c7 => ?_)
            · rw [if_neg c7] at hst1
              refine lv_iinc (v := q3.1 + 1) (lv' := [(1, .int (q3.1 + 1)), (0, .ref (ad 0))]) hx hb dX1_endMarkingIfNoneGrey_97 hl (k := 0) rfl rfl (by decide) rfl (fun ls hl => ?_)
              refine lv_goto (tgt := 53) hx hb dX1_endMarkingIfNoneGrey_100 (by decide) ?_
              exact hin1 H locs ls _ (Option.some.inj hst1).symm hP hD hS (lv_sub hl [0, 1] rfl)
            · rw [if_pos c7] at hst1
              refine lv_aload_n hx hb dX1_endMarkingIfNoneGrey_79 rfl (lv_at hl 1 rfl) ?_
              refine lv_iload_n hx hb dX1_endMarkingIfNoneGrey_80 rfl (lv_at hl 0 rfl) ?_
              obtain ⟨x3, hc6, hst1⟩ := bn_some hst1
              refine pcV (C := RX1) (As := [.int q3.1]) (rest := []) ⟨hx, hb, hml, hown, hts⟩ hKK (cwV 1 hts gX1_endMarkingIfNoneGrey_X1_blackCells rfl rfl rfl hdX1_blackCells ⟨Nat.le_of_ble_eq_true rfl, Nat.le_of_ble_eq_true rfl⟩) (kX1_blackCells (l := l) (g := g) hP hc6) (va_recv hK hP (ci := 1) (q0 := 0) rfl rfl) rfl hl.1 rfl (Nat.le_of_ble_eq_true rfl) dX1_endMarkingIfNoneGrey_81 ⟨Nat.zero_le _, Nat.zero_le _⟩ ?_
              refine lv_if_ne (tgt := 97) hx hb dX1_endMarkingIfNoneGrey_84 (by decide) (fun c8 => ?_) (fun c8 => ?_)
              · rw [if_neg c8] at hst1
                refine lv_iinc (v := q3.1 + 1) (lv' := [(1, .int (q3.1 + 1)), (0, .ref (ad 0))]) hx hb dX1_endMarkingIfNoneGrey_97 hl (k := 0) rfl rfl (by decide) rfl (fun ls hl => ?_)
                refine lv_goto (tgt := 53) hx hb dX1_endMarkingIfNoneGrey_100 (by decide) ?_
                exact hin1 H locs ls _ (Option.some.inj hst1).symm hP hD hS (lv_sub hl [0, 1] rfl)
              · rw [if_pos c8] at hst1
                refine lv_aload_n hx hb dX1_endMarkingIfNoneGrey_87 rfl (lv_at hl 1 rfl) ?_
                refine lv_iload_n hx hb dX1_endMarkingIfNoneGrey_88 rfl (lv_at hl 0 rfl) ?_
                obtain ⟨z3, hc7, hst1⟩ := bn_some hst1
                refine mcV (C := RX1) (As := [.int q3.1]) (rest := []) ⟨hx, hb, hml, hown, hts⟩ hKK hP hD hS hZ (cwV 1 hts gX1_endMarkingIfNoneGrey_X1_endThingsIn rfl rfl rfl hdX1_endThingsIn ⟨Nat.le_of_ble_eq_true rfl, Nat.le_of_ble_eq_true rfl⟩) (kX1_endThingsIn (l := l) (g := g) (ad := ad) (A := q3.2) (F := F) hc7) (va_recv hK hP (ci := 1) (q0 := 0) rfl rfl) rfl hl.1 rfl (Nat.le_of_ble_eq_true rfl) dX1_endMarkingIfNoneGrey_89 ⟨Nat.zero_le _, Nat.zero_le _⟩ (fun H locs hP hD hS => ?_)
                have hP : va_P g.1 vwCl (wH g ad z3 F) H := hP
                have hD : va_D Z (wH g ad z3 F) := hD
                refine lv_aload_n hx hb dX1_endMarkingIfNoneGrey_92 rfl (lv_at hl 1 rfl) ?_
                refine lv_iload_n hx hb dX1_endMarkingIfNoneGrey_93 rfl (lv_at hl 0 rfl) ?_
                obtain ⟨z4, hc8, hst1⟩ := bn_some hst1
                refine mcV (C := RX1) (As := [.int q3.1]) (rest := []) ⟨hx, hb, hml, hown, hts⟩ hKK hP hD hS hZ (cwV 1 hts gX1_endMarkingIfNoneGrey_X1_freeWithRests rfl rfl rfl hdX1_freeWithRests ⟨Nat.le_of_ble_eq_true rfl, Nat.le_of_ble_eq_true rfl⟩) (kX1_freeWithRests (l := l) (g := g) (ad := ad) (A := z3) (F := F) hc8) (va_recv hK hP (ci := 1) (q0 := 0) rfl rfl) rfl hl.1 rfl (Nat.le_of_ble_eq_true rfl) dX1_endMarkingIfNoneGrey_94 ⟨Nat.zero_le _, Nat.zero_le _⟩ (fun H locs hP hD hS => ?_)
                have hP : va_P g.1 vwCl (wH g ad z4 F) H := hP
                have hD : va_D Z (wH g ad z4 F) := hD
                refine lv_iinc (v := q3.1 + 1) (lv' := [(1, .int (q3.1 + 1)), (0, .ref (ad 0))]) hx hb dX1_endMarkingIfNoneGrey_97 hl (k := 0) rfl rfl (by decide) rfl (fun ls hl => ?_)
                refine lv_goto (tgt := 53) hx hb dX1_endMarkingIfNoneGrey_100 (by decide) ?_
                exact hin1 H locs ls _ (Option.some.inj hst1).symm hP hD hS (lv_sub hl [0, 1] rfl)
    · unfold sX1_endMarkingIfNoneGrey_L18 at hst1
      have hP : va_P g.1 vwCl (wH g ad q1.2 F) H := hP
      have hD : va_D Z (wH g ad q1.2 F) := hD
      refine lv_iload_n hx hb dX1_endMarkingIfNoneGrey_18 rfl (lv_at hl 0 rfl) ?_
      refine lv_bipush (v := 10) hx hb dX1_endMarkingIfNoneGrey_19 (by decide) ?_
      refine lv_icmp_ge (tgt := 51) hx hb dX1_endMarkingIfNoneGrey_21 (by decide) (fun c2 => ?_) (fun c2 => ?_)
      · rw [if_pos c2] at hst1
        exact hout1 H locs ls _ (Option.some.inj hst1).symm hP hD hS (lv_sub hl [1] rfl)
      · rw [if_neg c2] at hst1
        refine lv_aload_n hx hb dX1_endMarkingIfNoneGrey_24 rfl (lv_at hl 1 rfl) ?_
        refine va_get (D := g.1) (ci := 1) (v := .ref (ad 1)) (C := RX1) (T := TX1) (N := 18) hx hb hts (fun w h => List.mem_cons_of_mem _ (List.mem_append_left _ (List.mem_append_right _ h))) hown hK hP 0 rfl rfl 0 (by decide) (hts (.fieldLink RX1 9 "PauseRegions$Heap" "kind" "[I") (List.mem_of_getElem? (i := 4) rfl)) (fun _ h9 => h9) rfl dX1_endMarkingIfNoneGrey_25 ?_
        refine lv_iload_n hx hb dX1_endMarkingIfNoneGrey_28 rfl (lv_at hl 0 rfl) ?_
        obtain ⟨h1, hst1⟩ := ck_some hst1
        refine va_iald (D := g.1) hx hb hK hP 1 0 rfl rfl h1 dX1_endMarkingIfNoneGrey_29 ?_
        refine lv_iconst (v := 2) hx hb dX1_endMarkingIfNoneGrey_30 (by decide) ?_
        refine lv_icmp_ne (tgt := 45) hx hb dX1_endMarkingIfNoneGrey_31 (by decide) (fun c3 => ?_) (fun c3 => ?_)
        · rw [if_neg c3] at hst1
          refine lv_iinc (v := q1.1 + 1) (lv' := [(1, .int (q1.1 + 1)), (0, .ref (ad 0))]) hx hb dX1_endMarkingIfNoneGrey_45 hl (k := 0) rfl rfl (by decide) rfl (fun ls hl => ?_)
          refine lv_goto (tgt := 18) hx hb dX1_endMarkingIfNoneGrey_48 (by decide) ?_
          exact hin1 H locs ls _ (Option.some.inj hst1).symm hP hD hS (lv_sub hl [0, 1] rfl)
        · rw [if_pos c3] at hst1
          refine lv_aload_n hx hb dX1_endMarkingIfNoneGrey_34 rfl (lv_at hl 1 rfl) ?_
          refine va_get (D := g.1) (ci := 1) (v := .ref (ad 3)) (C := RX1) (T := TX1) (N := 18) hx hb hts (fun w h => List.mem_cons_of_mem _ (List.mem_append_left _ (List.mem_append_right _ h))) hown hK hP 0 rfl rfl 2 (by decide) (hts (.fieldLink RX1 18 "PauseRegions$Heap" "live" "[I") (List.mem_of_getElem? (i := 5) rfl)) (fun _ h9 => h9) rfl dX1_endMarkingIfNoneGrey_35 ?_
          refine lv_iload_n hx hb dX1_endMarkingIfNoneGrey_38 rfl (lv_at hl 0 rfl) ?_
          refine lv_aload_n hx hb dX1_endMarkingIfNoneGrey_39 rfl (lv_at hl 1 rfl) ?_
          refine lv_iload_n hx hb dX1_endMarkingIfNoneGrey_40 rfl (lv_at hl 0 rfl) ?_
          obtain ⟨x1, hc1, hst1⟩ := bn_some hst1
          refine pcV (C := RX1) (As := [.int q1.1]) (rest := [.int q1.1, .ref (ad 3)]) ⟨hx, hb, hml, hown, hts⟩ hKK (cwV 1 hts gX1_endMarkingIfNoneGrey_X1_blackCells rfl rfl rfl hdX1_blackCells ⟨Nat.le_of_ble_eq_true rfl, Nat.le_of_ble_eq_true rfl⟩) (kX1_blackCells (l := l) (g := g) hP hc1) (va_recv hK hP (ci := 1) (q0 := 0) rfl rfl) rfl hl.1 rfl (Nat.le_of_ble_eq_true rfl) dX1_endMarkingIfNoneGrey_41 ⟨Nat.zero_le _, Nat.zero_le _⟩ ?_
          obtain ⟨h2, hst1⟩ := ck_some hst1
          refine va_iast (D := g.1) hx hb hK hP hD hS 3 0 rfl rfl h2 dX1_endMarkingIfNoneGrey_44 (fun H locs hP hD hS => ?_)
          obtain ⟨A2, eA2, hst1⟩ := bd_some hst1
          have hP : va_P g.1 vwCl (wH g ad A2 F) H := by rw [eA2]; exact hP
          have hD : va_D Z (wH g ad A2 F) := by rw [eA2]; exact hD
          refine lv_iinc (v := q1.1 + 1) (lv' := [(1, .int (q1.1 + 1)), (0, .ref (ad 0))]) hx hb dX1_endMarkingIfNoneGrey_45 hl (k := 0) rfl rfl (by decide) rfl (fun ls hl => ?_)
          refine lv_goto (tgt := 18) hx hb dX1_endMarkingIfNoneGrey_48 (by decide) ?_
          exact hin1 H locs ls _ (Option.some.inj hst1).symm hP hD hS (lv_sub hl [0, 1] rfl)
  · rw [if_neg c1] at hsem
    have eo := (Option.some.inj hsem).symm.symm
    subst eo
    exact W.vret hx hb hr (fun t ht hW => ⟨⟨(), rfl, trivial, ⟨by rw [ht]; exact hP, hD⟩⟩, hS.F ht⟩) hS.2.2 dX1_endMarkingIfNoneGrey_10
def sX1_beginMarking_L15 (q1 : Int32 × IA) : Option ((Int32 × IA) ⊕ (IA)) :=
  if 6 ≤ q1.1 then (some (.inr q1.2)) else (ck q1.1 6 ((sX1_becomeGrey q1.2 ((q1.2 9) q1.1.toNatClampNeg)).bind fun z2 => some (.inl (q1.1 + 1, z2))))
def sX1_beginMarking (A : IA) : Option (IA) :=
  bd (sc A 12 1) fun A1 => (sJ7_fill_53178 32 (A1 8) 0).bind fun z1 => bd (setR A1 8 z1) fun A2 => (loopN (sX1_beginMarking_L15) 2000 (0, A2)).bind fun q2 => (sX1_endMarkingIfNoneGrey q2).bind fun z3 => some z3
abbrev rmX1_beginMarking : Room := { frames := 4, cells := 0, slots := 0, locals := 89 }
theorem hdX1_beginMarking : yX1_beginMarking.cls = RX1 ∧ yX1_beginMarking.cls ≠ "java/lang/invoke/MethodHandle" ∧ yX1_beginMarking.cls ≠ "java/lang/invoke/VarHandle" ∧ (parseMethodDescriptor yX1_beginMarking.desc).map (fun d => d.parameters.length) = some 0 := by decide +kernel
set_option maxHeartbeats 4000000 in
set_option maxRecDepth 100000 in
theorem kX1_beginMarking {l : Launch} {g : GG} {sz : Nat} {ad : Nat → Nat} {A : IA} {F : FA} {b : IA} (hsem : sX1_beginMarking A = some b) : MetV l yX1_beginMarking wsX1_beginMarking rmX1_beginMarking g [.ref (ad 0)] (wH g ad A F) sz (wH g ad b F) := by
  refine Met.ofW (cc := cX1_beginMarking) (maxL := 2) (ret := none) (by decide) rfl ?_
  intro p e s m args below meth c s₁ B hml hv
  obtain ⟨rfl, hsz, hP, hD0, hKK⟩ := hv
  subst hsz
  have hx := B.exec
  have hb := B.bytes
  have hr := B.returns
  have hts := atoms_spec (ws := wsX1_beginMarking) B.pre
  have hown : s.vm.findClass RX1 = some m.cls := findClass_of_methodNamed B.named
  have hlocks := B.notSynchronized
  have hK := hKK.1
  have hD := hD0.self (sz := s.heap.size)
  generalize hZe : va_A (wH g ad A F) s.heap.size = Z at hD ⊢
  have hZ : ∀ q : Nat, s.heap.size ≤ q → Z q := fun q h => by rw [← hZe]; exact Or.inr h
  have hS : va_S Z s.heap s.heap [] := va_S.rf
  have hP : va_P g.1 vwCl (wH g ad A F) s.heap := hP
  have hD : va_D Z (wH g ad A F) := hD
  have hl := lv_entry ([.ref (ad 0)]) (n := 2) (Nat.le_of_ble_eq_true rfl)
  rw [lg_entry_eq]
  generalize (lg_sl ([.ref (ad 0)]) ++ List.replicate (2 - (lg_sl ([.ref (ad 0)])).length) Slot.unset).toArray = ls at hl ⊢
  have hl : lv_has ls 2 [(0, .ref (ad 0))] := hl
  unfold sX1_beginMarking at hsem
  refine lv_aload_n hx hb dX1_beginMarking_0 rfl (lv_at hl 0 rfl) ?_
  refine lv_iconst (v := 1) hx hb dX1_beginMarking_1 (by decide) ?_
  refine va_put (D := g.1) (ci := 1) (v := .int 1) (ty := .boolean) (C := RX1) (T := TX1) (N := 18) hx hb hts (fun w h => List.mem_cons_of_mem _ (List.mem_append_left _ (List.mem_append_right _ h))) tyX1 tyX1_ok nmX1 hown hK hP hD hS 0 rfl rfl 12 (by decide) (hts (.fieldLink RX1 83 "PauseRegions$Heap" "marking" "Z") (List.mem_of_getElem? (i := 1) rfl)) (fun _ h9 => h9) rfl (by decide +kernel) rfl rfl (Nat.le_of_ble_eq_true rfl) dX1_beginMarking_2 (fun H locs hP hD hS => ?_)
  obtain ⟨A1, eA1, hsem⟩ := bd_some hsem
  have hP : va_P g.1 vwCl (wH g ad A1 F) H := by rw [eA1]; exact hP
  have hD : va_D Z (wH g ad A1 F) := by rw [eA1]; exact hD
  refine lv_aload_n hx hb dX1_beginMarking_5 rfl (lv_at hl 0 rfl) ?_
  refine va_get (D := g.1) (ci := 1) (v := .ref (ad 9)) (C := RX1) (T := TX1) (N := 18) hx hb hts (fun w h => List.mem_cons_of_mem _ (List.mem_append_left _ (List.mem_append_right _ h))) hown hK hP 0 rfl rfl 8 (by decide) (hts (.fieldLink RX1 36 "PauseRegions$Heap" "colour" "[I") (List.mem_of_getElem? (i := 2) rfl)) (fun _ h9 => h9) rfl dX1_beginMarking_6 ?_
  refine lv_iconst (v := 0) hx hb dX1_beginMarking_9 (by decide) ?_
  obtain ⟨z1, hc1, hsem⟩ := bn_some hsem
  refine mcSs (As := [.ref (ad 9), .int 0]) (rest := []) (wr := (wH_9 g ad A1 F)) ⟨hx, hb, hml, hown, hts⟩ hKK hP hD hS hZ [9] [0, 1, 2, 3, 4, 5, 6, 7, 8, 10, 11, 12, 13, 14] rfl rfl (by decide) (by decide) (by decide) (va_cwS 2 hts gX1_beginMarking_J7_fill_53178 rfl rfl rfl hdJ7_fill_53178 ⟨Nat.le_of_ble_eq_true rfl, Nat.le_of_ble_eq_true rfl⟩) (kJ7_fill_53178 (l := l) (g := g) (a0 := (ad 9)) (z := 32) (f := (A1 8)) hc1) rfl hl.1 rfl (Nat.le_of_ble_eq_true rfl) dX1_beginMarking_10 ⟨Nat.zero_le _, Nat.zero_le _⟩ (fun H locs hP hD hS => ?_)
  obtain ⟨A2, eA2, hsem⟩ := bd_some hsem
  have hP : va_P g.1 vwCl (wH g ad A2 F) H := by rw [eA2]; exact hP.sub [0, 1, 2, 3, 4, 5, 6, 7, 8, 14, 9, 10, 11, 12, 13] rfl
  have hD : va_D Z (wH g ad A2 F) := by rw [eA2]; exact hD.sub [0, 1, 2, 3, 4, 5, 6, 7, 8, 14, 9, 10, 11, 12, 13] (by decide) rfl
  refine lv_iconst (v := 0) hx hb dX1_beginMarking_13 (by decide) ?_
  refine lv_istore_n (lv' := [(1, .int 0), (0, .ref (ad 0))]) hx hb dX1_beginMarking_14 rfl hl (by decide) rfl (fun ls hl => ?_)
  obtain ⟨q2, hc3, hsem⟩ := bn_some hsem
  refine loopM (g := g) hc3 (fun (q1 : Int32 × IA) => [(1, .int q1.1), (0, .ref (ad 0))]) (fun (q1 : IA) => [(0, .ref (ad 0))]) (exit := 37) (fun (q1 : Int32 × IA) => wH g ad q1.2 F) (fun (q1 : IA) => wH g ad q1 F) hP hD hS (lv_sub hl [0, 1] rfl) (fun H locs ls hP hD hS hl => ?_) (fun q1 r hst1 hin1 hout1 H locs ls hP hD hS hl => ?_)
  · have hP : va_P g.1 vwCl (wH g ad q2 F) H := hP
    have hD : va_D Z (wH g ad q2 F) := hD
    refine lv_aload_n hx hb dX1_beginMarking_37 rfl (lv_at hl 0 rfl) ?_
    obtain ⟨z3, hc4, hsem⟩ := bn_some hsem
    refine mcV (C := RX1) (As := []) (rest := []) ⟨hx, hb, hml, hown, hts⟩ hKK hP hD hS hZ (cwV 0 hts gX1_beginMarking_X1_endMarkingIfNoneGrey rfl rfl rfl hdX1_endMarkingIfNoneGrey ⟨Nat.le_of_ble_eq_true rfl, Nat.le_of_ble_eq_true rfl⟩) (kX1_endMarkingIfNoneGrey (l := l) (g := g) (ad := ad) (A := q2) (F := F) hc4) (va_recv hK hP (ci := 1) (q0 := 0) rfl rfl) rfl hl.1 rfl (Nat.le_of_ble_eq_true rfl) dX1_beginMarking_38 ⟨Nat.zero_le _, Nat.zero_le _⟩ (fun H locs hP hD hS => ?_)
    have hP : va_P g.1 vwCl (wH g ad z3 F) H := hP
    have hD : va_D Z (wH g ad z3 F) := hD
    have eo := (Option.some.inj hsem).symm.symm
    subst eo
    exact W.vret hx hb hr (fun t ht hW => ⟨⟨(), rfl, trivial, ⟨by rw [ht]; exact hP, hD⟩⟩, hS.F ht⟩) hS.2.2 dX1_beginMarking_41
  · unfold sX1_beginMarking_L15 at hst1
    have hP : va_P g.1 vwCl (wH g ad q1.2 F) H := hP
    have hD : va_D Z (wH g ad q1.2 F) := hD
    refine lv_iload_n hx hb dX1_beginMarking_15 rfl (lv_at hl 0 rfl) ?_
    refine lv_bipush (v := 6) hx hb dX1_beginMarking_16 (by decide) ?_
    refine lv_icmp_ge (tgt := 37) hx hb dX1_beginMarking_18 (by decide) (fun c1 => ?_) (fun c1 => ?_)
    · rw [if_pos c1] at hst1
      exact hout1 H locs ls _ (Option.some.inj hst1).symm hP hD hS (lv_sub hl [1] rfl)
    · rw [if_neg c1] at hst1
      refine lv_aload_n hx hb dX1_beginMarking_21 rfl (lv_at hl 1 rfl) ?_
      refine lv_aload_n hx hb dX1_beginMarking_22 rfl (lv_at hl 1 rfl) ?_
      refine va_get (D := g.1) (ci := 1) (v := .ref (ad 10)) (C := RX1) (T := TX1) (N := 18) hx hb hts (fun w h => List.mem_cons_of_mem _ (List.mem_append_left _ (List.mem_append_right _ h))) hown hK hP 0 rfl rfl 9 (by decide) (hts (.fieldLink RX1 39 "PauseRegions$Heap" "roots" "[I") (List.mem_of_getElem? (i := 3) rfl)) (fun _ h9 => h9) rfl dX1_beginMarking_23 ?_
      refine lv_iload_n hx hb dX1_beginMarking_26 rfl (lv_at hl 0 rfl) ?_
      obtain ⟨h1, hst1⟩ := ck_some hst1
      refine va_iald (D := g.1) hx hb hK hP 10 0 rfl rfl h1 dX1_beginMarking_27 ?_
      obtain ⟨z2, hc2, hst1⟩ := bn_some hst1
      refine mcV (C := RX1) (As := [.int ((q1.2 9) q1.1.toNatClampNeg)]) (rest := []) ⟨hx, hb, hml, hown, hts⟩ hKK hP hD hS hZ (cwV 1 hts gX1_beginMarking_X1_becomeGrey rfl rfl rfl hdX1_becomeGrey ⟨Nat.le_of_ble_eq_true rfl, Nat.le_of_ble_eq_true rfl⟩) (kX1_becomeGrey (l := l) (g := g) (ad := ad) (A := q1.2) (F := F) hc2) (va_recv hK hP (ci := 1) (q0 := 0) rfl rfl) rfl hl.1 rfl (Nat.le_of_ble_eq_true rfl) dX1_beginMarking_28 ⟨Nat.zero_le _, Nat.zero_le _⟩ (fun H locs hP hD hS => ?_)
      have hP : va_P g.1 vwCl (wH g ad z2 F) H := hP
      have hD : va_D Z (wH g ad z2 F) := hD
      refine lv_iinc (v := q1.1 + 1) (lv' := [(1, .int (q1.1 + 1)), (0, .ref (ad 0))]) hx hb dX1_beginMarking_31 hl (k := 0) rfl rfl (by decide) rfl (fun ls hl => ?_)
      refine lv_goto (tgt := 15) hx hb dX1_beginMarking_34 (by decide) ?_
      exact hin1 H locs ls _ (Option.some.inj hst1).symm hP hD hS (lv_sub hl [0, 1] rfl)
def sX1_cardOfThing (A : IA) (p0 : Int32) : Option (Int32) :=
  ck p0 32 (ck p0 32 ((sX6_cardOf ((A 5) p0.toNatClampNeg) ((A 6) p0.toNatClampNeg)).bind fun x1 => some x1))
abbrev rmX1_cardOfThing : Room := { frames := 1, cells := 0, slots := 0, locals := 21 }
theorem hdX1_cardOfThing : yX1_cardOfThing.cls = RX1 ∧ yX1_cardOfThing.cls ≠ "java/lang/invoke/MethodHandle" ∧ yX1_cardOfThing.cls ≠ "java/lang/invoke/VarHandle" ∧ (parseMethodDescriptor yX1_cardOfThing.desc).map (fun d => d.parameters.length) = some 1 := by decide +kernel
set_option maxHeartbeats 4000000 in
set_option maxRecDepth 100000 in
theorem kX1_cardOfThing {l : Launch} {g : GG} {H0 : Heap} {ad : Nat → Nat} {A : IA} {F : FA} {p0 : Int32} {b : Int32} (hP : va_P g.1 vwCl (wH g ad A F) H0) (hsem : sX1_cardOfThing A p0 = some b) : MetP l yX1_cardOfThing wsX1_cardOfThing rmX1_cardOfThing g H0 [.ref (ad 0), .int p0] b := by
  refine Met.ofW (cc := cX1_cardOfThing) (maxL := 2) (ret := (some .int)) (by decide) rfl ?_
  intro p e s m args below meth c s₁ B hml hv
  obtain ⟨rfl, hH, hKK⟩ := hv
  subst hH
  have hx := B.exec
  have hb := B.bytes
  have hr := B.returns
  have hts := atoms_spec (ws := wsX1_cardOfThing) B.pre
  have hown : s.vm.findClass RX1 = some m.cls := findClass_of_methodNamed B.named
  have hlocks := B.notSynchronized
  have hK := hKK.1
  have hl := lv_entry ([.ref (ad 0), .int p0]) (n := 2) (Nat.le_of_ble_eq_true rfl)
  rw [lg_entry_eq]
  generalize (lg_sl ([.ref (ad 0), .int p0]) ++ List.replicate (2 - (lg_sl ([.ref (ad 0), .int p0])).length) Slot.unset).toArray = ls at hl ⊢
  have hl : lv_has ls 2 [(0, .ref (ad 0)), (1, .int p0)] := hl
  unfold sX1_cardOfThing at hsem
  refine lv_aload_n hx hb dX1_cardOfThing_0 rfl (lv_at hl 0 rfl) ?_
  refine va_get (D := g.1) (ci := 1) (v := .ref (ad 6)) (C := RX1) (T := TX1) (N := 18) hx hb hts (fun w h => List.mem_cons_of_mem _ (List.mem_append_right _ h)) hown hK hP 0 rfl rfl 5 (by decide) (hts (.fieldLink RX1 27 "PauseRegions$Heap" "place" "[I") (List.mem_of_getElem? (i := 1) rfl)) (fun _ h9 => h9) rfl dX1_cardOfThing_1 ?_
  refine lv_iload_n hx hb dX1_cardOfThing_4 rfl (lv_at hl 1 rfl) ?_
  obtain ⟨h1, hsem⟩ := ck_some hsem
  refine va_iald (D := g.1) hx hb hK hP 6 0 rfl rfl h1 dX1_cardOfThing_5 ?_
  refine lv_aload_n hx hb dX1_cardOfThing_6 rfl (lv_at hl 0 rfl) ?_
  refine va_get (D := g.1) (ci := 1) (v := .ref (ad 7)) (C := RX1) (T := TX1) (N := 18) hx hb hts (fun w h => List.mem_cons_of_mem _ (List.mem_append_right _ h)) hown hK hP 0 rfl rfl 6 (by decide) (hts (.fieldLink RX1 30 "PauseRegions$Heap" "cell" "[I") (List.mem_of_getElem? (i := 2) rfl)) (fun _ h9 => h9) rfl dX1_cardOfThing_7 ?_
  refine lv_iload_n hx hb dX1_cardOfThing_10 rfl (lv_at hl 1 rfl) ?_
  obtain ⟨h2, hsem⟩ := ck_some hsem
  refine va_iald (D := g.1) hx hb hK hP 7 0 rfl rfl h2 dX1_cardOfThing_11 ?_
  obtain ⟨x1, hc1, hsem⟩ := bn_some hsem
  refine pcN (As := [.int ((A 5) p0.toNatClampNeg), .int ((A 6) p0.toNatClampNeg)]) (rest := []) ⟨hx, hb, hml, hown, hts⟩ hKK ⟨va_cnB 2 hts gX1_cardOfThing_X6_cardOf_n129 rfl rfl rfl (hKK.2 4 _ rfl) (hts (.initialized RX6) (List.mem_of_getElem? (i := 4) rfl)) hdX6_cardOf ⟨Nat.le_of_ble_eq_true rfl, Nat.le_of_ble_eq_true rfl⟩, (hts (.static yX6_cardOf) (List.mem_of_getElem? (i := 3) rfl)), trivial⟩ (kX6_cardOf (l := l) (g := g) hc1) rfl hl.1 rfl (Nat.le_of_ble_eq_true rfl) dX1_cardOfThing_12 ⟨Nat.zero_le _, Nat.zero_le _⟩ ?_
  have eo := (Option.some.inj hsem).symm.symm
  exact W.iret (v := x1) hx hb hr (fun t ht hW => ⟨⟨_, (), rfl, eo, ht⟩, (va_S.rf (A := fun _ => False) (H0 := s.heap)).F ht⟩) (fun q hq => absurd hq List.not_mem_nil) dX1_cardOfThing_15
def sX1_fieldOf (A : IA) (p0 : Int32) (p1 : Int32) : Option (Int32) :=
  ck ((2 * p0) + p1) 64 (some ((A 7) ((2 * p0) + p1).toNatClampNeg))
abbrev rmX1_fieldOf : Room := { frames := 0, cells := 0, slots := 0, locals := 0 }
theorem hdX1_fieldOf : yX1_fieldOf.cls = RX1 ∧ yX1_fieldOf.cls ≠ "java/lang/invoke/MethodHandle" ∧ yX1_fieldOf.cls ≠ "java/lang/invoke/VarHandle" ∧ (parseMethodDescriptor yX1_fieldOf.desc).map (fun d => d.parameters.length) = some 2 := by decide +kernel
set_option maxHeartbeats 4000000 in
set_option maxRecDepth 100000 in
theorem kX1_fieldOf {l : Launch} {g : GG} {H0 : Heap} {ad : Nat → Nat} {A : IA} {F : FA} {p0 p1 : Int32} {b : Int32} (hP : va_P g.1 vwCl (wH g ad A F) H0) (hsem : sX1_fieldOf A p0 p1 = some b) : MetP l yX1_fieldOf wsX1_fieldOf rmX1_fieldOf g H0 [.ref (ad 0), .int p0, .int p1] b := by
  refine Met.ofW (cc := cX1_fieldOf) (maxL := 3) (ret := (some .int)) (by decide) rfl ?_
  intro p e s m args below meth c s₁ B hml hv
  obtain ⟨rfl, hH, hKK⟩ := hv
  subst hH
  have hx := B.exec
  have hb := B.bytes
  have hr := B.returns
  have hts := atoms_spec (ws := wsX1_fieldOf) B.pre
  have hown : s.vm.findClass RX1 = some m.cls := findClass_of_methodNamed B.named
  have hlocks := B.notSynchronized
  have hK := hKK.1
  have hl := lv_entry ([.ref (ad 0), .int p0, .int p1]) (n := 3) (Nat.le_of_ble_eq_true rfl)
  rw [lg_entry_eq]
  generalize (lg_sl ([.ref (ad 0), .int p0, .int p1]) ++ List.replicate (3 - (lg_sl ([.ref (ad 0), .int p0, .int p1])).length) Slot.unset).toArray = ls at hl ⊢
  have hl : lv_has ls 3 [(0, .ref (ad 0)), (1, .int p0), (2, .int p1)] := hl
  unfold sX1_fieldOf at hsem
  refine lv_aload_n hx hb dX1_fieldOf_0 rfl (lv_at hl 0 rfl) ?_
  refine va_get (D := g.1) (ci := 1) (v := .ref (ad 8)) (C := RX1) (T := TX1) (N := 18) hx hb hts (fun w h => List.mem_cons_of_mem _ (List.mem_append_right _ h)) hown hK hP 0 rfl rfl 7 (by decide) (hts (.fieldLink RX1 33 "PauseRegions$Heap" "fields" "[I") (List.mem_of_getElem? (i := 1) rfl)) (fun _ h9 => h9) rfl dX1_fieldOf_1 ?_
  refine lv_iconst (v := 2) hx hb dX1_fieldOf_4 (by decide) ?_
  refine lv_iload_n hx hb dX1_fieldOf_5 rfl (lv_at hl 1 rfl) ?_
  refine lv_imul hx hb dX1_fieldOf_6 ?_
  refine lv_iload_n hx hb dX1_fieldOf_7 rfl (lv_at hl 2 rfl) ?_
  refine lv_iadd hx hb dX1_fieldOf_8 ?_
  obtain ⟨h1, hsem⟩ := ck_some hsem
  refine va_iald (D := g.1) hx hb hK hP 8 0 rfl rfl h1 dX1_fieldOf_9 ?_
  have eo := (Option.some.inj hsem).symm.symm
  exact W.iret (v := (A 7) ((2 * p0) + p1).toNatClampNeg) hx hb hr (fun t ht hW => ⟨⟨_, (), rfl, eo, ht⟩, (va_S.rf (A := fun _ => False) (H0 := s.heap)).F ht⟩) (fun q hq => absurd hq List.not_mem_nil) dX1_fieldOf_10
def sX1_freeRow_L4 (A : IA) (p0 : Int32) (q1 : Int32 × Int32) : Option ((Int32 × Int32) ⊕ (Int32)) :=
  if 10 ≤ q1.2 then (some (.inr (-9))) else (ck q1.2 10 (if ((A 0) q1.2.toNatClampNeg) = 0 then (bd (q1.1 + 1) fun x1 => if x1 = p0 then (some (.inr ((q1.2 - p0) + 1))) else (some (.inl (x1, q1.2 + 1)))) else (if 0 = p0 then (some (.inr ((q1.2 - p0) + 1))) else (some (.inl (0, q1.2 + 1))))))
def sX1_freeRow (A : IA) (p0 : Int32) : Option (Int32) :=
  loopN (sX1_freeRow_L4 A p0) 2000 (0, 0)
abbrev rmX1_freeRow : Room := { frames := 0, cells := 0, slots := 0, locals := 0 }
theorem hdX1_freeRow : yX1_freeRow.cls = RX1 ∧ yX1_freeRow.cls ≠ "java/lang/invoke/MethodHandle" ∧ yX1_freeRow.cls ≠ "java/lang/invoke/VarHandle" ∧ (parseMethodDescriptor yX1_freeRow.desc).map (fun d => d.parameters.length) = some 1 := by decide +kernel
set_option maxHeartbeats 4000000 in
set_option maxRecDepth 100000 in
theorem kX1_freeRow {l : Launch} {g : GG} {H0 : Heap} {ad : Nat → Nat} {A : IA} {F : FA} {p0 : Int32} {b : Int32} (hP : va_P g.1 vwCl (wH g ad A F) H0) (hsem : sX1_freeRow A p0 = some b) : MetP l yX1_freeRow wsX1_freeRow rmX1_freeRow g H0 [.ref (ad 0), .int p0] b := by
  refine Met.ofW (cc := cX1_freeRow) (maxL := 4) (ret := (some .int)) (by decide) rfl ?_
  intro p e s m args below meth c s₁ B hml hv
  obtain ⟨rfl, hH, hKK⟩ := hv
  subst hH
  have hx := B.exec
  have hb := B.bytes
  have hr := B.returns
  have hts := atoms_spec (ws := wsX1_freeRow) B.pre
  have hown : s.vm.findClass RX1 = some m.cls := findClass_of_methodNamed B.named
  have hlocks := B.notSynchronized
  have hK := hKK.1
  have hl := lv_entry ([.ref (ad 0), .int p0]) (n := 4) (Nat.le_of_ble_eq_true rfl)
  rw [lg_entry_eq]
  generalize (lg_sl ([.ref (ad 0), .int p0]) ++ List.replicate (4 - (lg_sl ([.ref (ad 0), .int p0])).length) Slot.unset).toArray = ls at hl ⊢
  have hl : lv_has ls 4 [(0, .ref (ad 0)), (1, .int p0)] := hl
  unfold sX1_freeRow at hsem
  refine lv_iconst (v := 0) hx hb dX1_freeRow_0 (by decide) ?_
  refine lv_istore_n (lv' := [(2, .int 0), (0, .ref (ad 0)), (1, .int p0)]) hx hb dX1_freeRow_1 rfl hl (by decide) rfl (fun ls hl => ?_)
  refine lv_iconst (v := 0) hx hb dX1_freeRow_2 (by decide) ?_
  refine lv_istore_n (lv' := [(3, .int 0), (2, .int 0), (0, .ref (ad 0)), (1, .int p0)]) hx hb dX1_freeRow_3 rfl hl (by decide) rfl (fun ls hl => ?_)
  refine loopPe hsem (fun (q1 : Int32 × Int32) => [(3, .int q1.2), (2, .int q1.1), (0, .ref (ad 0)), (1, .int p0)]) (lv_sub hl [0, 1, 2, 3] rfl) (fun q1 r hst1 hin1 hout1 ls hl => ?_)
  unfold sX1_freeRow_L4 at hst1
  refine lv_iload_n hx hb dX1_freeRow_4 rfl (lv_at hl 0 rfl) ?_
  refine lv_bipush (v := 10) hx hb dX1_freeRow_5 (by decide) ?_
  refine lv_icmp_ge (tgt := 44) hx hb dX1_freeRow_7 (by decide) (fun c1 => ?_) (fun c1 => ?_)
  · rw [if_pos c1] at hst1
    refine lv_bipush (v := (-9)) hx hb dX1_freeRow_44 (by decide) ?_
    have eo := (hout1 _ (Option.some.inj hst1).symm).symm.symm
    exact W.iret (v := (-9)) hx hb hr (fun t ht hW => ⟨⟨_, (), rfl, eo, ht⟩, (va_S.rf (A := fun _ => False) (H0 := s.heap)).F ht⟩) (fun q hq => absurd hq List.not_mem_nil) dX1_freeRow_46
  · rw [if_neg c1] at hst1
    refine lv_aload_n hx hb dX1_freeRow_10 rfl (lv_at hl 2 rfl) ?_
    refine va_get (D := g.1) (ci := 1) (v := .ref (ad 1)) (C := RX1) (T := TX1) (N := 18) hx hb hts (fun w h => List.mem_cons_of_mem _ (List.mem_append_right _ h)) hown hK hP 0 rfl rfl 0 (by decide) (hts (.fieldLink RX1 9 "PauseRegions$Heap" "kind" "[I") (List.mem_of_getElem? (i := 1) rfl)) (fun _ h9 => h9) rfl dX1_freeRow_11 ?_
    refine lv_iload_n hx hb dX1_freeRow_14 rfl (lv_at hl 0 rfl) ?_
    obtain ⟨h1, hst1⟩ := ck_some hst1
    refine va_iald (D := g.1) hx hb hK hP 1 0 rfl rfl h1 dX1_freeRow_15 ?_
    refine lv_if_ne (tgt := 25) hx hb dX1_freeRow_16 (by decide) (fun c2 => ?_) (fun c2 => ?_)
    · rw [if_neg c2] at hst1
      refine lv_iconst (v := 0) hx hb dX1_freeRow_25 (by decide) ?_
      refine lv_istore_n (lv' := [(2, .int 0), (3, .int q1.2), (0, .ref (ad 0)), (1, .int p0)]) hx hb dX1_freeRow_26 rfl hl (by decide) rfl (fun ls hl => ?_)
      refine lv_iload_n hx hb dX1_freeRow_27 rfl (lv_at hl 0 rfl) ?_
      refine lv_iload_n hx hb dX1_freeRow_28 rfl (lv_at hl 3 rfl) ?_
      refine lv_icmp_ne (tgt := 38) hx hb dX1_freeRow_29 (by decide) (fun c3 => ?_) (fun c3 => ?_)
      · rw [if_neg c3] at hst1
        refine lv_iinc (v := q1.2 + 1) (lv' := [(3, .int (q1.2 + 1)), (2, .int 0), (0, .ref (ad 0)), (1, .int p0)]) hx hb dX1_freeRow_38 hl (k := 1) rfl rfl (by decide) rfl (fun ls hl => ?_)
        refine lv_goto (tgt := 4) hx hb dX1_freeRow_41 (by decide) ?_
        exact hin1 ls _ (Option.some.inj hst1).symm (lv_sub hl [0, 1, 2, 3] rfl)
      · rw [if_pos c3] at hst1
        refine lv_iload_n hx hb dX1_freeRow_32 rfl (lv_at hl 1 rfl) ?_
        refine lv_iload_n hx hb dX1_freeRow_33 rfl (lv_at hl 3 rfl) ?_
        refine lv_isub hx hb dX1_freeRow_34 ?_
        refine lv_iconst (v := 1) hx hb dX1_freeRow_35 (by decide) ?_
        refine lv_iadd hx hb dX1_freeRow_36 ?_
        have eo := (hout1 _ (Option.some.inj hst1).symm).symm.symm
        exact W.iret (v := (q1.2 - p0) + 1) hx hb hr (fun t ht hW => ⟨⟨_, (), rfl, eo, ht⟩, (va_S.rf (A := fun _ => False) (H0 := s.heap)).F ht⟩) (fun q hq => absurd hq List.not_mem_nil) dX1_freeRow_37
    · rw [if_pos c2] at hst1
      refine lv_iload_n hx hb dX1_freeRow_19 rfl (lv_at hl 1 rfl) ?_
      refine lv_iconst (v := 1) hx hb dX1_freeRow_20 (by decide) ?_
      refine lv_iadd hx hb dX1_freeRow_21 ?_
      refine lv_goto (tgt := 26) hx hb dX1_freeRow_22 (by decide) ?_
      obtain ⟨x1, ex1, hst1⟩ := bd_some hst1
      rw [← ex1]
      refine lv_istore_n (lv' := [(2, .int x1), (3, .int q1.2), (0, .ref (ad 0)), (1, .int p0)]) hx hb dX1_freeRow_26 rfl hl (by decide) rfl (fun ls hl => ?_)
      refine lv_iload_n hx hb dX1_freeRow_27 rfl (lv_at hl 0 rfl) ?_
      refine lv_iload_n hx hb dX1_freeRow_28 rfl (lv_at hl 3 rfl) ?_
      refine lv_icmp_ne (tgt := 38) hx hb dX1_freeRow_29 (by decide) (fun c4 => ?_) (fun c4 => ?_)
      · rw [if_neg c4] at hst1
        refine lv_iinc (v := q1.2 + 1) (lv' := [(3, .int (q1.2 + 1)), (2, .int x1), (0, .ref (ad 0)), (1, .int p0)]) hx hb dX1_freeRow_38 hl (k := 1) rfl rfl (by decide) rfl (fun ls hl => ?_)
        refine lv_goto (tgt := 4) hx hb dX1_freeRow_41 (by decide) ?_
        exact hin1 ls _ (Option.some.inj hst1).symm (lv_sub hl [0, 1, 2, 3] rfl)
      · rw [if_pos c4] at hst1
        refine lv_iload_n hx hb dX1_freeRow_32 rfl (lv_at hl 1 rfl) ?_
        refine lv_iload_n hx hb dX1_freeRow_33 rfl (lv_at hl 3 rfl) ?_
        refine lv_isub hx hb dX1_freeRow_34 ?_
        refine lv_iconst (v := 1) hx hb dX1_freeRow_35 (by decide) ?_
        refine lv_iadd hx hb dX1_freeRow_36 ?_
        have eo := (hout1 _ (Option.some.inj hst1).symm).symm.symm
        exact W.iret (v := (q1.2 - p0) + 1) hx hb hr (fun t ht hW => ⟨⟨_, (), rfl, eo, ht⟩, (va_S.rf (A := fun _ => False) (H0 := s.heap)).F ht⟩) (fun q hq => absurd hq List.not_mem_nil) dX1_freeRow_37
def sX1_hasRoom (A : IA) (p0 : Int32) (p1 : Int32) : Option (Int32) :=
  if p0 = (-9) then (some 0) else (ck p0 10 (if 8 < (((A 1) p0.toNatClampNeg) + p1) then (some 0) else (some 1)))
abbrev rmX1_hasRoom : Room := { frames := 0, cells := 0, slots := 0, locals := 0 }
theorem hdX1_hasRoom : yX1_hasRoom.cls = RX1 ∧ yX1_hasRoom.cls ≠ "java/lang/invoke/MethodHandle" ∧ yX1_hasRoom.cls ≠ "java/lang/invoke/VarHandle" ∧ (parseMethodDescriptor yX1_hasRoom.desc).map (fun d => d.parameters.length) = some 2 := by decide +kernel
set_option maxHeartbeats 4000000 in
set_option maxRecDepth 100000 in
theorem kX1_hasRoom {l : Launch} {g : GG} {H0 : Heap} {ad : Nat → Nat} {A : IA} {F : FA} {p0 p1 : Int32} {b : Int32} (hP : va_P g.1 vwCl (wH g ad A F) H0) (hsem : sX1_hasRoom A p0 p1 = some b) : MetP l yX1_hasRoom wsX1_hasRoom rmX1_hasRoom g H0 [.ref (ad 0), .int p0, .int p1] b := by
  refine Met.ofW (cc := cX1_hasRoom) (maxL := 3) (ret := (some .boolean)) (by decide) rfl ?_
  intro p e s m args below meth c s₁ B hml hv
  obtain ⟨rfl, hH, hKK⟩ := hv
  subst hH
  have hx := B.exec
  have hb := B.bytes
  have hr := B.returns
  have hts := atoms_spec (ws := wsX1_hasRoom) B.pre
  have hown : s.vm.findClass RX1 = some m.cls := findClass_of_methodNamed B.named
  have hlocks := B.notSynchronized
  have hK := hKK.1
  have hl := lv_entry ([.ref (ad 0), .int p0, .int p1]) (n := 3) (Nat.le_of_ble_eq_true rfl)
  rw [lg_entry_eq]
  generalize (lg_sl ([.ref (ad 0), .int p0, .int p1]) ++ List.replicate (3 - (lg_sl ([.ref (ad 0), .int p0, .int p1])).length) Slot.unset).toArray = ls at hl ⊢
  have hl : lv_has ls 3 [(0, .ref (ad 0)), (1, .int p0), (2, .int p1)] := hl
  unfold sX1_hasRoom at hsem
  refine lv_iload_n hx hb dX1_hasRoom_0 rfl (lv_at hl 1 rfl) ?_
  refine lv_bipush (v := (-9)) hx hb dX1_hasRoom_1 (by decide) ?_
  refine lv_icmp_eq (tgt := 23) hx hb dX1_hasRoom_3 (by decide) (fun c1 => ?_) (fun c1 => ?_)
  · rw [if_pos c1] at hsem
    refine lv_iconst (v := 0) hx hb dX1_hasRoom_23 (by decide) ?_
    have eo := (Option.some.inj hsem).symm.symm
    exact W.zret (v := 0) hx hb hr rfl (fun t ht hW => ⟨⟨_, (), rfl, eo, ht⟩, (va_S.rf (A := fun _ => False) (H0 := s.heap)).F ht⟩) (fun q hq => absurd hq List.not_mem_nil) dX1_hasRoom_24
  · rw [if_neg c1] at hsem
    refine lv_aload_n hx hb dX1_hasRoom_6 rfl (lv_at hl 0 rfl) ?_
    refine va_get (D := g.1) (ci := 1) (v := .ref (ad 2)) (C := RX1) (T := TX1) (N := 18) hx hb hts (fun w h => List.mem_cons_of_mem _ (List.mem_append_right _ h)) hown hK hP 0 rfl rfl 1 (by decide) (hts (.fieldLink RX1 15 "PauseRegions$Heap" "top" "[I") (List.mem_of_getElem? (i := 1) rfl)) (fun _ h9 => h9) rfl dX1_hasRoom_7 ?_
    refine lv_iload_n hx hb dX1_hasRoom_10 rfl (lv_at hl 1 rfl) ?_
    obtain ⟨h1, hsem⟩ := ck_some hsem
    refine va_iald (D := g.1) hx hb hK hP 2 0 rfl rfl h1 dX1_hasRoom_11 ?_
    refine lv_iload_n hx hb dX1_hasRoom_12 rfl (lv_at hl 2 rfl) ?_
    refine lv_iadd hx hb dX1_hasRoom_13 ?_
    refine lv_bipush (v := 8) hx hb dX1_hasRoom_14 (by decide) ?_
    refine lv_icmp_gt (tgt := 23) hx hb dX1_hasRoom_16 (by decide) (fun c2 => ?_) (fun c2 => ?_)
    · rw [if_pos c2] at hsem
      refine lv_iconst (v := 0) hx hb dX1_hasRoom_23 (by decide) ?_
      have eo := (Option.some.inj hsem).symm.symm
      exact W.zret (v := 0) hx hb hr rfl (fun t ht hW => ⟨⟨_, (), rfl, eo, ht⟩, (va_S.rf (A := fun _ => False) (H0 := s.heap)).F ht⟩) (fun q hq => absurd hq List.not_mem_nil) dX1_hasRoom_24
    · rw [if_neg c2] at hsem
      refine lv_iconst (v := 1) hx hb dX1_hasRoom_19 (by decide) ?_
      refine lv_goto (tgt := 24) hx hb dX1_hasRoom_20 (by decide) ?_
      have eo := (Option.some.inj hsem).symm.symm
      exact W.zret (v := 1) hx hb hr rfl (fun t ht hW => ⟨⟨_, (), rfl, eo, ht⟩, (va_S.rf (A := fun _ => False) (H0 := s.heap)).F ht⟩) (fun q hq => absurd hq List.not_mem_nil) dX1_hasRoom_24
def sX1_isOn (A : IA) (p0 : Int32) (p1 : Int32) : Option (Int32) :=
  (sX1_isThere A p0).bind fun x1 => if x1 = 0 then (some 0) else ((sX1_cardOfThing A p0).bind fun x2 => if x2 = p1 then (some 1) else (some 0))
abbrev rmX1_isOn : Room := { frames := 2, cells := 0, slots := 0, locals := 42 }
theorem hdX1_isOn : yX1_isOn.cls = RX1 ∧ yX1_isOn.cls ≠ "java/lang/invoke/MethodHandle" ∧ yX1_isOn.cls ≠ "java/lang/invoke/VarHandle" ∧ (parseMethodDescriptor yX1_isOn.desc).map (fun d => d.parameters.length) = some 2 := by decide +kernel
set_option maxHeartbeats 4000000 in
set_option maxRecDepth 100000 in
theorem kX1_isOn {l : Launch} {g : GG} {H0 : Heap} {ad : Nat → Nat} {A : IA} {F : FA} {p0 p1 : Int32} {b : Int32} (hP : va_P g.1 vwCl (wH g ad A F) H0) (hsem : sX1_isOn A p0 p1 = some b) : MetP l yX1_isOn wsX1_isOn rmX1_isOn g H0 [.ref (ad 0), .int p0, .int p1] b := by
  refine Met.ofW (cc := cX1_isOn) (maxL := 3) (ret := (some .boolean)) (by decide) rfl ?_
  intro p e s m args below meth c s₁ B hml hv
  obtain ⟨rfl, hH, hKK⟩ := hv
  subst hH
  have hx := B.exec
  have hb := B.bytes
  have hr := B.returns
  have hts := atoms_spec (ws := wsX1_isOn) B.pre
  have hown : s.vm.findClass RX1 = some m.cls := findClass_of_methodNamed B.named
  have hlocks := B.notSynchronized
  have hK := hKK.1
  have hl := lv_entry ([.ref (ad 0), .int p0, .int p1]) (n := 3) (Nat.le_of_ble_eq_true rfl)
  rw [lg_entry_eq]
  generalize (lg_sl ([.ref (ad 0), .int p0, .int p1]) ++ List.replicate (3 - (lg_sl ([.ref (ad 0), .int p0, .int p1])).length) Slot.unset).toArray = ls at hl ⊢
  have hl : lv_has ls 3 [(0, .ref (ad 0)), (1, .int p0), (2, .int p1)] := hl
  unfold sX1_isOn at hsem
  refine lv_aload_n hx hb dX1_isOn_0 rfl (lv_at hl 0 rfl) ?_
  refine lv_iload_n hx hb dX1_isOn_1 rfl (lv_at hl 1 rfl) ?_
  obtain ⟨x1, hc1, hsem⟩ := bn_some hsem
  refine pcV (C := RX1) (As := [.int p0]) (rest := []) ⟨hx, hb, hml, hown, hts⟩ hKK (cwV 1 hts gX1_isOn_X1_isThere rfl rfl rfl hdX1_isThere ⟨Nat.le_of_ble_eq_true rfl, Nat.le_of_ble_eq_true rfl⟩) (kX1_isThere (l := l) (g := g) hP hc1) (va_recv hK hP (ci := 1) (q0 := 0) rfl rfl) rfl hl.1 rfl (Nat.le_of_ble_eq_true rfl) dX1_isOn_2 ⟨Nat.zero_le _, Nat.zero_le _⟩ ?_
  refine lv_if_eq (tgt := 21) hx hb dX1_isOn_5 (by decide) (fun c1 => ?_) (fun c1 => ?_)
  · rw [if_pos c1] at hsem
    refine lv_iconst (v := 0) hx hb dX1_isOn_21 (by decide) ?_
    have eo := (Option.some.inj hsem).symm.symm
    exact W.zret (v := 0) hx hb hr rfl (fun t ht hW => ⟨⟨_, (), rfl, eo, ht⟩, (va_S.rf (A := fun _ => False) (H0 := s.heap)).F ht⟩) (fun q hq => absurd hq List.not_mem_nil) dX1_isOn_22
  · rw [if_neg c1] at hsem
    refine lv_aload_n hx hb dX1_isOn_8 rfl (lv_at hl 0 rfl) ?_
    refine lv_iload_n hx hb dX1_isOn_9 rfl (lv_at hl 1 rfl) ?_
    obtain ⟨x2, hc2, hsem⟩ := bn_some hsem
    refine pcV (C := RX1) (As := [.int p0]) (rest := []) ⟨hx, hb, hml, hown, hts⟩ hKK (cwV 1 hts gX1_isOn_X1_cardOfThing rfl rfl rfl hdX1_cardOfThing ⟨Nat.le_of_ble_eq_true rfl, Nat.le_of_ble_eq_true rfl⟩) (kX1_cardOfThing (l := l) (g := g) hP hc2) (va_recv hK hP (ci := 1) (q0 := 0) rfl rfl) rfl hl.1 rfl (Nat.le_of_ble_eq_true rfl) dX1_isOn_10 ⟨Nat.zero_le _, Nat.zero_le _⟩ ?_
    refine lv_iload_n hx hb dX1_isOn_13 rfl (lv_at hl 2 rfl) ?_
    refine lv_icmp_ne (tgt := 21) hx hb dX1_isOn_14 (by decide) (fun c2 => ?_) (fun c2 => ?_)
    · rw [if_neg c2] at hsem
      refine lv_iconst (v := 0) hx hb dX1_isOn_21 (by decide) ?_
      have eo := (Option.some.inj hsem).symm.symm
      exact W.zret (v := 0) hx hb hr rfl (fun t ht hW => ⟨⟨_, (), rfl, eo, ht⟩, (va_S.rf (A := fun _ => False) (H0 := s.heap)).F ht⟩) (fun q hq => absurd hq List.not_mem_nil) dX1_isOn_22
    · rw [if_pos c2] at hsem
      refine lv_iconst (v := 1) hx hb dX1_isOn_17 (by decide) ?_
      refine lv_goto (tgt := 22) hx hb dX1_isOn_18 (by decide) ?_
      have eo := (Option.some.inj hsem).symm.symm
      exact W.zret (v := 1) hx hb hr rfl (fun t ht hW => ⟨⟨_, (), rfl, eo, ht⟩, (va_S.rf (A := fun _ => False) (H0 := s.heap)).F ht⟩) (fun q hq => absurd hq List.not_mem_nil) dX1_isOn_22
def sX1_layAtTop (A : IA) (p0 : Int32) (p1 : Int32) : Option (IA) :=
  ck p0 32 (bd (wr A 5 p0.toNatClampNeg p1) fun A1 => ck p1 10 (ck p0 32 (bd (wr A1 6 p0.toNatClampNeg ((A1 1) p1.toNatClampNeg)) fun A2 => ck p1 10 (ck p0 32 (ck p1 10 (bd (wr A2 1 p1.toNatClampNeg (((A2 1) p1.toNatClampNeg) + ((A2 4) p0.toNatClampNeg))) fun A3 => some A3))))))
abbrev rmX1_layAtTop : Room := { frames := 0, cells := 0, slots := 0, locals := 0 }
theorem hdX1_layAtTop : yX1_layAtTop.cls = RX1 ∧ yX1_layAtTop.cls ≠ "java/lang/invoke/MethodHandle" ∧ yX1_layAtTop.cls ≠ "java/lang/invoke/VarHandle" ∧ (parseMethodDescriptor yX1_layAtTop.desc).map (fun d => d.parameters.length) = some 2 := by decide +kernel
set_option maxHeartbeats 4000000 in
set_option maxRecDepth 100000 in
theorem kX1_layAtTop {l : Launch} {g : GG} {sz : Nat} {ad : Nat → Nat} {A : IA} {F : FA} {p0 p1 : Int32} {b : IA} (hsem : sX1_layAtTop A p0 p1 = some b) : MetV l yX1_layAtTop wsX1_layAtTop rmX1_layAtTop g [.ref (ad 0), .int p0, .int p1] (wH g ad A F) sz (wH g ad b F) := by
  refine Met.ofW (cc := cX1_layAtTop) (maxL := 3) (ret := none) (by decide) rfl ?_
  intro p e s m args below meth c s₁ B hml hv
  obtain ⟨rfl, hsz, hP, hD0, hKK⟩ := hv
  subst hsz
  have hx := B.exec
  have hb := B.bytes
  have hr := B.returns
  have hts := atoms_spec (ws := wsX1_layAtTop) B.pre
  have hown : s.vm.findClass RX1 = some m.cls := findClass_of_methodNamed B.named
  have hlocks := B.notSynchronized
  have hK := hKK.1
  have hD := hD0.self (sz := s.heap.size)
  generalize hZe : va_A (wH g ad A F) s.heap.size = Z at hD ⊢
  have hZ : ∀ q : Nat, s.heap.size ≤ q → Z q := fun q h => by rw [← hZe]; exact Or.inr h
  have hS : va_S Z s.heap s.heap [] := va_S.rf
  have hP : va_P g.1 vwCl (wH g ad A F) s.heap := hP
  have hD : va_D Z (wH g ad A F) := hD
  have hl := lv_entry ([.ref (ad 0), .int p0, .int p1]) (n := 3) (Nat.le_of_ble_eq_true rfl)
  rw [lg_entry_eq]
  generalize (lg_sl ([.ref (ad 0), .int p0, .int p1]) ++ List.replicate (3 - (lg_sl ([.ref (ad 0), .int p0, .int p1])).length) Slot.unset).toArray = ls at hl ⊢
  have hl : lv_has ls 3 [(0, .ref (ad 0)), (1, .int p0), (2, .int p1)] := hl
  unfold sX1_layAtTop at hsem
  refine lv_aload_n hx hb dX1_layAtTop_0 rfl (lv_at hl 0 rfl) ?_
  refine va_get (D := g.1) (ci := 1) (v := .ref (ad 6)) (C := RX1) (T := TX1) (N := 18) hx hb hts (fun w h => List.mem_cons_of_mem _ (List.mem_append_right _ h)) hown hK hP 0 rfl rfl 5 (by decide) (hts (.fieldLink RX1 27 "PauseRegions$Heap" "place" "[I") (List.mem_of_getElem? (i := 1) rfl)) (fun _ h9 => h9) rfl dX1_layAtTop_1 ?_
  refine lv_iload_n hx hb dX1_layAtTop_4 rfl (lv_at hl 1 rfl) ?_
  refine lv_iload_n hx hb dX1_layAtTop_5 rfl (lv_at hl 2 rfl) ?_
  obtain ⟨h1, hsem⟩ := ck_some hsem
  refine va_iast (D := g.1) hx hb hK hP hD hS 6 0 rfl rfl h1 dX1_layAtTop_6 (fun H locs hP hD hS => ?_)
  obtain ⟨A1, eA1, hsem⟩ := bd_some hsem
  have hP : va_P g.1 vwCl (wH g ad A1 F) H := by rw [eA1]; exact hP
  have hD : va_D Z (wH g ad A1 F) := by rw [eA1]; exact hD
  refine lv_aload_n hx hb dX1_layAtTop_7 rfl (lv_at hl 0 rfl) ?_
  refine va_get (D := g.1) (ci := 1) (v := .ref (ad 7)) (C := RX1) (T := TX1) (N := 18) hx hb hts (fun w h => List.mem_cons_of_mem _ (List.mem_append_right _ h)) hown hK hP 0 rfl rfl 6 (by decide) (hts (.fieldLink RX1 30 "PauseRegions$Heap" "cell" "[I") (List.mem_of_getElem? (i := 2) rfl)) (fun _ h9 => h9) rfl dX1_layAtTop_8 ?_
  refine lv_iload_n hx hb dX1_layAtTop_11 rfl (lv_at hl 1 rfl) ?_
  refine lv_aload_n hx hb dX1_layAtTop_12 rfl (lv_at hl 0 rfl) ?_
  refine va_get (D := g.1) (ci := 1) (v := .ref (ad 2)) (C := RX1) (T := TX1) (N := 18) hx hb hts (fun w h => List.mem_cons_of_mem _ (List.mem_append_right _ h)) hown hK hP 0 rfl rfl 1 (by decide) (hts (.fieldLink RX1 15 "PauseRegions$Heap" "top" "[I") (List.mem_of_getElem? (i := 3) rfl)) (fun _ h9 => h9) rfl dX1_layAtTop_13 ?_
  refine lv_iload_n hx hb dX1_layAtTop_16 rfl (lv_at hl 2 rfl) ?_
  obtain ⟨h2, hsem⟩ := ck_some hsem
  refine va_iald (D := g.1) hx hb hK hP 2 0 rfl rfl h2 dX1_layAtTop_17 ?_
  obtain ⟨h3, hsem⟩ := ck_some hsem
  refine va_iast (D := g.1) hx hb hK hP hD hS 7 0 rfl rfl h3 dX1_layAtTop_18 (fun H locs hP hD hS => ?_)
  obtain ⟨A2, eA2, hsem⟩ := bd_some hsem
  have hP : va_P g.1 vwCl (wH g ad A2 F) H := by rw [eA2]; exact hP
  have hD : va_D Z (wH g ad A2 F) := by rw [eA2]; exact hD
  refine lv_aload_n hx hb dX1_layAtTop_19 rfl (lv_at hl 0 rfl) ?_
  refine va_get (D := g.1) (ci := 1) (v := .ref (ad 2)) (C := RX1) (T := TX1) (N := 18) hx hb hts (fun w h => List.mem_cons_of_mem _ (List.mem_append_right _ h)) hown hK hP 0 rfl rfl 1 (by decide) (hts (.fieldLink RX1 15 "PauseRegions$Heap" "top" "[I") (List.mem_of_getElem? (i := 3) rfl)) (fun _ h9 => h9) rfl dX1_layAtTop_20 ?_
  refine lv_iload_n hx hb dX1_layAtTop_23 rfl (lv_at hl 2 rfl) ?_
  refine lv_dup2_11 hx hb dX1_layAtTop_24 rfl rfl ?_
  obtain ⟨h4, hsem⟩ := ck_some hsem
  refine va_iald (D := g.1) hx hb hK hP 2 0 rfl rfl h4 dX1_layAtTop_25 ?_
  refine lv_aload_n hx hb dX1_layAtTop_26 rfl (lv_at hl 0 rfl) ?_
  refine va_get (D := g.1) (ci := 1) (v := .ref (ad 5)) (C := RX1) (T := TX1) (N := 18) hx hb hts (fun w h => List.mem_cons_of_mem _ (List.mem_append_right _ h)) hown hK hP 0 rfl rfl 4 (by decide) (hts (.fieldLink RX1 24 "PauseRegions$Heap" "size" "[I") (List.mem_of_getElem? (i := 4) rfl)) (fun _ h9 => h9) rfl dX1_layAtTop_27 ?_
  refine lv_iload_n hx hb dX1_layAtTop_30 rfl (lv_at hl 1 rfl) ?_
  obtain ⟨h5, hsem⟩ := ck_some hsem
  refine va_iald (D := g.1) hx hb hK hP 5 0 rfl rfl h5 dX1_layAtTop_31 ?_
  refine lv_iadd hx hb dX1_layAtTop_32 ?_
  obtain ⟨h6, hsem⟩ := ck_some hsem
  refine va_iast (D := g.1) hx hb hK hP hD hS 2 0 rfl rfl h6 dX1_layAtTop_33 (fun H locs hP hD hS => ?_)
  obtain ⟨A3, eA3, hsem⟩ := bd_some hsem
  have hP : va_P g.1 vwCl (wH g ad A3 F) H := by rw [eA3]; exact hP
  have hD : va_D Z (wH g ad A3 F) := by rw [eA3]; exact hD
  have eo := (Option.some.inj hsem).symm.symm
  subst eo
  exact W.vret hx hb hr (fun t ht hW => ⟨⟨(), rfl, trivial, ⟨by rw [ht]; exact hP, hD⟩⟩, hS.F ht⟩) hS.2.2 dX1_layAtTop_34
def sX1_regionsFor (A : IA) (p0 : Int32) : Option (Int32) :=
  some (((p0 + 8) - 1) / 8)
abbrev rmX1_regionsFor : Room := { frames := 0, cells := 0, slots := 0, locals := 0 }
theorem hdX1_regionsFor : yX1_regionsFor.cls = RX1 ∧ yX1_regionsFor.cls ≠ "java/lang/invoke/MethodHandle" ∧ yX1_regionsFor.cls ≠ "java/lang/invoke/VarHandle" ∧ (parseMethodDescriptor yX1_regionsFor.desc).map (fun d => d.parameters.length) = some 1 := by decide +kernel
set_option maxHeartbeats 4000000 in
set_option maxRecDepth 100000 in
theorem kX1_regionsFor {l : Launch} {g : GG} {H0 : Heap} {ad : Nat → Nat} {A : IA} {F : FA} {p0 : Int32} {b : Int32} (hP : va_P g.1 vwCl (wH g ad A F) H0) (hsem : sX1_regionsFor A p0 = some b) : MetP l yX1_regionsFor wsX1_regionsFor rmX1_regionsFor g H0 [.ref (ad 0), .int p0] b := by
  refine Met.ofW (cc := cX1_regionsFor) (maxL := 2) (ret := (some .int)) (by decide) rfl ?_
  intro p e s m args below meth c s₁ B hml hv
  obtain ⟨rfl, hH, hKK⟩ := hv
  subst hH
  have hx := B.exec
  have hb := B.bytes
  have hr := B.returns
  have hts := atoms_spec (ws := wsX1_regionsFor) B.pre
  have hown : s.vm.findClass RX1 = some m.cls := findClass_of_methodNamed B.named
  have hlocks := B.notSynchronized
  have hK := hKK.1
  have hl := lv_entry ([.ref (ad 0), .int p0]) (n := 2) (Nat.le_of_ble_eq_true rfl)
  rw [lg_entry_eq]
  generalize (lg_sl ([.ref (ad 0), .int p0]) ++ List.replicate (2 - (lg_sl ([.ref (ad 0), .int p0])).length) Slot.unset).toArray = ls at hl ⊢
  have hl : lv_has ls 2 [(0, .ref (ad 0)), (1, .int p0)] := hl
  unfold sX1_regionsFor at hsem
  refine lv_iload_n hx hb dX1_regionsFor_0 rfl (lv_at hl 1 rfl) ?_
  refine lv_bipush (v := 8) hx hb dX1_regionsFor_1 (by decide) ?_
  refine lv_iadd hx hb dX1_regionsFor_3 ?_
  refine lv_iconst (v := 1) hx hb dX1_regionsFor_4 (by decide) ?_
  refine lv_isub hx hb dX1_regionsFor_5 ?_
  refine lv_bipush (v := 8) hx hb dX1_regionsFor_6 (by decide) ?_
  refine lv_idiv hx hb dX1_regionsFor_8 (by decide) ?_
  have eo := (Option.some.inj hsem).symm.symm
  exact W.iret (v := ((p0 + 8) - 1) / 8) hx hb hr (fun t ht hW => ⟨⟨_, (), rfl, eo, ht⟩, (va_S.rf (A := fun _ => False) (H0 := s.heap)).F ht⟩) (fun q hq => absurd hq List.not_mem_nil) dX1_regionsFor_9
def sX1_takeRegions_L2 (p0 : Int32) (p1 : Int32) (q1 : Int32 × IA) : Option ((Int32 × IA) ⊕ (IA)) :=
  if (p0 + p1) ≤ q1.1 then (some (.inr q1.2)) else (if 10 ≤ q1.1 then (some (.inr q1.2)) else (if q1.1 = p0 then (ck q1.1 10 (bd (wr q1.2 0 q1.1.toNatClampNeg 3) fun A3 => ck q1.1 10 (bd (wr A3 1 q1.1.toNatClampNeg 8) fun A4 => some (.inl (q1.1 + 1, A4))))) else (ck q1.1 10 (bd (wr q1.2 0 q1.1.toNatClampNeg 4) fun A1 => ck q1.1 10 (bd (wr A1 1 q1.1.toNatClampNeg 8) fun A2 => some (.inl (q1.1 + 1, A2)))))))
def sX1_takeRegions (A : IA) (p0 : Int32) (p1 : Int32) : Option (IA) :=
  (loopN (sX1_takeRegions_L2 p0 p1) 2000 (p0, A)).bind fun q2 => some q2
abbrev rmX1_takeRegions : Room := { frames := 0, cells := 0, slots := 0, locals := 0 }
theorem hdX1_takeRegions : yX1_takeRegions.cls = RX1 ∧ yX1_takeRegions.cls ≠ "java/lang/invoke/MethodHandle" ∧ yX1_takeRegions.cls ≠ "java/lang/invoke/VarHandle" ∧ (parseMethodDescriptor yX1_takeRegions.desc).map (fun d => d.parameters.length) = some 2 := by decide +kernel
set_option maxHeartbeats 4000000 in
set_option maxRecDepth 100000 in
theorem kX1_takeRegions {l : Launch} {g : GG} {sz : Nat} {ad : Nat → Nat} {A : IA} {F : FA} {p0 p1 : Int32} {b : IA} (hsem : sX1_takeRegions A p0 p1 = some b) : MetV l yX1_takeRegions wsX1_takeRegions rmX1_takeRegions g [.ref (ad 0), .int p0, .int p1] (wH g ad A F) sz (wH g ad b F) := by
  refine Met.ofW (cc := cX1_takeRegions) (maxL := 4) (ret := none) (by decide) rfl ?_
  intro p e s m args below meth c s₁ B hml hv
  obtain ⟨rfl, hsz, hP, hD0, hKK⟩ := hv
  subst hsz
  have hx := B.exec
  have hb := B.bytes
  have hr := B.returns
  have hts := atoms_spec (ws := wsX1_takeRegions) B.pre
  have hown : s.vm.findClass RX1 = some m.cls := findClass_of_methodNamed B.named
  have hlocks := B.notSynchronized
  have hK := hKK.1
  have hD := hD0.self (sz := s.heap.size)
  generalize hZe : va_A (wH g ad A F) s.heap.size = Z at hD ⊢
  have hZ : ∀ q : Nat, s.heap.size ≤ q → Z q := fun q h => by rw [← hZe]; exact Or.inr h
  have hS : va_S Z s.heap s.heap [] := va_S.rf
  have hP : va_P g.1 vwCl (wH g ad A F) s.heap := hP
  have hD : va_D Z (wH g ad A F) := hD
  have hl := lv_entry ([.ref (ad 0), .int p0, .int p1]) (n := 4) (Nat.le_of_ble_eq_true rfl)
  rw [lg_entry_eq]
  generalize (lg_sl ([.ref (ad 0), .int p0, .int p1]) ++ List.replicate (4 - (lg_sl ([.ref (ad 0), .int p0, .int p1])).length) Slot.unset).toArray = ls at hl ⊢
  have hl : lv_has ls 4 [(0, .ref (ad 0)), (1, .int p0), (2, .int p1)] := hl
  unfold sX1_takeRegions at hsem
  refine lv_iload_n hx hb dX1_takeRegions_0 rfl (lv_at hl 1 rfl) ?_
  refine lv_istore_n (lv' := [(3, .int p0), (0, .ref (ad 0)), (1, .int p0), (2, .int p1)]) hx hb dX1_takeRegions_1 rfl hl (by decide) rfl (fun ls hl => ?_)
  obtain ⟨q2, hc1, hsem⟩ := bn_some hsem
  refine loopM (g := g) hc1 (fun (q1 : Int32 × IA) => [(3, .int q1.1), (0, .ref (ad 0)), (1, .int p0), (2, .int p1)]) (fun (q1 : IA) => []) (exit := 45) (fun (q1 : Int32 × IA) => wH g ad q1.2 F) (fun (q1 : IA) => wH g ad q1 F) hP hD hS (lv_sub hl [0, 1, 2, 3] rfl) (fun H locs ls hP hD hS hl => ?_) (fun q1 r hst1 hin1 hout1 H locs ls hP hD hS hl => ?_)
  · have hP : va_P g.1 vwCl (wH g ad q2 F) H := hP
    have hD : va_D Z (wH g ad q2 F) := hD
    have eo := (Option.some.inj hsem).symm.symm
    subst eo
    exact W.vret hx hb hr (fun t ht hW => ⟨⟨(), rfl, trivial, ⟨by rw [ht]; exact hP, hD⟩⟩, hS.F ht⟩) hS.2.2 dX1_takeRegions_45
  · unfold sX1_takeRegions_L2 at hst1
    have hP : va_P g.1 vwCl (wH g ad q1.2 F) H := hP
    have hD : va_D Z (wH g ad q1.2 F) := hD
    refine lv_iload_n hx hb dX1_takeRegions_2 rfl (lv_at hl 0 rfl) ?_
    refine lv_iload_n hx hb dX1_takeRegions_3 rfl (lv_at hl 2 rfl) ?_
    refine lv_iload_n hx hb dX1_takeRegions_4 rfl (lv_at hl 3 rfl) ?_
    refine lv_iadd hx hb dX1_takeRegions_5 ?_
    refine lv_icmp_ge (tgt := 45) hx hb dX1_takeRegions_6 (by decide) (fun c1 => ?_) (fun c1 => ?_)
    · rw [if_pos c1] at hst1
      exact hout1 H locs ls _ (Option.some.inj hst1).symm hP hD hS (lv_sub hl [] rfl)
    · rw [if_neg c1] at hst1
      refine lv_iload_n hx hb dX1_takeRegions_9 rfl (lv_at hl 0 rfl) ?_
      refine lv_bipush (v := 10) hx hb dX1_takeRegions_10 (by decide) ?_
      refine lv_icmp_ge (tgt := 45) hx hb dX1_takeRegions_12 (by decide) (fun c2 => ?_) (fun c2 => ?_)
      · rw [if_pos c2] at hst1
        exact hout1 H locs ls _ (Option.some.inj hst1).symm hP hD hS (lv_sub hl [] rfl)
      · rw [if_neg c2] at hst1
        refine lv_aload_n hx hb dX1_takeRegions_15 rfl (lv_at hl 1 rfl) ?_
        refine va_get (D := g.1) (ci := 1) (v := .ref (ad 1)) (C := RX1) (T := TX1) (N := 18) hx hb hts (fun w h => List.mem_cons_of_mem _ (List.mem_append_right _ h)) hown hK hP 0 rfl rfl 0 (by decide) (hts (.fieldLink RX1 9 "PauseRegions$Heap" "kind" "[I") (List.mem_of_getElem? (i := 1) rfl)) (fun _ h9 => h9) rfl dX1_takeRegions_16 ?_
        refine lv_iload_n hx hb dX1_takeRegions_19 rfl (lv_at hl 0 rfl) ?_
        refine lv_iload_n hx hb dX1_takeRegions_20 rfl (lv_at hl 0 rfl) ?_
        refine lv_iload_n hx hb dX1_takeRegions_21 rfl (lv_at hl 2 rfl) ?_
        refine lv_icmp_ne (tgt := 29) hx hb dX1_takeRegions_22 (by decide) (fun c3 => ?_) (fun c3 => ?_)
        · rw [if_neg c3] at hst1
          refine lv_iconst (v := 4) hx hb dX1_takeRegions_29 (by decide) ?_
          obtain ⟨h1, hst1⟩ := ck_some hst1
          refine va_iast (D := g.1) hx hb hK hP hD hS 1 0 rfl rfl h1 dX1_takeRegions_30 (fun H locs hP hD hS => ?_)
          obtain ⟨A1, eA1, hst1⟩ := bd_some hst1
          have hP : va_P g.1 vwCl (wH g ad A1 F) H := by rw [eA1]; exact hP
          have hD : va_D Z (wH g ad A1 F) := by rw [eA1]; exact hD
          refine lv_aload_n hx hb dX1_takeRegions_31 rfl (lv_at hl 1 rfl) ?_
          refine va_get (D := g.1) (ci := 1) (v := .ref (ad 2)) (C := RX1) (T := TX1) (N := 18) hx hb hts (fun w h => List.mem_cons_of_mem _ (List.mem_append_right _ h)) hown hK hP 0 rfl rfl 1 (by decide) (hts (.fieldLink RX1 15 "PauseRegions$Heap" "top" "[I") (List.mem_of_getElem? (i := 2) rfl)) (fun _ h9 => h9) rfl dX1_takeRegions_32 ?_
          refine lv_iload_n hx hb dX1_takeRegions_35 rfl (lv_at hl 0 rfl) ?_
          refine lv_bipush (v := 8) hx hb dX1_takeRegions_36 (by decide) ?_
          obtain ⟨h2, hst1⟩ := ck_some hst1
          refine va_iast (D := g.1) hx hb hK hP hD hS 2 0 rfl rfl h2 dX1_takeRegions_38 (fun H locs hP hD hS => ?_)
          obtain ⟨A2, eA2, hst1⟩ := bd_some hst1
          have hP : va_P g.1 vwCl (wH g ad A2 F) H := by rw [eA2]; exact hP
          have hD : va_D Z (wH g ad A2 F) := by rw [eA2]; exact hD
          refine lv_iinc (v := q1.1 + 1) (lv' := [(3, .int (q1.1 + 1)), (0, .ref (ad 0)), (1, .int p0), (2, .int p1)]) hx hb dX1_takeRegions_39 hl (k := 0) rfl rfl (by decide) rfl (fun ls hl => ?_)
          refine lv_goto (tgt := 2) hx hb dX1_takeRegions_42 (by decide) ?_
          exact hin1 H locs ls _ (Option.some.inj hst1).symm hP hD hS (lv_sub hl [0, 1, 2, 3] rfl)
        · rw [if_pos c3] at hst1
          refine lv_iconst (v := 3) hx hb dX1_takeRegions_25 (by decide) ?_
          refine lv_goto (tgt := 30) hx hb dX1_takeRegions_26 (by decide) ?_
          obtain ⟨h3, hst1⟩ := ck_some hst1
          refine va_iast (D := g.1) hx hb hK hP hD hS 1 0 rfl rfl h3 dX1_takeRegions_30 (fun H locs hP hD hS => ?_)
          obtain ⟨A3, eA3, hst1⟩ := bd_some hst1
          have hP : va_P g.1 vwCl (wH g ad A3 F) H := by rw [eA3]; exact hP
          have hD : va_D Z (wH g ad A3 F) := by rw [eA3]; exact hD
          refine lv_aload_n hx hb dX1_takeRegions_31 rfl (lv_at hl 1 rfl) ?_
          refine va_get (D := g.1) (ci := 1) (v := .ref (ad 2)) (C := RX1) (T := TX1) (N := 18) hx hb hts (fun w h => List.mem_cons_of_mem _ (List.mem_append_right _ h)) hown hK hP 0 rfl rfl 1 (by decide) (hts (.fieldLink RX1 15 "PauseRegions$Heap" "top" "[I") (List.mem_of_getElem? (i := 2) rfl)) (fun _ h9 => h9) rfl dX1_takeRegions_32 ?_
          refine lv_iload_n hx hb dX1_takeRegions_35 rfl (lv_at hl 0 rfl) ?_
          refine lv_bipush (v := 8) hx hb dX1_takeRegions_36 (by decide) ?_
          obtain ⟨h4, hst1⟩ := ck_some hst1
          refine va_iast (D := g.1) hx hb hK hP hD hS 2 0 rfl rfl h4 dX1_takeRegions_38 (fun H locs hP hD hS => ?_)
          obtain ⟨A4, eA4, hst1⟩ := bd_some hst1
          have hP : va_P g.1 vwCl (wH g ad A4 F) H := by rw [eA4]; exact hP
          have hD : va_D Z (wH g ad A4 F) := by rw [eA4]; exact hD
          refine lv_iinc (v := q1.1 + 1) (lv' := [(3, .int (q1.1 + 1)), (0, .ref (ad 0)), (1, .int p0), (2, .int p1)]) hx hb dX1_takeRegions_39 hl (k := 0) rfl rfl (by decide) rfl (fun ls hl => ?_)
          refine lv_goto (tgt := 2) hx hb dX1_takeRegions_42 (by decide) ?_
          exact hin1 H locs ls _ (Option.some.inj hst1).symm hP hD hS (lv_sub hl [0, 1, 2, 3] rfl)
